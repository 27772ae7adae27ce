/-! rows s1 .. s12 -/
theorem mv_si_si (σ : mv_H) (o k : Nat) (a b : Int32) : mv_si (mv_si σ o k a) o k b = mv_si σ o k b := by
  unfold mv_si
  refine Prod.ext ?_ rfl
  funext o' k'
  show mv_u (mv_u σ.1 o k a) o k b o' k' = mv_u σ.1 o k b o' k'
  unfold mv_u
  by_cases h : o' = o ∧ k' = k
  · rw [if_pos h, if_pos h]
  · rw [if_neg h, if_neg h, if_neg h]
/-- the text of n characters: its row, as naturals below 256; 256 behind the end -/
def ck (h : mv_H) (n p : Nat) : Nat := if p < n then ((mv_a h 71 p) &&& 255).toNatClampNeg else 256
theorem xand255 (x : Int32) : 0 ≤ (x &&& 255).toInt ∧ (x &&& 255).toInt < 256 := by
  have e := pk_and x (m := 255) 8 (by decide)
  have h1 := Nat.mod_lt x.toBitVec.toNat (show 0 < 2 ^ 8 by decide)
  rw [e, nI_toInt (by omega)]
  omega
/-- what look answers -/
theorem look_e {P n : Nat} {h : mv_H} (hn : (mv_i h P 2).toInt = n) (hn2 : n ≤ 32768) {a : Int32} {p : Nat} (ha : a.toInt = p) : f_Book_look P h a = some (if p < n then nI (ck h n p) else -1, h) := by
  unfold f_Book_look
  by_cases e : p < n
  · have hx : ¬ mv_i h P 2 ≤ a := by rw [Int32.le_iff_toInt_le]; omega
    have ec := i32_cl (x := a) (by omega)
    have hv : xvi a 32768 = true := xvi_in.mpr (i32_in (by omega) (by omega))
    rw [if_neg hx, hv, if_pos e]
    have e2 : ((mv_a h 71 a.toNatClampNeg) &&& 255) = nI (ck h n p) := by
      unfold ck
      rw [if_pos e, show a.toNatClampNeg = p by omega]
      have := xand255 (mv_a h 71 p)
      exact Int32.toInt_inj.mp ((i32_cl this.1).symm.trans (nI_toInt (by have := i32_cl this.1; omega)).symm)
    rw [e2]
    rfl
  · have hx : mv_i h P 2 ≤ a := by rw [Int32.le_iff_toInt_le]; omega
    rw [if_pos hx, if_neg e]
def s_rem (T : Nat → Nat) (n : Nat) : Nat → Nat → Nat
  | 0, p => p
  | k + 1, p => if p < n ∧ ¬ T p = 10 then s_rem T n k (p + 1) else p
def s_skip (T : Nat → Nat) (n : Nat) : Nat → Nat → Nat
  | 0, p => p
  | k + 1, p => if n ≤ p then p else if T p = 35 then s_skip T n k (s_rem T n (n - p) p) else if T p = 9 ∨ T p = 10 ∨ T p = 13 ∨ T p = 32 then s_skip T n k (p + 1) else p
theorem nIi {p : Nat} (h : p < 2147483648) : (nI p).toInt = p := nI_toInt h
theorem nI1 {p : Nat} (h : p < 2147483647) : nI p + 1 = nI (p + 1) := Int32.toInt_inj.mp (by rw [i32_inc (by rw [nIi (by omega)]; omega), nIi (by omega), nIi (by omega)]; rfl)
theorem nI_c {a b : Nat} (ha : a < 2147483648) (hb : b < 2147483648) : nI a = nI b ↔ a = b := ⟨fun e => by have := congrArg Int32.toInt e; rw [nIi ha, nIi hb] at this; omega, fun e => by rw [e]⟩
theorem nIk {c m : Nat} {k : Int32} (hc : c ≤ 256) (hk : k = nI m) (hm : m ≤ 300) : nI c = k ↔ c = m := by rw [hk]; exact nI_c (by omega) (by omega)
theorem ck_lt (h : mv_H) (n p : Nat) : ck h n p ≤ 256 := by
  unfold ck
  split
  · have := xand255 (mv_a h 71 p)
    have := i32_cl this.1
    omega
  · exact Nat.le_refl _
/-- the reader at p -/
abbrev atp (P : Nat) (h : mv_H) (p : Nat) : mv_H := mv_si h P 3 (nI p)
theorem atp_3 (P : Nat) (h : mv_H) (p : Nat) : mv_i (atp P h p) P 3 = nI p := mv_u_same (mv_i h) P 3 (nI p)
theorem atp_i {P : Nat} (h : mv_H) (p : Nat) {o k : Nat} (e : ¬ (o = P ∧ k = 3)) : mv_i (atp P h p) o k = mv_i h o k := mv_u_ne (mv_i h) (nI p) e
theorem atp_up {P : Nat} (h : mv_H) {p : Nat} (hp : p < 2147483647) : mv_si (atp P h p) P 3 (mv_i (atp P h p) P 3 + 1) = atp P h (p + 1) := by
  rw [atp_3, nI1 hp]
  exact mv_si_si h P 3 _ _
theorem atp_ck (P : Nat) (h : mv_H) (p n q : Nat) : ck (atp P h p) n q = ck h n q := rfl
theorem look_at {P n : Nat} {h : mv_H} (hn : (mv_i h P 2).toInt = n) (hn2 : n ≤ 32768) (p q : Nat) (hq : q < 2147483648) : f_Book_look P (atp P h p) (nI q) = some (if q < n then nI (ck h n q) else -1, atp P h p) :=
  look_e (by rw [atp_i h p (by omega)]; exact hn) hn2 (nIi hq)
section SKIP
variable {P n : Nat} {h : mv_H} (hn : (mv_i h P 2).toInt = n) (hn2 : n ≤ 32768)
theorem skip_rem (k0 : mv_H → Option mv_H) (hn : (mv_i h P 2).toInt = n) (hn2 : n ≤ 32768) : ∀ (m nn p : Nat), p ≤ n → n - p ≤ m → n - p < nn → f_Book_skip_26 P k0 nn (atp P h p) = k0 (atp P h (s_rem (ck h n) n m p)) := by
  intro m
  induction m with
  | zero =>
    intro nn p hp hm hnn
    obtain ⟨nn, rfl⟩ : ∃ k, nn = k + 1 := ⟨nn - 1, by omega⟩
    show fF_Book_skip_26 P k0 (f_Book_skip_26 P k0 nn) (atp P h p) = _
    unfold fF_Book_skip_26
    rw [atp_3, atp_i h p (by omega), if_pos (by rw [Int32.le_iff_toInt_le, nIi (by omega)]; omega)]
    rfl
  | succ m ih =>
    intro nn p hp hm hnn
    obtain ⟨nn, rfl⟩ : ∃ k, nn = k + 1 := ⟨nn - 1, by omega⟩
    show fF_Book_skip_26 P k0 (f_Book_skip_26 P k0 nn) (atp P h p) = _
    unfold fF_Book_skip_26
    rw [atp_3, atp_i h p (by omega)]
    show _ = k0 (atp P h (if p < n ∧ ¬ ck h n p = 10 then s_rem (ck h n) n m (p + 1) else p))
    by_cases e : n ≤ p
    · rw [if_pos (by rw [Int32.le_iff_toInt_le, nIi (by omega)]; omega), if_neg (by omega)]
    · rw [if_neg (by rw [Int32.le_iff_toInt_le, nIi (by omega)]; omega), look_at hn hn2 p p (by omega), if_pos (by omega)]
      have hc := ck_lt h n p
      show (if nI (ck h n p) = 10 then k0 (atp P h p) else xk (mv_si (atp P h p) P 3 (mv_i (atp P h p) P 3 + 1)) fun g4 => f_Book_skip_26 P k0 nn g4) = _
      by_cases e2 : ck h n p = 10
      · rw [if_pos (by rw [e2]; rfl), if_neg (by omega)]
      · rw [if_neg (fun z => e2 ((nIk (k := 10) hc (m := 10) rfl (by decide)).mp z)), if_pos (by omega), atp_up h (by omega)]
        exact ih nn (p + 1) (by omega) (by omega) (by omega)
theorem s_rem_le {T : Nat → Nat} {n : Nat} : ∀ (m p : Nat), p ≤ n → p ≤ s_rem T n m p ∧ s_rem T n m p ≤ n := by
  intro m
  induction m with
  | zero => intro p hp; exact ⟨Nat.le_refl _, hp⟩
  | succ m ih =>
    intro p hp
    show p ≤ (if p < n ∧ ¬ T p = 10 then s_rem T n m (p + 1) else p) ∧ (if p < n ∧ ¬ T p = 10 then s_rem T n m (p + 1) else p) ≤ n
    split
    · have := ih (p + 1) (by omega)
      omega
    · omega
theorem s_rem_lt {T : Nat → Nat} {n m p : Nat} (hp : p < n) (h : T p = 35) : p < s_rem T n (n - p) p := by
  obtain ⟨k, hk⟩ : ∃ k, n - p = k + 1 := ⟨n - p - 1, by omega⟩
  rw [hk]
  show p < if p < n ∧ ¬ T p = 10 then s_rem T n k (p + 1) else p
  rw [if_pos ⟨hp, by omega⟩]
  have := (s_rem_le (T := T) k (p + 1) (show p + 1 ≤ n by omega)).1
  omega
theorem skip_lp (hn : (mv_i h P 2).toInt = n) (hn2 : n ≤ 32768) : ∀ (m nn p : Nat), p ≤ n → n - p < m → n - p < nn → f_Book_skip_0 P nn (atp P h p) = some (atp P h (s_skip (ck h n) n m p)) := by
  intro m
  induction m with
  | zero => intro nn p hp hm; omega
  | succ m ih =>
    intro nn p hp hm hnn
    obtain ⟨nn, rfl⟩ : ∃ k, nn = k + 1 := ⟨nn - 1, by omega⟩
    show fF_Book_skip_0 P (f_Book_skip_0 P nn) (atp P h p) = _
    unfold fF_Book_skip_0
    rw [atp_3, atp_i h p (by omega)]
    show _ = some (atp P h (if n ≤ p then p else if ck h n p = 35 then s_skip (ck h n) n m (s_rem (ck h n) n (n - p) p) else if ck h n p = 9 ∨ ck h n p = 10 ∨ ck h n p = 13 ∨ ck h n p = 32 then s_skip (ck h n) n m (p + 1) else p))
    by_cases e : n ≤ p
    · rw [if_pos (by rw [Int32.le_iff_toInt_le, nIi (by omega)]; omega), if_pos e]
    · rw [if_neg (by rw [Int32.le_iff_toInt_le, nIi (by omega)]; omega), look_at hn hn2 p p (by omega), if_pos (by omega), if_neg e]
      have hc := ck_lt h n p
      show (if nI (ck h n p) = 35 then f_Book_skip_26 P (f_Book_skip_0 P nn) 200000 (atp P h p) else if nI (ck h n p) = 9 then f_Book_skip_87 P (f_Book_skip_0 P nn) (atp P h p) else if nI (ck h n p) = 10 then f_Book_skip_87 P (f_Book_skip_0 P nn) (atp P h p) else if nI (ck h n p) = 13 then f_Book_skip_87 P (f_Book_skip_0 P nn) (atp P h p) else if nI (ck h n p) = 32 then f_Book_skip_87 P (f_Book_skip_0 P nn) (atp P h p) else some (atp P h p)) = _
      have r : ∀ {k : Int32} {m : Nat}, k = nI m → m ≤ 300 → (nI (ck h n p) = k ↔ ck h n p = m) := fun a b => nIk hc a b
      simp only [r (k := 35) (m := 35) rfl (by decide), r (k := 9) (m := 9) rfl (by decide), r (k := 10) (m := 10) rfl (by decide), r (k := 13) (m := 13) rfl (by decide), r (k := 32) (m := 32) rfl (by decide)]
      have up : f_Book_skip_87 P (f_Book_skip_0 P nn) (atp P h p) = some (atp P h (s_skip (ck h n) n m (p + 1))) := by
        unfold f_Book_skip_87
        rw [atp_up h (by omega)]
        exact ih nn (p + 1) (by omega) (by omega) (by omega)
      by_cases e1 : ck h n p = 35
      · rw [if_pos e1, if_pos e1, skip_rem _ hn hn2 (n - p) 200000 p hp (Nat.le_refl _) (by omega)]
        have h1 := s_rem_le (T := ck h n) (n - p) p hp
        have h2 := s_rem_lt (m := 0) (show p < n by omega) e1
        exact ih nn _ h1.2 (by omega) (by omega)
      · rw [if_neg e1, if_neg e1, up]
        by_cases e2 : ck h n p = 9
        · rw [if_pos e2, if_pos (Or.inl e2)]
        · by_cases e3 : ck h n p = 10
          · rw [if_neg e2, if_pos e3, if_pos (Or.inr (Or.inl e3))]
          · by_cases e4 : ck h n p = 13
            · rw [if_neg e2, if_neg e3, if_pos e4, if_pos (Or.inr (Or.inr (Or.inl e4)))]
            · by_cases e5 : ck h n p = 32
              · rw [if_neg e2, if_neg e3, if_neg e4, if_pos e5, if_pos (Or.inr (Or.inr (Or.inr e5)))]
              · rw [if_neg e2, if_neg e3, if_neg e4, if_neg e5, if_neg (by omega)]
end SKIP
theorem skip_e {P n : Nat} {h : mv_H} (hn : (mv_i h P 2).toInt = n) (hn2 : n ≤ 32768) {p : Nat} (hp : p ≤ n) : f_Book_skip P (atp P h p) = some (atp P h (s_skip (ck h n) n (n + 1) p)) := skip_lp hn hn2 (n + 1) 200000 p hp (by omega) (by omega)
/-- a character as look answers it: 256 is the end -/
def chr (c : Nat) : Int32 := if c < 256 then nI c else -1
theorem chr_lt {c : Nat} (h : c < 256) : chr c = nI c := if_pos h
theorem look_c {P n : Nat} {h : mv_H} (hn : (mv_i h P 2).toInt = n) (hn2 : n ≤ 32768) {a : Int32} {p : Nat} (ha : a.toInt = p) : f_Book_look P h a = some (chr (ck h n p), h) := by
  rw [look_e hn hn2 ha]
  unfold chr ck
  by_cases e : p < n
  · have := xand255 (mv_a h 71 p)
    have := i32_cl this.1
    rw [if_pos e, if_pos e, if_pos (by omega)]
  · rw [if_neg e, if_neg e, if_neg (by omega)]
def isL (c : Nat) : Bool := (Nat.ble 97 c && Nat.ble c 122) || (Nat.ble 65 c && Nat.ble c 90) || Nat.beq c 95
def isD (c : Nat) : Bool := Nat.ble 48 c && Nat.ble c 57
def b01 (b : Bool) : Int32 := bif b then 1 else 0
/-- the value of a digit of base 16, one more; 0: none -/
def hexv (c : Nat) : Nat := bif isD c then c - 47 else bif Nat.ble 97 c && Nat.ble c 102 then c - 86 else bif Nat.ble 65 c && Nat.ble c 70 then c - 54 else 0
def isS (c : Nat) : Bool := [59, 123, 125, 40, 41, 91, 93, 61, 58, 44, 63, 39, 60, 43, 45, 42, 47, 37, 38, 124, 94, 126, 33].contains c
def pairv (c d : Nat) : Nat := bif Nat.beq c 61 && Nat.beq d 61 then 256 else bif Nat.beq c 33 && Nat.beq d 61 then 257 else bif Nat.beq c 60 && Nat.beq d 61 then 258 else bif Nat.beq c 60 && Nat.beq d 60 then 259 else bif Nat.beq c 62 && Nat.beq d 62 then 260 else 0
section CH
variable (h : mv_H)
def vL (x : Int32) : Int32 := if (97 ≤ x ∧ x ≤ 122) ∨ (65 ≤ x ∧ x ≤ 90) ∨ x = 95 then 1 else 0
theorem xz0 : xzb 0 = true := rfl
theorem xz1' : xzb 1 = true := rfl
theorem letter_v (x : Int32) : f_Book_letter h x = some (vL x, h) := by
  unfold f_Book_letter f_Book_letter_12 f_Book_letter_24 f_Book_letter_30 vL
  rw [xz0, xz1']
  simp only [← Int32.not_le, cond_true]
  by_cases a : (97 : Int32) ≤ x <;> by_cases b : x ≤ 122 <;> by_cases c : (65 : Int32) ≤ x <;> by_cases d : x ≤ 90 <;> by_cases e : x = 95 <;> simp [a, b, c, d, e]
theorem vL_c : ∀ c, c < 257 → vL (chr c) = b01 (isL c) := by decide +kernel
theorem letter_c {c : Nat} (hc : c ≤ 256) : f_Book_letter h (chr c) = some (b01 (isL c), h) := by rw [letter_v, vL_c c (by omega)]
def vD (x : Int32) : Int32 := if 48 ≤ x ∧ x ≤ 57 then 1 else 0
theorem digit_v (x : Int32) : f_Book_digit h x = some (vD x, h) := by
  unfold f_Book_digit f_Book_digit_16 vD
  rw [xz0, xz1']
  simp only [← Int32.not_le, cond_true]
  by_cases a : (48 : Int32) ≤ x <;> by_cases b : x ≤ 57 <;> simp [a, b]
theorem vD_c : ∀ c, c < 257 → vD (chr c) = b01 (isD c) := by decide +kernel
theorem digit_c {c : Nat} (hc : c ≤ 256) : f_Book_digit h (chr c) = some (b01 (isD c), h) := by rw [digit_v, vD_c c (by omega)]
def vH (x : Int32) : Int32 := if vD x = 0 then (if 97 ≤ x ∧ x ≤ 102 then x - 97 + 10 else if 65 ≤ x ∧ x ≤ 70 then x - 65 + 10 else -1) else x - 48
theorem hex_v (x : Int32) : f_Book_hex h x = some (vH x, h) := by
  unfold f_Book_hex f_Book_hex_36 f_Book_hex_58 vH
  rw [digit_v]
  show (if vD x = 0 then _ else _) = _
  simp only [← Int32.not_le]
  by_cases z : vD x = 0 <;> by_cases a : (97 : Int32) ≤ x <;> by_cases b : x ≤ 102 <;> by_cases c : (65 : Int32) ≤ x <;> by_cases d : x ≤ 70 <;> simp [z, a, b, c, d]
theorem vH_c : ∀ c, c < 257 → vH (chr c) = (if hexv c = 0 then -1 else nI (hexv c - 1)) := by decide +kernel
theorem hex_c {c : Nat} (hc : c ≤ 256) : f_Book_hex h (chr c) = some (if hexv c = 0 then -1 else nI (hexv c - 1), h) := by rw [hex_v, vH_c c (by omega)]
end CH
theorem xi2l_s {b : Nat} (h : b < 2147483648) : xi2l b = b := by
  unfold xi2l
  rw [Nat.blt_eq.mpr (show b % 4294967296 < 2147483648 by omega), cond_true]
  omega
theorem lcmp0 (x : Nat) : (lg_cmp (nJ x) 0 = 0) ↔ x % 18446744073709551616 = 0 := by
  have e0 : (0 : Int64) = nJ 0 := rfl
  rw [e0, xJ_cmp]
  have e1 : (0 : Int32) = nI 0 := rfl
  rw [e1]
  unfold ycmp ys
  cases h1 : Nat.blt ((0 + 9223372036854775808) % 18446744073709551616) ((x + 9223372036854775808) % 18446744073709551616)
  · have g1 : ¬ (0 + 9223372036854775808) % 18446744073709551616 < (x + 9223372036854775808) % 18446744073709551616 := fun q => by rw [Nat.blt_eq.mpr q] at h1; cases h1
    cases h2 : Nat.beq ((x + 9223372036854775808) % 18446744073709551616) ((0 + 9223372036854775808) % 18446744073709551616)
    · have g2 := Nat.ne_of_beq_eq_false h2
      simp only [cond_false]
      exact ⟨fun q => absurd q (by decide), fun q => by omega⟩
    · have g2 := Nat.eq_of_beq_eq_true h2
      simp only [cond_false, cond_true]
      exact ⟨fun _ => by omega, fun _ => trivial⟩
  · have g1 := Nat.blt_eq.mp h1
    simp only [cond_true]
    exact ⟨fun q => absurd q (by decide), fun q => by omega⟩
theorem fits_e (h : mv_H) {v b d : Nat} (hv : v < 18446744073709551616) (hb : b ≤ 16) (hd : d < 16) : f_Book_fits_0 h (nJ v) (nI b) (nI d) = some (if v * b + d < 18446744073709551616 then 1 else 0, h) := by
  unfold f_Book_fits_0
  have e32 : (32 : Int32) = nI 32 := rfl
  have em : (4294967295 : Int64) = nJ 4294967295 := by decide
  rw [e32, em, xJ_shr, xI_l, xI_l, xi2l_s (show b < 2147483648 by omega), xi2l_s (show d < 2147483648 by omega), xJ_and, xJ_mul, xJ_mul, xJ_add, xJ_shr, xJ_add, xJ_shr, xz0, xz1']
  simp only [cond_true]
  have a1 : v &&& 4294967295 = v % 4294967296 := Nat.and_two_pow_sub_one_eq_mod v 32
  have s32 : ∀ x : Nat, x >>> 32 = x / 4294967296 := fun x => Nat.shiftRight_eq_div_pow x 32
  have hlo : v % 4294967296 < 4294967296 := Nat.mod_lt _ (by decide)
  have hlb : v % 4294967296 * b ≤ 4294967295 * 16 := Nat.mul_le_mul (by omega) hb
  have hhb : v / 4294967296 * b ≤ 4294967295 * 16 := Nat.mul_le_mul (by omega) hb
  have ev : v * b = (v / 4294967296 * b) * 4294967296 + v % 4294967296 * b := by
    have e1 : v = v / 4294967296 * 4294967296 + v % 4294967296 := by omega
    calc v * b = (v / 4294967296 * 4294967296 + v % 4294967296) * b := by rw [← e1]
      _ = v / 4294967296 * 4294967296 * b + v % 4294967296 * b := Nat.add_mul ..
      _ = _ := by rw [Nat.mul_right_comm]
  have key : (lg_cmp (nJ (yshr (yadd (ymul (yshr v 32) b) (yshr (yadd (ymul (v &&& 4294967295) b) d) 32)) 32)) 0 = 0) ↔ v * b + d < 18446744073709551616 := by
    rw [lcmp0]
    unfold yshr yadd ymul
    rw [a1, Nat.mod_eq_of_lt hv]
    simp only [s32, show (32 : Nat) % 64 = 32 from rfl]
    rw [ev]
    clear ev
    generalize v % 4294967296 * b = A at *
    generalize v / 4294967296 * b = B at *
    omega
  by_cases e : v * b + d < 18446744073709551616
  · rw [if_pos (key.mpr e), if_pos e]
  · rw [if_neg (fun q => e (key.mp q)), if_neg e]
/-- reading a number: at p, v so far -/
abbrev ns (P : Nat) (h : mv_H) (p v : Nat) : mv_H := mv_si (mv_sl h P 9 (nJ v)) P 3 (nI p)
theorem mv_sl_sl (σ : mv_H) (o k : Nat) (a b : Int64) : mv_sl (mv_sl σ o k a) o k b = mv_sl σ o k b := by
  unfold mv_sl
  refine Prod.ext rfl (Prod.ext ?_ rfl)
  funext o' k'
  show mv_u (mv_u σ.2.1 o k a) o k b o' k' = mv_u σ.2.1 o k b o' k'
  unfold mv_u
  by_cases h : o' = o ∧ k' = k
  · rw [if_pos h, if_pos h]
  · rw [if_neg h, if_neg h, if_neg h]
theorem ns_3 (P : Nat) (h : mv_H) (p v : Nat) : mv_i (ns P h p v) P 3 = nI p := mv_u_same (mv_i h) P 3 (nI p)
theorem ns_i {P : Nat} (h : mv_H) (p v : Nat) {o k : Nat} (e : ¬ (o = P ∧ k = 3)) : mv_i (ns P h p v) o k = mv_i h o k := mv_u_ne (mv_i h) (nI p) e
theorem ns_9 (P : Nat) (h : mv_H) (p v : Nat) : mv_l (ns P h p v) P 9 = nJ v := mv_u_same (mv_l h) P 9 (nJ v)
theorem ns_ck (P : Nat) (h : mv_H) (p v n q : Nat) : ck (ns P h p v) n q = ck h n q := rfl
/-- a digit more -/
theorem ns_up {P : Nat} (h : mv_H) {p v w : Nat} (hp : p < 2147483647) : (xk (mv_sl (ns P h p v) P 9 (nJ w)) fun g10 => xk (mv_si g10 P 3 (mv_i g10 P 3 + 1)) fun g11 => (some g11 : Option mv_H)) = some (ns P h (p + 1) w) := by
  show some (mv_si (mv_sl (ns P h p v) P 9 (nJ w)) P 3 (mv_i (ns P h p v) P 3 + 1)) = _
  rw [ns_3, nI1 hp]
  have e1 : mv_si (mv_sl (ns P h p v) P 9 (nJ w)) P 3 (nI (p + 1)) = mv_si (mv_si (mv_sl (mv_sl h P 9 (nJ v)) P 9 (nJ w)) P 3 (nI p)) P 3 (nI (p + 1)) := rfl
  rw [e1, mv_si_si, mv_sl_sl]
theorem look_ns {P n : Nat} {h : mv_H} (hn : (mv_i h P 2).toInt = n) (hn2 : n ≤ 32768) (p v : Nat) (hp : p < 2147483648) : f_Book_look P (ns P h p v) (mv_i (ns P h p v) P 3) = some (chr (ck h n p), ns P h p v) := by
  rw [ns_3]
  exact look_c (by rw [ns_i h p v (by omega)]; exact hn) hn2 (nIi hp)
theorem xhb_s {α β : Type} (v : β) (g : mv_H) (f : β → mv_H → Option α) : xhb (some (v, g)) f = f v g := rfl
/-- the end of a number -/
def n_end (T : Nat → Nat) (p : Nat) : Bool := isD (T p) || isL (T p)
def brk (P : Nat) (h : mv_H) (b : Bool) (p : Nat) : mv_H := bif b then mv_si h P 7 (nI p) else h
theorem b01_0 (b : Bool) : (b01 b = 0) ↔ b = false := by cases b <;> decide
theorem rn_end {P n : Nat} {h : mv_H} (hn : (mv_i h P 2).toInt = n) (hn2 : n ≤ 32768) (p v : Nat) (hp : p < 2147483648) {x2 : Int32} (hx : ¬ x2 = 0) : f_Book_readNumber_179 P x2 (ns P h p v) = some (brk P (ns P h p v) (n_end (ck h n) p) p) := by
  have hc := ck_lt h n p
  unfold f_Book_readNumber_179
  rw [if_neg hx, look_ns hn hn2 p v hp, xhb_s, digit_c _ hc, xhb_s]
  have e211 : f_Book_readNumber_211 P (ns P h p v) = some (mv_si (ns P h p v) P 7 (nI p)) := by
    unfold f_Book_readNumber_211
    rw [ns_3]
    rfl
  unfold n_end brk
  cases a : isD (ck h n p)
  · rw [if_pos (show b01 false = 0 from rfl), look_ns hn hn2 p v hp, xhb_s, letter_c _ hc, xhb_s]
    cases b : isL (ck h n p)
    · rw [if_pos (show b01 false = 0 from rfl)]; rfl
    · rw [if_neg (show ¬ b01 true = 0 by decide), e211]; rfl
  · rw [if_neg (show ¬ b01 true = 0 by decide), e211]; rfl
def s_dec (T : Nat → Nat) : Nat → Nat → Nat → Nat × Nat
  | 0, p, v => (p, v)
  | k + 1, p, v => if isD (T p) = true ∧ v * 10 + (T p - 48) < 18446744073709551616 then s_dec T k (p + 1) (v * 10 + (T p - 48)) else (p, v)
theorem isD_c {c : Nat} (h : isD c = true) : 48 ≤ c ∧ c ≤ 57 := by
  unfold isD at h
  rw [Bool.and_eq_true] at h
  exact ⟨Nat.le_of_ble_eq_true h.1, Nat.le_of_ble_eq_true h.2⟩
theorem rn_dec {P n : Nat} {h : mv_H} (hn : (mv_i h P 2).toInt = n) (hn2 : n ≤ 32768) : ∀ (m nn p v c : Nat), p ≤ n → n - p < m → n - p < nn → v < 18446744073709551616 → c ≤ p → (0 < c ∨ (isD (ck h n p) = true ∧ v = 0)) →
    f_Book_readNumber_60 P nn 0 (nI c) (ns P h p v) = some (brk P (ns P h (s_dec (ck h n) m p v).1 (s_dec (ck h n) m p v).2) (n_end (ck h n) (s_dec (ck h n) m p v).1) (s_dec (ck h n) m p v).1) := by
  intro m
  induction m with
  | zero => intro nn p v c hp hm; omega
  | succ m ih =>
    intro nn p v c hp hm hnn hv hc hcv
    obtain ⟨nn, rfl⟩ : ∃ k, nn = k + 1 := ⟨nn - 1, by omega⟩
    have hck := ck_lt h n p
    show fF_Book_readNumber_60 P (f_Book_readNumber_60 P nn) 0 (nI c) (ns P h p v) = _
    unfold fF_Book_readNumber_60
    rw [look_ns hn hn2 p v (by omega), xhb_s, if_pos rfl, digit_c _ hck, xhb_s]
    have hne : isD (ck h n p) = false ∨ ¬ (v * 10 + (ck h n p - 48) < 18446744073709551616) → ¬ nI c = 0 := fun q z => by
      have : c = 0 := (nI_c (b := 0) (by omega) (by decide)).mp z
      rcases hcv with g | ⟨g1, g2⟩
      · omega
      · have := isD_c g1
        rcases q with q | q
        · rw [q] at g1; cases g1
        · omega
    cases a : isD (ck h n p)
    · rw [if_pos (show b01 false = 0 from rfl)]
      have es : s_dec (ck h n) (m + 1) p v = (p, v) := if_neg (fun q => by rw [a] at q; cases q.1)
      rw [es]
      unfold f_Book_readNumber_95
      rw [if_pos (by decide)]
      exact rn_end hn hn2 p v (by omega) (hne (Or.inl a))
    · have hd := isD_c a
      have hp2 : p < n := by
        by_cases q : p < n
        · exact q
        · have : ck h n p = 256 := if_neg q
          omega
      rw [if_neg (show ¬ b01 true = 0 by decide), chr_lt (by omega)]
      have ed : nI (ck h n p) - 48 = nI (ck h n p - 48) := Int32.toInt_inj.mp (by rw [i32_sub (x := nI (ck h n p)) (y := 48) (by rw [nIi (by omega)]; show -2147483648 ≤ ((ck h n p : Nat) : Int) - 48; omega) (by rw [nIi (by omega)]; show ((ck h n p : Nat) : Int) - 48 < 2147483648; omega), nIi (by omega), nIi (by omega)]; show ((ck h n p : Nat) : Int) - 48 = _; omega)
      rw [ed]
      unfold f_Book_readNumber_95
      rw [if_neg (by rw [Int32.lt_iff_toInt_lt, nIi (by omega)]; show ¬ ((ck h n p - 48 : Nat) : Int) < 0; omega), if_pos rfl]
      unfold f_Book_readNumber_112
      rw [if_pos rfl]
      unfold f_Book_readNumber_127
      rw [ns_9]
      have e10 : (10 : Int32) = nI 10 := rfl
      rw [e10, fits_e _ hv (by decide) (by omega)]
      rw [xhb_s]
      by_cases b : v * 10 + (ck h n p - 48) < 18446744073709551616
      · have es : s_dec (ck h n) (m + 1) p v = s_dec (ck h n) m (p + 1) (v * 10 + (ck h n p - 48)) := if_pos ⟨a, b⟩
        rw [es, if_pos b, if_neg (by decide), if_pos rfl]
        unfold f_Book_readNumber_154
        rw [ns_9, xI_l, xI_l, xi2l_s (by decide), xi2l_s (by omega), xJ_mul, xJ_add]
        have ew : nJ (yadd (ymul v 10) (ck h n p - 48)) = nJ (v * 10 + (ck h n p - 48)) := xJ_eq (by unfold yadd ymul; omega)
        rw [ew]
        have eu := ns_up (P := P) h (p := p) (v := v) (w := v * 10 + (ck h n p - 48)) (by omega)
        have eu2 : mv_si (mv_sl (ns P h p v) P 9 (nJ (v * 10 + (ck h n p - 48)))) P 3 (mv_i (mv_sl (ns P h p v) P 9 (nJ (v * 10 + (ck h n p - 48)))) P 3 + 1) = ns P h (p + 1) (v * 10 + (ck h n p - 48)) := Option.some.inj eu
        show f_Book_readNumber_60 P nn 0 (nI c + 1) (mv_si (mv_sl (ns P h p v) P 9 (nJ (v * 10 + (ck h n p - 48)))) P 3 (mv_i (mv_sl (ns P h p v) P 9 (nJ (v * 10 + (ck h n p - 48)))) P 3 + 1)) = _
        rw [eu2, nI1 (by omega)]
        exact ih nn (p + 1) _ (c + 1) (by omega) (by omega) (by omega) b (by omega) (Or.inl (by omega))
      · have es : s_dec (ck h n) (m + 1) p v = (p, v) := if_neg (fun q => b q.2)
        rw [es, if_neg b, if_pos rfl]
        exact rn_end hn hn2 p v (by omega) (hne (Or.inr b))
theorem xk_s {α : Type} (h : mv_H) (f : mv_H → α) : xk h f = f h := rfl
def s_hex (T : Nat → Nat) : Nat → Nat → Nat → Nat → Nat × Nat × Nat
  | 0, p, v, c => (p, v, c)
  | k + 1, p, v, c => if ¬ hexv (T p) = 0 ∧ ¬ c = 16 then s_hex T k (p + 1) (v * 16 + (hexv (T p) - 1)) (c + 1) else (p, v, c)
theorem hexv_le (c : Nat) : c < 257 → hexv c ≤ 16 ∧ (¬ hexv c = 0 → c < 256) := by
  have h : ∀ c, c < 257 → hexv c ≤ 16 ∧ (¬ hexv c = 0 → c < 256) := by decide +kernel
  exact h c
theorem rn_end0 {P : Nat} {h : mv_H} (p v : Nat) : f_Book_readNumber_179 P 0 (ns P h p v) = some (brk P (ns P h p v) true p) := by
  unfold f_Book_readNumber_179
  rw [if_pos rfl]
  unfold f_Book_readNumber_211
  rw [ns_3]
  rfl
theorem rn_endc {P n : Nat} {h : mv_H} (hn : (mv_i h P 2).toInt = n) (hn2 : n ≤ 32768) (p v c : Nat) (hp : p < 2147483648) (hc : c < 2147483648) : f_Book_readNumber_179 P (nI c) (ns P h p v) = some (brk P (ns P h p v) (Nat.beq c 0 || n_end (ck h n) p) p) := by
  cases c with
  | zero => exact rn_end0 p v
  | succ c =>
    rw [rn_end hn hn2 p v hp (fun z => by have := (nI_c (b := 0) hc (by decide)).mp z; omega)]
    rfl
theorem rn_hex {P n : Nat} {h : mv_H} (hn : (mv_i h P 2).toInt = n) (hn2 : n ≤ 32768) : ∀ (m nn p v c : Nat), p ≤ n + 2 → n + 2 - p < m → n + 2 - p < nn → v < 16 ^ c → c ≤ 16 →
    f_Book_readNumber_60 P nn 1 (nI c) (ns P h p v) = some (brk P (ns P h (s_hex (ck h n) m p v c).1 (s_hex (ck h n) m p v c).2.1) (Nat.beq (s_hex (ck h n) m p v c).2.2 0 || n_end (ck h n) (s_hex (ck h n) m p v c).1) (s_hex (ck h n) m p v c).1) := by
  intro m
  induction m with
  | zero => intro nn p v c hp hm; omega
  | succ m ih =>
    intro nn p v c hp hm hnn hv hc
    obtain ⟨nn, rfl⟩ : ∃ k, nn = k + 1 := ⟨nn - 1, by omega⟩
    have hck := ck_lt h n p
    have hx := hexv_le (ck h n p) (by omega)
    show fF_Book_readNumber_60 P (f_Book_readNumber_60 P nn) 1 (nI c) (ns P h p v) = _
    unfold fF_Book_readNumber_60
    rw [look_ns hn hn2 p v (by omega), xhb_s, if_neg (by decide), hex_c _ hck, xhb_s]
    unfold f_Book_readNumber_95
    by_cases a : hexv (ck h n p) = 0
    · have es : s_hex (ck h n) (m + 1) p v c = (p, v, c) := if_neg (fun q => q.1 a)
      rw [es, if_pos a, if_pos (by decide)]
      exact rn_endc hn hn2 p v c (by omega) (by omega)
    · have hp2 : p < n := by
        by_cases q : p < n
        · exact q
        · have : ck h n p = 256 := if_neg q
          have := hx.2 a
          omega
      rw [if_neg a, if_neg (by rw [Int32.lt_iff_toInt_lt, nIi (by omega)]; show ¬ ((hexv (ck h n p) - 1 : Nat) : Int) < 0; omega), if_neg (by decide)]
      by_cases b : c = 16
      · have es : s_hex (ck h n) (m + 1) p v c = (p, v, c) := if_neg (fun q => q.2 b)
        rw [es, if_pos (by rw [b]; rfl)]
        exact rn_endc hn hn2 p v c (by omega) (by omega)
      · have es : s_hex (ck h n) (m + 1) p v c = s_hex (ck h n) m (p + 1) (v * 16 + (hexv (ck h n p) - 1)) (c + 1) := if_pos ⟨a, b⟩
        have h16 : 16 ^ c ≤ 16 ^ 15 := Nat.pow_le_pow_right (by decide) (by omega)
        have h16' : (16 : Nat) ^ 15 = 1152921504606846976 := by decide
        have hv2 : v * 16 + (hexv (ck h n p) - 1) < 18446744073709551616 := by omega
        have hv3 : v * 16 + (hexv (ck h n p) - 1) < 16 ^ (c + 1) := by rw [Nat.pow_succ]; omega
        rw [es, if_neg (show ¬ nI c = 16 from fun z => b ((nI_c (b := 16) (by omega) (by decide)).mp z))]
        unfold f_Book_readNumber_112
        rw [if_neg (by decide)]
        unfold f_Book_readNumber_127
        have e16 : (16 : Int32) = nI 16 := rfl
        rw [ns_9, e16, fits_e _ (by omega) (by decide) (by omega), xhb_s, if_pos hv2, if_neg (by decide), if_neg (by decide)]
        unfold f_Book_readNumber_154
        rw [ns_9, xI_l, xI_l, xi2l_s (by decide), xi2l_s (by omega), xJ_mul, xJ_add]
        have ew : nJ (yadd (ymul v 16) (hexv (ck h n p) - 1)) = nJ (v * 16 + (hexv (ck h n p) - 1)) := xJ_eq (by unfold yadd ymul; omega)
        rw [ew]
        have eu := ns_up (P := P) h (p := p) (v := v) (w := v * 16 + (hexv (ck h n p) - 1)) (by omega)
        have eu2 : mv_si (mv_sl (ns P h p v) P 9 (nJ (v * 16 + (hexv (ck h n p) - 1)))) P 3 (mv_i (mv_sl (ns P h p v) P 9 (nJ (v * 16 + (hexv (ck h n p) - 1)))) P 3 + 1) = ns P h (p + 1) (v * 16 + (hexv (ck h n p) - 1)) := Option.some.inj eu
        show f_Book_readNumber_60 P nn 1 (nI c + 1) (mv_si (mv_sl (ns P h p v) P 9 (nJ (v * 16 + (hexv (ck h n p) - 1)))) P 3 (mv_i (mv_sl (ns P h p v) P 9 (nJ (v * 16 + (hexv (ck h n p) - 1)))) P 3 + 1)) = _
        rw [eu2, nI1 (by omega)]
        exact ih nn (p + 1) _ (c + 1) (by omega) (by omega) (by omega) hv3 (by omega)
/-- a number at p: where it ends, its value, is it broken there -/
def s_num (T : Nat → Nat) (n p : Nat) : Nat × Nat × Bool := if T p = 48 ∧ T (p + 1) = 120 then ((s_hex T (n + 3) (p + 2) 0 0).1, (s_hex T (n + 3) (p + 2) 0 0).2.1, Nat.beq (s_hex T (n + 3) (p + 2) 0 0).2.2 0 || n_end T (s_hex T (n + 3) (p + 2) 0 0).1) else ((s_dec T (n + 1) p 0).1, (s_dec T (n + 1) p 0).2, n_end T (s_dec T (n + 1) p 0).1)
theorem rn_e {P n : Nat} {h : mv_H} (hn : (mv_i h P 2).toInt = n) (hn2 : n ≤ 32768) {p : Nat} (hp : p < n) (hd : isD (ck h n p) = true) (hat : mv_i h P 3 = nI p) :
    f_Book_readNumber P h = some (brk P (ns P (mv_si h P 4 2) (s_num (ck h n) n p).1 (s_num (ck h n) n p).2.1) (s_num (ck h n) n p).2.2 (s_num (ck h n) n p).1) := by
  unfold f_Book_readNumber
  have hh : ∀ g : mv_H, g = mv_sl (mv_si h P 4 2) P 9 0 → g = ns P (mv_si h P 4 2) p 0 := fun g e => by
    rw [e]
    have e2 : nI p = mv_i (mv_sl (mv_si h P 4 2) P 9 (nJ 0)) P 3 := by
      rw [← hat]
      exact (mv_u_ne (mv_i h) 2 (by omega)).symm
    show mv_sl (mv_si h P 4 2) P 9 0 = mv_si (mv_sl (mv_si h P 4 2) P 9 (nJ 0)) P 3 (nI p)
    rw [e2, mv_si_self]
    rfl
  rw [xk_s, xk_s, hh _ rfl]
  have hn' : (mv_i (mv_si h P 4 2) P 2).toInt = n := by rw [show mv_i (mv_si h P 4 2) P 2 = mv_i h P 2 from mv_u_ne (mv_i h) 2 (by omega)]; exact hn
  have ec : ∀ q, ck (mv_si h P 4 2) n q = ck h n q := fun q => rfl
  have hck := ck_lt h n p
  have hdc := isD_c hd
  rw [look_ns hn' hn2 p 0 (by omega), xhb_s, ec, chr_lt (by omega)]
  have hdec : f_Book_readNumber_42 P (ns P (mv_si h P 4 2) p 0) = some (brk P (ns P (mv_si h P 4 2) (s_dec (ck h n) (n + 1) p 0).1 (s_dec (ck h n) (n + 1) p 0).2) (n_end (ck h n) (s_dec (ck h n) (n + 1) p 0).1) (s_dec (ck h n) (n + 1) p 0).1) := by
    unfold f_Book_readNumber_42 f_Book_readNumber_43
    rw [if_pos rfl]
    exact rn_dec hn' hn2 (n + 1) 200000 p 0 0 (by omega) (by omega) (by omega) (by decide) (by omega) (Or.inr ⟨hd, rfl⟩)
  unfold s_num
  by_cases a : ck h n p = 48
  · rw [if_pos (by rw [a]; rfl), ns_3, nI1 (by omega), look_c (p := p + 1) (by rw [ns_i _ p 0 (by omega)]; exact hn') hn2 (nIi (by omega)), xhb_s]
    have ec2 : ck (ns P (mv_si h P 4 2) p 0) n (p + 1) = ck h n (p + 1) := rfl
    rw [ec2]
    have hck2 := ck_lt h n (p + 1)
    have e120 : (chr (ck h n (p + 1)) = 120) ↔ ck h n (p + 1) = 120 := by
      have hh : ∀ c, c < 257 → (chr c = 120 ↔ c = 120) := by decide +kernel
      exact hh _ (by omega)
    by_cases b : ck h n (p + 1) = 120
    · rw [if_pos (e120.mpr b), if_pos ⟨a, b⟩]
      unfold f_Book_readNumber_43
      rw [if_neg (by decide), ns_3]
      have e2 : nI p + 2 = nI (p + 2) := Int32.toInt_inj.mp (by rw [i32_add (x := nI p) (y := 2) (by rw [nIi (by omega)]; show -2147483648 ≤ ((p : Nat) : Int) + 2; omega) (by rw [nIi (by omega)]; show ((p : Nat) : Int) + 2 < 2147483648; omega), nIi (by omega), nIi (by omega)]; rfl)
      rw [e2]
      show f_Book_readNumber_60 P 200000 1 0 (mv_si (ns P (mv_si h P 4 2) p 0) P 3 (nI (p + 2))) = _
      have e3 : mv_si (ns P (mv_si h P 4 2) p 0) P 3 (nI (p + 2)) = ns P (mv_si h P 4 2) (p + 2) 0 := mv_si_si _ _ _ _ _
      rw [e3]
      exact rn_hex hn' hn2 (n + 3) 200000 (p + 2) 0 0 (by omega) (by omega) (by omega) (by decide) (by decide)
    · rw [if_neg (fun q => b (e120.mp q)), if_neg (fun q => b q.2)]
      exact hdec
  · rw [if_neg (fun z => a ((nIk (k := 48) hck (m := 48) rfl (by decide)).mp z)), if_neg (fun q => a q.1)]
    exact hdec
/-- the reader's fields -/
def tkR (P : Nat) (h : mv_H) (a k s t b : Int32) (v : Int64) : mv_H := mv_sl (mv_si (mv_si (mv_si (mv_si (mv_si h P 3 a) P 4 k) P 5 s) P 6 t) P 7 b) P 9 v
section TKR
variable (P : Nat) (h : mv_H) (a k s t b x : Int32) (v w : Int64)
theorem tkR_i (o j : Nat) : mv_i (tkR P h a k s t b v) o j = if o = P ∧ j = 7 then b else if o = P ∧ j = 6 then t else if o = P ∧ j = 5 then s else if o = P ∧ j = 4 then k else if o = P ∧ j = 3 then a else mv_i h o j := rfl
theorem tkR_3 : mv_i (tkR P h a k s t b v) P 3 = a := by rw [tkR_i]; simp
theorem tkR_4 : mv_i (tkR P h a k s t b v) P 4 = k := by rw [tkR_i]; simp
theorem tkR_5 : mv_i (tkR P h a k s t b v) P 5 = s := by rw [tkR_i]; simp
theorem tkR_6 : mv_i (tkR P h a k s t b v) P 6 = t := by rw [tkR_i]; simp
theorem tkR_7 : mv_i (tkR P h a k s t b v) P 7 = b := by rw [tkR_i]; simp
theorem tkR_o {o j : Nat} (e : ¬ (o = P ∧ 3 ≤ j ∧ j ≤ 7)) : mv_i (tkR P h a k s t b v) o j = mv_i h o j := by
  rw [tkR_i, if_neg (by omega), if_neg (by omega), if_neg (by omega), if_neg (by omega), if_neg (by omega)]
theorem tkR_l : mv_l (tkR P h a k s t b v) P 9 = v := mv_u_same _ _ _ _
theorem si_ext {σ τ : mv_H} (h1 : ∀ o j, mv_i σ o j = mv_i τ o j) (h2 : σ.2 = τ.2) : σ = τ := Prod.ext (funext fun o => funext fun j => h1 o j) h2
theorem tkR_s3 : mv_si (tkR P h a k s t b v) P 3 x = tkR P h x k s t b v := by
  refine si_ext (fun o j => ?_) rfl
  show (if o = P ∧ j = 3 then x else mv_i (tkR P h a k s t b v) o j) = _
  rw [tkR_i, tkR_i]
  by_cases e : o = P ∧ j = 3
  · rw [if_pos e, if_neg (by omega), if_neg (by omega), if_neg (by omega), if_neg (by omega), if_pos e]
  · rw [if_neg e, if_neg e, if_neg e]
theorem tkR_s4 : mv_si (tkR P h a k s t b v) P 4 x = tkR P h a x s t b v := by
  refine si_ext (fun o j => ?_) rfl
  show (if o = P ∧ j = 4 then x else mv_i (tkR P h a k s t b v) o j) = _
  rw [tkR_i, tkR_i]
  by_cases e : o = P ∧ j = 4
  · rw [if_pos e, if_neg (by omega), if_neg (by omega), if_neg (by omega), if_pos e]
  · rw [if_neg e, if_neg e, if_neg e]
theorem tkR_s5 : mv_si (tkR P h a k s t b v) P 5 x = tkR P h a k x t b v := by
  refine si_ext (fun o j => ?_) rfl
  show (if o = P ∧ j = 5 then x else mv_i (tkR P h a k s t b v) o j) = _
  rw [tkR_i, tkR_i]
  by_cases e : o = P ∧ j = 5
  · rw [if_pos e, if_neg (by omega), if_neg (by omega), if_pos e]
  · rw [if_neg e, if_neg e, if_neg e]
theorem tkR_s6 : mv_si (tkR P h a k s t b v) P 6 x = tkR P h a k s x b v := by
  refine si_ext (fun o j => ?_) rfl
  show (if o = P ∧ j = 6 then x else mv_i (tkR P h a k s t b v) o j) = _
  rw [tkR_i, tkR_i]
  by_cases e : o = P ∧ j = 6
  · rw [if_pos e, if_neg (by omega), if_pos e]
  · rw [if_neg e, if_neg e, if_neg e]
theorem tkR_s7 : mv_si (tkR P h a k s t b v) P 7 x = tkR P h a k s t x v := by
  refine si_ext (fun o j => ?_) rfl
  show (if o = P ∧ j = 7 then x else mv_i (tkR P h a k s t b v) o j) = _
  rw [tkR_i, tkR_i]
  by_cases e : o = P ∧ j = 7
  · rw [if_pos e, if_pos e]
  · rw [if_neg e, if_neg e, if_neg e]
theorem tkR_s9 : mv_sl (tkR P h a k s t b v) P 9 w = tkR P h a k s t b w := mv_sl_sl _ _ _ _ _
theorem tkR_ck (n q : Nat) : ck (tkR P h a k s t b v) n q = ck h n q := rfl
theorem tkR_self : tkR P h (mv_i h P 3) (mv_i h P 4) (mv_i h P 5) (mv_i h P 6) (mv_i h P 7) (mv_l h P 9) = h := by
  have e1 : mv_sl h P 9 (mv_l h P 9) = h := by
    unfold mv_sl
    rw [mv_u_self]
  refine si_ext (fun o j => ?_) ?_
  · rw [tkR_i]
    repeat' split
    all_goals first | rfl | (rename_i e; rw [e.1, e.2])
  · exact congrArg (fun q => q.2) e1
/-- skip, at a reader -/
theorem skip_t {n : Nat} (hn : (mv_i h P 2).toInt = n) (hn2 : n ≤ 32768) {p : Nat} (hp : p ≤ n) : f_Book_skip P (tkR P h (nI p) k s t b v) = some (tkR P h (nI (s_skip (ck h n) n (n + 1) p)) k s t b v) := by
  have e := skip_e (P := P) (h := tkR P h (nI p) k s t b v) (n := n) (by rw [tkR_o P h _ _ _ _ _ _ (by omega)]; exact hn) hn2 hp
  have e2 : atp P (tkR P h (nI p) k s t b v) p = tkR P h (nI p) k s t b v := tkR_s3 ..
  have e3 : ∀ q, atp P (tkR P h (nI p) k s t b v) q = tkR P h (nI q) k s t b v := fun q => tkR_s3 ..
  rw [e2, e3] at e
  exact e
end TKR
theorem ite_sv (h : mv_H) (p : Prop) [Decidable p] (a b : Int32) : (if p then some (a, h) else some (b, h)) = some ((if p then a else b), h) := by split <;> rfl
def hZ : mv_H := (fun _ _ => 0, fun _ _ => 0, fun _ _ => none, fun _ _ => 0, fun _ _ => 0)
def vS (x : Int32) : Int32 := match f_Book_sign hZ x with | some r => r.1 | none => 0
theorem sg4 (h : mv_H) : f_Book_sign_394 h = some (0, h) := rfl
theorem sg2 (h : mv_H) : f_Book_sign_392 h = some (1, h) := rfl
theorem sign_w (h g : mv_H) (x : Int32) : ∃ v, f_Book_sign h x = some (v, h) ∧ f_Book_sign g x = some (v, g) := by
  unfold f_Book_sign
  simp only [sg4, sg2, ite_sv]
  exact ⟨_, rfl, rfl⟩
theorem sign_v (h : mv_H) (x : Int32) : f_Book_sign h x = some (vS x, h) := by
  obtain ⟨v, h1, h2⟩ := sign_w h hZ x
  unfold vS
  rw [h1, h2]
theorem vS_c : ∀ c, c < 257 → vS (chr c) = b01 (isS c) := by decide +kernel
theorem sign_c (h : mv_H) {c : Nat} (hc : c ≤ 256) : f_Book_sign h (chr c) = some (b01 (isS c), h) := by rw [sign_v, vS_c c (by omega)]
theorem chrk {c m : Nat} {k : Int32} (hc : c ≤ 256) (hk : k = nI m) (hm : m < 256) : chr c = k ↔ c = m := by
  unfold chr
  by_cases e : c < 256
  · rw [if_pos e]
    exact nIk hc hk (by omega)
  · rw [if_neg e, hk]
    constructor
    · intro z
      have := congrArg Int32.toInt z
      rw [nIi (by omega)] at this
      have e1 : (-1 : Int32).toInt = -1 := by decide
      omega
    · intro z; omega
theorem pair_c (P : Nat) (h : mv_H) {c d : Nat} (hc : c ≤ 256) (hd : d ≤ 256) : f_Book_pair P h (chr c) (chr d) = some (nI (pairv c d), h) := by
  unfold f_Book_pair f_Book_pair_16 f_Book_pair_32 f_Book_pair_48 f_Book_pair_64 f_Book_pair_82 pairv
  simp only [chrk (k := 61) (m := 61) hc rfl (by decide), chrk (k := 33) (m := 33) hc rfl (by decide), chrk (k := 60) (m := 60) hc rfl (by decide), chrk (k := 62) (m := 62) hc rfl (by decide), chrk (k := 61) (m := 61) hd rfl (by decide), chrk (k := 60) (m := 60) hd rfl (by decide), chrk (k := 62) (m := 62) hd rfl (by decide)]
  have cases7 : (c = 61 ∨ c = 33 ∨ c = 60 ∨ c = 62 ∨ (¬ c = 61 ∧ ¬ c = 33 ∧ ¬ c = 60 ∧ ¬ c = 62)) := by omega
  have bq : ∀ {x m : Nat}, ¬ x = m → Nat.beq x m = false := fun z => by
    cases q : Nat.beq _ _
    · rfl
    · exact absurd (Nat.eq_of_beq_eq_true q) z
  rcases cases7 with rfl | rfl | rfl | rfl | ⟨a1, a2, a3, a4⟩
  · by_cases e : d = 61
    · subst e; rfl
    · rw [if_pos rfl, if_neg e, bq e]; rfl
  · by_cases e : d = 61
    · subst e; rfl
    · rw [if_neg (by decide), if_pos rfl, if_neg e, bq e]; rfl
  · by_cases e : d = 61
    · subst e; rfl
    · by_cases e2 : d = 60
      · subst e2; rfl
      · rw [if_neg (by decide), if_neg (by decide), if_pos rfl, if_neg e, if_pos rfl, if_neg e2, bq e, bq e2]; rfl
  · by_cases e : d = 62
    · subst e; rfl
    · rw [if_neg (by decide), if_neg (by decide), if_neg (by decide), if_neg (by decide), if_pos rfl, if_neg e, bq e]; rfl
  · rw [if_neg a1, if_neg a2, if_neg a3, if_neg a3, if_neg a4, bq a1, bq a2, bq a3, bq a4]; rfl
def bkv : Option Nat → Int32
  | none => -1
  | some x => nI x
/-- a code from q on: where it ends, where it is broken -/
def s_code (T : Nat → Nat) (n : Nat) : Nat → Nat → Nat × Option Nat
  | 0, q => (q, none)
  | k + 1, q => if n ≤ q then (n, some n) else if T q = 34 then (q + 1, none) else if T q = 48 ∨ T q = 49 ∨ T q = 46 ∨ (isL (T q) = true ∧ ¬ T q = 95) then s_code T n k (q + 1) else (q, some q)
def s_name (T : Nat → Nat) : Nat → Nat → Nat
  | 0, q => q
  | k + 1, q => if isL (T q) = true ∨ isD (T q) = true then s_name T k (q + 1) else q
section RD
variable {P n : Nat} {h : mv_H}
theorem look_t (hn : (mv_i h P 2).toInt = n) (hn2 : n ≤ 32768) (a k s t b : Int32) (v : Int64) {x : Int32} {q : Nat} (hx : x.toInt = q) : f_Book_look P (tkR P h a k s t b v) x = some (chr (ck h n q), tkR P h a k s t b v) :=
  look_c (by rw [tkR_o P h _ _ _ _ _ _ (by omega)]; exact hn) hn2 hx
theorem tkR_2 (a k s t b : Int32) (v : Int64) : mv_i (tkR P h a k s t b v) P 2 = mv_i h P 2 := tkR_o P h _ _ _ _ _ _ (by omega)
theorem code_lp (hn : (mv_i h P 2).toInt = n) (hn2 : n ≤ 32768) (k s t : Int32) (v : Int64) : ∀ (m nn q : Nat), q ≤ n → n - q < m → n - q < nn →
    f_Book_readCode_15 P nn (tkR P h (nI q) k s t (-1) v) = some (tkR P h (nI (s_code (ck h n) n m q).1) k s t (bkv (s_code (ck h n) n m q).2) v) := by
  intro m
  induction m with
  | zero => intro nn q hq hm; omega
  | succ m ih =>
    intro nn q hq hm hnn
    obtain ⟨nn, rfl⟩ : ∃ k, nn = k + 1 := ⟨nn - 1, by omega⟩
    have hc := ck_lt h n q
    have e2 : mv_i h P 2 = nI n := Int32.toInt_inj.mp (by rw [hn, nIi (by omega)])
    have up : ∀ k15, f_Book_readCode_88 P k15 (tkR P h (nI q) k s t (-1) v) = k15 (tkR P h (nI (q + 1)) k s t (-1) v) := fun k15 => by
      unfold f_Book_readCode_88
      rw [tkR_3, nI1 (by omega), tkR_s3, xk_s]
    have bad : f_Book_readCode_79 P (tkR P h (nI q) k s t (-1) v) = some (tkR P h (nI q) k s t (nI q) v) := by
      unfold f_Book_readCode_79
      rw [tkR_3, tkR_s7, xk_s]
    show fF_Book_readCode_15 P (f_Book_readCode_15 P nn) (tkR P h (nI q) k s t (-1) v) = _
    unfold fF_Book_readCode_15
    rw [tkR_2, tkR_3, e2]
    by_cases a : n ≤ q
    · have es : s_code (ck h n) n (m + 1) q = (n, some n) := if_pos a
      have eq : q = n := by omega
      rw [es, if_pos (by rw [Int32.le_iff_toInt_le, nIi (by omega), nIi (by omega)]; omega)]
      unfold f_Book_readCode_101
      rw [tkR_2, tkR_3, e2, eq, if_pos rfl, tkR_s7, xk_s]
      rfl
    · rw [if_neg (by rw [Int32.le_iff_toInt_le, nIi (by omega), nIi (by omega)]; omega), look_t hn hn2 _ _ _ _ _ _ (nIi (by omega)), xhb_s]
      by_cases b : ck h n q = 34
      · have es : s_code (ck h n) n (m + 1) q = (q + 1, none) := by
          show (if n ≤ q then _ else if ck h n q = 34 then _ else _) = _
          rw [if_neg a, if_pos b]
        rw [es, if_pos ((chrk (k := 34) (m := 34) hc rfl (by decide)).mpr b)]
        unfold f_Book_readCode_101
        rw [tkR_2, tkR_3, e2, if_neg (fun z => by have := (nI_c (by omega) (by omega)).mp z; omega), nI1 (by omega), tkR_s3, xk_s]
        rfl
      · rw [if_neg (fun z => b ((chrk (k := 34) (m := 34) hc rfl (by decide)).mp z)), tkR_3, look_t hn hn2 _ _ _ _ _ _ (nIi (by omega)), xhb_s]
        simp only [chrk (k := 48) (m := 48) hc rfl (by decide), chrk (k := 49) (m := 49) hc rfl (by decide), chrk (k := 46) (m := 46) hc rfl (by decide), chrk (k := 95) (m := 95) hc rfl (by decide)]
        rw [letter_c _ hc, xhb_s]
        simp only [b01_0]
        rw [up, bad]
        have es : s_code (ck h n) n (m + 1) q = if ck h n q = 48 ∨ ck h n q = 49 ∨ ck h n q = 46 ∨ (isL (ck h n q) = true ∧ ¬ ck h n q = 95) then s_code (ck h n) n m (q + 1) else (q, some q) := by
          show (if n ≤ q then _ else if ck h n q = 34 then _ else _) = _
          rw [if_neg a, if_neg b]
        rw [es]
        have go := ih nn (q + 1) (by omega) (by omega) (by omega)
        by_cases c1 : ck h n q = 48
        · rw [if_pos c1, if_pos (Or.inl c1)]; exact go
        · by_cases c2 : ck h n q = 49
          · rw [if_neg c1, if_pos c2, if_pos (Or.inr (Or.inl c2))]; exact go
          · by_cases c3 : ck h n q = 46
            · rw [if_neg c1, if_neg c2, if_pos c3, if_pos (Or.inr (Or.inr (Or.inl c3)))]; exact go
            · rw [if_neg c1, if_neg c2, if_neg c3]
              cases c4 : isL (ck h n q)
              · rw [if_pos rfl, if_neg (by simp [c1, c2, c3])]
                rfl
              · rw [if_neg (by decide)]
                by_cases c5 : ck h n q = 95
                · rw [if_pos c5, if_neg (by simp [c5])]
                  rfl
                · rw [if_neg c5, if_pos (Or.inr (Or.inr (Or.inr ⟨rfl, c5⟩)))]
                  exact go
end RD
theorem xhv_s {α : Type} (g : mv_H) (f : mv_H → Option α) : xhv (some g) f = f g := rfl
/-- a token from q on, q at no blank: kind, end, number (none: as it was), broken -/
def s_tok (T : Nat → Nat) (n q : Nat) : Int32 × Nat × Option Nat × Option Nat :=
  if T q = 256 then (0, q, none, none)
  else if isL (T q) = true then (1, s_name T (n + 1) q, none, if s_name T (n + 1) q - q ≤ 32 then none else some (q + 32))
  else if isD (T q) = true then (2, (s_num T n q).1, some (s_num T n q).2.1, if (s_num T n q).2.2 = true then some (s_num T n q).1 else none)
  else if T q = 34 then (3, (s_code T n (n + 1) (q + 1)).1, none, (s_code T n (n + 1) (q + 1)).2)
  else if ¬ pairv (T q) (T (q + 1)) = 0 then (nI (pairv (T q) (T (q + 1))), q + 2, none, none)
  else if T q = 62 then (260, q + 1, none, some (q + 1))
  else if isS (T q) = true then (nI (T q), q + 1, none, none)
  else (-1, q, none, none)
def numv (v : Int64) : Option Nat → Int64
  | none => v
  | some x => nJ x
/-- the reader behind a token -/
def tkT (P : Nat) (h : mv_H) (q : Nat) (u : Int32 × Nat × Option Nat × Option Nat) (v : Int64) : Option Int32 × mv_H := match u.2.2.2 with
  | none => (some 0, tkR P h (nI u.2.1) u.1 (nI q) (nI u.2.1) (-1) (numv v u.2.2.1))
  | some x => (none, mv_si (tkR P h (nI u.2.1) u.1 (nI q) (nI u.2.1) (nI x) (numv v u.2.2.1)) (P + 33) 0 (nI x))
theorem nI_neg {x : Nat} (h : x < 2147483648) : ¬ nI x < (0 : Int32) := by
  rw [Int32.lt_iff_toInt_lt, nIi h]
  show ¬ (x : Int) < 0
  omega
section NX
variable {P n : Nat} {h : mv_H}
theorem n260 (p q : Nat) (k t : Int32) (o : Option Nat) (w : Option Nat) (v : Int64) (ho : ∀ x, o = some x → x < 2147483648) : f_Book_next_260 P (tkR P h (nI p) k (nI q) t (bkv o) (numv v w)) = some (tkT P h q (k, p, w, o) v) := by
  unfold f_Book_next_260
  rw [tkR_3, tkR_s6, xk_s, tkR_7]
  cases o with
  | none => rw [if_pos (show bkv none < 0 by decide)]; rfl
  | some x => rw [if_neg (show ¬ bkv (some x) < 0 from nI_neg (ho x rfl))]; rfl
theorem name_lp (hn : (mv_i h P 2).toInt = n) (hn2 : n ≤ 32768) (q : Nat) (t : Int32) (v : Int64) : ∀ (m nn p : Nat), q ≤ p → p ≤ n → n - p < m → n - p < nn →
    f_Book_next_50 P nn (tkR P h (nI p) 1 (nI q) t (-1) v) = some (tkT P h q (1, s_name (ck h n) m p, none, if s_name (ck h n) m p - q ≤ 32 then none else some (q + 32)) v) := by
  intro m
  induction m with
  | zero => intro nn q _ hq hm; omega
  | succ m ih =>
    intro nn p hqp hq hm hnn
    obtain ⟨nn, rfl⟩ : ∃ k, nn = k + 1 := ⟨nn - 1, by omega⟩
    have hc := ck_lt h n p
    have h256 : ¬ p < n → isL (ck h n p) = false ∧ isD (ck h n p) = false := fun z => by
      have : ck h n p = 256 := if_neg z
      rw [this]
      exact ⟨by decide, by decide⟩
    have up : f_Book_next_78 P (f_Book_next_50 P nn) (tkR P h (nI p) 1 (nI q) t (-1) v) = f_Book_next_50 P nn (tkR P h (nI (p + 1)) 1 (nI q) t (-1) v) := by
      unfold f_Book_next_78
      rw [tkR_3, nI1 (by omega), tkR_s3, xk_s]
    show fF_Book_next_50 P (f_Book_next_50 P nn) (tkR P h (nI p) 1 (nI q) t (-1) v) = _
    unfold fF_Book_next_50
    rw [tkR_3, look_t hn hn2 _ _ _ _ _ _ (nIi (by omega)), xhb_s, letter_c _ hc, xhb_s, up]
    have es : s_name (ck h n) (m + 1) p = if isL (ck h n p) = true ∨ isD (ck h n p) = true then s_name (ck h n) m (p + 1) else p := rfl
    cases a : isL (ck h n p)
    · rw [if_pos (show b01 false = 0 from rfl), tkR_3, look_t hn hn2 _ _ _ _ _ _ (nIi (by omega)), xhb_s, digit_c _ hc, xhb_s, up]
      cases b : isD (ck h n p)
      · have es2 : s_name (ck h n) (m + 1) p = p := by rw [es, a, b]; rfl
        rw [if_pos (show b01 false = 0 from rfl), tkR_3, tkR_5, es2]
        have e3 : (nI p - nI q).toInt = (p : Int) - q := by
          rw [i32_sub (by rw [nIi (by omega), nIi (by omega)]; omega) (by rw [nIi (by omega), nIi (by omega)]; omega), nIi (by omega), nIi (by omega)]
        by_cases c : p - q ≤ 32
        · rw [if_pos (show nI p - nI q ≤ 32 by rw [Int32.le_iff_toInt_le, e3]; show (p : Int) - q ≤ 32; omega), if_pos c]
          exact n260 p q 1 t none none v (fun x z => by cases z)
        · have e4 : nI q + 32 = nI (q + 32) := Int32.toInt_inj.mp (by rw [i32_add (x := nI q) (y := 32) (by rw [nIi (by omega)]; show -2147483648 ≤ ((q : Nat) : Int) + 32; omega) (by rw [nIi (by omega)]; show ((q : Nat) : Int) + 32 < 2147483648; omega), nIi (by omega), nIi (by omega)]; rfl)
          rw [if_neg (show ¬ nI p - nI q ≤ 32 by rw [Int32.le_iff_toInt_le, e3]; show ¬ (p : Int) - q ≤ 32; omega), if_neg c, e4, tkR_s7, xk_s]
          exact n260 p q 1 t (some (q + 32)) none v (fun x z => by cases z; omega)
      · have hp : p < n := by
          by_cases z : p < n
          · exact z
          · have := (h256 z).2; rw [b] at this; cases this
        have es2 : s_name (ck h n) (m + 1) p = s_name (ck h n) m (p + 1) := by rw [es, a, b]; rfl
        rw [if_neg (show ¬ b01 true = 0 by decide), es2]
        exact ih nn (p + 1) (by omega) (by omega) (by omega) (by omega)
    · have hp : p < n := by
        by_cases z : p < n
        · exact z
        · have := (h256 z).1; rw [a] at this; cases this
      have es2 : s_name (ck h n) (m + 1) p = s_name (ck h n) m (p + 1) := by rw [es, a]; rfl
      rw [if_neg (show ¬ b01 true = 0 by decide), es2]
      exact ih nn (p + 1) (by omega) (by omega) (by omega) (by omega)
end NX
theorem s_rem_bd {T : Nat → Nat} {n : Nat} (m p : Nat) (hp : p ≤ n) : p ≤ s_rem T n m p ∧ s_rem T n m p ≤ n := s_rem_le m p hp
theorem s_skip_bd {T : Nat → Nat} {n : Nat} : ∀ (m p : Nat), p ≤ n → p ≤ s_skip T n m p ∧ s_skip T n m p ≤ n := by
  intro m
  induction m with
  | zero => intro p hp; exact ⟨Nat.le_refl _, hp⟩
  | succ m ih =>
    intro p hp
    show p ≤ (if n ≤ p then p else if T p = 35 then s_skip T n m (s_rem T n (n - p) p) else if T p = 9 ∨ T p = 10 ∨ T p = 13 ∨ T p = 32 then s_skip T n m (p + 1) else p) ∧ (if n ≤ p then p else if T p = 35 then s_skip T n m (s_rem T n (n - p) p) else if T p = 9 ∨ T p = 10 ∨ T p = 13 ∨ T p = 32 then s_skip T n m (p + 1) else p) ≤ n
    by_cases a : n ≤ p
    · rw [if_pos a]; omega
    · rw [if_neg a]
      by_cases b : T p = 35
      · rw [if_pos b]
        have h1 := s_rem_le (T := T) (n - p) p hp
        have h2 := ih _ h1.2
        omega
      · rw [if_neg b]
        split
        · have := ih (p + 1) (by omega)
          omega
        · omega
theorem s_name_bd {T : Nat → Nat} {n : Nat} (hT : ∀ p, ¬ p < n → T p = 256) : ∀ (m p : Nat), p ≤ n → p ≤ s_name T m p ∧ s_name T m p ≤ n := by
  intro m
  induction m with
  | zero => intro p hp; exact ⟨Nat.le_refl _, hp⟩
  | succ m ih =>
    intro p hp
    show p ≤ (if isL (T p) = true ∨ isD (T p) = true then s_name T m (p + 1) else p) ∧ (if isL (T p) = true ∨ isD (T p) = true then s_name T m (p + 1) else p) ≤ n
    by_cases a : isL (T p) = true ∨ isD (T p) = true
    · have hp : p < n := by
        by_cases z : p < n
        · exact z
        · rw [hT p z] at a
          exact absurd a (by decide)
      rw [if_pos a]
      have := ih (p + 1) (by omega)
      omega
    · rw [if_neg a]; omega
theorem s_code_bd {T : Nat → Nat} {n : Nat} : ∀ (m p : Nat), p ≤ n → p ≤ (s_code T n m p).1 ∧ (s_code T n m p).1 ≤ n ∧ (∀ x, (s_code T n m p).2 = some x → x ≤ n) := by
  intro m
  induction m with
  | zero => intro p hp; exact ⟨Nat.le_refl _, hp, fun x z => by cases z⟩
  | succ m ih =>
    intro p hp
    have es : s_code T n (m + 1) p = if n ≤ p then (n, some n) else if T p = 34 then (p + 1, none) else if T p = 48 ∨ T p = 49 ∨ T p = 46 ∨ (isL (T p) = true ∧ ¬ T p = 95) then s_code T n m (p + 1) else (p, some p) := rfl
    rw [es]
    by_cases a : n ≤ p
    · rw [if_pos a]; exact ⟨hp, Nat.le_refl _, fun x z => by cases z; omega⟩
    · rw [if_neg a]
      by_cases b : T p = 34
      · rw [if_pos b]; exact ⟨by show p ≤ p + 1; omega, by show p + 1 ≤ n; omega, fun x z => by cases z⟩
      · rw [if_neg b]
        split
        · have := ih (p + 1) (by omega)
          exact ⟨by omega, this.2⟩
        · exact ⟨Nat.le_refl _, hp, fun x z => by cases z; omega⟩
theorem s_dec_bd {T : Nat → Nat} {n : Nat} (hT : ∀ p, ¬ p < n → T p = 256) : ∀ (m p v : Nat), p ≤ n → v < 18446744073709551616 → p ≤ (s_dec T m p v).1 ∧ (s_dec T m p v).1 ≤ n ∧ (s_dec T m p v).2 < 18446744073709551616 := by
  intro m
  induction m with
  | zero => intro p v hp hv; exact ⟨Nat.le_refl _, hp, hv⟩
  | succ m ih =>
    intro p v hp hv
    have es : s_dec T (m + 1) p v = if isD (T p) = true ∧ v * 10 + (T p - 48) < 18446744073709551616 then s_dec T m (p + 1) (v * 10 + (T p - 48)) else (p, v) := rfl
    rw [es]
    by_cases a : isD (T p) = true ∧ v * 10 + (T p - 48) < 18446744073709551616
    · have hp : p < n := by
        by_cases z : p < n
        · exact z
        · rw [hT p z] at a
          exact absurd a.1 (by decide)
      rw [if_pos a]
      have := ih (p + 1) _ (by omega) a.2
      exact ⟨by omega, this.2⟩
    · rw [if_neg a]; exact ⟨Nat.le_refl _, hp, hv⟩
theorem s_hex_bd {T : Nat → Nat} {n : Nat} (hT : ∀ p, ¬ p < n → T p = 256) (hT2 : ∀ p, T p ≤ 256) : ∀ (m p v c : Nat), p ≤ n → v < 16 ^ c → c ≤ 16 → p ≤ (s_hex T m p v c).1 ∧ (s_hex T m p v c).1 ≤ n ∧ (s_hex T m p v c).2.1 < 18446744073709551616 := by
  intro m
  have h16 : ∀ c, c ≤ 16 → 16 ^ c ≤ 18446744073709551616 := fun c hc => Nat.le_trans (Nat.pow_le_pow_right (by decide) hc) (by decide)
  induction m with
  | zero => intro p v c hp hv hc; exact ⟨Nat.le_refl _, hp, by have := h16 c hc; show v < _; omega⟩
  | succ m ih =>
    intro p v c hp hv hc
    have es : s_hex T (m + 1) p v c = if ¬ hexv (T p) = 0 ∧ ¬ c = 16 then s_hex T m (p + 1) (v * 16 + (hexv (T p) - 1)) (c + 1) else (p, v, c) := rfl
    rw [es]
    by_cases a : ¬ hexv (T p) = 0 ∧ ¬ c = 16
    · have hp : p < n := by
        by_cases z : p < n
        · exact z
        · rw [hT p z] at a
          exact absurd a.1 (by decide)
      rw [if_pos a]
      have hh := (hexv_le (T p) (by have := hT2 p; omega)).1
      have := ih (p + 1) (v * 16 + (hexv (T p) - 1)) (c + 1) (by omega) (by rw [Nat.pow_succ]; omega) (by omega)
      exact ⟨by omega, this.2⟩
    · rw [if_neg a]; exact ⟨Nat.le_refl _, hp, by have := h16 c hc; show v < _; omega⟩
theorem s_num_bd {T : Nat → Nat} {n : Nat} (hT : ∀ p, ¬ p < n → T p = 256) (hT2 : ∀ p, T p ≤ 256) {p : Nat} (hp : p ≤ n) : p ≤ (s_num T n p).1 ∧ (s_num T n p).1 ≤ n ∧ (s_num T n p).2.1 < 18446744073709551616 := by
  unfold s_num
  by_cases a : T p = 48 ∧ T (p + 1) = 120
  · rw [if_pos a]
    have hp : p + 1 < n := by
      by_cases z : p + 1 < n
      · exact z
      · have := hT (p + 1) z; omega
    have := s_hex_bd hT hT2 (n + 3) (p + 2) 0 0 (by omega) (by decide) (by decide)
    exact ⟨by omega, this.2⟩
  · rw [if_neg a]
    exact s_dec_bd hT (n + 1) p 0 hp (by decide)
theorem ck_end (h : mv_H) (n p : Nat) (z : ¬ p < n) : ck h n p = 256 := if_neg z
theorem ck_256 {h : mv_H} {n p : Nat} (z : p < n) : ck h n p < 256 := by
  unfold ck
  rw [if_pos z]
  have := xand255 (mv_a h 71 p)
  have := i32_cl this.1
  omega
theorem pairv_le (c d : Nat) : pairv c d ≤ 260 := by
  unfold pairv
  generalize (Nat.beq c 61 && Nat.beq d 61) = b1
  generalize (Nat.beq c 33 && Nat.beq d 61) = b2
  generalize (Nat.beq c 60 && Nat.beq d 61) = b3
  generalize (Nat.beq c 60 && Nat.beq d 60) = b4
  generalize (Nat.beq c 62 && Nat.beq d 62) = b5
  cases b1 <;> cases b2 <;> cases b3 <;> cases b4 <;> cases b5 <;> decide
theorem pairv_256 : ∀ c, c < 257 → pairv c 256 = 0 := by decide +kernel
section NX2
variable {P n : Nat} {h : mv_H}
theorem num_t (hn : (mv_i h P 2).toInt = n) (hn2 : n ≤ 32768) {q : Nat} (hq : q < n) (hd : isD (ck h n q) = true) (k s t : Int32) (v : Int64) :
    f_Book_readNumber P (tkR P h (nI q) k s t (-1) v) = some (tkR P h (nI (s_num (ck h n) n q).1) 2 s t (bkv (if (s_num (ck h n) n q).2.2 = true then some (s_num (ck h n) n q).1 else none)) (nJ (s_num (ck h n) n q).2.1)) := by
  have e := rn_e (P := P) (h := tkR P h (nI q) k s t (-1) v) (n := n) (by rw [tkR_2]; exact hn) hn2 hq hd (tkR_3 ..)
  rw [e]
  have ec : ck (tkR P h (nI q) k s t (-1) v) n = ck h n := rfl
  rw [ec]
  generalize s_num (ck h n) n q = u
  obtain ⟨a, b, c⟩ := u
  show some (brk P (mv_si (mv_sl (mv_si (tkR P h (nI q) k s t (-1) v) P 4 2) P 9 (nJ b)) P 3 (nI a)) c a) = _
  rw [tkR_s4, tkR_s9, tkR_s3]
  cases c
  · rfl
  · show some (mv_si _ P 7 (nI a)) = _
    rw [tkR_s7]
    rfl
theorem chr0 {c : Nat} (hc : c ≤ 256) : (0 : Int32) ≤ chr c ↔ ¬ c = 256 := by
  have hh : ∀ c, c < 257 → ((0 : Int32) ≤ chr c ↔ ¬ c = 256) := by decide +kernel
  exact hh c (by omega)
theorem next_e (hn : (mv_i h P 2).toInt = n) (hn2 : n ≤ 32768) {p : Nat} (hp : p ≤ n) (k s t b : Int32) (v : Int64) :
    f_Book_next P (tkR P h (nI p) k s t b v) = some (tkT P h (s_skip (ck h n) n (n + 1) p) (s_tok (ck h n) n (s_skip (ck h n) n (n + 1) p)) v) := by
  unfold f_Book_next
  rw [skip_t P h k s t b v hn hn2 hp, xhv_s]
  have hq := (s_skip_bd (T := ck h n) (n + 1) p hp).2
  generalize s_skip (ck h n) n (n + 1) p = q at hq ⊢
  have hc := ck_lt h n q
  have hd := ck_lt h n (q + 1)
  rw [tkR_3, tkR_s5, xk_s, tkR_s7, xk_s, tkR_3, look_t hn hn2 _ _ _ _ _ _ (nIi (by omega)), xhb_s]
  simp only [chr0 hc]
  unfold s_tok
  by_cases a : ck h n q = 256
  · rw [if_neg (fun z => z a), if_pos a, tkR_s4, xk_s]
    exact n260 q q 0 t none none v (fun x z => by cases z)
  have hqn : q < n := by
    by_cases z : q < n
    · exact z
    · exact absurd (ck_end h n q z) a
  rw [if_pos a, if_neg a, letter_c _ hc, xhb_s]
  cases aL : isL (ck h n q)
  case true =>
    rw [if_neg (show ¬ b01 true = 0 by decide), if_pos rfl, tkR_s4, xk_s]
    exact name_lp hn hn2 q t v (n + 1) 200000 q (Nat.le_refl _) hq (by omega) (by omega)
  rw [if_pos (show b01 false = 0 from rfl), if_neg (show ¬ false = true by decide), digit_c _ hc, xhb_s]
  cases aD : isD (ck h n q)
  case true =>
    rw [if_neg (show ¬ b01 true = 0 by decide), if_pos rfl, num_t hn hn2 hqn aD, xhv_s]
    have := s_num_bd (T := ck h n) (ck_end h n) (ck_lt h n) hq
    exact n260 _ q 2 t _ (some (s_num (ck h n) n q).2.1) v (fun x z => by
      split at z
      · cases z; omega
      · cases z)
  rw [if_pos (show b01 false = 0 from rfl), if_neg (show ¬ false = true by decide)]
  simp only [chrk (k := 34) (m := 34) hc rfl (by decide), chrk (k := 62) (m := 62) hc rfl (by decide)]
  by_cases a34 : ck h n q = 34
  · rw [if_pos a34, if_pos a34]
    unfold f_Book_readCode
    rw [tkR_s4, xk_s, tkR_3, nI1 (by omega), tkR_s3, xk_s, code_lp hn hn2 3 (nI q) t v (n + 1) 200000 (q + 1) (by omega) (by omega) (by omega), xhv_s]
    have := s_code_bd (T := ck h n) (n := n) (n + 1) (q + 1) (by omega)
    exact n260 _ q 3 t _ none v (fun x z => by have := this.2.2 x z; omega)
  rw [if_neg a34, if_neg a34, tkR_3, nI1 (by omega), look_t hn hn2 _ _ _ _ _ _ (nIi (p := q + 1) (by omega)), xhb_s, pair_c _ _ hc hd, xhb_s]
  have hpv := pairv_le (ck h n q) (ck h n (q + 1))
  have e0 : nI (pairv (ck h n q) (ck h n (q + 1))) ≤ 0 ↔ pairv (ck h n q) (ck h n (q + 1)) = 0 := by
    rw [Int32.le_iff_toInt_le, nIi (by omega)]
    show ((pairv (ck h n q) (ck h n (q + 1)) : Nat) : Int) ≤ 0 ↔ _
    omega
  by_cases az : pairv (ck h n q) (ck h n (q + 1)) = 0
  · rw [if_pos (e0.mpr az), if_neg (show ¬ ¬ pairv (ck h n q) (ck h n (q + 1)) = 0 from fun z => z az)]
    by_cases a62 : ck h n q = 62
    · rw [if_pos a62, if_pos a62, tkR_s4, xk_s, tkR_3, nI1 (by omega), tkR_s3, xk_s, tkR_3, tkR_s7, xk_s]
      exact n260 (q + 1) q 260 t (some (q + 1)) none v (fun x z => by cases z; omega)
    · rw [if_neg a62, if_neg a62, sign_c _ hc, xhb_s]
      cases aS : isS (ck h n q)
      · rw [if_pos (show b01 false = 0 from rfl), if_neg (show ¬ false = true by decide), tkR_s4, xk_s]
        exact n260 q q (-1) t none none v (fun x z => by cases z)
      · rw [if_neg (show ¬ b01 true = 0 by decide), if_pos rfl, tkR_s4, xk_s, tkR_3, nI1 (by omega), tkR_s3, xk_s, chr_lt (by omega)]
        exact n260 (q + 1) q _ t none none v (fun x z => by cases z)
  · have e2 : nI q + 2 = nI (q + 2) := Int32.toInt_inj.mp (by rw [i32_add (x := nI q) (y := 2) (by rw [nIi (by omega)]; show -2147483648 ≤ ((q : Nat) : Int) + 2; omega) (by rw [nIi (by omega)]; show ((q : Nat) : Int) + 2 < 2147483648; omega), nIi (by omega), nIi (by omega)]; rfl)
    rw [if_neg (fun z => az (e0.mp z)), if_pos az, tkR_3, nI1 (by omega), look_t hn hn2 _ _ _ _ _ _ (nIi (p := q + 1) (by omega)), xhb_s, pair_c _ _ hc hd, xhb_s, tkR_s4, xk_s, tkR_3, e2, tkR_s3, xk_s]
    exact n260 (q + 2) q _ t none none v (fun x z => by cases z)
end NX2
section SPEC
variable {T : Nat → Nat} {n : Nat}
theorem s_rem_u (m p : Nat) : s_rem T n (m + 1) p = if p < n ∧ ¬ T p = 10 then s_rem T n m (p + 1) else p := rfl
theorem s_skip_u (m p : Nat) : s_skip T n (m + 1) p = if n ≤ p then p else if T p = 35 then s_skip T n m (s_rem T n (n - p) p) else if T p = 9 ∨ T p = 10 ∨ T p = 13 ∨ T p = 32 then s_skip T n m (p + 1) else p := rfl
theorem s_rem_z : ∀ (m p : Nat), n ≤ p → s_rem T n m p = p := by
  intro m p hp
  cases m with
  | zero => rfl
  | succ m => rw [s_rem_u, if_neg (by omega)]
theorem rm_n {p : Nat} (hp : p < n) (h : ¬ T p = 10) : s_rem T n (n - p) p = s_rem T n (n - (p + 1)) (p + 1) := by
  obtain ⟨k, hk⟩ : ∃ k, n - p = k + 1 := ⟨n - p - 1, by omega⟩
  rw [hk, s_rem_u, if_pos ⟨hp, h⟩, show n - (p + 1) = k by omega]
theorem rm_e {p : Nat} (h : T p = 10) : s_rem T n (n - p) p = p := by
  cases hk : n - p with
  | zero => rfl
  | succ k => rw [s_rem_u, if_neg (fun z => z.2 h)]
theorem s_skip_f : ∀ (m m' p : Nat), p ≤ n → n - p < m → n - p < m' → s_skip T n m p = s_skip T n m' p := by
  intro m
  induction m with
  | zero => intro m' p _ h; omega
  | succ m ih =>
    intro m' p hp h1 h2
    obtain ⟨k, rfl⟩ : ∃ k, m' = k + 1 := ⟨m' - 1, by omega⟩
    rw [s_skip_u, s_skip_u]
    by_cases a : n ≤ p
    · rw [if_pos a, if_pos a]
    · rw [if_neg a, if_neg a]
      by_cases b : T p = 35
      · rw [if_pos b, if_pos b]
        have h3 := s_rem_le (T := T) (n - p) p hp
        have h4 := s_rem_lt (m := 0) (show p < n by omega) b
        exact ih k _ h3.2 (by omega) (by omega)
      · rw [if_neg b, if_neg b]
        by_cases c : T p = 9 ∨ T p = 10 ∨ T p = 13 ∨ T p = 32
        · rw [if_pos c, if_pos c]
          exact ih k _ (by omega) (by omega) (by omega)
        · rw [if_neg c, if_neg c]
theorem sk_e {p : Nat} (hp : n ≤ p) : s_skip T n (n + 1) p = p := by rw [s_skip_u, if_pos hp]
theorem sk_r {p : Nat} (hp : p < n) (h : T p = 35) : s_skip T n (n + 1) p = s_skip T n (n + 1) (s_rem T n (n - p) p) := by
  have h3 := s_rem_le (T := T) (n - p) p (show p ≤ n by omega)
  have h4 := s_rem_lt (m := 0) hp h
  rw [s_skip_u, if_neg (by omega), if_pos h]
  exact s_skip_f n (n + 1) _ h3.2 (by omega) (by omega)
theorem sk_b {p : Nat} (hp : p < n) (h : T p = 9 ∨ T p = 10 ∨ T p = 13 ∨ T p = 32) : s_skip T n (n + 1) p = s_skip T n (n + 1) (p + 1) := by
  rw [s_skip_u, if_neg (by omega), if_neg (by omega), if_pos h]
  exact s_skip_f n (n + 1) _ (by omega) (by omega) (by omega)
theorem sk_o {p : Nat} (h1 : ¬ T p = 35) (h : ¬ (T p = 9 ∨ T p = 10 ∨ T p = 13 ∨ T p = 32)) : s_skip T n (n + 1) p = p := by
  rw [s_skip_u, if_neg h1, if_neg h]
  split <;> rfl
end SPEC
/-- a byte as it lies in a row -/
def sb (c : Nat) : Int32 := if c < 128 then nI c else nI c - 256
/-- the class's text, n characters -/
def cc (h : mv_H) (n p : Nat) : Nat := if p < n then ((mv_a h 1 p) &&& 255).toNatClampNeg else 256
/-- its row holds bytes -/
def byt (h : mv_H) : Prop := ∀ p, p < 32768 → mv_a h 1 p = sb ((mv_a h 1 p) &&& 255).toNatClampNeg
theorem cc_lt (h : mv_H) (n p : Nat) : cc h n p ≤ 256 := by
  unfold cc
  split
  · have := xand255 (mv_a h 1 p)
    have := i32_cl this.1
    omega
  · exact Nat.le_refl _
theorem cc_256 {h : mv_H} {n p : Nat} (z : p < n) : cc h n p < 256 := by
  unfold cc
  rw [if_pos z]
  have := xand255 (mv_a h 1 p)
  have := i32_cl this.1
  omega
theorem cc_end (h : mv_H) (n p : Nat) (z : ¬ p < n) : cc h n p = 256 := if_neg z
theorem cc_b {h : mv_H} (hb : byt h) {n p : Nat} (hn2 : n ≤ 32768) (z : p < n) : mv_a h 1 p = sb (cc h n p) := by
  rw [hb p (by omega)]
  unfold cc
  rw [if_pos z, ← hb p (by omega)]
theorem sb_i {c : Nat} (hc : c < 256) : (sb c).toInt = if c < 128 then (c : Int) else (c : Int) - 256 := by
  have hh : ∀ c, c < 256 → (sb c).toInt = if c < 128 then (c : Int) else (c : Int) - 256 := by decide +kernel
  exact hh c hc
theorem sbk {c m : Nat} {k : Int32} (hc : c < 256) (hk : k = nI m) (hm : m < 128) : sb c = k ↔ c = m := by
  rw [hk, ← Int32.toInt_inj, sb_i hc, nIi (by omega)]
  split <;> omega
theorem xvi_n {p N : Nat} (h : p < N) (hN : N ≤ 65536) : xvi (nI p) N = true := xvi_in.mpr (i32_in (by rw [nIi (by omega)]; omega) (by rw [nIi (by omega)]; omega))
theorem cln {p : Nat} (h : p < 2147483648) : (nI p).toNatClampNeg = p := by
  have e := nIi h
  have := i32_cl (x := nI p) (by omega)
  omega
theorem nIle {a b : Nat} (ha : a < 2147483648) (hb : b < 2147483648) : nI a ≤ nI b ↔ a ≤ b := by
  rw [Int32.le_iff_toInt_le, nIi ha, nIi hb]
  omega
theorem bs_lp {h : mv_H} {n : Nat} (hn : mv_i h 3 5 = nI n) (hn2 : n ≤ 32768) (hb : byt h) : ∀ (m p nn : Nat), p ≤ n → n - p ≤ m → n - p < nn →
    f_Tokens_behindSpaces_4 nn 0 (nI p) h = some (nI (s_skip (cc h n) n (n + 1) p), h) ∧ f_Tokens_behindSpaces_4 nn 1 (nI p) h = some (nI (s_skip (cc h n) n (n + 1) (s_rem (cc h n) n (n - p) p)), h) := by
  intro m
  induction m with
  | zero =>
    intro p nn hp hm hnn
    obtain ⟨nn, rfl⟩ : ∃ k, nn = k + 1 := ⟨nn - 1, by omega⟩
    have ep : p = n := by omega
    constructor
    · show fF_Tokens_behindSpaces_4 (f_Tokens_behindSpaces_4 nn) 0 (nI p) h = _
      unfold fF_Tokens_behindSpaces_4
      rw [hn, if_pos ((nIle (by omega) (by omega)).mpr (by omega)), sk_e (by omega), ep]
    · show fF_Tokens_behindSpaces_4 (f_Tokens_behindSpaces_4 nn) 1 (nI p) h = _
      unfold fF_Tokens_behindSpaces_4
      rw [hn, if_pos ((nIle (by omega) (by omega)).mpr (by omega)), s_rem_z _ _ (by omega), sk_e (by omega), ep]
  | succ m ih =>
    intro p nn hp hm hnn
    obtain ⟨nn, rfl⟩ : ∃ k, nn = k + 1 := ⟨nn - 1, by omega⟩
    show fF_Tokens_behindSpaces_4 (f_Tokens_behindSpaces_4 nn) 0 (nI p) h = _ ∧ fF_Tokens_behindSpaces_4 (f_Tokens_behindSpaces_4 nn) 1 (nI p) h = _
    unfold fF_Tokens_behindSpaces_4
    rw [hn]
    by_cases a : n ≤ p
    · have ep : p = n := by omega
      rw [if_pos ((nIle (by omega) (by omega)).mpr a), if_pos ((nIle (by omega) (by omega)).mpr a), s_rem_z _ _ (by omega), sk_e (by omega), ep]
      exact ⟨rfl, rfl⟩
    · rw [if_neg (fun z => a ((nIle (by omega) (by omega)).mp z)), if_neg (fun z => a ((nIle (by omega) (by omega)).mp z)), xvi_n (by omega) (by decide), cln (by omega), cc_b hb hn2 (show p < n by omega)]
      have hc := cc_256 (h := h) (show p < n by omega)
      simp only [sbk (k := 35) (m := 35) hc rfl (by decide), sbk (k := 10) (m := 10) hc rfl (by decide), sbk (k := 32) (m := 32) hc rfl (by decide), sbk (k := 9) (m := 9) hc rfl (by decide), sbk (k := 13) (m := 13) hc rfl (by decide), cond_true]
      unfold f_Tokens_behindSpaces_71
      rw [nI1 (by omega)]
      have go := ih (p + 1) nn (by omega) (by omega) (by omega)
      by_cases c1 : cc h n p = 35
      · rw [if_pos c1, if_pos c1, sk_r (by omega) c1, rm_n (by omega) (by omega)]
        exact ⟨go.2, go.2⟩
      · by_cases c2 : cc h n p = 10
        · rw [if_neg c1, if_neg c1, if_pos c2, if_pos c2, rm_e c2, sk_b (by omega) (by omega)]
          exact ⟨go.1, go.1⟩
        · rw [if_neg c1, if_neg c1, if_neg c2, if_neg c2, if_pos trivial, if_neg (show ¬ (1 : Int32) = 0 by decide), rm_n (by omega) c2]
          refine ⟨?_, go.2⟩
          by_cases c3 : cc h n p = 32
          · rw [if_pos c3, sk_b (by omega) (by omega)]; exact go.1
          · by_cases c4 : cc h n p = 9
            · rw [if_neg c3, if_pos c4, sk_b (by omega) (by omega)]; exact go.1
            · by_cases c5 : cc h n p = 13
              · rw [if_neg c3, if_neg c4, if_pos c5, sk_b (by omega) (by omega)]; exact go.1
              · rw [if_neg c3, if_neg c4, if_neg c5, sk_o c1 (by omega)]
theorem bs_e {h : mv_H} {n : Nat} (hn : mv_i h 3 5 = nI n) (hn2 : n ≤ 32768) (hb : byt h) {p : Nat} (hp : p ≤ n) : f_Tokens_behindSpaces h (nI p) = some (nI (s_skip (cc h n) n (n + 1) p), h) := (bs_lp hn hn2 hb (n - p) p 200000 hp (Nat.le_refl _) (by omega)).1
/-- letters, the underscore apart -/
def isl (c : Nat) : Bool := (Nat.ble 97 c && Nat.ble c 122) || (Nat.ble 65 c && Nat.ble c 90)
def vl (x : Int32) : Int32 := if (97 ≤ x ∧ x ≤ 122) ∨ (65 ≤ x ∧ x ≤ 90) then 1 else 0
section CCH
variable (h : mv_H)
theorem tD_v (x : Int32) : f_Tokens_isDigit h x = some (vD x, h) := by
  unfold f_Tokens_isDigit f_Tokens_isDigit_16 vD
  rw [xz0, xz1']
  simp only [← Int32.not_le, cond_true]
  by_cases a : (48 : Int32) ≤ x <;> by_cases b : x ≤ 57 <;> simp [a, b]
theorem tL_v (x : Int32) : f_Tokens_isLetter h x = some (vl x, h) := by
  unfold f_Tokens_isLetter f_Tokens_isLetter_12 f_Tokens_isLetter_24 f_Tokens_isLetter_28 vl
  rw [xz0, xz1']
  simp only [← Int32.not_le, cond_true]
  by_cases a : (97 : Int32) ≤ x <;> by_cases b : x ≤ 122 <;> by_cases c : (65 : Int32) ≤ x <;> by_cases d : x ≤ 90 <;> simp [a, b, c, d]
theorem tH_v (x : Int32) : f_Tokens_hexDigit h x = some (vH x, h) := by
  unfold f_Tokens_hexDigit f_Tokens_hexDigit_32 f_Tokens_hexDigit_54 vH
  rw [tD_v]
  show (if vD x = 0 then _ else _) = _
  simp only [← Int32.not_le]
  by_cases z : vD x = 0 <;> by_cases a : (97 : Int32) ≤ x <;> by_cases b : x ≤ 102 <;> by_cases c : (65 : Int32) ≤ x <;> by_cases d : x ≤ 70 <;> simp [z, a, b, c, d]
def vN (x : Int32) : Int32 := if vl x = 0 then (if vD x = 0 then (if x = 95 then 1 else 0) else 1) else 1
theorem tN_v (x : Int32) : f_Tokens_isOfName h x = some (vN x, h) := by
  unfold f_Tokens_isOfName f_Tokens_isOfName_20 vN
  rw [tL_v, xhb_s, tD_v, xhb_s, xz0, xz1']
  simp only [cond_true]
  by_cases a : vl x = 0 <;> by_cases b : vD x = 0 <;> by_cases c : x = 95 <;> simp [a, b, c]
def vC (x : Int32) : Int32 := if vl x = 0 then (if x = 48 ∨ x = 49 ∨ x = 46 then 1 else 0) else 1
theorem tC_v (x : Int32) : f_Tokens_isOfCode h x = some (vC x, h) := by
  unfold f_Tokens_isOfCode f_Tokens_isOfCode_25 vC
  rw [tL_v, xhb_s, xz0, xz1']
  simp only [cond_true]
  by_cases a : vl x = 0 <;> by_cases b : x = 48 <;> by_cases c : x = 49 <;> by_cases d : x = 46 <;> simp [a, b, c, d]
theorem vl_c : ∀ c, c < 257 → vl (chr c) = b01 (isl c) := by decide +kernel
theorem vl_s : ∀ c, c < 256 → vl (sb c) = b01 (isl c) := by decide +kernel
theorem vD_s : ∀ c, c < 256 → vD (sb c) = b01 (isD c) := by decide +kernel
theorem vH_s : ∀ c, c < 256 → vH (sb c) = (if hexv c = 0 then -1 else nI (hexv c - 1)) := by decide +kernel
theorem vN_s : ∀ c, c < 256 → vN (sb c) = b01 (isL c || isD c) := by decide +kernel
theorem vC_s : ∀ c, c < 256 → vC (sb c) = b01 (isl c || Nat.beq c 48 || Nat.beq c 49 || Nat.beq c 46) := by decide +kernel
theorem isl_L : ∀ c, c < 257 → isL c = (isl c || Nat.beq c 95) := by decide +kernel
end CCH
theorem cat_e {h : mv_H} {n : Nat} (hn : mv_i h 3 5 = nI n) (hn2 : n ≤ 32768) {p : Nat} (hp : p < 2147483648) : f_Tokens_characterAt h (nI p) = some (chr (cc h n p), h) := by
  unfold f_Tokens_characterAt
  rw [hn]
  by_cases a : n ≤ p
  · rw [if_pos ((nIle (by omega) (by omega)).mpr a), cc_end h n p (by omega)]
    rfl
  · rw [if_neg (fun z => a ((nIle (by omega) (by omega)).mp z)), xvi_n (by omega) (by decide), cln (by omega), cond_true]
    have hc := cc_256 (h := h) (show p < n by omega)
    rw [chr_lt hc]
    unfold cc
    rw [if_pos (by omega)]
    have := xand255 (mv_a h 1 p)
    have e : (mv_a h 1 p &&& 255) = nI (mv_a h 1 p &&& 255).toNatClampNeg := Int32.toInt_inj.mp ((i32_cl this.1).symm.trans (nI_toInt (by have := i32_cl this.1; omega)).symm)
    rw [← e]
/-- one token more -/
def addT (h : mv_H) (z : Nat) (k pl : Int32) (v : Int64) : mv_H := mv_si (mv_sb (mv_sa (mv_sa h 4 z k) 5 z pl) 6 z v) 3 6 (nI (z + 1))
theorem add_e {h : mv_H} {z : Nat} (hz : mv_i h 3 6 = nI z) (hz2 : z < 32770) (k pl bh : Int32) (v : Int64) : f_Tokens_add h k pl v bh = some (bh, addT h z k pl v) := by
  unfold f_Tokens_add
  have e2 : ∀ a b, mv_i (mv_sa h 4 a b) 3 6 = mv_i h 3 6 := fun _ _ => rfl
  have e3 : ∀ a b c d, mv_i (mv_sa (mv_sa h 4 a b) 5 c d) 3 6 = mv_i h 3 6 := fun _ _ _ _ => rfl
  have e4 : ∀ a b c d e f, mv_i (mv_sb (mv_sa (mv_sa h 4 a b) 5 c d) 6 e f) 3 6 = mv_i h 3 6 := fun _ _ _ _ _ _ => rfl
  simp only [xk_s, e2, e3, e4, hz, xvi_n hz2 (by decide), cond_true, cln (show z < 2147483648 by omega), nI1 (show z < 2147483647 by omega)]
  rfl
theorem brk_e {h : mv_H} {z : Nat} (hz : mv_i h 3 6 = nI z) (hz2 : z < 32770) (x : Int32) : f_Tokens_broken h x = some (-1, addT h z 2 x 0) := by
  unfold f_Tokens_broken
  rw [add_e hz hz2]
  rfl
theorem num_e {h : mv_H} {n z : Nat} (hn : mv_i h 3 5 = nI n) (hn2 : n ≤ 32768) (hz : mv_i h 3 6 = nI z) (hz2 : z < 32770) (a0 : Int32) {p : Nat} (hp : p < 2147483648) (v : Int64) : f_Tokens_number h a0 (nI p) v = some (if isL (cc h n p) = true then (-1, addT h z 2 (nI p) 0) else (nI p, addT h z 4 a0 v)) := by
  unfold f_Tokens_number f_Tokens_number_22
  have hc := cc_lt h n p
  rw [cat_e hn hn2 hp, xhb_s, tL_v, xhb_s, brk_e hz hz2, xhb_s, add_e hz hz2, xhb_s, vl_c _ (by omega), isl_L _ (by omega)]
  simp only [chrk (k := 95) (m := 95) hc rfl (by decide)]
  cases a : isl (cc h n p)
  · rw [if_pos (show b01 false = 0 from rfl)]
    by_cases b : cc h n p = 95
    · rw [if_pos b, b]; rfl
    · have : Nat.beq (cc h n p) 95 = false := by
        cases q : Nat.beq (cc h n p) 95
        · rfl
        · exact absurd (Nat.eq_of_beq_eq_true q) b
      rw [if_neg b, this]; rfl
  · rw [if_neg (show ¬ b01 true = 0 by decide)]; rfl
section LC
theorem ys_v (x : Nat) : ys x = (x + 9223372036854775808) % 18446744073709551616 := rfl
theorem lc_v (v w : Nat) : lg_cmp (nJ v) (nJ w) = if ys w < ys v then 1 else if ys v = ys w then 0 else -1 := by
  rw [xJ_cmp]
  unfold ycmp
  by_cases a : ys w < ys v
  · rw [if_pos a, Nat.blt_eq.mpr a]; rfl
  · rw [if_neg a]
    have e1 : Nat.blt (ys w) (ys v) = false := by
      cases q : Nat.blt (ys w) (ys v)
      · rfl
      · exact absurd (Nat.blt_eq.mp q) a
    rw [e1]
    by_cases b : ys v = ys w
    · rw [if_pos b, b]
      have : Nat.beq (ys w) (ys w) = true := Nat.beq_refl _
      rw [this]; rfl
    · have e2 : Nat.beq (ys v) (ys w) = false := by
        cases q : Nat.beq (ys v) (ys w)
        · rfl
        · exact absurd (Nat.eq_of_beq_eq_true q) b
      rw [if_neg b, e2]; rfl
theorem lc_neg {v : Nat} (hv : v < 18446744073709551616) : lg_cmp (nJ v) 0 < 0 ↔ 9223372036854775808 ≤ v := by
  have e0 : (0 : Int64) = nJ 0 := rfl
  rw [e0, lc_v, ys_v, ys_v]
  split
  · exact ⟨fun z => absurd z (by decide), fun z => by omega⟩
  · split
    · exact ⟨fun z => absurd z (by decide), fun z => by omega⟩
    · exact ⟨fun _ => by omega, fun _ => by decide⟩
theorem lc_le {v w : Nat} (hv : v < 9223372036854775808) (hw : w < 9223372036854775808) : lg_cmp (nJ v) (nJ w) ≤ 0 ↔ v ≤ w := by
  rw [lc_v, ys_v, ys_v]
  split
  · exact ⟨fun z => absurd z (by decide), fun z => by omega⟩
  · split
    · exact ⟨fun _ => by omega, fun z => by decide⟩
    · exact ⟨fun _ => by omega, fun _ => by decide⟩
theorem lc_eq {v w : Nat} (hv : v < 9223372036854775808) (hw : w < 9223372036854775808) : lg_cmp (nJ v) (nJ w) = 0 ↔ v = w := by
  rw [lc_v, ys_v, ys_v]
  split
  · exact ⟨fun z => absurd z (by decide), fun z => by omega⟩
  · split
    · exact ⟨fun _ => by omega, fun z => by rfl⟩
    · exact ⟨fun z => absurd z (by decide), fun _ => by omega⟩
end LC
