/-! rows s13 .. s25 -/
/-- what a token adds in the class: broken or not -/
def tkc (h : mv_H) (z : Nat) (b : Option Nat) (k pl : Int32) (v : Int64) (p : Nat) : Int32 × mv_H := match b with
  | some x => (-1, addT h z 2 (nI x) 0)
  | none => (nI p, addT h z k pl v)
def bko (b : Bool) (p : Nat) : Option Nat := if b = true then some p else none
theorem dv_s : ∀ c, c < 256 → isD c = true → sb c - 48 = nI (c - 48) := by decide +kernel
theorem isL_256 : isL 256 = false := by decide
theorem isD_256 : isD 256 = false := by decide
section CUT
variable {h : mv_H} {n z : Nat}
theorem num_k (hn : mv_i h 3 5 = nI n) (hn2 : n ≤ 32768) (hz : mv_i h 3 6 = nI z) (hz2 : z < 32770) (a0 : Int32) {p : Nat} (hp : p < 2147483648) (v : Int64) (hd : isD (cc h n p) = false) : f_Tokens_number h a0 (nI p) v = some (tkc h z (bko (n_end (cc h n) p) p) 4 a0 v p) := by
  rw [num_e hn hn2 hz hz2 a0 hp v]
  unfold n_end
  rw [hd]
  cases isL (cc h n p) <;> rfl
theorem dec_lp (hn : mv_i h 3 5 = nI n) (hn2 : n ≤ 32768) (hb : byt h) (hz : mv_i h 3 6 = nI z) (hz2 : z < 32770) (q : Int32) : ∀ (m nn p v : Nat), p ≤ n → n - p < m → n - p < nn → v < 18446744073709551616 →
    f_Tokens_cutDecimal_5 nn q (nJ v) (nI p) h = some (tkc h z (bko (n_end (cc h n) (s_dec (cc h n) m p v).1) (s_dec (cc h n) m p v).1) 4 q (nJ (s_dec (cc h n) m p v).2) (s_dec (cc h n) m p v).1) := by
  intro m
  induction m with
  | zero => intro nn p v _ h; omega
  | succ m ih =>
    intro nn p v hp hm hnn hv
    obtain ⟨nn, rfl⟩ : ∃ k, nn = k + 1 := ⟨nn - 1, by omega⟩
    have es : s_dec (cc h n) (m + 1) p v = if isD (cc h n p) = true ∧ v * 10 + (cc h n p - 48) < 18446744073709551616 then s_dec (cc h n) m (p + 1) (v * 10 + (cc h n p - 48)) else (p, v) := rfl
    have fin : isD (cc h n p) = false → f_Tokens_cutDecimal_102 q (nJ v) (nI p) h = some (tkc h z (bko (n_end (cc h n) p) p) 4 q (nJ v) p) := fun hd => by
      unfold f_Tokens_cutDecimal_102
      rw [num_k hn hn2 hz hz2 q (by omega) (nJ v) hd]
      rfl
    have bad : isD (cc h n p) = true → f_Tokens_cutDecimal_79 (nI p) h = some (tkc h z (bko (n_end (cc h n) p) p) 4 q (nJ v) p) := fun hd => by
      unfold f_Tokens_cutDecimal_79 n_end
      rw [brk_e hz hz2, hd]
      rfl
    show fF_Tokens_cutDecimal_5 (f_Tokens_cutDecimal_5 nn) q (nJ v) (nI p) h = _
    unfold fF_Tokens_cutDecimal_5
    rw [hn]
    by_cases a : n ≤ p
    · have hd : isD (cc h n p) = false := by rw [cc_end h n p (by omega)]; exact isD_256
      rw [if_pos ((nIle (by omega) (by omega)).mpr a), es, if_neg (fun q => by rw [hd] at q; exact absurd q.1 (by decide))]
      exact fin hd
    · have hc := cc_256 (h := h) (show p < n by omega)
      rw [if_neg (fun z => a ((nIle (by omega) (by omega)).mp z)), xvi_n (by omega) (by decide), cln (by omega), cc_b hb hn2 (show p < n by omega), cond_true, tD_v, xhb_s, vD_s _ hc]
      cases hd : isD (cc h n p)
      · rw [if_pos (show b01 false = 0 from rfl), es, if_neg (fun q => by rw [hd] at q; exact absurd q.1 (by decide))]
        exact fin hd
      · rw [if_neg (show ¬ b01 true = 0 by decide), cond_true, cc_b hb hn2 (show p < n by omega), dv_s _ hc hd]
        have hr := isD_c hd
        have e10 : (1844674407370955161 : Int64) = nJ 1844674407370955161 := by decide
        unfold f_Tokens_cutDecimal_53 f_Tokens_cutDecimal_58
        rw [e10, if_neg (show ¬ (1 : Int32) = 0 by decide), if_pos (show (0 : Int32) = 0 from rfl), bad hd]
        have up : f_Tokens_cutDecimal_86 (f_Tokens_cutDecimal_5 nn) q (nJ v) (nI p) (nI (cc h n p - 48)) h = f_Tokens_cutDecimal_5 nn q (nJ (v * 10 + (cc h n p - 48))) (nI (p + 1)) h := by
          unfold f_Tokens_cutDecimal_86
          have ee : (10 : Int64) = nJ 10 := rfl
          rw [nI1 (by omega), ee, xI_l, xi2l_s (by omega), xJ_mul, xJ_add]
          have ew : nJ (yadd (ymul v 10) (cc h n p - 48)) = nJ (v * 10 + (cc h n p - 48)) := xJ_eq (by unfold yadd ymul; omega)
          rw [ew]
        rw [up]
        have go := fun (hh : v * 10 + (cc h n p - 48) < 18446744073709551616) => ih nn (p + 1) (v * 10 + (cc h n p - 48)) (by omega) (by omega) (by omega) hh
        have e5 : nI (cc h n p - 48) ≤ 5 ↔ cc h n p - 48 ≤ 5 := nIle (b := 5) (by omega) (by decide)
        by_cases n1 : 9223372036854775808 ≤ v
        · rw [if_pos ((lc_neg hv).mpr n1), es, if_neg (by omega)]
        · rw [if_neg (fun z => n1 ((lc_neg hv).mp z))]
          by_cases n2 : v ≤ 1844674407370955161
          · rw [if_pos ((lc_le (by omega) (by decide)).mpr n2)]
            by_cases n3 : v = 1844674407370955161
            · rw [if_pos ((lc_eq (by omega) (by decide)).mpr n3)]
              by_cases n4 : cc h n p - 48 ≤ 5
              · rw [if_pos (e5.mpr n4), es, if_pos ⟨hd, by omega⟩]
                exact go (by omega)
              · rw [if_neg (fun z => n4 (e5.mp z)), es, if_neg (by omega)]
            · rw [if_neg (fun z => n3 ((lc_eq (by omega) (by decide)).mp z)), es, if_pos ⟨hd, by omega⟩]
              exact go (by omega)
          · rw [if_neg (fun z => n2 ((lc_le (by omega) (by decide)).mp z)), es, if_neg (by omega)]
theorem hx_n : ∀ c, c < 257 → (¬ hexv c = 0 → (isD c || isL c) = true) ∧ (hexv c = 0 → isD c = false) := by decide +kernel
theorem hx_256 : hexv 256 = 0 := by decide
theorem hex_lp (hn : mv_i h 3 5 = nI n) (hn2 : n ≤ 32768) (hb : byt h) (hz : mv_i h 3 6 = nI z) (hz2 : z < 32770) {q : Nat} (hq : q + 2 ≤ n) : ∀ (m nn p v c : Nat), p = q + 2 + c → p ≤ n → n - p < m → n - p < nn → v < 16 ^ c → c ≤ 16 →
    f_Tokens_cutHex_7 nn (nI q) (nJ v) (nI p) h = some (tkc h z (bko (Nat.beq (s_hex (cc h n) m p v c).2.2 0 || n_end (cc h n) (s_hex (cc h n) m p v c).1) (s_hex (cc h n) m p v c).1) 4 (nI q) (nJ (s_hex (cc h n) m p v c).2.1) (s_hex (cc h n) m p v c).1) := by
  intro m
  induction m with
  | zero => intro nn p v c _ _ h; omega
  | succ m ih =>
    intro nn p v c hpc hp hm hnn hv hc16
    obtain ⟨nn, rfl⟩ : ∃ k, nn = k + 1 := ⟨nn - 1, by omega⟩
    have es : s_hex (cc h n) (m + 1) p v c = if ¬ hexv (cc h n p) = 0 ∧ ¬ c = 16 then s_hex (cc h n) m (p + 1) (v * 16 + (hexv (cc h n p) - 1)) (c + 1) else (p, v, c) := rfl
    have hcl := cc_lt h n p
    have hx := hx_n (cc h n p) (by omega)
    have ea : ∀ k : Nat, k < 100 → nI q + nI k = nI (q + k) := fun k hk => Int32.toInt_inj.mp (by rw [i32_add (x := nI q) (y := nI k) (by rw [nIi (by omega), nIi (by omega)]; omega) (by rw [nIi (by omega), nIi (by omega)]; omega), nIi (by omega), nIi (by omega), nIi (by omega)]; omega)
    have e2 : nI q + 2 = nI (q + 2) := ea 2 (by decide)
    have e18 : nI q + 18 = nI (q + 18) := ea 18 (by decide)
    have fin : hexv (cc h n p) = 0 → f_Tokens_cutHex_67 (nI q) (nJ v) (nI p) h = some (tkc h z (bko (Nat.beq c 0 || n_end (cc h n) p) p) 4 (nI q) (nJ v) p) := fun hd => by
      unfold f_Tokens_cutHex_67
      rw [e2, num_k hn hn2 hz hz2 (nI q) (by omega) (nJ v) (hx.2 hd), brk_e hz hz2]
      cases c with
      | zero =>
        rw [if_pos (by rw [hpc]), xhb_s]
        rfl
      | succ c =>
        rw [if_neg (fun w => by have := (nI_c (by omega) (by omega)).mp w; omega)]
        rfl
    show fF_Tokens_cutHex_7 (f_Tokens_cutHex_7 nn) (nI q) (nJ v) (nI p) h = _
    unfold fF_Tokens_cutHex_7
    rw [hn]
    by_cases a : n ≤ p
    · have hd : hexv (cc h n p) = 0 := by rw [cc_end h n p (by omega)]; exact hx_256
      rw [if_pos ((nIle (by omega) (by omega)).mpr a), es, if_neg (fun q => q.1 hd)]
      exact fin hd
    · have hc := cc_256 (h := h) (show p < n by omega)
      rw [if_neg (fun z => a ((nIle (by omega) (by omega)).mp z)), xvi_n (by omega) (by decide), cln (by omega), cc_b hb hn2 (show p < n by omega), cond_true, tH_v, xhb_s, vH_s _ hc]
      by_cases hd : hexv (cc h n p) = 0
      · rw [if_pos hd, if_pos (show (-1 : Int32) < 0 by decide), es, if_neg (fun q => q.1 hd)]
        exact fin hd
      · have hh := (hexv_le (cc h n p) (by omega)).1
        rw [if_neg hd, if_neg (nI_neg (by omega)), e18]
        by_cases b : c = 16
        · rw [if_pos (by rw [hpc, b]), es, if_neg (fun q => q.2 b), brk_e hz hz2, xhb_s]
          have en : n_end (cc h n) p = true := hx.1 hd
          show _ = some (tkc h z (bko (Nat.beq c 0 || n_end (cc h n) p) p) 4 (nI q) (nJ v) p)
          rw [en, Bool.or_true]
          rfl
        · rw [if_neg (fun w => by have := (nI_c (by omega) (by omega)).mp w; omega), es, if_pos ⟨hd, b⟩, cond_true, cc_b hb hn2 (show p < n by omega), tH_v, xhb_s, vH_s _ hc, if_neg hd, nI1 (by omega)]
          have h16 : 16 ^ c ≤ 16 ^ 15 := Nat.pow_le_pow_right (by decide) (by omega)
          have h16' : (16 : Nat) ^ 15 = 1152921504606846976 := by decide
          have e4 : (4 : Int32) = nI 4 := rfl
          rw [e4, xJ_shl, xI_l, xi2l_s (by omega), xJ_or]
          have esh : yshl v 4 ||| (hexv (cc h n p) - 1) = v * 16 + (hexv (cc h n p) - 1) := by
            unfold yshl
            have e1 : v <<< (4 % 64) = v * 16 := Nat.shiftLeft_eq v 4
            rw [e1, Nat.mod_eq_of_lt (by omega), ← Nat.shiftLeft_eq v 4]
            exact (Nat.shiftLeft_add_eq_or_of_lt (show hexv (cc h n p) - 1 < 2 ^ 4 by omega) v).symm
          rw [esh]
          exact ih nn (p + 1) _ (c + 1) (by omega) (by omega) (by omega) (by omega) (by rw [Nat.pow_succ]; omega) (by omega)
end CUT
theorem nbq {x m : Nat} (z : ¬ x = m) : Nat.beq x m = false := by
  cases q : Nat.beq x m
  · rfl
  · exact absurd (Nat.eq_of_beq_eq_true q) z
theorem code_c : ∀ c, c < 256 → ((isl c || Nat.beq c 48 || Nat.beq c 49 || Nat.beq c 46) = true ↔ (c = 48 ∨ c = 49 ∨ c = 46 ∨ (isL c = true ∧ ¬ c = 95))) := by decide +kernel
theorem code_34 : (isl 34 || Nat.beq 34 48 || Nat.beq 34 49 || Nat.beq 34 46) = false := by decide
theorem nIsub {a b : Nat} (h : b ≤ a) (ha : a < 2147483648) : nI a - nI b = nI (a - b) := Int32.toInt_inj.mp (by rw [i32_sub (by rw [nIi ha, nIi (by omega)]; omega) (by rw [nIi ha, nIi (by omega)]; omega), nIi ha, nIi (by omega), nIi (by omega)]; omega)
theorem nIadd {a b : Nat} (h : a + b < 2147483648) : nI a + nI b = nI (a + b) := Int32.toInt_inj.mp (by rw [i32_add (x := nI a) (y := nI b) (by rw [nIi (by omega), nIi (by omega)]; omega) (by rw [nIi (by omega), nIi (by omega)]; omega), nIi (by omega), nIi (by omega), nIi (by omega)]; omega)
section CUT2
variable {h : mv_H} {n z : Nat}
theorem code_lc (hn : mv_i h 3 5 = nI n) (hn2 : n ≤ 32768) (hb : byt h) (hz : mv_i h 3 6 = nI z) (hz2 : z < 32770) {q : Nat} : ∀ (m nn p : Nat), q + 1 ≤ p → p ≤ n → n - p < m → n - p < nn →
    f_Tokens_cutCode_4 nn (nI q) (nI p) h = some (tkc h z (s_code (cc h n) n m p).2 5 (nI q) (nJ ((s_code (cc h n) n m p).1 - q - 2)) (s_code (cc h n) n m p).1) := by
  intro m
  induction m with
  | zero => intro nn p _ _ h; omega
  | succ m ih =>
    intro nn p hqp hp hm hnn
    obtain ⟨nn, rfl⟩ : ∃ k, nn = k + 1 := ⟨nn - 1, by omega⟩
    have es : s_code (cc h n) n (m + 1) p = if n ≤ p then (n, some n) else if cc h n p = 34 then (p + 1, none) else if cc h n p = 48 ∨ cc h n p = 49 ∨ cc h n p = 46 ∨ (isL (cc h n p) = true ∧ ¬ cc h n p = 95) then s_code (cc h n) n m (p + 1) else (p, some p) := rfl
    have hcl := cc_lt h n p
    have fin : f_Tokens_cutCode_30 (nI q) (nI p) h = some (if cc h n p = 34 then (nI (p + 1), addT h z 5 (nI q) (nJ (p + 1 - q - 2))) else (-1, addT h z 2 (nI p) 0)) := by
      unfold f_Tokens_cutCode_30
      rw [cat_e hn hn2 (by omega), xhb_s, add_e hz hz2, xhb_s, brk_e hz hz2, xhb_s]
      simp only [chrk (k := 34) (m := 34) hcl rfl (by decide)]
      have e1 : (1 : Int32) = nI 1 := rfl
      rw [e1, nIsub (by omega) (by omega), nIsub (by omega) (by omega), nIadd (by omega), xI_l, xi2l_s (by omega), show p - q - 1 = p + 1 - q - 2 by omega]
      by_cases b : cc h n p = 34
      · rw [if_pos b, if_pos b]
      · rw [if_neg b, if_neg b]
    show fF_Tokens_cutCode_4 (f_Tokens_cutCode_4 nn) (nI q) (nI p) h = _
    unfold fF_Tokens_cutCode_4
    rw [hn, fin]
    by_cases a : n ≤ p
    · have ep : p = n := by omega
      rw [if_pos ((nIle (by omega) (by omega)).mpr a), es, if_pos a, if_neg (by rw [cc_end h n p (by omega)]; decide), ep]
      rfl
    · have hc := cc_256 (h := h) (show p < n by omega)
      rw [if_neg (fun z => a ((nIle (by omega) (by omega)).mp z)), xvi_n (by omega) (by decide), cln (by omega), cc_b hb hn2 (show p < n by omega), cond_true, tC_v, xhb_s, vC_s _ hc, es, if_neg a, fin, nI1 (by omega)]
      by_cases b : cc h n p = 34
      · rw [if_pos b, if_pos b, b, code_34, if_pos (show b01 false = 0 from rfl)]
        rfl
      · rw [if_neg b, if_neg b]
        have cv := code_c _ hc
        cases d : (isl (cc h n p) || Nat.beq (cc h n p) 48 || Nat.beq (cc h n p) 49 || Nat.beq (cc h n p) 46)
        · rw [if_pos (show b01 false = 0 from rfl), if_neg (fun w => by have := cv.mpr w; rw [d] at this; exact absurd this (by decide))]
          rfl
        · rw [if_neg (show ¬ b01 true = 0 by decide), if_pos (cv.mp d)]
          exact ih nn (p + 1) (by omega) (by omega) (by omega) (by omega)
theorem code_e (hn : mv_i h 3 5 = nI n) (hn2 : n ≤ 32768) (hb : byt h) (hz : mv_i h 3 6 = nI z) (hz2 : z < 32770) {q : Nat} (hq : q < n) : f_Tokens_cutCode h (nI q) = some (tkc h z (s_code (cc h n) n (n + 1) (q + 1)).2 5 (nI q) (nJ ((s_code (cc h n) n (n + 1) (q + 1)).1 - q - 2)) (s_code (cc h n) n (n + 1) (q + 1)).1) := by
  unfold f_Tokens_cutCode
  rw [nI1 (by omega)]
  exact code_lc hn hn2 hb hz hz2 (n + 1) 200000 (q + 1) (by omega) (by omega) (by omega) (by omega)
theorem pairOf_c (g : mv_H) {c d : Nat} (hc : c < 256) (hd : d ≤ 256) : f_Tokens_pairOf g (chr c) (chr d) = some (nI (pairv c d - 128), g) := by
  have ecd : chr c = chr d ↔ c = d := by
    rw [chr_lt hc]
    by_cases e : d < 256
    · rw [chr_lt e]; exact nI_c (by omega) (by omega)
    · unfold chr
      rw [if_neg e]
      constructor
      · intro w
        have := congrArg Int32.toInt w
        rw [nIi (by omega)] at this
        have e1 : (-1 : Int32).toInt = -1 := by decide
        omega
      · intro w; omega
  unfold f_Tokens_pairOf
  simp only [ecd, chrk (k := 61) (m := 61) (show c ≤ 256 by omega) rfl (by decide), chrk (k := 33) (m := 33) (show c ≤ 256 by omega) rfl (by decide), chrk (k := 60) (m := 60) (show c ≤ 256 by omega) rfl (by decide), chrk (k := 62) (m := 62) (show c ≤ 256 by omega) rfl (by decide), chrk (k := 61) (m := 61) hd rfl (by decide)]
  unfold pairv
  by_cases d1 : d = 61
  · rw [if_pos d1, d1]
    by_cases c1 : c = 61
    · rw [if_pos c1, c1]; rfl
    · by_cases c2 : c = 33
      · rw [if_neg c1, if_pos c2, c2]; rfl
      · by_cases c3 : c = 60
        · rw [if_neg c1, if_neg c2, if_pos c3, c3]; rfl
        · rw [if_neg c1, if_neg c2, if_neg c3, nbq c1, nbq c2, nbq c3]
          cases Nat.beq c 62 <;> rfl
  · rw [if_neg d1, nbq d1]
    by_cases e : c = d
    · subst e
      rw [if_pos rfl]
      by_cases c3 : c = 60
      · rw [if_pos c3, c3]; rfl
      · by_cases c4 : c = 62
        · rw [if_neg c3, if_pos c4, c4]; rfl
        · rw [if_neg c3, if_neg c4, nbq c3, nbq c4]
          simp only [Bool.and_false, cond_false]
          rfl
    · rw [if_neg e]
      have q1 : (Nat.beq c 60 && Nat.beq d 60) = false := by
        cases q : (Nat.beq c 60 && Nat.beq d 60)
        · rfl
        · have := Bool.and_eq_true _ _ ▸ q
          exact absurd ((Nat.eq_of_beq_eq_true this.1).trans (Nat.eq_of_beq_eq_true this.2).symm) e
      have q2 : (Nat.beq c 62 && Nat.beq d 62) = false := by
        cases q : (Nat.beq c 62 && Nat.beq d 62)
        · rfl
        · have := Bool.and_eq_true _ _ ▸ q
          exact absurd ((Nat.eq_of_beq_eq_true this.1).trans (Nat.eq_of_beq_eq_true this.2).symm) e
      rw [q1, q2, Bool.and_false, Bool.and_false, Bool.and_false]
      rfl
theorem sgn_i : ∀ c, c < 256 → (((chr c).toUInt32 % 65536).toInt32 = nI c) ∧ ((0 : Int32) ≤ nI (xix c) ↔ isS c = true) := by decide +kernel
theorem pairv_lo (c d : Nat) : pairv c d = 0 ∨ 256 ≤ pairv c d := by
  unfold pairv
  generalize (Nat.beq c 61 && Nat.beq d 61) = b1
  generalize (Nat.beq c 33 && Nat.beq d 61) = b2
  generalize (Nat.beq c 60 && Nat.beq d 61) = b3
  generalize (Nat.beq c 60 && Nat.beq d 60) = b4
  generalize (Nat.beq c 62 && Nat.beq d 62) = b5
  cases b1 <;> cases b2 <;> cases b3 <;> cases b4 <;> cases b5 <;> decide
theorem cutSign_e (hn : mv_i h 3 5 = nI n) (hn2 : n ≤ 32768) (hz : mv_i h 3 6 = nI z) (hz2 : z < 32770) {q : Nat} (hq : q < n) : f_Tokens_cutSign h (nI q) (chr (cc h n q)) = some (if ¬ pairv (cc h n q) (cc h n (q + 1)) = 0 then (nI (q + 2), addT h z (nI (pairv (cc h n q) (cc h n (q + 1)) - 128)) (nI q) 0) else if cc h n q = 62 then (-1, addT h z 2 (nI (q + 1)) 0) else if isS (cc h n q) = true then (nI (q + 1), addT h z (nI (cc h n q)) (nI q) 0) else (-1, addT h z 2 (nI q) 0)) := by
  have hc := cc_256 (h := h) hq
  have hd := cc_lt h n (q + 1)
  have hs := sgn_i _ hc
  have hpl := pairv_le (cc h n q) (cc h n (q + 1))
  have hpg := pairv_lo (cc h n q) (cc h n (q + 1))
  have e2 : (2 : Int32) = nI 2 := rfl
  unfold f_Tokens_cutSign
  rw [nI1 (by omega), cat_e hn hn2 (by omega), xhb_s, pairOf_c _ hc hd, xhb_s]
  simp only [brk_e hz hz2, add_e hz hz2, xhb_s, chrk (k := 62) (m := 62) (show cc h n q ≤ 256 by omega) rfl (by decide), hs.1, cln (show cc h n q < 2147483648 by omega), hs.2, xvi_n (show cc h n q < 256 from hc) (by decide), cond_true]
  have e0 : nI (pairv (cc h n q) (cc h n (q + 1)) - 128) = 0 ↔ pairv (cc h n q) (cc h n (q + 1)) = 0 := by
    constructor
    · intro w
      have := (nI_c (b := 0) (by omega) (by decide)).mp w
      omega
    · intro w; rw [w]; rfl
  by_cases a : pairv (cc h n q) (cc h n (q + 1)) = 0
  · rw [if_pos (e0.mpr a), if_neg (show ¬ ¬ pairv (cc h n q) (cc h n (q + 1)) = 0 from fun w => w a), chr_lt hc]
    by_cases b : cc h n q = 62
    · rw [if_pos b, if_pos b]
    · rw [if_neg b, if_neg b]
      by_cases d : isS (cc h n q) = true
      · rw [if_pos d, if_pos d]
      · rw [if_neg d, if_neg d]
  · have eq2 : nI q + nI 2 = nI (q + 2) := nIadd (by omega)
    rw [if_neg (fun w => a (e0.mp w)), if_pos a, ← eq2]
    rfl
end CUT2
/-- two rows, the same from j on, m places -/
def eqs (A B : Nat → Int32) : Nat → Nat → Bool
  | 0, _ => true
  | m + 1, j => if A j = B j then eqs A B m (j + 1) else false
theorem eqs_all {A B : Nat → Int32} : ∀ (m j : Nat), eqs A B m j = true ↔ ∀ k, j ≤ k → k < j + m → A k = B k := by
  intro m
  induction m with
  | zero => intro j; exact ⟨fun _ k h1 h2 => by omega, fun _ => rfl⟩
  | succ m ih =>
    intro j
    show (if A j = B j then eqs A B m (j + 1) else false) = true ↔ _
    by_cases e : A j = B j
    · rw [if_pos e, ih]
      constructor
      · intro w k h1 h2
        by_cases z : k = j
        · rw [z]; exact e
        · exact w k (by omega) (by omega)
      · intro w k h1 h2; exact w k (by omega) (by omega)
    · rw [if_neg e]
      exact ⟨fun w => absurd w (by decide), fun w => absurd (w j (by omega) (by omega)) e⟩
section SPELT
variable {h : mv_H}
theorem spelt_lp {q l s : Nat} (hq : q + l ≤ 32768) (hs : s + l ≤ 32896) : ∀ (m nn j : Nat), j + m = l → m < nn → f_Symbols_isSpelt_1_29 nn (nI q) (nI l) (nI s) (nI j) h = some (b01 (eqs (fun k => mv_a h 8 (s + k)) (fun k => mv_a h 1 (q + k)) m j), h) := by
  intro m
  induction m with
  | zero =>
    intro nn j hj hn
    obtain ⟨nn, rfl⟩ : ∃ k, nn = k + 1 := ⟨nn - 1, by omega⟩
    show fF_Symbols_isSpelt_1_29 (f_Symbols_isSpelt_1_29 nn) (nI q) (nI l) (nI s) (nI j) h = _
    unfold fF_Symbols_isSpelt_1_29
    rw [if_pos ((nIle (by omega) (by omega)).mpr (by omega)), xz1']
    rfl
  | succ m ih =>
    intro nn j hj hn
    obtain ⟨nn, rfl⟩ : ∃ k, nn = k + 1 := ⟨nn - 1, by omega⟩
    show fF_Symbols_isSpelt_1_29 (f_Symbols_isSpelt_1_29 nn) (nI q) (nI l) (nI s) (nI j) h = _
    unfold fF_Symbols_isSpelt_1_29
    rw [if_neg (fun z => by have := (nIle (by omega) (by omega)).mp z; omega), nIadd (by omega), nIadd (by omega), xvi_n (by omega) (by decide), xvi_n (by omega) (by decide), cln (by omega), cln (by omega), nI1 (by omega), xz0]
    simp only [cond_true]
    have es : eqs (fun k => mv_a h 8 (s + k)) (fun k => mv_a h 1 (q + k)) (m + 1) j = if mv_a h 8 (s + j) = mv_a h 1 (q + j) then eqs (fun k => mv_a h 8 (s + k)) (fun k => mv_a h 1 (q + k)) m (j + 1) else false := rfl
    rw [es]
    by_cases e : mv_a h 8 (s + j) = mv_a h 1 (q + j)
    · rw [if_pos e, if_pos e]
      exact ih nn (j + 1) (by omega) (by omega)
    · rw [if_neg e, if_neg e]
      rfl
end SPELT
/-- where the names of a table start in its spelling -/
def stL (L : List (List Int32)) (i : Nat) : Nat := ((L.take i).map List.length).sum
def hsh (w : List Int32) : Int32 := w.foldl (fun b x => (b * 31 + x) &&& 1023) 0
/-- the last name before k of a bucket; -1: none -/
def lst (L : List (List Int32)) (b : Int32) : Nat → Int32
  | 0 => -1
  | k + 1 => if hsh (L.getD k []) = b then nI k else lst L b k
/-- the rows of symbols hold the table L -/
def SYM (h : mv_H) (L : List (List Int32)) : Prop := (mv_i h 7 5 = nI L.length) ∧ (∀ i, i ≤ L.length → mv_a h 9 i = nI (stL L i)) ∧ (∀ i, i < L.length → ∀ j, j < (L.getD i []).length → mv_a h 8 (stL L i + j) = (L.getD i []).getD j 0) ∧ (∀ b, b < 1024 → mv_a h 10 b = lst L (nI b) L.length) ∧ (∀ i, i < L.length → mv_a h 11 i = lst L (hsh (L.getD i [])) i) ∧ (L.Nodup)
theorem SYM.sz {h : mv_H} {L : List (List Int32)} (h99 : SYM h L) : mv_i h 7 5 = nI L.length := h99.1
theorem SYM.st {h : mv_H} {L : List (List Int32)} (h99 : SYM h L) : ∀ i, i ≤ L.length → mv_a h 9 i = nI (stL L i) := h99.2.1
theorem SYM.sp {h : mv_H} {L : List (List Int32)} (h99 : SYM h L) : ∀ i, i < L.length → ∀ j, j < (L.getD i []).length → mv_a h 8 (stL L i + j) = (L.getD i []).getD j 0 := h99.2.2.1
theorem SYM.bk {h : mv_H} {L : List (List Int32)} (h99 : SYM h L) : ∀ b, b < 1024 → mv_a h 10 b = lst L (nI b) L.length := h99.2.2.2.1
theorem SYM.ch {h : mv_H} {L : List (List Int32)} (h99 : SYM h L) : ∀ i, i < L.length → mv_a h 11 i = lst L (hsh (L.getD i [])) i := h99.2.2.2.2.1
theorem SYM.nd {h : mv_H} {L : List (List Int32)} (h99 : SYM h L) : L.Nodup := h99.2.2.2.2.2
theorem stL_s {L : List (List Int32)} {i : Nat} (hi : i < L.length) : stL L (i + 1) = stL L i + (L.getD i []).length := by
  unfold stL
  rw [List.take_add_one, List.getElem?_eq_getElem hi, List.getD_eq_getElem?_getD, List.getElem?_eq_getElem hi, List.map_append, List.sum_append]
  rfl
theorem stL_mono {L : List (List Int32)} : ∀ (m i : Nat), i + m ≤ L.length → stL L i ≤ stL L (i + m) := by
  intro m
  induction m with
  | zero => intro i _; exact Nat.le_refl _
  | succ m ih =>
    intro i hi
    have := ih i (by omega)
    have e := stL_s (L := L) (i := i + m) (by omega)
    rw [show i + (m + 1) = i + m + 1 by omega, e]
    omega
/-- a piece of the text -/
def sl (h : mv_H) (q l : Nat) : List Int32 := (List.range l).map fun j => mv_a h 1 (q + j)
theorem sl_len (h : mv_H) (q l : Nat) : (sl h q l).length = l := by unfold sl; rw [List.length_map, List.length_range]
theorem sl_get (h : mv_H) (q l j : Nat) (hj : j < l) : (sl h q l).getD j 0 = mv_a h 1 (q + j) := by
  unfold sl
  rw [List.getD_eq_getElem?_getD, List.getElem?_map, List.getElem?_range hj]
  rfl
theorem list_eq {a b : List Int32} (h1 : a.length = b.length) (h2 : ∀ j, j < a.length → a.getD j 0 = b.getD j 0) : a = b := by
  refine List.ext_getElem h1 fun j ha hb => ?_
  have := h2 j ha
  rw [List.getD_eq_getElem?_getD, List.getD_eq_getElem?_getD, List.getElem?_eq_getElem ha, List.getElem?_eq_getElem hb] at this
  exact this
theorem spelt_e {h : mv_H} {L : List (List Int32)} (hS : SYM h L) (hL : L.length ≤ 16440) (hr : stL L L.length ≤ 32896) {i q l : Nat} (hi : i < L.length) (hq : q + l ≤ 32768) : f_Symbols_isSpelt_1 h (nI i) (nI q) (nI l) = some (b01 (decide (L.getD i [] = sl h q l)), h) := by
  have e1 := hS.st i (by omega)
  have e2 := hS.st (i + 1) (by omega)
  have e3 := stL_s hi
  have e4 := stL_mono (L := L) (L.length - (i + 1)) (i + 1) (by omega)
  rw [show i + 1 + (L.length - (i + 1)) = L.length by omega] at e4
  unfold f_Symbols_isSpelt_1
  rw [nI1 (by omega), xvi_n (by omega) (by decide), xvi_n (by omega) (by decide), cln (by omega), cln (by omega), e1, e2, nIsub (by omega) (by omega), xz0]
  simp only [cond_true]
  by_cases a : stL L (i + 1) - stL L i = l
  · have e0 : (0 : Int32) = nI 0 := rfl
    rw [if_pos (by rw [a]), e0, spelt_lp (s := stL L i) hq (by omega) l 200000 0 (by omega) (by omega)]
    have key : eqs (fun k => mv_a h 8 (stL L i + k)) (fun k => mv_a h 1 (q + k)) l 0 = decide (L.getD i [] = sl h q l) := by
      apply Bool.eq_iff_iff.mpr
      rw [eqs_all, decide_eq_true_iff]
      constructor
      · intro w
        refine list_eq (by rw [sl_len]; omega) fun j hj => ?_
        rw [sl_get _ _ _ _ (by omega), ← hS.sp i hi j hj]
        exact w j (by omega) (by omega)
      · intro w k _ hk
        show mv_a h 8 (stL L i + k) = mv_a h 1 (q + k)
        rw [hS.sp i hi k (by omega), w, sl_get _ _ _ _ (by omega)]
    rw [key]
  · have ne : ¬ L.getD i [] = sl h q l := fun w => a (by rw [e3, w, sl_len]; omega)
    rw [if_neg (fun z => a ((nI_c (by omega) (by omega)).mp z)), decide_eq_false ne]
    rfl
theorem fits_sb {c : Nat} (h : c < 256) : fits .byte (.int (sb c)) = true := by
  have hh : ∀ c, c < 256 → fits .byte (.int (sb c)) = true := by decide +kernel
  exact hh c h
theorem and1023 (x : Int32) : ∃ b, b < 1024 ∧ (x &&& 1023) = nI b := by
  have e := pk_and x (m := 1023) 10 (by decide)
  exact ⟨_, Nat.mod_lt x.toBitVec.toNat (show 0 < 2 ^ 10 by decide), e⟩
theorem hsh_b : ∀ (w : List Int32) (a : Int32), (∃ b, b < 1024 ∧ a = nI b) → ∃ b, b < 1024 ∧ w.foldl (fun b x => (b * 31 + x) &&& 1023) a = nI b := by
  intro w
  induction w with
  | nil => intro a ha; exact ha
  | cons x w ih => intro a ha; exact ih _ (and1023 _)
theorem hsh_r (w : List Int32) : ∃ b, b < 1024 ∧ hsh w = nI b := hsh_b w 0 ⟨0, by decide, rfl⟩
theorem sl_s (h : mv_H) (q j : Nat) : sl h q (j + 1) = sl h q j ++ [mv_a h 1 (q + j)] := by
  unfold sl
  rw [List.range_succ, List.map_append]
  rfl
theorem hsh_s (h : mv_H) (q j : Nat) : hsh (sl h q (j + 1)) = (hsh (sl h q j) * 31 + mv_a h 1 (q + j)) &&& 1023 := by
  unfold hsh
  rw [sl_s, List.foldl_append]
  rfl
/-- a name more -/
def symA (h : mv_H) (N s b q l : Nat) : mv_H := mv_si (mv_sa (mv_sa (mv_sa (mv_ca h 8 (va_cpy (mv_a h 1) (mv_a h 8) q s l)) 9 (N + 1) (nI (s + l))) 11 N (mv_a h 10 b)) 10 b (nI N)) 7 5 (nI (N + 1))
section FIND
variable {h : mv_H} {L : List (List Int32)}
theorem xvc_t (hb : byt h) {q s l : Nat} (hq : q + l ≤ 32768) (hs : s + l ≤ 32896) : xvc h 1 32768 32896 (nI q) (nI s) (nI l) = true := by
  unfold xvc
  rw [cln (by omega), cln (by omega), cln (by omega), decide_eq_false (nI_neg (by omega)), decide_eq_false (nI_neg (by omega)), decide_eq_false (nI_neg (by omega)), Nat.ble_eq.mpr hq, Nat.ble_eq.mpr hs]
  show (List.range l).all _ = true
  rw [List.all_eq_true]
  intro i hi
  have hi := List.mem_range.mp hi
  have e := hb (q + i) (by omega)
  rw [e]
  have := xand255 (mv_a h 1 (q + i))
  have := i32_cl this.1
  exact fits_sb (by omega)
theorem addS_e (hS : SYM h L) (hL : L.length ≤ 16440) (hb : byt h) {b q l : Nat} (hbb : b < 1024) (hr : stL L L.length + l ≤ 32896) (hq : q + l ≤ 32768) : f_Symbols_add_1 h (nI b) (nI q) (nI l) = some (nI L.length, symA h L.length (stL L L.length) b q l) := by
  unfold f_Symbols_add_1
  rw [hS.sz, cln (by omega), hS.st _ (Nat.le_refl _), xvc_t hb hq hr, xvi_n (by omega) (by decide), nI1 (by omega), xvi_n (by omega) (by decide), xvi_n hbb (by decide), xvi_n (show L.length < 16448 by omega) (by decide), cln (by omega), cln (by omega), cln (by omega), cln (by omega), cln (by omega)]
  simp only [cond_true, xk_s]
  have e9 : mv_a (mv_ca h 8 (va_cpy (mv_a h 1) (mv_a h 8) q (stL L L.length) l)) 9 L.length = nI (stL L L.length) := hS.st _ (Nat.le_refl _)
  rw [e9, nIadd (by omega)]
  have e5 : ∀ g : mv_H, ∀ x y v x2 y2 v2 x3 y3 v3, mv_i (mv_sa (mv_sa (mv_sa g x y v) x2 y2 v2) x3 y3 v3) 7 5 = mv_i g 7 5 := fun _ _ _ _ _ _ _ _ _ _ => rfl
  have e6 : mv_i (mv_ca h 8 (va_cpy (mv_a h 1) (mv_a h 8) q (stL L L.length) l)) 7 5 = nI L.length := hS.sz
  rw [e5, e6, nI1 (by omega)]
  rfl
theorem find_h (hb : byt h) {q l : Nat} (hq : q + l ≤ 32768) {b : Nat} (hbb : b < 1024) (hw : hsh (sl h q l) = nI b) : ∀ (m nn j : Nat), j + m = l → m < nn → f_Symbols_find_1_6 nn (nI q) (nI l) (hsh (sl h q j)) (nI j) h = f_Symbols_find_1_48 200000 (nI q) (nI l) (nI b) (mv_a h 10 b) 0 h := by
  intro m
  induction m with
  | zero =>
    intro nn j hj hn
    obtain ⟨nn, rfl⟩ : ∃ k, nn = k + 1 := ⟨nn - 1, by omega⟩
    show fF_Symbols_find_1_6 (f_Symbols_find_1_6 nn) (nI q) (nI l) (hsh (sl h q j)) (nI j) h = _
    unfold fF_Symbols_find_1_6
    have ej : j = l := by omega
    rw [if_pos ((nIle (by omega) (by omega)).mpr (by omega)), ej, hw, xvi_n hbb (by decide), cln (by omega), cond_true]
  | succ m ih =>
    intro nn j hj hn
    obtain ⟨nn, rfl⟩ : ∃ k, nn = k + 1 := ⟨nn - 1, by omega⟩
    show fF_Symbols_find_1_6 (f_Symbols_find_1_6 nn) (nI q) (nI l) (hsh (sl h q j)) (nI j) h = _
    unfold fF_Symbols_find_1_6
    rw [if_neg (fun z => by have := (nIle (by omega) (by omega)).mp z; omega), nIadd (by omega), xvi_n (by omega) (by decide), cln (by omega), cond_true, ← hsh_s, nI1 (by omega)]
    exact ih nn (j + 1) (by omega) (by omega)
theorem find_k (hS : SYM h L) (hL : L.length ≤ 16440) (hr : stL L L.length ≤ 32896) {q l : Nat} (hq : q + l ≤ 32768) {b : Nat} (hbb : b < 1024) (hw : hsh (sl h q l) = nI b) : ∀ (k nn t : Nat), k ≤ L.length → t + k ≤ L.length → k < nn →
    (∃ i, i < k ∧ L.getD i [] = sl h q l ∧ f_Symbols_find_1_48 nn (nI q) (nI l) (nI b) (lst L (nI b) k) (nI t) h = some (nI i, h)) ∨ ((∀ i, i < k → ¬ L.getD i [] = sl h q l) ∧ f_Symbols_find_1_48 nn (nI q) (nI l) (nI b) (lst L (nI b) k) (nI t) h = f_Symbols_find_1_91 (nI q) (nI l) (nI b) h) := by
  intro k
  have e16 : (16448 : Int32) = nI 16448 := rfl
  induction k with
  | zero =>
    intro nn t hk ht hn
    obtain ⟨nn, rfl⟩ : ∃ k, nn = k + 1 := ⟨nn - 1, by omega⟩
    right
    refine ⟨fun i hi => by omega, ?_⟩
    show fF_Symbols_find_1_48 (f_Symbols_find_1_48 nn) (nI q) (nI l) (nI b) (-1) (nI t) h = _
    unfold fF_Symbols_find_1_48
    rw [e16, if_neg (fun z => by have := (nIle (by omega) (by omega)).mp z; omega), if_pos (by decide)]
  | succ k ih =>
    intro nn t hk ht hn
    by_cases e : hsh (L.getD k []) = nI b
    · have el : lst L (nI b) (k + 1) = nI k := if_pos e
      obtain ⟨nn, rfl⟩ : ∃ k, nn = k + 1 := ⟨nn - 1, by omega⟩
      rw [el]
      have ef : f_Symbols_find_1_48 (nn + 1) (nI q) (nI l) (nI b) (nI k) (nI t) h = if L.getD k [] = sl h q l then some (nI k, h) else f_Symbols_find_1_48 nn (nI q) (nI l) (nI b) (lst L (nI b) k) (nI (t + 1)) h := by
        show fF_Symbols_find_1_48 (f_Symbols_find_1_48 nn) (nI q) (nI l) (nI b) (nI k) (nI t) h = _
        unfold fF_Symbols_find_1_48
        rw [e16, if_neg (fun z => by have := (nIle (by omega) (by omega)).mp z; omega), if_neg (nI_neg (by omega)), spelt_e hS hL hr (by omega) hq, xhb_s]
        by_cases d : L.getD k [] = sl h q l
        · rw [if_pos d, decide_eq_true d, if_neg (show ¬ b01 true = 0 by decide)]
        · rw [if_neg d, decide_eq_false d, if_pos (show b01 false = 0 from rfl), xvi_n (by omega) (by decide), cln (by omega), cond_true, hS.ch k (by omega), e, nI1 (by omega)]
      rw [ef]
      by_cases d : L.getD k [] = sl h q l
      · left
        exact ⟨k, by omega, d, if_pos d⟩
      · rw [if_neg d]
        rcases ih nn (t + 1) (by omega) (by omega) (by omega) with ⟨i, h1, h2, h3⟩ | ⟨h1, h2⟩
        · exact Or.inl ⟨i, by omega, h2, h3⟩
        · refine Or.inr ⟨fun i hi => ?_, h2⟩
          by_cases z : i = k
          · rw [z]; exact d
          · exact h1 i (by omega)
    · have el : lst L (nI b) (k + 1) = lst L (nI b) k := if_neg e
      rw [el]
      rcases ih nn t (by omega) (by omega) (by omega) with ⟨i, h1, h2, h3⟩ | ⟨h1, h2⟩
      · exact Or.inl ⟨i, by omega, h2, h3⟩
      · refine Or.inr ⟨fun i hi => ?_, h2⟩
        by_cases z : i = k
        · rw [z]; exact fun w => e (by rw [w]; exact hw)
        · exact h1 i (by omega)
theorem find_e (hS : SYM h L) (hL : L.length ≤ 16440) (hb : byt h) {q l : Nat} (hr : stL L L.length + l ≤ 32896) (hq : q + l ≤ 32768) :
    (∃ i, i < L.length ∧ L.getD i [] = sl h q l ∧ f_Symbols_find_1 h (nI q) (nI l) = some (nI i, h)) ∨ ((∀ i, i < L.length → ¬ L.getD i [] = sl h q l) ∧ ∃ b, b < 1024 ∧ hsh (sl h q l) = nI b ∧ f_Symbols_find_1 h (nI q) (nI l) = some (nI L.length, symA h L.length (stL L L.length) b q l)) := by
  obtain ⟨b, hbb, hw⟩ := hsh_r (sl h q l)
  have e1 := find_h hb hq hbb hw l 200000 0 (by omega) (by omega)
  have e2 : f_Symbols_find_1 h (nI q) (nI l) = f_Symbols_find_1_48 200000 (nI q) (nI l) (nI b) (lst L (nI b) L.length) (nI 0) h := by
    rw [← hS.bk b hbb]
    exact e1
  rw [e2]
  rcases find_k hS hL (by omega) hq hbb hw L.length 200000 0 (Nat.le_refl _) (by omega) (by omega) with h1 | ⟨h1, h2⟩
  · exact Or.inl h1
  · refine Or.inr ⟨h1, b, hbb, hw, ?_⟩
    rw [h2]
    unfold f_Symbols_find_1_91
    rw [addS_e hS hL hb hbb hr hq]
    rfl
end FIND
section SYMA
variable {h : mv_H} {L : List (List Int32)} {w : List Int32}
theorem gd_l {i : Nat} (hi : i < L.length) : (L ++ [w]).getD i [] = L.getD i [] := by
  rw [List.getD_eq_getElem?_getD, List.getD_eq_getElem?_getD, List.getElem?_append_left hi]
theorem gd_r : (L ++ [w]).getD L.length [] = w := by
  rw [List.getD_eq_getElem?_getD, List.getElem?_append_right (Nat.le_refl _), Nat.sub_self]
  rfl
theorem stL_l {i : Nat} (hi : i ≤ L.length) : stL (L ++ [w]) i = stL L i := by
  unfold stL
  rw [List.take_append_of_le_length hi]
theorem len_s : (L ++ [w]).length = L.length + 1 := by rw [List.length_append]; rfl
theorem stL_r : stL (L ++ [w]) (L.length + 1) = stL L L.length + w.length := by
  rw [stL_s (by rw [len_s]; omega), stL_l (Nat.le_refl _), gd_r]
theorem lst_l (b : Int32) : ∀ k, k ≤ L.length → lst (L ++ [w]) b k = lst L b k := by
  intro k
  induction k with
  | zero => intro _; rfl
  | succ k ih =>
    intro hk
    show (if hsh ((L ++ [w]).getD k []) = b then nI k else lst (L ++ [w]) b k) = if hsh (L.getD k []) = b then nI k else lst L b k
    rw [gd_l (by omega), ih (by omega)]
theorem lst_r (b : Int32) : lst (L ++ [w]) b (L.length + 1) = if hsh w = b then nI L.length else lst L b L.length := by
  show (if hsh ((L ++ [w]).getD L.length []) = b then nI L.length else lst (L ++ [w]) b L.length) = _
  rw [gd_r, lst_l _ _ (Nat.le_refl _)]
theorem symA_1 (N s b q l : Nat) : mv_a (symA h N s b q l) 1 = mv_a h 1 := by
  funext k
  rfl
theorem symA_9 (N s b q l k : Nat) : mv_a (symA h N s b q l) 9 k = if k = N + 1 then nI (s + l) else mv_a h 9 k := by
  show mv_u (mv_a (mv_ca h 8 (va_cpy (mv_a h 1) (mv_a h 8) q s l))) 9 (N + 1) (nI (s + l)) 9 k = _
  by_cases e : k = N + 1
  · rw [if_pos e, e, mv_u_same]
  · rw [if_neg e, mv_u_ne _ _ (fun z => e z.2)]
    rfl
theorem symA_8 (N s b q l k : Nat) : mv_a (symA h N s b q l) 8 k = if s ≤ k ∧ k < s + l then mv_a h 1 (q + (k - s)) else mv_a h 8 k := rfl
theorem symA_10 (N s b q l k : Nat) : mv_a (symA h N s b q l) 10 k = if k = b then nI N else mv_a h 10 k := by
  by_cases e : k = b
  · rw [if_pos e, e]
    exact mv_u_same (mv_a (mv_sa (mv_sa (mv_ca h 8 (va_cpy (mv_a h 1) (mv_a h 8) q s l)) 9 (N + 1) (nI (s + l))) 11 N (mv_a h 10 b))) 10 b (nI N)
  · rw [if_neg e]
    exact mv_u_ne (mv_a (mv_sa (mv_sa (mv_ca h 8 (va_cpy (mv_a h 1) (mv_a h 8) q s l)) 9 (N + 1) (nI (s + l))) 11 N (mv_a h 10 b))) (nI N) (fun z => e z.2)
theorem symA_11 (N s b q l k : Nat) : mv_a (symA h N s b q l) 11 k = if k = N then mv_a h 10 b else mv_a h 11 k := by
  by_cases e : k = N
  · rw [if_pos e, e]
    exact mv_u_same (mv_a (mv_sa (mv_ca h 8 (va_cpy (mv_a h 1) (mv_a h 8) q s l)) 9 (N + 1) (nI (s + l)))) 11 N (mv_a h 10 b)
  · rw [if_neg e]
    exact mv_u_ne (mv_a (mv_sa (mv_ca h 8 (va_cpy (mv_a h 1) (mv_a h 8) q s l)) 9 (N + 1) (nI (s + l)))) (mv_a h 10 b) (fun z => e z.2)
theorem symA_i (N s b q l o j : Nat) : mv_i (symA h N s b q l) o j = if o = 7 ∧ j = 5 then nI (N + 1) else mv_i h o j := rfl
theorem SYM.add (hS : SYM h L) {b q l : Nat} (hl : l = w.length) (hw : sl h q l = w) (hh : hsh w = nI b) (hbb : b < 1024) (hf : ∀ i, i < L.length → ¬ L.getD i [] = w) : SYM (symA h L.length (stL L L.length) b q l) (L ++ [w]) := ⟨
  by rw [symA_i, if_pos ⟨rfl, rfl⟩, len_s],
  by
    intro i hi
    rw [len_s] at hi
    rw [symA_9]
    by_cases e : i = L.length + 1
    · rw [if_pos e, e, stL_r, hl]
    · rw [if_neg e, stL_l (by omega), hS.st i (by omega)],
  by
    intro i hi j hj
    rw [len_s] at hi
    rw [symA_8]
    by_cases e : i = L.length
    · subst e
      rw [gd_r] at hj ⊢
      rw [stL_l (Nat.le_refl _), if_pos (by omega), show q + (stL L L.length + j - stL L L.length) = q + j by omega, ← hw, sl_get _ _ _ _ (by omega)]
    · rw [gd_l (by omega)] at hj ⊢
      have e3 := stL_s (L := L) (i := i) (by omega)
      have e4 := stL_mono (L := L) (L.length - (i + 1)) (i + 1) (by omega)
      rw [show i + 1 + (L.length - (i + 1)) = L.length by omega] at e4
      rw [stL_l (by omega), if_neg (by omega), hS.sp i (by omega) j hj],
  by
    intro b' hb'
    rw [symA_10, len_s, lst_r, hh]
    by_cases e : b' = b
    · rw [if_pos e, if_pos (by rw [e])]
    · rw [if_neg e, if_neg (fun z => e ((nI_c (by omega) (by omega)).mp z).symm), hS.bk b' hb'],
  by
    intro i hi
    rw [len_s] at hi
    rw [symA_11]
    by_cases e : i = L.length
    · subst e
      rw [if_pos rfl, gd_r, hh, lst_l _ _ (Nat.le_refl _), hS.bk b hbb]
    · rw [if_neg e, gd_l (by omega), lst_l _ _ (by omega), hS.ch i (by omega)],
  by
    rw [List.nodup_append]
    refine ⟨hS.nd, List.pairwise_singleton _ w, fun a ha c hc => ?_⟩
    have hc := List.mem_singleton.mp hc
    rw [hc]
    intro z
    obtain ⟨i, hi, e⟩ := List.getElem_of_mem ha
    refine hf i hi ?_
    rw [List.getD_eq_getElem?_getD, List.getElem?_eq_getElem hi, ← z, ← e]
    rfl⟩
end SYMA
theorem s_name_u (T : Nat → Nat) (m p : Nat) : s_name T (m + 1) p = if isL (T p) = true ∨ isD (T p) = true then s_name T m (p + 1) else p := rfl
/-- a heap with other symbols -/
def FrS (h h1 : mv_H) : Prop := (∀ o, o < 8 ∨ 11 < o → mv_a h1 o = mv_a h o) ∧ (∀ o j, ¬ (o = 7 ∧ j = 5) → mv_i h1 o j = mv_i h o j) ∧ (h1.2.1 = h.2.1) ∧ (h1.2.2.1 = h.2.2.1) ∧ (h1.2.2.2.2 = h.2.2.2.2)
theorem FrS.a {h h1 : mv_H} (h99 : FrS h h1) : ∀ o, o < 8 ∨ 11 < o → mv_a h1 o = mv_a h o := h99.1
theorem FrS.i {h h1 : mv_H} (h99 : FrS h h1) : ∀ o j, ¬ (o = 7 ∧ j = 5) → mv_i h1 o j = mv_i h o j := h99.2.1
theorem FrS.l {h h1 : mv_H} (h99 : FrS h h1) : h1.2.1 = h.2.1 := h99.2.2.1
theorem FrS.r {h h1 : mv_H} (h99 : FrS h h1) : h1.2.2.1 = h.2.2.1 := h99.2.2.2.1
theorem FrS.b {h h1 : mv_H} (h99 : FrS h h1) : h1.2.2.2.2 = h.2.2.2.2 := h99.2.2.2.2
theorem FrS.refl (h : mv_H) : FrS h h := ⟨fun _ _ => rfl, fun _ _ _ => rfl, rfl, rfl, rfl⟩
theorem FrS.symA (h : mv_H) (N s b q l : Nat) : FrS h (symA h N s b q l) := ⟨
  fun o ho => by
    funext k
    show mv_u (mv_a (mv_sa (mv_sa (mv_ca h 8 (va_cpy (mv_a h 1) (mv_a h 8) q s l)) 9 (N + 1) (nI (s + l))) 11 N (mv_a h 10 b))) 10 b (nI N) o k = _
    rw [mv_u_ne _ _ (by omega)]
    show mv_u (mv_a (mv_sa (mv_ca h 8 (va_cpy (mv_a h 1) (mv_a h 8) q s l)) 9 (N + 1) (nI (s + l)))) 11 N (mv_a h 10 b) o k = _
    rw [mv_u_ne _ _ (by omega)]
    show mv_u (mv_a (mv_ca h 8 (va_cpy (mv_a h 1) (mv_a h 8) q s l))) 9 (N + 1) (nI (s + l)) o k = _
    rw [mv_u_ne _ _ (by omega)]
    show (if o = 8 then va_cpy (mv_a h 1) (mv_a h 8) q s l else mv_a h o) k = _
    rw [if_neg (by omega)],
  fun o j e => by rw [symA_i, if_neg e],
  rfl,
  rfl,
  rfl⟩
section NM
variable {h : mv_H} {n z : Nat} {L : List (List Int32)}
theorem nm_lp (hn : mv_i h 3 5 = nI n) (hn2 : n ≤ 32768) (hb : byt h) (hz : mv_i h 3 6 = nI z) (hz2 : z < 32770) {q : Nat} : ∀ (m nn p : Nat), q ≤ p → p ≤ q + 32 → p ≤ n → n - p < m → n - p < nn →
    f_Tokens_cutName_2 nn (nI q) (nI p) h = if s_name (cc h n) m p - q ≤ 32 then f_Tokens_cutName_42 (nI q) (nI (s_name (cc h n) m p)) h else some (-1, addT h z 2 (nI (q + 32)) 0) := by
  intro m
  have e32 : nI q + 32 = nI q + nI 32 := rfl
  induction m with
  | zero => intro nn p _ _ _ h; omega
  | succ m ih =>
    intro nn p hqp hp32 hp hm hnn
    obtain ⟨nn, rfl⟩ : ∃ k, nn = k + 1 := ⟨nn - 1, by omega⟩
    show fF_Tokens_cutName_2 (f_Tokens_cutName_2 nn) (nI q) (nI p) h = _
    unfold fF_Tokens_cutName_2
    rw [hn, s_name_u]
    by_cases a : n ≤ p
    · rw [if_pos ((nIle (by omega) (by omega)).mpr a), cc_end h n p (by omega), isL_256, isD_256, if_neg (show ¬ (false = true ∨ false = true) by decide), if_pos (by omega)]
    · have hc := cc_256 (h := h) (show p < n by omega)
      rw [if_neg (fun z => a ((nIle (by omega) (by omega)).mp z)), xvi_n (by omega) (by decide), cln (by omega), cc_b hb hn2 (show p < n by omega), cond_true, tN_v, xhb_s, vN_s _ hc]
      by_cases d : isL (cc h n p) = true ∨ isD (cc h n p) = true
      · have e : (isL (cc h n p) || isD (cc h n p)) = true := (Bool.or_eq_true _ _).mpr d
        rw [e, if_neg (show ¬ b01 true = 0 by decide), if_pos d, e32, nIadd (by omega)]
        by_cases f : p = q + 32
        · have hb := (s_name_bd (T := cc h n) (n := n) (cc_end h n) m (p + 1) (by omega)).1
          rw [if_pos (by rw [f]), brk_e hz hz2, if_neg (by omega), f]
          rfl
        · rw [if_neg (fun w => f ((nI_c (by omega) (by omega)).mp w)), nI1 (by omega)]
          exact ih nn (p + 1) (by omega) (by omega) (by omega) (by omega) (by omega)
      · have e : (isL (cc h n p) || isD (cc h n p)) = false := by
          cases w : (isL (cc h n p) || isD (cc h n p))
          · rfl
          · exact absurd ((Bool.or_eq_true _ _).mp w) d
        rw [e, if_pos (show b01 false = 0 from rfl), if_neg d, if_pos (by omega)]
/-- a name cut: its symbol is known, or new -/
theorem nmC_e (hn : mv_i h 3 5 = nI n) (hn2 : n ≤ 32768) (hb : byt h) (hz : mv_i h 3 6 = nI z) (hz2 : z < 32770) (hS : SYM h L) (hL : L.length ≤ 16440) {q : Nat} (hq : q < n) (hr : stL L L.length + 32 ≤ 32896) (hs : s_name (cc h n) (n + 1) q - q ≤ 32) :
    ∃ h1 L1 i, f_Tokens_cutName h (nI q) = some (nI (s_name (cc h n) (n + 1) q), addT h1 z (if 17 ≤ i then 3 else nI (200 + i)) (nI q) (nJ i)) ∧ FrS h h1 ∧ SYM h1 L1 ∧ i < L1.length ∧ L1.getD i [] = sl h q (s_name (cc h n) (n + 1) q - q) ∧ ((L1 = L ∧ h1 = h) ∨ L1 = L ++ [sl h q (s_name (cc h n) (n + 1) q - q)]) := by
  have e0 := nm_lp hn hn2 hb hz hz2 (q := q) (n + 1) 200000 q (Nat.le_refl _) (by omega) (by omega) (by omega) (by omega)
  rw [if_pos hs] at e0
  have hbd := s_name_bd (T := cc h n) (n := n) (cc_end h n) (n + 1) q (by omega)
  generalize s_name (cc h n) (n + 1) q = p at hs e0 hbd ⊢
  have e1 : f_Tokens_cutName h (nI q) = f_Tokens_cutName_42 (nI q) (nI p) h := e0
  have e17 : (17 : Int32) = nI 17 := rfl
  have e200 : (200 : Int32) = nI 200 := rfl
  have fin : ∀ (h1 : mv_H) (i : Nat), i < 20000 → FrS h h1 → f_Symbols_find_1 h (nI q) (nI (p - q)) = some (nI i, h1) → f_Tokens_cutName_42 (nI q) (nI p) h = some (nI p, addT h1 z (if 17 ≤ i then 3 else nI (200 + i)) (nI q) (nJ i)) := by
    intro h1 i hi hF hf
    have hz1 : mv_i h1 3 6 = nI z := (hF.i 3 6 (by omega)).trans hz
    unfold f_Tokens_cutName_42 f_Tokens_cutName_73
    rw [nIsub hbd.1 (by omega), hf, xhb_s, e17, e200, nIadd (by omega), add_e hz1 hz2, add_e hz1 hz2, xI_l, xi2l_s (by omega), xhb_s, xhb_s]
    by_cases c : 17 ≤ i
    · rw [if_pos ((nIle (by omega) (by omega)).mpr c), if_pos c]
    · rw [if_neg (fun w => c ((nIle (by omega) (by omega)).mp w)), if_neg c]
  rcases find_e hS hL hb (q := q) (l := p - q) (by omega) (by omega) with ⟨i, h1, h2, h3⟩ | ⟨h1, b, hbb, hw, h3⟩
  · exact ⟨h, L, i, e1.trans (fin h i (by omega) (FrS.refl h) h3), FrS.refl h, hS, h1, h2, Or.inl ⟨rfl, rfl⟩⟩
  · refine ⟨_, _, L.length, e1.trans (fin _ _ (by omega) (FrS.symA ..) h3), FrS.symA .., hS.add (sl_len ..).symm rfl hw hbb h1, by rw [len_s]; omega, gd_r, Or.inr rfl⟩
end NM
def ckd (x : Int32) : Int32 := if 256 ≤ x then x - 128 else x
/-- no right token -/
def badT (u : Int32 × Nat × Option Nat × Option Nat) : Prop := ¬ u.2.2.2 = none ∨ u.1 = -1
/-- the class's token for one of the text -/
def CTok (h : mv_H) (q : Nat) (u : Int32 × Nat × Option Nat × Option Nat) (L : List (List Int32)) (k pl : Int32) (v : Int64) (bh : Int32) : Prop :=
  (badT u ∧ k = 2 ∧ bh = -1) ∨ (¬ badT u ∧ u.1 = 0 ∧ k = 1 ∧ bh = -1) ∨ (¬ badT u ∧ pl = nI q ∧ bh = nI u.2.1 ∧
    ((u.1 = 1 ∧ ∃ i, i < L.length ∧ L.getD i [] = sl h q (u.2.1 - q) ∧ v = nJ i ∧ k = if 17 ≤ i then 3 else nI (200 + i)) ∨
     (u.1 = 2 ∧ k = 4 ∧ ∃ x, u.2.2.1 = some x ∧ v = nJ x) ∨
     (u.1 = 3 ∧ k = 5 ∧ v = nJ (u.2.1 - q - 2)) ∨
     (∃ c, 33 ≤ c ∧ c ≤ 260 ∧ u.1 = nI c ∧ k = ckd u.1)))
theorem ckd_p : ∀ c, c < 261 → (256 ≤ c → ckd (nI c) = nI (c - 128)) ∧ (c < 256 → ckd (nI c) = nI c) := by decide +kernel
theorem isS_33 : ∀ c, c < 257 → isS c = true → 33 ≤ c ∧ c < 256 := by decide +kernel
theorem nI_m1 {c : Nat} (hc : c < 2147483648) : ¬ nI c = -1 := fun z => by
  have := congrArg Int32.toInt z
  rw [nIi hc] at this
  have e1 : (-1 : Int32).toInt = -1 := by decide
  omega
theorem isl_d : ∀ c, c < 257 → (isD c = true → isL c = false) := by decide +kernel
section ONE
variable {h : mv_H} {n z : Nat} {L : List (List Int32)}
theorem cutOne_e (hn : mv_i h 3 5 = nI n) (hn2 : n ≤ 32768) (hb : byt h) (hz : mv_i h 3 6 = nI z) (hz2 : z < 32770) (hS : SYM h L) (hL : L.length ≤ 16440) (hr : stL L L.length + 32 ≤ 32896) {q : Nat} (hq : q ≤ n) :
    ∃ h1 L1 k pl v bh, f_Tokens_cutOne h (nI q) = some (bh, addT h1 z k pl v) ∧ FrS h h1 ∧ SYM h1 L1 ∧ CTok h q (s_tok (cc h n) n q) L1 k pl v bh ∧ (L1 = L ∨ ((s_tok (cc h n) n q).1 = 1 ∧ ¬ badT (s_tok (cc h n) n q) ∧ L1 = L ++ [sl h q ((s_tok (cc h n) n q).2.1 - q)])) := by
  have hc := cc_lt h n q
  unfold f_Tokens_cutOne
  rw [cat_e hn hn2 (by omega), xhb_s]
  simp only [chr0 hc]
  unfold s_tok
  by_cases a : cc h n q = 256
  · rw [if_neg (fun w => w a), if_pos a, add_e hz hz2]
    exact ⟨h, L, 1, _, 0, -1, rfl, FrS.refl h, hS, Or.inr (Or.inl ⟨by rintro (w | w); exact w rfl; exact absurd (show (0 : Int32) = -1 from w) (by decide), rfl, rfl, rfl⟩), Or.inl rfl⟩
  have hqn : q < n := by
    by_cases w : q < n
    · exact w
    · exact absurd (cc_end h n q w) a
  rw [if_pos a, if_neg a, tD_v, xhb_s, vD_c _ (by omega)]
  cases aD : isD (cc h n q)
  case true =>
    have aL := isl_d _ (by omega) aD
    rw [if_neg (show ¬ b01 true = 0 by decide), aL, if_neg (show ¬ false = true by decide), if_pos rfl]
    have ef : (if chr (cc h n q) = 48 then xhb (f_Tokens_characterAt h (nI q + 1)) fun v18 g17 => if v18 = 120 then f_Tokens_cutOne_52 (nI q) 1 g17 else f_Tokens_cutOne_51 (nI q) g17 else f_Tokens_cutOne_51 (nI q) h) = some (tkc h z (bko (s_num (cc h n) n q).2.2 (s_num (cc h n) n q).1) 4 (nI q) (nJ (s_num (cc h n) n q).2.1) (s_num (cc h n) n q).1) := by
      have hd := cc_lt h n (q + 1)
      have hdec : f_Tokens_cutOne_51 (nI q) h = some (tkc h z (bko (n_end (cc h n) (s_dec (cc h n) (n + 1) q 0).1) (s_dec (cc h n) (n + 1) q 0).1) 4 (nI q) (nJ (s_dec (cc h n) (n + 1) q 0).2) (s_dec (cc h n) (n + 1) q 0).1) := by
        unfold f_Tokens_cutOne_51 f_Tokens_cutOne_52
        rw [if_pos rfl]
        have e := dec_lp hn hn2 hb hz hz2 (nI q) (n + 1) 200000 q 0 hq (by omega) (by omega) (by decide)
        have e' : f_Tokens_cutDecimal h (nI q) = _ := e
        rw [e']
        rfl
      rw [nI1 (by omega), cat_e hn hn2 (by omega), xhb_s]
      simp only [chrk (k := 48) (m := 48) hc rfl (by decide), chrk (k := 120) (m := 120) hd rfl (by decide)]
      unfold s_num
      by_cases c1 : cc h n q = 48
      · by_cases c2 : cc h n (q + 1) = 120
        · rw [if_pos c1, if_pos c2, if_pos ⟨c1, c2⟩]
          have hq2 : q + 1 < n := by
            by_cases w : q + 1 < n
            · exact w
            · have := cc_end h n (q + 1) w; omega
          unfold f_Tokens_cutOne_52
          rw [if_neg (by decide)]
          have sameF : ∀ m, n - (q + 2) < m → f_Tokens_cutHex h (nI q) = some (tkc h z (bko (Nat.beq (s_hex (cc h n) m (q + 2) 0 0).2.2 0 || n_end (cc h n) (s_hex (cc h n) m (q + 2) 0 0).1) (s_hex (cc h n) m (q + 2) 0 0).1) 4 (nI q) (nJ (s_hex (cc h n) m (q + 2) 0 0).2.1) (s_hex (cc h n) m (q + 2) 0 0).1) := fun m hm => by
            have e := hex_lp hn hn2 hb hz hz2 (q := q) (by omega) m 200000 (q + 2) 0 0 rfl (by omega) hm (by omega) (by decide) (by decide)
            have e2 : nI q + 2 = nI (q + 2) := nIadd (b := 2) (by omega)
            unfold f_Tokens_cutHex
            rw [e2]
            exact e
          rw [sameF (n + 3) (by omega)]
          rfl
        · rw [if_pos c1, if_neg c2, if_neg (fun w => c2 w.2)]
          exact hdec
      · rw [if_neg c1, if_neg (fun w => c1 w.1)]
        exact hdec
    refine ⟨h, L, ?_⟩
    rw [ef]
    generalize s_num (cc h n) n q = y
    obtain ⟨y1, y2, y3⟩ := y
    cases y3
    · exact ⟨4, nI q, nJ y2, nI y1, rfl, FrS.refl h, hS, Or.inr (Or.inr ⟨by rintro (w | w); exact w rfl; exact absurd (show (2 : Int32) = -1 from w) (by decide), rfl, rfl, Or.inr (Or.inl ⟨rfl, rfl, y2, rfl, rfl⟩)⟩), Or.inl rfl⟩
    · exact ⟨2, nI y1, 0, -1, rfl, FrS.refl h, hS, Or.inl ⟨Or.inl (fun w => by cases w), rfl, rfl⟩, Or.inl rfl⟩
  rw [if_pos (show b01 false = 0 from rfl), tL_v, xhb_s, vl_c _ (by omega)]
  simp only [chrk (k := 95) (m := 95) hc rfl (by decide), chrk (k := 34) (m := 34) hc rfl (by decide), b01_0]
  have eL := isl_L (cc h n q) (by omega)
  cases aL : isL (cc h n q)
  case true =>
    have ef : (if isl (cc h n q) = false then if cc h n q = 95 then f_Tokens_cutOne_84 (nI q) h else if cc h n q = 34 then xhb (f_Tokens_cutCode h (nI q)) fun v16 g15 => some (v16, g15) else xhb (f_Tokens_cutSign h (nI q) (chr (cc h n q))) fun v14 g13 => some (v14, g13) else f_Tokens_cutOne_84 (nI q) h) = f_Tokens_cutOne_84 (nI q) h := by
      rw [aL] at eL
      by_cases c1 : isl (cc h n q) = false
      · rw [if_pos c1, if_pos]
        rw [c1, Bool.false_or] at eL
        exact Nat.eq_of_beq_eq_true eL.symm
      · rw [if_neg c1]
    rw [ef, if_pos rfl]
    unfold f_Tokens_cutOne_84
    by_cases hs : s_name (cc h n) (n + 1) q - q ≤ 32
    · obtain ⟨h1, L1, i, e1, hF, hS1, hi, hw, hor⟩ := nmC_e hn hn2 hb hz hz2 hS hL hqn hr hs
      refine ⟨h1, L1, _, _, _, _, by rw [e1]; rfl, hF, hS1, Or.inr (Or.inr ⟨?_, rfl, rfl, Or.inl ⟨rfl, i, hi, hw, rfl, rfl⟩⟩), ?_⟩
      · rw [if_pos hs]; rintro (w | w); exact w rfl; exact absurd (show (1 : Int32) = -1 from w) (by decide)
      · rcases hor with hor | hor
        · exact Or.inl hor.1
        · refine Or.inr ⟨rfl, ?_, hor⟩
          rw [if_pos hs]; rintro (w | w); exact w rfl; exact absurd (show (1 : Int32) = -1 from w) (by decide)
    · have e0 := nm_lp hn hn2 hb hz hz2 (q := q) (n + 1) 200000 q (Nat.le_refl _) (by omega) (by omega) (by omega) (by omega)
      rw [if_neg hs] at e0
      have e1 : f_Tokens_cutName h (nI q) = _ := e0
      refine ⟨h, L, _, _, _, _, by rw [e1]; rfl, FrS.refl h, hS, Or.inl ⟨Or.inl ?_, rfl, rfl⟩, Or.inl rfl⟩
      rw [if_neg hs]; exact fun w => by cases w
  rw [aL] at eL
  have eL2 := (Bool.or_eq_false_iff.mp eL.symm)
  have n95 : ¬ cc h n q = 95 := fun w => by rw [w] at eL2; exact absurd eL2.2 (by decide)
  rw [if_pos eL2.1, if_neg n95, if_neg (show ¬ false = true by decide), if_neg (show ¬ false = true by decide)]
  by_cases a34 : cc h n q = 34
  · rw [if_pos a34, if_pos a34, code_e hn hn2 hb hz hz2 hqn]
    generalize s_code (cc h n) n (n + 1) (q + 1) = y
    obtain ⟨y1, y2⟩ := y
    cases y2 with
    | none => exact ⟨h, L, 5, nI q, nJ (y1 - q - 2), nI y1, rfl, FrS.refl h, hS, Or.inr (Or.inr ⟨by rintro (w | w); exact w rfl; exact absurd (show (3 : Int32) = -1 from w) (by decide), rfl, rfl, Or.inr (Or.inr (Or.inl ⟨rfl, rfl, rfl⟩))⟩), Or.inl rfl⟩
    | some x => exact ⟨h, L, 2, nI x, 0, -1, rfl, FrS.refl h, hS, Or.inl ⟨Or.inl (fun w => by cases w), rfl, rfl⟩, Or.inl rfl⟩
  rw [if_neg a34, if_neg a34, cutSign_e hn hn2 hz hz2 hqn]
  have hpl := pairv_le (cc h n q) (cc h n (q + 1))
  have hpg := pairv_lo (cc h n q) (cc h n (q + 1))
  by_cases az : pairv (cc h n q) (cc h n (q + 1)) = 0
  · rw [if_neg (show ¬ ¬ pairv (cc h n q) (cc h n (q + 1)) = 0 from fun w => w az), if_neg (show ¬ ¬ pairv (cc h n q) (cc h n (q + 1)) = 0 from fun w => w az)]
    by_cases a62 : cc h n q = 62
    · rw [if_pos a62, if_pos a62]
      exact ⟨h, L, 2, nI (q + 1), 0, -1, rfl, FrS.refl h, hS, Or.inl ⟨Or.inl (fun w => by cases w), rfl, rfl⟩, Or.inl rfl⟩
    · rw [if_neg a62, if_neg a62]
      by_cases aS : isS (cc h n q) = true
      · have h33 := isS_33 _ (by omega) aS
        rw [if_pos aS, if_pos aS]
        exact ⟨h, L, nI (cc h n q), nI q, 0, nI (q + 1), rfl, FrS.refl h, hS, Or.inr (Or.inr ⟨by rintro (w | w); exact w rfl; exact nI_m1 (by omega) w, rfl, rfl, Or.inr (Or.inr (Or.inr ⟨cc h n q, h33.1, by omega, rfl, ((ckd_p _ (by omega)).2 h33.2).symm⟩))⟩), Or.inl rfl⟩
      · rw [if_neg aS, if_neg aS]
        exact ⟨h, L, 2, nI q, 0, -1, rfl, FrS.refl h, hS, Or.inl ⟨Or.inr rfl, rfl, rfl⟩, Or.inl rfl⟩
  · rw [if_pos az, if_pos az]
    exact ⟨h, L, nI (pairv (cc h n q) (cc h n (q + 1)) - 128), nI q, 0, nI (q + 2), rfl, FrS.refl h, hS, Or.inr (Or.inr ⟨by rintro (w | w); exact w rfl; exact nI_m1 (by omega) w, rfl, rfl, Or.inr (Or.inr (Or.inr ⟨pairv (cc h n q) (cc h n (q + 1)), by omega, by omega, rfl, ((ckd_p _ (by omega)).1 (by omega)).symm⟩))⟩), Or.inl rfl⟩
end ONE
/-- behind j tokens; where the next one starts -/
def bp (T : Nat → Nat) (n : Nat) : Nat → Nat
  | 0 => 0
  | j + 1 => (s_tok T n (s_skip T n (n + 1) (bp T n j))).2.1
def pos (T : Nat → Nat) (n j : Nat) : Nat := s_skip T n (n + 1) (bp T n j)
/-- token j of the text -/
def tok (T : Nat → Nat) (n j : Nat) : Int32 × Nat × Option Nat × Option Nat := s_tok T n (pos T n j)
theorem bp_s (T : Nat → Nat) (n j : Nat) : bp T n (j + 1) = (tok T n j).2.1 := rfl
def goT (T : Nat → Nat) (n j : Nat) : Prop := ¬ badT (tok T n j) ∧ ¬ (tok T n j).1 = 0
theorem s_name_ne (T : Nat → Nat) {n : Nat} (hT : ∀ p, ¬ p < n → T p = 256) : ∀ (m p : Nat), n - p < m → ¬ (isL (T (s_name T m p)) = true ∨ isD (T (s_name T m p)) = true) := by
  intro m
  induction m with
  | zero => intro p h; omega
  | succ m ih =>
    intro p hm
    rw [s_name_u]
    by_cases a : isL (T p) = true ∨ isD (T p) = true
    · have hp : p < n := by
        by_cases z : p < n
        · exact z
        · rw [hT p z] at a
          exact absurd a (by decide)
      rw [if_pos a]
      exact ih (p + 1) (by omega)
    · rw [if_neg a]; exact a
section TB
variable {T : Nat → Nat} {n : Nat} (hT : ∀ p, ¬ p < n → T p = 256) (hT2 : ∀ p, T p ≤ 256)
theorem tok_bd (hT : ∀ p, ¬ p < n → T p = 256) (hT2 : ∀ p, T p ≤ 256) {q : Nat} (hq : q ≤ n) : q ≤ (s_tok T n q).2.1 ∧ (s_tok T n q).2.1 ≤ n ∧ (¬ badT (s_tok T n q) → ¬ (s_tok T n q).1 = 0 → q < (s_tok T n q).2.1) ∧ ((s_tok T n q).1 = 1 → (isL (T q) = true) ∧ (s_tok T n q).2.1 = s_name T (n + 1) q) := by
  have nn : ∀ {α : Prop} {c : Nat}, 2 ≤ c → c < 300 → nI c = 1 → α := fun a b w => by
    have := (nI_c (b := 1) (by omega) (by decide)).mp w
    omega
  unfold s_tok
  by_cases a : T q = 256
  · rw [if_pos a]
    exact ⟨Nat.le_refl _, hq, fun _ w => absurd rfl w, fun w => absurd (show (0 : Int32) = 1 from w) (by decide)⟩
  have hqn : q < n := by
    by_cases w : q < n
    · exact w
    · exact absurd (hT q w) a
  rw [if_neg a]
  by_cases aL : isL (T q) = true
  · rw [if_pos aL]
    have e : s_name T (n + 1) q = s_name T n (q + 1) := by rw [s_name_u, if_pos (Or.inl aL)]
    have h1 := s_name_bd (T := T) (n := n) hT n (q + 1) (by omega)
    refine ⟨?_, ?_, fun _ _ => ?_, fun _ => ⟨aL, rfl⟩⟩
    · show q ≤ s_name T (n + 1) q; omega
    · show s_name T (n + 1) q ≤ n; omega
    · show q < s_name T (n + 1) q; omega
  rw [if_neg aL]
  by_cases aD : isD (T q) = true
  · rw [if_pos aD]
    have h1 := s_num_bd (T := T) hT hT2 hq
    have h2 : q < (s_num T n q).1 := by
      unfold s_num
      by_cases c : T q = 48 ∧ T (q + 1) = 120
      · rw [if_pos c]
        have hp : q + 1 < n := by
          by_cases z : q + 1 < n
          · exact z
          · have := hT (q + 1) z; omega
        have := s_hex_bd hT hT2 (n + 3) (q + 2) 0 0 (by omega) (by decide) (by decide)
        show q < (s_hex T (n + 3) (q + 2) 0 0).1
        omega
      · rw [if_neg c]
        have hr := isD_c aD
        have e : s_dec T (n + 1) q 0 = s_dec T n (q + 1) (0 * 10 + (T q - 48)) := if_pos ⟨aD, by omega⟩
        have := (s_dec_bd hT n (q + 1) (0 * 10 + (T q - 48)) (by omega) (by omega)).1
        show q < (s_dec T (n + 1) q 0).1
        rw [e]
        omega
    exact ⟨h1.1, h1.2.1, fun _ _ => h2, fun w => absurd (show (2 : Int32) = 1 from w) (by decide)⟩
  rw [if_neg aD]
  by_cases a34 : T q = 34
  · rw [if_pos a34]
    have h1 := s_code_bd (T := T) (n := n) (n + 1) (q + 1) (by omega)
    refine ⟨?_, h1.2.1, fun _ _ => ?_, fun w => absurd (show (3 : Int32) = 1 from w) (by decide)⟩
    · show q ≤ (s_code T n (n + 1) (q + 1)).1; omega
    · show q < (s_code T n (n + 1) (q + 1)).1; omega
  rw [if_neg a34]
  have hpl := pairv_le (T q) (T (q + 1))
  have hpg := pairv_lo (T q) (T (q + 1))
  by_cases az : pairv (T q) (T (q + 1)) = 0
  · rw [if_neg (show ¬ ¬ pairv (T q) (T (q + 1)) = 0 from fun w => w az)]
    by_cases a62 : T q = 62
    · rw [if_pos a62]
      exact ⟨by show q ≤ q + 1; omega, by show q + 1 ≤ n; omega, fun _ _ => by show q < q + 1; omega, fun w => absurd (show (260 : Int32) = 1 from w) (by decide)⟩
    · rw [if_neg a62]
      by_cases aS : isS (T q) = true
      · have h33 := isS_33 _ (by have := hT2 q; omega) aS
        rw [if_pos aS]
        exact ⟨by show q ≤ q + 1; omega, by show q + 1 ≤ n; omega, fun _ _ => by show q < q + 1; omega, fun w => nn (by omega) (by omega) w⟩
      · rw [if_neg aS]
        exact ⟨Nat.le_refl _, hq, fun w _ => absurd (Or.inr rfl) w, fun w => absurd (show (-1 : Int32) = 1 from w) (by decide)⟩
  · have hp : q + 1 < n := by
      by_cases z : q + 1 < n
      · exact z
      · exact absurd (by rw [hT (q + 1) z]; exact pairv_256 _ (by have := hT2 q; omega)) az
    rw [if_pos az]
    exact ⟨by show q ≤ q + 2; omega, by show q + 2 ≤ n; omega, fun _ _ => by show q < q + 2; omega, fun w => nn (by omega) (by omega) w⟩
theorem bp_bd (hT : ∀ p, ¬ p < n → T p = 256) (hT2 : ∀ p, T p ≤ 256) : ∀ j, bp T n j ≤ n ∧ pos T n j ≤ n ∧ bp T n j ≤ pos T n j := by
  intro j
  induction j with
  | zero =>
    have := s_skip_bd (T := T) (n := n) (n + 1) 0 (Nat.zero_le _)
    exact ⟨Nat.zero_le _, this.2, Nat.zero_le _⟩
  | succ j ih =>
    have h1 := tok_bd hT hT2 ih.2.1
    have h2 : bp T n (j + 1) ≤ n := h1.2.1
    have := s_skip_bd (T := T) (n := n) (n + 1) _ h2
    exact ⟨h2, this.2, this.1⟩
theorem bp_lt (hT : ∀ p, ¬ p < n → T p = 256) (hT2 : ∀ p, T p ≤ 256) {j : Nat} (h : goT T n j) : pos T n j < bp T n (j + 1) := (tok_bd hT hT2 (bp_bd hT hT2 j).2.1).2.2.1 h.1 h.2
theorem bp_j (hT : ∀ p, ¬ p < n → T p = 256) (hT2 : ∀ p, T p ≤ 256) : ∀ j, (∀ i, i < j → goT T n i) → j ≤ bp T n j := by
  intro j
  induction j with
  | zero => intro _; exact Nat.zero_le _
  | succ j ih =>
    intro h
    have h1 := ih (fun i hi => h i (by omega))
    have h2 := bp_lt hT hT2 (h j (by omega))
    have h3 := (bp_bd hT hT2 j).2.2
    omega
end TB
theorem SYM.fr {h g : mv_H} {L : List (List Int32)} (hS : SYM h L) (h8 : mv_a g 8 = mv_a h 8) (h9 : mv_a g 9 = mv_a h 9) (h10 : mv_a g 10 = mv_a h 10) (h11 : mv_a g 11 = mv_a h 11) (hi : mv_i g 7 5 = mv_i h 7 5) : SYM g L := by
  exact ⟨hi.trans hS.sz, fun i w => by rw [h9]; exact hS.st i w, fun i w j x => by rw [h8]; exact hS.sp i w j x, fun b w => by rw [h10]; exact hS.bk b w, fun i w => by rw [h11]; exact hS.ch i w, hS.nd⟩
section ADT
variable (h : mv_H) (z : Nat) (k pl : Int32) (v : Int64)
theorem addT_a {o : Nat} (e : ¬ o = 4) (e2 : ¬ o = 5) : mv_a (addT h z k pl v) o = mv_a h o := by
  funext j
  show mv_u (mv_a (mv_sa h 4 z k)) 5 z pl o j = _
  rw [mv_u_ne _ _ (fun w => e2 w.1)]
  exact mv_u_ne _ _ (fun w => e w.1)
theorem addT_4 (j : Nat) : mv_a (addT h z k pl v) 4 j = if j = z then k else mv_a h 4 j := by
  show mv_u (mv_a (mv_sa h 4 z k)) 5 z pl 4 j = _
  rw [mv_u_ne _ _ (fun w => absurd w.1 (by decide))]
  by_cases e : j = z
  · rw [if_pos e, e]; exact mv_u_same _ _ _ _
  · rw [if_neg e]; exact mv_u_ne _ _ (fun w => e w.2)
theorem addT_5 (j : Nat) : mv_a (addT h z k pl v) 5 j = if j = z then pl else mv_a h 5 j := by
  by_cases e : j = z
  · rw [if_pos e, e]; exact mv_u_same (mv_a (mv_sa h 4 z k)) 5 z pl
  · rw [if_neg e]
    show mv_u (mv_a (mv_sa h 4 z k)) 5 z pl 5 j = _
    rw [mv_u_ne _ _ (fun w => e w.2)]
    show mv_u (mv_a h) 4 z k 5 j = _
    exact mv_u_ne (mv_a h) k (fun w => absurd w.1 (by decide))
theorem addT_6 (j : Nat) : mv_b (addT h z k pl v) 6 j = if j = z then v else mv_b h 6 j := by
  by_cases e : j = z
  · rw [if_pos e, e]; exact mv_u_same (mv_b h) 6 z v
  · rw [if_neg e]; exact mv_u_ne (mv_b h) v (fun w => e w.2)
theorem addT_b {o : Nat} (e : ¬ o = 6) : mv_b (addT h z k pl v) o = mv_b h o := by
  funext j
  exact mv_u_ne (mv_b h) v (fun w => e w.1)
theorem addT_i {o j : Nat} (e : ¬ (o = 3 ∧ j = 6)) : mv_i (addT h z k pl v) o j = mv_i h o j := mv_u_ne (mv_i h) _ e
theorem addT_z : mv_i (addT h z k pl v) 3 6 = nI (z + 1) := mv_u_same (mv_i h) 3 6 _
end ADT
/-- cut's frame -/
def FrC (h g : mv_H) : Prop := (∀ o, ¬ o = 4 → ¬ o = 5 → o < 8 ∨ 11 < o → mv_a g o = mv_a h o) ∧ (∀ o j, ¬ (o = 7 ∧ j = 5) → ¬ (o = 3 ∧ j = 6) → mv_i g o j = mv_i h o j) ∧ (g.2.1 = h.2.1) ∧ (g.2.2.1 = h.2.2.1) ∧ (∀ o, ¬ o = 6 → mv_b g o = mv_b h o)
theorem FrC.a {h g : mv_H} (h99 : FrC h g) : ∀ o, ¬ o = 4 → ¬ o = 5 → o < 8 ∨ 11 < o → mv_a g o = mv_a h o := h99.1
theorem FrC.i {h g : mv_H} (h99 : FrC h g) : ∀ o j, ¬ (o = 7 ∧ j = 5) → ¬ (o = 3 ∧ j = 6) → mv_i g o j = mv_i h o j := h99.2.1
theorem FrC.l {h g : mv_H} (h99 : FrC h g) : g.2.1 = h.2.1 := h99.2.2.1
theorem FrC.r {h g : mv_H} (h99 : FrC h g) : g.2.2.1 = h.2.2.1 := h99.2.2.2.1
theorem FrC.b {h g : mv_H} (h99 : FrC h g) : ∀ o, ¬ o = 6 → mv_b g o = mv_b h o := h99.2.2.2.2
theorem CTok.mono {h : mv_H} {q : Nat} {u : Int32 × Nat × Option Nat × Option Nat} {L : List (List Int32)} {k pl : Int32} {v : Int64} {bh : Int32} (H : CTok h q u L k pl v bh) (R : List (List Int32)) : CTok h q u (L ++ R) k pl v bh := by
  rcases H with H | H | ⟨h1, h2, h3, ⟨h4, i, hi, h5, h6, h7⟩ | H⟩
  · exact Or.inl H
  · exact Or.inr (Or.inl H)
  · refine Or.inr (Or.inr ⟨h1, h2, h3, Or.inl ⟨h4, i, by rw [List.length_append]; omega, ?_, h6, h7⟩⟩)
    rw [List.getD_eq_getElem?_getD, List.getElem?_append_left hi, ← List.getD_eq_getElem?_getD]
    exact h5
  · exact Or.inr (Or.inr ⟨h1, h2, h3, Or.inr H⟩)
def isN (c : Nat) : Bool := isL c || isD c
theorem sl_row {h g : mv_H} (e : mv_a g 1 = mv_a h 1) (q l : Nat) : sl g q l = sl h q l := by unfold sl; rw [e]
theorem cc_row {h g : mv_H} (e : mv_a g 1 = mv_a h 1) (n : Nat) : cc g n = cc h n := by funext p; unfold cc; rw [e]
theorem byt_row {h g : mv_H} (e : mv_a g 1 = mv_a h 1) (hb : byt h) : byt g := fun p hp => by rw [e]; exact hb p hp
theorem CTok.row {h g : mv_H} (e : mv_a g 1 = mv_a h 1) {q : Nat} {u : Int32 × Nat × Option Nat × Option Nat} {L : List (List Int32)} {k pl : Int32} {v : Int64} {bh : Int32} (H : CTok g q u L k pl v bh) : CTok h q u L k pl v bh := by
  unfold CTok at H ⊢
  rw [sl_row e] at H
  exact H
/-- as cut goes on: j tokens stand -/
def CutI (h0 : mv_H) (n : Nat) (W : List (List Int32)) (h : mv_H) (j : Nat) (L : List (List Int32)) : Prop := (FrC h0 h) ∧ (mv_i h 3 6 = nI (j + 1)) ∧ (SYM h L) ∧ (∃ R, L = W ++ R) ∧ (2 * L.length ≤ 34 + bp (cc h0 n) n j + (if isN (cc h0 n (bp (cc h0 n) n j)) = true then 0 else 1)) ∧ (stL L L.length ≤ 57 + bp (cc h0 n) n j) ∧ (∀ i, i < j → ∃ bh, CTok h0 (pos (cc h0 n) n i) (tok (cc h0 n) n i) L (mv_a h 4 (i + 1)) (mv_a h 5 (i + 1)) (mv_b h 6 (i + 1)) bh)
theorem CutI.fr {h0 : mv_H} {n : Nat} {W : List (List Int32)} {h : mv_H} {j : Nat} {L : List (List Int32)} (h99 : CutI h0 n W h j L) : FrC h0 h := h99.1
theorem CutI.sz {h0 : mv_H} {n : Nat} {W : List (List Int32)} {h : mv_H} {j : Nat} {L : List (List Int32)} (h99 : CutI h0 n W h j L) : mv_i h 3 6 = nI (j + 1) := h99.2.1
theorem CutI.sym {h0 : mv_H} {n : Nat} {W : List (List Int32)} {h : mv_H} {j : Nat} {L : List (List Int32)} (h99 : CutI h0 n W h j L) : SYM h L := h99.2.2.1
theorem CutI.wrd {h0 : mv_H} {n : Nat} {W : List (List Int32)} {h : mv_H} {j : Nat} {L : List (List Int32)} (h99 : CutI h0 n W h j L) : ∃ R, L = W ++ R := h99.2.2.2.1
theorem CutI.cnt {h0 : mv_H} {n : Nat} {W : List (List Int32)} {h : mv_H} {j : Nat} {L : List (List Int32)} (h99 : CutI h0 n W h j L) : 2 * L.length ≤ 34 + bp (cc h0 n) n j + (if isN (cc h0 n (bp (cc h0 n) n j)) = true then 0 else 1) := h99.2.2.2.2.1
theorem CutI.spl {h0 : mv_H} {n : Nat} {W : List (List Int32)} {h : mv_H} {j : Nat} {L : List (List Int32)} (h99 : CutI h0 n W h j L) : stL L L.length ≤ 57 + bp (cc h0 n) n j := h99.2.2.2.2.2.1
theorem CutI.tk {h0 : mv_H} {n : Nat} {W : List (List Int32)} {h : mv_H} {j : Nat} {L : List (List Int32)} (h99 : CutI h0 n W h j L) : ∀ i, i < j → ∃ bh, CTok h0 (pos (cc h0 n) n i) (tok (cc h0 n) n i) L (mv_a h 4 (i + 1)) (mv_a h 5 (i + 1)) (mv_b h 6 (i + 1)) bh := h99.2.2.2.2.2.2
/-- as cut ends: J good tokens, then the last one, good or bad -/
def CutZ (h0 : mv_H) (n : Nat) (W : List (List Int32)) (h : mv_H) (J : Nat) (L : List (List Int32)) : Prop := (FrC h0 h) ∧ (mv_i h 3 6 = nI (J + 2)) ∧ (SYM h L) ∧ (∃ R, L = W ++ R) ∧ (L.length ≤ 16440) ∧ (stL L L.length ≤ 32880) ∧ (∀ i, i ≤ J → ∃ bh, CTok h0 (pos (cc h0 n) n i) (tok (cc h0 n) n i) L (mv_a h 4 (i + 1)) (mv_a h 5 (i + 1)) (mv_b h 6 (i + 1)) bh) ∧ (∀ i, i < J → goT (cc h0 n) n i) ∧ (¬ goT (cc h0 n) n J)
theorem CutZ.fr {h0 : mv_H} {n : Nat} {W : List (List Int32)} {h : mv_H} {J : Nat} {L : List (List Int32)} (h99 : CutZ h0 n W h J L) : FrC h0 h := h99.1
theorem CutZ.sz {h0 : mv_H} {n : Nat} {W : List (List Int32)} {h : mv_H} {J : Nat} {L : List (List Int32)} (h99 : CutZ h0 n W h J L) : mv_i h 3 6 = nI (J + 2) := h99.2.1
theorem CutZ.sym {h0 : mv_H} {n : Nat} {W : List (List Int32)} {h : mv_H} {J : Nat} {L : List (List Int32)} (h99 : CutZ h0 n W h J L) : SYM h L := h99.2.2.1
theorem CutZ.wrd {h0 : mv_H} {n : Nat} {W : List (List Int32)} {h : mv_H} {J : Nat} {L : List (List Int32)} (h99 : CutZ h0 n W h J L) : ∃ R, L = W ++ R := h99.2.2.2.1
theorem CutZ.len {h0 : mv_H} {n : Nat} {W : List (List Int32)} {h : mv_H} {J : Nat} {L : List (List Int32)} (h99 : CutZ h0 n W h J L) : L.length ≤ 16440 := h99.2.2.2.2.1
theorem CutZ.spl {h0 : mv_H} {n : Nat} {W : List (List Int32)} {h : mv_H} {J : Nat} {L : List (List Int32)} (h99 : CutZ h0 n W h J L) : stL L L.length ≤ 32880 := h99.2.2.2.2.2.1
theorem CutZ.tk {h0 : mv_H} {n : Nat} {W : List (List Int32)} {h : mv_H} {J : Nat} {L : List (List Int32)} (h99 : CutZ h0 n W h J L) : ∀ i, i ≤ J → ∃ bh, CTok h0 (pos (cc h0 n) n i) (tok (cc h0 n) n i) L (mv_a h 4 (i + 1)) (mv_a h 5 (i + 1)) (mv_b h 6 (i + 1)) bh := h99.2.2.2.2.2.2.1
theorem CutZ.go {h0 : mv_H} {n : Nat} {W : List (List Int32)} {h : mv_H} {J : Nat} {L : List (List Int32)} (h99 : CutZ h0 n W h J L) : ∀ i, i < J → goT (cc h0 n) n i := h99.2.2.2.2.2.2.2.1
theorem CutZ.stop {h0 : mv_H} {n : Nat} {W : List (List Int32)} {h : mv_H} {J : Nat} {L : List (List Int32)} (h99 : CutZ h0 n W h J L) : ¬ goT (cc h0 n) n J := h99.2.2.2.2.2.2.2.2
theorem CTok.bh {h : mv_H} {q : Nat} {u : Int32 × Nat × Option Nat × Option Nat} {L : List (List Int32)} {k pl : Int32} {v : Int64} {bh : Int32} (H : CTok h q u L k pl v bh) : (¬ badT u ∧ ¬ u.1 = 0 → bh = nI u.2.1) ∧ (¬ (¬ badT u ∧ ¬ u.1 = 0) → bh = -1) := by
  rcases H with ⟨h1, h2, h3⟩ | ⟨h1, h2, h3, h4⟩ | ⟨h1, h2, h3, H⟩
  · exact ⟨fun w => absurd h1 w.1, fun _ => h3⟩
  · exact ⟨fun w => absurd h2 w.2, fun _ => h4⟩
  · refine ⟨fun _ => h3, fun w => absurd ⟨h1, fun e => ?_⟩ w⟩
    rcases H with ⟨h4, _⟩ | ⟨h4, _⟩ | ⟨h4, _⟩ | ⟨c, c1, c2, h4, _⟩
    · rw [h4] at e; exact absurd e (by decide)
    · rw [h4] at e; exact absurd e (by decide)
    · rw [h4] at e; exact absurd e (by decide)
    · rw [h4] at e
      have := (nI_c (b := 0) (by omega) (by decide)).mp e
      omega
section CUTL
variable {h0 : mv_H} {n : Nat} {W : List (List Int32)} (hn : mv_i h0 3 5 = nI n) (hn2 : n ≤ 32768) (hb0 : byt h0)
/-- one token more, of any kind -/
theorem cutS_e (hn : mv_i h0 3 5 = nI n) (hn2 : n ≤ 32768) (hb0 : byt h0) {h : mv_H} {j : Nat} {L : List (List Int32)} (I : CutI h0 n W h j L) (hg : ∀ i, i < j → goT (cc h0 n) n i) :
    ∃ h2 L2 bh, (xhb (f_Tokens_behindSpaces h (nI (bp (cc h0 n) n j))) fun v2 g1 => f_Tokens_cutOne g1 v2) = some (bh, h2) ∧ FrC h0 h2 ∧ mv_i h2 3 6 = nI (j + 2) ∧ SYM h2 L2 ∧ (∃ R, L2 = W ++ R) ∧ L2.length ≤ 16440 ∧ stL L2 L2.length ≤ 32880 ∧
      (∀ i, i ≤ j → ∃ bh, CTok h0 (pos (cc h0 n) n i) (tok (cc h0 n) n i) L2 (mv_a h2 4 (i + 1)) (mv_a h2 5 (i + 1)) (mv_b h2 6 (i + 1)) bh) ∧
      (goT (cc h0 n) n j → bh = nI (bp (cc h0 n) n (j + 1)) ∧ CutI h0 n W h2 (j + 1) L2) ∧ (¬ goT (cc h0 n) n j → bh = -1) := by
  have er : mv_a h 1 = mv_a h0 1 := I.fr.a 1 (by decide) (by decide) (by omega)
  have hT := cc_end h0 n
  have hT2 := cc_lt h0 n
  have hbd := bp_bd hT hT2 j
  have hbj := bp_j hT hT2 j hg
  have en : mv_i h 3 5 = nI n := (I.fr.i 3 5 (by omega) (by omega)).trans hn
  have ecc : cc h n = cc h0 n := cc_row er n
  have hbh := byt_row er hb0
  have hcnt := I.cnt
  have hspl := I.spl
  have hL : L.length ≤ 16430 := by
    split at hcnt <;> omega
  have e1 := bs_e en hn2 hbh hbd.1
  rw [ecc] at e1
  obtain ⟨h1, L1, k, pl, v, bh, ef, hF, hS1, hC, hor⟩ := cutOne_e en hn2 hbh I.sz (by omega) I.sym (by omega) (by omega) hbd.2.1
  rw [ecc] at hC hor
  have hC0 : CTok h0 (pos (cc h0 n) n j) (tok (cc h0 n) n j) L1 k pl v bh := CTok.row er hC
  have tb := tok_bd hT hT2 hbd.2.1
  have hL1 : ∃ R, L1 = L ++ R := by
    rcases hor with e | ⟨_, _, e⟩
    · exact ⟨[], by rw [e, List.append_nil]⟩
    · exact ⟨_, e⟩
  have hlen1 : L1.length ≤ L.length + 1 := by
    rcases hor with e | ⟨_, _, e⟩
    · rw [e]; omega
    · rw [e, len_s]; omega
  have hS2 : SYM (addT h1 (j + 1) k pl v) L1 := hS1.fr (addT_a _ _ _ _ _ (by decide) (by decide)) (addT_a _ _ _ _ _ (by decide) (by decide)) (addT_a _ _ _ _ _ (by decide) (by decide)) (addT_a _ _ _ _ _ (by decide) (by decide)) (addT_i _ _ _ _ _ (by omega))
  have hFC : FrC h0 (addT h1 (j + 1) k pl v) := ⟨
    fun o a b c => (addT_a _ _ _ _ _ a b).trans ((hF.a o c).trans (I.fr.a o a b c)),
    fun o j' a b => (addT_i _ _ _ _ _ b).trans ((hF.i o j' a).trans (I.fr.i o j' a b)),
    hF.l.trans I.fr.l,
    hF.r.trans I.fr.r,
    fun o a => (addT_b _ _ _ _ _ a).trans ((congrFun hF.b o).trans (I.fr.b o a))⟩
  have hW : ∃ R, L1 = W ++ R := by
    obtain ⟨R, e⟩ := I.wrd
    obtain ⟨R', e'⟩ := hL1
    exact ⟨R ++ R', by rw [e', e, List.append_assoc]⟩
  have htk : ∀ i, i ≤ j → ∃ bh, CTok h0 (pos (cc h0 n) n i) (tok (cc h0 n) n i) L1 (mv_a (addT h1 (j + 1) k pl v) 4 (i + 1)) (mv_a (addT h1 (j + 1) k pl v) 5 (i + 1)) (mv_b (addT h1 (j + 1) k pl v) 6 (i + 1)) bh := by
    intro i hi
    rw [addT_4, addT_5, addT_6]
    by_cases e : i = j
    · rw [if_pos (by omega), if_pos (by omega), if_pos (by omega), e]
      exact ⟨bh, hC0⟩
    · rw [if_neg (by omega), if_neg (by omega), if_neg (by omega), hF.a 4 (by omega), hF.a 5 (by omega), show mv_b h1 6 = mv_b h 6 from congrFun hF.b 6]
      obtain ⟨bh', H⟩ := I.tk i (by omega)
      obtain ⟨R, e'⟩ := hL1
      rw [e']
      exact ⟨bh', H.mono R⟩
  have hspl1 : stL L1 L1.length ≤ 32880 := by
    rcases hor with e | ⟨_, _, e⟩
    · rw [e]; omega
    · rw [e, len_s, stL_r, sl_len]
      have h13 := (bp_bd hT hT2 j).2.2
      have e4 : (s_tok (cc h0 n) n (pos (cc h0 n) n j)).2.1 = bp (cc h0 n) n (j + 1) := rfl
      have hnx := (bp_bd hT hT2 (j + 1)).1
      show stL L L.length + ((s_tok (cc h0 n) n (pos (cc h0 n) n j)).2.1 - pos (cc h0 n) n j) ≤ _
      rw [e4]
      omega
  refine ⟨addT h1 (j + 1) k pl v, L1, bh, ?_, hFC, addT_z .., hS2, hW, by omega, hspl1, htk, fun hgo => ⟨hC0.bh.1 hgo, ?_⟩, fun hgo => hC0.bh.2 hgo⟩
  · rw [e1, xhb_s]
    exact ef
  · have hlt := bp_lt hT hT2 hgo
    have hnx := (bp_bd hT hT2 (j + 1)).1
    have h13 := (bp_bd hT hT2 j).2.2
    have hcntL : 2 * L.length ≤ 34 + pos (cc h0 n) n j + 1 ∧ (isL (cc h0 n (pos (cc h0 n) n j)) = true → 2 * L.length ≤ 34 + pos (cc h0 n) n j) := by
      constructor
      · split at hcnt <;> omega
      · intro w
        by_cases e : bp (cc h0 n) n j = pos (cc h0 n) n j
        · rw [e, if_pos (by unfold isN; rw [w]; rfl)] at hcnt
          exact hcnt
        · split at hcnt <;> omega
    refine ⟨hFC, addT_z .., hS2, hW, ?_, ?_, fun i hi => htk i (by omega)⟩
    · rcases hor with e | ⟨e1, _, e⟩
      · rw [e]
        split <;> omega
      · have ht := tb.2.2.2 e1
        have h2 := hcntL.2 ht.1
        have hne := s_name_ne (cc h0 n) hT (n + 1) (pos (cc h0 n) n j) (by omega)
        have e3 : bp (cc h0 n) n (j + 1) = s_name (cc h0 n) (n + 1) (pos (cc h0 n) n j) := ht.2
        rw [e, len_s]
        have hni : ¬ isN (cc h0 n (bp (cc h0 n) n (j + 1))) = true := by
          rw [e3]
          unfold isN
          rw [Bool.or_eq_true]
          exact hne
        rw [if_neg hni]
        omega
    · rcases hor with e | ⟨_, _, e⟩
      · rw [e]; omega
      · rw [e, len_s, stL_r, sl_len]
        have e3 : (tok (cc h0 n) n j).2.1 = bp (cc h0 n) n (j + 1) := rfl
        have e4 : (s_tok (cc h0 n) n (pos (cc h0 n) n j)).2.1 = bp (cc h0 n) n (j + 1) := rfl
        show stL L L.length + ((s_tok (cc h0 n) n (pos (cc h0 n) n j)).2.1 - pos (cc h0 n) n j) ≤ _
        rw [e4]
        omega
theorem cut_lp (hn : mv_i h0 3 5 = nI n) (hn2 : n ≤ 32768) (hb0 : byt h0) : ∀ (m : Nat) (nn j : Nat) (h : mv_H) (L : List (List Int32)), CutI h0 n W h j L → (∀ i, i < j → goT (cc h0 n) n i) → n + 1 - bp (cc h0 n) n j < m → m < nn →
    ∃ J h' L', f_Tokens_cut_42 nn (nI (bp (cc h0 n) n j)) (nI j) h = some h' ∧ CutZ h0 n W h' J L' := by
  intro m
  induction m with
  | zero => intro nn j h L _ _ w; omega
  | succ m ih =>
    intro nn j h L I hg hm hnn
    obtain ⟨nn, rfl⟩ : ∃ k, nn = k + 1 := ⟨nn - 1, by omega⟩
    have hT := cc_end h0 n
    have hT2 := cc_lt h0 n
    have hbd := bp_bd hT hT2 j
    have hbj := bp_j hT hT2 j hg
    obtain ⟨h2, L2, bh, ef, hFC, hsz, hS2, hW, hl2, hs2, htk, hgo, hno⟩ := cutS_e hn hn2 hb0 I hg
    have e32 : (32768 : Int32) = nI 32768 := rfl
    have el : f_Tokens_cut_42 (nn + 1) (nI (bp (cc h0 n) n j)) (nI j) h = f_Tokens_cut_42 nn bh (nI (j + 1)) h2 := by
      show fF_Tokens_cut_42 (f_Tokens_cut_42 nn) (nI (bp (cc h0 n) n j)) (nI j) h = _
      unfold fF_Tokens_cut_42
      rw [e32, if_neg (fun w => by rw [Int32.lt_iff_toInt_lt, nIi (by omega), nIi (by omega)] at w; omega), if_neg (nI_neg (by omega))]
      obtain ⟨v2, g1, e1⟩ : ∃ v2 g1, f_Tokens_behindSpaces h (nI (bp (cc h0 n) n j)) = some (v2, g1) := by
        cases q : f_Tokens_behindSpaces h (nI (bp (cc h0 n) n j)) with
        | none => rw [q] at ef; cases ef
        | some r => exact ⟨r.1, r.2, rfl⟩
      rw [e1, xhb_s] at ef ⊢
      rw [ef, xhb_s, nI1 (by omega)]
    rw [el]
    by_cases g : goT (cc h0 n) n j
    · obtain ⟨eb, I2⟩ := hgo g
      have hlt := bp_lt hT hT2 g
      have hnx := (bp_bd hT hT2 (j + 1)).1
      rw [eb]
      exact ih nn (j + 1) h2 L2 I2 (fun i hi => by
        by_cases e : i = j
        · rw [e]; exact g
        · exact hg i (by omega)) (by omega) (by omega)
    · rw [hno g]
      obtain ⟨nn, rfl⟩ : ∃ k, nn = k + 1 := ⟨nn - 1, by omega⟩
      refine ⟨j, h2, L2, ?_, hFC, hsz, hS2, hW, hl2, hs2, htk, hg, g⟩
      show fF_Tokens_cut_42 (f_Tokens_cut_42 nn) (-1) (nI (j + 1)) h2 = _
      unfold fF_Tokens_cut_42
      split
      · rfl
      · rw [if_pos (by decide)]
end CUTL
section SPELT
variable {h : mv_H}
theorem spelt_lpW {q l s : Nat} (hq : q + l ≤ 128) (hs : s + l ≤ 32896) : ∀ (m nn j : Nat), j + m = l → m < nn → f_Symbols_isSpelt_12_29 nn (nI q) (nI l) (nI s) (nI j) h = some (b01 (eqs (fun k => mv_a h 8 (s + k)) (fun k => mv_a h 12 (q + k)) m j), h) := by
  intro m
  induction m with
  | zero =>
    intro nn j hj hn
    obtain ⟨nn, rfl⟩ : ∃ k, nn = k + 1 := ⟨nn - 1, by omega⟩
    show fF_Symbols_isSpelt_12_29 (f_Symbols_isSpelt_12_29 nn) (nI q) (nI l) (nI s) (nI j) h = _
    unfold fF_Symbols_isSpelt_12_29
    rw [if_pos ((nIle (by omega) (by omega)).mpr (by omega)), xz1']
    rfl
  | succ m ih =>
    intro nn j hj hn
    obtain ⟨nn, rfl⟩ : ∃ k, nn = k + 1 := ⟨nn - 1, by omega⟩
    show fF_Symbols_isSpelt_12_29 (f_Symbols_isSpelt_12_29 nn) (nI q) (nI l) (nI s) (nI j) h = _
    unfold fF_Symbols_isSpelt_12_29
    rw [if_neg (fun z => by have := (nIle (by omega) (by omega)).mp z; omega), nIadd (by omega), nIadd (by omega), xvi_n (by omega) (by decide), xvi_n (by omega) (by decide), cln (by omega), cln (by omega), nI1 (by omega), xz0]
    simp only [cond_true]
    have es : eqs (fun k => mv_a h 8 (s + k)) (fun k => mv_a h 12 (q + k)) (m + 1) j = if mv_a h 8 (s + j) = mv_a h 12 (q + j) then eqs (fun k => mv_a h 8 (s + k)) (fun k => mv_a h 12 (q + k)) m (j + 1) else false := rfl
    rw [es]
    by_cases e : mv_a h 8 (s + j) = mv_a h 12 (q + j)
    · rw [if_pos e, if_pos e]
      exact ih nn (j + 1) (by omega) (by omega)
    · rw [if_neg e, if_neg e]
      rfl
end SPELT
/-- a piece of the text -/
def slW (h : mv_H) (q l : Nat) : List Int32 := (List.range l).map fun j => mv_a h 12 (q + j)
theorem sl_lenW (h : mv_H) (q l : Nat) : (slW h q l).length = l := by unfold slW; rw [List.length_map, List.length_range]
theorem sl_getW (h : mv_H) (q l j : Nat) (hj : j < l) : (slW h q l).getD j 0 = mv_a h 12 (q + j) := by
  unfold slW
  rw [List.getD_eq_getElem?_getD, List.getElem?_map, List.getElem?_range hj]
  rfl
theorem spelt_eW {h : mv_H} {L : List (List Int32)} (hS : SYM h L) (hL : L.length ≤ 16440) (hr : stL L L.length ≤ 32896) {i q l : Nat} (hi : i < L.length) (hq : q + l ≤ 128) : f_Symbols_isSpelt_12 h (nI i) (nI q) (nI l) = some (b01 (decide (L.getD i [] = slW h q l)), h) := by
  have e1 := hS.st i (by omega)
  have e2 := hS.st (i + 1) (by omega)
  have e3 := stL_s hi
  have e4 := stL_mono (L := L) (L.length - (i + 1)) (i + 1) (by omega)
  rw [show i + 1 + (L.length - (i + 1)) = L.length by omega] at e4
  unfold f_Symbols_isSpelt_12
  rw [nI1 (by omega), xvi_n (by omega) (by decide), xvi_n (by omega) (by decide), cln (by omega), cln (by omega), e1, e2, nIsub (by omega) (by omega), xz0]
  simp only [cond_true]
  by_cases a : stL L (i + 1) - stL L i = l
  · have e0 : (0 : Int32) = nI 0 := rfl
    rw [if_pos (by rw [a]), e0, spelt_lpW (s := stL L i) hq (by omega) l 200000 0 (by omega) (by omega)]
    have key : eqs (fun k => mv_a h 8 (stL L i + k)) (fun k => mv_a h 12 (q + k)) l 0 = decide (L.getD i [] = slW h q l) := by
      apply Bool.eq_iff_iff.mpr
      rw [eqs_all, decide_eq_true_iff]
      constructor
      · intro w
        refine list_eq (by rw [sl_lenW]; omega) fun j hj => ?_
        rw [sl_getW _ _ _ _ (by omega), ← hS.sp i hi j hj]
        exact w j (by omega) (by omega)
      · intro w k _ hk
        show mv_a h 8 (stL L i + k) = mv_a h 12 (q + k)
        rw [hS.sp i hi k (by omega), w, sl_getW _ _ _ _ (by omega)]
    rw [key]
  · have ne : ¬ L.getD i [] = slW h q l := fun w => a (by rw [e3, w, sl_lenW]; omega)
    rw [if_neg (fun z => a ((nI_c (by omega) (by omega)).mp z)), decide_eq_false ne]
    rfl
theorem sl_sW (h : mv_H) (q j : Nat) : slW h q (j + 1) = slW h q j ++ [mv_a h 12 (q + j)] := by
  unfold slW
  rw [List.range_succ, List.map_append]
  rfl
theorem hsh_sW (h : mv_H) (q j : Nat) : hsh (slW h q (j + 1)) = (hsh (slW h q j) * 31 + mv_a h 12 (q + j)) &&& 1023 := by
  unfold hsh
  rw [sl_sW, List.foldl_append]
  rfl
/-- a name more -/
def symW (h : mv_H) (N s b q l : Nat) : mv_H := mv_si (mv_sa (mv_sa (mv_sa (mv_ca h 8 (va_cpy (mv_a h 12) (mv_a h 8) q s l)) 9 (N + 1) (nI (s + l))) 11 N (mv_a h 10 b)) 10 b (nI N)) 7 5 (nI (N + 1))
section FIND
variable {h : mv_H} {L : List (List Int32)}
theorem xvc_tW {q s l : Nat} (hb : ∀ i, i < l → fits .byte (.int (mv_a h 12 (q + i))) = true) (hq : q + l ≤ 128) (hs : s + l ≤ 32896) : xvc h 12 128 32896 (nI q) (nI s) (nI l) = true := by
  unfold xvc
  rw [cln (by omega), cln (by omega), cln (by omega), decide_eq_false (nI_neg (by omega)), decide_eq_false (nI_neg (by omega)), decide_eq_false (nI_neg (by omega)), Nat.ble_eq.mpr hq, Nat.ble_eq.mpr hs]
  show (List.range l).all _ = true
  rw [List.all_eq_true]
  intro i hi
  have hi := List.mem_range.mp hi
  exact hb i hi
theorem addS_eW (hS : SYM h L) (hL : L.length ≤ 16440) {b q l : Nat} (hb : ∀ i, i < l → fits .byte (.int (mv_a h 12 (q + i))) = true) (hbb : b < 1024) (hr : stL L L.length + l ≤ 32896) (hq : q + l ≤ 128) : f_Symbols_add_12 h (nI b) (nI q) (nI l) = some (nI L.length, symW h L.length (stL L L.length) b q l) := by
  unfold f_Symbols_add_12
  rw [hS.sz, cln (by omega), hS.st _ (Nat.le_refl _), xvc_tW hb hq hr, xvi_n (by omega) (by decide), nI1 (by omega), xvi_n (by omega) (by decide), xvi_n hbb (by decide), xvi_n (show L.length < 16448 by omega) (by decide), cln (by omega), cln (by omega), cln (by omega), cln (by omega), cln (by omega)]
  simp only [cond_true, xk_s]
  have e9 : mv_a (mv_ca h 8 (va_cpy (mv_a h 12) (mv_a h 8) q (stL L L.length) l)) 9 L.length = nI (stL L L.length) := hS.st _ (Nat.le_refl _)
  rw [e9, nIadd (by omega)]
  have e5 : ∀ g : mv_H, ∀ x y v x2 y2 v2 x3 y3 v3, mv_i (mv_sa (mv_sa (mv_sa g x y v) x2 y2 v2) x3 y3 v3) 7 5 = mv_i g 7 5 := fun _ _ _ _ _ _ _ _ _ _ => rfl
  have e6 : mv_i (mv_ca h 8 (va_cpy (mv_a h 12) (mv_a h 8) q (stL L L.length) l)) 7 5 = nI L.length := hS.sz
  rw [e5, e6, nI1 (by omega)]
  rfl
theorem find_hW {q l : Nat} (hq : q + l ≤ 128) {b : Nat} (hbb : b < 1024) (hw : hsh (slW h q l) = nI b) : ∀ (m nn j : Nat), j + m = l → m < nn → f_Symbols_find_12_6 nn (nI q) (nI l) (hsh (slW h q j)) (nI j) h = f_Symbols_find_12_48 200000 (nI q) (nI l) (nI b) (mv_a h 10 b) 0 h := by
  intro m
  induction m with
  | zero =>
    intro nn j hj hn
    obtain ⟨nn, rfl⟩ : ∃ k, nn = k + 1 := ⟨nn - 1, by omega⟩
    show fF_Symbols_find_12_6 (f_Symbols_find_12_6 nn) (nI q) (nI l) (hsh (slW h q j)) (nI j) h = _
    unfold fF_Symbols_find_12_6
    have ej : j = l := by omega
    rw [if_pos ((nIle (by omega) (by omega)).mpr (by omega)), ej, hw, xvi_n hbb (by decide), cln (by omega), cond_true]
  | succ m ih =>
    intro nn j hj hn
    obtain ⟨nn, rfl⟩ : ∃ k, nn = k + 1 := ⟨nn - 1, by omega⟩
    show fF_Symbols_find_12_6 (f_Symbols_find_12_6 nn) (nI q) (nI l) (hsh (slW h q j)) (nI j) h = _
    unfold fF_Symbols_find_12_6
    rw [if_neg (fun z => by have := (nIle (by omega) (by omega)).mp z; omega), nIadd (by omega), xvi_n (by omega) (by decide), cln (by omega), cond_true, ← hsh_sW, nI1 (by omega)]
    exact ih nn (j + 1) (by omega) (by omega)
theorem find_kW (hS : SYM h L) (hL : L.length ≤ 16440) (hr : stL L L.length ≤ 32896) {q l : Nat} (hq : q + l ≤ 128) {b : Nat} (hbb : b < 1024) (hw : hsh (slW h q l) = nI b) : ∀ (k nn t : Nat), k ≤ L.length → t + k ≤ L.length → k < nn →
    (∃ i, i < k ∧ L.getD i [] = slW h q l ∧ f_Symbols_find_12_48 nn (nI q) (nI l) (nI b) (lst L (nI b) k) (nI t) h = some (nI i, h)) ∨ ((∀ i, i < k → ¬ L.getD i [] = slW h q l) ∧ f_Symbols_find_12_48 nn (nI q) (nI l) (nI b) (lst L (nI b) k) (nI t) h = f_Symbols_find_12_91 (nI q) (nI l) (nI b) h) := by
  intro k
  have e16 : (16448 : Int32) = nI 16448 := rfl
  induction k with
  | zero =>
    intro nn t hk ht hn
    obtain ⟨nn, rfl⟩ : ∃ k, nn = k + 1 := ⟨nn - 1, by omega⟩
    right
    refine ⟨fun i hi => by omega, ?_⟩
    show fF_Symbols_find_12_48 (f_Symbols_find_12_48 nn) (nI q) (nI l) (nI b) (-1) (nI t) h = _
    unfold fF_Symbols_find_12_48
    rw [e16, if_neg (fun z => by have := (nIle (by omega) (by omega)).mp z; omega), if_pos (by decide)]
  | succ k ih =>
    intro nn t hk ht hn
    by_cases e : hsh (L.getD k []) = nI b
    · have el : lst L (nI b) (k + 1) = nI k := if_pos e
      obtain ⟨nn, rfl⟩ : ∃ k, nn = k + 1 := ⟨nn - 1, by omega⟩
      rw [el]
      have ef : f_Symbols_find_12_48 (nn + 1) (nI q) (nI l) (nI b) (nI k) (nI t) h = if L.getD k [] = slW h q l then some (nI k, h) else f_Symbols_find_12_48 nn (nI q) (nI l) (nI b) (lst L (nI b) k) (nI (t + 1)) h := by
        show fF_Symbols_find_12_48 (f_Symbols_find_12_48 nn) (nI q) (nI l) (nI b) (nI k) (nI t) h = _
        unfold fF_Symbols_find_12_48
        rw [e16, if_neg (fun z => by have := (nIle (by omega) (by omega)).mp z; omega), if_neg (nI_neg (by omega)), spelt_eW hS hL hr (by omega) hq, xhb_s]
        by_cases d : L.getD k [] = slW h q l
        · rw [if_pos d, decide_eq_true d, if_neg (show ¬ b01 true = 0 by decide)]
        · rw [if_neg d, decide_eq_false d, if_pos (show b01 false = 0 from rfl), xvi_n (by omega) (by decide), cln (by omega), cond_true, hS.ch k (by omega), e, nI1 (by omega)]
      rw [ef]
      by_cases d : L.getD k [] = slW h q l
      · left
        exact ⟨k, by omega, d, if_pos d⟩
      · rw [if_neg d]
        rcases ih nn (t + 1) (by omega) (by omega) (by omega) with ⟨i, h1, h2, h3⟩ | ⟨h1, h2⟩
        · exact Or.inl ⟨i, by omega, h2, h3⟩
        · refine Or.inr ⟨fun i hi => ?_, h2⟩
          by_cases z : i = k
          · rw [z]; exact d
          · exact h1 i (by omega)
    · have el : lst L (nI b) (k + 1) = lst L (nI b) k := if_neg e
      rw [el]
      rcases ih nn t (by omega) (by omega) (by omega) with ⟨i, h1, h2, h3⟩ | ⟨h1, h2⟩
      · exact Or.inl ⟨i, by omega, h2, h3⟩
      · refine Or.inr ⟨fun i hi => ?_, h2⟩
        by_cases z : i = k
        · rw [z]; exact fun w => e (by rw [w]; exact hw)
        · exact h1 i (by omega)
theorem find_eW (hS : SYM h L) (hL : L.length ≤ 16440) {q l : Nat} (hb : ∀ i, i < l → fits .byte (.int (mv_a h 12 (q + i))) = true) (hr : stL L L.length + l ≤ 32896) (hq : q + l ≤ 128) :
    (∃ i, i < L.length ∧ L.getD i [] = slW h q l ∧ f_Symbols_find_12 h (nI q) (nI l) = some (nI i, h)) ∨ ((∀ i, i < L.length → ¬ L.getD i [] = slW h q l) ∧ ∃ b, b < 1024 ∧ hsh (slW h q l) = nI b ∧ f_Symbols_find_12 h (nI q) (nI l) = some (nI L.length, symW h L.length (stL L L.length) b q l)) := by
  obtain ⟨b, hbb, hw⟩ := hsh_r (slW h q l)
  have e1 := find_hW hq hbb hw l 200000 0 (by omega) (by omega)
  have e2 : f_Symbols_find_12 h (nI q) (nI l) = f_Symbols_find_12_48 200000 (nI q) (nI l) (nI b) (lst L (nI b) L.length) (nI 0) h := by
    rw [← hS.bk b hbb]
    exact e1
  rw [e2]
  rcases find_kW hS hL (by omega) hq hbb hw L.length 200000 0 (Nat.le_refl _) (by omega) (by omega) with h1 | ⟨h1, h2⟩
  · exact Or.inl h1
  · refine Or.inr ⟨h1, b, hbb, hw, ?_⟩
    rw [h2]
    unfold f_Symbols_find_12_91
    rw [addS_eW hS hL hb hbb hr hq]
    rfl
end FIND
section SYMA
variable {h : mv_H} {L : List (List Int32)} {w : List Int32}
theorem symA_1W (N s b q l : Nat) : mv_a (symW h N s b q l) 12 = mv_a h 12 := by
  funext k
  rfl
theorem symA_9W (N s b q l k : Nat) : mv_a (symW h N s b q l) 9 k = if k = N + 1 then nI (s + l) else mv_a h 9 k := by
  show mv_u (mv_a (mv_ca h 8 (va_cpy (mv_a h 12) (mv_a h 8) q s l))) 9 (N + 1) (nI (s + l)) 9 k = _
  by_cases e : k = N + 1
  · rw [if_pos e, e, mv_u_same]
  · rw [if_neg e, mv_u_ne _ _ (fun z => e z.2)]
    rfl
theorem symA_8W (N s b q l k : Nat) : mv_a (symW h N s b q l) 8 k = if s ≤ k ∧ k < s + l then mv_a h 12 (q + (k - s)) else mv_a h 8 k := rfl
theorem symA_10W (N s b q l k : Nat) : mv_a (symW h N s b q l) 10 k = if k = b then nI N else mv_a h 10 k := by
  by_cases e : k = b
  · rw [if_pos e, e]
    exact mv_u_same (mv_a (mv_sa (mv_sa (mv_ca h 8 (va_cpy (mv_a h 12) (mv_a h 8) q s l)) 9 (N + 1) (nI (s + l))) 11 N (mv_a h 10 b))) 10 b (nI N)
  · rw [if_neg e]
    exact mv_u_ne (mv_a (mv_sa (mv_sa (mv_ca h 8 (va_cpy (mv_a h 12) (mv_a h 8) q s l)) 9 (N + 1) (nI (s + l))) 11 N (mv_a h 10 b))) (nI N) (fun z => e z.2)
theorem symA_11W (N s b q l k : Nat) : mv_a (symW h N s b q l) 11 k = if k = N then mv_a h 10 b else mv_a h 11 k := by
  by_cases e : k = N
  · rw [if_pos e, e]
    exact mv_u_same (mv_a (mv_sa (mv_ca h 8 (va_cpy (mv_a h 12) (mv_a h 8) q s l)) 9 (N + 1) (nI (s + l)))) 11 N (mv_a h 10 b)
  · rw [if_neg e]
    exact mv_u_ne (mv_a (mv_sa (mv_ca h 8 (va_cpy (mv_a h 12) (mv_a h 8) q s l)) 9 (N + 1) (nI (s + l)))) (mv_a h 10 b) (fun z => e z.2)
theorem symA_iW (N s b q l o j : Nat) : mv_i (symW h N s b q l) o j = if o = 7 ∧ j = 5 then nI (N + 1) else mv_i h o j := rfl
theorem SYM.addW (hS : SYM h L) {b q l : Nat} (hl : l = w.length) (hw : slW h q l = w) (hh : hsh w = nI b) (hbb : b < 1024) (hf : ∀ i, i < L.length → ¬ L.getD i [] = w) : SYM (symW h L.length (stL L L.length) b q l) (L ++ [w]) := ⟨
  by rw [symA_iW, if_pos ⟨rfl, rfl⟩, len_s],
  by
    intro i hi
    rw [len_s] at hi
    rw [symA_9W]
    by_cases e : i = L.length + 1
    · rw [if_pos e, e, stL_r, hl]
    · rw [if_neg e, stL_l (by omega), hS.st i (by omega)],
  by
    intro i hi j hj
    rw [len_s] at hi
    rw [symA_8W]
    by_cases e : i = L.length
    · subst e
      rw [gd_r] at hj ⊢
      rw [stL_l (Nat.le_refl _), if_pos (by omega), show q + (stL L L.length + j - stL L L.length) = q + j by omega, ← hw, sl_getW _ _ _ _ (by omega)]
    · rw [gd_l (by omega)] at hj ⊢
      have e3 := stL_s (L := L) (i := i) (by omega)
      have e4 := stL_mono (L := L) (L.length - (i + 1)) (i + 1) (by omega)
      rw [show i + 1 + (L.length - (i + 1)) = L.length by omega] at e4
      rw [stL_l (by omega), if_neg (by omega), hS.sp i (by omega) j hj],
  by
    intro b' hb'
    rw [symA_10W, len_s, lst_r, hh]
    by_cases e : b' = b
    · rw [if_pos e, if_pos (by rw [e])]
    · rw [if_neg e, if_neg (fun z => e ((nI_c (by omega) (by omega)).mp z).symm), hS.bk b' hb'],
  by
    intro i hi
    rw [len_s] at hi
    rw [symA_11W]
    by_cases e : i = L.length
    · subst e
      rw [if_pos rfl, gd_r, hh, lst_l _ _ (Nat.le_refl _), hS.bk b hbb]
    · rw [if_neg e, gd_l (by omega), lst_l _ _ (by omega), hS.ch i (by omega)],
  by
    rw [List.nodup_append]
    refine ⟨hS.nd, List.pairwise_singleton _ w, fun a ha c hc => ?_⟩
    have hc := List.mem_singleton.mp hc
    rw [hc]
    intro z
    obtain ⟨i, hi, e⟩ := List.getElem_of_mem ha
    refine hf i hi ?_
    rw [List.getD_eq_getElem?_getD, List.getElem?_eq_getElem hi, ← z, ← e]
    rfl⟩
end SYMA
def wdc (p : Nat) : Int32 := vp_nar .byte ((((st_g 132).2.2.2.getD p 0 &&& 255)).toInt8.toInt32)
def wsl (q l : Nat) : List Int32 := (List.range l).map fun j => wdc (q + j)
/-- the words before place i, and where the next one starts -/
def wkp : Nat → List (List Int32) × Nat
  | 0 => ([], 0)
  | i + 1 => if wdc i = 32 then ((wkp i).1 ++ [wsl (wkp i).2 (i - (wkp i).2)], i + 1) else wkp i
/-- the words -/
def WD : List (List Int32) := (wkp 74).1
theorem wk_ok : ∀ i, i < 74 → (wkp i).2 ≤ i ∧ (wkp i).1.length ≤ 17 ∧ stL (wkp i).1 (wkp i).1.length ≤ 57 ∧ fits .byte (.int (wdc i)) = true ∧ (wdc i = 32 → (wkp i).1.all (fun w => !decide (w = wsl (wkp i).2 (i - (wkp i).2))) = true) := by decide +kernel
theorem WD_ok : WD.length = 17 ∧ stL WD WD.length = 57 := by decide +kernel
/-- clear's frame -/
def FrW (h g : mv_H) : Prop := (∀ o, o < 8 ∨ 12 < o → mv_a g o = mv_a h o) ∧ (∀ o j, ¬ (o = 7 ∧ j = 5) → mv_i g o j = mv_i h o j) ∧ (g.2.1 = h.2.1) ∧ (g.2.2.1 = h.2.2.1) ∧ (g.2.2.2.2 = h.2.2.2.2)
theorem FrW.a {h g : mv_H} (h99 : FrW h g) : ∀ o, o < 8 ∨ 12 < o → mv_a g o = mv_a h o := h99.1
theorem FrW.i {h g : mv_H} (h99 : FrW h g) : ∀ o j, ¬ (o = 7 ∧ j = 5) → mv_i g o j = mv_i h o j := h99.2.1
theorem FrW.l {h g : mv_H} (h99 : FrW h g) : g.2.1 = h.2.1 := h99.2.2.1
theorem FrW.r {h g : mv_H} (h99 : FrW h g) : g.2.2.1 = h.2.2.1 := h99.2.2.2.1
theorem FrW.b {h g : mv_H} (h99 : FrW h g) : g.2.2.2.2 = h.2.2.2.2 := h99.2.2.2.2
theorem slW_wsl {h : mv_H} {q l : Nat} (hw : ∀ p, p < q + l → mv_a h 12 p = wdc p) : slW h q l = wsl q l := by
  unfold slW wsl
  refine List.map_congr_left fun j hj => ?_
  have := List.mem_range.mp hj
  exact hw _ (by omega)
theorem symW_a (h : mv_H) (N s b q l : Nat) {o : Nat} (ho : o < 8 ∨ 11 < o) : mv_a (symW h N s b q l) o = mv_a h o := by
  funext k
  show mv_u (mv_a (mv_sa (mv_sa (mv_ca h 8 (va_cpy (mv_a h 12) (mv_a h 8) q s l)) 9 (N + 1) (nI (s + l))) 11 N (mv_a h 10 b))) 10 b (nI N) o k = _
  rw [mv_u_ne _ _ (by omega)]
  show mv_u (mv_a (mv_sa (mv_ca h 8 (va_cpy (mv_a h 12) (mv_a h 8) q s l)) 9 (N + 1) (nI (s + l)))) 11 N (mv_a h 10 b) o k = _
  rw [mv_u_ne _ _ (by omega)]
  show mv_u (mv_a (mv_ca h 8 (va_cpy (mv_a h 12) (mv_a h 8) q s l))) 9 (N + 1) (nI (s + l)) o k = _
  rw [mv_u_ne _ _ (by omega)]
  show (if o = 8 then va_cpy (mv_a h 12) (mv_a h 8) q s l else mv_a h o) k = _
  rw [if_neg (by omega)]
theorem clr_lp {h0 : mv_H} : ∀ (m i nn : Nat) (h : mv_H), i + m = 74 → m < nn → SYM h (wkp i).1 → (∀ p, p < i → mv_a h 12 p = wdc p) → FrW h0 h → ∃ h', f_Symbols_clear_24 nn (nI (wkp i).2) (nI i) h = some h' ∧ SYM h' WD ∧ FrW h0 h' := by
  intro m
  have el : Int32.ofNat (st_g 132).2.2.2.length = nI 74 := by rw [ws_len]; rfl
  induction m with
  | zero =>
    intro i nn h hi hnn hS hw hF
    obtain ⟨nn, rfl⟩ : ∃ k, nn = k + 1 := ⟨nn - 1, by omega⟩
    have ei : i = 74 := by omega
    subst ei
    refine ⟨h, ?_, hS, hF⟩
    show fF_Symbols_clear_24 (f_Symbols_clear_24 nn) (nI (wkp 74).2) (nI 74) h = _
    unfold fF_Symbols_clear_24
    rw [el, if_pos ((nIle (by omega) (by omega)).mpr (Nat.le_refl _))]
  | succ m ih =>
    intro i nn h hi hnn hS hw hF
    obtain ⟨nn, rfl⟩ : ∃ k, nn = k + 1 := ⟨nn - 1, by omega⟩
    have ok := wk_ok i (by omega)
    show ∃ h', fF_Symbols_clear_24 (f_Symbols_clear_24 nn) (nI (wkp i).2) (nI i) h = some h' ∧ _
    unfold fF_Symbols_clear_24
    rw [el, ws_len, if_neg (fun w => by have := (nIle (by omega) (by omega)).mp w; omega), xvi_n (by omega) (by decide), xvi_n (show i < 128 by omega) (by decide), cln (by omega)]
    simp only [cond_true, xk_s]
    show ∃ h', (if mv_a (mv_sa h 12 i (wdc i)) 12 i = 32 then xhb (f_Symbols_find_12 (mv_sa h 12 i (wdc i)) (nI (wkp i).2) (nI i - nI (wkp i).2)) fun v6 g5 => f_Symbols_clear_74 (f_Symbols_clear_24 nn) (nI i + 1) (nI i) g5 else f_Symbols_clear_74 (f_Symbols_clear_24 nn) (nI (wkp i).2) (nI i) (mv_sa h 12 i (wdc i))) = some h' ∧ _
    have eg : ∀ o, ¬ o = 12 → mv_a (mv_sa h 12 i (wdc i)) o = mv_a h o := fun o ho => by
      funext j
      exact mv_u_ne (mv_a h) _ (fun w => ho w.1)
    have ew : ∀ p, p < i + 1 → mv_a (mv_sa h 12 i (wdc i)) 12 p = wdc p := fun p hp => by
      by_cases e : p = i
      · rw [e]; exact mv_u_same (mv_a h) 12 i (wdc i)
      · exact (mv_u_ne (mv_a h) _ (fun w => e w.2)).trans (hw p (by omega))
    rw [ew i (by omega)]
    have hS3 : SYM (mv_sa h 12 i (wdc i)) (wkp i).1 := hS.fr (eg 8 (by decide)) (eg 9 (by decide)) (eg 10 (by decide)) (eg 11 (by decide)) rfl
    have hF3 : FrW h0 (mv_sa h 12 i (wdc i)) := ⟨fun o ho => (eg o (by omega)).trans (hF.a o ho), fun o j e => hF.i o j e, hF.l, hF.r, hF.b⟩
    generalize mv_sa h 12 i (wdc i) = g at hS3 hF3 ew
    unfold f_Symbols_clear_74
    rw [nI1 (by omega)]
    by_cases c : wdc i = 32
    · have ek : wkp (i + 1) = ((wkp i).1 ++ [wsl (wkp i).2 (i - (wkp i).2)], i + 1) := if_pos c
      have esl : slW g (wkp i).2 (i - (wkp i).2) = wsl (wkp i).2 (i - (wkp i).2) := slW_wsl (fun p hp => ew p (by omega))
      have hfr : ∀ k, k < (wkp i).1.length → ¬ (wkp i).1.getD k [] = slW g (wkp i).2 (i - (wkp i).2) := fun k hk e => by
        have h1 := List.all_eq_true.mp (ok.2.2.2.2 c) ((wkp i).1.getD k []) (by
          rw [List.getD_eq_getElem?_getD, List.getElem?_eq_getElem hk]
          exact List.getElem_mem hk)
        rw [e, esl, decide_eq_true rfl] at h1
        cases h1
      rw [if_pos c, nIsub ok.1 (by omega)]
      rcases find_eW hS3 (by omega) (q := (wkp i).2) (l := i - (wkp i).2) (fun k hk => by rw [ew _ (by omega)]; exact (wk_ok _ (by omega)).2.2.2.1) (by omega) (by omega) with ⟨k, h1, h2, _⟩ | ⟨h1, b, hbb, hh, hf⟩
      · exact absurd h2 (hfr k h1)
      · rw [hf, xhb_s]
        have hS4 := hS3.addW (w := wsl (wkp i).2 (i - (wkp i).2)) (by unfold wsl; rw [List.length_map, List.length_range]) esl (by rw [← esl]; exact hh) hbb (fun k hk => by rw [← esl]; exact h1 k hk)
        have go := ih (i + 1) nn _ (by omega) (by omega) (by rw [ek]; exact hS4) (fun p hp => by rw [symW_a _ _ _ _ _ _ (by omega)]; exact ew p hp) ⟨fun o ho => (symW_a _ _ _ _ _ _ (by omega)).trans (hF3.a o ho), fun o j e => by
          rw [symA_iW, if_neg e]; exact hF3.i o j e, hF3.l, hF3.r, hF3.b⟩
        rw [ek] at go
        exact go
    · have ek : wkp (i + 1) = wkp i := if_neg c
      rw [if_neg c]
      have go := ih (i + 1) nn g (by omega) (by omega) (by rw [ek]; exact hS3) ew hF3
      rw [ek] at go
      exact go
theorem clear_e (h : mv_H) : ∃ h', f_Symbols_clear h = some h' ∧ SYM h' WD ∧ FrW h h' := by
  unfold f_Symbols_clear
  simp only [xk_s]
  have e0 : xvi (0 : Int32) 16449 = true := xvi_n (p := 0) (by decide) (by decide)
  have ec : (0 : Int32).toNatClampNeg = 0 := cln (p := 0) (by decide)
  rw [e0, ec, cond_true]
  refine clr_lp (h0 := h) 74 0 200000 _ rfl (by decide) ⟨?_, ?_, ?_, ?_, ?_, ?_⟩ (fun p hp => by omega) ⟨?_, ?_, rfl, rfl, rfl⟩
  · exact mv_u_same (mv_i (mv_fi h 10 0 1024 (-1))) 7 5 0
  · intro i hi
    have : i = 0 := Nat.le_zero.mp hi
    rw [this]
    exact mv_u_same (mv_a (mv_si (mv_fi h 10 0 1024 (-1)) 7 5 0)) 9 0 0
  · intro i hi
    exact absurd hi (Nat.not_lt_zero _)
  · intro b hb
    show (if 0 ≤ b ∧ b < 1024 then (-1 : Int32) else mv_a h 10 b) = -1
    rw [if_pos ⟨Nat.zero_le _, hb⟩]
  · intro i hi
    exact absurd hi (Nat.not_lt_zero _)
  · exact List.Pairwise.nil
  · intro o ho
    funext k
    show mv_u (mv_a (mv_si (mv_fi h 10 0 1024 (-1)) 7 5 0)) 9 0 0 o k = _
    rw [mv_u_ne _ _ (by omega)]
    show (if o = 10 then (fun j => if 0 ≤ j ∧ j < 1024 then (-1 : Int32) else mv_a h 10 j) else mv_a h o) k = _
    rw [if_neg (by omega)]
  · intro o j e
    exact mv_u_ne (mv_i (mv_fi h 10 0 1024 (-1))) 0 e
/-- the tokens stand: what cut leaves. h is the heap before, g the one behind -/
def TKS (h : mv_H) (n : Nat) (g : mv_H) (J : Nat) (L : List (List Int32)) : Prop := (∀ o, ¬ o = 4 → ¬ o = 5 → o < 8 ∨ 12 < o → mv_a g o = mv_a h o) ∧ (∀ o j, ¬ (o = 7 ∧ j = 5) → ¬ (o = 3 ∧ 5 ≤ j ∧ j ≤ 9) → mv_i g o j = mv_i h o j) ∧ (g.2.1 = h.2.1) ∧ (∀ o j, ¬ (o = 3 ∧ j = 4) → mv_r g o j = mv_r h o j) ∧ (mv_r g 3 4 = some 1) ∧ (∀ o, ¬ o = 6 → mv_b g o = mv_b h o) ∧ (mv_i g 3 5 = nI n) ∧ (mv_i g 3 6 = nI (J + 2)) ∧ (mv_i g 3 7 = 1) ∧ (mv_i g 3 8 = 0) ∧ (mv_i g 3 9 = -1) ∧ (SYM g L) ∧ (∃ R, L = WD ++ R) ∧ (L.length ≤ 16440) ∧ (stL L L.length ≤ 32880) ∧ (∀ i, i ≤ J → ∃ bh, CTok h (pos (cc h n) n i) (tok (cc h n) n i) L (mv_a g 4 (i + 1)) (mv_a g 5 (i + 1)) (mv_b g 6 (i + 1)) bh) ∧ (∀ i, i < J → goT (cc h n) n i) ∧ (¬ goT (cc h n) n J) ∧ (J ≤ n)
theorem TKS.a {h : mv_H} {n : Nat} {g : mv_H} {J : Nat} {L : List (List Int32)} (h99 : TKS h n g J L) : ∀ o, ¬ o = 4 → ¬ o = 5 → o < 8 ∨ 12 < o → mv_a g o = mv_a h o := h99.1
theorem TKS.i {h : mv_H} {n : Nat} {g : mv_H} {J : Nat} {L : List (List Int32)} (h99 : TKS h n g J L) : ∀ o j, ¬ (o = 7 ∧ j = 5) → ¬ (o = 3 ∧ 5 ≤ j ∧ j ≤ 9) → mv_i g o j = mv_i h o j := h99.2.1
theorem TKS.l {h : mv_H} {n : Nat} {g : mv_H} {J : Nat} {L : List (List Int32)} (h99 : TKS h n g J L) : g.2.1 = h.2.1 := h99.2.2.1
theorem TKS.r {h : mv_H} {n : Nat} {g : mv_H} {J : Nat} {L : List (List Int32)} (h99 : TKS h n g J L) : ∀ o j, ¬ (o = 3 ∧ j = 4) → mv_r g o j = mv_r h o j := h99.2.2.2.1
theorem TKS.r4 {h : mv_H} {n : Nat} {g : mv_H} {J : Nat} {L : List (List Int32)} (h99 : TKS h n g J L) : mv_r g 3 4 = some 1 := h99.2.2.2.2.1
theorem TKS.b {h : mv_H} {n : Nat} {g : mv_H} {J : Nat} {L : List (List Int32)} (h99 : TKS h n g J L) : ∀ o, ¬ o = 6 → mv_b g o = mv_b h o := h99.2.2.2.2.2.1
theorem TKS.i5 {h : mv_H} {n : Nat} {g : mv_H} {J : Nat} {L : List (List Int32)} (h99 : TKS h n g J L) : mv_i g 3 5 = nI n := h99.2.2.2.2.2.2.1
theorem TKS.i6 {h : mv_H} {n : Nat} {g : mv_H} {J : Nat} {L : List (List Int32)} (h99 : TKS h n g J L) : mv_i g 3 6 = nI (J + 2) := h99.2.2.2.2.2.2.2.1
theorem TKS.i7 {h : mv_H} {n : Nat} {g : mv_H} {J : Nat} {L : List (List Int32)} (h99 : TKS h n g J L) : mv_i g 3 7 = 1 := h99.2.2.2.2.2.2.2.2.1
theorem TKS.i8 {h : mv_H} {n : Nat} {g : mv_H} {J : Nat} {L : List (List Int32)} (h99 : TKS h n g J L) : mv_i g 3 8 = 0 := h99.2.2.2.2.2.2.2.2.2.1
theorem TKS.i9 {h : mv_H} {n : Nat} {g : mv_H} {J : Nat} {L : List (List Int32)} (h99 : TKS h n g J L) : mv_i g 3 9 = -1 := h99.2.2.2.2.2.2.2.2.2.2.1
theorem TKS.sym {h : mv_H} {n : Nat} {g : mv_H} {J : Nat} {L : List (List Int32)} (h99 : TKS h n g J L) : SYM g L := h99.2.2.2.2.2.2.2.2.2.2.2.1
theorem TKS.wrd {h : mv_H} {n : Nat} {g : mv_H} {J : Nat} {L : List (List Int32)} (h99 : TKS h n g J L) : ∃ R, L = WD ++ R := h99.2.2.2.2.2.2.2.2.2.2.2.2.1
theorem TKS.len {h : mv_H} {n : Nat} {g : mv_H} {J : Nat} {L : List (List Int32)} (h99 : TKS h n g J L) : L.length ≤ 16440 := h99.2.2.2.2.2.2.2.2.2.2.2.2.2.1
theorem TKS.spl {h : mv_H} {n : Nat} {g : mv_H} {J : Nat} {L : List (List Int32)} (h99 : TKS h n g J L) : stL L L.length ≤ 32880 := h99.2.2.2.2.2.2.2.2.2.2.2.2.2.2.1
theorem TKS.tk {h : mv_H} {n : Nat} {g : mv_H} {J : Nat} {L : List (List Int32)} (h99 : TKS h n g J L) : ∀ i, i ≤ J → ∃ bh, CTok h (pos (cc h n) n i) (tok (cc h n) n i) L (mv_a g 4 (i + 1)) (mv_a g 5 (i + 1)) (mv_b g 6 (i + 1)) bh := h99.2.2.2.2.2.2.2.2.2.2.2.2.2.2.2.1
theorem TKS.go {h : mv_H} {n : Nat} {g : mv_H} {J : Nat} {L : List (List Int32)} (h99 : TKS h n g J L) : ∀ i, i < J → goT (cc h n) n i := h99.2.2.2.2.2.2.2.2.2.2.2.2.2.2.2.2.1
theorem TKS.stop {h : mv_H} {n : Nat} {g : mv_H} {J : Nat} {L : List (List Int32)} (h99 : TKS h n g J L) : ¬ goT (cc h n) n J := h99.2.2.2.2.2.2.2.2.2.2.2.2.2.2.2.2.2.1
theorem TKS.jn {h : mv_H} {n : Nat} {g : mv_H} {J : Nat} {L : List (List Int32)} (h99 : TKS h n g J L) : J ≤ n := h99.2.2.2.2.2.2.2.2.2.2.2.2.2.2.2.2.2.2
/-- cut, exactly -/
theorem cutE {h : mv_H} {n : Nat} (hn2 : n ≤ 32768) (hb : byt h) : ∃ g J L, f_Tokens_cut h (nI n) = some g ∧ TKS h n g J L := by
  unfold f_Tokens_cut
  simp only [xk_s]
  obtain ⟨h0, ec, hS, hF⟩ := clear_e (mv_si (mv_si (mv_si (mv_si (mv_si (mv_sr h 3 4 (some 1)) 3 5 (nI n)) 3 6 1) 3 7 1) 3 8 0) 3 9 (-1))
  rw [ec, xhv_s]
  have er : mv_a h0 1 = mv_a h 1 := hF.a 1 (by omega)
  have ei : ∀ o j, ¬ (o = 7 ∧ j = 5) → mv_i h0 o j = if o = 3 ∧ j = 9 then -1 else if o = 3 ∧ j = 8 then 0 else if o = 3 ∧ j = 7 then 1 else if o = 3 ∧ j = 6 then 1 else if o = 3 ∧ j = 5 then nI n else mv_i h o j := fun o j e => (hF.i o j e).trans rfl
  have e5 : mv_i h0 3 5 = nI n := ei 3 5 (by decide)
  have e6 : mv_i h0 3 6 = 1 := ei 3 6 (by decide)
  have ecc : cc h0 n = cc h n := cc_row er n
  have I0 : CutI h0 n WD h0 0 WD := ⟨
    ⟨fun _ _ _ _ => rfl, fun _ _ _ _ => rfl, rfl, rfl, fun _ _ => rfl⟩,
    e6,
    hS,
    ⟨[], (List.append_nil _).symm⟩,
    by rw [WD_ok.1]; omega,
    by rw [WD_ok.2]; omega,
    fun i hi => absurd hi (Nat.not_lt_zero _)⟩
  obtain ⟨J, g, L, ef, Z⟩ := cut_lp e5 hn2 (byt_row er hb) (n + 2) 200000 0 h0 WD I0 (fun i hi => absurd hi (Nat.not_lt_zero _)) (by omega) (by omega)
  have ef' : f_Tokens_cut_42 200000 0 0 h0 = some g := ef
  have hjn := bp_j (cc_end h0 n) (cc_lt h0 n) J Z.go
  have hjb := (bp_bd (cc_end h0 n) (cc_lt h0 n) J).1
  have ztk := Z.tk
  have zgo := Z.go
  have zst := Z.stop
  rw [ecc] at ztk zgo zst
  refine ⟨g, J, L, ef', ?_⟩
  exact ⟨
    fun o p q r => (Z.fr.a o p q (by omega)).trans (hF.a o r),
    fun o j p q => by
      rw [Z.fr.i o j p (by omega), ei o j p, if_neg (by omega), if_neg (by omega), if_neg (by omega), if_neg (by omega), if_neg (by omega)],
    Z.fr.l.trans hF.l,
    fun o j p => by
      have e := (Z.fr.r.trans hF.r)
      show g.2.2.1 o j = _
      rw [e]
      exact mv_u_ne (mv_r h) _ p,
    by
      have e := (Z.fr.r.trans hF.r)
      show g.2.2.1 3 4 = _
      rw [e]
      exact mv_u_same (mv_r h) 3 4 _,
    fun o p => (Z.fr.b o p).trans (congrFun hF.b o),
    (Z.fr.i 3 5 (by decide) (by decide)).trans e5,
    Z.sz,
    (Z.fr.i 3 7 (by decide) (by decide)).trans (ei 3 7 (by decide)),
    (Z.fr.i 3 8 (by decide) (by decide)).trans (ei 3 8 (by decide)),
    (Z.fr.i 3 9 (by decide) (by decide)).trans (ei 3 9 (by decide)),
    Z.sym,
    Z.wrd,
    Z.len,
    Z.spl,
    fun i hi => by
      obtain ⟨bh, H⟩ := ztk i hi
      exact ⟨bh, CTok.row er H⟩,
    zgo,
    zst,
    by omega⟩
