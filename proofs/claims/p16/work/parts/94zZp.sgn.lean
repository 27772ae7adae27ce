/-! signs and shifts -/
theorem smod64 : ∀ k : Fin 64, (Int64.ofNat k.val).toBitVec.smod 64 = BitVec.ofNat 64 k.val := by decide +kernel
theorem shl_b (v : Int64) {n : Nat} (hn : n < 64) : (v <<< Int64.ofNat n).toBitVec = v.toBitVec <<< n := by
  rw [Int64.toBitVec_shiftLeft, smod64 ⟨n, hn⟩, BitVec.shiftLeft_eq', BitVec.toNat_ofNat, Nat.mod_eq_of_lt (by omega)]
theorem sar_b (v : Int64) {n : Nat} (hn : n < 64) : (v >>> Int64.ofNat n).toBitVec = v.toBitVec.sshiftRight n := by
  rw [Int64.toBitVec_shiftRight, smod64 ⟨n, hn⟩]
  show v.toBitVec.sshiftRight (BitVec.ofNat 64 n).toNat = _
  rw [BitVec.toNat_ofNat, Nat.mod_eq_of_lt (by omega)]
theorem bm64 (x : Int) : Int.bmod x 18446744073709551616 = if x % 18446744073709551616 < 9223372036854775808 then x % 18446744073709551616 else x % 18446744073709551616 - 18446744073709551616 := rfl
theorem shsh (v : Int64) {n : Nat} (hn : n < 64) : ((v <<< Int64.ofNat n) >>> Int64.ofNat n).toBitVec.toInt = (Int.bmod ((v.toBitVec.toNat * 2 ^ n : Nat) : Int) 18446744073709551616) / ((2 ^ n : Nat) : Int) := by
  rw [sar_b _ hn, shl_b _ hn, BitVec.toInt_sshiftRight, BitVec.toInt_shiftLeft, Int.shiftRight_eq_div_pow, Nat.shiftLeft_eq]
  all_goals rfl

theorem sg_8 {v : Int64} (h : v.toBitVec.toNat < 256) : ((v <<< Int64.ofNat 56) >>> Int64.ofNat 56).toBitVec.toInt = if v.toBitVec.toNat < 128 then (v.toBitVec.toNat : Int) else (v.toBitVec.toNat : Int) - 256 := by
  rw [shsh v (by decide), show (2 : Nat) ^ 56 = 72057594037927936 from rfl, bm64]
  generalize v.toBitVec.toNat = x at h ⊢
  by_cases c : x < 128
  · rw [if_pos c]
    split <;> omega
  · rw [if_neg c]
    split <;> omega
theorem sg_12 {v : Int64} (h : v.toBitVec.toNat < 4096) : ((v <<< Int64.ofNat 52) >>> Int64.ofNat 52).toBitVec.toInt = if v.toBitVec.toNat < 2048 then (v.toBitVec.toNat : Int) else (v.toBitVec.toNat : Int) - 4096 := by
  rw [shsh v (by decide), show (2 : Nat) ^ 52 = 4503599627370496 from rfl, bm64]
  generalize v.toBitVec.toNat = x at h ⊢
  by_cases c : x < 2048
  · rw [if_pos c]
    split <;> omega
  · rw [if_neg c]
    split <;> omega
theorem sg_13 {v : Int64} (h : v.toBitVec.toNat < 8192) : ((v <<< Int64.ofNat 51) >>> Int64.ofNat 51).toBitVec.toInt = if v.toBitVec.toNat < 4096 then (v.toBitVec.toNat : Int) else (v.toBitVec.toNat : Int) - 8192 := by
  rw [shsh v (by decide), show (2 : Nat) ^ 51 = 2251799813685248 from rfl, bm64]
  generalize v.toBitVec.toNat = x at h ⊢
  by_cases c : x < 4096
  · rw [if_pos c]
    split <;> omega
  · rw [if_neg c]
    split <;> omega
theorem sg_16 {v : Int64} (h : v.toBitVec.toNat < 65536) : ((v <<< Int64.ofNat 48) >>> Int64.ofNat 48).toBitVec.toInt = if v.toBitVec.toNat < 32768 then (v.toBitVec.toNat : Int) else (v.toBitVec.toNat : Int) - 65536 := by
  rw [shsh v (by decide), show (2 : Nat) ^ 48 = 281474976710656 from rfl, bm64]
  generalize v.toBitVec.toNat = x at h ⊢
  by_cases c : x < 32768
  · rw [if_pos c]
    split <;> omega
  · rw [if_neg c]
    split <;> omega
theorem sg_21 {v : Int64} (h : v.toBitVec.toNat < 2097152) : ((v <<< Int64.ofNat 43) >>> Int64.ofNat 43).toBitVec.toInt = if v.toBitVec.toNat < 1048576 then (v.toBitVec.toNat : Int) else (v.toBitVec.toNat : Int) - 2097152 := by
  rw [shsh v (by decide), show (2 : Nat) ^ 43 = 8796093022208 from rfl, bm64]
  generalize v.toBitVec.toNat = x at h ⊢
  by_cases c : x < 1048576
  · rw [if_pos c]
    split <;> omega
  · rw [if_neg c]
    split <;> omega
theorem sg_32 {v : Int64} (h : v.toBitVec.toNat < 4294967296) : ((v <<< Int64.ofNat 32) >>> Int64.ofNat 32).toBitVec.toInt = if v.toBitVec.toNat < 2147483648 then (v.toBitVec.toNat : Int) else (v.toBitVec.toNat : Int) - 4294967296 := by
  rw [shsh v (by decide), show (2 : Nat) ^ 32 = 4294967296 from rfl, bm64]
  generalize v.toBitVec.toNat = x at h ⊢
  by_cases c : x < 2147483648
  · rw [if_pos c]
    split <;> omega
  · rw [if_neg c]
    split <;> omega
theorem sx_8 {v : Int64} (h : v.toBitVec.toNat < 256) : (u1 310 (nJ 8200) v).toBitVec.toNat = if v.toBitVec.toNat < 128 then v.toBitVec.toNat else v.toBitVec.toNat + 4294967040 := by
  have e : u1 310 (nJ 8200) v = ((v <<< Int64.ofNat 56) >>> Int64.ofNat 56) &&& mkI (nI 32) := by
    unfold u1
    rw [if_neg (by decide), if_neg (by decide), if_pos rfl, show (((64 : Int32) - (nJ 8200 &&& (255 : Int64)).toInt32).toInt64 &&& 63) = Int64.ofNat 56 by decide +kernel, show ((nJ 8200 >>> ((8 : Int32).toInt64 &&& 63)).toInt32) = nI 32 by decide +kernel]
  have s := sg_8 h
  rw [e, and32]
  generalize ((v <<< Int64.ofNat 56) >>> Int64.ofNat 56).toBitVec = b at s ⊢
  have t := BitVec.toInt_eq_toNat_cond b
  have l := b.isLt
  generalize v.toBitVec.toNat = x at h s ⊢
  by_cases c : x < 128
  · rw [if_pos c] at s ⊢
    split at t <;> omega
  · rw [if_neg c] at s ⊢
    split at t <;> omega
theorem sx_12 {v : Int64} (h : v.toBitVec.toNat < 4096) : (u1 310 (nJ 8204) v).toBitVec.toNat = if v.toBitVec.toNat < 2048 then v.toBitVec.toNat else v.toBitVec.toNat + 4294963200 := by
  have e : u1 310 (nJ 8204) v = ((v <<< Int64.ofNat 52) >>> Int64.ofNat 52) &&& mkI (nI 32) := by
    unfold u1
    rw [if_neg (by decide), if_neg (by decide), if_pos rfl, show (((64 : Int32) - (nJ 8204 &&& (255 : Int64)).toInt32).toInt64 &&& 63) = Int64.ofNat 52 by decide +kernel, show ((nJ 8204 >>> ((8 : Int32).toInt64 &&& 63)).toInt32) = nI 32 by decide +kernel]
  have s := sg_12 h
  rw [e, and32]
  generalize ((v <<< Int64.ofNat 52) >>> Int64.ofNat 52).toBitVec = b at s ⊢
  have t := BitVec.toInt_eq_toNat_cond b
  have l := b.isLt
  generalize v.toBitVec.toNat = x at h s ⊢
  by_cases c : x < 2048
  · rw [if_pos c] at s ⊢
    split at t <;> omega
  · rw [if_neg c] at s ⊢
    split at t <;> omega
theorem sx_13 {v : Int64} (h : v.toBitVec.toNat < 8192) : (u1 310 (nJ 8205) v).toBitVec.toNat = if v.toBitVec.toNat < 4096 then v.toBitVec.toNat else v.toBitVec.toNat + 4294959104 := by
  have e : u1 310 (nJ 8205) v = ((v <<< Int64.ofNat 51) >>> Int64.ofNat 51) &&& mkI (nI 32) := by
    unfold u1
    rw [if_neg (by decide), if_neg (by decide), if_pos rfl, show (((64 : Int32) - (nJ 8205 &&& (255 : Int64)).toInt32).toInt64 &&& 63) = Int64.ofNat 51 by decide +kernel, show ((nJ 8205 >>> ((8 : Int32).toInt64 &&& 63)).toInt32) = nI 32 by decide +kernel]
  have s := sg_13 h
  rw [e, and32]
  generalize ((v <<< Int64.ofNat 51) >>> Int64.ofNat 51).toBitVec = b at s ⊢
  have t := BitVec.toInt_eq_toNat_cond b
  have l := b.isLt
  generalize v.toBitVec.toNat = x at h s ⊢
  by_cases c : x < 4096
  · rw [if_pos c] at s ⊢
    split at t <;> omega
  · rw [if_neg c] at s ⊢
    split at t <;> omega
theorem sx_16 {v : Int64} (h : v.toBitVec.toNat < 65536) : (u1 310 (nJ 8208) v).toBitVec.toNat = if v.toBitVec.toNat < 32768 then v.toBitVec.toNat else v.toBitVec.toNat + 4294901760 := by
  have e : u1 310 (nJ 8208) v = ((v <<< Int64.ofNat 48) >>> Int64.ofNat 48) &&& mkI (nI 32) := by
    unfold u1
    rw [if_neg (by decide), if_neg (by decide), if_pos rfl, show (((64 : Int32) - (nJ 8208 &&& (255 : Int64)).toInt32).toInt64 &&& 63) = Int64.ofNat 48 by decide +kernel, show ((nJ 8208 >>> ((8 : Int32).toInt64 &&& 63)).toInt32) = nI 32 by decide +kernel]
  have s := sg_16 h
  rw [e, and32]
  generalize ((v <<< Int64.ofNat 48) >>> Int64.ofNat 48).toBitVec = b at s ⊢
  have t := BitVec.toInt_eq_toNat_cond b
  have l := b.isLt
  generalize v.toBitVec.toNat = x at h s ⊢
  by_cases c : x < 32768
  · rw [if_pos c] at s ⊢
    split at t <;> omega
  · rw [if_neg c] at s ⊢
    split at t <;> omega
theorem sx_21 {v : Int64} (h : v.toBitVec.toNat < 2097152) : (u1 310 (nJ 8213) v).toBitVec.toNat = if v.toBitVec.toNat < 1048576 then v.toBitVec.toNat else v.toBitVec.toNat + 4292870144 := by
  have e : u1 310 (nJ 8213) v = ((v <<< Int64.ofNat 43) >>> Int64.ofNat 43) &&& mkI (nI 32) := by
    unfold u1
    rw [if_neg (by decide), if_neg (by decide), if_pos rfl, show (((64 : Int32) - (nJ 8213 &&& (255 : Int64)).toInt32).toInt64 &&& 63) = Int64.ofNat 43 by decide +kernel, show ((nJ 8213 >>> ((8 : Int32).toInt64 &&& 63)).toInt32) = nI 32 by decide +kernel]
  have s := sg_21 h
  rw [e, and32]
  generalize ((v <<< Int64.ofNat 43) >>> Int64.ofNat 43).toBitVec = b at s ⊢
  have t := BitVec.toInt_eq_toNat_cond b
  have l := b.isLt
  generalize v.toBitVec.toNat = x at h s ⊢
  by_cases c : x < 1048576
  · rw [if_pos c] at s ⊢
    split at t <;> omega
  · rw [if_neg c] at s ⊢
    split at t <;> omega
