/-! rows s105 .. s116 -/
/-! Long.bitCount -/
def pB (a : Int64) : Int64 := a - ((((a).toUInt64 >>> (((1 : Int32)).toInt64.toUInt64 &&& Int64.toUInt64 63)).toInt64) &&& (6148914691236517205 : Int64))
def pC (a : Int64) : Int64 := (pB a &&& (3689348814741910323 : Int64)) + ((((pB a).toUInt64 >>> (((2 : Int32)).toInt64.toUInt64 &&& Int64.toUInt64 63)).toInt64) &&& (3689348814741910323 : Int64))
def pD (a : Int64) : Int64 := (pC a + (((pC a).toUInt64 >>> (((4 : Int32)).toInt64.toUInt64 &&& Int64.toUInt64 63)).toInt64)) &&& (1085102592571150095 : Int64)
def pE (a : Int64) : Int64 := pD a + (((pD a).toUInt64 >>> (((8 : Int32)).toInt64.toUInt64 &&& Int64.toUInt64 63)).toInt64)
def pF (a : Int64) : Int64 := pE a + (((pE a).toUInt64 >>> (((16 : Int32)).toInt64.toUInt64 &&& Int64.toUInt64 63)).toInt64)
def pG (a : Int64) : Int64 := pF a + (((pF a).toUInt64 >>> (((32 : Int32)).toInt64.toUInt64 &&& Int64.toUInt64 63)).toInt64)
theorem bc_e (h : mv_H) (a : Int64) : f_Long_bitCount h a = some ((pG a).toInt32 &&& (127 : Int32), h) := rfl
/-- bytes, the least first -/
def vlB : List Nat → Nat
  | [] => 0
  | b :: l => b + 256 * vlB l
theorem vlB_lt : ∀ (l : List Nat), (∀ b, b ∈ l → b < 256) → vlB l < 256 ^ l.length := by
  intro l
  induction l with
  | nil => intro _; exact Nat.one_pos
  | cons b l ih =>
    intro h
    have h1 := h b List.mem_cons_self
    have h2 := ih (fun c q => h c (List.mem_cons_of_mem _ q))
    show b + 256 * vlB l < 256 ^ (l.length + 1)
    rw [Nat.pow_succ]; omega
theorem andB {a b x y : Nat} (ha : a < 256) (hb : b < 256) : (a + 256 * x) &&& (b + 256 * y) = (a &&& b) + 256 * (x &&& y) := by
  have hab : a &&& b < 2 ^ 8 := Nat.and_lt_two_pow a (by omega)
  have e : ∀ u v, u < 256 → u + 256 * v = v <<< 8 ||| u := fun u v hu => by
    rw [← Nat.shiftLeft_add_eq_or_of_lt (by omega), Nat.shiftLeft_eq]; omega
  refine Nat.eq_of_testBit_eq (fun i => ?_)
  rw [Nat.testBit_and, e a x ha, e b y hb, e (a &&& b) (x &&& y) (by omega), Nat.testBit_or, Nat.testBit_or, Nat.testBit_or, Nat.testBit_and, Nat.testBit_shiftLeft, Nat.testBit_shiftLeft, Nat.testBit_shiftLeft, Nat.testBit_and]
  by_cases hi : 8 ≤ i
  · have a0 : a.testBit i = false := Nat.testBit_lt_two_pow (Nat.lt_of_lt_of_le (show a < 2 ^ 8 by omega) (Nat.pow_le_pow_right (by omega) hi))
    have b0 : b.testBit i = false := Nat.testBit_lt_two_pow (Nat.lt_of_lt_of_le (show b < 2 ^ 8 by omega) (Nat.pow_le_pow_right (by omega) hi))
    rw [a0, b0]
    simp [hi]
  · simp [hi]
/-- x/2 and 55.. -/
theorem stB : ∀ (l : List Nat), (∀ b, b ∈ l → b < 256) → (vlB l / 2) &&& vlB (l.map fun _ => 85) = vlB (l.map fun b => (b / 2) &&& 85) := by
  have d : ∀ v, v < 2 → ∀ b, b < 256 → (b / 2 + 128 * v) &&& 85 = (b / 2) &&& 85 := by decide +kernel
  intro l
  induction l with
  | nil => intro _; rfl
  | cons b l ih =>
    intro h
    have h1 := h b List.mem_cons_self
    have h2 := ih (fun c q => h c (List.mem_cons_of_mem _ q))
    show ((b + 256 * vlB l) / 2) &&& (85 + 256 * vlB (l.map fun _ => 85)) = ((b / 2) &&& 85) + 256 * vlB (l.map fun b => (b / 2) &&& 85)
    have e : (b + 256 * vlB l) / 2 = (b / 2 + 128 * (vlB l % 2)) + 256 * (vlB l / 2) := by omega
    rw [e, andB (by omega) (by omega), d (vlB l % 2) (Nat.mod_lt _ (by omega)) b h1, h2]
theorem stC : ∀ (l : List Nat), (∀ b, b ∈ l → b < 256) → (vlB l / 4) &&& vlB (l.map fun _ => 51) = vlB (l.map fun b => (b / 4) &&& 51) := by
  have d : ∀ v, v < 4 → ∀ b, b < 256 → (b / 4 + 64 * v) &&& 51 = (b / 4) &&& 51 := by decide +kernel
  intro l
  induction l with
  | nil => intro _; rfl
  | cons b l ih =>
    intro h
    have h1 := h b List.mem_cons_self
    have h2 := ih (fun c q => h c (List.mem_cons_of_mem _ q))
    show ((b + 256 * vlB l) / 4) &&& (51 + 256 * vlB (l.map fun _ => 51)) = ((b / 4) &&& 51) + 256 * vlB (l.map fun b => (b / 4) &&& 51)
    have e : (b + 256 * vlB l) / 4 = (b / 4 + 64 * (vlB l % 4)) + 256 * (vlB l / 4) := by omega
    rw [e, andB (by omega) (by omega), d (vlB l % 4) (Nat.mod_lt _ (by omega)) b h1, h2]
theorem stC2 : ∀ (l : List Nat), (∀ b, b ∈ l → b < 256) → vlB l &&& vlB (l.map fun _ => 51) = vlB (l.map fun b => b &&& 51) := by
  intro l
  induction l with
  | nil => intro _; rfl
  | cons b l ih =>
    intro h
    have h1 := h b List.mem_cons_self
    have h2 := ih (fun c q => h c (List.mem_cons_of_mem _ q))
    show (b + 256 * vlB l) &&& (51 + 256 * vlB (l.map fun _ => 51)) = (b &&& 51) + 256 * vlB (l.map fun b => b &&& 51)
    rw [andB h1 (by omega), h2]
theorem stD : ∀ (l : List Nat), (∀ b, b ∈ l → b % 16 ≤ 4 ∧ b / 16 ≤ 4) → (vlB l + vlB l / 16) &&& vlB (l.map fun _ => 15) = vlB (l.map fun b => (b + b / 16) &&& 15) := by
  have d : ∀ v, v < 5 → ∀ b, b < 73 → (b + 16 * v) &&& 15 = b &&& 15 := by decide +kernel
  intro l
  induction l with
  | nil => intro _; rfl
  | cons b l ih =>
    intro h
    have h1 := h b List.mem_cons_self
    have h2 := ih (fun c q => h c (List.mem_cons_of_mem _ q))
    have h3 : vlB l % 16 < 5 := by
      cases l with
      | nil => exact Nat.succ_pos _
      | cons c l =>
        have := h c (List.mem_cons_of_mem _ List.mem_cons_self)
        show (c + 256 * vlB l) % 16 < 5
        omega
    show ((b + 256 * vlB l) + (b + 256 * vlB l) / 16) &&& (15 + 256 * vlB (l.map fun _ => 15)) = ((b + b / 16) &&& 15) + 256 * vlB (l.map fun b => (b + b / 16) &&& 15)
    have e : (b + 256 * vlB l) + (b + 256 * vlB l) / 16 = (b + b / 16 + 16 * (vlB l % 16)) + 256 * (vlB l + vlB l / 16) := by omega
    rw [e, andB (by omega) (by omega), d (vlB l % 16) h3 (b + b / 16) (by omega), h2]
theorem subB (f : Nat → Nat) (hf : ∀ b, b < 256 → f b ≤ b) : ∀ (l : List Nat), (∀ b, b ∈ l → b < 256) → vlB (l.map f) ≤ vlB l ∧ vlB l - vlB (l.map f) = vlB (l.map fun b => b - f b) := by
  intro l
  induction l with
  | nil => intro _; exact ⟨Nat.le_refl _, rfl⟩
  | cons b l ih =>
    intro h
    have h1 := hf b (h b List.mem_cons_self)
    obtain ⟨h2, h3⟩ := ih (fun c q => h c (List.mem_cons_of_mem _ q))
    show f b + 256 * vlB (l.map f) ≤ b + 256 * vlB l ∧ (b + 256 * vlB l) - (f b + 256 * vlB (l.map f)) = (b - f b) + 256 * vlB (l.map fun b => b - f b)
    rw [← h3]
    constructor <;> omega
theorem addB (f k : Nat → Nat) : ∀ (l : List Nat), vlB (l.map f) + vlB (l.map k) = vlB (l.map fun b => f b + k b) := by
  intro l
  induction l with
  | nil => rfl
  | cons b l ih =>
    show (f b + 256 * vlB (l.map f)) + (k b + 256 * vlB (l.map k)) = (f b + k b) + 256 * vlB (l.map fun b => f b + k b)
    rw [← ih]; omega
def qb1 (b : Nat) : Nat := b - ((b / 2) &&& 85)
def qb2 (b : Nat) : Nat := (qb1 b &&& 51) + ((qb1 b / 4) &&& 51)
def qb3 (b : Nat) : Nat := (qb2 b + qb2 b / 16) &&& 15
/-- bits that are set, of the lowest n -/
def pcK : Nat → Nat → Nat
  | 0, _ => 0
  | n + 1, x => x % 2 + pcK n (x / 2)
theorem pcK_s (n V : Nat) : ∀ (k b : Nat), b < 2 ^ k → pcK (k + n) (b + 2 ^ k * V) = pcK k b + pcK n V := by
  intro k
  induction k with
  | zero => intro b hb; rw [show b = 0 by omega, Nat.zero_add, Nat.zero_add, Nat.pow_zero, Nat.one_mul]; exact (Nat.zero_add _).symm
  | succ k ih =>
    intro b hb
    rw [Nat.pow_succ] at hb
    have e1 : 2 ^ (k + 1) * V = 2 * (2 ^ k * V) := by rw [Nat.pow_succ, Nat.mul_comm (2 ^ k) 2, Nat.mul_assoc]
    rw [e1, show k + 1 + n = (k + n) + 1 by omega]
    show (b + 2 * (2 ^ k * V)) % 2 + pcK (k + n) ((b + 2 * (2 ^ k * V)) / 2) = (b % 2 + pcK k (b / 2)) + pcK n V
    have e2 : (b + 2 * (2 ^ k * V)) / 2 = b / 2 + 2 ^ k * V := by omega
    have e3 : (b + 2 * (2 ^ k * V)) % 2 = b % 2 := by omega
    rw [e2, e3, ih (b / 2) (by omega)]; omega
theorem pcK_m (f : Nat → Bool) : ∀ (k n : Nat), k ≤ n → pcK n (mkN f k) = cnF f k := by
  have z : ∀ n, pcK n 0 = 0 := by
    intro n
    induction n with
    | zero => rfl
    | succ n ih => show 0 % 2 + pcK n (0 / 2) = 0; rw [Nat.zero_div, ih]
  intro k
  induction k with
  | zero => intro n _; exact z n
  | succ k ih =>
    intro n hn
    cases n with
    | zero => omega
    | succ n =>
      show (2 * mkN f k + (if f k = true then 1 else 0)) % 2 + pcK n ((2 * mkN f k + (if f k = true then 1 else 0)) / 2) = cnF f k + (if f k = true then 1 else 0)
      have e : (2 * mkN f k + (if f k = true then 1 else 0)) / 2 = mkN f k := by split <;> omega
      rw [e, ih n (by omega)]
      split <;> omega
theorem shJ {x k : Nat} (hx : x < 18446744073709551616) (hk : k < 64) : ((nJ x).toUInt64 >>> ((nI k).toInt64.toUInt64 &&& Int64.toUInt64 63)).toInt64 = nJ (x / 2 ^ k) := by
  rw [xJ_shr]
  congr 1
  unfold yshr
  rw [Nat.mod_eq_of_lt hk, Nat.mod_eq_of_lt hx, Nat.shiftRight_eq_div_pow]
theorem sbJ {x y : Nat} (hx : x < 18446744073709551616) (hy : y ≤ x) : nJ x - nJ y = nJ (x - y) := by
  rw [xJ_sub]
  congr 1
  unfold ysub
  omega
theorem adJ {x y : Nat} (h : x + y < 18446744073709551616) : nJ x + nJ y = nJ (x + y) := by
  rw [xJ_add]
  congr 1
  unfold yadd
  omega
theorem dvN {a n K : Nat} (hn : 0 < n) (h : a < n) : (a + n * K) / n = K := by rw [Nat.add_mul_div_left _ _ hn, Nat.div_eq_of_lt h, Nat.zero_add]
/-- the bytes added up -/
theorem smB (c0 c1 c2 c3 c4 c5 c6 c7 : Nat) (h0 : c0 ≤ 8) (h1 : c1 ≤ 8) (h2 : c2 ≤ 8) (h3 : c3 ≤ 8) (h4 : c4 ≤ 8) (h5 : c5 ≤ 8) (h6 : c6 ≤ 8) (h7 : c7 ≤ 8) :
    (nJ (c0 + 256 * (c1 + 256 * (c2 + 256 * (c3 + 256 * (c4 + 256 * (c5 + 256 * (c6 + 256 * (c7 + 256 * 0)))))))) + ((nJ (c0 + 256 * (c1 + 256 * (c2 + 256 * (c3 + 256 * (c4 + 256 * (c5 + 256 * (c6 + 256 * (c7 + 256 * 0))))))))).toUInt64 >>> (((8 : Int32)).toInt64.toUInt64 &&& Int64.toUInt64 63)).toInt64 + ((nJ (c0 + 256 * (c1 + 256 * (c2 + 256 * (c3 + 256 * (c4 + 256 * (c5 + 256 * (c6 + 256 * (c7 + 256 * 0)))))))) + ((nJ (c0 + 256 * (c1 + 256 * (c2 + 256 * (c3 + 256 * (c4 + 256 * (c5 + 256 * (c6 + 256 * (c7 + 256 * 0))))))))).toUInt64 >>> (((8 : Int32)).toInt64.toUInt64 &&& Int64.toUInt64 63)).toInt64).toUInt64 >>> (((16 : Int32)).toInt64.toUInt64 &&& Int64.toUInt64 63)).toInt64 + ((nJ (c0 + 256 * (c1 + 256 * (c2 + 256 * (c3 + 256 * (c4 + 256 * (c5 + 256 * (c6 + 256 * (c7 + 256 * 0)))))))) + ((nJ (c0 + 256 * (c1 + 256 * (c2 + 256 * (c3 + 256 * (c4 + 256 * (c5 + 256 * (c6 + 256 * (c7 + 256 * 0))))))))).toUInt64 >>> (((8 : Int32)).toInt64.toUInt64 &&& Int64.toUInt64 63)).toInt64 + ((nJ (c0 + 256 * (c1 + 256 * (c2 + 256 * (c3 + 256 * (c4 + 256 * (c5 + 256 * (c6 + 256 * (c7 + 256 * 0)))))))) + ((nJ (c0 + 256 * (c1 + 256 * (c2 + 256 * (c3 + 256 * (c4 + 256 * (c5 + 256 * (c6 + 256 * (c7 + 256 * 0))))))))).toUInt64 >>> (((8 : Int32)).toInt64.toUInt64 &&& Int64.toUInt64 63)).toInt64).toUInt64 >>> (((16 : Int32)).toInt64.toUInt64 &&& Int64.toUInt64 63)).toInt64).toUInt64 >>> (((32 : Int32)).toInt64.toUInt64 &&& Int64.toUInt64 63)).toInt64).toInt32 &&& (127 : Int32) = nI (c0 + (c1 + (c2 + (c3 + (c4 + (c5 + (c6 + c7))))))) := by
  obtain ⟨D, eD⟩ : ∃ D, D = c0 + 256 * (c1 + 256 * (c2 + 256 * (c3 + 256 * (c4 + 256 * (c5 + 256 * (c6 + 256 * (c7 + 256 * 0))))))) := ⟨_, rfl⟩
  rw [← eD]
  have s8 : ∀ x, x < 18446744073709551616 → ((nJ x).toUInt64 >>> (((8 : Int32)).toInt64.toUInt64 &&& Int64.toUInt64 63)).toInt64 = nJ (x / 256) := fun x hx => shJ hx (k := 8) (by omega)
  have s16 : ∀ x, x < 18446744073709551616 → ((nJ x).toUInt64 >>> (((16 : Int32)).toInt64.toUInt64 &&& Int64.toUInt64 63)).toInt64 = nJ (x / 65536) := fun x hx => shJ hx (k := 16) (by omega)
  have s32 : ∀ x, x < 18446744073709551616 → ((nJ x).toUInt64 >>> (((32 : Int32)).toInt64.toUInt64 &&& Int64.toUInt64 63)).toInt64 = nJ (x / 4294967296) := fun x hx => shJ hx (k := 32) (by omega)
  have f1 : D / 256 = c1 + 256 * (c2 + 256 * (c3 + 256 * (c4 + 256 * (c5 + 256 * (c6 + 256 * (c7 + 256 * 0)))))) := by rw [eD]; exact dvN (by omega) (by omega)
  obtain ⟨E, eE⟩ : ∃ E, E = ((c0 + c1) + 256 * (c1 + c2)) + 65536 * ((c2 + c3) + 256 * ((c3 + c4) + 256 * ((c4 + c5) + 256 * ((c5 + c6) + 256 * ((c6 + c7) + 256 * c7))))) := ⟨_, rfl⟩
  have g1 : D + D / 256 = E := by rw [f1, eD, eE]; clear s8 s16 s32 f1 eE eD; omega
  have f2 : E / 65536 = (c2 + c3) + 256 * ((c3 + c4) + 256 * ((c4 + c5) + 256 * ((c5 + c6) + 256 * ((c6 + c7) + 256 * c7)))) := by rw [eE]; exact dvN (by omega) (by omega)
  obtain ⟨F, eF⟩ : ∃ F, F = ((c0 + c1 + c2 + c3) + 256 * ((c1 + c2 + c3 + c4) + 256 * ((c2 + c3 + c4 + c5) + 256 * (c3 + c4 + c5 + c6)))) + 4294967296 * ((c4 + c5 + c6 + c7) + 256 * ((c5 + c6 + c7) + 256 * ((c6 + c7) + 256 * c7))) := ⟨_, rfl⟩
  have g2 : E + E / 65536 = F := by rw [f2, eE, eF]; clear s8 s16 s32 f1 f2 g1 eE eD eF; omega
  have f3 : F / 4294967296 = (c4 + c5 + c6 + c7) + 256 * ((c5 + c6 + c7) + 256 * ((c6 + c7) + 256 * c7)) := by rw [eF]; exact dvN (by omega) (by clear s8 s16 s32 f1 f2 g1 g2 eE eD eF; omega)
  obtain ⟨G, eG⟩ : ∃ G, G = (c0 + c1 + c2 + c3 + c4 + c5 + c6 + c7) + 128 * (2 * ((c1 + c2 + c3 + c4 + c5 + c6 + c7) + 256 * ((c2 + c3 + c4 + c5 + c6 + c7) + 256 * (c3 + c4 + c5 + c6 + c7))) + 33554432 * ((c4 + c5 + c6 + c7) + 256 * ((c5 + c6 + c7) + 256 * ((c6 + c7) + 256 * c7)))) := ⟨_, rfl⟩
  have g3 : F + F / 4294967296 = G := by rw [f3, eF, eG]; clear s8 s16 s32 f1 f2 f3 g1 g2 eE eD eF eG; omega
  have hD : D < 18446744073709551616 := by rw [eD]; clear s8 s16 s32 f1 f2 f3 g1 g2 g3 eE eD eF eG; omega
  have hE : E < 18446744073709551616 := by rw [eE]; clear s8 s16 s32 f1 f2 f3 g1 g2 g3 eE eD eF eG hD; omega
  have hF : F < 18446744073709551616 := by rw [eF]; clear s8 s16 s32 f1 f2 f3 g1 g2 g3 eE eD eF eG hD hE; omega
  have hG : G < 18446744073709551616 := by rw [eG]; clear s8 s16 s32 f1 f2 f3 g1 g2 g3 eE eD eF eG hD hE hF; omega
  rw [s8 D hD, adJ (by rw [g1]; exact hE), g1, s16 E hE, adJ (by rw [g2]; exact hF), g2, s32 F hF, adJ (by rw [g3]; exact hG), g3, xJ_i, show (127 : Int32) = nI 127 from rfl, xI_and]
  congr 1
  have e7' : G % 4294967296 &&& 127 = G % 4294967296 % 128 := Nat.and_two_pow_sub_one_eq_mod (G % 4294967296) 7
  rw [e7', Nat.mod_mod_of_dvd _ (by decide), eG, Nat.add_mul_mod_self_left]
  clear s8 s16 s32 f1 f2 f3 g1 g2 g3 eE eD eF eG hD hE hF hG e7'
  omega
theorem bc_n (h : mv_H) {x : Nat} (hx : x < 18446744073709551616) : f_Long_bitCount h (nJ x) = some (nI (pcK 64 x), h) := by
  obtain ⟨b0, b1, b2, b3, b4, b5, b6, b7, k0, k1, k2, k3, k4, k5, k6, k7, ex⟩ : ∃ b0 b1 b2 b3 b4 b5 b6 b7, b0 < 256 ∧ b1 < 256 ∧ b2 < 256 ∧ b3 < 256 ∧ b4 < 256 ∧ b5 < 256 ∧ b6 < 256 ∧ b7 < 256 ∧ x = vlB [b0, b1, b2, b3, b4, b5, b6, b7] := by
    refine ⟨x % 256, x / 256 % 256, x / 65536 % 256, x / 16777216 % 256, x / 4294967296 % 256, x / 1099511627776 % 256, x / 281474976710656 % 256, x / 72057594037927936 % 256, Nat.mod_lt _ (by omega), Nat.mod_lt _ (by omega), Nat.mod_lt _ (by omega), Nat.mod_lt _ (by omega), Nat.mod_lt _ (by omega), Nat.mod_lt _ (by omega), Nat.mod_lt _ (by omega), Nat.mod_lt _ (by omega), ?_⟩
    show x = x % 256 + 256 * (x / 256 % 256 + 256 * (x / 65536 % 256 + 256 * (x / 16777216 % 256 + 256 * (x / 4294967296 % 256 + 256 * (x / 1099511627776 % 256 + 256 * (x / 281474976710656 % 256 + 256 * (x / 72057594037927936 % 256 + 256 * 0)))))))
    omega
  generalize hl : [b0, b1, b2, b3, b4, b5, b6, b7] = l at ex
  have hb : ∀ b, b ∈ l → b < 256 := by
    rw [← hl]; intro b hm
    simp only [List.mem_cons, List.not_mem_nil, or_false] at hm
    rcases hm with q | q | q | q | q | q | q | q <;> omega
  have hlen : l.length = 8 := by rw [← hl]; rfl
  have lt8 : ∀ f : Nat → Nat, (∀ b, b < 256 → f b < 256) → vlB (l.map f) < 18446744073709551616 := fun f hf => by
    have := vlB_lt (l.map f) (fun b hm => by obtain ⟨c, q1, q2⟩ := List.mem_map.mp hm; rw [← q2]; exact hf c (hb c q1))
    rw [List.length_map, hlen] at this
    exact this
  have m5 : vlB (l.map fun _ => 85) = 6148914691236517205 := by rw [← hl]; show vlB [85, 85, 85, 85, 85, 85, 85, 85] = _; decide +kernel
  have r1 : ∀ b, b < 256 → (b / 2) &&& 85 ≤ b ∧ qb1 b < 256 ∧ qb1 b &&& 51 < 256 ∧ (qb1 b / 4) &&& 51 < 256 ∧ qb2 b < 256 ∧ (qb2 b % 16 ≤ 4 ∧ qb2 b / 16 ≤ 4) ∧ qb3 b ≤ 8 ∧ qb3 b = pcK 8 b := by decide +kernel
  have eB : pB (nJ x) = nJ (vlB (l.map qb1)) := by
    unfold pB
    have e1 : ((nJ x).toUInt64 >>> (((1 : Int32)).toInt64.toUInt64 &&& Int64.toUInt64 63)).toInt64 = nJ (x / 2 ^ 1) := shJ hx (k := 1) (by omega)
    obtain ⟨s1, s2⟩ := subB (fun b => (b / 2) &&& 85) (fun b q => (r1 b q).1) l hb
    rw [e1, show (6148914691236517205 : Int64) = nJ 6148914691236517205 from rfl, xJ_and, ← m5, show x / 2 ^ 1 = vlB l / 2 by rw [ex], stB l hb, show nJ x = nJ (vlB l) by rw [ex], sbJ (by rw [← ex]; exact hx) s1, s2]
    rfl
  have hq1 : ∀ b, b ∈ l.map qb1 → b < 256 := fun b hm => by obtain ⟨c, q1, q2⟩ := List.mem_map.mp hm; rw [← q2]; exact (r1 c (hb c q1)).2.1
  have m3' : vlB ((l.map qb1).map fun _ => 51) = 3689348814741910323 := by rw [← hl]; show vlB [51, 51, 51, 51, 51, 51, 51, 51] = _; decide +kernel
  have eC : pC (nJ x) = nJ (vlB (l.map qb2)) := by
    unfold pC
    have e1 : ((nJ (vlB (l.map qb1))).toUInt64 >>> (((2 : Int32)).toInt64.toUInt64 &&& Int64.toUInt64 63)).toInt64 = nJ (vlB (l.map qb1) / 2 ^ 2) := shJ (lt8 _ fun b q => (r1 b q).2.1) (k := 2) (by omega)
    rw [eB, e1, show (3689348814741910323 : Int64) = nJ 3689348814741910323 from rfl, xJ_and, xJ_and, ← m3', show (2 : Nat) ^ 2 = 4 from rfl, stC _ hq1, stC2 _ hq1, List.map_map, List.map_map]
    have e2 := addB ((fun b => b &&& 51) ∘ qb1) ((fun b => (b / 4) &&& 51) ∘ qb1) l
    have e3 : vlB (l.map fun b => ((fun b => b &&& 51) ∘ qb1) b + ((fun b => (b / 4) &&& 51) ∘ qb1) b) = vlB (l.map qb2) := rfl
    rw [e3] at e2
    have := lt8 qb2 (fun b q => (r1 b q).2.2.2.2.1)
    rw [adJ (by rw [e2]; exact this), e2]
  have hq2 : ∀ b, b ∈ l.map qb2 → b % 16 ≤ 4 ∧ b / 16 ≤ 4 := fun b hm => by obtain ⟨c, q1, q2⟩ := List.mem_map.mp hm; rw [← q2]; exact (r1 c (hb c q1)).2.2.2.2.2.1
  have m0' : vlB ((l.map qb2).map fun _ => 15) = 1085102592571150095 := by rw [← hl]; show vlB [15, 15, 15, 15, 15, 15, 15, 15] = _; decide +kernel
  have hV : vlB (l.map qb2) < 9223372036854775808 := by
    have t := fun b q => (r1 b q).2.2.2.2.2.1
    have u7 := t b7 k7
    have u0 := (r1 b0 k0).2.2.2.2.1
    have u1 := (r1 b1 k1).2.2.2.2.1
    have u2 := (r1 b2 k2).2.2.2.2.1
    have u3 := (r1 b3 k3).2.2.2.2.1
    have u4 := (r1 b4 k4).2.2.2.2.1
    have u5 := (r1 b5 k5).2.2.2.2.1
    have u6 := (r1 b6 k6).2.2.2.2.1
    rw [← hl]
    show qb2 b0 + 256 * (qb2 b1 + 256 * (qb2 b2 + 256 * (qb2 b3 + 256 * (qb2 b4 + 256 * (qb2 b5 + 256 * (qb2 b6 + 256 * (qb2 b7 + 256 * 0))))))) < 9223372036854775808
    omega
  have eD : pD (nJ x) = nJ (vlB (l.map qb3)) := by
    unfold pD
    have e1 : ((nJ (vlB (l.map qb2))).toUInt64 >>> (((4 : Int32)).toInt64.toUInt64 &&& Int64.toUInt64 63)).toInt64 = nJ (vlB (l.map qb2) / 2 ^ 4) := shJ (lt8 _ fun b q => (r1 b q).2.2.2.2.1) (k := 4) (by omega)
    rw [eC, e1, show (2 : Nat) ^ 4 = 16 from rfl, adJ (by omega), show (1085102592571150095 : Int64) = nJ 1085102592571150095 from rfl, xJ_and, ← m0', stD _ hq2, List.map_map]
    rfl
  have p0 := (r1 b0 k0).2.2.2.2.2.2
  have p1 := (r1 b1 k1).2.2.2.2.2.2
  have p2 := (r1 b2 k2).2.2.2.2.2.2
  have p3 := (r1 b3 k3).2.2.2.2.2.2
  have p4 := (r1 b4 k4).2.2.2.2.2.2
  have p5 := (r1 b5 k5).2.2.2.2.2.2
  have p6 := (r1 b6 k6).2.2.2.2.2.2
  have p7 := (r1 b7 k7).2.2.2.2.2.2
  have eV : vlB (l.map qb3) = qb3 b0 + 256 * (qb3 b1 + 256 * (qb3 b2 + 256 * (qb3 b3 + 256 * (qb3 b4 + 256 * (qb3 b5 + 256 * (qb3 b6 + 256 * (qb3 b7 + 256 * 0))))))) := by rw [← hl]; rfl
  have pk : pcK 64 x = qb3 b0 + (qb3 b1 + (qb3 b2 + (qb3 b3 + (qb3 b4 + (qb3 b5 + (qb3 b6 + qb3 b7)))))) := by
    have e : x = b0 + 2 ^ 8 * (b1 + 2 ^ 8 * (b2 + 2 ^ 8 * (b3 + 2 ^ 8 * (b4 + 2 ^ 8 * (b5 + 2 ^ 8 * (b6 + 2 ^ 8 * (b7 + 2 ^ 8 * 0))))))) := by rw [ex, ← hl]; rfl
    rw [e, show (64 : Nat) = 8 + (8 + (8 + (8 + (8 + (8 + (8 + (8 + 0))))))) from rfl, pcK_s _ _ 8 b0 k0, pcK_s _ _ 8 b1 k1, pcK_s _ _ 8 b2 k2, pcK_s _ _ 8 b3 k3, pcK_s _ _ 8 b4 k4, pcK_s _ _ 8 b5 k5, pcK_s _ _ 8 b6 k6, pcK_s _ _ 8 b7 k7, ← p0.2, ← p1.2, ← p2.2, ← p3.2, ← p4.2, ← p5.2, ← p6.2, ← p7.2]
    rfl
  rw [bc_e, pk]
  rw [eV] at eD
  refine congrArg some (Prod.ext ?_ rfl)
  show (pG (nJ x)).toInt32 &&& (127 : Int32) = _
  unfold pG pF pE
  rw [eD]
  exact smB _ _ _ _ _ _ _ _ p0.1 p1.1 p2.1 p3.1 p4.1 p5.1 p6.1 p7.1
theorem obW {g : mv_H} (w : Wr g) (a0 a1 a2 : Int32) : ∃ g', f_Weaver_openBlock g a0 a1 a2 = some g' ∧ Wr g' ∧ Sm g g' := by
  obtain ⟨g', e, w', s'⟩ := opW w (t := 123) (by decide)
  refine ⟨g', ?_, w', s'⟩
  unfold f_Weaver_openBlock
  rw [e, xhb_s, rtW w', xhb_s, if_pos rfl]
theorem op171 {P L Q q s : Nat} (hL : L ≤ 64) (hq : q + 1 + Q ≤ 32768) (hs : s < 16448) (ch : Nat → Nat) (hch : ∀ i, i < Q → ch i < 128) (g : mv_H) (e0 : mv_i g P 0 = nI L) (ht : ∀ i, i < Q → mv_a g 1 (q + 1 + i) = nI (ch i)) : ∃ h', f_Weaver_op_171 P (nI s) (nI (q + 1)) (nI Q) g = some h' ∧ mv_i h' = mv_i g ∧ (∀ r, ¬ r = 16 → ¬ r = 17 → mv_a h' r = mv_a g r) ∧ (∀ k, mv_a h' 16 k = if k = s then 1 else mv_a g 16 k) ∧ (∀ r, ¬ r = 18 → mv_b h' r = mv_b g r) ∧ (Q = L → LTk ch L g 0 → LTk ch L h' L) := by
  obtain ⟨h', e, r1, r2, r3, r4⟩ := entL hL hq ch hch 200000 0 (mv_sa g 16 s 1) (by omega) (by omega) (fun i hi => by rw [← ht i hi]; rfl)
  refine ⟨h', ?_, r1, fun r h1 h2 => ?_, fun k => ?_, r3, fun z1 z2 => r4 z1 (fun c hc => ?_)⟩
  · have e' : f_Names_enterOp (mv_sa g 16 s 1) (nI (q + 1)) (nI Q) (nI L) = some h' := e
    unfold f_Weaver_op_171
    rw [xvi_n hs (by decide), cond_true, xk_s, cln (by omega), show vp_nar .byte (1 : Int32) = 1 from by decide]
    have e0' : mv_i (mv_sa g 16 s 1) P 0 = nI L := e0
    rw [e0', e', xhv_s]
  · rw [r2 r h2]; funext k; ((simp only [rw_ii, rw_aa, rw_bb, rw_ia, rw_ib, rw_ai, rw_ab, rw_bi, rw_ba, true_and, and_true, if_true]; repeat' split) <;> first | rfl | (exfalso; omega))
  · rw [r2 16 (by omega)]; ((simp only [rw_ii, rw_aa, rw_bb, rw_ia, rw_ib, rw_ai, rw_ab, rw_bi, rw_ba, true_and, and_true, if_true]; repeat' split) <;> first | rfl | (exfalso; omega))
  · exact z2 c hc
section OPA
variable {X : TX} {J P : Nat} {sy : List Nat → Nat} {h : mv_H} {j d : Nat} (W : WA X J P sy h j d)
/-- op NAME CODE { -/
theorem op_A (W : WA X J P sy h j d) (hk : X.kd j = 206) {o b L : Nat} (eo : mv_i h P 10 = nI o) (ho : o ≤ 512) (eb : mv_i h 2 15 = nI b) (hb : b ≤ 60) (eL : mv_i h P 0 = nI L) (hL : L ≤ 64) : ∃ h', f_Weaver_op P h = some h' ∧
    (((X.kd (j + 1) = 3 ∧ X.kd (j + 2) = 5 ∧ (X.kd (j + 3) = 123 ∧ d < 60)) ∧ (¬ mv_a h 16 (sy (X.nm (j + 1))) = 1 ∧ o < 512 ∧ (X.nm (j + 2)).length = L) ∧ ∃ g1 g2, PT X J h g1 (j + 4) (d + 1) ∧ mv_i g1 21 = mv_i h 21 ∧ OpQ P (OBk g1 b 206 (-1) (-1)) g2 o (nJ (mkN (fun i => is01 ((X.nm (j + 2)).getD i 0)) L)) (nJ (mkN (fun i => is1 ((X.nm (j + 2)).getD i 0)) L)) 0 L (fun i => (X.nm (j + 2)).getD i 0) ∧ mv_i h' = mv_i g2 ∧ (∀ r, ¬ r = 16 → ¬ r = 17 → mv_a h' r = mv_a g2 r) ∧ (∀ k, mv_a h' 16 k = if k = sy (X.nm (j + 1)) then 1 else mv_a g2 16 k) ∧ (∀ r, ¬ r = 18 → mv_b h' r = mv_b g2 r) ∧ (LTk (fun i => (X.nm (j + 2)).getD i 0) L h 0 → LTk (fun i => (X.nm (j + 2)).getD i 0) L h' L)) ∨
     (¬ ((X.kd (j + 1) = 3 ∧ X.kd (j + 2) = 5 ∧ (X.kd (j + 3) = 123 ∧ d < 60)) ∧ (¬ mv_a h 16 (sy (X.nm (j + 1))) = 1 ∧ o < 512 ∧ (X.nm (j + 2)).length = L)) ∧ Fl h')) := by
  have hpp := W.pp
  have hJ := W.hJ
  have hJb := W.pt.tb.jb
  have hjJ := W.pt.jJ
  unfold f_Weaver_op
  rcases W.pt.tk hJ (k := 206) (by omega) (by omega) with ⟨q0, g1, e, T1, n1⟩ | ⟨q0, -⟩
  rotate_left
  · exact absurd hk q0
  rw [show f_Tokens_take h 206 = _ from e, xhb_s]
  rcases T1.tk hJ (k := 3) (by omega) (by omega) with ⟨q1, g3, e, T3, n3⟩ | ⟨q1, g3, e, w3, -⟩
  rotate_left
  · obtain ⟨g', eb', w', -⟩ := obW w3 206 (-1) (-1)
    rw [show f_Tokens_take g1 3 = _ from e, xhb_s, tkW w3 (by decide), xhb_s, eb', xhv_s, rtW w', xhb_s, if_pos rfl]
    exact ⟨g', rfl, Or.inr ⟨fun z => q1 z.1.1, w'.fl⟩⟩
  rw [show f_Tokens_take g1 3 = _ from e, xhb_s]
  rcases T3.tk hJ (k := 5) (by omega) (by omega) with ⟨q2, g5, e, T5, n5⟩ | ⟨q2, g5, e, w5, -⟩
  rotate_left
  · obtain ⟨g', eb', w', -⟩ := obW w5 206 (-1) (-1)
    rw [show f_Tokens_take g3 5 = _ from e, xhb_s, eb', xhv_s, rtW w', xhb_s, if_pos rfl]
    exact ⟨g', rfl, Or.inr ⟨fun z => q2 z.1.2.1, w'.fl⟩⟩
  rw [show f_Tokens_take g3 5 = _ from e, xhb_s]
  have hj1 := T1.jJ
  have hj2 := T3.jJ
  rcases opb_A T5 hJ (b := b) (by rw [T5.sm.i 2 15 (by omega) (by omega)]; exact eb) hb 206 (-1) (-1) with ⟨q3, g7, T7, n7, e⟩ | ⟨q3, g7, e, w7, -⟩
  rotate_left
  · rw [e, xhv_s, rtW w7, xhb_s, if_pos rfl]
    exact ⟨g7, rfl, Or.inr ⟨fun z => q3 z.1.2.2, w7.fl⟩⟩
  -- the block is open
  obtain ⟨hb0, ehb⟩ : ∃ k, k = OBk g7 b 206 (-1) (-1) := ⟨_, rfl⟩
  rw [e, xhv_s, ← ehb]
  have oi : ∀ a k, ¬ (a = 2 ∧ (k = 15 ∨ k = 6)) → mv_i hb0 a k = mv_i g7 a k := fun a k q => by rw [ehb]; unfold OBk; ((simp only [rw_ii, rw_aa, rw_bb, rw_ia, rw_ib, rw_ai, rw_ab, rw_bi, rw_ba, true_and, and_true, if_true]; repeat' split) <;> first | rfl | (exfalso; omega))
  have oa : ∀ r, ¬ (28 ≤ r ∧ r ≤ 31) → mv_a hb0 r = mv_a g7 r := fun r q => by rw [ehb]; unfold OBk; funext k; ((simp only [rw_ii, rw_aa, rw_bb, rw_ia, rw_ib, rw_ai, rw_ab, rw_bi, rw_ba, true_and, and_true, if_true]; repeat' split) <;> first | rfl | (exfalso; omega))
  have ob : mv_b hb0 = mv_b g7 := by rw [ehb]; rfl
  have T8 : PT X J hb0 hb0 (j + 4) (d + 1) := T7.of (oa 4 (by omega)) (oa 5 (by omega)) (by rw [ob]) (oi 3 7 (by omega)) (oi 3 8 (by omega)) (oi 3 9 (by omega))
  have S8 : SyQ X J sy hb0 := (W.S.sm T7.sm).fr (oa 1 (by omega)) (oa 5 (by omega)) (oa 8 (by omega)) (oa 9 (by omega)) (by rw [ob])
  have n8 : mv_i hb0 21 = mv_i h 21 := by
    have : mv_i hb0 21 = mv_i g7 21 := funext fun k => oi 21 k (by omega)
    rw [this, n7, n5, n3, n1]
  have eo8 : mv_i hb0 P 10 = nI o := by rw [oi P 10 (by omega), T7.sm.i P 10 (by omega) (by omega)]; exact eo
  have eL8 : mv_i hb0 P 0 = nI L := by rw [oi P 0 (by omega), T7.sm.i P 0 (by omega) (by omega)]; exact eL
  have e16 : mv_a hb0 16 = mv_a h 16 := by rw [oa 16 (by omega), T7.sm.a]
  obtain ⟨-, bs, -⟩ := S8.t (j + 1) hj1 q1
  obtain ⟨q, c1, c2, c3, c4⟩ := S8.cd (j + 2) hj2 q2
  have c3' : (mv_b hb0 6 (j + 1 + 1 + 1)).toInt32 = nI (X.nm (j + 2)).length := by
    rw [show mv_b hb0 6 (j + 1 + 1 + 1) = nJ (X.nm (j + 2)).length from c3, nJi (by omega)]
  have hch : ∀ i, i < (X.nm (j + 2)).length → (X.nm (j + 2)).getD i 0 < 128 := fun i hi => by
    rcases (c4 i hi).2 with z | z | z | z
    · omega
    · omega
    · omega
    · have := isl_b z; omega
  have ht : ∀ i, i < (X.nm (j + 2)).length → mv_a hb0 1 (q + 1 + i) = nI ((X.nm (j + 2)).getD i 0) := fun i hi => (c4 i hi).1
  rw [T8.rt, xhb_s, if_neg (by decide), show f_Weaver_symbolOf hb0 (nI (j + 1 + 1)) = _ from S8.so (i := j + 1) hj1 hJb q1, xhb_s, xvi_n (show j + 1 + 1 + 1 < 32770 by omega) (by decide), cond_true, cond_true, xvi_n (by omega) (by decide), cond_true, cln (by omega), cln (by omega), show mv_a hb0 5 (j + 1 + 1 + 1) = nI q from c1, nI1 (by omega), c3', eo8, eL8, e16]
  -- a heap behind a tell goes on
  have t153 : ∀ g : mv_H, PT X J hb0 g (j + 4) (d + 1) → ¬ mv_i g 21 0 = 0 → ∃ h', f_Weaver_op_153 P (nI (j + 1 + 1 + 1)) (nI (sy (X.nm (j + 1)))) (nI (q + 1)) (nI (X.nm (j + 2)).length) g = some h' ∧ Fl h' := fun g Tg ng => by
    have t171 : ∀ k : mv_H, Sm hb0 k → ¬ mv_i k 21 0 = 0 → ∃ h', f_Weaver_op_171 P (nI (sy (X.nm (j + 1)))) (nI (q + 1)) (nI (X.nm (j + 2)).length) k = some h' ∧ Fl h' := fun k sk nk => by
      obtain ⟨h', e', r1, -⟩ := op171 (P := P) (L := L) (Q := (X.nm (j + 2)).length) (q := q) (s := sy (X.nm (j + 1))) hL c2 (by omega) (fun i => (X.nm (j + 2)).getD i 0) hch k (by rw [sk.i P 0 (by omega) (by omega)]; exact eL8) (fun i hi => by rw [sk.a]; exact ht i hi)
      exact ⟨h', e', Or.inr (by rw [r1]; exact nk)⟩
    unfold f_Weaver_op_153
    split
    · exact t171 g Tg.sm ng
    · obtain ⟨k, ek, Tk, nk⟩ := Tg.tl (t := j + 1 + 1 + 1) (by omega) (x := 5) (by decide)
      rw [ek, xhv_s]
      exact t171 k Tk.sm nk
  by_cases d1 : mv_a h 16 (sy (X.nm (j + 1))) = 1
  · obtain ⟨k, ek, Tk, nk⟩ := T8.tl (t := j + 1 + 1) (by omega) (x := 2) (by decide)
    obtain ⟨h', e', F⟩ := t153 k Tk nk
    rw [if_pos d1, ek, xhv_s]
    exact ⟨h', e', Or.inr ⟨fun z => z.2.1 d1, F⟩⟩
  rw [if_neg d1]
  by_cases d2 : o = 512
  · obtain ⟨k, ek, Tk, nk⟩ := T8.tl (t := j + 1 + 1) (by omega) (x := 6) (by decide)
    obtain ⟨h', e', F⟩ := t153 k Tk nk
    rw [if_pos (show nI o = 512 by rw [d2]; rfl), ek, xhv_s]
    exact ⟨h', e', Or.inr ⟨fun z => by have := z.2.2.1; omega, F⟩⟩
  rw [if_neg (show ¬ nI o = 512 from fun z => d2 ((nIinj (b := 512) (by omega) (by omega)).mp z))]
  by_cases d3 : (X.nm (j + 2)).length = L
  · rw [if_pos (show nI (X.nm (j + 2)).length = nI L by rw [d3])]
    obtain ⟨g2, e2, Q2⟩ := addL hpp (L := L) (o := o) (q := q + 1) hL (by omega) (by omega) (fun i => (X.nm (j + 2)).getD i 0) 200000 0 hb0 (by omega) (by omega) eL8 eo8 (fun i hi => ⟨ht i (by omega), by have := hch i (by omega); omega⟩)
    have e2' : f_Program_addOp P hb0 (nI (q + 1)) = some g2 := e2
    rw [e2', xhv_s]
    obtain ⟨h', e', r1, r2, r3, r4, r5⟩ := op171 (P := P) (L := L) (Q := (X.nm (j + 2)).length) (q := q) (s := sy (X.nm (j + 1))) hL c2 (by omega) (fun i => (X.nm (j + 2)).getD i 0) hch g2 (by rw [Q2.i P 0 (by omega)]; exact eL8) (fun i hi => by rw [Q2.a 1 (by omega)]; exact ht i hi)
    refine ⟨h', ?_, Or.inl ⟨⟨q1, q2, q3⟩, ⟨d1, by omega, d3⟩, g7, g2, T7, by rw [n7, n5, n3, n1], by rw [← ehb]; exact Q2, r1, r2, r3, r4, fun z => r5 d3 (fun c hc => ?_)⟩⟩
    · unfold f_Weaver_op_153
      rw [if_pos (show nI (X.nm (j + 2)).length = mv_i g2 P 0 by rw [Q2.i P 0 (by omega), eL8, d3])]
      exact e'
    · rw [Q2.a 17 (by omega), Q2.b 18 (by omega), oa 17 (by omega), ob, T7.sm.a, T7.sm.b]
      exact z c hc
  · rw [if_neg (show ¬ nI (X.nm (j + 2)).length = nI L from fun z => d3 ((nIinj (by omega) (by omega)).mp z))]
    obtain ⟨k, ek, Tk, nk⟩ := T8.tl (t := j + 1 + 1 + 1) (by omega) (x := 5) (by decide)
    obtain ⟨h', e', r1, -⟩ := op171 (P := P) (L := L) (Q := (X.nm (j + 2)).length) (q := q) (s := sy (X.nm (j + 1))) hL c2 (by omega) (fun i => (X.nm (j + 2)).getD i 0) hch k (by rw [Tk.sm.i P 0 (by omega) (by omega)]; exact eL8) (fun i hi => by rw [Tk.sm.a]; exact ht i hi)
    refine ⟨h', ?_, Or.inr ⟨fun z => d3 z.2.2.2, Or.inr (by rw [r1]; exact nk)⟩⟩
    unfold f_Weaver_op_153
    rw [if_neg (show ¬ nI (X.nm (j + 2)).length = mv_i hb0 P 0 from fun z => d3 (by rw [eL8] at z; exact (nIinj (by omega) (by omega)).mp z)), ek, xhv_s]
    exact e'
end OPA
/-- names, blocks, things and ops stand -/
def Kp (P : Nat) (h h' : mv_H) : Prop := (∀ r, ¬ r = P + 9 → ¬ (23 ≤ r ∧ r ≤ 27) → mv_a h' r = mv_a h r) ∧ (∀ r, ¬ r = P + 10 → mv_b h' r = mv_b h r) ∧ (∀ o k, ¬ (o = 3 ∧ 7 ≤ k ∧ k ≤ 9) → ¬ o = 21 → ¬ o = 22 → ¬ (o = P ∧ k = 17) → ¬ (o = 2 ∧ 6 ≤ k ∧ k ≤ 10) → mv_i h' o k = mv_i h o k)
theorem Kp.a {P : Nat} {h h' : mv_H} (h99 : Kp P h h') : ∀ r, ¬ r = P + 9 → ¬ (23 ≤ r ∧ r ≤ 27) → mv_a h' r = mv_a h r := h99.1
theorem Kp.b {P : Nat} {h h' : mv_H} (h99 : Kp P h h') : ∀ r, ¬ r = P + 10 → mv_b h' r = mv_b h r := h99.2.1
theorem Kp.i {P : Nat} {h h' : mv_H} (h99 : Kp P h h') : ∀ o k, ¬ (o = 3 ∧ 7 ≤ k ∧ k ≤ 9) → ¬ o = 21 → ¬ o = 22 → ¬ (o = P ∧ k = 17) → ¬ (o = 2 ∧ 6 ≤ k ∧ k ≤ 10) → mv_i h' o k = mv_i h o k := h99.2.2
theorem Kp.tr {P : Nat} {h g f : mv_H} (a : Kp P h g) (b : Kp P g f) : Kp P h f :=
  ⟨fun r h1 h2 => (b.a r h1 h2).trans (a.a r h1 h2), fun r h1 => (b.b r h1).trans (a.b r h1), fun o k h1 h2 h3 h4 h5 => (b.i o k h1 h2 h3 h4 h5).trans (a.i o k h1 h2 h3 h4 h5)⟩
theorem Sm.kp {P : Nat} {h g : mv_H} (s : Sm h g) : Kp P h g := ⟨fun r _ _ => by rw [s.a], fun r _ => by rw [s.b], fun o k h1 h2 _ _ _ => s.i o k h1 h2⟩
/-- read on to token j at depth d, names and blocks as they were -/
def WQ (X : TX) (J P : Nat) (h h' : mv_H) (j d : Nat) : Prop := (TB X J h') ∧ (Kp P h h') ∧ (mv_i h' 3 7 = nI (j + 1)) ∧ (j ≤ J) ∧ (mv_i h' 3 8 = nI d) ∧ (d ≤ 60) ∧ (mv_i h' 3 9 < 0) ∧ (mv_i h' 3 9 = mv_i h 3 9) ∧ (mv_i h' 21 0 = mv_i h 21 0) ∧ (∃ z, mv_i h' P 17 = nI z ∧ z ≤ 32768)
theorem WQ.tb {X : TX} {J P : Nat} {h h' : mv_H} {j d : Nat} (h99 : WQ X J P h h' j d) : TB X J h' := h99.1
theorem WQ.kp {X : TX} {J P : Nat} {h h' : mv_H} {j d : Nat} (h99 : WQ X J P h h' j d) : Kp P h h' := h99.2.1
theorem WQ.at' {X : TX} {J P : Nat} {h h' : mv_H} {j d : Nat} (h99 : WQ X J P h h' j d) : mv_i h' 3 7 = nI (j + 1) := h99.2.2.1
theorem WQ.jJ {X : TX} {J P : Nat} {h h' : mv_H} {j d : Nat} (h99 : WQ X J P h h' j d) : j ≤ J := h99.2.2.2.1
theorem WQ.dp {X : TX} {J P : Nat} {h h' : mv_H} {j d : Nat} (h99 : WQ X J P h h' j d) : mv_i h' 3 8 = nI d := h99.2.2.2.2.1
theorem WQ.d2 {X : TX} {J P : Nat} {h h' : mv_H} {j d : Nat} (h99 : WQ X J P h h' j d) : d ≤ 60 := h99.2.2.2.2.2.1
theorem WQ.lt {X : TX} {J P : Nat} {h h' : mv_H} {j d : Nat} (h99 : WQ X J P h h' j d) : mv_i h' 3 9 < 0 := h99.2.2.2.2.2.2.1
theorem WQ.e9 {X : TX} {J P : Nat} {h h' : mv_H} {j d : Nat} (h99 : WQ X J P h h' j d) : mv_i h' 3 9 = mv_i h 3 9 := h99.2.2.2.2.2.2.2.1
theorem WQ.n {X : TX} {J P : Nat} {h h' : mv_H} {j d : Nat} (h99 : WQ X J P h h' j d) : mv_i h' 21 0 = mv_i h 21 0 := h99.2.2.2.2.2.2.2.2.1
theorem WQ.sz {X : TX} {J P : Nat} {h h' : mv_H} {j d : Nat} (h99 : WQ X J P h h' j d) : ∃ z, mv_i h' P 17 = nI z ∧ z ≤ 32768 := h99.2.2.2.2.2.2.2.2.2
theorem PT.wq {X : TX} {J P : Nat} (hpp : P = 32 ∨ P = 48) {h g : mv_H} {j d : Nat} (T : PT X J h g j d) (n : mv_i g 21 = mv_i h 21) (sz : ∃ z, mv_i h P 17 = nI z ∧ z ≤ 32768) : WQ X J P h g j d :=
  ⟨T.tb, T.sm.kp, T.at', T.jJ, T.dp, T.d2, T.lt, T.e9, by rw [n], by obtain ⟨z, e, hz⟩ := sz; exact ⟨z, by rw [T.sm.i P 17 (by omega) (by omega)]; exact e, hz⟩⟩
theorem WQ.si {X : TX} {J P : Nat} (hpp : P = 32 ∨ P = 48) {h g : mv_H} {j d : Nat} (Q : WQ X J P h g j d) {o k : Nat} (ho : o = 22 ∨ (o = 2 ∧ 6 ≤ k ∧ k ≤ 10)) (v : Int32) : WQ X J P h (mv_si g o k v) j d := by
  have e : ∀ a f, ¬ a = 22 → ¬ (a = 2 ∧ 6 ≤ f ∧ f ≤ 10) → mv_i (mv_si g o k v) a f = mv_i g a f := fun a f h1 h2 => mv_u_ne (mv_i g) _ (by omega)
  refine ⟨Q.tb.fr rfl rfl rfl, ⟨Q.kp.a, Q.kp.b, fun a f h1 h2 h3 h4 h5 => (e a f h3 h5).trans (Q.kp.i a f h1 h2 h3 h4 h5)⟩, (e 3 7 (by omega) (by omega)).trans Q.at', Q.jJ, (e 3 8 (by omega) (by omega)).trans Q.dp, Q.d2, by rw [e 3 9 (by omega) (by omega)]; exact Q.lt, (e 3 9 (by omega) (by omega)).trans Q.e9, (e 21 0 (by omega) (by omega)).trans Q.n, ?_⟩
  obtain ⟨z, ez, hz⟩ := Q.sz
  exact ⟨z, (e P 17 (by omega) (by omega)).trans ez, hz⟩
theorem WQ.pt {X : TX} {J P : Nat} {h g : mv_H} {j d : Nat} (Q : WQ X J P h g j d) : PT X J g g j d := ⟨Q.tb, Sm.rf, Q.at', Q.jJ, Q.dp, Q.d2, Q.lt, rfl, fun z => z⟩
theorem WQ.tr {X : TX} {J P : Nat} {h g f : mv_H} {j d j' d' : Nat} (Q : WQ X J P h g j d) (R : WQ X J P g f j' d') : WQ X J P h f j' d' :=
  ⟨R.tb, Q.kp.tr R.kp, R.at', R.jJ, R.dp, R.d2, R.lt, R.e9.trans Q.e9, R.n.trans Q.n, R.sz⟩
/-- emit -/
theorem emA {P : Nat} (hpp : P = 32 ∨ P = 48) (g : mv_H) (sz : ∃ z, mv_i g P 17 = nI z ∧ z ≤ 32768) (x : Int32) (y : Int64) : ∃ w h', f_Program_emit P g x y = some (w, h') ∧ w.toInt < 32768 ∧ (∃ z, mv_i h' P 17 = nI z ∧ z ≤ 32768) ∧ (∀ o f, ¬ (o = P ∧ f = 17) → mv_i h' o f = mv_i g o f) ∧ (∀ o, ¬ o = P + 9 → mv_a h' o = mv_a g o) ∧ (∀ o, ¬ o = P + 10 → mv_b h' o = mv_b g o) := by
  obtain ⟨z, e, hz⟩ := sz
  unfold f_Program_emit f_Program_emit_42
  rw [e]
  by_cases c : z = 32768
  · rw [if_pos (show (32768 : Int32) ≤ nI z from (nIle (a := 32768) (by omega) (by omega)).mpr (by omega))]
    refine ⟨_, g, rfl, ?_, ⟨z, e, hz⟩, fun _ _ _ => rfl, fun _ _ => rfl, fun _ _ => rfl⟩
    rw [show (1 : Int32) = nI 1 from rfl, nIsub (by omega) (by omega), nIi (by omega)]; omega
  · rw [if_neg (show ¬ (32768 : Int32) ≤ nI z from fun w => by have := (nIle (a := 32768) (by omega) (by omega)).mp w; omega), xvi_n (by omega) (by decide), cond_true, cln (by omega), xk_s]
    have e2 : mv_i (mv_sa g (P + 9) z x) P 17 = nI z := e
    rw [e2, xvi_n (by omega) (by decide), cond_true, cln (by omega), xk_s]
    have e3 : mv_i (mv_sb (mv_sa g (P + 9) z x) (P + 10) z y) P 17 = nI z := e
    rw [e3, nI1 (by omega), xk_s]
    have e4 : mv_i (mv_si (mv_sb (mv_sa g (P + 9) z x) (P + 10) z y) P 17 (nI (z + 1))) P 17 = nI (z + 1) := mv_u_same _ P 17 _
    refine ⟨_, _, rfl, ?_, ⟨z + 1, e4, by omega⟩, fun o f q => mv_u_ne (mv_i (mv_sb (mv_sa g (P + 9) z x) (P + 10) z y)) _ q, fun o q => funext fun i => mv_u_ne (mv_a g) _ (by omega), fun o q => funext fun i => mv_u_ne (mv_b (mv_sa g (P + 9) z x)) _ (by omega)⟩
    rw [e4, show (1 : Int32) = nI 1 from rfl, nIsub (by omega) (by omega), nIi (by omega)]; omega
/-- emit, on the way -/
theorem WQ.em {X : TX} {J P : Nat} (hpp : P = 32 ∨ P = 48) {h g : mv_H} {j d : Nat} (Q : WQ X J P h g j d) (x : Int32) (y : Int64) : ∃ w h', f_Program_emit P g x y = some (w, h') ∧ w.toInt < 32768 ∧ WQ X J P h h' j d ∧ mv_i h' 2 = mv_i g 2 ∧ mv_i h' 21 = mv_i g 21 := by
  obtain ⟨w, h', e, hw, sz, ei, ea, eb⟩ := emA hpp g Q.sz x y
  refine ⟨w, h', e, hw, ⟨Q.tb.fr (ea 4 (by omega)) (ea 5 (by omega)) (eb 6 (by omega)), ⟨fun r h1 h2 => (ea r h1).trans (Q.kp.a r h1 h2), fun r h1 => (eb r h1).trans (Q.kp.b r h1), fun o k h1 h2 h3 h4 h5 => (ei o k h4).trans (Q.kp.i o k h1 h2 h3 h4 h5)⟩, (ei 3 7 (by omega)).trans Q.at', Q.jJ, (ei 3 8 (by omega)).trans Q.dp, Q.d2, by rw [ei 3 9 (by omega)]; exact Q.lt, (ei 3 9 (by omega)).trans Q.e9, (ei 21 0 (by omega)).trans Q.n, sz⟩, ?_, ?_⟩
  · funext k; exact ei 2 k (by omega)
  · funext k; exact ei 21 k (by omega)
theorem emW {P : Nat} (hpp : P = 32 ∨ P = 48) {g : mv_H} (w : Wr g) (sz : ∃ z, mv_i g P 17 = nI z ∧ z ≤ 32768) (x : Int32) (y : Int64) : ∃ v h', f_Program_emit P g x y = some (v, h') ∧ Wr h' := by
  obtain ⟨v, h', e, -, -, ei, -, -⟩ := emA hpp g sz x y
  exact ⟨v, h', e, by unfold Wr; rw [ei 3 9 (by omega)]; exact w⟩
/-- an EXPR begins -/
def BX (g : mv_H) (v : Int32) : mv_H := mv_si (mv_si (mv_si (mv_si g 2 7 v) 22 8 0) 22 10 0) 2 6 2
theorem bx_e (g : mv_H) (v : Int32) : f_Weaver_beginExpr g v = some (BX g v) := rfl
theorem bx_W {g : mv_H} (w : Wr g) (v : Int32) : Wr (BX g v) := w
def BeQ (h' : mv_H) (gl : Nat) : Prop := (mv_i h' 2 6 = 2) ∧ (mv_i h' 2 7 = nI gl) ∧ (mv_i h' 22 8 = 0) ∧ (mv_i h' 22 10 = 0)
theorem BeQ.m {h' : mv_H} {gl : Nat} (h99 : BeQ h' gl) : mv_i h' 2 6 = 2 := h99.1
theorem BeQ.g {h' : mv_H} {gl : Nat} (h99 : BeQ h' gl) : mv_i h' 2 7 = nI gl := h99.2.1
theorem BeQ.a {h' : mv_H} {gl : Nat} (h99 : BeQ h' gl) : mv_i h' 22 8 = 0 := h99.2.2.1
theorem BeQ.b {h' : mv_H} {gl : Nat} (h99 : BeQ h' gl) : mv_i h' 22 10 = 0 := h99.2.2.2
theorem WQ.bx {X : TX} {J P : Nat} (hpp : P = 32 ∨ P = 48) {h g : mv_H} {j d : Nat} (Q : WQ X J P h g j d) (gl : Nat) : WQ X J P h (BX g (nI gl)) j d ∧ BeQ (BX g (nI gl)) gl :=
  ⟨(((Q.si hpp (Or.inr ⟨rfl, by omega, by omega⟩) _).si hpp (Or.inl rfl) _).si hpp (Or.inl rfl) _).si hpp (Or.inr ⟨rfl, by omega, by omega⟩) _, rfl, rfl, rfl, rfl⟩
section STA
variable {X : TX} {J P : Nat} {sy : List Nat → Nat} {h : mv_H} {j d : Nat} (W : WA X J P sy h j d)
theorem WA.wq (W : WA X J P sy h j d) : WQ X J P h h j d := W.pt.wq W.pp rfl W.sz
/-- trap NUMBER ; behind the word -/
theorem trp_A (W : WA X J P sy h j d) (hk : X.kd j = 208) : ∃ h', (xhb (f_Tokens_take h (208 : Int32)) fun v7 g6 => xhb (f_Tokens_take g6 (4 : Int32)) fun v9 g8 => xhb (f_Weaver_numberUpTo g8 v9 (1000000 : Int32)) fun v11 g10 => xhb (f_Program_emit P g10 (316 : Int32) ((v11).toInt64)) fun v13 g12 => xhb (f_Tokens_take g12 (59 : Int32)) fun v15 g14 => some g14) = some h' ∧
    (((X.kd (j + 1) = 4 ∧ X.kd (j + 2) = 59 ∧ 1 ≤ X.nu (j + 1) ∧ X.nu (j + 1) ≤ 1000000) ∧ WQ X J P h h' (j + 3) d ∧ mv_i h' 2 = mv_i h 2) ∨ (¬ (X.kd (j + 1) = 4 ∧ X.kd (j + 2) = 59 ∧ 1 ≤ X.nu (j + 1) ∧ X.nu (j + 1) ≤ 1000000) ∧ Fl h')) := by
  have hpp := W.pp
  have hJ := W.hJ
  rcases W.pt.tk hJ (k := 208) (by omega) (by omega) with ⟨q0, g1, e, T1, n1⟩ | ⟨q0, -⟩
  rotate_left
  · exact absurd hk q0
  rw [show f_Tokens_take h 208 = _ from e, xhb_s]
  rcases T1.tk hJ (k := 4) (by omega) (by omega) with ⟨q1, g3, e, T3, n3⟩ | ⟨q1, g3, e, w3, s3⟩
  rotate_left
  · obtain ⟨v, g', e', w', s'⟩ := nuW w3 (t := 0) (by omega) 1000000
    obtain ⟨v2, g2, e2, w2⟩ := emW hpp w' (by obtain ⟨z, ez, hz⟩ := W.sz; exact ⟨z, by rw [(s3.tr s').i P 17 (by omega) (by omega)]; exact ez, hz⟩) 316 v.toInt64
    rw [show f_Tokens_take g1 4 = _ from e, xhb_s, show f_Weaver_numberUpTo g3 0 1000000 = _ from e', xhb_s, e2, xhb_s, tkW w2 (by decide), xhb_s]
    exact ⟨g2, rfl, Or.inr ⟨fun z => q1 z.1, w2.fl⟩⟩
  rw [show f_Tokens_take g1 4 = _ from e, xhb_s]
  have hj1 := T1.jJ
  rcases T3.nu (i := j + 1) hj1 q1 (m := 1000000) (by omega) with ⟨u1, u2, e⟩ | ⟨u, g5, e, T5, n5⟩
  · rw [show f_Weaver_numberUpTo g3 (nI (j + 1 + 1)) 1000000 = _ from e, xhb_s]
    have Q3 : WQ X J P h g3 (j + 2) d := T3.wq hpp (by rw [n3, n1]) W.sz
    obtain ⟨w, g7, e7, -, Q7, m7, n7⟩ := Q3.em hpp 316 ((nI (X.nu (j + 1))).toInt64)
    rw [e7, xhb_s]
    rcases Q7.pt.tk hJ (k := 59) (by omega) (by omega) with ⟨q2, g9, e, T9, n9⟩ | ⟨q2, g9, e, w9, -⟩
    · rw [show f_Tokens_take g7 59 = _ from e, xhb_s]
      refine ⟨g9, rfl, Or.inl ⟨⟨q1, q2, u1, u2⟩, Q7.tr (T9.wq hpp n9 Q7.sz), ?_⟩⟩
      have e2 : mv_i g9 2 = mv_i g7 2 := funext fun k => T9.sm.i 2 k (by omega) (by omega)
      rw [e2, m7]
      exact funext fun k => T3.sm.i 2 k (by omega) (by omega)
    · rw [show f_Tokens_take g7 59 = _ from e, xhb_s]
      exact ⟨g9, rfl, Or.inr ⟨fun z => q2 z.2.1, w9.fl⟩⟩
  · rw [show f_Weaver_numberUpTo g3 (nI (j + 1 + 1)) 1000000 = _ from e, xhb_s]
    have Q5 : WQ X J P g5 g5 (j + 2) d := (T5.rb).wq hpp rfl (by obtain ⟨z, ez, hz⟩ := W.sz; exact ⟨z, by rw [T5.sm.i P 17 (by omega) (by omega)]; exact ez, hz⟩)
    obtain ⟨w, g7, e7, -, Q7, m7, n7⟩ := Q5.em hpp 316 ((0 : Int32).toInt64)
    rw [e7, xhb_s]
    rcases Q7.pt.tk hJ (k := 59) (by omega) (by omega) with ⟨q2, g9, e, T9, n9⟩ | ⟨q2, g9, e, w9, -⟩
    · rw [show f_Tokens_take g7 59 = _ from e, xhb_s]
      exact ⟨g9, rfl, Or.inr ⟨fun z => u z.2.2, Fl.n n5 (by rw [n9, n7])⟩⟩
    · rw [show f_Tokens_take g7 59 = _ from e, xhb_s]
      exact ⟨g9, rfl, Or.inr ⟨fun z => u z.2.2, w9.fl⟩⟩
end STA
section STB
variable {X : TX} {J P : Nat} {sy : List Nat → Nat} {h : mv_H} {j d : Nat} (W : WA X J P sy h j d)
/-- if -/
theorem bif_A (W : WA X J P sy h j d) {g : mv_H} {j' d' : Nat} (Q : WQ X J P h g j' d') (hk : X.kd j' = 209) (a0 : Int32) : ∃ h', f_Weaver_beginIf g a0 = some h' ∧ WQ X J P h h' (j' + 1) d' ∧ BeQ h' 4 ∧ mv_i h' 2 8 = nI (j' + 1) := by
  have hpp := W.pp
  rcases Q.pt.tk W.hJ (k := 209) (by omega) (by omega) with ⟨q0, g1, e, T1, n1⟩ | ⟨q0, -⟩
  rotate_left
  · exact absurd hk q0
  have Q1 : WQ X J P h g1 (j' + 1) d' := Q.tr (T1.wq hpp n1 Q.sz)
  have Q2 := (Q1.si hpp (o := 2) (k := 8) (Or.inr ⟨rfl, by omega, by omega⟩) (nI (j' + 1))).si hpp (o := 2) (k := 10) (Or.inr ⟨rfl, by omega, by omega⟩) a0
  obtain ⟨Q3, B3⟩ := Q2.bx hpp 4
  refine ⟨_, ?_, Q3, B3, rfl⟩
  unfold f_Weaver_beginIf
  rw [show f_Tokens_take g 209 = _ from e, xhb_s, xk_s, xk_s, bx_e, xhv_s]
  rfl
/-- let NAME = -/
theorem let_A (W : WA X J P sy h j d) (hk : X.kd j = 207) {l : Nat} (el : mv_i h 13 9 = nI l) (hl : l ≤ 64) : ∃ h', f_Weaver_beginLet h = some h' ∧
    (((X.kd (j + 1) = 3 ∧ X.kd (j + 2) = 61) ∧ (kOf h sy (X.nm (j + 1)) = 0 ∧ l < 64) ∧ WQ X J P h h' (j + 3) d ∧ BeQ h' 0 ∧ mv_i h' 2 8 = nI (j + 3) ∧ mv_i h' 2 9 = nI (sy (X.nm (j + 1)))) ∨
     (¬ ((X.kd (j + 1) = 3 ∧ X.kd (j + 2) = 61) ∧ (kOf h sy (X.nm (j + 1)) = 0 ∧ l < 64)) ∧ Fl h')) := by
  have hpp := W.pp
  have hJ := W.hJ
  have hJb := W.pt.tb.jb
  -- behind =, wrong: v5 the name's token, its symbol s
  have wt : ∀ (g : mv_H) (t : Nat) (s lt : Nat) (v7 : Int32), Wr g → t < 32770 → f_Weaver_symbolOf (mv_si g 2 8 v7) (nI t) = some (nI s, mv_si g 2 8 v7) → s < 16448 → lt < 128 → (∀ k : mv_H, mv_a k 8 = mv_a g 8 → mv_a k 9 = mv_a g 9 → f_Symbols_letter k (nI s) = some (nI lt, k)) → ∃ h', (xk (mv_si g 2 8 v7) fun g8 => xhb (f_Weaver_symbolOf g8 (nI t)) fun v10 g9 => xk (mv_si g9 2 9 v10) fun g11 => xhb (f_Names_kindOf g11 (mv_i g11 2 9)) fun v13 g12 => if v13 = (0 : Int32) then (if (mv_i g12 13 9) = (64 : Int32) then (xhv (f_Weaver_tell g12 (nI t) (6 : Int32)) fun g14 => xk (mv_si g14 2 9 (-1 : Int32)) fun g15 => f_Weaver_beginLet_94  g15) else (f_Weaver_beginLet_94  g12)) else (xhv (f_Weaver_tell g12 (nI t) (2 : Int32)) fun g16 => xk (mv_si g16 2 9 (-1 : Int32)) fun g17 => f_Weaver_beginLet_94  g17)) = some h' ∧ Fl h' := fun g t s lt v7 w ht es hs hlt hle => by
    have w1 : Wr (mv_si (mv_si g 2 8 v7) 2 9 (nI s)) := w
    have ek : ∃ v, f_Names_kindOf (mv_si (mv_si g 2 8 v7) 2 9 (nI s)) (mv_i (mv_si (mv_si g 2 8 v7) 2 9 (nI s)) 2 9) = some (v, mv_si (mv_si g 2 8 v7) 2 9 (nI s)) := by
      have e29 : mv_i (mv_si (mv_si g 2 8 v7) 2 9 (nI s)) 2 9 = nI s := rfl
      unfold f_Names_kindOf
      rw [e29, hle (mv_si (mv_si g 2 8 v7) 2 9 (nI s)) rfl rfl, xhb_s, xvi_n hlt (by decide), cond_true, xvi_n hs (by decide), cond_true]
      split
      · exact ⟨_, rfl⟩
      · exact ⟨_, rfl⟩
    obtain ⟨v, ek⟩ := ek
    have tl : ∀ x : Int32, ¬ x = 0 → ∃ h', (xhv (f_Weaver_tell (mv_si (mv_si g 2 8 v7) 2 9 (nI s)) (nI t) x) fun g14 => xk (mv_si g14 2 9 (-1 : Int32)) fun g15 => f_Weaver_beginLet_94  g15) = some h' ∧ Fl h' := fun x hx => by
      obtain ⟨k, e, n, -, q⟩ := wtl (mv_si (mv_si g 2 8 v7) 2 9 (nI s)) ht hx
      rw [e, xhv_s, xk_s]
      unfold f_Weaver_beginLet_94
      rw [bx_e, xhv_s]
      exact ⟨_, rfl, Or.inr n⟩
    rw [xk_s, es, xhb_s, xk_s, ek, xhb_s]
    split
    · split
      · exact tl 6 (by decide)
      · unfold f_Weaver_beginLet_94
        rw [bx_e, xhv_s]
        exact ⟨_, rfl, (bx_W w1 0).fl⟩
    · exact tl 2 (by decide)
  unfold f_Weaver_beginLet
  rcases W.pt.tk hJ (k := 207) (by omega) (by omega) with ⟨q0, g1, e, T1, n1⟩ | ⟨q0, -⟩
  rotate_left
  · exact absurd hk q0
  rw [show f_Tokens_take h 207 = _ from e, xhb_s]
  rcases T1.tk hJ (k := 3) (by omega) (by omega) with ⟨q1, g3, e, T3, n3⟩ | ⟨q1, g3, e, w3, s3⟩
  rotate_left
  · rw [show f_Tokens_take g1 3 = _ from e, xhb_s, tkW w3 (by decide), xhb_s]
    have S3 := W.S.sm s3
    obtain ⟨lt, h1, h2⟩ := S3.l0
    obtain ⟨h', e', F⟩ := wt g3 0 0 lt 0 w3 (by omega) (by
      unfold f_Weaver_symbolOf
      rw [xvi_n (by omega) (by decide), cond_true, cln (by omega)]
      have e6 : mv_b (mv_si g3 2 8 0) 6 0 = 0 := S3.z6
      rw [e6]; rfl) (by omega) h1 h2
    exact ⟨h', e', Or.inr ⟨fun z => q1 z.1.1, F⟩⟩
  rw [show f_Tokens_take g1 3 = _ from e, xhb_s]
  have hj1 := T1.jJ
  rcases T3.tk hJ (k := 61) (by omega) (by omega) with ⟨q2, g5, e, T5, n5⟩ | ⟨q2, g5, e, w5, s5⟩
  rotate_left
  · rw [show f_Tokens_take g3 61 = _ from e, xhb_s]
    have S5 := W.S.sm s5
    obtain ⟨b1, b2, b3⟩ := S5.t (j + 1) hj1 q1
    obtain ⟨h', e', F⟩ := wt g5 (j + 1 + 1) (sy (X.nm (j + 1))) (ltr (X.nm (j + 1))) 0 w5 (by omega) ((S5.fr (g := mv_si g5 2 8 0) rfl rfl rfl rfl rfl).so (i := j + 1) hj1 hJb q1) (by omega) (ltr_b _) b3
    exact ⟨h', e', Or.inr ⟨fun z => q2 z.1.2, F⟩⟩
  rw [show f_Tokens_take g3 61 = _ from e, xhb_s, xk_s]
  have Q5 : WQ X J P h g5 (j + 3) d := T5.wq hpp (by rw [n5, n3, n1]) W.sz
  have S5 := W.S.sm T5.sm
  obtain ⟨b1, b2, b3⟩ := S5.t (j + 1) hj1 q1
  rw [show f_Weaver_symbolOf (mv_si g5 2 8 (nI (j + 1 + 1 + 1))) (nI (j + 1 + 1)) = _ from (S5.fr (g := mv_si g5 2 8 (nI (j + 1 + 1 + 1))) rfl rfl rfl rfl rfl).so (i := j + 1) hj1 hJb q1, xhb_s, xk_s]
  have Q7 := (Q5.si hpp (o := 2) (k := 8) (Or.inr ⟨rfl, by omega, by omega⟩) (nI (j + 1 + 1 + 1))).si hpp (o := 2) (k := 9) (Or.inr ⟨rfl, by omega, by omega⟩) (nI (sy (X.nm (j + 1))))
  have ek := (S5.fr (g := mv_si (mv_si g5 2 8 (nI (j + 1 + 1 + 1))) 2 9 (nI (sy (X.nm (j + 1))))) rfl rfl rfl rfl rfl).ko (i := j + 1) hj1 hJb q1
  have ek2 : kOf (mv_si (mv_si g5 2 8 (nI (j + 1 + 1 + 1))) 2 9 (nI (sy (X.nm (j + 1))))) sy (X.nm (j + 1)) = kOf h sy (X.nm (j + 1)) := (show kOf (mv_si (mv_si g5 2 8 (nI (j + 1 + 1 + 1))) 2 9 (nI (sy (X.nm (j + 1))))) sy (X.nm (j + 1)) = kOf g5 sy (X.nm (j + 1)) from rfl).trans (kOf_sm T5.sm _ _)
  have e29 : mv_i (mv_si (mv_si g5 2 8 (nI (j + 1 + 1 + 1))) 2 9 (nI (sy (X.nm (j + 1))))) 2 9 = nI (sy (X.nm (j + 1))) := rfl
  have e139 : mv_i (mv_si (mv_si g5 2 8 (nI (j + 1 + 1 + 1))) 2 9 (nI (sy (X.nm (j + 1))))) 13 9 = nI l := by
    show mv_i g5 13 9 = nI l
    rw [T5.sm.i 13 9 (by omega) (by omega)]; exact el
  rw [e29, ek, xhb_s, ek2, e139]
  have tl : ∀ x : Int32, ¬ x = 0 → ∃ h', (xhv (f_Weaver_tell (mv_si (mv_si g5 2 8 (nI (j + 1 + 1 + 1))) 2 9 (nI (sy (X.nm (j + 1))))) (nI (j + 1 + 1)) x) fun g14 => xk (mv_si g14 2 9 (-1 : Int32)) fun g15 => f_Weaver_beginLet_94  g15) = some h' ∧ Fl h' := fun x hx => by
    obtain ⟨k, e, n, -, q⟩ := wtl (mv_si (mv_si g5 2 8 (nI (j + 1 + 1 + 1))) 2 9 (nI (sy (X.nm (j + 1))))) (t := j + 1 + 1) (by omega) hx
    rw [e, xhv_s, xk_s]
    unfold f_Weaver_beginLet_94
    rw [bx_e, xhv_s]
    exact ⟨_, rfl, Or.inr n⟩
  by_cases c1 : kOf h sy (X.nm (j + 1)) = 0
  · rw [if_pos c1]
    by_cases c2 : l = 64
    · rw [if_pos (show nI l = 64 by rw [c2]; rfl)]
      obtain ⟨h', e', F⟩ := tl 6 (by decide)
      exact ⟨h', e', Or.inr ⟨fun z => by have := z.2.2; omega, F⟩⟩
    · rw [if_neg (show ¬ nI l = 64 from fun z => c2 ((nIinj (b := 64) (by omega) (by omega)).mp z))]
      obtain ⟨Q9, B9⟩ := Q7.bx hpp 0
      refine ⟨_, ?_, Or.inl ⟨⟨q1, q2⟩, ⟨c1, by omega⟩, Q9, B9, rfl, rfl⟩⟩
      unfold f_Weaver_beginLet_94
      rw [bx_e, xhv_s]
      rfl
  · rw [if_neg c1]
    obtain ⟨h', e', F⟩ := tl 2 (by decide)
    exact ⟨h', e', Or.inr ⟨fun z => c1 z.2.1, F⟩⟩
end STB
section ASG
variable {X : TX} {J P : Nat} (hJ : X.kd J = 1 ∨ X.kd J = 2)
theorem as77_0 (hJ : X.kd J = 1 ∨ X.kd J = 2) {k : mv_H} {j d : Nat} (T : PT X J k k j d) : (X.kd j = 61 ∧ ∃ g1, PT X J k g1 (j + 1) d ∧ mv_i g1 21 = mv_i k 21 ∧ f_Weaver_beginAssignment_77 0 k = some (BX (mv_si g1 2 8 (nI (j + 1))) 2)) ∨ (¬ X.kd j = 61 ∧ ∃ h', f_Weaver_beginAssignment_77 0 k = some h' ∧ Wr h') := by
  unfold f_Weaver_beginAssignment_77
  rw [if_pos rfl]
  rcases T.tk hJ (k := 61) (by omega) (by omega) with ⟨q, g1, e, T1, n1⟩ | ⟨q, g1, e, w1, -⟩
  · refine Or.inl ⟨q, g1, T1, n1, ?_⟩
    rw [show f_Tokens_take k 61 = _ from e, xhb_s, xk_s, bx_e, xhv_s]
  · refine Or.inr ⟨q, BX (mv_si g1 2 8 0) 2, ?_, bx_W (g := mv_si g1 2 8 0) w1 2⟩
    rw [show f_Tokens_take k 61 = _ from e, xhb_s, xk_s, bx_e, xhv_s]
theorem as77_1 (hJ : X.kd J = 1 ∨ X.kd J = 2) {k : mv_H} {j d : Nat} (T : PT X J k k j d) : ((X.kd j = 91 ∧ d < 60) ∧ ∃ g1, PT X J k g1 (j + 1) (d + 1) ∧ mv_i g1 21 = mv_i k 21 ∧ f_Weaver_beginAssignment_77 1 k = some (BX g1 1)) ∨ (¬ (X.kd j = 91 ∧ d < 60) ∧ ∃ h', f_Weaver_beginAssignment_77 1 k = some h' ∧ Wr h') := by
  unfold f_Weaver_beginAssignment_77
  rw [if_neg (by decide)]
  rcases T.op hJ (k := 91) (by omega) (by omega) with ⟨q, g1, e, T1, n1⟩ | ⟨q, g1, e, w1, -⟩
  · refine Or.inl ⟨q, g1, T1, n1, ?_⟩
    rw [show f_Tokens_open k 91 = _ from e, xhb_s, bx_e, xhv_s]
  · refine Or.inr ⟨q, BX g1 1, ?_, bx_W w1 1⟩
    rw [show f_Tokens_open k 91 = _ from e, xhb_s, bx_e, xhv_s]
end ASG
section ASH
variable {X : TX} {J P : Nat} {sy : List Nat → Nat} {h : mv_H} {j d : Nat} (W : WA X J P sy h j d)
/-- NAME = or NAME [ -/
theorem asg_A (W : WA X J P sy h j d) (hk : X.kd j = 3) : ∃ h', f_Weaver_beginAssignment h = some h' ∧
    ((X.kd (j + 1) = 91 ∧ (kOf h sy (X.nm j) = 2 ∧ d < 60) ∧ WQ X J P h h' (j + 2) (d + 1) ∧ BeQ h' 1 ∧ mv_i h' 2 9 = mv_a h 15 (sy (X.nm j))) ∨
     (¬ X.kd (j + 1) = 91 ∧ (kOf h sy (X.nm j) = 1 ∧ X.kd (j + 1) = 61) ∧ WQ X J P h h' (j + 2) d ∧ BeQ h' 2 ∧ mv_i h' 2 8 = nI (j + 2) ∧ mv_i h' 2 9 = mv_a h 15 (sy (X.nm j))) ∨
     ((X.kd (j + 1) = 91 → ¬ (kOf h sy (X.nm j) = 2 ∧ d < 60)) ∧ (¬ X.kd (j + 1) = 91 → ¬ (kOf h sy (X.nm j) = 1 ∧ X.kd (j + 1) = 61)) ∧ Fl h')) := by
  have hpp := W.pp
  have hJ := W.hJ
  have hJb := W.pt.tb.jb
  have hjJ := W.pt.jJ
  unfold f_Weaver_beginAssignment
  rcases W.pt.tk hJ (k := 3) (by omega) (by omega) with ⟨q0, g1, e, T1, n1⟩ | ⟨q0, -⟩
  rotate_left
  · exact absurd hk q0
  have S1 := W.S.sm T1.sm
  have hkd := (T1.tb.k (j + 1) T1.jJ).2
  obtain ⟨-, b2, -⟩ := S1.t j hjJ hk
  rw [show f_Tokens_take h 3 = _ from e, xhb_s, S1.so hjJ hJb hk, xhb_s, T1.kd, xhb_s]
  have Q1 : WQ X J P h g1 (j + 1) d := T1.wq hpp n1 W.sz
  obtain ⟨k, ek⟩ : ∃ k, k = mv_si g1 2 9 (mv_a h 15 (sy (X.nm j))) := ⟨_, rfl⟩
  have Qk : WQ X J P h k (j + 1) d := by rw [ek]; exact Q1.si hpp (Or.inr ⟨rfl, by omega, by omega⟩) _
  have Sk : SyQ X J sy k := by rw [ek]; exact S1.fr rfl rfl rfl rfl rfl
  have kk : kOf k sy (X.nm j) = kOf h sy (X.nm j) := by rw [ek]; exact (show kOf (mv_si g1 2 9 (mv_a h 15 (sy (X.nm j)))) sy (X.nm j) = kOf g1 sy (X.nm j) from rfl).trans (kOf_sm T1.sm _ _)
  have k29 : mv_i k 2 9 = mv_a h 15 (sy (X.nm j)) := by rw [ek]; rfl
  have e32 : ∀ y0 : Int32, f_Weaver_beginAssignment_32 (nI (j + 1)) (nI (sy (X.nm j))) y0 g1 = if y0 = (0 : Int32) then (f_Weaver_beginAssignment_63 (nI (j + 1)) y0 (1 : Int32) (kOf h sy (X.nm j)) k) else (f_Weaver_beginAssignment_63 (nI (j + 1)) y0 (2 : Int32) (kOf h sy (X.nm j)) k) := fun y0 => by
    unfold f_Weaver_beginAssignment_32
    rw [xvi_n (by omega) (by decide), cond_true, xk_s, cln (by omega), T1.sm.a, ← ek, Sk.ko hjJ hJb hk, xhb_s, kk]
  -- told: the rest
  have bad : ∀ x3 : Int32, (x3 = 0 ∨ x3 = 1) → ∃ h', (xhv (f_Weaver_tell k (nI (j + 1)) (2 : Int32)) fun g8 => xk (mv_si g8 2 9 (-1 : Int32)) fun g9 => f_Weaver_beginAssignment_77 x3 g9) = some h' ∧ Fl h' := fun x3 hx => by
    obtain ⟨k2, e2, T2, n2⟩ := Qk.pt.tl (t := j + 1) (by omega) (x := 2) (by decide)
    have T3 : PT X J (mv_si k2 2 9 (-1)) (mv_si k2 2 9 (-1)) (j + 1) d := T2.of rfl rfl rfl rfl rfl rfl
    rw [e2, xhv_s, xk_s]
    rcases hx with hx | hx
    · rw [hx]
      rcases as77_0 hJ T3 with ⟨-, g2, T4, n4, e4⟩ | ⟨-, h', e4, w4⟩
      · rw [e4]
        exact ⟨_, rfl, Fl.n (g := k2) n2 (show mv_i g2 21 = mv_i k2 21 from n4)⟩
      · exact ⟨h', e4, w4.fl⟩
    · rw [hx]
      rcases as77_1 hJ T3 with ⟨-, g2, T4, n4, e4⟩ | ⟨-, h', e4, w4⟩
      · rw [e4]
        exact ⟨_, rfl, Fl.n (g := k2) n2 (show mv_i g2 21 = mv_i k2 21 from n4)⟩
      · exact ⟨h', e4, w4.fl⟩
  by_cases c : X.kd (j + 1) = 91
  · rw [if_pos (show nI (X.kd (j + 1)) = 91 by rw [c]; rfl), e32, if_neg (by decide)]
    unfold f_Weaver_beginAssignment_63
    by_cases c1 : kOf h sy (X.nm j) = 2
    · rw [if_pos c1]
      rcases as77_1 hJ Qk.pt with ⟨q, g2, T4, n4, e4⟩ | ⟨q, h', e4, w4⟩
      · rw [e4]
        obtain ⟨Q5, B5⟩ := (Qk.tr (T4.wq hpp n4 Qk.sz)).bx hpp 1
        refine ⟨_, rfl, Or.inl ⟨c, ⟨c1, q.2⟩, Q5, B5, ?_⟩⟩
        show mv_i g2 2 9 = _
        rw [T4.sm.i 2 9 (by omega) (by omega), k29]
      · exact ⟨h', e4, Or.inr (Or.inr ⟨fun _ z => q ⟨c, z.2⟩, fun z => absurd c z, w4.fl⟩)⟩
    · rw [if_neg c1]
      obtain ⟨h', e', F⟩ := bad 1 (Or.inr rfl)
      exact ⟨h', e', Or.inr (Or.inr ⟨fun _ z => c1 z.1, fun z => absurd c z, F⟩)⟩
  · rw [if_neg (show ¬ nI (X.kd (j + 1)) = 91 from fun z => c ((nIinj (b := 91) (by omega) (by omega)).mp z)), e32, if_pos rfl]
    unfold f_Weaver_beginAssignment_63
    by_cases c1 : kOf h sy (X.nm j) = 1
    · rw [if_pos c1]
      rcases as77_0 hJ Qk.pt with ⟨q, g2, T4, n4, e4⟩ | ⟨q, h', e4, w4⟩
      · rw [e4]
        obtain ⟨Q5, B5⟩ := ((Qk.tr (T4.wq hpp n4 Qk.sz)).si hpp (o := 2) (k := 8) (Or.inr ⟨rfl, by omega, by omega⟩) (nI (j + 1 + 1))).bx hpp 2
        refine ⟨_, rfl, Or.inr (Or.inl ⟨c, ⟨c1, q⟩, Q5, B5, rfl, ?_⟩)⟩
        show mv_i g2 2 9 = _
        rw [T4.sm.i 2 9 (by omega) (by omega), k29]
      · exact ⟨h', e4, Or.inr (Or.inr ⟨fun z => absurd z c, fun _ z => q z.2, w4.fl⟩)⟩
    · rw [if_neg c1]
      obtain ⟨h', e', F⟩ := bad 0 (Or.inl rfl)
      exact ⟨h', e', Or.inr (Or.inr ⟨fun z => absurd z c, fun _ z => c1 z.1, F⟩)⟩
end ASH
theorem fg_lp {n : Nat} (hn : n ≤ 64) (s : Nat → Nat) (x1 : Int32) : ∀ (u x : Nat) (g : mv_H), x ≤ n → n < u + x → mv_i g 13 7 = nI n → (∀ i, i < n → mv_a g 19 i = nI (s i) ∧ s i < 16448) → ∃ h', f_Names_forget_2 u x1 (nI x) g = some h' ∧ (∀ o k, ¬ (o = 13 ∧ k = 7) → mv_i h' o k = mv_i g o k) ∧ mv_i h' 13 7 = x1 ∧ (∀ r, ¬ r = 14 → mv_a h' r = mv_a g r) ∧ (∀ y, ((∃ i, x ≤ i ∧ i < n ∧ s i = y) → mv_a h' 14 y = 0) ∧ ((¬ ∃ i, x ≤ i ∧ i < n ∧ s i = y) → mv_a h' 14 y = mv_a g 14 y)) ∧ mv_b h' = mv_b g := by
  intro u
  induction u with
  | zero => intro x g h1 h2; omega
  | succ u ih =>
    intro x g hx hu e7 hs
    show ∃ h', fF_Names_forget_2 (f_Names_forget_2 u) x1 (nI x) g = some h' ∧ _
    unfold fF_Names_forget_2
    by_cases c : x = n
    · rw [if_pos (show mv_i g 13 7 ≤ nI x by rw [e7, c]; exact Int32.le_refl _), xk_s]
      refine ⟨_, rfl, fun o k q => mv_u_ne (mv_i g) _ q, rfl, fun _ _ => rfl, fun y => ⟨fun ⟨i, a1, a2, _⟩ => by omega, fun _ => rfl⟩, rfl⟩
    · rw [if_neg (show ¬ mv_i g 13 7 ≤ nI x from fun z => by rw [e7] at z; have := (nIle (by omega) (by omega)).mp z; omega)]
      obtain ⟨es, hsx⟩ := hs x (by omega)
      rw [xvi_n (show x < 64 by omega) (by decide), cond_true, cln (by omega), es, xvi_n hsx (by decide), cond_true, cln (by omega), xk_s, nI1 (by omega)]
      obtain ⟨h', e', r1, r2, r3, r4, r5⟩ := ih (x + 1) (mv_sa g 14 (s x) 0) (by omega) (by omega) e7 (fun i hi => by
        obtain ⟨a1, a2⟩ := hs i hi
        refine ⟨?_, a2⟩
        rw [← a1]; ((simp only [rw_ii, rw_aa, rw_bb, rw_ia, rw_ib, rw_ai, rw_ab, rw_bi, rw_ba, true_and, and_true, if_true]; repeat' split) <;> first | rfl | (exfalso; omega)))
      refine ⟨h', e', r1, r2, fun r hr => ?_, fun y => ?_, r5⟩
      · rw [r3 r hr]; funext k; ((simp only [rw_ii, rw_aa, rw_bb, rw_ia, rw_ib, rw_ai, rw_ab, rw_bi, rw_ba, true_and, and_true, if_true]; repeat' split) <;> first | rfl | (exfalso; omega))
      · have ey : mv_a (mv_sa g 14 (s x) 0) 14 y = if y = s x then 0 else mv_a g 14 y := by ((simp only [rw_ii, rw_aa, rw_bb, rw_ia, rw_ib, rw_ai, rw_ab, rw_bi, rw_ba, true_and, and_true, if_true]; repeat' split) <;> first | rfl | (exfalso; omega))
        obtain ⟨p1, p2⟩ := r4 y
        by_cases ce : ∃ i, x + 1 ≤ i ∧ i < n ∧ s i = y
        · refine ⟨fun _ => p1 ce, fun z => absurd ?_ z⟩
          obtain ⟨i, a1, a2, a3⟩ := ce
          exact ⟨i, by omega, a2, a3⟩
        · rw [p2 ce, ey]
          by_cases cy : y = s x
          · rw [if_pos cy]
            exact ⟨fun _ => rfl, fun z => absurd ⟨x, Nat.le_refl _, by omega, cy.symm⟩ z⟩
          · rw [if_neg cy]
            refine ⟨fun ⟨i, a1, a2, a3⟩ => ?_, fun _ => rfl⟩
            by_cases ci : i = x
            · rw [ci] at a3; exact absurd a3.symm cy
            · exact absurd ⟨i, by omega, a2, a3⟩ ce
/-- forget -/
def FgQ (g h' : mv_H) (kk n : Nat) (s : Nat → Nat) : Prop := (∀ o k, ¬ (o = 13 ∧ k = 7) → mv_i h' o k = mv_i g o k) ∧ (mv_i h' 13 7 = nI kk) ∧ (∀ r, ¬ r = 14 → mv_a h' r = mv_a g r) ∧ (∀ y, (∃ i, kk ≤ i ∧ i < n ∧ s i = y) → mv_a h' 14 y = 0) ∧ (∀ y, (¬ ∃ i, kk ≤ i ∧ i < n ∧ s i = y) → mv_a h' 14 y = mv_a g 14 y) ∧ (mv_b h' = mv_b g)
theorem FgQ.i {g h' : mv_H} {kk n : Nat} {s : Nat → Nat} (h99 : FgQ g h' kk n s) : ∀ o k, ¬ (o = 13 ∧ k = 7) → mv_i h' o k = mv_i g o k := h99.1
theorem FgQ.sc {g h' : mv_H} {kk n : Nat} {s : Nat → Nat} (h99 : FgQ g h' kk n s) : mv_i h' 13 7 = nI kk := h99.2.1
theorem FgQ.a {g h' : mv_H} {kk n : Nat} {s : Nat → Nat} (h99 : FgQ g h' kk n s) : ∀ r, ¬ r = 14 → mv_a h' r = mv_a g r := h99.2.2.1
theorem FgQ.z {g h' : mv_H} {kk n : Nat} {s : Nat → Nat} (h99 : FgQ g h' kk n s) : ∀ y, (∃ i, kk ≤ i ∧ i < n ∧ s i = y) → mv_a h' 14 y = 0 := h99.2.2.2.1
theorem FgQ.o {g h' : mv_H} {kk n : Nat} {s : Nat → Nat} (h99 : FgQ g h' kk n s) : ∀ y, (¬ ∃ i, kk ≤ i ∧ i < n ∧ s i = y) → mv_a h' 14 y = mv_a g 14 y := h99.2.2.2.2.1
theorem FgQ.b {g h' : mv_H} {kk n : Nat} {s : Nat → Nat} (h99 : FgQ g h' kk n s) : mv_b h' = mv_b g := h99.2.2.2.2.2
theorem fg_e {n kk : Nat} (hn : n ≤ 64) (hk : kk ≤ n) (s : Nat → Nat) (g : mv_H) (e7 : mv_i g 13 7 = nI n) (hs : ∀ i, i < n → mv_a g 19 i = nI (s i) ∧ s i < 16448) : ∃ h', f_Names_forget g (nI kk) = some h' ∧ FgQ g h' kk n s := by
  obtain ⟨h', e', r1, r2, r3, r4, r5⟩ := fg_lp hn s (nI kk) 200000 kk g hk (by omega) e7 hs
  exact ⟨h', e', r1, r2, r3, fun y => (r4 y).1, fun y => (r4 y).2, r5⟩
/-- an op is left -/
def LvQ (g h' : mv_H) (n : Nat) (s : Nat → Nat) : Prop := (∀ o k, ¬ (o = 13 ∧ (k = 7 ∨ k = 9)) → mv_i h' o k = mv_i g o k) ∧ (mv_i h' 13 7 = 0) ∧ (mv_i h' 13 9 = 0) ∧ (∀ r, ¬ r = 14 → ¬ r = 17 → mv_a h' r = mv_a g r) ∧ (∀ c, c < 128 → mv_a h' 17 c = 0 ∧ mv_b h' 18 c = 0) ∧ (∀ y, (∃ i, i < n ∧ s i = y) → mv_a h' 14 y = 0) ∧ (∀ y, (¬ ∃ i, i < n ∧ s i = y) → mv_a h' 14 y = mv_a g 14 y) ∧ (∀ r, ¬ r = 18 → mv_b h' r = mv_b g r)
theorem LvQ.i {g h' : mv_H} {n : Nat} {s : Nat → Nat} (h99 : LvQ g h' n s) : ∀ o k, ¬ (o = 13 ∧ (k = 7 ∨ k = 9)) → mv_i h' o k = mv_i g o k := h99.1
theorem LvQ.sc {g h' : mv_H} {n : Nat} {s : Nat → Nat} (h99 : LvQ g h' n s) : mv_i h' 13 7 = 0 := h99.2.1
theorem LvQ.le {g h' : mv_H} {n : Nat} {s : Nat → Nat} (h99 : LvQ g h' n s) : mv_i h' 13 9 = 0 := h99.2.2.1
theorem LvQ.a {g h' : mv_H} {n : Nat} {s : Nat → Nat} (h99 : LvQ g h' n s) : ∀ r, ¬ r = 14 → ¬ r = 17 → mv_a h' r = mv_a g r := h99.2.2.2.1
theorem LvQ.l {g h' : mv_H} {n : Nat} {s : Nat → Nat} (h99 : LvQ g h' n s) : ∀ c, c < 128 → mv_a h' 17 c = 0 ∧ mv_b h' 18 c = 0 := h99.2.2.2.2.1
theorem LvQ.z {g h' : mv_H} {n : Nat} {s : Nat → Nat} (h99 : LvQ g h' n s) : ∀ y, (∃ i, i < n ∧ s i = y) → mv_a h' 14 y = 0 := h99.2.2.2.2.2.1
theorem LvQ.o {g h' : mv_H} {n : Nat} {s : Nat → Nat} (h99 : LvQ g h' n s) : ∀ y, (¬ ∃ i, i < n ∧ s i = y) → mv_a h' 14 y = mv_a g 14 y := h99.2.2.2.2.2.2.1
theorem LvQ.b {g h' : mv_H} {n : Nat} {s : Nat → Nat} (h99 : LvQ g h' n s) : ∀ r, ¬ r = 18 → mv_b h' r = mv_b g r := h99.2.2.2.2.2.2.2
theorem lv_e {n : Nat} (hn : n ≤ 64) (s : Nat → Nat) (g : mv_H) (e7 : mv_i g 13 7 = nI n) (hs : ∀ i, i < n → mv_a g 19 i = nI (s i) ∧ s i < 16448) : ∃ h', f_Names_leaveOp g = some h' ∧ LvQ g h' n s := by
  have fa : ∀ r k, mv_a (mv_fl (mv_fi g 17 0 128 0) 18 0 128 0) r k = if r = 17 then (if k < 128 then 0 else mv_a g r k) else mv_a g r k := fun r k => by
    show (if r = 17 then (fun j => if 0 ≤ j ∧ j < 128 then (0 : Int32) else mv_a g 17 j) else mv_a g r) k = _
    by_cases c : r = 17
    · rw [if_pos c, if_pos c, c]
      show (if 0 ≤ k ∧ k < 128 then (0 : Int32) else mv_a g 17 k) = _
      by_cases c2 : k < 128
      · rw [if_pos ⟨Nat.zero_le _, c2⟩, if_pos c2]
      · rw [if_neg (fun z => c2 z.2), if_neg c2]
    · rw [if_neg c, if_neg c]
  have fb : ∀ r k, mv_b (mv_fl (mv_fi g 17 0 128 0) 18 0 128 0) r k = if r = 18 then (if k < 128 then 0 else mv_b g r k) else mv_b g r k := fun r k => by
    show (if r = 18 then (fun j => if 0 ≤ j ∧ j < 128 then (0 : Int64) else mv_b g 18 j) else mv_b g r) k = _
    by_cases c : r = 18
    · rw [if_pos c, if_pos c, c]
      show (if 0 ≤ k ∧ k < 128 then (0 : Int64) else mv_b g 18 k) = _
      by_cases c2 : k < 128
      · rw [if_pos ⟨Nat.zero_le _, c2⟩, if_pos c2]
      · rw [if_neg (fun z => c2 z.2), if_neg c2]
    · rw [if_neg c, if_neg c]
  obtain ⟨h', e', Q⟩ := fg_e hn (Nat.zero_le n) s (mv_fl (mv_fi g 17 0 128 0) 18 0 128 0) e7 (fun i hi => by rw [fa, if_neg (by omega)]; exact hs i hi)
  refine ⟨mv_si h' 13 9 0, ?_, ?_⟩
  · have e'' : f_Names_forget (mv_fl (mv_fi g 17 0 128 0) 18 0 128 0) 0 = some h' := e'
    unfold f_Names_leaveOp
    rw [xk_s, xk_s, e'', xhv_s, xk_s]
  · refine ⟨fun o k q => ?_, ?_, rfl, fun r h1 h2 => ?_, fun c hc => ?_, fun y ⟨i, a1, a2⟩ => Q.z y ⟨i, Nat.zero_le _, a1, a2⟩, fun y q => ?_, fun r h1 => ?_⟩
    · have e1 : mv_i (mv_si h' 13 9 0) o k = mv_i h' o k := mv_u_ne (mv_i h') _ (by omega)
      rw [e1, Q.i o k (by omega)]; rfl
    · have e1 : mv_i (mv_si h' 13 9 0) 13 7 = mv_i h' 13 7 := rfl
      rw [e1, Q.sc]; rfl
    · show mv_a h' r = _
      rw [Q.a r h1]
      funext k
      rw [fa, if_neg h2]
    · constructor
      · show mv_a h' 17 c = 0
        rw [Q.a 17 (by omega), fa, if_pos rfl, if_pos hc]
      · show mv_b h' 18 c = 0
        rw [Q.b, fb, if_pos rfl, if_pos hc]
    · show mv_a h' 14 y = _
      rw [Q.o y (fun ⟨i, _, a1, a2⟩ => q ⟨i, a1, a2⟩), fa, if_neg (by omega)]
    · show mv_b h' r = _
      rw [Q.b]
      funext k
      rw [fb, if_neg h1]
/-- a chain of jumps, aimed -/
theorem Lk_c {f f' : Nat → Int64} : ∀ {l : List Nat} {p : Int}, Lk f p l → (∀ y, y ∈ l → f' y = f y) → Lk f' p l := by
  intro l
  induction l with
  | nil => intro p h _; exact h
  | cons x l ih =>
    intro p h e
    obtain ⟨h1, h2, h3⟩ := h
    refine ⟨h1, h2, ?_⟩
    rw [e x List.mem_cons_self]
    exact ih h3 (fun y q => e y (List.mem_cons_of_mem _ q))
theorem am_lp {P : Nat} {z : Nat} (hz : z ≤ 32768) : ∀ (l : List Nat) (u x3 : Nat) (x2 : Int32) (g : mv_H), mv_i g P 17 = nI z → Lk (mv_b g (P + 10)) x2.toInt l → (∀ y, y ∈ l → y < 32768) → x3 ≤ z → z < u + x3 → ∃ h', f_Program_aimAll_4 P u x2 (nI x3) g = some h' ∧ mv_i h' = mv_i g ∧ mv_a h' = mv_a g ∧ (∀ r, ¬ r = P + 10 → mv_b h' r = mv_b g r) := by
  intro l
  induction l with
  | nil =>
    intro u x3 x2 g e17 hL hy h1 h2
    cases u with
    | zero => omega
    | succ u =>
      show ∃ h', fF_Program_aimAll_4 P (f_Program_aimAll_4 P u) x2 (nI x3) g = some h' ∧ _
      unfold fF_Program_aimAll_4
      have hx : x2.toInt = -1 := hL
      by_cases c : mv_i g P 17 ≤ nI x3
      · rw [if_pos c]; exact ⟨g, rfl, rfl, rfl, fun _ _ => rfl⟩
      · rw [if_neg c, if_pos (show x2 < 0 by rw [Int32.lt_iff_toInt_lt, hx]; decide)]
        exact ⟨g, rfl, rfl, rfl, fun _ _ => rfl⟩
  | cons x l ih =>
    intro u x3 x2 g e17 hL hy h1 h2
    cases u with
    | zero => omega
    | succ u =>
      show ∃ h', fF_Program_aimAll_4 P (f_Program_aimAll_4 P u) x2 (nI x3) g = some h' ∧ _
      unfold fF_Program_aimAll_4
      obtain ⟨a1, a2, a3⟩ := hL
      have hx := hy x List.mem_cons_self
      have ex : x2 = nI x := Int32.toInt_inj.mp (by rw [a1, nIi (by omega)])
      by_cases c : mv_i g P 17 ≤ nI x3
      · rw [if_pos c]; exact ⟨g, rfl, rfl, rfl, fun _ _ => rfl⟩
      · have hc : x3 < z := by
          rcases Nat.lt_or_ge x3 z with q | q
          · exact q
          · exact absurd (by rw [e17]; exact (nIle (a := z) (b := x3) (by omega) (by omega)).mpr q) c
        rw [if_neg c, ex, if_neg (show ¬ nI x < 0 from fun w => by have := (nIlt (b := 0) (by omega) (by omega)).mp w; omega), xvi_n hx (by decide), cond_true, cond_true, xk_s, cln (by omega), nI1 (by omega)]
        have et : ((mv_b g (P + 10) x).toInt32).toInt = (mv_b g (P + 10) x).toInt := by
          have r : -1 ≤ (mv_b g (P + 10) x).toInt ∧ (mv_b g (P + 10) x).toInt < 32768 := by
            cases l with
            | nil => have : (mv_b g (P + 10) x).toInt = -1 := a3; omega
            | cons y l =>
              have e := a3.1
              have := hy y (List.mem_cons_of_mem _ List.mem_cons_self)
              omega
          rw [Int64.toInt_toInt32, Int.bmod_eq_of_le] <;> omega
        obtain ⟨h', e', r1, r2, r3⟩ := ih u (x3 + 1) ((mv_b g (P + 10) x).toInt32) (mv_sb g (P + 10) x ((mv_i g P 17)).toInt64) e17 (by
          rw [et]
          refine Lk_c a3 (fun y q => ?_)
          have := a2 y q
          ((simp only [rw_ii, rw_aa, rw_bb, rw_ia, rw_ib, rw_ai, rw_ab, rw_bi, rw_ba, true_and, and_true, if_true]; repeat' split) <;> first | rfl | (exfalso; omega))) (fun y q => hy y (List.mem_cons_of_mem _ q)) (by omega) (by omega)
        refine ⟨h', e', r1, r2, fun r hr => ?_⟩
        rw [r3 r hr]
        funext k; ((simp only [rw_ii, rw_aa, rw_bb, rw_ia, rw_ib, rw_ai, rw_ab, rw_bi, rw_ba, true_and, and_true, if_true]; repeat' split) <;> first | rfl | (exfalso; omega))
/-- } read, the names of the block forgotten -/
def CQ (X : TX) (J : Nat) (h g : mv_H) (j d bn kk n : Nat) (sg : Nat → Nat) : Prop := (TB X J g) ∧ (mv_i g 3 7 = nI (j + 1)) ∧ (j ≤ J) ∧ (mv_i g 3 8 = nI d) ∧ (d ≤ 60) ∧ (mv_i g 3 9 < 0) ∧ (mv_i g 3 9 = mv_i h 3 9) ∧ (∀ r, ¬ r = 14 → mv_a g r = mv_a h r) ∧ (mv_b g = mv_b h) ∧ (∀ y, (∃ i, kk ≤ i ∧ i < n ∧ sg i = y) → mv_a g 14 y = 0) ∧ (∀ y, (¬ ∃ i, kk ≤ i ∧ i < n ∧ sg i = y) → mv_a g 14 y = mv_a h 14 y) ∧ (∀ o k, ¬ (o = 3 ∧ 7 ≤ k ∧ k ≤ 9) → ¬ (o = 13 ∧ k = 7) → ¬ (o = 2 ∧ k = 15) → mv_i g o k = mv_i h o k) ∧ (mv_i g 13 7 = nI kk) ∧ (mv_i g 2 15 = nI (bn - 1))
theorem CQ.tb {X : TX} {J : Nat} {h g : mv_H} {j d bn kk n : Nat} {sg : Nat → Nat} (h99 : CQ X J h g j d bn kk n sg) : TB X J g := h99.1
theorem CQ.at' {X : TX} {J : Nat} {h g : mv_H} {j d bn kk n : Nat} {sg : Nat → Nat} (h99 : CQ X J h g j d bn kk n sg) : mv_i g 3 7 = nI (j + 1) := h99.2.1
theorem CQ.jJ {X : TX} {J : Nat} {h g : mv_H} {j d bn kk n : Nat} {sg : Nat → Nat} (h99 : CQ X J h g j d bn kk n sg) : j ≤ J := h99.2.2.1
theorem CQ.dp {X : TX} {J : Nat} {h g : mv_H} {j d bn kk n : Nat} {sg : Nat → Nat} (h99 : CQ X J h g j d bn kk n sg) : mv_i g 3 8 = nI d := h99.2.2.2.1
theorem CQ.d2 {X : TX} {J : Nat} {h g : mv_H} {j d bn kk n : Nat} {sg : Nat → Nat} (h99 : CQ X J h g j d bn kk n sg) : d ≤ 60 := h99.2.2.2.2.1
theorem CQ.lt {X : TX} {J : Nat} {h g : mv_H} {j d bn kk n : Nat} {sg : Nat → Nat} (h99 : CQ X J h g j d bn kk n sg) : mv_i g 3 9 < 0 := h99.2.2.2.2.2.1
theorem CQ.e9 {X : TX} {J : Nat} {h g : mv_H} {j d bn kk n : Nat} {sg : Nat → Nat} (h99 : CQ X J h g j d bn kk n sg) : mv_i g 3 9 = mv_i h 3 9 := h99.2.2.2.2.2.2.1
theorem CQ.a {X : TX} {J : Nat} {h g : mv_H} {j d bn kk n : Nat} {sg : Nat → Nat} (h99 : CQ X J h g j d bn kk n sg) : ∀ r, ¬ r = 14 → mv_a g r = mv_a h r := h99.2.2.2.2.2.2.2.1
theorem CQ.b {X : TX} {J : Nat} {h g : mv_H} {j d bn kk n : Nat} {sg : Nat → Nat} (h99 : CQ X J h g j d bn kk n sg) : mv_b g = mv_b h := h99.2.2.2.2.2.2.2.2.1
theorem CQ.z {X : TX} {J : Nat} {h g : mv_H} {j d bn kk n : Nat} {sg : Nat → Nat} (h99 : CQ X J h g j d bn kk n sg) : ∀ y, (∃ i, kk ≤ i ∧ i < n ∧ sg i = y) → mv_a g 14 y = 0 := h99.2.2.2.2.2.2.2.2.2.1
theorem CQ.o {X : TX} {J : Nat} {h g : mv_H} {j d bn kk n : Nat} {sg : Nat → Nat} (h99 : CQ X J h g j d bn kk n sg) : ∀ y, (¬ ∃ i, kk ≤ i ∧ i < n ∧ sg i = y) → mv_a g 14 y = mv_a h 14 y := h99.2.2.2.2.2.2.2.2.2.2.1
theorem CQ.i {X : TX} {J : Nat} {h g : mv_H} {j d bn kk n : Nat} {sg : Nat → Nat} (h99 : CQ X J h g j d bn kk n sg) : ∀ o k, ¬ (o = 3 ∧ 7 ≤ k ∧ k ≤ 9) → ¬ (o = 13 ∧ k = 7) → ¬ (o = 2 ∧ k = 15) → mv_i g o k = mv_i h o k := h99.2.2.2.2.2.2.2.2.2.2.2.1
theorem CQ.sc {X : TX} {J : Nat} {h g : mv_H} {j d bn kk n : Nat} {sg : Nat → Nat} (h99 : CQ X J h g j d bn kk n sg) : mv_i g 13 7 = nI kk := h99.2.2.2.2.2.2.2.2.2.2.2.2.1
theorem CQ.bl {X : TX} {J : Nat} {h g : mv_H} {j d bn kk n : Nat} {sg : Nat → Nat} (h99 : CQ X J h g j d bn kk n sg) : mv_i g 2 15 = nI (bn - 1) := h99.2.2.2.2.2.2.2.2.2.2.2.2.2
theorem WQ.ax {X : TX} {J P : Nat} (hpp : P = 32 ∨ P = 48) {h g : mv_H} {j d : Nat} (Q : WQ X J P h g j d) {g' : mv_H} (ei : mv_i g' = mv_i g) (ea : mv_a g' = mv_a g) (eb : ∀ o, ¬ o = P + 10 → mv_b g' o = mv_b g o) : WQ X J P h g' j d :=
  ⟨Q.tb.fr (by rw [ea]) (by rw [ea]) (eb 6 (by omega)), ⟨fun r h1 h2 => by rw [ea]; exact Q.kp.a r h1 h2, fun r h1 => (eb r h1).trans (Q.kp.b r h1), fun o k h1 h2 h3 h4 h5 => by rw [ei]; exact Q.kp.i o k h1 h2 h3 h4 h5⟩, by rw [ei]; exact Q.at', Q.jJ, by rw [ei]; exact Q.dp, Q.d2, by rw [ei]; exact Q.lt, by rw [ei]; exact Q.e9, by rw [ei]; exact Q.n, by rw [ei]; exact Q.sz⟩
/-- the block that is closed -/
def BkA (P : Nat) (h : mv_H) (bn kk n : Nat) (sg : Nat → Nat) : Prop := (mv_i h 2 15 = nI bn) ∧ (1 ≤ bn) ∧ (bn ≤ 60) ∧ (mv_i h 13 7 = nI n) ∧ (n ≤ 64) ∧ (mv_a h 31 (bn - 1) = nI kk) ∧ (kk ≤ n) ∧ (∀ i, i < n → mv_a h 19 i = nI (sg i) ∧ sg i < 16448) ∧ ((mv_a h 29 (bn - 1)).toInt < 32768) ∧ (∃ l, Lk (mv_b h (P + 10)) (mv_a h 30 (bn - 1)).toInt l ∧ (∀ y, y ∈ l → y < 32768) ∧ (∀ y, y ∈ l → ¬ (mv_a h 29 (bn - 1)).toInt = y))
theorem BkA.b {P : Nat} {h : mv_H} {bn kk n : Nat} {sg : Nat → Nat} (h99 : BkA P h bn kk n sg) : mv_i h 2 15 = nI bn := h99.1
theorem BkA.b1 {P : Nat} {h : mv_H} {bn kk n : Nat} {sg : Nat → Nat} (h99 : BkA P h bn kk n sg) : 1 ≤ bn := h99.2.1
theorem BkA.b2 {P : Nat} {h : mv_H} {bn kk n : Nat} {sg : Nat → Nat} (h99 : BkA P h bn kk n sg) : bn ≤ 60 := h99.2.2.1
theorem BkA.sc {P : Nat} {h : mv_H} {bn kk n : Nat} {sg : Nat → Nat} (h99 : BkA P h bn kk n sg) : mv_i h 13 7 = nI n := h99.2.2.2.1
theorem BkA.n2 {P : Nat} {h : mv_H} {bn kk n : Nat} {sg : Nat → Nat} (h99 : BkA P h bn kk n sg) : n ≤ 64 := h99.2.2.2.2.1
theorem BkA.k {P : Nat} {h : mv_H} {bn kk n : Nat} {sg : Nat → Nat} (h99 : BkA P h bn kk n sg) : mv_a h 31 (bn - 1) = nI kk := h99.2.2.2.2.2.1
theorem BkA.k2 {P : Nat} {h : mv_H} {bn kk n : Nat} {sg : Nat → Nat} (h99 : BkA P h bn kk n sg) : kk ≤ n := h99.2.2.2.2.2.2.1
theorem BkA.s {P : Nat} {h : mv_H} {bn kk n : Nat} {sg : Nat → Nat} (h99 : BkA P h bn kk n sg) : ∀ i, i < n → mv_a h 19 i = nI (sg i) ∧ sg i < 16448 := h99.2.2.2.2.2.2.2.1
theorem BkA.u {P : Nat} {h : mv_H} {bn kk n : Nat} {sg : Nat → Nat} (h99 : BkA P h bn kk n sg) : (mv_a h 29 (bn - 1)).toInt < 32768 := h99.2.2.2.2.2.2.2.2.1
theorem BkA.c {P : Nat} {h : mv_H} {bn kk n : Nat} {sg : Nat → Nat} (h99 : BkA P h bn kk n sg) : ∃ l, Lk (mv_b h (P + 10)) (mv_a h 30 (bn - 1)).toInt l ∧ (∀ y, y ∈ l → y < 32768) ∧ (∀ y, y ∈ l → ¬ (mv_a h 29 (bn - 1)).toInt = y) := h99.2.2.2.2.2.2.2.2.2
section CLB
variable {X : TX} {J P : Nat} {sy : List Nat → Nat} {h : mv_H} {j d : Nat} (W : WA X J P sy h j d)
theorem cls_A (W : WA X J P sy h j d) (hk : X.kd j = 125) (hd0 : 0 < d) {b kk n : Nat} {s : Nat → Nat} (B : BkA P h b kk n s) : ∃ g9, CQ X J h g9 (j + 1) (d - 1) b kk n s ∧ ∃ h', f_Weaver_closeBlock P h = some h' ∧
    ((mv_a h 28 (b - 1) = 206 ∧ ∃ g' k', WQ X J P g9 g' (j + 1) (d - 1) ∧ mv_i g' 2 = mv_i g9 2 ∧ LvQ g' k' kk s ∧ h' = mv_si k' 2 6 0) ∨
     ((¬ mv_a h 28 (b - 1) = 206 ∧ mv_a h 28 (b - 1) = 209 ∧ X.kd (j + 1) = 210) ∧
       ((X.kd (j + 2) = 209 ∧ WQ X J P g9 h' (j + 3) (d - 1) ∧ BeQ h' 4 ∧ mv_i h' 2 8 = nI (j + 3)) ∨
        (¬ X.kd (j + 2) = 209 ∧ X.kd (j + 2) = 123 ∧ ∃ g1 a2, WQ X J P g9 g1 (j + 3) d ∧ h' = OBk g1 (b - 1) 210 (-1) a2) ∨
        (¬ X.kd (j + 2) = 209 ∧ ¬ X.kd (j + 2) = 123 ∧ Fl h'))) ∨
     ((¬ mv_a h 28 (b - 1) = 206 ∧ ¬ (mv_a h 28 (b - 1) = 209 ∧ X.kd (j + 1) = 210)) ∧ WQ X J P g9 h' (j + 1) (d - 1) ∧ mv_i h' 2 = mv_i g9 2)) := by
  have hpp := W.pp
  have hJ := W.hJ
  have hd2 := W.pt.d2
  have hb1 := B.b1
  have hb2 := B.b2
  rcases W.pt.cl hJ (k := 125) (by omega) (by omega) hd0 with ⟨q0, g5, e5, T5, n5⟩ | ⟨q0, -⟩
  rotate_left
  · exact absurd hk q0
  obtain ⟨g7, eg7⟩ : ∃ g7, g7 = mv_si g5 2 15 (nI (b - 1)) := ⟨_, rfl⟩
  have e15 : mv_i g5 2 15 - 1 = nI (b - 1) := by
    rw [T5.sm.i 2 15 (by omega) (by omega), B.b]; exact nIsub (a := b) (b := 1) (by omega) (by omega)
  have f15 : mv_i g7 2 15 = nI (b - 1) := by rw [eg7]; rfl
  have fi : ∀ o k, ¬ (o = 2 ∧ k = 15) → mv_i g7 o k = mv_i g5 o k := fun o k q => by rw [eg7]; exact mv_u_ne (mv_i g5) _ q
  have fa : mv_a g7 = mv_a h := by rw [eg7]; exact T5.sm.a
  have fb : mv_b g7 = mv_b h := by rw [eg7]; exact T5.sm.b
  obtain ⟨g9, e9, F⟩ := fg_e B.n2 B.k2 s g7 (by rw [fi 13 7 (by omega), T5.sm.i 13 7 (by omega) (by omega)]; exact B.sc) (fun i hi => by rw [fa]; exact B.s i hi)
  have hC : CQ X J h g9 (j + 1) (d - 1) b kk n s := by
    refine ⟨T5.tb.fr ?_ ?_ ?_, ?_, T5.jJ, ?_, T5.d2, ?_, ?_, fun r q => ?_, ?_, F.z, fun y q => ?_, fun o k q1 q2 q3 => ?_, F.sc, ?_⟩
    · rw [F.a 4 (by omega), fa, T5.sm.a]
    · rw [F.a 5 (by omega), fa, T5.sm.a]
    · rw [F.b, fb, T5.sm.b]
    · rw [F.i 3 7 (by omega), fi 3 7 (by omega)]; exact T5.at'
    · rw [F.i 3 8 (by omega), fi 3 8 (by omega)]; exact T5.dp
    · rw [F.i 3 9 (by omega), fi 3 9 (by omega)]; exact T5.lt
    · rw [F.i 3 9 (by omega), fi 3 9 (by omega)]; exact T5.e9
    · rw [F.a r q, fa]
    · rw [F.b, fb]
    · rw [F.o y q, fa]
    · rw [F.i o k q2, fi o k q3]
      by_cases c : o = 21
      · rw [c, n5]
      · exact T5.sm.i o k q1 c
    · rw [F.i 2 15 (by omega)]; exact f15
  have Q9 : WQ X J P g9 g9 (j + 1) (d - 1) := by
    refine ⟨hC.tb, ⟨fun _ _ _ => rfl, fun _ _ => rfl, fun _ _ _ _ _ _ _ => rfl⟩, hC.at', hC.jJ, hC.dp, hC.d2, hC.lt, rfl, rfl, ?_⟩
    obtain ⟨z, ez, hz⟩ := W.sz
    exact ⟨z, by rw [hC.i P 17 (by omega) (by omega) (by omega)]; exact ez, hz⟩
  have a31 : mv_a g7 31 (b - 1) = nI kk := by rw [fa]; exact B.k
  have a28 : mv_a g9 28 (b - 1) = mv_a h 28 (b - 1) := by rw [hC.a 28 (by omega)]
  have e0 : f_Weaver_closeBlock P h = bif xvi (mv_i g9 2 15) 61 then if (mv_a g9 28 ((mv_i g9 2 15)).toNatClampNeg) = (206 : Int32) then (xhb (f_Program_emit P g9 (317 : Int32) (0 : Int64)) fun v25 g24 => xhv (f_Names_leaveOp g24) fun g26 => xk (mv_si g26 2 6 (0 : Int32)) fun g27 => some g27) else (if (mv_a g9 28 ((mv_i g9 2 15)).toNatClampNeg) = (209 : Int32) then (xhb (f_Tokens_kind g9) fun v12 g11 => if v12 = (210 : Int32) then (xhb (f_Tokens_take g11 (210 : Int32)) fun v14 g13 => bif xvi (mv_i g13 2 15) 61 then xhb (f_Program_emit P g13 (311 : Int32) (((mv_a g13 30 ((mv_i g13 2 15)).toNatClampNeg)).toInt64)) fun v17 g16 => bif xvi (mv_i g16 2 15) 61 then xhv (f_Program_aim P g16 (mv_a g16 29 ((mv_i g16 2 15)).toNatClampNeg)) fun g19 => xhb (f_Tokens_kind g19) fun v21 g20 => if v21 = (209 : Int32) then (xhv (f_Weaver_beginIf g20 v17) fun g23 => some g23) else (xhv (f_Weaver_openBlock g20 (210 : Int32) (-1 : Int32) v17) fun g22 => some g22) else none else none) else (f_Weaver_closeBlock_181 P  g11)) else (f_Weaver_closeBlock_181 P  g9)) else none := by
    unfold f_Weaver_closeBlock
    rw [show f_Tokens_close h 125 = _ from e5, xhb_s, e15, xk_s, ← eg7, f15, xvi_n (show b - 1 < 61 by omega) (by decide), cond_true, cln (by omega), a31, e9, xhv_s]
  refine ⟨g9, hC, ?_⟩
  rw [e0, hC.bl, xvi_n (show b - 1 < 61 by omega) (by decide), cond_true, cln (by omega), a28]
  have e181 : ∃ h', f_Weaver_closeBlock_181 P g9 = some h' ∧ WQ X J P g9 h' (j + 1) (d - 1) ∧ mv_i h' 2 = mv_i g9 2 := by
    obtain ⟨l, c1, c2, c3⟩ := B.c
    obtain ⟨z, ez, hz⟩ := Q9.sz
    have a29 : mv_a g9 29 (b - 1) = mv_a h 29 (b - 1) := by rw [hC.a 29 (by omega)]
    have a30 : mv_a g9 30 (b - 1) = mv_a h 30 (b - 1) := by rw [hC.a 30 (by omega)]
    obtain ⟨g2, e2, i2, m2, b2⟩ := aim_e (P := P) (g := g9) (x := mv_a h 29 (b - 1)) B.u
    have cc2 : ∀ y, y ∈ l → mv_b g2 (P + 10) y = mv_b h (P + 10) y := by
      intro y hy
      have e2' := e2
      unfold f_Program_aim at e2'
      by_cases cz : mv_a h 29 (b - 1) < 0
      · rw [if_pos cz] at e2'
        rw [← Option.some.inj e2', hC.b]
      · rw [if_neg cz] at e2'
        have hu0 : 0 ≤ (mv_a h 29 (b - 1)).toInt := by
          rcases Int.lt_or_le (mv_a h 29 (b - 1)).toInt 0 with w | w
          · exact absurd (Int32.lt_iff_toInt_lt.mpr (by rw [show ((0 : Int32)).toInt = 0 from rfl]; exact w)) cz
          · exact w
        obtain ⟨v, ev⟩ : ∃ v : Nat, (mv_a h 29 (b - 1)).toInt = v := ⟨(mv_a h 29 (b - 1)).toInt.toNat, by omega⟩
        have ex : mv_a h 29 (b - 1) = nI v := Int32.toInt_inj.mp (by rw [ev, nIi (by have := B.u; omega)])
        have hv : v < 32768 := by have := B.u; omega
        rw [ex, xvi_n hv (by decide), cond_true, xk_s, cln (by omega)] at e2'
        rw [← Option.some.inj e2']
        have := c3 y hy
        rw [ev] at this
        have hne : ¬ y = v := fun w => this (by rw [w])
        rw [rw_bb, if_neg (fun w => hne w.2), hC.b]
    obtain ⟨h', e', r1, r2, r3⟩ := am_lp (P := P) hz l 200000 0 (mv_a h 30 (b - 1)) g2 (by rw [i2]; exact ez) (Lk_c c1 cc2) c2 (by omega) (by omega)
    have e'' : f_Program_aimAll P g2 (mv_a h 30 (b - 1)) = some h' := e'
    have Q2 := (Q9.ax hpp i2 m2 b2).ax hpp r1 r2 r3
    refine ⟨h', ?_, Q2, by rw [r1, i2]⟩
    have b15 : mv_i g2 2 15 = nI (b - 1) := by rw [i2]; exact hC.bl
    unfold f_Weaver_closeBlock_181
    rw [hC.bl, xvi_n (show b - 1 < 61 by omega) (by decide), cond_true, cln (by omega), a29, e2, xhv_s, b15, xvi_n (show b - 1 < 61 by omega) (by decide), cond_true, cln (by omega), m2, a30, e'', xhv_s]
  by_cases c6 : mv_a h 28 (b - 1) = 206
  · rw [if_pos c6]
    obtain ⟨w, g2, e2, -, Q2, m2, n2⟩ := Q9.em hpp 317 0
    obtain ⟨k', e3, L3⟩ := lv_e (n := kk) (by have := B.k2; have := B.n2; omega) s g2 (by rw [Q2.kp.i 13 7 (by omega) (by omega) (by omega) (by omega) (by omega)]; exact hC.sc) (fun i hi => by rw [Q2.kp.a 19 (by omega) (by omega), hC.a 19 (by omega)]; exact B.s i (by have := B.k2; omega))
    refine ⟨mv_si k' 2 6 0, ?_, Or.inl ⟨c6, g2, k', Q2, m2, L3, rfl⟩⟩
    rw [e2, xhb_s, e3, xhv_s, xk_s]
  rw [if_neg c6]
  by_cases c9 : mv_a h 28 (b - 1) = 209
  · have hkd := (hC.tb.k (j + 1) hC.jJ).2
    rw [if_pos c9, Q9.pt.kd, xhb_s]
    by_cases c10 : X.kd (j + 1) = 210
    · rw [if_pos (show nI (X.kd (j + 1)) = 210 by rw [c10]; rfl)]
      rcases Q9.pt.tk hJ (k := 210) (by omega) (by omega) with ⟨q1, g2, e2, T2, n2⟩ | ⟨q1, -⟩
      rotate_left
      · exact absurd c10 q1
      have Q2 : WQ X J P g9 g2 (j + 2) (d - 1) := T2.wq hpp n2 Q9.sz
      have b2 : mv_i g2 2 15 = nI (b - 1) := by rw [T2.sm.i 2 15 (by omega) (by omega)]; exact hC.bl
      obtain ⟨w, g3, e3, -, Q3, m3, n3⟩ := Q2.em hpp 311 (((mv_a g2 30 (b - 1))).toInt64)
      have b3 : mv_i g3 2 15 = nI (b - 1) := by rw [m3]; exact b2
      have a3 : mv_a g3 29 (b - 1) = mv_a h 29 (b - 1) := by rw [Q3.kp.a 29 (by omega) (by omega), hC.a 29 (by omega)]
      obtain ⟨g4, e4, i4, m4, f4⟩ := aim_e (P := P) (g := g3) (x := mv_a h 29 (b - 1)) B.u
      have Q4 : WQ X J P g9 g4 (j + 2) (d - 1) := Q3.ax hpp i4 m4 f4
      have hkd2 := (Q4.tb.k (j + 2) Q4.jJ).2
      rw [show f_Tokens_take g9 210 = _ from e2, xhb_s, b2, xvi_n (show b - 1 < 61 by omega) (by decide), cond_true, cln (by omega), e3, xhb_s, b3, xvi_n (show b - 1 < 61 by omega) (by decide), cond_true, cln (by omega), a3, e4, xhv_s, Q4.pt.kd, xhb_s]
      by_cases c11 : X.kd (j + 2) = 209
      · rw [if_pos (show nI (X.kd (j + 2)) = 209 by rw [c11]; rfl)]
        have W9 : WQ X J P g9 g4 (j + 2) (d - 1) := Q4
        rcases Q4.pt.tk hJ (k := 209) (by omega) (by omega) with ⟨q5, g5', e5', T5', n5'⟩ | ⟨q5, -⟩
        rotate_left
        · exact absurd c11 q5
        have Q5 : WQ X J P g9 g5' (j + 3) (d - 1) := Q4.tr (T5'.wq hpp n5' Q4.sz)
        obtain ⟨Q6, B6⟩ := ((Q5.si hpp (o := 2) (k := 8) (Or.inr ⟨rfl, by omega, by omega⟩) (nI (j + 2 + 1))).si hpp (o := 2) (k := 10) (Or.inr ⟨rfl, by omega, by omega⟩) w).bx hpp 4
        refine ⟨_, ?_, Or.inr (Or.inl ⟨⟨c6, c9, c10⟩, Or.inl ⟨c11, Q6, B6, rfl⟩⟩)⟩
        unfold f_Weaver_beginIf
        rw [show f_Tokens_take g4 209 = _ from e5', xhb_s, xk_s, xk_s, bx_e, xhv_s, xhv_s]
        rfl
      · rw [if_neg (show ¬ nI (X.kd (j + 2)) = 209 from fun z => c11 ((nIinj (b := 209) (by omega) (by omega)).mp z))]
        rcases opb_A Q4.pt hJ (b := b - 1) (by rw [i4]; exact b3) (by omega) 210 (-1) w with ⟨q5, g5', T5', n5', e5'⟩ | ⟨q5, g5', e5', w5', -⟩
        · have Q5 : WQ X J P g9 g5' (j + 3) d := by
            have := Q4.tr (T5'.wq hpp n5' Q4.sz)
            rw [show d - 1 + 1 = d by omega] at this
            exact this
          refine ⟨OBk g5' (b - 1) 210 (-1) w, ?_, Or.inr (Or.inl ⟨⟨c6, c9, c10⟩, Or.inr (Or.inl ⟨c11, q5.1, g5', w, Q5, rfl⟩)⟩)⟩
          rw [e5', xhv_s]
        · refine ⟨g5', ?_, Or.inr (Or.inl ⟨⟨c6, c9, c10⟩, Or.inr (Or.inr ⟨c11, fun z => q5 ⟨z, by omega⟩, w5'.fl⟩)⟩)⟩
          rw [e5', xhv_s]
    · rw [if_neg (show ¬ nI (X.kd (j + 1)) = 210 from fun z => c10 ((nIinj (b := 210) (by omega) (by omega)).mp z))]
      obtain ⟨h', e', Q', m'⟩ := e181
      exact ⟨h', e', Or.inr (Or.inr ⟨⟨c6, fun z => c10 z.2⟩, Q', m'⟩)⟩
  · rw [if_neg c9]
    obtain ⟨h', e', Q', m'⟩ := e181
    exact ⟨h', e', Or.inr (Or.inr ⟨⟨c6, fun z => c9 z.1⟩, Q', m'⟩)⟩
end CLB
theorem relA {h : mv_H} {k : Nat} (hk : k < 1024) (e : mv_i h 22 10 = nI (k + 1)) : f_Exprs_release h = some (mv_a h 27 k, mv_si h 22 10 (nI k)) := by
  have e1 : nI (k + 1) - 1 = nI k := nIsub (a := k + 1) (b := 1) (by omega) (by omega)
  unfold f_Exprs_release
  rw [e, e1, xk_s]
  have e2 : mv_i (mv_si h 22 10 (nI k)) 22 10 = nI k := rfl
  rw [e2, xvi_n (by omega) (by decide), cln (by omega)]
  rfl
/-- a let more: symbol s, the l-th let, the n-th in scope, width w -/
def AlQ (g h' : mv_H) (s l n : Nat) (w : Int32) : Prop := (∀ o k, ¬ (o = 13 ∧ (k = 7 ∨ k = 9)) → mv_i h' o k = mv_i g o k) ∧ (mv_i h' 13 7 = nI (n + 1)) ∧ (mv_i h' 13 9 = nI (l + 1)) ∧ (∀ k, mv_a h' 14 k = if k = s then 3 else mv_a g 14 k) ∧ (∀ k, mv_a h' 15 k = if k = s then nI l else mv_a g 15 k) ∧ (∀ k, mv_a h' 19 k = if k = n then nI s else mv_a g 19 k) ∧ (∀ k, mv_a h' 20 k = if k = l then w else mv_a g 20 k) ∧ (∀ r, ¬ (r = 14 ∨ r = 15 ∨ r = 19 ∨ r = 20) → mv_a h' r = mv_a g r) ∧ (mv_b h' = mv_b g)
theorem AlQ.i {g h' : mv_H} {s l n : Nat} {w : Int32} (h99 : AlQ g h' s l n w) : ∀ o k, ¬ (o = 13 ∧ (k = 7 ∨ k = 9)) → mv_i h' o k = mv_i g o k := h99.1
theorem AlQ.i7 {g h' : mv_H} {s l n : Nat} {w : Int32} (h99 : AlQ g h' s l n w) : mv_i h' 13 7 = nI (n + 1) := h99.2.1
theorem AlQ.i9 {g h' : mv_H} {s l n : Nat} {w : Int32} (h99 : AlQ g h' s l n w) : mv_i h' 13 9 = nI (l + 1) := h99.2.2.1
theorem AlQ.a14 {g h' : mv_H} {s l n : Nat} {w : Int32} (h99 : AlQ g h' s l n w) : ∀ k, mv_a h' 14 k = if k = s then 3 else mv_a g 14 k := h99.2.2.2.1
theorem AlQ.a15 {g h' : mv_H} {s l n : Nat} {w : Int32} (h99 : AlQ g h' s l n w) : ∀ k, mv_a h' 15 k = if k = s then nI l else mv_a g 15 k := h99.2.2.2.2.1
theorem AlQ.a19 {g h' : mv_H} {s l n : Nat} {w : Int32} (h99 : AlQ g h' s l n w) : ∀ k, mv_a h' 19 k = if k = n then nI s else mv_a g 19 k := h99.2.2.2.2.2.1
theorem AlQ.a20 {g h' : mv_H} {s l n : Nat} {w : Int32} (h99 : AlQ g h' s l n w) : ∀ k, mv_a h' 20 k = if k = l then w else mv_a g 20 k := h99.2.2.2.2.2.2.1
theorem AlQ.ao {g h' : mv_H} {s l n : Nat} {w : Int32} (h99 : AlQ g h' s l n w) : ∀ r, ¬ (r = 14 ∨ r = 15 ∨ r = 19 ∨ r = 20) → mv_a h' r = mv_a g r := h99.2.2.2.2.2.2.2.1
theorem AlQ.b {g h' : mv_H} {s l n : Nat} {w : Int32} (h99 : AlQ g h' s l n w) : mv_b h' = mv_b g := h99.2.2.2.2.2.2.2.2
theorem al_e (g : mv_H) {s l n : Nat} (hs : s < 16448) (hl : l < 64) (hn : n ≤ l) (e7 : mv_i g 13 7 = nI n) (e9 : mv_i g 13 9 = nI l) (w : Int32) : ∃ h', f_Names_addLet g (nI s) w = some h' ∧ AlQ g h' s l n w := by
  have e97 : mv_i (mv_sa (mv_sa g 14 s 3) 15 s (nI l)) 13 7 = nI n := e7
  unfold f_Names_addLet
  rw [e9, know_e g hs, xhv_s, e97, xvi_n (by omega) (by decide), cond_true, cln (by omega), xk_s]
  have e1 : mv_i (mv_sa (mv_sa (mv_sa g 14 s 3) 15 s (nI l)) 19 n (nI s)) 13 7 = nI n := e7
  rw [e1, nI1 (by omega), xk_s]
  have e2 : mv_i (mv_si (mv_sa (mv_sa (mv_sa g 14 s 3) 15 s (nI l)) 19 n (nI s)) 13 7 (nI (n + 1))) 13 9 = nI l := e9
  rw [e2, xvi_n (by omega) (by decide), cond_true, cln (by omega), xk_s]
  have e3 : mv_i (mv_sa (mv_si (mv_sa (mv_sa (mv_sa g 14 s 3) 15 s (nI l)) 19 n (nI s)) 13 7 (nI (n + 1))) 20 l w) 13 9 = nI l := e9
  rw [e3, nI1 (by omega), xk_s]
  refine ⟨_, rfl, ?_⟩
  refine ⟨fun o k q => ?_, rfl, rfl, fun k => ?_, fun k => ?_, fun k => ?_, fun k => ?_, fun r q => ?_, rfl⟩
  · ((simp only [rw_ii, rw_aa, rw_bb, rw_ia, rw_ib, rw_ai, rw_ab, rw_bi, rw_ba, true_and, and_true, if_true]; repeat' split) <;> first | rfl | (exfalso; omega))
  · ((simp only [rw_ii, rw_aa, rw_bb, rw_ia, rw_ib, rw_ai, rw_ab, rw_bi, rw_ba, true_and, and_true, if_true]; repeat' split) <;> first | rfl | (exfalso; omega))
  · ((simp only [rw_ii, rw_aa, rw_bb, rw_ia, rw_ib, rw_ai, rw_ab, rw_bi, rw_ba, true_and, and_true, if_true]; repeat' split) <;> first | rfl | (exfalso; omega))
  · ((simp only [rw_ii, rw_aa, rw_bb, rw_ia, rw_ib, rw_ai, rw_ab, rw_bi, rw_ba, true_and, and_true, if_true]; repeat' split) <;> first | rfl | (exfalso; omega))
  · ((simp only [rw_ii, rw_aa, rw_bb, rw_ia, rw_ib, rw_ai, rw_ab, rw_bi, rw_ba, true_and, and_true, if_true]; repeat' split) <;> first | rfl | (exfalso; omega))
  · funext k; ((simp only [rw_ii, rw_aa, rw_bb, rw_ia, rw_ib, rw_ai, rw_ab, rw_bi, rw_ba, true_and, and_true, if_true]; repeat' split) <;> first | rfl | (exfalso; omega))
section FIN
variable {X : TX} {J P : Nat} {sy : List Nat → Nat} {h : mv_H} {j d : Nat} (W : WA X J P sy h j d) (e10 : mv_i h 22 10 = nI 1)
/-- behind the index of what is assigned -/
theorem fin1_A (W : WA X J P sy h j d) (e10 : mv_i h 22 10 = nI 1) (eg : mv_i h 2 7 = 1) (hd0 : 0 < d) : ∃ h', f_Weaver_finish P h = some h' ∧ (((X.kd j = 93 ∧ X.kd (j + 1) = 61) ∧ WQ X J P h h' (j + 2) (d - 1) ∧ BeQ h' 3 ∧ mv_i h' 2 8 = nI (j + 2) ∧ mv_i h' 2 9 = mv_i h 2 9) ∨ (¬ (X.kd j = 93 ∧ X.kd (j + 1) = 61) ∧ Fl h')) := by
  have hpp := W.pp
  have hJ := W.hJ
  have Q0 : WQ X J P h (mv_si h 22 10 (nI 0)) j d := W.wq.si hpp (Or.inl rfl) _
  have eg' : mv_i (mv_si h 22 10 (nI 0)) 2 7 = 1 := eg
  unfold f_Weaver_finish
  rw [relA (k := 0) (by omega) e10, xhb_s, if_pos eg']
  rcases Q0.pt.cl hJ (k := 93) (by omega) (by omega) hd0 with ⟨q1, g1, e1, T1, n1⟩ | ⟨q1, g1, e1, w1, -⟩
  rotate_left
  · rw [show f_Tokens_close (mv_si h 22 10 (nI 0)) 93 = _ from e1, xhb_s, tkW w1 (by decide), xhb_s, xk_s, bx_e, xhv_s]
    exact ⟨_, rfl, Or.inr ⟨fun z => q1 z.1, (bx_W (g := mv_si g1 2 8 0) w1 3).fl⟩⟩
  rw [show f_Tokens_close (mv_si h 22 10 (nI 0)) 93 = _ from e1, xhb_s]
  have Q1 : WQ X J P h g1 (j + 1) (d - 1) := Q0.tr (T1.wq hpp n1 Q0.sz)
  rcases Q1.pt.tk hJ (k := 61) (by omega) (by omega) with ⟨q2, g2, e2, T2, n2⟩ | ⟨q2, g2, e2, w2, -⟩
  rotate_left
  · rw [show f_Tokens_take g1 61 = _ from e2, xhb_s, xk_s, bx_e, xhv_s]
    exact ⟨_, rfl, Or.inr ⟨fun z => q2 z.2, (bx_W (g := mv_si g2 2 8 0) w2 3).fl⟩⟩
  rw [show f_Tokens_take g1 61 = _ from e2, xhb_s, xk_s, bx_e, xhv_s]
  have Q2 : WQ X J P h g2 (j + 2) (d - 1) := Q1.tr (T2.wq hpp n2 Q1.sz)
  obtain ⟨Q3, B3⟩ := (Q2.si hpp (o := 2) (k := 8) (Or.inr ⟨rfl, by omega, by omega⟩) (nI (j + 1 + 1))).bx hpp 3
  refine ⟨_, rfl, Or.inl ⟨⟨q1, q2⟩, Q3, B3, rfl, ?_⟩⟩
  show mv_i g2 2 9 = _
  rw [T2.sm.i 2 9 (by omega) (by omega), T1.sm.i 2 9 (by omega) (by omega)]
  rfl
/-- behind a condition -/
theorem fin4_A (W : WA X J P sy h j d) (e10 : mv_i h 22 10 = nI 1) (eg : mv_i h 2 7 = 4) {t b : Nat} (et : mv_i h 2 8 = nI t) (ht : t < 32770) (eb : mv_i h 2 15 = nI b) (hb : b ≤ 60) : ∃ h', f_Weaver_finish P h = some h' ∧ ((mv_a h 27 0 ≤ 1 ∧ (X.kd j = 123 ∧ d < 60) ∧ ∃ g1 a1 a2, WQ X J P h g1 (j + 1) (d + 1) ∧ h' = OBk g1 b 209 a1 a2) ∨ (¬ (mv_a h 27 0 ≤ 1 ∧ (X.kd j = 123 ∧ d < 60)) ∧ Fl h')) := by
  have hpp := W.pp
  have hJ := W.hJ
  obtain ⟨g8, eg8⟩ : ∃ g8, g8 = mv_si (mv_si h 22 10 (nI 0)) 2 6 1 := ⟨_, rfl⟩
  have Q8 : WQ X J P h g8 j d := by rw [eg8]; exact (W.wq.si hpp (Or.inl rfl) _).si hpp (Or.inr ⟨rfl, by omega, by omega⟩) _
  have f7 : mv_i g8 2 7 = 4 := by rw [eg8]; exact eg
  have f8 : mv_i g8 2 8 = nI t := by rw [eg8]; exact et
  have f15 : mv_i g8 2 15 = nI b := by rw [eg8]; exact eb
  have f6 : mv_i (mv_si h 22 10 (nI 0)) 2 7 = 4 := eg
  -- the block
  have t72 : ∀ g : mv_H, WQ X J P h g j d ∨ (PT X J g8 g j d ∧ ¬ mv_i g 21 0 = 0) → mv_i g 2 15 = nI b → ∃ h', f_Weaver_finish_72 P g = some h' ∧ (WQ X J P h g j d → (((X.kd j = 123 ∧ d < 60) ∧ ∃ g1 a1 a2, WQ X J P h g1 (j + 1) (d + 1) ∧ h' = OBk g1 b 209 a1 a2) ∨ (¬ (X.kd j = 123 ∧ d < 60) ∧ Fl h'))) ∧ (¬ mv_i g 21 0 = 0 → Fl h') := fun g hg e15 => by
    have Pg : PT X J g g j d := by
      rcases hg with hg | hg
      · exact hg.pt
      · exact hg.1.rb
    have sg : ∃ z, mv_i g P 17 = nI z ∧ z ≤ 32768 := by
      rcases hg with hg | hg
      · exact hg.sz
      · obtain ⟨z, ez, hz⟩ := Q8.sz
        exact ⟨z, by rw [hg.1.sm.i P 17 (by omega) (by omega)]; exact ez, hz⟩
    obtain ⟨w, g2, e2, -, Q2, m2, n2⟩ := (Pg.wq hpp rfl sg).em hpp 312 0
    unfold f_Weaver_finish_72
    rw [e2, xhb_s]
    rcases opb_A Q2.pt hJ (b := b) (by rw [m2]; exact e15) hb 209 w (mv_i g2 2 10) with ⟨q, g3, T3, n3, e3⟩ | ⟨q, g3, e3, w3, -⟩
    · rw [e3, xhv_s]
      refine ⟨_, rfl, fun Q => Or.inl ⟨q, g3, w, _, Q.tr (Q2.tr (T3.wq hpp n3 Q2.sz)), rfl⟩, fun n => Or.inr ?_⟩
      show ¬ mv_i g3 21 0 = 0
      rw [n3, n2]; exact n
    · rw [e3, xhv_s]
      exact ⟨_, rfl, fun _ => Or.inr ⟨q, w3.fl⟩, fun _ => w3.fl⟩
  unfold f_Weaver_finish
  rw [relA (k := 0) (by omega) e10, xhb_s, if_neg (by rw [f6]; decide), xk_s, ← eg8, if_pos f7]
  by_cases c : mv_a h 27 0 ≤ 1
  · rw [if_pos c]
    obtain ⟨h', e', r, -⟩ := t72 g8 (Or.inl Q8) f15
    refine ⟨h', e', ?_⟩
    rcases r Q8 with ⟨r1, r2⟩ | ⟨r1, r2⟩
    · exact Or.inl ⟨c, r1, r2⟩
    · exact Or.inr ⟨fun z => r1 z.2, r2⟩
  · rw [if_neg c, f8]
    obtain ⟨k, ek, Tk, nk⟩ := Q8.pt.tl ht (x := 4) (by decide)
    rw [ek, xhv_s]
    obtain ⟨h', e', -, r⟩ := t72 k (Or.inr ⟨Tk, nk⟩) (by rw [Tk.sm.i 2 15 (by omega) (by omega)]; exact f15)
    exact ⟨h', e', Or.inr ⟨fun z => c z.1, r nk⟩⟩
end FIN
section FIN2
variable {X : TX} {J P : Nat} {sy : List Nat → Nat} {h : mv_H} {j d : Nat} (W : WA X J P sy h j d) (e10 : mv_i h 22 10 = nI 1)
theorem fin115 (W : WA X J P sy h j d) (e10 : mv_i h 22 10 = nI 1) {g : mv_H} {j' d' : Nat} (Q : WQ X J P h g j' d') : (X.kd j' = 59 ∧ ∃ h', f_Weaver_finish_115 P g = some h' ∧ PT X J g h' (j' + 1) d' ∧ mv_i h' 21 = mv_i g 21) ∨ (¬ X.kd j' = 59 ∧ ∃ h', f_Weaver_finish_115 P g = some h' ∧ Wr h') := by
  unfold f_Weaver_finish_115
  rcases Q.pt.tk W.hJ (k := 59) (by omega) (by omega) with ⟨q, g1, e, T1, n1⟩ | ⟨q, g1, e, w1, -⟩
  · refine Or.inl ⟨q, g1, ?_, T1, n1⟩
    rw [show f_Tokens_take g 59 = _ from e, xhb_s]
  · refine Or.inr ⟨q, g1, ?_, w1⟩
    rw [show f_Tokens_take g 59 = _ from e, xhb_s]
/-- behind the value of a let -/
theorem fin0_A (W : WA X J P sy h j d) (e10 : mv_i h 22 10 = nI 1) (eg : mv_i h 2 7 = 0) {l n : Nat} (el : mv_i h 13 9 = nI l) (en : mv_i h 13 7 = nI n) (hn : n ≤ l) (hs : mv_i h 2 9 < 0 ∨ ∃ s, mv_i h 2 9 = nI s ∧ s < 16448 ∧ l < 64) : ∃ h', f_Weaver_finish P h = some h' ∧
    ((∃ s, mv_i h 2 9 = nI s ∧ s < 16448 ∧ l < 64 ∧ X.kd j = 59 ∧ ∃ g3 k, WQ X J P h g3 j d ∧ mv_i g3 2 6 = 1 ∧ AlQ g3 k s l n (mv_a h 27 0) ∧ PT X J k h' (j + 1) d ∧ mv_i h' 21 = mv_i k 21) ∨ (¬ X.kd j = 59 ∧ Fl h') ∨ (mv_i h 2 9 < 0 ∧ (¬ mv_i h 21 0 = 0 → Fl h'))) := by
  have hpp := W.pp
  have hJ := W.hJ
  obtain ⟨g8, eg8⟩ : ∃ g8, g8 = mv_si (mv_si h 22 10 (nI 0)) 2 6 1 := ⟨_, rfl⟩
  have Q8 : WQ X J P h g8 j d := by rw [eg8]; exact (W.wq.si hpp (Or.inl rfl) _).si hpp (Or.inr ⟨rfl, by omega, by omega⟩) _
  have f7 : mv_i g8 2 7 = 0 := by rw [eg8]; exact eg
  have f9 : mv_i g8 2 9 = mv_i h 2 9 := by rw [eg8]; rfl
  have f26 : mv_i g8 2 6 = 1 := by rw [eg8]; rfl
  have f6 : mv_i (mv_si h 22 10 (nI 0)) 2 7 = 0 := eg
  unfold f_Weaver_finish
  rw [relA (k := 0) (by omega) e10, xhb_s, if_neg (by rw [f6]; decide), xk_s, ← eg8, f7, if_neg (by decide), if_pos rfl]
  unfold f_Weaver_addLet
  by_cases c : mv_i h 2 9 < 0
  · rw [f9, if_pos c, xhv_s]
    rcases fin115 W e10 Q8 with ⟨q, h', e', T', n'⟩ | ⟨q, h', e', w'⟩
    · exact ⟨h', e', Or.inr (Or.inr ⟨c, fun z => Or.inr (by rw [n', Q8.n]; exact z)⟩)⟩
    · exact ⟨h', e', Or.inr (Or.inl ⟨q, w'.fl⟩)⟩
  · rcases hs with hs | ⟨s, es, hs, hl⟩
    · exact absurd hs c
    rw [f9, if_neg c]
    obtain ⟨w, g3, e3, -, Q3, m3, n3⟩ := Q8.em hpp 313 (((mv_i g8 13 9)).toInt64)
    rw [e3, xhb_s]
    have k29 : mv_i g3 2 9 = nI s := by rw [m3, f9]; exact es
    have k137 : mv_i g3 13 7 = nI n := by rw [Q3.kp.i 13 7 (by omega) (by omega) (by omega) (by omega) (by omega)]; exact en
    have k139 : mv_i g3 13 9 = nI l := by rw [Q3.kp.i 13 9 (by omega) (by omega) (by omega) (by omega) (by omega)]; exact el
    obtain ⟨k, ek, A⟩ := al_e g3 hs hl hn k137 k139 (mv_a h 27 0)
    rw [k29, ek, xhv_s, xhv_s]
    have Pk : PT X J k k j d := Q3.pt.of (A.ao 4 (by omega)) (A.ao 5 (by omega)) (by rw [A.b]) (A.i 3 7 (by omega)) (A.i 3 8 (by omega)) (A.i 3 9 (by omega))
    unfold f_Weaver_finish_115
    rcases Pk.tk hJ (k := 59) (by omega) (by omega) with ⟨q, g1, e, T1, n1⟩ | ⟨q, g1, e, w1, -⟩
    · rw [show f_Tokens_take k 59 = _ from e, xhb_s]
      exact ⟨g1, rfl, Or.inl ⟨s, es, hs, hl, q, g3, k, Q3, by rw [m3]; exact f26, A, T1, n1⟩⟩
    · rw [show f_Tokens_take k 59 = _ from e, xhb_s]
      exact ⟨g1, rfl, Or.inr (Or.inl ⟨q, w1.fl⟩)⟩
/-- behind what is assigned -/
theorem fin2_A (W : WA X J P sy h j d) (e10 : mv_i h 22 10 = nI 1) (eg : mv_i h 2 7 = 2 ∨ mv_i h 2 7 = 3) {t : Nat} (et : mv_i h 2 8 = nI t) (ht : t < 32770) (hs : mv_i h 2 9 < 0 ∨ ∃ u, mv_i h 2 9 = nI u ∧ u < 64) : ∃ h', f_Weaver_finish P h = some h' ∧
    ((∃ u, mv_i h 2 9 = nI u ∧ u < 64 ∧ X.kd j = 59 ∧ (mv_a h 27 0 ≤ 0 ∨ mv_a h (P + 1) u ≤ 0 ∨ mv_a h 27 0 = mv_a h (P + 1) u) ∧ WQ X J P h h' (j + 1) d ∧ mv_i h' 2 6 = 1) ∨ ((∀ u, mv_i h 2 9 = nI u → u < 64 → ¬ (X.kd j = 59 ∧ (mv_a h 27 0 ≤ 0 ∨ mv_a h (P + 1) u ≤ 0 ∨ mv_a h 27 0 = mv_a h (P + 1) u))) ∧ Fl h') ∨ (mv_i h 2 9 < 0 ∧ (¬ mv_i h 21 0 = 0 → Fl h'))) := by
  have hpp := W.pp
  have hJ := W.hJ
  obtain ⟨g8, eg8⟩ : ∃ g8, g8 = mv_si (mv_si h 22 10 (nI 0)) 2 6 1 := ⟨_, rfl⟩
  have Q8 : WQ X J P h g8 j d := by rw [eg8]; exact (W.wq.si hpp (Or.inl rfl) _).si hpp (Or.inr ⟨rfl, by omega, by omega⟩) _
  have f7 : mv_i g8 2 7 = mv_i h 2 7 := by rw [eg8]; rfl
  have f9 : mv_i g8 2 9 = mv_i h 2 9 := by rw [eg8]; rfl
  have f8 : mv_i g8 2 8 = nI t := by rw [eg8]; exact et
  have f26 : mv_i g8 2 6 = 1 := by rw [eg8]; rfl
  have fa : mv_a g8 (P + 1) = mv_a h (P + 1) := by rw [eg8]; rfl
  have f6 : mv_i (mv_si h 22 10 (nI 0)) 2 7 = mv_i h 2 7 := rfl
  have ne : ¬ mv_i h 2 7 = 1 ∧ ¬ mv_i h 2 7 = 4 ∧ ¬ mv_i h 2 7 = 0 := by
    rcases eg with e | e <;> rw [e] <;> decide
  unfold f_Weaver_finish
  rw [relA (k := 0) (by omega) e10, xhb_s, f6, if_neg ne.1, xk_s, ← eg8, f7, if_neg ne.2.1, if_neg ne.2.2]
  unfold f_Weaver_assign
  by_cases c : mv_i h 2 9 < 0
  · rw [f9, if_pos c, xhv_s]
    rcases fin115 W e10 Q8 with ⟨q, h', e', T', n'⟩ | ⟨q, h', e', w'⟩
    · exact ⟨h', e', Or.inr (Or.inr ⟨c, fun z => Or.inr (by rw [n', Q8.n]; exact z)⟩)⟩
    · exact ⟨h', e', Or.inr (Or.inl ⟨fun u _ _ z => q z.1, w'.fl⟩)⟩
  rcases hs with hs | ⟨u, eu, hu⟩
  · exact absurd hs c
  -- the assignment itself
  have t42 : ∀ g : mv_H, PT X J g g j d → (∃ z, mv_i g P 17 = nI z ∧ z ≤ 32768) → ∃ h', (xhv (f_Weaver_assign_42 P g) fun g9 => f_Weaver_finish_115 P g9) = some h' ∧ ((X.kd j = 59 ∧ WQ X J P g h' (j + 1) d ∧ mv_i h' 2 = mv_i g 2) ∨ (¬ X.kd j = 59 ∧ Fl h')) := fun g Pg sg => by
    have t63 : ∀ y0 : Int32, ∃ h', (xhv (f_Weaver_assign_63 P y0 g) fun g9 => f_Weaver_finish_115 P g9) = some h' ∧ ((X.kd j = 59 ∧ WQ X J P g h' (j + 1) d ∧ mv_i h' 2 = mv_i g 2) ∨ (¬ X.kd j = 59 ∧ Fl h')) := fun y0 => by
      obtain ⟨w, g3, e3, -, Q3, m3, n3⟩ := (Pg.wq hpp rfl sg).em hpp y0 (((mv_i g 2 9)).toInt64)
      unfold f_Weaver_assign_63
      rw [e3, xhb_s, xhv_s]
      unfold f_Weaver_finish_115
      rcases Q3.pt.tk hJ (k := 59) (by omega) (by omega) with ⟨q, g1, e, T1, n1⟩ | ⟨q, g1, e, w1, -⟩
      · rw [show f_Tokens_take g3 59 = _ from e, xhb_s]
        refine ⟨g1, rfl, Or.inl ⟨q, Q3.tr (T1.wq hpp n1 Q3.sz), ?_⟩⟩
        rw [← m3]
        exact funext fun k => T1.sm.i 2 k (by omega) (by omega)
      · rw [show f_Tokens_take g3 59 = _ from e, xhb_s]
        exact ⟨g1, rfl, Or.inr ⟨q, w1.fl⟩⟩
    unfold f_Weaver_assign_42
    split
    · exact t63 _
    · exact t63 _
  have good : (mv_a h 27 0 ≤ 0 ∨ mv_a h (P + 1) u ≤ 0 ∨ mv_a h 27 0 = mv_a h (P + 1) u) → ∃ h', (xhv (f_Weaver_assign_42 P g8) fun g9 => f_Weaver_finish_115 P g9) = some h' ∧ ((∃ u, mv_i h 2 9 = nI u ∧ u < 64 ∧ X.kd j = 59 ∧ (mv_a h 27 0 ≤ 0 ∨ mv_a h (P + 1) u ≤ 0 ∨ mv_a h 27 0 = mv_a h (P + 1) u) ∧ WQ X J P h h' (j + 1) d ∧ mv_i h' 2 6 = 1) ∨ ((∀ u, mv_i h 2 9 = nI u → u < 64 → ¬ (X.kd j = 59 ∧ (mv_a h 27 0 ≤ 0 ∨ mv_a h (P + 1) u ≤ 0 ∨ mv_a h 27 0 = mv_a h (P + 1) u))) ∧ Fl h') ∨ (mv_i h 2 9 < 0 ∧ (¬ mv_i h 21 0 = 0 → Fl h'))) := fun hw => by
    obtain ⟨h', e', r⟩ := t42 g8 Q8.pt Q8.sz
    refine ⟨h', e', ?_⟩
    rcases r with ⟨r1, r2, r3⟩ | ⟨r1, r2⟩
    · exact Or.inl ⟨u, eu, hu, r1, hw, Q8.tr r2, by rw [r3]; exact f26⟩
    · exact Or.inr (Or.inl ⟨fun u' _ _ z => r1 z.1, r2⟩)
  rw [f9, if_neg c, eu, xvi_n hu (by decide), cond_true, cln (by omega), fa]
  by_cases c1 : mv_a h 27 0 ≤ 0
  · rw [if_pos c1]
    obtain ⟨h', e', r⟩ := good (Or.inl c1)
    rw [eu] at r
    exact ⟨h', e', r⟩
  rw [if_neg c1]
  by_cases c2 : mv_a h (P + 1) u ≤ 0
  · rw [if_pos c2]
    obtain ⟨h', e', r⟩ := good (Or.inr (Or.inl c2))
    rw [eu] at r
    exact ⟨h', e', r⟩
  rw [if_neg c2]
  by_cases c3 : mv_a h 27 0 = mv_a h (P + 1) u
  · rw [if_pos c3]
    obtain ⟨h', e', r⟩ := good (Or.inr (Or.inr c3))
    rw [eu] at r
    exact ⟨h', e', r⟩
  rw [if_neg c3, f8]
  obtain ⟨k, ek, Tk, nk⟩ := Q8.pt.tl ht (x := 4) (by decide)
  obtain ⟨z0, ez0, hz0⟩ := Q8.sz
  obtain ⟨h', e', r⟩ := t42 k Tk.rb ⟨z0, by rw [Tk.sm.i P 17 (by omega) (by omega)]; exact ez0, hz0⟩
  rw [ek, xhv_s]
  refine ⟨h', e', Or.inr (Or.inl ⟨fun u' eu' hu' z => ?_, ?_⟩)⟩
  · have : u = u' := (nIinj (by omega) (by omega)).mp eu'
    rw [← this] at z
    rcases z.2 with z | z | z
    · exact c1 z
    · exact c2 z
    · exact c3 z
  · rcases r with ⟨r1, r2, r3⟩ | ⟨r1, r2⟩
    · exact Or.inr (by rw [r2.n]; exact nk)
    · exact r2
end FIN2
/-! what the class knows, and A's names, things, ops, blocks -/
/-- a name, without letters -/
def KN (P : Nat) (h : mv_H) (sy : List Nat → Nat) (lkB : LK) (th le : Nat) (x : List Nat) : Prop :=
  (mv_a h 14 (sy x) = 0 ∧ (lkB x).1 = 0) ∨
  (∃ v u w, (v = 1 ∨ v = 2) ∧ mv_a h 14 (sy x) = nI v ∧ mv_a h 15 (sy x) = nI u ∧ u < th ∧ mv_a h (P + 1) u = nI w ∧ lkB x = (v, w) ∧ 0 < w ∧ w ≤ 64) ∨
  (∃ u w, mv_a h 14 (sy x) = 3 ∧ mv_a h 15 (sy x) = nI u ∧ u < le ∧ mv_a h 20 u = nI w ∧ lkB x = (3, w) ∧ 0 < w ∧ w ≤ 64)
/-- the letters of the op's code -/
def LTr (h : mv_H) (C : List Nat) : Prop := ∀ c, c < 128 → mv_a h 17 c = nI (cnF (lF (fun i => C.getD i 0) c) C.length) ∧ mv_b h 18 c = nJ (mkN (lF (fun i => C.getD i 0) c) C.length)
/-- lets in scope, the latest first -/
def ScR (sy : List Nat → Nat) (h : mv_H) : List (List Nat) → Prop
  | [] => True
  | x :: S => mv_a h 19 S.length = nI (sy x) ∧ ScR sy h S
/-- blocks, the innermost first -/
def BlR (h : mv_H) (C : List Nat) (lk1 : LK) : List (Nat × LK) → LK → List (List Nat) → Prop
  | [], lkB, SC => SC = [] ∧ ∀ x, lkB x = lk1 x
  | b :: bl, lkB, SC => ∃ S1 S0 lkB0, SC = S1 ++ S0 ∧ mv_a h 28 bl.length = nI b.1 ∧ b.1 < 400 ∧ mv_a h 31 bl.length = nI S0.length ∧ (∀ x, b.2 x = lkO lkB0 C x) ∧ (∀ x, x ∈ S1 → (lkB0 x).1 = 0) ∧ (∀ x, ¬ x ∈ S1 → lkB0 x = lkB x) ∧ (b.1 = 206 ↔ bl = []) ∧ BlR h C lk1 bl lkB0 S0
def RN (X : TX) (J P : Nat) (sy : List Nat → Nat) (h : mv_H) (s : SI) (bl : List (Nat × LK)) (lkB : LK) (C : List Nat) (SC : List (List Nat)) (le : Nat) : Prop := (SyQ X J sy h) ∧ (mv_i h 3 6 = nI (J + 2)) ∧ (mv_i h P 0 = nI s.bits) ∧ (s.bits ≤ 64) ∧ (mv_i h P 1 = nI s.tl.length) ∧ (s.tl.length ≤ 64) ∧ (mv_i h P 7 = nI s.cells) ∧ (s.cells ≤ 65536) ∧ (mv_i h P 9 < 0 ↔ s.fe = none) ∧ (mv_i h P 10 = nI s.ops.length) ∧ (s.ops.length ≤ 512) ∧ (∀ i, i ≤ J → X.kd i = 3 → mv_a h 16 (sy (X.nm i)) = if X.nm i ∈ s.ops.map Prod.fst then 1 else 0) ∧ (∀ k, k < s.ops.length → mv_b h (P + 5) k = nJ (mkN (fun i => is01 ((s.ops.getD k ([], [])).2.getD i 0)) s.bits) ∧ mv_b h (P + 6) k = nJ (mkN (fun i => is1 ((s.ops.getD k ([], [])).2.getD i 0)) s.bits) ∧ (s.ops.getD k ([], [])).2.length = s.bits) ∧ (∀ i, i ≤ J → X.kd i = 3 → KN P h sy lkB s.tl.length le (X.nm i)) ∧ (LTr h C) ∧ (C.length ≤ 64) ∧ (mv_i h 13 9 = nI le) ∧ (le ≤ 64) ∧ (mv_i h 13 7 = nI SC.length) ∧ (SC.length ≤ le) ∧ (ScR sy h SC) ∧ (∀ x, x ∈ SC → ∃ i, i ≤ J ∧ X.kd i = 3 ∧ X.nm i = x) ∧ (∀ x, ¬ (s.lk x).1 = 3) ∧ (mv_i h 2 15 = nI bl.length) ∧ (BlR h C s.lk bl lkB SC) ∧ (∀ i, i < s.tl.length → mv_a h (P + 1) i = nI (s.tl.getD i (0, 0, false)).1 ∧ mv_a h (P + 2) i = nI (s.tl.getD i (0, 0, false)).2.1 ∧ (s.tl.getD i (0, 0, false)).1 ≤ 64 ∧ (s.tl.getD i (0, 0, false)).2.1 ≤ 65536) ∧ (∀ k, k < s.ops.length → ∀ i, i < s.bits → mv_a h (P + 8) (k * 64 + i) = vp_nar .byte (nI ((s.ops.getD k ([], [])).2.getD i 0)))
theorem RN.S {X : TX} {J P : Nat} {sy : List Nat → Nat} {h : mv_H} {s : SI} {bl : List (Nat × LK)} {lkB : LK} {C : List Nat} {SC : List (List Nat)} {le : Nat} (h99 : RN X J P sy h s bl lkB C SC le) : SyQ X J sy h := h99.1
theorem RN.h36 {X : TX} {J P : Nat} {sy : List Nat → Nat} {h : mv_H} {s : SI} {bl : List (Nat × LK)} {lkB : LK} {C : List Nat} {SC : List (List Nat)} {le : Nat} (h99 : RN X J P sy h s bl lkB C SC le) : mv_i h 3 6 = nI (J + 2) := h99.2.1
theorem RN.b0 {X : TX} {J P : Nat} {sy : List Nat → Nat} {h : mv_H} {s : SI} {bl : List (Nat × LK)} {lkB : LK} {C : List Nat} {SC : List (List Nat)} {le : Nat} (h99 : RN X J P sy h s bl lkB C SC le) : mv_i h P 0 = nI s.bits := h99.2.2.1
theorem RN.b2 {X : TX} {J P : Nat} {sy : List Nat → Nat} {h : mv_H} {s : SI} {bl : List (Nat × LK)} {lkB : LK} {C : List Nat} {SC : List (List Nat)} {le : Nat} (h99 : RN X J P sy h s bl lkB C SC le) : s.bits ≤ 64 := h99.2.2.2.1
theorem RN.t0 {X : TX} {J P : Nat} {sy : List Nat → Nat} {h : mv_H} {s : SI} {bl : List (Nat × LK)} {lkB : LK} {C : List Nat} {SC : List (List Nat)} {le : Nat} (h99 : RN X J P sy h s bl lkB C SC le) : mv_i h P 1 = nI s.tl.length := h99.2.2.2.2.1
theorem RN.t2 {X : TX} {J P : Nat} {sy : List Nat → Nat} {h : mv_H} {s : SI} {bl : List (Nat × LK)} {lkB : LK} {C : List Nat} {SC : List (List Nat)} {le : Nat} (h99 : RN X J P sy h s bl lkB C SC le) : s.tl.length ≤ 64 := h99.2.2.2.2.2.1
theorem RN.c0 {X : TX} {J P : Nat} {sy : List Nat → Nat} {h : mv_H} {s : SI} {bl : List (Nat × LK)} {lkB : LK} {C : List Nat} {SC : List (List Nat)} {le : Nat} (h99 : RN X J P sy h s bl lkB C SC le) : mv_i h P 7 = nI s.cells := h99.2.2.2.2.2.2.1
theorem RN.c2 {X : TX} {J P : Nat} {sy : List Nat → Nat} {h : mv_H} {s : SI} {bl : List (Nat × LK)} {lkB : LK} {C : List Nat} {SC : List (List Nat)} {le : Nat} (h99 : RN X J P sy h s bl lkB C SC le) : s.cells ≤ 65536 := h99.2.2.2.2.2.2.2.1
theorem RN.fe {X : TX} {J P : Nat} {sy : List Nat → Nat} {h : mv_H} {s : SI} {bl : List (Nat × LK)} {lkB : LK} {C : List Nat} {SC : List (List Nat)} {le : Nat} (h99 : RN X J P sy h s bl lkB C SC le) : mv_i h P 9 < 0 ↔ s.fe = none := h99.2.2.2.2.2.2.2.2.1
theorem RN.o0 {X : TX} {J P : Nat} {sy : List Nat → Nat} {h : mv_H} {s : SI} {bl : List (Nat × LK)} {lkB : LK} {C : List Nat} {SC : List (List Nat)} {le : Nat} (h99 : RN X J P sy h s bl lkB C SC le) : mv_i h P 10 = nI s.ops.length := h99.2.2.2.2.2.2.2.2.2.1
theorem RN.o2 {X : TX} {J P : Nat} {sy : List Nat → Nat} {h : mv_H} {s : SI} {bl : List (Nat × LK)} {lkB : LK} {C : List Nat} {SC : List (List Nat)} {le : Nat} (h99 : RN X J P sy h s bl lkB C SC le) : s.ops.length ≤ 512 := h99.2.2.2.2.2.2.2.2.2.2.1
theorem RN.on {X : TX} {J P : Nat} {sy : List Nat → Nat} {h : mv_H} {s : SI} {bl : List (Nat × LK)} {lkB : LK} {C : List Nat} {SC : List (List Nat)} {le : Nat} (h99 : RN X J P sy h s bl lkB C SC le) : ∀ i, i ≤ J → X.kd i = 3 → mv_a h 16 (sy (X.nm i)) = if X.nm i ∈ s.ops.map Prod.fst then 1 else 0 := h99.2.2.2.2.2.2.2.2.2.2.2.1
theorem RN.oc {X : TX} {J P : Nat} {sy : List Nat → Nat} {h : mv_H} {s : SI} {bl : List (Nat × LK)} {lkB : LK} {C : List Nat} {SC : List (List Nat)} {le : Nat} (h99 : RN X J P sy h s bl lkB C SC le) : ∀ k, k < s.ops.length → mv_b h (P + 5) k = nJ (mkN (fun i => is01 ((s.ops.getD k ([], [])).2.getD i 0)) s.bits) ∧ mv_b h (P + 6) k = nJ (mkN (fun i => is1 ((s.ops.getD k ([], [])).2.getD i 0)) s.bits) ∧ (s.ops.getD k ([], [])).2.length = s.bits := h99.2.2.2.2.2.2.2.2.2.2.2.2.1
theorem RN.kn {X : TX} {J P : Nat} {sy : List Nat → Nat} {h : mv_H} {s : SI} {bl : List (Nat × LK)} {lkB : LK} {C : List Nat} {SC : List (List Nat)} {le : Nat} (h99 : RN X J P sy h s bl lkB C SC le) : ∀ i, i ≤ J → X.kd i = 3 → KN P h sy lkB s.tl.length le (X.nm i) := h99.2.2.2.2.2.2.2.2.2.2.2.2.2.1
theorem RN.lt {X : TX} {J P : Nat} {sy : List Nat → Nat} {h : mv_H} {s : SI} {bl : List (Nat × LK)} {lkB : LK} {C : List Nat} {SC : List (List Nat)} {le : Nat} (h99 : RN X J P sy h s bl lkB C SC le) : LTr h C := h99.2.2.2.2.2.2.2.2.2.2.2.2.2.2.1
theorem RN.cl {X : TX} {J P : Nat} {sy : List Nat → Nat} {h : mv_H} {s : SI} {bl : List (Nat × LK)} {lkB : LK} {C : List Nat} {SC : List (List Nat)} {le : Nat} (h99 : RN X J P sy h s bl lkB C SC le) : C.length ≤ 64 := h99.2.2.2.2.2.2.2.2.2.2.2.2.2.2.2.1
theorem RN.l0 {X : TX} {J P : Nat} {sy : List Nat → Nat} {h : mv_H} {s : SI} {bl : List (Nat × LK)} {lkB : LK} {C : List Nat} {SC : List (List Nat)} {le : Nat} (h99 : RN X J P sy h s bl lkB C SC le) : mv_i h 13 9 = nI le := h99.2.2.2.2.2.2.2.2.2.2.2.2.2.2.2.2.1
theorem RN.l2 {X : TX} {J P : Nat} {sy : List Nat → Nat} {h : mv_H} {s : SI} {bl : List (Nat × LK)} {lkB : LK} {C : List Nat} {SC : List (List Nat)} {le : Nat} (h99 : RN X J P sy h s bl lkB C SC le) : le ≤ 64 := h99.2.2.2.2.2.2.2.2.2.2.2.2.2.2.2.2.2.1
theorem RN.s0 {X : TX} {J P : Nat} {sy : List Nat → Nat} {h : mv_H} {s : SI} {bl : List (Nat × LK)} {lkB : LK} {C : List Nat} {SC : List (List Nat)} {le : Nat} (h99 : RN X J P sy h s bl lkB C SC le) : mv_i h 13 7 = nI SC.length := h99.2.2.2.2.2.2.2.2.2.2.2.2.2.2.2.2.2.2.1
theorem RN.s2 {X : TX} {J P : Nat} {sy : List Nat → Nat} {h : mv_H} {s : SI} {bl : List (Nat × LK)} {lkB : LK} {C : List Nat} {SC : List (List Nat)} {le : Nat} (h99 : RN X J P sy h s bl lkB C SC le) : SC.length ≤ le := h99.2.2.2.2.2.2.2.2.2.2.2.2.2.2.2.2.2.2.2.1
theorem RN.sr {X : TX} {J P : Nat} {sy : List Nat → Nat} {h : mv_H} {s : SI} {bl : List (Nat × LK)} {lkB : LK} {C : List Nat} {SC : List (List Nat)} {le : Nat} (h99 : RN X J P sy h s bl lkB C SC le) : ScR sy h SC := h99.2.2.2.2.2.2.2.2.2.2.2.2.2.2.2.2.2.2.2.2.1
theorem RN.sd {X : TX} {J P : Nat} {sy : List Nat → Nat} {h : mv_H} {s : SI} {bl : List (Nat × LK)} {lkB : LK} {C : List Nat} {SC : List (List Nat)} {le : Nat} (h99 : RN X J P sy h s bl lkB C SC le) : ∀ x, x ∈ SC → ∃ i, i ≤ J ∧ X.kd i = 3 ∧ X.nm i = x := h99.2.2.2.2.2.2.2.2.2.2.2.2.2.2.2.2.2.2.2.2.2.1
theorem RN.q3 {X : TX} {J P : Nat} {sy : List Nat → Nat} {h : mv_H} {s : SI} {bl : List (Nat × LK)} {lkB : LK} {C : List Nat} {SC : List (List Nat)} {le : Nat} (h99 : RN X J P sy h s bl lkB C SC le) : ∀ x, ¬ (s.lk x).1 = 3 := h99.2.2.2.2.2.2.2.2.2.2.2.2.2.2.2.2.2.2.2.2.2.2.1
theorem RN.k0 {X : TX} {J P : Nat} {sy : List Nat → Nat} {h : mv_H} {s : SI} {bl : List (Nat × LK)} {lkB : LK} {C : List Nat} {SC : List (List Nat)} {le : Nat} (h99 : RN X J P sy h s bl lkB C SC le) : mv_i h 2 15 = nI bl.length := h99.2.2.2.2.2.2.2.2.2.2.2.2.2.2.2.2.2.2.2.2.2.2.2.1
theorem RN.br {X : TX} {J P : Nat} {sy : List Nat → Nat} {h : mv_H} {s : SI} {bl : List (Nat × LK)} {lkB : LK} {C : List Nat} {SC : List (List Nat)} {le : Nat} (h99 : RN X J P sy h s bl lkB C SC le) : BlR h C s.lk bl lkB SC := h99.2.2.2.2.2.2.2.2.2.2.2.2.2.2.2.2.2.2.2.2.2.2.2.2.1
theorem RN.tt {X : TX} {J P : Nat} {sy : List Nat → Nat} {h : mv_H} {s : SI} {bl : List (Nat × LK)} {lkB : LK} {C : List Nat} {SC : List (List Nat)} {le : Nat} (h99 : RN X J P sy h s bl lkB C SC le) : ∀ i, i < s.tl.length → mv_a h (P + 1) i = nI (s.tl.getD i (0, 0, false)).1 ∧ mv_a h (P + 2) i = nI (s.tl.getD i (0, 0, false)).2.1 ∧ (s.tl.getD i (0, 0, false)).1 ≤ 64 ∧ (s.tl.getD i (0, 0, false)).2.1 ≤ 65536 := h99.2.2.2.2.2.2.2.2.2.2.2.2.2.2.2.2.2.2.2.2.2.2.2.2.2.1
theorem RN.sgr {X : TX} {J P : Nat} {sy : List Nat → Nat} {h : mv_H} {s : SI} {bl : List (Nat × LK)} {lkB : LK} {C : List Nat} {SC : List (List Nat)} {le : Nat} (h99 : RN X J P sy h s bl lkB C SC le) : ∀ k, k < s.ops.length → ∀ i, i < s.bits → mv_a h (P + 8) (k * 64 + i) = vp_nar .byte (nI ((s.ops.getD k ([], [])).2.getD i 0)) := h99.2.2.2.2.2.2.2.2.2.2.2.2.2.2.2.2.2.2.2.2.2.2.2.2.2.2
theorem KN.fr {P : Nat} {h h' : mv_H} {sy : List Nat → Nat} {lkB : LK} {th le : Nat} {x : List Nat} (K : KN P h sy lkB th le x) (e14 : mv_a h' 14 (sy x) = mv_a h 14 (sy x)) (e15 : mv_a h' 15 (sy x) = mv_a h 15 (sy x)) (ew : ∀ u, u < th → mv_a h' (P + 1) u = mv_a h (P + 1) u) (e20 : ∀ u, u < le → mv_a h' 20 u = mv_a h 20 u) : KN P h' sy lkB th le x := by
  unfold KN
  rw [e14, e15]
  rcases K with K | ⟨v, u, w, k1, k2, k3, k4, k5, k6⟩ | ⟨u, w, k2, k3, k4, k5, k6⟩
  · exact Or.inl K
  · exact Or.inr (Or.inl ⟨v, u, w, k1, k2, k3, k4, by rw [ew u k4]; exact k5, k6⟩)
  · exact Or.inr (Or.inr ⟨u, w, k2, k3, k4, by rw [e20 u k4]; exact k5, k6⟩)
theorem KN.mo {P : Nat} {h : mv_H} {sy : List Nat → Nat} {lkB : LK} {th le th' le' : Nat} {x : List Nat} (K : KN P h sy lkB th le x) (h1 : th ≤ th') (h2 : le ≤ le') : KN P h sy lkB th' le' x := by
  rcases K with K | ⟨v, u, w, k1, k2, k3, k4, k5⟩ | ⟨u, w, k2, k3, k4, k5⟩
  · exact Or.inl K
  · exact Or.inr (Or.inl ⟨v, u, w, k1, k2, k3, by omega, k5⟩)
  · exact Or.inr (Or.inr ⟨u, w, k2, k3, by omega, k5⟩)
theorem KN.lk {P : Nat} {h : mv_H} {sy : List Nat → Nat} {lkB lkB' : LK} {th le : Nat} {x : List Nat} (K : KN P h sy lkB th le x) (e : lkB' x = lkB x) : KN P h sy lkB' th le x := by
  unfold KN
  rw [e]; exact K
theorem ScR.fr {sy : List Nat → Nat} {h h' : mv_H} : ∀ {SC : List (List Nat)}, ScR sy h SC → (∀ i, i < SC.length → mv_a h' 19 i = mv_a h 19 i) → ScR sy h' SC := by
  intro SC
  induction SC with
  | nil => intro _ _; exact trivial
  | cons x S ih =>
    intro hs e
    refine ⟨?_, ih hs.2 (fun i q => e i (Nat.lt_succ_of_lt q))⟩
    rw [e S.length (Nat.lt_succ_self _)]; exact hs.1
theorem BlR.fr {h h' : mv_H} {C : List Nat} {lk1 : LK} : ∀ {bl : List (Nat × LK)} {lkB : LK} {SC : List (List Nat)}, BlR h C lk1 bl lkB SC → (∀ i, i < bl.length → mv_a h' 28 i = mv_a h 28 i ∧ mv_a h' 31 i = mv_a h 31 i) → BlR h' C lk1 bl lkB SC := by
  intro bl
  induction bl with
  | nil => intro lkB SC hB _; exact hB
  | cons b bl ih =>
    intro lkB SC hB e
    obtain ⟨S1, S0, lkB0, k1, k2, k3, k4, k5, k6, k7, k8, k9⟩ := hB
    obtain ⟨e1, e2⟩ := e bl.length (Nat.lt_succ_self _)
    exact ⟨S1, S0, lkB0, k1, by rw [e1]; exact k2, k3, by rw [e2]; exact k4, k5, k6, k7, k8, ih k9 (fun i q => e i (Nat.lt_succ_of_lt q))⟩
theorem LTr.fr {h h' : mv_H} {C : List Nat} (L : LTr h C) (e17 : mv_a h' 17 = mv_a h 17) (e18 : mv_b h' 18 = mv_b h 18) : LTr h' C := fun c hc => by rw [e17, e18]; exact L c hc
section RNS
variable {X : TX} {J P : Nat} {sy : List Nat → Nat} {h h' : mv_H} {s : SI} {bl : List (Nat × LK)} {lkB : LK} {C : List Nat} {SC : List (List Nat)} {le : Nat}
/-- names and blocks stand -/
theorem RN.kp (R : RN X J P sy h s bl lkB C SC le) (hpp : P = 32 ∨ P = 48) (K : Kp P h h') : RN X J P sy h' s bl lkB C SC le := ⟨
  R.S.fr (K.a 1 (by omega) (by omega)) (K.a 5 (by omega) (by omega)) (K.a 8 (by omega) (by omega)) (K.a 9 (by omega) (by omega)) (K.b 6 (by omega)),
  (K.i 3 6 (by omega) (by omega) (by omega) (by omega) (by omega)).trans R.h36,
  (K.i P 0 (by omega) (by omega) (by omega) (by omega) (by omega)).trans R.b0,
  R.b2,
  (K.i P 1 (by omega) (by omega) (by omega) (by omega) (by omega)).trans R.t0,
  R.t2,
  (K.i P 7 (by omega) (by omega) (by omega) (by omega) (by omega)).trans R.c0,
  R.c2,
  by rw [K.i P 9 (by omega) (by omega) (by omega) (by omega) (by omega)]; exact R.fe,
  (K.i P 10 (by omega) (by omega) (by omega) (by omega) (by omega)).trans R.o0,
  R.o2,
  fun i h1 h2 => by rw [K.a 16 (by omega) (by omega)]; exact R.on i h1 h2,
  fun k hk => by rw [K.b (P + 5) (by omega), K.b (P + 6) (by omega)]; exact R.oc k hk,
  fun i h1 h2 => (R.kn i h1 h2).fr (by rw [K.a 14 (by omega) (by omega)]) (by rw [K.a 15 (by omega) (by omega)]) (fun u _ => by rw [K.a (P + 1) (by omega) (by omega)]) (fun u _ => by rw [K.a 20 (by omega) (by omega)]),
  R.lt.fr (K.a 17 (by omega) (by omega)) (K.b 18 (by omega)),
  R.cl,
  (K.i 13 9 (by omega) (by omega) (by omega) (by omega) (by omega)).trans R.l0,
  R.l2,
  (K.i 13 7 (by omega) (by omega) (by omega) (by omega) (by omega)).trans R.s0,
  R.s2,
  R.sr.fr (fun i _ => by rw [K.a 19 (by omega) (by omega)]),
  R.sd,
  R.q3,
  (K.i 2 15 (by omega) (by omega) (by omega) (by omega) (by omega)).trans R.k0,
  R.br.fr (fun i _ => by rw [K.a 28 (by omega) (by omega), K.a 31 (by omega) (by omega)]; exact ⟨rfl, rfl⟩),
  fun i hi => by rw [K.a (P + 1) (by omega) (by omega), K.a (P + 2) (by omega) (by omega)]; exact R.tt i hi,
  fun k hk i hi => by rw [K.a (P + 8) (by omega) (by omega)]; exact R.sgr k hk i hi⟩
end RNS
/-! letters -/
theorem cnF_s (f : Nat → Bool) : ∀ k, cnF f (k + 1) = (if f 0 = true then 1 else 0) + cnF (fun i => f (i + 1)) k := by
  intro k
  induction k with
  | zero => exact Nat.add_comm _ _
  | succ k ih =>
    show cnF f (k + 1) + (if f (k + 1) = true then 1 else 0) = (if f 0 = true then 1 else 0) + (cnF (fun i => f (i + 1)) k + (if f (k + 1) = true then 1 else 0))
    rw [ih]; omega
theorem cnF_l (g : Nat → Bool) : ∀ (C : List Nat), cnF (fun i => g (C.getD i 0)) C.length = C.countP g := by
  intro C
  induction C with
  | nil => rfl
  | cons a C ih =>
    show cnF (fun i => g ((a :: C).getD i 0)) (C.length + 1) = _
    rw [cnF_s, List.countP_cons]
    have e : (fun i => g ((a :: C).getD (i + 1) 0)) = fun i => g (C.getD i 0) := rfl
    rw [e, ih]
    show (if g a = true then 1 else 0) + _ = _
    omega
theorem ltC {c : Nat} (hc : isl c = true) (C : List Nat) : cnF (lF (fun i => C.getD i 0) c) C.length = cntL c C := by
  have e : lF (fun i => C.getD i 0) c = fun i => (fun x => Nat.beq x c) (C.getD i 0) := by
    funext i
    unfold lF
    rw [show Nat.ble 65 c = true from Nat.ble_eq_true_of_le (by have := isl_b hc; omega)]; rfl
  rw [e]
  exact cnF_l (fun x => Nat.beq x c) C
theorem ltr_c (x : List Nat) : (∃ c, x = [c] ∧ isl c = true ∧ ltr x = c) ∨ ((∀ c, x = [c] → ¬ isl c = true) ∧ ltr x = 0) := by
  cases x with
  | nil => exact Or.inr ⟨fun c q => (by cases q), rfl⟩
  | cons c l =>
    cases l with
    | nil =>
      by_cases z : isl c = true
      · exact Or.inl ⟨c, rfl, z, by show (if isl c = true then c else 0) = c; rw [if_pos z]⟩
      · exact Or.inr ⟨fun c' q => by have := (List.cons.inj q).1; rw [← this]; exact z, by show (if isl c = true then c else 0) = 0; rw [if_neg z]⟩
    | cons a l => exact Or.inr ⟨fun c' q => (by cases q), rfl⟩
/-- a name that is a letter of the code, or none -/
theorem lkO_c (lkB : LK) (C : List Nat) (x : List Nat) (h : mv_H) (L : LTr h C) (hC : C.length ≤ 64) : (∃ c, x = [c] ∧ isl c = true ∧ ltr x = c ∧ 0 < cntL c C ∧ cntL c C ≤ 64 ∧ lkO lkB C x = (3, cntL c C) ∧ ¬ mv_a h 17 (ltr x) ≤ 0 ∧ mv_b h 18 (ltr x) = nJ (mkN (lF (fun i => C.getD i 0) c) C.length)) ∨ (lkO lkB C x = lkB x ∧ mv_a h 17 (ltr x) ≤ 0) := by
  rcases ltr_c x with ⟨c, e1, e2, e3⟩ | ⟨e1, e2⟩
  · have hb := isl_b e2
    obtain ⟨l1, l2⟩ := L c (by omega)
    rw [ltC e2 C] at l1
    have hn : cntL c C ≤ C.length := List.countP_le_length
    have eo : lkO lkB C x = if isl c = true ∧ 0 < cntL c C then (3, cntL c C) else lkB x := by rw [e1]; rfl
    by_cases z : 0 < cntL c C
    · refine Or.inl ⟨c, e1, e2, e3, z, by omega, by rw [eo, if_pos ⟨e2, z⟩], ?_, by rw [e3]; exact l2⟩
      rw [e3, l1]
      exact fun w => by have := (nIle (b := 0) (by omega) (by omega)).mp w; omega
    · refine Or.inr ⟨by rw [eo, if_neg (fun w => z w.2)], ?_⟩
      rw [e3, l1, show cntL c C = 0 by omega]; decide
  · obtain ⟨l1, -⟩ := L 0 (by omega)
    refine Or.inr ⟨?_, ?_⟩
    · cases x with
      | nil => rfl
      | cons c l =>
        cases l with
        | nil =>
          show (if isl c = true ∧ 0 < cntL c C then (3, cntL c C) else lkB [c]) = lkB [c]
          rw [if_neg (fun w => e1 c rfl w.1)]
        | cons a l => rfl
    · rw [e2, l1]
      have : ∀ n, cnF (lF (fun i => C.getD i 0) 0) n = 0 := by
        intro n
        induction n with
        | zero => rfl
        | succ n ih => show cnF _ n + (if lF (fun i => C.getD i 0) 0 n = true then 1 else 0) = 0; rw [ih]; rfl
      rw [this]; decide
section KOF
variable {X : TX} {J P : Nat} {sy : List Nat → Nat} {h : mv_H} {s : SI} {bl : List (Nat × LK)} {lkB : LK} {C : List Nat} {SC : List (List Nat)} {le : Nat} (R : RN X J P sy h s bl lkB C SC le) {i : Nat} (hi : i ≤ J) (hk : X.kd i = 3)
/-- what the class takes a name for is what A does -/
theorem RN.kof (R : RN X J P sy h s bl lkB C SC le) (hi : i ≤ J) (hk : X.kd i = 3) : (kOf h sy (X.nm i) = 0 ∧ (lkO lkB C (X.nm i)).1 = 0) ∨ (∃ v u w, (v = 1 ∨ v = 2) ∧ kOf h sy (X.nm i) = nI v ∧ mv_a h 15 (sy (X.nm i)) = nI u ∧ u < s.tl.length ∧ mv_a h (P + 1) u = nI w ∧ lkO lkB C (X.nm i) = (v, w) ∧ 0 < w ∧ w ≤ 64) ∨ ((kOf h sy (X.nm i) = 3 ∨ kOf h sy (X.nm i) = 4) ∧ (lkO lkB C (X.nm i)).1 = 3) := by
  unfold kOf
  rcases lkO_c lkB C (X.nm i) h R.lt R.cl with ⟨c, -, -, -, -, -, e, n, -⟩ | ⟨e, n⟩
  · rw [if_neg n, e]; exact Or.inr (Or.inr ⟨Or.inr rfl, rfl⟩)
  · rw [if_pos n, e]
    rcases R.kn i hi hk with K | ⟨v, u, w, k1, k2, k3, k4, k5, k6, k7, k8⟩ | ⟨u, w, k2, k3, k4, k5, k6, k7, k8⟩
    · exact Or.inl K
    · exact Or.inr (Or.inl ⟨v, u, w, k1, k2, k3, k4, k5, k6, k7, k8⟩)
    · exact Or.inr (Or.inr ⟨Or.inl k2, by rw [k6]⟩)
/-- what an EXPR reads of a name -/
theorem RN.nvi (R : RN X J P sy h s bl lkB C SC le) (hi : i ≤ J) (hk : X.kd i = 3) {lk : LK} (el : ∀ x, lk x = lkO lkB C x) : NVi X P h lk i := by
  obtain ⟨b1, b2, b3⟩ := R.S.t i hi hk
  refine ⟨sy (X.nm i), ltr (X.nm i), b1, b2, ltr_b _, b3, ?_⟩
  rw [el]
  rcases lkO_c lkB C (X.nm i) h R.lt R.cl with ⟨c, -, hc, -, n1, n2, e, n, m⟩ | ⟨e, n⟩
  · refine Or.inl ⟨n, cntL c C, e, n1, by omega, fun g => ?_⟩
    have hp : 2 ^ C.length ≤ 2 ^ 64 := Nat.pow_le_pow_right (by omega) R.cl
    have := mkN_b (lF (fun i => C.getD i 0) c) C.length
    rw [m, bc_n g (by omega), pcK_m _ _ 64 R.cl, ltC hc C]
  · refine Or.inr ⟨n, ?_⟩
    rw [e]
    have t2 := R.t2
    have l2 := R.l2
    rcases R.kn i hi hk with K | ⟨v, u, w, k1, k2, k3, k4, k5, k6, k7, k8⟩ | ⟨u, w, k2, k3, k4, k5, k6, k7, k8⟩
    · exact Or.inl K
    · exact Or.inr (Or.inl ⟨v, u, w, k1, k2, k3, by omega, k5, k6, k7, by omega⟩)
    · exact Or.inr (Or.inr ⟨u, w, k2, k3, by omega, k5, k6, k7, by omega⟩)
end KOF
theorem lkO_g {lk lk' : LK} (C : List Nat) {x : List Nat} (e : lk x = lk' x) : lkO lk C x = lkO lk' C x := by
  cases x with
  | nil => exact e
  | cons c l =>
    cases l with
    | nil =>
      show (if isl c = true ∧ 0 < cntL c C then (3, cntL c C) else lk [c]) = (if isl c = true ∧ 0 < cntL c C then (3, cntL c C) else lk' [c])
      rw [e]
    | cons a l => exact e
theorem lkO_n (lk : LK) (x : List Nat) : lkO lk [] x = lk x := by
  cases x with
  | nil => rfl
  | cons c l =>
    cases l with
    | nil =>
      show (if isl c = true ∧ 0 < cntL c [] then (3, cntL c []) else lk [c]) = _
      rw [if_neg (fun z => absurd z.2 (Nat.lt_irrefl 0))]
    | cons a l => rfl
section STEP
variable {X : TX} {J P : Nat} {sy : List Nat → Nat} {h g h' : mv_H} {s : SI} {bl : List (Nat × LK)} {lkB : LK} {C : List Nat} {SC : List (List Nat)} {le : Nat} (hpp : P = 32 ∨ P = 48)
/-- a THING more -/
theorem RN.th (hpp : P = 32 ∨ P = 48) (R : RN X J P sy g s [] lkB C SC le) {i v w n : Nat} {zz : Int32} (z : Bool) (hi : i ≤ J) (hk : X.kd i = 3) (Q : ThQ P g h' (sy (X.nm i)) s.tl.length (nI v) (nI w) (nI n) zz) (hv : v = 1 ∨ v = 2) (hw : 0 < w ∧ w ≤ 64) (ht : s.tl.length < 64) (hc : s.cells + n ≤ 65536) : RN X J P sy h' (SI.mk (s.bits) (updK s.lk (X.nm i) (v, w)) (s.tl ++ [(w, n, z)]) (s.cells + n) (s.fe) (s.ops)) [] (updK lkB (X.nm i) (v, w)) C SC le := by
  have ea : ∀ r, ¬ (r = 14 ∨ r = 15 ∨ (P + 1 ≤ r ∧ r ≤ P + 4)) → mv_a h' r = mv_a g r := Q.ao
  have el : (s.tl ++ [(w, n, z)]).length = s.tl.length + 1 := by rw [List.length_append]; rfl
  have en : nI s.cells + nI n = nI (s.cells + n) := by
    have := R.c2
    exact Int32.toInt_inj.mp (by rw [i32_add (by rw [nIi (by omega), nIi (by omega)]; omega) (by rw [nIi (by omega), nIi (by omega)]; omega), nIi (by omega), nIi (by omega), nIi (by omega)]; omega)
  refine ⟨R.S.fr (ea 1 (by omega)) (ea 5 (by omega)) (ea 8 (by omega)) (ea 9 (by omega)) (by rw [Q.b]), (Q.i 3 6 (by omega)).trans R.h36, (Q.i P 0 (by omega)).trans R.b0, R.b2, ?_, ?_, ?_, hc, ?_, (Q.i P 10 (by omega)).trans R.o0, R.o2, fun k h1 h2 => ?_, fun k h1 => ?_, fun k h1 h2 => ?_, R.lt.fr (ea 17 (by omega)) (by rw [Q.b]), R.cl, (Q.i 13 9 (by omega)).trans R.l0, R.l2, (Q.i 13 7 (by omega)).trans R.s0, R.s2, R.sr.fr (fun k _ => by rw [ea 19 (by omega)]), R.sd, fun x => ?_, (Q.i 2 15 (by omega)).trans R.k0, ?_, fun k h1 => ?_, fun k hk x hx => by rw [ea (P + 8) (by omega)]; exact R.sgr k hk x hx⟩
  · show mv_i h' P 1 = nI (s.tl ++ [(w, n, z)]).length
    rw [el]; exact Q.i1
  · show (s.tl ++ [(w, n, z)]).length ≤ 64
    rw [el]; omega
  · show mv_i h' P 7 = nI (s.cells + n)
    rw [Q.i7, R.c0, en]
  · rw [Q.i P 9 (by omega)]; exact R.fe
  · rw [ea 16 (by omega)]; exact R.on k h1 h2
  · rw [Q.b]; exact R.oc k h1
  · show KN P h' sy (updK lkB (X.nm i) (v, w)) (s.tl ++ [(w, n, z)]).length le (X.nm k)
    rw [el]
    by_cases c : X.nm k = X.nm i
    · rw [c]
      refine Or.inr (Or.inl ⟨v, s.tl.length, w, hv, ?_, ?_, by omega, ?_, ?_, hw⟩)
      · rw [Q.a14, if_pos rfl]
      · rw [Q.a15, if_pos rfl]
      · rw [Q.aw, if_pos rfl]
      · unfold updK; rw [if_pos rfl]
    · have cs : ¬ sy (X.nm k) = sy (X.nm i) := fun e => c (R.S.inj k i h1 hi h2 hk e)
      have K := (R.kn k h1 h2).fr (h' := h') (by rw [Q.a14, if_neg cs]) (by rw [Q.a15, if_neg cs]) (fun u hu => by rw [Q.aw, if_neg (by omega)]) (fun u hu => by rw [ea 20 (by omega)])
      exact (K.mo (Nat.le_succ _) (Nat.le_refl _)).lk (by unfold updK; rw [if_neg c])
  · show ¬ (updK s.lk (X.nm i) (v, w) x).1 = 3
    unfold updK
    split
    · show ¬ v = 3; omega
    · exact R.q3 x
  · obtain ⟨b1, b2⟩ := R.br
    refine ⟨b1, fun x => ?_⟩
    show updK lkB (X.nm i) (v, w) x = updK s.lk (X.nm i) (v, w) x
    unfold updK
    rw [b2 x]
  · have h1 : k < (s.tl ++ [(w, n, z)]).length := h1
    rw [el] at h1
    show mv_a h' (P + 1) k = nI ((s.tl ++ [(w, n, z)]).getD k (0, 0, false)).1 ∧ mv_a h' (P + 2) k = nI ((s.tl ++ [(w, n, z)]).getD k (0, 0, false)).2.1 ∧ ((s.tl ++ [(w, n, z)]).getD k (0, 0, false)).1 ≤ 64 ∧ ((s.tl ++ [(w, n, z)]).getD k (0, 0, false)).2.1 ≤ 65536
    rw [Q.aw, Q.ac]
    by_cases c : k = s.tl.length
    · have eg : (s.tl ++ [(w, n, z)]).getD k (0, 0, false) = (w, n, z) := by rw [c, List.getD_eq_getElem?_getD, List.getElem?_append_right (Nat.le_refl _), Nat.sub_self]; rfl
      rw [if_pos c, if_pos c, eg]
      exact ⟨rfl, rfl, hw.2, by show n ≤ 65536; omega⟩
    · have hk2 : k < s.tl.length := by omega
      have eg : (s.tl ++ [(w, n, z)]).getD k (0, 0, false) = s.tl.getD k (0, 0, false) := by rw [List.getD_eq_getElem?_getD, List.getElem?_append_left hk2, ← List.getD_eq_getElem?_getD]
      rw [if_neg c, if_neg c, eg]
      exact R.tt k hk2
/-- fetch -/
theorem RN.ft (hpp : P = 32 ∨ P = 48) (R : RN X J P sy g s bl lkB C SC le) {x : Int32} {u : Nat} (hu : u < 64) (a : List Nat × List Nat) : RN X J P sy (mv_si (mv_si g P 8 x) P 9 (nI u)) (SI.mk (s.bits) (s.lk) (s.tl) (s.cells) (some a) (s.ops)) bl lkB C SC le := by
  have ei : ∀ o k, ¬ (o = P ∧ (k = 8 ∨ k = 9)) → mv_i (mv_si (mv_si g P 8 x) P 9 (nI u)) o k = mv_i g o k := fun o k q => by ((simp only [rw_ii, rw_aa, rw_bb, rw_ia, rw_ib, rw_ai, rw_ab, rw_bi, rw_ba, true_and, and_true, if_true]; repeat' split) <;> first | rfl | (exfalso; omega))
  refine ⟨R.S.fr rfl rfl rfl rfl rfl, (ei 3 6 (by omega)).trans R.h36, (ei P 0 (by omega)).trans R.b0, R.b2, (ei P 1 (by omega)).trans R.t0, R.t2, (ei P 7 (by omega)).trans R.c0, R.c2, ?_, (ei P 10 (by omega)).trans R.o0, R.o2, R.on, R.oc, R.kn, R.lt, R.cl, (ei 13 9 (by omega)).trans R.l0, R.l2, (ei 13 7 (by omega)).trans R.s0, R.s2, R.sr.fr (fun _ _ => rfl), R.sd, R.q3, (ei 2 15 (by omega)).trans R.k0, R.br.fr (fun _ _ => ⟨rfl, rfl⟩), R.tt, R.sgr⟩
  constructor
  · intro z
    rw [show mv_i (mv_si (mv_si g P 8 x) P 9 (nI u)) P 9 = nI u from mv_u_same _ P 9 _] at z
    have := (nIlt (b := 0) (by omega) (by omega)).mp z
    omega
  · intro z; cases z
/-- a block opened -/
theorem RN.ob (hpp : P = 32 ∨ P = 48) (R : RN X J P sy g s bl lkB C SC le) {k : Nat} {lk : LK} (hk : k < 400) (hb : bl.length < 60) (elk : ∀ x, lk x = lkO lkB C x) (h206 : k = 206 ↔ bl = []) (a1 a2 : Int32) : RN X J P sy (OBk g bl.length (nI k) a1 a2) s ((k, lk) :: bl) lkB C SC le := by
  have ei : ∀ o f, ¬ (o = 2 ∧ (f = 15 ∨ f = 6)) → mv_i (OBk g bl.length (nI k) a1 a2) o f = mv_i g o f := fun o f q => by unfold OBk; ((simp only [rw_ii, rw_aa, rw_bb, rw_ia, rw_ib, rw_ai, rw_ab, rw_bi, rw_ba, true_and, and_true, if_true]; repeat' split) <;> first | rfl | (exfalso; omega))
  have ea : ∀ r, ¬ (28 ≤ r ∧ r ≤ 31) → mv_a (OBk g bl.length (nI k) a1 a2) r = mv_a g r := fun r q => by unfold OBk; funext f; ((simp only [rw_ii, rw_aa, rw_bb, rw_ia, rw_ib, rw_ai, rw_ab, rw_bi, rw_ba, true_and, and_true, if_true]; repeat' split) <;> first | rfl | (exfalso; omega))
  have a28 : ∀ f, mv_a (OBk g bl.length (nI k) a1 a2) 28 f = if f = bl.length then nI k else mv_a g 28 f := fun f => by unfold OBk; ((simp only [rw_ii, rw_aa, rw_bb, rw_ia, rw_ib, rw_ai, rw_ab, rw_bi, rw_ba, true_and, and_true, if_true]; repeat' split) <;> first | rfl | (exfalso; omega))
  have a31 : ∀ f, mv_a (OBk g bl.length (nI k) a1 a2) 31 f = if f = bl.length then mv_i g 13 7 else mv_a g 31 f := fun f => by unfold OBk; ((simp only [rw_ii, rw_aa, rw_bb, rw_ia, rw_ib, rw_ai, rw_ab, rw_bi, rw_ba, true_and, and_true, if_true]; repeat' split) <;> first | rfl | (exfalso; omega))
  refine ⟨R.S.fr (ea 1 (by omega)) (ea 5 (by omega)) (ea 8 (by omega)) (ea 9 (by omega)) rfl, (ei 3 6 (by omega)).trans R.h36, (ei P 0 (by omega)).trans R.b0, R.b2, (ei P 1 (by omega)).trans R.t0, R.t2, (ei P 7 (by omega)).trans R.c0, R.c2, by rw [ei P 9 (by omega)]; exact R.fe, (ei P 10 (by omega)).trans R.o0, R.o2, fun i h1 h2 => by rw [ea 16 (by omega)]; exact R.on i h1 h2, R.oc, fun i h1 h2 => (R.kn i h1 h2).fr (by rw [ea 14 (by omega)]) (by rw [ea 15 (by omega)]) (fun u _ => by rw [ea (P + 1) (by omega)]) (fun u _ => by rw [ea 20 (by omega)]), R.lt.fr (ea 17 (by omega)) rfl, R.cl, (ei 13 9 (by omega)).trans R.l0, R.l2, (ei 13 7 (by omega)).trans R.s0, R.s2, R.sr.fr (fun i _ => by rw [ea 19 (by omega)]), R.sd, R.q3, ?_, ?_, fun i hi => by rw [ea (P + 1) (by omega), ea (P + 2) (by omega)]; exact R.tt i hi, fun k hk x hx => by rw [ea (P + 8) (by omega)]; exact R.sgr k hk x hx⟩
  · unfold OBk; rfl
  · refine ⟨[], SC, lkB, rfl, by rw [a28, if_pos rfl], hk, by rw [a31, if_pos rfl]; exact R.s0, elk, fun x q => absurd q List.not_mem_nil, fun _ _ => rfl, h206, ?_⟩
    exact R.br.fr (fun i hi => by rw [a28, a31, if_neg (by omega), if_neg (by omega)]; exact ⟨rfl, rfl⟩)
/-- an op begun -/
theorem RN.op (hpp : P = 32 ∨ P = 48) (R : RN X J P sy g s [] lkB [] [] 0) {i q : Nat} (hi : i ≤ J) (hk : X.kd i = 3) {g2 : mv_H} (hL : (X.nm q).length = s.bits) (ho : s.ops.length < 512) (Q : OpQ P (OBk g 0 206 (-1) (-1)) g2 s.ops.length (nJ (mkN (fun k => is01 ((X.nm q).getD k 0)) s.bits)) (nJ (mkN (fun k => is1 ((X.nm q).getD k 0)) s.bits)) 0 s.bits (fun k => (X.nm q).getD k 0)) (hi' : mv_i h' = mv_i g2) (ha : ∀ r, ¬ r = 16 → ¬ r = 17 → mv_a h' r = mv_a g2 r) (h16 : ∀ k, mv_a h' 16 k = if k = sy (X.nm i) then 1 else mv_a g2 16 k) (hb : ∀ r, ¬ r = 18 → mv_b h' r = mv_b g2 r) (hl : LTk (fun k => (X.nm q).getD k 0) s.bits h' s.bits) : RN X J P sy h' (SI.mk (s.bits) (s.lk) (s.tl) (s.cells) (s.fe) (s.ops ++ [(X.nm i, X.nm q)])) [(206, lkO s.lk (X.nm q))] lkB (X.nm q) [] 0 := by
  have R1 := R.ob hpp (k := 206) (lk := s.lk) (by omega) (by show 0 < 60; omega) (fun x => by rw [lkO_n]; exact (R.br.2 x).symm) ⟨fun _ => rfl, fun _ => rfl⟩ (-1) (-1)
  have R1 : RN X J P sy (OBk g 0 206 (-1) (-1)) s [(206, s.lk)] lkB [] [] 0 := R1
  have ei : ∀ o k, ¬ (o = P ∧ k = 10) → mv_i h' o k = mv_i (OBk g 0 206 (-1) (-1)) o k := fun o k q => by rw [hi']; exact Q.i o k q
  have ea : ∀ r, ¬ (r = 16 ∨ r = 17 ∨ r = P + 7 ∨ r = P + 8) → mv_a h' r = mv_a (OBk g 0 206 (-1) (-1)) r := fun r q => by rw [ha r (by omega) (by omega), Q.a r (by omega)]
  have eb : ∀ r, ¬ (r = 18 ∨ r = P + 5 ∨ r = P + 6) → mv_b h' r = mv_b (OBk g 0 206 (-1) (-1)) r := fun r q => by rw [hb r (by omega), Q.b r (by omega)]
  have el : (s.ops ++ [(X.nm i, X.nm q)]).length = s.ops.length + 1 := by rw [List.length_append]; rfl
  refine ⟨R1.S.fr (ea 1 (by omega)) (ea 5 (by omega)) (ea 8 (by omega)) (ea 9 (by omega)) (eb 6 (by omega)), (ei 3 6 (by omega)).trans R1.h36, (ei P 0 (by omega)).trans R1.b0, R.b2, (ei P 1 (by omega)).trans R1.t0, R.t2, (ei P 7 (by omega)).trans R1.c0, R.c2, by rw [ei P 9 (by omega)]; exact R1.fe, ?_, ?_, fun k h1 h2 => ?_, fun k h1 => ?_, fun k h1 h2 => (R1.kn k h1 h2).fr (by rw [ea 14 (by omega)]) (by rw [ea 15 (by omega)]) (fun u _ => by rw [ea (P + 1) (by omega)]) (fun u _ => by rw [ea 20 (by omega)]), fun c hc => ?_, by rw [hL]; exact R.b2, (ei 13 9 (by omega)).trans R1.l0, R.l2, (ei 13 7 (by omega)).trans R1.s0, R.s2, trivial, R.sd, R.q3, (ei 2 15 (by omega)).trans R1.k0, ?_, fun i hi => by rw [ea (P + 1) (by omega), ea (P + 2) (by omega)]; exact R1.tt i hi, fun k h1 x hx => ?_⟩
  · show mv_i h' P 10 = nI (s.ops ++ [(X.nm i, X.nm q)]).length
    rw [el, hi']; exact Q.i10
  · show (s.ops ++ [(X.nm i, X.nm q)]).length ≤ 512
    rw [el]; omega
  · show mv_a h' 16 (sy (X.nm k)) = if X.nm k ∈ (s.ops ++ [(X.nm i, X.nm q)]).map Prod.fst then 1 else 0
    rw [h16, Q.a 16 (by omega), List.map_append]
    by_cases c : X.nm k = X.nm i
    · rw [if_pos (by rw [c]), if_pos (by rw [c]; exact List.mem_append_right _ List.mem_cons_self)]
    · rw [if_neg (fun e => c (R.S.inj k i h1 hi h2 hk e)), R1.on k h1 h2]
      by_cases c2 : X.nm k ∈ s.ops.map Prod.fst
      · rw [if_pos c2, if_pos (List.mem_append_left _ c2)]
      · rw [if_neg c2, if_neg (fun e => (List.mem_append.mp e).elim c2 (fun w => by
          have : X.nm k = X.nm i := List.mem_singleton.mp w
          exact c this))]
  · have h1 : k < (s.ops ++ [(X.nm i, X.nm q)]).length := h1
    rw [el] at h1
    show mv_b h' (P + 5) k = nJ (mkN (fun x => is01 (((s.ops ++ [(X.nm i, X.nm q)]).getD k ([], [])).2.getD x 0)) s.bits) ∧ mv_b h' (P + 6) k = nJ (mkN (fun x => is1 (((s.ops ++ [(X.nm i, X.nm q)]).getD k ([], [])).2.getD x 0)) s.bits) ∧ ((s.ops ++ [(X.nm i, X.nm q)]).getD k ([], [])).2.length = s.bits
    rw [hb (P + 5) (by omega), hb (P + 6) (by omega), Q.b5, Q.b6]
    by_cases c : k = s.ops.length
    · have eg : (s.ops ++ [(X.nm i, X.nm q)]).getD k ([], []) = (X.nm i, X.nm q) := by rw [c, List.getD_eq_getElem?_getD, List.getElem?_append_right (Nat.le_refl _), Nat.sub_self]; rfl
      rw [if_pos c, if_pos c, eg]
      exact ⟨rfl, rfl, hL⟩
    · have hk2 : k < s.ops.length := by omega
      have eg : (s.ops ++ [(X.nm i, X.nm q)]).getD k ([], []) = s.ops.getD k ([], []) := by rw [List.getD_eq_getElem?_getD, List.getElem?_append_left hk2, ← List.getD_eq_getElem?_getD]
      rw [if_neg c, if_neg c, eg]
      exact R1.oc k hk2
  · obtain ⟨l1, l2⟩ := hl c hc
    rw [Nat.sub_self, Nat.pow_zero, Nat.mul_one] at l2
    rw [hL]
    exact ⟨l1, l2⟩
  · obtain ⟨S1, S0, lkB0, k1, k2, k3, k4, k5, k6, k7, k8, k9⟩ := R1.br
    have eS : S1 = [] ∧ S0 = [] := by
      cases S1 with
      | nil => exact ⟨rfl, by simpa using k1.symm⟩
      | cons a b => cases k1
    have e0 : ∀ x, lkB0 x = lkB x := fun x => k7 x (by rw [eS.1]; exact List.not_mem_nil)
    refine ⟨[], [], lkB, rfl, by rw [ea 28 (by omega)]; exact k2, k3, ?_, fun x => lkO_g _ (R.br.2 x).symm, fun x w => absurd w List.not_mem_nil, fun _ _ => rfl, k8, rfl, R.br.2⟩
    rw [ea 31 (by omega), k4, eS.2]
  · have h1 : k < (s.ops ++ [(X.nm i, X.nm q)]).length := h1
    rw [el] at h1
    have hx : x < s.bits := hx
    have hb2 := R.b2
    show mv_a h' (P + 8) (k * 64 + x) = vp_nar .byte (nI (((s.ops ++ [(X.nm i, X.nm q)]).getD k ([], [])).2.getD x 0))
    rw [ha (P + 8) (by omega) (by omega)]
    by_cases c : k = s.ops.length
    · have eg : (s.ops ++ [(X.nm i, X.nm q)]).getD k ([], []) = (X.nm i, X.nm q) := by rw [c, List.getD_eq_getElem?_getD, List.getElem?_append_right (Nat.le_refl _), Nat.sub_self]; rfl
      rw [eg, c]
      exact Q.s9 x (Nat.zero_le _) hx
    · have hk2 : k < s.ops.length := by omega
      have eg : (s.ops ++ [(X.nm i, X.nm q)]).getD k ([], []) = s.ops.getD k ([], []) := by rw [List.getD_eq_getElem?_getD, List.getElem?_append_left hk2, ← List.getD_eq_getElem?_getD]
      rw [eg, Q.s8 (k * 64 + x) (by omega)]
      exact R1.sgr k hk2 x hx
end STEP
/-- the symbol of the i-th let in scope -/
def sgF (sy : List Nat → Nat) (SC : List (List Nat)) (i : Nat) : Nat := sy (SC.getD (SC.length - 1 - i) [])
theorem ScR.g {sy : List Nat → Nat} {h : mv_H} : ∀ {SC : List (List Nat)}, ScR sy h SC → ∀ i, i < SC.length → mv_a h 19 i = nI (sgF sy SC i) := by
  intro SC
  induction SC with
  | nil => intro _ i hi; exact absurd hi (Nat.not_lt_zero _)
  | cons x S ih =>
    intro hs i hi
    unfold sgF
    have hl : (x :: S).length = S.length + 1 := rfl
    by_cases c : i = S.length
    · rw [c, hl, show S.length + 1 - 1 - S.length = 0 by omega]; exact hs.1
    · rw [ih hs.2 i (by omega), hl, show S.length + 1 - 1 - i = (S.length - 1 - i) + 1 by omega]; rfl
theorem sg_m (S1 S0 : List (List Nat)) {p : Nat} (hp : p < S1.length) : (S1 ++ S0).getD p [] = S1.getD p [] := by
  rw [List.getD_eq_getElem?_getD, List.getElem?_append_left hp, ← List.getD_eq_getElem?_getD]
theorem sg_1 (sy : List Nat → Nat) {S1 S0 : List (List Nat)} {x : List Nat} (hx : x ∈ S1) : ∃ i, S0.length ≤ i ∧ i < (S1 ++ S0).length ∧ sgF sy (S1 ++ S0) i = sy x := by
  obtain ⟨p, hp, e⟩ := List.getElem_of_mem hx
  refine ⟨(S1 ++ S0).length - 1 - p, by rw [List.length_append]; omega, by rw [List.length_append]; omega, ?_⟩
  unfold sgF
  rw [show (S1 ++ S0).length - 1 - ((S1 ++ S0).length - 1 - p) = p by rw [List.length_append]; omega, sg_m S1 S0 hp, List.getD_eq_getElem?_getD, List.getElem?_eq_getElem hp]
  show sy S1[p] = sy x
  rw [e]
theorem sg_2 (sy : List Nat → Nat) {S1 S0 : List (List Nat)} {i : Nat} (h1 : S0.length ≤ i) (h2 : i < (S1 ++ S0).length) : ∃ x, x ∈ S1 ∧ sgF sy (S1 ++ S0) i = sy x := by
  have hp : (S1 ++ S0).length - 1 - i < S1.length := by rw [List.length_append] at h2 ⊢; omega
  refine ⟨S1.getD ((S1 ++ S0).length - 1 - i) [], ?_, ?_⟩
  · rw [List.getD_eq_getElem?_getD, List.getElem?_eq_getElem hp]; exact List.getElem_mem _
  · unfold sgF; rw [sg_m S1 S0 hp]
section STEP2
variable {X : TX} {J P : Nat} {sy : List Nat → Nat} {h g h' : mv_H} {s : SI} {bl : List (Nat × LK)} {lkB : LK} {C : List Nat} {SC : List (List Nat)} {le : Nat} (hpp : P = 32 ∨ P = 48)
/-- scope rows -/
theorem RN.sg (R : RN X J P sy h s bl lkB C SC le) : ∀ i, i < SC.length → mv_a h 19 i = nI (sgF sy SC i) ∧ sgF sy SC i < 16448 := fun i hi => by
  refine ⟨R.sr.g i hi, ?_⟩
  have hm : SC.getD (SC.length - 1 - i) [] ∈ SC := by
    rw [List.getD_eq_getElem?_getD, List.getElem?_eq_getElem (show SC.length - 1 - i < SC.length by omega)]; exact List.getElem_mem _
  obtain ⟨k, h1, h2, h3⟩ := R.sd _ hm
  obtain ⟨-, b2, -⟩ := R.S.t k h1 h2
  unfold sgF
  rw [← h3]; omega
/-- a let more -/
theorem RN.al (hpp : P = 32 ∨ P = 48) {b : Nat × LK} (R : RN X J P sy g s (b :: bl) lkB C SC le) {i w : Nat} (hi : i ≤ J) (hk : X.kd i = 3) (hl : le < 64) (hz : (lkB (X.nm i)).1 = 0) (hw : 0 < w ∧ w ≤ 64) (Q : AlQ g h' (sy (X.nm i)) le SC.length (nI w)) : RN X J P sy h' s (b :: bl) (updK lkB (X.nm i) (3, w)) C (X.nm i :: SC) (le + 1) := by
  have ea := Q.ao
  refine ⟨R.S.fr (ea 1 (by omega)) (ea 5 (by omega)) (ea 8 (by omega)) (ea 9 (by omega)) (by rw [Q.b]), (Q.i 3 6 (by omega)).trans R.h36, (Q.i P 0 (by omega)).trans R.b0, R.b2, (Q.i P 1 (by omega)).trans R.t0, R.t2, (Q.i P 7 (by omega)).trans R.c0, R.c2, by rw [Q.i P 9 (by omega)]; exact R.fe, (Q.i P 10 (by omega)).trans R.o0, R.o2, fun k h1 h2 => by rw [ea 16 (by omega)]; exact R.on k h1 h2, fun k h1 => by rw [Q.b]; exact R.oc k h1, fun k h1 h2 => ?_, R.lt.fr (ea 17 (by omega)) (by rw [Q.b]), R.cl, Q.i9, by omega, Q.i7, by have := R.s2; rw [List.length_cons]; omega, ?_, fun x q => ?_, R.q3, (Q.i 2 15 (by omega)).trans R.k0, ?_, fun i hi => by rw [ea (P + 1) (by omega), ea (P + 2) (by omega)]; exact R.tt i hi, fun k hk x hx => by rw [ea (P + 8) (by omega)]; exact R.sgr k hk x hx⟩
  · by_cases c : X.nm k = X.nm i
    · rw [c]
      refine Or.inr (Or.inr ⟨le, w, ?_, ?_, by omega, ?_, ?_, hw⟩)
      · rw [Q.a14, if_pos rfl]
      · rw [Q.a15, if_pos rfl]
      · rw [Q.a20, if_pos rfl]
      · unfold updK; rw [if_pos rfl]
    · have cs : ¬ sy (X.nm k) = sy (X.nm i) := fun e => c (R.S.inj k i h1 hi h2 hk e)
      have K := (R.kn k h1 h2).fr (h' := h') (by rw [Q.a14, if_neg cs]) (by rw [Q.a15, if_neg cs]) (fun u hu => by rw [ea (P + 1) (by omega)]) (fun u hu => by rw [Q.a20, if_neg (by omega)])
      exact (K.mo (Nat.le_refl _) (Nat.le_succ _)).lk (by unfold updK; rw [if_neg c])
  · exact ⟨by rw [Q.a19, if_pos rfl], R.sr.fr (fun k hk' => by rw [Q.a19, if_neg (by omega)])⟩
  · rcases List.mem_cons.mp q with q | q
    · exact ⟨i, hi, hk, q.symm⟩
    · exact R.sd x q
  · obtain ⟨S1, S0, lkB0, k1, k2, k3, k4, k5, k6, k7, k8, k9⟩ := R.br
    refine ⟨X.nm i :: S1, S0, lkB0, by rw [k1]; rfl, by rw [ea 28 (by omega)]; exact k2, k3, by rw [ea 31 (by omega)]; exact k4, k5, fun x q => ?_, fun x q => ?_, k8, k9.fr (fun k _ => by rw [ea 28 (by omega), ea 31 (by omega)]; exact ⟨rfl, rfl⟩)⟩
    · by_cases c : x ∈ S1
      · exact k6 x c
      · rcases List.mem_cons.mp q with q | q
        · rw [k7 x c, q]; exact hz
        · exact absurd q c
    · have c1 : ¬ x = X.nm i := fun e => q (by rw [e]; exact List.mem_cons_self)
      have c2 : ¬ x ∈ S1 := fun e => q (List.mem_cons_of_mem _ e)
      rw [k7 x c2]
      unfold updK
      rw [if_neg c1]
/-- a block closed -/
theorem RN.cls (hpp : P = 32 ∨ P = 48) {b : Nat × LK} (R : RN X J P sy h s (b :: bl) lkB C SC le) : ∃ S1 S0 lkB0, SC = S1 ++ S0 ∧ mv_a h 28 bl.length = nI b.1 ∧ mv_a h 31 bl.length = nI S0.length ∧ (∀ x, b.2 x = lkO lkB0 C x) ∧ (bl = [] → S0 = []) ∧ (b.1 = 206 ↔ bl = []) ∧ b.1 < 400 ∧ ∀ (g : mv_H) (j d : Nat), CQ X J h g j d (bl.length + 1) S0.length SC.length (sgF sy SC) → RN X J P sy g s bl lkB0 C S0 le := by
  obtain ⟨S1, S0, lkB0, k1, k2, k3, k4, k5, k6, k7, k8, k9⟩ := R.br
  refine ⟨S1, S0, lkB0, k1, k2, k4, k5, fun e => ?_, k8, k3, fun g j d Q => ?_⟩
  · rw [e] at k9; exact k9.1
  have ea := Q.a
  have ei : ∀ o k, ¬ o = 3 → ¬ o = 13 → ¬ (o = 2 ∧ k = 15) → mv_i g o k = mv_i h o k := fun o k h1 h2 h3 => Q.i o k (by omega) (by omega) h3
  have hlen : S0.length ≤ SC.length := by rw [k1, List.length_append]; omega
  refine ⟨R.S.fr (ea 1 (by omega)) (ea 5 (by omega)) (ea 8 (by omega)) (ea 9 (by omega)) (by rw [Q.b]), (Q.i 3 6 (by omega) (by omega) (by omega)).trans R.h36, (ei P 0 (by omega) (by omega) (by omega)).trans R.b0, R.b2, (ei P 1 (by omega) (by omega) (by omega)).trans R.t0, R.t2, (ei P 7 (by omega) (by omega) (by omega)).trans R.c0, R.c2, by rw [ei P 9 (by omega) (by omega) (by omega)]; exact R.fe, (ei P 10 (by omega) (by omega) (by omega)).trans R.o0, R.o2, fun k h1 h2 => by rw [ea 16 (by omega)]; exact R.on k h1 h2, fun k h1 => by rw [Q.b]; exact R.oc k h1, fun k h1 h2 => ?_, R.lt.fr (ea 17 (by omega)) (by rw [Q.b]), R.cl, (Q.i 13 9 (by omega) (by omega) (by omega)).trans R.l0, R.l2, Q.sc, by have := R.s2; omega, ?_, fun x q => R.sd x (by rw [k1]; exact List.mem_append_right _ q), R.q3, ?_, k9.fr (fun k _ => by rw [ea 28 (by omega), ea 31 (by omega)]; exact ⟨rfl, rfl⟩), fun i hi => by rw [ea (P + 1) (by omega), ea (P + 2) (by omega)]; exact R.tt i hi, fun k hk x hx => by rw [ea (P + 8) (by omega)]; exact R.sgr k hk x hx⟩
  · by_cases c : X.nm k ∈ S1
    · refine Or.inl ⟨Q.z _ ?_, k6 _ c⟩
      obtain ⟨i, i1, i2, i3⟩ := sg_1 sy (S0 := S0) c
      rw [k1]
      exact ⟨i, i1, i2, i3⟩
    · have no : ¬ ∃ i, S0.length ≤ i ∧ i < SC.length ∧ sgF sy SC i = sy (X.nm k) := fun ⟨i, i1, i2, i3⟩ => by
        rw [k1] at i2 i3
        obtain ⟨x, x1, x2⟩ := sg_2 sy i1 i2
        rw [x2] at i3
        obtain ⟨m, m1, m2, m3⟩ := R.sd x (by rw [k1]; exact List.mem_append_left _ x1)
        rw [← m3] at i3
        have := R.S.inj m k m1 h1 m2 h2 i3
        rw [← this, m3] at c
        exact c x1
      have K := (R.kn k h1 h2).fr (h' := g) (Q.o _ no) (by rw [ea 15 (by omega)]) (fun u hu => by rw [ea (P + 1) (by omega)]) (fun u hu => by rw [ea 20 (by omega)])
      exact K.lk (k7 _ c)
  · have s2 : ScR sy h S0 := by
      have := R.sr
      rw [k1] at this
      clear k1 k6 k7 hlen
      induction S1 with
      | nil => exact this
      | cons a S1 ih => exact ih this.2
    exact s2.fr (fun i _ => by rw [ea 19 (by omega)])
  · rw [Q.bl]; rfl
/-- an op left -/
theorem RN.lv (hpp : P = 32 ∨ P = 48) (R : RN X J P sy g s [] lkB C [] le) {k' : mv_H} {sg : Nat → Nat} (Q : LvQ g k' 0 sg) : RN X J P sy (mv_si k' 2 6 0) s [] lkB [] [] 0 := by
  have ei : ∀ o k, ¬ (o = 13 ∧ (k = 7 ∨ k = 9)) → ¬ (o = 2 ∧ k = 6) → mv_i (mv_si k' 2 6 0) o k = mv_i g o k := fun o k h1 h2 => (mv_u_ne (mv_i k') _ h2).trans (Q.i o k h1)
  have ea : ∀ r, ¬ r = 14 → ¬ r = 17 → mv_a (mv_si k' 2 6 0) r = mv_a g r := Q.a
  have e14 : mv_a (mv_si k' 2 6 0) 14 = mv_a g 14 := funext fun y => Q.o y (fun ⟨i, h1, _⟩ => absurd h1 (Nat.not_lt_zero _))
  have eb : ∀ r, ¬ r = 18 → mv_b (mv_si k' 2 6 0) r = mv_b g r := Q.b
  refine ⟨R.S.fr (ea 1 (by omega) (by omega)) (ea 5 (by omega) (by omega)) (ea 8 (by omega) (by omega)) (ea 9 (by omega) (by omega)) (eb 6 (by omega)), (ei 3 6 (by omega) (by omega)).trans R.h36, (ei P 0 (by omega) (by omega)).trans R.b0, R.b2, (ei P 1 (by omega) (by omega)).trans R.t0, R.t2, (ei P 7 (by omega) (by omega)).trans R.c0, R.c2, by rw [ei P 9 (by omega) (by omega)]; exact R.fe, (ei P 10 (by omega) (by omega)).trans R.o0, R.o2, fun k h1 h2 => by rw [ea 16 (by omega) (by omega)]; exact R.on k h1 h2, fun k h1 => by rw [eb (P + 5) (by omega), eb (P + 6) (by omega)]; exact R.oc k h1, fun k h1 h2 => ?_, fun c hc => Q.l c hc, Nat.zero_le _, Q.le, by omega, Q.sc, Nat.le_refl _, trivial, R.sd, R.q3, (ei 2 15 (by omega) (by omega)).trans R.k0, ⟨rfl, R.br.2⟩, fun i hi => by rw [ea (P + 1) (by omega) (by omega), ea (P + 2) (by omega) (by omega)]; exact R.tt i hi, fun k hk x hx => by rw [ea (P + 8) (by omega) (by omega)]; exact R.sgr k hk x hx⟩
  have K := (R.kn k h1 h2).fr (h' := mv_si k' 2 6 0) (by rw [e14]) (by rw [ea 15 (by omega) (by omega)]) (fun u hu => by rw [ea (P + 1) (by omega) (by omega)]) (fun u hu => by rw [ea 20 (by omega) (by omega)])
  rcases K with K | K | ⟨u, w, -, -, -, -, K, -⟩
  · exact Or.inl K
  · exact Or.inr (Or.inl K)
  · refine absurd ?_ (R.q3 (X.nm k))
    rw [← R.br.2, K]
end STEP2
