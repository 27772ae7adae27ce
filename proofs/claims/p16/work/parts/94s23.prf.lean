/-! work, doing by doing -/
section WK
variable {P : Nat} {h : mv_H} {st : List Int64}
theorem wk300 (S : SKs h st) (hl : st.length ≤ 1009) (a : Int64) : ∃ h', f_Machine_work P h (nI 300) a = some h' ∧ SKs h' (a :: st) ∧ TFr h h' := by
  obtain ⟨h1, e1, S1, F1⟩ := psh9 S hl P a
  refine ⟨h1, ?_, S1, F1⟩
  unfold f_Machine_work
  rw [if_pos (by decide), e1, xhv_s]
theorem wk302 (S : SKs h st) (hl : st.length ≤ 1009) {i : Nat} (hi : i < 64) : ∃ h', f_Machine_work P h (nI 302) (nJ i) = some h' ∧ SKs h' (mv_b h 66 i :: st) ∧ TFr h h' := by
  obtain ⟨h1, e1, S1, F1⟩ := psh9 S hl P (mv_b h 66 i)
  refine ⟨h1, ?_, S1, F1⟩
  unfold f_Machine_work
  rw [if_neg (by decide), if_neg (by decide), if_pos (by decide), nJi (by omega), xvi_n hi (by decide), cond_true, cln (by omega), e1, xhv_s]
theorem wk303 (S : SKs h st) (hl : st.length ≤ 1009) {i : Nat} (hi : i < 65600) : ∃ h', f_Machine_work P h (nI 303) (nJ i) = some h' ∧ SKs h' (mv_b h 65 i :: st) ∧ TFr h h' := by
  obtain ⟨h1, e1, S1, F1⟩ := psh9 S hl P (mv_b h 65 i)
  refine ⟨h1, ?_, S1, F1⟩
  unfold f_Machine_work
  rw [if_neg (by decide), if_neg (by decide), if_neg (by decide), if_pos (by decide), nJi (by omega), xvi_m hi (by decide), cond_true, cln (by omega), e1, xhv_s]
theorem wkU1 {v : Int64} (S : SKs h (v :: st)) {k : Nat} (hk : k = 305 ∨ k = 306 ∨ k = 307 ∨ k = 308 ∨ k = 310) (a : Int64) : ∃ h', f_Machine_work P h (nI k) a = some h' ∧ SKs h' (u1 k a v :: st) ∧ TFr h h' := by
  obtain ⟨h1, e1, S1, F1⟩ := pop9 S P
  have hl : st.length ≤ 1009 := by have := S.2.1; have : st.length + 1 ≤ 1010 := this; omega
  obtain ⟨h2, e2, S2, F2⟩ := psh9 S1 hl P (u1 k a v)
  refine ⟨h2, ?_, S2, F1.trans F2⟩
  unfold f_Machine_work f_Machine_work_183 f_Bits_signed
  rcases hk with rfl | rfl | rfl | rfl | rfl
  · rw [if_neg (by decide), if_neg (by decide), if_neg (by decide), if_neg (by decide), if_neg (by decide), if_pos (by decide), e1, xhb_s]
    rw [show (-v) &&& a = u1 305 a v from rfl, e2, xhv_s]
  · rw [if_neg (by decide), if_neg (by decide), if_neg (by decide), if_neg (by decide), if_neg (by decide), if_neg (by decide), if_pos (by decide), e1, xhb_s]
    rw [show (v ^^^ (-1 : Int64)) &&& a = u1 306 a v from rfl, e2, xhv_s]
  · rw [if_neg (by decide), if_neg (by decide), if_neg (by decide), if_neg (by decide), if_neg (by decide), if_neg (by decide), if_neg (by decide), if_pos (by decide), e1, xhb_s]
    rw [show (v ^^^ (-1 : Int64)) &&& a = u1 307 a v from rfl, e2, xhv_s]
  · rw [if_neg (by decide), if_neg (by decide), if_neg (by decide), if_neg (by decide), if_neg (by decide), if_neg (by decide), if_neg (by decide), if_neg (by decide), if_pos (by decide), e1, xhb_s, bm_e, xhb_s]
    rw [show (((v).toUInt64 >>> (((((a &&& (255 : Int64))).toInt32)).toInt64.toUInt64 &&& Int64.toUInt64 63)).toInt64) &&& mkI (((a >>> (((8 : Int32)).toInt64 &&& 63))).toInt32) = u1 308 a v from rfl, e2, xhv_s]
  · rw [if_neg (by decide), if_neg (by decide), if_neg (by decide), if_neg (by decide), if_neg (by decide), if_neg (by decide), if_neg (by decide), if_neg (by decide), if_neg (by decide), if_neg (by decide), if_pos (by decide), e1, xhb_s, xhb_s, bm_e, xhb_s]
    rw [show ((v <<< ((((64 : Int32) - (a &&& (255 : Int64)).toInt32)).toInt64 &&& 63)) >>> ((((64 : Int32) - (a &&& (255 : Int64)).toInt32)).toInt64 &&& 63)) &&& mkI (((a >>> (((8 : Int32)).toInt64 &&& 63))).toInt32) = u1 310 a v from rfl, e2, xhv_s]
theorem wkU2 {x y : Int64} (S : SKs h (y :: x :: st)) {k : Nat} (hk : k < 300 ∨ k = 309) (a : Int64) : ∃ h', f_Machine_work P h (nI k) a = some h' ∧ SKs h' (u2 k a x y :: st) ∧ TFr h h' := by
  obtain ⟨h1, e1, S1, F1⟩ := pop9 S P
  obtain ⟨h2, e2, S2, F2⟩ := pop9 S1 P
  have hl : st.length ≤ 1009 := by have : st.length + 1 + 1 ≤ 1010 := S.2.1; omega
  obtain ⟨h3, e3, S3, F3⟩ := psh9 S2 hl P (u2 k a x y)
  refine ⟨h3, ?_, S3, (F1.trans F2).trans F3⟩
  rcases hk with hk | rfl
  · have c : ∀ n : Int, 300 ≤ n → ¬ (nI k).toInt = n := fun n hn => by rw [nIi (by omega)]; omega
    have e0 : f_Machine_work P h (nI k) a = f_Machine_work_279 P (nI k) a h := by
      unfold f_Machine_work
      rw [if_neg (c 300 (by omega)), if_neg (c 301 (by omega)), if_neg (c 302 (by omega)), if_neg (c 303 (by omega)), if_neg (c 304 (by omega)), if_neg (c 305 (by omega)), if_neg (c 306 (by omega)), if_neg (c 307 (by omega)), if_neg (c 308 (by omega)), if_neg (c 309 (by omega)), if_neg (c 310 (by omega)), if_neg (c 311 (by omega)), if_neg (c 312 (by omega)), if_neg (c 313 (by omega)), if_neg (c 314 (by omega))]
    rw [e0]
    unfold f_Machine_work_279
    rw [e1, xhb_s, e2, xhb_s, of_u2 _ (by omega), xhb_s, e3, xhv_s]
  · unfold f_Machine_work
    rw [if_neg (by decide), if_neg (by decide), if_neg (by decide), if_neg (by decide), if_neg (by decide), if_neg (by decide), if_neg (by decide), if_neg (by decide), if_neg (by decide), if_pos (by decide), e1, xhb_s, e2, xhb_s]
    rw [show (x <<< ((((a).toInt32)).toInt64 &&& 63)) ||| y = u2 309 a x y from rfl, e3, xhv_s]
end WK
/-- the code in its rows -/
def CRw (P : Nat) (fs : Nat → Nat) (h : mv_H) (L : CDq) (z : Nat) : Prop := mv_i h P 17 = nI z ∧ z ≤ 32768 ∧ (∀ i, z ≤ i → L i = (311, 0)) ∧ ∀ i, i < z → mv_a h (P + 9) i = nI (L i).1 ∧ (L i).1 < 318 ∧ mv_b h (P + 10) i = (if (L i).1 = 303 then nJ (fs (tI (L i).2)) else (L i).2) ∧ ((L i).1 = 303 → ∃ t, (L i).2 = nJ t ∧ t < 64 ∧ fs t < fs (t + 1))
theorem CRw.fr {P : Nat} {fs : Nat → Nat} {h h' : mv_H} {L : CDq} {z : Nat} (a : CRw P fs h L z) (hP : P = 32 ∨ P = 48 ∨ P = 145) (f : MFw h h') : CRw P fs h' L z := by
  unfold CRw
  rw [f.1 P 17 (by omega), f.2.1 (P + 9) (by omega), f.2.2.1 (P + 10) (by omega)]
  exact a
/-- what a doing stands with -/
def WOi (T z : Nat) (hg : Nat → Nat) (a : Nat) (p : Nat × Int64) : Prop :=
  (p.1 = 302 ∨ p.1 = 313 → ∃ i, p.2 = nJ i ∧ i < 64) ∧ (p.1 = 303 ∨ p.1 = 304 ∨ p.1 = 314 ∨ p.1 = 315 → ∃ t, p.2 = nJ t ∧ t < T) ∧
  (p.1 = 311 → tI p.2 ≤ z ∧ hg (tI p.2) = hg a) ∧ (p.1 = 312 → tI p.2 ≤ z ∧ hg a = hg (tI p.2) + 1 ∧ hg (a + 1) = hg (tI p.2)) ∧
  (¬ (p.1 = 311 ∨ p.1 = 312 ∨ p.1 = 316 ∨ p.1 = 317) → (opd (nI p.1)).1 ≤ hg a ∧ hg (a + 1) + (opd (nI p.1)).1 = hg a + (opd (nI p.1)).2)
def WOw (T z : Nat) (hg : Nat → Nat) (L : CDq) : Prop := (∀ a, hg a ≤ 1000) ∧ ∀ a, a < z → WOi T z hg a (L a)
section PF
variable {P : Nat} {fs : Nat → Nat} {e : E0q} {T z : Nat} {L : CDq} {hg : Nat → Nat} {v0 : Nat → Int64}
/-- the machine at place a -/
def PIw (P : Nat) (fs : Nat → Nat) (e : E0q) (T z : Nat) (L : CDq) (hg : Nat → Nat) (v0 : Nat → Int64) (h : mv_H) (a u : Nat) (st : List Int64) (s : STq) : Prop := CRw P fs h L z ∧ TBw P fs e T h ∧ VLw fs e T h s ∧ ASw P h s ∧ SKs h st ∧ st.length = hg a ∧ UNw h v0 u ∧ u ≤ nSet (mv_a h (P + 9)) a ∧ nSet (mv_a h (P + 9)) z ≤ 8193
/-- the end of it -/
def PEw (P : Nat) (fs : Nat → Nat) (e : E0q) (T : Nat) (v0 : Nat → Int64) (h : mv_H) (r : Int32 × STq) (x : Option (Int32 × mv_H)) : Prop := ∃ h', x = some (r.1, h') ∧ MFw h h' ∧ (r.1 = 0 → VLw fs e T h' r.2 ∧ ASw P h' r.2) ∧ ∃ u, UNw h' v0 u ∧ u ≤ 8193
theorem PEw.tr {h g : mv_H} {r : Int32 × STq} {x : Option (Int32 × mv_H)} (f : MFw h g) (a : PEw P fs e T v0 g r x) : PEw P fs e T v0 h r x := by
  obtain ⟨h', e1, e2, e3, e4⟩ := a
  exact ⟨h', e1, f.trans e2, e3, e4⟩
theorem PIw.t {h h' : mv_H} {a b u : Nat} {st st' : List Int64} {s : STq} (hP : P = 32 ∨ P = 48 ∨ P = 145) (I : PIw P fs e T z L hg v0 h a u st s) (f : TFr h h') (S : SKs h' st') (hs : st'.length = hg b) (hab : a ≤ b) : PIw P fs e T z L hg v0 h' b u st' s := by
  obtain ⟨i1, i2, i3, i4, i5, i6, i7, i8, i9⟩ := I
  refine ⟨i1.fr hP f.m, i2.fr hP f.m, i3.st f, i4.st hP f, S, hs, i7.st f, ?_, ?_⟩
  · rw [f.2.1 (P + 9)]; exact Nat.le_trans i8 (nSet_mono _ hab)
  · rw [f.2.1 (P + 9)]; exact i9
theorem opd_0 {k : Nat} (h : k = 300 ∨ k = 301 ∨ k = 302 ∨ k = 303) : opd (nI k) = (0, 1) := by rcases h with rfl | rfl | rfl | rfl <;> decide
theorem opd_1 {k : Nat} (h : k = 304 ∨ k = 305 ∨ k = 306 ∨ k = 307 ∨ k = 308 ∨ k = 310) : opd (nI k) = (1, 1) := by rcases h with rfl | rfl | rfl | rfl | rfl | rfl <;> decide
theorem opd_2 {k : Nat} (h : k < 300 ∨ k = 309) : opd (nI k) = (2, 1) := by
  have c : ∀ n : Nat, 300 ≤ n → n < 400 → ¬ n = 309 → ¬ nI k = nI n := fun n h1 h2 h3 q => by
    have := (nIinj (by omega) (by omega)).mp q; omega
  unfold opd
  have n0 : ¬ (nI k = 300 ∨ nI k = 301 ∨ nI k = 302 ∨ nI k = 303) := (fun q => by
    rcases q with q | q | q | q
    · exact c 300 (by omega) (by omega) (by omega) q
    · exact c 301 (by omega) (by omega) (by omega) q
    · exact c 302 (by omega) (by omega) (by omega) q
    · exact c 303 (by omega) (by omega) (by omega) q)
  have n1 : ¬ (nI k = 304 ∨ nI k = 305 ∨ nI k = 306 ∨ nI k = 307 ∨ nI k = 308 ∨ nI k = 310) := (fun q => by
    rcases q with q | q | q | q | q | q
    · exact c 304 (by omega) (by omega) (by omega) q
    · exact c 305 (by omega) (by omega) (by omega) q
    · exact c 306 (by omega) (by omega) (by omega) q
    · exact c 307 (by omega) (by omega) (by omega) q
    · exact c 308 (by omega) (by omega) (by omega) q
    · exact c 310 (by omega) (by omega) (by omega) q)
  have n2 : ¬ (nI k = 313 ∨ nI k = 314) := (fun q => by
    rcases q with q | q
    · exact c 313 (by omega) (by omega) (by omega) q
    · exact c 314 (by omega) (by omega) (by omega) q)
  rw [if_neg n0, if_neg n1, if_neg n2, if_neg (show ¬ nI k = 315 from c 315 (by omega) (by omega) (by omega))]
end PF
