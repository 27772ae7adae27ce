/-! rows s26 .. s37 -/
theorem xtb_s {α : Type} (u : Int32) (g : mv_H) (f : Int32 → mv_H → Option (Option α × mv_H)) : xtb (some (some u, g)) f = f u g := rfl
theorem xtb_n {α : Type} (g : mv_H) (f : Int32 → mv_H → Option (Option α × mv_H)) : xtb (some (none, g)) f = some (none, g) := rfl
/-- the reference's reader at token j -/
def rA (P n : Nat) (h : mv_H) (j : Nat) (v : Int64) : mv_H := tkR P h (nI (bp (ck h n) n (j + 1))) (tok (ck h n) n j).1 (nI (pos (ck h n) n j)) (nI (bp (ck h n) n (j + 1))) (-1) v
section RA
variable {P n : Nat} {h : mv_H} (hn : (mv_i h P 2).toInt = n) (hn2 : n ≤ 32768)
theorem next_r (hn : (mv_i h P 2).toInt = n) (hn2 : n ≤ 32768) (j : Nat) (v : Int64) : f_Book_next P (rA P n h j v) = some (tkT P h (pos (ck h n) n (j + 1)) (tok (ck h n) n (j + 1)) v) :=
  next_e hn hn2 (bp_bd (ck_end h n) (ck_lt h n) (j + 1)).1 _ _ _ _ _
theorem next_g (hn : (mv_i h P 2).toInt = n) (hn2 : n ≤ 32768) {j : Nat} (v : Int64) (hb : (tok (ck h n) n (j + 1)).2.2.2 = none) : f_Book_next P (rA P n h j v) = some (some 0, rA P n h (j + 1) (numv v (tok (ck h n) n (j + 1)).2.2.1)) := by
  rw [next_r hn hn2]
  unfold tkT
  rw [hb]
  rfl
theorem next_b (hn : (mv_i h P 2).toInt = n) (hn2 : n ≤ 32768) {j : Nat} (v : Int64) (hb : ¬ (tok (ck h n) n (j + 1)).2.2.2 = none) : ∃ g, f_Book_next P (rA P n h j v) = some (none, g) := by
  rw [next_r hn hn2]
  unfold tkT
  cases e : (tok (ck h n) n (j + 1)).2.2.2 with
  | none => exact absurd e hb
  | some x => exact ⟨_, rfl⟩
theorem rA_o {o k : Nat} (j : Nat) (v : Int64) (e : ¬ (o = P ∧ 3 ≤ k ∧ k ≤ 7)) : mv_i (rA P n h j v) o k = mv_i h o k := tkR_o P h _ _ _ _ _ _ e
theorem rA_4 (j : Nat) (v : Int64) : mv_i (rA P n h j v) P 4 = (tok (ck h n) n j).1 := tkR_4 ..
theorem rA_5 (j : Nat) (v : Int64) : mv_i (rA P n h j v) P 5 = nI (pos (ck h n) n j) := tkR_5 ..
theorem rA_6 (j : Nat) (v : Int64) : mv_i (rA P n h j v) P 6 = nI (bp (ck h n) n (j + 1)) := tkR_6 ..
theorem rA_9 (j : Nat) (v : Int64) : mv_l (rA P n h j v) P 9 = v := tkR_l ..
theorem pass_g (hn : (mv_i h P 2).toInt = n) (hn2 : n ≤ 32768) {j : Nat} (v : Int64) (hd : mv_i h P 8 ≤ 60) (hb : (tok (ck h n) n (j + 1)).2.2.2 = none) : f_Book_pass P (rA P n h j v) = some (some 0, rA P n h (j + 1) (numv v (tok (ck h n) n (j + 1)).2.2.1)) := by
  unfold f_Book_pass
  rw [rA_o j v (by omega), if_pos hd, next_g hn hn2 v hb, xtb_s]
theorem pass_b (hn : (mv_i h P 2).toInt = n) (hn2 : n ≤ 32768) {j : Nat} (v : Int64) (hb : ¬ (mv_i h P 8 ≤ 60 ∧ (tok (ck h n) n (j + 1)).2.2.2 = none)) : ∃ g, f_Book_pass P (rA P n h j v) = some (none, g) := by
  unfold f_Book_pass
  rw [rA_o j v (by omega)]
  by_cases hd : mv_i h P 8 ≤ 60
  · obtain ⟨g, e⟩ := next_b hn hn2 v (fun w => hb ⟨hd, w⟩)
    rw [if_pos hd, e, xtb_n]
    exact ⟨g, rfl⟩
  · rw [if_neg hd]
    exact ⟨_, rfl⟩
theorem need_g (hn : (mv_i h P 2).toInt = n) (hn2 : n ≤ 32768) {j : Nat} (v : Int64) {k : Int32} (hk : (tok (ck h n) n j).1 = k) (hd : mv_i h P 8 ≤ 60) (hb : (tok (ck h n) n (j + 1)).2.2.2 = none) : f_Book_need P (rA P n h j v) k = some (some 0, rA P n h (j + 1) (numv v (tok (ck h n) n (j + 1)).2.2.1)) := by
  unfold f_Book_need
  rw [rA_4, if_pos hk, pass_g hn hn2 v hd hb, xtb_s]
theorem need_b (hn : (mv_i h P 2).toInt = n) (hn2 : n ≤ 32768) {j : Nat} (v : Int64) {k : Int32} (hb : ¬ ((tok (ck h n) n j).1 = k ∧ mv_i h P 8 ≤ 60 ∧ (tok (ck h n) n (j + 1)).2.2.2 = none)) : ∃ g, f_Book_need P (rA P n h j v) k = some (none, g) := by
  unfold f_Book_need
  rw [rA_4]
  by_cases hk : (tok (ck h n) n j).1 = k
  · obtain ⟨g, e⟩ := pass_b hn hn2 v (fun w => hb ⟨hk, w⟩)
    rw [if_pos hk, e, xtb_n]
    exact ⟨g, rfl⟩
  · rw [if_neg hk]
    exact ⟨_, rfl⟩
end RA
/-- a piece of the reference's text -/
def s7 (h : mv_H) (q l : Nat) : List Int32 := (List.range l).map fun j => mv_a h 71 (q + j)
theorem s7_len (h : mv_H) (q l : Nat) : (s7 h q l).length = l := by unfold s7; rw [List.length_map, List.length_range]
theorem s7_get (h : mv_H) (q l j : Nat) (hj : j < l) : (s7 h q l).getD j 0 = mv_a h 71 (q + j) := by
  unfold s7
  rw [List.getD_eq_getElem?_getD, List.getElem?_map, List.getElem?_range hj]
  rfl
section SAME
variable {P : Nat} {h : mv_H}
theorem same_lp {a b c l : Nat} (hab : a + l = b) (hb : b ≤ 32768) (hc : c + l ≤ 32768) : ∀ (m nn j : Nat), j + m = l → m < nn → f_Book_same_15 P nn (nI a) (nI b) (nI c) (nI j) h = some (b01 (eqs (fun k => mv_a h 71 (a + k)) (fun k => mv_a h 71 (c + k)) m j), h) := by
  intro m
  induction m with
  | zero =>
    intro nn j hj hn
    obtain ⟨nn, rfl⟩ : ∃ k, nn = k + 1 := ⟨nn - 1, by omega⟩
    show fF_Book_same_15 P (f_Book_same_15 P nn) (nI a) (nI b) (nI c) (nI j) h = _
    unfold fF_Book_same_15
    rw [nIsub (by omega) (by omega), if_pos ((nIle (by omega) (by omega)).mpr (by omega)), xz1']
    rfl
  | succ m ih =>
    intro nn j hj hn
    obtain ⟨nn, rfl⟩ : ∃ k, nn = k + 1 := ⟨nn - 1, by omega⟩
    show fF_Book_same_15 P (f_Book_same_15 P nn) (nI a) (nI b) (nI c) (nI j) h = _
    unfold fF_Book_same_15
    rw [nIsub (by omega) (by omega), if_neg (fun z => by have := (nIle (by omega) (by omega)).mp z; omega), nIadd (by omega), nIadd (by omega), xvi_n (by omega) (by decide), xvi_n (by omega) (by decide), cln (by omega), cln (by omega), nI1 (by omega), xz0]
    simp only [cond_true]
    have es : eqs (fun k => mv_a h 71 (a + k)) (fun k => mv_a h 71 (c + k)) (m + 1) j = if mv_a h 71 (a + j) = mv_a h 71 (c + j) then eqs (fun k => mv_a h 71 (a + k)) (fun k => mv_a h 71 (c + k)) m (j + 1) else false := rfl
    rw [es]
    by_cases e : mv_a h 71 (a + j) = mv_a h 71 (c + j)
    · rw [if_pos e, if_pos e]
      exact ih nn (j + 1) (by omega) (by omega)
    · rw [if_neg e, if_neg e]
      rfl
/-- same: the two names are one -/
theorem same_n {a b c d : Nat} (hab : a ≤ b) (hb : b ≤ 32768) (hcd : c ≤ d) (hd : d ≤ 32768) : f_Book_same P h (nI a) (nI b) (nI c) (nI d) = some (b01 (decide (s7 h a (b - a) = s7 h c (d - c))), h) := by
  unfold f_Book_same
  rw [nIsub hab (by omega), nIsub hcd (by omega), xz0]
  by_cases e : b - a = d - c
  · rw [if_pos (by rw [e])]
    have e0 : (0 : Int32) = nI 0 := rfl
    rw [e0, same_lp (l := b - a) (by omega) hb (by omega) (b - a) 200000 0 (by omega) (by omega)]
    have key : eqs (fun k => mv_a h 71 (a + k)) (fun k => mv_a h 71 (c + k)) (b - a) 0 = decide (s7 h a (b - a) = s7 h c (d - c)) := by
      apply Bool.eq_iff_iff.mpr
      rw [eqs_all, decide_eq_true_iff]
      constructor
      · intro w
        refine list_eq (by rw [s7_len, s7_len]; omega) fun j hj => ?_
        rw [s7_len] at hj
        rw [s7_get _ _ _ _ hj, s7_get _ _ _ _ (by omega)]
        exact w j (by omega) (by omega)
      · intro w k _ hk
        have := congrArg (fun x => x.getD k 0) w
        simp only [s7_get h a (b - a) k (by omega), s7_get h c (d - c) k (by omega)] at this
        exact this
    rw [key]
  · have ne : ¬ s7 h a (b - a) = s7 h c (d - c) := fun w => e (by have := congrArg List.length w; rw [s7_len, s7_len] at this; exact this)
    rw [if_neg (fun z => e ((nI_c (by omega) (by omega)).mp z)), decide_eq_false ne]
    rfl
end SAME
/-- a name of the text, as characters -/
def tn (T : Nat → Nat) (q l : Nat) : List Nat := (List.range l).map fun j => T (q + j)
theorem tn_len (T : Nat → Nat) (q l : Nat) : (tn T q l).length = l := by unfold tn; rw [List.length_map, List.length_range]
theorem tn_get (T : Nat → Nat) (q l j : Nat) (hj : j < l) : (tn T q l).getD j 0 = T (q + j) := by
  unfold tn
  rw [List.getD_eq_getElem?_getD, List.getElem?_map, List.getElem?_range hj]
  rfl
theorem listN_eq {a b : List Nat} (h1 : a.length = b.length) (h2 : ∀ j, j < a.length → a.getD j 0 = b.getD j 0) : a = b := by
  refine List.ext_getElem h1 fun j ha hb => ?_
  have := h2 j ha
  rw [List.getD_eq_getElem?_getD, List.getD_eq_getElem?_getD, List.getElem?_eq_getElem ha, List.getElem?_eq_getElem hb] at this
  exact this
/-- a word of the program, as characters -/
def wrdN (a0 : Nat) : List Nat := (st_g a0).2.2.2.map fun x => (x &&& 255).toNatClampNeg
theorem wrdN_len (a0 : Nat) : (wrdN a0).length = (st_g a0).2.2.2.length := by unfold wrdN; rw [List.length_map]
theorem wrdN_get (a0 j : Nat) (hj : j < (st_g a0).2.2.2.length) : ((st_g a0).2.2.2.getD j 0 &&& 255) = nI ((wrdN a0).getD j 0) ∧ (wrdN a0).getD j 0 < 256 := by
  unfold wrdN
  rw [List.getD_eq_getElem?_getD, List.getD_eq_getElem?_getD, List.getElem?_map, List.getElem?_eq_getElem hj]
  show ((st_g a0).2.2.2[j] &&& 255) = nI ((st_g a0).2.2.2[j] &&& 255).toNatClampNeg ∧ ((st_g a0).2.2.2[j] &&& 255).toNatClampNeg < 256
  have := xand255 (st_g a0).2.2.2[j]
  have h2 := i32_cl this.1
  exact ⟨Int32.toInt_inj.mp (h2.symm.trans (nI_toInt (by omega)).symm), by omega⟩
def eqN (A B : Nat → Nat) : Nat → Nat → Bool
  | 0, _ => true
  | m + 1, j => if A j = B j then eqN A B m (j + 1) else false
theorem eqN_all {A B : Nat → Nat} : ∀ (m j : Nat), eqN A B m j = true ↔ ∀ k, j ≤ k → k < j + m → A k = B k := by
  intro m
  induction m with
  | zero => intro j; exact ⟨fun _ k h1 h2 => by omega, fun _ => rfl⟩
  | succ m ih =>
    intro j
    show (if A j = B j then eqN A B m (j + 1) else false) = true ↔ _
    by_cases e : A j = B j
    · rw [if_pos e, ih]
      constructor
      · intro w k h1 h2
        by_cases z : k = j
        · rw [z]; exact e
        · exact w k (by omega) (by omega)
      · intro w k h1 h2; exact w k (by omega) (by omega)
    · rw [if_neg e]
      exact ⟨fun w => absurd w (by decide), fun w => absurd (w j (by omega) (by omega)) e⟩
section IS
variable {P n : Nat} {h : mv_H} (hn : (mv_i h P 2).toInt = n) (hn2 : n ≤ 32768)
theorem text_lp (hn : (mv_i h P 2).toInt = n) (hn2 : n ≤ 32768) {a0 : Nat} (ha : (st_g a0).2.2.2.length ≤ 1000) {q : Nat} (hq : q ≤ n) : ∀ (m nn j : Nat), j + m = (st_g a0).2.2.2.length → m < nn → f_Book_text_0_15 P a0 nn (nI q) (nI j) h = some (b01 (eqN (fun k => ck h n (q + k)) (fun k => (wrdN a0).getD k 0) m j), h) := by
  intro m
  have el : Int32.ofNat (st_g a0).2.2.2.length = nI (st_g a0).2.2.2.length := rfl
  induction m with
  | zero =>
    intro nn j hj hn
    obtain ⟨nn, rfl⟩ : ∃ k, nn = k + 1 := ⟨nn - 1, by omega⟩
    show fF_Book_text_0_15 P a0 (f_Book_text_0_15 P a0 nn) (nI q) (nI j) h = _
    unfold fF_Book_text_0_15
    rw [el, if_pos ((nIle (by omega) (by omega)).mpr (by omega)), xz1']
    rfl
  | succ m ih =>
    intro nn j hj hnn
    obtain ⟨nn, rfl⟩ : ∃ k, nn = k + 1 := ⟨nn - 1, by omega⟩
    show fF_Book_text_0_15 P a0 (f_Book_text_0_15 P a0 nn) (nI q) (nI j) h = _
    unfold fF_Book_text_0_15
    have hw := wrdN_get a0 j (by omega)
    have hc := ck_lt h n (q + j)
    rw [el, if_neg (fun z => by have := (nIle (by omega) (by omega)).mp z; omega), nIadd (by omega), look_c hn hn2 (nIi (by omega)), xhb_s, xvi_n (by omega) (by omega), cln (by omega), nI1 (by omega), xz0, hw.1]
    simp only [cond_true]
    have es : eqN (fun k => ck h n (q + k)) (fun k => (wrdN a0).getD k 0) (m + 1) j = if ck h n (q + j) = (wrdN a0).getD j 0 then eqN (fun k => ck h n (q + k)) (fun k => (wrdN a0).getD k 0) m (j + 1) else false := rfl
    rw [es]
    by_cases e : ck h n (q + j) = (wrdN a0).getD j 0
    · rw [if_pos e, if_pos ((chrk hc rfl hw.2).mpr e)]
      exact ih nn (j + 1) (by omega) (by omega)
    · rw [if_neg e, if_neg (fun z => e ((chrk hc rfl hw.2).mp z))]
      rfl
theorem text_w (hn : (mv_i h P 2).toInt = n) (hn2 : n ≤ 32768) {a0 : Nat} (ha : (st_g a0).2.2.2.length ≤ 1000) {q b : Nat} (hq : q ≤ b) (hb : b ≤ n) : f_Book_text_0 P h a0 (nI q) (nI b) = some (b01 (decide (tn (ck h n) q (b - q) = wrdN a0)), h) := by
  unfold f_Book_text_0
  have el : Int32.ofNat (st_g a0).2.2.2.length = nI (st_g a0).2.2.2.length := rfl
  have hl := wrdN_len a0
  rw [nIsub hq (by omega), el, xz0]
  by_cases e : b - q = (st_g a0).2.2.2.length
  · have e0 : (0 : Int32) = nI 0 := rfl
    rw [if_pos (by rw [e]), e0, text_lp hn hn2 ha (by omega) (st_g a0).2.2.2.length 200000 0 (by omega) (by omega)]
    have key : eqN (fun k => ck h n (q + k)) (fun k => (wrdN a0).getD k 0) (st_g a0).2.2.2.length 0 = decide (tn (ck h n) q (b - q) = wrdN a0) := by
      apply Bool.eq_iff_iff.mpr
      rw [eqN_all, decide_eq_true_iff]
      constructor
      · intro w
        refine listN_eq (by rw [tn_len]; omega) fun j hj => ?_
        rw [tn_len] at hj
        rw [tn_get _ _ _ _ hj]
        exact w j (by omega) (by omega)
      · intro w k _ hk
        have := congrArg (fun x => x.getD k 0) w
        simp only [tn_get (ck h n) q (b - q) k (by omega)] at this
        exact this
    rw [key]
  · have ne : ¬ tn (ck h n) q (b - q) = wrdN a0 := fun w => e (by have := congrArg List.length w; rw [tn_len] at this; omega)
    rw [if_neg (fun z => e ((nI_c (by omega) (by omega)).mp z)), decide_eq_false ne]
    rfl
/-- token j is the word a0 -/
abbrev isW (T : Nat → Nat) (n j a0 : Nat) : Prop := (tok T n j).1 = 1 ∧ tn T (pos T n j) (bp T n (j + 1) - pos T n j) = wrdN a0
theorem is_r (hn : (mv_i h P 2).toInt = n) (hn2 : n ≤ 32768) {a0 : Nat} (ha : (st_g a0).2.2.2.length ≤ 1000) (j : Nat) (v : Int64) : f_Book_is P (rA P n h j v) a0 = some (b01 (decide (isW (ck h n) n j a0)), rA P n h j v) := by
  unfold f_Book_is f_Book_is_28
  have h1 := bp_bd (ck_end h n) (ck_lt h n) j
  have h2 := tok_bd (ck_end h n) (ck_lt h n) h1.2.1
  have h3 := (bp_bd (ck_end h n) (ck_lt h n) (j + 1)).1
  have e2 : (mv_i (rA P n h j v) P 2).toInt = n := by rw [rA_o j v (by omega)]; exact hn
  have et := text_w e2 hn2 (a0 := a0) ha (q := pos (ck h n) n j) (b := bp (ck h n) n (j + 1)) h2.1 h3
  have ec : ck (rA P n h j v) n = ck h n := rfl
  rw [ec] at et
  rw [rA_4, rA_5, rA_6, et, xhb_s, xz0, xz1']
  simp only [cond_true]
  by_cases k : (tok (ck h n) n j).1 = 1
  · rw [if_pos k]
    by_cases e : tn (ck h n) (pos (ck h n) n j) (bp (ck h n) n (j + 1) - pos (ck h n) n j) = wrdN a0
    · rw [decide_eq_true e, if_neg (show ¬ b01 true = 0 by decide), decide_eq_true (show isW (ck h n) n j a0 from ⟨k, e⟩)]
      rfl
    · rw [decide_eq_false e, if_pos (show b01 false = 0 from rfl), decide_eq_false (show ¬ isW (ck h n) n j a0 from fun w => e w.2)]
      rfl
  · rw [if_neg k, decide_eq_false (show ¬ isW (ck h n) n j a0 from fun w => k w.1)]
    rfl
end IS
theorem s141 : (st_g 141).2.2.2.length = 75 := by decide +kernel
/-- the words of the reference, a blank around each -/
def wS (k : Nat) : Nat := (wrdN 141).getD k 0
theorem wS_e {k : Nat} (hk : k < 75) : ((st_g 141).2.2.2.getD k 0 &&& 255) = nI (wS k) ∧ wS k < 256 := wrdN_get 141 k (by rw [s141]; exact hk)
/-- is it a word -/
def s_res (A : Nat → Nat) (l : Nat) : Nat → Nat → Bool
  | 0, _ => false
  | m + 1, i => if 75 ≤ i + l + 1 then false else if wS i = 32 ∧ wS (i + 1 + l) = 32 ∧ eqN A (fun k => wS (i + 1 + k)) l 0 = true then true else s_res A l m (i + 1)
section RES
variable {P n : Nat} {h : mv_H} (hn : (mv_i h P 2).toInt = n) (hn2 : n ≤ 32768) {q b : Nat} (hq : q ≤ b) (hb : b ≤ n) (h5 : mv_i h P 5 = nI q) (h6 : mv_i h P 6 = nI b)
theorem res_in (hn : (mv_i h P 2).toInt = n) (hn2 : n ≤ 32768) (hq : q ≤ b) (hb : b ≤ n) (h5 : mv_i h P 5 = nI q) (h6 : mv_i h P 6 = nI b) (k25 : Int32 → mv_H → Option (Int32 × mv_H)) {i : Nat} (hi : i + (b - q) + 1 < 75) : ∀ (m nn p : Nat) (f : Bool), q ≤ p → p + m = b → m < nn → f_Book_reserved_90 P k25 nn (nI i) (b01 f) (nI p) h = if f = true ∧ eqN (fun k => ck h n (q + k)) (fun k => wS (i + 1 + k)) m (p - q) = true then some (1, h) else k25 (nI (i + 1)) h := by
  intro m
  have e1 : (1 : Int32) = nI 1 := rfl
  induction m with
  | zero =>
    intro nn p f hp hm hnn
    obtain ⟨nn, rfl⟩ : ∃ k, nn = k + 1 := ⟨nn - 1, by omega⟩
    show fF_Book_reserved_90 P k25 (f_Book_reserved_90 P k25 nn) (nI i) (b01 f) (nI p) h = _
    unfold fF_Book_reserved_90 f_Book_reserved_135
    rw [h6, if_pos ((nIle (by omega) (by omega)).mpr (by omega)), nI1 (by omega), xz1']
    cases f
    · rw [if_pos (show b01 false = 0 from rfl), if_neg (fun w => absurd w.1 (by decide))]
    · rw [if_neg (show ¬ b01 true = 0 by decide), if_pos ⟨rfl, rfl⟩]
      rfl
  | succ m ih =>
    intro nn p f hp hm hnn
    obtain ⟨nn, rfl⟩ : ∃ k, nn = k + 1 := ⟨nn - 1, by omega⟩
    show fF_Book_reserved_90 P k25 (f_Book_reserved_90 P k25 nn) (nI i) (b01 f) (nI p) h = _
    unfold fF_Book_reserved_90 f_Book_reserved_123
    have hw := wS_e (k := i + 1 + p - q) (by omega)
    have hc := ck_lt h n p
    rw [h6, if_neg (fun z => by have := (nIle (by omega) (by omega)).mp z; omega), look_c hn hn2 (nIi (by omega)), xhb_s, h5, nI1 (by omega), nIadd (by omega), nIsub (by omega) (by omega), s141, xvi_n (by omega) (by decide), cln (by omega), nI1 (by omega), hw.1]
    simp only [cond_true]
    have es : eqN (fun k => ck h n (q + k)) (fun k => wS (i + 1 + k)) (m + 1) (p - q) = if ck h n (q + (p - q)) = wS (i + 1 + (p - q)) then eqN (fun k => ck h n (q + k)) (fun k => wS (i + 1 + k)) m (p - q + 1) else false := rfl
    rw [es, show q + (p - q) = p by omega, show i + 1 + (p - q) = i + 1 + p - q by omega, show p - q + 1 = p + 1 - q by omega]
    by_cases e : ck h n p = wS (i + 1 + p - q)
    · rw [if_pos e, if_pos ((chrk hc rfl hw.2).mpr e)]
      exact ih nn (p + 1) f (by omega) (by omega) (by omega)
    · rw [if_neg e, if_neg (fun z => e ((chrk hc rfl hw.2).mp z)), if_neg (fun w => absurd w.2 (by decide))]
      have := ih nn (p + 1) false (by omega) (by omega) (by omega)
      rw [if_neg (fun w => absurd w.1 (by decide))] at this
      exact this
theorem res_lp (hn : (mv_i h P 2).toInt = n) (hn2 : n ≤ 32768) (hq : q ≤ b) (hb : b ≤ n) (h5 : mv_i h P 5 = nI q) (h6 : mv_i h P 6 = nI b) (hl : b - q ≤ 32) : ∀ (m nn i : Nat), i ≤ 75 → 75 - i < m → 75 - i < nn → f_Book_reserved_25 P nn (nI i) h = some (b01 (s_res (fun k => ck h n (q + k)) (b - q) m i), h) := by
  intro m
  induction m with
  | zero => intro nn i _ w; omega
  | succ m ih =>
    intro nn i hi hm hnn
    obtain ⟨nn, rfl⟩ : ∃ k, nn = k + 1 := ⟨nn - 1, by omega⟩
    have es : s_res (fun k => ck h n (q + k)) (b - q) (m + 1) i = if 75 ≤ i + (b - q) + 1 then false else if wS i = 32 ∧ wS (i + 1 + (b - q)) = 32 ∧ eqN (fun k => ck h n (q + k)) (fun k => wS (i + 1 + k)) (b - q) 0 = true then true else s_res (fun k => ck h n (q + k)) (b - q) m (i + 1) := rfl
    show fF_Book_reserved_25 P (f_Book_reserved_25 P nn) (nI i) h = _
    unfold fF_Book_reserved_25 f_Book_reserved_135
    have el : Int32.ofNat (st_g 141).2.2.2.length = nI 75 := by rw [s141]; rfl
    rw [el, s141, h5, h6, nIadd (by omega), nIsub (by omega) (by omega), nI1 (by omega), nI1 (by omega), nIadd (by omega), nIsub (by omega) (by omega), es, xz0]
    by_cases a : 75 ≤ i + (b - q) + 1
    · rw [if_pos ((nIle (by omega) (by omega)).mpr (by omega)), if_pos a]
      rfl
    · rw [if_neg (fun z => by have := (nIle (by omega) (by omega)).mp z; omega), if_neg a, xvi_n (by omega) (by decide), xvi_n (by omega) (by decide), cln (by omega), cln (by omega), (wS_e (k := i) (by omega)).1, (wS_e (k := i + 1 + b - q) (by omega)).1]
      simp only [cond_true]
      have c1 : nI (wS i) = 32 ↔ wS i = 32 := nIk (by have := (wS_e (k := i) (by omega)).2; omega) rfl (by decide)
      have c2 : nI (wS (i + 1 + b - q)) = 32 ↔ wS (i + 1 + b - q) = 32 := nIk (by have := (wS_e (k := i + 1 + b - q) (by omega)).2; omega) rfl (by decide)
      have go := ih nn (i + 1) (by omega) (by omega) (by omega)
      rw [show i + 1 + (b - q) = i + 1 + b - q by omega]
      by_cases d1 : wS i = 32
      · rw [if_pos (c1.mpr d1)]
        by_cases d2 : wS (i + 1 + b - q) = 32
        · have hin := res_in hn hn2 hq hb h5 h6 (f_Book_reserved_25 P nn) (i := i) (by omega) (b - q) 200000 q true (Nat.le_refl _) (by omega) (by omega)
          rw [Nat.sub_self] at hin
          rw [if_pos (c2.mpr d2)]
          have hin' : f_Book_reserved_90 P (f_Book_reserved_25 P nn) 200000 (nI i) 1 (nI q) h = _ := hin
          rw [hin']
          by_cases d3 : eqN (fun k => ck h n (q + k)) (fun k => wS (i + 1 + k)) (b - q) 0 = true
          · rw [if_pos ⟨rfl, d3⟩, if_pos ⟨d1, d2, d3⟩]
            rfl
          · rw [if_neg (fun w => d3 w.2), if_neg (fun w => d3 w.2.2)]
            exact go
        · rw [if_neg (fun w => d2 (c2.mp w)), if_neg (fun w => d2 w.2.1)]
          exact go
      · rw [if_neg (fun w => d1 (c1.mp w)), if_neg (fun w => d1 w.1)]
        exact go
end RES
/-- the words, as characters -/
def WDN : List (List Nat) := WD.map fun w => w.map fun x => x.toNatClampNeg
def wSl (i l : Nat) : List Nat := (List.range l).map fun k => wS (i + k)
theorem wn_1 : ∀ i, i < 75 → ∀ l, l < 75 → i + l + 1 < 75 → wS i = 32 → wS (i + 1 + l) = 32 → ((wSl (i + 1) l).contains 32 || WDN.contains (wSl (i + 1) l)) = true := by decide +kernel
theorem wn_2 : ∀ w, w ∈ WDN → w.length ≤ 5 ∧ ∃ i, i < 75 ∧ i + w.length + 1 < 75 ∧ wS i = 32 ∧ wS (i + 1 + w.length) = 32 ∧ wSl (i + 1) w.length = w := by decide +kernel
theorem s_res_iff {A : Nat → Nat} {l : Nat} : ∀ (m i : Nat), 75 - i < m → (s_res A l m i = true ↔ ∃ k, i ≤ k ∧ k + l + 1 < 75 ∧ wS k = 32 ∧ wS (k + 1 + l) = 32 ∧ ∀ t, t < l → A t = wS (k + 1 + t)) := by
  intro m
  induction m with
  | zero => intro i h; omega
  | succ m ih =>
    intro i hm
    have es : s_res A l (m + 1) i = if 75 ≤ i + l + 1 then false else if wS i = 32 ∧ wS (i + 1 + l) = 32 ∧ eqN A (fun k => wS (i + 1 + k)) l 0 = true then true else s_res A l m (i + 1) := rfl
    rw [es]
    by_cases a : 75 ≤ i + l + 1
    · rw [if_pos a]
      exact ⟨fun w => absurd w (by decide), fun ⟨k, h1, h2, _⟩ => by omega⟩
    · rw [if_neg a]
      by_cases c : wS i = 32 ∧ wS (i + 1 + l) = 32 ∧ eqN A (fun k => wS (i + 1 + k)) l 0 = true
      · rw [if_pos c]
        exact ⟨fun _ => ⟨i, Nat.le_refl _, by omega, c.1, c.2.1, fun t ht => (eqN_all l 0).mp c.2.2 t (by omega) (by omega)⟩, fun _ => rfl⟩
      · rw [if_neg c, ih (i + 1) (by omega)]
        constructor
        · rintro ⟨k, h1, h2⟩
          exact ⟨k, by omega, h2⟩
        · rintro ⟨k, h1, h2, h3, h4, h5⟩
          by_cases e : k = i
          · subst e
            exact absurd ⟨h3, h4, (eqN_all l 0).mpr fun t _ ht => h5 t (by omega)⟩ c
          · exact ⟨k, by omega, h2, h3, h4, h5⟩
theorem res_iff {T : Nat → Nat} {q l : Nat} (hT : ∀ k, k < l → ¬ T (q + k) = 32) : s_res (fun k => T (q + k)) l 76 0 = true ↔ tn T q l ∈ WDN := by
  rw [s_res_iff 76 0 (by omega)]
  constructor
  · rintro ⟨k, _, h2, h3, h4, h5⟩
    have e : tn T q l = wSl (k + 1) l := by
      unfold tn wSl
      refine List.map_congr_left fun t ht => ?_
      exact h5 t (List.mem_range.mp ht)
    have := wn_1 k (by omega) l (by omega) h2 h3 h4
    rw [Bool.or_eq_true] at this
    rcases this with w | w
    · rw [← e] at w
      have w := List.contains_iff_mem.mp w
      unfold tn at w
      obtain ⟨t, ht, et⟩ := List.mem_map.mp w
      exact absurd et (hT t (List.mem_range.mp ht))
    · rw [e]
      exact List.contains_iff_mem.mp w
  · intro w
    obtain ⟨_, i, hi, h2, h3, h4, h5⟩ := wn_2 _ w
    rw [tn_len] at h2 h4 h5
    refine ⟨i, Nat.zero_le _, h2, h3, h4, fun t ht => ?_⟩
    have := congrArg (fun x => x.getD t 0) h5
    simp only [tn_get T q l t ht] at this
    rw [← this]
    unfold wSl
    rw [List.getD_eq_getElem?_getD, List.getElem?_map, List.getElem?_range ht]
    rfl
theorem s_name_all {T : Nat → Nat} : ∀ (m p k : Nat), p ≤ k → k < s_name T m p → isL (T k) = true ∨ isD (T k) = true := by
  intro m
  induction m with
  | zero => intro p k h1 h2; exact absurd (show k < p from h2) (by omega)
  | succ m ih =>
    intro p k h1 h2
    rw [s_name_u] at h2
    by_cases a : isL (T p) = true ∨ isD (T p) = true
    · rw [if_pos a] at h2
      by_cases e : k = p
      · rw [e]; exact a
      · exact ih (p + 1) k (by omega) h2
    · rw [if_neg a] at h2; omega
/-- token j is a word -/
abbrev isR (T : Nat → Nat) (n j : Nat) : Prop := (tok T n j).1 = 1 ∧ tn T (pos T n j) (bp T n (j + 1) - pos T n j) ∈ WDN
section RR
variable {P n : Nat} {h : mv_H} (hn : (mv_i h P 2).toInt = n) (hn2 : n ≤ 32768)
theorem reserved_r (hn : (mv_i h P 2).toInt = n) (hn2 : n ≤ 32768) (j : Nat) (v : Int64) : f_Book_reserved P (rA P n h j v) = some (b01 (decide (isR (ck h n) n j)), rA P n h j v) := by
  unfold f_Book_reserved f_Book_reserved_21
  have h1 := bp_bd (ck_end h n) (ck_lt h n) j
  have h2 := tok_bd (ck_end h n) (ck_lt h n) h1.2.1
  have h3 := (bp_bd (ck_end h n) (ck_lt h n) (j + 1)).1
  have hqb : pos (ck h n) n j ≤ bp (ck h n) n (j + 1) := h2.1
  have e2 : (mv_i (rA P n h j v) P 2).toInt = n := by rw [rA_o j v (by omega)]; exact hn
  rw [rA_4]
  by_cases k : (tok (ck h n) n j).1 = 1
  · have ht := h2.2.2.2 k
    have hsp : ∀ t, t < bp (ck h n) n (j + 1) - pos (ck h n) n j → ¬ ck h n (pos (ck h n) n j + t) = 32 := fun t ht' e => by
      have e3 : bp (ck h n) n (j + 1) = s_name (ck h n) (n + 1) (pos (ck h n) n j) := ht.2
      have := s_name_all (T := ck h n) (n + 1) (pos (ck h n) n j) (pos (ck h n) n j + t) (by omega) (by omega)
      rw [e] at this
      exact absurd this (by decide)
    have hr := res_iff (T := ck h n) (q := pos (ck h n) n j) hsp
    have e5 : nI (bp (ck h n) n (j + 1) - pos (ck h n) n j) ≤ 5 ↔ bp (ck h n) n (j + 1) - pos (ck h n) n j ≤ 5 := nIle (b := 5) (by omega) (by decide)
    rw [if_pos k, rA_6, rA_5, nIsub hqb (by omega), xz0]
    by_cases d : bp (ck h n) n (j + 1) - pos (ck h n) n j ≤ 5
    · have el := res_lp e2 hn2 hqb h3 (rA_5 j v) (rA_6 j v) (by omega) 76 200000 0 (by omega) (by omega) (by omega)
      have ec : ck (rA P n h j v) n = ck h n := rfl
      rw [ec] at el
      have el' : f_Book_reserved_25 P 200000 0 (rA P n h j v) = _ := el
      rw [if_pos (e5.mpr d), el']
      have : s_res (fun k => ck h n (pos (ck h n) n j + k)) (bp (ck h n) n (j + 1) - pos (ck h n) n j) 76 0 = decide (isR (ck h n) n j) := by
        apply Bool.eq_iff_iff.mpr
        rw [hr, decide_eq_true_iff]
        exact ⟨fun w => ⟨k, w⟩, fun w => w.2⟩
      rw [this]
    · have ne : ¬ isR (ck h n) n j := fun w => by
        have := (wn_2 _ w.2).1
        rw [tn_len] at this
        exact d this
      rw [if_neg (fun w => d (e5.mp w)), decide_eq_false ne]
      rfl
  · rw [if_neg k, decide_eq_false (show ¬ isR (ck h n) n j from fun w => k w.1), xz0]
    rfl
end RR
section RS
variable {P n : Nat} {h : mv_H}
theorem tkR_si {o k : Nat} (e : ¬ (o = P ∧ 3 ≤ k ∧ k ≤ 7)) (a kk s t b x : Int32) (v : Int64) : mv_si (tkR P h a kk s t b v) o k x = tkR P (mv_si h o k x) a kk s t b v := by
  refine si_ext (fun o' k' => ?_) rfl
  show (if o' = o ∧ k' = k then x else mv_i (tkR P h a kk s t b v) o' k') = _
  rw [tkR_i, tkR_i]
  by_cases d : o' = o ∧ k' = k
  · rw [if_pos d, if_neg (by omega), if_neg (by omega), if_neg (by omega), if_neg (by omega), if_neg (by omega)]
    exact (if_pos d).symm
  · rw [if_neg d]
    have : mv_i (mv_si h o k x) o' k' = mv_i h o' k' := if_neg d
    rw [this]
/-- writes elsewhere do not touch the reader -/
theorem rA_si {o k : Nat} (e : ¬ (o = P ∧ 3 ≤ k ∧ k ≤ 7)) (j : Nat) (v : Int64) (x : Int32) : mv_si (rA P n h j v) o k x = rA P n (mv_si h o k x) j v := tkR_si e _ _ _ _ _ _ _
theorem rA_sa {o : Nat} (e : ¬ o = 71) (k j : Nat) (v : Int64) (x : Int32) : mv_sa (rA P n h j v) o k x = rA P n (mv_sa h o k x) j v := by
  have ec : ck (mv_sa h o k x) n = ck h n := by
    funext p
    have : mv_a (mv_sa h o k x) 71 p = mv_a h 71 p := mv_u_ne (mv_a h) x (fun w => e w.1.symm)
    unfold ck
    rw [this]
  unfold rA
  rw [ec]
  rfl
theorem rA_sb (o k j : Nat) (v x : Int64) : mv_sb (rA P n h j v) o k x = rA P n (mv_sb h o k x) j v := rfl
/-- the name at token j, as the reader keeps it -/
def nmH (P n : Nat) (h : mv_H) (j : Nat) : mv_H := mv_si (mv_si h P 49 (nI (pos (ck h n) n j))) P 50 (nI (bp (ck h n) n (j + 1)))
variable (hn : (mv_i h P 2).toInt = n) (hn2 : n ≤ 32768)
theorem name_g (hn : (mv_i h P 2).toInt = n) (hn2 : n ≤ 32768) {j : Nat} (v : Int64) (hk : (tok (ck h n) n j).1 = 1) (hr : ¬ isR (ck h n) n j) (hd : mv_i h P 8 ≤ 60) (hb : (tok (ck h n) n (j + 1)).2.2.2 = none) : f_Book_name P (rA P n h j v) = some (some 0, rA P n (nmH P n h j) (j + 1) (numv v (tok (ck h n) n (j + 1)).2.2.1)) := by
  unfold f_Book_name
  rw [rA_4, if_pos hk, reserved_r hn hn2, xhb_s, decide_eq_false hr, if_pos (show b01 false = 0 from rfl), rA_5, rA_si (by omega), xk_s]
  have e6 : mv_i (rA P n (mv_si h P 49 (nI (pos (ck h n) n j))) j v) P 6 = nI (bp (ck h n) n (j + 1)) := rA_6 ..
  rw [e6, rA_si (by omega), xk_s]
  have e2 : (mv_i (nmH P n h j) P 2).toInt = n := by
    have : mv_i (nmH P n h j) P 2 = mv_i h P 2 := (mv_u_ne (mv_i (mv_si h P 49 (nI (pos (ck h n) n j)))) _ (by omega)).trans (mv_u_ne (mv_i h) _ (by omega))
    rw [this]; exact hn
  have e8 : mv_i (nmH P n h j) P 8 ≤ 60 := by
    have : mv_i (nmH P n h j) P 8 = mv_i h P 8 := (mv_u_ne (mv_i (mv_si h P 49 (nI (pos (ck h n) n j)))) _ (by omega)).trans (mv_u_ne (mv_i h) _ (by omega))
    rw [this]; exact hd
  have ep := pass_g (P := P) (h := nmH P n h j) e2 hn2 (j := j) v e8 hb
  show xtb (f_Book_pass P (rA P n (nmH P n h j) j v)) _ = _
  rw [ep, xtb_s]
  rfl
theorem name_b (hn : (mv_i h P 2).toInt = n) (hn2 : n ≤ 32768) {j : Nat} (v : Int64) (hb : ¬ ((tok (ck h n) n j).1 = 1 ∧ ¬ isR (ck h n) n j ∧ mv_i h P 8 ≤ 60 ∧ (tok (ck h n) n (j + 1)).2.2.2 = none)) : ∃ g, f_Book_name P (rA P n h j v) = some (none, g) := by
  unfold f_Book_name f_Book_name_15
  rw [rA_4]
  by_cases hk : (tok (ck h n) n j).1 = 1
  · rw [if_pos hk, reserved_r hn hn2, xhb_s]
    by_cases hr : isR (ck h n) n j
    · rw [decide_eq_true hr, if_neg (show ¬ b01 true = 0 by decide)]
      exact ⟨_, rfl⟩
    · rw [decide_eq_false hr, if_pos (show b01 false = 0 from rfl), rA_5, rA_si (by omega), xk_s]
      have e6 : mv_i (rA P n (mv_si h P 49 (nI (pos (ck h n) n j))) j v) P 6 = nI (bp (ck h n) n (j + 1)) := rA_6 ..
      rw [e6, rA_si (by omega), xk_s]
      have e2 : (mv_i (nmH P n h j) P 2).toInt = n := by
        have : mv_i (nmH P n h j) P 2 = mv_i h P 2 := (mv_u_ne (mv_i (mv_si h P 49 (nI (pos (ck h n) n j)))) _ (by omega)).trans (mv_u_ne (mv_i h) _ (by omega))
        rw [this]; exact hn
      have e8 : mv_i (nmH P n h j) P 8 = mv_i h P 8 := (mv_u_ne (mv_i (mv_si h P 49 (nI (pos (ck h n) n j)))) _ (by omega)).trans (mv_u_ne (mv_i h) _ (by omega))
      obtain ⟨g, ep⟩ := pass_b (P := P) (h := nmH P n h j) e2 hn2 (j := j) v (fun w => hb ⟨hk, hr, e8 ▸ w.1, w.2⟩)
      refine ⟨g, ?_⟩
      show xtb (f_Book_pass P (rA P n (nmH P n h j) j v)) _ = _
      rw [ep, xtb_n]
  · rw [if_neg hk]
    exact ⟨_, rfl⟩
theorem needW_g (hn : (mv_i h P 2).toInt = n) (hn2 : n ≤ 32768) {a0 : Nat} (ha : (st_g a0).2.2.2.length ≤ 1000) {j : Nat} (v : Int64) (hw : isW (ck h n) n j a0) (hd : mv_i h P 8 ≤ 60) (hb : (tok (ck h n) n (j + 1)).2.2.2 = none) : f_Book_needWord P (rA P n h j v) a0 = some (some 0, rA P n h (j + 1) (numv v (tok (ck h n) n (j + 1)).2.2.1)) := by
  unfold f_Book_needWord
  rw [is_r hn hn2 ha, xhb_s, decide_eq_true hw, if_neg (show ¬ b01 true = 0 by decide), pass_g hn hn2 v hd hb, xtb_s]
theorem needW_b (hn : (mv_i h P 2).toInt = n) (hn2 : n ≤ 32768) {a0 : Nat} (ha : (st_g a0).2.2.2.length ≤ 1000) {j : Nat} (v : Int64) (hb : ¬ (isW (ck h n) n j a0 ∧ mv_i h P 8 ≤ 60 ∧ (tok (ck h n) n (j + 1)).2.2.2 = none)) : ∃ g, f_Book_needWord P (rA P n h j v) a0 = some (none, g) := by
  unfold f_Book_needWord
  rw [is_r hn hn2 ha, xhb_s]
  by_cases hw : isW (ck h n) n j a0
  · obtain ⟨g, e⟩ := pass_b hn hn2 (j := j) v (fun w => hb ⟨hw, w⟩)
    rw [decide_eq_true hw, if_neg (show ¬ b01 true = 0 by decide), e, xtb_n]
    exact ⟨g, rfl⟩
  · rw [decide_eq_false hw, if_pos (show b01 false = 0 from rfl)]
    exact ⟨_, rfl⟩
end RS
/-- the first of m from i on -/
def fstm (p : Nat → Bool) : Nat → Nat → Option Nat
  | 0, _ => none
  | m + 1, i => if p i = true then some i else fstm p m (i + 1)
def resI : Option Nat → Int32
  | none => -1
  | some i => nI i
theorem fstm_n {p : Nat → Bool} : ∀ (m i : Nat), fstm p m i = none ↔ ∀ k, i ≤ k → k < i + m → p k = false := by
  intro m
  induction m with
  | zero => intro i; exact ⟨fun _ k h1 h2 => by omega, fun _ => rfl⟩
  | succ m ih =>
    intro i
    show (if p i = true then some i else fstm p m (i + 1)) = none ↔ _
    by_cases e : p i = true
    · rw [if_pos e]
      refine ⟨fun w => (by cases w), fun w => ?_⟩
      have := w i (by omega) (by omega)
      rw [e] at this
      cases this
    · rw [if_neg e, ih]
      constructor
      · intro w k h1 h2
        by_cases z : k = i
        · rw [z]; exact Bool.eq_false_iff.mpr e
        · exact w k (by omega) (by omega)
      · intro w k h1 h2; exact w k (by omega) (by omega)
theorem fstm_s {p : Nat → Bool} : ∀ (m i k : Nat), fstm p m i = some k → i ≤ k ∧ k < i + m ∧ p k = true ∧ ∀ t, i ≤ t → t < k → p t = false := by
  intro m
  induction m with
  | zero => intro i k w; cases w
  | succ m ih =>
    intro i k w
    have w : (if p i = true then some i else fstm p m (i + 1)) = some k := w
    by_cases e : p i = true
    · rw [if_pos e] at w
      cases w
      exact ⟨Nat.le_refl _, by omega, e, fun t h1 h2 => by omega⟩
    · rw [if_neg e] at w
      have := ih _ _ w
      refine ⟨by omega, by omega, this.2.2.1, fun t h1 h2 => ?_⟩
      by_cases z : t = i
      · rw [z]; exact Bool.eq_false_iff.mpr e
      · exact this.2.2.2 t (by omega) h2
section Xthing
variable {P : Nat} {h : mv_H}
theorem thing_lp {N a b : Nat} {S E : Nat → Nat} (hN : mv_i h P 17 = nI N) (hN2 : N ≤ 4100) (hS : ∀ i, i < N → mv_a h (P + 1) i = nI (S i) ∧ mv_a h (P + 2) i = nI (E i) ∧ S i ≤ E i ∧ E i ≤ 32768) (hab : a ≤ b) (hb : b ≤ 32768) : ∀ (m nn i : Nat), i + m = N → m < nn →
    f_Book_thing_2 P nn (nI a) (nI b) (nI i) h = some (resI (fstm (fun i => decide (s7 h (S i) (E i - S i) = s7 h a (b - a))) m i), h) := by
  intro m
  induction m with
  | zero =>
    intro nn i hi hnn
    obtain ⟨nn, rfl⟩ : ∃ k, nn = k + 1 := ⟨nn - 1, by omega⟩
    show fF_Book_thing_2 P (f_Book_thing_2 P nn) (nI a) (nI b) (nI i) h = _
    unfold fF_Book_thing_2
    rw [hN, if_pos ((nIle (by omega) (by omega)).mpr (by omega))]
    rfl
  | succ m ih =>
    intro nn i hi hnn
    obtain ⟨nn, rfl⟩ : ∃ k, nn = k + 1 := ⟨nn - 1, by omega⟩
    show fF_Book_thing_2 P (f_Book_thing_2 P nn) (nI a) (nI b) (nI i) h = _
    unfold fF_Book_thing_2
    have hs := hS i (by omega)
    rw [hN, if_neg (fun z => by have := (nIle (by omega) (by omega)).mp z; omega), xvi_n (by omega) (by decide), cln (by omega), hs.1, hs.2.1, nI1 (by omega)]
    simp only [cond_true]
    rw [same_n hs.2.2.1 hs.2.2.2 hab hb, xhb_s]
    have es : fstm (fun i => decide (s7 h (S i) (E i - S i) = s7 h a (b - a))) (m + 1) i = if decide (s7 h (S i) (E i - S i) = s7 h a (b - a)) = true then some i else fstm (fun i => decide (s7 h (S i) (E i - S i) = s7 h a (b - a))) m (i + 1) := rfl
    rw [es]
    by_cases e : s7 h (S i) (E i - S i) = s7 h a (b - a)
    · rw [decide_eq_true e, if_neg (show ¬ b01 true = 0 by decide), if_pos rfl]
      rfl
    · rw [decide_eq_false e, if_pos (show b01 false = 0 from rfl), if_neg (show ¬ false = true by decide)]
      exact ih nn (i + 1) (by omega) (by omega)
theorem thing_n {N a b : Nat} {S E : Nat → Nat} (hN : mv_i h P 17 = nI N) (hN2 : N ≤ 4100) (hS : ∀ i, i < N → mv_a h (P + 1) i = nI (S i) ∧ mv_a h (P + 2) i = nI (E i) ∧ S i ≤ E i ∧ E i ≤ 32768) (hab : a ≤ b) (hb : b ≤ 32768) :
    f_Book_thing P h (nI a) (nI b) = some (resI (fstm (fun i => decide (s7 h (S i) (E i - S i) = s7 h a (b - a))) N 0), h) := thing_lp hN hN2 hS hab hb N 200000 0 (by omega) (by omega)
end Xthing
section Xlet
variable {P : Nat} {h : mv_H}
theorem let_lp {N a b : Nat} {S E : Nat → Nat} (hN : mv_i h P 35 = nI N) (hN2 : N ≤ 4100) (hS : ∀ i, i < N → mv_a h (P + 14) i = nI (S i) ∧ mv_a h (P + 15) i = nI (E i) ∧ S i ≤ E i ∧ E i ≤ 32768) (hab : a ≤ b) (hb : b ≤ 32768) : ∀ (m nn i : Nat), i + m = N → m < nn →
    f_Book_let_2 P nn (nI a) (nI b) (nI i) h = some (resI (fstm (fun i => decide (s7 h (S i) (E i - S i) = s7 h a (b - a))) m i), h) := by
  intro m
  induction m with
  | zero =>
    intro nn i hi hnn
    obtain ⟨nn, rfl⟩ : ∃ k, nn = k + 1 := ⟨nn - 1, by omega⟩
    show fF_Book_let_2 P (f_Book_let_2 P nn) (nI a) (nI b) (nI i) h = _
    unfold fF_Book_let_2
    rw [hN, if_pos ((nIle (by omega) (by omega)).mpr (by omega))]
    rfl
  | succ m ih =>
    intro nn i hi hnn
    obtain ⟨nn, rfl⟩ : ∃ k, nn = k + 1 := ⟨nn - 1, by omega⟩
    show fF_Book_let_2 P (f_Book_let_2 P nn) (nI a) (nI b) (nI i) h = _
    unfold fF_Book_let_2
    have hs := hS i (by omega)
    rw [hN, if_neg (fun z => by have := (nIle (by omega) (by omega)).mp z; omega), xvi_n (by omega) (by decide), cln (by omega), hs.1, hs.2.1, nI1 (by omega)]
    simp only [cond_true]
    rw [same_n hs.2.2.1 hs.2.2.2 hab hb, xhb_s]
    have es : fstm (fun i => decide (s7 h (S i) (E i - S i) = s7 h a (b - a))) (m + 1) i = if decide (s7 h (S i) (E i - S i) = s7 h a (b - a)) = true then some i else fstm (fun i => decide (s7 h (S i) (E i - S i) = s7 h a (b - a))) m (i + 1) := rfl
    rw [es]
    by_cases e : s7 h (S i) (E i - S i) = s7 h a (b - a)
    · rw [decide_eq_true e, if_neg (show ¬ b01 true = 0 by decide), if_pos rfl]
      rfl
    · rw [decide_eq_false e, if_pos (show b01 false = 0 from rfl), if_neg (show ¬ false = true by decide)]
      exact ih nn (i + 1) (by omega) (by omega)
theorem let_n {N a b : Nat} {S E : Nat → Nat} (hN : mv_i h P 35 = nI N) (hN2 : N ≤ 4100) (hS : ∀ i, i < N → mv_a h (P + 14) i = nI (S i) ∧ mv_a h (P + 15) i = nI (E i) ∧ S i ≤ E i ∧ E i ≤ 32768) (hab : a ≤ b) (hb : b ≤ 32768) :
    f_Book_let P h (nI a) (nI b) = some (resI (fstm (fun i => decide (s7 h (S i) (E i - S i) = s7 h a (b - a))) N 0), h) := let_lp hN hN2 hS hab hb N 200000 0 (by omega) (by omega)
end Xlet
section TAKE
variable {h : mv_H} {a : Nat} (ha : mv_i h 3 7 = nI a) (ha2 : a < 32770) (hr : mv_i h 3 9 < 0)
set_option linter.unusedSectionVars false
theorem nle0 (ha : mv_i h 3 7 = nI a) (ha2 : a < 32770) (hr : mv_i h 3 9 < 0) : ¬ (0 : Int32) ≤ mv_i h 3 9 := by
  have := Int32.lt_iff_toInt_lt.mp hr
  intro w
  have := Int32.le_iff_toInt_le.mp w
  have e0 : (0 : Int32).toInt = 0 := by decide
  omega
/-- the class at token a, nothing wrong so far -/
theorem kind_c (ha : mv_i h 3 7 = nI a) (ha2 : a < 32770) (hr : mv_i h 3 9 < 0) : f_Tokens_kind h = some (mv_a h 4 a, h) := by
  unfold f_Tokens_kind
  rw [if_neg (nle0 ha ha2 hr), ha, xvi_n ha2 (by decide), cln (by omega)]
  rfl
theorem wrong_c (ha : mv_i h 3 7 = nI a) (ha2 : a < 32770) (hr : mv_i h 3 9 < 0) : f_Tokens_wrong h = some (mv_si h 3 9 (mv_a h 5 a)) := by
  unfold f_Tokens_wrong
  rw [if_neg (nle0 ha ha2 hr), ha, xvi_n ha2 (by decide), cln (by omega)]
  rfl
theorem take_c (ha : mv_i h 3 7 = nI a) (ha2 : a < 32770) (hr : mv_i h 3 9 < 0) (k : Int32) : f_Tokens_take h k = some (if mv_a h 4 a = k then (nI a, mv_si h 3 7 (nI (a + 1))) else (0, mv_si h 3 9 (mv_a h 5 a))) := by
  unfold f_Tokens_take
  rw [kind_c ha ha2 hr, xhb_s, wrong_c ha ha2 hr, xhv_s, ha, nI1 (by omega)]
  by_cases e : mv_a h 4 a = k
  · rw [if_pos e, if_pos e]
    rfl
  · rw [if_neg e, if_neg e]
theorem close_c (ha : mv_i h 3 7 = nI a) (ha2 : a < 32770) (hr : mv_i h 3 9 < 0) (k : Int32) : f_Tokens_close h k = some (if mv_a h 4 a = k then (nI a, mv_si (mv_si h 3 8 (mv_i h 3 8 - 1)) 3 7 (nI (a + 1))) else (0, mv_si (mv_si h 3 8 (mv_i h 3 8 - 1)) 3 9 (mv_a h 5 a))) := by
  unfold f_Tokens_close
  have e7 : mv_i (mv_si h 3 8 (mv_i h 3 8 - 1)) 3 7 = nI a := ha
  have e9 : mv_i (mv_si h 3 8 (mv_i h 3 8 - 1)) 3 9 < 0 := by
    have : mv_i (mv_si h 3 8 (mv_i h 3 8 - 1)) 3 9 = mv_i h 3 9 := rfl
    rw [this]; exact hr
  rw [xk_s, take_c e7 ha2 e9]
  rfl
theorem open_c (ha : mv_i h 3 7 = nI a) (ha2 : a < 32770) (hr : mv_i h 3 9 < 0) (k : Int32) (hd : ¬ mv_i h 3 8 = 60) : f_Tokens_open h k = some (if mv_a h 4 a = k then (nI a, mv_si (mv_si h 3 8 (mv_i h 3 8 + 1)) 3 7 (nI (a + 1))) else (0, mv_si (mv_si h 3 8 (mv_i h 3 8 + 1)) 3 9 (mv_a h 5 a))) := by
  unfold f_Tokens_open f_Tokens_open_13
  have e7 : mv_i (mv_si h 3 8 (mv_i h 3 8 + 1)) 3 7 = nI a := ha
  have e9 : mv_i (mv_si h 3 8 (mv_i h 3 8 + 1)) 3 9 < 0 := by
    have : mv_i (mv_si h 3 8 (mv_i h 3 8 + 1)) 3 9 = mv_i h 3 9 := rfl
    rw [this]; exact hr
  rw [if_neg hd, xk_s, take_c e7 ha2 e9]
  rfl
end TAKE
/-- how many of m places from i on hold c -/
def cntm (A : Nat → Int32) (c : Int32) : Nat → Nat → Nat → Nat
  | 0, _, x => x
  | m + 1, i, x => if A i = c then cntm A c m (i + 1) (x + 1) else cntm A c m (i + 1) x
section LB
variable {P : Nat} {h : mv_H}
theorem lb_lp {E : Nat} (hE : mv_i h P 30 = nI E) (hE2 : E ≤ 32768) (c : Int32) : ∀ (m nn i x : Nat), i + m = E → m < nn → x ≤ i → f_Book_letterBits_12 P nn c (nI x) (nI i) h = some (nI (cntm (mv_a h (P + 13)) c m i x), h) := by
  intro m
  induction m with
  | zero =>
    intro nn i x hi hnn hx
    obtain ⟨nn, rfl⟩ : ∃ k, nn = k + 1 := ⟨nn - 1, by omega⟩
    show fF_Book_letterBits_12 P (f_Book_letterBits_12 P nn) c (nI x) (nI i) h = _
    unfold fF_Book_letterBits_12
    rw [hE, if_pos ((nIle (by omega) (by omega)).mpr (by omega))]
    rfl
  | succ m ih =>
    intro nn i x hi hnn hx
    obtain ⟨nn, rfl⟩ : ∃ k, nn = k + 1 := ⟨nn - 1, by omega⟩
    show fF_Book_letterBits_12 P (f_Book_letterBits_12 P nn) c (nI x) (nI i) h = _
    unfold fF_Book_letterBits_12 f_Book_letterBits_33
    rw [hE, if_neg (fun z => by have := (nIle (by omega) (by omega)).mp z; omega), xvi_n (by omega) (by decide), cln (by omega), nI1 (by omega), nI1 (by omega), cond_true]
    have es : cntm (mv_a h (P + 13)) c (m + 1) i x = if mv_a h (P + 13) i = c then cntm (mv_a h (P + 13)) c m (i + 1) (x + 1) else cntm (mv_a h (P + 13)) c m (i + 1) x := rfl
    rw [es]
    by_cases e : mv_a h (P + 13) i = c
    · rw [if_pos e, if_pos e]
      exact ih nn (i + 1) (x + 1) (by omega) (by omega) (by omega)
    · rw [if_neg e, if_neg e]
      exact ih nn (i + 1) x (by omega) (by omega) (by omega)
/-- how many bits of the op's code a letter has: the op's code stands from B to E in row P + 13 -/
theorem letterBits_n {E B o : Nat} (hE : mv_i h P 30 = nI E) (hE2 : E ≤ 32768) (ho : mv_i h P 29 = nI o) (ho2 : o < 4100) (hB : mv_a h (P + 10) o = nI B) (hBE : B ≤ E) (c : Int32) : f_Book_letterBits P h c = some (nI (cntm (mv_a h (P + 13)) c (E - B) B 0), h) := by
  unfold f_Book_letterBits
  rw [ho, xvi_n ho2 (by decide), cln (by omega), hB, cond_true]
  exact lb_lp hE hE2 c (E - B) 200000 B 0 (by omega) (by omega) (by omega)
theorem cntm_le {A : Nat → Int32} {c : Int32} : ∀ (m i x : Nat), cntm A c m i x ≤ x + m := by
  intro m
  induction m with
  | zero => intro i x; exact Nat.le_refl _
  | succ m ih =>
    intro i x
    show (if A i = c then cntm A c m (i + 1) (x + 1) else cntm A c m (i + 1) x) ≤ _
    split
    · have := ih (i + 1) (x + 1); omega
    · have := ih (i + 1) x; omega
theorem isField_n {n : Nat} (hn : (mv_i h P 2).toInt = n) (hn2 : n ≤ 32768) {E B o : Nat} (hE : mv_i h P 30 = nI E) (hE2 : E ≤ 32768) (ho : mv_i h P 29 = nI o) (ho2 : o < 4100) (hB : mv_a h (P + 10) o = nI B) (hBE : B ≤ E) {a b : Nat} (hab : a ≤ b) (hb : b ≤ n) :
    f_Book_isField P h (nI a) (nI b) = some (b01 (decide (b - a = 1 ∧ isl (ck h n a) = true ∧ 0 < cntm (mv_a h (P + 13)) (chr (ck h n a)) (E - B) B 0)), h) := by
  unfold f_Book_isField f_Book_isField_44
  have hc := ck_lt h n a
  have eL := isl_L (ck h n a) (by omega)
  have hle := cntm_le (A := mv_a h (P + 13)) (c := chr (ck h n a)) (E - B) B 0
  have e1 : (1 : Int32) = nI 1 := rfl
  rw [nIsub hab (by omega), xz0, xz1']
  simp only [cond_true]
  by_cases d : b - a = 1
  · rw [if_pos (by rw [d]; rfl), look_c hn hn2 (nIi (by omega)), xhb_s, letter_c _ hc, xhb_s, look_c hn hn2 (nIi (by omega)), xhb_s, look_c hn hn2 (nIi (by omega)), xhb_s, letterBits_n hE hE2 ho ho2 hB hBE, xhb_s]
    simp only [b01_0, chrk (k := 95) (m := 95) hc rfl (by decide)]
    have ez : nI (cntm (mv_a h (P + 13)) (chr (ck h n a)) (E - B) B 0) ≤ 0 ↔ ¬ 0 < cntm (mv_a h (P + 13)) (chr (ck h n a)) (E - B) B 0 := by
      have := nIle (a := cntm (mv_a h (P + 13)) (chr (ck h n a)) (E - B) B 0) (b := 0) (by omega) (by decide)
      rw [show (0 : Int32) = nI 0 from rfl, this]
      omega
    simp only [ez]
    cases w : isL (ck h n a)
    · rw [if_pos rfl]
      have : isl (ck h n a) = false := by rw [w] at eL; exact (Bool.or_eq_false_iff.mp eL.symm).1
      rw [decide_eq_false (fun q => by rw [this] at q; exact absurd q.2.1 (by decide))]
      rfl
    · rw [if_neg (by decide)]
      by_cases f : ck h n a = 95
      · rw [if_pos f, decide_eq_false (fun q => by rw [f] at q; exact absurd q.2.1 (by decide))]
        rfl
      · have il : isl (ck h n a) = true := by rw [w, nbq f, Bool.or_false] at eL; exact eL.symm
        rw [if_neg f]
        by_cases g : 0 < cntm (mv_a h (P + 13)) (chr (ck h n a)) (E - B) B 0
        · rw [if_neg (fun q => q g), decide_eq_true ⟨d, il, g⟩]
          rfl
        · rw [if_pos g, decide_eq_false (fun q => g q.2.2)]
          rfl
  · rw [if_neg (show ¬ nI (b - a) = (1 : Int32) from fun w => d ((nI_c (b := 1) (by omega) (by decide)).mp w)), decide_eq_false (fun q => d q.1)]
    rfl
end LB
/-- the reference's row holds bytes -/
def byt7 (h : mv_H) : Prop := ∀ p, p < 32768 → mv_a h 71 p = sb ((mv_a h 71 p) &&& 255).toNatClampNeg
theorem ck_b {h : mv_H} (hb : byt7 h) {n p : Nat} (hn2 : n ≤ 32768) (z : p < n) : mv_a h 71 p = sb (ck h n p) := by
  rw [hb p (by omega)]
  unfold ck
  rw [if_pos z, ← hb p (by omega)]
theorem sl_tn {h : mv_H} (hb : byt h) {n q l : Nat} (hn2 : n ≤ 32768) (hq : q + l ≤ n) : sl h q l = (tn (cc h n) q l).map sb := by
  unfold sl tn
  rw [List.map_map]
  refine List.map_congr_left fun j hj => ?_
  have := List.mem_range.mp hj
  exact cc_b hb hn2 (by omega)
theorem s7_tn {h : mv_H} (hb : byt7 h) {n q l : Nat} (hn2 : n ≤ 32768) (hq : q + l ≤ n) : s7 h q l = (tn (ck h n) q l).map sb := by
  unfold s7 tn
  rw [List.map_map]
  refine List.map_congr_left fun j hj => ?_
  have := List.mem_range.mp hj
  exact ck_b hb hn2 (by omega)
theorem sb_inj {c d : Nat} (hc : c < 256) (hd : d < 256) (e : sb c = sb d) : c = d := by
  have := congrArg Int32.toInt e
  rw [sb_i hc, sb_i hd] at this
  split at this <;> split at this <;> omega
theorem map_sb : ∀ (a b : List Nat), (∀ x, x ∈ a → x < 256) → (∀ x, x ∈ b → x < 256) → (a.map sb = b.map sb ↔ a = b) := by
  intro a
  induction a with
  | nil =>
    intro b _ _
    cases b with
    | nil => exact ⟨fun _ => rfl, fun _ => rfl⟩
    | cons y b => exact ⟨fun w => (by cases w), fun w => (by cases w)⟩
  | cons x a ih =>
    intro b ha hb
    cases b with
    | nil => exact ⟨fun w => (by cases w), fun w => (by cases w)⟩
    | cons y b =>
      have ih' := ih b (fun t ht => ha t (List.mem_cons_of_mem _ ht)) (fun t ht => hb t (List.mem_cons_of_mem _ ht))
      constructor
      · intro w
        rw [List.map_cons, List.map_cons] at w
        have w1 := (List.cons.inj w).1
        have w2 := (List.cons.inj w).2
        rw [sb_inj (ha x (List.mem_cons_self ..)) (hb y (List.mem_cons_self ..)) w1, ih'.mp w2]
      · intro w; rw [w]
theorem tn_256 {T : Nat → Nat} {n q l : Nat} (hT : ∀ p, p < n → T p < 256) (hq : q + l ≤ n) : ∀ x, x ∈ tn T q l → x < 256 := by
  intro x hx
  unfold tn at hx
  obtain ⟨j, hj, e⟩ := List.mem_map.mp hx
  have := List.mem_range.mp hj
  rw [← e]
  exact hT _ (by omega)
/-- names of the class are one where their characters are -/
theorem sl_iff {h : mv_H} (hb : byt h) {n a l c m : Nat} (hn2 : n ≤ 32768) (h1 : a + l ≤ n) (h2 : c + m ≤ n) : sl h a l = sl h c m ↔ tn (cc h n) a l = tn (cc h n) c m := by
  rw [sl_tn hb hn2 h1, sl_tn hb hn2 h2]
  exact map_sb _ _ (tn_256 (fun p hp => cc_256 hp) h1) (tn_256 (fun p hp => cc_256 hp) h2)
theorem s7_iff {h : mv_H} (hb : byt7 h) {n a l c m : Nat} (hn2 : n ≤ 32768) (h1 : a + l ≤ n) (h2 : c + m ≤ n) : s7 h a l = s7 h c m ↔ tn (ck h n) a l = tn (ck h n) c m := by
  rw [s7_tn hb hn2 h1, s7_tn hb hn2 h2]
  exact map_sb _ _ (tn_256 (fun p hp => ck_256 hp) h1) (tn_256 (fun p hp => ck_256 hp) h2)
/-- two symbols of the class are one where the names are -/
theorem sym_iff {h : mv_H} {L : List (List Int32)} (hS : SYM h L) {i j : Nat} (hi : i < L.length) (hj : j < L.length) : L.getD i [] = L.getD j [] ↔ i = j := by
  constructor
  · intro e
    rw [List.getD_eq_getElem?_getD, List.getD_eq_getElem?_getD, List.getElem?_eq_getElem hi, List.getElem?_eq_getElem hj] at e
    have hp := List.pairwise_iff_getElem.mp hS.nd
    have e : L[i] = L[j] := e
    rcases Nat.lt_trichotomy i j with w | w | w
    · exact absurd e (hp i j hi hj w)
    · exact w
    · exact absurd e.symm (hp j i hj hi w)
  · intro e; rw [e]
/-- a symbol is a word where its name is -/
theorem WD_mem : ∀ w, w ∈ WD → w = (w.map fun x => x.toNatClampNeg).map sb ∧ ((w.map fun x => x.toNatClampNeg).all fun x => Nat.blt x 128) = true := by decide +kernel
theorem word_iff {h : mv_H} {L R : List (List Int32)} (hS : SYM h L) (hL : L = WD ++ R) {i : Nat} (hi : i < L.length) {w : List Nat} (hw : ∀ x, x ∈ w → x < 256) (e : L.getD i [] = w.map sb) : i < 17 ↔ w ∈ WDN := by
  have h17 := WD_ok.1
  constructor
  · intro hl
    have e2 : L.getD i [] = WD.getD i [] := by
      rw [hL, List.getD_eq_getElem?_getD, List.getElem?_append_left (by omega), ← List.getD_eq_getElem?_getD]
    have hm : WD.getD i [] ∈ WD := by
      rw [List.getD_eq_getElem?_getD, List.getElem?_eq_getElem (by omega)]
      exact List.getElem_mem _
    have hx := WD_mem _ hm
    have hall := List.all_eq_true.mp hx.2
    have e3 : w.map sb = (((WD.getD i []).map fun x => x.toNatClampNeg)).map sb := by rw [← hx.1, ← e2, e]
    have e4 := (map_sb _ _ hw (fun x hx' => by have := Nat.blt_eq.mp (hall x hx'); omega)).mp e3
    rw [e4]
    exact List.mem_map.mpr ⟨_, hm, rfl⟩
  · intro hm
    obtain ⟨y, hy, ey⟩ := List.mem_map.mp hm
    have hx := WD_mem _ hy
    obtain ⟨k, hk, ek⟩ := List.getElem_of_mem hy
    have e5 : L.getD k [] = y := by
      rw [hL, List.getD_eq_getElem?_getD, List.getElem?_append_left hk, List.getElem?_eq_getElem hk]
      exact ek
    have e6 : L.getD i [] = L.getD k [] := by
      rw [e5, e, ← ey]
      exact hx.1.symm
    have hk2 : k < L.length := by rw [hL, List.length_append]; omega
    have := (sym_iff hS hi hk2).mp e6
    omega
/-- a fault of the reference: it stands, and only its two fields are written -/
theorem fault_n (P : Nat) (h : mv_H) {k : Int32} (hk : 0 < k) (a : Int32) : ∃ x y, f_Book_fault P h k a = some (mv_si (mv_si h P 37 x) P 38 y) ∧ 0 < y := by
  have hself : ∀ x y, x = mv_i h P 37 → y = mv_i h P 38 → mv_si (mv_si h P 37 x) P 38 y = h := fun x y e1 e2 => by
    have e3 : mv_si h P 37 x = h := by rw [e1]; exact mv_si_self ..
    rw [e3, e2]
    exact mv_si_self ..
  have h0 : ¬ mv_i h P 38 ≤ 0 → 0 < mv_i h P 38 := fun w => Int32.not_le.mp w
  have w32 : f_Book_fault_32 P k a h = some (mv_si (mv_si h P 37 a) P 38 k) := rfl
  unfold f_Book_fault
  rw [w32]
  by_cases c1 : mv_i h P 38 ≤ 0
  · rw [if_pos c1]
    exact ⟨a, k, rfl, hk⟩
  · rw [if_neg c1]
    by_cases c2 : mv_i h P 37 < a
    · rw [if_pos c2]
      exact ⟨_, _, congrArg some (hself _ _ rfl rfl).symm, h0 c1⟩
    · rw [if_neg c2]
      by_cases c3 : a = mv_i h P 37
      · rw [if_pos c3]
        by_cases c4 : k < mv_i h P 38
        · rw [if_pos c4]
          exact ⟨a, k, rfl, hk⟩
        · rw [if_neg c4]
          exact ⟨_, _, congrArg some (hself _ _ rfl rfl).symm, h0 c1⟩
      · rw [if_neg c3]
        exact ⟨a, k, rfl, hk⟩
/-! S: the language over token numbers. kd: kinds (the class's), bk: broken, nu: numbers, nm: names or codes; lk: what a name means: (0 nothing, 1 register, 2 file, 3 value; width) -/
def on {α : Type} (b : Bool) (X : Option α) : Option α := bif b then X else none
theorem on_none {α : Type} (b : Bool) : on b (none : Option α) = none := by cases b <;> rfl
theorem on_bind {α β : Type} (b : Bool) (X : Option α) (f : α → Option β) : on b (X.bind f) = (on b X).bind f := by cases b <;> rfl
theorem on_s {α β : Type} (b : Bool) (a : α) (f : α → Option β) : (on b (some a)).bind f = on b (f a) := by cases b <;> rfl
theorem on_f {α : Type} (X : Option α) : on false X = none := rfl
theorem on_t {α : Type} (X : Option α) : on true X = X := rfl
def gd (c : Bool) : Option Unit := bif c then some () else none
theorem gd_t {β : Type} {c : Bool} (h : c = true) (f : Unit → Option β) : (gd c).bind f = f () := by rw [h]; rfl
theorem gd_f {β : Type} {c : Bool} (h : c = false) (f : Unit → Option β) : (gd c).bind f = none := by rw [h]; rfl
def TX : Type := (Nat → Nat) × (Nat → Bool) × (Nat → Nat) × (Nat → List Nat)
abbrev TX.mk (kd : Nat → Nat) (bk : Nat → Bool) (nu : Nat → Nat) (nm : Nat → List Nat) : TX := (kd, bk, nu, nm)
abbrev TX.kd (x : TX) : Nat → Nat := x.1
abbrev TX.bk (x : TX) : Nat → Bool := x.2.1
abbrev TX.nu (x : TX) : Nat → Nat := x.2.2.1
abbrev TX.nm (x : TX) : Nat → List Nat := x.2.2.2
/-- how tight a sign between two binds, 1 the least -/
def lvq (k : Nat) : Nat := if k = 124 then 1 else if k = 94 then 2 else if k = 38 then 3 else if k = 128 ∨ k = 129 then 4 else if k = 60 ∨ k = 130 then 5 else if k = 131 ∨ k = 132 then 6 else if k = 43 ∨ k = 45 then 7 else if k = 42 ∨ k = 47 ∨ k = 37 then 8 else 0
/-- two with a sign or word between them -/
def tw (k x y : Nat) : Option Nat := if k = 131 ∨ k = 132 ∨ k = 216 ∨ x = y then some (if lvq k = 4 ∨ lvq k = 5 ∨ k = 213 then 1 else x) else none
section SX
variable (X : TX)
/-- behind token j at depth d -/
def ps (d j : Nat) : Bool := Nat.ble d 60 && !X.bk (j + 1)
/-- token j is a k, and behind it -/
def ndq (d j k : Nat) : Option Unit := gd (Nat.beq (X.kd j) k && ps X d j)
/-- [h] or [h:l] behind a value x wide; token j is the [ -/
def sPk (d j x : Nat) : Option (Nat × Nat) :=
  (gd (ps X d j)).bind fun _ => (ndq X (d + 1) (j + 1) 4).bind fun _ =>
    if X.kd (j + 2) = 58 then (gd (ps X (d + 1) (j + 2))).bind fun _ => (ndq X (d + 1) (j + 3) 4).bind fun _ => (ndq X (d + 1) (j + 4) 93).bind fun _ =>
      if X.nu (j + 1) < x ∧ X.nu (j + 3) ≤ X.nu (j + 1) then some (j + 5, X.nu (j + 1) - X.nu (j + 3) + 1) else none
    else (ndq X (d + 1) (j + 2) 93).bind fun _ => if X.nu (j + 1) < x then some (j + 3, 1) else none
def sLit (d j : Nat) : Option (Nat × Nat) :=
  (gd (ps X d j)).bind fun _ => (ndq X d (j + 1) 39).bind fun _ => (ndq X d (j + 2) 4).bind fun _ =>
    if 1 ≤ X.nu j ∧ X.nu j ≤ 64 ∧ X.nu (j + 2) < 2 ^ X.nu j then some (j + 3, X.nu j) else none
variable (lk : List Nat → Nat × Nat) (R : Nat → Nat → Nat → Nat → Option (Nat × Nat))
def sEx (d j : Nat) : Option (Nat × Nat) :=
  (R 1 0 d j).bind fun x => if X.kd x.1 = 63 then
    (gd (ps X d x.1)).bind fun _ => (R 0 0 (d + 1) (x.1 + 1)).bind fun y => (ndq X (d + 1) y.1 58).bind fun _ => (R 0 0 (d + 1) (y.1 + 1)).bind fun z =>
      if x.2 = 1 ∧ y.2 = z.2 then some (z.1, y.2) else none
  else some x
def sBL (a d : Nat) : Nat → Nat → Nat → Option (Nat × Nat)
  | 0, _, _ => none
  | k + 1, j, w => if lvq (X.kd j) = a + 1 then (gd (ps X d j)).bind fun _ => (R 1 (a + 1) d (j + 1)).bind fun y => (tw (X.kd j) w y.2).bind fun z => sBL a d k y.1 z
    else some (j, w)
def sBi (a d j : Nat) : Option (Nat × Nat) := if a = 8 then R 2 0 d j else (R 1 (a + 1) d j).bind fun x => sBL X R a d 200000 x.1 x.2
def sUn (d j : Nat) : Option (Nat × Nat) := if X.kd j = 45 ∨ X.kd j = 126 ∨ X.kd j = 33 then
    (gd (ps X d j)).bind fun _ => (R 2 0 (d + 1) (j + 1)).bind fun x => if X.kd j = 33 ∧ ¬ x.2 = 1 then none else some x
  else R 3 0 d j
def sPL (d : Nat) : Nat → Nat → Nat → Option (Nat × Nat)
  | 0, _, _ => none
  | k + 1, j, w => if X.kd j = 91 then (sPk X d j w).bind fun z => sPL d k z.1 z.2 else some (j, w)
def sPo (d j : Nat) : Option (Nat × Nat) := (R 4 0 d j).bind fun x => sPL X d 200000 x.1 x.2
def sNm (d j : Nat) : Option (Nat × Nat) := (gd (ps X d j)).bind fun _ =>
  if (lk (X.nm j)).1 = 3 ∨ (lk (X.nm j)).1 = 1 then some (j + 1, (lk (X.nm j)).2)
  else if (lk (X.nm j)).1 = 2 ∧ X.kd (j + 1) = 91 then (gd (ps X d (j + 1))).bind fun _ => (R 0 0 (d + 1) (j + 2)).bind fun i => (ndq X (d + 1) i.1 93).bind fun _ => some (i.1 + 1, (lk (X.nm j)).2)
  else none
def sWi (d j : Nat) : Option (Nat × Nat) := (gd (ps X d j)).bind fun _ => (ndq X d (j + 1) 40).bind fun _ => (R 0 0 (d + 1) (j + 2)).bind fun x =>
  (ndq X (d + 1) x.1 44).bind fun _ => (ndq X (d + 1) (x.1 + 1) 4).bind fun _ => (ndq X (d + 1) (x.1 + 2) 41).bind fun _ =>
    if 1 ≤ X.nu (x.1 + 1) ∧ X.nu (x.1 + 1) ≤ 64 ∧ x.2 ≤ X.nu (x.1 + 1) then some (x.1 + 3, X.nu (x.1 + 1)) else none
def sCa (d j : Nat) : Option (Nat × Nat) := (gd (ps X d j)).bind fun _ => (ndq X d (j + 1) 40).bind fun _ => (R 0 0 (d + 1) (j + 2)).bind fun x =>
  (ndq X (d + 1) x.1 44).bind fun _ => (R 0 0 (d + 1) (x.1 + 1)).bind fun y => (ndq X (d + 1) y.1 41).bind fun _ => (tw (X.kd j) x.2 y.2).bind fun z => some (y.1 + 1, z)
def sTL (d : Nat) : Nat → Nat → Nat → Option (Nat × Nat)
  | 0, _, _ => none
  | k + 1, j, w => if X.kd j = 44 then (gd (ps X (d + 1) j)).bind fun _ => (R 0 0 (d + 1) (j + 1)).bind fun x => sTL d k x.1 (w + x.2)
    else (ndq X (d + 1) j 125).bind fun _ => if w ≤ 64 then some (j + 1, w) else none
def sTo (d j : Nat) : Option (Nat × Nat) := (gd (ps X d j)).bind fun _ => (R 0 0 (d + 1) (j + 1)).bind fun x => sTL X R d 200000 x.1 x.2
def sPr (d j : Nat) : Option (Nat × Nat) :=
  if X.kd j = 4 then sLit X d j
  else if X.kd j = 40 then (gd (ps X d j)).bind fun _ => (R 0 0 (d + 1) (j + 1)).bind fun x => (ndq X (d + 1) x.1 41).bind fun _ => some (x.1 + 1, x.2)
  else if X.kd j = 123 then R 8 0 d j
  else if X.kd j = 211 ∨ X.kd j = 212 then R 6 0 d j
  else if 213 ≤ X.kd j ∧ X.kd j ≤ 216 then R 7 0 d j
  else if X.kd j = 3 then R 5 0 d j else none
end SX
/-- an EXPR and its parts, by mode, as deep as the fuel: 0 expression, 1 binary of a level, 2 unary, 3 post, 4 primary, 5 named, 6 wider, 7 called, 8 together -/
def sR (X : TX) (lk : List Nat → Nat × Nat) : Nat → Nat → Nat → Nat → Nat → Option (Nat × Nat)
  | 0 => fun _ _ _ _ => none
  | n + 1 => fun m a d j => match m with
    | 0 => sEx X (sR X lk n) d j
    | 1 => sBi X (sR X lk n) a d j
    | 2 => sUn X (sR X lk n) d j
    | 3 => sPo X (sR X lk n) d j
    | 4 => sPr X (sR X lk n) d j
    | 5 => sNm X lk (sR X lk n) d j
    | 6 => sWi X (sR X lk n) d j
    | 7 => sCa X (sR X lk n) d j
    | _ => sTo X (sR X lk n) d j
/-- the words' places in the class's row, and the reference's strings of them -/
def wix (w : List Nat) : Nat := WDN.idxOf w
theorem WDN_len : WDN.length = 17 := by decide +kernel
/-- kinds, as the class has them -/
def kdT (T : Nat → Nat) (n j : Nat) : Nat :=
  if ¬ (tok T n j).2.2.2 = none ∨ (tok T n j).1 = -1 then 2 else if (tok T n j).1 = 0 then 1
  else if (tok T n j).1 = 1 then (if tn T (pos T n j) (bp T n (j + 1) - pos T n j) ∈ WDN then 200 + wix (tn T (pos T n j) (bp T n (j + 1) - pos T n j)) else 3)
  else if (tok T n j).1 = 2 then 4 else if (tok T n j).1 = 3 then 5 else (ckd (tok T n j).1).toNatClampNeg
def bkT (T : Nat → Nat) (n j : Nat) : Bool := (tok T n j).2.2.2.isSome
def nmT (T : Nat → Nat) (n j : Nat) : List Nat := if (tok T n j).1 = 3 then tn T (pos T n j + 1) (bp T n (j + 1) - pos T n j - 2) else tn T (pos T n j) (bp T n (j + 1) - pos T n j)
/-- the text, as S reads it -/
def txT (T : Nat → Nat) (n : Nat) : TX := ⟨kdT T n, bkT T n, fun j => ((tok T n j).2.2.1).getD 0, nmT T n⟩
theorem bkT_n {T : Nat → Nat} {n j : Nat} : bkT T n j = false ↔ (tok T n j).2.2.2 = none := by
  unfold bkT
  cases (tok T n j).2.2.2 <;> simp
theorem nIinj {a b : Nat} (ha : a < 2147483648) (hb : b < 2147483648) : nI a = nI b ↔ a = b := by
  constructor
  · intro e
    have := congrArg Int32.toInt e
    rw [nIi ha, nIi hb] at this
    omega
  · intro e; rw [e]
/-- kinds of the reference's tokens -/
theorem tok_kinds {T : Nat → Nat} {n : Nat} (hT : ∀ p, T p < 257) (j : Nat) : (tok T n j).1 = 0 ∨ (tok T n j).1 = 1 ∨ (tok T n j).1 = 2 ∨ (tok T n j).1 = 3 ∨ (tok T n j).1 = -1 ∨ ∃ c, 33 ≤ c ∧ c ≤ 260 ∧ (tok T n j).1 = nI c ∧ (c < 127 ∨ 256 ≤ c) := by
  unfold tok s_tok
  have h33 : ∀ c, c < 257 → isS c = true → 33 ≤ c ∧ c < 127 := by decide +kernel
  have hpv : ∀ c d, pairv c d = 0 ∨ (256 ≤ pairv c d ∧ pairv c d ≤ 260) := by
    intro c d
    unfold pairv
    cases (Nat.beq c 61 && Nat.beq d 61) <;> cases (Nat.beq c 33 && Nat.beq d 61) <;> cases (Nat.beq c 60 && Nat.beq d 61) <;> cases (Nat.beq c 60 && Nat.beq d 60) <;> cases (Nat.beq c 62 && Nat.beq d 62) <;> decide
  generalize pos T n j = q
  split
  · exact Or.inl rfl
  split
  · exact Or.inr (Or.inl rfl)
  split
  · exact Or.inr (Or.inr (Or.inl rfl))
  split
  · exact Or.inr (Or.inr (Or.inr (Or.inl rfl)))
  split
  · rename_i h
    rcases hpv (T q) (T (q + 1)) with w | w
    · exact absurd w h
    · exact Or.inr (Or.inr (Or.inr (Or.inr (Or.inr ⟨_, by omega, by omega, rfl, by omega⟩))))
  split
  · exact Or.inr (Or.inr (Or.inr (Or.inr (Or.inr ⟨260, by omega, by omega, rfl, by omega⟩))))
  split
  · rename_i h
    have := h33 _ (hT q) h
    exact Or.inr (Or.inr (Or.inr (Or.inr (Or.inr ⟨_, by omega, by omega, rfl, by omega⟩))))
  · exact Or.inr (Or.inr (Or.inr (Or.inr (Or.inl rfl))))
section KD
variable {T : Nat → Nat} {n j : Nat} (hT : ∀ p, T p < 257) (hb : (tok T n j).2.2.2 = none)
/-- a kind: what it says of the reference's -/
theorem kdT_cases (hT : ∀ p, T p < 257) (hb : (tok T n j).2.2.2 = none) : (kdT T n j = 2 ∧ (tok T n j).1 = -1) ∨ (kdT T n j = 1 ∧ (tok T n j).1 = 0) ∨ ((tok T n j).1 = 1 ∧ ¬ tn T (pos T n j) (bp T n (j + 1) - pos T n j) ∈ WDN ∧ kdT T n j = 3) ∨ ((tok T n j).1 = 1 ∧ tn T (pos T n j) (bp T n (j + 1) - pos T n j) ∈ WDN ∧ kdT T n j = 200 + wix (tn T (pos T n j) (bp T n (j + 1) - pos T n j)) ∧ wix (tn T (pos T n j) (bp T n (j + 1) - pos T n j)) < 17) ∨ (kdT T n j = 4 ∧ (tok T n j).1 = 2) ∨ (kdT T n j = 5 ∧ (tok T n j).1 = 3) ∨ ∃ c, 33 ≤ c ∧ c ≤ 260 ∧ (c < 127 ∨ 256 ≤ c) ∧ (tok T n j).1 = nI c ∧ kdT T n j = if 256 ≤ c then c - 128 else c := by
  have e1 : ¬ (1 : Int32) = -1 := by decide
  have e2 : ¬ (1 : Int32) = 0 := by decide
  unfold kdT
  rcases tok_kinds (n := n) hT j with w | w | w | w | w | ⟨c, h1, h2, w, h3⟩
  · refine Or.inr (Or.inl ⟨?_, w⟩)
    rw [w, hb, if_neg (by decide), if_pos rfl]
  · rw [w, hb, if_neg (by decide), if_neg (by decide), if_pos rfl]
    by_cases d : tn T (pos T n j) (bp T n (j + 1) - pos T n j) ∈ WDN
    · rw [if_pos d]
      refine Or.inr (Or.inr (Or.inr (Or.inl ⟨rfl, d, rfl, ?_⟩)))
      have := List.idxOf_lt_length_of_mem d
      rw [WDN_len] at this
      exact this
    · rw [if_neg d]
      exact Or.inr (Or.inr (Or.inl ⟨rfl, d, rfl⟩))
  · refine Or.inr (Or.inr (Or.inr (Or.inr (Or.inl ⟨?_, w⟩))))
    rw [w, hb, if_neg (by decide), if_neg (by decide), if_neg (by decide), if_pos rfl]
  · refine Or.inr (Or.inr (Or.inr (Or.inr (Or.inr (Or.inl ⟨?_, w⟩)))))
    rw [w, hb, if_neg (by decide), if_neg (by decide), if_neg (by decide), if_neg (by decide), if_pos rfl]
  · refine Or.inl ⟨?_, w⟩
    rw [w, if_pos (Or.inr rfl)]
  · refine Or.inr (Or.inr (Or.inr (Or.inr (Or.inr (Or.inr ⟨c, h1, h2, h3, w, ?_⟩)))))
    have k1 : ∀ x, x < 33 → ¬ nI c = nI x := fun x hx e => by have := (nIinj (by omega) (by omega)).mp e; omega
    rw [w, hb, if_neg (fun z => z.elim (fun y => y rfl) (nI_m1 (by omega))), if_neg (show ¬ nI c = 0 from k1 0 (by omega)), if_neg (show ¬ nI c = 1 from k1 1 (by omega)), if_neg (show ¬ nI c = 2 from k1 2 (by omega)), if_neg (show ¬ nI c = 3 from k1 3 (by omega))]
    have := ckd_p c (by omega)
    by_cases d : 256 ≤ c
    · rw [this.1 d, if_pos d, cln (by omega)]
    · rw [this.2 (by omega), if_neg d, cln (by omega)]
/-- signs -/
theorem kd_sg (hT : ∀ p, T p < 257) (hb : (tok T n j).2.2.2 = none) {c : Nat} (h1 : 33 ≤ c) (h2 : c ≤ 260) (h3 : c < 127 ∨ 256 ≤ c) : (tok T n j).1 = nI c ↔ kdT T n j = if 256 ≤ c then c - 128 else c := by
  have hm := nI_m1 (c := c) (by omega)
  have k1 : ∀ x, x < 33 → ¬ nI x = nI c := fun x hx e => by have := (nIinj (by omega) (by omega)).mp e; omega
  rcases kdT_cases hT hb with ⟨a, w⟩ | ⟨a, w⟩ | ⟨w, -, a⟩ | ⟨w, -, a, a2⟩ | ⟨a, w⟩ | ⟨a, w⟩ | ⟨c', k2, k3, k4, w, a⟩
  · rw [w, a]; exact ⟨fun z => absurd z.symm hm, fun z => by split at z <;> omega⟩
  · rw [w, a]; exact ⟨fun z => absurd z (k1 0 (by omega)), fun z => by split at z <;> omega⟩
  · rw [w, a]; exact ⟨fun z => absurd z (k1 1 (by omega)), fun z => by split at z <;> omega⟩
  · rw [w, a]; exact ⟨fun z => absurd z (k1 1 (by omega)), fun z => by split at z <;> omega⟩
  · rw [w, a]; exact ⟨fun z => absurd z (k1 2 (by omega)), fun z => by split at z <;> omega⟩
  · rw [w, a]; exact ⟨fun z => absurd z (k1 3 (by omega)), fun z => by split at z <;> omega⟩
  · rw [w, a, nIinj (by omega) (by omega)]
    split <;> split <;> omega
theorem kd_ch (hT : ∀ p, T p < 257) (hb : (tok T n j).2.2.2 = none) {c : Nat} (h1 : 33 ≤ c) (h2 : c < 127) : (tok T n j).1 = nI c ↔ kdT T n j = c := by
  rw [kd_sg hT hb h1 (by omega) (Or.inl h2), if_neg (by omega)]
theorem kd_num (hT : ∀ p, T p < 257) (hb : (tok T n j).2.2.2 = none) : (tok T n j).1 = 2 ↔ kdT T n j = 4 := by
  have k1 : ∀ x, 33 ≤ x → x ≤ 260 → ¬ nI x = 2 := fun x hx hy e => by have := (nIinj (b := 2) (by omega) (by omega)).mp e; omega
  rcases kdT_cases hT hb with ⟨a, w⟩ | ⟨a, w⟩ | ⟨w, -, a⟩ | ⟨w, -, a, a2⟩ | ⟨a, w⟩ | ⟨a, w⟩ | ⟨c', k2, k3, k4, w, a⟩
  · rw [w, a]; exact ⟨fun z => absurd z (by decide), fun z => absurd z (by omega)⟩
  · rw [w, a]; exact ⟨fun z => absurd z (by decide), fun z => absurd z (by omega)⟩
  · rw [w, a]; exact ⟨fun z => absurd z (by decide), fun z => absurd z (by omega)⟩
  · rw [w, a]; exact ⟨fun z => absurd z (by decide), fun z => absurd z (by omega)⟩
  · rw [w, a]; exact ⟨fun _ => rfl, fun _ => rfl⟩
  · rw [w, a]; exact ⟨fun z => absurd z (by decide), fun z => absurd z (by omega)⟩
  · rw [w, a]; exact ⟨fun z => absurd z (k1 _ k2 k3), fun z => by split at z <;> omega⟩
theorem kd_code (hT : ∀ p, T p < 257) (hb : (tok T n j).2.2.2 = none) : (tok T n j).1 = 3 ↔ kdT T n j = 5 := by
  have k1 : ∀ x, 33 ≤ x → x ≤ 260 → ¬ nI x = 3 := fun x hx hy e => by have := (nIinj (b := 3) (by omega) (by omega)).mp e; omega
  rcases kdT_cases hT hb with ⟨a, w⟩ | ⟨a, w⟩ | ⟨w, -, a⟩ | ⟨w, -, a, a2⟩ | ⟨a, w⟩ | ⟨a, w⟩ | ⟨c', k2, k3, k4, w, a⟩
  · rw [w, a]; exact ⟨fun z => absurd z (by decide), fun z => absurd z (by omega)⟩
  · rw [w, a]; exact ⟨fun z => absurd z (by decide), fun z => absurd z (by omega)⟩
  · rw [w, a]; exact ⟨fun z => absurd z (by decide), fun z => absurd z (by omega)⟩
  · rw [w, a]; exact ⟨fun z => absurd z (by decide), fun z => absurd z (by omega)⟩
  · rw [w, a]; exact ⟨fun z => absurd z (by decide), fun z => absurd z (by omega)⟩
  · rw [w, a]; exact ⟨fun _ => rfl, fun _ => rfl⟩
  · rw [w, a]; exact ⟨fun z => absurd z (k1 _ k2 k3), fun z => by split at z <;> omega⟩
theorem kd_end (hT : ∀ p, T p < 257) (hb : (tok T n j).2.2.2 = none) : (tok T n j).1 = 0 ↔ kdT T n j = 1 := by
  have k1 : ∀ x, 33 ≤ x → x ≤ 260 → ¬ nI x = 0 := fun x hx hy e => by have := (nIinj (b := 0) (by omega) (by omega)).mp e; omega
  rcases kdT_cases hT hb with ⟨a, w⟩ | ⟨a, w⟩ | ⟨w, -, a⟩ | ⟨w, -, a, a2⟩ | ⟨a, w⟩ | ⟨a, w⟩ | ⟨c', k2, k3, k4, w, a⟩
  · rw [w, a]; exact ⟨fun z => absurd z (by decide), fun z => absurd z (by omega)⟩
  · rw [w, a]; exact ⟨fun _ => rfl, fun _ => rfl⟩
  · rw [w, a]; exact ⟨fun z => absurd z (by decide), fun z => absurd z (by omega)⟩
  · rw [w, a]; exact ⟨fun z => absurd z (by decide), fun z => absurd z (by omega)⟩
  · rw [w, a]; exact ⟨fun z => absurd z (by decide), fun z => absurd z (by omega)⟩
  · rw [w, a]; exact ⟨fun z => absurd z (by decide), fun z => absurd z (by omega)⟩
  · rw [w, a]; exact ⟨fun z => absurd z (k1 _ k2 k3), fun z => by split at z <;> omega⟩
/-- names that are no words -/
theorem kd_nm (hT : ∀ p, T p < 257) (hb : (tok T n j).2.2.2 = none) : ((tok T n j).1 = 1 ∧ ¬ isR T n j) ↔ kdT T n j = 3 := by
  have k1 : ∀ x, 33 ≤ x → x ≤ 260 → ¬ nI x = 1 := fun x hx hy e => by have := (nIinj (b := 1) (by omega) (by omega)).mp e; omega
  unfold isR
  rcases kdT_cases hT hb with ⟨a, w⟩ | ⟨a, w⟩ | ⟨w, q, a⟩ | ⟨w, q, a, a2⟩ | ⟨a, w⟩ | ⟨a, w⟩ | ⟨c', k2, k3, k4, w, a⟩
  · rw [w, a]; exact ⟨fun z => absurd z.1 (by decide), fun z => absurd z (by omega)⟩
  · rw [w, a]; exact ⟨fun z => absurd z.1 (by decide), fun z => absurd z (by omega)⟩
  · rw [w, a]; exact ⟨fun _ => rfl, fun _ => ⟨rfl, fun z => q z.2⟩⟩
  · rw [w, a]; exact ⟨fun z => absurd ⟨rfl, q⟩ z.2, fun z => by omega⟩
  · rw [w, a]; exact ⟨fun z => absurd z.1 (by decide), fun z => absurd z (by omega)⟩
  · rw [w, a]; exact ⟨fun z => absurd z.1 (by decide), fun z => absurd z (by omega)⟩
  · rw [w, a]; exact ⟨fun z => absurd z.1 (k1 _ k2 k3), fun z => by split at z <;> omega⟩
/-- words -/
theorem kd_wd (hT : ∀ p, T p < 257) (hb : (tok T n j).2.2.2 = none) {a0 i : Nat} (hi : i < 17) (hw : wrdN a0 = WDN.getD i []) : isW T n j a0 ↔ kdT T n j = 200 + i := by
  have k1 : ∀ x, 33 ≤ x → x ≤ 260 → ¬ nI x = 1 := fun x hx hy e => by have := (nIinj (b := 1) (by omega) (by omega)).mp e; omega
  have hix : ∀ i, i < 17 → wix (WDN.getD i []) = i ∧ WDN.getD i [] ∈ WDN := by decide +kernel
  unfold isW
  rcases kdT_cases hT hb with ⟨a, w⟩ | ⟨a, w⟩ | ⟨w, q, a⟩ | ⟨w, q, a, a2⟩ | ⟨a, w⟩ | ⟨a, w⟩ | ⟨c', k2, k3, k4, w, a⟩
  · rw [w, a]; exact ⟨fun z => absurd z.1 (by decide), fun z => absurd z (by omega)⟩
  · rw [w, a]; exact ⟨fun z => absurd z.1 (by decide), fun z => absurd z (by omega)⟩
  · rw [w, a, hw]; exact ⟨fun z => absurd (by rw [z.2]; exact (hix i hi).2) q, fun z => by omega⟩
  · rw [w, a, hw]
    refine ⟨fun z => by rw [z.2, (hix i hi).1], fun z => ⟨rfl, ?_⟩⟩
    have e : wix (tn T (pos T n j) (bp T n (j + 1) - pos T n j)) = i := by omega
    have := List.getElem_idxOf (xs := WDN) (x := tn T (pos T n j) (bp T n (j + 1) - pos T n j)) (by rw [WDN_len]; exact a2)
    have e2 : WDN[WDN.idxOf (tn T (pos T n j) (bp T n (j + 1) - pos T n j))]? = some (tn T (pos T n j) (bp T n (j + 1) - pos T n j)) := by
      rw [List.getElem?_eq_getElem (by rw [WDN_len]; exact a2), this]
    have e3 : WDN[i]? = some (tn T (pos T n j) (bp T n (j + 1) - pos T n j)) := by rw [← e]; exact e2
    rw [List.getD_eq_getElem?_getD, e3]
    rfl
  · rw [w, a]; exact ⟨fun z => absurd z.1 (by decide), fun z => absurd z (by omega)⟩
  · rw [w, a]; exact ⟨fun z => absurd z.1 (by decide), fun z => absurd z (by omega)⟩
  · rw [w, a]; exact ⟨fun z => absurd z.1 (k1 _ k2 k3), fun z => by split at z <;> omega⟩
end KD
theorem wds : ∀ x, x ∈ [(139, 0), (140, 1), (143, 2), (142, 3), (144, 4), (145, 5), (146, 6), (147, 7), (154, 8), (155, 9), (156, 10), (148, 11), (149, 12), (150, 13), (151, 14), (152, 15), (153, 16)] → wrdN x.1 = WDN.getD x.2 [] ∧ (st_g x.1).2.2.2.length ≤ 1000 := by decide +kernel
