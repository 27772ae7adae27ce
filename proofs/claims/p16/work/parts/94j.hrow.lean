/-! exact runs over abstract heaps: what the functions are made of -/
def xRP (P : Nat) (r : Nat → Nat → Option Nat) : Prop := Rw P r ∧ r 3 4 = some 1
def xRT (r : Nat → Nat → Option Nat) : Prop := mh r ∧ r 3 4 = some 1
theorem xRP.t {P : Nat} {r : Nat → Nat → Option Nat} (h : xRP P r) : xRT r := ⟨h.1.1, h.2⟩
theorem xrw {Q : (Nat → Nat → Option Nat) → Prop} {r r1 : Nat → Nat → Option Nat} (e : r1 = r) (h : Q r) : Q r1 := by rw [e]; exact h
def xk {α : Type} (h : mv_H) (f : mv_H → α) : α := f h
def xhv {α : Type} (o : Option mv_H) (f : mv_H → Option α) : Option α := match o with
  | none => none
  | some h => f h
theorem xhv_e {α : Type} {o : Option mv_H} {f : mv_H → Option α} {r : α} (h : xhv o f = some r) : ∃ g, o = some g ∧ f g = some r := by
  cases o with
  | none => cases h
  | some x => exact ⟨x, rfl, h⟩
def xhb {α β : Type} (o : Option (β × mv_H)) (f : β → mv_H → Option α) : Option α := match o with
  | none => none
  | some x => f x.1 x.2
theorem xhb_e {α β : Type} {o : Option (β × mv_H)} {f : β → mv_H → Option α} {r : α} (h : xhb o f = some r) : ∃ v g, o = some (v, g) ∧ f v g = some r := by
  cases o with
  | none => cases h
  | some x => exact ⟨x.1, x.2, rfl, h⟩
def xvi (i : Int32) (n : Nat) : Bool := !(decide (i < 0) || Nat.ble n i.toNatClampNeg)
theorem xvi_in {i : Int32} {n : Nat} : xvi i n = true ↔ vp_in i n := by
  unfold xvi vp_in
  rw [Bool.not_eq_true', Bool.or_eq_false_iff, decide_eq_false_iff_not]
  constructor
  · rintro ⟨h1, h2⟩ (h | h)
    · exact h1 h
    · rw [Nat.ble_eq_true_of_le h] at h2; cases h2
  · intro h
    refine ⟨fun q => h (Or.inl q), ?_⟩
    cases e : Nat.ble n i.toNatClampNeg
    · rfl
    · exact absurd (Or.inr (Nat.le_of_ble_eq_true e)) h
theorem xvi_e {α : Type} {i : Int32} {n : Nat} {A : Option α} {r : α} (h : (bif xvi i n then A else none) = some r) : vp_in i n ∧ A = some r := by
  cases e : xvi i n
  · rw [e] at h; cases h
  · rw [e] at h; exact ⟨xvi_in.mp e, h⟩
theorem xif_t {α : Type} {c : Prop} [Decidable c] {A B : Option α} {r : Option α} (h : c) (hf : (if c then A else B) = r) : A = r := by rw [if_pos h] at hf; exact hf
theorem xif_f {α : Type} {c : Prop} [Decidable c] {A B : Option α} {r : Option α} (h : ¬ c) (hf : (if c then A else B) = r) : B = r := by rw [if_neg h] at hf; exact hf
def xzb (v : Int32) : Bool := decide (v = 0) || decide (v = 1)
theorem xzb_e {α : Type} {v : Int32} {A : Option α} {r : α} (h : (bif xzb v then A else none) = some r) : xzb v = true ∧ A = some r := by
  cases e : xzb v
  · rw [e] at h; cases h
  · rw [e] at h; exact ⟨rfl, h⟩
theorem xzb_n {v : Int32} (h : xzb v = true) : narrow .boolean (.int v) = .int v := by
  unfold xzb at h
  rw [Bool.or_eq_true, decide_eq_true_eq, decide_eq_true_eq] at h
  rcases h with rfl | rfl <;> decide
theorem xrh_i {t v : Int32} {h g : mv_H} {R : Nat → Nat → Option Nat} (hf : some (t, h) = some (v, g)) (r : mv_r h = R) : v = t ∧ g = h ∧ mv_r h = R := by cases hf; exact ⟨rfl, rfl, r⟩
theorem xrh_l {t v : Int64} {h g : mv_H} {R : Nat → Nat → Option Nat} (hf : some (t, h) = some (v, g)) (r : mv_r h = R) : v = t ∧ g = h ∧ mv_r h = R := by cases hf; exact ⟨rfl, rfl, r⟩
theorem xrh_v {h g : mv_H} {R : Nat → Nat → Option Nat} (hf : some h = some g) (r : mv_r h = R) : g = h ∧ mv_r h = R := by cases hf; exact ⟨rfl, r⟩
def xvc (h : mv_H) (o0 n0 n1 : Nat) (sp dp n : Int32) : Bool := !decide (sp < 0) && (!decide (dp < 0) && (!decide (n < 0) && (Nat.ble (sp.toNatClampNeg + n.toNatClampNeg) n0 && (Nat.ble (dp.toNatClampNeg + n.toNatClampNeg) n1 && (List.range n.toNatClampNeg).all (fun i => fits .byte (.int (mv_a h o0 (sp.toNatClampNeg + i))))))))
theorem xvc_e {α : Type} {h : mv_H} {o0 n0 n1 : Nat} {sp dp n : Int32} {A : Option α} {r : α} (hf : (bif xvc h o0 n0 n1 sp dp n then A else none) = some r) : (¬ sp < 0 ∧ ¬ dp < 0 ∧ ¬ n < 0 ∧ sp.toNatClampNeg + n.toNatClampNeg ≤ n0 ∧ dp.toNatClampNeg + n.toNatClampNeg ≤ n1 ∧ ∀ i, i < n.toNatClampNeg → fits .byte (.int (mv_a h o0 (sp.toNatClampNeg + i))) = true) ∧ A = some r := by
  cases e : xvc h o0 n0 n1 sp dp n
  · rw [e] at hf; cases hf
  · rw [e] at hf
    unfold xvc at e
    simp only [Bool.and_eq_true, Bool.not_eq_true', decide_eq_false_iff_not, List.all_eq_true, List.mem_range] at e
    obtain ⟨h1, h2, h3, h4, h5, h6⟩ := e
    exact ⟨⟨h1, h2, h3, Nat.le_of_ble_eq_true h4, Nat.le_of_ble_eq_true h5, h6⟩, hf⟩
def xvr (a b : Int32) (n : Nat) : Bool := decide (0 ≤ a.toInt) && (decide (a.toInt ≤ b.toInt) && decide (b.toInt ≤ n))
theorem xvr_e {α : Type} {a b : Int32} {n : Nat} {A : Option α} {r : α} (h : (bif xvr a b n then A else none) = some r) : (0 ≤ a.toInt ∧ a.toInt ≤ b.toInt ∧ b.toInt ≤ n) ∧ A = some r := by
  cases e : xvr a b n
  · rw [e] at h; cases h
  · rw [e] at h
    unfold xvr at e
    rw [Bool.and_eq_true, Bool.and_eq_true, decide_eq_true_eq, decide_eq_true_eq, decide_eq_true_eq] at e
    exact ⟨e, h⟩
section MVH
variable {p : Program} {l : Launch} {e : Env} {R : Room} {s : State} {m : MethodId} {args : Array Value} {below : List Frame} {meth : Method} {c : Code} {G : mv_G} {nL : Nat} {cells slots : Nat} {Q : State → Prop} {pc : Nat} {L : List (Nat × Value)} {st : List Value}
theorem mvh_hp {α : Type} {X : mv_H} {f : mv_H → Option α} {r : Option α} {R9 : Nat → Nat → Option Nat} (hf : xk X f = r) (hr : mv_r X = R9) (k : ∀ h2, f h2 = r → mv_r h2 = R9 → mv_V p l e R s m args below meth c G nL cells slots Q h2 pc L st) : mv_V p l e R s m args below meth c G nL cells slots Q X pc L st := k X hf hr
end MVH
