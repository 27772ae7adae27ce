/-! after, on good roads -/
def AQK (X : TX) (J P : Nat) (fs : Nat → Nat) (j : Nat) (o : OuA) (e0 : Nat) (L : CDq) (q : ODq) (r : Option CfA) (kq : List DnE × MDq × ODq) (f : Option (Int32 × mv_H)) : Prop := ∃ v h' L' z', f = some (v, h') ∧ (∀ i, i < e0 → L' i = L i) ∧ ((v = 2 ∧ ∃ d' w D, r = aFi X j d' [w] o ∧ KXq X J P fs h' j d' [] [w] L' e0 z' 3 [] [D] ∧ kq = ([], [], kFi D o q)) ∨ ∃ c, r = some c ∧ KXq X J P fs h' c.j c.d c.M c.H L' e0 z' c.md kq.2.1 kq.1 ∧ kq.2.2 = q ∧ c.o = o)
section AFK
variable {X : TX} {J P : Nat} {fs : Nat → Nat} {e0 : Nat}
theorem AQK.up {j : Nat} {o : OuA} {L L2 : CDq} {q : ODq} {r : Option CfA} {kq : List DnE × MDq × ODq} {f : Option (Int32 × mv_H)} (h : AQK X J P fs j o e0 L q r kq f) (hL : ∀ i, i < e0 → L i = L2 i) : AQK X J P fs j o e0 L2 q r kq f := by
  obtain ⟨v, h', L', z', e, e2, k⟩ := h
  exact ⟨v, h', L', z', e, fun i hi => (e2 i hi).trans (hL i hi), k⟩
theorem aftV_K {g : mv_H} {j d : Nat} {M : List MkA} {H : List Nat} {o : OuA} {q : ODq} {L : CDq} {z : Nat} {md : MDq} {hd : List DnE} (K : KXq X J P fs g j d M H L e0 z 3 md hd) (hL : H.length = nH M + 1) (hM : M.length ≤ 1000) (hH : nH M < 1000) (hd9 : nD M ≤ d) (hA : ∀ m, m ∈ M → AMk j m) (hJ : X.kd J = 1 ∨ X.kd J = 2) {c : CfA} (ec : (match (generalizing := false) M with | [] => aFi X j d H o | m :: M' => aGo X m j d M' H o) = some c) : AQK X J P fs j o e0 L q (some c) (match (generalizing := false) M with | [] => ([], [], kFi (hd.headD dN) o q) | m :: _ => ((kGo X m j H md hd).2, (kGo X m j H md hd).1, q)) (aftV P (nI (X.kd j)) g) := by
  have C := K.1
  have hjb := C.jb
  unfold aftV
  cases M with
  | nil =>
    rw [if_pos (show mv_i g 22 8 = 0 by rw [C.ml]; rfl)]
    cases H with
    | nil => exact absurd hL (by rw [List.length_nil]; omega)
    | cons w H =>
      cases H with
      | nil =>
        have l := K.2.2.2
        rw [if_pos rfl] at l
        obtain ⟨D, hd', a, e, s, l1, l2, l3⟩ := l
        subst e l1 l2
        exact ⟨2, g, L, z, rfl, fun _ _ => rfl, Or.inl ⟨rfl, d, w, D, ec.symm, K, rfl⟩⟩
      | cons x H => exact absurd hL (by rw [List.length_cons, List.length_cons]; show ¬ _ = 0 + 1; omega)
  | cons m M =>
    have hM' : M.length + 1 ≤ 1000 := hM
    have e0' : mv_i g 22 8 = nI (M.length + 1) := C.ml
    rw [if_neg (show ¬ mv_i g 22 8 = 0 from fun z => by rw [e0'] at z; have := (nIinj (b := 0) (by omega) (by omega)).mp z; omega)]
    obtain ⟨a1, a2, a3⟩ := hA m (List.mem_cons_self)
    have ec : aGo X m j d M H o = some c := ec
    obtain ⟨v, h', L', z', e, K1, hL1⟩ := goo_K (o := o) K hL (by omega) hH hd9 a1 (fun z => by have := a2 z; omega) hJ ec
    rw [e, xhb_s]
    exact ⟨v, h', L', z', rfl, hL1, Or.inr ⟨c, rfl, K1, rfl, (aGo_o ec).1⟩⟩
theorem aftU_K {g : mv_H} {j d : Nat} {M : List MkA} {H : List Nat} {o : OuA} {q : ODq} {L : CDq} {z : Nat} {md : MDq} {hd : List DnE} (K : KXq X J P fs g j d M H L e0 z 3 md hd) (hL : H.length = nH M + 1) (hM : M.length ≤ 1000) (hH : nH M < 1000) (hd9 : nD M ≤ d) (hA : ∀ m, m ∈ M → AMk j m) (hJ : X.kd J = 1 ∨ X.kd J = 2) {c : CfA} (ec : aCh X j d M H o = some c) : AQK X J P fs j o e0 L q (some c) (kCh X j d M H o hd md q) (aftU P (nI (X.kd j)) g) := by
  have C := K.1
  have l := K.2.2.2
  rw [if_pos rfl] at l
  have l0 := L3.ge l
  have hjb := C.jb
  have hjJ := C.tb.jb
  have hj3 := C.jJ
  have hkd := (C.tb.k j C.jJ).2
  have hd2 := C.d2
  unfold aftU kCh
  have eCh : aCh X j d M H o = if X.kd j = 63 then (if d < 60 then some (CfA.mk 2 (j + 1) (d + 1) (MkA.mk 63 0 (H.headD 0) :: M) H.tail o) else none) else (popC M H d).bind fun r => match r.1 with | [] => aFi X j r.2.2 r.2.1 o | m :: M' => aGo X m j r.2.2 M' r.2.1 o := rfl
  rw [eCh] at ec
  by_cases c6 : X.kd j = 63
  · rw [if_pos c6] at ec
    rw [if_pos (show nI (X.kd j) = 63 by rw [c6]; rfl), if_pos c6]
    by_cases d60 : d < 60
    rotate_left
    · rw [if_neg d60] at ec; cases ec
    rw [if_pos d60] at ec
    obtain rfl := Option.some.inj ec
    cases H with
    | nil => exact absurd hL (by rw [List.length_nil]; omega)
    | cons w H =>
    rw [List.length_cons] at hL
    obtain ⟨h', e, K1⟩ := cho_K K hM (by omega) c6 hJ d60
    rw [e, xhv_s]
    exact ⟨0, h', uL L z (312, 0), z + 1, rfl, fun i hi => uL_n L _ (by omega), Or.inr ⟨_, rfl, K1, rfl, rfl⟩⟩
  · rw [if_neg c6] at ec
    rw [if_neg (show ¬ nI (X.kd j) = 63 from fun z => c6 ((nIinj (b := 63) (by omega) (by omega)).mp z)), if_neg c6]
    obtain ⟨r, er, ec⟩ := obn ec
    obtain ⟨h', L', e, K1, hL1⟩ := ech_K 200000 0 M g K hL (fun m q z => (hA m q).2.2 (Or.inr z)) hM hH hd9 (by omega) (by omega) er
    have e : f_Exprs_endChoices P g = some h' := e
    obtain ⟨p1, p2, p3, p4, p5, p6⟩ := popC_f er hL
    rw [e, xhv_s, er]
    obtain ⟨r1, r2, r3⟩ := r
    refine (AQK.up (aftV_K (q := q) (o := o) (c := c) K1 p1 (by omega) (by omega) (p3 hd9) (fun m q => hA m (p6 m q)) hJ ?_) hL1)
    cases r1 with
    | nil => exact ec
    | cons m M' => exact ec
end AFK
