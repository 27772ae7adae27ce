/-! after, whole -/
section AFK2
variable {X : TX} {J P : Nat} {fs : Nat → Nat} {e0 : Nat}
theorem aftT_K {g : mv_H} {j d : Nat} {M : List MkA} {H : List Nat} {o : OuA} {q : ODq} {L : CDq} {z : Nat} {md : MDq} {hd : List DnE} (K : KXq X J P fs g j d M H L e0 z 3 md hd) (hL : H.length = nH M + 1) (hM : M.length ≤ 1000) (hH : nH M < 1000) (hd9 : nD M ≤ d) (hA : ∀ m, m ∈ M → AMk j m) (hJ : X.kd J = 1 ∨ X.kd J = 2) {c : CfA} (ec : (if 0 < lvq (X.kd j) then (popB (lvq (X.kd j)) M H).bind fun t => some (CfA.mk 2 (j + 1) d (MkA.mk (X.kd j) 0 0 :: t.1) t.2 o) else (popB 1 M H).bind fun t => aCh X j d t.1 t.2 o) = some c) : AQK X J P fs j o e0 L q (some c) (if 0 < lvq (X.kd j) then ((qB (lvq (X.kd j)) M H md hd).2, (dN, 0) :: (qB (lvq (X.kd j)) M H md hd).1, q) else match popB 1 M H with | none => ([], [], q) | some t => kCh X j d t.1 t.2 o (qB 1 M H md hd).2 (qB 1 M H md hd).1 q) (aftT P (nI (X.kd j)) g) := by
  have C := K.1
  have hjb := C.jb
  have hjJ := C.tb.jb
  have hj3 := C.jJ
  have hpp := C.pp
  have hkd := (C.tb.k j C.jJ).2
  have hl9 := lvq_b (X.kd j)
  unfold aftT
  rw [lev_C g (by omega), xhb_s]
  by_cases c0 : lvq (X.kd j) = 0
  · rw [if_neg (by omega)] at ec
    rw [if_pos (show nI (lvq (X.kd j)) ≤ 0 by rw [c0]; decide), if_neg (by omega)]
    obtain ⟨t, et, ec⟩ := obn ec
    obtain ⟨h', L', z', e, K1, hL1⟩ := bin_K (l := 1) (by omega) (by omega) 200000 0 M g K hL (by omega) hH (by omega) et
    have e : f_Exprs_endBinaries P g 1 = some h' := e
    obtain ⟨p1, p2, p3, p4, p5⟩ := popB_f (l := 1) (by omega) et hL
    rw [e, xhv_s, et]
    exact AQK.up (aftU_K (q := q) K1 p1 (by omega) (by omega) (by omega) (fun m q => hA m (p5 m q)) hJ ec) hL1
  · rw [if_pos (by omega)] at ec
    rw [if_neg (show ¬ nI (lvq (X.kd j)) ≤ 0 from fun z => by have := (nIle (b := 0) (by omega) (by omega)).mp z; omega), if_pos (by omega)]
    obtain ⟨t, et, ec⟩ := obn ec
    obtain rfl := Option.some.inj ec
    obtain ⟨h', L', z', e, K1, hL1⟩ := bin_K (l := lvq (X.kd j)) (by omega) (by omega) 200000 0 M g K hL (by omega) hH (by omega) et
    have e : f_Exprs_endBinaries P g (nI (lvq (X.kd j))) = some h' := e
    have hk0 : ∀ z, lvq z = 0 → ¬ X.kd j = z := fun z hz y => c0 (by rw [y]; exact hz)
    have n91 := hk0 91 rfl
    have n63 := hk0 63 rfl
    have n58 := hk0 58 rfl
    obtain ⟨p1, p2, p3, p4, p5⟩ := popB_f (l := lvq (X.kd j)) (by omega) et hL
    obtain ⟨C', R', hz', l'⟩ := K1
    rw [if_pos rfl] at l'
    have hj1 := nxJ hJ C.jJ (hk0 1 rfl) (hk0 2 rfl)
    obtain ⟨h2, e2, C2, k2, r2⟩ := (C'.nx hj1).mkK (by omega) (k := X.kd j) (t := j + 1) (by omega) ⟨n91, n63, n58⟩ (by omega)
    rw [e, xhv_s, C'.tk rfl, xhb_s, e2, xhv_s]
    refine ⟨0, h2, L', z', rfl, hL1, Or.inr ⟨_, rfl, ⟨C2, (R'.kc (KC9.si h' _ (by omega))).kc k2, ?_, ?_⟩, rfl, rfl⟩⟩
    · show z' + ((if X.kd j = 63 ∨ X.kd j = 58 then 0 else 1) + nO t.1) ≤ j + 1
      rw [if_neg (by omega)]; omega
    · rw [if_neg (show ¬ 2 = 3 by omega)]
      exact L3.mk1 (m := MkA.mk (X.kd j) 0 0) l' n63 n58 (nHm_bb (by show 0 < lvq (X.kd j); omega)) n91 r2 dN 0
/-- behind an operand -/
theorem aft_K {h : mv_H} {j d : Nat} {M : List MkA} {H : List Nat} {o : OuA} {q : ODq} {L : CDq} {z : Nat} {md : MDq} {hd : List DnE} (K : KXq X J P fs h j d M H L e0 z 3 md hd) (hL : H.length = nH M + 1) (hM : M.length ≤ 1000) (hH : nH M < 1000) (hd9 : nD M ≤ d) (hw : H.headD 0 ≤ 64) (hA : ∀ m, m ∈ M → AMk j m) (hJ : X.kd J = 1 ∨ X.kd J = 2) {c : CfA} (ec : aAf X j d M H o = some c) : AQK X J P fs j o e0 L q (some c) (kAf X j d M H o hd md q) (f_Exprs_after P h) := by
  have C := K.1
  have hjb := C.jb
  have hjJ := C.tb.jb
  have hj3 := C.jJ
  have hkd := (C.tb.k j C.jJ).2
  have hd2 := C.d2
  cases H with
  | nil => exact absurd hL (by rw [List.length_nil]; omega)
  | cons w H =>
  have hL' : H.length + 1 = nH M + 1 := hL
  rw [aft_e, C.kd, xhb_s]
  have eAf : aAf X j d M (w :: H) o = if X.kd j = 91 then aPk X j d M (w :: H) o else (popS M (w :: H) d).bind fun r => if 0 < lvq (X.kd j) then (popB (lvq (X.kd j)) r.1 r.2.1).bind fun t => some (CfA.mk 2 (j + 1) r.2.2 (MkA.mk (X.kd j) 0 0 :: t.1) t.2 o) else (popB 1 r.1 r.2.1).bind fun t => aCh X j r.2.2 t.1 t.2 o := rfl
  rw [eAf] at ec
  unfold kAf
  by_cases c9 : X.kd j = 91
  · rw [if_pos c9] at ec
    rw [if_pos (show nI (X.kd j) = 91 by rw [c9]; rfl), if_pos c9]
    obtain ⟨h', L', z', e, K1, ⟨m3, mo⟩, hL1⟩ := prt_K (o := o) K (by omega) hw hJ c9 ec
    rw [e, xhv_s]
    exact ⟨1, h', L', z', rfl, hL1, Or.inr ⟨c, rfl, by rw [m3]; exact K1, rfl, mo⟩⟩
  · rw [if_neg c9] at ec
    rw [if_neg (show ¬ nI (X.kd j) = 91 from fun z => c9 ((nIinj (b := 91) (by omega) (by omega)).mp z)), if_neg c9]
    obtain ⟨r, er, ec⟩ := obn ec
    obtain ⟨h', L', z', e, K1, hL1⟩ := sig_K 200000 0 M h K hM (by omega) hd9 (by omega) (by omega) er
    have e : f_Exprs_endSigns P h = some h' := e
    obtain ⟨p1, p2, p3, p4, p5, p6⟩ := popS_f er
    rw [e, xhv_s, er]
    exact AQK.up (aftT_K (q := q) K1 (by rw [p1, p2]; exact hL) (by omega) (by omega) (p3 hd9) (fun m q => hA m (p6 m q)) hJ ec) hL1
end AFK2
