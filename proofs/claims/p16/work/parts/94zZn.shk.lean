/-! the shipped program is fit to run -/
theorem cS_ok : ((List.range 611).all fun i => Nat.blt (cS i).1 318 && (Nat.beq (cS i).2 0 || !(Nat.beq (cS i).1 303))) = true := by decide +kernel
theorem stS_ok : ((List.range 48).all fun k => Nat.blt (stS k) 611) = true := by decide +kernel
theorem mA_ok : ((List.range 48).all fun k => Nat.beq (mA9 k) (mkN (fun i => is01 (cdC k i)) 32) && Nat.beq (vA9 k) (mkN (fun i => is1 (cdC k i)) 32)) = true := by decide +kernel
theorem cd_ok : ((List.range 48).all fun k => Nat.beq (opS.getD k ([], [])).2.length 32 && (List.range 32).all fun i => Nat.blt (cdC k i) 128) = true := by decide +kernel
theorem opS_48 : opS.length = 48 := by decide +kernel
theorem narS : ∀ c : Fin 128, vp_nar .byte (nI c.val) = nI c.val := by decide +kernel
theorem blt_t {i n : Nat} (h : i < n) : Nat.blt i n = true := Nat.ble_eq_true_of_le h
theorem blt_l {i n : Nat} (h : Nat.blt i n = true) : i < n := Nat.le_of_ble_eq_true h
theorem LS_i {i : Nat} (h : i < 611) : LSx i = ((cS i).1, nJ (cS i).2) := LS_e rfl (blt_t h)
theorem bdS_g {o : Nat} (ho : o < 48) : rS.2.2.getD o zSk = bdS o := by
  show ((List.range 48).map bdS).getD o zSk = bdS o
  rw [List.getD_eq_getElem?_getD, List.getElem?_map, List.getElem?_range ho]
  rfl
theorem SHP.c {σ : mv_H} (h : SHP σ) : SHC σ := h.2.1.1.2.2.2
theorem SHP.kx {σ : mv_H} (h : SHP σ) : KOx 145 rS σ := by
  obtain ⟨⟨i6, i7, i8, i9, i17⟩, ⟨f0, f1, f2⟩, ⟨z0, z1, z2⟩, st, cd, -⟩ := h.c
  refine ⟨⟨?_, ?_, fun x => ?_⟩, ⟨?_, ?_, fun t ht => ?_⟩, ?_, ?_, LSx, 611, ⟨i17, by decide, fun i hi => ?_, fun i hi => ?_⟩, fun o ho => ?_⟩
  · show tlS.length ≤ 64
    decide
  · show opS.length ≤ 512
    rw [opS_48]; decide
  · show lzS x < 64
    unfold lzS
    repeat' split
    all_goals decide
  · show mv_i σ 145 6 = nI (fsL tlS tlS.length)
    rw [show fsL tlS tlS.length = 32801 by decide]
    exact i6
  · show fsL tlS tlS.length ≤ 32800 + tlS.length
    rw [show fsL tlS tlS.length = 32801 by decide]
    decide
  · have ht : t < 3 := ht
    rcases (show t = 0 ∨ t = 1 ∨ t = 2 by omega) with rfl | rfl | rfl
    · exact ⟨f0, z0⟩
    · exact ⟨f1, z1⟩
    · exact ⟨f2, z2⟩
  · show (lkS [112, 99]).1 = 1 ∧ (lkS [109]).1 = 2 ∧ mv_i σ 145 8 = nI (lzS [112, 99]) ∧ mv_i σ 145 9 = nI (lzS [109])
    exact ⟨by decide, by decide, i8, i9⟩
  · show ((List.range 48).map bdS).length = opS.length
    rw [List.length_map, List.length_range, opS_48]
  · unfold LSx
    cases e : Nat.blt i 611 with
    | false => rfl
    | true => exact absurd (blt_l e) (by omega)
  · have c := List.all_eq_true.mp cS_ok i (List.mem_range.mpr hi)
    rw [Bool.and_eq_true] at c
    obtain ⟨c1, c2⟩ := c
    rw [LS_i hi]
    have z3 : (cS i).1 = 303 → (cS i).2 = 0 := fun q => by
      rw [q] at c2
      rw [Bool.or_eq_true] at c2
      rcases c2 with c2 | c2
      · exact Nat.eq_of_beq_eq_true c2
      · exact absurd c2 (by decide)
    refine ⟨(cd i hi).1, blt_l c1, ?_, fun q => ?_⟩
    · show mv_b σ 155 i = if (cS i).1 = 303 then nJ (fsL tlS (tI (nJ (cS i).2))) else nJ (cS i).2
      rw [(cd i hi).2]
      by_cases q : (cS i).1 = 303
      · rw [if_pos q, z3 q, tI_n (by omega)]
        rfl
      · rw [if_neg q]
    · have q : (cS i).1 = 303 := q
      refine ⟨0, ?_, by decide, ?_⟩
      · show nJ (cS i).2 = nJ 0
        rw [z3 q]
      · show fsL tlS 0 < fsL tlS (0 + 1)
        decide
  · have ho : o < 48 := by
      rw [show rS.2.2.length = 48 by show ((List.range 48).map bdS).length = 48; rw [List.length_map, List.length_range]] at ho
      exact ho
    refine ⟨stS o, st o ho, blt_l (List.all_eq_true.mp stS_ok o (List.mem_range.mpr ho)), fun w s => ?_⟩
    obtain ⟨rr, e⟩ := ev_S o ho w s
    have d : rS.2.2.getD o zSk (eW rS w) s = rr := by
      rw [bdS_g ho]
      show (rn (eW rS w) LSx 64 (stS o) [] s).getD (0, s) = rr
      rw [e]
      rfl
    exact ⟨64, rr, e, by rw [d], fun _ => by rw [d]⟩
theorem SHP.sp {σ : mv_H} (h : SHP σ) (h48 : mv_i σ 145 10 = 48) : SPq 145 rS.1 σ := by
  obtain ⟨⟨i6, i7, i8, i9, i17⟩, -, -, -, -, le⟩ := h.c
  have x7 := h.2.1.1.2.1
  obtain ⟨a0, -, a1, ⟨b0, b1, b2⟩, c0, c1, c2⟩ := h
  have co : ∀ k, k < rS.1.ops.length → k < 48 := fun k hk => by
    have hk : k < opS.length := hk
    rw [opS_48] at hk
    exact hk
  refine ⟨a0, a1, i7, ?_, ⟨by decide, by decide, by decide, ?_⟩, fun k hk => ?_, fun t ht => ?_, fun k hk i hi => ?_⟩
  · rw [h48]
    show (48 : Int32) = nI opS.length
    rw [opS_48]; rfl
  · show opS.length ≤ 512
    rw [opS_48]; decide
  · have hk := co k hk
    have m := List.all_eq_true.mp mA_ok k (List.mem_range.mpr hk)
    have d := List.all_eq_true.mp cd_ok k (List.mem_range.mpr hk)
    rw [Bool.and_eq_true] at m d
    refine ⟨?_, ?_, Nat.eq_of_beq_eq_true d.1⟩
    · rw [(x7 k hk).1, Nat.eq_of_beq_eq_true m.1]; rfl
    · rw [(x7 k hk).2, Nat.eq_of_beq_eq_true m.2]; rfl
  · have ht : t < 3 := ht
    rcases (show t = 0 ∨ t = 1 ∨ t = 2 by omega) with rfl | rfl | rfl
    · exact ⟨b0, c0, by decide, by decide⟩
    · exact ⟨b1, c1, by decide, by decide⟩
    · exact ⟨b2, c2, by decide, by decide⟩
  · have hk := co k hk
    have hi : i < 32 := hi
    have d := List.all_eq_true.mp cd_ok k (List.mem_range.mpr hk)
    rw [Bool.and_eq_true] at d
    have d2 := blt_l (List.all_eq_true.mp d.2 i (List.mem_range.mpr hi))
    show mv_a σ 153 (k * 64 + i) = vp_nar .byte (nI (cdC k i))
    rw [le k hk i hi]
    exact (narS ⟨_, d2⟩).symm
theorem SHP.uq {σ : mv_H} (h : SHP σ) (h48 : mv_i σ 145 10 = 48) : UQs rS.1 := fun w a b ha hb h1 h2 => by
  have sp := h.sp h48
  have ha' : a < 48 := by have ha : a < opS.length := ha; rw [opS_48] at ha; exact ha
  have hb' : b < 48 := by have hb : b < opS.length := hb; rw [opS_48] at hb; exact hb
  have e : (mv_i σ 145 10).toInt = 48 := by rw [h48]; rfl
  have q1 := sh_dc h.2.1.1.2.1 h48 (Or.inr ⟨a, by omega, rfl, (MtO.s sp ha).mpr h1⟩ : DCq 145 σ w (nI a))
  have q2 := sh_dc h.2.1.1.2.1 h48 (Or.inr ⟨b, by omega, rfl, (MtO.s sp hb).mpr h2⟩ : DCq 145 σ w (nI b))
  exact (nIinj (by omega) (by omega)).mp (q1.trans q2.symm)
theorem bdS_e {k : Nat} {w : Int64} {s : STq} {rr : Int32 × STq} (h : rn (eW rS w) LSx 64 (stS k) [] s = some rr) : bdS k (eW rS w) s = rr := by
  unfold bdS
  rw [h]
  rfl

theorem li_0 (w : Int64) (l l' : Nat → Int64) (R : Nat → Nat → Int64) (f : Nat → Bool) : (bdS 0 (eW rS w) (l', R, f)).1 = (bdS 0 (eW rS w) (l, R, f)).1 ∧ (bdS 0 (eW rS w) (l', R, f)).2.2 = (bdS 0 (eW rS w) (l, R, f)).2.2 := by
  rw [bdS_e (k := 0) (ev_0 w l' R f), bdS_e (k := 0) (ev_0 w l R f)]
  repeat' split
  all_goals first
    | exact ⟨rfl, rfl⟩
    | contradiction
theorem li_1 (w : Int64) (l l' : Nat → Int64) (R : Nat → Nat → Int64) (f : Nat → Bool) : (bdS 1 (eW rS w) (l', R, f)).1 = (bdS 1 (eW rS w) (l, R, f)).1 ∧ (bdS 1 (eW rS w) (l', R, f)).2.2 = (bdS 1 (eW rS w) (l, R, f)).2.2 := by
  rw [bdS_e (k := 1) (ev_1 w l' R f), bdS_e (k := 1) (ev_1 w l R f)]
  repeat' split
  all_goals first
    | exact ⟨rfl, rfl⟩
    | contradiction
theorem li_2 (w : Int64) (l l' : Nat → Int64) (R : Nat → Nat → Int64) (f : Nat → Bool) : (bdS 2 (eW rS w) (l', R, f)).1 = (bdS 2 (eW rS w) (l, R, f)).1 ∧ (bdS 2 (eW rS w) (l', R, f)).2.2 = (bdS 2 (eW rS w) (l, R, f)).2.2 := by
  rw [bdS_e (k := 2) (ev_2 w l' R f), bdS_e (k := 2) (ev_2 w l R f)]
  repeat' split
  all_goals first
    | exact ⟨rfl, rfl⟩
    | contradiction
theorem li_3 (w : Int64) (l l' : Nat → Int64) (R : Nat → Nat → Int64) (f : Nat → Bool) : (bdS 3 (eW rS w) (l', R, f)).1 = (bdS 3 (eW rS w) (l, R, f)).1 ∧ (bdS 3 (eW rS w) (l', R, f)).2.2 = (bdS 3 (eW rS w) (l, R, f)).2.2 := by
  rw [bdS_e (k := 3) (ev_3 w l' R f), bdS_e (k := 3) (ev_3 w l R f)]
  repeat' split
  all_goals first
    | exact ⟨rfl, rfl⟩
    | contradiction
theorem li_4 (w : Int64) (l l' : Nat → Int64) (R : Nat → Nat → Int64) (f : Nat → Bool) : (bdS 4 (eW rS w) (l', R, f)).1 = (bdS 4 (eW rS w) (l, R, f)).1 ∧ (bdS 4 (eW rS w) (l', R, f)).2.2 = (bdS 4 (eW rS w) (l, R, f)).2.2 := by
  rw [bdS_e (k := 4) (ev_4 w l' R f), bdS_e (k := 4) (ev_4 w l R f)]
  repeat' split
  all_goals first
    | exact ⟨rfl, rfl⟩
    | contradiction
theorem li_5 (w : Int64) (l l' : Nat → Int64) (R : Nat → Nat → Int64) (f : Nat → Bool) : (bdS 5 (eW rS w) (l', R, f)).1 = (bdS 5 (eW rS w) (l, R, f)).1 ∧ (bdS 5 (eW rS w) (l', R, f)).2.2 = (bdS 5 (eW rS w) (l, R, f)).2.2 := by
  rw [bdS_e (k := 5) (ev_5 w l' R f), bdS_e (k := 5) (ev_5 w l R f)]
  repeat' split
  all_goals first
    | exact ⟨rfl, rfl⟩
    | contradiction
theorem li_6 (w : Int64) (l l' : Nat → Int64) (R : Nat → Nat → Int64) (f : Nat → Bool) : (bdS 6 (eW rS w) (l', R, f)).1 = (bdS 6 (eW rS w) (l, R, f)).1 ∧ (bdS 6 (eW rS w) (l', R, f)).2.2 = (bdS 6 (eW rS w) (l, R, f)).2.2 := by
  rw [bdS_e (k := 6) (ev_6 w l' R f), bdS_e (k := 6) (ev_6 w l R f)]
  repeat' split
  all_goals first
    | exact ⟨rfl, rfl⟩
    | contradiction
theorem li_7 (w : Int64) (l l' : Nat → Int64) (R : Nat → Nat → Int64) (f : Nat → Bool) : (bdS 7 (eW rS w) (l', R, f)).1 = (bdS 7 (eW rS w) (l, R, f)).1 ∧ (bdS 7 (eW rS w) (l', R, f)).2.2 = (bdS 7 (eW rS w) (l, R, f)).2.2 := by
  rw [bdS_e (k := 7) (ev_7 w l' R f), bdS_e (k := 7) (ev_7 w l R f)]
  repeat' split
  all_goals first
    | exact ⟨rfl, rfl⟩
    | contradiction
theorem li_8 (w : Int64) (l l' : Nat → Int64) (R : Nat → Nat → Int64) (f : Nat → Bool) : (bdS 8 (eW rS w) (l', R, f)).1 = (bdS 8 (eW rS w) (l, R, f)).1 ∧ (bdS 8 (eW rS w) (l', R, f)).2.2 = (bdS 8 (eW rS w) (l, R, f)).2.2 := by
  rw [bdS_e (k := 8) (ev_8 w l' R f), bdS_e (k := 8) (ev_8 w l R f)]
  repeat' split
  all_goals first
    | exact ⟨rfl, rfl⟩
    | contradiction
theorem li_9 (w : Int64) (l l' : Nat → Int64) (R : Nat → Nat → Int64) (f : Nat → Bool) : (bdS 9 (eW rS w) (l', R, f)).1 = (bdS 9 (eW rS w) (l, R, f)).1 ∧ (bdS 9 (eW rS w) (l', R, f)).2.2 = (bdS 9 (eW rS w) (l, R, f)).2.2 := by
  rw [bdS_e (k := 9) (ev_9 w l' R f), bdS_e (k := 9) (ev_9 w l R f)]
  repeat' split
  all_goals first
    | exact ⟨rfl, rfl⟩
    | contradiction
theorem li_10 (w : Int64) (l l' : Nat → Int64) (R : Nat → Nat → Int64) (f : Nat → Bool) : (bdS 10 (eW rS w) (l', R, f)).1 = (bdS 10 (eW rS w) (l, R, f)).1 ∧ (bdS 10 (eW rS w) (l', R, f)).2.2 = (bdS 10 (eW rS w) (l, R, f)).2.2 := by
  rw [bdS_e (k := 10) (ev_10 w l' R f), bdS_e (k := 10) (ev_10 w l R f)]
  repeat' split
  all_goals first
    | exact ⟨rfl, rfl⟩
    | contradiction
theorem li_11 (w : Int64) (l l' : Nat → Int64) (R : Nat → Nat → Int64) (f : Nat → Bool) : (bdS 11 (eW rS w) (l', R, f)).1 = (bdS 11 (eW rS w) (l, R, f)).1 ∧ (bdS 11 (eW rS w) (l', R, f)).2.2 = (bdS 11 (eW rS w) (l, R, f)).2.2 := by
  rw [bdS_e (k := 11) (ev_11 w l' R f), bdS_e (k := 11) (ev_11 w l R f)]
  repeat' split
  all_goals first
    | exact ⟨rfl, rfl⟩
    | contradiction
theorem li_12 (w : Int64) (l l' : Nat → Int64) (R : Nat → Nat → Int64) (f : Nat → Bool) : (bdS 12 (eW rS w) (l', R, f)).1 = (bdS 12 (eW rS w) (l, R, f)).1 ∧ (bdS 12 (eW rS w) (l', R, f)).2.2 = (bdS 12 (eW rS w) (l, R, f)).2.2 := by
  rw [bdS_e (k := 12) (ev_12 w l' R f), bdS_e (k := 12) (ev_12 w l R f)]
  repeat' split
  all_goals first
    | exact ⟨rfl, rfl⟩
    | contradiction
theorem li_13 (w : Int64) (l l' : Nat → Int64) (R : Nat → Nat → Int64) (f : Nat → Bool) : (bdS 13 (eW rS w) (l', R, f)).1 = (bdS 13 (eW rS w) (l, R, f)).1 ∧ (bdS 13 (eW rS w) (l', R, f)).2.2 = (bdS 13 (eW rS w) (l, R, f)).2.2 := by
  rw [bdS_e (k := 13) (ev_13 w l' R f), bdS_e (k := 13) (ev_13 w l R f)]
  repeat' split
  all_goals first
    | exact ⟨rfl, rfl⟩
    | contradiction
theorem li_14 (w : Int64) (l l' : Nat → Int64) (R : Nat → Nat → Int64) (f : Nat → Bool) : (bdS 14 (eW rS w) (l', R, f)).1 = (bdS 14 (eW rS w) (l, R, f)).1 ∧ (bdS 14 (eW rS w) (l', R, f)).2.2 = (bdS 14 (eW rS w) (l, R, f)).2.2 := by
  rw [bdS_e (k := 14) (ev_14 w l' R f), bdS_e (k := 14) (ev_14 w l R f)]
  repeat' split
  all_goals first
    | exact ⟨rfl, rfl⟩
    | contradiction
theorem li_15 (w : Int64) (l l' : Nat → Int64) (R : Nat → Nat → Int64) (f : Nat → Bool) : (bdS 15 (eW rS w) (l', R, f)).1 = (bdS 15 (eW rS w) (l, R, f)).1 ∧ (bdS 15 (eW rS w) (l', R, f)).2.2 = (bdS 15 (eW rS w) (l, R, f)).2.2 := by
  rw [bdS_e (k := 15) (ev_15 w l' R f), bdS_e (k := 15) (ev_15 w l R f)]
  repeat' split
  all_goals first
    | exact ⟨rfl, rfl⟩
    | contradiction
theorem li_16 (w : Int64) (l l' : Nat → Int64) (R : Nat → Nat → Int64) (f : Nat → Bool) : (bdS 16 (eW rS w) (l', R, f)).1 = (bdS 16 (eW rS w) (l, R, f)).1 ∧ (bdS 16 (eW rS w) (l', R, f)).2.2 = (bdS 16 (eW rS w) (l, R, f)).2.2 := by
  rw [bdS_e (k := 16) (ev_16 w l' R f), bdS_e (k := 16) (ev_16 w l R f)]
  repeat' split
  all_goals first
    | exact ⟨rfl, rfl⟩
    | contradiction
theorem li_17 (w : Int64) (l l' : Nat → Int64) (R : Nat → Nat → Int64) (f : Nat → Bool) : (bdS 17 (eW rS w) (l', R, f)).1 = (bdS 17 (eW rS w) (l, R, f)).1 ∧ (bdS 17 (eW rS w) (l', R, f)).2.2 = (bdS 17 (eW rS w) (l, R, f)).2.2 := by
  rw [bdS_e (k := 17) (ev_17 w l' R f), bdS_e (k := 17) (ev_17 w l R f)]
  repeat' split
  all_goals first
    | exact ⟨rfl, rfl⟩
    | contradiction
theorem li_18 (w : Int64) (l l' : Nat → Int64) (R : Nat → Nat → Int64) (f : Nat → Bool) : (bdS 18 (eW rS w) (l', R, f)).1 = (bdS 18 (eW rS w) (l, R, f)).1 ∧ (bdS 18 (eW rS w) (l', R, f)).2.2 = (bdS 18 (eW rS w) (l, R, f)).2.2 := by
  rw [bdS_e (k := 18) (ev_18 w l' R f), bdS_e (k := 18) (ev_18 w l R f)]
  repeat' split
  all_goals first
    | exact ⟨rfl, rfl⟩
    | contradiction
theorem li_19 (w : Int64) (l l' : Nat → Int64) (R : Nat → Nat → Int64) (f : Nat → Bool) : (bdS 19 (eW rS w) (l', R, f)).1 = (bdS 19 (eW rS w) (l, R, f)).1 ∧ (bdS 19 (eW rS w) (l', R, f)).2.2 = (bdS 19 (eW rS w) (l, R, f)).2.2 := by
  rw [bdS_e (k := 19) (ev_19 w l' R f), bdS_e (k := 19) (ev_19 w l R f)]
  repeat' split
  all_goals first
    | exact ⟨rfl, rfl⟩
    | contradiction
theorem li_20 (w : Int64) (l l' : Nat → Int64) (R : Nat → Nat → Int64) (f : Nat → Bool) : (bdS 20 (eW rS w) (l', R, f)).1 = (bdS 20 (eW rS w) (l, R, f)).1 ∧ (bdS 20 (eW rS w) (l', R, f)).2.2 = (bdS 20 (eW rS w) (l, R, f)).2.2 := by
  rw [bdS_e (k := 20) (ev_20 w l' R f), bdS_e (k := 20) (ev_20 w l R f)]
  repeat' split
  all_goals first
    | exact ⟨rfl, rfl⟩
    | contradiction
theorem li_21 (w : Int64) (l l' : Nat → Int64) (R : Nat → Nat → Int64) (f : Nat → Bool) : (bdS 21 (eW rS w) (l', R, f)).1 = (bdS 21 (eW rS w) (l, R, f)).1 ∧ (bdS 21 (eW rS w) (l', R, f)).2.2 = (bdS 21 (eW rS w) (l, R, f)).2.2 := by
  rw [bdS_e (k := 21) (ev_21 w l' R f), bdS_e (k := 21) (ev_21 w l R f)]
  repeat' split
  all_goals first
    | exact ⟨rfl, rfl⟩
    | contradiction
theorem li_22 (w : Int64) (l l' : Nat → Int64) (R : Nat → Nat → Int64) (f : Nat → Bool) : (bdS 22 (eW rS w) (l', R, f)).1 = (bdS 22 (eW rS w) (l, R, f)).1 ∧ (bdS 22 (eW rS w) (l', R, f)).2.2 = (bdS 22 (eW rS w) (l, R, f)).2.2 := by
  rw [bdS_e (k := 22) (ev_22 w l' R f), bdS_e (k := 22) (ev_22 w l R f)]
  repeat' split
  all_goals first
    | exact ⟨rfl, rfl⟩
    | contradiction
theorem li_23 (w : Int64) (l l' : Nat → Int64) (R : Nat → Nat → Int64) (f : Nat → Bool) : (bdS 23 (eW rS w) (l', R, f)).1 = (bdS 23 (eW rS w) (l, R, f)).1 ∧ (bdS 23 (eW rS w) (l', R, f)).2.2 = (bdS 23 (eW rS w) (l, R, f)).2.2 := by
  rw [bdS_e (k := 23) (ev_23 w l' R f), bdS_e (k := 23) (ev_23 w l R f)]
  repeat' split
  all_goals first
    | exact ⟨rfl, rfl⟩
    | contradiction
theorem li_24 (w : Int64) (l l' : Nat → Int64) (R : Nat → Nat → Int64) (f : Nat → Bool) : (bdS 24 (eW rS w) (l', R, f)).1 = (bdS 24 (eW rS w) (l, R, f)).1 ∧ (bdS 24 (eW rS w) (l', R, f)).2.2 = (bdS 24 (eW rS w) (l, R, f)).2.2 := by
  rw [bdS_e (k := 24) (ev_24 w l' R f), bdS_e (k := 24) (ev_24 w l R f)]
  repeat' split
  all_goals first
    | exact ⟨rfl, rfl⟩
    | contradiction
theorem li_25 (w : Int64) (l l' : Nat → Int64) (R : Nat → Nat → Int64) (f : Nat → Bool) : (bdS 25 (eW rS w) (l', R, f)).1 = (bdS 25 (eW rS w) (l, R, f)).1 ∧ (bdS 25 (eW rS w) (l', R, f)).2.2 = (bdS 25 (eW rS w) (l, R, f)).2.2 := by
  rw [bdS_e (k := 25) (ev_25 w l' R f), bdS_e (k := 25) (ev_25 w l R f)]
  repeat' split
  all_goals first
    | exact ⟨rfl, rfl⟩
    | contradiction
theorem li_26 (w : Int64) (l l' : Nat → Int64) (R : Nat → Nat → Int64) (f : Nat → Bool) : (bdS 26 (eW rS w) (l', R, f)).1 = (bdS 26 (eW rS w) (l, R, f)).1 ∧ (bdS 26 (eW rS w) (l', R, f)).2.2 = (bdS 26 (eW rS w) (l, R, f)).2.2 := by
  rw [bdS_e (k := 26) (ev_26 w l' R f), bdS_e (k := 26) (ev_26 w l R f)]
  repeat' split
  all_goals first
    | exact ⟨rfl, rfl⟩
    | contradiction
theorem li_27 (w : Int64) (l l' : Nat → Int64) (R : Nat → Nat → Int64) (f : Nat → Bool) : (bdS 27 (eW rS w) (l', R, f)).1 = (bdS 27 (eW rS w) (l, R, f)).1 ∧ (bdS 27 (eW rS w) (l', R, f)).2.2 = (bdS 27 (eW rS w) (l, R, f)).2.2 := by
  rw [bdS_e (k := 27) (ev_27 w l' R f), bdS_e (k := 27) (ev_27 w l R f)]
  repeat' split
  all_goals first
    | exact ⟨rfl, rfl⟩
    | contradiction
theorem li_28 (w : Int64) (l l' : Nat → Int64) (R : Nat → Nat → Int64) (f : Nat → Bool) : (bdS 28 (eW rS w) (l', R, f)).1 = (bdS 28 (eW rS w) (l, R, f)).1 ∧ (bdS 28 (eW rS w) (l', R, f)).2.2 = (bdS 28 (eW rS w) (l, R, f)).2.2 := by
  rw [bdS_e (k := 28) (ev_28 w l' R f), bdS_e (k := 28) (ev_28 w l R f)]
  repeat' split
  all_goals first
    | exact ⟨rfl, rfl⟩
    | contradiction
theorem li_29 (w : Int64) (l l' : Nat → Int64) (R : Nat → Nat → Int64) (f : Nat → Bool) : (bdS 29 (eW rS w) (l', R, f)).1 = (bdS 29 (eW rS w) (l, R, f)).1 ∧ (bdS 29 (eW rS w) (l', R, f)).2.2 = (bdS 29 (eW rS w) (l, R, f)).2.2 := by
  rw [bdS_e (k := 29) (ev_29 w l' R f), bdS_e (k := 29) (ev_29 w l R f)]
  repeat' split
  all_goals first
    | exact ⟨rfl, rfl⟩
    | contradiction
theorem li_30 (w : Int64) (l l' : Nat → Int64) (R : Nat → Nat → Int64) (f : Nat → Bool) : (bdS 30 (eW rS w) (l', R, f)).1 = (bdS 30 (eW rS w) (l, R, f)).1 ∧ (bdS 30 (eW rS w) (l', R, f)).2.2 = (bdS 30 (eW rS w) (l, R, f)).2.2 := by
  rw [bdS_e (k := 30) (ev_30 w l' R f), bdS_e (k := 30) (ev_30 w l R f)]
  repeat' split
  all_goals first
    | exact ⟨rfl, rfl⟩
    | contradiction
theorem li_31 (w : Int64) (l l' : Nat → Int64) (R : Nat → Nat → Int64) (f : Nat → Bool) : (bdS 31 (eW rS w) (l', R, f)).1 = (bdS 31 (eW rS w) (l, R, f)).1 ∧ (bdS 31 (eW rS w) (l', R, f)).2.2 = (bdS 31 (eW rS w) (l, R, f)).2.2 := by
  rw [bdS_e (k := 31) (ev_31 w l' R f), bdS_e (k := 31) (ev_31 w l R f)]
  repeat' split
  all_goals first
    | exact ⟨rfl, rfl⟩
    | contradiction
theorem li_32 (w : Int64) (l l' : Nat → Int64) (R : Nat → Nat → Int64) (f : Nat → Bool) : (bdS 32 (eW rS w) (l', R, f)).1 = (bdS 32 (eW rS w) (l, R, f)).1 ∧ (bdS 32 (eW rS w) (l', R, f)).2.2 = (bdS 32 (eW rS w) (l, R, f)).2.2 := by
  rw [bdS_e (k := 32) (ev_32 w l' R f), bdS_e (k := 32) (ev_32 w l R f)]
  repeat' split
  all_goals first
    | exact ⟨rfl, rfl⟩
    | contradiction
theorem li_33 (w : Int64) (l l' : Nat → Int64) (R : Nat → Nat → Int64) (f : Nat → Bool) : (bdS 33 (eW rS w) (l', R, f)).1 = (bdS 33 (eW rS w) (l, R, f)).1 ∧ (bdS 33 (eW rS w) (l', R, f)).2.2 = (bdS 33 (eW rS w) (l, R, f)).2.2 := by
  rw [bdS_e (k := 33) (ev_33 w l' R f), bdS_e (k := 33) (ev_33 w l R f)]
  repeat' split
  all_goals first
    | exact ⟨rfl, rfl⟩
    | contradiction
theorem li_34 (w : Int64) (l l' : Nat → Int64) (R : Nat → Nat → Int64) (f : Nat → Bool) : (bdS 34 (eW rS w) (l', R, f)).1 = (bdS 34 (eW rS w) (l, R, f)).1 ∧ (bdS 34 (eW rS w) (l', R, f)).2.2 = (bdS 34 (eW rS w) (l, R, f)).2.2 := by
  rw [bdS_e (k := 34) (ev_34 w l' R f), bdS_e (k := 34) (ev_34 w l R f)]
  repeat' split
  all_goals first
    | exact ⟨rfl, rfl⟩
    | contradiction
theorem li_35 (w : Int64) (l l' : Nat → Int64) (R : Nat → Nat → Int64) (f : Nat → Bool) : (bdS 35 (eW rS w) (l', R, f)).1 = (bdS 35 (eW rS w) (l, R, f)).1 ∧ (bdS 35 (eW rS w) (l', R, f)).2.2 = (bdS 35 (eW rS w) (l, R, f)).2.2 := by
  rw [bdS_e (k := 35) (ev_35 w l' R f), bdS_e (k := 35) (ev_35 w l R f)]
  repeat' split
  all_goals first
    | exact ⟨rfl, rfl⟩
    | contradiction
theorem li_36 (w : Int64) (l l' : Nat → Int64) (R : Nat → Nat → Int64) (f : Nat → Bool) : (bdS 36 (eW rS w) (l', R, f)).1 = (bdS 36 (eW rS w) (l, R, f)).1 ∧ (bdS 36 (eW rS w) (l', R, f)).2.2 = (bdS 36 (eW rS w) (l, R, f)).2.2 := by
  rw [bdS_e (k := 36) (ev_36 w l' R f), bdS_e (k := 36) (ev_36 w l R f)]
  repeat' split
  all_goals first
    | exact ⟨rfl, rfl⟩
    | contradiction
theorem li_37 (w : Int64) (l l' : Nat → Int64) (R : Nat → Nat → Int64) (f : Nat → Bool) : (bdS 37 (eW rS w) (l', R, f)).1 = (bdS 37 (eW rS w) (l, R, f)).1 ∧ (bdS 37 (eW rS w) (l', R, f)).2.2 = (bdS 37 (eW rS w) (l, R, f)).2.2 := by
  rw [bdS_e (k := 37) (ev_37 w l' R f), bdS_e (k := 37) (ev_37 w l R f)]
  repeat' split
  all_goals first
    | exact ⟨rfl, rfl⟩
    | contradiction
theorem li_38 (w : Int64) (l l' : Nat → Int64) (R : Nat → Nat → Int64) (f : Nat → Bool) : (bdS 38 (eW rS w) (l', R, f)).1 = (bdS 38 (eW rS w) (l, R, f)).1 ∧ (bdS 38 (eW rS w) (l', R, f)).2.2 = (bdS 38 (eW rS w) (l, R, f)).2.2 := by
  rw [bdS_e (k := 38) (ev_38 w l' R f), bdS_e (k := 38) (ev_38 w l R f)]
  repeat' split
  all_goals first
    | exact ⟨rfl, rfl⟩
    | contradiction
theorem li_39 (w : Int64) (l l' : Nat → Int64) (R : Nat → Nat → Int64) (f : Nat → Bool) : (bdS 39 (eW rS w) (l', R, f)).1 = (bdS 39 (eW rS w) (l, R, f)).1 ∧ (bdS 39 (eW rS w) (l', R, f)).2.2 = (bdS 39 (eW rS w) (l, R, f)).2.2 := by
  rw [bdS_e (k := 39) (ev_39 w l' R f), bdS_e (k := 39) (ev_39 w l R f)]
  repeat' split
  all_goals first
    | exact ⟨rfl, rfl⟩
    | contradiction
theorem li_40 (w : Int64) (l l' : Nat → Int64) (R : Nat → Nat → Int64) (f : Nat → Bool) : (bdS 40 (eW rS w) (l', R, f)).1 = (bdS 40 (eW rS w) (l, R, f)).1 ∧ (bdS 40 (eW rS w) (l', R, f)).2.2 = (bdS 40 (eW rS w) (l, R, f)).2.2 := by
  rw [bdS_e (k := 40) (ev_40 w l' R f), bdS_e (k := 40) (ev_40 w l R f)]
  repeat' split
  all_goals first
    | exact ⟨rfl, rfl⟩
    | contradiction
theorem li_41 (w : Int64) (l l' : Nat → Int64) (R : Nat → Nat → Int64) (f : Nat → Bool) : (bdS 41 (eW rS w) (l', R, f)).1 = (bdS 41 (eW rS w) (l, R, f)).1 ∧ (bdS 41 (eW rS w) (l', R, f)).2.2 = (bdS 41 (eW rS w) (l, R, f)).2.2 := by
  rw [bdS_e (k := 41) (ev_41 w l' R f), bdS_e (k := 41) (ev_41 w l R f)]
  repeat' split
  all_goals first
    | exact ⟨rfl, rfl⟩
    | contradiction
theorem li_42 (w : Int64) (l l' : Nat → Int64) (R : Nat → Nat → Int64) (f : Nat → Bool) : (bdS 42 (eW rS w) (l', R, f)).1 = (bdS 42 (eW rS w) (l, R, f)).1 ∧ (bdS 42 (eW rS w) (l', R, f)).2.2 = (bdS 42 (eW rS w) (l, R, f)).2.2 := by
  rw [bdS_e (k := 42) (ev_42 w l' R f), bdS_e (k := 42) (ev_42 w l R f)]
  repeat' split
  all_goals first
    | exact ⟨rfl, rfl⟩
    | contradiction
theorem li_43 (w : Int64) (l l' : Nat → Int64) (R : Nat → Nat → Int64) (f : Nat → Bool) : (bdS 43 (eW rS w) (l', R, f)).1 = (bdS 43 (eW rS w) (l, R, f)).1 ∧ (bdS 43 (eW rS w) (l', R, f)).2.2 = (bdS 43 (eW rS w) (l, R, f)).2.2 := by
  rw [bdS_e (k := 43) (ev_43 w l' R f), bdS_e (k := 43) (ev_43 w l R f)]
  repeat' split
  all_goals first
    | exact ⟨rfl, rfl⟩
    | contradiction
theorem li_44 (w : Int64) (l l' : Nat → Int64) (R : Nat → Nat → Int64) (f : Nat → Bool) : (bdS 44 (eW rS w) (l', R, f)).1 = (bdS 44 (eW rS w) (l, R, f)).1 ∧ (bdS 44 (eW rS w) (l', R, f)).2.2 = (bdS 44 (eW rS w) (l, R, f)).2.2 := by
  rw [bdS_e (k := 44) (ev_44 w l' R f), bdS_e (k := 44) (ev_44 w l R f)]
  repeat' split
  all_goals first
    | exact ⟨rfl, rfl⟩
    | contradiction
theorem li_45 (w : Int64) (l l' : Nat → Int64) (R : Nat → Nat → Int64) (f : Nat → Bool) : (bdS 45 (eW rS w) (l', R, f)).1 = (bdS 45 (eW rS w) (l, R, f)).1 ∧ (bdS 45 (eW rS w) (l', R, f)).2.2 = (bdS 45 (eW rS w) (l, R, f)).2.2 := by
  rw [bdS_e (k := 45) (ev_45 w l' R f), bdS_e (k := 45) (ev_45 w l R f)]
  repeat' split
  all_goals first
    | exact ⟨rfl, rfl⟩
    | contradiction
theorem li_46 (w : Int64) (l l' : Nat → Int64) (R : Nat → Nat → Int64) (f : Nat → Bool) : (bdS 46 (eW rS w) (l', R, f)).1 = (bdS 46 (eW rS w) (l, R, f)).1 ∧ (bdS 46 (eW rS w) (l', R, f)).2.2 = (bdS 46 (eW rS w) (l, R, f)).2.2 := by
  rw [bdS_e (k := 46) (ev_46 w l' R f), bdS_e (k := 46) (ev_46 w l R f)]
  repeat' split
  all_goals first
    | exact ⟨rfl, rfl⟩
    | contradiction
theorem li_47 (w : Int64) (l l' : Nat → Int64) (R : Nat → Nat → Int64) (f : Nat → Bool) : (bdS 47 (eW rS w) (l', R, f)).1 = (bdS 47 (eW rS w) (l, R, f)).1 ∧ (bdS 47 (eW rS w) (l', R, f)).2.2 = (bdS 47 (eW rS w) (l, R, f)).2.2 := by
  rw [bdS_e (k := 47) (ev_47 w l' R f), bdS_e (k := 47) (ev_47 w l R f)]
  repeat' split
  all_goals first
    | exact ⟨rfl, rfl⟩
    | contradiction
theorem li_S : ∀ (k : Nat), k < 48 → ∀ (w : Int64) (l l' : Nat → Int64) (x : (Nat → Nat → Int64) × (Nat → Bool)), (bdS k (eW rS w) (l', x)).1 = (bdS k (eW rS w) (l, x)).1 ∧ (bdS k (eW rS w) (l', x)).2.2 = (bdS k (eW rS w) (l, x)).2.2
  | 0, _, w, l, l', (R, f) => li_0 w l l' R f
  | 1, _, w, l, l', (R, f) => li_1 w l l' R f
  | 2, _, w, l, l', (R, f) => li_2 w l l' R f
  | 3, _, w, l, l', (R, f) => li_3 w l l' R f
  | 4, _, w, l, l', (R, f) => li_4 w l l' R f
  | 5, _, w, l, l', (R, f) => li_5 w l l' R f
  | 6, _, w, l, l', (R, f) => li_6 w l l' R f
  | 7, _, w, l, l', (R, f) => li_7 w l l' R f
  | 8, _, w, l, l', (R, f) => li_8 w l l' R f
  | 9, _, w, l, l', (R, f) => li_9 w l l' R f
  | 10, _, w, l, l', (R, f) => li_10 w l l' R f
  | 11, _, w, l, l', (R, f) => li_11 w l l' R f
  | 12, _, w, l, l', (R, f) => li_12 w l l' R f
  | 13, _, w, l, l', (R, f) => li_13 w l l' R f
  | 14, _, w, l, l', (R, f) => li_14 w l l' R f
  | 15, _, w, l, l', (R, f) => li_15 w l l' R f
  | 16, _, w, l, l', (R, f) => li_16 w l l' R f
  | 17, _, w, l, l', (R, f) => li_17 w l l' R f
  | 18, _, w, l, l', (R, f) => li_18 w l l' R f
  | 19, _, w, l, l', (R, f) => li_19 w l l' R f
  | 20, _, w, l, l', (R, f) => li_20 w l l' R f
  | 21, _, w, l, l', (R, f) => li_21 w l l' R f
  | 22, _, w, l, l', (R, f) => li_22 w l l' R f
  | 23, _, w, l, l', (R, f) => li_23 w l l' R f
  | 24, _, w, l, l', (R, f) => li_24 w l l' R f
  | 25, _, w, l, l', (R, f) => li_25 w l l' R f
  | 26, _, w, l, l', (R, f) => li_26 w l l' R f
  | 27, _, w, l, l', (R, f) => li_27 w l l' R f
  | 28, _, w, l, l', (R, f) => li_28 w l l' R f
  | 29, _, w, l, l', (R, f) => li_29 w l l' R f
  | 30, _, w, l, l', (R, f) => li_30 w l l' R f
  | 31, _, w, l, l', (R, f) => li_31 w l l' R f
  | 32, _, w, l, l', (R, f) => li_32 w l l' R f
  | 33, _, w, l, l', (R, f) => li_33 w l l' R f
  | 34, _, w, l, l', (R, f) => li_34 w l l' R f
  | 35, _, w, l, l', (R, f) => li_35 w l l' R f
  | 36, _, w, l, l', (R, f) => li_36 w l l' R f
  | 37, _, w, l, l', (R, f) => li_37 w l l' R f
  | 38, _, w, l, l', (R, f) => li_38 w l l' R f
  | 39, _, w, l, l', (R, f) => li_39 w l l' R f
  | 40, _, w, l, l', (R, f) => li_40 w l l' R f
  | 41, _, w, l, l', (R, f) => li_41 w l l' R f
  | 42, _, w, l, l', (R, f) => li_42 w l l' R f
  | 43, _, w, l, l', (R, f) => li_43 w l l' R f
  | 44, _, w, l, l', (R, f) => li_44 w l l' R f
  | 45, _, w, l, l', (R, f) => li_45 w l l' R f
  | 46, _, w, l, l', (R, f) => li_46 w l l' R f
  | 47, _, w, l, l', (R, f) => li_47 w l l' R f
  | _ + 48, h, _, _, _, _ => absurd h (by omega)
theorem LIq_S : LIq rS := fun o ho w l l' x => by
  have ho : o < opS.length := ho
  rw [opS_48] at ho
  have e : bdO rS o = bdS o := bdS_g ho
  rw [e]
  exact li_S o ho w l l' x
