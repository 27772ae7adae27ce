/-! what the constructors leave -/
/-- before anything is made; of what the shipped program will have, only names -/
def s00 : mv_H := (fun _ _ => 0, fun _ _ => 0, fun o k => if 143 ≤ o then mr o k else none, fun _ _ => 0, fun _ _ => 0)
theorem mp_ge {o k r : Nat} (h : mp 145 o k = some r) : 143 ≤ r := by
  unfold mp at h
  split at h
  · split at h <;> first | (cases h; decide) | cases h
  · split at h
    · split at h <;> first | (cases h; decide) | cases h
    · cases h
theorem s00_gh : gh s00 := fun o k r ho hr => by
  have hr : (if 143 ≤ o then mr o k else none) = some r := hr
  rw [if_pos ho] at hr
  rcases mr_lt hr with h | h | h
  · omega
  · omega
  · exact mp_ge h
theorem s00_ok : mv_ok s00 0 := fun o k r ho _ => absurd ho (Nat.not_lt_zero _)
/-- the class as it is made -/
def sgL (υ : mv_H) : mv_H := mv_sr (sg_Machine (mv_nw υ 64)) 0 9 (some 64)
/-- all that the law makes ahead of its calls -/
def sgI (υ : mv_H) : mv_H := mv_nw (sg_Model (mv_nw (sgL υ) 70)) 142
theorem in_K {υ : mv_H} (hT : TrF 32 (sg_Loom (mv_nw s00 0)) υ) (hL : mv_ok (sgL υ) 70) : Kpb 64 υ (sg_Machine (mv_nw υ 64)) ∧ Kpb 70 (sgL υ) (sgI υ) ∧ Kpb 0 s00 (sgI υ) := by
  have h0 : mv_ok (mv_nw s00 0) 1 := s00_ok.nw
  have k0 : Kpb 0 s00 (mv_nw s00 0) := Kpb.rf.nw (m := 0) (by decide)
  have k1 : Kpb 0 s00 (sg_Loom (mv_nw s00 0)) := k0.tr2 (kb_Loom h0 (s00_gh.kb k0)) (Nat.le_refl _)
  have k2 : Kpb 0 s00 υ := k1.tr2 (m := 0) (fun o ho => ⟨funext fun k => hT.1 _ _ (by omega), by rw [hT.2.2.2.1], by rw [hT.2.2.2.2], hT.2.1 _ (by omega), hT.2.2.1 _ id⟩) (Nat.le_refl _)
  have hυ : mv_ok υ 64 := mv_ok.r (ok_Loom h0) hT.2.2.2.2
  have m1 : Kpb 64 υ (mv_nw υ 64) := Kpb.rf.nw (m := 64) (by decide)
  have gυ := s00_gh.kb k2
  have m2 : Kpb 64 υ (sg_Machine (mv_nw υ 64)) := m1.tr2 (kb_Machine hυ.nw (gυ.kb m1)) (Nat.le_refl _)
  have k3 : Kpb 0 s00 (sgL υ) := (k2.tr2 m2 (by decide)).sr (a := 0) (k := 9) (v := some 64) (by decide)
  have n1 : Kpb 70 (sgL υ) (mv_nw (sgL υ) 70) := Kpb.rf.nw (m := 70) (by decide)
  have gL := s00_gh.kb k3
  have n2 : Kpb 70 (sgL υ) (sg_Model (mv_nw (sgL υ) 70)) := n1.tr2 (kb_Model hL.nw (gL.kb n1)) (Nat.le_refl _)
  have n3 : Kpb 70 (sgL υ) (sgI υ) := n2.nw (m := 142) (by decide)
  exact ⟨m2, n3, k3.tr2 n3 (by decide)⟩
theorem in_o {υ : mv_H} (hT : TrF 32 (sg_Loom (mv_nw s00 0)) υ) (hL : mv_ok (sgL υ) 70) {o : Nat} (ho : o < 64) : mv_i (sgI υ) o = mv_i υ o ∧ mv_a (sgI υ) o = mv_a υ o ∧ mv_b (sgI υ) o = mv_b υ o := by
  obtain ⟨h1, h2, -⟩ := in_K hT hL
  have a := h2 o (by omega)
  have b := h1 o (by omega)
  exact ⟨a.1.trans b.1, a.2.2.2.1.trans b.2.2.2.1, a.2.2.2.2.trans b.2.2.2.2⟩
theorem in_r {υ : mv_H} (hT : TrF 32 (sg_Loom (mv_nw s00 0)) υ) (hL : mv_ok (sgL υ) 70) (o k : Nat) (ho : o < 64) (hk : ¬ (o = 0 ∧ k = 9)) : mv_r (sgI υ) o k = mv_r (sg_Loom (mv_nw s00 0)) o k := by
  obtain ⟨h1, h2, -⟩ := in_K hT hL
  rw [(h2 o (by omega)).2.2.1]
  show mv_u (mv_r (sg_Machine (mv_nw υ 64))) 0 9 (some 64) o k = _
  rw [mv_u_ne _ _ hk, (h1 o (by omega)).2.2.1, hT.2.2.2.2]
theorem in_09 {υ : mv_H} (hT : TrF 32 (sg_Loom (mv_nw s00 0)) υ) (hL : mv_ok (sgL υ) 70) : mv_r (sgI υ) 0 9 = some 64 := by
  obtain ⟨-, h2, -⟩ := in_K hT hL
  rw [(h2 0 (by omega)).2.2.1]
  show mv_u (mv_r (sg_Machine (mv_nw υ 64))) 0 9 (some 64) 0 9 = some 64
  rw [mv_u_same]
theorem in_64 {υ : mv_H} (hT : TrF 32 (sg_Loom (mv_nw s00 0)) υ) (hL : mv_ok (sgL υ) 70) (k : Nat) : mv_r (sgI υ) 64 k = mv_r (sg_Machine (mv_nw υ 64)) 64 k := by
  obtain ⟨-, h2, -⟩ := in_K hT hL
  rw [(h2 64 (by omega)).2.2.1]
  show mv_u (mv_r (sg_Machine (mv_nw υ 64))) 0 9 (some 64) 64 k = _
  exact mv_u_ne _ _ (by omega)
theorem in_hi {υ : mv_H} (hT : TrF 32 (sg_Loom (mv_nw s00 0)) υ) (hL : mv_ok (sgL υ) 70) (o k : Nat) (ho : 143 ≤ o) : mv_r (sgI υ) o k = mr o k := by
  obtain ⟨-, -, h3⟩ := in_K hT hL
  rw [(h3 o (by omega)).2.2.1]
  exact if_pos ho
set_option maxRecDepth 100000 in
set_option maxHeartbeats 4000000 in
theorem in_mh {υ : mv_H} (hT : TrF 32 (sg_Loom (mv_nw s00 0)) υ) (hL : mv_ok (sgL υ) 70) : mh (mv_r (sgI υ)) := fun o k v e => by
  have q1 := in_r hT hL
  have q2 := in_09 hT hL
  have q3 := in_64 hT hL
  have q4 := in_hi hT hL
  unfold mr at e
  split at e <;> dsimp only at e <;> first | (cases e; done) | (split at e <;> first | (cases e; first | exact q2 | exact (q1 _ _ (by decide) (by decide)).trans rfl | exact (q3 _).trans rfl | exact q4 _ _ (by decide) | rfl) | cases e)
set_option maxRecDepth 100000 in
set_option maxHeartbeats 4000000 in
theorem in_BG {υ : mv_H} (hT : TrF 32 (sg_Loom (mv_nw s00 0)) υ) (hL : mv_ok (sgL υ) 70) : BG 74 (sgI υ) := by
  have e17 : mv_i (sgI υ) 74 17 = 0 := rfl
  have e48 : mv_i (sgI υ) 74 48 = 0 := rfl
  have e29 : mv_i (sgI υ) 74 29 = 0 := rfl
  have e20 : mv_i (sgI υ) 74 20 = 8 := rfl
  have e18 : mv_i (sgI υ) 74 18 = -1 := rfl
  refine ⟨0, 0, 0, by rw [e17]; rfl, by decide, by rw [e48]; rfl, by decide, ⟨by rw [e29]; rfl, by decide, by rw [e20]; decide, fun i hi => absurd hi (Nat.not_lt_zero _)⟩, ⟨(fun _ => 0, fun _ => 0), fun i h1 h2 => absurd h2 (by omega), fun i hi => absurd hi (Nat.not_lt_zero _)⟩, fun t ht => absurd ht (Nat.not_lt_zero _), Or.inl e18⟩
set_option maxRecDepth 100000 in
set_option maxHeartbeats 4000000 in
theorem in_MJ {υ : mv_H} (hT : TrF 32 (sg_Loom (mv_nw s00 0)) υ) (hL : mv_ok (sgL υ) 70) : MJ (sgI υ) 0 := ⟨Or.inl ⟨in_mh hT hL, rfl, rfl, in_BG hT hL⟩, rfl⟩
set_option maxRecDepth 100000 in
set_option maxHeartbeats 4000000 in
theorem in_TE {υ : mv_H} (hT : TrF 32 (sg_Loom (mv_nw s00 0)) υ) (hL : mv_ok (sgL υ) 70) : TEQ (sgI υ) := funext fun i => by
  have e1 : mv_a (sgI υ) 1 i = 0 := by
    rw [(in_o hT hL (o := 1) (by decide)).2.1, hT.2.1 _ (by omega)]
    rfl
  have e2 : mv_a (sgI υ) 71 i = 0 := rfl
  rw [e1, e2]
set_option maxRecDepth 100000 in
theorem in_tr {υ : mv_H} (hT : TrF 32 (sg_Loom (mv_nw s00 0)) υ) (hL : mv_ok (sgL υ) 70) (hk : TreeOK 32 512 υ) : TreeOK 32 512 (sgI υ) :=
  hk.fr (in_o hT hL (o := 32) (by decide)).1 (fun j a b => (in_o hT hL (o := 32 + j) (by omega)).2.1) (fun j a b => (in_o hT hL (o := 32 + j) (by omega)).2.2)
set_option maxRecDepth 100000 in
set_option maxHeartbeats 4000000 in
theorem in_CQ {υ : mv_H} (hT : TrF 32 (sg_Loom (mv_nw s00 0)) υ) (hL : mv_ok (sgL υ) 70) (hk : TreeOK 32 512 υ) : CQq [] (sgI υ) := by
  have hTr : TreeOK 32 512 (sgI υ) := in_tr hT hL hk
  have ei : ∀ k, mv_i (sgI υ) 32 k = mv_i (sg_Loom (mv_nw s00 0)) 32 k := fun k => by
    rw [(in_o hT hL (o := 32) (by decide)).1]; exact hT.1 _ _ (by omega)
  refine ⟨⟨32, 74, (in_64 hT hL 0).trans rfl, rfl, Or.inl rfl, Or.inl ⟨rfl, Or.inl rfl, SI.mk 8 (fun _ => (0, 0)) [] 0 none [], ⟨(ei 0).trans rfl, (ei 1).trans rfl, (ei 7).trans rfl, (ei 10).trans rfl, ⟨?_, Nat.zero_le _, Nat.zero_le _, Nat.zero_le _⟩, fun k hk => absurd hk (Nat.not_lt_zero _), fun k hk => absurd hk (Nat.not_lt_zero _), fun k hk => absurd hk (Nat.not_lt_zero _)⟩, ⟨rfl, rfl, rfl, rfl, Nat.zero_le _, fun i hi => absurd hi (Nat.not_lt_zero _), fun i hi => absurd hi (Nat.not_lt_zero _)⟩⟩⟩, (fun z => nomatch z), ⟨fun _ => ⟨hTr, fun w a b ha _ _ _ => absurd ha (by rw [(ei 10).trans rfl]; show ¬ (a : Int) < 0; omega)⟩, fun q => absurd (Option.some.inj ((in_64 hT hL 0).symm.trans q)) (by decide), fun q => absurd (Option.some.inj ((in_64 hT hL 0).symm.trans q)) (by decide)⟩⟩
  show 8 ≤ 64
  decide
set_option maxRecDepth 100000 in
set_option maxHeartbeats 4000000 in
theorem in_LC {υ : mv_H} (hT : TrF 32 (sg_Loom (mv_nw s00 0)) υ) (hL : mv_ok (sgL υ) 70) (hk : TreeOK 32 512 υ) : LC [] (sgI υ) 32 32768 512 0 := by
  have hm := in_mh hT hL
  have ho := fun {o : Nat} (h : o < 64) => in_o hT hL h
  have ei : ∀ o k, o < 64 → ¬ (o = 43 ∧ k = 4) → mv_i (sgI υ) o k = mv_i (sg_Loom (mv_nw s00 0)) o k := fun o k h1 h2 => by
    rw [(ho h1).1]; exact hT.1 _ _ (by omega)
  have ea : ∀ o, o < 44 → mv_a (sgI υ) o = mv_a (sg_Loom (mv_nw s00 0)) o := fun o h1 => by
    rw [(ho (by omega)).2.1]; exact hT.2.1 _ (by omega)
  have eb : ∀ o, o < 64 → mv_b (sgI υ) o = mv_b (sg_Loom (mv_nw s00 0)) o := fun o h1 => by
    rw [(ho h1).2.2]; exact hT.2.2.1 _ id
  have i1 : mv_i (sgI υ) 32 1 = 0 := (ei 32 1 (by decide) (by decide)).trans rfl
  have i6 : mv_i (sgI υ) 32 6 = 0 := (ei 32 6 (by decide) (by decide)).trans rfl
  have i0 : mv_i (sgI υ) 32 0 = 8 := (ei 32 0 (by decide) (by decide)).trans rfl
  have i8 : mv_i (sgI υ) 32 8 = -1 := (ei 32 8 (by decide) (by decide)).trans rfl
  have i9 : mv_i (sgI υ) 32 9 = -1 := (ei 32 9 (by decide) (by decide)).trans rfl
  have i10 : mv_i (sgI υ) 32 10 = 0 := (ei 32 10 (by decide) (by decide)).trans rfl
  have i17 : mv_i (sgI υ) 32 17 = 0 := (ei 32 17 (by decide) (by decide)).trans rfl
  have hTh : Th 32 (sgI υ) 0 0 := ⟨by rw [i1]; rfl, by decide, by rw [i6]; rfl, by decide, by rw [i0]; decide, by rw [i0]; decide, fun t ht => absurd ht (Nat.not_lt_zero _), Or.inl ⟨by rw [i8]; decide, by rw [i9]; decide⟩⟩
  have hTr : TreeOK 32 512 (sgI υ) := by
    unfold TreeOK at hk ⊢
    rw [(ho (o := 32) (by decide)).1, (ho (o := 32 + 12) (by decide)).2.1, (ho (o := 32 + 13) (by decide)).2.1, (ho (o := 32 + 14) (by decide)).2.1, (ho (o := 32 + 15) (by decide)).2.1, (ho (o := 32 + 5) (by decide)).2.2, (ho (o := 32 + 6) (by decide)).2.2]
    exact hk
  have hCo : CodeOK 32 32768 (sgI υ) 0 := ⟨fun _ => 0, 0, by rw [i17]; rfl, by decide, fun _ => Nat.zero_le _, fun a ha => absurd ha (Nat.not_lt_zero _), fun j hj => by rw [i10] at hj; exact absurd hj (by show ¬ (j : Int) < 0; omega), Nat.zero_le _⟩
  refine ⟨Or.inl rfl, ⟨by rw [ei 0 1 (by decide) (by decide)]; rfl, by decide, fun i hi => by rw [ea 1 (by decide)]; show -128 ≤ (0 : Int32).toInt ∧ (0 : Int32).toInt ≤ 127; decide⟩, ⟨hm, Ph_a hm, (in_64 hT hL 0).trans rfl⟩, ⟨by rw [ea 4 (by decide)]; rfl, by rw [ea 5 (by decide)]; show 0 ≤ (0 : Int32).toInt; decide, by rw [eb 6 (by decide)]; rfl, ⟨by rw [ei 13 7 (by decide) (by decide)]; show 0 ≤ (0 : Int32).toInt; decide, by rw [ei 13 7 (by decide) (by decide)]; show (0 : Int32).toInt ≤ 64; decide, fun i hi => by rw [ea 19 (by decide)]; show 0 ≤ (0 : Int32).toInt ∧ (0 : Int32).toInt < 16448; decide⟩, fun i hi => by rw [ea 24 (by decide)]; show 0 ≤ (0 : Int32).toInt ∧ (0 : Int32).toInt < 32770; decide⟩, ⟨0, 0, ⟨hTh, Or.inr ⟨hTr, hCo⟩⟩, by rw [i10]; decide, by rw [i10]; decide⟩, Or.inl ⟨rfl, (in_r hT hL 0 8 (by decide) (by decide)).trans rfl⟩⟩
