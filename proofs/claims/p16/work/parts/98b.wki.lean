/-! both machines at the start -/
def r0 : SI × LZ × List DnS := (SI.mk 8 (fun _ => (0, 0)) [] 0 none [], fun _ => 0, [])
set_option maxRecDepth 100000 in
set_option maxHeartbeats 4000000 in
theorem in_64i {υ : mv_H} (hT : TrF 32 (sg_Loom (mv_nw s00 0)) υ) (hL : mv_ok (sgL υ) 70) (k : Nat) : mv_i (sgI υ) 64 k = mv_i (sg_Machine (mv_nw υ 64)) 64 k := by
  obtain ⟨-, h2, -⟩ := in_K hT hL
  rw [(h2 64 (by omega)).1]
  rfl
set_option maxRecDepth 100000 in
set_option maxHeartbeats 4000000 in
theorem in_WK {υ : mv_H} (hT : TrF 32 (sg_Loom (mv_nw s00 0)) υ) (hL : mv_ok (sgL υ) 70) : WKq (sgI υ) := by
  have ei : ∀ k, mv_i (sgI υ) 32 k = mv_i (sg_Loom (mv_nw s00 0)) 32 k := fun k => by
    rw [(in_o hT hL (o := 32) (by decide)).1]; exact hT.1 _ _ (by omega)
  have nl : ∀ {P : Prop} {t : Nat}, t < r0.1.tl.length → P := fun h => absurd h (Nat.not_lt_zero _)
  have no : ∀ {P : Prop} {t : Nat}, t < r0.1.ops.length → P := fun h => absurd h (Nat.not_lt_zero _)
  have c9 : mv_i (sgI υ) 64 9 = 0 := (in_64i hT hL 9).trans rfl
  have c10 : mv_i (sgI υ) 64 10 = 0 := (in_64i hT hL 10).trans rfl
  have c11 : mv_i (sgI υ) 64 11 = 0 := (in_64i hT hL 11).trans rfl
  have c12 : mv_i (sgI υ) 64 12 = 0 := (in_64i hT hL 12).trans rfl
  have d15 : mv_i (sgI υ) 70 15 = 0 := rfl
  have d12 : mv_i (sgI υ) 70 12 = 0 := rfl
  have d13 : mv_i (sgI υ) 70 13 = 0 := rfl
  have d14 : mv_i (sgI υ) 70 14 = 0 := rfl
  have i6 : mv_i (sgI υ) 32 6 = 0 := (ei 6).trans rfl
  have i8 : mv_i (sgI υ) 32 8 = -1 := (ei 8).trans rfl
  have i17 : mv_i (sgI υ) 32 17 = 0 := (ei 17).trans rfl
  have e17 : mv_i (sgI υ) 74 17 = 0 := rfl
  have e18 : mv_i (sgI υ) 74 18 = -1 := rfl
  have e21 : mv_i (sgI υ) 74 21 = -1 := rfl
  have hK : KOx 32 r0 (sgI υ) := by
    refine ⟨⟨Nat.zero_le _, Nat.zero_le _, fun _ => (show 0 < 64 by decide)⟩, ⟨i6, Nat.le_refl _, fun t ht => nl ht⟩, ?_, rfl, fun _ => (311, 0), 0, ⟨i17, Nat.zero_le _, fun _ _ => rfl, fun i hi => absurd hi (Nat.not_lt_zero _)⟩, fun o ho => absurd ho (Nat.not_lt_zero _)⟩
    show mv_i (sgI υ) 32 8 < 0
    rw [i8]
    decide
  have hS : SPq 32 r0.1 (sgI υ) := by
    refine ⟨(ei 0).trans rfl, (ei 1).trans rfl, (ei 7).trans rfl, (ei 10).trans rfl, ⟨?_, Nat.zero_le _, Nat.zero_le _, Nat.zero_le _⟩, fun k hk => no hk, fun k hk => nl hk, fun k hk => no hk⟩
    show 8 ≤ 64
    decide
  have hR : SRt 74 r0.1 (sgI υ) := ⟨rfl, rfl, rfl, rfl, Nat.zero_le _, fun i hi => no hi, fun i hi => nl hi⟩
  have hI : ITq r0.1 r0.2.1 := by
    refine ⟨fun x h => absurd h (show ¬ (0 : Nat) = 1 by decide), fun x h => absurd h (show ¬ (0 : Nat) = 2 by decide), ⟨rfl, Nat.zero_le _, Nat.zero_le _⟩, Or.inl rfl, (fun p h => by cases (show (none : Option (List Nat × List Nat)) = some p from h)), fun t ht => nl ht⟩
  have hX : XBk 74 r0 (sgI υ) := ⟨⟨Nat.zero_le _, Nat.zero_le _⟩, ⟨e18, e21⟩, fun i hi => nl hi, rfl, fun o ho => no ho⟩
  exact ⟨⟨c9.trans d14.symm, c10.trans d12.symm, c11.trans d13.symm, c12.trans d15.symm⟩, 74, 32, r0, fun _ _ => 0, (in_64 hT hL 0).trans rfl, rfl, Or.inl rfl, Or.inl ⟨rfl, Or.inl rfl, hK, hS, ⟨hR, hX, fun t ht => nl ht, hI, fun w a b ha _ _ _ => no ha⟩, fun t i ht _ => nl ht, fun t i ht _ => nl ht, fun t i ht _ => nl ht⟩⟩
