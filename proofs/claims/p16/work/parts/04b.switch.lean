/-! switches: a goal for each case, and one for the rest -/
def mv_swP (K : Nat → Prop) (pc x d : Int) : List (Int × Int) → Prop
  | [] => K (pc + d).toNat
  | q :: r => (x = q.1 → K (pc + q.2).toNat) ∧ (¬ x = q.1 → mv_swP K pc x d r)
theorem mv_swP_ok {K : Nat → Prop} {pc x d : Int} : ∀ (l : List (Int × Int)), mv_swP K pc x d l → (∀ q ∈ l, 0 ≤ pc + q.2) → 0 ≤ pc + d → K (pc + Op.lookupswitch.offset l d x).toNat ∧ 0 ≤ pc + Op.lookupswitch.offset l d x
  | [], h, _, h0 => ⟨h, h0⟩
  | (a, o) :: r, h, hp, h0 => by
    rw [Op.lookupswitch.offset_cons]
    by_cases e : x = a
    · rw [if_pos e.symm]
      exact ⟨h.1 e, hp (a, o) List.mem_cons_self⟩
    · rw [if_neg (fun q => e q.symm)]
      exact mv_swP_ok r (h.2 e) (fun q hq => hp q (List.mem_cons_of_mem _ hq)) h0
def mv_tsP (K : Nat → Prop) (pc x d : Int) (lo : Int) : List Int → Prop
  | [] => K (pc + d).toNat
  | o :: r => (x = lo → K (pc + o).toNat) ∧ (¬ x = lo → mv_tsP K pc x d (lo + 1) r)
theorem mv_tsP_out {K : Nat → Prop} {pc x d : Int} : ∀ (l : List Int) (lo : Int), mv_tsP K pc x d lo l → (x < lo ∨ lo + l.length ≤ x) → K (pc + d).toNat
  | [], _, h, _ => h
  | o :: r, lo, h, hx => mv_tsP_out r (lo + 1) (h.2 (by simp at hx; omega)) (by simp at hx; omega)
theorem mv_tsP_in {K : Nat → Prop} {pc x d : Int} : ∀ (l : List Int) (lo : Int), mv_tsP K pc x d lo l → lo ≤ x → ∀ off : Int, l[(x - lo).toNat]? = some off → K (pc + off).toNat
  | [], _, _, _, off, ho => by simp at ho
  | o :: r, lo, h, hx, off, ho => by
    by_cases e : x = lo
    · have e2 : (x - lo).toNat = 0 := by omega
      rw [e2] at ho
      have e3 : o = off := by simpa using ho
      subst e3
      exact h.1 e
    · have e2 : (x - lo).toNat = (x - (lo + 1)).toNat + 1 := by omega
      rw [e2] at ho
      exact mv_tsP_in r (lo + 1) (h.2 e) (by omega) off (by simpa using ho)
section MVS
variable {p : Program} {l : Launch} {e : Env} {R : Room} {s : State} {m : MethodId} {args : Array Value} {below : List Frame} {meth : Method} {c : Code} {G : mv_G} {ws : List Cond} {own : String} {cc : ByteArray} {nL : Nat} {cells slots : Nat} {Q : State → Prop} {σ : mv_H} {pc : Nat} {L : List (Nat × Value)} {st : List Value}
theorem mv_lsw (B : mv_B p s m args meth c G ws own cc nL) {dflt : Int} {ps : Array (Int × Int)} {len : Nat} {x : Int32} (hdg : decode cc pc = .ok (.lookupswitch dflt ps, len)) (hp : (ps.toList.zip (ps.toList.drop 1)).all (fun (a, next) => a.1 < next.1) = true) (h0 : (ps.toList.all (fun q => decide (0 ≤ (pc : Int) + q.2)) && decide (0 ≤ (pc : Int) + dflt)) = true)
    (k : mv_swP (fun t => mv_V p l e R s m args below meth c G nL cells slots Q σ t L st) pc x.toInt dflt ps.toList) : mv_V p l e R s m args below meth c G nL cells slots Q σ pc L (.int x :: st) := by
  rw [Bool.and_eq_true, List.all_eq_true, decide_eq_true_eq] at h0
  obtain ⟨h1, h2⟩ := mv_swP_ok _ k (fun q hq => by simpa using h0.1 q hq) h0.2
  exact mv_lookup B hdg hp rfl (by omega) h1
theorem mv_tsw (B : mv_B p s m args meth c G ws own cc nL) {dflt lo hi : Int} {offs : Array Int} {len : Nat} {x : Int32} (hdg : decode cc pc = .ok (.tableswitch dflt lo hi offs, len)) (hn : lo + offs.toList.length = hi + 1) (h0 : (offs.toList.all (fun q => decide (0 ≤ (pc : Int) + q)) && decide (0 ≤ (pc : Int) + dflt)) = true)
    (k : mv_tsP (fun t => mv_V p l e R s m args below meth c G nL cells slots Q σ t L st) pc x.toInt dflt lo offs.toList) : mv_V p l e R s m args below meth c G nL cells slots Q σ pc L (.int x :: st) := by
  rw [Bool.and_eq_true, List.all_eq_true, decide_eq_true_eq] at h0
  by_cases hx : x.toInt < lo ∨ hi < x.toInt
  · exact mv_tableOut (tgt := ((pc : Int) + dflt).toNat) B hdg hx (by omega) (mv_tsP_out _ _ k (by omega))
  · have hlt : (x.toInt - lo).toNat < offs.toList.length := by omega
    have ho : offs.toList[(x.toInt - lo).toNat]? = some (offs.toList[(x.toInt - lo).toNat]) := List.getElem?_eq_getElem hlt
    have hpos : 0 ≤ (pc : Int) + offs.toList[(x.toInt - lo).toNat] := by
      have := h0.1 _ (List.getElem_mem hlt)
      simpa using this
    exact mv_tableIn (tgt := ((pc : Int) + offs.toList[(x.toInt - lo).toNat]).toNat) B hdg (by omega) (by omega) (by rw [← Array.getElem?_toList]; exact ho) (by omega) (mv_tsP_in _ _ k (by omega) _ ho)
end MVS
/-! whole numbers -/
theorem i32_nlt {x : Int32} (h : 0 ≤ x) : ¬ x < 0 := Int32.not_lt.mpr h
theorem i32_ge {x : Int32} (h : ¬ x < 0) : 0 ≤ x := Int32.not_lt.mp h
theorem i32_rng (x : Int32) : -2147483648 ≤ x.toInt ∧ x.toInt < 2147483648 := ⟨Int32.le_toInt x, Int32.toInt_lt x⟩
theorem i32_add {x y : Int32} (h1 : -2147483648 ≤ x.toInt + y.toInt) (h2 : x.toInt + y.toInt < 2147483648) : (x + y).toInt = x.toInt + y.toInt := by
  rw [Int32.toInt_add]
  exact Int.bmod_eq_of_le (by omega) (by omega)
theorem i32_sub {x y : Int32} (h1 : -2147483648 ≤ x.toInt - y.toInt) (h2 : x.toInt - y.toInt < 2147483648) : (x - y).toInt = x.toInt - y.toInt := by
  rw [Int32.toInt_sub]
  exact Int.bmod_eq_of_le (by omega) (by omega)
theorem i32_mul {x y : Int32} (h1 : -2147483648 ≤ x.toInt * y.toInt) (h2 : x.toInt * y.toInt < 2147483648) : (x * y).toInt = x.toInt * y.toInt := by
  rw [Int32.toInt_mul]
  exact Int.bmod_eq_of_le (by omega) (by omega)
theorem i32_in {x : Int32} {n : Nat} (h1 : 0 ≤ x.toInt) (h2 : x.toInt < n) : vp_in x n := vp_in_iff.mpr ⟨h1, h2⟩
theorem i32_cl {x : Int32} (h : 0 ≤ x.toInt) : (x.toNatClampNeg : Int) = x.toInt := by
  rw [Int32.toNatClampNeg]
  omega
theorem z_eq {v : Int32} (h : v = 0 ∨ v = 1) : narrow .boolean (.int v) = .int v := by
  rcases h with rfl | rfl <;> decide
theorem lc_ne {x : Int64} (h : ¬ lg_cmp x 0 = 0) : ¬ x = 0 := fun q => h (by rw [q]; decide)
