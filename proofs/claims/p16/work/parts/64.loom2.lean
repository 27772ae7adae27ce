/-! MachineLoom: its state between calls; what throws -/
theorem mt_ma {args : Array Value} {s s' : State} (h : ∀ w ∈ ma, w.before args s = true) (hv : s'.vm = s.vm) : ∀ w ∈ ma, w.before args s' = true := fun w hw => word_at (by rw [hv]; exact State.WarmedH.refl s) (good_of_word (List.mem_filter.mp hw).2) (h w hw)
section MTA
variable {p : Program} {l : Launch} {e : Env} {R : Room} {s : State} {m : MethodId} {args : Array Value} {below : List Frame} {meth : Method} {c : Code} {G : mv_G} {ws : List Cond} {own : String} {cc : ByteArray} {nL : Nat} {cells slots : Nat} {Q : State → Prop} {σ : mv_H} {pc : Nat} {L : List (Nat × Value)} {st : List Value}
theorem mv_acmp_ne (B : mv_B p s m args meth c G ws own cc nL) {x y : Nat} {off : Int} {tgt : Nat} (hdg : decode cc pc = .ok (.if_acmp .ne off, 3)) (ht : (pc : Int) + off = (tgt : Int))
    (kt : ¬ x = y → mv_V p l e R s m args below meth c G nL cells slots Q σ tgt L st) (kf : x = y → mv_V p l e R s m args below meth c G nL cells slots Q σ (pc + 3) L st) : mv_V p l e R s m args below meth c G nL cells slots Q σ pc L (.ref y :: .ref x :: st) := fun H locs ls h1 h2 h3 => lv_acmp_ne (rx := some x) (ry := some y) B.1.1 B.1.2 hdg ht (fun h => kt (fun z => h (congrArg some z)) H locs ls h1 h2 h3) (fun h => kf (Option.some.inj h) H locs ls h1 h2 h3)
end MTA
def mv_Ti (P : Int32 → mv_H → Prop) (T : String → mv_H → Prop) : mv_O → mv_H → Prop := fun r σ => (∃ v : Int32, r = .inl (some (.int v)) ∧ P v σ) ∨ ∃ (X : String) (a : Nat), r = .inr (X, a) ∧ T X σ
def mv_Tl (P : Int64 → mv_H → Prop) (T : String → mv_H → Prop) : mv_O → mv_H → Prop := fun r σ => (∃ v : Int64, r = .inl (some (.long v)) ∧ P v σ) ∨ ∃ (X : String) (a : Nat), r = .inr (X, a) ∧ T X σ
def mv_Tv (P : mv_H → Prop) (T : String → mv_H → Prop) : mv_O → mv_H → Prop := fun r σ => (r = .inl none ∧ P σ) ∨ ∃ (X : String) (a : Nat), r = .inr (X, a) ∧ T X σ
def P3 (P : Nat) : Prop := P = 32 ∨ P = 48 ∨ P = 145
/-- a program that a machine may run -/
def PO (P R M : Nat) (σ : mv_H) : Prop := ∃ th sl, ProgOK P R M σ th sl ∧ 0 ≤ (mv_i σ P 10).toInt ∧ (mv_i σ P 10).toInt ≤ M ∧ (M = 48 → mv_i σ P 10 = 48)
theorem PO.fr {P R M : Nat} {σ τ : mv_H} (h : PO P R M σ) (ei : mv_i τ P = mv_i σ P) (ea : ∀ j, 1 ≤ j → j ≤ 15 → mv_a τ (P + j) = mv_a σ (P + j)) (eb : ∀ j, j ≤ 15 → mv_b τ (P + j) = mv_b σ (P + j)) : PO P R M τ := by
  obtain ⟨th, sl, ⟨h1, h2⟩, h3, h4, h9⟩ := h
  refine ⟨th, sl, ⟨h1.fr ei (ea 2 (by decide) (by decide)) (ea 3 (by decide) (by decide)), ?_⟩, by rw [ei]; exact h3, by rw [ei]; exact h4, by rw [ei]; exact h9⟩
  rcases h2 with ⟨a, b, c⟩ | ⟨h5, h6⟩
  · exact Or.inl ⟨by rw [ea 13 (by decide) (by decide)]; exact a, by rw [ea 14 (by decide) (by decide)]; exact b, by rw [ea 15 (by decide) (by decide)]; exact c⟩
  · refine Or.inr ⟨?_, ?_⟩
    · unfold TreeOK at h5 ⊢
      rw [ei, ea 12 (by decide) (by decide), ea 13 (by decide) (by decide), ea 14 (by decide) (by decide), ea 15 (by decide) (by decide), eb 5 (by decide), eb 6 (by decide)]
      exact h5
    · unfold CodeOK at h6 ⊢
      rw [ei, ea 9 (by decide) (by decide), ea 7 (by decide) (by decide), eb 10 (by decide)]
      exact h6
theorem PO.fF {P R M : Nat} {pi : Nat → Nat → Prop} {pa pb : Nat → Prop} {σ τ : mv_H} (h : PO P R M σ) (f : Fr pi pa pb σ τ) (g1 : ∀ k, ¬ pi P k) (g2 : ∀ j, 1 ≤ j → j ≤ 15 → ¬ pa (P + j)) (g3 : ∀ j, j ≤ 15 → ¬ pb (P + j)) : PO P R M τ :=
  h.fr (funext fun k => f.1 _ _ (g1 k)) (fun j a b => f.2.1 _ (g2 j a b)) (fun j a => f.2.2.1 _ (g3 j a))
/-- the reference's cells and the law's stay -/
def GFf (σ τ : mv_H) : Prop := ∀ o, 70 ≤ o → o ≤ 142 → mv_i τ o = mv_i σ o ∧ mv_l τ o = mv_l σ o ∧ mv_r τ o = mv_r σ o ∧ mv_a τ o = mv_a σ o ∧ mv_b τ o = mv_b σ o
/-- and INPUT's bytes -/
def GF (σ τ : mv_H) : Prop := GFf σ τ ∧ mv_a τ 1 = mv_a σ 1
theorem GF.rf {σ : mv_H} : GF σ σ := ⟨fun _ _ _ => ⟨rfl, rfl, rfl, rfl, rfl⟩, rfl⟩
theorem GF.tr {σ τ υ : mv_H} (h : GF σ τ) (g : GF τ υ) : GF σ υ := ⟨fun o a b => by
  obtain ⟨h1, h2, h3, h4, h5⟩ := h.1 o a b
  obtain ⟨g1, g2, g3, g4, g5⟩ := g.1 o a b
  exact ⟨g1.trans h1, g2.trans h2, g3.trans h3, g4.trans h4, g5.trans h5⟩, g.2.trans h.2⟩
theorem GFf.fF {pi : Nat → Nat → Prop} {pa pb : Nat → Prop} {σ τ : mv_H} (f : Fr pi pa pb σ τ) (g1 : ∀ o k, 70 ≤ o → o ≤ 142 → ¬ pi o k) (g2 : ∀ o, 70 ≤ o → o ≤ 142 → ¬ pa o) (g3 : ∀ o, 70 ≤ o → o ≤ 142 → ¬ pb o) : GFf σ τ :=
  fun o a b => ⟨funext fun k => f.1 _ _ (g1 o k a b), by rw [f.2.2.2.1], by rw [f.2.2.2.2], f.2.1 _ (g2 o a b), f.2.2.1 _ (g3 o a b)⟩
theorem GF.fF {pi : Nat → Nat → Prop} {pa pb : Nat → Prop} {σ τ : mv_H} (f : Fr pi pa pb σ τ) (g1 : ∀ o k, 70 ≤ o → o ≤ 142 → ¬ pi o k) (g2 : ∀ o, 70 ≤ o → o ≤ 142 → ¬ pa o) (g3 : ∀ o, 70 ≤ o → o ≤ 142 → ¬ pb o) (g4 : ¬ pa 1) : GF σ τ := ⟨GFf.fF f g1 g2 g3, f.2.1 _ g4⟩
theorem GF.sr {σ : mv_H} {o k : Nat} {v : Option Nat} (h : o < 70 ∨ 142 < o) : GF σ (mv_sr σ o k v) := ⟨fun o' a b => ⟨rfl, rfl, mv_u_o _ _ (by omega), rfl, rfl⟩, rfl⟩
/-- the shipped program: not yet made, or good -/
def LSh (ext : mv_Sh) (σ : mv_H) : Prop := (ext = [] ∧ mv_r σ 0 8 = none) ∨ (ext = me ∧ mv_r σ 0 8 = some 145 ∧ Ph 145 (mv_r σ) ∧ PO 145 8192 48 σ)
/-- the class between calls: its machine runs P, k bytes of INPUT -/
def LC (ext : mv_Sh) (σ : mv_H) (P R M k : Nat) : Prop := P3 P ∧ In σ k ∧ Rf P (mv_r σ) ∧ WP σ ∧ PO P R M σ ∧ LSh ext σ
theorem WP.fr {σ τ : mv_H} (h : WP σ) (e4 : mv_a τ 4 = mv_a σ 4) (e5 : mv_a τ 5 = mv_a σ 5) (e6 : mv_b τ 6 = mv_b σ 6) (e13 : mv_i τ 13 = mv_i σ 13) (e19 : mv_a τ 19 = mv_a σ 19) (e24 : mv_a τ 24 = mv_a σ 24) : WP τ := by
  unfold WP Ns at h ⊢
  rw [e4, e5, e6, e13, e19, e24]
  exact h
theorem In.fr {σ τ : mv_H} {k : Nat} (h : In σ k) (e0 : mv_i τ 0 1 = mv_i σ 0 1) (e1 : mv_a τ 1 = mv_a σ 1) : In τ k := by
  unfold In at h ⊢
  rw [e0, e1]
  exact h
theorem LSh.fr {ext : mv_Sh} {σ τ : mv_H} (h : LSh ext σ) (er : mv_r τ 0 8 = mv_r σ 0 8) (ep : Ph 145 (mv_r σ) → Ph 145 (mv_r τ)) (eo : PO 145 8192 48 σ → PO 145 8192 48 τ) : LSh ext τ := by
  rcases h with ⟨a, b⟩ | ⟨a, b, c, d⟩
  · exact Or.inl ⟨a, er.trans b⟩
  · exact Or.inr ⟨a, er.trans b, ep c, eo d⟩
/-- a frame that spares the state's own cells -/
theorem LC.fF {ext : mv_Sh} {P R M k : Nat} {pi : Nat → Nat → Prop} {pa pb : Nat → Prop} {σ τ : mv_H} (h : LC ext σ P R M k) (f : Fr pi pa pb σ τ) (i0 : ¬ pi 0 1) (a1 : ¬ pa 1) (a4 : ¬ pa 4) (a5 : ¬ pa 5) (b6 : ¬ pb 6) (i13 : ∀ k, ¬ pi 13 k) (a19 : ¬ pa 19) (a24 : ¬ pa 24)
    (g1 : ∀ P k, P3 P → ¬ pi P k) (g2 : ∀ P j, P3 P → 1 ≤ j → j ≤ 15 → ¬ pa (P + j)) (g3 : ∀ P j, P3 P → j ≤ 15 → ¬ pb (P + j)) : LC ext τ P R M k := by
  obtain ⟨h1, h2, h3, h4, h5, h6⟩ := h
  refine ⟨h1, h2.fr (f.1 _ _ i0) (f.2.1 _ a1), by rw [f.2.2.2.2]; exact h3, h4.fr (f.2.1 _ a4) (f.2.1 _ a5) (f.2.2.1 _ b6) (funext fun k => f.1 _ _ (i13 k)) (f.2.1 _ a19) (f.2.1 _ a24), h5.fF f (fun k => g1 P k h1) (fun j => g2 P j h1) (fun j => g3 P j h1), h6.fr (by rw [f.2.2.2.2]) (fun q => by rw [f.2.2.2.2]; exact q) (fun q => q.fF f (fun k => g1 145 k (Or.inr (Or.inr rfl))) (fun j => g2 145 j (Or.inr (Or.inr rfl))) (fun j => g3 145 j (Or.inr (Or.inr rfl))))⟩
theorem P3.b {P : Nat} (h : P3 P) : 32 ≤ P ∧ (P + 15 < 64 ∨ 142 < P) := by
  unfold P3 at h
  omega
theorem LC.fm {ext : mv_Sh} {P R M k : Nat} {σ τ : mv_H} (h : LC ext σ P R M k) (f : FM σ τ) : LC ext τ P R M k :=
  h.fF f (by decide) (by decide) (by decide) (by decide) (by decide) (fun _ => by decide) (by decide) (by decide) (fun P k q z => by have := q.b; omega) (fun P j q _ _ z => by have := q.b; omega) (fun P j q _ z => by have := q.b; omega)
theorem GF.fm {σ τ : mv_H} (f : FM σ τ) : GF σ τ := GF.fF f (fun o k a b z => by omega) (fun o a b z => by omega) (fun o a b z => by omega) (fun z => by omega)
theorem GFf.inf {σ τ : mv_H} (f : InF σ τ) : GFf σ τ := GFf.fF f (fun o k a b z => by omega) (fun o a b z => by omega) (fun o a b z => z)
theorem LC.inf {ext : mv_Sh} {P R M k k' : Nat} {σ τ : mv_H} (h : LC ext σ P R M k) (f : InF σ τ) (hI : In τ k') : LC ext τ P R M k' := by
  obtain ⟨h1, h2, h3, h4, h5, h6⟩ := h
  have q := h1.b
  refine ⟨h1, hI, by rw [f.2.2.2.2]; exact h3, h4.fr (f.2.1 _ (by decide)) (f.2.1 _ (by decide)) (f.2.2.1 _ (fun z => z)) (funext fun k => f.1 _ _ (by omega)) (f.2.1 _ (by decide)) (f.2.1 _ (by decide)), h5.fF f (fun k z => by omega) (fun j _ _ z => by omega) (fun _ _ z => z), h6.fr (by rw [f.2.2.2.2]) (fun q => by rw [f.2.2.2.2]; exact q) (fun q => q.fF f (fun k z => by omega) (fun j _ _ z => by omega) (fun _ _ z => z))⟩
theorem mh.sr {r : Nat → Nat → Option Nat} (h : mh r) {o k : Nat} {v : Option Nat} (q : mr o k = none) : mh (mv_u r o k v) := fun o' k' w hw => by
  by_cases z : o' = o ∧ k' = k
  · rw [z.1, z.2, q] at hw; cases hw
  · rw [mv_u_ne _ _ z]; exact h o' k' w hw
theorem Ph.sr {P : Nat} {r : Nat → Nat → Option Nat} (h : Ph P r) {o k : Nat} {v : Option Nat} (q : mp P o k = none) : Ph P (mv_u r o k v) := fun o' k' w hw => by
  by_cases z : o' = o ∧ k' = k
  · rw [z.1, z.2, q] at hw; cases hw
  · rw [mv_u_ne _ _ z]; exact h o' k' w hw

/-- the byte at place j of five numbers -/
def fb (a b c d e : Int32) (j : Nat) : Int32 := pb (if j < 4 then a else if j < 8 then b else if j < 12 then c else if j < 16 then d else e) (Int32.ofInt (24 - 8 * ((j % 4 : Nat) : Int)))
/-- n bytes are fed behind k -/
def FE (σ τ : mv_H) (k n : Nat) (g : Nat → Int32) : Prop := (∀ i, (i < k ∨ k + n ≤ i) → mv_a τ 1 i = mv_a σ 1 i) ∧ ∀ j, j < n → mv_a τ 1 (k + j) = g j
theorem FE.rf {σ : mv_H} {k : Nat} {g : Nat → Int32} : FE σ σ k 0 g := ⟨fun _ _ => rfl, fun j h => absurd h (Nat.not_lt_zero _)⟩
theorem FE.put {σ τ υ : mv_H} {k n q : Nat} {g : Nat → Int32} {x : Int32} (h : FE σ τ k n g) (p : PN τ υ x q 4) (hq : q = k + n) (hg : ∀ j, j < 4 → g (n + j) = pb x (Int32.ofInt (24 - 8 * (j : Int)))) : FE σ υ k (n + 4) g := by
  subst hq
  refine ⟨fun i hi => (p.1 i (by omega)).trans (h.1 i (by omega)), fun j hj => ?_⟩
  by_cases z : j < n
  · rw [p.1 (k + j) (by omega)]
    exact h.2 j z
  · have e := p.2 (j - n) (by omega)
    rw [show k + n + (j - n) = k + j by omega] at e
    rw [e, ← hg (j - n) (by omega), show n + (j - n) = j by omega]
theorem fb_0 (a b c d e : Int32) (j : Nat) (h : j < 4) : fb a b c d e (0 + j) = pb a (Int32.ofInt (24 - 8 * (j : Int))) := by
  unfold fb
  rw [if_pos (by omega), show (0 + j) % 4 = j by omega]
theorem fb_4 (a b c d e : Int32) (j : Nat) (h : j < 4) : fb a b c d e (0 + 4 + j) = pb b (Int32.ofInt (24 - 8 * (j : Int))) := by
  unfold fb
  rw [if_neg (by omega), if_pos (by omega), show (0 + 4 + j) % 4 = j by omega]
theorem fb_8 (a b c d e : Int32) (j : Nat) (h : j < 4) : fb a b c d e (0 + 4 + 4 + j) = pb c (Int32.ofInt (24 - 8 * (j : Int))) := by
  unfold fb
  rw [if_neg (by omega), if_neg (by omega), if_pos (by omega), show (0 + 4 + 4 + j) % 4 = j by omega]
theorem fb_12 (a b c d e : Int32) (j : Nat) (h : j < 4) : fb a b c d e (0 + 4 + 4 + 4 + j) = pb d (Int32.ofInt (24 - 8 * (j : Int))) := by
  unfold fb
  rw [if_neg (by omega), if_neg (by omega), if_neg (by omega), if_pos (by omega), show (0 + 4 + 4 + 4 + j) % 4 = j by omega]
theorem fb_16 (a b c d e : Int32) (j : Nat) (h : j < 4) : fb a b c d e (0 + 4 + 4 + 4 + 4 + j) = pb e (Int32.ofInt (24 - 8 * (j : Int))) := by
  unfold fb
  rw [if_neg (by omega), if_neg (by omega), if_neg (by omega), if_neg (by omega), show (0 + 4 + 4 + 4 + 4 + j) % 4 = j by omega]

def y_Loom_feed : MethodName := ⟨"MachineLoom", "feed", "(IIIII)I"⟩
abbrev b_Loom_feed : ByteArray := prog_1_method_2_code
theorem kc_Loom_feed : Cond.code y_Loom_feed b_Loom_feed 6 (Option.some Jvm.ClassFile.FieldType.int) ∈ ma := ma_of (tb_7 _ (List.mem_of_getElem? (i := 230) rfl)) rfl
theorem k_45 : (Jvm.Cond.constant "MachineLoom" (9 : Nat) (32768 : Int32)) ∈ ma := ma_of (tb_1 _ (List.mem_of_getElem? (i := 45) rfl)) rfl
theorem k_1692 : (Jvm.Cond.methodLink "MachineLoom" (67 : Nat) ({ cls := "MachineLoom", name := "putNumber", desc := "(I)V" } : Jvm.MethodName)) ∈ ma := ma_of (tb_8 _ (List.mem_of_getElem? (i := 12) rfl)) rfl
theorem k_1 : (Jvm.Cond.initialized "MachineLoom") ∈ ma := ma_of (tb_1 _ (List.mem_of_getElem? (i := 1) rfl)) rfl
theorem k_1694 : (Jvm.Cond.instanceMethod ({ cls := "MachineLoom", name := "putNumber", desc := "(I)V" } : Jvm.MethodName)) ∈ ma := ma_of (tb_8 _ (List.mem_of_getElem? (i := 14) rfl)) rfl
theorem ks_77 : Cond.selects "MachineLoom" ⟨"MachineLoom", "putNumber", "(I)V"⟩ ⟨"MachineLoom", "putNumber", "(I)V"⟩ ∈ ma := ma_sel 77 rfl rfl
theorem d_Loom_feed_0 : decode b_Loom_feed 0 = .ok (.aload_n 0, 1) := by decide +kernel
theorem d_Loom_feed_1 : decode b_Loom_feed 1 = .ok (.getfield 61, 3) := by decide +kernel
theorem d_Loom_feed_4 : decode b_Loom_feed 4 = .ok (.bipush 20, 2) := by decide +kernel
theorem d_Loom_feed_6 : decode b_Loom_feed 6 = .ok (.iadd, 1) := by decide +kernel
theorem d_Loom_feed_7 : decode b_Loom_feed 7 = .ok (.ldc 9, 2) := by decide +kernel
theorem d_Loom_feed_9 : decode b_Loom_feed 9 = .ok (.if_icmp .le (11), 3) := by decide +kernel
theorem d_Loom_feed_20 : decode b_Loom_feed 20 = .ok (.aload_n 0, 1) := by decide +kernel
theorem d_Loom_feed_21 : decode b_Loom_feed 21 = .ok (.iload_n 1, 1) := by decide +kernel
theorem d_Loom_feed_22 : decode b_Loom_feed 22 = .ok (.invokevirtual 67, 3) := by decide +kernel
theorem d_Loom_feed_25 : decode b_Loom_feed 25 = .ok (.aload_n 0, 1) := by decide +kernel
theorem d_Loom_feed_26 : decode b_Loom_feed 26 = .ok (.iload_n 2, 1) := by decide +kernel
theorem d_Loom_feed_27 : decode b_Loom_feed 27 = .ok (.invokevirtual 67, 3) := by decide +kernel
theorem d_Loom_feed_30 : decode b_Loom_feed 30 = .ok (.aload_n 0, 1) := by decide +kernel
theorem d_Loom_feed_31 : decode b_Loom_feed 31 = .ok (.iload_n 3, 1) := by decide +kernel
theorem d_Loom_feed_32 : decode b_Loom_feed 32 = .ok (.invokevirtual 67, 3) := by decide +kernel
theorem d_Loom_feed_35 : decode b_Loom_feed 35 = .ok (.aload_n 0, 1) := by decide +kernel
theorem d_Loom_feed_36 : decode b_Loom_feed 36 = .ok (.iload 4, 2) := by decide +kernel
theorem d_Loom_feed_38 : decode b_Loom_feed 38 = .ok (.invokevirtual 67, 3) := by decide +kernel
theorem d_Loom_feed_41 : decode b_Loom_feed 41 = .ok (.aload_n 0, 1) := by decide +kernel
theorem d_Loom_feed_42 : decode b_Loom_feed 42 = .ok (.iload 5, 2) := by decide +kernel
theorem d_Loom_feed_44 : decode b_Loom_feed 44 = .ok (.invokevirtual 67, 3) := by decide +kernel
theorem d_Loom_feed_47 : decode b_Loom_feed 47 = .ok (.aload_n 0, 1) := by decide +kernel
theorem d_Loom_feed_48 : decode b_Loom_feed 48 = .ok (.getfield 61, 3) := by decide +kernel
theorem d_Loom_feed_51 : decode b_Loom_feed 51 = .ok (.ireturn, 1) := by decide +kernel
set_option maxHeartbeats 4000000 in
set_option maxRecDepth 100000 in
theorem c_Loom_feed (l : Launch) {dA : FieldType → ClassId} {D : va_G} {al : Nat → Nat} {ext : mv_Sh} {sk sv : Nat → Nat} (hi : mv_inj (mg dA D al ext)) (σ : mv_H) (hlt : l.stackTraces = false) (a9 b9 c9 d9 e9 : Int32) (P9 R9 M9 k9 : Nat) (hC : LC ext σ P9 R9 M9 k9) (hk : k9 + 20 ≤ 32768) : mv_C l y_Loom_feed (Cond.code y_Loom_feed b_Loom_feed 6 (Option.some Jvm.ClassFile.FieldType.int) :: ma) ({ frames := 1, cells := 0, slots := 0, locals := 22 }) (mg dA D al ext) (mKt sk sv) [.ref (al 0), .int a9, .int b9, .int c9, .int d9, .int e9] σ (mv_Ri (fun v σ1 => v.toInt = ((k9 + 4 + 4 + 4 + 4 + 4 : Nat) : Int) ∧ LC ext σ1 P9 R9 M9 (k9 + 4 + 4 + 4 + 4 + 4) ∧ GFf σ σ1 ∧ FE σ σ1 k9 20 (fb a9 b9 c9 d9 e9))) := by
  refine mv_C.ofV (cc := b_Loom_feed) (nL := 6) (ret := (Option.some Jvm.ClassFile.FieldType.int)) (by decide +kernel) rfl hi (Nat.le_of_ble_eq_true rfl) ?_
  intro p e s m below meth c B hNs hr hnm hno
  have hk1 := hC.2.1.1
  refine mv_aload_n (pc := 0) B d_Loom_feed_0 rfl 0 rfl ?_
  refine mv_getI (pc := 1) (ci := 0) (C := R_Loom) (T := F_Loom) (N := 10) B 1 rfl rfl (by decide) i_Loom (B.2.2.2.1 _ k_487) rfl d_Loom_feed_1 ?_
  refine mv_bipush (pc := 4) (v := 20) B d_Loom_feed_4 (by decide) ?_
  refine mv_iadd (pc := 6) B d_Loom_feed_6 ?_
  refine mv_ldc (pc := 7) (v := 32768) B (B.2.2.2.1 _ k_45) d_Loom_feed_7 ?_
  refine mv_icmp_le (pc := 9) (tgt := 20) B d_Loom_feed_9 rfl (fun h9 => ?_) (fun h9 => ?_)
  · skip
    refine mv_aload_n (pc := 20) B d_Loom_feed_20 rfl 0 rfl ?_
    refine mv_iload_n (pc := 21) B d_Loom_feed_21 rfl 1 rfl ?_
    refine mv_callVv (pc := 22) (n := 1) (ci := 0) (C := R_Loom) B (mK_ok sk sv) hNs.1 rfl rfl (c_Loom_putNumber l hi _ _ k9 hC.2.2.1.1 hC.2.1 (by omega)) rfl (ma_goodc kc_Loom_putNumber) (B.2.2.2.1 _ k_1692) (B.2.2.2.1 _ k_1694) (B.2.2.2.1 _ ks_77) (B.2.2.2.1 _ k_1) ⟨by decide +kernel, by decide +kernel, by decide +kernel⟩ rfl d_Loom_feed_22 rfl (Nat.le_of_ble_eq_true rfl) ⟨by decide, by decide⟩ ⟨by decide, by decide⟩ ⟨by decide, by decide⟩ (mv_noH hno _) (fun σ22 h22 => ?_)
    obtain ⟨gF, gI, p22⟩ := h22
    have gE := FE.put (FE.rf (g := fb a9 b9 c9 d9 e9)) p22 rfl (fb_0 a9 b9 c9 d9 e9)
    have gh : mh (mv_r σ22) := by rw [gF.2.2.2.2]; exact hC.2.2.1.1
    refine mv_aload_n (pc := 25) B d_Loom_feed_25 rfl 0 rfl ?_
    refine mv_iload_n (pc := 26) B d_Loom_feed_26 rfl 2 rfl ?_
    refine mv_callVv (pc := 27) (n := 1) (ci := 0) (C := R_Loom) B (mK_ok sk sv) hNs.1 rfl rfl (c_Loom_putNumber l hi _ _ (k9 + 4) gh gI (by omega)) rfl (ma_goodc kc_Loom_putNumber) (B.2.2.2.1 _ k_1692) (B.2.2.2.1 _ k_1694) (B.2.2.2.1 _ ks_77) (B.2.2.2.1 _ k_1) ⟨by decide +kernel, by decide +kernel, by decide +kernel⟩ rfl d_Loom_feed_27 rfl (Nat.le_of_ble_eq_true rfl) ⟨by decide, by decide⟩ ⟨by decide, by decide⟩ ⟨by decide, by decide⟩ (mv_noH hno _) (fun σ27 h27 => ?_)
    obtain ⟨f27, gI, p27⟩ := h27
    have gE := gE.put p27 (by omega) (fb_4 a9 b9 c9 d9 e9)
    have gF := gF.tr f27
    have gh : mh (mv_r σ27) := by rw [gF.2.2.2.2]; exact hC.2.2.1.1
    refine mv_aload_n (pc := 30) B d_Loom_feed_30 rfl 0 rfl ?_
    refine mv_iload_n (pc := 31) B d_Loom_feed_31 rfl 3 rfl ?_
    refine mv_callVv (pc := 32) (n := 1) (ci := 0) (C := R_Loom) B (mK_ok sk sv) hNs.1 rfl rfl (c_Loom_putNumber l hi _ _ (k9 + 4 + 4) gh gI (by omega)) rfl (ma_goodc kc_Loom_putNumber) (B.2.2.2.1 _ k_1692) (B.2.2.2.1 _ k_1694) (B.2.2.2.1 _ ks_77) (B.2.2.2.1 _ k_1) ⟨by decide +kernel, by decide +kernel, by decide +kernel⟩ rfl d_Loom_feed_32 rfl (Nat.le_of_ble_eq_true rfl) ⟨by decide, by decide⟩ ⟨by decide, by decide⟩ ⟨by decide, by decide⟩ (mv_noH hno _) (fun σ32 h32 => ?_)
    obtain ⟨f32, gI, p32⟩ := h32
    have gE := gE.put p32 (by omega) (fb_8 a9 b9 c9 d9 e9)
    have gF := gF.tr f32
    have gh : mh (mv_r σ32) := by rw [gF.2.2.2.2]; exact hC.2.2.1.1
    refine mv_aload_n (pc := 35) B d_Loom_feed_35 rfl 0 rfl ?_
    refine mv_iload (pc := 36) B d_Loom_feed_36 4 rfl ?_
    refine mv_callVv (pc := 38) (n := 1) (ci := 0) (C := R_Loom) B (mK_ok sk sv) hNs.1 rfl rfl (c_Loom_putNumber l hi _ _ (k9 + 4 + 4 + 4) gh gI (by omega)) rfl (ma_goodc kc_Loom_putNumber) (B.2.2.2.1 _ k_1692) (B.2.2.2.1 _ k_1694) (B.2.2.2.1 _ ks_77) (B.2.2.2.1 _ k_1) ⟨by decide +kernel, by decide +kernel, by decide +kernel⟩ rfl d_Loom_feed_38 rfl (Nat.le_of_ble_eq_true rfl) ⟨by decide, by decide⟩ ⟨by decide, by decide⟩ ⟨by decide, by decide⟩ (mv_noH hno _) (fun σ38 h38 => ?_)
    obtain ⟨f38, gI, p38⟩ := h38
    have gE := gE.put p38 (by omega) (fb_12 a9 b9 c9 d9 e9)
    have gF := gF.tr f38
    have gh : mh (mv_r σ38) := by rw [gF.2.2.2.2]; exact hC.2.2.1.1
    refine mv_aload_n (pc := 41) B d_Loom_feed_41 rfl 0 rfl ?_
    refine mv_iload (pc := 42) B d_Loom_feed_42 5 rfl ?_
    refine mv_callVv (pc := 44) (n := 1) (ci := 0) (C := R_Loom) B (mK_ok sk sv) hNs.1 rfl rfl (c_Loom_putNumber l hi _ _ (k9 + 4 + 4 + 4 + 4) gh gI (by omega)) rfl (ma_goodc kc_Loom_putNumber) (B.2.2.2.1 _ k_1692) (B.2.2.2.1 _ k_1694) (B.2.2.2.1 _ ks_77) (B.2.2.2.1 _ k_1) ⟨by decide +kernel, by decide +kernel, by decide +kernel⟩ rfl d_Loom_feed_44 rfl (Nat.le_of_ble_eq_true rfl) ⟨by decide, by decide⟩ ⟨by decide, by decide⟩ ⟨by decide, by decide⟩ (mv_noH hno _) (fun σ44 h44 => ?_)
    obtain ⟨f44, gI, p44⟩ := h44
    have gE := gE.put p44 (by omega) (fb_16 a9 b9 c9 d9 e9)
    have gF := gF.tr f44
    refine mv_aload_n (pc := 47) B d_Loom_feed_47 rfl 0 rfl ?_
    refine mv_getI (pc := 48) (ci := 0) (C := R_Loom) (T := F_Loom) (N := 10) B 1 rfl rfl (by decide) i_Loom (B.2.2.2.1 _ k_487) rfl d_Loom_feed_48 ?_
    exact mv_iret (pc := 51) B hr rfl d_Loom_feed_51 (Nat.le_refl _) (Nat.le_refl _) ⟨_, rfl, gI.1, hC.inf gF gI, GFf.inf gF, gE⟩
  · skip
    exact absurd (show (mv_i σ 0 1 + 20).toInt ≤ 32768 by rw [i32_add (x := mv_i σ 0 1) (y := 20) (by show -2147483648 ≤ (mv_i σ 0 1).toInt + 20; omega) (by show (mv_i σ 0 1).toInt + 20 < 2147483648; omega)]; show (mv_i σ 0 1).toInt + 20 ≤ 32768; omega) (fun z => h9 (Int32.le_iff_toInt_le.mpr z))
def y_Loom_end : MethodName := ⟨"MachineLoom", "end", "(I)I"⟩
abbrev b_Loom_end : ByteArray := prog_1_method_4_code
theorem kc_Loom_end : Cond.code y_Loom_end b_Loom_end 2 (Option.some Jvm.ClassFile.FieldType.int) ∈ ma := ma_of (tb_8 _ (List.mem_of_getElem? (i := 23) rfl)) rfl
theorem k_1704 : (Jvm.Cond.classLink "MachineLoom" (71 : Nat) "java/lang/IllegalArgumentException") ∈ ma := ma_of (tb_8 _ (List.mem_of_getElem? (i := 24) rfl)) rfl
theorem k_19 : (Jvm.Cond.initialized "java/lang/IllegalArgumentException") ∈ ma := ma_of (tb_1 _ (List.mem_of_getElem? (i := 19) rfl)) rfl
theorem k_1705 : (Jvm.Cond.methodLink "MachineLoom" (73 : Nat) ({ cls := "java/lang/IllegalArgumentException", name := "<init>", desc := "()V" } : Jvm.MethodName)) ∈ ma := ma_of (tb_8 _ (List.mem_of_getElem? (i := 25) rfl)) rfl
theorem d_Loom_end_0 : decode b_Loom_end 0 = .ok (.iload_n 1, 1) := by decide +kernel
theorem d_Loom_end_1 : decode b_Loom_end 1 = .ok (.ifCond .lt (11), 3) := by decide +kernel
theorem d_Loom_end_4 : decode b_Loom_end 4 = .ok (.iload_n 1, 1) := by decide +kernel
theorem d_Loom_end_5 : decode b_Loom_end 5 = .ok (.aload_n 0, 1) := by decide +kernel
theorem d_Loom_end_6 : decode b_Loom_end 6 = .ok (.getfield 61, 3) := by decide +kernel
theorem d_Loom_end_9 : decode b_Loom_end 9 = .ok (.if_icmp .le (11), 3) := by decide +kernel
theorem d_Loom_end_12 : decode b_Loom_end 12 = .ok (.new 71, 3) := by decide +kernel
theorem d_Loom_end_15 : decode b_Loom_end 15 = .ok (.dup, 1) := by decide +kernel
theorem d_Loom_end_16 : decode b_Loom_end 16 = .ok (.invokespecial 73, 3) := by decide +kernel
theorem d_Loom_end_19 : decode b_Loom_end 19 = .ok (.athrow, 1) := by decide +kernel
theorem d_Loom_end_20 : decode b_Loom_end 20 = .ok (.aload_n 0, 1) := by decide +kernel
theorem d_Loom_end_21 : decode b_Loom_end 21 = .ok (.dup, 1) := by decide +kernel
theorem d_Loom_end_22 : decode b_Loom_end 22 = .ok (.getfield 61, 3) := by decide +kernel
theorem d_Loom_end_25 : decode b_Loom_end 25 = .ok (.iload_n 1, 1) := by decide +kernel
theorem d_Loom_end_26 : decode b_Loom_end 26 = .ok (.isub, 1) := by decide +kernel
theorem d_Loom_end_27 : decode b_Loom_end 27 = .ok (.putfield 61, 3) := by decide +kernel
theorem d_Loom_end_30 : decode b_Loom_end 30 = .ok (.aload_n 0, 1) := by decide +kernel
theorem d_Loom_end_31 : decode b_Loom_end 31 = .ok (.getfield 61, 3) := by decide +kernel
theorem d_Loom_end_34 : decode b_Loom_end 34 = .ok (.ireturn, 1) := by decide +kernel
set_option maxHeartbeats 4000000 in
set_option maxRecDepth 100000 in
theorem c_Loom_end (l : Launch) {dA : FieldType → ClassId} {D : va_G} {al : Nat → Nat} {ext : mv_Sh} {sk sv : Nat → Nat} (hi : mv_inj (mg dA D al ext)) (σ : mv_H) (hlt : l.stackTraces = false) (n9 : Int32) (P9 R9 M9 k9 : Nat) (hC : LC ext σ P9 R9 M9 k9) : mv_C l y_Loom_end (Cond.code y_Loom_end b_Loom_end 2 (Option.some Jvm.ClassFile.FieldType.int) :: ma) ({ frames := 6, cells := 1, slots := 6, locals := 81 }) (mg dA D al ext) (mKt sk sv) [.ref (al 0), .int n9] σ (mv_Ti (fun v σ1 => v.toInt = ((k9 - n9.toInt.toNat : Nat) : Int) ∧ 0 ≤ n9.toInt ∧ n9.toInt ≤ k9 ∧ LC ext σ1 P9 R9 M9 (k9 - n9.toInt.toNat) ∧ GF σ σ1) (fun X σ1 => X = "java/lang/IllegalArgumentException" ∧ σ1 = σ ∧ (n9.toInt < 0 ∨ (k9 : Int) < n9.toInt))) := by
  refine mv_C.ofV (cc := b_Loom_end) (nL := 2) (ret := (Option.some Jvm.ClassFile.FieldType.int)) (by decide +kernel) rfl hi (Nat.le_of_ble_eq_true rfl) ?_
  intro p e s m below meth c B hNs hr hnm hno
  have hk1 := hC.2.1.1
  have hk2 := hC.2.1.2.1
  refine mv_iload_n (pc := 0) B d_Loom_end_0 rfl 1 rfl ?_
  refine mv_if_lt (pc := 1) (tgt := 12) B d_Loom_end_1 rfl (fun h1 => ?_) (fun h1 => ?_)
  · skip
    have hx : n9.toInt < 0 ∨ (k9 : Int) < n9.toInt := Or.inl (by have := Int32.lt_iff_toInt_lt.mp h1; simpa using this)
    exact mv_throw0 (pc := 12) (ik := 71) (ic := 73) B hlt hNs.2.1 (X := "java/lang/IllegalArgumentException") (by decide +kernel) (B.2.2.2.1 _ k_1704) (B.2.2.2.1 _ k_19) (B.2.2.2.1 _ k_955) rfl (fun s9 hv9 a9 b9 c9 d9 => have hm9 := mt_ma B.2.2.2.1 hv9; mt_w_iae hm9 (hm9 _ k_1705) a9 b9 c9 d9) d_Loom_end_12 d_Loom_end_15 d_Loom_end_16 d_Loom_end_19 (mv_noH hno _) ⟨by decide, by decide⟩ ⟨by decide, by decide⟩ ⟨by decide, by decide⟩ (fun a9 => Or.inr ⟨_, a9, rfl, rfl, rfl, hx⟩)
  · skip
    refine mv_iload_n (pc := 4) B d_Loom_end_4 rfl 1 rfl ?_
    refine mv_aload_n (pc := 5) B d_Loom_end_5 rfl 0 rfl ?_
    refine mv_getI (pc := 6) (ci := 0) (C := R_Loom) (T := F_Loom) (N := 10) B 1 rfl rfl (by decide) i_Loom (B.2.2.2.1 _ k_487) rfl d_Loom_end_6 ?_
    refine mv_icmp_le (pc := 9) (tgt := 20) B d_Loom_end_9 rfl (fun h9 => ?_) (fun h9 => ?_)
    · skip
      have z9 := Int32.le_iff_toInt_le.mp h9
      have z1 : ¬ n9.toInt < 0 := fun z => h1 (Int32.lt_iff_toInt_lt.mpr (by simpa using z))
      refine mv_aload_n (pc := 20) B d_Loom_end_20 rfl 0 rfl ?_
      refine mv_dup (pc := 21) B d_Loom_end_21 rfl ?_
      refine mv_getI (pc := 22) (ci := 0) (C := R_Loom) (T := F_Loom) (N := 10) B 1 rfl rfl (by decide) i_Loom (B.2.2.2.1 _ k_487) rfl d_Loom_end_22 ?_
      refine mv_iload_n (pc := 25) B d_Loom_end_25 rfl 1 rfl ?_
      refine mv_isub (pc := 26) B d_Loom_end_26 ?_
      refine mv_putI (pc := 27) (ci := 0) (C := R_Loom) (T := F_Loom) (N := 10) B 1 rfl rfl (by decide) i_Loom t_Loom_ok n_Loom (B.2.2.2.1 _ k_487) rfl rfl rfl rfl d_Loom_end_27 ?_
      refine mv_gen (fun S30 eS30 => ?_)
      have gI : In S30 (k9 - n9.toInt.toNat) := by
        rw [eS30]
        refine ⟨?_, by omega, hC.2.1.2.2⟩
        show (mv_i σ 0 1 - n9).toInt = _
        rw [i32_sub (by omega) (by omega)]
        omega
      have gF : InF σ S30 := by rw [eS30]; exact Fr.rf.si ⟨rfl, rfl⟩
      have gR : mv_a S30 1 = mv_a σ 1 := by rw [eS30]; rfl
      clear eS30
      refine mv_aload_n (pc := 30) B d_Loom_end_30 rfl 0 rfl ?_
      refine mv_getI (pc := 31) (ci := 0) (C := R_Loom) (T := F_Loom) (N := 10) B 1 rfl rfl (by decide) i_Loom (B.2.2.2.1 _ k_487) rfl d_Loom_end_31 ?_
      exact mv_iret (pc := 34) B hr rfl d_Loom_end_34 (Nat.le_of_ble_eq_true rfl) (Nat.le_of_ble_eq_true rfl) (Or.inl ⟨_, rfl, gI.1, by omega, by omega, hC.inf gF gI, GFf.inf gF, gR⟩)
    · skip
      have hx : n9.toInt < 0 ∨ (k9 : Int) < n9.toInt := Or.inr (by have z9 : ¬ n9.toInt ≤ (mv_i σ 0 1).toInt := fun z => h9 (Int32.le_iff_toInt_le.mpr z); omega)
      exact mv_throw0 (pc := 12) (ik := 71) (ic := 73) B hlt hNs.2.1 (X := "java/lang/IllegalArgumentException") (by decide +kernel) (B.2.2.2.1 _ k_1704) (B.2.2.2.1 _ k_19) (B.2.2.2.1 _ k_955) rfl (fun s9 hv9 a9 b9 c9 d9 => have hm9 := mt_ma B.2.2.2.1 hv9; mt_w_iae hm9 (hm9 _ k_1705) a9 b9 c9 d9) d_Loom_end_12 d_Loom_end_15 d_Loom_end_16 d_Loom_end_19 (mv_noH hno _) ⟨by decide, by decide⟩ ⟨by decide, by decide⟩ ⟨by decide, by decide⟩ (fun a9 => Or.inr ⟨_, a9, rfl, rfl, rfl, hx⟩)
def y_Loom_fault : MethodName := ⟨"MachineLoom", "fault", "(I)I"⟩
abbrev b_Loom_fault : ByteArray := prog_1_method_7_code
theorem kc_Loom_fault : Cond.code y_Loom_fault b_Loom_fault 2 (Option.some Jvm.ClassFile.FieldType.int) ∈ ma := ma_of (tb_8 _ (List.mem_of_getElem? (i := 58) rfl)) rfl
theorem k_488 : (Jvm.Cond.fieldLink "MachineLoom" (90 : Nat) "MachineLoom" "faultNumber" "I") ∈ ma := ma_of (tb_3 _ (List.mem_of_getElem? (i := 8) rfl)) rfl
theorem k_489 : (Jvm.Cond.fieldLink "MachineLoom" (14 : Nat) "MachineLoom" "faultPlace" "I") ∈ ma := ma_of (tb_3 _ (List.mem_of_getElem? (i := 9) rfl)) rfl
theorem k_490 : (Jvm.Cond.fieldLink "MachineLoom" (18 : Nat) "MachineLoom" "faultOther" "I") ∈ ma := ma_of (tb_3 _ (List.mem_of_getElem? (i := 10) rfl)) rfl
theorem d_Loom_fault_0 : decode b_Loom_fault 0 = .ok (.iload_n 1, 1) := by decide +kernel
theorem d_Loom_fault_1 : decode b_Loom_fault 1 = .ok (.tableswitch (42) (0) (2) #[27, 32, 37], 27) := by decide +kernel
theorem d_Loom_fault_28 : decode b_Loom_fault 28 = .ok (.aload_n 0, 1) := by decide +kernel
theorem d_Loom_fault_29 : decode b_Loom_fault 29 = .ok (.getfield 90, 3) := by decide +kernel
theorem d_Loom_fault_32 : decode b_Loom_fault 32 = .ok (.ireturn, 1) := by decide +kernel
theorem d_Loom_fault_33 : decode b_Loom_fault 33 = .ok (.aload_n 0, 1) := by decide +kernel
theorem d_Loom_fault_34 : decode b_Loom_fault 34 = .ok (.getfield 14, 3) := by decide +kernel
theorem d_Loom_fault_37 : decode b_Loom_fault 37 = .ok (.ireturn, 1) := by decide +kernel
theorem d_Loom_fault_38 : decode b_Loom_fault 38 = .ok (.aload_n 0, 1) := by decide +kernel
theorem d_Loom_fault_39 : decode b_Loom_fault 39 = .ok (.getfield 18, 3) := by decide +kernel
theorem d_Loom_fault_42 : decode b_Loom_fault 42 = .ok (.ireturn, 1) := by decide +kernel
theorem d_Loom_fault_43 : decode b_Loom_fault 43 = .ok (.new 71, 3) := by decide +kernel
theorem d_Loom_fault_46 : decode b_Loom_fault 46 = .ok (.dup, 1) := by decide +kernel
theorem d_Loom_fault_47 : decode b_Loom_fault 47 = .ok (.invokespecial 73, 3) := by decide +kernel
theorem d_Loom_fault_50 : decode b_Loom_fault 50 = .ok (.athrow, 1) := by decide +kernel
set_option maxHeartbeats 4000000 in
set_option maxRecDepth 100000 in
theorem c_Loom_fault (l : Launch) {dA : FieldType → ClassId} {D : va_G} {al : Nat → Nat} {ext : mv_Sh} {sk sv : Nat → Nat} (hi : mv_inj (mg dA D al ext)) (σ : mv_H) (hlt : l.stackTraces = false) (n9 : Int32) : mv_C l y_Loom_fault (Cond.code y_Loom_fault b_Loom_fault 2 (Option.some Jvm.ClassFile.FieldType.int) :: ma) ({ frames := 6, cells := 1, slots := 6, locals := 81 }) (mg dA D al ext) (mKt sk sv) [.ref (al 0), .int n9] σ (mv_Ti (fun _ σ1 => σ1 = σ) (fun X σ1 => X = "java/lang/IllegalArgumentException" ∧ σ1 = σ)) := by
  refine mv_C.ofV (cc := b_Loom_fault) (nL := 2) (ret := (Option.some Jvm.ClassFile.FieldType.int)) (by decide +kernel) rfl hi (Nat.le_of_ble_eq_true rfl) ?_
  intro p e s m below meth c B hNs hr hnm hno
  refine mv_iload_n (pc := 0) B d_Loom_fault_0 rfl 1 rfl ?_
  refine mv_tsw (pc := 1) B d_Loom_fault_1 (by decide) (by decide) ?_
  refine ⟨fun h1 => ?_, fun h1n0 => ?_⟩
  · skip
    refine mv_aload_n (pc := 28) B d_Loom_fault_28 rfl 0 rfl ?_
    refine mv_getI (pc := 29) (ci := 0) (C := R_Loom) (T := F_Loom) (N := 10) B 2 rfl rfl (by decide) i_Loom (B.2.2.2.1 _ k_488) rfl d_Loom_fault_29 ?_
    exact mv_iret (pc := 32) B hr rfl d_Loom_fault_32 (Nat.le_of_ble_eq_true rfl) (Nat.le_of_ble_eq_true rfl) (Or.inl ⟨_, rfl, rfl⟩)
  refine ⟨fun h1 => ?_, fun h1n1 => ?_⟩
  · skip
    refine mv_aload_n (pc := 33) B d_Loom_fault_33 rfl 0 rfl ?_
    refine mv_getI (pc := 34) (ci := 0) (C := R_Loom) (T := F_Loom) (N := 10) B 3 rfl rfl (by decide) i_Loom (B.2.2.2.1 _ k_489) rfl d_Loom_fault_34 ?_
    exact mv_iret (pc := 37) B hr rfl d_Loom_fault_37 (Nat.le_of_ble_eq_true rfl) (Nat.le_of_ble_eq_true rfl) (Or.inl ⟨_, rfl, rfl⟩)
  refine ⟨fun h1 => ?_, fun h1n2 => ?_⟩
  · skip
    refine mv_aload_n (pc := 38) B d_Loom_fault_38 rfl 0 rfl ?_
    refine mv_getI (pc := 39) (ci := 0) (C := R_Loom) (T := F_Loom) (N := 10) B 4 rfl rfl (by decide) i_Loom (B.2.2.2.1 _ k_490) rfl d_Loom_fault_39 ?_
    exact mv_iret (pc := 42) B hr rfl d_Loom_fault_42 (Nat.le_of_ble_eq_true rfl) (Nat.le_of_ble_eq_true rfl) (Or.inl ⟨_, rfl, rfl⟩)
  show mv_V _ _ _ _ _ _ _ _ _ _ _ _ _ _ _ _ 43 _ _
  exact mv_throw0 (pc := 43) (ik := 71) (ic := 73) B hlt hNs.2.1 (X := "java/lang/IllegalArgumentException") (by decide +kernel) (B.2.2.2.1 _ k_1704) (B.2.2.2.1 _ k_19) (B.2.2.2.1 _ k_955) rfl (fun s9 hv9 a9 b9 c9 d9 => have hm9 := mt_ma B.2.2.2.1 hv9; mt_w_iae hm9 (hm9 _ k_1705) a9 b9 c9 d9) d_Loom_fault_43 d_Loom_fault_46 d_Loom_fault_47 d_Loom_fault_50 (mv_noH hno _) ⟨by decide, by decide⟩ ⟨by decide, by decide⟩ ⟨by decide, by decide⟩ (fun a9 => Or.inr ⟨_, a9, rfl, rfl, rfl⟩)
def y_Loom_field : MethodName := ⟨"MachineLoom", "field", "(IIJ)J"⟩
abbrev b_Loom_field : ByteArray := prog_1_method_9_code
theorem kc_Loom_field : Cond.code y_Loom_field b_Loom_field 7 (Option.some Jvm.ClassFile.FieldType.long) ∈ ma := ma_of (tb_8 _ (List.mem_of_getElem? (i := 66) rfl)) rfl
theorem k_1747 : (Jvm.Cond.methodLink "MachineLoom" (127 : Nat) ({ cls := "MachineLoom$Program", name := "maskOf", desc := "(II)J" } : Jvm.MethodName)) ∈ ma := ma_of (tb_8 _ (List.mem_of_getElem? (i := 67) rfl)) rfl
theorem k_1748 : (Jvm.Cond.instanceMethod ({ cls := "MachineLoom$Program", name := "maskOf", desc := "(II)J" } : Jvm.MethodName)) ∈ ma := ma_of (tb_8 _ (List.mem_of_getElem? (i := 68) rfl)) rfl
theorem k_1749 : (Jvm.Cond.selects "MachineLoom$Program" ({ cls := "MachineLoom$Program", name := "maskOf", desc := "(II)J" } : Jvm.MethodName) ({ cls := "MachineLoom$Program", name := "maskOf", desc := "(II)J" } : Jvm.MethodName)) ∈ ma := ma_of (tb_8 _ (List.mem_of_getElem? (i := 69) rfl)) rfl
theorem k_1766 : (Jvm.Cond.methodLink "MachineLoom" (134 : Nat) ({ cls := "MachineLoom$Bits", name := "gather", desc := "(JJ)J" } : Jvm.MethodName)) ∈ ma := ma_of (tb_8 _ (List.mem_of_getElem? (i := 86) rfl)) rfl
theorem k_1751 : (Jvm.Cond.classLink "MachineLoom" (131 : Nat) "java/util/NoSuchElementException") ∈ ma := ma_of (tb_8 _ (List.mem_of_getElem? (i := 71) rfl)) rfl
theorem k_36 : (Jvm.Cond.initialized "java/util/NoSuchElementException") ∈ ma := ma_of (tb_1 _ (List.mem_of_getElem? (i := 36) rfl)) rfl
theorem k_1760 : (Jvm.Cond.methodLink "MachineLoom" (133 : Nat) ({ cls := "java/util/NoSuchElementException", name := "<init>", desc := "()V" } : Jvm.MethodName)) ∈ ma := ma_of (tb_8 _ (List.mem_of_getElem? (i := 80) rfl)) rfl
theorem d_Loom_field_0 : decode b_Loom_field 0 = .ok (.aload_n 0, 1) := by decide +kernel
theorem d_Loom_field_1 : decode b_Loom_field 1 = .ok (.getfield 57, 3) := by decide +kernel
theorem d_Loom_field_4 : decode b_Loom_field 4 = .ok (.getfield 74, 3) := by decide +kernel
theorem d_Loom_field_7 : decode b_Loom_field 7 = .ok (.iload_n 1, 1) := by decide +kernel
theorem d_Loom_field_8 : decode b_Loom_field 8 = .ok (.iload_n 2, 1) := by decide +kernel
theorem d_Loom_field_9 : decode b_Loom_field 9 = .ok (.invokevirtual 127, 3) := by decide +kernel
theorem d_Loom_field_12 : decode b_Loom_field 12 = .ok (.lstore 5, 2) := by decide +kernel
theorem d_Loom_field_14 : decode b_Loom_field 14 = .ok (.lload 5, 2) := by decide +kernel
theorem d_Loom_field_16 : decode b_Loom_field 16 = .ok (.lconst 0, 1) := by decide +kernel
theorem d_Loom_field_17 : decode b_Loom_field 17 = .ok (.lcmp, 1) := by decide +kernel
theorem d_Loom_field_18 : decode b_Loom_field 18 = .ok (.ifCond .ne (11), 3) := by decide +kernel
theorem d_Loom_field_21 : decode b_Loom_field 21 = .ok (.new 131, 3) := by decide +kernel
theorem d_Loom_field_24 : decode b_Loom_field 24 = .ok (.dup, 1) := by decide +kernel
theorem d_Loom_field_25 : decode b_Loom_field 25 = .ok (.invokespecial 133, 3) := by decide +kernel
theorem d_Loom_field_28 : decode b_Loom_field 28 = .ok (.athrow, 1) := by decide +kernel
theorem d_Loom_field_29 : decode b_Loom_field 29 = .ok (.lload_n 3, 1) := by decide +kernel
theorem d_Loom_field_30 : decode b_Loom_field 30 = .ok (.lload 5, 2) := by decide +kernel
theorem d_Loom_field_32 : decode b_Loom_field 32 = .ok (.invokestatic 134, 3) := by decide +kernel
theorem d_Loom_field_35 : decode b_Loom_field 35 = .ok (.lreturn, 1) := by decide +kernel
set_option maxHeartbeats 4000000 in
set_option maxRecDepth 100000 in
theorem c_Loom_field_a (l : Launch) {dA : FieldType → ClassId} {D : va_G} {al : Nat → Nat} {ext : mv_Sh} {sk sv : Nat → Nat} (hi : mv_inj (mg dA D al ext)) (σ : mv_H) (hlt : l.stackTraces = false) (o9 c9 : Int32) (w9 : Int64) (k9 : Nat) (hC : LC ext σ 32 32768 512 k9) : mv_C l y_Loom_field (Cond.code y_Loom_field b_Loom_field 7 (Option.some Jvm.ClassFile.FieldType.long) :: ma) ({ frames := 6, cells := 1, slots := 6, locals := 81 }) (mg dA D al ext) (mKt sk sv) [.ref (al 0), .int o9, .int c9, .long w9] σ (mv_Tl (fun _ σ1 => σ1 = σ) (fun X σ1 => X = "java/util/NoSuchElementException" ∧ σ1 = σ)) := by
  refine mv_C.ofV (cc := b_Loom_field) (nL := 7) (ret := (Option.some Jvm.ClassFile.FieldType.long)) (by decide +kernel) rfl hi (Nat.le_of_ble_eq_true rfl) ?_
  intro p e s m below meth c B hNs hr hnm hno
  obtain ⟨hPP, hI, hR, hW, ⟨th, sl, hO, ho0, ho1, ho2⟩, hLS⟩ := hC
  obtain ⟨hT1, hT2, hT3, hT4, hT5, hT6, hT7, hT8⟩ := hO.1
  refine mv_aload_n (pc := 0) B d_Loom_field_0 rfl 0 rfl ?_
  refine mv_getR (pc := 1) (ci := 0) (C := R_Loom) (T := F_Loom) (N := 10) B 9 rfl rfl (by decide) i_Loom (B.2.2.2.1 _ k_495) rfl (hR.1 _ 9 _ rfl) d_Loom_field_1 ?_
  refine mv_getR (pc := 4) (ci := 9) (C := R_Machine) (T := F_Machine) (N := 13) B 0 rfl rfl (by decide) i_Machine (B.2.2.2.1 _ k_441) rfl hR.2.2 d_Loom_field_4 ?_
  refine mv_iload_n (pc := 7) B d_Loom_field_7 rfl 1 rfl ?_
  refine mv_iload_n (pc := 8) B d_Loom_field_8 rfl 2 rfl ?_
  refine mv_callVl (pc := 9) (n := 2) (ci := 7) (C := R_Program) B (mK_ok sk sv) hNs.1 rfl rfl (c_Program_maskOf_a l hi _ _ _ hR.2.1 hT5 hT6 ho1) rfl (ma_goodc kc_Program_maskOf) (B.2.2.2.1 _ k_1747) (B.2.2.2.1 _ k_1748) (B.2.2.2.1 _ k_1749) (B.2.2.2.1 _ k_8) ⟨by decide +kernel, by decide +kernel, by decide +kernel⟩ rfl d_Loom_field_9 rfl (Nat.le_of_ble_eq_true rfl) ⟨by decide, by decide⟩ ⟨by decide, by decide⟩ ⟨by decide, by decide⟩ (mv_noH hno _) (fun v9 σ9 h9 => ?_)
  have h9 := h9.symm
  subst h9
  refine mv_lstore (pc := 12) B d_Loom_field_12 (by decide) rfl ?_
  refine mv_lload (pc := 14) B d_Loom_field_14 0 rfl ?_
  refine mv_lconst (pc := 16) (v := 0) B d_Loom_field_16 (by decide) ?_
  refine mv_lcmp (pc := 17) B d_Loom_field_17 ?_
  refine mv_if_ne (pc := 18) (tgt := 29) B d_Loom_field_18 rfl (fun h18 => ?_) (fun h18 => ?_)
  · skip
    refine mv_lload_n (pc := 29) B d_Loom_field_29 rfl 4 rfl ?_
    refine mv_lload (pc := 30) B d_Loom_field_30 0 rfl ?_
    refine mv_callSl (pc := 32) (n := 2) B (mK_ok sk sv) hNs.1 (c_Bits_gather l hi _ _ _) rfl (ma_goodc kc_Bits_gather) (B.2.2.2.1 _ k_1766) (B.2.2.2.1 _ k_1582) (B.2.2.2.1 _ k_33) ⟨by decide +kernel, by decide +kernel, by decide +kernel⟩ rfl d_Loom_field_32 rfl (Nat.le_of_ble_eq_true rfl) ⟨by decide, by decide⟩ ⟨by decide, by decide⟩ ⟨by decide, by decide⟩ (mv_noH hno _) (fun v32 σ32 h32 => ?_)
    exact mv_lret (pc := 35) B hr d_Loom_field_35 (Nat.le_of_ble_eq_true rfl) (Nat.le_of_ble_eq_true rfl) (Or.inl ⟨_, rfl, h32⟩)
  · skip
    exact mv_throw0 (pc := 21) (ik := 131) (ic := 133) B hlt hNs.2.1 (X := "java/util/NoSuchElementException") (by decide +kernel) (B.2.2.2.1 _ k_1751) (B.2.2.2.1 _ k_36) (B.2.2.2.1 _ k_1752) rfl (fun s9 hv9 a9 b9 c9 d9 => have hm9 := mt_ma B.2.2.2.1 hv9; mt_w_nse hm9 (hm9 _ k_1760) a9 b9 c9 d9) d_Loom_field_21 d_Loom_field_24 d_Loom_field_25 d_Loom_field_28 (mv_noH hno _) ⟨by decide, by decide⟩ ⟨by decide, by decide⟩ ⟨by decide, by decide⟩ (fun a9 => Or.inr ⟨_, a9, rfl, rfl, rfl⟩)
set_option maxHeartbeats 4000000 in
set_option maxRecDepth 100000 in
theorem c_Loom_field_b (l : Launch) {dA : FieldType → ClassId} {D : va_G} {al : Nat → Nat} {ext : mv_Sh} {sk sv : Nat → Nat} (hi : mv_inj (mg dA D al ext)) (σ : mv_H) (hlt : l.stackTraces = false) (o9 c9 : Int32) (w9 : Int64) (k9 : Nat) (hC : LC ext σ 48 32768 512 k9) : mv_C l y_Loom_field (Cond.code y_Loom_field b_Loom_field 7 (Option.some Jvm.ClassFile.FieldType.long) :: ma) ({ frames := 6, cells := 1, slots := 6, locals := 81 }) (mg dA D al ext) (mKt sk sv) [.ref (al 0), .int o9, .int c9, .long w9] σ (mv_Tl (fun _ σ1 => σ1 = σ) (fun X σ1 => X = "java/util/NoSuchElementException" ∧ σ1 = σ)) := by
  refine mv_C.ofV (cc := b_Loom_field) (nL := 7) (ret := (Option.some Jvm.ClassFile.FieldType.long)) (by decide +kernel) rfl hi (Nat.le_of_ble_eq_true rfl) ?_
  intro p e s m below meth c B hNs hr hnm hno
  obtain ⟨hPP, hI, hR, hW, ⟨th, sl, hO, ho0, ho1, ho2⟩, hLS⟩ := hC
  obtain ⟨hT1, hT2, hT3, hT4, hT5, hT6, hT7, hT8⟩ := hO.1
  refine mv_aload_n (pc := 0) B d_Loom_field_0 rfl 0 rfl ?_
  refine mv_getR (pc := 1) (ci := 0) (C := R_Loom) (T := F_Loom) (N := 10) B 9 rfl rfl (by decide) i_Loom (B.2.2.2.1 _ k_495) rfl (hR.1 _ 9 _ rfl) d_Loom_field_1 ?_
  refine mv_getR (pc := 4) (ci := 9) (C := R_Machine) (T := F_Machine) (N := 13) B 0 rfl rfl (by decide) i_Machine (B.2.2.2.1 _ k_441) rfl hR.2.2 d_Loom_field_4 ?_
  refine mv_iload_n (pc := 7) B d_Loom_field_7 rfl 1 rfl ?_
  refine mv_iload_n (pc := 8) B d_Loom_field_8 rfl 2 rfl ?_
  refine mv_callVl (pc := 9) (n := 2) (ci := 7) (C := R_Program) B (mK_ok sk sv) hNs.1 rfl rfl (c_Program_maskOf_b l hi _ _ _ hR.2.1 hT5 hT6 ho1) rfl (ma_goodc kc_Program_maskOf) (B.2.2.2.1 _ k_1747) (B.2.2.2.1 _ k_1748) (B.2.2.2.1 _ k_1749) (B.2.2.2.1 _ k_8) ⟨by decide +kernel, by decide +kernel, by decide +kernel⟩ rfl d_Loom_field_9 rfl (Nat.le_of_ble_eq_true rfl) ⟨by decide, by decide⟩ ⟨by decide, by decide⟩ ⟨by decide, by decide⟩ (mv_noH hno _) (fun v9 σ9 h9 => ?_)
  have h9 := h9.symm
  subst h9
  refine mv_lstore (pc := 12) B d_Loom_field_12 (by decide) rfl ?_
  refine mv_lload (pc := 14) B d_Loom_field_14 0 rfl ?_
  refine mv_lconst (pc := 16) (v := 0) B d_Loom_field_16 (by decide) ?_
  refine mv_lcmp (pc := 17) B d_Loom_field_17 ?_
  refine mv_if_ne (pc := 18) (tgt := 29) B d_Loom_field_18 rfl (fun h18 => ?_) (fun h18 => ?_)
  · skip
    refine mv_lload_n (pc := 29) B d_Loom_field_29 rfl 4 rfl ?_
    refine mv_lload (pc := 30) B d_Loom_field_30 0 rfl ?_
    refine mv_callSl (pc := 32) (n := 2) B (mK_ok sk sv) hNs.1 (c_Bits_gather l hi _ _ _) rfl (ma_goodc kc_Bits_gather) (B.2.2.2.1 _ k_1766) (B.2.2.2.1 _ k_1582) (B.2.2.2.1 _ k_33) ⟨by decide +kernel, by decide +kernel, by decide +kernel⟩ rfl d_Loom_field_32 rfl (Nat.le_of_ble_eq_true rfl) ⟨by decide, by decide⟩ ⟨by decide, by decide⟩ ⟨by decide, by decide⟩ (mv_noH hno _) (fun v32 σ32 h32 => ?_)
    exact mv_lret (pc := 35) B hr d_Loom_field_35 (Nat.le_of_ble_eq_true rfl) (Nat.le_of_ble_eq_true rfl) (Or.inl ⟨_, rfl, h32⟩)
  · skip
    exact mv_throw0 (pc := 21) (ik := 131) (ic := 133) B hlt hNs.2.1 (X := "java/util/NoSuchElementException") (by decide +kernel) (B.2.2.2.1 _ k_1751) (B.2.2.2.1 _ k_36) (B.2.2.2.1 _ k_1752) rfl (fun s9 hv9 a9 b9 c9 d9 => have hm9 := mt_ma B.2.2.2.1 hv9; mt_w_nse hm9 (hm9 _ k_1760) a9 b9 c9 d9) d_Loom_field_21 d_Loom_field_24 d_Loom_field_25 d_Loom_field_28 (mv_noH hno _) ⟨by decide, by decide⟩ ⟨by decide, by decide⟩ ⟨by decide, by decide⟩ (fun a9 => Or.inr ⟨_, a9, rfl, rfl, rfl⟩)
set_option maxHeartbeats 4000000 in
set_option maxRecDepth 100000 in
theorem c_Loom_field_c (l : Launch) {dA : FieldType → ClassId} {D : va_G} {al : Nat → Nat} {sk sv : Nat → Nat} (hi : mv_inj (mg dA D al me)) (σ : mv_H) (hlt : l.stackTraces = false) (o9 c9 : Int32) (w9 : Int64) (k9 : Nat) (hC : LC me σ 145 8192 48 k9) : mv_C l y_Loom_field (Cond.code y_Loom_field b_Loom_field 7 (Option.some Jvm.ClassFile.FieldType.long) :: ma) ({ frames := 6, cells := 1, slots := 6, locals := 81 }) (mg dA D al me) (mKt sk sv) [.ref (al 0), .int o9, .int c9, .long w9] σ (mv_Tl (fun _ σ1 => σ1 = σ) (fun X σ1 => X = "java/util/NoSuchElementException" ∧ σ1 = σ)) := by
  refine mv_C.ofV (cc := b_Loom_field) (nL := 7) (ret := (Option.some Jvm.ClassFile.FieldType.long)) (by decide +kernel) rfl hi (Nat.le_of_ble_eq_true rfl) ?_
  intro p e s m below meth c B hNs hr hnm hno
  obtain ⟨hPP, hI, hR, hW, ⟨th, sl, hO, ho0, ho1, ho2⟩, hLS⟩ := hC
  obtain ⟨hT1, hT2, hT3, hT4, hT5, hT6, hT7, hT8⟩ := hO.1
  refine mv_aload_n (pc := 0) B d_Loom_field_0 rfl 0 rfl ?_
  refine mv_getR (pc := 1) (ci := 0) (C := R_Loom) (T := F_Loom) (N := 10) B 9 rfl rfl (by decide) i_Loom (B.2.2.2.1 _ k_495) rfl (hR.1 _ 9 _ rfl) d_Loom_field_1 ?_
  refine mv_getR (pc := 4) (ci := 9) (C := R_Machine) (T := F_Machine) (N := 13) B 0 rfl rfl (by decide) i_Machine (B.2.2.2.1 _ k_441) rfl hR.2.2 d_Loom_field_4 ?_
  refine mv_iload_n (pc := 7) B d_Loom_field_7 rfl 1 rfl ?_
  refine mv_iload_n (pc := 8) B d_Loom_field_8 rfl 2 rfl ?_
  refine mv_callVl (pc := 9) (n := 2) (ci := 7) (C := R_Program) B (mK_ok sk sv) hNs.1 rfl rfl (c_Program_maskOf_c l hi _ _ _ hR.2.1 hT5 hT6 ho1) rfl (ma_goodc kc_Program_maskOf) (B.2.2.2.1 _ k_1747) (B.2.2.2.1 _ k_1748) (B.2.2.2.1 _ k_1749) (B.2.2.2.1 _ k_8) ⟨by decide +kernel, by decide +kernel, by decide +kernel⟩ rfl d_Loom_field_9 rfl (Nat.le_of_ble_eq_true rfl) ⟨by decide, by decide⟩ ⟨by decide, by decide⟩ ⟨by decide, by decide⟩ (mv_noH hno _) (fun v9 σ9 h9 => ?_)
  have h9 := h9.symm
  subst h9
  refine mv_lstore (pc := 12) B d_Loom_field_12 (by decide) rfl ?_
  refine mv_lload (pc := 14) B d_Loom_field_14 0 rfl ?_
  refine mv_lconst (pc := 16) (v := 0) B d_Loom_field_16 (by decide) ?_
  refine mv_lcmp (pc := 17) B d_Loom_field_17 ?_
  refine mv_if_ne (pc := 18) (tgt := 29) B d_Loom_field_18 rfl (fun h18 => ?_) (fun h18 => ?_)
  · skip
    refine mv_lload_n (pc := 29) B d_Loom_field_29 rfl 4 rfl ?_
    refine mv_lload (pc := 30) B d_Loom_field_30 0 rfl ?_
    refine mv_callSl (pc := 32) (n := 2) B (mK_ok sk sv) hNs.1 (c_Bits_gather l hi _ _ _) rfl (ma_goodc kc_Bits_gather) (B.2.2.2.1 _ k_1766) (B.2.2.2.1 _ k_1582) (B.2.2.2.1 _ k_33) ⟨by decide +kernel, by decide +kernel, by decide +kernel⟩ rfl d_Loom_field_32 rfl (Nat.le_of_ble_eq_true rfl) ⟨by decide, by decide⟩ ⟨by decide, by decide⟩ ⟨by decide, by decide⟩ (mv_noH hno _) (fun v32 σ32 h32 => ?_)
    exact mv_lret (pc := 35) B hr d_Loom_field_35 (Nat.le_of_ble_eq_true rfl) (Nat.le_of_ble_eq_true rfl) (Or.inl ⟨_, rfl, h32⟩)
  · skip
    exact mv_throw0 (pc := 21) (ik := 131) (ic := 133) B hlt hNs.2.1 (X := "java/util/NoSuchElementException") (by decide +kernel) (B.2.2.2.1 _ k_1751) (B.2.2.2.1 _ k_36) (B.2.2.2.1 _ k_1752) rfl (fun s9 hv9 a9 b9 c9 d9 => have hm9 := mt_ma B.2.2.2.1 hv9; mt_w_nse hm9 (hm9 _ k_1760) a9 b9 c9 d9) d_Loom_field_21 d_Loom_field_24 d_Loom_field_25 d_Loom_field_28 (mv_noH hno _) ⟨by decide, by decide⟩ ⟨by decide, by decide⟩ ⟨by decide, by decide⟩ (fun a9 => Or.inr ⟨_, a9, rfl, rfl, rfl⟩)
def y_Loom_poke : MethodName := ⟨"MachineLoom", "poke", "(IIJ)V"⟩
abbrev b_Loom_poke : ByteArray := prog_1_method_10_code
theorem kc_Loom_poke : Cond.code y_Loom_poke b_Loom_poke 5 (Option.none : Option Jvm.ClassFile.FieldType) ∈ ma := ma_of (tb_8 _ (List.mem_of_getElem? (i := 93) rfl)) rfl
theorem k_1774 : (Jvm.Cond.methodLink "MachineLoom" (140 : Nat) ({ cls := "MachineLoom$Program", name := "has", desc := "(II)Z" } : Jvm.MethodName)) ∈ ma := ma_of (tb_8 _ (List.mem_of_getElem? (i := 94) rfl)) rfl
theorem k_1775 : (Jvm.Cond.instanceMethod ({ cls := "MachineLoom$Program", name := "has", desc := "(II)Z" } : Jvm.MethodName)) ∈ ma := ma_of (tb_8 _ (List.mem_of_getElem? (i := 95) rfl)) rfl
theorem k_1776 : (Jvm.Cond.selects "MachineLoom$Program" ({ cls := "MachineLoom$Program", name := "has", desc := "(II)Z" } : Jvm.MethodName) ({ cls := "MachineLoom$Program", name := "has", desc := "(II)Z" } : Jvm.MethodName)) ∈ ma := ma_of (tb_8 _ (List.mem_of_getElem? (i := 96) rfl)) rfl
theorem k_1778 : (Jvm.Cond.methodLink "MachineLoom" (144 : Nat) ({ cls := "MachineLoom$Machine", name := "put", desc := "(IIJ)V" } : Jvm.MethodName)) ∈ ma := ma_of (tb_8 _ (List.mem_of_getElem? (i := 98) rfl)) rfl
theorem d_Loom_poke_0 : decode b_Loom_poke 0 = .ok (.aload_n 0, 1) := by decide +kernel
theorem d_Loom_poke_1 : decode b_Loom_poke 1 = .ok (.getfield 57, 3) := by decide +kernel
theorem d_Loom_poke_4 : decode b_Loom_poke 4 = .ok (.getfield 74, 3) := by decide +kernel
theorem d_Loom_poke_7 : decode b_Loom_poke 7 = .ok (.iload_n 1, 1) := by decide +kernel
theorem d_Loom_poke_8 : decode b_Loom_poke 8 = .ok (.iload_n 2, 1) := by decide +kernel
theorem d_Loom_poke_9 : decode b_Loom_poke 9 = .ok (.invokevirtual 140, 3) := by decide +kernel
theorem d_Loom_poke_12 : decode b_Loom_poke 12 = .ok (.ifCond .ne (11), 3) := by decide +kernel
theorem d_Loom_poke_15 : decode b_Loom_poke 15 = .ok (.new 131, 3) := by decide +kernel
theorem d_Loom_poke_18 : decode b_Loom_poke 18 = .ok (.dup, 1) := by decide +kernel
theorem d_Loom_poke_19 : decode b_Loom_poke 19 = .ok (.invokespecial 133, 3) := by decide +kernel
theorem d_Loom_poke_22 : decode b_Loom_poke 22 = .ok (.athrow, 1) := by decide +kernel
theorem d_Loom_poke_23 : decode b_Loom_poke 23 = .ok (.aload_n 0, 1) := by decide +kernel
theorem d_Loom_poke_24 : decode b_Loom_poke 24 = .ok (.getfield 57, 3) := by decide +kernel
theorem d_Loom_poke_27 : decode b_Loom_poke 27 = .ok (.iload_n 1, 1) := by decide +kernel
theorem d_Loom_poke_28 : decode b_Loom_poke 28 = .ok (.iload_n 2, 1) := by decide +kernel
theorem d_Loom_poke_29 : decode b_Loom_poke 29 = .ok (.lload_n 3, 1) := by decide +kernel
theorem d_Loom_poke_30 : decode b_Loom_poke 30 = .ok (.invokevirtual 144, 3) := by decide +kernel
theorem d_Loom_poke_33 : decode b_Loom_poke 33 = .ok (.return_, 1) := by decide +kernel
set_option maxHeartbeats 4000000 in
set_option maxRecDepth 100000 in
theorem c_Loom_poke_a (l : Launch) {dA : FieldType → ClassId} {D : va_G} {al : Nat → Nat} {ext : mv_Sh} {sk sv : Nat → Nat} (hi : mv_inj (mg dA D al ext)) (σ : mv_H) (hlt : l.stackTraces = false) (t9 i9 : Int32) (w9 : Int64) (k9 : Nat) (hC : LC ext σ 32 32768 512 k9) : mv_C l y_Loom_poke (Cond.code y_Loom_poke b_Loom_poke 5 (Option.none : Option Jvm.ClassFile.FieldType) :: ma) ({ frames := 6, cells := 1, slots := 6, locals := 81 }) (mg dA D al ext) (mKt sk sv) [.ref (al 0), .int t9, .int i9, .long w9] σ (mv_Tv (fun σ1 => LC ext σ1 32 32768 512 k9 ∧ GF σ σ1) (fun X σ1 => X = "java/util/NoSuchElementException" ∧ σ1 = σ)) := by
  refine mv_C.ofV (cc := b_Loom_poke) (nL := 5) (ret := (Option.none : Option Jvm.ClassFile.FieldType)) (by decide +kernel) rfl hi (Nat.le_of_ble_eq_true rfl) ?_
  intro p e s m below meth c B hNs hr hnm hno
  have hC9 := hC
  obtain ⟨hPP, hI, hR, hW, ⟨th, sl, hO, ho0, ho1, ho2⟩, hLS⟩ := hC
  have hT9 := hO.1
  obtain ⟨hT1, hT2, hT3, hT4, hT5, hT6, hT7, hT8⟩ := hO.1
  refine mv_aload_n (pc := 0) B d_Loom_poke_0 rfl 0 rfl ?_
  refine mv_getR (pc := 1) (ci := 0) (C := R_Loom) (T := F_Loom) (N := 10) B 9 rfl rfl (by decide) i_Loom (B.2.2.2.1 _ k_495) rfl (hR.1 _ 9 _ rfl) d_Loom_poke_1 ?_
  refine mv_getR (pc := 4) (ci := 9) (C := R_Machine) (T := F_Machine) (N := 13) B 0 rfl rfl (by decide) i_Machine (B.2.2.2.1 _ k_441) rfl hR.2.2 d_Loom_poke_4 ?_
  refine mv_iload_n (pc := 7) B d_Loom_poke_7 rfl 1 rfl ?_
  refine mv_iload_n (pc := 8) B d_Loom_poke_8 rfl 2 rfl ?_
  refine mv_callVi (pc := 9) (n := 2) (ci := 7) (C := R_Program) B (mK_ok sk sv) hNs.1 rfl rfl (c_Program_has_a l hi _ _ _ hR.2.1 (by omega)) rfl (ma_goodc kc_Program_has) (B.2.2.2.1 _ k_1774) (B.2.2.2.1 _ k_1775) (B.2.2.2.1 _ k_1776) (B.2.2.2.1 _ k_8) ⟨by decide +kernel, by decide +kernel, by decide +kernel⟩ rfl d_Loom_poke_9 rfl (Nat.le_of_ble_eq_true rfl) ⟨by decide, by decide⟩ ⟨by decide, by decide⟩ ⟨by decide, by decide⟩ (mv_noH hno _) (fun v9 σ9 h9 => ?_)
  obtain ⟨e9, z9⟩ := h9
  have e9 := e9.symm
  subst e9
  refine mv_if_ne (pc := 12) (tgt := 23) B d_Loom_poke_12 rfl (fun h12 => ?_) (fun h12 => ?_)
  · skip
    have z8 := z9.resolve_left h12
    obtain ⟨-, z1, z2, z3, z4⟩ := z8
    obtain ⟨tn, etn⟩ : ∃ tn : Nat, t9.toInt = tn := ⟨t9.toInt.toNat, by omega⟩
    have hcl : t9.toNatClampNeg = tn := by rw [Int32.toNatClampNeg, etn]; rfl
    obtain ⟨cw, fw, q1, q2, q3, q4⟩ := hT7 tn (by omega)
    rw [hcl] at z4
    have z5 : fw + i9.toInt < 65600 := by
      rcases z4 with ⟨-, z4⟩ | ⟨-, z4⟩
      · rw [z4]; show (fw : Int) + 0 < 65600; omega
      · rw [q1] at z4; omega
    refine mv_aload_n (pc := 23) B d_Loom_poke_23 rfl 0 rfl ?_
    refine mv_getR (pc := 24) (ci := 0) (C := R_Loom) (T := F_Loom) (N := 10) B 9 rfl rfl (by decide) i_Loom (B.2.2.2.1 _ k_495) rfl (hR.1 _ 9 _ rfl) d_Loom_poke_24 ?_
    refine mv_iload_n (pc := 27) B d_Loom_poke_27 rfl 1 rfl ?_
    refine mv_iload_n (pc := 28) B d_Loom_poke_28 rfl 2 rfl ?_
    refine mv_lload_n (pc := 29) B d_Loom_poke_29 rfl 3 rfl ?_
    refine mv_callVv (pc := 30) (n := 3) (ci := 9) (C := R_Machine) B (mK_ok sk sv) hNs.1 rfl rfl (c_Machine_put_a l hi _ _ _ _ hR th sl hT9 tn etn (by omega) z3 (by rw [q2]; omega) (by rw [q2]; omega)) rfl (ma_goodc kc_Machine_put) (B.2.2.2.1 _ k_1778) (B.2.2.2.1 _ k_1601) (B.2.2.2.1 _ k_1602) (B.2.2.2.1 _ k_11) ⟨by decide +kernel, by decide +kernel, by decide +kernel⟩ rfl d_Loom_poke_30 rfl (Nat.le_of_ble_eq_true rfl) ⟨by decide, by decide⟩ ⟨by decide, by decide⟩ ⟨by decide, by decide⟩ (mv_noH hno _) (fun σ30 h30 => ?_)
    exact mv_vret (pc := 33) B hr d_Loom_poke_33 (Nat.le_of_ble_eq_true rfl) (Nat.le_of_ble_eq_true rfl) (Or.inl ⟨rfl, hC9.fm (h30.up (fun _ _ z => absurd z id) (fun _ z => absurd z id) (fun o z => Or.inl z)), GF.fm (h30.up (fun _ _ z => absurd z id) (fun _ z => absurd z id) (fun o z => Or.inl z))⟩)
  · skip
    exact mv_throw0 (pc := 15) (ik := 131) (ic := 133) B hlt hNs.2.1 (X := "java/util/NoSuchElementException") (by decide +kernel) (B.2.2.2.1 _ k_1751) (B.2.2.2.1 _ k_36) (B.2.2.2.1 _ k_1752) rfl (fun s9 hv9 a9 b9 c9 d9 => have hm9 := mt_ma B.2.2.2.1 hv9; mt_w_nse hm9 (hm9 _ k_1760) a9 b9 c9 d9) d_Loom_poke_15 d_Loom_poke_18 d_Loom_poke_19 d_Loom_poke_22 (mv_noH hno _) ⟨by decide, by decide⟩ ⟨by decide, by decide⟩ ⟨by decide, by decide⟩ (fun a9 => Or.inr ⟨_, a9, rfl, rfl, rfl⟩)
set_option maxHeartbeats 4000000 in
set_option maxRecDepth 100000 in
theorem c_Loom_poke_b (l : Launch) {dA : FieldType → ClassId} {D : va_G} {al : Nat → Nat} {ext : mv_Sh} {sk sv : Nat → Nat} (hi : mv_inj (mg dA D al ext)) (σ : mv_H) (hlt : l.stackTraces = false) (t9 i9 : Int32) (w9 : Int64) (k9 : Nat) (hC : LC ext σ 48 32768 512 k9) : mv_C l y_Loom_poke (Cond.code y_Loom_poke b_Loom_poke 5 (Option.none : Option Jvm.ClassFile.FieldType) :: ma) ({ frames := 6, cells := 1, slots := 6, locals := 81 }) (mg dA D al ext) (mKt sk sv) [.ref (al 0), .int t9, .int i9, .long w9] σ (mv_Tv (fun σ1 => LC ext σ1 48 32768 512 k9 ∧ GF σ σ1) (fun X σ1 => X = "java/util/NoSuchElementException" ∧ σ1 = σ)) := by
  refine mv_C.ofV (cc := b_Loom_poke) (nL := 5) (ret := (Option.none : Option Jvm.ClassFile.FieldType)) (by decide +kernel) rfl hi (Nat.le_of_ble_eq_true rfl) ?_
  intro p e s m below meth c B hNs hr hnm hno
  have hC9 := hC
  obtain ⟨hPP, hI, hR, hW, ⟨th, sl, hO, ho0, ho1, ho2⟩, hLS⟩ := hC
  have hT9 := hO.1
  obtain ⟨hT1, hT2, hT3, hT4, hT5, hT6, hT7, hT8⟩ := hO.1
  refine mv_aload_n (pc := 0) B d_Loom_poke_0 rfl 0 rfl ?_
  refine mv_getR (pc := 1) (ci := 0) (C := R_Loom) (T := F_Loom) (N := 10) B 9 rfl rfl (by decide) i_Loom (B.2.2.2.1 _ k_495) rfl (hR.1 _ 9 _ rfl) d_Loom_poke_1 ?_
  refine mv_getR (pc := 4) (ci := 9) (C := R_Machine) (T := F_Machine) (N := 13) B 0 rfl rfl (by decide) i_Machine (B.2.2.2.1 _ k_441) rfl hR.2.2 d_Loom_poke_4 ?_
  refine mv_iload_n (pc := 7) B d_Loom_poke_7 rfl 1 rfl ?_
  refine mv_iload_n (pc := 8) B d_Loom_poke_8 rfl 2 rfl ?_
  refine mv_callVi (pc := 9) (n := 2) (ci := 7) (C := R_Program) B (mK_ok sk sv) hNs.1 rfl rfl (c_Program_has_b l hi _ _ _ hR.2.1 (by omega)) rfl (ma_goodc kc_Program_has) (B.2.2.2.1 _ k_1774) (B.2.2.2.1 _ k_1775) (B.2.2.2.1 _ k_1776) (B.2.2.2.1 _ k_8) ⟨by decide +kernel, by decide +kernel, by decide +kernel⟩ rfl d_Loom_poke_9 rfl (Nat.le_of_ble_eq_true rfl) ⟨by decide, by decide⟩ ⟨by decide, by decide⟩ ⟨by decide, by decide⟩ (mv_noH hno _) (fun v9 σ9 h9 => ?_)
  obtain ⟨e9, z9⟩ := h9
  have e9 := e9.symm
  subst e9
  refine mv_if_ne (pc := 12) (tgt := 23) B d_Loom_poke_12 rfl (fun h12 => ?_) (fun h12 => ?_)
  · skip
    have z8 := z9.resolve_left h12
    obtain ⟨-, z1, z2, z3, z4⟩ := z8
    obtain ⟨tn, etn⟩ : ∃ tn : Nat, t9.toInt = tn := ⟨t9.toInt.toNat, by omega⟩
    have hcl : t9.toNatClampNeg = tn := by rw [Int32.toNatClampNeg, etn]; rfl
    obtain ⟨cw, fw, q1, q2, q3, q4⟩ := hT7 tn (by omega)
    rw [hcl] at z4
    have z5 : fw + i9.toInt < 65600 := by
      rcases z4 with ⟨-, z4⟩ | ⟨-, z4⟩
      · rw [z4]; show (fw : Int) + 0 < 65600; omega
      · rw [q1] at z4; omega
    refine mv_aload_n (pc := 23) B d_Loom_poke_23 rfl 0 rfl ?_
    refine mv_getR (pc := 24) (ci := 0) (C := R_Loom) (T := F_Loom) (N := 10) B 9 rfl rfl (by decide) i_Loom (B.2.2.2.1 _ k_495) rfl (hR.1 _ 9 _ rfl) d_Loom_poke_24 ?_
    refine mv_iload_n (pc := 27) B d_Loom_poke_27 rfl 1 rfl ?_
    refine mv_iload_n (pc := 28) B d_Loom_poke_28 rfl 2 rfl ?_
    refine mv_lload_n (pc := 29) B d_Loom_poke_29 rfl 3 rfl ?_
    refine mv_callVv (pc := 30) (n := 3) (ci := 9) (C := R_Machine) B (mK_ok sk sv) hNs.1 rfl rfl (c_Machine_put_b l hi _ _ _ _ hR th sl hT9 tn etn (by omega) z3 (by rw [q2]; omega) (by rw [q2]; omega)) rfl (ma_goodc kc_Machine_put) (B.2.2.2.1 _ k_1778) (B.2.2.2.1 _ k_1601) (B.2.2.2.1 _ k_1602) (B.2.2.2.1 _ k_11) ⟨by decide +kernel, by decide +kernel, by decide +kernel⟩ rfl d_Loom_poke_30 rfl (Nat.le_of_ble_eq_true rfl) ⟨by decide, by decide⟩ ⟨by decide, by decide⟩ ⟨by decide, by decide⟩ (mv_noH hno _) (fun σ30 h30 => ?_)
    exact mv_vret (pc := 33) B hr d_Loom_poke_33 (Nat.le_of_ble_eq_true rfl) (Nat.le_of_ble_eq_true rfl) (Or.inl ⟨rfl, hC9.fm (h30.up (fun _ _ z => absurd z id) (fun _ z => absurd z id) (fun o z => Or.inl z)), GF.fm (h30.up (fun _ _ z => absurd z id) (fun _ z => absurd z id) (fun o z => Or.inl z))⟩)
  · skip
    exact mv_throw0 (pc := 15) (ik := 131) (ic := 133) B hlt hNs.2.1 (X := "java/util/NoSuchElementException") (by decide +kernel) (B.2.2.2.1 _ k_1751) (B.2.2.2.1 _ k_36) (B.2.2.2.1 _ k_1752) rfl (fun s9 hv9 a9 b9 c9 d9 => have hm9 := mt_ma B.2.2.2.1 hv9; mt_w_nse hm9 (hm9 _ k_1760) a9 b9 c9 d9) d_Loom_poke_15 d_Loom_poke_18 d_Loom_poke_19 d_Loom_poke_22 (mv_noH hno _) ⟨by decide, by decide⟩ ⟨by decide, by decide⟩ ⟨by decide, by decide⟩ (fun a9 => Or.inr ⟨_, a9, rfl, rfl, rfl⟩)
set_option maxHeartbeats 4000000 in
set_option maxRecDepth 100000 in
theorem c_Loom_poke_c (l : Launch) {dA : FieldType → ClassId} {D : va_G} {al : Nat → Nat} {sk sv : Nat → Nat} (hi : mv_inj (mg dA D al me)) (σ : mv_H) (hlt : l.stackTraces = false) (t9 i9 : Int32) (w9 : Int64) (k9 : Nat) (hC : LC me σ 145 8192 48 k9) : mv_C l y_Loom_poke (Cond.code y_Loom_poke b_Loom_poke 5 (Option.none : Option Jvm.ClassFile.FieldType) :: ma) ({ frames := 6, cells := 1, slots := 6, locals := 81 }) (mg dA D al me) (mKt sk sv) [.ref (al 0), .int t9, .int i9, .long w9] σ (mv_Tv (fun σ1 => LC me σ1 145 8192 48 k9 ∧ GF σ σ1) (fun X σ1 => X = "java/util/NoSuchElementException" ∧ σ1 = σ)) := by
  refine mv_C.ofV (cc := b_Loom_poke) (nL := 5) (ret := (Option.none : Option Jvm.ClassFile.FieldType)) (by decide +kernel) rfl hi (Nat.le_of_ble_eq_true rfl) ?_
  intro p e s m below meth c B hNs hr hnm hno
  have hC9 := hC
  obtain ⟨hPP, hI, hR, hW, ⟨th, sl, hO, ho0, ho1, ho2⟩, hLS⟩ := hC
  have hT9 := hO.1
  obtain ⟨hT1, hT2, hT3, hT4, hT5, hT6, hT7, hT8⟩ := hO.1
  refine mv_aload_n (pc := 0) B d_Loom_poke_0 rfl 0 rfl ?_
  refine mv_getR (pc := 1) (ci := 0) (C := R_Loom) (T := F_Loom) (N := 10) B 9 rfl rfl (by decide) i_Loom (B.2.2.2.1 _ k_495) rfl (hR.1 _ 9 _ rfl) d_Loom_poke_1 ?_
  refine mv_getR (pc := 4) (ci := 9) (C := R_Machine) (T := F_Machine) (N := 13) B 0 rfl rfl (by decide) i_Machine (B.2.2.2.1 _ k_441) rfl hR.2.2 d_Loom_poke_4 ?_
  refine mv_iload_n (pc := 7) B d_Loom_poke_7 rfl 1 rfl ?_
  refine mv_iload_n (pc := 8) B d_Loom_poke_8 rfl 2 rfl ?_
  refine mv_callVi (pc := 9) (n := 2) (ci := 7) (C := R_Program) B (mK_ok sk sv) hNs.1 rfl rfl (c_Program_has_c l hi _ _ _ hR.2.1 (by omega)) rfl (ma_goodc kc_Program_has) (B.2.2.2.1 _ k_1774) (B.2.2.2.1 _ k_1775) (B.2.2.2.1 _ k_1776) (B.2.2.2.1 _ k_8) ⟨by decide +kernel, by decide +kernel, by decide +kernel⟩ rfl d_Loom_poke_9 rfl (Nat.le_of_ble_eq_true rfl) ⟨by decide, by decide⟩ ⟨by decide, by decide⟩ ⟨by decide, by decide⟩ (mv_noH hno _) (fun v9 σ9 h9 => ?_)
  obtain ⟨e9, z9⟩ := h9
  have e9 := e9.symm
  subst e9
  refine mv_if_ne (pc := 12) (tgt := 23) B d_Loom_poke_12 rfl (fun h12 => ?_) (fun h12 => ?_)
  · skip
    have z8 := z9.resolve_left h12
    obtain ⟨-, z1, z2, z3, z4⟩ := z8
    obtain ⟨tn, etn⟩ : ∃ tn : Nat, t9.toInt = tn := ⟨t9.toInt.toNat, by omega⟩
    have hcl : t9.toNatClampNeg = tn := by rw [Int32.toNatClampNeg, etn]; rfl
    obtain ⟨cw, fw, q1, q2, q3, q4⟩ := hT7 tn (by omega)
    rw [hcl] at z4
    have z5 : fw + i9.toInt < 65600 := by
      rcases z4 with ⟨-, z4⟩ | ⟨-, z4⟩
      · rw [z4]; show (fw : Int) + 0 < 65600; omega
      · rw [q1] at z4; omega
    refine mv_aload_n (pc := 23) B d_Loom_poke_23 rfl 0 rfl ?_
    refine mv_getR (pc := 24) (ci := 0) (C := R_Loom) (T := F_Loom) (N := 10) B 9 rfl rfl (by decide) i_Loom (B.2.2.2.1 _ k_495) rfl (hR.1 _ 9 _ rfl) d_Loom_poke_24 ?_
    refine mv_iload_n (pc := 27) B d_Loom_poke_27 rfl 1 rfl ?_
    refine mv_iload_n (pc := 28) B d_Loom_poke_28 rfl 2 rfl ?_
    refine mv_lload_n (pc := 29) B d_Loom_poke_29 rfl 3 rfl ?_
    refine mv_callVv (pc := 30) (n := 3) (ci := 9) (C := R_Machine) B (mK_ok sk sv) hNs.1 rfl rfl (c_Machine_put_c l hi _ _ _ _ hR th sl hT9 tn etn (by omega) z3 (by rw [q2]; omega) (by rw [q2]; omega)) rfl (ma_goodc kc_Machine_put) (B.2.2.2.1 _ k_1778) (B.2.2.2.1 _ k_1601) (B.2.2.2.1 _ k_1602) (B.2.2.2.1 _ k_11) ⟨by decide +kernel, by decide +kernel, by decide +kernel⟩ rfl d_Loom_poke_30 rfl (Nat.le_of_ble_eq_true rfl) ⟨by decide, by decide⟩ ⟨by decide, by decide⟩ ⟨by decide, by decide⟩ (mv_noH hno _) (fun σ30 h30 => ?_)
    exact mv_vret (pc := 33) B hr d_Loom_poke_33 (Nat.le_of_ble_eq_true rfl) (Nat.le_of_ble_eq_true rfl) (Or.inl ⟨rfl, hC9.fm (h30.up (fun _ _ z => absurd z id) (fun _ z => absurd z id) (fun o z => Or.inl z)), GF.fm (h30.up (fun _ _ z => absurd z id) (fun _ z => absurd z id) (fun o z => Or.inl z))⟩)
  · skip
    exact mv_throw0 (pc := 15) (ik := 131) (ic := 133) B hlt hNs.2.1 (X := "java/util/NoSuchElementException") (by decide +kernel) (B.2.2.2.1 _ k_1751) (B.2.2.2.1 _ k_36) (B.2.2.2.1 _ k_1752) rfl (fun s9 hv9 a9 b9 c9 d9 => have hm9 := mt_ma B.2.2.2.1 hv9; mt_w_nse hm9 (hm9 _ k_1760) a9 b9 c9 d9) d_Loom_poke_15 d_Loom_poke_18 d_Loom_poke_19 d_Loom_poke_22 (mv_noH hno _) ⟨by decide, by decide⟩ ⟨by decide, by decide⟩ ⟨by decide, by decide⟩ (fun a9 => Or.inr ⟨_, a9, rfl, rfl, rfl⟩)
def y_Loom_peek : MethodName := ⟨"MachineLoom", "peek", "(II)J"⟩
abbrev b_Loom_peek : ByteArray := prog_1_method_11_code
theorem kc_Loom_peek : Cond.code y_Loom_peek b_Loom_peek 3 (Option.some Jvm.ClassFile.FieldType.long) ∈ ma := ma_of (tb_8 _ (List.mem_of_getElem? (i := 105) rfl)) rfl
theorem k_443 : (Jvm.Cond.fieldLink "MachineLoom" (148 : Nat) "MachineLoom$Machine" "values" "[J") ∈ ma := ma_of (tb_2 _ (List.mem_of_getElem? (i := 203) rfl)) rfl
theorem k_329 : (Jvm.Cond.fieldLink "MachineLoom" (152 : Nat) "MachineLoom$Program" "firsts" "[I") ∈ ma := ma_of (tb_2 _ (List.mem_of_getElem? (i := 89) rfl)) rfl
theorem d_Loom_peek_0 : decode b_Loom_peek 0 = .ok (.aload_n 0, 1) := by decide +kernel
theorem d_Loom_peek_1 : decode b_Loom_peek 1 = .ok (.getfield 57, 3) := by decide +kernel
theorem d_Loom_peek_4 : decode b_Loom_peek 4 = .ok (.getfield 74, 3) := by decide +kernel
theorem d_Loom_peek_7 : decode b_Loom_peek 7 = .ok (.iload_n 1, 1) := by decide +kernel
theorem d_Loom_peek_8 : decode b_Loom_peek 8 = .ok (.iload_n 2, 1) := by decide +kernel
theorem d_Loom_peek_9 : decode b_Loom_peek 9 = .ok (.invokevirtual 140, 3) := by decide +kernel
theorem d_Loom_peek_12 : decode b_Loom_peek 12 = .ok (.ifCond .ne (11), 3) := by decide +kernel
theorem d_Loom_peek_15 : decode b_Loom_peek 15 = .ok (.new 131, 3) := by decide +kernel
theorem d_Loom_peek_18 : decode b_Loom_peek 18 = .ok (.dup, 1) := by decide +kernel
theorem d_Loom_peek_19 : decode b_Loom_peek 19 = .ok (.invokespecial 133, 3) := by decide +kernel
theorem d_Loom_peek_22 : decode b_Loom_peek 22 = .ok (.athrow, 1) := by decide +kernel
theorem d_Loom_peek_23 : decode b_Loom_peek 23 = .ok (.aload_n 0, 1) := by decide +kernel
theorem d_Loom_peek_24 : decode b_Loom_peek 24 = .ok (.getfield 57, 3) := by decide +kernel
theorem d_Loom_peek_27 : decode b_Loom_peek 27 = .ok (.getfield 148, 3) := by decide +kernel
theorem d_Loom_peek_30 : decode b_Loom_peek 30 = .ok (.aload_n 0, 1) := by decide +kernel
theorem d_Loom_peek_31 : decode b_Loom_peek 31 = .ok (.getfield 57, 3) := by decide +kernel
theorem d_Loom_peek_34 : decode b_Loom_peek 34 = .ok (.getfield 74, 3) := by decide +kernel
theorem d_Loom_peek_37 : decode b_Loom_peek 37 = .ok (.getfield 152, 3) := by decide +kernel
theorem d_Loom_peek_40 : decode b_Loom_peek 40 = .ok (.iload_n 1, 1) := by decide +kernel
theorem d_Loom_peek_41 : decode b_Loom_peek 41 = .ok (.iaload, 1) := by decide +kernel
theorem d_Loom_peek_42 : decode b_Loom_peek 42 = .ok (.iload_n 2, 1) := by decide +kernel
theorem d_Loom_peek_43 : decode b_Loom_peek 43 = .ok (.iadd, 1) := by decide +kernel
theorem d_Loom_peek_44 : decode b_Loom_peek 44 = .ok (.laload, 1) := by decide +kernel
theorem d_Loom_peek_45 : decode b_Loom_peek 45 = .ok (.lreturn, 1) := by decide +kernel
set_option maxHeartbeats 4000000 in
set_option maxRecDepth 100000 in
theorem c_Loom_peek_a (l : Launch) {dA : FieldType → ClassId} {D : va_G} {al : Nat → Nat} {ext : mv_Sh} {sk sv : Nat → Nat} (hi : mv_inj (mg dA D al ext)) (σ : mv_H) (hlt : l.stackTraces = false) (t9 i9 : Int32) (k9 : Nat) (hC : LC ext σ 32 32768 512 k9) : mv_C l y_Loom_peek (Cond.code y_Loom_peek b_Loom_peek 3 (Option.some Jvm.ClassFile.FieldType.long) :: ma) ({ frames := 6, cells := 1, slots := 6, locals := 81 }) (mg dA D al ext) (mKt sk sv) [.ref (al 0), .int t9, .int i9] σ (mv_Tl (fun _ σ1 => σ1 = σ) (fun X σ1 => X = "java/util/NoSuchElementException" ∧ σ1 = σ)) := by
  refine mv_C.ofV (cc := b_Loom_peek) (nL := 3) (ret := (Option.some Jvm.ClassFile.FieldType.long)) (by decide +kernel) rfl hi (Nat.le_of_ble_eq_true rfl) ?_
  intro p e s m below meth c B hNs hr hnm hno
  obtain ⟨hPP, hI, hR, hW, ⟨th, sl, hO, ho0, ho1, ho2⟩, hLS⟩ := hC
  obtain ⟨hT1, hT2, hT3, hT4, hT5, hT6, hT7, hT8⟩ := hO.1
  refine mv_aload_n (pc := 0) B d_Loom_peek_0 rfl 0 rfl ?_
  refine mv_getR (pc := 1) (ci := 0) (C := R_Loom) (T := F_Loom) (N := 10) B 9 rfl rfl (by decide) i_Loom (B.2.2.2.1 _ k_495) rfl (hR.1 _ 9 _ rfl) d_Loom_peek_1 ?_
  refine mv_getR (pc := 4) (ci := 9) (C := R_Machine) (T := F_Machine) (N := 13) B 0 rfl rfl (by decide) i_Machine (B.2.2.2.1 _ k_441) rfl hR.2.2 d_Loom_peek_4 ?_
  refine mv_iload_n (pc := 7) B d_Loom_peek_7 rfl 1 rfl ?_
  refine mv_iload_n (pc := 8) B d_Loom_peek_8 rfl 2 rfl ?_
  refine mv_callVi (pc := 9) (n := 2) (ci := 7) (C := R_Program) B (mK_ok sk sv) hNs.1 rfl rfl (c_Program_has_a l hi _ _ _ hR.2.1 (by omega)) rfl (ma_goodc kc_Program_has) (B.2.2.2.1 _ k_1774) (B.2.2.2.1 _ k_1775) (B.2.2.2.1 _ k_1776) (B.2.2.2.1 _ k_8) ⟨by decide +kernel, by decide +kernel, by decide +kernel⟩ rfl d_Loom_peek_9 rfl (Nat.le_of_ble_eq_true rfl) ⟨by decide, by decide⟩ ⟨by decide, by decide⟩ ⟨by decide, by decide⟩ (mv_noH hno _) (fun v9 σ9 h9 => ?_)
  obtain ⟨e9, z9⟩ := h9
  have e9 := e9.symm
  subst e9
  refine mv_if_ne (pc := 12) (tgt := 23) B d_Loom_peek_12 rfl (fun h12 => ?_) (fun h12 => ?_)
  · skip
    have z8 := z9.resolve_left h12
    obtain ⟨-, z1, z2, z3, z4⟩ := z8
    obtain ⟨tn, etn⟩ : ∃ tn : Nat, t9.toInt = tn := ⟨t9.toInt.toNat, by omega⟩
    have hcl : t9.toNatClampNeg = tn := by rw [Int32.toNatClampNeg, etn]; rfl
    obtain ⟨cw, fw, q1, q2, q3, q4⟩ := hT7 tn (by omega)
    rw [hcl] at z4
    have z5 : fw + i9.toInt < 65600 := by
      rcases z4 with ⟨-, z4⟩ | ⟨-, z4⟩
      · rw [z4]; show (fw : Int) + 0 < 65600; omega
      · rw [q1] at z4; omega
    have q5 : (mv_a σ 35 t9.toNatClampNeg).toInt = fw := by rw [hcl]; exact q2
    refine mv_aload_n (pc := 23) B d_Loom_peek_23 rfl 0 rfl ?_
    refine mv_getR (pc := 24) (ci := 0) (C := R_Loom) (T := F_Loom) (N := 10) B 9 rfl rfl (by decide) i_Loom (B.2.2.2.1 _ k_495) rfl (hR.1 _ 9 _ rfl) d_Loom_peek_24 ?_
    refine mv_getR (pc := 27) (ci := 9) (C := R_Machine) (T := F_Machine) (N := 13) B 1 rfl rfl (by decide) i_Machine (B.2.2.2.1 _ k_443) rfl (hR.1 _ 1 _ rfl) d_Loom_peek_27 ?_
    refine mv_aload_n (pc := 30) B d_Loom_peek_30 rfl 0 rfl ?_
    refine mv_getR (pc := 31) (ci := 0) (C := R_Loom) (T := F_Loom) (N := 10) B 9 rfl rfl (by decide) i_Loom (B.2.2.2.1 _ k_495) rfl (hR.1 _ 9 _ rfl) d_Loom_peek_31 ?_
    refine mv_getR (pc := 34) (ci := 9) (C := R_Machine) (T := F_Machine) (N := 13) B 0 rfl rfl (by decide) i_Machine (B.2.2.2.1 _ k_441) rfl hR.2.2 d_Loom_peek_34 ?_
    refine mv_getR (pc := 37) (ci := 7) (C := R_Program) (T := F_Program) (N := 19) B 4 rfl rfl (by decide) i_Program (B.2.2.2.1 _ k_329) rfl (hR.2.1 _ 4 35 rfl) d_Loom_peek_37 ?_
    refine mv_iload_n (pc := 40) B d_Loom_peek_40 rfl 1 rfl ?_
    refine mv_iald (pc := 41) B rfl (i32_in z1 (show t9.toInt < 64 by omega)) d_Loom_peek_41 ?_
    refine mv_iload_n (pc := 42) B d_Loom_peek_42 rfl 2 rfl ?_
    refine mv_iadd (pc := 43) B d_Loom_peek_43 ?_
    refine mv_topi (fun y43 ey43 => ?_)
    have fy43 := i32_addE ey43 (by (try simp only [Int32.reduceToInt]); omega) (by (try simp only [Int32.reduceToInt]); omega)
    try simp only [Int32.reduceToInt] at fy43
    refine mv_lald (pc := 44) B rfl (i32_in (show 0 ≤ y43.toInt by omega) (show y43.toInt < 65600 by omega)) d_Loom_peek_44 ?_
    exact mv_lret (pc := 45) B hr d_Loom_peek_45 (Nat.le_of_ble_eq_true rfl) (Nat.le_of_ble_eq_true rfl) (Or.inl ⟨_, rfl, rfl⟩)
  · skip
    exact mv_throw0 (pc := 15) (ik := 131) (ic := 133) B hlt hNs.2.1 (X := "java/util/NoSuchElementException") (by decide +kernel) (B.2.2.2.1 _ k_1751) (B.2.2.2.1 _ k_36) (B.2.2.2.1 _ k_1752) rfl (fun s9 hv9 a9 b9 c9 d9 => have hm9 := mt_ma B.2.2.2.1 hv9; mt_w_nse hm9 (hm9 _ k_1760) a9 b9 c9 d9) d_Loom_peek_15 d_Loom_peek_18 d_Loom_peek_19 d_Loom_peek_22 (mv_noH hno _) ⟨by decide, by decide⟩ ⟨by decide, by decide⟩ ⟨by decide, by decide⟩ (fun a9 => Or.inr ⟨_, a9, rfl, rfl, rfl⟩)
set_option maxHeartbeats 4000000 in
set_option maxRecDepth 100000 in
theorem c_Loom_peek_b (l : Launch) {dA : FieldType → ClassId} {D : va_G} {al : Nat → Nat} {ext : mv_Sh} {sk sv : Nat → Nat} (hi : mv_inj (mg dA D al ext)) (σ : mv_H) (hlt : l.stackTraces = false) (t9 i9 : Int32) (k9 : Nat) (hC : LC ext σ 48 32768 512 k9) : mv_C l y_Loom_peek (Cond.code y_Loom_peek b_Loom_peek 3 (Option.some Jvm.ClassFile.FieldType.long) :: ma) ({ frames := 6, cells := 1, slots := 6, locals := 81 }) (mg dA D al ext) (mKt sk sv) [.ref (al 0), .int t9, .int i9] σ (mv_Tl (fun _ σ1 => σ1 = σ) (fun X σ1 => X = "java/util/NoSuchElementException" ∧ σ1 = σ)) := by
  refine mv_C.ofV (cc := b_Loom_peek) (nL := 3) (ret := (Option.some Jvm.ClassFile.FieldType.long)) (by decide +kernel) rfl hi (Nat.le_of_ble_eq_true rfl) ?_
  intro p e s m below meth c B hNs hr hnm hno
  obtain ⟨hPP, hI, hR, hW, ⟨th, sl, hO, ho0, ho1, ho2⟩, hLS⟩ := hC
  obtain ⟨hT1, hT2, hT3, hT4, hT5, hT6, hT7, hT8⟩ := hO.1
  refine mv_aload_n (pc := 0) B d_Loom_peek_0 rfl 0 rfl ?_
  refine mv_getR (pc := 1) (ci := 0) (C := R_Loom) (T := F_Loom) (N := 10) B 9 rfl rfl (by decide) i_Loom (B.2.2.2.1 _ k_495) rfl (hR.1 _ 9 _ rfl) d_Loom_peek_1 ?_
  refine mv_getR (pc := 4) (ci := 9) (C := R_Machine) (T := F_Machine) (N := 13) B 0 rfl rfl (by decide) i_Machine (B.2.2.2.1 _ k_441) rfl hR.2.2 d_Loom_peek_4 ?_
  refine mv_iload_n (pc := 7) B d_Loom_peek_7 rfl 1 rfl ?_
  refine mv_iload_n (pc := 8) B d_Loom_peek_8 rfl 2 rfl ?_
  refine mv_callVi (pc := 9) (n := 2) (ci := 7) (C := R_Program) B (mK_ok sk sv) hNs.1 rfl rfl (c_Program_has_b l hi _ _ _ hR.2.1 (by omega)) rfl (ma_goodc kc_Program_has) (B.2.2.2.1 _ k_1774) (B.2.2.2.1 _ k_1775) (B.2.2.2.1 _ k_1776) (B.2.2.2.1 _ k_8) ⟨by decide +kernel, by decide +kernel, by decide +kernel⟩ rfl d_Loom_peek_9 rfl (Nat.le_of_ble_eq_true rfl) ⟨by decide, by decide⟩ ⟨by decide, by decide⟩ ⟨by decide, by decide⟩ (mv_noH hno _) (fun v9 σ9 h9 => ?_)
  obtain ⟨e9, z9⟩ := h9
  have e9 := e9.symm
  subst e9
  refine mv_if_ne (pc := 12) (tgt := 23) B d_Loom_peek_12 rfl (fun h12 => ?_) (fun h12 => ?_)
  · skip
    have z8 := z9.resolve_left h12
    obtain ⟨-, z1, z2, z3, z4⟩ := z8
    obtain ⟨tn, etn⟩ : ∃ tn : Nat, t9.toInt = tn := ⟨t9.toInt.toNat, by omega⟩
    have hcl : t9.toNatClampNeg = tn := by rw [Int32.toNatClampNeg, etn]; rfl
    obtain ⟨cw, fw, q1, q2, q3, q4⟩ := hT7 tn (by omega)
    rw [hcl] at z4
    have z5 : fw + i9.toInt < 65600 := by
      rcases z4 with ⟨-, z4⟩ | ⟨-, z4⟩
      · rw [z4]; show (fw : Int) + 0 < 65600; omega
      · rw [q1] at z4; omega
    have q5 : (mv_a σ 51 t9.toNatClampNeg).toInt = fw := by rw [hcl]; exact q2
    refine mv_aload_n (pc := 23) B d_Loom_peek_23 rfl 0 rfl ?_
    refine mv_getR (pc := 24) (ci := 0) (C := R_Loom) (T := F_Loom) (N := 10) B 9 rfl rfl (by decide) i_Loom (B.2.2.2.1 _ k_495) rfl (hR.1 _ 9 _ rfl) d_Loom_peek_24 ?_
    refine mv_getR (pc := 27) (ci := 9) (C := R_Machine) (T := F_Machine) (N := 13) B 1 rfl rfl (by decide) i_Machine (B.2.2.2.1 _ k_443) rfl (hR.1 _ 1 _ rfl) d_Loom_peek_27 ?_
    refine mv_aload_n (pc := 30) B d_Loom_peek_30 rfl 0 rfl ?_
    refine mv_getR (pc := 31) (ci := 0) (C := R_Loom) (T := F_Loom) (N := 10) B 9 rfl rfl (by decide) i_Loom (B.2.2.2.1 _ k_495) rfl (hR.1 _ 9 _ rfl) d_Loom_peek_31 ?_
    refine mv_getR (pc := 34) (ci := 9) (C := R_Machine) (T := F_Machine) (N := 13) B 0 rfl rfl (by decide) i_Machine (B.2.2.2.1 _ k_441) rfl hR.2.2 d_Loom_peek_34 ?_
    refine mv_getR (pc := 37) (ci := 7) (C := R_Program) (T := F_Program) (N := 19) B 4 rfl rfl (by decide) i_Program (B.2.2.2.1 _ k_329) rfl (hR.2.1 _ 4 51 rfl) d_Loom_peek_37 ?_
    refine mv_iload_n (pc := 40) B d_Loom_peek_40 rfl 1 rfl ?_
    refine mv_iald (pc := 41) B rfl (i32_in z1 (show t9.toInt < 64 by omega)) d_Loom_peek_41 ?_
    refine mv_iload_n (pc := 42) B d_Loom_peek_42 rfl 2 rfl ?_
    refine mv_iadd (pc := 43) B d_Loom_peek_43 ?_
    refine mv_topi (fun y43 ey43 => ?_)
    have fy43 := i32_addE ey43 (by (try simp only [Int32.reduceToInt]); omega) (by (try simp only [Int32.reduceToInt]); omega)
    try simp only [Int32.reduceToInt] at fy43
    refine mv_lald (pc := 44) B rfl (i32_in (show 0 ≤ y43.toInt by omega) (show y43.toInt < 65600 by omega)) d_Loom_peek_44 ?_
    exact mv_lret (pc := 45) B hr d_Loom_peek_45 (Nat.le_of_ble_eq_true rfl) (Nat.le_of_ble_eq_true rfl) (Or.inl ⟨_, rfl, rfl⟩)
  · skip
    exact mv_throw0 (pc := 15) (ik := 131) (ic := 133) B hlt hNs.2.1 (X := "java/util/NoSuchElementException") (by decide +kernel) (B.2.2.2.1 _ k_1751) (B.2.2.2.1 _ k_36) (B.2.2.2.1 _ k_1752) rfl (fun s9 hv9 a9 b9 c9 d9 => have hm9 := mt_ma B.2.2.2.1 hv9; mt_w_nse hm9 (hm9 _ k_1760) a9 b9 c9 d9) d_Loom_peek_15 d_Loom_peek_18 d_Loom_peek_19 d_Loom_peek_22 (mv_noH hno _) ⟨by decide, by decide⟩ ⟨by decide, by decide⟩ ⟨by decide, by decide⟩ (fun a9 => Or.inr ⟨_, a9, rfl, rfl, rfl⟩)
set_option maxHeartbeats 4000000 in
set_option maxRecDepth 100000 in
theorem c_Loom_peek_c (l : Launch) {dA : FieldType → ClassId} {D : va_G} {al : Nat → Nat} {sk sv : Nat → Nat} (hi : mv_inj (mg dA D al me)) (σ : mv_H) (hlt : l.stackTraces = false) (t9 i9 : Int32) (k9 : Nat) (hC : LC me σ 145 8192 48 k9) : mv_C l y_Loom_peek (Cond.code y_Loom_peek b_Loom_peek 3 (Option.some Jvm.ClassFile.FieldType.long) :: ma) ({ frames := 6, cells := 1, slots := 6, locals := 81 }) (mg dA D al me) (mKt sk sv) [.ref (al 0), .int t9, .int i9] σ (mv_Tl (fun _ σ1 => σ1 = σ) (fun X σ1 => X = "java/util/NoSuchElementException" ∧ σ1 = σ)) := by
  refine mv_C.ofV (cc := b_Loom_peek) (nL := 3) (ret := (Option.some Jvm.ClassFile.FieldType.long)) (by decide +kernel) rfl hi (Nat.le_of_ble_eq_true rfl) ?_
  intro p e s m below meth c B hNs hr hnm hno
  obtain ⟨hPP, hI, hR, hW, ⟨th, sl, hO, ho0, ho1, ho2⟩, hLS⟩ := hC
  obtain ⟨hT1, hT2, hT3, hT4, hT5, hT6, hT7, hT8⟩ := hO.1
  refine mv_aload_n (pc := 0) B d_Loom_peek_0 rfl 0 rfl ?_
  refine mv_getR (pc := 1) (ci := 0) (C := R_Loom) (T := F_Loom) (N := 10) B 9 rfl rfl (by decide) i_Loom (B.2.2.2.1 _ k_495) rfl (hR.1 _ 9 _ rfl) d_Loom_peek_1 ?_
  refine mv_getR (pc := 4) (ci := 9) (C := R_Machine) (T := F_Machine) (N := 13) B 0 rfl rfl (by decide) i_Machine (B.2.2.2.1 _ k_441) rfl hR.2.2 d_Loom_peek_4 ?_
  refine mv_iload_n (pc := 7) B d_Loom_peek_7 rfl 1 rfl ?_
  refine mv_iload_n (pc := 8) B d_Loom_peek_8 rfl 2 rfl ?_
  refine mv_callVi (pc := 9) (n := 2) (ci := 7) (C := R_Program) B (mK_ok sk sv) hNs.1 rfl rfl (c_Program_has_c l hi _ _ _ hR.2.1 (by omega)) rfl (ma_goodc kc_Program_has) (B.2.2.2.1 _ k_1774) (B.2.2.2.1 _ k_1775) (B.2.2.2.1 _ k_1776) (B.2.2.2.1 _ k_8) ⟨by decide +kernel, by decide +kernel, by decide +kernel⟩ rfl d_Loom_peek_9 rfl (Nat.le_of_ble_eq_true rfl) ⟨by decide, by decide⟩ ⟨by decide, by decide⟩ ⟨by decide, by decide⟩ (mv_noH hno _) (fun v9 σ9 h9 => ?_)
  obtain ⟨e9, z9⟩ := h9
  have e9 := e9.symm
  subst e9
  refine mv_if_ne (pc := 12) (tgt := 23) B d_Loom_peek_12 rfl (fun h12 => ?_) (fun h12 => ?_)
  · skip
    have z8 := z9.resolve_left h12
    obtain ⟨-, z1, z2, z3, z4⟩ := z8
    obtain ⟨tn, etn⟩ : ∃ tn : Nat, t9.toInt = tn := ⟨t9.toInt.toNat, by omega⟩
    have hcl : t9.toNatClampNeg = tn := by rw [Int32.toNatClampNeg, etn]; rfl
    obtain ⟨cw, fw, q1, q2, q3, q4⟩ := hT7 tn (by omega)
    rw [hcl] at z4
    have z5 : fw + i9.toInt < 65600 := by
      rcases z4 with ⟨-, z4⟩ | ⟨-, z4⟩
      · rw [z4]; show (fw : Int) + 0 < 65600; omega
      · rw [q1] at z4; omega
    have q5 : (mv_a σ 148 t9.toNatClampNeg).toInt = fw := by rw [hcl]; exact q2
    refine mv_aload_n (pc := 23) B d_Loom_peek_23 rfl 0 rfl ?_
    refine mv_getR (pc := 24) (ci := 0) (C := R_Loom) (T := F_Loom) (N := 10) B 9 rfl rfl (by decide) i_Loom (B.2.2.2.1 _ k_495) rfl (hR.1 _ 9 _ rfl) d_Loom_peek_24 ?_
    refine mv_getR (pc := 27) (ci := 9) (C := R_Machine) (T := F_Machine) (N := 13) B 1 rfl rfl (by decide) i_Machine (B.2.2.2.1 _ k_443) rfl (hR.1 _ 1 _ rfl) d_Loom_peek_27 ?_
    refine mv_aload_n (pc := 30) B d_Loom_peek_30 rfl 0 rfl ?_
    refine mv_getR (pc := 31) (ci := 0) (C := R_Loom) (T := F_Loom) (N := 10) B 9 rfl rfl (by decide) i_Loom (B.2.2.2.1 _ k_495) rfl (hR.1 _ 9 _ rfl) d_Loom_peek_31 ?_
    refine mv_getR (pc := 34) (ci := 9) (C := R_Machine) (T := F_Machine) (N := 13) B 0 rfl rfl (by decide) i_Machine (B.2.2.2.1 _ k_441) rfl hR.2.2 d_Loom_peek_34 ?_
    refine mv_getR (pc := 37) (ci := 7) (C := R_Program) (T := F_Program) (N := 19) B 4 rfl rfl (by decide) i_Program (B.2.2.2.1 _ k_329) rfl (hR.2.1 _ 4 148 rfl) d_Loom_peek_37 ?_
    refine mv_iload_n (pc := 40) B d_Loom_peek_40 rfl 1 rfl ?_
    refine mv_iald (pc := 41) B rfl (i32_in z1 (show t9.toInt < 64 by omega)) d_Loom_peek_41 ?_
    refine mv_iload_n (pc := 42) B d_Loom_peek_42 rfl 2 rfl ?_
    refine mv_iadd (pc := 43) B d_Loom_peek_43 ?_
    refine mv_topi (fun y43 ey43 => ?_)
    have fy43 := i32_addE ey43 (by (try simp only [Int32.reduceToInt]); omega) (by (try simp only [Int32.reduceToInt]); omega)
    try simp only [Int32.reduceToInt] at fy43
    refine mv_lald (pc := 44) B rfl (i32_in (show 0 ≤ y43.toInt by omega) (show y43.toInt < 65600 by omega)) d_Loom_peek_44 ?_
    exact mv_lret (pc := 45) B hr d_Loom_peek_45 (Nat.le_of_ble_eq_true rfl) (Nat.le_of_ble_eq_true rfl) (Or.inl ⟨_, rfl, rfl⟩)
  · skip
    exact mv_throw0 (pc := 15) (ik := 131) (ic := 133) B hlt hNs.2.1 (X := "java/util/NoSuchElementException") (by decide +kernel) (B.2.2.2.1 _ k_1751) (B.2.2.2.1 _ k_36) (B.2.2.2.1 _ k_1752) rfl (fun s9 hv9 a9 b9 c9 d9 => have hm9 := mt_ma B.2.2.2.1 hv9; mt_w_nse hm9 (hm9 _ k_1760) a9 b9 c9 d9) d_Loom_peek_15 d_Loom_peek_18 d_Loom_peek_19 d_Loom_peek_22 (mv_noH hno _) ⟨by decide, by decide⟩ ⟨by decide, by decide⟩ ⟨by decide, by decide⟩ (fun a9 => Or.inr ⟨_, a9, rfl, rfl, rfl⟩)
def y_Loom_run : MethodName := ⟨"MachineLoom", "run", "(I)I"⟩
abbrev b_Loom_run : ByteArray := prog_1_method_13_code
theorem kc_Loom_run : Cond.code y_Loom_run b_Loom_run 2 (Option.some Jvm.ClassFile.FieldType.int) ∈ ma := ma_of (tb_8 _ (List.mem_of_getElem? (i := 112) rfl)) rfl
theorem k_343 : (Jvm.Cond.fieldLink "MachineLoom" (163 : Nat) "MachineLoom$Program" "fetchFile" "I") ∈ ma := ma_of (tb_2 _ (List.mem_of_getElem? (i := 103) rfl)) rfl
theorem k_1793 : (Jvm.Cond.methodLink "MachineLoom" (166 : Nat) ({ cls := "MachineLoom$Machine", name := "many", desc := "(I)I" } : Jvm.MethodName)) ∈ ma := ma_of (tb_8 _ (List.mem_of_getElem? (i := 113) rfl)) rfl
theorem k_1794 : (Jvm.Cond.instanceMethod ({ cls := "MachineLoom$Machine", name := "many", desc := "(I)I" } : Jvm.MethodName)) ∈ ma := ma_of (tb_8 _ (List.mem_of_getElem? (i := 114) rfl)) rfl
theorem k_1795 : (Jvm.Cond.selects "MachineLoom$Machine" ({ cls := "MachineLoom$Machine", name := "many", desc := "(I)I" } : Jvm.MethodName) ({ cls := "MachineLoom$Machine", name := "many", desc := "(I)I" } : Jvm.MethodName)) ∈ ma := ma_of (tb_8 _ (List.mem_of_getElem? (i := 115) rfl)) rfl
theorem k_1717 : (Jvm.Cond.classLink "MachineLoom" (99 : Nat) "java/lang/IllegalStateException") ∈ ma := ma_of (tb_8 _ (List.mem_of_getElem? (i := 37) rfl)) rfl
theorem k_34 : (Jvm.Cond.initialized "java/lang/IllegalStateException") ∈ ma := ma_of (tb_1 _ (List.mem_of_getElem? (i := 34) rfl)) rfl
theorem k_1726 : (Jvm.Cond.methodLink "MachineLoom" (101 : Nat) ({ cls := "java/lang/IllegalStateException", name := "<init>", desc := "()V" } : Jvm.MethodName)) ∈ ma := ma_of (tb_8 _ (List.mem_of_getElem? (i := 46) rfl)) rfl
theorem d_Loom_run_0 : decode b_Loom_run 0 = .ok (.iload_n 1, 1) := by decide +kernel
theorem d_Loom_run_1 : decode b_Loom_run 1 = .ok (.iconst 1, 1) := by decide +kernel
theorem d_Loom_run_2 : decode b_Loom_run 2 = .ok (.if_icmp .lt (10), 3) := by decide +kernel
theorem d_Loom_run_5 : decode b_Loom_run 5 = .ok (.iload_n 1, 1) := by decide +kernel
theorem d_Loom_run_6 : decode b_Loom_run 6 = .ok (.sipush 500, 3) := by decide +kernel
theorem d_Loom_run_9 : decode b_Loom_run 9 = .ok (.if_icmp .le (11), 3) := by decide +kernel
theorem d_Loom_run_12 : decode b_Loom_run 12 = .ok (.new 71, 3) := by decide +kernel
theorem d_Loom_run_15 : decode b_Loom_run 15 = .ok (.dup, 1) := by decide +kernel
theorem d_Loom_run_16 : decode b_Loom_run 16 = .ok (.invokespecial 73, 3) := by decide +kernel
theorem d_Loom_run_19 : decode b_Loom_run 19 = .ok (.athrow, 1) := by decide +kernel
theorem d_Loom_run_20 : decode b_Loom_run 20 = .ok (.aload_n 0, 1) := by decide +kernel
theorem d_Loom_run_21 : decode b_Loom_run 21 = .ok (.getfield 57, 3) := by decide +kernel
theorem d_Loom_run_24 : decode b_Loom_run 24 = .ok (.getfield 74, 3) := by decide +kernel
theorem d_Loom_run_27 : decode b_Loom_run 27 = .ok (.getfield 163, 3) := by decide +kernel
theorem d_Loom_run_30 : decode b_Loom_run 30 = .ok (.ifCond .ge (11), 3) := by decide +kernel
theorem d_Loom_run_33 : decode b_Loom_run 33 = .ok (.new 99, 3) := by decide +kernel
theorem d_Loom_run_36 : decode b_Loom_run 36 = .ok (.dup, 1) := by decide +kernel
theorem d_Loom_run_37 : decode b_Loom_run 37 = .ok (.invokespecial 101, 3) := by decide +kernel
theorem d_Loom_run_40 : decode b_Loom_run 40 = .ok (.athrow, 1) := by decide +kernel
theorem d_Loom_run_41 : decode b_Loom_run 41 = .ok (.aload_n 0, 1) := by decide +kernel
theorem d_Loom_run_42 : decode b_Loom_run 42 = .ok (.getfield 57, 3) := by decide +kernel
theorem d_Loom_run_45 : decode b_Loom_run 45 = .ok (.iload_n 1, 1) := by decide +kernel
theorem d_Loom_run_46 : decode b_Loom_run 46 = .ok (.invokevirtual 166, 3) := by decide +kernel
theorem d_Loom_run_49 : decode b_Loom_run 49 = .ok (.ireturn, 1) := by decide +kernel
set_option maxHeartbeats 4000000 in
set_option maxRecDepth 100000 in
theorem c_Loom_run_a (l : Launch) {dA : FieldType → ClassId} {D : va_G} {al : Nat → Nat} {ext : mv_Sh} {sk sv : Nat → Nat} (hi : mv_inj (mg dA D al ext)) (σ : mv_H) (hlt : l.stackTraces = false) (n9 : Int32) (k9 : Nat) (hC : LC ext σ 32 32768 512 k9) : mv_C l y_Loom_run (Cond.code y_Loom_run b_Loom_run 2 (Option.some Jvm.ClassFile.FieldType.int) :: ma) ({ frames := 7, cells := 1, slots := 6, locals := 178 }) (mg dA D al ext) (mKt sk sv) [.ref (al 0), .int n9] σ (mv_Ti (fun _ σ1 => LC ext σ1 32 32768 512 k9 ∧ GF σ σ1) (fun X σ1 => (X = "java/lang/IllegalArgumentException" ∨ X = "java/lang/IllegalStateException") ∧ σ1 = σ)) := by
  refine mv_C.ofV (cc := b_Loom_run) (nL := 2) (ret := (Option.some Jvm.ClassFile.FieldType.int)) (by decide +kernel) rfl hi (Nat.le_of_ble_eq_true rfl) ?_
  intro p e s m below meth c B hNs hr hnm hno
  have hC9 := hC
  obtain ⟨hPP, hI, hR, hW, ⟨th, sl, hO, ho0, ho1, ho2⟩, hLS⟩ := hC
  refine mv_iload_n (pc := 0) B d_Loom_run_0 rfl 1 rfl ?_
  refine mv_iconst (pc := 1) (v := 1) B d_Loom_run_1 (by decide) ?_
  refine mv_icmp_lt (pc := 2) (tgt := 12) B d_Loom_run_2 rfl (fun h2 => ?_) (fun h2 => ?_)
  · skip
    exact mv_throw0 (pc := 12) (ik := 71) (ic := 73) B hlt hNs.2.1 (X := "java/lang/IllegalArgumentException") (by decide +kernel) (B.2.2.2.1 _ k_1704) (B.2.2.2.1 _ k_19) (B.2.2.2.1 _ k_955) rfl (fun s9 hv9 a9 b9 c9 d9 => have hm9 := mt_ma B.2.2.2.1 hv9; mt_w_iae hm9 (hm9 _ k_1705) a9 b9 c9 d9) d_Loom_run_12 d_Loom_run_15 d_Loom_run_16 d_Loom_run_19 (mv_noH hno _) ⟨by decide, by decide⟩ ⟨by decide, by decide⟩ ⟨by decide, by decide⟩ (fun a9 => Or.inr ⟨_, a9, rfl, Or.inl rfl, rfl⟩)
  · skip
    refine mv_iload_n (pc := 5) B d_Loom_run_5 rfl 1 rfl ?_
    refine mv_sipush (pc := 6) (v := 500) B d_Loom_run_6 (by decide) ?_
    refine mv_icmp_le (pc := 9) (tgt := 20) B d_Loom_run_9 rfl (fun h9 => ?_) (fun h9 => ?_)
    · skip
      refine mv_aload_n (pc := 20) B d_Loom_run_20 rfl 0 rfl ?_
      refine mv_getR (pc := 21) (ci := 0) (C := R_Loom) (T := F_Loom) (N := 10) B 9 rfl rfl (by decide) i_Loom (B.2.2.2.1 _ k_495) rfl (hR.1 _ 9 _ rfl) d_Loom_run_21 ?_
      refine mv_getR (pc := 24) (ci := 9) (C := R_Machine) (T := F_Machine) (N := 13) B 0 rfl rfl (by decide) i_Machine (B.2.2.2.1 _ k_441) rfl hR.2.2 d_Loom_run_24 ?_
      refine mv_getI (pc := 27) (ci := 7) (C := R_Program) (T := F_Program) (N := 19) B 9 rfl rfl (by decide) i_Program (B.2.2.2.1 _ k_343) rfl d_Loom_run_27 ?_
      refine mv_if_ge (pc := 30) (tgt := 41) B d_Loom_run_30 rfl (fun h30 => ?_) (fun h30 => ?_)
      · skip
        refine mv_aload_n (pc := 41) B d_Loom_run_41 rfl 0 rfl ?_
        refine mv_getR (pc := 42) (ci := 0) (C := R_Loom) (T := F_Loom) (N := 10) B 9 rfl rfl (by decide) i_Loom (B.2.2.2.1 _ k_495) rfl (hR.1 _ 9 _ rfl) d_Loom_run_42 ?_
        refine mv_iload_n (pc := 45) B d_Loom_run_45 rfl 1 rfl ?_
        refine mv_callVi (pc := 46) (n := 1) (ci := 9) (C := R_Machine) B (mK_ok sk sv) hNs.1 rfl rfl (c_Machine_many_a l hi _ _ hR th sl hO (by have z := Int32.le_iff_toInt_le.mp h9; simpa using z) (by have z := Int32.le_iff_toInt_le.mp h30; simpa using z)) rfl (ma_goodc kc_Machine_many) (B.2.2.2.1 _ k_1793) (B.2.2.2.1 _ k_1794) (B.2.2.2.1 _ k_1795) (B.2.2.2.1 _ k_11) ⟨by decide +kernel, by decide +kernel, by decide +kernel⟩ rfl d_Loom_run_46 rfl (Nat.le_of_ble_eq_true rfl) ⟨by decide, by decide⟩ ⟨by decide, by decide⟩ ⟨by decide, by decide⟩ (mv_noH hno _) (fun v46 σ46 h46 => ?_)
        exact mv_iret (pc := 49) B hr rfl d_Loom_run_49 (Nat.le_of_ble_eq_true rfl) (Nat.le_of_ble_eq_true rfl) (Or.inl ⟨_, rfl, hC9.fm h46, GF.fm h46⟩)
      · skip
        exact mv_throw0 (pc := 33) (ik := 99) (ic := 101) B hlt hNs.2.1 (X := "java/lang/IllegalStateException") (by decide +kernel) (B.2.2.2.1 _ k_1717) (B.2.2.2.1 _ k_34) (B.2.2.2.1 _ k_1718) rfl (fun s9 hv9 a9 b9 c9 d9 => have hm9 := mt_ma B.2.2.2.1 hv9; mt_w_ise hm9 (hm9 _ k_1726) a9 b9 c9 d9) d_Loom_run_33 d_Loom_run_36 d_Loom_run_37 d_Loom_run_40 (mv_noH hno _) ⟨by decide, by decide⟩ ⟨by decide, by decide⟩ ⟨by decide, by decide⟩ (fun a9 => Or.inr ⟨_, a9, rfl, Or.inr rfl, rfl⟩)
    · skip
      exact mv_throw0 (pc := 12) (ik := 71) (ic := 73) B hlt hNs.2.1 (X := "java/lang/IllegalArgumentException") (by decide +kernel) (B.2.2.2.1 _ k_1704) (B.2.2.2.1 _ k_19) (B.2.2.2.1 _ k_955) rfl (fun s9 hv9 a9 b9 c9 d9 => have hm9 := mt_ma B.2.2.2.1 hv9; mt_w_iae hm9 (hm9 _ k_1705) a9 b9 c9 d9) d_Loom_run_12 d_Loom_run_15 d_Loom_run_16 d_Loom_run_19 (mv_noH hno _) ⟨by decide, by decide⟩ ⟨by decide, by decide⟩ ⟨by decide, by decide⟩ (fun a9 => Or.inr ⟨_, a9, rfl, Or.inl rfl, rfl⟩)
set_option maxHeartbeats 4000000 in
set_option maxRecDepth 100000 in
theorem c_Loom_run_b (l : Launch) {dA : FieldType → ClassId} {D : va_G} {al : Nat → Nat} {ext : mv_Sh} {sk sv : Nat → Nat} (hi : mv_inj (mg dA D al ext)) (σ : mv_H) (hlt : l.stackTraces = false) (n9 : Int32) (k9 : Nat) (hC : LC ext σ 48 32768 512 k9) : mv_C l y_Loom_run (Cond.code y_Loom_run b_Loom_run 2 (Option.some Jvm.ClassFile.FieldType.int) :: ma) ({ frames := 7, cells := 1, slots := 6, locals := 178 }) (mg dA D al ext) (mKt sk sv) [.ref (al 0), .int n9] σ (mv_Ti (fun _ σ1 => LC ext σ1 48 32768 512 k9 ∧ GF σ σ1) (fun X σ1 => (X = "java/lang/IllegalArgumentException" ∨ X = "java/lang/IllegalStateException") ∧ σ1 = σ)) := by
  refine mv_C.ofV (cc := b_Loom_run) (nL := 2) (ret := (Option.some Jvm.ClassFile.FieldType.int)) (by decide +kernel) rfl hi (Nat.le_of_ble_eq_true rfl) ?_
  intro p e s m below meth c B hNs hr hnm hno
  have hC9 := hC
  obtain ⟨hPP, hI, hR, hW, ⟨th, sl, hO, ho0, ho1, ho2⟩, hLS⟩ := hC
  refine mv_iload_n (pc := 0) B d_Loom_run_0 rfl 1 rfl ?_
  refine mv_iconst (pc := 1) (v := 1) B d_Loom_run_1 (by decide) ?_
  refine mv_icmp_lt (pc := 2) (tgt := 12) B d_Loom_run_2 rfl (fun h2 => ?_) (fun h2 => ?_)
  · skip
    exact mv_throw0 (pc := 12) (ik := 71) (ic := 73) B hlt hNs.2.1 (X := "java/lang/IllegalArgumentException") (by decide +kernel) (B.2.2.2.1 _ k_1704) (B.2.2.2.1 _ k_19) (B.2.2.2.1 _ k_955) rfl (fun s9 hv9 a9 b9 c9 d9 => have hm9 := mt_ma B.2.2.2.1 hv9; mt_w_iae hm9 (hm9 _ k_1705) a9 b9 c9 d9) d_Loom_run_12 d_Loom_run_15 d_Loom_run_16 d_Loom_run_19 (mv_noH hno _) ⟨by decide, by decide⟩ ⟨by decide, by decide⟩ ⟨by decide, by decide⟩ (fun a9 => Or.inr ⟨_, a9, rfl, Or.inl rfl, rfl⟩)
  · skip
    refine mv_iload_n (pc := 5) B d_Loom_run_5 rfl 1 rfl ?_
    refine mv_sipush (pc := 6) (v := 500) B d_Loom_run_6 (by decide) ?_
    refine mv_icmp_le (pc := 9) (tgt := 20) B d_Loom_run_9 rfl (fun h9 => ?_) (fun h9 => ?_)
    · skip
      refine mv_aload_n (pc := 20) B d_Loom_run_20 rfl 0 rfl ?_
      refine mv_getR (pc := 21) (ci := 0) (C := R_Loom) (T := F_Loom) (N := 10) B 9 rfl rfl (by decide) i_Loom (B.2.2.2.1 _ k_495) rfl (hR.1 _ 9 _ rfl) d_Loom_run_21 ?_
      refine mv_getR (pc := 24) (ci := 9) (C := R_Machine) (T := F_Machine) (N := 13) B 0 rfl rfl (by decide) i_Machine (B.2.2.2.1 _ k_441) rfl hR.2.2 d_Loom_run_24 ?_
      refine mv_getI (pc := 27) (ci := 7) (C := R_Program) (T := F_Program) (N := 19) B 9 rfl rfl (by decide) i_Program (B.2.2.2.1 _ k_343) rfl d_Loom_run_27 ?_
      refine mv_if_ge (pc := 30) (tgt := 41) B d_Loom_run_30 rfl (fun h30 => ?_) (fun h30 => ?_)
      · skip
        refine mv_aload_n (pc := 41) B d_Loom_run_41 rfl 0 rfl ?_
        refine mv_getR (pc := 42) (ci := 0) (C := R_Loom) (T := F_Loom) (N := 10) B 9 rfl rfl (by decide) i_Loom (B.2.2.2.1 _ k_495) rfl (hR.1 _ 9 _ rfl) d_Loom_run_42 ?_
        refine mv_iload_n (pc := 45) B d_Loom_run_45 rfl 1 rfl ?_
        refine mv_callVi (pc := 46) (n := 1) (ci := 9) (C := R_Machine) B (mK_ok sk sv) hNs.1 rfl rfl (c_Machine_many_b l hi _ _ hR th sl hO (by have z := Int32.le_iff_toInt_le.mp h9; simpa using z) (by have z := Int32.le_iff_toInt_le.mp h30; simpa using z)) rfl (ma_goodc kc_Machine_many) (B.2.2.2.1 _ k_1793) (B.2.2.2.1 _ k_1794) (B.2.2.2.1 _ k_1795) (B.2.2.2.1 _ k_11) ⟨by decide +kernel, by decide +kernel, by decide +kernel⟩ rfl d_Loom_run_46 rfl (Nat.le_of_ble_eq_true rfl) ⟨by decide, by decide⟩ ⟨by decide, by decide⟩ ⟨by decide, by decide⟩ (mv_noH hno _) (fun v46 σ46 h46 => ?_)
        exact mv_iret (pc := 49) B hr rfl d_Loom_run_49 (Nat.le_of_ble_eq_true rfl) (Nat.le_of_ble_eq_true rfl) (Or.inl ⟨_, rfl, hC9.fm h46, GF.fm h46⟩)
      · skip
        exact mv_throw0 (pc := 33) (ik := 99) (ic := 101) B hlt hNs.2.1 (X := "java/lang/IllegalStateException") (by decide +kernel) (B.2.2.2.1 _ k_1717) (B.2.2.2.1 _ k_34) (B.2.2.2.1 _ k_1718) rfl (fun s9 hv9 a9 b9 c9 d9 => have hm9 := mt_ma B.2.2.2.1 hv9; mt_w_ise hm9 (hm9 _ k_1726) a9 b9 c9 d9) d_Loom_run_33 d_Loom_run_36 d_Loom_run_37 d_Loom_run_40 (mv_noH hno _) ⟨by decide, by decide⟩ ⟨by decide, by decide⟩ ⟨by decide, by decide⟩ (fun a9 => Or.inr ⟨_, a9, rfl, Or.inr rfl, rfl⟩)
    · skip
      exact mv_throw0 (pc := 12) (ik := 71) (ic := 73) B hlt hNs.2.1 (X := "java/lang/IllegalArgumentException") (by decide +kernel) (B.2.2.2.1 _ k_1704) (B.2.2.2.1 _ k_19) (B.2.2.2.1 _ k_955) rfl (fun s9 hv9 a9 b9 c9 d9 => have hm9 := mt_ma B.2.2.2.1 hv9; mt_w_iae hm9 (hm9 _ k_1705) a9 b9 c9 d9) d_Loom_run_12 d_Loom_run_15 d_Loom_run_16 d_Loom_run_19 (mv_noH hno _) ⟨by decide, by decide⟩ ⟨by decide, by decide⟩ ⟨by decide, by decide⟩ (fun a9 => Or.inr ⟨_, a9, rfl, Or.inl rfl, rfl⟩)
set_option maxHeartbeats 4000000 in
set_option maxRecDepth 100000 in
theorem c_Loom_run_c (l : Launch) {dA : FieldType → ClassId} {D : va_G} {al : Nat → Nat} {sk sv : Nat → Nat} (hi : mv_inj (mg dA D al me)) (σ : mv_H) (hlt : l.stackTraces = false) (n9 : Int32) (k9 : Nat) (hC : LC me σ 145 8192 48 k9) : mv_C l y_Loom_run (Cond.code y_Loom_run b_Loom_run 2 (Option.some Jvm.ClassFile.FieldType.int) :: ma) ({ frames := 7, cells := 1, slots := 6, locals := 178 }) (mg dA D al me) (mKt sk sv) [.ref (al 0), .int n9] σ (mv_Ti (fun _ σ1 => LC me σ1 145 8192 48 k9 ∧ GF σ σ1) (fun X σ1 => (X = "java/lang/IllegalArgumentException" ∨ X = "java/lang/IllegalStateException") ∧ σ1 = σ)) := by
  refine mv_C.ofV (cc := b_Loom_run) (nL := 2) (ret := (Option.some Jvm.ClassFile.FieldType.int)) (by decide +kernel) rfl hi (Nat.le_of_ble_eq_true rfl) ?_
  intro p e s m below meth c B hNs hr hnm hno
  have hC9 := hC
  obtain ⟨hPP, hI, hR, hW, ⟨th, sl, hO, ho0, ho1, ho2⟩, hLS⟩ := hC
  refine mv_iload_n (pc := 0) B d_Loom_run_0 rfl 1 rfl ?_
  refine mv_iconst (pc := 1) (v := 1) B d_Loom_run_1 (by decide) ?_
  refine mv_icmp_lt (pc := 2) (tgt := 12) B d_Loom_run_2 rfl (fun h2 => ?_) (fun h2 => ?_)
  · skip
    exact mv_throw0 (pc := 12) (ik := 71) (ic := 73) B hlt hNs.2.1 (X := "java/lang/IllegalArgumentException") (by decide +kernel) (B.2.2.2.1 _ k_1704) (B.2.2.2.1 _ k_19) (B.2.2.2.1 _ k_955) rfl (fun s9 hv9 a9 b9 c9 d9 => have hm9 := mt_ma B.2.2.2.1 hv9; mt_w_iae hm9 (hm9 _ k_1705) a9 b9 c9 d9) d_Loom_run_12 d_Loom_run_15 d_Loom_run_16 d_Loom_run_19 (mv_noH hno _) ⟨by decide, by decide⟩ ⟨by decide, by decide⟩ ⟨by decide, by decide⟩ (fun a9 => Or.inr ⟨_, a9, rfl, Or.inl rfl, rfl⟩)
  · skip
    refine mv_iload_n (pc := 5) B d_Loom_run_5 rfl 1 rfl ?_
    refine mv_sipush (pc := 6) (v := 500) B d_Loom_run_6 (by decide) ?_
    refine mv_icmp_le (pc := 9) (tgt := 20) B d_Loom_run_9 rfl (fun h9 => ?_) (fun h9 => ?_)
    · skip
      refine mv_aload_n (pc := 20) B d_Loom_run_20 rfl 0 rfl ?_
      refine mv_getR (pc := 21) (ci := 0) (C := R_Loom) (T := F_Loom) (N := 10) B 9 rfl rfl (by decide) i_Loom (B.2.2.2.1 _ k_495) rfl (hR.1 _ 9 _ rfl) d_Loom_run_21 ?_
      refine mv_getR (pc := 24) (ci := 9) (C := R_Machine) (T := F_Machine) (N := 13) B 0 rfl rfl (by decide) i_Machine (B.2.2.2.1 _ k_441) rfl hR.2.2 d_Loom_run_24 ?_
      refine mv_getI (pc := 27) (ci := 7) (C := R_Program) (T := F_Program) (N := 19) B 9 rfl rfl (by decide) i_Program (B.2.2.2.1 _ k_343) rfl d_Loom_run_27 ?_
      refine mv_if_ge (pc := 30) (tgt := 41) B d_Loom_run_30 rfl (fun h30 => ?_) (fun h30 => ?_)
      · skip
        refine mv_aload_n (pc := 41) B d_Loom_run_41 rfl 0 rfl ?_
        refine mv_getR (pc := 42) (ci := 0) (C := R_Loom) (T := F_Loom) (N := 10) B 9 rfl rfl (by decide) i_Loom (B.2.2.2.1 _ k_495) rfl (hR.1 _ 9 _ rfl) d_Loom_run_42 ?_
        refine mv_iload_n (pc := 45) B d_Loom_run_45 rfl 1 rfl ?_
        refine mv_callVi (pc := 46) (n := 1) (ci := 9) (C := R_Machine) B (mK_ok sk sv) hNs.1 rfl rfl (c_Machine_many_c l hi _ _ hR th sl hO (by have z := Int32.le_iff_toInt_le.mp h9; simpa using z) (by have z := Int32.le_iff_toInt_le.mp h30; simpa using z)) rfl (ma_goodc kc_Machine_many) (B.2.2.2.1 _ k_1793) (B.2.2.2.1 _ k_1794) (B.2.2.2.1 _ k_1795) (B.2.2.2.1 _ k_11) ⟨by decide +kernel, by decide +kernel, by decide +kernel⟩ rfl d_Loom_run_46 rfl (Nat.le_of_ble_eq_true rfl) ⟨by decide, by decide⟩ ⟨by decide, by decide⟩ ⟨by decide, by decide⟩ (mv_noH hno _) (fun v46 σ46 h46 => ?_)
        exact mv_iret (pc := 49) B hr rfl d_Loom_run_49 (Nat.le_of_ble_eq_true rfl) (Nat.le_of_ble_eq_true rfl) (Or.inl ⟨_, rfl, hC9.fm h46, GF.fm h46⟩)
      · skip
        exact mv_throw0 (pc := 33) (ik := 99) (ic := 101) B hlt hNs.2.1 (X := "java/lang/IllegalStateException") (by decide +kernel) (B.2.2.2.1 _ k_1717) (B.2.2.2.1 _ k_34) (B.2.2.2.1 _ k_1718) rfl (fun s9 hv9 a9 b9 c9 d9 => have hm9 := mt_ma B.2.2.2.1 hv9; mt_w_ise hm9 (hm9 _ k_1726) a9 b9 c9 d9) d_Loom_run_33 d_Loom_run_36 d_Loom_run_37 d_Loom_run_40 (mv_noH hno _) ⟨by decide, by decide⟩ ⟨by decide, by decide⟩ ⟨by decide, by decide⟩ (fun a9 => Or.inr ⟨_, a9, rfl, Or.inr rfl, rfl⟩)
    · skip
      exact mv_throw0 (pc := 12) (ik := 71) (ic := 73) B hlt hNs.2.1 (X := "java/lang/IllegalArgumentException") (by decide +kernel) (B.2.2.2.1 _ k_1704) (B.2.2.2.1 _ k_19) (B.2.2.2.1 _ k_955) rfl (fun s9 hv9 a9 b9 c9 d9 => have hm9 := mt_ma B.2.2.2.1 hv9; mt_w_iae hm9 (hm9 _ k_1705) a9 b9 c9 d9) d_Loom_run_12 d_Loom_run_15 d_Loom_run_16 d_Loom_run_19 (mv_noH hno _) ⟨by decide, by decide⟩ ⟨by decide, by decide⟩ ⟨by decide, by decide⟩ (fun a9 => Or.inr ⟨_, a9, rfl, Or.inl rfl, rfl⟩)
def y_Loom_thing : MethodName := ⟨"MachineLoom", "thing", "(II)I"⟩
abbrev b_Loom_thing : ByteArray := prog_1_method_15_code
theorem kc_Loom_thing : Cond.code y_Loom_thing b_Loom_thing 4 (Option.some Jvm.ClassFile.FieldType.int) ∈ ma := ma_of (tb_8 _ (List.mem_of_getElem? (i := 128) rfl)) rfl
theorem k_325 : (Jvm.Cond.fieldLink "MachineLoom" (176 : Nat) "MachineLoom$Program" "cells" "[I") ∈ ma := ma_of (tb_2 _ (List.mem_of_getElem? (i := 85) rfl)) rfl
theorem k_322 : (Jvm.Cond.fieldLink "MachineLoom" (173 : Nat) "MachineLoom$Program" "widths" "[I") ∈ ma := ma_of (tb_2 _ (List.mem_of_getElem? (i := 82) rfl)) rfl
theorem d_Loom_thing_0 : decode b_Loom_thing 0 = .ok (.iload_n 2, 1) := by decide +kernel
theorem d_Loom_thing_1 : decode b_Loom_thing 1 = .ok (.ifCond .eq (16), 3) := by decide +kernel
theorem d_Loom_thing_4 : decode b_Loom_thing 4 = .ok (.iload_n 2, 1) := by decide +kernel
theorem d_Loom_thing_5 : decode b_Loom_thing 5 = .ok (.iconst 1, 1) := by decide +kernel
theorem d_Loom_thing_6 : decode b_Loom_thing 6 = .ok (.if_icmp .eq (11), 3) := by decide +kernel
theorem d_Loom_thing_9 : decode b_Loom_thing 9 = .ok (.new 71, 3) := by decide +kernel
theorem d_Loom_thing_12 : decode b_Loom_thing 12 = .ok (.dup, 1) := by decide +kernel
theorem d_Loom_thing_13 : decode b_Loom_thing 13 = .ok (.invokespecial 73, 3) := by decide +kernel
theorem d_Loom_thing_16 : decode b_Loom_thing 16 = .ok (.athrow, 1) := by decide +kernel
theorem d_Loom_thing_17 : decode b_Loom_thing 17 = .ok (.aload_n 0, 1) := by decide +kernel
theorem d_Loom_thing_18 : decode b_Loom_thing 18 = .ok (.getfield 57, 3) := by decide +kernel
theorem d_Loom_thing_21 : decode b_Loom_thing 21 = .ok (.getfield 74, 3) := by decide +kernel
theorem d_Loom_thing_24 : decode b_Loom_thing 24 = .ok (.astore_n 3, 1) := by decide +kernel
theorem d_Loom_thing_25 : decode b_Loom_thing 25 = .ok (.iload_n 1, 1) := by decide +kernel
theorem d_Loom_thing_26 : decode b_Loom_thing 26 = .ok (.ifCond .lt (11), 3) := by decide +kernel
theorem d_Loom_thing_29 : decode b_Loom_thing 29 = .ok (.iload_n 1, 1) := by decide +kernel
theorem d_Loom_thing_30 : decode b_Loom_thing 30 = .ok (.aload_n 3, 1) := by decide +kernel
theorem d_Loom_thing_31 : decode b_Loom_thing 31 = .ok (.getfield 170, 3) := by decide +kernel
theorem d_Loom_thing_34 : decode b_Loom_thing 34 = .ok (.if_icmp .lt (11), 3) := by decide +kernel
theorem d_Loom_thing_37 : decode b_Loom_thing 37 = .ok (.new 131, 3) := by decide +kernel
theorem d_Loom_thing_40 : decode b_Loom_thing 40 = .ok (.dup, 1) := by decide +kernel
theorem d_Loom_thing_41 : decode b_Loom_thing 41 = .ok (.invokespecial 133, 3) := by decide +kernel
theorem d_Loom_thing_44 : decode b_Loom_thing 44 = .ok (.athrow, 1) := by decide +kernel
theorem d_Loom_thing_45 : decode b_Loom_thing 45 = .ok (.iload_n 2, 1) := by decide +kernel
theorem d_Loom_thing_46 : decode b_Loom_thing 46 = .ok (.ifCond .ne (12), 3) := by decide +kernel
theorem d_Loom_thing_49 : decode b_Loom_thing 49 = .ok (.aload_n 3, 1) := by decide +kernel
theorem d_Loom_thing_50 : decode b_Loom_thing 50 = .ok (.getfield 173, 3) := by decide +kernel
theorem d_Loom_thing_53 : decode b_Loom_thing 53 = .ok (.iload_n 1, 1) := by decide +kernel
theorem d_Loom_thing_54 : decode b_Loom_thing 54 = .ok (.iaload, 1) := by decide +kernel
theorem d_Loom_thing_55 : decode b_Loom_thing 55 = .ok (.goto (9), 3) := by decide +kernel
theorem d_Loom_thing_58 : decode b_Loom_thing 58 = .ok (.aload_n 3, 1) := by decide +kernel
theorem d_Loom_thing_59 : decode b_Loom_thing 59 = .ok (.getfield 176, 3) := by decide +kernel
theorem d_Loom_thing_62 : decode b_Loom_thing 62 = .ok (.iload_n 1, 1) := by decide +kernel
theorem d_Loom_thing_63 : decode b_Loom_thing 63 = .ok (.iaload, 1) := by decide +kernel
theorem d_Loom_thing_64 : decode b_Loom_thing 64 = .ok (.ireturn, 1) := by decide +kernel
set_option maxHeartbeats 4000000 in
set_option maxRecDepth 100000 in
theorem c_Loom_thing_a (l : Launch) {dA : FieldType → ClassId} {D : va_G} {al : Nat → Nat} {ext : mv_Sh} {sk sv : Nat → Nat} (hi : mv_inj (mg dA D al ext)) (σ : mv_H) (hlt : l.stackTraces = false) (t9 i9 : Int32) (k9 : Nat) (hC : LC ext σ 32 32768 512 k9) : mv_C l y_Loom_thing (Cond.code y_Loom_thing b_Loom_thing 4 (Option.some Jvm.ClassFile.FieldType.int) :: ma) ({ frames := 6, cells := 1, slots := 6, locals := 81 }) (mg dA D al ext) (mKt sk sv) [.ref (al 0), .int t9, .int i9] σ (mv_Ti (fun _ σ1 => σ1 = σ) (fun X σ1 => (X = "java/lang/IllegalArgumentException" ∨ X = "java/util/NoSuchElementException") ∧ σ1 = σ)) := by
  refine mv_C.ofV (cc := b_Loom_thing) (nL := 4) (ret := (Option.some Jvm.ClassFile.FieldType.int)) (by decide +kernel) rfl hi (Nat.le_of_ble_eq_true rfl) ?_
  intro p e s m below meth c B hNs hr hnm hno
  obtain ⟨hPP, hI, hR, hW, ⟨th, sl, hO, ho0, ho1, ho2⟩, hLS⟩ := hC
  obtain ⟨hT1, hT2, hT3, hT4, hT5, hT6, hT7, hT8⟩ := hO.1
  refine mv_iload_n (pc := 0) B d_Loom_thing_0 rfl 2 rfl ?_
  refine mv_if_eq (pc := 1) (tgt := 17) B d_Loom_thing_1 rfl (fun h1 => ?_) (fun h1 => ?_)
  · skip
    refine mv_aload_n (pc := 17) B d_Loom_thing_17 rfl 0 rfl ?_
    refine mv_getR (pc := 18) (ci := 0) (C := R_Loom) (T := F_Loom) (N := 10) B 9 rfl rfl (by decide) i_Loom (B.2.2.2.1 _ k_495) rfl (hR.1 _ 9 _ rfl) d_Loom_thing_18 ?_
    refine mv_getR (pc := 21) (ci := 9) (C := R_Machine) (T := F_Machine) (N := 13) B 0 rfl rfl (by decide) i_Machine (B.2.2.2.1 _ k_441) rfl hR.2.2 d_Loom_thing_21 ?_
    refine mv_astore_n (pc := 24) B d_Loom_thing_24 rfl (by decide) rfl ?_
    refine mv_iload_n (pc := 25) B d_Loom_thing_25 rfl 2 rfl ?_
    refine mv_if_lt (pc := 26) (tgt := 37) B d_Loom_thing_26 rfl (fun h26 => ?_) (fun h26 => ?_)
    · skip
      exact mv_throw0 (pc := 37) (ik := 131) (ic := 133) B hlt hNs.2.1 (X := "java/util/NoSuchElementException") (by decide +kernel) (B.2.2.2.1 _ k_1751) (B.2.2.2.1 _ k_36) (B.2.2.2.1 _ k_1752) rfl (fun s9 hv9 a9 b9 c9 d9 => have hm9 := mt_ma B.2.2.2.1 hv9; mt_w_nse hm9 (hm9 _ k_1760) a9 b9 c9 d9) d_Loom_thing_37 d_Loom_thing_40 d_Loom_thing_41 d_Loom_thing_44 (mv_noH hno _) ⟨by decide, by decide⟩ ⟨by decide, by decide⟩ ⟨by decide, by decide⟩ (fun a9 => Or.inr ⟨_, a9, rfl, Or.inr rfl, rfl⟩)
    · skip
      refine mv_iload_n (pc := 29) B d_Loom_thing_29 rfl 2 rfl ?_
      refine mv_aload_n (pc := 30) B d_Loom_thing_30 rfl 0 rfl ?_
      refine mv_getI (pc := 31) (ci := 7) (C := R_Program) (T := F_Program) (N := 19) B 1 rfl rfl (by decide) i_Program (B.2.2.2.1 _ k_317) rfl d_Loom_thing_31 ?_
      refine mv_icmp_lt (pc := 34) (tgt := 45) B d_Loom_thing_34 rfl (fun h34 => ?_) (fun h34 => ?_)
      · skip
        have z1 := Int32.lt_iff_toInt_lt.mp h34
        have z2 : ¬ t9.toInt < 0 := fun z => h26 (Int32.lt_iff_toInt_lt.mpr (by simpa using z))
        refine mv_iload_n (pc := 45) B d_Loom_thing_45 rfl 3 rfl ?_
        refine mv_if_ne (pc := 46) (tgt := 58) B d_Loom_thing_46 rfl (fun h46 => ?_) (fun h46 => ?_)
        · skip
          refine mv_aload_n (pc := 58) B d_Loom_thing_58 rfl 0 rfl ?_
          refine mv_getR (pc := 59) (ci := 7) (C := R_Program) (T := F_Program) (N := 19) B 3 rfl rfl (by decide) i_Program (B.2.2.2.1 _ k_325) rfl (hR.2.1 _ 3 34 rfl) d_Loom_thing_59 ?_
          refine mv_iload_n (pc := 62) B d_Loom_thing_62 rfl 2 rfl ?_
          refine mv_iald (pc := 63) B rfl (i32_in (show 0 ≤ t9.toInt by omega) (show t9.toInt < 64 by omega)) d_Loom_thing_63 ?_
          exact mv_iret (pc := 64) B hr rfl d_Loom_thing_64 (Nat.le_of_ble_eq_true rfl) (Nat.le_of_ble_eq_true rfl) (Or.inl ⟨_, rfl, rfl⟩)
        · skip
          refine mv_aload_n (pc := 49) B d_Loom_thing_49 rfl 0 rfl ?_
          refine mv_getR (pc := 50) (ci := 7) (C := R_Program) (T := F_Program) (N := 19) B 2 rfl rfl (by decide) i_Program (B.2.2.2.1 _ k_322) rfl (hR.2.1 _ 2 33 rfl) d_Loom_thing_50 ?_
          refine mv_iload_n (pc := 53) B d_Loom_thing_53 rfl 2 rfl ?_
          refine mv_iald (pc := 54) B rfl (i32_in (show 0 ≤ t9.toInt by omega) (show t9.toInt < 64 by omega)) d_Loom_thing_54 ?_
          refine mv_goto (pc := 55) (tgt := 64) B d_Loom_thing_55 rfl ?_
          exact mv_iret (pc := 64) B hr rfl d_Loom_thing_64 (Nat.le_of_ble_eq_true rfl) (Nat.le_of_ble_eq_true rfl) (Or.inl ⟨_, rfl, rfl⟩)
      · skip
        exact mv_throw0 (pc := 37) (ik := 131) (ic := 133) B hlt hNs.2.1 (X := "java/util/NoSuchElementException") (by decide +kernel) (B.2.2.2.1 _ k_1751) (B.2.2.2.1 _ k_36) (B.2.2.2.1 _ k_1752) rfl (fun s9 hv9 a9 b9 c9 d9 => have hm9 := mt_ma B.2.2.2.1 hv9; mt_w_nse hm9 (hm9 _ k_1760) a9 b9 c9 d9) d_Loom_thing_37 d_Loom_thing_40 d_Loom_thing_41 d_Loom_thing_44 (mv_noH hno _) ⟨by decide, by decide⟩ ⟨by decide, by decide⟩ ⟨by decide, by decide⟩ (fun a9 => Or.inr ⟨_, a9, rfl, Or.inr rfl, rfl⟩)
  · skip
    refine mv_iload_n (pc := 4) B d_Loom_thing_4 rfl 2 rfl ?_
    refine mv_iconst (pc := 5) (v := 1) B d_Loom_thing_5 (by decide) ?_
    refine mv_icmp_eq (pc := 6) (tgt := 17) B d_Loom_thing_6 rfl (fun h6 => ?_) (fun h6 => ?_)
    · skip
      refine mv_aload_n (pc := 17) B d_Loom_thing_17 rfl 0 rfl ?_
      refine mv_getR (pc := 18) (ci := 0) (C := R_Loom) (T := F_Loom) (N := 10) B 9 rfl rfl (by decide) i_Loom (B.2.2.2.1 _ k_495) rfl (hR.1 _ 9 _ rfl) d_Loom_thing_18 ?_
      refine mv_getR (pc := 21) (ci := 9) (C := R_Machine) (T := F_Machine) (N := 13) B 0 rfl rfl (by decide) i_Machine (B.2.2.2.1 _ k_441) rfl hR.2.2 d_Loom_thing_21 ?_
      refine mv_astore_n (pc := 24) B d_Loom_thing_24 rfl (by decide) rfl ?_
      refine mv_iload_n (pc := 25) B d_Loom_thing_25 rfl 2 rfl ?_
      refine mv_if_lt (pc := 26) (tgt := 37) B d_Loom_thing_26 rfl (fun h26 => ?_) (fun h26 => ?_)
      · skip
        exact mv_throw0 (pc := 37) (ik := 131) (ic := 133) B hlt hNs.2.1 (X := "java/util/NoSuchElementException") (by decide +kernel) (B.2.2.2.1 _ k_1751) (B.2.2.2.1 _ k_36) (B.2.2.2.1 _ k_1752) rfl (fun s9 hv9 a9 b9 c9 d9 => have hm9 := mt_ma B.2.2.2.1 hv9; mt_w_nse hm9 (hm9 _ k_1760) a9 b9 c9 d9) d_Loom_thing_37 d_Loom_thing_40 d_Loom_thing_41 d_Loom_thing_44 (mv_noH hno _) ⟨by decide, by decide⟩ ⟨by decide, by decide⟩ ⟨by decide, by decide⟩ (fun a9 => Or.inr ⟨_, a9, rfl, Or.inr rfl, rfl⟩)
      · skip
        refine mv_iload_n (pc := 29) B d_Loom_thing_29 rfl 2 rfl ?_
        refine mv_aload_n (pc := 30) B d_Loom_thing_30 rfl 0 rfl ?_
        refine mv_getI (pc := 31) (ci := 7) (C := R_Program) (T := F_Program) (N := 19) B 1 rfl rfl (by decide) i_Program (B.2.2.2.1 _ k_317) rfl d_Loom_thing_31 ?_
        refine mv_icmp_lt (pc := 34) (tgt := 45) B d_Loom_thing_34 rfl (fun h34 => ?_) (fun h34 => ?_)
        · skip
          have z1 := Int32.lt_iff_toInt_lt.mp h34
          have z2 : ¬ t9.toInt < 0 := fun z => h26 (Int32.lt_iff_toInt_lt.mpr (by simpa using z))
          refine mv_iload_n (pc := 45) B d_Loom_thing_45 rfl 3 rfl ?_
          refine mv_if_ne (pc := 46) (tgt := 58) B d_Loom_thing_46 rfl (fun h46 => ?_) (fun h46 => ?_)
          · skip
            refine mv_aload_n (pc := 58) B d_Loom_thing_58 rfl 0 rfl ?_
            refine mv_getR (pc := 59) (ci := 7) (C := R_Program) (T := F_Program) (N := 19) B 3 rfl rfl (by decide) i_Program (B.2.2.2.1 _ k_325) rfl (hR.2.1 _ 3 34 rfl) d_Loom_thing_59 ?_
            refine mv_iload_n (pc := 62) B d_Loom_thing_62 rfl 2 rfl ?_
            refine mv_iald (pc := 63) B rfl (i32_in (show 0 ≤ t9.toInt by omega) (show t9.toInt < 64 by omega)) d_Loom_thing_63 ?_
            exact mv_iret (pc := 64) B hr rfl d_Loom_thing_64 (Nat.le_of_ble_eq_true rfl) (Nat.le_of_ble_eq_true rfl) (Or.inl ⟨_, rfl, rfl⟩)
          · skip
            refine mv_aload_n (pc := 49) B d_Loom_thing_49 rfl 0 rfl ?_
            refine mv_getR (pc := 50) (ci := 7) (C := R_Program) (T := F_Program) (N := 19) B 2 rfl rfl (by decide) i_Program (B.2.2.2.1 _ k_322) rfl (hR.2.1 _ 2 33 rfl) d_Loom_thing_50 ?_
            refine mv_iload_n (pc := 53) B d_Loom_thing_53 rfl 2 rfl ?_
            refine mv_iald (pc := 54) B rfl (i32_in (show 0 ≤ t9.toInt by omega) (show t9.toInt < 64 by omega)) d_Loom_thing_54 ?_
            refine mv_goto (pc := 55) (tgt := 64) B d_Loom_thing_55 rfl ?_
            exact mv_iret (pc := 64) B hr rfl d_Loom_thing_64 (Nat.le_of_ble_eq_true rfl) (Nat.le_of_ble_eq_true rfl) (Or.inl ⟨_, rfl, rfl⟩)
        · skip
          exact mv_throw0 (pc := 37) (ik := 131) (ic := 133) B hlt hNs.2.1 (X := "java/util/NoSuchElementException") (by decide +kernel) (B.2.2.2.1 _ k_1751) (B.2.2.2.1 _ k_36) (B.2.2.2.1 _ k_1752) rfl (fun s9 hv9 a9 b9 c9 d9 => have hm9 := mt_ma B.2.2.2.1 hv9; mt_w_nse hm9 (hm9 _ k_1760) a9 b9 c9 d9) d_Loom_thing_37 d_Loom_thing_40 d_Loom_thing_41 d_Loom_thing_44 (mv_noH hno _) ⟨by decide, by decide⟩ ⟨by decide, by decide⟩ ⟨by decide, by decide⟩ (fun a9 => Or.inr ⟨_, a9, rfl, Or.inr rfl, rfl⟩)
    · skip
      exact mv_throw0 (pc := 9) (ik := 71) (ic := 73) B hlt hNs.2.1 (X := "java/lang/IllegalArgumentException") (by decide +kernel) (B.2.2.2.1 _ k_1704) (B.2.2.2.1 _ k_19) (B.2.2.2.1 _ k_955) rfl (fun s9 hv9 a9 b9 c9 d9 => have hm9 := mt_ma B.2.2.2.1 hv9; mt_w_iae hm9 (hm9 _ k_1705) a9 b9 c9 d9) d_Loom_thing_9 d_Loom_thing_12 d_Loom_thing_13 d_Loom_thing_16 (mv_noH hno _) ⟨by decide, by decide⟩ ⟨by decide, by decide⟩ ⟨by decide, by decide⟩ (fun a9 => Or.inr ⟨_, a9, rfl, Or.inl rfl, rfl⟩)
set_option maxHeartbeats 4000000 in
set_option maxRecDepth 100000 in
theorem c_Loom_thing_b (l : Launch) {dA : FieldType → ClassId} {D : va_G} {al : Nat → Nat} {ext : mv_Sh} {sk sv : Nat → Nat} (hi : mv_inj (mg dA D al ext)) (σ : mv_H) (hlt : l.stackTraces = false) (t9 i9 : Int32) (k9 : Nat) (hC : LC ext σ 48 32768 512 k9) : mv_C l y_Loom_thing (Cond.code y_Loom_thing b_Loom_thing 4 (Option.some Jvm.ClassFile.FieldType.int) :: ma) ({ frames := 6, cells := 1, slots := 6, locals := 81 }) (mg dA D al ext) (mKt sk sv) [.ref (al 0), .int t9, .int i9] σ (mv_Ti (fun _ σ1 => σ1 = σ) (fun X σ1 => (X = "java/lang/IllegalArgumentException" ∨ X = "java/util/NoSuchElementException") ∧ σ1 = σ)) := by
  refine mv_C.ofV (cc := b_Loom_thing) (nL := 4) (ret := (Option.some Jvm.ClassFile.FieldType.int)) (by decide +kernel) rfl hi (Nat.le_of_ble_eq_true rfl) ?_
  intro p e s m below meth c B hNs hr hnm hno
  obtain ⟨hPP, hI, hR, hW, ⟨th, sl, hO, ho0, ho1, ho2⟩, hLS⟩ := hC
  obtain ⟨hT1, hT2, hT3, hT4, hT5, hT6, hT7, hT8⟩ := hO.1
  refine mv_iload_n (pc := 0) B d_Loom_thing_0 rfl 2 rfl ?_
  refine mv_if_eq (pc := 1) (tgt := 17) B d_Loom_thing_1 rfl (fun h1 => ?_) (fun h1 => ?_)
  · skip
    refine mv_aload_n (pc := 17) B d_Loom_thing_17 rfl 0 rfl ?_
    refine mv_getR (pc := 18) (ci := 0) (C := R_Loom) (T := F_Loom) (N := 10) B 9 rfl rfl (by decide) i_Loom (B.2.2.2.1 _ k_495) rfl (hR.1 _ 9 _ rfl) d_Loom_thing_18 ?_
    refine mv_getR (pc := 21) (ci := 9) (C := R_Machine) (T := F_Machine) (N := 13) B 0 rfl rfl (by decide) i_Machine (B.2.2.2.1 _ k_441) rfl hR.2.2 d_Loom_thing_21 ?_
    refine mv_astore_n (pc := 24) B d_Loom_thing_24 rfl (by decide) rfl ?_
    refine mv_iload_n (pc := 25) B d_Loom_thing_25 rfl 2 rfl ?_
    refine mv_if_lt (pc := 26) (tgt := 37) B d_Loom_thing_26 rfl (fun h26 => ?_) (fun h26 => ?_)
    · skip
      exact mv_throw0 (pc := 37) (ik := 131) (ic := 133) B hlt hNs.2.1 (X := "java/util/NoSuchElementException") (by decide +kernel) (B.2.2.2.1 _ k_1751) (B.2.2.2.1 _ k_36) (B.2.2.2.1 _ k_1752) rfl (fun s9 hv9 a9 b9 c9 d9 => have hm9 := mt_ma B.2.2.2.1 hv9; mt_w_nse hm9 (hm9 _ k_1760) a9 b9 c9 d9) d_Loom_thing_37 d_Loom_thing_40 d_Loom_thing_41 d_Loom_thing_44 (mv_noH hno _) ⟨by decide, by decide⟩ ⟨by decide, by decide⟩ ⟨by decide, by decide⟩ (fun a9 => Or.inr ⟨_, a9, rfl, Or.inr rfl, rfl⟩)
    · skip
      refine mv_iload_n (pc := 29) B d_Loom_thing_29 rfl 2 rfl ?_
      refine mv_aload_n (pc := 30) B d_Loom_thing_30 rfl 0 rfl ?_
      refine mv_getI (pc := 31) (ci := 7) (C := R_Program) (T := F_Program) (N := 19) B 1 rfl rfl (by decide) i_Program (B.2.2.2.1 _ k_317) rfl d_Loom_thing_31 ?_
      refine mv_icmp_lt (pc := 34) (tgt := 45) B d_Loom_thing_34 rfl (fun h34 => ?_) (fun h34 => ?_)
      · skip
        have z1 := Int32.lt_iff_toInt_lt.mp h34
        have z2 : ¬ t9.toInt < 0 := fun z => h26 (Int32.lt_iff_toInt_lt.mpr (by simpa using z))
        refine mv_iload_n (pc := 45) B d_Loom_thing_45 rfl 3 rfl ?_
        refine mv_if_ne (pc := 46) (tgt := 58) B d_Loom_thing_46 rfl (fun h46 => ?_) (fun h46 => ?_)
        · skip
          refine mv_aload_n (pc := 58) B d_Loom_thing_58 rfl 0 rfl ?_
          refine mv_getR (pc := 59) (ci := 7) (C := R_Program) (T := F_Program) (N := 19) B 3 rfl rfl (by decide) i_Program (B.2.2.2.1 _ k_325) rfl (hR.2.1 _ 3 50 rfl) d_Loom_thing_59 ?_
          refine mv_iload_n (pc := 62) B d_Loom_thing_62 rfl 2 rfl ?_
          refine mv_iald (pc := 63) B rfl (i32_in (show 0 ≤ t9.toInt by omega) (show t9.toInt < 64 by omega)) d_Loom_thing_63 ?_
          exact mv_iret (pc := 64) B hr rfl d_Loom_thing_64 (Nat.le_of_ble_eq_true rfl) (Nat.le_of_ble_eq_true rfl) (Or.inl ⟨_, rfl, rfl⟩)
        · skip
          refine mv_aload_n (pc := 49) B d_Loom_thing_49 rfl 0 rfl ?_
          refine mv_getR (pc := 50) (ci := 7) (C := R_Program) (T := F_Program) (N := 19) B 2 rfl rfl (by decide) i_Program (B.2.2.2.1 _ k_322) rfl (hR.2.1 _ 2 49 rfl) d_Loom_thing_50 ?_
          refine mv_iload_n (pc := 53) B d_Loom_thing_53 rfl 2 rfl ?_
          refine mv_iald (pc := 54) B rfl (i32_in (show 0 ≤ t9.toInt by omega) (show t9.toInt < 64 by omega)) d_Loom_thing_54 ?_
          refine mv_goto (pc := 55) (tgt := 64) B d_Loom_thing_55 rfl ?_
          exact mv_iret (pc := 64) B hr rfl d_Loom_thing_64 (Nat.le_of_ble_eq_true rfl) (Nat.le_of_ble_eq_true rfl) (Or.inl ⟨_, rfl, rfl⟩)
      · skip
        exact mv_throw0 (pc := 37) (ik := 131) (ic := 133) B hlt hNs.2.1 (X := "java/util/NoSuchElementException") (by decide +kernel) (B.2.2.2.1 _ k_1751) (B.2.2.2.1 _ k_36) (B.2.2.2.1 _ k_1752) rfl (fun s9 hv9 a9 b9 c9 d9 => have hm9 := mt_ma B.2.2.2.1 hv9; mt_w_nse hm9 (hm9 _ k_1760) a9 b9 c9 d9) d_Loom_thing_37 d_Loom_thing_40 d_Loom_thing_41 d_Loom_thing_44 (mv_noH hno _) ⟨by decide, by decide⟩ ⟨by decide, by decide⟩ ⟨by decide, by decide⟩ (fun a9 => Or.inr ⟨_, a9, rfl, Or.inr rfl, rfl⟩)
  · skip
    refine mv_iload_n (pc := 4) B d_Loom_thing_4 rfl 2 rfl ?_
    refine mv_iconst (pc := 5) (v := 1) B d_Loom_thing_5 (by decide) ?_
    refine mv_icmp_eq (pc := 6) (tgt := 17) B d_Loom_thing_6 rfl (fun h6 => ?_) (fun h6 => ?_)
    · skip
      refine mv_aload_n (pc := 17) B d_Loom_thing_17 rfl 0 rfl ?_
      refine mv_getR (pc := 18) (ci := 0) (C := R_Loom) (T := F_Loom) (N := 10) B 9 rfl rfl (by decide) i_Loom (B.2.2.2.1 _ k_495) rfl (hR.1 _ 9 _ rfl) d_Loom_thing_18 ?_
      refine mv_getR (pc := 21) (ci := 9) (C := R_Machine) (T := F_Machine) (N := 13) B 0 rfl rfl (by decide) i_Machine (B.2.2.2.1 _ k_441) rfl hR.2.2 d_Loom_thing_21 ?_
      refine mv_astore_n (pc := 24) B d_Loom_thing_24 rfl (by decide) rfl ?_
      refine mv_iload_n (pc := 25) B d_Loom_thing_25 rfl 2 rfl ?_
      refine mv_if_lt (pc := 26) (tgt := 37) B d_Loom_thing_26 rfl (fun h26 => ?_) (fun h26 => ?_)
      · skip
        exact mv_throw0 (pc := 37) (ik := 131) (ic := 133) B hlt hNs.2.1 (X := "java/util/NoSuchElementException") (by decide +kernel) (B.2.2.2.1 _ k_1751) (B.2.2.2.1 _ k_36) (B.2.2.2.1 _ k_1752) rfl (fun s9 hv9 a9 b9 c9 d9 => have hm9 := mt_ma B.2.2.2.1 hv9; mt_w_nse hm9 (hm9 _ k_1760) a9 b9 c9 d9) d_Loom_thing_37 d_Loom_thing_40 d_Loom_thing_41 d_Loom_thing_44 (mv_noH hno _) ⟨by decide, by decide⟩ ⟨by decide, by decide⟩ ⟨by decide, by decide⟩ (fun a9 => Or.inr ⟨_, a9, rfl, Or.inr rfl, rfl⟩)
      · skip
        refine mv_iload_n (pc := 29) B d_Loom_thing_29 rfl 2 rfl ?_
        refine mv_aload_n (pc := 30) B d_Loom_thing_30 rfl 0 rfl ?_
        refine mv_getI (pc := 31) (ci := 7) (C := R_Program) (T := F_Program) (N := 19) B 1 rfl rfl (by decide) i_Program (B.2.2.2.1 _ k_317) rfl d_Loom_thing_31 ?_
        refine mv_icmp_lt (pc := 34) (tgt := 45) B d_Loom_thing_34 rfl (fun h34 => ?_) (fun h34 => ?_)
        · skip
          have z1 := Int32.lt_iff_toInt_lt.mp h34
          have z2 : ¬ t9.toInt < 0 := fun z => h26 (Int32.lt_iff_toInt_lt.mpr (by simpa using z))
          refine mv_iload_n (pc := 45) B d_Loom_thing_45 rfl 3 rfl ?_
          refine mv_if_ne (pc := 46) (tgt := 58) B d_Loom_thing_46 rfl (fun h46 => ?_) (fun h46 => ?_)
          · skip
            refine mv_aload_n (pc := 58) B d_Loom_thing_58 rfl 0 rfl ?_
            refine mv_getR (pc := 59) (ci := 7) (C := R_Program) (T := F_Program) (N := 19) B 3 rfl rfl (by decide) i_Program (B.2.2.2.1 _ k_325) rfl (hR.2.1 _ 3 50 rfl) d_Loom_thing_59 ?_
            refine mv_iload_n (pc := 62) B d_Loom_thing_62 rfl 2 rfl ?_
            refine mv_iald (pc := 63) B rfl (i32_in (show 0 ≤ t9.toInt by omega) (show t9.toInt < 64 by omega)) d_Loom_thing_63 ?_
            exact mv_iret (pc := 64) B hr rfl d_Loom_thing_64 (Nat.le_of_ble_eq_true rfl) (Nat.le_of_ble_eq_true rfl) (Or.inl ⟨_, rfl, rfl⟩)
          · skip
            refine mv_aload_n (pc := 49) B d_Loom_thing_49 rfl 0 rfl ?_
            refine mv_getR (pc := 50) (ci := 7) (C := R_Program) (T := F_Program) (N := 19) B 2 rfl rfl (by decide) i_Program (B.2.2.2.1 _ k_322) rfl (hR.2.1 _ 2 49 rfl) d_Loom_thing_50 ?_
            refine mv_iload_n (pc := 53) B d_Loom_thing_53 rfl 2 rfl ?_
            refine mv_iald (pc := 54) B rfl (i32_in (show 0 ≤ t9.toInt by omega) (show t9.toInt < 64 by omega)) d_Loom_thing_54 ?_
            refine mv_goto (pc := 55) (tgt := 64) B d_Loom_thing_55 rfl ?_
            exact mv_iret (pc := 64) B hr rfl d_Loom_thing_64 (Nat.le_of_ble_eq_true rfl) (Nat.le_of_ble_eq_true rfl) (Or.inl ⟨_, rfl, rfl⟩)
        · skip
          exact mv_throw0 (pc := 37) (ik := 131) (ic := 133) B hlt hNs.2.1 (X := "java/util/NoSuchElementException") (by decide +kernel) (B.2.2.2.1 _ k_1751) (B.2.2.2.1 _ k_36) (B.2.2.2.1 _ k_1752) rfl (fun s9 hv9 a9 b9 c9 d9 => have hm9 := mt_ma B.2.2.2.1 hv9; mt_w_nse hm9 (hm9 _ k_1760) a9 b9 c9 d9) d_Loom_thing_37 d_Loom_thing_40 d_Loom_thing_41 d_Loom_thing_44 (mv_noH hno _) ⟨by decide, by decide⟩ ⟨by decide, by decide⟩ ⟨by decide, by decide⟩ (fun a9 => Or.inr ⟨_, a9, rfl, Or.inr rfl, rfl⟩)
    · skip
      exact mv_throw0 (pc := 9) (ik := 71) (ic := 73) B hlt hNs.2.1 (X := "java/lang/IllegalArgumentException") (by decide +kernel) (B.2.2.2.1 _ k_1704) (B.2.2.2.1 _ k_19) (B.2.2.2.1 _ k_955) rfl (fun s9 hv9 a9 b9 c9 d9 => have hm9 := mt_ma B.2.2.2.1 hv9; mt_w_iae hm9 (hm9 _ k_1705) a9 b9 c9 d9) d_Loom_thing_9 d_Loom_thing_12 d_Loom_thing_13 d_Loom_thing_16 (mv_noH hno _) ⟨by decide, by decide⟩ ⟨by decide, by decide⟩ ⟨by decide, by decide⟩ (fun a9 => Or.inr ⟨_, a9, rfl, Or.inl rfl, rfl⟩)
set_option maxHeartbeats 4000000 in
set_option maxRecDepth 100000 in
theorem c_Loom_thing_c (l : Launch) {dA : FieldType → ClassId} {D : va_G} {al : Nat → Nat} {sk sv : Nat → Nat} (hi : mv_inj (mg dA D al me)) (σ : mv_H) (hlt : l.stackTraces = false) (t9 i9 : Int32) (k9 : Nat) (hC : LC me σ 145 8192 48 k9) : mv_C l y_Loom_thing (Cond.code y_Loom_thing b_Loom_thing 4 (Option.some Jvm.ClassFile.FieldType.int) :: ma) ({ frames := 6, cells := 1, slots := 6, locals := 81 }) (mg dA D al me) (mKt sk sv) [.ref (al 0), .int t9, .int i9] σ (mv_Ti (fun _ σ1 => σ1 = σ) (fun X σ1 => (X = "java/lang/IllegalArgumentException" ∨ X = "java/util/NoSuchElementException") ∧ σ1 = σ)) := by
  refine mv_C.ofV (cc := b_Loom_thing) (nL := 4) (ret := (Option.some Jvm.ClassFile.FieldType.int)) (by decide +kernel) rfl hi (Nat.le_of_ble_eq_true rfl) ?_
  intro p e s m below meth c B hNs hr hnm hno
  obtain ⟨hPP, hI, hR, hW, ⟨th, sl, hO, ho0, ho1, ho2⟩, hLS⟩ := hC
  obtain ⟨hT1, hT2, hT3, hT4, hT5, hT6, hT7, hT8⟩ := hO.1
  refine mv_iload_n (pc := 0) B d_Loom_thing_0 rfl 2 rfl ?_
  refine mv_if_eq (pc := 1) (tgt := 17) B d_Loom_thing_1 rfl (fun h1 => ?_) (fun h1 => ?_)
  · skip
    refine mv_aload_n (pc := 17) B d_Loom_thing_17 rfl 0 rfl ?_
    refine mv_getR (pc := 18) (ci := 0) (C := R_Loom) (T := F_Loom) (N := 10) B 9 rfl rfl (by decide) i_Loom (B.2.2.2.1 _ k_495) rfl (hR.1 _ 9 _ rfl) d_Loom_thing_18 ?_
    refine mv_getR (pc := 21) (ci := 9) (C := R_Machine) (T := F_Machine) (N := 13) B 0 rfl rfl (by decide) i_Machine (B.2.2.2.1 _ k_441) rfl hR.2.2 d_Loom_thing_21 ?_
    refine mv_astore_n (pc := 24) B d_Loom_thing_24 rfl (by decide) rfl ?_
    refine mv_iload_n (pc := 25) B d_Loom_thing_25 rfl 2 rfl ?_
    refine mv_if_lt (pc := 26) (tgt := 37) B d_Loom_thing_26 rfl (fun h26 => ?_) (fun h26 => ?_)
    · skip
      exact mv_throw0 (pc := 37) (ik := 131) (ic := 133) B hlt hNs.2.1 (X := "java/util/NoSuchElementException") (by decide +kernel) (B.2.2.2.1 _ k_1751) (B.2.2.2.1 _ k_36) (B.2.2.2.1 _ k_1752) rfl (fun s9 hv9 a9 b9 c9 d9 => have hm9 := mt_ma B.2.2.2.1 hv9; mt_w_nse hm9 (hm9 _ k_1760) a9 b9 c9 d9) d_Loom_thing_37 d_Loom_thing_40 d_Loom_thing_41 d_Loom_thing_44 (mv_noH hno _) ⟨by decide, by decide⟩ ⟨by decide, by decide⟩ ⟨by decide, by decide⟩ (fun a9 => Or.inr ⟨_, a9, rfl, Or.inr rfl, rfl⟩)
    · skip
      refine mv_iload_n (pc := 29) B d_Loom_thing_29 rfl 2 rfl ?_
      refine mv_aload_n (pc := 30) B d_Loom_thing_30 rfl 0 rfl ?_
      refine mv_getI (pc := 31) (ci := 7) (C := R_Program) (T := F_Program) (N := 19) B 1 rfl rfl (by decide) i_Program (B.2.2.2.1 _ k_317) rfl d_Loom_thing_31 ?_
      refine mv_icmp_lt (pc := 34) (tgt := 45) B d_Loom_thing_34 rfl (fun h34 => ?_) (fun h34 => ?_)
      · skip
        have z1 := Int32.lt_iff_toInt_lt.mp h34
        have z2 : ¬ t9.toInt < 0 := fun z => h26 (Int32.lt_iff_toInt_lt.mpr (by simpa using z))
        refine mv_iload_n (pc := 45) B d_Loom_thing_45 rfl 3 rfl ?_
        refine mv_if_ne (pc := 46) (tgt := 58) B d_Loom_thing_46 rfl (fun h46 => ?_) (fun h46 => ?_)
        · skip
          refine mv_aload_n (pc := 58) B d_Loom_thing_58 rfl 0 rfl ?_
          refine mv_getR (pc := 59) (ci := 7) (C := R_Program) (T := F_Program) (N := 19) B 3 rfl rfl (by decide) i_Program (B.2.2.2.1 _ k_325) rfl (hR.2.1 _ 3 147 rfl) d_Loom_thing_59 ?_
          refine mv_iload_n (pc := 62) B d_Loom_thing_62 rfl 2 rfl ?_
          refine mv_iald (pc := 63) B rfl (i32_in (show 0 ≤ t9.toInt by omega) (show t9.toInt < 64 by omega)) d_Loom_thing_63 ?_
          exact mv_iret (pc := 64) B hr rfl d_Loom_thing_64 (Nat.le_of_ble_eq_true rfl) (Nat.le_of_ble_eq_true rfl) (Or.inl ⟨_, rfl, rfl⟩)
        · skip
          refine mv_aload_n (pc := 49) B d_Loom_thing_49 rfl 0 rfl ?_
          refine mv_getR (pc := 50) (ci := 7) (C := R_Program) (T := F_Program) (N := 19) B 2 rfl rfl (by decide) i_Program (B.2.2.2.1 _ k_322) rfl (hR.2.1 _ 2 146 rfl) d_Loom_thing_50 ?_
          refine mv_iload_n (pc := 53) B d_Loom_thing_53 rfl 2 rfl ?_
          refine mv_iald (pc := 54) B rfl (i32_in (show 0 ≤ t9.toInt by omega) (show t9.toInt < 64 by omega)) d_Loom_thing_54 ?_
          refine mv_goto (pc := 55) (tgt := 64) B d_Loom_thing_55 rfl ?_
          exact mv_iret (pc := 64) B hr rfl d_Loom_thing_64 (Nat.le_of_ble_eq_true rfl) (Nat.le_of_ble_eq_true rfl) (Or.inl ⟨_, rfl, rfl⟩)
      · skip
        exact mv_throw0 (pc := 37) (ik := 131) (ic := 133) B hlt hNs.2.1 (X := "java/util/NoSuchElementException") (by decide +kernel) (B.2.2.2.1 _ k_1751) (B.2.2.2.1 _ k_36) (B.2.2.2.1 _ k_1752) rfl (fun s9 hv9 a9 b9 c9 d9 => have hm9 := mt_ma B.2.2.2.1 hv9; mt_w_nse hm9 (hm9 _ k_1760) a9 b9 c9 d9) d_Loom_thing_37 d_Loom_thing_40 d_Loom_thing_41 d_Loom_thing_44 (mv_noH hno _) ⟨by decide, by decide⟩ ⟨by decide, by decide⟩ ⟨by decide, by decide⟩ (fun a9 => Or.inr ⟨_, a9, rfl, Or.inr rfl, rfl⟩)
  · skip
    refine mv_iload_n (pc := 4) B d_Loom_thing_4 rfl 2 rfl ?_
    refine mv_iconst (pc := 5) (v := 1) B d_Loom_thing_5 (by decide) ?_
    refine mv_icmp_eq (pc := 6) (tgt := 17) B d_Loom_thing_6 rfl (fun h6 => ?_) (fun h6 => ?_)
    · skip
      refine mv_aload_n (pc := 17) B d_Loom_thing_17 rfl 0 rfl ?_
      refine mv_getR (pc := 18) (ci := 0) (C := R_Loom) (T := F_Loom) (N := 10) B 9 rfl rfl (by decide) i_Loom (B.2.2.2.1 _ k_495) rfl (hR.1 _ 9 _ rfl) d_Loom_thing_18 ?_
      refine mv_getR (pc := 21) (ci := 9) (C := R_Machine) (T := F_Machine) (N := 13) B 0 rfl rfl (by decide) i_Machine (B.2.2.2.1 _ k_441) rfl hR.2.2 d_Loom_thing_21 ?_
      refine mv_astore_n (pc := 24) B d_Loom_thing_24 rfl (by decide) rfl ?_
      refine mv_iload_n (pc := 25) B d_Loom_thing_25 rfl 2 rfl ?_
      refine mv_if_lt (pc := 26) (tgt := 37) B d_Loom_thing_26 rfl (fun h26 => ?_) (fun h26 => ?_)
      · skip
        exact mv_throw0 (pc := 37) (ik := 131) (ic := 133) B hlt hNs.2.1 (X := "java/util/NoSuchElementException") (by decide +kernel) (B.2.2.2.1 _ k_1751) (B.2.2.2.1 _ k_36) (B.2.2.2.1 _ k_1752) rfl (fun s9 hv9 a9 b9 c9 d9 => have hm9 := mt_ma B.2.2.2.1 hv9; mt_w_nse hm9 (hm9 _ k_1760) a9 b9 c9 d9) d_Loom_thing_37 d_Loom_thing_40 d_Loom_thing_41 d_Loom_thing_44 (mv_noH hno _) ⟨by decide, by decide⟩ ⟨by decide, by decide⟩ ⟨by decide, by decide⟩ (fun a9 => Or.inr ⟨_, a9, rfl, Or.inr rfl, rfl⟩)
      · skip
        refine mv_iload_n (pc := 29) B d_Loom_thing_29 rfl 2 rfl ?_
        refine mv_aload_n (pc := 30) B d_Loom_thing_30 rfl 0 rfl ?_
        refine mv_getI (pc := 31) (ci := 7) (C := R_Program) (T := F_Program) (N := 19) B 1 rfl rfl (by decide) i_Program (B.2.2.2.1 _ k_317) rfl d_Loom_thing_31 ?_
        refine mv_icmp_lt (pc := 34) (tgt := 45) B d_Loom_thing_34 rfl (fun h34 => ?_) (fun h34 => ?_)
        · skip
          have z1 := Int32.lt_iff_toInt_lt.mp h34
          have z2 : ¬ t9.toInt < 0 := fun z => h26 (Int32.lt_iff_toInt_lt.mpr (by simpa using z))
          refine mv_iload_n (pc := 45) B d_Loom_thing_45 rfl 3 rfl ?_
          refine mv_if_ne (pc := 46) (tgt := 58) B d_Loom_thing_46 rfl (fun h46 => ?_) (fun h46 => ?_)
          · skip
            refine mv_aload_n (pc := 58) B d_Loom_thing_58 rfl 0 rfl ?_
            refine mv_getR (pc := 59) (ci := 7) (C := R_Program) (T := F_Program) (N := 19) B 3 rfl rfl (by decide) i_Program (B.2.2.2.1 _ k_325) rfl (hR.2.1 _ 3 147 rfl) d_Loom_thing_59 ?_
            refine mv_iload_n (pc := 62) B d_Loom_thing_62 rfl 2 rfl ?_
            refine mv_iald (pc := 63) B rfl (i32_in (show 0 ≤ t9.toInt by omega) (show t9.toInt < 64 by omega)) d_Loom_thing_63 ?_
            exact mv_iret (pc := 64) B hr rfl d_Loom_thing_64 (Nat.le_of_ble_eq_true rfl) (Nat.le_of_ble_eq_true rfl) (Or.inl ⟨_, rfl, rfl⟩)
          · skip
            refine mv_aload_n (pc := 49) B d_Loom_thing_49 rfl 0 rfl ?_
            refine mv_getR (pc := 50) (ci := 7) (C := R_Program) (T := F_Program) (N := 19) B 2 rfl rfl (by decide) i_Program (B.2.2.2.1 _ k_322) rfl (hR.2.1 _ 2 146 rfl) d_Loom_thing_50 ?_
            refine mv_iload_n (pc := 53) B d_Loom_thing_53 rfl 2 rfl ?_
            refine mv_iald (pc := 54) B rfl (i32_in (show 0 ≤ t9.toInt by omega) (show t9.toInt < 64 by omega)) d_Loom_thing_54 ?_
            refine mv_goto (pc := 55) (tgt := 64) B d_Loom_thing_55 rfl ?_
            exact mv_iret (pc := 64) B hr rfl d_Loom_thing_64 (Nat.le_of_ble_eq_true rfl) (Nat.le_of_ble_eq_true rfl) (Or.inl ⟨_, rfl, rfl⟩)
        · skip
          exact mv_throw0 (pc := 37) (ik := 131) (ic := 133) B hlt hNs.2.1 (X := "java/util/NoSuchElementException") (by decide +kernel) (B.2.2.2.1 _ k_1751) (B.2.2.2.1 _ k_36) (B.2.2.2.1 _ k_1752) rfl (fun s9 hv9 a9 b9 c9 d9 => have hm9 := mt_ma B.2.2.2.1 hv9; mt_w_nse hm9 (hm9 _ k_1760) a9 b9 c9 d9) d_Loom_thing_37 d_Loom_thing_40 d_Loom_thing_41 d_Loom_thing_44 (mv_noH hno _) ⟨by decide, by decide⟩ ⟨by decide, by decide⟩ ⟨by decide, by decide⟩ (fun a9 => Or.inr ⟨_, a9, rfl, Or.inr rfl, rfl⟩)
    · skip
      exact mv_throw0 (pc := 9) (ik := 71) (ic := 73) B hlt hNs.2.1 (X := "java/lang/IllegalArgumentException") (by decide +kernel) (B.2.2.2.1 _ k_1704) (B.2.2.2.1 _ k_19) (B.2.2.2.1 _ k_955) rfl (fun s9 hv9 a9 b9 c9 d9 => have hm9 := mt_ma B.2.2.2.1 hv9; mt_w_iae hm9 (hm9 _ k_1705) a9 b9 c9 d9) d_Loom_thing_9 d_Loom_thing_12 d_Loom_thing_13 d_Loom_thing_16 (mv_noH hno _) ⟨by decide, by decide⟩ ⟨by decide, by decide⟩ ⟨by decide, by decide⟩ (fun a9 => Or.inr ⟨_, a9, rfl, Or.inl rfl, rfl⟩)
