/-! the start of the items -/
theorem KEx.st {X : TX} {J P : Nat} {sy : List Nat → Nat} {h' : mv_H} {o : OuA} (hJ : X.kd J = 1 ∨ X.kd J = 2) (h3 : 3 ≤ J) (eo : o = OuA.mk 0 [] 0 [] (fun _ => (0, 0)) 0 (SI.mk (X.nu 1) (fun _ => (0, 0)) [] 0 none [])) (p6 : mv_i h' P 6 = 0) (p8 : mv_i h' P 8 = -1) (p17 : mv_i h' P 17 = 0) : KEx X J P sy h' (CfA.mk 0 3 0 [] [] o) [] := by
  intro r hr
  subst eo
  have tl : tLp X 200000 (SI.mk (X.nu 1) (fun _ => (0, 0)) [] 0 none []) (fun _ => 0) [] 3 = some r := by
    unfold tTx at hr
    obtain ⟨a1, -, hr⟩ := obn hr
    obtain ⟨a2, -, hr⟩ := obn hr
    obtain ⟨a3, -, hr⟩ := obn hr
    split at hr
    · exact hr
    · cases hr
  have EK := lpK hJ 200000 3 0 0 0 [] (fun _ => (0, 0)) (SI.mk (X.nu 1) (fun _ => (0, 0)) [] 0 none []) (ODq.mk (fun _ => 0) [] zSk (fun e => e) 0 dN [] (fun _ => 0) []) h3 tl
  refine ⟨[], [], _, EK, ⟨⟨p6, Nat.zero_le _, fun t ht => absurd ht (Nat.not_lt_zero _)⟩, ?_, ⟨fun _ => (by show 0 < 64; omega), fun i _ _ w => absurd rfl w⟩, fun _ => (311, 0), 0, 0, ⟨p17, by omega, fun _ _ => rfl, fun i hi => absurd hi (Nat.not_lt_zero _)⟩, fun o ho => absurd ho (Nat.not_lt_zero _), ?_⟩, fun w => absurd rfl w⟩
  · show mv_i h' P 8 < 0
    rw [p8]; decide
  · rw [if_pos (show 0 = 0 from rfl)]
    exact ⟨rfl, rfl, Nat.zero_le _⟩
/-! the program that was read, in another heap -/
theorem KOw.fr {P : Nat} {r : SI × LZ × List DnS} {σ τ : mv_H} (h : KOw P r σ) (ei : ∀ k, (k = 6 ∨ k = 8 ∨ k = 9 ∨ k = 17) → mv_i τ P k = mv_i σ P k) (e3 : ∀ o k, (o = P + 3 ∨ o = P + 4) → k < 64 → mv_a τ o k = mv_a σ o k) (e7 : ∀ k, k < 512 → mv_a τ (P + 7) k = mv_a σ (P + 7) k) (e9 : ∀ k, k < 32768 → mv_a τ (P + 9) k = mv_a σ (P + 9) k) (e10 : ∀ k, k < 32768 → mv_b τ (P + 10) k = mv_b σ (P + 10) k) : KOw P r τ := by
  obtain ⟨⟨b1, b2, b3⟩, ⟨t1, t2, t3⟩, f1, l1, L, z, ⟨c1, c2, c3, c4⟩, o1⟩ := h
  refine ⟨⟨b1, b2, b3⟩, ⟨by rw [ei 6 (by omega)]; exact t1, t2, fun t ht => ?_⟩, f1.gf (ei 8 (by omega)) (ei 9 (by omega)), l1, L, z, ⟨by rw [ei 17 (by omega)]; exact c1, c2, c3, fun i hi => ?_⟩, fun o ho => ?_⟩
  · rw [e3 (P + 3) t (by omega) (by omega), e3 (P + 4) t (by omega) (by omega)]
    exact t3 t ht
  · rw [e9 i (by omega), e10 i (by omega)]
    exact c4 i hi
  · rw [e7 o (by omega)]
    exact o1 o ho
theorem KFn.fr {P : Nat} {X : TX} {σ τ : mv_H} (h : KFn X P σ) (ei : ∀ k, (k = 6 ∨ k = 8 ∨ k = 9 ∨ k = 17) → mv_i τ P k = mv_i σ P k) (e3 : ∀ o k, (o = P + 3 ∨ o = P + 4) → k < 64 → mv_a τ o k = mv_a σ o k) (e7 : ∀ k, k < 512 → mv_a τ (P + 7) k = mv_a σ (P + 7) k) (e9 : ∀ k, k < 32768 → mv_a τ (P + 9) k = mv_a σ (P + 9) k) (e10 : ∀ k, k < 32768 → mv_b τ (P + 10) k = mv_b σ (P + 10) k) : KFn X P τ := fun r hr => (h r hr).fr ei e3 e7 e9 e10
