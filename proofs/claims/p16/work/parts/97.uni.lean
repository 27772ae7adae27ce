/-! one contract for each call of the law -/
theorem mv_C.kt {l : Launch} {y : MethodName} {ws : List Cond} {rm : Room} {G : mv_G} {sk sv : Nat → Nat} {av : List Value} {σ : mv_H} {P Q : mv_O → mv_H → Prop} (h : mv_C l y ws rm G (mK sk sv) av σ P) (hp : ∀ r τ, P r τ → Q r τ) : mv_C l y ws rm G (mKt sk sv) av σ Q :=
  Jvm.Free.MetFree.mono h (fun _ _ q => ⟨q.1, q.2.1, q.2.2.1, q.2.2.2.1⟩) (fun _ _ _ _ _ q => q) (fun _ _ _ _ _ q => by obtain ⟨r, τ, h1, h2, h3⟩ := q; exact ⟨r, τ, h1, hp r τ h2, h3⟩)
theorem ri_imp {P Q : Int32 → mv_H → Prop} (h : ∀ v τ, P v τ → Q v τ) : ∀ r τ, mv_Ri P r τ → mv_Ri Q r τ := fun r τ g => by obtain ⟨v, h1, h2⟩ := g; exact ⟨v, h1, h v τ h2⟩
theorem rl_imp {P Q : Int64 → mv_H → Prop} (h : ∀ v τ, P v τ → Q v τ) : ∀ r τ, mv_Rl P r τ → mv_Rl Q r τ := fun r τ g => by obtain ⟨v, h1, h2⟩ := g; exact ⟨v, h1, h v τ h2⟩
theorem rv_imp {P Q : mv_H → Prop} (h : ∀ τ, P τ → Q τ) : ∀ r τ, mv_Rv P r τ → mv_Rv Q r τ := fun r τ g => ⟨g.1, h τ g.2⟩
/-- the class, whatever program runs -/
def LI (ext : mv_Sh) (σ : mv_H) (k : Nat) : Prop := LC ext σ 32 32768 512 k ∨ LC ext σ 48 32768 512 k ∨ (ext = me ∧ LC ext σ 145 8192 48 k)
theorem LI.hm {ext : mv_Sh} {σ : mv_H} {k : Nat} (h : LI ext σ k) : mh (mv_r σ) := by
  rcases h with h | h | h
  · exact h.2.2.1.1
  · exact h.2.2.1.1
  · exact h.2.2.2.1.1
/-- the reference, whatever book is open; n bytes are fed -/
def MJ (σ : mv_H) (n : Nat) : Prop := (MI 74 108 σ ∨ MI 108 74 σ) ∧ (mv_i σ 70 1).toInt = n
theorem MI.go {N S : Nat} {σ τ : mv_H} (h : MI N S σ) (g : GOf σ τ) (hm : mh (mv_r τ)) (hN : N = 74 ∨ N = 108) : MI N S τ :=
  ⟨hm, by rw [(g 70 (by omega) (by omega)).2.2.1]; exact h.2.1, by rw [(g 70 (by omega) (by omega)).2.2.1]; exact h.2.2.1, h.2.2.2.fr (fun j _ => by rw [(g N (by omega) (by omega)).1]) (fun o j a b => by rw [(g o (by omega) (by omega)).2.2.2.1])⟩
theorem MJ.go {σ τ : mv_H} {n : Nat} (h : MJ σ n) (g : GOf σ τ) (hm : mh (mv_r τ)) : MJ τ n :=
  ⟨h.1.imp (fun q => q.go g hm (by decide)) (fun q => q.go g hm (by decide)), by rw [(g 70 (by omega) (by omega)).1]; exact h.2⟩
theorem MI.gs {N S : Nat} {σ τ : mv_H} (h : MI N S σ) (g : GS σ τ) (hm : mh (mv_r τ)) (hN : N = 74 ∨ N = 108) (hS : S = 74 ∨ S = 108) : MI N S τ :=
  ⟨hm, by rw [(g.1 70 (by omega) (by omega)).2.2.1, h.2.1]; show some (shI N) = some N; rw [shI_lt (by omega)], by rw [(g.1 70 (by omega) (by omega)).2.2.1, h.2.2.1]; show some (shI S) = some S; rw [shI_lt (by omega)], h.2.2.2.fr (fun j _ => by rw [(g.1 N (by omega) (by omega)).1]) (fun o j a b => by rw [(g.1 o (by omega) (by omega)).2.2.2.1])⟩
theorem MJ.gs {σ τ : mv_H} {n : Nat} (h : MJ σ n) (g : GS σ τ) (hm : mh (mv_r τ)) : MJ τ n :=
  ⟨h.1.imp (fun q => q.gs g hm (by decide) (by decide)) (fun q => q.gs g hm (by decide) (by decide)), by rw [(g.1 70 (by omega) (by omega)).1]; exact h.2⟩
theorem MJ.qf {σ τ : mv_H} {n N S : Nat} (h : MI N S σ) (hz : (mv_i σ 70 1).toInt = n) (f : QF N σ τ) (hN : (N = 74 ∧ S = 108) ∨ (N = 108 ∧ S = 74)) : MJ τ n := by
  have hn : N = 74 ∨ N = 108 := by omega
  refine ⟨?_, by rw [f.sz hn]; exact hz⟩
  have g := h.qf f hn
  rcases hN with ⟨rfl, rfl⟩ | ⟨rfl, rfl⟩
  · exact Or.inl g
  · exact Or.inr g
theorem PO.mm {P R M : Nat} {σ τ : mv_H} (h : PO P R M σ) (g : MM σ τ) (hP : P3 P) : PO P R M τ := by
  have q := hP.b
  exact h.fr (funext fun k => (g P (by omega)).1 k) (fun j a b => funext fun k => (g (P + j) (by omega)).2.2.2.1 k) (fun j _ => (g (P + j) (by omega)).2.2.2.2)
theorem LC.mm {ext : mv_Sh} {P R M k : Nat} {σ τ : mv_H} (h : LC ext σ P R M k) (g : MM σ τ) (hm : mh (mv_r τ)) : LC ext τ P R M k := by
  obtain ⟨h1, h2, h3, h4, h5, h6⟩ := h
  have q := h1.b
  have hr : ∀ o, (o < 70 ∨ 142 ≤ o) → mv_r τ o = mv_r σ o := fun o ho => funext fun k => (g o ho).2.2.1 k
  have hp : ∀ P, P3 P → Ph P (mv_r σ) → Ph P (mv_r τ) := fun P hP z o k v e => by
    have q9 := hP.b
    have ho : o = P ∨ o = P + 11 := by
      unfold mp at e
      by_cases z : o = P
      · exact Or.inl z
      · rw [if_neg z] at e
        by_cases z : o = P + 11
        · exact Or.inr z
        · rw [if_neg z] at e; cases e
    rw [hr o (by omega)]
    exact z o k v e
  have ha : ∀ o, (o < 70 ∨ 142 ≤ o) → mv_a τ o = mv_a σ o := fun o ho => funext fun k => (g o ho).2.2.2.1 k
  have hi : ∀ o, (o < 70 ∨ 142 ≤ o) → mv_i τ o = mv_i σ o := fun o ho => funext fun k => (g o ho).1 k
  exact ⟨h1, h2.fr (by rw [hi 0 (by omega)]) (ha 1 (by omega)), ⟨hm, hp P h1 h3.2.1, by rw [hr 64 (by omega)]; exact h3.2.2⟩, h4.fr (ha 4 (by omega)) (ha 5 (by omega)) (g 6 (by omega)).2.2.2.2 (hi 13 (by omega)) (ha 19 (by omega)) (ha 24 (by omega)), h5.mm g h1, h6.fr (by rw [hr 0 (by omega)]) (hp 145 (Or.inr (Or.inr rfl))) (fun z => z.mm g (Or.inr (Or.inr rfl)))⟩
theorem LI.mm {ext : mv_Sh} {k : Nat} {σ τ : mv_H} (h : LI ext σ k) (g : MM σ τ) (hm : mh (mv_r τ)) : LI ext τ k := by
  rcases h with h | h | h
  · exact Or.inl (h.mm g hm)
  · exact Or.inr (Or.inl (h.mm g hm))
  · exact Or.inr (Or.inr ⟨h.1, h.2.mm g hm⟩)
theorem MJ.hm {σ : mv_H} {n : Nat} (h : MJ σ n) : mh (mv_r σ) := h.1.elim (fun q => q.1) (fun q => q.1)
theorem MJ.fd {σ τ : mv_H} {n n' : Nat} (h : MJ σ n) (f : FD σ τ) (hz : (mv_i τ 70 1).toInt = n') : MJ τ n' := ⟨h.1.imp (fun q => q.fd f (by decide)) (fun q => q.fd f (by decide)), hz⟩
theorem MJ.hf {σ τ : mv_H} {n : Nat} (h : MJ σ n) (f : HFm σ τ) : MJ τ n := ⟨h.1.imp (fun q => q.hf f (by decide)) (fun q => q.hf f (by decide)), by rw [f.1 70 1 (by omega)]; exact h.2⟩
theorem MJ.sm {σ τ : mv_H} {n : Nat} (h : MJ σ n) (f : SM σ τ) : MJ τ n := by
  obtain ⟨h | h, hz⟩ := h
  · exact MJ.qf h hz f.qf (by decide)
  · exact MJ.qf h hz f.qf (by decide)
theorem SM.mm {σ τ : mv_H} (f : SM σ τ) : MM σ τ := (SM.qf (N := 74) f).mm (by decide)
theorem QF.m7 {N : Nat} {σ τ : mv_H} (f : QF N σ τ) (hN : N = 74 ∨ N = 108) : M7 σ τ := ⟨f.mm hN, funext fun k => f.2.2.2.1 _ _ (by omega)⟩
theorem SM.m7 {σ τ : mv_H} (f : SM σ τ) : M7 σ τ := (SM.qf (N := 74) f).m7 (by decide)
/-- the reference's calls: outside nothing changes, INPUT, the open book and the tables stay -/
def M8 (σ τ : mv_H) : Prop := M7 σ τ ∧ MQf σ τ
theorem QF.m8 {N : Nat} {σ τ : mv_H} (f : QF N σ τ) (hN : N = 74 ∨ N = 108) : M8 σ τ := ⟨f.m7 hN, f.mq hN⟩
theorem SM.m8 {σ τ : mv_H} (f : SM σ τ) : M8 σ τ := ⟨f.m7, f.mq⟩
/-- the open book's tables stay -/
def KBq (σ τ : mv_H) : Prop := ∀ N, mv_r σ 70 9 = some N → mv_r τ 70 9 = some N ∧ mv_i τ 70 11 = mv_i σ 70 11 ∧ ∀ s, SRt N s σ → SRt N s τ
theorem KBq.of {N S : Nat} {σ τ : mv_H} (hM : MI N S σ) (h : BMF N σ τ) : KBq σ τ := fun N' e => by
  have e1 := hM.2.1
  rw [e1] at e
  cases e
  exact ⟨h.1.trans e1, h.2.1, fun s q => q.k h.2.2⟩
/-- what free answers -/
def FV (σ : mv_H) (v : Int64) : Prop := ∀ P, mv_r σ 64 0 = some P → v = uC (mv_b σ (P + 5)) (mv_i σ P 0) (mv_i σ P 10).toNatClampNeg
def FW (σ : mv_H) (v : Int64) : Prop := (mv_i σ 70 11 = 0 ∧ ∀ N, mv_r σ 70 9 = some N → v = uR (mv_a σ (N + 10)) (mv_a σ (N + 13)) (mv_i σ N 20) (mv_i σ N 29).toNatClampNeg) ∨ (¬ mv_i σ 70 11 = 0 ∧ v = 4294967296 - shT 48)
theorem FW.of {N S : Nat} {σ : mv_H} {v : Int64} (hM : MI N S σ) (h : (mv_i σ 70 11 = 0 ∧ v = uR (mv_a σ (N + 10)) (mv_a σ (N + 13)) (mv_i σ N 20) (mv_i σ N 29).toNatClampNeg) ∨ (¬ mv_i σ 70 11 = 0 ∧ v = 4294967296 - shT 48)) : FW σ v := by
  rcases h with ⟨a, b⟩ | h
  · refine Or.inl ⟨a, fun N' e => ?_⟩
    have e1 := hM.2.1
    rw [e1] at e
    cases e
    exact b
  · exact Or.inr h
/-- the two INPUTs are one -/
def TEQ (σ : mv_H) : Prop := mv_a σ 1 = mv_a σ 71
/-- whether poke throws -/
def PV (σ : mv_H) (t i v : Int32) : Prop := ∀ P, mv_r σ 64 0 = some P → ((v = 1 ∧ ¬ HSq (mv_i σ P 1) (mv_a σ (P + 2) t.toNatClampNeg) t i) ∨ (v = 0 ∧ HSq (mv_i σ P 1) (mv_a σ (P + 2) t.toNatClampNeg) t i))
def MW (σ τ : mv_H) (t i : Int32) : Prop := ∀ N, mv_r σ 70 9 = some N → ((mv_i τ 70 2 = 1 ∧ ¬ THq N σ t i) ∨ (mv_i τ 70 2 = 0 ∧ THq N σ t i))
theorem PV.gp {σ τ : mv_H} {t i v : Int32} (h : PV σ t i v) (g : GPr σ τ) (hP : ∃ P, mv_r σ 64 0 = some P ∧ (P = 32 ∨ P = 48 ∨ P = 145)) : PV τ t i v := fun P e => by
  obtain ⟨Q, e1, e2⟩ := hP
  rw [g.2] at e
  have e3 := e
  rw [e1] at e3
  cases e3
  rw [(g.1 P (by omega)).1, (g.1 (P + 2) (by omega)).2.1]
  exact h P e
/-- what thing tells -/
def TLV (σ : mv_H) (t i v : Int32) (τ : mv_H) : Prop := ∀ P, mv_r σ 64 0 = some P → ((v = 1 ∧ ¬ WHq i) ∨ (v = 2 ∧ WHq i ∧ ¬ (0 ≤ t.toInt ∧ t.toInt < (mv_i σ P 1).toInt)) ∨ (v = 0 ∧ WHq i ∧ (0 ≤ t.toInt ∧ t.toInt < (mv_i σ P 1).toInt) ∧ mv_b τ 142 0 = (tgC (mv_a σ (P + 1)) (mv_a σ (P + 2)) t i).toInt64))
def TMV (σ : mv_H) (t i v : Int32) (τ : mv_H) : Prop := ∀ N, mv_r σ 70 9 = some N → ((mv_i τ 70 2 = 1 ∧ ¬ WHq i) ∨ (mv_i τ 70 2 = 2 ∧ WHq i ∧ ¬ THq N σ t 0) ∨ (mv_i τ 70 2 = 0 ∧ WHq i ∧ THq N σ t 0 ∧ v = tgR N σ t i))
theorem TLV.gp {σ τ υ : mv_H} {t i v : Int32} (h : TLV σ t i v υ) (g : GPr σ τ) (hP : ∃ P, mv_r σ 64 0 = some P ∧ (P = 32 ∨ P = 48 ∨ P = 145)) : TLV τ t i v υ := fun P e => by
  obtain ⟨Q, e1, e2⟩ := hP
  rw [g.2] at e
  have e3 := e
  rw [e1] at e3
  cases e3
  rw [(g.1 P (by omega)).1, (g.1 (P + 1) (by omega)).2.1, (g.1 (P + 2) (by omega)).2.1]
  exact h P e
/-- the running program's tree decodes, and no word has two ops -/
def TKr (σ : mv_H) : Prop := (mv_r σ 64 0 = some 32 → TreeOK 32 512 σ ∧ UQq 32 σ) ∧ (mv_r σ 64 0 = some 48 → TreeOK 48 512 σ ∧ UQq 48 σ) ∧ (mv_r σ 64 0 = some 145 → TreeOK 145 48 σ)
theorem UQq.fr {P : Nat} {σ τ : mv_H} (h : UQq P σ) (ei : mv_i τ P = mv_i σ P) (e5 : mv_b τ (P + 5) = mv_b σ (P + 5)) (e6 : mv_b τ (P + 6) = mv_b σ (P + 6)) : UQq P τ := by
  unfold UQq MtO at h ⊢
  rw [ei, e5, e6]
  exact h
theorem TKr.fr {σ τ : mv_H} (h : TKr σ) (er : mv_r τ 64 0 = mv_r σ 64 0) (e : ∀ o, ((32 ≤ o ∧ o ≤ 63) ∨ 145 ≤ o) → mv_i τ o = mv_i σ o ∧ mv_a τ o = mv_a σ o ∧ mv_b τ o = mv_b σ o) : TKr τ := by
  have go : ∀ P M, (P = 32 ∨ P = 48 ∨ P = 145) → TreeOK P M σ → TreeOK P M τ := fun P M hP q => q.fr (e P (by omega)).1 (fun j a b => (e (P + j) (by omega)).2.1) (fun j a b => (e (P + j) (by omega)).2.2)
  have gu : ∀ P, (P = 32 ∨ P = 48 ∨ P = 145) → UQq P σ → UQq P τ := fun P hP q => q.fr (e P (by omega)).1 (e (P + 5) (by omega)).2.2 (e (P + 6) (by omega)).2.2
  unfold TKr
  rw [er]
  exact ⟨fun q => ⟨go 32 _ (by decide) (h.1 q).1, gu 32 (by decide) (h.1 q).2⟩, fun q => ⟨go 48 _ (by decide) (h.2.1 q).1, gu 48 (by decide) (h.2.1 q).2⟩, fun q => go 145 _ (by decide) (h.2.2 q)⟩
theorem TKr.gp {σ τ : mv_H} (h : TKr σ) (g : GPr σ τ) : TKr τ := h.fr g.2 g.1
theorem TKr.mm {σ τ : mv_H} (h : TKr σ) (g : MM σ τ) : TKr τ := h.fr ((g 64 (by omega)).2.2.1 0) (fun o q => ⟨funext fun k => (g o (by omega)).1 k, funext fun k => (g o (by omega)).2.2.2.1 k, (g o (by omega)).2.2.2.2⟩)
theorem TKr.ks {σ τ : mv_H} {P : Nat} (h : TKr σ) (e1 : mv_r σ 64 0 = some P) (k1 : mv_r τ 64 0 = some P) (hP : P = 32 ∨ P = 48 ∨ P = 145) (ei : mv_i τ P = mv_i σ P) (ej : ∀ j, j ≤ 15 → mv_a τ (P + j) = mv_a σ (P + j) ∧ mv_b τ (P + j) = mv_b σ (P + j)) : TKr τ := by
  have go : ∀ M, TreeOK P M σ → TreeOK P M τ := fun M q => q.fr ei (fun j a b => (ej j b).1) (fun j a b => (ej j (by omega)).2)
  have gu : UQq P σ → UQq P τ := fun q => q.fr ei (ej 5 (by decide)).2 (ej 6 (by decide)).2
  refine ⟨fun q => ?_, fun q => ?_, fun q => ?_⟩
  · rw [k1] at q
    have q := Option.some.inj q
    subst q
    exact ⟨go _ (h.1 e1).1, gu (h.1 e1).2⟩
  · rw [k1] at q
    have q := Option.some.inj q
    subst q
    exact ⟨go _ (h.2.1 e1).1, gu (h.2.1 e1).2⟩
  · rw [k1] at q
    have q := Option.some.inj q
    subst q
    exact go _ (h.2.2 e1)
theorem TKr.bd {σ : mv_H} {X : TX} {T : Nat} {s : SI} (t2 : mv_r σ 64 0 = some T) (hT : T = 32 ∨ T = 48) (sp : SPq T s σ) (tr : TreeOK T 512 σ) (hs : sOK X = some s) : TKr σ := by
  have ha : aptL (s.ops.map Prod.snd) = true := by
    unfold sOK at hs
    cases hx : sTx X with
    | none => rw [hx] at hs; cases hs
    | some s' =>
      rw [hx] at hs
      have hs : (if aptL (s'.ops.map Prod.snd) = true then some s' else none) = some s := hs
      by_cases z : aptL (s'.ops.map Prod.snd) = true
      · rw [if_pos z] at hs
        cases hs
        exact z
      · rw [if_neg z] at hs
        cases hs
  have u := uq_of sp ha
  refine ⟨fun q => ?_, fun q => ?_, fun q => ?_⟩
  · rw [t2] at q
    have q := Option.some.inj q
    subst q
    exact ⟨tr, u⟩
  · rw [t2] at q
    have q := Option.some.inj q
    subst q
    exact ⟨tr, u⟩
  · rw [t2] at q
    have q := Option.some.inj q
    omega
theorem TKr.sh {σ : mv_H} (h : mv_r σ 64 0 = some 145) (s : SHP σ) : TKr σ := by
  refine ⟨fun q => ?_, fun q => ?_, fun _ => s.2.1.1.2.2.1⟩
  · rw [h] at q; exact absurd (Option.some.inj q) (by decide)
  · rw [h] at q; exact absurd (Option.some.inj q) (by decide)
/-- class and reference run the same program; where the shipped one is made, its codes are known -/
def CQq (ext : mv_Sh) (σ : mv_H) : Prop := (∃ P N, mv_r σ 64 0 = some P ∧ mv_r σ 70 9 = some N ∧ (N = 74 ∨ N = 108) ∧ ((mv_i σ 70 11 = 0 ∧ (P = 32 ∨ P = 48) ∧ ∃ s, SPq P s σ ∧ SRt N s σ) ∨ (¬ mv_i σ 70 11 = 0 ∧ P = 145))) ∧ (ext = me → SHP σ) ∧ TKr σ
theorem SPq.mm {P : Nat} {s : SI} {σ τ : mv_H} (h : SPq P s σ) (g : MM σ τ) (hP : P = 32 ∨ P = 48 ∨ P = 145) : SPq P s τ := h.fr (fun k _ => (g P (by omega)).1 k) (fun o k ho _ => by rw [(g o (by omega)).2.2.2.2]) (fun o k ho _ => (g o (by omega)).2.2.2.1 k) (fun k _ => (g (P + 8) (by omega)).2.2.2.1 k)
theorem SHP.mm {σ τ : mv_H} (h : SHP σ) (g : MM σ τ) : SHP τ := h.fr (fun o a b => ⟨funext fun k => (g o (by omega)).1 k, funext fun k => (g o (by omega)).2.2.2.1 k, (g o (by omega)).2.2.2.2⟩)
theorem SRt.go {N : Nat} {s : SI} {σ τ : mv_H} (h : SRt N s σ) (g : GOf σ τ) (hN : N = 74 ∨ N = 108) : SRt N s τ := h.k ⟨fun k _ => by rw [(g N (by omega) (by omega)).1], fun o x y => (g o (by omega) (by omega)).2.2.2.1⟩
theorem CQq.c {ext : mv_Sh} {σ τ : mv_H} (h : CQq ext σ) (g : GOf σ τ) (p : GPr σ τ) : CQq ext τ := by
  obtain ⟨⟨P, N, h1, h2, h3, h4⟩, h5⟩ := h
  have e70 := g 70 (by omega) (by omega)
  refine ⟨⟨P, N, p.2.trans h1, by rw [e70.2.2.1]; exact h2, h3, ?_⟩, fun z => (h5.1 z).fr (fun o a b => p.1 o (by omega)), h5.2.gp p⟩
  rw [e70.1]
  rcases h4 with ⟨a, b, s, c, d⟩ | h4
  · exact Or.inl ⟨a, b, s, c.gp p (by omega), d.go g h3⟩
  · exact Or.inr h4
theorem CQq.m {ext : mv_Sh} {σ τ : mv_H} (h : CQq ext σ) (g : MM σ τ) (q : MQf σ τ) : CQq ext τ := by
  obtain ⟨⟨P, N, h1, h2, h3, h4⟩, h5⟩ := h
  refine ⟨⟨P, N, by rw [(g 64 (by omega)).2.2.1 0]; exact h1, q.1.trans h2, h3, ?_⟩, fun z => (h5.1 z).mm g, h5.2.mm g⟩
  rw [q.2.1]
  rcases h4 with ⟨a, b, s, c, d⟩ | h4
  · refine Or.inl ⟨a, b, s, c.mm g (by omega), ?_⟩
    rcases h3 with z | z
    · subst z; exact d.k q.2.2.1
    · subst z; exact d.k q.2.2.2
  · exact Or.inr h4
theorem CQq.bd {ext : mv_Sh} {σ τ υ : mv_H} {X : TX} {v w : Int32} (h : CQq ext σ) (hG : GOb σ τ) (hW : BW X v τ) (hK : KH σ τ v) (hM : MM τ υ) (hB : BM X w υ) (hQ : mv_i υ 70 2 = 1 → KBq τ υ) : CQq ext υ := by
  obtain ⟨⟨P, N, h1, h2, h3, h4⟩, h5⟩ := h
  have e70 := hG.1 70 (by omega) (by omega)
  have hS : ext = me → SHP υ := fun z => ((h5.1 z).fr hK.2).mm hM
  rcases hW with ⟨a, b⟩ | ⟨a, s, b, -, T, t1, t2, t3, t4⟩
  · rcases hB with ⟨c, d⟩ | ⟨c, s', d, -⟩
    · obtain ⟨k1, k2, kP, ki, kj⟩ := hK.1 a P h1
      have n1 : mv_r τ 70 9 = some N := by rw [e70.2.2.1]; exact h2
      obtain ⟨q1, q2, q3⟩ := hQ c N n1
      refine ⟨⟨P, N, by rw [(hM 64 (by omega)).2.2.1 0]; exact k1, q1, h3, ?_⟩, hS, (h5.2.ks h1 k1 kP ki kj).mm hM⟩
      rw [q2, e70.1]
      rcases h4 with ⟨x1, x2, s, x3, x4⟩ | h4
      · exact Or.inl ⟨x1, x2, s, (k2 s x3).mm hM (by omega), q3 s (x4.go hG.1 h3)⟩
      · exact Or.inr h4
    · rw [b] at d; cases d
  · rcases hB with ⟨c, d⟩ | ⟨c, s', d, -, i11, N', n1, n2, n3⟩
    · rw [b] at d; cases d
    · rw [b] at d
      cases d
      exact ⟨⟨T, N', by rw [(hM 64 (by omega)).2.2.1 0]; exact t2, n2, n1, Or.inl ⟨i11, t1, s, t3.mm hM (by omega), n3⟩⟩, hS, (TKr.bd t2 t1 t3 t4 b).mm hM⟩
theorem CQq.p {ext : mv_Sh} {σ : mv_H} (h : CQq ext σ) : ∃ P, mv_r σ 64 0 = some P ∧ (P = 32 ∨ P = 48 ∨ P = 145) := by
  obtain ⟨⟨P, N, h1, -, -, h4⟩, -⟩ := h
  exact ⟨P, h1, by rcases h4 with h4 | h4 <;> omega⟩
theorem cq_me {ext : mv_Sh} {σ : mv_H} {k : Nat} (hL : LI ext σ k) (h1 : mv_r σ 64 0 = some 145) : ext = me ∧ mv_i σ 145 10 = 48 := by
  rcases hL with q | q | q
  · rw [q.2.2.1.2.2] at h1
    exact absurd (Option.some.inj h1) (by decide)
  · rw [q.2.2.1.2.2] at h1
    exact absurd (Option.some.inj h1) (by decide)
  · exact ⟨q.1, LC48 q.2⟩
theorem hs_eq {ext : mv_Sh} {σ : mv_H} {k P N : Nat} (h : CQq ext σ) (hL : LI ext σ k) (h1 : mv_r σ 64 0 = some P) (h2 : mv_r σ 70 9 = some N) (t i : Int32) : HSq (mv_i σ P 1) (mv_a σ (P + 2) t.toNatClampNeg) t i ↔ THq N σ t i := by
  obtain ⟨⟨P', N', g1, g2, g3, g4⟩, g5⟩ := h
  have g1' := g1
  rw [h1] at g1'
  cases g1'
  rw [h2] at g2
  cases g2
  unfold THq thM thN
  rcases g4 with ⟨a, b, s, c, d⟩ | ⟨a, b⟩
  · rw [if_pos a, if_pos a]
    obtain ⟨-, c2, -, -, ⟨-, c5, -, -⟩, -, c7, -⟩ := c
    obtain ⟨-, d2, -, -, -, -, d7⟩ := d
    rw [c2, d2]
    have key : 0 ≤ t.toInt → t.toInt < (nI s.tl.length).toInt → mv_a σ (P + 2) t.toNatClampNeg = (if mv_a σ (N + 6) t.toNatClampNeg = 0 then 0 else mv_a σ (N + 4) t.toNatClampNeg) := fun x y => by
      have z := i32_cl x
      rw [nIi (by omega)] at y
      have hi : t.toNatClampNeg < s.tl.length := by omega
      obtain ⟨-, u2, -, -⟩ := c7 _ hi
      obtain ⟨-, -, w3, w4⟩ := d7 _ hi
      rw [u2]
      by_cases q : mv_a σ (N + 6) t.toNatClampNeg = 0
      · rw [if_pos q, w4.mp q]; rfl
      · rw [if_neg q, w3]
    constructor
    · intro q; exact ⟨q.1, q.2.1, q.2.2.1, by rw [← key q.1 q.2.1]; exact q.2.2.2⟩
    · intro q; exact ⟨q.1, q.2.1, q.2.2.1, by rw [key q.1 q.2.1]; exact q.2.2.2⟩
  · subst b
    obtain ⟨-, -, s1, -, s2, s3, s4⟩ := g5.1 (cq_me hL h1).1
    rw [if_neg a, if_neg a, s1]
    have key : 0 ≤ t.toInt → t.toInt < (nI 3).toInt → mv_a σ (145 + 2) t.toNatClampNeg = (if t = 0 then 0 else if t = 1 then 32 else 32768) := fun x y => by
      have y : t.toInt < 3 := y
      rcases (show t.toInt = 0 ∨ t.toInt = 1 ∨ t.toInt = 2 by omega) with z | z | z
      · have z := Int32.toInt_inj.mp (z.trans (show (0 : Int) = (0 : Int32).toInt by decide))
        subst z; rw [if_pos rfl]; exact s2
      · have z := Int32.toInt_inj.mp (z.trans (show (1 : Int) = (1 : Int32).toInt by decide))
        subst z; rw [if_neg (by decide), if_pos rfl]; exact s3
      · have z := Int32.toInt_inj.mp (z.trans (show (2 : Int) = (2 : Int32).toInt by decide))
        subst z; rw [if_neg (by decide), if_neg (by decide)]; exact s4
    constructor
    · intro q; exact ⟨q.1, q.2.1, q.2.2.1, by rw [← key q.1 q.2.1]; exact q.2.2.2⟩
    · intro q; exact ⟨q.1, q.2.1, q.2.2.1, by rw [key q.1 q.2.1]; exact q.2.2.2⟩
theorem po_thr {ext : mv_Sh} {σ τ : mv_H} {k : Nat} {t i v : Int32} (h : CQq ext σ) (hL : LI ext σ k) (hV : PV σ t i v) (hW : MW σ τ t i) : mv_i τ 70 2 = v := by
  obtain ⟨⟨P, N, h1, h2, -⟩, -⟩ := id h
  have e := hs_eq h hL h1 h2 t i
  rcases hV P h1 with ⟨a, b⟩ | ⟨a, b⟩ <;> rcases hW N h2 with ⟨c, d⟩ | ⟨c, d⟩
  · rw [a, c]
  · exact absurd (e.mpr d) b
  · exact absurd (e.mp b) d
  · rw [a, c]
/-- the class's cells, as the reference has them -/
theorem tn_eq {ext : mv_Sh} {σ : mv_H} {k P N : Nat} (h : CQq ext σ) (hL : LI ext σ k) (h1 : mv_r σ 64 0 = some P) (h2 : mv_r σ 70 9 = some N) {t : Int32} (x : 0 ≤ t.toInt) (y : t.toInt < (mv_i σ P 1).toInt) : mv_a σ (P + 2) t.toNatClampNeg = thN N σ t ∧ (mv_a σ (P + 2) t.toNatClampNeg = 0 ∨ 0 < (mv_a σ (P + 2) t.toNatClampNeg).toInt) ∧ ∀ i, WHq i → tgC (mv_a σ (P + 1)) (mv_a σ (P + 2)) t i = tgR N σ t i := by
  obtain ⟨⟨P', N', g1, g2, g3, g4⟩, g5⟩ := h
  have g1' := g1
  rw [h1] at g1'
  cases g1'
  rw [h2] at g2
  cases g2
  rcases g4 with ⟨a, b, s, c, d⟩ | ⟨a, b⟩
  · obtain ⟨-, c2, -, -, ⟨-, c5, -, -⟩, -, c7, -⟩ := c
    obtain ⟨-, d2, -, -, -, -, d7⟩ := d
    rw [c2, nIi (by omega)] at y
    have z := i32_cl x
    have hi : t.toNatClampNeg < s.tl.length := by omega
    obtain ⟨u1, u2, -, u4⟩ := c7 _ hi
    obtain ⟨-, w2, w3, w4⟩ := d7 _ hi
    have e1 : mv_a σ (P + 2) t.toNatClampNeg = thN N σ t := by
      unfold thN
      rw [if_pos a, u2]
      by_cases q : mv_a σ (N + 6) t.toNatClampNeg = 0
      · rw [if_pos q, w4.mp q]; rfl
      · rw [if_neg q, w3]
    refine ⟨e1, ?_, fun i hi => ?_⟩
    · rw [u2]
      by_cases q : (s.tl.getD t.toNatClampNeg (0, 0, false)).2.1 = 0
      · rw [q]; exact Or.inl rfl
      · refine Or.inr ?_
        rw [nIi (by omega)]
        omega
    · unfold tgC tgR
      rw [if_pos a]
      rcases hi with hi | hi
      · rw [if_pos hi, if_pos hi, u1, w2]
      · rw [if_neg (by rw [hi]; decide), if_neg (by rw [hi]; decide)]
        exact e1
  · subst b
    obtain ⟨-, -, s1, ⟨r1, r2, r3⟩, s2, s3, s4⟩ := g5.1 (cq_me hL h1).1
    rw [s1] at y
    have y : t.toInt < 3 := y
    have fin : ∀ (T : Int32) (c w : Nat), t = T → mv_a σ (145 + 2) T.toNatClampNeg = nI c → c ≤ 65536 → mv_a σ (145 + 1) T.toNatClampNeg = nI w → nI c = (if T = 0 then 0 else if T = 1 then 32 else 32768) → nI w = (if T = 2 then 8 else 32) → mv_a σ (145 + 2) t.toNatClampNeg = thN N σ t ∧ (mv_a σ (145 + 2) t.toNatClampNeg = 0 ∨ 0 < (mv_a σ (145 + 2) t.toNatClampNeg).toInt) ∧ ∀ i, WHq i → tgC (mv_a σ (145 + 1)) (mv_a σ (145 + 2)) t i = tgR N σ t i := fun T c w hT hc hc2 hw ec ew => by
      subst hT
      have e1 : mv_a σ (145 + 2) t.toNatClampNeg = thN N σ t := by
        unfold thN
        rw [if_neg a, hc]
        exact ec
      refine ⟨e1, ?_, fun i hi => ?_⟩
      · rw [hc]
        by_cases q : c = 0
        · rw [q]; exact Or.inl rfl
        · refine Or.inr ?_
          rw [nIi (by omega)]
          omega
      · unfold tgC tgR
        rw [if_neg a]
        rcases hi with hi | hi
        · rw [if_pos hi, if_pos hi, hw]
          exact ew
        · rw [if_neg (by rw [hi]; decide), if_neg (by rw [hi]; decide)]
          exact e1
    rcases (show t.toInt = 0 ∨ t.toInt = 1 ∨ t.toInt = 2 by omega) with z | z | z
    · exact fin 0 0 32 (Int32.toInt_inj.mp (z.trans (show (0 : Int) = (0 : Int32).toInt by decide))) s2 (by decide) r1 (by decide) (by decide)
    · exact fin 1 32 32 (Int32.toInt_inj.mp (z.trans (show (1 : Int) = (1 : Int32).toInt by decide))) s3 (by decide) r2 (by decide) (by decide)
    · exact fin 2 32768 8 (Int32.toInt_inj.mp (z.trans (show (2 : Int) = (2 : Int32).toInt by decide))) s4 (by decide) r3 (by decide) (by decide)
theorem rg_eq {ext : mv_Sh} {σ : mv_H} {k P N : Nat} (h : CQq ext σ) (hL : LI ext σ k) (h1 : mv_r σ 64 0 = some P) (h2 : mv_r σ 70 9 = some N) (t : Int32) : (0 ≤ t.toInt ∧ t.toInt < (mv_i σ P 1).toInt) ↔ THq N σ t 0 := by
  have e := hs_eq h hL h1 h2 t 0
  constructor
  · intro q
    obtain ⟨-, a, -⟩ := tn_eq h hL h1 h2 q.1 q.2
    refine e.mp ⟨q.1, q.2, (show (0 : Int) ≤ 0 by decide), ?_⟩
    by_cases z : mv_a σ (P + 2) t.toNatClampNeg = 0
    · exact Or.inl ⟨z, rfl⟩
    · exact Or.inr ⟨z, a.resolve_left z⟩
  · intro q
    have w := e.mpr q
    exact ⟨w.1, w.2.1⟩
theorem tg_thr {ext : mv_Sh} {σ τ υ : mv_H} {k : Nat} {t i v w : Int32} (h : CQq ext σ) (hL : LI ext σ k) (hV : TLV σ t i v υ) (hW : TMV σ t i w τ) : mv_i τ 70 2 = v ∧ (v = 0 → mv_b υ 142 0 = w.toInt64) := by
  obtain ⟨⟨P, N, h1, h2, -⟩, -⟩ := id h
  have e := rg_eq h hL h1 h2 t
  rcases hV P h1 with ⟨a, b⟩ | ⟨a, b, c⟩ | ⟨a, b, c, d⟩ <;> rcases hW N h2 with ⟨a', b'⟩ | ⟨a', b', c'⟩ | ⟨a', b', c', d'⟩
  · exact ⟨a'.trans a.symm, fun z => by rw [a] at z; exact absurd z (by decide)⟩
  · exact absurd b' b
  · exact absurd b' b
  · exact absurd b b'
  · exact ⟨a'.trans a.symm, fun z => by rw [a] at z; exact absurd z (by decide)⟩
  · exact absurd (e.mpr c') c
  · exact absurd b b'
  · exact absurd (e.mp c) c'
  · refine ⟨a'.trans a.symm, fun _ => ?_⟩
    obtain ⟨-, -, q⟩ := tn_eq h hL h1 h2 c.1 c.2
    rw [d, d', q i b]
/-- between the two ships -/
def CS9 (σ : mv_H) : Prop := (∃ N, mv_r σ 70 9 = some N ∧ (N = 74 ∨ N = 108)) ∧ mv_r σ 64 0 = some 145 ∧ SHP σ
theorem CS9.gs {ext : mv_Sh} {σ τ : mv_H} (h : CQq ext σ) (g : GS σ τ) (hr : mv_r τ 64 0 = some 145) (hs : SHP τ) : CS9 τ := by
  obtain ⟨⟨P, N, -, h2, h3, -⟩, -⟩ := h
  refine ⟨⟨N, ?_, h3⟩, hr, hs⟩
  rw [(g.1 70 (by omega) (by omega)).2.2.1, h2]
  show some (shI N) = some N
  rw [shI_lt (by omega)]
theorem CS9.go {σ τ : mv_H} (h : CQq me σ) (g : GOb σ τ) (hr : mv_r τ 64 0 = some 145) (hs : SHP σ → SHP τ) : CS9 τ := by
  obtain ⟨⟨P, N, -, h2, h3, -⟩, h5⟩ := h
  exact ⟨⟨N, by rw [(g.1 70 (by omega) (by omega)).2.2.1]; exact h2, h3⟩, hr, hs (h5.1 rfl)⟩
theorem CQq.sh {σ τ : mv_H} (h : CS9 σ) (g : MM σ τ) (hr : mv_r τ 70 9 = mv_r σ 70 9) (h1 : mv_i τ 70 11 = 1) : CQq me τ := by
  obtain ⟨⟨N, n1, n2⟩, h2, h3⟩ := h
  exact ⟨⟨145, N, by rw [(g 64 (by omega)).2.2.1 0]; exact h2, hr.trans n1, n2, Or.inr ⟨by rw [h1]; decide, rfl⟩⟩, fun _ => h3.mm g, (TKr.sh h2 h3).mm g⟩
/-- what decode answers -/
def DLV (σ : mv_H) (w : Int64) (v : Int32) : Prop := ∀ P, mv_r σ 64 0 = some P → DCq P σ w v
def DMV (σ : mv_H) (w : Int64) (v : Int32) : Prop := (mv_i σ 70 11 = 0 ∧ ∀ N, mv_r σ 70 9 = some N → DRq N σ w v) ∨ (¬ mv_i σ 70 11 = 0 ∧ v = sOv w.toInt32)
theorem DLV.gp {σ τ : mv_H} {w : Int64} {v : Int32} (h : DLV σ w v) (g : GPr σ τ) (hP : ∃ P, mv_r σ 64 0 = some P ∧ (P = 32 ∨ P = 48 ∨ P = 145)) : DLV τ w v := fun P e => by
  obtain ⟨Q, e1, e2⟩ := hP
  rw [g.2] at e
  have e3 := e
  rw [e1] at e3
  cases e3
  unfold DCq MtO
  rw [(g.1 P (by omega)).1, (g.1 (P + 5) (by omega)).2.2, (g.1 (P + 6) (by omega)).2.2]
  exact h P e
theorem dc_eq {ext : mv_Sh} {σ : mv_H} {k : Nat} {w : Int64} {v x : Int32} (h : CQq ext σ) (hL : LI ext σ k) (hV : DLV σ w v) (hW : DMV σ w x) : v = x := by
  obtain ⟨⟨P, N, h1, h2, h3, h4⟩, h5⟩ := h
  have hv := hV P h1
  rcases h4 with ⟨a, b, s, sp, sr⟩ | ⟨a, b⟩
  · rcases hW with ⟨-, hw⟩ | ⟨z, -⟩
    · refine bk_dc sp sr ?_ hv (hw N h2)
      rcases b with b | b
      · subst b; exact (h5.2.1 h1).2
      · subst b; exact (h5.2.2.1 h1).2
    · exact absurd a z
  · subst b
    obtain ⟨hx1, hx2⟩ := cq_me hL h1
    rcases hW with ⟨z, -⟩ | ⟨-, hw⟩
    · exact absurd z a
    · rw [hw]
      exact sh_dc (h5.1 hx1).2.1.1.2.1 hx2 hv
/-- what field answers -/
def FLV (σ : mv_H) (o c : Int32) (w : Int64) (v : Int32) (τ : mv_H) : Prop := ∀ P, mv_r σ 64 0 = some P → ((v = 1 ∧ MKq P σ o c 0) ∨ (v = 0 ∧ ∃ m, MKq P σ o c m ∧ ¬ m = 0 ∧ GA w.toBitVec m.toBitVec (mv_b τ 142 0).toBitVec))
def FMV (σ : mv_H) (o c : Int32) (w v : Int64) (τ : mv_H) : Prop := ∀ N, mv_r σ 70 9 = some N → FRq N σ o c w v (mv_i τ 70 2)
theorem FLV.gp {σ τ υ : mv_H} {o c v : Int32} {w : Int64} (h : FLV σ o c w v υ) (g : GPr σ τ) (hP : ∃ P, mv_r σ 64 0 = some P ∧ (P = 32 ∨ P = 48 ∨ P = 145)) : FLV τ o c w v υ := fun P e => by
  obtain ⟨Q, e1, e2⟩ := hP
  rw [g.2] at e
  have e3 := e
  rw [e1] at e3
  cases e3
  unfold MKq
  rw [(g.1 P (by omega)).1, (g.1 (P + 8) (by omega)).2.1]
  exact h P e
theorem fl_thr {ext : mv_Sh} {σ τ υ : mv_H} {k : Nat} {o c v : Int32} {w x : Int64} (h : CQq ext σ) (hL : LI ext σ k) (hV : FLV σ o c w v υ) (hW : FMV σ o c w x τ) : mv_i τ 70 2 = v ∧ (v = 0 → mv_b υ 142 0 = x) := by
  obtain ⟨⟨P, N, h1, h2, h3, h4⟩, h5⟩ := h
  have hv := hV P h1
  have hw := hW N h2
  rcases h4 with ⟨a, b, s, sp, sr⟩ | ⟨a, b⟩
  · rcases hw with ⟨-, hw⟩ | ⟨z, -⟩
    · rcases hv with ⟨v1, hm⟩ | ⟨v1, m, hm, hz, hg⟩
      · obtain ⟨q1, q2⟩ := bk_fd sp sr hm
        rcases hw with ⟨t1, t2⟩ | ⟨t1, t2, t3⟩
        · exact ⟨t1.trans v1.symm, fun z => by rw [v1] at z; exact absurd z (by decide)⟩
        · exact absurd t2 (q1.mp rfl)
      · obtain ⟨q1, q2⟩ := bk_fd sp sr hm
        rcases hw with ⟨t1, t2⟩ | ⟨t1, t2, t3⟩
        · exact absurd (q1.mpr t2) hz
        · refine ⟨t1.trans v1.symm, fun _ => ?_⟩
          rw [q2 t2] at hg
          exact Int64.toBitVec_inj.mp (hg.eq t3)
    · exact absurd a z
  · subst b
    obtain ⟨hx1, hx2⟩ := cq_me hL h1
    rcases hw with ⟨z, -⟩ | ⟨-, hw⟩
    · exact absurd z a
    · rcases hv with ⟨v1, hm⟩ | ⟨v1, m, hm, hz, hg⟩
      · obtain ⟨q1, q2⟩ := sh_fd (w := w) (h5.1 hx1) hx2 hm
        rcases hw with ⟨t1, t2⟩ | ⟨t1, t2, t3⟩
        · exact ⟨t1.trans v1.symm, fun z => by rw [v1] at z; exact absurd z (by decide)⟩
        · exact absurd t2 (q1.mp rfl)
      · obtain ⟨q1, q2⟩ := sh_fd (w := w) (h5.1 hx1) hx2 hm
        rcases hw with ⟨t1, t2⟩ | ⟨t1, t2, t3⟩
        · exact absurd (q1.mpr t2) hz
        · refine ⟨t1.trans v1.symm, fun _ => ?_⟩
          rw [t3]
          exact Int64.toBitVec_inj.mp (hg.eq (q2 t2))

set_option maxRecDepth 100000 in
theorem u_Law_field (l : Launch) {dA : FieldType → ClassId} {D : va_G} {al : Nat → Nat} {ext : mv_Sh} {sk sv : Nat → Nat} (hi : mv_inj (mg dA D al ext)) (σ : mv_H) (hlt : l.stackTraces = false) (o9 c9 : Int32) (w9 : Int64) (k9 : Nat) (hC : LI ext σ k9) : mv_C l y_Law_field (Cond.codeWith y_Law_field b_Law_field 7 (Option.some Jvm.ClassFile.FieldType.int) [((0 : Nat), (11 : Nat), (14 : Nat), (34 : Nat))] :: ma) ({ frames := 7, cells := 1, slots := 6, locals := 107 }) (mg dA D al ext) (mKt sk sv) [.ref (al 0), .int o9, .int c9, .long w9, .ref (al 142)] σ (mv_Ri (fun v σ1 => (GL σ σ1 ∧ LI ext σ1 k9) ∧ FLV σ o9 c9 w9 v σ1)) := by
  rcases hC with hC | hC | hC
  · exact (c_Law_field_a l hi σ hlt o9 c9 w9 k9 hC).imp (ri_imp fun v τ h => ⟨⟨h.1, Or.inl (h.2.1)⟩, fun P e => by rw [hC.2.2.1.2.2] at e; cases e; exact h.2.2⟩)
  · exact (c_Law_field_b l hi σ hlt o9 c9 w9 k9 hC).imp (ri_imp fun v τ h => ⟨⟨h.1, Or.inr (Or.inl (h.2.1))⟩, fun P e => by rw [hC.2.2.1.2.2] at e; cases e; exact h.2.2⟩)
  · obtain ⟨rfl, hC⟩ := hC
    exact (c_Law_field_c l hi σ hlt o9 c9 w9 k9 hC).imp (ri_imp fun v τ h => ⟨⟨h.1, Or.inr (Or.inr ⟨rfl, h.2.1⟩)⟩, fun P e => by rw [hC.2.2.1.2.2] at e; cases e; exact h.2.2⟩)
set_option maxRecDepth 100000 in
theorem u_Law_thing (l : Launch) {dA : FieldType → ClassId} {D : va_G} {al : Nat → Nat} {ext : mv_Sh} {sk sv : Nat → Nat} (hi : mv_inj (mg dA D al ext)) (σ : mv_H) (hlt : l.stackTraces = false) (t9 i9 : Int32) (k9 : Nat) (hC : LI ext σ k9) : mv_C l y_Law_thing (Cond.codeWith y_Law_thing b_Law_thing 5 (Option.some Jvm.ClassFile.FieldType.int) [((0 : Nat), (10 : Nat), (13 : Nat), (19 : Nat)), ((0 : Nat), (10 : Nat), (17 : Nat), (34 : Nat))] :: ma) ({ frames := 7, cells := 1, slots := 6, locals := 104 }) (mg dA D al ext) (mKt sk sv) [.ref (al 0), .int t9, .int i9, .ref (al 142)] σ (mv_Ri (fun v σ1 => (GL σ σ1 ∧ LI ext σ1 k9) ∧ TLV σ t9 i9 v σ1)) := by
  rcases hC with hC | hC | hC
  · exact (c_Law_thing_a l hi σ hlt t9 i9 k9 hC).imp (ri_imp fun v τ h => ⟨⟨h.1, Or.inl (h.2.1)⟩, fun P e => by rw [hC.2.2.1.2.2] at e; cases e; exact h.2.2⟩)
  · exact (c_Law_thing_b l hi σ hlt t9 i9 k9 hC).imp (ri_imp fun v τ h => ⟨⟨h.1, Or.inr (Or.inl (h.2.1))⟩, fun P e => by rw [hC.2.2.1.2.2] at e; cases e; exact h.2.2⟩)
  · obtain ⟨rfl, hC⟩ := hC
    exact (c_Law_thing_c l hi σ hlt t9 i9 k9 hC).imp (ri_imp fun v τ h => ⟨⟨h.1, Or.inr (Or.inr ⟨rfl, h.2.1⟩)⟩, fun P e => by rw [hC.2.2.1.2.2] at e; cases e; exact h.2.2⟩)
set_option maxRecDepth 100000 in
theorem u_Law_fault (l : Launch) {dA : FieldType → ClassId} {D : va_G} {al : Nat → Nat} {ext : mv_Sh} {sk sv : Nat → Nat} (hi : mv_inj (mg dA D al ext)) (σ : mv_H) (hlt : l.stackTraces = false) (n9 : Int32) (k9 : Nat) (hC : LI ext σ k9) : mv_C l y_Law_fault (Cond.codeWith y_Law_fault b_Law_fault 4 (Option.some Jvm.ClassFile.FieldType.int) [((0 : Nat), (9 : Nat), (12 : Nat), (19 : Nat))] :: ma) ({ frames := 7, cells := 1, slots := 6, locals := 102 }) (mg dA D al ext) (mKt sk sv) [.ref (al 0), .int n9, .ref (al 142)] σ (mv_Ri (fun v σ1 => GL σ σ1 ∧ LI ext σ1 k9)) := by
  rcases hC with hC | hC | hC
  · exact (c_Law_fault l hi σ hlt n9 _ _ _ k9 hC).imp (ri_imp fun v τ h => ⟨h.1, Or.inl (h.2)⟩)
  · exact (c_Law_fault l hi σ hlt n9 _ _ _ k9 hC).imp (ri_imp fun v τ h => ⟨h.1, Or.inr (Or.inl (h.2))⟩)
  · obtain ⟨rfl, hC⟩ := hC
    exact (c_Law_fault l hi σ hlt n9 _ _ _ k9 hC).imp (ri_imp fun v τ h => ⟨h.1, Or.inr (Or.inr ⟨rfl, h.2⟩)⟩)
set_option maxRecDepth 100000 in
theorem u_Law_end (l : Launch) {dA : FieldType → ClassId} {D : va_G} {al : Nat → Nat} {ext : mv_Sh} {sk sv : Nat → Nat} (hi : mv_inj (mg dA D al ext)) (σ : mv_H) (hlt : l.stackTraces = false) (n9 : Int32) (k9 : Nat) (hC : LI ext σ k9) : mv_C l y_Law_end (Cond.codeWith y_Law_end b_Law_end 4 (Option.some Jvm.ClassFile.FieldType.int) [((0 : Nat), (9 : Nat), (12 : Nat), (19 : Nat))] :: ma) ({ frames := 7, cells := 1, slots := 6, locals := 102 }) (mg dA D al ext) (mKt sk sv) [.ref (al 0), .int n9, .ref (al 142)] σ (mv_Ri (fun v σ1 => GL σ σ1 ∧ LI ext σ1 (if n9.toInt < 0 ∨ (k9 : Int) < n9.toInt then k9 else k9 - n9.toInt.toNat) ∧ EN n9 k9 v σ1)) := by
  rcases hC with hC | hC | hC
  · exact (c_Law_end l hi σ hlt n9 _ _ _ k9 hC).imp (ri_imp fun v τ h => ⟨h.1, Or.inl (h.2.1), h.2.2⟩)
  · exact (c_Law_end l hi σ hlt n9 _ _ _ k9 hC).imp (ri_imp fun v τ h => ⟨h.1, Or.inr (Or.inl (h.2.1)), h.2.2⟩)
  · obtain ⟨rfl, hC⟩ := hC
    exact (c_Law_end l hi σ hlt n9 _ _ _ k9 hC).imp (ri_imp fun v τ h => ⟨h.1, Or.inr (Or.inr ⟨rfl, h.2.1⟩), h.2.2⟩)
set_option maxRecDepth 100000 in
theorem u_Law_feed (l : Launch) {dA : FieldType → ClassId} {D : va_G} {al : Nat → Nat} {ext : mv_Sh} {sk sv : Nat → Nat} (hi : mv_inj (mg dA D al ext)) (σ : mv_H) (hlt : l.stackTraces = false) (a9 b9 c9 d9 e9 : Int32) (k9 : Nat) (hC : LI ext σ k9) (hk : k9 + 20 ≤ 32768) : mv_C l y_Law_feed (Cond.codeWith y_Law_feed b_Law_feed 8 (Option.some Jvm.ClassFile.FieldType.int) [((0 : Nat), (16 : Nat), (19 : Nat), (13 : Nat))] :: ma) ({ frames := 2, cells := 0, slots := 0, locals := 47 }) (mg dA D al ext) (mKt sk sv) [.ref (al 0), .int a9, .int b9, .int c9, .int d9, .int e9, .ref (al 142)] σ (mv_Ri (fun v σ1 => v = 0 ∧ LI ext σ1 (k9 + 20) ∧ (GOf σ σ1 ∧ FE σ σ1 k9 20 (fb a9 b9 c9 d9 e9) ∧ GPr σ σ1 ∧ MKp σ σ1) ∧ mv_b σ1 142 0 = Int64.ofInt ((k9 + 20 : Nat) : Int))) := by
  rcases hC with hC | hC | hC
  · exact (c_Law_feed l hi σ hlt a9 b9 c9 d9 e9 _ _ _ k9 hC hk).imp (ri_imp fun v τ h => ⟨h.1, Or.inl (h.2.1), h.2.2⟩)
  · exact (c_Law_feed l hi σ hlt a9 b9 c9 d9 e9 _ _ _ k9 hC hk).imp (ri_imp fun v τ h => ⟨h.1, Or.inr (Or.inl (h.2.1)), h.2.2⟩)
  · obtain ⟨rfl, hC⟩ := hC
    exact (c_Law_feed l hi σ hlt a9 b9 c9 d9 e9 _ _ _ k9 hC hk).imp (ri_imp fun v τ h => ⟨h.1, Or.inr (Or.inr ⟨rfl, h.2.1⟩), h.2.2⟩)
set_option maxRecDepth 100000 in
theorem u_Law_build (l : Launch) {dA : FieldType → ClassId} {D : va_G} {al : Nat → Nat} {ext : mv_Sh} {sk sv : Nat → Nat} (hi : mv_inj (mg dA D al ext)) (σ : mv_H) (hlt : l.stackTraces = false) (k9 : Nat) (hC : LI ext σ k9) (hk : k9 ≤ 10240) : mv_C l y_Law_build (Cond.codeWith y_Law_build b_Law_build 3 (Option.some Jvm.ClassFile.FieldType.int) [((0 : Nat), (8 : Nat), (11 : Nat), (25 : Nat))] :: ma) ({ frames := 9, cells := 1, slots := 6, locals := 223 }) (mg dA D al ext) (mKt sk sv) [.ref (al 0), .ref (al 142)] σ (mv_Ri (fun v σ1 => GOb σ σ1 ∧ LI ext σ1 0 ∧ BW (txT (cc σ k9) k9) v σ1 ∧ KH σ σ1 v ∧ BLq (txT (cc σ k9) k9) σ v σ1)) := by
  rcases hC with hC | hC | hC
  · exact (c_Law_build_a l hi σ hlt k9 hC hk).imp (ri_imp fun v τ h => ⟨h.1, h.2.1.elim (fun q => Or.inl q) (fun q => Or.inr (Or.inl q)), h.2.2⟩)
  · exact (c_Law_build_b l hi σ hlt k9 hC hk).imp (ri_imp fun v τ h => ⟨h.1, h.2.1.elim (fun q => Or.inr (Or.inl q)) (fun q => Or.inl q), h.2.2⟩)
  · obtain ⟨rfl, hC⟩ := hC
    exact (c_Law_build_c l hi σ hlt k9 hC hk).imp (ri_imp fun v τ h => ⟨h.1, h.2.1.elim (fun q => Or.inr (Or.inr ⟨rfl, q⟩)) (fun q => Or.inl q), h.2.2⟩)
set_option maxRecDepth 100000 in
theorem u_Loom_trap (l : Launch) {dA : FieldType → ClassId} {D : va_G} {al : Nat → Nat} {ext : mv_Sh} {sk sv : Nat → Nat} (hi : mv_inj (mg dA D al ext)) (σ : mv_H)  (k9 : Nat) (hC : LI ext σ k9) : mv_C l y_Loom_trap (Cond.code y_Loom_trap b_Loom_trap 1 (Option.some Jvm.ClassFile.FieldType.int) :: ma) ({ frames := 0, cells := 0, slots := 0, locals := 0 }) (mg dA D al ext) (mKt sk sv) [.ref (al 0)] σ (mv_Ri (fun v σ1 => GL σ σ1 ∧ LI ext σ1 k9)) := by
  rcases hC with hC | hC | hC
  · exact (c_Loom_trap l hi σ hC.2.2.1.1).kt (ri_imp fun v τ h => by subst h; exact ⟨GL.rf, Or.inl (hC)⟩)
  · exact (c_Loom_trap l hi σ hC.2.2.1.1).kt (ri_imp fun v τ h => by subst h; exact ⟨GL.rf, Or.inr (Or.inl (hC))⟩)
  · obtain ⟨rfl, hC⟩ := hC
    exact (c_Loom_trap l hi σ hC.2.2.1.1).kt (ri_imp fun v τ h => by subst h; exact ⟨GL.rf, Or.inr (Or.inr ⟨rfl, hC⟩)⟩)
set_option maxRecDepth 100000 in
theorem u_Loom_free (l : Launch) {dA : FieldType → ClassId} {D : va_G} {al : Nat → Nat} {ext : mv_Sh} {sk sv : Nat → Nat} (hi : mv_inj (mg dA D al ext)) (σ : mv_H) (k9 : Nat) (hC : LI ext σ k9) : mv_C l y_Loom_free (Cond.code y_Loom_free b_Loom_free 1 (Option.some Jvm.ClassFile.FieldType.long) :: ma) ({ frames := 2, cells := 0, slots := 0, locals := 44 }) (mg dA D al ext) (mKt sk sv) [.ref (al 0)] σ (mv_Rl (fun v σ1 => (GL σ σ1 ∧ LI ext σ1 k9) ∧ FV σ1 v)) := by
  rcases hC with hC | hC | hC
  · obtain ⟨th, sl, hO, ho0, ho1, ho2⟩ := hC.2.2.2.2.1
    exact (c_ku_Loom_free_a l hi σ hC.2.2.1 ho0 ho1).kt (rl_imp fun v τ h => by obtain ⟨h, hv⟩ := h; subst h; exact ⟨⟨GL.rf, Or.inl (hC)⟩, fun P e => by rw [hC.2.2.1.2.2] at e; cases e; exact hv⟩)
  · obtain ⟨th, sl, hO, ho0, ho1, ho2⟩ := hC.2.2.2.2.1
    exact (c_ku_Loom_free_b l hi σ hC.2.2.1 ho0 ho1).kt (rl_imp fun v τ h => by obtain ⟨h, hv⟩ := h; subst h; exact ⟨⟨GL.rf, Or.inr (Or.inl (hC))⟩, fun P e => by rw [hC.2.2.1.2.2] at e; cases e; exact hv⟩)
  · obtain ⟨rfl, hC⟩ := hC
    obtain ⟨th, sl, hO, ho0, ho1, ho2⟩ := hC.2.2.2.2.1
    exact (c_ku_Loom_free_c l hi σ hC.2.2.1 ho0 ho1).kt (rl_imp fun v τ h => by obtain ⟨h, hv⟩ := h; subst h; exact ⟨⟨GL.rf, Or.inr (Or.inr ⟨rfl, hC⟩)⟩, fun P e => by rw [hC.2.2.1.2.2] at e; cases e; exact hv⟩)
set_option maxRecDepth 100000 in
theorem u_Loom_count (l : Launch) {dA : FieldType → ClassId} {D : va_G} {al : Nat → Nat} {ext : mv_Sh} {sk sv : Nat → Nat} (hi : mv_inj (mg dA D al ext)) (σ : mv_H) (n9 : Int32) (k9 : Nat) (hC : LI ext σ k9) : mv_C l y_Loom_count (Cond.code y_Loom_count b_Loom_count 2 (Option.some Jvm.ClassFile.FieldType.int) :: ma) ({ frames := 0, cells := 0, slots := 0, locals := 0 }) (mg dA D al ext) (mKt sk sv) [.ref (al 0), .int n9] σ (mv_Ri (fun v σ1 => GL σ σ1 ∧ LI ext σ1 k9)) := by
  rcases hC with hC | hC | hC
  · exact (c_Loom_count_a l hi σ n9 hC.2.2.1).kt (ri_imp fun v τ h => by subst h; exact ⟨GL.rf, Or.inl (hC)⟩)
  · exact (c_Loom_count_b l hi σ n9 hC.2.2.1).kt (ri_imp fun v τ h => by subst h; exact ⟨GL.rf, Or.inr (Or.inl (hC))⟩)
  · obtain ⟨rfl, hC⟩ := hC
    exact (c_Loom_count_c l hi σ n9 hC.2.2.1).kt (ri_imp fun v τ h => by subst h; exact ⟨GL.rf, Or.inr (Or.inr ⟨rfl, hC⟩)⟩)
theorem u_Loom_ship (l : Launch) {dA : FieldType → ClassId} {D : va_G} {al : Nat → Nat} {sk sv : Nat → Nat} (hi : mv_inj (mg dA D al me)) (σ : mv_H) (hlt : l.stackTraces = false) (k9 : Nat) (hC : LI me σ k9) : mv_C l y_Loom_ship (Cond.code y_Loom_ship b_Loom_ship 2 (Option.some Jvm.ClassFile.FieldType.int) :: ma) ({ frames := 3, cells := 0, slots := 0, locals := 68 }) (mg dA D al me) (mKt sk sv) [.ref (al 0)] σ (mv_Ri (fun v σ1 => (GOb σ σ1 ∧ LI me σ1 k9) ∧ v = 48 ∧ mv_r σ1 64 0 = some 145 ∧ (SHP σ → SHP σ1) ∧ LDz 145 σ σ1)) := by
  have hX : ∃ P R M, LC me σ P R M k9 := by
    rcases hC with h | h | h
    · exact ⟨_, _, _, h⟩
    · exact ⟨_, _, _, h⟩
    · exact ⟨_, _, _, h.2⟩
  obtain ⟨P, R, M, hC⟩ := hX
  exact (c_Loom_ship_old l hi σ hlt P R M k9 hC).imp (ri_imp fun v τ h => ⟨⟨h.1.2.go, Or.inr (Or.inr ⟨rfl, h.1.1⟩)⟩, h.2.1, h.1.1.2.2.1.2.2, h.2.2⟩)
set_option maxRecDepth 100000 in
theorem u_Model_field (l : Launch) {dA : FieldType → ClassId} {D : va_G} {al : Nat → Nat} {ext : mv_Sh} {sk sv : Nat → Nat} (hi : mv_inj (mg dA D al ext)) (σ : mv_H) (o9 c9 : Int32) (w0 : Int64) (k9 : Nat) (hJ : MJ σ k9) : mv_C l y_Model_field (Cond.code y_Model_field b_Model_field 7 (Option.some Jvm.ClassFile.FieldType.long) :: ma) ({ frames := 2, cells := 0, slots := 0, locals := 51 }) (mg dA D al ext) (mKt sk sv) [.ref (al 70), .int o9, .int c9, .long w0] σ (mv_Rl (fun v σ1 => (M8 σ σ1 ∧ MJ σ1 k9) ∧ FMV σ o9 c9 w0 v σ1)) := by
  obtain ⟨hM | hM, hz⟩ := hJ
  · exact (c_kf_Model_field_x l hi σ hM o9 c9 w0).kt (rl_imp fun v τ h => ⟨⟨QF.m8 h.1 (by decide), MJ.qf hM hz h.1 (by decide)⟩, fun N e => by rw [hM.2.1] at e; cases e; exact h.2⟩)
  · exact (c_kf_Model_field_y l hi σ hM o9 c9 w0).kt (rl_imp fun v τ h => ⟨⟨QF.m8 h.1 (by decide), MJ.qf hM hz h.1 (by decide)⟩, fun N e => by rw [hM.2.1] at e; cases e; exact h.2⟩)
set_option maxRecDepth 100000 in
theorem u_Model_thing (l : Launch) {dA : FieldType → ClassId} {D : va_G} {al : Nat → Nat} {ext : mv_Sh} {sk sv : Nat → Nat} (hi : mv_inj (mg dA D al ext)) (σ : mv_H) (t9 i9 : Int32) (k9 : Nat) (hJ : MJ σ k9) : mv_C l y_Model_thing (Cond.code y_Model_thing b_Model_thing 3 (Option.some Jvm.ClassFile.FieldType.int) :: ma) ({ frames := 2, cells := 0, slots := 0, locals := 44 }) (mg dA D al ext) (mKt sk sv) [.ref (al 70), .int t9, .int i9] σ (mv_Ri (fun v σ1 => (M8 σ σ1 ∧ MJ σ1 k9) ∧ TMV σ t9 i9 v σ1)) := by
  obtain ⟨hM | hM, hz⟩ := hJ
  · exact (c_kt_Model_thing_x l hi σ hM t9 i9).kt (ri_imp fun v τ h => ⟨⟨QF.m8 h.1 (by decide), MJ.qf hM hz h.1 (by decide)⟩, fun N e => by rw [hM.2.1] at e; cases e; exact h.2⟩)
  · exact (c_kt_Model_thing_y l hi σ hM t9 i9).kt (ri_imp fun v τ h => ⟨⟨QF.m8 h.1 (by decide), MJ.qf hM hz h.1 (by decide)⟩, fun N e => by rw [hM.2.1] at e; cases e; exact h.2⟩)
set_option maxRecDepth 100000 in
theorem u_Model_poke (l : Launch) {dA : FieldType → ClassId} {D : va_G} {al : Nat → Nat} {ext : mv_Sh} {sk sv : Nat → Nat} (hi : mv_inj (mg dA D al ext)) (σ : mv_H) (t9 i9 : Int32) (w0 : Int64) (k9 : Nat) (hJ : MJ σ k9) : mv_C l y_Model_poke (Cond.code y_Model_poke b_Model_poke 5 (Option.none : Option Jvm.ClassFile.FieldType) :: ma) ({ frames := 2, cells := 0, slots := 0, locals := 46 }) (mg dA D al ext) (mKt sk sv) [.ref (al 70), .int t9, .int i9, .long w0] σ (mv_Rv (fun σ1 => (M8 σ σ1 ∧ MJ σ1 k9) ∧ MW σ σ1 t9 i9)) := by
  obtain ⟨hM | hM, hz⟩ := hJ
  · exact (c_kh_Model_poke_x l hi σ hM t9 i9 w0).kt (rv_imp fun τ h => ⟨⟨QF.m8 h.1 (by decide), MJ.qf hM hz h.1 (by decide)⟩, fun N e => by rw [hM.2.1] at e; cases e; exact h.2⟩)
  · exact (c_kh_Model_poke_y l hi σ hM t9 i9 w0).kt (rv_imp fun τ h => ⟨⟨QF.m8 h.1 (by decide), MJ.qf hM hz h.1 (by decide)⟩, fun N e => by rw [hM.2.1] at e; cases e; exact h.2⟩)
set_option maxRecDepth 100000 in
theorem u_Model_count (l : Launch) {dA : FieldType → ClassId} {D : va_G} {al : Nat → Nat} {ext : mv_Sh} {sk sv : Nat → Nat} (hi : mv_inj (mg dA D al ext)) (σ : mv_H) (n9 : Int32) (k9 : Nat) (hJ : MJ σ k9) : mv_C l y_Model_count (Cond.code y_Model_count b_Model_count 2 (Option.some Jvm.ClassFile.FieldType.int) :: ma) ({ frames := 1, cells := 0, slots := 0, locals := 20 }) (mg dA D al ext) (mKt sk sv) [.ref (al 70), .int n9] σ (mv_Ri (fun v σ1 => M8 σ σ1 ∧ MJ σ1 k9)) := by
  obtain ⟨hM | hM, hz⟩ := hJ
  · exact (c_Model_count_x l hi σ hM n9).kt (ri_imp fun v τ h => ⟨QF.m8 h (by decide), MJ.qf hM hz h (by decide)⟩)
  · exact (c_Model_count_y l hi σ hM n9).kt (ri_imp fun v τ h => ⟨QF.m8 h (by decide), MJ.qf hM hz h (by decide)⟩)
set_option maxRecDepth 100000 in
theorem u_Model_fault (l : Launch) {dA : FieldType → ClassId} {D : va_G} {al : Nat → Nat} {ext : mv_Sh} {sk sv : Nat → Nat} (hi : mv_inj (mg dA D al ext)) (σ : mv_H) (n9 : Int32) (k9 : Nat) (hJ : MJ σ k9) : mv_C l y_Model_fault (Cond.code y_Model_fault b_Model_fault 2 (Option.some Jvm.ClassFile.FieldType.int) :: ma) ({ frames := 0, cells := 0, slots := 0, locals := 0 }) (mg dA D al ext) (mKt sk sv) [.ref (al 70), .int n9] σ (mv_Ri (fun v σ1 => M8 σ σ1 ∧ MJ σ1 k9)) := by
  exact (c_Model_fault l hi σ n9).kt (ri_imp fun v τ h => ⟨h.m8, hJ.sm h⟩)
set_option maxRecDepth 100000 in
theorem u_Model_trap (l : Launch) {dA : FieldType → ClassId} {D : va_G} {al : Nat → Nat} {ext : mv_Sh} {sk sv : Nat → Nat} (hi : mv_inj (mg dA D al ext)) (σ : mv_H)  (k9 : Nat) (hJ : MJ σ k9) : mv_C l y_Model_trap (Cond.code y_Model_trap b_Model_trap 1 (Option.some Jvm.ClassFile.FieldType.int) :: ma) ({ frames := 0, cells := 0, slots := 0, locals := 0 }) (mg dA D al ext) (mKt sk sv) [.ref (al 70)] σ (mv_Ri (fun v σ1 => M8 σ σ1 ∧ MJ σ1 k9)) := by
  exact (c_Model_trap l hi σ ).kt (ri_imp fun v τ h => ⟨h.m8, hJ.sm h⟩)
set_option maxRecDepth 100000 in
theorem u_Model_ship (l : Launch) {dA : FieldType → ClassId} {D : va_G} {al : Nat → Nat} {ext : mv_Sh} {sk sv : Nat → Nat} (hi : mv_inj (mg dA D al ext)) (σ : mv_H) (k9 : Nat) (hJ : MJ σ k9) : mv_C l y_Model_ship (Cond.code y_Model_ship b_Model_ship 2 (Option.some Jvm.ClassFile.FieldType.int) :: ma) ({ frames := 1, cells := 0, slots := 0, locals := 20 }) (mg dA D al ext) (mKt sk sv) [.ref (al 70)] σ (mv_Ri (fun v σ1 => (M7 σ σ1 ∧ MJ σ1 k9) ∧ v = 48 ∧ mv_r σ1 70 9 = mv_r σ 70 9 ∧ mv_i σ1 70 11 = 1)) := by
  exact (c_kg_Model_ship l hi σ hJ.hm).kt (ri_imp fun v τ h => ⟨⟨⟨h.1.mm, funext fun k => h.1.2.2.2.1 _ _ (by omega)⟩, hJ.hf h.1⟩, h.2.1, by rw [h.1.2.2.1], h.2.2⟩)
set_option maxRecDepth 100000 in
theorem u_Model_feed (l : Launch) {dA : FieldType → ClassId} {D : va_G} {al : Nat → Nat} {ext : mv_Sh} {sk sv : Nat → Nat} (hi : mv_inj (mg dA D al ext)) (σ : mv_H) (a9 b9 c9 d9 e9 : Int32) (k9 : Nat) (hJ : MJ σ k9) (hk : k9 + 20 ≤ 32768) : mv_C l y_Model_feed (Cond.code y_Model_feed b_Model_feed 8 (Option.some Jvm.ClassFile.FieldType.int) :: ma) ({ frames := 0, cells := 0, slots := 0, locals := 0 }) (mg dA D al ext) (mKt sk sv) [.ref (al 70), .int a9, .int b9, .int c9, .int d9, .int e9] σ (mv_Ri (fun v σ1 => MM σ σ1 ∧ MJ σ1 (k9 + 20) ∧ v.toInt = ((k9 + 20 : Nat) : Int) ∧ mv_i σ1 70 2 = 0 ∧ FE7 σ σ1 k9 20 (fb a9 b9 c9 d9 e9) ∧ MQf σ σ1)) := by
  exact (c_Model_feed l hi σ a9 b9 c9 d9 e9 k9 hJ.hm hJ.2 hk).kt (ri_imp fun v τ h => ⟨h.1.mm, hJ.fd h.1 h.2.2.1, h.2.1, h.2.2.2.1, h.2.2.2.2, h.1.mq⟩)
set_option maxRecDepth 100000 in
theorem u_Model_end (l : Launch) {dA : FieldType → ClassId} {D : va_G} {al : Nat → Nat} {ext : mv_Sh} {sk sv : Nat → Nat} (hi : mv_inj (mg dA D al ext)) (σ : mv_H) (n9 : Int32) (k9 : Nat) (hJ : MJ σ k9) (hk : k9 ≤ 32768) : mv_C l y_Model_end (Cond.code y_Model_end b_Model_end 2 (Option.some Jvm.ClassFile.FieldType.int) :: ma) ({ frames := 0, cells := 0, slots := 0, locals := 0 }) (mg dA D al ext) (mKt sk sv) [.ref (al 70), .int n9] σ (mv_Ri (fun v σ1 => M8 σ σ1 ∧ MJ σ1 (if n9.toInt < 0 ∨ (k9 : Int) < n9.toInt then k9 else k9 - n9.toInt.toNat) ∧ (((n9.toInt < 0 ∨ (k9 : Int) < n9.toInt) ∧ mv_i σ1 70 2 = 1) ∨ (¬ (n9.toInt < 0 ∨ (k9 : Int) < n9.toInt) ∧ mv_i σ1 70 2 = 0 ∧ v.toInt = ((k9 - n9.toInt.toNat : Nat) : Int))))) := by
  exact (c_Model_end l hi σ n9 k9 hJ.2 hk).kt (ri_imp fun v τ h => ⟨⟨⟨h.1.1.mm, h.1.2⟩, h.1.1.mq⟩, hJ.fd h.1.1 h.2.1, h.2.2⟩)
set_option maxRecDepth 100000 in
theorem u_Model_build (l : Launch) {dA : FieldType → ClassId} {D : va_G} {al : Nat → Nat} {ext : mv_Sh} {sk sv : Nat → Nat} (hi : mv_inj (mg dA D al ext)) (σ : mv_H) (k9 : Nat) (hJ : MJ σ k9) (hk : k9 ≤ 10240) (hb7 : byt7 σ) : mv_C l y_Model_build (Cond.code y_Model_build b_Model_build 3 (Option.some Jvm.ClassFile.FieldType.int) :: ma) ({ frames := 1085, cells := 0, slots := 0, locals := 65179 }) (mg dA D al ext) (mKt sk sv) [.ref (al 70)] σ (mv_Ri (fun v σ1 => M7 σ σ1 ∧ MJ σ1 0 ∧ BM (txT (ck σ k9) k9) v σ1 ∧ (mv_i σ1 70 2 = 1 → KBq σ σ1))) := by
  obtain ⟨hM | hM, hz⟩ := hJ
  · exact (c_kb_Model_build_x l hi σ hM k9 hz hk hb7).kt (ri_imp fun v τ h => ⟨h.1, ⟨h.2.2.1, by rw [h.2.1]; rfl⟩, h.2.2.2.1, fun z => KBq.of hM (h.2.2.2.2 z)⟩)
  · exact (c_kb_Model_build_y l hi σ hM k9 hz hk hb7).kt (ri_imp fun v τ h => ⟨h.1, ⟨h.2.2.1.symm, by rw [h.2.1]; rfl⟩, h.2.2.2.1, fun z => KBq.of hM (h.2.2.2.2 z)⟩)
set_option maxRecDepth 100000 in
theorem u_Model_free (l : Launch) {dA : FieldType → ClassId} {D : va_G} {al : Nat → Nat} {ext : mv_Sh} {sk sv : Nat → Nat} (hi : mv_inj (mg dA D al ext)) (σ : mv_H) (k9 : Nat) (hJ : MJ σ k9) : mv_C l y_Model_free (Cond.code y_Model_free b_Model_free 4 (Option.some Jvm.ClassFile.FieldType.long) :: ma) ({ frames := 1, cells := 0, slots := 0, locals := 25 }) (mg dA D al ext) (mKt sk sv) [.ref (al 70)] σ (mv_Rl (fun v σ1 => (M8 σ σ1 ∧ MJ σ1 k9) ∧ FW σ v)) := by
  obtain ⟨hM | hM, hz⟩ := hJ
  · exact (c_ku_Model_free_x l hi σ hM).kt (rl_imp fun v τ h => ⟨⟨QF.m8 h.1 (by decide), MJ.qf hM hz h.1 (by decide)⟩, FW.of hM h.2⟩)
  · exact (c_ku_Model_free_y l hi σ hM).kt (rl_imp fun v τ h => ⟨⟨QF.m8 h.1 (by decide), MJ.qf hM hz h.1 (by decide)⟩, FW.of hM h.2⟩)
set_option maxRecDepth 100000 in
theorem u_Loom_decode (l : Launch) {dA : FieldType → ClassId} {D : va_G} {al : Nat → Nat} {ext : mv_Sh} {sk sv : Nat → Nat} (hi : mv_inj (mg dA D al ext)) (σ : mv_H) (w9 : Int64) (k9 : Nat) (hC : LI ext σ k9) (hK : TKr σ) : mv_C l y_Loom_decode (Cond.code y_Loom_decode b_Loom_decode 3 (Option.some Jvm.ClassFile.FieldType.int) :: ma) ({ frames := 2, cells := 0, slots := 0, locals := 51 }) (mg dA D al ext) (mKt sk sv) [.ref (al 0), .long w9] σ (mv_Ri (fun v σ1 => (GO σ σ1 ∧ LI ext σ1 k9) ∧ DLV σ w9 v)) := by
  rcases hC with hC | hC | hC
  · exact (c_kd_Loom_decode_a l hi σ w9 hC.2.2.1 (hK.1 hC.2.2.1.2.2).1).kt (ri_imp fun v τ h => ⟨⟨⟨(GF.fm h.1).go, GPr.fm h.1⟩, Or.inl (hC.fm h.1)⟩, fun P e => by rw [hC.2.2.1.2.2] at e; cases e; exact h.2⟩)
  · exact (c_kd_Loom_decode_b l hi σ w9 hC.2.2.1 (hK.2.1 hC.2.2.1.2.2).1).kt (ri_imp fun v τ h => ⟨⟨⟨(GF.fm h.1).go, GPr.fm h.1⟩, Or.inr (Or.inl (hC.fm h.1))⟩, fun P e => by rw [hC.2.2.1.2.2] at e; cases e; exact h.2⟩)
  · obtain ⟨rfl, hC⟩ := hC
    exact (c_kd_Loom_decode_c l hi σ w9 hC.2.2.1 (hK.2.2 hC.2.2.1.2.2)).kt (ri_imp fun v τ h => ⟨⟨⟨(GF.fm h.1).go, GPr.fm h.1⟩, Or.inr (Or.inr ⟨rfl, hC.fm h.1⟩)⟩, fun P e => by rw [hC.2.2.1.2.2] at e; cases e; exact h.2⟩)
set_option maxRecDepth 100000 in
theorem u_Model_decode (l : Launch) {dA : FieldType → ClassId} {D : va_G} {al : Nat → Nat} {ext : mv_Sh} {sk sv : Nat → Nat} (hi : mv_inj (mg dA D al ext)) (σ : mv_H) (w0 : Int64) (k9 : Nat) (hJ : MJ σ k9) : mv_C l y_Model_decode (Cond.code y_Model_decode b_Model_decode 4 (Option.some Jvm.ClassFile.FieldType.int) :: ma) ({ frames := 2, cells := 0, slots := 0, locals := 49 }) (mg dA D al ext) (mKt sk sv) [.ref (al 70), .long w0] σ (mv_Ri (fun v σ1 => (M8 σ σ1 ∧ MJ σ1 k9) ∧ DMV σ w0 v)) := by
  obtain ⟨hM | hM, hz⟩ := hJ
  · exact (c_kd_Model_decode_x l hi σ hM w0).kt (ri_imp fun v τ h => ⟨⟨QF.m8 h.1 (by decide), MJ.qf hM hz h.1 (by decide)⟩, h.2.imp (fun q => ⟨q.1, fun N e => by rw [hM.2.1] at e; cases e; exact q.2⟩) id⟩)
  · exact (c_kd_Model_decode_y l hi σ hM w0).kt (ri_imp fun v τ h => ⟨⟨QF.m8 h.1 (by decide), MJ.qf hM hz h.1 (by decide)⟩, h.2.imp (fun q => ⟨q.1, fun N e => by rw [hM.2.1] at e; cases e; exact q.2⟩) id⟩)
