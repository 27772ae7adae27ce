/-! what stands: b1 firsts, zeros and slots; b2 starts; b3 fetch; b4 indexes of names; b5 the code -/
def GFq (b1 b2 b3 b4 b5 : Prop) (P : Nat) (h h' : mv_H) : Prop := (b1 → mv_a h' (P + 3) = mv_a h (P + 3) ∧ mv_a h' (P + 4) = mv_a h (P + 4) ∧ mv_i h' P 6 = mv_i h P 6) ∧ (b2 → mv_a h' (P + 7) = mv_a h (P + 7)) ∧ (b3 → mv_i h' P 8 = mv_i h P 8 ∧ mv_i h' P 9 = mv_i h P 9) ∧ (b4 → mv_a h' 15 = mv_a h 15) ∧ (b5 → KC9 P h h')
section GFS
variable {b1 b2 b3 b4 b5 : Prop} {P o k : Nat} {h g : mv_H} {x : Int32} {y : Int64}
theorem GFq.rf (h : mv_H) : GFq b1 b2 b3 b4 b5 P h h := ⟨fun _ => ⟨rfl, rfl, rfl⟩, fun _ => rfl, fun _ => ⟨rfl, rfl⟩, fun _ => rfl, fun _ => KC9.rf h⟩
theorem GFq.tr {f : mv_H} (a : GFq b1 b2 b3 b4 b5 P h g) (b : GFq b1 b2 b3 b4 b5 P g f) : GFq b1 b2 b3 b4 b5 P h f := ⟨fun q => ⟨(b.1 q).1.trans (a.1 q).1, (b.1 q).2.1.trans (a.1 q).2.1, (b.1 q).2.2.trans (a.1 q).2.2⟩, fun q => (b.2.1 q).trans (a.2.1 q), fun q => ⟨(b.2.2.1 q).1.trans (a.2.2.1 q).1, (b.2.2.1 q).2.trans (a.2.2.1 q).2⟩, fun q => (b.2.2.2.1 q).trans (a.2.2.2.1 q), fun q => (a.2.2.2.2 q).tr (b.2.2.2.2 q)⟩
theorem gfi (g : mv_H) {o k o' k' : Nat} (x : Int32) (q : ¬ (o' = o ∧ k' = k)) : mv_i (mv_si g o k x) o' k' = mv_i g o' k' := mv_u_ne (mv_i g) _ q
theorem gfa (g : mv_H) {o k o' : Nat} (x : Int32) (q : ¬ o' = o) : mv_a (mv_sa g o k x) o' = mv_a g o' := funext fun i => mv_u_ne (mv_a g) _ (fun w => q w.1)
theorem GFq.si (s : GFq b1 b2 b3 b4 b5 P h g) (q : ¬ (o = P ∧ (k = 6 ∨ k = 8 ∨ k = 9 ∨ k = 17))) : GFq b1 b2 b3 b4 b5 P h (mv_si g o k x) := s.tr ⟨fun _ => ⟨rfl, rfl, gfi g x (by omega)⟩, fun _ => rfl, fun _ => ⟨gfi g x (by omega), gfi g x (by omega)⟩, fun _ => rfl, fun _ => KC9.si g x (by omega)⟩
theorem GFq.i6 (n1 : ¬ b1) (s : GFq b1 b2 b3 b4 b5 P h g) : GFq b1 b2 b3 b4 b5 P h (mv_si g P 6 x) := s.tr ⟨fun q => absurd q n1, fun _ => rfl, fun _ => ⟨gfi g x (by omega), gfi g x (by omega)⟩, fun _ => rfl, fun _ => KC9.si g x (by omega)⟩
theorem GFq.i8 (n3 : ¬ b3) (s : GFq b1 b2 b3 b4 b5 P h g) (q : k = 8 ∨ k = 9) : GFq b1 b2 b3 b4 b5 P h (mv_si g P k x) := s.tr ⟨fun _ => ⟨rfl, rfl, gfi g x (by omega)⟩, fun _ => rfl, fun q => absurd q n3, fun _ => rfl, fun _ => KC9.si g x (by omega)⟩
theorem GFq.i17 (n5 : ¬ b5) (s : GFq b1 b2 b3 b4 b5 P h g) : GFq b1 b2 b3 b4 b5 P h (mv_si g P 17 x) := s.tr ⟨fun _ => ⟨rfl, rfl, gfi g x (by omega)⟩, fun _ => rfl, fun _ => ⟨gfi g x (by omega), gfi g x (by omega)⟩, fun _ => rfl, fun q => absurd q n5⟩
theorem GFq.sa (s : GFq b1 b2 b3 b4 b5 P h g) (q : ¬ (o = P + 3 ∨ o = P + 4 ∨ o = P + 7 ∨ o = P + 9 ∨ o = 15)) : GFq b1 b2 b3 b4 b5 P h (mv_sa g o k x) := s.tr ⟨fun _ => ⟨gfa g x (by omega), gfa g x (by omega), rfl⟩, fun _ => gfa g x (by omega), fun _ => ⟨rfl, rfl⟩, fun _ => gfa g x (by omega), fun _ => KC9.sa g x (by omega)⟩
theorem GFq.a3 (n1 : ¬ b1) (s : GFq b1 b2 b3 b4 b5 P h g) (q : o = P + 3 ∨ o = P + 4) (hp : 15 < P) : GFq b1 b2 b3 b4 b5 P h (mv_sa g o k x) := s.tr ⟨fun q => absurd q n1, fun _ => gfa g x (by omega), fun _ => ⟨rfl, rfl⟩, fun _ => gfa g x (by omega), fun _ => KC9.sa g x (by omega)⟩
theorem GFq.a7 (n2 : ¬ b2) (s : GFq b1 b2 b3 b4 b5 P h g) (hp : 15 < P) : GFq b1 b2 b3 b4 b5 P h (mv_sa g (P + 7) k x) := s.tr ⟨fun _ => ⟨gfa g x (by omega), gfa g x (by omega), rfl⟩, fun q => absurd q n2, fun _ => ⟨rfl, rfl⟩, fun _ => gfa g x (by omega), fun _ => KC9.sa g x (by omega)⟩
theorem GFq.a15 (n4 : ¬ b4) (s : GFq b1 b2 b3 b4 b5 P h g) (hp : 15 < P) : GFq b1 b2 b3 b4 b5 P h (mv_sa g 15 k x) := s.tr ⟨fun _ => ⟨gfa g x (by omega), gfa g x (by omega), rfl⟩, fun _ => gfa g x (by omega), fun _ => ⟨rfl, rfl⟩, fun q => absurd q n4, fun _ => KC9.sa g x (by omega)⟩
theorem GFq.a9 (n5 : ¬ b5) (s : GFq b1 b2 b3 b4 b5 P h g) (hp : 15 < P) : GFq b1 b2 b3 b4 b5 P h (mv_sa g (P + 9) k x) := s.tr ⟨fun _ => ⟨gfa g x (by omega), gfa g x (by omega), rfl⟩, fun _ => gfa g x (by omega), fun _ => ⟨rfl, rfl⟩, fun _ => gfa g x (by omega), fun q => absurd q n5⟩
theorem GFq.sb (s : GFq b1 b2 b3 b4 b5 P h g) (q : ¬ o = P + 10) : GFq b1 b2 b3 b4 b5 P h (mv_sb g o k y) := s.tr ⟨fun _ => ⟨rfl, rfl, rfl⟩, fun _ => rfl, fun _ => ⟨rfl, rfl⟩, fun _ => rfl, fun _ => ⟨rfl, rfl, sbn (by omega)⟩⟩
theorem GFq.b10 (n5 : ¬ b5) (s : GFq b1 b2 b3 b4 b5 P h g) : GFq b1 b2 b3 b4 b5 P h (mv_sb g (P + 10) k y) := s.tr ⟨fun _ => ⟨rfl, rfl, rfl⟩, fun _ => rfl, fun _ => ⟨rfl, rfl⟩, fun _ => rfl, fun q => absurd q n5⟩
theorem GFq.fl {i : Nat} (s : GFq b1 b2 b3 b4 b5 P h g) (hp : 18 < P) : GFq b1 b2 b3 b4 b5 P h (mv_fl g 18 i k y) := s.tr ⟨fun _ => ⟨rfl, rfl, rfl⟩, fun _ => rfl, fun _ => ⟨rfl, rfl⟩, fun _ => rfl, fun _ => ⟨rfl, rfl, if_neg (by omega)⟩⟩
theorem GFq.fi {i : Nat} (s : GFq b1 b2 b3 b4 b5 P h g) (hp : 18 < P) : GFq b1 b2 b3 b4 b5 P h (mv_fi g 17 i k x) := s.tr ⟨fun _ => ⟨if_neg (by omega), if_neg (by omega), rfl⟩, fun _ => if_neg (by omega), fun _ => ⟨rfl, rfl⟩, fun _ => (by first | rfl | exact if_neg (by decide)), fun _ => ⟨rfl, if_neg (by omega), rfl⟩⟩
end GFS
def KO (b1 b2 b3 b4 b5 : Prop) (P : Nat) (h : mv_H) (o : Option mv_H) : Prop := ∀ h', o = some h' → GFq b1 b2 b3 b4 b5 P h h'
def KV {α : Type} (b1 b2 b3 b4 b5 : Prop) (P : Nat) (h : mv_H) (o : Option (α × mv_H)) : Prop := ∀ v h', o = some (v, h') → GFq b1 b2 b3 b4 b5 P h h'
section KOV
variable {b1 b2 b3 b4 b5 : Prop} {P : Nat} {h G : mv_H} {α β : Type}
theorem KO.n : KO b1 b2 b3 b4 b5 P h none := fun h' e => by cases e
theorem KV.n : KV b1 b2 b3 b4 b5 P h (none : Option (α × mv_H)) := fun v h' e => by cases e
theorem KO.s {g : mv_H} (s : GFq b1 b2 b3 b4 b5 P h g) : KO b1 b2 b3 b4 b5 P h (some g) := fun h' e => by rw [← Option.some.inj e]; exact s
theorem KV.s {g : mv_H} {v : α} (s : GFq b1 b2 b3 b4 b5 P h g) : KV b1 b2 b3 b4 b5 P h (some (v, g)) := fun w h' e => by rw [← (Prod.mk.inj (Option.some.inj e)).2]; exact s
theorem KO.i {c : Prop} [Decidable c] {a b : Option mv_H} (x : KO b1 b2 b3 b4 b5 P h a) (y : KO b1 b2 b3 b4 b5 P h b) : KO b1 b2 b3 b4 b5 P h (if c then a else b) := by
  by_cases z : c
  · rw [if_pos z]; exact x
  · rw [if_neg z]; exact y
theorem KV.i {c : Prop} [Decidable c] {a b : Option (α × mv_H)} (x : KV b1 b2 b3 b4 b5 P h a) (y : KV b1 b2 b3 b4 b5 P h b) : KV b1 b2 b3 b4 b5 P h (if c then a else b) := by
  by_cases z : c
  · rw [if_pos z]; exact x
  · rw [if_neg z]; exact y
theorem KO.b {c : Bool} {a b : Option mv_H} (x : KO b1 b2 b3 b4 b5 P h a) (y : KO b1 b2 b3 b4 b5 P h b) : KO b1 b2 b3 b4 b5 P h (bif c then a else b) := by
  cases c
  · exact y
  · exact x
theorem KV.b {c : Bool} {a b : Option (α × mv_H)} (x : KV b1 b2 b3 b4 b5 P h a) (y : KV b1 b2 b3 b4 b5 P h b) : KV b1 b2 b3 b4 b5 P h (bif c then a else b) := by
  cases c
  · exact y
  · exact x
theorem KO.k {g : mv_H} {f : mv_H → Option mv_H} (s : GFq b1 b2 b3 b4 b5 P h g) (x : ∀ g', GFq b1 b2 b3 b4 b5 P h g' → KO b1 b2 b3 b4 b5 P h (f g')) : KO b1 b2 b3 b4 b5 P h (xk g f) := x g s
theorem KV.k {g : mv_H} {f : mv_H → Option (α × mv_H)} (s : GFq b1 b2 b3 b4 b5 P h g) (x : ∀ g', GFq b1 b2 b3 b4 b5 P h g' → KV b1 b2 b3 b4 b5 P h (f g')) : KV b1 b2 b3 b4 b5 P h (xk g f) := x g s
theorem KO.c {o : Option mv_H} (c : KO b1 b2 b3 b4 b5 P G o) (s : GFq b1 b2 b3 b4 b5 P h G) : KO b1 b2 b3 b4 b5 P h o := fun h' e => s.tr (c h' e)
theorem KV.c {o : Option (α × mv_H)} (c : KV b1 b2 b3 b4 b5 P G o) (s : GFq b1 b2 b3 b4 b5 P h G) : KV b1 b2 b3 b4 b5 P h o := fun v h' e => s.tr (c v h' e)
theorem KO.hb {o : Option (β × mv_H)} {f : β → mv_H → Option mv_H} (c : KV b1 b2 b3 b4 b5 P G o) (s : GFq b1 b2 b3 b4 b5 P h G) (k : ∀ v g, GFq b1 b2 b3 b4 b5 P h g → KO b1 b2 b3 b4 b5 P h (f v g)) : KO b1 b2 b3 b4 b5 P h (xhb o f) := by
  cases o with
  | none => exact KO.n
  | some r => exact k r.1 r.2 (s.tr (c r.1 r.2 rfl))
theorem KV.hb {o : Option (β × mv_H)} {f : β → mv_H → Option (α × mv_H)} (c : KV b1 b2 b3 b4 b5 P G o) (s : GFq b1 b2 b3 b4 b5 P h G) (k : ∀ v g, GFq b1 b2 b3 b4 b5 P h g → KV b1 b2 b3 b4 b5 P h (f v g)) : KV b1 b2 b3 b4 b5 P h (xhb o f) := by
  cases o with
  | none => exact KV.n
  | some r => exact k r.1 r.2 (s.tr (c r.1 r.2 rfl))
theorem KO.hv {o : Option mv_H} {f : mv_H → Option mv_H} (c : KO b1 b2 b3 b4 b5 P G o) (s : GFq b1 b2 b3 b4 b5 P h G) (k : ∀ g, GFq b1 b2 b3 b4 b5 P h g → KO b1 b2 b3 b4 b5 P h (f g)) : KO b1 b2 b3 b4 b5 P h (xhv o f) := by
  cases o with
  | none => exact KO.n
  | some r => exact k r (s.tr (c r rfl))
theorem KV.hv {o : Option mv_H} {f : mv_H → Option (α × mv_H)} (c : KO b1 b2 b3 b4 b5 P G o) (s : GFq b1 b2 b3 b4 b5 P h G) (k : ∀ g, GFq b1 b2 b3 b4 b5 P h g → KV b1 b2 b3 b4 b5 P h (f g)) : KV b1 b2 b3 b4 b5 P h (xhv o f) := by
  cases o with
  | none => exact KV.n
  | some r => exact k r (s.tr (c r rfl))
end KOV

section FRS
variable {b1 b2 b3 b4 b5 : Prop} {P : Nat}
theorem fr_Exprs_release (hpp : P = 32 ∨ P = 48) (h : mv_H) : KV b1 b2 b3 b4 b5 P h (f_Exprs_release h) := by
  have s0 : GFq b1 b2 b3 b4 b5 P h h := GFq.rf h
  unfold f_Exprs_release
  repeat' first
    | assumption
    | with_reducible exact KV.n
    | with_reducible refine KV.s ?_
    | with_reducible refine KV.i ?_ ?_
    | with_reducible refine KV.b ?_ ?_
    | with_reducible refine KV.k ?_ (fun _ _ => ?_)
    | (with_reducible refine GFq.si ?_ ?b; (case b => omega))
theorem fr_Tokens_kind (hpp : P = 32 ∨ P = 48) (h : mv_H) : KV b1 b2 b3 b4 b5 P h (f_Tokens_kind h) := by
  have s0 : GFq b1 b2 b3 b4 b5 P h h := GFq.rf h
  unfold f_Tokens_kind
  repeat' first
    | assumption
    | with_reducible exact KV.n
    | with_reducible refine KV.s ?_
    | with_reducible refine KV.i ?_ ?_
    | with_reducible refine KV.b ?_ ?_
    | with_reducible refine KV.k ?_ (fun _ _ => ?_)
theorem fr_Tokens_wrong (hpp : P = 32 ∨ P = 48) (h : mv_H) : KO b1 b2 b3 b4 b5 P h (f_Tokens_wrong h) := by
  have s0 : GFq b1 b2 b3 b4 b5 P h h := GFq.rf h
  unfold f_Tokens_wrong
  repeat' first
    | assumption
    | with_reducible exact KO.n
    | with_reducible refine KO.s ?_
    | with_reducible refine KO.i ?_ ?_
    | with_reducible refine KO.b ?_ ?_
    | with_reducible refine KO.k ?_ (fun _ _ => ?_)
    | (with_reducible refine GFq.si ?_ ?b; (case b => omega))
theorem fr_Tokens_take (hpp : P = 32 ∨ P = 48) (h : mv_H) (a0 : Int32) : KV b1 b2 b3 b4 b5 P h (f_Tokens_take h a0) := by
  have s0 : GFq b1 b2 b3 b4 b5 P h h := GFq.rf h
  unfold f_Tokens_take
  repeat' first
    | assumption
    | with_reducible refine KV.hb (fr_Tokens_kind hpp _) ?_ (fun _ _ _ => ?_)
    | with_reducible refine KV.c (fr_Tokens_kind hpp _) ?_
    | with_reducible refine KV.hv (fr_Tokens_wrong hpp _) ?_ (fun _ _ => ?_)
    | with_reducible exact KV.n
    | with_reducible refine KV.s ?_
    | with_reducible refine KV.i ?_ ?_
    | with_reducible refine KV.b ?_ ?_
    | with_reducible refine KV.k ?_ (fun _ _ => ?_)
    | (with_reducible refine GFq.si ?_ ?b; (case b => omega))
theorem fr_Tokens_close (hpp : P = 32 ∨ P = 48) (h : mv_H) (a0 : Int32) : KV b1 b2 b3 b4 b5 P h (f_Tokens_close h a0) := by
  have s0 : GFq b1 b2 b3 b4 b5 P h h := GFq.rf h
  unfold f_Tokens_close
  repeat' first
    | assumption
    | with_reducible refine KV.hb (fr_Tokens_take hpp _ _) ?_ (fun _ _ _ => ?_)
    | with_reducible refine KV.c (fr_Tokens_take hpp _ _) ?_
    | with_reducible exact KV.n
    | with_reducible refine KV.s ?_
    | with_reducible refine KV.i ?_ ?_
    | with_reducible refine KV.b ?_ ?_
    | with_reducible refine KV.k ?_ (fun _ _ => ?_)
    | (with_reducible refine GFq.si ?_ ?b; (case b => omega))
theorem fr_Exprs_begin (hpp : P = 32 ∨ P = 48) (h : mv_H) : KO b1 b2 b3 b4 b5 P h (f_Exprs_begin h) := by
  have s0 : GFq b1 b2 b3 b4 b5 P h h := GFq.rf h
  unfold f_Exprs_begin
  repeat' first
    | assumption
    | with_reducible exact KO.n
    | with_reducible refine KO.s ?_
    | with_reducible refine KO.i ?_ ?_
    | with_reducible refine KO.b ?_ ?_
    | with_reducible refine KO.k ?_ (fun _ _ => ?_)
    | (with_reducible refine GFq.si ?_ ?b; (case b => omega))
theorem fr_Weaver_beginExpr (hpp : P = 32 ∨ P = 48) (h : mv_H) (a0 : Int32) : KO b1 b2 b3 b4 b5 P h (f_Weaver_beginExpr h a0) := by
  have s0 : GFq b1 b2 b3 b4 b5 P h h := GFq.rf h
  unfold f_Weaver_beginExpr
  repeat' first
    | assumption
    | with_reducible refine KO.hv (fr_Exprs_begin hpp _) ?_ (fun _ _ => ?_)
    | with_reducible refine KO.c (fr_Exprs_begin hpp _) ?_
    | with_reducible exact KO.n
    | with_reducible refine KO.s ?_
    | with_reducible refine KO.i ?_ ?_
    | with_reducible refine KO.b ?_ ?_
    | with_reducible refine KO.k ?_ (fun _ _ => ?_)
    | (with_reducible refine GFq.si ?_ ?b; (case b => omega))
theorem fr_Program_emit_42 (hpp : P = 32 ∨ P = 48) (hz : mv_H) : KV b1 b2 b3 b4 b5 P hz (f_Program_emit_42 P hz) := by
  have s0 : GFq b1 b2 b3 b4 b5 P hz hz := GFq.rf hz
  unfold f_Program_emit_42
  repeat' first
    | assumption
    | with_reducible exact KV.n
    | with_reducible refine KV.s ?_
    | with_reducible refine KV.i ?_ ?_
    | with_reducible refine KV.b ?_ ?_
    | with_reducible refine KV.k ?_ (fun _ _ => ?_)
theorem fr_Program_emit (hpp : P = 32 ∨ P = 48) (n5 : ¬ b5) (h : mv_H) (a0 : Int32) (a1 : Int64) : KV b1 b2 b3 b4 b5 P h (f_Program_emit P h a0 a1) := by
  have s0 : GFq b1 b2 b3 b4 b5 P h h := GFq.rf h
  unfold f_Program_emit
  repeat' first
    | assumption
    | with_reducible refine KV.hb (fr_Program_emit_42 hpp _) ?_ (fun _ _ _ => ?_)
    | with_reducible refine KV.c (fr_Program_emit_42 hpp _) ?_
    | with_reducible exact KV.n
    | with_reducible refine KV.s ?_
    | with_reducible refine KV.i ?_ ?_
    | with_reducible refine KV.b ?_ ?_
    | with_reducible refine KV.k ?_ (fun _ _ => ?_)
    | (with_reducible refine GFq.si ?_ ?b; (case b => omega))
    | (with_reducible refine GFq.sa ?_ ?b; (case b => omega))
    | (with_reducible refine GFq.sb ?_ ?b; (case b => omega))
    | with_reducible refine GFq.i17 n5 ?_
    | (with_reducible refine GFq.a9 n5 ?_ ?b; (case b => omega))
    | with_reducible refine GFq.b10 n5 ?_
theorem fr_Tokens_open_13 (hpp : P = 32 ∨ P = 48) (x1 : Int32) (hz : mv_H) : KV b1 b2 b3 b4 b5 P hz (f_Tokens_open_13 x1 hz) := by
  have s0 : GFq b1 b2 b3 b4 b5 P hz hz := GFq.rf hz
  unfold f_Tokens_open_13
  repeat' first
    | assumption
    | with_reducible refine KV.hb (fr_Tokens_take hpp _ _) ?_ (fun _ _ _ => ?_)
    | with_reducible refine KV.c (fr_Tokens_take hpp _ _) ?_
    | with_reducible exact KV.n
    | with_reducible refine KV.s ?_
    | with_reducible refine KV.i ?_ ?_
    | with_reducible refine KV.b ?_ ?_
    | with_reducible refine KV.k ?_ (fun _ _ => ?_)
    | (with_reducible refine GFq.si ?_ ?b; (case b => omega))
theorem fr_Tokens_open (hpp : P = 32 ∨ P = 48) (h : mv_H) (a0 : Int32) : KV b1 b2 b3 b4 b5 P h (f_Tokens_open h a0) := by
  have s0 : GFq b1 b2 b3 b4 b5 P h h := GFq.rf h
  unfold f_Tokens_open
  repeat' first
    | assumption
    | with_reducible refine KV.hv (fr_Tokens_wrong hpp _) ?_ (fun _ _ => ?_)
    | with_reducible refine KV.hb (fr_Tokens_open_13 hpp _ _) ?_ (fun _ _ _ => ?_)
    | with_reducible refine KV.c (fr_Tokens_open_13 hpp _ _) ?_
    | with_reducible exact KV.n
    | with_reducible refine KV.s ?_
    | with_reducible refine KV.i ?_ ?_
    | with_reducible refine KV.b ?_ ?_
    | with_reducible refine KV.k ?_ (fun _ _ => ?_)
theorem fr_Tokens_right (hpp : P = 32 ∨ P = 48) (h : mv_H) : KV b1 b2 b3 b4 b5 P h (f_Tokens_right h) := by
  have s0 : GFq b1 b2 b3 b4 b5 P h h := GFq.rf h
  unfold f_Tokens_right
  repeat' first
    | assumption
    | with_reducible exact KV.n
    | with_reducible refine KV.s ?_
    | with_reducible refine KV.i ?_ ?_
    | with_reducible refine KV.b ?_ ?_
    | with_reducible refine KV.k ?_ (fun _ _ => ?_)
theorem fr_Weaver_openBlock (hpp : P = 32 ∨ P = 48) (h : mv_H) (a0 : Int32) (a1 : Int32) (a2 : Int32) : KO b1 b2 b3 b4 b5 P h (f_Weaver_openBlock h a0 a1 a2) := by
  have s0 : GFq b1 b2 b3 b4 b5 P h h := GFq.rf h
  unfold f_Weaver_openBlock
  repeat' first
    | assumption
    | with_reducible refine KO.hb (fr_Tokens_open hpp _ _) ?_ (fun _ _ _ => ?_)
    | with_reducible refine KO.hb (fr_Tokens_right hpp _) ?_ (fun _ _ _ => ?_)
    | with_reducible exact KO.n
    | with_reducible refine KO.s ?_
    | with_reducible refine KO.i ?_ ?_
    | with_reducible refine KO.b ?_ ?_
    | with_reducible refine KO.k ?_ (fun _ _ => ?_)
    | (with_reducible refine GFq.si ?_ ?b; (case b => omega))
    | (with_reducible refine GFq.sa ?_ ?b; (case b => omega))
theorem fr_Weaver_finish_72 (hpp : P = 32 ∨ P = 48) (n5 : ¬ b5) (hz : mv_H) : KO b1 b2 b3 b4 b5 P hz (f_Weaver_finish_72 P hz) := by
  have s0 : GFq b1 b2 b3 b4 b5 P hz hz := GFq.rf hz
  unfold f_Weaver_finish_72
  repeat' first
    | assumption
    | with_reducible refine KO.hb (fr_Program_emit hpp n5 _ _ _) ?_ (fun _ _ _ => ?_)
    | with_reducible refine KO.hv (fr_Weaver_openBlock hpp _ _ _ _) ?_ (fun _ _ => ?_)
    | with_reducible refine KO.c (fr_Weaver_openBlock hpp _ _ _ _) ?_
    | with_reducible exact KO.n
    | with_reducible refine KO.s ?_
    | with_reducible refine KO.i ?_ ?_
    | with_reducible refine KO.b ?_ ?_
    | with_reducible refine KO.k ?_ (fun _ _ => ?_)
theorem fr_Faults_tell_31 (hpp : P = 32 ∨ P = 48) (x1 : Int32) (x2 : Int32) (hz : mv_H) : KO b1 b2 b3 b4 b5 P hz (f_Faults_tell_31 x1 x2 hz) := by
  have s0 : GFq b1 b2 b3 b4 b5 P hz hz := GFq.rf hz
  unfold f_Faults_tell_31
  repeat' first
    | assumption
    | with_reducible exact KO.n
    | with_reducible refine KO.s ?_
    | with_reducible refine KO.i ?_ ?_
    | with_reducible refine KO.b ?_ ?_
    | with_reducible refine KO.k ?_ (fun _ _ => ?_)
    | (with_reducible refine GFq.si ?_ ?b; (case b => omega))
theorem fr_Faults_tell (hpp : P = 32 ∨ P = 48) (h : mv_H) (a0 : Int32) (a1 : Int32) : KO b1 b2 b3 b4 b5 P h (f_Faults_tell h a0 a1) := by
  have s0 : GFq b1 b2 b3 b4 b5 P h h := GFq.rf h
  unfold f_Faults_tell
  repeat' first
    | assumption
    | with_reducible refine KO.hv (fr_Faults_tell_31 hpp _ _ _) ?_ (fun _ _ => ?_)
    | with_reducible refine KO.c (fr_Faults_tell_31 hpp _ _ _) ?_
    | with_reducible exact KO.n
    | with_reducible refine KO.s ?_
    | with_reducible refine KO.i ?_ ?_
    | with_reducible refine KO.b ?_ ?_
    | with_reducible refine KO.k ?_ (fun _ _ => ?_)
theorem fr_Weaver_tell (hpp : P = 32 ∨ P = 48) (h : mv_H) (a0 : Int32) (a1 : Int32) : KO b1 b2 b3 b4 b5 P h (f_Weaver_tell h a0 a1) := by
  have s0 : GFq b1 b2 b3 b4 b5 P h h := GFq.rf h
  unfold f_Weaver_tell
  repeat' first
    | assumption
    | with_reducible refine KO.hv (fr_Faults_tell hpp _ _ _) ?_ (fun _ _ => ?_)
    | with_reducible refine KO.c (fr_Faults_tell hpp _ _ _) ?_
    | with_reducible exact KO.n
    | with_reducible refine KO.s ?_
    | with_reducible refine KO.i ?_ ?_
    | with_reducible refine KO.b ?_ ?_
    | with_reducible refine KO.k ?_ (fun _ _ => ?_)
theorem fr_Names_know (hpp : P = 32 ∨ P = 48) (n4 : ¬ b4) (h : mv_H) (a0 : Int32) (a1 : Int32) (a2 : Int32) : KO b1 b2 b3 b4 b5 P h (f_Names_know h a0 a1 a2) := by
  have s0 : GFq b1 b2 b3 b4 b5 P h h := GFq.rf h
  unfold f_Names_know
  repeat' first
    | assumption
    | with_reducible exact KO.n
    | with_reducible refine KO.s ?_
    | with_reducible refine KO.i ?_ ?_
    | with_reducible refine KO.b ?_ ?_
    | with_reducible refine KO.k ?_ (fun _ _ => ?_)
    | (with_reducible refine GFq.sa ?_ ?b; (case b => omega))
    | (with_reducible refine GFq.a15 n4 ?_ ?b; (case b => omega))
theorem fr_Names_addLet (hpp : P = 32 ∨ P = 48) (n4 : ¬ b4) (h : mv_H) (a0 : Int32) (a1 : Int32) : KO b1 b2 b3 b4 b5 P h (f_Names_addLet h a0 a1) := by
  have s0 : GFq b1 b2 b3 b4 b5 P h h := GFq.rf h
  unfold f_Names_addLet
  repeat' first
    | assumption
    | with_reducible refine KO.hv (fr_Names_know hpp n4 _ _ _ _) ?_ (fun _ _ => ?_)
    | with_reducible refine KO.c (fr_Names_know hpp n4 _ _ _ _) ?_
    | with_reducible exact KO.n
    | with_reducible refine KO.s ?_
    | with_reducible refine KO.i ?_ ?_
    | with_reducible refine KO.b ?_ ?_
    | with_reducible refine KO.k ?_ (fun _ _ => ?_)
    | (with_reducible refine GFq.si ?_ ?b; (case b => omega))
    | (with_reducible refine GFq.sa ?_ ?b; (case b => omega))
theorem fr_Weaver_addLet (hpp : P = 32 ∨ P = 48) (n4 : ¬ b4) (n5 : ¬ b5) (h : mv_H) (a0 : Int32) : KO b1 b2 b3 b4 b5 P h (f_Weaver_addLet P h a0) := by
  have s0 : GFq b1 b2 b3 b4 b5 P h h := GFq.rf h
  unfold f_Weaver_addLet
  repeat' first
    | assumption
    | with_reducible refine KO.hb (fr_Program_emit hpp n5 _ _ _) ?_ (fun _ _ _ => ?_)
    | with_reducible refine KO.hv (fr_Names_addLet hpp n4 _ _ _) ?_ (fun _ _ => ?_)
    | with_reducible refine KO.c (fr_Names_addLet hpp n4 _ _ _) ?_
    | with_reducible exact KO.n
    | with_reducible refine KO.s ?_
    | with_reducible refine KO.i ?_ ?_
    | with_reducible refine KO.b ?_ ?_
    | with_reducible refine KO.k ?_ (fun _ _ => ?_)
theorem fr_Weaver_finish_115 (hpp : P = 32 ∨ P = 48) (hz : mv_H) : KO b1 b2 b3 b4 b5 P hz (f_Weaver_finish_115 P hz) := by
  have s0 : GFq b1 b2 b3 b4 b5 P hz hz := GFq.rf hz
  unfold f_Weaver_finish_115
  repeat' first
    | assumption
    | with_reducible refine KO.hb (fr_Tokens_take hpp _ _) ?_ (fun _ _ _ => ?_)
    | with_reducible exact KO.n
    | with_reducible refine KO.s ?_
    | with_reducible refine KO.i ?_ ?_
    | with_reducible refine KO.b ?_ ?_
    | with_reducible refine KO.k ?_ (fun _ _ => ?_)
theorem fr_Weaver_assign_63 (hpp : P = 32 ∨ P = 48) (n5 : ¬ b5) (y0 : Int32) (hz : mv_H) : KO b1 b2 b3 b4 b5 P hz (f_Weaver_assign_63 P y0 hz) := by
  have s0 : GFq b1 b2 b3 b4 b5 P hz hz := GFq.rf hz
  unfold f_Weaver_assign_63
  repeat' first
    | assumption
    | with_reducible refine KO.hb (fr_Program_emit hpp n5 _ _ _) ?_ (fun _ _ _ => ?_)
    | with_reducible exact KO.n
    | with_reducible refine KO.s ?_
    | with_reducible refine KO.i ?_ ?_
    | with_reducible refine KO.b ?_ ?_
    | with_reducible refine KO.k ?_ (fun _ _ => ?_)
theorem fr_Weaver_assign_42 (hpp : P = 32 ∨ P = 48) (n5 : ¬ b5) (hz : mv_H) : KO b1 b2 b3 b4 b5 P hz (f_Weaver_assign_42 P hz) := by
  have s0 : GFq b1 b2 b3 b4 b5 P hz hz := GFq.rf hz
  unfold f_Weaver_assign_42
  repeat' first
    | assumption
    | with_reducible refine KO.hv (fr_Weaver_assign_63 hpp n5 _ _) ?_ (fun _ _ => ?_)
    | with_reducible refine KO.c (fr_Weaver_assign_63 hpp n5 _ _) ?_
    | with_reducible exact KO.n
    | with_reducible refine KO.s ?_
    | with_reducible refine KO.i ?_ ?_
    | with_reducible refine KO.b ?_ ?_
    | with_reducible refine KO.k ?_ (fun _ _ => ?_)
theorem fr_Weaver_assign (hpp : P = 32 ∨ P = 48) (n5 : ¬ b5) (h : mv_H) (a0 : Int32) : KO b1 b2 b3 b4 b5 P h (f_Weaver_assign P h a0) := by
  have s0 : GFq b1 b2 b3 b4 b5 P h h := GFq.rf h
  unfold f_Weaver_assign
  repeat' first
    | assumption
    | with_reducible refine KO.hv (fr_Weaver_assign_42 hpp n5 _) ?_ (fun _ _ => ?_)
    | with_reducible refine KO.c (fr_Weaver_assign_42 hpp n5 _) ?_
    | with_reducible refine KO.hv (fr_Weaver_tell hpp _ _ _) ?_ (fun _ _ => ?_)
    | with_reducible refine KO.c (fr_Weaver_tell hpp _ _ _) ?_
    | with_reducible exact KO.n
    | with_reducible refine KO.s ?_
    | with_reducible refine KO.i ?_ ?_
    | with_reducible refine KO.b ?_ ?_
    | with_reducible refine KO.k ?_ (fun _ _ => ?_)
theorem fr_Weaver_finish (hpp : P = 32 ∨ P = 48) (n4 : ¬ b4) (n5 : ¬ b5) (h : mv_H) : KO b1 b2 b3 b4 b5 P h (f_Weaver_finish P h) := by
  have s0 : GFq b1 b2 b3 b4 b5 P h h := GFq.rf h
  unfold f_Weaver_finish
  repeat' first
    | assumption
    | with_reducible refine KO.hb (fr_Exprs_release hpp _) ?_ (fun _ _ _ => ?_)
    | with_reducible refine KO.hb (fr_Tokens_close hpp _ _) ?_ (fun _ _ _ => ?_)
    | with_reducible refine KO.hb (fr_Tokens_take hpp _ _) ?_ (fun _ _ _ => ?_)
    | with_reducible refine KO.hv (fr_Weaver_beginExpr hpp _ _) ?_ (fun _ _ => ?_)
    | with_reducible refine KO.c (fr_Weaver_beginExpr hpp _ _) ?_
    | with_reducible refine KO.hv (fr_Weaver_finish_72 hpp n5 _) ?_ (fun _ _ => ?_)
    | with_reducible refine KO.c (fr_Weaver_finish_72 hpp n5 _) ?_
    | with_reducible refine KO.hv (fr_Weaver_tell hpp _ _ _) ?_ (fun _ _ => ?_)
    | with_reducible refine KO.c (fr_Weaver_tell hpp _ _ _) ?_
    | with_reducible refine KO.hv (fr_Weaver_addLet hpp n4 n5 _ _) ?_ (fun _ _ => ?_)
    | with_reducible refine KO.c (fr_Weaver_addLet hpp n4 n5 _ _) ?_
    | with_reducible refine KO.hv (fr_Weaver_finish_115 hpp _) ?_ (fun _ _ => ?_)
    | with_reducible refine KO.c (fr_Weaver_finish_115 hpp _) ?_
    | with_reducible refine KO.hv (fr_Weaver_assign hpp n5 _ _) ?_ (fun _ _ => ?_)
    | with_reducible refine KO.c (fr_Weaver_assign hpp n5 _ _) ?_
    | with_reducible exact KO.n
    | with_reducible refine KO.s ?_
    | with_reducible refine KO.i ?_ ?_
    | with_reducible refine KO.b ?_ ?_
    | with_reducible refine KO.k ?_ (fun _ _ => ?_)
    | (with_reducible refine GFq.si ?_ ?b; (case b => omega))
theorem fr_Weaver_symbolOf (hpp : P = 32 ∨ P = 48) (h : mv_H) (a0 : Int32) : KV b1 b2 b3 b4 b5 P h (f_Weaver_symbolOf h a0) := by
  have s0 : GFq b1 b2 b3 b4 b5 P h h := GFq.rf h
  unfold f_Weaver_symbolOf
  repeat' first
    | assumption
    | with_reducible exact KV.n
    | with_reducible refine KV.s ?_
    | with_reducible refine KV.i ?_ ?_
    | with_reducible refine KV.b ?_ ?_
    | with_reducible refine KV.k ?_ (fun _ _ => ?_)
theorem fr_Symbols_letter_32 (hpp : P = 32 ∨ P = 48) (hz : mv_H) : KV b1 b2 b3 b4 b5 P hz (f_Symbols_letter_32 hz) := by
  have s0 : GFq b1 b2 b3 b4 b5 P hz hz := GFq.rf hz
  unfold f_Symbols_letter_32
  repeat' first
    | assumption
    | with_reducible exact KV.n
    | with_reducible refine KV.s ?_
    | with_reducible refine KV.i ?_ ?_
    | with_reducible refine KV.b ?_ ?_
    | with_reducible refine KV.k ?_ (fun _ _ => ?_)
theorem fr_Symbols_letter (hpp : P = 32 ∨ P = 48) (h : mv_H) (a0 : Int32) : KV b1 b2 b3 b4 b5 P h (f_Symbols_letter h a0) := by
  have s0 : GFq b1 b2 b3 b4 b5 P h h := GFq.rf h
  unfold f_Symbols_letter
  repeat' first
    | assumption
    | with_reducible refine KV.hb (fr_Symbols_letter_32 hpp _) ?_ (fun _ _ _ => ?_)
    | with_reducible refine KV.c (fr_Symbols_letter_32 hpp _) ?_
    | with_reducible exact KV.n
    | with_reducible refine KV.s ?_
    | with_reducible refine KV.i ?_ ?_
    | with_reducible refine KV.b ?_ ?_
    | with_reducible refine KV.k ?_ (fun _ _ => ?_)
theorem fr_Names_kindOf (hpp : P = 32 ∨ P = 48) (h : mv_H) (a0 : Int32) : KV b1 b2 b3 b4 b5 P h (f_Names_kindOf h a0) := by
  have s0 : GFq b1 b2 b3 b4 b5 P h h := GFq.rf h
  unfold f_Names_kindOf
  repeat' first
    | assumption
    | with_reducible refine KV.hb (fr_Symbols_letter hpp _ _) ?_ (fun _ _ _ => ?_)
    | with_reducible refine KV.c (fr_Symbols_letter hpp _ _) ?_
    | with_reducible exact KV.n
    | with_reducible refine KV.s ?_
    | with_reducible refine KV.i ?_ ?_
    | with_reducible refine KV.b ?_ ?_
    | with_reducible refine KV.k ?_ (fun _ _ => ?_)
theorem fr_Weaver_beginAssignment_77 (hpp : P = 32 ∨ P = 48) (x3 : Int32) (hz : mv_H) : KO b1 b2 b3 b4 b5 P hz (f_Weaver_beginAssignment_77 x3 hz) := by
  have s0 : GFq b1 b2 b3 b4 b5 P hz hz := GFq.rf hz
  unfold f_Weaver_beginAssignment_77
  repeat' first
    | assumption
    | with_reducible refine KO.hb (fr_Tokens_take hpp _ _) ?_ (fun _ _ _ => ?_)
    | with_reducible refine KO.hv (fr_Weaver_beginExpr hpp _ _) ?_ (fun _ _ => ?_)
    | with_reducible refine KO.c (fr_Weaver_beginExpr hpp _ _) ?_
    | with_reducible refine KO.hb (fr_Tokens_open hpp _ _) ?_ (fun _ _ _ => ?_)
    | with_reducible exact KO.n
    | with_reducible refine KO.s ?_
    | with_reducible refine KO.i ?_ ?_
    | with_reducible refine KO.b ?_ ?_
    | with_reducible refine KO.k ?_ (fun _ _ => ?_)
    | (with_reducible refine GFq.si ?_ ?b; (case b => omega))
theorem fr_Weaver_beginAssignment_63 (hpp : P = 32 ∨ P = 48) (x1 : Int32) (x3 : Int32) (y0 : Int32) (y1 : Int32) (hz : mv_H) : KO b1 b2 b3 b4 b5 P hz (f_Weaver_beginAssignment_63 x1 x3 y0 y1 hz) := by
  have s0 : GFq b1 b2 b3 b4 b5 P hz hz := GFq.rf hz
  unfold f_Weaver_beginAssignment_63
  repeat' first
    | assumption
    | with_reducible refine KO.hv (fr_Weaver_beginAssignment_77 hpp _ _) ?_ (fun _ _ => ?_)
    | with_reducible refine KO.c (fr_Weaver_beginAssignment_77 hpp _ _) ?_
    | with_reducible refine KO.hv (fr_Weaver_tell hpp _ _ _) ?_ (fun _ _ => ?_)
    | with_reducible refine KO.c (fr_Weaver_tell hpp _ _ _) ?_
    | with_reducible exact KO.n
    | with_reducible refine KO.s ?_
    | with_reducible refine KO.i ?_ ?_
    | with_reducible refine KO.b ?_ ?_
    | with_reducible refine KO.k ?_ (fun _ _ => ?_)
    | (with_reducible refine GFq.si ?_ ?b; (case b => omega))
theorem fr_Weaver_beginAssignment_32 (hpp : P = 32 ∨ P = 48) (x1 : Int32) (x2 : Int32) (y0 : Int32) (hz : mv_H) : KO b1 b2 b3 b4 b5 P hz (f_Weaver_beginAssignment_32 x1 x2 y0 hz) := by
  have s0 : GFq b1 b2 b3 b4 b5 P hz hz := GFq.rf hz
  unfold f_Weaver_beginAssignment_32
  repeat' first
    | assumption
    | with_reducible refine KO.hb (fr_Names_kindOf hpp _ _) ?_ (fun _ _ _ => ?_)
    | with_reducible refine KO.hv (fr_Weaver_beginAssignment_63 hpp _ _ _ _ _) ?_ (fun _ _ => ?_)
    | with_reducible refine KO.c (fr_Weaver_beginAssignment_63 hpp _ _ _ _ _) ?_
    | with_reducible exact KO.n
    | with_reducible refine KO.s ?_
    | with_reducible refine KO.i ?_ ?_
    | with_reducible refine KO.b ?_ ?_
    | with_reducible refine KO.k ?_ (fun _ _ => ?_)
    | (with_reducible refine GFq.si ?_ ?b; (case b => omega))
theorem fr_Weaver_beginAssignment (hpp : P = 32 ∨ P = 48) (h : mv_H) : KO b1 b2 b3 b4 b5 P h (f_Weaver_beginAssignment h) := by
  have s0 : GFq b1 b2 b3 b4 b5 P h h := GFq.rf h
  unfold f_Weaver_beginAssignment
  repeat' first
    | assumption
    | with_reducible refine KO.hb (fr_Tokens_take hpp _ _) ?_ (fun _ _ _ => ?_)
    | with_reducible refine KO.hb (fr_Weaver_symbolOf hpp _ _) ?_ (fun _ _ _ => ?_)
    | with_reducible refine KO.hb (fr_Tokens_kind hpp _) ?_ (fun _ _ _ => ?_)
    | with_reducible refine KO.hv (fr_Weaver_beginAssignment_32 hpp _ _ _ _) ?_ (fun _ _ => ?_)
    | with_reducible refine KO.c (fr_Weaver_beginAssignment_32 hpp _ _ _ _) ?_
    | with_reducible exact KO.n
    | with_reducible refine KO.s ?_
    | with_reducible refine KO.i ?_ ?_
    | with_reducible refine KO.b ?_ ?_
    | with_reducible refine KO.k ?_ (fun _ _ => ?_)
theorem fr_Names_forget_2 (hpp : P = 32 ∨ P = 48) : ∀ (nn : Nat) (x0 : Int32) (x1 : Int32) (hz : mv_H), KO b1 b2 b3 b4 b5 P hz (f_Names_forget_2 nn x0 x1 hz) := by
  intro nn
  induction nn with
  | zero => intro x0 x1 hz; exact KO.n
  | succ nn ih =>
   intro x0 x1 hz
   have s0 : GFq b1 b2 b3 b4 b5 P hz hz := GFq.rf hz
   show KO b1 b2 b3 b4 b5 P hz (fF_Names_forget_2 (f_Names_forget_2 nn) x0 x1 hz)
   unfold fF_Names_forget_2
   repeat' first
     | assumption
     | with_reducible refine KO.c (ih _ _ _) ?_
     | with_reducible exact KO.n
     | with_reducible refine KO.s ?_
     | with_reducible refine KO.i ?_ ?_
     | with_reducible refine KO.b ?_ ?_
     | with_reducible refine KO.k ?_ (fun _ _ => ?_)
     | (with_reducible refine GFq.si ?_ ?b; (case b => omega))
     | (with_reducible refine GFq.sa ?_ ?b; (case b => omega))
theorem fr_Names_forget (hpp : P = 32 ∨ P = 48) (h : mv_H) (a0 : Int32) : KO b1 b2 b3 b4 b5 P h (f_Names_forget h a0) := by
  have s0 : GFq b1 b2 b3 b4 b5 P h h := GFq.rf h
  unfold f_Names_forget
  repeat' first
    | assumption
    | with_reducible refine KO.hv (fr_Names_forget_2 hpp _ _ _ _) ?_ (fun _ _ => ?_)
    | with_reducible refine KO.c (fr_Names_forget_2 hpp _ _ _ _) ?_
    | with_reducible exact KO.n
    | with_reducible refine KO.s ?_
    | with_reducible refine KO.i ?_ ?_
    | with_reducible refine KO.b ?_ ?_
    | with_reducible refine KO.k ?_ (fun _ _ => ?_)
theorem fr_Names_leaveOp (hpp : P = 32 ∨ P = 48) (h : mv_H) : KO b1 b2 b3 b4 b5 P h (f_Names_leaveOp h) := by
  have s0 : GFq b1 b2 b3 b4 b5 P h h := GFq.rf h
  unfold f_Names_leaveOp
  repeat' first
    | assumption
    | with_reducible refine KO.hv (fr_Names_forget hpp _ _) ?_ (fun _ _ => ?_)
    | with_reducible refine KO.c (fr_Names_forget hpp _ _) ?_
    | with_reducible exact KO.n
    | with_reducible refine KO.s ?_
    | with_reducible refine KO.i ?_ ?_
    | with_reducible refine KO.b ?_ ?_
    | with_reducible refine KO.k ?_ (fun _ _ => ?_)
    | (with_reducible refine GFq.si ?_ ?b; (case b => omega))
    | (with_reducible refine GFq.fl ?_ ?b; (case b => omega))
    | (with_reducible refine GFq.fi ?_ ?b; (case b => omega))
theorem fr_Program_aim (hpp : P = 32 ∨ P = 48) (n5 : ¬ b5) (h : mv_H) (a0 : Int32) : KO b1 b2 b3 b4 b5 P h (f_Program_aim P h a0) := by
  have s0 : GFq b1 b2 b3 b4 b5 P h h := GFq.rf h
  unfold f_Program_aim
  repeat' first
    | assumption
    | with_reducible exact KO.n
    | with_reducible refine KO.s ?_
    | with_reducible refine KO.i ?_ ?_
    | with_reducible refine KO.b ?_ ?_
    | with_reducible refine KO.k ?_ (fun _ _ => ?_)
    | (with_reducible refine GFq.sb ?_ ?b; (case b => omega))
    | with_reducible refine GFq.i17 n5 ?_
    | (with_reducible refine GFq.a9 n5 ?_ ?b; (case b => omega))
    | with_reducible refine GFq.b10 n5 ?_
theorem fr_Weaver_beginIf (hpp : P = 32 ∨ P = 48) (h : mv_H) (a0 : Int32) : KO b1 b2 b3 b4 b5 P h (f_Weaver_beginIf h a0) := by
  have s0 : GFq b1 b2 b3 b4 b5 P h h := GFq.rf h
  unfold f_Weaver_beginIf
  repeat' first
    | assumption
    | with_reducible refine KO.hb (fr_Tokens_take hpp _ _) ?_ (fun _ _ _ => ?_)
    | with_reducible refine KO.hv (fr_Weaver_beginExpr hpp _ _) ?_ (fun _ _ => ?_)
    | with_reducible refine KO.c (fr_Weaver_beginExpr hpp _ _) ?_
    | with_reducible exact KO.n
    | with_reducible refine KO.s ?_
    | with_reducible refine KO.i ?_ ?_
    | with_reducible refine KO.b ?_ ?_
    | with_reducible refine KO.k ?_ (fun _ _ => ?_)
    | (with_reducible refine GFq.si ?_ ?b; (case b => omega))
theorem fr_Program_aimAll_4 (hpp : P = 32 ∨ P = 48) (n5 : ¬ b5) : ∀ (nn : Nat) (x0 : Int32) (x1 : Int32) (hz : mv_H), KO b1 b2 b3 b4 b5 P hz (f_Program_aimAll_4 P nn x0 x1 hz) := by
  intro nn
  induction nn with
  | zero => intro x0 x1 hz; exact KO.n
  | succ nn ih =>
   intro x0 x1 hz
   have s0 : GFq b1 b2 b3 b4 b5 P hz hz := GFq.rf hz
   show KO b1 b2 b3 b4 b5 P hz (fF_Program_aimAll_4 P (f_Program_aimAll_4 P nn) x0 x1 hz)
   unfold fF_Program_aimAll_4
   repeat' first
     | assumption
     | with_reducible refine KO.c (ih _ _ _) ?_
     | with_reducible exact KO.n
     | with_reducible refine KO.s ?_
     | with_reducible refine KO.i ?_ ?_
     | with_reducible refine KO.b ?_ ?_
     | with_reducible refine KO.k ?_ (fun _ _ => ?_)
     | (with_reducible refine GFq.sb ?_ ?b; (case b => omega))
     | with_reducible refine GFq.i17 n5 ?_
     | (with_reducible refine GFq.a9 n5 ?_ ?b; (case b => omega))
     | with_reducible refine GFq.b10 n5 ?_
theorem fr_Program_aimAll (hpp : P = 32 ∨ P = 48) (n5 : ¬ b5) (h : mv_H) (a0 : Int32) : KO b1 b2 b3 b4 b5 P h (f_Program_aimAll P h a0) := by
  have s0 : GFq b1 b2 b3 b4 b5 P h h := GFq.rf h
  unfold f_Program_aimAll
  repeat' first
    | assumption
    | with_reducible refine KO.hv (fr_Program_aimAll_4 hpp n5 _ _ _ _) ?_ (fun _ _ => ?_)
    | with_reducible refine KO.c (fr_Program_aimAll_4 hpp n5 _ _ _ _) ?_
    | with_reducible exact KO.n
    | with_reducible refine KO.s ?_
    | with_reducible refine KO.i ?_ ?_
    | with_reducible refine KO.b ?_ ?_
    | with_reducible refine KO.k ?_ (fun _ _ => ?_)
theorem fr_Weaver_closeBlock_181 (hpp : P = 32 ∨ P = 48) (n5 : ¬ b5) (hz : mv_H) : KO b1 b2 b3 b4 b5 P hz (f_Weaver_closeBlock_181 P hz) := by
  have s0 : GFq b1 b2 b3 b4 b5 P hz hz := GFq.rf hz
  unfold f_Weaver_closeBlock_181
  repeat' first
    | assumption
    | with_reducible refine KO.hv (fr_Program_aim hpp n5 _ _) ?_ (fun _ _ => ?_)
    | with_reducible refine KO.c (fr_Program_aim hpp n5 _ _) ?_
    | with_reducible refine KO.hv (fr_Program_aimAll hpp n5 _ _) ?_ (fun _ _ => ?_)
    | with_reducible refine KO.c (fr_Program_aimAll hpp n5 _ _) ?_
    | with_reducible exact KO.n
    | with_reducible refine KO.s ?_
    | with_reducible refine KO.i ?_ ?_
    | with_reducible refine KO.b ?_ ?_
    | with_reducible refine KO.k ?_ (fun _ _ => ?_)
theorem fr_Weaver_closeBlock (hpp : P = 32 ∨ P = 48) (n5 : ¬ b5) (h : mv_H) : KO b1 b2 b3 b4 b5 P h (f_Weaver_closeBlock P h) := by
  have s0 : GFq b1 b2 b3 b4 b5 P h h := GFq.rf h
  unfold f_Weaver_closeBlock
  repeat' first
    | assumption
    | with_reducible refine KO.hb (fr_Tokens_close hpp _ _) ?_ (fun _ _ _ => ?_)
    | with_reducible refine KO.hv (fr_Names_forget hpp _ _) ?_ (fun _ _ => ?_)
    | with_reducible refine KO.c (fr_Names_forget hpp _ _) ?_
    | with_reducible refine KO.hb (fr_Program_emit hpp n5 _ _ _) ?_ (fun _ _ _ => ?_)
    | with_reducible refine KO.hv (fr_Names_leaveOp hpp _) ?_ (fun _ _ => ?_)
    | with_reducible refine KO.c (fr_Names_leaveOp hpp _) ?_
    | with_reducible refine KO.hb (fr_Tokens_kind hpp _) ?_ (fun _ _ _ => ?_)
    | with_reducible refine KO.hb (fr_Tokens_take hpp _ _) ?_ (fun _ _ _ => ?_)
    | with_reducible refine KO.hv (fr_Program_aim hpp n5 _ _) ?_ (fun _ _ => ?_)
    | with_reducible refine KO.c (fr_Program_aim hpp n5 _ _) ?_
    | with_reducible refine KO.hv (fr_Weaver_beginIf hpp _ _) ?_ (fun _ _ => ?_)
    | with_reducible refine KO.c (fr_Weaver_beginIf hpp _ _) ?_
    | with_reducible refine KO.hv (fr_Weaver_openBlock hpp _ _ _ _) ?_ (fun _ _ => ?_)
    | with_reducible refine KO.c (fr_Weaver_openBlock hpp _ _ _ _) ?_
    | with_reducible refine KO.hv (fr_Weaver_closeBlock_181 hpp n5 _) ?_ (fun _ _ => ?_)
    | with_reducible refine KO.c (fr_Weaver_closeBlock_181 hpp n5 _) ?_
    | with_reducible exact KO.n
    | with_reducible refine KO.s ?_
    | with_reducible refine KO.i ?_ ?_
    | with_reducible refine KO.b ?_ ?_
    | with_reducible refine KO.k ?_ (fun _ _ => ?_)
    | (with_reducible refine GFq.si ?_ ?b; (case b => omega))
theorem fr_Weaver_beginLet_94 (hpp : P = 32 ∨ P = 48) (hz : mv_H) : KO b1 b2 b3 b4 b5 P hz (f_Weaver_beginLet_94 hz) := by
  have s0 : GFq b1 b2 b3 b4 b5 P hz hz := GFq.rf hz
  unfold f_Weaver_beginLet_94
  repeat' first
    | assumption
    | with_reducible refine KO.hv (fr_Weaver_beginExpr hpp _ _) ?_ (fun _ _ => ?_)
    | with_reducible refine KO.c (fr_Weaver_beginExpr hpp _ _) ?_
    | with_reducible exact KO.n
    | with_reducible refine KO.s ?_
    | with_reducible refine KO.i ?_ ?_
    | with_reducible refine KO.b ?_ ?_
    | with_reducible refine KO.k ?_ (fun _ _ => ?_)
theorem fr_Weaver_beginLet (hpp : P = 32 ∨ P = 48) (h : mv_H) : KO b1 b2 b3 b4 b5 P h (f_Weaver_beginLet h) := by
  have s0 : GFq b1 b2 b3 b4 b5 P h h := GFq.rf h
  unfold f_Weaver_beginLet
  repeat' first
    | assumption
    | with_reducible refine KO.hb (fr_Tokens_take hpp _ _) ?_ (fun _ _ _ => ?_)
    | with_reducible refine KO.hb (fr_Weaver_symbolOf hpp _ _) ?_ (fun _ _ _ => ?_)
    | with_reducible refine KO.hb (fr_Names_kindOf hpp _ _) ?_ (fun _ _ _ => ?_)
    | with_reducible refine KO.hv (fr_Weaver_tell hpp _ _ _) ?_ (fun _ _ => ?_)
    | with_reducible refine KO.c (fr_Weaver_tell hpp _ _ _) ?_
    | with_reducible refine KO.hv (fr_Weaver_beginLet_94 hpp _) ?_ (fun _ _ => ?_)
    | with_reducible refine KO.c (fr_Weaver_beginLet_94 hpp _) ?_
    | with_reducible exact KO.n
    | with_reducible refine KO.s ?_
    | with_reducible refine KO.i ?_ ?_
    | with_reducible refine KO.b ?_ ?_
    | with_reducible refine KO.k ?_ (fun _ _ => ?_)
    | (with_reducible refine GFq.si ?_ ?b; (case b => omega))
theorem fr_Weaver_numberUpTo_23 (hpp : P = 32 ∨ P = 48) (x1 : Int32) (hz : mv_H) : KV b1 b2 b3 b4 b5 P hz (f_Weaver_numberUpTo_23 x1 hz) := by
  have s0 : GFq b1 b2 b3 b4 b5 P hz hz := GFq.rf hz
  unfold f_Weaver_numberUpTo_23
  repeat' first
    | assumption
    | with_reducible refine KV.hv (fr_Weaver_tell hpp _ _ _) ?_ (fun _ _ => ?_)
    | with_reducible exact KV.n
    | with_reducible refine KV.s ?_
    | with_reducible refine KV.i ?_ ?_
    | with_reducible refine KV.b ?_ ?_
    | with_reducible refine KV.k ?_ (fun _ _ => ?_)
theorem fr_Weaver_numberUpTo (hpp : P = 32 ∨ P = 48) (h : mv_H) (a0 : Int32) (a1 : Int32) : KV b1 b2 b3 b4 b5 P h (f_Weaver_numberUpTo h a0 a1) := by
  have s0 : GFq b1 b2 b3 b4 b5 P h h := GFq.rf h
  unfold f_Weaver_numberUpTo
  repeat' first
    | assumption
    | with_reducible refine KV.hb (fr_Weaver_numberUpTo_23 hpp _ _) ?_ (fun _ _ _ => ?_)
    | with_reducible refine KV.c (fr_Weaver_numberUpTo_23 hpp _ _) ?_
    | with_reducible exact KV.n
    | with_reducible refine KV.s ?_
    | with_reducible refine KV.i ?_ ?_
    | with_reducible refine KV.b ?_ ?_
    | with_reducible refine KV.k ?_ (fun _ _ => ?_)
theorem fr_Weaver_statement (hpp : P = 32 ∨ P = 48) (n5 : ¬ b5) (h : mv_H) : KO b1 b2 b3 b4 b5 P h (f_Weaver_statement P h) := by
  have s0 : GFq b1 b2 b3 b4 b5 P h h := GFq.rf h
  unfold f_Weaver_statement
  repeat' first
    | assumption
    | with_reducible refine KO.hb (fr_Tokens_kind hpp _) ?_ (fun _ _ _ => ?_)
    | with_reducible refine KO.hv (fr_Weaver_beginAssignment hpp _) ?_ (fun _ _ => ?_)
    | with_reducible refine KO.c (fr_Weaver_beginAssignment hpp _) ?_
    | with_reducible refine KO.hv (fr_Weaver_closeBlock hpp n5 _) ?_ (fun _ _ => ?_)
    | with_reducible refine KO.c (fr_Weaver_closeBlock hpp n5 _) ?_
    | with_reducible refine KO.hv (fr_Weaver_beginLet hpp _) ?_ (fun _ _ => ?_)
    | with_reducible refine KO.c (fr_Weaver_beginLet hpp _) ?_
    | with_reducible refine KO.hb (fr_Tokens_take hpp _ _) ?_ (fun _ _ _ => ?_)
    | with_reducible refine KO.hb (fr_Weaver_numberUpTo hpp _ _ _) ?_ (fun _ _ _ => ?_)
    | with_reducible refine KO.hb (fr_Program_emit hpp n5 _ _ _) ?_ (fun _ _ _ => ?_)
    | with_reducible refine KO.hv (fr_Weaver_beginIf hpp _ _) ?_ (fun _ _ => ?_)
    | with_reducible refine KO.c (fr_Weaver_beginIf hpp _ _) ?_
    | with_reducible refine KO.hv (fr_Tokens_wrong hpp _) ?_ (fun _ _ => ?_)
    | with_reducible refine KO.c (fr_Tokens_wrong hpp _) ?_
    | with_reducible exact KO.n
    | with_reducible refine KO.s ?_
    | with_reducible refine KO.i ?_ ?_
    | with_reducible refine KO.b ?_ ?_
    | with_reducible refine KO.k ?_ (fun _ _ => ?_)
theorem fr_Weaver_isNew_49 (hpp : P = 32 ∨ P = 48) (x1 : Int32) (hz : mv_H) : KV b1 b2 b3 b4 b5 P hz (f_Weaver_isNew_49 P x1 hz) := by
  have s0 : GFq b1 b2 b3 b4 b5 P hz hz := GFq.rf hz
  unfold f_Weaver_isNew_49
  repeat' first
    | assumption
    | with_reducible refine KV.hv (fr_Weaver_tell hpp _ _ _) ?_ (fun _ _ => ?_)
    | with_reducible exact KV.n
    | with_reducible refine KV.s ?_
    | with_reducible refine KV.i ?_ ?_
    | with_reducible refine KV.b ?_ ?_
    | with_reducible refine KV.k ?_ (fun _ _ => ?_)
theorem fr_Weaver_isNew (hpp : P = 32 ∨ P = 48) (h : mv_H) (a0 : Int32) (a1 : Int32) : KV b1 b2 b3 b4 b5 P h (f_Weaver_isNew P h a0 a1) := by
  have s0 : GFq b1 b2 b3 b4 b5 P h h := GFq.rf h
  unfold f_Weaver_isNew
  repeat' first
    | assumption
    | with_reducible refine KV.hb (fr_Weaver_symbolOf hpp _ _) ?_ (fun _ _ _ => ?_)
    | with_reducible refine KV.c (fr_Weaver_symbolOf hpp _ _) ?_
    | with_reducible refine KV.hb (fr_Names_kindOf hpp _ _) ?_ (fun _ _ _ => ?_)
    | with_reducible refine KV.c (fr_Names_kindOf hpp _ _) ?_
    | with_reducible refine KV.hb (fr_Weaver_isNew_49 hpp _ _) ?_ (fun _ _ _ => ?_)
    | with_reducible refine KV.c (fr_Weaver_isNew_49 hpp _ _) ?_
    | with_reducible refine KV.hv (fr_Weaver_tell hpp _ _ _) ?_ (fun _ _ => ?_)
    | with_reducible exact KV.n
    | with_reducible refine KV.s ?_
    | with_reducible refine KV.i ?_ ?_
    | with_reducible refine KV.b ?_ ?_
    | with_reducible refine KV.k ?_ (fun _ _ => ?_)
theorem fr_Program_addThing_57 (hpp : P = 32 ∨ P = 48) (n1 : ¬ b1) (x2 : Int32) (y0 : Int32) (y1 : Int32) (hz : mv_H) : KO b1 b2 b3 b4 b5 P hz (f_Program_addThing_57 P x2 y0 y1 hz) := by
  have s0 : GFq b1 b2 b3 b4 b5 P hz hz := GFq.rf hz
  unfold f_Program_addThing_57
  repeat' first
    | assumption
    | with_reducible exact KO.n
    | with_reducible refine KO.s ?_
    | with_reducible refine KO.i ?_ ?_
    | with_reducible refine KO.b ?_ ?_
    | with_reducible refine KO.k ?_ (fun _ _ => ?_)
    | (with_reducible refine GFq.si ?_ ?b; (case b => omega))
    | with_reducible refine GFq.i6 n1 ?_
    | (with_reducible refine GFq.a3 n1 ?_ ?b ?d; (case b => omega); (case d => omega))
theorem fr_Program_addThing (hpp : P = 32 ∨ P = 48) (n1 : ¬ b1) (h : mv_H) (a0 : Int32) (a1 : Int32) (a2 : Int32) : KO b1 b2 b3 b4 b5 P h (f_Program_addThing P h a0 a1 a2) := by
  have s0 : GFq b1 b2 b3 b4 b5 P h h := GFq.rf h
  unfold f_Program_addThing
  repeat' first
    | assumption
    | with_reducible refine KO.hv (fr_Program_addThing_57 hpp n1 _ _ _ _) ?_ (fun _ _ => ?_)
    | with_reducible refine KO.c (fr_Program_addThing_57 hpp n1 _ _ _ _) ?_
    | with_reducible exact KO.n
    | with_reducible refine KO.s ?_
    | with_reducible refine KO.i ?_ ?_
    | with_reducible refine KO.b ?_ ?_
    | with_reducible refine KO.k ?_ (fun _ _ => ?_)
    | (with_reducible refine GFq.sa ?_ ?b; (case b => omega))
    | with_reducible refine GFq.i6 n1 ?_
    | (with_reducible refine GFq.a3 n1 ?_ ?b ?d; (case b => omega); (case d => omega))
theorem fr_Weaver_register (hpp : P = 32 ∨ P = 48) (n1 : ¬ b1) (n4 : ¬ b4) (h : mv_H) : KO b1 b2 b3 b4 b5 P h (f_Weaver_register P h) := by
  have s0 : GFq b1 b2 b3 b4 b5 P h h := GFq.rf h
  unfold f_Weaver_register
  repeat' first
    | assumption
    | with_reducible refine KO.hb (fr_Tokens_take hpp _ _) ?_ (fun _ _ _ => ?_)
    | with_reducible refine KO.hb (fr_Weaver_numberUpTo hpp _ _ _) ?_ (fun _ _ _ => ?_)
    | with_reducible refine KO.hb (fr_Tokens_right hpp _) ?_ (fun _ _ _ => ?_)
    | with_reducible refine KO.hb (fr_Weaver_isNew hpp _ _ _) ?_ (fun _ _ _ => ?_)
    | with_reducible refine KO.hb (fr_Weaver_symbolOf hpp _ _) ?_ (fun _ _ _ => ?_)
    | with_reducible refine KO.hv (fr_Names_know hpp n4 _ _ _ _) ?_ (fun _ _ => ?_)
    | with_reducible refine KO.c (fr_Names_know hpp n4 _ _ _ _) ?_
    | with_reducible refine KO.hv (fr_Program_addThing hpp n1 _ _ _ _) ?_ (fun _ _ => ?_)
    | with_reducible refine KO.c (fr_Program_addThing hpp n1 _ _ _ _) ?_
    | with_reducible exact KO.n
    | with_reducible refine KO.s ?_
    | with_reducible refine KO.i ?_ ?_
    | with_reducible refine KO.b ?_ ?_
    | with_reducible refine KO.k ?_ (fun _ _ => ?_)
theorem fr_Weaver_file_138 (hpp : P = 32 ∨ P = 48) (n1 : ¬ b1) (n4 : ¬ b4) (x1 : Int32) (x2 : Int32) (x3 : Int32) (x4 : Int32) (hz : mv_H) : KO b1 b2 b3 b4 b5 P hz (f_Weaver_file_138 P x1 x2 x3 x4 hz) := by
  have s0 : GFq b1 b2 b3 b4 b5 P hz hz := GFq.rf hz
  unfold f_Weaver_file_138
  repeat' first
    | assumption
    | with_reducible refine KO.hb (fr_Tokens_right hpp _) ?_ (fun _ _ _ => ?_)
    | with_reducible refine KO.hb (fr_Weaver_isNew hpp _ _ _) ?_ (fun _ _ _ => ?_)
    | with_reducible refine KO.hb (fr_Weaver_symbolOf hpp _ _) ?_ (fun _ _ _ => ?_)
    | with_reducible refine KO.hv (fr_Names_know hpp n4 _ _ _ _) ?_ (fun _ _ => ?_)
    | with_reducible refine KO.c (fr_Names_know hpp n4 _ _ _ _) ?_
    | with_reducible refine KO.hv (fr_Program_addThing hpp n1 _ _ _ _) ?_ (fun _ _ => ?_)
    | with_reducible refine KO.c (fr_Program_addThing hpp n1 _ _ _ _) ?_
    | with_reducible exact KO.n
    | with_reducible refine KO.s ?_
    | with_reducible refine KO.i ?_ ?_
    | with_reducible refine KO.b ?_ ?_
    | with_reducible refine KO.k ?_ (fun _ _ => ?_)
theorem fr_Weaver_file_134 (hpp : P = 32 ∨ P = 48) (n1 : ¬ b1) (n4 : ¬ b4) (x1 : Int32) (x4 : Int32) (hz : mv_H) : KO b1 b2 b3 b4 b5 P hz (f_Weaver_file_134 P x1 x4 hz) := by
  have s0 : GFq b1 b2 b3 b4 b5 P hz hz := GFq.rf hz
  unfold f_Weaver_file_134
  repeat' first
    | assumption
    | with_reducible refine KO.hv (fr_Weaver_file_138 hpp n1 n4 _ _ _ _ _) ?_ (fun _ _ => ?_)
    | with_reducible refine KO.c (fr_Weaver_file_138 hpp n1 n4 _ _ _ _ _) ?_
    | with_reducible exact KO.n
    | with_reducible refine KO.s ?_
    | with_reducible refine KO.i ?_ ?_
    | with_reducible refine KO.b ?_ ?_
    | with_reducible refine KO.k ?_ (fun _ _ => ?_)
theorem fr_Weaver_file_116 (hpp : P = 32 ∨ P = 48) (n1 : ¬ b1) (n4 : ¬ b4) (x1 : Int32) (x2 : Int32) (x3 : Int32) (x4 : Int32) (hz : mv_H) : KO b1 b2 b3 b4 b5 P hz (f_Weaver_file_116 P x1 x2 x3 x4 hz) := by
  have s0 : GFq b1 b2 b3 b4 b5 P hz hz := GFq.rf hz
  unfold f_Weaver_file_116
  repeat' first
    | assumption
    | with_reducible refine KO.hb (fr_Tokens_take hpp _ _) ?_ (fun _ _ _ => ?_)
    | with_reducible refine KO.hv (fr_Weaver_file_134 hpp n1 n4 _ _ _) ?_ (fun _ _ => ?_)
    | with_reducible refine KO.c (fr_Weaver_file_134 hpp n1 n4 _ _ _) ?_
    | with_reducible refine KO.hv (fr_Weaver_file_138 hpp n1 n4 _ _ _ _ _) ?_ (fun _ _ => ?_)
    | with_reducible refine KO.c (fr_Weaver_file_138 hpp n1 n4 _ _ _ _ _) ?_
    | with_reducible exact KO.n
    | with_reducible refine KO.s ?_
    | with_reducible refine KO.i ?_ ?_
    | with_reducible refine KO.b ?_ ?_
    | with_reducible refine KO.k ?_ (fun _ _ => ?_)
theorem fr_Weaver_file_98 (hpp : P = 32 ∨ P = 48) (n1 : ¬ b1) (n4 : ¬ b4) (x1 : Int32) (x2 : Int32) (x3 : Int32) (y0 : Int32) (hz : mv_H) : KO b1 b2 b3 b4 b5 P hz (f_Weaver_file_98 P x1 x2 x3 y0 hz) := by
  have s0 : GFq b1 b2 b3 b4 b5 P hz hz := GFq.rf hz
  unfold f_Weaver_file_98
  repeat' first
    | assumption
    | with_reducible refine KO.hv (fr_Weaver_file_116 hpp n1 n4 _ _ _ _ _) ?_ (fun _ _ => ?_)
    | with_reducible refine KO.c (fr_Weaver_file_116 hpp n1 n4 _ _ _ _ _) ?_
    | with_reducible refine KO.hb (fr_Tokens_take hpp _ _) ?_ (fun _ _ _ => ?_)
    | with_reducible exact KO.n
    | with_reducible refine KO.s ?_
    | with_reducible refine KO.i ?_ ?_
    | with_reducible refine KO.b ?_ ?_
    | with_reducible refine KO.k ?_ (fun _ _ => ?_)
theorem fr_Weaver_file (hpp : P = 32 ∨ P = 48) (n1 : ¬ b1) (n4 : ¬ b4) (h : mv_H) : KO b1 b2 b3 b4 b5 P h (f_Weaver_file P h) := by
  have s0 : GFq b1 b2 b3 b4 b5 P h h := GFq.rf h
  unfold f_Weaver_file
  repeat' first
    | assumption
    | with_reducible refine KO.hb (fr_Tokens_take hpp _ _) ?_ (fun _ _ _ => ?_)
    | with_reducible refine KO.hb (fr_Weaver_numberUpTo hpp _ _ _) ?_ (fun _ _ _ => ?_)
    | with_reducible refine KO.hb (fr_Tokens_kind hpp _) ?_ (fun _ _ _ => ?_)
    | with_reducible refine KO.hv (fr_Weaver_file_98 hpp n1 n4 _ _ _ _ _) ?_ (fun _ _ => ?_)
    | with_reducible refine KO.c (fr_Weaver_file_98 hpp n1 n4 _ _ _ _ _) ?_
    | with_reducible exact KO.n
    | with_reducible refine KO.s ?_
    | with_reducible refine KO.i ?_ ?_
    | with_reducible refine KO.b ?_ ?_
    | with_reducible refine KO.k ?_ (fun _ _ => ?_)
theorem fr_Weaver_fetch_164 (hpp : P = 32 ∨ P = 48) (x3 : Int32) (hz : mv_H) : KO b1 b2 b3 b4 b5 P hz (f_Weaver_fetch_164 P x3 hz) := by
  have s0 : GFq b1 b2 b3 b4 b5 P hz hz := GFq.rf hz
  unfold f_Weaver_fetch_164
  repeat' first
    | assumption
    | with_reducible refine KO.hv (fr_Weaver_tell hpp _ _ _) ?_ (fun _ _ => ?_)
    | with_reducible refine KO.c (fr_Weaver_tell hpp _ _ _) ?_
    | with_reducible exact KO.n
    | with_reducible refine KO.s ?_
    | with_reducible refine KO.i ?_ ?_
    | with_reducible refine KO.b ?_ ?_
    | with_reducible refine KO.k ?_ (fun _ _ => ?_)
theorem fr_Weaver_fetch_78 (hpp : P = 32 ∨ P = 48) (n3 : ¬ b3) (x2 : Int32) (x3 : Int32) (hz : mv_H) : KO b1 b2 b3 b4 b5 P hz (f_Weaver_fetch_78 P x2 x3 hz) := by
  have s0 : GFq b1 b2 b3 b4 b5 P hz hz := GFq.rf hz
  unfold f_Weaver_fetch_78
  repeat' first
    | assumption
    | with_reducible refine KO.hb (fr_Weaver_symbolOf hpp _ _) ?_ (fun _ _ _ => ?_)
    | with_reducible refine KO.hb (fr_Names_kindOf hpp _ _) ?_ (fun _ _ _ => ?_)
    | with_reducible refine KO.hv (fr_Weaver_fetch_164 hpp _ _) ?_ (fun _ _ => ?_)
    | with_reducible refine KO.c (fr_Weaver_fetch_164 hpp _ _) ?_
    | with_reducible refine KO.hv (fr_Weaver_tell hpp _ _ _) ?_ (fun _ _ => ?_)
    | with_reducible refine KO.c (fr_Weaver_tell hpp _ _ _) ?_
    | with_reducible exact KO.n
    | with_reducible refine KO.s ?_
    | with_reducible refine KO.i ?_ ?_
    | with_reducible refine KO.b ?_ ?_
    | with_reducible refine KO.k ?_ (fun _ _ => ?_)
    | (with_reducible refine GFq.si ?_ ?b; (case b => omega))
    | (with_reducible refine GFq.i8 n3 ?_ ?b; (case b => omega))
theorem fr_Weaver_fetch (hpp : P = 32 ∨ P = 48) (n3 : ¬ b3) (h : mv_H) : KO b1 b2 b3 b4 b5 P h (f_Weaver_fetch P h) := by
  have s0 : GFq b1 b2 b3 b4 b5 P h h := GFq.rf h
  unfold f_Weaver_fetch
  repeat' first
    | assumption
    | with_reducible refine KO.hb (fr_Tokens_take hpp _ _) ?_ (fun _ _ _ => ?_)
    | with_reducible refine KO.hb (fr_Tokens_right hpp _) ?_ (fun _ _ _ => ?_)
    | with_reducible refine KO.hv (fr_Weaver_fetch_78 hpp n3 _ _ _) ?_ (fun _ _ => ?_)
    | with_reducible refine KO.c (fr_Weaver_fetch_78 hpp n3 _ _ _) ?_
    | with_reducible refine KO.hv (fr_Weaver_tell hpp _ _ _) ?_ (fun _ _ => ?_)
    | with_reducible refine KO.c (fr_Weaver_tell hpp _ _ _) ?_
    | with_reducible exact KO.n
    | with_reducible refine KO.s ?_
    | with_reducible refine KO.i ?_ ?_
    | with_reducible refine KO.b ?_ ?_
    | with_reducible refine KO.k ?_ (fun _ _ => ?_)
theorem fr_Names_enterOp_64 (hpp : P = 32 ∨ P = 48) {k3 : Int32 → Int32 → Int32 → Int32 → mv_H → Option mv_H} (ih : ∀ (w0 : Int32) (w1 : Int32) (w2 : Int32) (w3 : Int32) (w4 : mv_H), KO b1 b2 b3 b4 b5 P w4 (k3 w0 w1 w2 w3 w4)) (x2 : Int32) (x3 : Int32) (x4 : Int32) (x5 : Int32) (hz : mv_H) : KO b1 b2 b3 b4 b5 P hz (f_Names_enterOp_64 k3 x2 x3 x4 x5 hz) := by
  have s0 : GFq b1 b2 b3 b4 b5 P hz hz := GFq.rf hz
  unfold f_Names_enterOp_64
  repeat' first
    | assumption
    | with_reducible refine KO.c (ih _ _ _ _ _) ?_
    | with_reducible exact KO.n
    | with_reducible refine KO.s ?_
    | with_reducible refine KO.i ?_ ?_
    | with_reducible refine KO.b ?_ ?_
    | with_reducible refine KO.k ?_ (fun _ _ => ?_)
theorem fr_Names_enterOp_62 (hpp : P = 32 ∨ P = 48) {k3 : Int32 → Int32 → Int32 → Int32 → mv_H → Option mv_H} (ih : ∀ (w0 : Int32) (w1 : Int32) (w2 : Int32) (w3 : Int32) (w4 : mv_H), KO b1 b2 b3 b4 b5 P w4 (k3 w0 w1 w2 w3 w4)) (x2 : Int32) (x3 : Int32) (x4 : Int32) (x5 : Int32) (y0 : Int64) (y1 : Int64) (y2 : Int32) (hz : mv_H) : KO b1 b2 b3 b4 b5 P hz (f_Names_enterOp_62 k3 x2 x3 x4 x5 y0 y1 y2 hz) := by
  have s0 : GFq b1 b2 b3 b4 b5 P hz hz := GFq.rf hz
  unfold f_Names_enterOp_62
  repeat' first
    | assumption
    | with_reducible refine KO.hv (fr_Names_enterOp_64 hpp ih _ _ _ _ _) ?_ (fun _ _ => ?_)
    | with_reducible refine KO.c (fr_Names_enterOp_64 hpp ih _ _ _ _ _) ?_
    | with_reducible refine KO.c (ih _ _ _ _ _) ?_
    | with_reducible exact KO.n
    | with_reducible refine KO.s ?_
    | with_reducible refine KO.i ?_ ?_
    | with_reducible refine KO.b ?_ ?_
    | with_reducible refine KO.k ?_ (fun _ _ => ?_)
    | (with_reducible refine GFq.sb ?_ ?b; (case b => omega))
theorem fr_Names_enterOp_3 (hpp : P = 32 ∨ P = 48) : ∀ (nn : Nat) (x0 : Int32) (x1 : Int32) (x2 : Int32) (x3 : Int32) (hz : mv_H), KO b1 b2 b3 b4 b5 P hz (f_Names_enterOp_3 nn x0 x1 x2 x3 hz) := by
  intro nn
  induction nn with
  | zero => intro x0 x1 x2 x3 hz; exact KO.n
  | succ nn ih =>
   intro x0 x1 x2 x3 hz
   have s0 : GFq b1 b2 b3 b4 b5 P hz hz := GFq.rf hz
   show KO b1 b2 b3 b4 b5 P hz (fF_Names_enterOp_3 (f_Names_enterOp_3 nn) x0 x1 x2 x3 hz)
   unfold fF_Names_enterOp_3
   repeat' first
     | assumption
     | with_reducible refine KO.hv (fr_Names_enterOp_64 hpp ih _ _ _ _ _) ?_ (fun _ _ => ?_)
     | with_reducible refine KO.c (fr_Names_enterOp_64 hpp ih _ _ _ _ _) ?_
     | with_reducible refine KO.hv (fr_Names_enterOp_62 hpp ih _ _ _ _ _ _ _ _) ?_ (fun _ _ => ?_)
     | with_reducible refine KO.c (fr_Names_enterOp_62 hpp ih _ _ _ _ _ _ _ _) ?_
     | with_reducible refine KO.c (ih _ _ _ _ _) ?_
     | with_reducible exact KO.n
     | with_reducible refine KO.s ?_
     | with_reducible refine KO.i ?_ ?_
     | with_reducible refine KO.b ?_ ?_
     | with_reducible refine KO.k ?_ (fun _ _ => ?_)
     | (with_reducible refine GFq.sa ?_ ?b; (case b => omega))
theorem fr_Names_enterOp (hpp : P = 32 ∨ P = 48) (h : mv_H) (a1 : Int32) (a2 : Int32) (a3 : Int32) : KO b1 b2 b3 b4 b5 P h (f_Names_enterOp h a1 a2 a3) := by
  have s0 : GFq b1 b2 b3 b4 b5 P h h := GFq.rf h
  unfold f_Names_enterOp
  repeat' first
    | assumption
    | with_reducible refine KO.hv (fr_Names_enterOp_3 hpp _ _ _ _ _ _) ?_ (fun _ _ => ?_)
    | with_reducible refine KO.c (fr_Names_enterOp_3 hpp _ _ _ _ _ _) ?_
    | with_reducible exact KO.n
    | with_reducible refine KO.s ?_
    | with_reducible refine KO.i ?_ ?_
    | with_reducible refine KO.b ?_ ?_
    | with_reducible refine KO.k ?_ (fun _ _ => ?_)
theorem fr_Weaver_op_171 (hpp : P = 32 ∨ P = 48) (x3 : Int32) (x4 : Int32) (x5 : Int32) (hz : mv_H) : KO b1 b2 b3 b4 b5 P hz (f_Weaver_op_171 P x3 x4 x5 hz) := by
  have s0 : GFq b1 b2 b3 b4 b5 P hz hz := GFq.rf hz
  unfold f_Weaver_op_171
  repeat' first
    | assumption
    | with_reducible refine KO.hv (fr_Names_enterOp hpp _ _ _ _) ?_ (fun _ _ => ?_)
    | with_reducible refine KO.c (fr_Names_enterOp hpp _ _ _ _) ?_
    | with_reducible exact KO.n
    | with_reducible refine KO.s ?_
    | with_reducible refine KO.i ?_ ?_
    | with_reducible refine KO.b ?_ ?_
    | with_reducible refine KO.k ?_ (fun _ _ => ?_)
    | (with_reducible refine GFq.sa ?_ ?b; (case b => omega))
theorem fr_Weaver_op_153 (hpp : P = 32 ∨ P = 48) (x2 : Int32) (x3 : Int32) (x4 : Int32) (x5 : Int32) (hz : mv_H) : KO b1 b2 b3 b4 b5 P hz (f_Weaver_op_153 P x2 x3 x4 x5 hz) := by
  have s0 : GFq b1 b2 b3 b4 b5 P hz hz := GFq.rf hz
  unfold f_Weaver_op_153
  repeat' first
    | assumption
    | with_reducible refine KO.hv (fr_Weaver_op_171 hpp _ _ _ _) ?_ (fun _ _ => ?_)
    | with_reducible refine KO.c (fr_Weaver_op_171 hpp _ _ _ _) ?_
    | with_reducible refine KO.hv (fr_Weaver_tell hpp _ _ _) ?_ (fun _ _ => ?_)
    | with_reducible refine KO.c (fr_Weaver_tell hpp _ _ _) ?_
    | with_reducible exact KO.n
    | with_reducible refine KO.s ?_
    | with_reducible refine KO.i ?_ ?_
    | with_reducible refine KO.b ?_ ?_
    | with_reducible refine KO.k ?_ (fun _ _ => ?_)
theorem fr_Program_addOp_83 (hpp : P = 32 ∨ P = 48) {k8 : Int32 → Int64 → Int64 → Int32 → mv_H → Option mv_H} (ih : ∀ (w0 : Int32) (w1 : Int64) (w2 : Int64) (w3 : Int32) (w4 : mv_H), KO b1 b2 b3 b4 b5 P w4 (k8 w0 w1 w2 w3 w4)) (x2 : Int32) (x3 : Int64) (x7 : Int32) (y0 : Int32) (y1 : Int64) (hz : mv_H) : KO b1 b2 b3 b4 b5 P hz (f_Program_addOp_83 P k8 x2 x3 x7 y0 y1 hz) := by
  have s0 : GFq b1 b2 b3 b4 b5 P hz hz := GFq.rf hz
  unfold f_Program_addOp_83
  repeat' first
    | assumption
    | with_reducible refine KO.c (ih _ _ _ _ _) ?_
    | with_reducible exact KO.n
    | with_reducible refine KO.s ?_
    | with_reducible refine KO.i ?_ ?_
    | with_reducible refine KO.b ?_ ?_
    | with_reducible refine KO.k ?_ (fun _ _ => ?_)
theorem fr_Program_addOp_64 (hpp : P = 32 ∨ P = 48) {k8 : Int32 → Int64 → Int64 → Int32 → mv_H → Option mv_H} (ih : ∀ (w0 : Int32) (w1 : Int64) (w2 : Int64) (w3 : Int32) (w4 : mv_H), KO b1 b2 b3 b4 b5 P w4 (k8 w0 w1 w2 w3 w4)) (x2 : Int32) (x5 : Int64) (x7 : Int32) (x8 : Int32) (y0 : Int32) (y1 : Int64) (hz : mv_H) : KO b1 b2 b3 b4 b5 P hz (f_Program_addOp_64 P k8 x2 x5 x7 x8 y0 y1 hz) := by
  have s0 : GFq b1 b2 b3 b4 b5 P hz hz := GFq.rf hz
  unfold f_Program_addOp_64
  repeat' first
    | assumption
    | with_reducible refine KO.hv (fr_Program_addOp_83 hpp ih _ _ _ _ _ _) ?_ (fun _ _ => ?_)
    | with_reducible refine KO.c (fr_Program_addOp_83 hpp ih _ _ _ _ _ _) ?_
    | with_reducible refine KO.c (ih _ _ _ _ _) ?_
    | with_reducible exact KO.n
    | with_reducible refine KO.s ?_
    | with_reducible refine KO.i ?_ ?_
    | with_reducible refine KO.b ?_ ?_
    | with_reducible refine KO.k ?_ (fun _ _ => ?_)
theorem fr_Program_addOp_59 (hpp : P = 32 ∨ P = 48) {k8 : Int32 → Int64 → Int64 → Int32 → mv_H → Option mv_H} (ih : ∀ (w0 : Int32) (w1 : Int64) (w2 : Int64) (w3 : Int32) (w4 : mv_H), KO b1 b2 b3 b4 b5 P w4 (k8 w0 w1 w2 w3 w4)) (x2 : Int32) (x5 : Int64) (x7 : Int32) (x8 : Int32) (y0 : Int64) (hz : mv_H) : KO b1 b2 b3 b4 b5 P hz (f_Program_addOp_59 P k8 x2 x5 x7 x8 y0 hz) := by
  have s0 : GFq b1 b2 b3 b4 b5 P hz hz := GFq.rf hz
  unfold f_Program_addOp_59
  repeat' first
    | assumption
    | with_reducible refine KO.hv (fr_Program_addOp_64 hpp ih _ _ _ _ _ _ _) ?_ (fun _ _ => ?_)
    | with_reducible refine KO.c (fr_Program_addOp_64 hpp ih _ _ _ _ _ _ _) ?_
    | with_reducible refine KO.c (ih _ _ _ _ _) ?_
    | with_reducible exact KO.n
    | with_reducible refine KO.s ?_
    | with_reducible refine KO.i ?_ ?_
    | with_reducible refine KO.b ?_ ?_
    | with_reducible refine KO.k ?_ (fun _ _ => ?_)
theorem fr_Program_addOp_8 (hpp : P = 32 ∨ P = 48) (n2 : ¬ b2) : ∀ (nn : Nat) (x0 : Int32) (x1 : Int64) (x2 : Int64) (x3 : Int32) (hz : mv_H), KO b1 b2 b3 b4 b5 P hz (f_Program_addOp_8 P nn x0 x1 x2 x3 hz) := by
  intro nn
  induction nn with
  | zero => intro x0 x1 x2 x3 hz; exact KO.n
  | succ nn ih =>
   intro x0 x1 x2 x3 hz
   have s0 : GFq b1 b2 b3 b4 b5 P hz hz := GFq.rf hz
   show KO b1 b2 b3 b4 b5 P hz (fF_Program_addOp_8 P (f_Program_addOp_8 P nn) x0 x1 x2 x3 hz)
   unfold fF_Program_addOp_8
   repeat' first
     | assumption
     | with_reducible refine KO.hv (fr_Program_addOp_59 hpp ih _ _ _ _ _ _) ?_ (fun _ _ => ?_)
     | with_reducible refine KO.c (fr_Program_addOp_59 hpp ih _ _ _ _ _ _) ?_
     | with_reducible refine KO.hv (fr_Program_addOp_64 hpp ih _ _ _ _ _ _ _) ?_ (fun _ _ => ?_)
     | with_reducible refine KO.c (fr_Program_addOp_64 hpp ih _ _ _ _ _ _ _) ?_
     | with_reducible refine KO.c (ih _ _ _ _ _) ?_
     | with_reducible exact KO.n
     | with_reducible refine KO.s ?_
     | with_reducible refine KO.i ?_ ?_
     | with_reducible refine KO.b ?_ ?_
     | with_reducible refine KO.k ?_ (fun _ _ => ?_)
     | (with_reducible refine GFq.si ?_ ?b; (case b => omega))
     | (with_reducible refine GFq.sa ?_ ?b; (case b => omega))
     | (with_reducible refine GFq.sb ?_ ?b; (case b => omega))
     | (with_reducible refine GFq.a7 n2 ?_ ?b; (case b => omega))
theorem fr_Program_addOp (hpp : P = 32 ∨ P = 48) (n2 : ¬ b2) (h : mv_H) (a1 : Int32) : KO b1 b2 b3 b4 b5 P h (f_Program_addOp P h a1) := by
  have s0 : GFq b1 b2 b3 b4 b5 P h h := GFq.rf h
  unfold f_Program_addOp
  repeat' first
    | assumption
    | with_reducible refine KO.hv (fr_Program_addOp_8 hpp n2 _ _ _ _ _ _) ?_ (fun _ _ => ?_)
    | with_reducible refine KO.c (fr_Program_addOp_8 hpp n2 _ _ _ _ _ _) ?_
    | with_reducible exact KO.n
    | with_reducible refine KO.s ?_
    | with_reducible refine KO.i ?_ ?_
    | with_reducible refine KO.b ?_ ?_
    | with_reducible refine KO.k ?_ (fun _ _ => ?_)
theorem fr_Weaver_op (hpp : P = 32 ∨ P = 48) (n2 : ¬ b2) (h : mv_H) : KO b1 b2 b3 b4 b5 P h (f_Weaver_op P h) := by
  have s0 : GFq b1 b2 b3 b4 b5 P h h := GFq.rf h
  unfold f_Weaver_op
  repeat' first
    | assumption
    | with_reducible refine KO.hb (fr_Tokens_take hpp _ _) ?_ (fun _ _ _ => ?_)
    | with_reducible refine KO.hv (fr_Weaver_openBlock hpp _ _ _ _) ?_ (fun _ _ => ?_)
    | with_reducible refine KO.c (fr_Weaver_openBlock hpp _ _ _ _) ?_
    | with_reducible refine KO.hb (fr_Tokens_right hpp _) ?_ (fun _ _ _ => ?_)
    | with_reducible refine KO.hb (fr_Weaver_symbolOf hpp _ _) ?_ (fun _ _ _ => ?_)
    | with_reducible refine KO.hv (fr_Weaver_tell hpp _ _ _) ?_ (fun _ _ => ?_)
    | with_reducible refine KO.c (fr_Weaver_tell hpp _ _ _) ?_
    | with_reducible refine KO.hv (fr_Weaver_op_153 hpp _ _ _ _ _) ?_ (fun _ _ => ?_)
    | with_reducible refine KO.c (fr_Weaver_op_153 hpp _ _ _ _ _) ?_
    | with_reducible refine KO.hv (fr_Program_addOp hpp n2 _ _) ?_ (fun _ _ => ?_)
    | with_reducible refine KO.c (fr_Program_addOp hpp n2 _ _) ?_
    | with_reducible exact KO.n
    | with_reducible refine KO.s ?_
    | with_reducible refine KO.i ?_ ?_
    | with_reducible refine KO.b ?_ ?_
    | with_reducible refine KO.k ?_ (fun _ _ => ?_)
theorem fr_Weaver_item (hpp : P = 32 ∨ P = 48) (n1 : ¬ b1) (n2 : ¬ b2) (n3 : ¬ b3) (n4 : ¬ b4) (h : mv_H) : KO b1 b2 b3 b4 b5 P h (f_Weaver_item P h) := by
  have s0 : GFq b1 b2 b3 b4 b5 P h h := GFq.rf h
  unfold f_Weaver_item
  repeat' first
    | assumption
    | with_reducible refine KO.hb (fr_Tokens_kind hpp _) ?_ (fun _ _ _ => ?_)
    | with_reducible refine KO.hv (fr_Weaver_register hpp n1 n4 _) ?_ (fun _ _ => ?_)
    | with_reducible refine KO.c (fr_Weaver_register hpp n1 n4 _) ?_
    | with_reducible refine KO.hv (fr_Weaver_file hpp n1 n4 _) ?_ (fun _ _ => ?_)
    | with_reducible refine KO.c (fr_Weaver_file hpp n1 n4 _) ?_
    | with_reducible refine KO.hv (fr_Weaver_fetch hpp n3 _) ?_ (fun _ _ => ?_)
    | with_reducible refine KO.c (fr_Weaver_fetch hpp n3 _) ?_
    | with_reducible refine KO.hv (fr_Weaver_op hpp n2 _) ?_ (fun _ _ => ?_)
    | with_reducible refine KO.c (fr_Weaver_op hpp n2 _) ?_
    | with_reducible refine KO.hv (fr_Tokens_wrong hpp _) ?_ (fun _ _ => ?_)
    | with_reducible refine KO.c (fr_Tokens_wrong hpp _) ?_
    | with_reducible exact KO.n
    | with_reducible refine KO.s ?_
    | with_reducible refine KO.i ?_ ?_
    | with_reducible refine KO.b ?_ ?_
    | with_reducible refine KO.k ?_ (fun _ _ => ?_)
    | (with_reducible refine GFq.si ?_ ?b; (case b => omega))
end FRS
