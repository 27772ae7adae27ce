/-! Tree: what parting does to the rows -/
theorem nodup_len : ∀ (n : Nat) (l : List Nat), l.Nodup → (∀ b ∈ l, b < n) → l.length ≤ n := by
  intro n
  induction n with
  | zero =>
    intro l _ h
    cases l with
    | nil => exact Nat.le_refl _
    | cons x xs => exact absurd (h x List.mem_cons_self) (Nat.not_lt_zero _)
  | succ n ih =>
    intro l hn h
    by_cases hm : n ∈ l
    · have h1 := ih (l.erase n) (hn.erase n) (fun b hb => by
        have h2 := (hn.mem_erase_iff).mp hb
        have h3 := h b h2.2
        have h4 := h2.1
        omega)
      have h5 := List.length_erase_of_mem hm
      omega
    · have h1 := ih l hn (fun b hb => by
        have h3 := h b hb
        have h4 : b ≠ n := fun q => hm (q ▸ hb)
        omega)
      omega
def psum (g : Nat → Nat) : Nat → Nat → Nat
  | _, 0 => 0
  | a, c + 1 => g a + psum g (a + 1) c
theorem psum_app (g : Nat → Nat) : ∀ (c a : Nat), psum g a (c + 1) = psum g a c + g (a + c) := by
  intro c
  induction c with
  | zero => intro a; simp [psum]
  | succ c ih =>
    intro a
    have h1 := ih (a + 1)
    show g a + psum g (a + 1) (c + 1) = g a + psum g (a + 1) c + g (a + (c + 1))
    rw [h1, show a + 1 + c = a + (c + 1) by omega]
    omega
theorem psum_con {g g' : Nat → Nat} : ∀ (c a : Nat), (∀ j, a ≤ j → j < a + c → g j = g' j) → psum g a c = psum g' a c := by
  intro c
  induction c with
  | zero => intro a _; rfl
  | succ c ih =>
    intro a h
    show g a + psum g (a + 1) c = g' a + psum g' (a + 1) c
    rw [h a (Nat.le_refl _) (by omega), ih (a + 1) (fun j h1 h2 => h j (by omega) (by omega))]
theorem psum_ge {g : Nat → Nat} : ∀ (c a : Nat), (∀ j, a ≤ j → j < a + c → 1 ≤ g j) → c ≤ psum g a c := by
  intro c
  induction c with
  | zero => intro a _; exact Nat.zero_le _
  | succ c ih =>
    intro a h
    have h1 := ih (a + 1) (fun j h1 h2 => h j (by omega) (by omega))
    have h2 := h a (Nat.le_refl _) (by omega)
    show c + 1 ≤ g a + psum g (a + 1) c
    omega
/-- parting under way: f is made of A; what lies below m has no such bit, from there up to j all have it -/
def Pt (A f : Nat → Int32) (B : Nat → Bool) (lo hi m j : Nat) : Prop := lo ≤ m ∧ m ≤ j ∧ j ≤ hi ∧ (∀ i, ¬ (lo ≤ i ∧ i < j) → f i = A i) ∧ (∀ i, lo ≤ i → i < m → ∃ i0, lo ≤ i0 ∧ i0 < hi ∧ f i = A i0 ∧ B i0 = false) ∧ (∀ i, m ≤ i → i < j → ∃ i0, lo ≤ i0 ∧ i0 < hi ∧ f i = A i0 ∧ B i0 = true) ∧ (∀ i0, lo ≤ i0 → i0 < j → B i0 = false → lo < m) ∧ (∀ i0, lo ≤ i0 → i0 < j → B i0 = true → m < j) ∧ (∀ i0, lo ≤ i0 → i0 < j → ∃ i, lo ≤ i ∧ i < j ∧ f i = A i0 ∧ (B i0 = false → i < m) ∧ (B i0 = true → m ≤ i))
theorem Pt.start (A : Nat → Int32) (B : Nat → Bool) {lo hi : Nat} (h : lo ≤ hi) : Pt A A B lo hi lo lo :=
  ⟨Nat.le_refl _, Nat.le_refl _, h, fun _ _ => rfl, fun i h1 h2 => by omega, fun i h1 h2 => by omega, fun i h1 h2 => by omega, fun i h1 h2 => by omega, fun i h1 h2 => by omega⟩
theorem Pt.one {A f : Nat → Int32} {B : Nat → Bool} {lo hi m j : Nat} (h : Pt A f B lo hi m j) (hj : j < hi) (hb : B j = true) : Pt A f B lo hi m (j + 1) := by
  obtain ⟨h1, h2, h3, h4, h5, h6, h7, h8, h9⟩ := h
  refine ⟨h1, by omega, by omega, fun i q => h4 i (by omega), h5, fun i q1 q2 => ?_, fun i q1 q2 q3 => ?_, fun i q1 q2 q3 => by omega, fun i q1 q2 => ?_⟩
  · by_cases e : i = j
    · subst e
      exact ⟨i, by omega, hj, h4 i (by omega), hb⟩
    · exact h6 i q1 (by omega)
  · by_cases e : i = j
    · subst e; rw [hb] at q3; cases q3
    · exact h7 i q1 (by omega) q3
  · by_cases e : i = j
    · subst e
      exact ⟨i, by omega, by omega, h4 i (by omega), fun q => (by rw [hb] at q; cases q), fun _ => h2⟩
    · obtain ⟨i1, a1, a2, a3, a4, a5⟩ := h9 i q1 (by omega)
      exact ⟨i1, a1, by omega, a3, a4, a5⟩
theorem Pt.zero {A f f' : Nat → Int32} {B : Nat → Bool} {lo hi m j : Nat} (h : Pt A f B lo hi m j) (hj : j < hi) (hb : B j = false) (hf : ∀ i, f' i = if i = m then f j else if i = j then f m else f i) : Pt A f' B lo hi (m + 1) (j + 1) := by
  obtain ⟨h1, h2, h3, h4, h5, h6, h7, h8, h9⟩ := h
  refine ⟨by omega, by omega, by omega, fun i q => ?_, fun i q1 q2 => ?_, fun i q1 q2 => ?_, fun i q1 q2 q3 => by omega, fun i q1 q2 q3 => ?_, fun i0 q1 q2 => ?_⟩
  · rw [hf, if_neg (by omega), if_neg (by omega)]
    exact h4 i (by omega)
  · rw [hf]
    by_cases e : i = m
    · rw [if_pos e]
      exact ⟨j, by omega, hj, h4 j (by omega), hb⟩
    · rw [if_neg e, if_neg (by omega)]
      exact h5 i q1 (by omega)
  · rw [hf, if_neg (by omega)]
    by_cases e : i = j
    · rw [if_pos e]
      exact h6 m (by omega) (by omega)
    · rw [if_neg e]
      exact h6 i (by omega) (by omega)
  · by_cases e : i = j
    · subst e; rw [hb] at q3; cases q3
    · have := h8 i q1 (by omega) q3
      omega
  · by_cases e : i0 = j
    · subst e
      exact ⟨m, by omega, by omega, by rw [hf, if_pos rfl]; exact h4 i0 (by omega), fun _ => by omega, fun q => (by rw [hb] at q; cases q)⟩
    · obtain ⟨i, a1, a2, a3, a4, a5⟩ := h9 i0 q1 (by omega)
      by_cases e2 : i = m
      · refine ⟨j, by omega, by omega, ?_, fun q => ?_, fun q => by omega⟩
        · rw [hf, if_neg (by omega), if_pos rfl, ← e2]; exact a3
        · have := a4 q
          omega
      · exact ⟨i, a1, by omega, by rw [hf, if_neg e2, if_neg (by omega)]; exact a3, fun q => (by have := a4 q; omega), fun q => (by have := a5 q; omega)⟩
def Bt (V : Nat → Int64) (f : Nat → Int32) (b i : Nat) : Bool := (V (f i).toNatClampNeg).toBitVec.getLsbD b
/-- a node that is done: a leaf of ops, or two nodes that lie one deeper -/
def Tn (bt lw hg : Nat → Int32) (ops n : Nat) (dq : Nat → Nat) (j : Nat) : Prop := (bt j = -1 ∧ 0 ≤ (lw j).toInt ∧ (hg j).toInt ≤ ops) ∨ (¬ bt j = -1 ∧ ∃ c d : Nat, (lw j).toInt = c ∧ (hg j).toInt = d ∧ c < n ∧ d < n ∧ dq c = dq j + 1 ∧ dq d = dq j + 1)
/-- what a node that is still to be looked at keeps -/
def Tu (V : Nat → Int64) (f bt lw hg : Nat → Int32) (ops : Nat) (la ha dq : Nat → Nat) (ub : Nat → List Nat) (j : Nat) : Prop := bt j = -1 ∧ (lw j).toInt = la j ∧ (hg j).toInt = ha j ∧ la j ≤ ha j ∧ ha j ≤ ops ∧ (ub j).Nodup ∧ (ub j).length = dq j ∧ ∀ b ∈ ub j, b < 64 ∧ ∀ i i', la j ≤ i → i < ha j → la j ≤ i' → i' < ha j → Bt V f b i = Bt V f b i'
def Gr (V : Nat → Int64) (f bt lw hg : Nat → Int32) (ops k n : Nat) (la ha dq : Nat → Nat) (ub : Nat → List Nat) : Prop :=
  (∀ i, i < ops → 0 ≤ (f i).toInt ∧ (f i).toInt < ops) ∧ (∀ j, k ≤ j → j < n → Tu V f bt lw hg ops la ha dq ub j) ∧ (∀ j j', k ≤ j → j < j' → j' < n → ha j ≤ la j' ∨ ha j' ≤ la j) ∧ (∀ j, j < k → j < n → Tn bt lw hg ops n dq j) ∧ (∀ j, j < n → dq j ≤ 64) ∧ k ≤ n ∧ 1 ≤ n ∧ ((ops = 0 ∧ n = 1) ∨ ((∀ j, k ≤ j → j < n → la j < ha j) ∧ k + psum (fun j => 2 * (ha j - la j) - 1) k (n - k) ≤ 2 * ops - 1))
theorem Gr.room {V : Nat → Int64} {f bt lw hg : Nat → Int32} {ops k n : Nat} {la ha dq : Nat → Nat} {ub : Nat → List Nat} (h : Gr V f bt lw hg ops k n la ha dq ub) : n ≤ 2 * ops + 1 ∧ (1 ≤ ops → n ≤ 2 * ops - 1) := by
  obtain ⟨-, -, -, -, -, h6, h7, h8⟩ := h
  rcases h8 with ⟨e1, e2⟩ | ⟨e1, e2⟩
  · omega
  · have := psum_ge (g := fun j => 2 * (ha j - la j) - 1) (n - k) k (fun j q1 q2 => by have := e1 j q1 (by omega); show 1 ≤ 2 * (ha j - la j) - 1; omega)
    omega
theorem Gr.leaf {V : Nat → Int64} {f bt lw hg : Nat → Int32} {ops k n : Nat} {la ha dq : Nat → Nat} {ub : Nat → List Nat} (h : Gr V f bt lw hg ops k n la ha dq ub) (hk : k < n) : Gr V f bt lw hg ops (k + 1) n la ha dq ub := by
  obtain ⟨h1, h2, h3, h4, h5, h6, h7, h8⟩ := h
  refine ⟨h1, fun j q1 q2 => h2 j (by omega) q2, fun j j' q1 q2 q3 => h3 j j' (by omega) q2 q3, fun j q1 q2 => ?_, h5, by omega, h7, ?_⟩
  · by_cases e : j = k
    · subst e
      obtain ⟨u1, u2, u3, u4, u5, -⟩ := h2 j (Nat.le_refl _) hk
      exact Or.inl ⟨u1, by omega, by omega⟩
    · exact h4 j (by omega) q2
  · rcases h8 with e | ⟨e1, e2⟩
    · exact Or.inl e
    · refine Or.inr ⟨fun j q1 q2 => e1 j (by omega) q2, ?_⟩
      have e3 := e1 k (Nat.le_refl _) hk
      rw [show n - k = (n - (k + 1)) + 1 by omega] at e2
      have e4 : psum (fun j => 2 * (ha j - la j) - 1) k (n - (k + 1) + 1) = (2 * (ha k - la k) - 1) + psum (fun j => 2 * (ha j - la j) - 1) (k + 1) (n - (k + 1)) := rfl
      omega
theorem Gr.part {V : Nat → Int64} {f f' bt lw hg bt' lw' hg' : Nat → Int32} {ops k n b m : Nat} {la ha dq : Nat → Nat} {ub : Nat → List Nat} (h : Gr V f bt lw hg ops k n la ha dq ub) (hk : k < n) (hb : b < 64) (x0 x1 : Nat) (hx0 : la k ≤ x0 ∧ x0 < ha k ∧ Bt V f b x0 = false) (hx1 : la k ≤ x1 ∧ x1 < ha k ∧ Bt V f b x1 = true)
    (hp : Pt f f' (Bt V f b) (la k) (ha k) m (ha k)) (hb' : ∀ j, bt' j = if j = n + 1 then -1 else if j = n then -1 else if j = k then Int32.ofNat b else bt j)
    (hl : ∀ j, ¬ j = n + 1 → ¬ j = n → ¬ j = k → lw' j = lw j ∧ hg' j = hg j) (hn0 : (lw' n).toInt = la k ∧ (hg' n).toInt = m) (hn1 : (lw' (n + 1)).toInt = m ∧ (hg' (n + 1)).toInt = ha k) (hnk : (lw' k).toInt = n ∧ (hg' k).toInt = n + 1) :
    Gr V f' bt' lw' hg' ops (k + 1) (n + 2) (fun j => if j = n then la k else if j = n + 1 then m else la j) (fun j => if j = n then m else if j = n + 1 then ha k else ha j) (fun j => if j = n ∨ j = n + 1 then dq k + 1 else dq j) (fun j => if j = n ∨ j = n + 1 then b :: ub k else ub j) := by
  obtain ⟨h1, h2, h3, h4, h5, h6, h7, h8⟩ := h
  obtain ⟨p1, p2, p3, p4, p5, p6, p7, p8, p9⟩ := hp
  obtain ⟨k1, k2, k3, k4, k5, k6, k7, k8⟩ := h2 k (Nat.le_refl _) hk
  have hm0 : la k < m := p7 x0 hx0.1 hx0.2.1 hx0.2.2
  have hm1 : m < ha k := p8 x1 hx1.1 hx1.2.1 hx1.2.2
  have hnb : ¬ b ∈ ub k := fun q => by
    have := (k8 b q).2 x0 x1 hx0.1 hx0.2.1 hx1.1 hx1.2.1
    rw [hx0.2.2, hx1.2.2] at this
    cases this
  have hnd : (b :: ub k).Nodup := List.nodup_cons.mpr ⟨hnb, k6⟩
  have hlt : ∀ b' ∈ b :: ub k, b' < 64 := fun b' q => (List.mem_cons.mp q).elim (fun e => e ▸ hb) (fun q => (k8 b' q).1)
  have hlen : dq k + 1 ≤ 64 := by
    have := nodup_len 64 _ hnd hlt
    simp only [List.length_cons] at this
    omega
  -- every place inside comes from inside
  have hin : ∀ i, la k ≤ i → i < ha k → ∃ i0, la k ≤ i0 ∧ i0 < ha k ∧ f' i = f i0 ∧ (Bt V f b i0 = true ↔ m ≤ i) := fun i q1 q2 => by
    rcases Nat.lt_or_ge i m with q | q
    · obtain ⟨i0, a1, a2, a3, a4⟩ := p5 i q1 q
      exact ⟨i0, a1, a2, a3, by rw [a4]; exact ⟨fun z => (by cases z), fun z => by omega⟩⟩
    · obtain ⟨i0, a1, a2, a3, a4⟩ := p6 i q q2
      exact ⟨i0, a1, a2, a3, by rw [a4]; exact ⟨fun _ => q, fun _ => rfl⟩⟩
  have hbt : ∀ b' i i0, f' i = f i0 → Bt V f' b' i = Bt V f b' i0 := fun b' i i0 e => by unfold Bt; rw [e]
  have hout : ∀ i, ¬ (la k ≤ i ∧ i < ha k) → f' i = f i := p4
  -- agreement in a part of node k
  have hag : ∀ b' ∈ ub k, ∀ i i', la k ≤ i → i < ha k → la k ≤ i' → i' < ha k → Bt V f' b' i = Bt V f' b' i' := fun b' q i i' q1 q2 q3 q4 => by
    obtain ⟨i0, a1, a2, a3, -⟩ := hin i q1 q2
    obtain ⟨i1, c1, c2, c3, -⟩ := hin i' q3 q4
    rw [hbt b' i i0 a3, hbt b' i' i1 c3]
    exact (k8 b' q).2 i0 i1 a1 a2 c1 c2
  have hagb : ∀ i i', la k ≤ i → i < ha k → la k ≤ i' → i' < ha k → (m ≤ i ↔ m ≤ i') → Bt V f' b i = Bt V f' b i' := fun i i' q1 q2 q3 q4 q5 => by
    obtain ⟨i0, a1, a2, a3, a4⟩ := hin i q1 q2
    obtain ⟨i1, c1, c2, c3, c4⟩ := hin i' q3 q4
    rw [hbt b i i0 a3, hbt b i' i1 c3]
    exact Bool.eq_iff_iff.mpr (a4.trans (q5.trans c4.symm))
  refine ⟨fun i q => ?_, fun j q1 q2 => ?_, fun j j' q1 q2 q3 => ?_, fun j q1 q2 => ?_, fun j q => ?_, by omega, by omega, ?_⟩
  · by_cases e : la k ≤ i ∧ i < ha k
    · obtain ⟨i0, a1, a2, a3, -⟩ := hin i e.1 e.2
      rw [a3]; exact h1 i0 (by omega)
    · rw [hout i e]; exact h1 i q
  · unfold Tu
    by_cases e0 : j = n
    · subst e0
      simp only [if_true, true_or]
      refine ⟨by rw [hb', if_neg (by omega), if_pos rfl], hn0.1, hn0.2, by omega, by omega, hnd, by simp only [List.length_cons]; omega, fun b' q => ⟨hlt b' q, fun i i' r1 r2 r3 r4 => ?_⟩⟩
      rcases List.mem_cons.mp q with e | q
      · subst e; exact hagb i i' r1 (by omega) r3 (by omega) (by omega)
      · exact hag b' q i i' r1 (by omega) r3 (by omega)
    · by_cases e1 : j = n + 1
      · subst e1
        simp only [if_true, or_true, if_neg e0]
        refine ⟨by rw [hb', if_pos rfl], hn1.1, hn1.2, by omega, by omega, hnd, by simp only [List.length_cons]; omega, fun b' q => ⟨hlt b' q, fun i i' r1 r2 r3 r4 => ?_⟩⟩
        rcases List.mem_cons.mp q with e | q
        · subst e; exact hagb i i' (by omega) r2 (by omega) r4 (by omega)
        · exact hag b' q i i' (by omega) r2 (by omega) r4
      · have e2 : ¬ (j = n ∨ j = n + 1) := by omega
        obtain ⟨u1, u2, u3, u4, u5, u6, u7, u8⟩ := h2 j (by omega) (by omega)
        simp only [if_neg e0, if_neg e1, if_neg e2]
        have hd := h3 k j (Nat.le_refl _) (by omega) (by omega)
        refine ⟨by rw [hb', if_neg e1, if_neg e0, if_neg (by omega)]; exact u1, by rw [(hl j e1 e0 (by omega)).1]; exact u2, by rw [(hl j e1 e0 (by omega)).2]; exact u3, u4, u5, u6, u7, fun b' q => ⟨(u8 b' q).1, fun i i' r1 r2 r3 r4 => ?_⟩⟩
        rw [hbt b' i i (hout i (by omega)), hbt b' i' i' (hout i' (by omega))]
        exact (u8 b' q).2 i i' r1 r2 r3 r4
  · have hd : ∀ x, k < x → x < n → (ha k ≤ la x ∨ ha x ≤ la k) := fun x r1 r2 => h3 k x (Nat.le_refl _) r1 r2
    by_cases e1 : j' = n + 1
    · subst e1
      have z1 : ¬ n + 1 = n := by omega
      simp only [if_neg z1, if_true]
      by_cases e0 : j = n
      · subst e0; simp only [if_true]; omega
      · have z2 : ¬ j = n + 1 := by omega
        simp only [if_neg e0, if_neg z2]
        have := hd j (by omega) (by omega)
        have := (h2 j (by omega) (by omega)).2.2.2.1
        omega
    · by_cases e0 : j' = n
      · subst e0
        have z1 : ¬ j = j' := by omega
        have z2 : ¬ j = j' + 1 := by omega
        simp only [if_true, if_neg z1, if_neg z2]
        have := hd j (by omega) (by omega)
        have := (h2 j (by omega) (by omega)).2.2.2.1
        omega
      · have z1 : ¬ j = n := by omega
        have z2 : ¬ j = n + 1 := by omega
        simp only [if_neg z1, if_neg z2, if_neg e0, if_neg e1]
        exact h3 j j' (by omega) q2 (by omega)
  · unfold Tn
    have z0 : ¬ (j = n ∨ j = n + 1) := by omega
    simp only [if_neg z0]
    by_cases e : j = k
    · subst e
      refine Or.inr ⟨?_, n, n + 1, hnk.1, by rw [hnk.2]; omega, by omega, by omega, by simp, by simp⟩
      rw [hb', if_neg (by omega), if_neg (by omega), if_pos rfl]
      intro q
      have q2 := congrArg Int32.toInt q
      rw [Int32.toInt_ofNat_of_lt (by omega)] at q2
      have : (-1 : Int32).toInt = -1 := rfl
      omega
    · rw [hb', if_neg (by omega), if_neg (by omega), if_neg e, (hl j (by omega) (by omega) e).1, (hl j (by omega) (by omega) e).2]
      rcases h4 j (by omega) (by omega) with q | ⟨q0, c, d, q1, q2, q3, q4, q5, q6⟩
      · exact Or.inl q
      · have zc : ¬ (c = n ∨ c = n + 1) := by omega
        have zd : ¬ (d = n ∨ d = n + 1) := by omega
        exact Or.inr ⟨q0, c, d, q1, q2, by omega, by omega, by simp only [if_neg zc]; exact q5, by simp only [if_neg zd]; exact q6⟩
  · by_cases e : j = n ∨ j = n + 1
    · simp only [if_pos e]; exact hlen
    · simp only [if_neg e]; exact h5 j (by omega)
  · rcases h8 with ⟨e1, e2⟩ | ⟨e1, e2⟩
    · omega
    · refine Or.inr ⟨fun j q1 q2 => ?_, ?_⟩
      · by_cases e0 : j = n
        · simp only [if_pos e0]; exact hm0
        · by_cases z1 : j = n + 1
          · simp only [if_neg e0, if_pos z1]; exact hm1
          · simp only [if_neg e0, if_neg z1]; exact e1 j (by omega) (by omega)
      · rw [show n - k = (n - (k + 1)) + 1 by omega] at e2
        have e4 : psum (fun j => 2 * (ha j - la j) - 1) k (n - (k + 1) + 1) = (2 * (ha k - la k) - 1) + psum (fun j => 2 * (ha j - la j) - 1) (k + 1) (n - (k + 1)) := rfl
        rw [show n + 2 - (k + 1) = (n - (k + 1) + 1) + 1 by omega, psum_app, psum_app]
        have e5 : k + 1 + (n - (k + 1)) = n := by omega
        have e6 : k + 1 + (n - (k + 1) + 1) = n + 1 := by omega
        rw [e5, e6]
        have z1 : ¬ n + 1 = n := by omega
        simp only [if_neg z1, if_true]
        have e7 : psum (fun j => 2 * ((if j = n then m else if j = n + 1 then ha k else ha j) - (if j = n then la k else if j = n + 1 then m else la j)) - 1) (k + 1) (n - (k + 1)) = psum (fun j => 2 * (ha j - la j) - 1) (k + 1) (n - (k + 1)) := psum_con _ _ (fun j q1 q2 => by
          have z1 : ¬ j = n := by omega
          have z2 : ¬ j = n + 1 := by omega
          simp only [if_neg z1, if_neg z2])
        rw [e7]
        omega
/-- the tree's meaning: S j a: op a belongs to node j -/
def SmT (K V : Nat → Int64) (f bt lw hg : Nat → Int32) (ops n : Nat) (S : Nat → Nat → Prop) : Prop :=
  (∀ a, a < ops → S 0 a) ∧
  (∀ j, j < n → bt j = -1 → ∀ a, S j a → ∃ i : Nat, (lw j).toInt ≤ i ∧ (i : Int) < (hg j).toInt ∧ (f i).toInt = a) ∧
  (∀ j, j < n → ¬ bt j = -1 → ∃ b c d : Nat, b < 64 ∧ bt j = Int32.ofNat b ∧ (lw j).toInt = c ∧ (hg j).toInt = d ∧ c < n ∧ d < n ∧ ∀ a, S j a → (K a).toBitVec.getLsbD b = true ∧ ((V a).toBitVec.getLsbD b = false → S c a) ∧ ((V a).toBitVec.getLsbD b = true → S d a)) ∧
  (∀ j j', j < j' → j' < n → bt j = -1 → bt j' = -1 → (hg j).toInt ≤ (lw j').toInt ∨ (hg j').toInt ≤ (lw j).toInt)
theorem SmT.init {K V : Nat → Int64} {f bt lw hg : Nat → Int32} {ops : Nat} (h1 : ∀ i, i < ops → (f i).toInt = i) (h2 : bt 0 = -1) (h3 : (lw 0).toInt = 0) (h4 : (hg 0).toInt = ops) : SmT K V f bt lw hg ops 1 (fun _ a => a < ops) := by
  refine ⟨fun a h => h, fun j hj hb a ha => ?_, fun j hj hb => ?_, fun j j' q1 q2 => by omega⟩
  · have e : j = 0 := by omega
    subst e
    have ha : a < ops := ha
    exact ⟨a, by omega, by omega, h1 a ha⟩
  · have e : j = 0 := by omega
    subst e
    exact absurd h2 hb
theorem b_ne {b : Nat} (h : b < 64) : ¬ Int32.ofNat b = -1 := fun q => by
  have q2 := congrArg Int32.toInt q
  rw [Int32.toInt_ofNat_of_lt (by omega)] at q2
  have : (-1 : Int32).toInt = -1 := rfl
  omega
theorem SmT.part {K V : Nat → Int64} {f f' bt lw hg bt' lw' hg' : Nat → Int32} {ops k n b m la ha : Nat} {S : Nat → Nat → Prop} (h : SmT K V f bt lw hg ops n S) (hk : k < n) (hb : b < 64) (kb : bt k = -1) (kl : (lw k).toInt = la) (kh : (hg k).toInt = ha) (hK : ∀ i, la ≤ i → i < ha → (K (f i).toNatClampNeg).toBitVec.getLsbD b = true)
    (hp : Pt f f' (Bt V f b) la ha m ha) (hb' : ∀ j, bt' j = if j = n + 1 then -1 else if j = n then -1 else if j = k then Int32.ofNat b else bt j)
    (hl : ∀ j, ¬ j = n + 1 → ¬ j = n → ¬ j = k → lw' j = lw j ∧ hg' j = hg j) (hn0 : (lw' n).toInt = la ∧ (hg' n).toInt = m) (hn1 : (lw' (n + 1)).toInt = m ∧ (hg' (n + 1)).toInt = ha) (hnk : (lw' k).toInt = n ∧ (hg' k).toInt = n + 1) :
    ∃ S', SmT K V f' bt' lw' hg' ops (n + 2) S' := by
  obtain ⟨s1, s2, s3, s4⟩ := h
  obtain ⟨p1, p2, p3, p4, p5, p6, p7, p8, p9⟩ := hp
  have leafk : ∀ a, S k a → ∃ i : Nat, la ≤ i ∧ i < ha ∧ (f i).toInt = a ∧ (f i).toNatClampNeg = a := fun a q => by
    obtain ⟨i, i1, i2, i3⟩ := s2 k hk kb a q
    refine ⟨i, by omega, by omega, i3, ?_⟩
    have := i32_cl (x := f i) (by omega)
    omega
  have bo : ∀ j, bt' j = -1 → ¬ j = n + 1 → ¬ j = n → ¬ j = k ∧ bt j = -1 := fun j e e1 e2 => by
    rw [hb', if_neg e1, if_neg e2] at e
    by_cases z : j = k
    · rw [if_pos z] at e; exact absurd e (b_ne hb)
    · rw [if_neg z] at e; exact ⟨z, e⟩
  -- a leaf other than k lies aside
  have dis : ∀ j, j < n → ¬ j = k → bt j = -1 → (hg j).toInt ≤ la ∨ (ha : Int) ≤ (lw j).toInt := fun j hj z e => by
    rcases Nat.lt_or_ge j k with q | q
    · have := s4 j k q hk e kb
      omega
    · have := s4 k j (by omega) hj kb e
      omega
  refine ⟨fun j a => if j = n then (S k a ∧ (V a).toBitVec.getLsbD b = false) else if j = n + 1 then (S k a ∧ (V a).toBitVec.getLsbD b = true) else S j a, ?_, ?_, ?_, ?_⟩
  · intro a q
    show if 0 = n then _ else if 0 = n + 1 then _ else S 0 a
    rw [if_neg (by omega), if_neg (by omega)]
    exact s1 a q
  · intro j hj e a q
    have q : if j = n then (S k a ∧ (V a).toBitVec.getLsbD b = false) else if j = n + 1 then (S k a ∧ (V a).toBitVec.getLsbD b = true) else S j a := q
    by_cases e0 : j = n
    · rw [if_pos e0] at q
      obtain ⟨i, i1, i2, i3, i4⟩ := leafk a q.1
      have hB : Bt V f b i = false := by unfold Bt; rw [i4]; exact q.2
      obtain ⟨i', a1, a2, a3, a4, a5⟩ := p9 i i1 i2
      have := a4 hB
      subst e0
      exact ⟨i', by omega, by omega, by rw [a3]; exact i3⟩
    · by_cases e1 : j = n + 1
      · rw [if_neg e0, if_pos e1] at q
        obtain ⟨i, i1, i2, i3, i4⟩ := leafk a q.1
        have hB : Bt V f b i = true := by unfold Bt; rw [i4]; exact q.2
        obtain ⟨i', a1, a2, a3, a4, a5⟩ := p9 i i1 i2
        have := a5 hB
        subst e1
        exact ⟨i', by omega, by omega, by rw [a3]; exact i3⟩
      · rw [if_neg e0, if_neg e1] at q
        obtain ⟨z, e⟩ := bo j e e1 e0
        obtain ⟨i, i1, i2, i3⟩ := s2 j (by omega) e a q
        have d := dis j (by omega) z e
        refine ⟨i, by rw [(hl j e1 e0 z).1]; exact i1, by rw [(hl j e1 e0 z).2]; exact i2, ?_⟩
        rw [p4 i (by omega)]
        exact i3
  · intro j hj e
    have e0 : ¬ j = n := fun z => e (by rw [hb', if_neg (by omega), if_pos z])
    have e1 : ¬ j = n + 1 := fun z => e (by rw [hb', if_pos z])
    by_cases z : j = k
    · subst z
      refine ⟨b, n, n + 1, hb, by rw [hb', if_neg e1, if_neg e0, if_pos rfl], hnk.1, by rw [hnk.2]; omega, by omega, by omega, fun a q => ?_⟩
      have q : if j = n then (S j a ∧ (V a).toBitVec.getLsbD b = false) else if j = n + 1 then (S j a ∧ (V a).toBitVec.getLsbD b = true) else S j a := q
      rw [if_neg e0, if_neg e1] at q
      obtain ⟨i, i1, i2, i3, i4⟩ := leafk a q
      refine ⟨by rw [← i4]; exact hK i i1 i2, fun y => ?_, fun y => ?_⟩
      · show if n = n then _ else _
        rw [if_pos rfl]
        exact ⟨q, y⟩
      · show if n + 1 = n then _ else if n + 1 = n + 1 then _ else _
        rw [if_neg (by omega), if_pos rfl]
        exact ⟨q, y⟩
    · have e' : ¬ bt j = -1 := fun y => e (by rw [hb', if_neg e1, if_neg e0, if_neg z]; exact y)
      obtain ⟨b2, c, d, c1, c2, c3, c4, c5, c6, c7⟩ := s3 j (by omega) e'
      refine ⟨b2, c, d, c1, by rw [hb', if_neg e1, if_neg e0, if_neg z]; exact c2, by rw [(hl j e1 e0 z).1]; exact c3, by rw [(hl j e1 e0 z).2]; exact c4, by omega, by omega, fun a q => ?_⟩
      have q : if j = n then (S k a ∧ (V a).toBitVec.getLsbD b = false) else if j = n + 1 then (S k a ∧ (V a).toBitVec.getLsbD b = true) else S j a := q
      rw [if_neg e0, if_neg e1] at q
      obtain ⟨r1, r2, r3⟩ := c7 a q
      refine ⟨r1, fun y => ?_, fun y => ?_⟩
      · show if c = n then _ else if c = n + 1 then _ else S c a
        rw [if_neg (by omega), if_neg (by omega)]
        exact r2 y
      · show if d = n then _ else if d = n + 1 then _ else S d a
        rw [if_neg (by omega), if_neg (by omega)]
        exact r3 y
  · intro j j' q1 q2 e e'
    have mid : la ≤ m ∧ m ≤ ha := ⟨p1, p2⟩
    by_cases y1 : j' = n + 1
    · subst y1
      rw [hn1.1, hn1.2]
      by_cases y0 : j = n
      · subst y0
        rw [hn0.1, hn0.2]
        omega
      · obtain ⟨z, e⟩ := bo j e (by omega) y0
        have d := dis j (by omega) z e
        rw [(hl j (by omega) y0 z).1, (hl j (by omega) y0 z).2]
        omega
    · by_cases y0 : j' = n
      · subst y0
        rw [hn0.1, hn0.2]
        obtain ⟨z, e⟩ := bo j e (by omega) (by omega)
        have d := dis j (by omega) z e
        rw [(hl j (by omega) (by omega) z).1, (hl j (by omega) (by omega) z).2]
        omega
      · obtain ⟨z, e⟩ := bo j e (by omega) (by omega)
        obtain ⟨z', e'⟩ := bo j' e' y1 y0
        rw [(hl j (by omega) (by omega) z).1, (hl j (by omega) (by omega) z).2, (hl j' y1 y0 z').1, (hl j' y1 y0 z').2]
        exact s4 j j' q1 (by omega) e e'
