/-! an operand, whole -/
section OPK2
variable {X : TX} {J P : Nat} {fs : Nat → Nat} {h : mv_H} {j d : Nat} {M : List MkA} {H : List Nat} {L : CDq} {e0 z : Nat} {md : MDq} {hd : List DnE}
theorem cal_K (K : KXq X J P fs h j d M H L e0 z 2 md hd) (hM : M.length ≤ 1000) (hJ : X.kd J = 1 ∨ X.kd J = 2) (hk : 211 ≤ X.kd j ∧ X.kd j ≤ 216) (h40 : X.kd (j + 1) = 40) (hd6 : d < 60) : ∃ h', f_Exprs_call h (nI (X.kd j)) = some h' ∧ KXq X J P fs h' (j + 2) (d + 1) (MkA.mk (X.kd j) 0 0 :: M) H L e0 z 2 ((dN, 0) :: md) hd := by
  obtain ⟨C, R, hz, l⟩ := K
  rw [if_neg (by decide)] at l
  have hpp := C.pp
  have hb := C.jb
  have hj1 := nxJ hJ C.jJ (by omega) (by omega)
  have hj2 := nxJ hJ hj1 (by omega) (by omega)
  have C1 := C.nx hj1
  obtain ⟨h2, e2, C2, k2, r2⟩ := C1.mkK hM (k := X.kd j) (t := j + 1) (by omega) (by omega) (by omega)
  obtain ⟨e3, C3⟩ := C2.opK h40 hd6 hj2
  refine ⟨_, ?_, C3, (((R.kc (KC9.si h _ (by omega))).kc k2).kc (KC9.si _ _ (by omega))).kc (KC9.si _ _ (by omega)), ?_, ?_⟩
  · unfold f_Exprs_call
    rw [if_neg (show ¬ nI (X.kd j) < (211 : Int32) from fun q => by have := Int32.lt_iff_toInt_lt.mp q; rw [nIi (by omega)] at this; have e : (211 : Int32).toInt = 211 := rfl; omega), if_pos (show nI (X.kd j) ≤ (216 : Int32) from (nIle (b := 216) (by omega) (by omega)).mpr hk.2), C.tk rfl, xhb_s, e2, xhv_s, show (40 : Int32) = nI 40 from rfl, e3, xhb_s]
  · show z + ((if X.kd j = 63 ∨ X.kd j = 58 then 0 else 1) + nO M) ≤ j + 2
    rw [if_neg (by omega)]; omega
  · rw [if_neg (by decide)]
    have hl0 : lvq (X.kd j) = 0 := by
      unfold lvq
      rw [if_neg (by omega), if_neg (by omega), if_neg (by omega), if_neg (by omega), if_neg (by omega), if_neg (by omega), if_neg (by omega), if_neg (by omega)]
    exact LEM.mk0 0 l (by show ¬ X.kd j = 63; omega) (by show ¬ X.kd j = 58; omega) (nHm_n hl0 (by show ¬ X.kd j = 58; omega) (Or.inl rfl)) (fun q => absurd (show X.kd j = 91 from q) (by omega)) r2
theorem opr_K {o : OuA} {q : ODq} (K : KXq X J P fs h j d M H L e0 z 2 md hd) (hM : M.length ≤ 1000) (hH : H.length < 1024) (hJ : X.kd J = 1 ∨ X.kd J = 2) (h36 : mv_i h 3 6 = nI (J + 2)) (V : X.kd j = 3 → NVk X P fs h o.lk q.lz q.C j) {c : CfA} (ec : aOp X j d M H o = some c) : ∃ v h' L' z', f_Exprs_operand P h = some (v, h') ∧ KXq X J P fs h' c.j c.d c.M c.H L' e0 z' c.md (kOp X j o hd md q).2.1 (kOp X j o hd md q).1 ∧ ∀ i, i < e0 → L' i = L i := by
  have C := K.1
  have hl := K.2.2.2
  rw [if_neg (by decide)] at hl
  have he0 := hl.le
  have hk := (C.tb.k j C.jJ).2
  have t3 : (nI (X.kd j)).toInt = 3 ↔ X.kd j = 3 := by rw [nIi (by omega)]; omega
  have t4 : (nI (X.kd j)).toInt = 4 ↔ X.kd j = 4 := by rw [nIi (by omega)]; omega
  have t33 : (nI (X.kd j)).toInt = 33 ↔ X.kd j = 33 := by rw [nIi (by omega)]; omega
  have t40 : (nI (X.kd j)).toInt = 40 ↔ X.kd j = 40 := by rw [nIi (by omega)]; omega
  have t45 : (nI (X.kd j)).toInt = 45 ↔ X.kd j = 45 := by rw [nIi (by omega)]; omega
  have t123 : (nI (X.kd j)).toInt = 123 ↔ X.kd j = 123 := by rw [nIi (by omega)]; omega
  have t126 : (nI (X.kd j)).toInt = 126 ↔ X.kd j = 126 := by rw [nIi (by omega)]; omega
  unfold f_Exprs_operand f_Exprs_operand_127
  unfold aOp at ec
  rw [C.kd, xhb_s, xz0, xz1']
  simp only [cond_true]
  have sgn : ∀ mk : Nat, mk < 400 → (¬ mk = 91 ∧ ¬ mk = 63 ∧ ¬ mk = 58) → lvq mk = 0 → (¬ X.kd j = 1 ∧ ¬ X.kd j = 2) → (¬ X.kd j = 4 ∧ ¬ X.kd j = 3) → (if d < 60 then some (CfA.mk 2 (j + 1) (d + 1) (MkA.mk mk 0 0 :: M) H o) else none) = some c → ∃ v h' L' z', (xhb (f_Tokens_open h (nI (X.kd j))) fun v g => xhv (f_Exprs_mark g (nI mk) v) fun g' => (some ((0 : Int32), g') : Option (Int32 × mv_H))) = some (v, h') ∧ KXq X J P fs h' c.j c.d c.M c.H L' e0 z' c.md (kOp X j o hd md q).2.1 (kOp X j o hd md q).1 ∧ ∀ i, i < e0 → L' i = L i := fun mk m1 m2 m3 m4 m5 em => by
    by_cases d60 : d < 60
    · rw [if_pos d60] at em
      obtain rfl := Option.some.inj em
      obtain ⟨h', e1, K1⟩ := sgn_K K hM hJ (k := X.kd j) (mk := mk) rfl m4 d60 m1 m2 (nHm_n m3 m2.2.2 (Or.inl rfl))
      refine ⟨0, h', L, z, e1, ?_, fun _ _ => rfl⟩
      have ek : kOp X j o hd md q = (hd, (dN, 0) :: md, q) := by unfold kOp; rw [if_neg m5.1, if_neg m5.2]
      rw [ek]
      exact K1
    · rw [if_neg d60] at em; cases em
  by_cases k3 : X.kd j = 3
  · rw [if_neg (by omega), if_neg (by omega), if_neg (by omega), if_neg (by omega), if_neg (by omega), if_pos k3] at ec
    rw [if_pos (t3.mpr k3)]
    obtain ⟨v, h', L', z', e1, ev, K1, hL⟩ := nam_K K hM hH hJ k3 h36 (V k3) ec
    rw [e1, xhb_s, ev, cond_true]
    refine ⟨v, h', L', z', rfl, ?_, hL⟩
    unfold kOp
    rw [if_neg (by omega), if_pos k3]
    by_cases y : (o.lk (X.nm j)).1 = 2 ∧ X.kd (j + 1) = 91
    · rw [if_pos y] at K1 ⊢
      exact K1
    · rw [if_neg y] at K1 ⊢
      exact K1
  rw [if_neg (fun z => k3 (t3.mp z))]
  by_cases k4 : X.kd j = 4
  · rw [if_neg (by omega), if_neg (by omega), if_neg (by omega), if_neg (by omega), if_pos k4] at ec
    rw [if_pos (t4.mpr k4)]
    by_cases y : X.kd (j + 1) = 39 ∧ X.kd (j + 2) = 4 ∧ 1 ≤ X.nu j ∧ X.nu j ≤ 64 ∧ X.nu (j + 2) < 2 ^ X.nu j
    rotate_left
    · rw [if_neg y] at ec; cases ec
    rw [if_pos y] at ec
    obtain rfl := Option.some.inj ec
    obtain ⟨h', e1, K1⟩ := lit_K K hH hJ k4 y
    rw [e1, xhv_s]
    refine ⟨1, h', uL L z (300, nJ (X.nu (j + 2))), z + 1, rfl, ?_, fun i hi => uL_n L _ (by omega)⟩
    unfold kOp
    rw [if_pos k4]
    exact K1
  rw [if_neg (fun z => k4 (t4.mp z))]
  by_cases k33 : X.kd j = 33
  · rw [if_neg (by omega), if_neg (by omega), if_pos k33] at ec
    rw [if_pos (t33.mpr k33)]
    exact sgn 307 (by omega) (by omega) rfl (by omega) (by omega) ec
  rw [if_neg (fun z => k33 (t33.mp z))]
  by_cases k40 : X.kd j = 40
  · rw [if_neg (by omega), if_neg (by omega), if_neg k33, if_pos (Or.inl k40)] at ec
    rw [if_pos (t40.mpr k40)]
    exact sgn (X.kd j) (by omega) (by omega) (by rw [k40]; rfl) (by omega) (by omega) ec
  rw [if_neg (fun z => k40 (t40.mp z))]
  by_cases k45 : X.kd j = 45
  · rw [if_pos k45] at ec
    rw [if_pos (t45.mpr k45)]
    exact sgn 305 (by omega) (by omega) rfl (by omega) (by omega) ec
  rw [if_neg k45] at ec
  rw [if_neg (fun z => k45 (t45.mp z))]
  by_cases k123 : X.kd j = 123
  · rw [if_neg (by omega), if_neg k33, if_pos (Or.inr k123)] at ec
    rw [if_pos (t123.mpr k123)]
    exact sgn (X.kd j) (by omega) (by omega) (by rw [k123]; rfl) (by omega) (by omega) ec
  rw [if_neg (fun z => k123 (t123.mp z))]
  by_cases k126 : X.kd j = 126
  · rw [if_pos k126] at ec
    rw [if_pos (t126.mpr k126)]
    exact sgn 306 (by omega) (by omega) rfl (by omega) (by omega) ec
  rw [if_neg k126, if_neg k33, if_neg (by omega), if_neg k4, if_neg k3] at ec
  rw [if_neg (fun z => k126 (t126.mp z))]
  by_cases y : 211 ≤ X.kd j ∧ X.kd j ≤ 216
  rotate_left
  · rw [if_neg y] at ec; cases ec
  rw [if_pos y] at ec
  by_cases y2 : X.kd (j + 1) = 40 ∧ d < 60
  rotate_left
  · rw [if_neg y2] at ec; cases ec
  rw [if_pos y2] at ec
  obtain rfl := Option.some.inj ec
  obtain ⟨h', e1, K1⟩ := cal_K K hM hJ y y2.1 y2.2
  rw [e1, xhv_s]
  refine ⟨0, h', L, z, rfl, ?_, fun _ _ => rfl⟩
  have ek : kOp X j o hd md q = (hd, (dN, 0) :: md, q) := by unfold kOp; rw [if_neg k4, if_neg k3]
  rw [ek]
  exact K1
end OPK2
