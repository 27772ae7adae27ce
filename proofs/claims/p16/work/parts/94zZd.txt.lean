/-! an op, on good roads -/
section OQG
variable {P N : Nat} {T : Nat → Nat} {s : SI} {lz : LZ} {B : List DnS} {h : mv_H} {m j : Nat}
theorem op108G (Q : IGq P N T s lz B h m j) {q e : Nat} {nm : List Nat} (hq : q ≤ e) (he : e ≤ N) (enm : nm = tn T q (e - q)) (h4 : 4 * ((mv_i h P 29).toNatClampNeg + 1) ≤ j + 2) {j0 : Nat} (hj0 : j0 ≤ j) (x3 : Int32) (v : Int64) {u : Unit} (g3 : ndq (txT T N) 0 j 5 = some u) (hlen : ((txT T N).nm j).length = s.bits) {r : VS} (ht : tS (txT T N) ((txT T N).nm j) 200 0 (lkO s.lk ((txT T N).nm j)) (lzO lz ((txT T N).nm j)) 0 0 (j + 1) = some r) :
    IOg P N T j0 (r.1, SI.mk s.bits s.lk s.tl s.cells s.fe (s.ops ++ [(nm, (txT T N).nm j)]), lz, B ++ [r.2.2.2]) (f_Book_operation_108 P (nI q) (nI e) x3 (nI (pos T N j + 1)) (b01 false) (rB P N h j v)) := by
  have QG := Q
  obtain ⟨Q, TZ, FE, ZR, BD⟩ := Q
  have H := Q.hb
  have hP := H.p
  have hn := Q.n10
  have o5 := Q.o5
  have hjN := H.gkn Q.gk
  have hn2 := H.n2
  obtain ⟨k3, -, G3, v3, e3⟩ := nG H Q.gk (c := 5) (k := 3) (by omega) (kd_code H.lt Q.gk.1) v g3
  have ct := code_tok H.te.1 H.te.2 ((kd_code H.lt Q.gk.1).mpr k3) Q.gk.1
  have npq := H.npq Q.gk
  have enC : (txT T N).nm j = tn T (pos T N j + 1) (bp T N (j + 1) - pos T N j - 2) := by
    show (if (tok T N j).1 = 3 then _ else _) = _
    rw [if_pos ((kd_code H.lt Q.gk.1).mpr k3)]
  rw [enC, tn_len] at hlen
  rw [enC] at ht ⊢
  unfold f_Book_operation_108
  rw [H.k6, e3, xtb_s]
  have Q1 := Q.st G3 (Nat.le_succ j)
  have e29 : mv_i (rB P N h (j + 1) v3) P 29 = nI (mv_i h P 29).toNatClampNeg := (rB_o _ _ (by omega)).trans Q.o0
  have e51 : mv_i (rB P N h (j + 1) v3) P 51 = nI (mv_i h P 51).toNatClampNeg := (rB_o _ _ (by omega)).trans Q.c0
  have c1 := Q.c1
  have hbp := (bp_bd H.te.1 H.te.2 j).2.2
  rw [e29, e51]
  generalize ho : (mv_i h P 29).toNatClampNeg = o at *
  generalize hcb : (mv_i h P 51).toNatClampNeg = cb at *
  generalize hp : pos T N j = p at *
  generalize hE : bp T N (j + 1) = E1 at *
  have eE : nI E1 - 1 = nI (E1 - 1) := nIsub (a := E1) (b := 1) (by omega) (by omega)
  rw [eE, xvi_n (show o < 4100 by omega) (by decide), cond_true, cln (show o < 2147483648 by omega), nIsub (show p + 1 ≤ E1 - 1 by omega) (by omega), rB_sa (by omega), xk_s, cond_true, rB_sa (by omega), xk_s]
  have b71 : byt7 (mv_sa (mv_sa h (P + 10) o (nI cb)) (P + 12) o (nI (E1 - 1 - (p + 1)))) := byt7_row (funext fun k => (mv_u_ne (mv_a (mv_sa h (P + 10) o (nI cb))) _ (by omega)).trans (mv_u_ne (mv_a h) _ (by omega))) Q.b7
  obtain ⟨g', eg, C⟩ := cp154 (P := P) (N := N) (first := p + 1) (cb := cb) (E := E1 - 1) hP (by omega) (by omega) (by omega) (nI q) (nI e) x3 (b01 false) (nI o) (j + 1) v3 (E1 - 1 - (p + 1)) 200000 (p + 1) (mv_sa (mv_sa h (P + 10) o (nI cb)) (P + 12) o (nI (E1 - 1 - (p + 1)))) (Nat.le_refl _) (by omega) (by omega) b71 (show mv_i h P 51 = nI cb by rw [← hcb]; exact Q.c0)
  rw [eg, show cb + (p + 1 - (p + 1)) = cb by omega] at *
  rw [rB_si (by omega), xk_s]
  have rows5 : ∀ x, ¬ (x = P + 10 ∨ x = P + 12 ∨ x = P + 13) → mv_a (mv_si g' P 30 (nI (cb + (E1 - 1 - (p + 1))))) x = mv_a h x := fun x hx => by
    show mv_a g' x = _
    rw [C.a x (by omega)]
    funext k
    exact (mv_u_ne (mv_a (mv_sa h (P + 10) o (nI cb))) _ (by omega)).trans (mv_u_ne (mv_a h) _ (by omega))
  have b5 : mv_b (mv_si g' P 30 (nI (cb + (E1 - 1 - (p + 1))))) (P + 24) = mv_b h (P + 24) := by
    show mv_b g' (P + 24) = mv_b h (P + 24)
    rw [C.b]; rfl
  generalize hh5 : mv_si g' P 30 (nI (cb + (E1 - 1 - (p + 1)))) = h5 at *
  have i5 : ∀ c, ¬ c = 30 → mv_i h5 P c = mv_i h P c := fun c hc => by
    rw [← hh5]
    refine (mv_u_ne (mv_i g') _ (by omega)).trans ?_
    show g'.1 P c = _
    rw [C.i]; rfl
  have i30 : mv_i h5 P 30 = nI (cb + (E1 - 1 - (p + 1))) := by rw [← hh5]; exact mv_u_same (mv_i g') P 30 _
  have a5 : ∀ r, mv_a h5 r = mv_a g' r := fun r => by rw [← hh5]; rfl
  have a10 : ∀ k, mv_a h5 (P + 10) k = if k = o then nI cb else mv_a h (P + 10) k := fun k => by
    rw [a5, C.a (P + 10) (by omega)]
    refine (mv_u_ne (mv_a (mv_sa h (P + 10) o (nI cb))) _ (by omega)).trans ?_
    show (if P + 10 = P + 10 ∧ k = o then nI cb else mv_a h (P + 10) k) = _
    by_cases z : k = o
    · rw [if_pos ⟨rfl, z⟩, if_pos z]
    · rw [if_neg (fun w => z w.2), if_neg z]
  have a13 : ∀ k, mv_a h5 (P + 13) k = if cb ≤ k ∧ k < cb + (E1 - 1 - (p + 1)) then mv_a h 71 (p + 1 + (k - cb)) else mv_a h (P + 13) k := fun k => by
    rw [a5, C.c k]
    have r71 : mv_a (mv_sa (mv_sa h (P + 10) o (nI cb)) (P + 12) o (nI (E1 - 1 - (p + 1)))) 71 = mv_a h 71 := funext fun k => (mv_u_ne (mv_a (mv_sa h (P + 10) o (nI cb))) _ (by omega)).trans (mv_u_ne (mv_a h) _ (by omega))
    have r13 : mv_a (mv_sa (mv_sa h (P + 10) o (nI cb)) (P + 12) o (nI (E1 - 1 - (p + 1)))) (P + 13) = mv_a h (P + 13) := funext fun k => (mv_u_ne (mv_a (mv_sa h (P + 10) o (nI cb))) _ (by omega)).trans (mv_u_ne (mv_a h) _ (by omega))
    rw [r71, r13]
  have Q5 : IQq P N T s true h5 m (j + 1) := Q1.cd i5 rows5 (fun i hi => by rw [a10, if_neg (by rw [ho] at hi; omega)]) (fun k hk => by rw [a13, if_neg (by rw [hcb] at hk; omega)])
  have QG5 : IGq P N T s lz B h5 m (j + 1) := by
    refine ⟨Q5, ?_, ?_, ?_, BD.1, fun k hk => ?_⟩
    · intro q' e' t h1 h2 ht0
      refine TZ q' e' t h1 h2 ?_
      unfold tfz at ht0 ⊢
      rw [rows5 71 (by omega), i5 17 (by omega), rows5 (P + 1) (by omega), rows5 (P + 2) (by omega)] at ht0
      exact ht0
    · unfold FEg at FE ⊢
      rw [i5 18 (by omega), i5 21 (by omega)]
      exact FE
    · intro k hk
      rw [rows5 (P + 7) (by omega)]
      exact ZR k hk
    · rw [rows5 (P + 11) (by omega)]
      exact (BD.2 k hk).fr (GSq.of (fun x q1 q2 => rows5 x (by omega)) b5 (fun x q1 => rows5 x (by omega))) (Nat.le_refl _)
  have len2 : E1 - 1 - (p + 1) = E1 - p - 2 := by omega
  rw [len2] at *
  obtain ⟨L, l1, l2, l3⟩ := Q5.bt
  have r20 : mv_i (rB P N h5 (j + 1) v3) P 20 = nI L := (rB_o _ _ (by omega)).trans l1
  have l3 := l3 rfl
  rw [r20, if_pos (show nI (E1 - p - 2) = nI L by rw [l3, hlen])]
  have j29 : (mv_i h5 P 29).toNatClampNeg = o := by rw [i5 29 (by omega)]; exact ho
  have j51 : (mv_i h5 P 51).toNatClampNeg = cb := by rw [i5 51 (by omega)]; exact hcb
  have := op221G QG5 (len := E1 - p - 2) (first := p + 1) (nm := nm) hq he enm (by rw [i30, j51, show E1 - 1 - (p + 1) = E1 - p - 2 by omega]) (by rw [j51]; have : bp T N (j + 1) = E1 := hE; omega) (by rw [j29, j51, a10, if_pos rfl]) (fun k hk => by
    rw [j51, a13, if_pos (by omega), show p + 1 + (cb + k - cb) = p + 1 + k by omega]
    have hlt : p + 1 + k < N := by omega
    have := ck_b Q.b7 (n := N) hn2 hlt
    rw [H.t] at this
    refine ⟨this, ?_⟩
    have h256 := ck_256 (h := h) (n := N) hlt
    rw [H.t] at h256
    exact h256) hlen (by rw [j29]; omega) (show j0 ≤ j + 1 by omega) v3 ht
  rw [j29] at this
  exact this
theorem op_G9 (Q : IGq P N T s lz B h m j) (hk : kdT T N j = 206) (v : Int64) {r : VI} (ht : tOp (txT T N) s lz B j = some r) : IOg P N T j r (f_Book_operation P (rB P N h j v)) := by
  have H := Q.1.hb
  have hP := H.p
  have hn := Q.1.n10
  have hn2 := H.n2
  unfold tOp at ht
  obtain ⟨u1, g1, ht⟩ := obn ht
  obtain ⟨u2, g2, ht⟩ := obn ht
  obtain ⟨u3, g3, ht⟩ := obn ht
  obtain ⟨u4, g4, ht⟩ := obn ht
  obtain ⟨r5, t5, ht⟩ := obn ht
  obtain rfl := Option.some.inj ht
  have cc := of_decide_eq_true (gdS g4)
  obtain ⟨-, G1, v1, e1⟩ := psG H Q.1.gk (by omega) (by omega) v g1
  obtain ⟨k2, G2, v2, e2⟩ := nam0G H G1 v1 g2
  have Q2 : IGq P N T s lz B (nmK P N T h (j + 1)) m (j + 2) := ((Q.st G1 (by omega)).nmK (j + 1)).st G2 (by omega)
  have H2 := Q2.1.hb
  have npq := H.npq G1
  have hjN := H.gkn G2
  have o5 := Q.1.o5
  have e49 : mv_i (rB P N (nmK P N T h (j + 1)) (j + 2) v2) P 49 = nI (pos T N (j + 1)) := (rB_o _ _ (by omega)).trans (nmK_49 _)
  have e50 : mv_i (rB P N (nmK P N T h (j + 1)) (j + 2) v2) P 50 = nI (bp T N (j + 1 + 1)) := (rB_o _ _ (by omega)).trans (nmK_50 _)
  have hp2 := (bp_bd H.te.1 H.te.2 (j + 2)).2.1
  unfold f_Book_operation
  rw [e1, xtb_s, e2, xtb_s, show j + 1 + 1 = j + 2 from rfl, e49, e50, H2.k5, nI1 (by omega)]
  have o29 : (mv_i (nmK P N T h (j + 1)) P 29).toNatClampNeg = (mv_i h P 29).toNatClampNeg := by rw [nmK_i (by omega)]
  have lp := lp37 Q2.1 npq.1 npq.2 (nI (pos T N (j + 2))) (nI (pos T N (j + 2) + 1)) v2 (mv_i h P 29).toNatClampNeg 200000 0 false (by rw [o29]; omega) (by omega)
  rw [show (0 : Int32) = b01 false from rfl] at *
  rw [show nI 0 = b01 false from rfl] at lp
  rw [lp]
  have enm := H.nmt G1 k2
  have r29 : mv_i (rB P N (nmK P N T h (j + 1)) (j + 2) v2) P 29 = nI (mv_i h P 29).toNatClampNeg := (rB_o _ _ (by omega)).trans ((nmK_i (by omega) _).trans Q.1.o0)
  have V := Q.1.ov rfl
  have kn0 : anq (fun i => decide (s7z (mv_a (nmK P N T h (j + 1)) 71) (mv_a (nmK P N T h (j + 1)) (P + 8) i).toNatClampNeg ((mv_a (nmK P N T h (j + 1)) (P + 9) i).toNatClampNeg - (mv_a (nmK P N T h (j + 1)) (P + 8) i).toNatClampNeg) = s7z (mv_a (nmK P N T h (j + 1)) 71) (pos T N (j + 1)) (bp T N (j + 1 + 1) - pos T N (j + 1)))) (mv_i h P 29).toNatClampNeg 0 = false := by
    refine Bool.eq_false_iff.mpr (fun w => ?_)
    obtain ⟨i, h1, h2, h3⟩ := (anq_iff _ _).mp w
    have h3 := of_decide_eq_true h3
    have hi : i < (mv_i h P 29).toNatClampNeg := by omega
    have hr := Q.1.op.n i hi
    have := s7_tn_iff (h := h) Q.1.b7 hn2 H.t (q0 := (mv_a h (P + 8) i).toNatClampNeg) (e0 := (mv_a h (P + 9) i).toNatClampNeg) hr.2.2.1 hr.2.2.2 npq.1 npq.2
    have e3 := this.mp h3
    rw [← enm, ← V.n i hi] at e3
    refine cc.1 ?_
    rw [e3]
    refine List.mem_map.mpr ⟨s.ops.getD i ([], []), ?_, rfl⟩
    rw [List.getD_eq_getElem?_getD, List.getElem?_eq_getElem (by have := V.l; omega)]
    exact List.getElem_mem _
  rw [r29, Bool.false_or, kn0, if_pos rfl, if_pos (show nI (mv_i h P 29).toNatClampNeg < (512 : Int32) from Int32.not_le.mp (fun z => by have := (nIle (a := 512) (by omega) (by omega)).mp z; have := V.l; omega))]
  have z29 : (mv_i (nmK P N T h (j + 1)) P 29).toNatClampNeg = (mv_i h P 29).toNatClampNeg := o29
  exact op108G Q2 (nm := (txT T N).nm (j + 1)) npq.1 npq.2 enm (by rw [z29]; omega) (show j ≤ j + 2 by omega) (nI (pos T N (j + 2))) v2 g3 cc.2.2 t5
/-! items, the TEXT -/
theorem itm_G : ∀ (k kk : Nat) (s : SI) (lz : LZ) (B : List DnS) (h : mv_H) (m j : Nat) (v : Int64) (r : SI × LZ × List DnS), IGq P N T s lz B h m j → 32768 - j < kk → tLp (txT T N) k s lz B j = some r → ∃ x h' v' m' j', f_Book_text_1_97 P kk (rB P N h j v) = some (some x, rB P N h' j' v') ∧ IGq P N T r.1 r.2.1 r.2.2 h' m' j' := by
  intro k
  induction k with
  | zero => intro kk s lz B h m j v r _ _ ht; cases ht
  | succ k ih =>
    intro kk s lz B h m j v r Q h2 ht
    obtain ⟨kk, rfl⟩ : ∃ q, kk = q + 1 := ⟨kk - 1, by omega⟩
    show ∃ x h' v' m' j', fF_Book_text_1_97 P (f_Book_text_1_97 P kk) (rB P N h j v) = some (some x, rB P N h' j' v') ∧ IGq P N T r.1 r.2.1 r.2.2 h' m' j'
    have H := Q.1.hb
    have ht : (if kdT T N j = 1 then some (s, lz, B) else (tIt (txT T N) s lz B j).bind fun r => tLp (txT T N) k r.2.1 r.2.2.1 r.2.2.2 r.1) = some r := ht
    unfold fF_Book_text_1_97
    rw [H.k4]
    have c1 := kd_end H.lt Q.1.gk.1
    by_cases k1 : kdT T N j = 1
    · rw [if_pos k1] at ht
      obtain rfl := Option.some.inj ht
      rw [if_pos (c1.mpr k1)]
      exact ⟨0, h, v, m, j, rfl, Q⟩
    rw [if_neg k1] at ht
    rw [if_neg (fun z => k1 (c1.mp z))]
    obtain ⟨r1, t1, ht⟩ := obn ht
    have w140 : f_Book_is P (rB P N h j v) 140 = some (b01 (decide (kdT T N j = 201)), rB P N h j v) := is_S H Q.1.gk (i := 1) (wds (140, 1) (by decide)) (by decide) v
    have w143 : f_Book_is P (rB P N h j v) 143 = some (b01 (decide (kdT T N j = 202)), rB P N h j v) := is_S H Q.1.gk (i := 2) (wds (143, 2) (by decide)) (by decide) v
    have w144 : f_Book_is P (rB P N h j v) 144 = some (b01 (decide (kdT T N j = 204)), rB P N h j v) := is_S H Q.1.gk (i := 4) (wds (144, 4) (by decide)) (by decide) v
    have w146 : f_Book_is P (rB P N h j v) 146 = some (b01 (decide (kdT T N j = 206)), rB P N h j v) := is_S H Q.1.gk (i := 6) (wds (146, 6) (by decide)) (by decide) v
    have go : ∀ (res : Option (Option Int32 × mv_H)), IOg P N T j r1 res → ∃ x h' v' m' j', (xtb res fun u g => f_Book_text_1_97 P kk g) = some (some x, rB P N h' j' v') ∧ IGq P N T r.1 r.2.1 r.2.2 h' m' j' := fun res hr => by
      obtain ⟨x, h', v', m', e1, Q1, hj⟩ := hr
      rw [e1, xtb_s]
      have hb1 := Q1.1.hb.gkn Q1.1.gk
      have hb2 := Q1.1.n10
      exact ih kk r1.2.1 r1.2.2.1 r1.2.2.2 h' m' r1.1 v' r Q1 (by omega) ht
    unfold tIt at t1
    rw [w140, xhb_s]
    by_cases k5 : kdT T N j = 206
    · rw [if_pos (show (txT T N).kd j = 206 from k5)] at t1
      rw [if_pos (b01_dn (by omega)), w143, xhb_s, if_pos (b01_dn (by omega)), w144, xhb_s, if_pos (b01_dn (by omega)), w146, xhb_s, if_neg (b01_dp k5)]
      exact go _ (op_G9 Q k5 v t1)
    rw [if_neg (show ¬ (txT T N).kd j = 206 from k5)] at t1
    obtain ⟨rr, t2, t3⟩ := obn t1
    obtain rfl := Option.some.inj t3
    unfold sIt at t2
    by_cases k2 : kdT T N j = 201
    · rw [if_pos (show (txT T N).kd j = 201 from k2)] at t2
      rw [if_neg (b01_dp k2)]
      have := reg_G Q k2 v t2
      refine go _ ?_
      rw [if_neg (show ¬ (txT T N).kd j = 204 by show ¬ kdT T N j = 204; omega)]
      exact this
    rw [if_neg (show ¬ (txT T N).kd j = 201 from k2)] at t2
    rw [if_pos (b01_dn k2), w143, xhb_s]
    by_cases k3 : kdT T N j = 202
    · rw [if_pos (show (txT T N).kd j = 202 from k3)] at t2
      rw [if_neg (b01_dp k3)]
      have := fil_G Q k3 v t2
      refine go _ ?_
      rw [if_neg (show ¬ (txT T N).kd j = 204 by show ¬ kdT T N j = 204; omega)]
      exact this
    rw [if_neg (show ¬ (txT T N).kd j = 202 from k3)] at t2
    rw [if_pos (b01_dn k3), w144, xhb_s]
    by_cases k4 : kdT T N j = 204
    · rw [if_pos (show (txT T N).kd j = 204 from k4)] at t2
      rw [if_neg (b01_dp k4)]
      have := fet_G Q k4 v t2
      refine go _ ?_
      rw [if_pos (show (txT T N).kd j = 204 from k4)]
      exact this
    rw [if_neg (show ¬ (txT T N).kd j = 204 from k4), if_neg (show ¬ (txT T N).kd j = 206 from k5)] at t2
    cases t2
end OQG
