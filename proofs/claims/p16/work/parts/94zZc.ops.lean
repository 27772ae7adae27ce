/-! ops on good roads -/
theorem GSq.of {P lo hi : Nat} {h h' : mv_H} (ha : ∀ o, P + 18 ≤ o → o ≤ P + 25 → mv_a h' o = mv_a h o) (hb : mv_b h' (P + 24) = mv_b h (P + 24)) (h3 : ∀ o, (o = P + 3 ∨ o = P + 6) → mv_a h' o = mv_a h o) : GSq P lo hi h h' :=
  ⟨⟨fun k _ _ _ => ⟨by rw [ha (P + 18) (by omega) (by omega)], by rw [ha (P + 19) (by omega) (by omega)], by rw [ha (P + 20) (by omega) (by omega)], by rw [ha (P + 21) (by omega) (by omega)], by rw [ha (P + 23) (by omega) (by omega)], by rw [hb]⟩, fun k _ _ _ => by rw [ha (P + 22) (by omega) (by omega)], fun o k q _ => by rw [h3 o q]⟩, fun o k q _ _ => by rw [ha o (by omega) (by omega)], fun k _ _ => by rw [ha (P + 22) (by omega) (by omega)], fun k _ => by rw [h3 (P + 6) (Or.inr rfl)]⟩
section OPG
variable {P N : Nat} {T : Nat → Nat} {s : SI} {lz : LZ} {B : List DnS} {h : mv_H} {m j : Nat}
/-- the names before an op's block -/
theorem opB_Z (Q : IGq P N T s lz B h m j) {cb len first : Nat} (h30 : mv_i h P 30 = nI (cb + len)) (hc : cb + len ≤ 32768) (hl : len ≤ 64) (h10 : mv_a h (P + 10) (mv_i h P 29).toNatClampNeg = nI cb) (h13 : ∀ k, k < len → mv_a h (P + 13) (cb + k) = sb (T (first + k)) ∧ T (first + k) < 256) : ZQ P N T (lzO lz (tn T first len)) (tn T first len) [] s.tl.length (mv_si (mv_si h P 35 0) P 36 0) := by
  have ei : ∀ c, ¬ c = 35 → ¬ c = 36 → mv_i (mv_si (mv_si h P 35 0) P 36 0) P c = mv_i h P c := fun c h1 h2 => (mv_u_ne (mv_i (mv_si h P 35 0)) _ (by omega)).trans (mv_u_ne (mv_i h) _ (by omega))
  have e35 : mv_i (mv_si (mv_si h P 35 0) P 36 0) P 35 = 0 := (mv_u_ne (mv_i (mv_si h P 35 0)) _ (by omega)).trans (mv_u_same (mv_i h) P 35 _)
  refine ⟨by rw [ei 17 (by omega) (by omega)]; exact (Q.1.tc rfl).symm, fun q e h1 h2 => ?_⟩
  have el : lfz P (mv_si (mv_si h P 35 0) P 36 0) q e = none := by
    unfold lfz
    rw [e35]
    rfl
  have et : tfz P (mv_si (mv_si h P 35 0) P 36 0) q e = tfz P h q e := by
    unfold tfz
    rw [ei 17 (by omega) (by omega)]
    rfl
  have ec : cfz P N (mv_si (mv_si h P 35 0) P 36 0) q = cntm (mv_a h (P + 13)) (chr (T q)) len cb 0 := by
    have ek : ck (mv_si (mv_si h P 35 0) P 36 0) N = T := Q.1.hb.t
    unfold cfz ctz
    rw [ei 30 (by omega) (by omega), ei 29 (by omega) (by omega), ek]
    show cntm (mv_a h (P + 13)) (chr (T q)) ((mv_i h P 30).toNatClampNeg - (mv_a h (P + 10) (mv_i h P 29).toNatClampNeg).toNatClampNeg) (mv_a h (P + 10) (mv_i h P 29).toNatClampNeg).toNatClampNeg 0 = _
    rw [h10, h30, cln (by omega), cln (by omega), show cb + len - cb = len by omega]
  have ek : ck (mv_si (mv_si h P 35 0) P 36 0) N q = T q := by
    have : ck (mv_si (mv_si h P 35 0) P 36 0) N = T := Q.1.hb.t
    rw [this]
  have hcnt : isl (T q) = true → cntm (mv_a h (P + 13)) (chr (T q)) len cb 0 = cntL (T q) (tn T first len) := fun hi => by
    have hl := isl_lt (T q) (Q.1.hb.lt q) hi
    unfold chr
    rw [if_pos (by omega), cnt_q hl len cb first 0 h13, Nat.zero_add]
  rw [el, et, ec, ek]
  show (if decide (e - q = 1) = true ∧ isl (T q) = true ∧ 0 < cntm (mv_a h (P + 13)) (chr (T q)) len cb 0 then lzO lz (tn T first len) (tn T q (e - q)) = 64 + T q ∧ T q < 128 ∧ cntm (mv_a h (P + 13)) (chr (T q)) len cb 0 = cntL (T q) (tn T first len) ∧ cntL (T q) (tn T first len) ≤ 64 else match tfz P h q e with | some t => lzO lz (tn T first len) (tn T q (e - q)) = t | none => True)
  by_cases c : decide (e - q = 1) = true ∧ isl (T q) = true ∧ 0 < cntm (mv_a h (P + 13)) (chr (T q)) len cb 0
  · rw [if_pos c]
    have c1 := of_decide_eq_true c.1
    have hcn := hcnt c.2.1
    refine ⟨?_, isl_lt (T q) (Q.1.hb.lt q) c.2.1, hcn, Nat.le_trans List.countP_le_length (by rw [tn_len]; exact hl)⟩
    rw [tn_1.1 c1]
    show (if isl (T q) = true ∧ 0 < cntL (T q) (tn T first len) then 64 + T q else lz [T q]) = _
    rw [if_pos ⟨c.2.1, by rw [← hcn]; exact c.2.2⟩]
  · rw [if_neg c]
    have hlz : lzO lz (tn T first len) (tn T q (e - q)) = lz (tn T q (e - q)) := by
      by_cases c1 : e - q = 1
      · rw [tn_1.1 c1]
        show (if isl (T q) = true ∧ 0 < cntL (T q) (tn T first len) then 64 + T q else lz [T q]) = _
        rw [if_neg (fun z => c ⟨decide_eq_true c1, z.1, by rw [hcnt z.1]; exact z.2⟩)]
      · have hne := (tn_1 (T := T) (q := q) (l := e - q)).2 c1
        unfold lzO
        split
        · rename_i x hx
          exact absurd hx (hne x)
        · rfl
    cases ct : tfz P h q e with
    | none => trivial
    | some t =>
      show lzO lz (tn T first len) (tn T q (e - q)) = t
      rw [hlz]
      exact Q.2.1 q e t h1 h2 ct
theorem op221G (Q : IGq P N T s lz B h m j) {len first q e : Nat} {nm : List Nat} (hq : q ≤ e) (he : e ≤ N) (enm : nm = tn T q (e - q)) (h30 : mv_i h P 30 = nI ((mv_i h P 51).toNatClampNeg + len)) (hc : (mv_i h P 51).toNatClampNeg + len ≤ bp T N j) (h10 : mv_a h (P + 10) (mv_i h P 29).toNatClampNeg = nI (mv_i h P 51).toNatClampNeg) (h13 : ∀ k, k < len → mv_a h (P + 13) ((mv_i h P 51).toNatClampNeg + k) = sb (T (first + k)) ∧ T (first + k) < 256) (hlen : len = s.bits) (h4 : 4 * ((mv_i h P 29).toNatClampNeg + 1) ≤ j + 1) {j0 : Nat} (hj0 : j0 ≤ j) (v : Int64) {r : VS} (ht : tS (txT T N) (tn T first len) 200 0 (lkO s.lk (tn T first len)) (lzO lz (tn T first len)) 0 0 j = some r) :
    IOg P N T j0 (r.1, SI.mk s.bits s.lk s.tl s.cells s.fe (s.ops ++ [(nm, tn T first len)]), lz, B ++ [r.2.2.2]) (f_Book_operation_221 P (nI q) (nI e) (b01 false) (nI (mv_i h P 29).toNatClampNeg) (rB P N h j v)) := by
  have QG := Q
  obtain ⟨Q, TZ, FE, ZR, BD⟩ := Q
  have hP := Q.hb.p
  have hbN := (bp_bd Q.hb.te.1 Q.hb.te.2 j).1
  have hn := Q.n10
  have o5 := Q.o5
  have hjN := Q.hb.gkn Q.gk
  have hl64 : len ≤ 64 := by
    obtain ⟨L, l1, l2, l3⟩ := Q.bt
    have := l3 rfl
    omega
  have S0 := opB_S Q (first := first) h30 (by omega) h10 h13
  have Z0 := opB_Z QG (first := first) h30 (by omega) hl64 h10 h13
  obtain ⟨er, a, h', v', m', LW', e1, R1, q35, ⟨Z1, hL1, px1⟩, B1, K1⟩ := (sG P N T (tn T first len) s.tl.length 200 0 _ _ 0 [] 0 _ m j v r (by unfold Fs; rw [if_pos rfl]; omega) (by omega) ⟨S0, Z0, rfl⟩ (fun w => by omega) ht).1 rfl
  have F0 : SFr P 0 h (mv_si (mv_si h P 35 0) P 36 0) := ⟨fun o k q => (mv_u_ne (mv_i (mv_si h P 35 0)) _ (by omega)).trans (mv_u_ne (mv_i h) _ (by omega)), rfl, rfl, fun _ _ => rfl, fun _ _ _ _ _ => rfl, fun _ _ => rfl⟩
  have F1 : SFr P 0 h h' := F0.trans R1.fr (Nat.zero_le _)
  have hj' := R1.jj
  have S1 := R1.sq
  have hm' := R1.mm
  have Q1 : IQq P N T s true h' m' r.1 := Q.fr F1 (fun w => ⟨rfl, rfl⟩) Q.lp S1.es.fa S1.es.nd S1.es.wd S1.mj S1.gk (by omega)
  have i29 : mv_i h' P 29 = mv_i h P 29 := F1.i P 29 (by omega)
  have i51 : mv_i h' P 51 = mv_i h P 51 := F1.i P 51 (by omega)
  have i30 : mv_i h' P 30 = mv_i h P 30 := F1.i P 30 (by omega)
  have a10 : mv_a h' (P + 10) = mv_a h (P + 10) := F1.a (P + 10) (by omega)
  have a11 : mv_a h' (P + 11) = mv_a h (P + 11) := F1.a (P + 11) (by omega)
  have a13 : mv_a h' (P + 13) = mv_a h (P + 13) := F1.a (P + 13) (by omega)
  have hb2 := bp_mono Q.hb.te.1 Q.hb.te.2 (r.1 - j) j
  rw [show j + (r.1 - j) = r.1 by omega] at hb2
  have O1 := opH_1 Q1 (q := q) (e := e) (cb' := (mv_i h P 51).toNatClampNeg + len) (nm := nm) (C := tn T first len) a hq he (by rw [i29]; omega) (by omega) (by rw [i51]; omega) (fun w => by
    rw [i29, a10, a13, h10, cln (by omega), tn_len]
    refine ⟨enm, hlen, rfl, by omega, fun k hk => ?_⟩
    rw [(h13 k (by omega)).1, tn_get T first len k (by omega)]
    exact ⟨rfl, (h13 k (by omega)).2⟩)
  rw [i29] at O1
  have ol : s.ops.length = (mv_i h P 29).toNatClampNeg := (Q.ov rfl).l
  generalize ho : (mv_i h P 29).toNatClampNeg = o at *
  have e221 : f_Book_operation_221 P (nI q) (nI e) (b01 false) (nI o) (rB P N h j v) = some (some 0, rB P N (mv_si (mv_si (opH P o q e a h') P 51 (nI ((mv_i h P 51).toNatClampNeg + len))) P 29 (nI (o + 1))) r.1 v') := by
    unfold f_Book_operation_221
    rw [rB_si (by omega), xk_s, rB_si (by omega), xk_s, e1, xtb_s, xvi_n (show o < 4100 by omega) (by decide), cln (by omega)]
    simp only [xk_s, cond_true]
    rw [rB_sa (by omega), rB_sa (by omega), rB_sa (by omega), if_pos (show b01 false = 0 from rfl)]
    have r30 : mv_i (rB P N (mv_sa (mv_sa (mv_sa h' (P + 11) o a) (P + 8) o (nI q)) (P + 9) o (nI e)) r.1 v') P 30 = nI ((mv_i h P 51).toNatClampNeg + len) := (rB_o _ _ (by omega)).trans (i30.trans h30)
    rw [r30, rB_si (by omega)]
    have r29 : mv_i (rB P N (mv_si (mv_sa (mv_sa (mv_sa h' (P + 11) o a) (P + 8) o (nI q)) (P + 9) o (nI e)) P 51 (nI ((mv_i h P 51).toNatClampNeg + len))) r.1 v') P 29 = nI o := by
      refine (rB_o _ _ (by omega)).trans ((mv_u_ne (mv_i (mv_sa (mv_sa (mv_sa h' (P + 11) o a) (P + 8) o (nI q)) (P + 9) o (nI e))) _ (by omega)).trans ?_)
      exact i29.trans (by rw [← ho]; exact Q.o0)
    rw [r29, nI1 (by omega), rB_si (by omega)]
    rfl
  have oa : ∀ x, ¬ (x = P + 8 ∨ x = P + 9 ∨ x = P + 11) → mv_a (mv_si (mv_si (opH P o q e a h') P 51 (nI ((mv_i h P 51).toNatClampNeg + len))) P 29 (nI (o + 1))) x = mv_a h' x := fun x hx => by
    funext k
    show mv_a (opH P o q e a h') x k = _
    rw [opH_a, if_neg (by omega), if_neg (by omega), if_neg (by omega)]
  have oi : ∀ c, ¬ c = 51 → ¬ c = 29 → mv_i (mv_si (mv_si (opH P o q e a h') P 51 (nI ((mv_i h P 51).toNatClampNeg + len))) P 29 (nI (o + 1))) P c = mv_i h' P c := fun c h1 h2 => by
    rw [sin9 _ _ (by omega), sin9 _ _ (by omega)]
    rfl
  have o11 : ∀ k, mv_a (mv_si (mv_si (opH P o q e a h') P 51 (nI ((mv_i h P 51).toNatClampNeg + len))) P 29 (nI (o + 1))) (P + 11) k = if k = o then a else mv_a h (P + 11) k := fun k => by
    show mv_a (opH P o q e a h') (P + 11) k = _
    rw [opH_a, if_neg (by omega), if_neg (by omega), a11]
    by_cases z : k = o
    · rw [if_pos ⟨rfl, z⟩, if_pos z]
    · rw [if_neg (fun w => z w.2), if_neg z]
  have gF : ∀ lo hi, GSq P lo hi h' (mv_si (mv_si (opH P o q e a h') P 51 (nI ((mv_i h P 51).toNatClampNeg + len))) P 29 (nI (o + 1))) := fun lo hi => GSq.of (fun x q1 q2 => oa x (by omega)) rfl (fun x q1 => oa x (by omega))
  generalize mv_si (mv_si (opH P o q e a h') P 51 (nI ((mv_i h P 51).toNatClampNeg + len))) P 29 (nI (o + 1)) = hF at *
  refine ⟨0, hF, v', m', e221, ⟨O1, ?_, ?_, ?_, ?_⟩, by show j0 < r.1; omega⟩
  · intro q' e' t h1 h2 ht0
    refine TZ q' e' t h1 h2 ?_
    unfold tfz at ht0 ⊢
    rw [oa 71 (by omega), oi 17 (by omega) (by omega), oa (P + 1) (by omega), oa (P + 2) (by omega), F1.a 71 (by omega), F1.i P 17 (by omega), F1.a (P + 1) (by omega), F1.a (P + 2) (by omega)] at ht0
    exact ht0
  · unfold FEg at FE ⊢
    rw [oi 18 (by omega) (by omega), oi 21 (by omega) (by omega), F1.i P 18 (by omega), F1.i P 21 (by omega)]
    exact FE
  · intro k hk
    rw [oa (P + 7) (by omega), F1.a (P + 7) (by omega)]
    exact ZR k hk
  · refine ⟨by show (B ++ [r.2.2.2]).length = (s.ops ++ [(nm, tn T first len)]).length; rw [List.length_append, List.length_append, BD.1]; rfl, fun k hk => ?_⟩
    have hk : k < (s.ops ++ [(nm, tn T first len)]).length := hk
    rw [List.length_append] at hk
    have hk : k < s.ops.length + 1 := hk
    show OBq P hF s.tl.length ((s.ops ++ [(nm, tn T first len)]).getD k ([], [])).2 (mv_a hF (P + 11) k) ((B ++ [r.2.2.2]).getD k zSk) m'
    rw [o11 k]
    by_cases z : k = s.ops.length
    · rw [(getD_app s.ops (nm, tn T first len) ([], []) k).2 z, (getD_app B r.2.2.2 zSk k).2 (by rw [BD.1]; exact z), if_pos (by omega)]
      refine ⟨200, m, m', LW', BKq.fr ?_ (gF m m'), Nat.le_refl _⟩
      exact K1
    · rw [(getD_app s.ops (nm, tn T first len) ([], []) k).1 (by omega), (getD_app B r.2.2.2 zSk k).1 (by rw [BD.1]; omega), if_neg (by omega)]
      have g0 : GSq P 0 m h (mv_si (mv_si h P 35 0) P 36 0) := GSq.of (fun _ _ _ => rfl) rfl (fun _ _ => rfl)
      have g1 : GSq P 0 m (mv_si (mv_si h P 35 0) P 36 0) h' := B1.g (Nat.le_refl _) R1.fr
      exact (((BD.2 k (by omega)).fr g0 (Nat.le_refl _)).fr g1 (Nat.le_refl _)).fr (gF 0 m) hm'
end OPG
