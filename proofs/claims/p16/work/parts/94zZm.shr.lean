/-! the shipped program -/
def LSx : CDq := fun i => bif Nat.blt i 611 then ((cS i).1, nJ (cS i).2) else (311, 0)
def tlS : List (Nat × Nat × Bool) := [(32, 0, false), (32, 32, true), (8, 32768, false)]
def lkS : LK := fun x => if x = [112, 99] then (1, 32) else if x = [120] then (2, 32) else if x = [109] then (2, 8) else (0, 0)
def lzS : LZ := fun x => if x = [112, 99] then 0 else if x = [120] then 1 else if x = [109] then 2 else 0
/-- op k: the run of its code -/
def bdS (k : Nat) : DnS := fun e s => (rn e LSx 64 (stS k) [] s).getD (0, s)
def rS : SI × LZ × List DnS := (SI.mk 32 lkS tlS 32800 (some ([112, 99], [109])) opS, lzS, (List.range 48).map bdS)
def updL (l : Nat → Int64) (i : Nat) (v : Int64) : Nat → Int64 := fun k => if k = i then v else l k
theorem updL_s (l : Nat → Int64) (i : Nat) (v : Int64) : updL l i v i = v := if_pos rfl
def updF (f : Nat → Bool) (i : Nat) : Nat → Bool := fun k => if k = i then true else f k
theorem ite_some {α : Type} {c : Prop} [Decidable c] {x y : Option α} {a b : α} (h : c → x = some a) (g : ¬ c → y = some b) : (if c then x else y) = some (if c then a else b) := by
  by_cases z : c
  · rw [if_pos z, if_pos z, h z]
  · rw [if_neg z, if_neg z, g z]
section RNS
variable {e : E0q} {n a : Nat} {st : List Int64} {l : Nat → Int64} {R : Nat → Nat → Int64} {f : Nat → Bool}
theorem LS_e {k w : Nat} (h : cS a = (k, w)) (ha : Nat.blt a 611 = true) : LSx a = (k, nJ w) := by
  unfold LSx
  rw [ha, h]
  rfl
theorem s300 {w : Nat} (ha : Nat.blt a 611 = true) (h : cS a = (300, w)) : rn e LSx (n + 1) a st (l, R, f) = rn e LSx n (a + 1) (nJ w :: st) (l, R, f) := rn300 (LS_e h ha)
theorem s301 {w : Nat} (ha : Nat.blt a 611 = true) (h : cS a = (301, w)) : rn e LSx (n + 1) a st (l, R, f) = rn e LSx n (a + 1) (gatV e.1 (nJ w) :: st) (l, R, f) := rn301 (LS_e h ha)
theorem s302 {i : Nat} {v : Int64} (ha : Nat.blt a 611 = true) (h : cS a = (302, i)) (hi : i < 64) (hv : l i = v) : rn e LSx (n + 1) a st (l, R, f) = rn e LSx n (a + 1) (v :: st) (l, R, f) := by
  rw [rn302 (LS_e h ha), tI_n (by omega)]
  show rn e LSx n (a + 1) (l i :: st) (l, R, f) = _
  rw [hv]
theorem s303 {t : Nat} (ha : Nat.blt a 611 = true) (h : cS a = (303, t)) (hi : t < 64) : rn e LSx (n + 1) a st (l, R, f) = rn e LSx n (a + 1) (R t 0 :: st) (l, R, f) := by
  rw [rn303 (LS_e h ha), tI_n (by omega)]
theorem s304 {t : Nat} {i : Int64} (ha : Nat.blt a 611 = true) (h : cS a = (304, t)) (ht : t < 64) : rn e LSx (n + 1) a (i :: st) (l, R, f) = if i.toBitVec.toNat < (e.2 t).2.1 then rn e LSx n (a + 1) (R t i.toBitVec.toNat :: st) (l, R, f) else some (-3, (l, R, f)) := by
  rw [rn304 (LS_e h ha), tI_n (by omega)]
theorem s315 {t : Nat} {i v : Int64} (ha : Nat.blt a 611 = true) (h : cS a = (315, t)) (ht : t < 64) : rn e LSx (n + 1) a (v :: i :: st) (l, R, f) = if i.toBitVec.toNat < (e.2 t).2.1 then rn e LSx n (a + 1) st (l, wrT e t i.toBitVec.toNat v R, f) else some (-3, (l, R, f)) := by
  rw [rn315 (LS_e h ha), tI_n (by omega)]
theorem s313 {i : Nat} {v : Int64} (ha : Nat.blt a 611 = true) (h : cS a = (313, i)) (hi : i < 64) : rn e LSx (n + 1) a (v :: st) (l, R, f) = rn e LSx n (a + 1) st (updL l i v, R, f) := by
  rw [rn313 (LS_e h ha), tI_n (by omega)]
  rfl
theorem s314 {t : Nat} {v : Int64} (ha : Nat.blt a 611 = true) (h : cS a = (314, t)) (ht : t < 64) : rn e LSx (n + 1) a (v :: st) (l, R, f) = rn e LSx n (a + 1) st (l, wrT e t 0 v R, updF f t) := by
  rw [rn314 (LS_e h ha), tI_n (by omega)]
  rfl
theorem s311 {w : Nat} (ha : Nat.blt a 611 = true) (h : cS a = (311, w)) (hw : a < w) (hw2 : w < 1000) : rn e LSx (n + 1) a st (l, R, f) = rn e LSx n w st (l, R, f) := by
  rw [rn311 (LS_e h ha) (by rw [tI_n (by omega)]; exact hw), tI_n (by omega)]
theorem s312 {w : Nat} {v : Int64} (ha : Nat.blt a 611 = true) (h : cS a = (312, w)) (hw : a < w) (hw2 : w < 1000) : rn e LSx (n + 1) a (v :: st) (l, R, f) = if v = 0 then rn e LSx n w st (l, R, f) else rn e LSx n (a + 1) st (l, R, f) := by
  rw [rn312 (LS_e h ha) (by rw [tI_n (by omega)]; exact hw), tI_n (by omega)]
theorem s316 {w : Nat} (ha : Nat.blt a 611 = true) (h : cS a = (316, w)) : rn e LSx (n + 1) a st (l, R, f) = some ((nJ w).toInt32, (l, R, f)) := rn316 (LS_e h ha)
theorem s317 {w : Nat} (ha : Nat.blt a 611 = true) (h : cS a = (317, w)) : rn e LSx (n + 1) a st (l, R, f) = some (0, (l, R, f)) := rn317 (LS_e h ha)
theorem sU1 {k w : Nat} {v : Int64} (ha : Nat.blt a 611 = true) (h : cS a = (k, w)) (hk : k = 305 ∨ k = 306 ∨ k = 307 ∨ k = 308 ∨ k = 310) : rn e LSx (n + 1) a (v :: st) (l, R, f) = rn e LSx n (a + 1) (u1 k (nJ w) v :: st) (l, R, f) := rnU1 (LS_e h ha) hk
theorem sU2 {k w : Nat} {x y : Int64} (ha : Nat.blt a 611 = true) (h : cS a = (k, w)) (hk : k < 300 ∨ k = 309) : rn e LSx (n + 1) a (y :: x :: st) (l, R, f) = rn e LSx n (a + 1) (u2 k (nJ w) x y :: st) (l, R, f) := rnU2 (LS_e h ha) hk
end RNS
/-- a field of five bits names a place of x -/
theorem g5_lt (w : Int64) {m : Nat} (hm : rk (nJ m).toBitVec 64 = 5) : (gatV w (nJ m)).toBitVec.toNat < 32 := by
  have h := (ga_GA w (nJ m)).lt
  rw [hm] at h
  exact h

theorem g5_3968 (w : Int64) : (gatV w (nJ 3968)).toBitVec.toNat < 32 := g5_lt w (by decide +kernel)
theorem g5_1015808 (w : Int64) : (gatV w (nJ 1015808)).toBitVec.toNat < 32 := g5_lt w (by decide +kernel)
theorem g5_32505856 (w : Int64) : (gatV w (nJ 32505856)).toBitVec.toNat < 32 := g5_lt w (by decide +kernel)
theorem ev_0 (w : Int64) (l : Nat → Int64) (R : Nat → Nat → Int64) (f : Nat → Bool) : rn (eW rS w) LSx 64 0 [] (l, R, f) = some ((0, (l, wrT (eW rS w) 1 (gatV w (nJ 3968)).toBitVec.toNat (u2 309 (nJ 12) (gatV w (nJ 4294963200)) (nJ 0)) (R), f))) := by
  refine (s301 (a := 0) rfl rfl).trans ?_
  refine (s301 (a := 1) rfl rfl).trans ?_
  refine (s300 (a := 2) rfl rfl).trans ?_
  refine (sU2 (a := 3) rfl rfl (by decide)).trans ?_
  refine (s315 (a := 4) rfl rfl (by decide)).trans ((if_pos (g5_3968 w)).trans ?_)
  exact s317 (a := 5) rfl rfl
theorem ev_1 (w : Int64) (l : Nat → Int64) (R : Nat → Nat → Int64) (f : Nat → Bool) : rn (eW rS w) LSx 64 6 [] (l, R, f) = some ((0, (l, wrT (eW rS w) 1 (gatV w (nJ 3968)).toBitVec.toNat (u2 43 (nJ 32) ((R) 0 0) (u2 309 (nJ 12) (gatV w (nJ 4294963200)) (nJ 0))) (R), f))) := by
  refine (s301 (a := 6) rfl rfl).trans ?_
  refine (s303 (a := 7) rfl rfl (by decide)).trans ?_
  refine (s301 (a := 8) rfl rfl).trans ?_
  refine (s300 (a := 9) rfl rfl).trans ?_
  refine (sU2 (a := 10) rfl rfl (by decide)).trans ?_
  refine (sU2 (a := 11) rfl rfl (by decide)).trans ?_
  refine (s315 (a := 12) rfl rfl (by decide)).trans ((if_pos (g5_3968 w)).trans ?_)
  exact s317 (a := 13) rfl rfl
theorem ev_2 (w : Int64) (l : Nat → Int64) (R : Nat → Nat → Int64) (f : Nat → Bool) : rn (eW rS w) LSx 64 14 [] (l, R, f) = some (if u2 129 (nJ 2) (u1 308 (nJ 512) (u2 43 (nJ 32) ((R) 0 0) (u1 310 (nJ 8213) (u2 309 (nJ 1) (u2 309 (nJ 10) (u2 309 (nJ 1) (u2 309 (nJ 8) (gatV w (nJ 2147483648)) (gatV w (nJ 1044480))) (gatV w (nJ 1048576))) (gatV w (nJ 2145386496))) (nJ 0))))) (nJ 0) = 0 then (0, (updL (l) 0 (u2 43 (nJ 32) ((R) 0 0) (u1 310 (nJ 8213) (u2 309 (nJ 1) (u2 309 (nJ 10) (u2 309 (nJ 1) (u2 309 (nJ 8) (gatV w (nJ 2147483648)) (gatV w (nJ 1044480))) (gatV w (nJ 1048576))) (gatV w (nJ 2145386496))) (nJ 0)))), wrT (eW rS w) 0 0 (u2 43 (nJ 32) ((R) 0 0) (u1 310 (nJ 8213) (u2 309 (nJ 1) (u2 309 (nJ 10) (u2 309 (nJ 1) (u2 309 (nJ 8) (gatV w (nJ 2147483648)) (gatV w (nJ 1044480))) (gatV w (nJ 1048576))) (gatV w (nJ 2145386496))) (nJ 0)))) (wrT (eW rS w) 1 (gatV w (nJ 3968)).toBitVec.toNat (u2 43 (nJ 32) ((R) 0 0) (nJ 4)) (R)), updF (f) 0)) else ((nJ 1).toInt32, (updL (l) 0 (u2 43 (nJ 32) ((R) 0 0) (u1 310 (nJ 8213) (u2 309 (nJ 1) (u2 309 (nJ 10) (u2 309 (nJ 1) (u2 309 (nJ 8) (gatV w (nJ 2147483648)) (gatV w (nJ 1044480))) (gatV w (nJ 1048576))) (gatV w (nJ 2145386496))) (nJ 0)))), R, f))) := by
  refine (s303 (a := 14) rfl rfl (by decide)).trans ?_
  refine (s301 (a := 15) rfl rfl).trans ?_
  refine (s301 (a := 16) rfl rfl).trans ?_
  refine (sU2 (a := 17) rfl rfl (by decide)).trans ?_
  refine (s301 (a := 18) rfl rfl).trans ?_
  refine (sU2 (a := 19) rfl rfl (by decide)).trans ?_
  refine (s301 (a := 20) rfl rfl).trans ?_
  refine (sU2 (a := 21) rfl rfl (by decide)).trans ?_
  refine (s300 (a := 22) rfl rfl).trans ?_
  refine (sU2 (a := 23) rfl rfl (by decide)).trans ?_
  refine (sU1 (a := 24) rfl rfl (by decide)).trans ?_
  refine (sU2 (a := 25) rfl rfl (by decide)).trans ?_
  refine (s313 (a := 26) rfl rfl (by decide)).trans ?_
  refine (s302 (a := 27) rfl rfl (by decide) (updL_s _ _ _)).trans ?_
  refine (sU1 (a := 28) rfl rfl (by decide)).trans ?_
  refine (s300 (a := 29) rfl rfl).trans ?_
  refine (sU2 (a := 30) rfl rfl (by decide)).trans ?_
  refine (s312 (a := 31) rfl rfl (by decide) (by decide)).trans (ite_some (fun _ => ?_) (fun _ => ?_))
  · refine (s301 (a := 33) rfl rfl).trans ?_
    refine (s303 (a := 34) rfl rfl (by decide)).trans ?_
    refine (s300 (a := 35) rfl rfl).trans ?_
    refine (sU2 (a := 36) rfl rfl (by decide)).trans ?_
    refine (s315 (a := 37) rfl rfl (by decide)).trans ((if_pos (g5_3968 w)).trans ?_)
    refine (s302 (a := 38) rfl rfl (by decide) (updL_s _ _ _)).trans ?_
    refine (s314 (a := 39) rfl rfl (by decide)).trans ?_
    exact s317 (a := 40) rfl rfl
  · exact s316 (a := 32) rfl rfl
theorem ev_3 (w : Int64) (l : Nat → Int64) (R : Nat → Nat → Int64) (f : Nat → Bool) : rn (eW rS w) LSx 64 41 [] (l, R, f) = some (if u2 129 (nJ 2) (u1 308 (nJ 512) (u2 38 (nJ 32) (u2 43 (nJ 32) ((R) 1 (gatV w (nJ 1015808)).toBitVec.toNat) (u1 310 (nJ 8204) (gatV w (nJ 4293918720)))) (nJ 4294967294))) (nJ 0) = 0 then (0, (updL (l) 0 (u2 38 (nJ 32) (u2 43 (nJ 32) ((R) 1 (gatV w (nJ 1015808)).toBitVec.toNat) (u1 310 (nJ 8204) (gatV w (nJ 4293918720)))) (nJ 4294967294)), wrT (eW rS w) 0 0 (u2 38 (nJ 32) (u2 43 (nJ 32) ((R) 1 (gatV w (nJ 1015808)).toBitVec.toNat) (u1 310 (nJ 8204) (gatV w (nJ 4293918720)))) (nJ 4294967294)) (wrT (eW rS w) 1 (gatV w (nJ 3968)).toBitVec.toNat (u2 43 (nJ 32) ((R) 0 0) (nJ 4)) (R)), updF (f) 0)) else ((nJ 1).toInt32, (updL (l) 0 (u2 38 (nJ 32) (u2 43 (nJ 32) ((R) 1 (gatV w (nJ 1015808)).toBitVec.toNat) (u1 310 (nJ 8204) (gatV w (nJ 4293918720)))) (nJ 4294967294)), R, f))) := by
  refine (s301 (a := 41) rfl rfl).trans ?_
  refine (s304 (a := 42) rfl rfl (by decide)).trans ((if_pos (g5_1015808 w)).trans ?_)
  refine (s301 (a := 43) rfl rfl).trans ?_
  refine (sU1 (a := 44) rfl rfl (by decide)).trans ?_
  refine (sU2 (a := 45) rfl rfl (by decide)).trans ?_
  refine (s300 (a := 46) rfl rfl).trans ?_
  refine (sU2 (a := 47) rfl rfl (by decide)).trans ?_
  refine (s313 (a := 48) rfl rfl (by decide)).trans ?_
  refine (s302 (a := 49) rfl rfl (by decide) (updL_s _ _ _)).trans ?_
  refine (sU1 (a := 50) rfl rfl (by decide)).trans ?_
  refine (s300 (a := 51) rfl rfl).trans ?_
  refine (sU2 (a := 52) rfl rfl (by decide)).trans ?_
  refine (s312 (a := 53) rfl rfl (by decide) (by decide)).trans (ite_some (fun _ => ?_) (fun _ => ?_))
  · refine (s301 (a := 55) rfl rfl).trans ?_
    refine (s303 (a := 56) rfl rfl (by decide)).trans ?_
    refine (s300 (a := 57) rfl rfl).trans ?_
    refine (sU2 (a := 58) rfl rfl (by decide)).trans ?_
    refine (s315 (a := 59) rfl rfl (by decide)).trans ((if_pos (g5_3968 w)).trans ?_)
    refine (s302 (a := 60) rfl rfl (by decide) (updL_s _ _ _)).trans ?_
    refine (s314 (a := 61) rfl rfl (by decide)).trans ?_
    exact s317 (a := 62) rfl rfl
  · exact s316 (a := 54) rfl rfl
theorem ev_4 (w : Int64) (l : Nat → Int64) (R : Nat → Nat → Int64) (f : Nat → Bool) : rn (eW rS w) LSx 64 63 [] (l, R, f) = some (if u2 128 (nJ 32) ((R) 1 (gatV w (nJ 1015808)).toBitVec.toNat) ((R) 1 (gatV w (nJ 32505856)).toBitVec.toNat) = 0 then (0, (l, R, f)) else if u2 129 (nJ 2) (u1 308 (nJ 512) (u2 43 (nJ 32) ((R) 0 0) (u1 310 (nJ 8205) (u2 309 (nJ 1) (u2 309 (nJ 4) (u2 309 (nJ 6) (u2 309 (nJ 1) (gatV w (nJ 2147483648)) (gatV w (nJ 128))) (gatV w (nJ 2113929216))) (gatV w (nJ 3840))) (nJ 0))))) (nJ 0) = 0 then (0, (updL (l) 0 (u2 43 (nJ 32) ((R) 0 0) (u1 310 (nJ 8205) (u2 309 (nJ 1) (u2 309 (nJ 4) (u2 309 (nJ 6) (u2 309 (nJ 1) (gatV w (nJ 2147483648)) (gatV w (nJ 128))) (gatV w (nJ 2113929216))) (gatV w (nJ 3840))) (nJ 0)))), wrT (eW rS w) 0 0 (u2 43 (nJ 32) ((R) 0 0) (u1 310 (nJ 8205) (u2 309 (nJ 1) (u2 309 (nJ 4) (u2 309 (nJ 6) (u2 309 (nJ 1) (gatV w (nJ 2147483648)) (gatV w (nJ 128))) (gatV w (nJ 2113929216))) (gatV w (nJ 3840))) (nJ 0)))) (R), updF (f) 0)) else ((nJ 1).toInt32, (updL (l) 0 (u2 43 (nJ 32) ((R) 0 0) (u1 310 (nJ 8205) (u2 309 (nJ 1) (u2 309 (nJ 4) (u2 309 (nJ 6) (u2 309 (nJ 1) (gatV w (nJ 2147483648)) (gatV w (nJ 128))) (gatV w (nJ 2113929216))) (gatV w (nJ 3840))) (nJ 0)))), R, f))) := by
  refine (s301 (a := 63) rfl rfl).trans ?_
  refine (s304 (a := 64) rfl rfl (by decide)).trans ((if_pos (g5_1015808 w)).trans ?_)
  refine (s301 (a := 65) rfl rfl).trans ?_
  refine (s304 (a := 66) rfl rfl (by decide)).trans ((if_pos (g5_32505856 w)).trans ?_)
  refine (sU2 (a := 67) rfl rfl (by decide)).trans ?_
  refine (s312 (a := 68) rfl rfl (by decide) (by decide)).trans (ite_some (fun _ => ?_) (fun _ => ?_))
  · exact s317 (a := 90) rfl rfl
  · refine (s303 (a := 69) rfl rfl (by decide)).trans ?_
    refine (s301 (a := 70) rfl rfl).trans ?_
    refine (s301 (a := 71) rfl rfl).trans ?_
    refine (sU2 (a := 72) rfl rfl (by decide)).trans ?_
    refine (s301 (a := 73) rfl rfl).trans ?_
    refine (sU2 (a := 74) rfl rfl (by decide)).trans ?_
    refine (s301 (a := 75) rfl rfl).trans ?_
    refine (sU2 (a := 76) rfl rfl (by decide)).trans ?_
    refine (s300 (a := 77) rfl rfl).trans ?_
    refine (sU2 (a := 78) rfl rfl (by decide)).trans ?_
    refine (sU1 (a := 79) rfl rfl (by decide)).trans ?_
    refine (sU2 (a := 80) rfl rfl (by decide)).trans ?_
    refine (s313 (a := 81) rfl rfl (by decide)).trans ?_
    refine (s302 (a := 82) rfl rfl (by decide) (updL_s _ _ _)).trans ?_
    refine (sU1 (a := 83) rfl rfl (by decide)).trans ?_
    refine (s300 (a := 84) rfl rfl).trans ?_
    refine (sU2 (a := 85) rfl rfl (by decide)).trans ?_
    refine (s312 (a := 86) rfl rfl (by decide) (by decide)).trans (ite_some (fun _ => ?_) (fun _ => ?_))
    · refine (s302 (a := 88) rfl rfl (by decide) (updL_s _ _ _)).trans ?_
      refine (s314 (a := 89) rfl rfl (by decide)).trans ?_
      exact s317 (a := 90) rfl rfl
    · exact s316 (a := 87) rfl rfl
theorem ev_5 (w : Int64) (l : Nat → Int64) (R : Nat → Nat → Int64) (f : Nat → Bool) : rn (eW rS w) LSx 64 91 [] (l, R, f) = some (if u2 129 (nJ 32) ((R) 1 (gatV w (nJ 1015808)).toBitVec.toNat) ((R) 1 (gatV w (nJ 32505856)).toBitVec.toNat) = 0 then (0, (l, R, f)) else if u2 129 (nJ 2) (u1 308 (nJ 512) (u2 43 (nJ 32) ((R) 0 0) (u1 310 (nJ 8205) (u2 309 (nJ 1) (u2 309 (nJ 4) (u2 309 (nJ 6) (u2 309 (nJ 1) (gatV w (nJ 2147483648)) (gatV w (nJ 128))) (gatV w (nJ 2113929216))) (gatV w (nJ 3840))) (nJ 0))))) (nJ 0) = 0 then (0, (updL (l) 0 (u2 43 (nJ 32) ((R) 0 0) (u1 310 (nJ 8205) (u2 309 (nJ 1) (u2 309 (nJ 4) (u2 309 (nJ 6) (u2 309 (nJ 1) (gatV w (nJ 2147483648)) (gatV w (nJ 128))) (gatV w (nJ 2113929216))) (gatV w (nJ 3840))) (nJ 0)))), wrT (eW rS w) 0 0 (u2 43 (nJ 32) ((R) 0 0) (u1 310 (nJ 8205) (u2 309 (nJ 1) (u2 309 (nJ 4) (u2 309 (nJ 6) (u2 309 (nJ 1) (gatV w (nJ 2147483648)) (gatV w (nJ 128))) (gatV w (nJ 2113929216))) (gatV w (nJ 3840))) (nJ 0)))) (R), updF (f) 0)) else ((nJ 1).toInt32, (updL (l) 0 (u2 43 (nJ 32) ((R) 0 0) (u1 310 (nJ 8205) (u2 309 (nJ 1) (u2 309 (nJ 4) (u2 309 (nJ 6) (u2 309 (nJ 1) (gatV w (nJ 2147483648)) (gatV w (nJ 128))) (gatV w (nJ 2113929216))) (gatV w (nJ 3840))) (nJ 0)))), R, f))) := by
  refine (s301 (a := 91) rfl rfl).trans ?_
  refine (s304 (a := 92) rfl rfl (by decide)).trans ((if_pos (g5_1015808 w)).trans ?_)
  refine (s301 (a := 93) rfl rfl).trans ?_
  refine (s304 (a := 94) rfl rfl (by decide)).trans ((if_pos (g5_32505856 w)).trans ?_)
  refine (sU2 (a := 95) rfl rfl (by decide)).trans ?_
  refine (s312 (a := 96) rfl rfl (by decide) (by decide)).trans (ite_some (fun _ => ?_) (fun _ => ?_))
  · exact s317 (a := 118) rfl rfl
  · refine (s303 (a := 97) rfl rfl (by decide)).trans ?_
    refine (s301 (a := 98) rfl rfl).trans ?_
    refine (s301 (a := 99) rfl rfl).trans ?_
    refine (sU2 (a := 100) rfl rfl (by decide)).trans ?_
    refine (s301 (a := 101) rfl rfl).trans ?_
    refine (sU2 (a := 102) rfl rfl (by decide)).trans ?_
    refine (s301 (a := 103) rfl rfl).trans ?_
    refine (sU2 (a := 104) rfl rfl (by decide)).trans ?_
    refine (s300 (a := 105) rfl rfl).trans ?_
    refine (sU2 (a := 106) rfl rfl (by decide)).trans ?_
    refine (sU1 (a := 107) rfl rfl (by decide)).trans ?_
    refine (sU2 (a := 108) rfl rfl (by decide)).trans ?_
    refine (s313 (a := 109) rfl rfl (by decide)).trans ?_
    refine (s302 (a := 110) rfl rfl (by decide) (updL_s _ _ _)).trans ?_
    refine (sU1 (a := 111) rfl rfl (by decide)).trans ?_
    refine (s300 (a := 112) rfl rfl).trans ?_
    refine (sU2 (a := 113) rfl rfl (by decide)).trans ?_
    refine (s312 (a := 114) rfl rfl (by decide) (by decide)).trans (ite_some (fun _ => ?_) (fun _ => ?_))
    · refine (s302 (a := 116) rfl rfl (by decide) (updL_s _ _ _)).trans ?_
      refine (s314 (a := 117) rfl rfl (by decide)).trans ?_
      exact s317 (a := 118) rfl rfl
    · exact s316 (a := 115) rfl rfl
theorem ev_6 (w : Int64) (l : Nat → Int64) (R : Nat → Nat → Int64) (f : Nat → Bool) : rn (eW rS w) LSx 64 119 [] (l, R, f) = some (if u2 213 (nJ 32) ((R) 1 (gatV w (nJ 1015808)).toBitVec.toNat) ((R) 1 (gatV w (nJ 32505856)).toBitVec.toNat) = 0 then (0, (l, R, f)) else if u2 129 (nJ 2) (u1 308 (nJ 512) (u2 43 (nJ 32) ((R) 0 0) (u1 310 (nJ 8205) (u2 309 (nJ 1) (u2 309 (nJ 4) (u2 309 (nJ 6) (u2 309 (nJ 1) (gatV w (nJ 2147483648)) (gatV w (nJ 128))) (gatV w (nJ 2113929216))) (gatV w (nJ 3840))) (nJ 0))))) (nJ 0) = 0 then (0, (updL (l) 0 (u2 43 (nJ 32) ((R) 0 0) (u1 310 (nJ 8205) (u2 309 (nJ 1) (u2 309 (nJ 4) (u2 309 (nJ 6) (u2 309 (nJ 1) (gatV w (nJ 2147483648)) (gatV w (nJ 128))) (gatV w (nJ 2113929216))) (gatV w (nJ 3840))) (nJ 0)))), wrT (eW rS w) 0 0 (u2 43 (nJ 32) ((R) 0 0) (u1 310 (nJ 8205) (u2 309 (nJ 1) (u2 309 (nJ 4) (u2 309 (nJ 6) (u2 309 (nJ 1) (gatV w (nJ 2147483648)) (gatV w (nJ 128))) (gatV w (nJ 2113929216))) (gatV w (nJ 3840))) (nJ 0)))) (R), updF (f) 0)) else ((nJ 1).toInt32, (updL (l) 0 (u2 43 (nJ 32) ((R) 0 0) (u1 310 (nJ 8205) (u2 309 (nJ 1) (u2 309 (nJ 4) (u2 309 (nJ 6) (u2 309 (nJ 1) (gatV w (nJ 2147483648)) (gatV w (nJ 128))) (gatV w (nJ 2113929216))) (gatV w (nJ 3840))) (nJ 0)))), R, f))) := by
  refine (s301 (a := 119) rfl rfl).trans ?_
  refine (s304 (a := 120) rfl rfl (by decide)).trans ((if_pos (g5_1015808 w)).trans ?_)
  refine (s301 (a := 121) rfl rfl).trans ?_
  refine (s304 (a := 122) rfl rfl (by decide)).trans ((if_pos (g5_32505856 w)).trans ?_)
  refine (sU2 (a := 123) rfl rfl (by decide)).trans ?_
  refine (s312 (a := 124) rfl rfl (by decide) (by decide)).trans (ite_some (fun _ => ?_) (fun _ => ?_))
  · exact s317 (a := 146) rfl rfl
  · refine (s303 (a := 125) rfl rfl (by decide)).trans ?_
    refine (s301 (a := 126) rfl rfl).trans ?_
    refine (s301 (a := 127) rfl rfl).trans ?_
    refine (sU2 (a := 128) rfl rfl (by decide)).trans ?_
    refine (s301 (a := 129) rfl rfl).trans ?_
    refine (sU2 (a := 130) rfl rfl (by decide)).trans ?_
    refine (s301 (a := 131) rfl rfl).trans ?_
    refine (sU2 (a := 132) rfl rfl (by decide)).trans ?_
    refine (s300 (a := 133) rfl rfl).trans ?_
    refine (sU2 (a := 134) rfl rfl (by decide)).trans ?_
    refine (sU1 (a := 135) rfl rfl (by decide)).trans ?_
    refine (sU2 (a := 136) rfl rfl (by decide)).trans ?_
    refine (s313 (a := 137) rfl rfl (by decide)).trans ?_
    refine (s302 (a := 138) rfl rfl (by decide) (updL_s _ _ _)).trans ?_
    refine (sU1 (a := 139) rfl rfl (by decide)).trans ?_
    refine (s300 (a := 140) rfl rfl).trans ?_
    refine (sU2 (a := 141) rfl rfl (by decide)).trans ?_
    refine (s312 (a := 142) rfl rfl (by decide) (by decide)).trans (ite_some (fun _ => ?_) (fun _ => ?_))
    · refine (s302 (a := 144) rfl rfl (by decide) (updL_s _ _ _)).trans ?_
      refine (s314 (a := 145) rfl rfl (by decide)).trans ?_
      exact s317 (a := 146) rfl rfl
    · exact s316 (a := 143) rfl rfl
theorem ev_7 (w : Int64) (l : Nat → Int64) (R : Nat → Nat → Int64) (f : Nat → Bool) : rn (eW rS w) LSx 64 147 [] (l, R, f) = some (if u1 307 (nJ 1) (u2 213 (nJ 32) ((R) 1 (gatV w (nJ 1015808)).toBitVec.toNat) ((R) 1 (gatV w (nJ 32505856)).toBitVec.toNat)) = 0 then (0, (l, R, f)) else if u2 129 (nJ 2) (u1 308 (nJ 512) (u2 43 (nJ 32) ((R) 0 0) (u1 310 (nJ 8205) (u2 309 (nJ 1) (u2 309 (nJ 4) (u2 309 (nJ 6) (u2 309 (nJ 1) (gatV w (nJ 2147483648)) (gatV w (nJ 128))) (gatV w (nJ 2113929216))) (gatV w (nJ 3840))) (nJ 0))))) (nJ 0) = 0 then (0, (updL (l) 0 (u2 43 (nJ 32) ((R) 0 0) (u1 310 (nJ 8205) (u2 309 (nJ 1) (u2 309 (nJ 4) (u2 309 (nJ 6) (u2 309 (nJ 1) (gatV w (nJ 2147483648)) (gatV w (nJ 128))) (gatV w (nJ 2113929216))) (gatV w (nJ 3840))) (nJ 0)))), wrT (eW rS w) 0 0 (u2 43 (nJ 32) ((R) 0 0) (u1 310 (nJ 8205) (u2 309 (nJ 1) (u2 309 (nJ 4) (u2 309 (nJ 6) (u2 309 (nJ 1) (gatV w (nJ 2147483648)) (gatV w (nJ 128))) (gatV w (nJ 2113929216))) (gatV w (nJ 3840))) (nJ 0)))) (R), updF (f) 0)) else ((nJ 1).toInt32, (updL (l) 0 (u2 43 (nJ 32) ((R) 0 0) (u1 310 (nJ 8205) (u2 309 (nJ 1) (u2 309 (nJ 4) (u2 309 (nJ 6) (u2 309 (nJ 1) (gatV w (nJ 2147483648)) (gatV w (nJ 128))) (gatV w (nJ 2113929216))) (gatV w (nJ 3840))) (nJ 0)))), R, f))) := by
  refine (s301 (a := 147) rfl rfl).trans ?_
  refine (s304 (a := 148) rfl rfl (by decide)).trans ((if_pos (g5_1015808 w)).trans ?_)
  refine (s301 (a := 149) rfl rfl).trans ?_
  refine (s304 (a := 150) rfl rfl (by decide)).trans ((if_pos (g5_32505856 w)).trans ?_)
  refine (sU2 (a := 151) rfl rfl (by decide)).trans ?_
  refine (sU1 (a := 152) rfl rfl (by decide)).trans ?_
  refine (s312 (a := 153) rfl rfl (by decide) (by decide)).trans (ite_some (fun _ => ?_) (fun _ => ?_))
  · exact s317 (a := 175) rfl rfl
  · refine (s303 (a := 154) rfl rfl (by decide)).trans ?_
    refine (s301 (a := 155) rfl rfl).trans ?_
    refine (s301 (a := 156) rfl rfl).trans ?_
    refine (sU2 (a := 157) rfl rfl (by decide)).trans ?_
    refine (s301 (a := 158) rfl rfl).trans ?_
    refine (sU2 (a := 159) rfl rfl (by decide)).trans ?_
    refine (s301 (a := 160) rfl rfl).trans ?_
    refine (sU2 (a := 161) rfl rfl (by decide)).trans ?_
    refine (s300 (a := 162) rfl rfl).trans ?_
    refine (sU2 (a := 163) rfl rfl (by decide)).trans ?_
    refine (sU1 (a := 164) rfl rfl (by decide)).trans ?_
    refine (sU2 (a := 165) rfl rfl (by decide)).trans ?_
    refine (s313 (a := 166) rfl rfl (by decide)).trans ?_
    refine (s302 (a := 167) rfl rfl (by decide) (updL_s _ _ _)).trans ?_
    refine (sU1 (a := 168) rfl rfl (by decide)).trans ?_
    refine (s300 (a := 169) rfl rfl).trans ?_
    refine (sU2 (a := 170) rfl rfl (by decide)).trans ?_
    refine (s312 (a := 171) rfl rfl (by decide) (by decide)).trans (ite_some (fun _ => ?_) (fun _ => ?_))
    · refine (s302 (a := 173) rfl rfl (by decide) (updL_s _ _ _)).trans ?_
      refine (s314 (a := 174) rfl rfl (by decide)).trans ?_
      exact s317 (a := 175) rfl rfl
    · exact s316 (a := 172) rfl rfl
theorem ev_8 (w : Int64) (l : Nat → Int64) (R : Nat → Nat → Int64) (f : Nat → Bool) : rn (eW rS w) LSx 64 176 [] (l, R, f) = some (if u2 60 (nJ 32) ((R) 1 (gatV w (nJ 1015808)).toBitVec.toNat) ((R) 1 (gatV w (nJ 32505856)).toBitVec.toNat) = 0 then (0, (l, R, f)) else if u2 129 (nJ 2) (u1 308 (nJ 512) (u2 43 (nJ 32) ((R) 0 0) (u1 310 (nJ 8205) (u2 309 (nJ 1) (u2 309 (nJ 4) (u2 309 (nJ 6) (u2 309 (nJ 1) (gatV w (nJ 2147483648)) (gatV w (nJ 128))) (gatV w (nJ 2113929216))) (gatV w (nJ 3840))) (nJ 0))))) (nJ 0) = 0 then (0, (updL (l) 0 (u2 43 (nJ 32) ((R) 0 0) (u1 310 (nJ 8205) (u2 309 (nJ 1) (u2 309 (nJ 4) (u2 309 (nJ 6) (u2 309 (nJ 1) (gatV w (nJ 2147483648)) (gatV w (nJ 128))) (gatV w (nJ 2113929216))) (gatV w (nJ 3840))) (nJ 0)))), wrT (eW rS w) 0 0 (u2 43 (nJ 32) ((R) 0 0) (u1 310 (nJ 8205) (u2 309 (nJ 1) (u2 309 (nJ 4) (u2 309 (nJ 6) (u2 309 (nJ 1) (gatV w (nJ 2147483648)) (gatV w (nJ 128))) (gatV w (nJ 2113929216))) (gatV w (nJ 3840))) (nJ 0)))) (R), updF (f) 0)) else ((nJ 1).toInt32, (updL (l) 0 (u2 43 (nJ 32) ((R) 0 0) (u1 310 (nJ 8205) (u2 309 (nJ 1) (u2 309 (nJ 4) (u2 309 (nJ 6) (u2 309 (nJ 1) (gatV w (nJ 2147483648)) (gatV w (nJ 128))) (gatV w (nJ 2113929216))) (gatV w (nJ 3840))) (nJ 0)))), R, f))) := by
  refine (s301 (a := 176) rfl rfl).trans ?_
  refine (s304 (a := 177) rfl rfl (by decide)).trans ((if_pos (g5_1015808 w)).trans ?_)
  refine (s301 (a := 178) rfl rfl).trans ?_
  refine (s304 (a := 179) rfl rfl (by decide)).trans ((if_pos (g5_32505856 w)).trans ?_)
  refine (sU2 (a := 180) rfl rfl (by decide)).trans ?_
  refine (s312 (a := 181) rfl rfl (by decide) (by decide)).trans (ite_some (fun _ => ?_) (fun _ => ?_))
  · exact s317 (a := 203) rfl rfl
  · refine (s303 (a := 182) rfl rfl (by decide)).trans ?_
    refine (s301 (a := 183) rfl rfl).trans ?_
    refine (s301 (a := 184) rfl rfl).trans ?_
    refine (sU2 (a := 185) rfl rfl (by decide)).trans ?_
    refine (s301 (a := 186) rfl rfl).trans ?_
    refine (sU2 (a := 187) rfl rfl (by decide)).trans ?_
    refine (s301 (a := 188) rfl rfl).trans ?_
    refine (sU2 (a := 189) rfl rfl (by decide)).trans ?_
    refine (s300 (a := 190) rfl rfl).trans ?_
    refine (sU2 (a := 191) rfl rfl (by decide)).trans ?_
    refine (sU1 (a := 192) rfl rfl (by decide)).trans ?_
    refine (sU2 (a := 193) rfl rfl (by decide)).trans ?_
    refine (s313 (a := 194) rfl rfl (by decide)).trans ?_
    refine (s302 (a := 195) rfl rfl (by decide) (updL_s _ _ _)).trans ?_
    refine (sU1 (a := 196) rfl rfl (by decide)).trans ?_
    refine (s300 (a := 197) rfl rfl).trans ?_
    refine (sU2 (a := 198) rfl rfl (by decide)).trans ?_
    refine (s312 (a := 199) rfl rfl (by decide) (by decide)).trans (ite_some (fun _ => ?_) (fun _ => ?_))
    · refine (s302 (a := 201) rfl rfl (by decide) (updL_s _ _ _)).trans ?_
      refine (s314 (a := 202) rfl rfl (by decide)).trans ?_
      exact s317 (a := 203) rfl rfl
    · exact s316 (a := 200) rfl rfl
theorem ev_9 (w : Int64) (l : Nat → Int64) (R : Nat → Nat → Int64) (f : Nat → Bool) : rn (eW rS w) LSx 64 204 [] (l, R, f) = some (if u2 130 (nJ 32) ((R) 1 (gatV w (nJ 32505856)).toBitVec.toNat) ((R) 1 (gatV w (nJ 1015808)).toBitVec.toNat) = 0 then (0, (l, R, f)) else if u2 129 (nJ 2) (u1 308 (nJ 512) (u2 43 (nJ 32) ((R) 0 0) (u1 310 (nJ 8205) (u2 309 (nJ 1) (u2 309 (nJ 4) (u2 309 (nJ 6) (u2 309 (nJ 1) (gatV w (nJ 2147483648)) (gatV w (nJ 128))) (gatV w (nJ 2113929216))) (gatV w (nJ 3840))) (nJ 0))))) (nJ 0) = 0 then (0, (updL (l) 0 (u2 43 (nJ 32) ((R) 0 0) (u1 310 (nJ 8205) (u2 309 (nJ 1) (u2 309 (nJ 4) (u2 309 (nJ 6) (u2 309 (nJ 1) (gatV w (nJ 2147483648)) (gatV w (nJ 128))) (gatV w (nJ 2113929216))) (gatV w (nJ 3840))) (nJ 0)))), wrT (eW rS w) 0 0 (u2 43 (nJ 32) ((R) 0 0) (u1 310 (nJ 8205) (u2 309 (nJ 1) (u2 309 (nJ 4) (u2 309 (nJ 6) (u2 309 (nJ 1) (gatV w (nJ 2147483648)) (gatV w (nJ 128))) (gatV w (nJ 2113929216))) (gatV w (nJ 3840))) (nJ 0)))) (R), updF (f) 0)) else ((nJ 1).toInt32, (updL (l) 0 (u2 43 (nJ 32) ((R) 0 0) (u1 310 (nJ 8205) (u2 309 (nJ 1) (u2 309 (nJ 4) (u2 309 (nJ 6) (u2 309 (nJ 1) (gatV w (nJ 2147483648)) (gatV w (nJ 128))) (gatV w (nJ 2113929216))) (gatV w (nJ 3840))) (nJ 0)))), R, f))) := by
  refine (s301 (a := 204) rfl rfl).trans ?_
  refine (s304 (a := 205) rfl rfl (by decide)).trans ((if_pos (g5_32505856 w)).trans ?_)
  refine (s301 (a := 206) rfl rfl).trans ?_
  refine (s304 (a := 207) rfl rfl (by decide)).trans ((if_pos (g5_1015808 w)).trans ?_)
  refine (sU2 (a := 208) rfl rfl (by decide)).trans ?_
  refine (s312 (a := 209) rfl rfl (by decide) (by decide)).trans (ite_some (fun _ => ?_) (fun _ => ?_))
  · exact s317 (a := 231) rfl rfl
  · refine (s303 (a := 210) rfl rfl (by decide)).trans ?_
    refine (s301 (a := 211) rfl rfl).trans ?_
    refine (s301 (a := 212) rfl rfl).trans ?_
    refine (sU2 (a := 213) rfl rfl (by decide)).trans ?_
    refine (s301 (a := 214) rfl rfl).trans ?_
    refine (sU2 (a := 215) rfl rfl (by decide)).trans ?_
    refine (s301 (a := 216) rfl rfl).trans ?_
    refine (sU2 (a := 217) rfl rfl (by decide)).trans ?_
    refine (s300 (a := 218) rfl rfl).trans ?_
    refine (sU2 (a := 219) rfl rfl (by decide)).trans ?_
    refine (sU1 (a := 220) rfl rfl (by decide)).trans ?_
    refine (sU2 (a := 221) rfl rfl (by decide)).trans ?_
    refine (s313 (a := 222) rfl rfl (by decide)).trans ?_
    refine (s302 (a := 223) rfl rfl (by decide) (updL_s _ _ _)).trans ?_
    refine (sU1 (a := 224) rfl rfl (by decide)).trans ?_
    refine (s300 (a := 225) rfl rfl).trans ?_
    refine (sU2 (a := 226) rfl rfl (by decide)).trans ?_
    refine (s312 (a := 227) rfl rfl (by decide) (by decide)).trans (ite_some (fun _ => ?_) (fun _ => ?_))
    · refine (s302 (a := 229) rfl rfl (by decide) (updL_s _ _ _)).trans ?_
      refine (s314 (a := 230) rfl rfl (by decide)).trans ?_
      exact s317 (a := 231) rfl rfl
    · exact s316 (a := 228) rfl rfl
theorem ev_10 (w : Int64) (l : Nat → Int64) (R : Nat → Nat → Int64) (f : Nat → Bool) : rn (eW rS w) LSx 64 232 [] (l, R, f) = some (if (u2 43 (nJ 32) ((R) 1 (gatV w (nJ 1015808)).toBitVec.toNat) (u1 310 (nJ 8204) (gatV w (nJ 4293918720)))).toBitVec.toNat < 32768 then (0, (updL (l) 0 (u2 43 (nJ 32) ((R) 1 (gatV w (nJ 1015808)).toBitVec.toNat) (u1 310 (nJ 8204) (gatV w (nJ 4293918720)))), wrT (eW rS w) 1 (gatV w (nJ 3968)).toBitVec.toNat (u1 310 (nJ 8200) ((R) 2 (u2 43 (nJ 32) ((R) 1 (gatV w (nJ 1015808)).toBitVec.toNat) (u1 310 (nJ 8204) (gatV w (nJ 4293918720)))).toBitVec.toNat)) (R), f)) else (-3, (updL (l) 0 (u2 43 (nJ 32) ((R) 1 (gatV w (nJ 1015808)).toBitVec.toNat) (u1 310 (nJ 8204) (gatV w (nJ 4293918720)))), R, f))) := by
  refine (s301 (a := 232) rfl rfl).trans ?_
  refine (s304 (a := 233) rfl rfl (by decide)).trans ((if_pos (g5_1015808 w)).trans ?_)
  refine (s301 (a := 234) rfl rfl).trans ?_
  refine (sU1 (a := 235) rfl rfl (by decide)).trans ?_
  refine (sU2 (a := 236) rfl rfl (by decide)).trans ?_
  refine (s313 (a := 237) rfl rfl (by decide)).trans ?_
  refine (s301 (a := 238) rfl rfl).trans ?_
  refine (s302 (a := 239) rfl rfl (by decide) (updL_s _ _ _)).trans ?_
  refine (s304 (a := 240) rfl rfl (by decide)).trans (ite_some (fun _ => ?_) (fun _ => rfl))
  refine (sU1 (a := 241) rfl rfl (by decide)).trans ?_
  refine (s315 (a := 242) rfl rfl (by decide)).trans ((if_pos (g5_3968 w)).trans ?_)
  exact s317 (a := 243) rfl rfl
theorem ev_11 (w : Int64) (l : Nat → Int64) (R : Nat → Nat → Int64) (f : Nat → Bool) : rn (eW rS w) LSx 64 244 [] (l, R, f) = some (if (u2 43 (nJ 32) (u2 43 (nJ 32) ((R) 1 (gatV w (nJ 1015808)).toBitVec.toNat) (u1 310 (nJ 8204) (gatV w (nJ 4293918720)))) (nJ 1)).toBitVec.toNat < 32768 then if (u2 43 (nJ 32) ((R) 1 (gatV w (nJ 1015808)).toBitVec.toNat) (u1 310 (nJ 8204) (gatV w (nJ 4293918720)))).toBitVec.toNat < 32768 then (0, (updL (l) 0 (u2 43 (nJ 32) ((R) 1 (gatV w (nJ 1015808)).toBitVec.toNat) (u1 310 (nJ 8204) (gatV w (nJ 4293918720)))), wrT (eW rS w) 1 (gatV w (nJ 3968)).toBitVec.toNat (u1 310 (nJ 8208) (u2 309 (nJ 8) ((R) 2 (u2 43 (nJ 32) (u2 43 (nJ 32) ((R) 1 (gatV w (nJ 1015808)).toBitVec.toNat) (u1 310 (nJ 8204) (gatV w (nJ 4293918720)))) (nJ 1)).toBitVec.toNat) ((R) 2 (u2 43 (nJ 32) ((R) 1 (gatV w (nJ 1015808)).toBitVec.toNat) (u1 310 (nJ 8204) (gatV w (nJ 4293918720)))).toBitVec.toNat))) (R), f)) else (-3, (updL (l) 0 (u2 43 (nJ 32) ((R) 1 (gatV w (nJ 1015808)).toBitVec.toNat) (u1 310 (nJ 8204) (gatV w (nJ 4293918720)))), R, f)) else (-3, (updL (l) 0 (u2 43 (nJ 32) ((R) 1 (gatV w (nJ 1015808)).toBitVec.toNat) (u1 310 (nJ 8204) (gatV w (nJ 4293918720)))), R, f))) := by
  refine (s301 (a := 244) rfl rfl).trans ?_
  refine (s304 (a := 245) rfl rfl (by decide)).trans ((if_pos (g5_1015808 w)).trans ?_)
  refine (s301 (a := 246) rfl rfl).trans ?_
  refine (sU1 (a := 247) rfl rfl (by decide)).trans ?_
  refine (sU2 (a := 248) rfl rfl (by decide)).trans ?_
  refine (s313 (a := 249) rfl rfl (by decide)).trans ?_
  refine (s301 (a := 250) rfl rfl).trans ?_
  refine (s302 (a := 251) rfl rfl (by decide) (updL_s _ _ _)).trans ?_
  refine (s300 (a := 252) rfl rfl).trans ?_
  refine (sU2 (a := 253) rfl rfl (by decide)).trans ?_
  refine (s304 (a := 254) rfl rfl (by decide)).trans (ite_some (fun _ => ?_) (fun _ => rfl))
  refine (s302 (a := 255) rfl rfl (by decide) (updL_s _ _ _)).trans ?_
  refine (s304 (a := 256) rfl rfl (by decide)).trans (ite_some (fun _ => ?_) (fun _ => rfl))
  refine (sU2 (a := 257) rfl rfl (by decide)).trans ?_
  refine (sU1 (a := 258) rfl rfl (by decide)).trans ?_
  refine (s315 (a := 259) rfl rfl (by decide)).trans ((if_pos (g5_3968 w)).trans ?_)
  exact s317 (a := 260) rfl rfl
theorem ev_12 (w : Int64) (l : Nat → Int64) (R : Nat → Nat → Int64) (f : Nat → Bool) : rn (eW rS w) LSx 64 261 [] (l, R, f) = some (if (u2 43 (nJ 32) (u2 43 (nJ 32) ((R) 1 (gatV w (nJ 1015808)).toBitVec.toNat) (u1 310 (nJ 8204) (gatV w (nJ 4293918720)))) (nJ 3)).toBitVec.toNat < 32768 then if (u2 43 (nJ 32) (u2 43 (nJ 32) ((R) 1 (gatV w (nJ 1015808)).toBitVec.toNat) (u1 310 (nJ 8204) (gatV w (nJ 4293918720)))) (nJ 2)).toBitVec.toNat < 32768 then if (u2 43 (nJ 32) (u2 43 (nJ 32) ((R) 1 (gatV w (nJ 1015808)).toBitVec.toNat) (u1 310 (nJ 8204) (gatV w (nJ 4293918720)))) (nJ 1)).toBitVec.toNat < 32768 then if (u2 43 (nJ 32) ((R) 1 (gatV w (nJ 1015808)).toBitVec.toNat) (u1 310 (nJ 8204) (gatV w (nJ 4293918720)))).toBitVec.toNat < 32768 then (0, (updL (l) 0 (u2 43 (nJ 32) ((R) 1 (gatV w (nJ 1015808)).toBitVec.toNat) (u1 310 (nJ 8204) (gatV w (nJ 4293918720)))), wrT (eW rS w) 1 (gatV w (nJ 3968)).toBitVec.toNat (u2 309 (nJ 8) (u2 309 (nJ 8) (u2 309 (nJ 8) ((R) 2 (u2 43 (nJ 32) (u2 43 (nJ 32) ((R) 1 (gatV w (nJ 1015808)).toBitVec.toNat) (u1 310 (nJ 8204) (gatV w (nJ 4293918720)))) (nJ 3)).toBitVec.toNat) ((R) 2 (u2 43 (nJ 32) (u2 43 (nJ 32) ((R) 1 (gatV w (nJ 1015808)).toBitVec.toNat) (u1 310 (nJ 8204) (gatV w (nJ 4293918720)))) (nJ 2)).toBitVec.toNat)) ((R) 2 (u2 43 (nJ 32) (u2 43 (nJ 32) ((R) 1 (gatV w (nJ 1015808)).toBitVec.toNat) (u1 310 (nJ 8204) (gatV w (nJ 4293918720)))) (nJ 1)).toBitVec.toNat)) ((R) 2 (u2 43 (nJ 32) ((R) 1 (gatV w (nJ 1015808)).toBitVec.toNat) (u1 310 (nJ 8204) (gatV w (nJ 4293918720)))).toBitVec.toNat)) (R), f)) else (-3, (updL (l) 0 (u2 43 (nJ 32) ((R) 1 (gatV w (nJ 1015808)).toBitVec.toNat) (u1 310 (nJ 8204) (gatV w (nJ 4293918720)))), R, f)) else (-3, (updL (l) 0 (u2 43 (nJ 32) ((R) 1 (gatV w (nJ 1015808)).toBitVec.toNat) (u1 310 (nJ 8204) (gatV w (nJ 4293918720)))), R, f)) else (-3, (updL (l) 0 (u2 43 (nJ 32) ((R) 1 (gatV w (nJ 1015808)).toBitVec.toNat) (u1 310 (nJ 8204) (gatV w (nJ 4293918720)))), R, f)) else (-3, (updL (l) 0 (u2 43 (nJ 32) ((R) 1 (gatV w (nJ 1015808)).toBitVec.toNat) (u1 310 (nJ 8204) (gatV w (nJ 4293918720)))), R, f))) := by
  refine (s301 (a := 261) rfl rfl).trans ?_
  refine (s304 (a := 262) rfl rfl (by decide)).trans ((if_pos (g5_1015808 w)).trans ?_)
  refine (s301 (a := 263) rfl rfl).trans ?_
  refine (sU1 (a := 264) rfl rfl (by decide)).trans ?_
  refine (sU2 (a := 265) rfl rfl (by decide)).trans ?_
  refine (s313 (a := 266) rfl rfl (by decide)).trans ?_
  refine (s301 (a := 267) rfl rfl).trans ?_
  refine (s302 (a := 268) rfl rfl (by decide) (updL_s _ _ _)).trans ?_
  refine (s300 (a := 269) rfl rfl).trans ?_
  refine (sU2 (a := 270) rfl rfl (by decide)).trans ?_
  refine (s304 (a := 271) rfl rfl (by decide)).trans (ite_some (fun _ => ?_) (fun _ => rfl))
  refine (s302 (a := 272) rfl rfl (by decide) (updL_s _ _ _)).trans ?_
  refine (s300 (a := 273) rfl rfl).trans ?_
  refine (sU2 (a := 274) rfl rfl (by decide)).trans ?_
  refine (s304 (a := 275) rfl rfl (by decide)).trans (ite_some (fun _ => ?_) (fun _ => rfl))
  refine (sU2 (a := 276) rfl rfl (by decide)).trans ?_
  refine (s302 (a := 277) rfl rfl (by decide) (updL_s _ _ _)).trans ?_
  refine (s300 (a := 278) rfl rfl).trans ?_
  refine (sU2 (a := 279) rfl rfl (by decide)).trans ?_
  refine (s304 (a := 280) rfl rfl (by decide)).trans (ite_some (fun _ => ?_) (fun _ => rfl))
  refine (sU2 (a := 281) rfl rfl (by decide)).trans ?_
  refine (s302 (a := 282) rfl rfl (by decide) (updL_s _ _ _)).trans ?_
  refine (s304 (a := 283) rfl rfl (by decide)).trans (ite_some (fun _ => ?_) (fun _ => rfl))
  refine (sU2 (a := 284) rfl rfl (by decide)).trans ?_
  refine (s315 (a := 285) rfl rfl (by decide)).trans ((if_pos (g5_3968 w)).trans ?_)
  exact s317 (a := 286) rfl rfl
theorem ev_13 (w : Int64) (l : Nat → Int64) (R : Nat → Nat → Int64) (f : Nat → Bool) : rn (eW rS w) LSx 64 287 [] (l, R, f) = some (if (u2 43 (nJ 32) ((R) 1 (gatV w (nJ 1015808)).toBitVec.toNat) (u1 310 (nJ 8204) (gatV w (nJ 4293918720)))).toBitVec.toNat < 32768 then (0, (updL (l) 0 (u2 43 (nJ 32) ((R) 1 (gatV w (nJ 1015808)).toBitVec.toNat) (u1 310 (nJ 8204) (gatV w (nJ 4293918720)))), wrT (eW rS w) 1 (gatV w (nJ 3968)).toBitVec.toNat ((R) 2 (u2 43 (nJ 32) ((R) 1 (gatV w (nJ 1015808)).toBitVec.toNat) (u1 310 (nJ 8204) (gatV w (nJ 4293918720)))).toBitVec.toNat) (R), f)) else (-3, (updL (l) 0 (u2 43 (nJ 32) ((R) 1 (gatV w (nJ 1015808)).toBitVec.toNat) (u1 310 (nJ 8204) (gatV w (nJ 4293918720)))), R, f))) := by
  refine (s301 (a := 287) rfl rfl).trans ?_
  refine (s304 (a := 288) rfl rfl (by decide)).trans ((if_pos (g5_1015808 w)).trans ?_)
  refine (s301 (a := 289) rfl rfl).trans ?_
  refine (sU1 (a := 290) rfl rfl (by decide)).trans ?_
  refine (sU2 (a := 291) rfl rfl (by decide)).trans ?_
  refine (s313 (a := 292) rfl rfl (by decide)).trans ?_
  refine (s301 (a := 293) rfl rfl).trans ?_
  refine (s302 (a := 294) rfl rfl (by decide) (updL_s _ _ _)).trans ?_
  refine (s304 (a := 295) rfl rfl (by decide)).trans (ite_some (fun _ => ?_) (fun _ => rfl))
  refine (s315 (a := 296) rfl rfl (by decide)).trans ((if_pos (g5_3968 w)).trans ?_)
  exact s317 (a := 297) rfl rfl
theorem ev_14 (w : Int64) (l : Nat → Int64) (R : Nat → Nat → Int64) (f : Nat → Bool) : rn (eW rS w) LSx 64 298 [] (l, R, f) = some (if (u2 43 (nJ 32) (u2 43 (nJ 32) ((R) 1 (gatV w (nJ 1015808)).toBitVec.toNat) (u1 310 (nJ 8204) (gatV w (nJ 4293918720)))) (nJ 1)).toBitVec.toNat < 32768 then if (u2 43 (nJ 32) ((R) 1 (gatV w (nJ 1015808)).toBitVec.toNat) (u1 310 (nJ 8204) (gatV w (nJ 4293918720)))).toBitVec.toNat < 32768 then (0, (updL (l) 0 (u2 43 (nJ 32) ((R) 1 (gatV w (nJ 1015808)).toBitVec.toNat) (u1 310 (nJ 8204) (gatV w (nJ 4293918720)))), wrT (eW rS w) 1 (gatV w (nJ 3968)).toBitVec.toNat (u2 309 (nJ 8) ((R) 2 (u2 43 (nJ 32) (u2 43 (nJ 32) ((R) 1 (gatV w (nJ 1015808)).toBitVec.toNat) (u1 310 (nJ 8204) (gatV w (nJ 4293918720)))) (nJ 1)).toBitVec.toNat) ((R) 2 (u2 43 (nJ 32) ((R) 1 (gatV w (nJ 1015808)).toBitVec.toNat) (u1 310 (nJ 8204) (gatV w (nJ 4293918720)))).toBitVec.toNat)) (R), f)) else (-3, (updL (l) 0 (u2 43 (nJ 32) ((R) 1 (gatV w (nJ 1015808)).toBitVec.toNat) (u1 310 (nJ 8204) (gatV w (nJ 4293918720)))), R, f)) else (-3, (updL (l) 0 (u2 43 (nJ 32) ((R) 1 (gatV w (nJ 1015808)).toBitVec.toNat) (u1 310 (nJ 8204) (gatV w (nJ 4293918720)))), R, f))) := by
  refine (s301 (a := 298) rfl rfl).trans ?_
  refine (s304 (a := 299) rfl rfl (by decide)).trans ((if_pos (g5_1015808 w)).trans ?_)
  refine (s301 (a := 300) rfl rfl).trans ?_
  refine (sU1 (a := 301) rfl rfl (by decide)).trans ?_
  refine (sU2 (a := 302) rfl rfl (by decide)).trans ?_
  refine (s313 (a := 303) rfl rfl (by decide)).trans ?_
  refine (s301 (a := 304) rfl rfl).trans ?_
  refine (s302 (a := 305) rfl rfl (by decide) (updL_s _ _ _)).trans ?_
  refine (s300 (a := 306) rfl rfl).trans ?_
  refine (sU2 (a := 307) rfl rfl (by decide)).trans ?_
  refine (s304 (a := 308) rfl rfl (by decide)).trans (ite_some (fun _ => ?_) (fun _ => rfl))
  refine (s302 (a := 309) rfl rfl (by decide) (updL_s _ _ _)).trans ?_
  refine (s304 (a := 310) rfl rfl (by decide)).trans (ite_some (fun _ => ?_) (fun _ => rfl))
  refine (sU2 (a := 311) rfl rfl (by decide)).trans ?_
  refine (s315 (a := 312) rfl rfl (by decide)).trans ((if_pos (g5_3968 w)).trans ?_)
  exact s317 (a := 313) rfl rfl
theorem ev_15 (w : Int64) (l : Nat → Int64) (R : Nat → Nat → Int64) (f : Nat → Bool) : rn (eW rS w) LSx 64 314 [] (l, R, f) = some (if (u2 43 (nJ 32) ((R) 1 (gatV w (nJ 1015808)).toBitVec.toNat) (u1 310 (nJ 8204) (u2 309 (nJ 5) (gatV w (nJ 4261412864)) (gatV w (nJ 3968))))).toBitVec.toNat < 32768 then (0, (updL (l) 0 (u2 43 (nJ 32) ((R) 1 (gatV w (nJ 1015808)).toBitVec.toNat) (u1 310 (nJ 8204) (u2 309 (nJ 5) (gatV w (nJ 4261412864)) (gatV w (nJ 3968))))), wrT (eW rS w) 2 (u2 43 (nJ 32) ((R) 1 (gatV w (nJ 1015808)).toBitVec.toNat) (u1 310 (nJ 8204) (u2 309 (nJ 5) (gatV w (nJ 4261412864)) (gatV w (nJ 3968))))).toBitVec.toNat (u1 308 (nJ 2048) ((R) 1 (gatV w (nJ 32505856)).toBitVec.toNat)) (R), f)) else (-3, (updL (l) 0 (u2 43 (nJ 32) ((R) 1 (gatV w (nJ 1015808)).toBitVec.toNat) (u1 310 (nJ 8204) (u2 309 (nJ 5) (gatV w (nJ 4261412864)) (gatV w (nJ 3968))))), R, f))) := by
  refine (s301 (a := 314) rfl rfl).trans ?_
  refine (s304 (a := 315) rfl rfl (by decide)).trans ((if_pos (g5_1015808 w)).trans ?_)
  refine (s301 (a := 316) rfl rfl).trans ?_
  refine (s301 (a := 317) rfl rfl).trans ?_
  refine (sU2 (a := 318) rfl rfl (by decide)).trans ?_
  refine (sU1 (a := 319) rfl rfl (by decide)).trans ?_
  refine (sU2 (a := 320) rfl rfl (by decide)).trans ?_
  refine (s313 (a := 321) rfl rfl (by decide)).trans ?_
  refine (s302 (a := 322) rfl rfl (by decide) (updL_s _ _ _)).trans ?_
  refine (s301 (a := 323) rfl rfl).trans ?_
  refine (s304 (a := 324) rfl rfl (by decide)).trans ((if_pos (g5_32505856 w)).trans ?_)
  refine (sU1 (a := 325) rfl rfl (by decide)).trans ?_
  refine (s315 (a := 326) rfl rfl (by decide)).trans (ite_some (fun _ => ?_) (fun _ => rfl))
  exact s317 (a := 327) rfl rfl
theorem ev_16 (w : Int64) (l : Nat → Int64) (R : Nat → Nat → Int64) (f : Nat → Bool) : rn (eW rS w) LSx 64 328 [] (l, R, f) = some (if (u2 43 (nJ 32) ((R) 1 (gatV w (nJ 1015808)).toBitVec.toNat) (u1 310 (nJ 8204) (u2 309 (nJ 5) (gatV w (nJ 4261412864)) (gatV w (nJ 3968))))).toBitVec.toNat < 32768 then if (u2 43 (nJ 32) (u2 43 (nJ 32) ((R) 1 (gatV w (nJ 1015808)).toBitVec.toNat) (u1 310 (nJ 8204) (u2 309 (nJ 5) (gatV w (nJ 4261412864)) (gatV w (nJ 3968))))) (nJ 1)).toBitVec.toNat < 32768 then (0, (updL (l) 0 (u2 43 (nJ 32) ((R) 1 (gatV w (nJ 1015808)).toBitVec.toNat) (u1 310 (nJ 8204) (u2 309 (nJ 5) (gatV w (nJ 4261412864)) (gatV w (nJ 3968))))), wrT (eW rS w) 2 (u2 43 (nJ 32) (u2 43 (nJ 32) ((R) 1 (gatV w (nJ 1015808)).toBitVec.toNat) (u1 310 (nJ 8204) (u2 309 (nJ 5) (gatV w (nJ 4261412864)) (gatV w (nJ 3968))))) (nJ 1)).toBitVec.toNat (u1 308 (nJ 2056) ((wrT (eW rS w) 2 (u2 43 (nJ 32) ((R) 1 (gatV w (nJ 1015808)).toBitVec.toNat) (u1 310 (nJ 8204) (u2 309 (nJ 5) (gatV w (nJ 4261412864)) (gatV w (nJ 3968))))).toBitVec.toNat (u1 308 (nJ 2048) ((R) 1 (gatV w (nJ 32505856)).toBitVec.toNat)) (R)) 1 (gatV w (nJ 32505856)).toBitVec.toNat)) (wrT (eW rS w) 2 (u2 43 (nJ 32) ((R) 1 (gatV w (nJ 1015808)).toBitVec.toNat) (u1 310 (nJ 8204) (u2 309 (nJ 5) (gatV w (nJ 4261412864)) (gatV w (nJ 3968))))).toBitVec.toNat (u1 308 (nJ 2048) ((R) 1 (gatV w (nJ 32505856)).toBitVec.toNat)) (R)), f)) else (-3, (updL (l) 0 (u2 43 (nJ 32) ((R) 1 (gatV w (nJ 1015808)).toBitVec.toNat) (u1 310 (nJ 8204) (u2 309 (nJ 5) (gatV w (nJ 4261412864)) (gatV w (nJ 3968))))), wrT (eW rS w) 2 (u2 43 (nJ 32) ((R) 1 (gatV w (nJ 1015808)).toBitVec.toNat) (u1 310 (nJ 8204) (u2 309 (nJ 5) (gatV w (nJ 4261412864)) (gatV w (nJ 3968))))).toBitVec.toNat (u1 308 (nJ 2048) ((R) 1 (gatV w (nJ 32505856)).toBitVec.toNat)) (R), f)) else (-3, (updL (l) 0 (u2 43 (nJ 32) ((R) 1 (gatV w (nJ 1015808)).toBitVec.toNat) (u1 310 (nJ 8204) (u2 309 (nJ 5) (gatV w (nJ 4261412864)) (gatV w (nJ 3968))))), R, f))) := by
  refine (s301 (a := 328) rfl rfl).trans ?_
  refine (s304 (a := 329) rfl rfl (by decide)).trans ((if_pos (g5_1015808 w)).trans ?_)
  refine (s301 (a := 330) rfl rfl).trans ?_
  refine (s301 (a := 331) rfl rfl).trans ?_
  refine (sU2 (a := 332) rfl rfl (by decide)).trans ?_
  refine (sU1 (a := 333) rfl rfl (by decide)).trans ?_
  refine (sU2 (a := 334) rfl rfl (by decide)).trans ?_
  refine (s313 (a := 335) rfl rfl (by decide)).trans ?_
  refine (s302 (a := 336) rfl rfl (by decide) (updL_s _ _ _)).trans ?_
  refine (s301 (a := 337) rfl rfl).trans ?_
  refine (s304 (a := 338) rfl rfl (by decide)).trans ((if_pos (g5_32505856 w)).trans ?_)
  refine (sU1 (a := 339) rfl rfl (by decide)).trans ?_
  refine (s315 (a := 340) rfl rfl (by decide)).trans (ite_some (fun _ => ?_) (fun _ => rfl))
  refine (s302 (a := 341) rfl rfl (by decide) (updL_s _ _ _)).trans ?_
  refine (s300 (a := 342) rfl rfl).trans ?_
  refine (sU2 (a := 343) rfl rfl (by decide)).trans ?_
  refine (s301 (a := 344) rfl rfl).trans ?_
  refine (s304 (a := 345) rfl rfl (by decide)).trans ((if_pos (g5_32505856 w)).trans ?_)
  refine (sU1 (a := 346) rfl rfl (by decide)).trans ?_
  refine (s315 (a := 347) rfl rfl (by decide)).trans (ite_some (fun _ => ?_) (fun _ => rfl))
  exact s317 (a := 348) rfl rfl
theorem ev_17 (w : Int64) (l : Nat → Int64) (R : Nat → Nat → Int64) (f : Nat → Bool) : rn (eW rS w) LSx 64 349 [] (l, R, f) = some (if (u2 43 (nJ 32) ((R) 1 (gatV w (nJ 1015808)).toBitVec.toNat) (u1 310 (nJ 8204) (u2 309 (nJ 5) (gatV w (nJ 4261412864)) (gatV w (nJ 3968))))).toBitVec.toNat < 32768 then if (u2 43 (nJ 32) (u2 43 (nJ 32) ((R) 1 (gatV w (nJ 1015808)).toBitVec.toNat) (u1 310 (nJ 8204) (u2 309 (nJ 5) (gatV w (nJ 4261412864)) (gatV w (nJ 3968))))) (nJ 1)).toBitVec.toNat < 32768 then if (u2 43 (nJ 32) (u2 43 (nJ 32) ((R) 1 (gatV w (nJ 1015808)).toBitVec.toNat) (u1 310 (nJ 8204) (u2 309 (nJ 5) (gatV w (nJ 4261412864)) (gatV w (nJ 3968))))) (nJ 2)).toBitVec.toNat < 32768 then if (u2 43 (nJ 32) (u2 43 (nJ 32) ((R) 1 (gatV w (nJ 1015808)).toBitVec.toNat) (u1 310 (nJ 8204) (u2 309 (nJ 5) (gatV w (nJ 4261412864)) (gatV w (nJ 3968))))) (nJ 3)).toBitVec.toNat < 32768 then (0, (updL (l) 0 (u2 43 (nJ 32) ((R) 1 (gatV w (nJ 1015808)).toBitVec.toNat) (u1 310 (nJ 8204) (u2 309 (nJ 5) (gatV w (nJ 4261412864)) (gatV w (nJ 3968))))), wrT (eW rS w) 2 (u2 43 (nJ 32) (u2 43 (nJ 32) ((R) 1 (gatV w (nJ 1015808)).toBitVec.toNat) (u1 310 (nJ 8204) (u2 309 (nJ 5) (gatV w (nJ 4261412864)) (gatV w (nJ 3968))))) (nJ 3)).toBitVec.toNat (u1 308 (nJ 2072) ((wrT (eW rS w) 2 (u2 43 (nJ 32) (u2 43 (nJ 32) ((R) 1 (gatV w (nJ 1015808)).toBitVec.toNat) (u1 310 (nJ 8204) (u2 309 (nJ 5) (gatV w (nJ 4261412864)) (gatV w (nJ 3968))))) (nJ 2)).toBitVec.toNat (u1 308 (nJ 2064) ((wrT (eW rS w) 2 (u2 43 (nJ 32) (u2 43 (nJ 32) ((R) 1 (gatV w (nJ 1015808)).toBitVec.toNat) (u1 310 (nJ 8204) (u2 309 (nJ 5) (gatV w (nJ 4261412864)) (gatV w (nJ 3968))))) (nJ 1)).toBitVec.toNat (u1 308 (nJ 2056) ((wrT (eW rS w) 2 (u2 43 (nJ 32) ((R) 1 (gatV w (nJ 1015808)).toBitVec.toNat) (u1 310 (nJ 8204) (u2 309 (nJ 5) (gatV w (nJ 4261412864)) (gatV w (nJ 3968))))).toBitVec.toNat (u1 308 (nJ 2048) ((R) 1 (gatV w (nJ 32505856)).toBitVec.toNat)) (R)) 1 (gatV w (nJ 32505856)).toBitVec.toNat)) (wrT (eW rS w) 2 (u2 43 (nJ 32) ((R) 1 (gatV w (nJ 1015808)).toBitVec.toNat) (u1 310 (nJ 8204) (u2 309 (nJ 5) (gatV w (nJ 4261412864)) (gatV w (nJ 3968))))).toBitVec.toNat (u1 308 (nJ 2048) ((R) 1 (gatV w (nJ 32505856)).toBitVec.toNat)) (R))) 1 (gatV w (nJ 32505856)).toBitVec.toNat)) (wrT (eW rS w) 2 (u2 43 (nJ 32) (u2 43 (nJ 32) ((R) 1 (gatV w (nJ 1015808)).toBitVec.toNat) (u1 310 (nJ 8204) (u2 309 (nJ 5) (gatV w (nJ 4261412864)) (gatV w (nJ 3968))))) (nJ 1)).toBitVec.toNat (u1 308 (nJ 2056) ((wrT (eW rS w) 2 (u2 43 (nJ 32) ((R) 1 (gatV w (nJ 1015808)).toBitVec.toNat) (u1 310 (nJ 8204) (u2 309 (nJ 5) (gatV w (nJ 4261412864)) (gatV w (nJ 3968))))).toBitVec.toNat (u1 308 (nJ 2048) ((R) 1 (gatV w (nJ 32505856)).toBitVec.toNat)) (R)) 1 (gatV w (nJ 32505856)).toBitVec.toNat)) (wrT (eW rS w) 2 (u2 43 (nJ 32) ((R) 1 (gatV w (nJ 1015808)).toBitVec.toNat) (u1 310 (nJ 8204) (u2 309 (nJ 5) (gatV w (nJ 4261412864)) (gatV w (nJ 3968))))).toBitVec.toNat (u1 308 (nJ 2048) ((R) 1 (gatV w (nJ 32505856)).toBitVec.toNat)) (R)))) 1 (gatV w (nJ 32505856)).toBitVec.toNat)) (wrT (eW rS w) 2 (u2 43 (nJ 32) (u2 43 (nJ 32) ((R) 1 (gatV w (nJ 1015808)).toBitVec.toNat) (u1 310 (nJ 8204) (u2 309 (nJ 5) (gatV w (nJ 4261412864)) (gatV w (nJ 3968))))) (nJ 2)).toBitVec.toNat (u1 308 (nJ 2064) ((wrT (eW rS w) 2 (u2 43 (nJ 32) (u2 43 (nJ 32) ((R) 1 (gatV w (nJ 1015808)).toBitVec.toNat) (u1 310 (nJ 8204) (u2 309 (nJ 5) (gatV w (nJ 4261412864)) (gatV w (nJ 3968))))) (nJ 1)).toBitVec.toNat (u1 308 (nJ 2056) ((wrT (eW rS w) 2 (u2 43 (nJ 32) ((R) 1 (gatV w (nJ 1015808)).toBitVec.toNat) (u1 310 (nJ 8204) (u2 309 (nJ 5) (gatV w (nJ 4261412864)) (gatV w (nJ 3968))))).toBitVec.toNat (u1 308 (nJ 2048) ((R) 1 (gatV w (nJ 32505856)).toBitVec.toNat)) (R)) 1 (gatV w (nJ 32505856)).toBitVec.toNat)) (wrT (eW rS w) 2 (u2 43 (nJ 32) ((R) 1 (gatV w (nJ 1015808)).toBitVec.toNat) (u1 310 (nJ 8204) (u2 309 (nJ 5) (gatV w (nJ 4261412864)) (gatV w (nJ 3968))))).toBitVec.toNat (u1 308 (nJ 2048) ((R) 1 (gatV w (nJ 32505856)).toBitVec.toNat)) (R))) 1 (gatV w (nJ 32505856)).toBitVec.toNat)) (wrT (eW rS w) 2 (u2 43 (nJ 32) (u2 43 (nJ 32) ((R) 1 (gatV w (nJ 1015808)).toBitVec.toNat) (u1 310 (nJ 8204) (u2 309 (nJ 5) (gatV w (nJ 4261412864)) (gatV w (nJ 3968))))) (nJ 1)).toBitVec.toNat (u1 308 (nJ 2056) ((wrT (eW rS w) 2 (u2 43 (nJ 32) ((R) 1 (gatV w (nJ 1015808)).toBitVec.toNat) (u1 310 (nJ 8204) (u2 309 (nJ 5) (gatV w (nJ 4261412864)) (gatV w (nJ 3968))))).toBitVec.toNat (u1 308 (nJ 2048) ((R) 1 (gatV w (nJ 32505856)).toBitVec.toNat)) (R)) 1 (gatV w (nJ 32505856)).toBitVec.toNat)) (wrT (eW rS w) 2 (u2 43 (nJ 32) ((R) 1 (gatV w (nJ 1015808)).toBitVec.toNat) (u1 310 (nJ 8204) (u2 309 (nJ 5) (gatV w (nJ 4261412864)) (gatV w (nJ 3968))))).toBitVec.toNat (u1 308 (nJ 2048) ((R) 1 (gatV w (nJ 32505856)).toBitVec.toNat)) (R)))), f)) else (-3, (updL (l) 0 (u2 43 (nJ 32) ((R) 1 (gatV w (nJ 1015808)).toBitVec.toNat) (u1 310 (nJ 8204) (u2 309 (nJ 5) (gatV w (nJ 4261412864)) (gatV w (nJ 3968))))), wrT (eW rS w) 2 (u2 43 (nJ 32) (u2 43 (nJ 32) ((R) 1 (gatV w (nJ 1015808)).toBitVec.toNat) (u1 310 (nJ 8204) (u2 309 (nJ 5) (gatV w (nJ 4261412864)) (gatV w (nJ 3968))))) (nJ 2)).toBitVec.toNat (u1 308 (nJ 2064) ((wrT (eW rS w) 2 (u2 43 (nJ 32) (u2 43 (nJ 32) ((R) 1 (gatV w (nJ 1015808)).toBitVec.toNat) (u1 310 (nJ 8204) (u2 309 (nJ 5) (gatV w (nJ 4261412864)) (gatV w (nJ 3968))))) (nJ 1)).toBitVec.toNat (u1 308 (nJ 2056) ((wrT (eW rS w) 2 (u2 43 (nJ 32) ((R) 1 (gatV w (nJ 1015808)).toBitVec.toNat) (u1 310 (nJ 8204) (u2 309 (nJ 5) (gatV w (nJ 4261412864)) (gatV w (nJ 3968))))).toBitVec.toNat (u1 308 (nJ 2048) ((R) 1 (gatV w (nJ 32505856)).toBitVec.toNat)) (R)) 1 (gatV w (nJ 32505856)).toBitVec.toNat)) (wrT (eW rS w) 2 (u2 43 (nJ 32) ((R) 1 (gatV w (nJ 1015808)).toBitVec.toNat) (u1 310 (nJ 8204) (u2 309 (nJ 5) (gatV w (nJ 4261412864)) (gatV w (nJ 3968))))).toBitVec.toNat (u1 308 (nJ 2048) ((R) 1 (gatV w (nJ 32505856)).toBitVec.toNat)) (R))) 1 (gatV w (nJ 32505856)).toBitVec.toNat)) (wrT (eW rS w) 2 (u2 43 (nJ 32) (u2 43 (nJ 32) ((R) 1 (gatV w (nJ 1015808)).toBitVec.toNat) (u1 310 (nJ 8204) (u2 309 (nJ 5) (gatV w (nJ 4261412864)) (gatV w (nJ 3968))))) (nJ 1)).toBitVec.toNat (u1 308 (nJ 2056) ((wrT (eW rS w) 2 (u2 43 (nJ 32) ((R) 1 (gatV w (nJ 1015808)).toBitVec.toNat) (u1 310 (nJ 8204) (u2 309 (nJ 5) (gatV w (nJ 4261412864)) (gatV w (nJ 3968))))).toBitVec.toNat (u1 308 (nJ 2048) ((R) 1 (gatV w (nJ 32505856)).toBitVec.toNat)) (R)) 1 (gatV w (nJ 32505856)).toBitVec.toNat)) (wrT (eW rS w) 2 (u2 43 (nJ 32) ((R) 1 (gatV w (nJ 1015808)).toBitVec.toNat) (u1 310 (nJ 8204) (u2 309 (nJ 5) (gatV w (nJ 4261412864)) (gatV w (nJ 3968))))).toBitVec.toNat (u1 308 (nJ 2048) ((R) 1 (gatV w (nJ 32505856)).toBitVec.toNat)) (R))), f)) else (-3, (updL (l) 0 (u2 43 (nJ 32) ((R) 1 (gatV w (nJ 1015808)).toBitVec.toNat) (u1 310 (nJ 8204) (u2 309 (nJ 5) (gatV w (nJ 4261412864)) (gatV w (nJ 3968))))), wrT (eW rS w) 2 (u2 43 (nJ 32) (u2 43 (nJ 32) ((R) 1 (gatV w (nJ 1015808)).toBitVec.toNat) (u1 310 (nJ 8204) (u2 309 (nJ 5) (gatV w (nJ 4261412864)) (gatV w (nJ 3968))))) (nJ 1)).toBitVec.toNat (u1 308 (nJ 2056) ((wrT (eW rS w) 2 (u2 43 (nJ 32) ((R) 1 (gatV w (nJ 1015808)).toBitVec.toNat) (u1 310 (nJ 8204) (u2 309 (nJ 5) (gatV w (nJ 4261412864)) (gatV w (nJ 3968))))).toBitVec.toNat (u1 308 (nJ 2048) ((R) 1 (gatV w (nJ 32505856)).toBitVec.toNat)) (R)) 1 (gatV w (nJ 32505856)).toBitVec.toNat)) (wrT (eW rS w) 2 (u2 43 (nJ 32) ((R) 1 (gatV w (nJ 1015808)).toBitVec.toNat) (u1 310 (nJ 8204) (u2 309 (nJ 5) (gatV w (nJ 4261412864)) (gatV w (nJ 3968))))).toBitVec.toNat (u1 308 (nJ 2048) ((R) 1 (gatV w (nJ 32505856)).toBitVec.toNat)) (R)), f)) else (-3, (updL (l) 0 (u2 43 (nJ 32) ((R) 1 (gatV w (nJ 1015808)).toBitVec.toNat) (u1 310 (nJ 8204) (u2 309 (nJ 5) (gatV w (nJ 4261412864)) (gatV w (nJ 3968))))), wrT (eW rS w) 2 (u2 43 (nJ 32) ((R) 1 (gatV w (nJ 1015808)).toBitVec.toNat) (u1 310 (nJ 8204) (u2 309 (nJ 5) (gatV w (nJ 4261412864)) (gatV w (nJ 3968))))).toBitVec.toNat (u1 308 (nJ 2048) ((R) 1 (gatV w (nJ 32505856)).toBitVec.toNat)) (R), f)) else (-3, (updL (l) 0 (u2 43 (nJ 32) ((R) 1 (gatV w (nJ 1015808)).toBitVec.toNat) (u1 310 (nJ 8204) (u2 309 (nJ 5) (gatV w (nJ 4261412864)) (gatV w (nJ 3968))))), R, f))) := by
  refine (s301 (a := 349) rfl rfl).trans ?_
  refine (s304 (a := 350) rfl rfl (by decide)).trans ((if_pos (g5_1015808 w)).trans ?_)
  refine (s301 (a := 351) rfl rfl).trans ?_
  refine (s301 (a := 352) rfl rfl).trans ?_
  refine (sU2 (a := 353) rfl rfl (by decide)).trans ?_
  refine (sU1 (a := 354) rfl rfl (by decide)).trans ?_
  refine (sU2 (a := 355) rfl rfl (by decide)).trans ?_
  refine (s313 (a := 356) rfl rfl (by decide)).trans ?_
  refine (s302 (a := 357) rfl rfl (by decide) (updL_s _ _ _)).trans ?_
  refine (s301 (a := 358) rfl rfl).trans ?_
  refine (s304 (a := 359) rfl rfl (by decide)).trans ((if_pos (g5_32505856 w)).trans ?_)
  refine (sU1 (a := 360) rfl rfl (by decide)).trans ?_
  refine (s315 (a := 361) rfl rfl (by decide)).trans (ite_some (fun _ => ?_) (fun _ => rfl))
  refine (s302 (a := 362) rfl rfl (by decide) (updL_s _ _ _)).trans ?_
  refine (s300 (a := 363) rfl rfl).trans ?_
  refine (sU2 (a := 364) rfl rfl (by decide)).trans ?_
  refine (s301 (a := 365) rfl rfl).trans ?_
  refine (s304 (a := 366) rfl rfl (by decide)).trans ((if_pos (g5_32505856 w)).trans ?_)
  refine (sU1 (a := 367) rfl rfl (by decide)).trans ?_
  refine (s315 (a := 368) rfl rfl (by decide)).trans (ite_some (fun _ => ?_) (fun _ => rfl))
  refine (s302 (a := 369) rfl rfl (by decide) (updL_s _ _ _)).trans ?_
  refine (s300 (a := 370) rfl rfl).trans ?_
  refine (sU2 (a := 371) rfl rfl (by decide)).trans ?_
  refine (s301 (a := 372) rfl rfl).trans ?_
  refine (s304 (a := 373) rfl rfl (by decide)).trans ((if_pos (g5_32505856 w)).trans ?_)
  refine (sU1 (a := 374) rfl rfl (by decide)).trans ?_
  refine (s315 (a := 375) rfl rfl (by decide)).trans (ite_some (fun _ => ?_) (fun _ => rfl))
  refine (s302 (a := 376) rfl rfl (by decide) (updL_s _ _ _)).trans ?_
  refine (s300 (a := 377) rfl rfl).trans ?_
  refine (sU2 (a := 378) rfl rfl (by decide)).trans ?_
  refine (s301 (a := 379) rfl rfl).trans ?_
  refine (s304 (a := 380) rfl rfl (by decide)).trans ((if_pos (g5_32505856 w)).trans ?_)
  refine (sU1 (a := 381) rfl rfl (by decide)).trans ?_
  refine (s315 (a := 382) rfl rfl (by decide)).trans (ite_some (fun _ => ?_) (fun _ => rfl))
  exact s317 (a := 383) rfl rfl
theorem ev_18 (w : Int64) (l : Nat → Int64) (R : Nat → Nat → Int64) (f : Nat → Bool) : rn (eW rS w) LSx 64 384 [] (l, R, f) = some ((0, (l, wrT (eW rS w) 1 (gatV w (nJ 3968)).toBitVec.toNat (u2 43 (nJ 32) ((R) 1 (gatV w (nJ 1015808)).toBitVec.toNat) (u1 310 (nJ 8204) (gatV w (nJ 4293918720)))) (R), f))) := by
  refine (s301 (a := 384) rfl rfl).trans ?_
  refine (s301 (a := 385) rfl rfl).trans ?_
  refine (s304 (a := 386) rfl rfl (by decide)).trans ((if_pos (g5_1015808 w)).trans ?_)
  refine (s301 (a := 387) rfl rfl).trans ?_
  refine (sU1 (a := 388) rfl rfl (by decide)).trans ?_
  refine (sU2 (a := 389) rfl rfl (by decide)).trans ?_
  refine (s315 (a := 390) rfl rfl (by decide)).trans ((if_pos (g5_3968 w)).trans ?_)
  exact s317 (a := 391) rfl rfl
theorem ev_19 (w : Int64) (l : Nat → Int64) (R : Nat → Nat → Int64) (f : Nat → Bool) : rn (eW rS w) LSx 64 392 [] (l, R, f) = some ((0, (l, wrT (eW rS w) 1 (gatV w (nJ 3968)).toBitVec.toNat (u2 213 (nJ 32) ((R) 1 (gatV w (nJ 1015808)).toBitVec.toNat) (u1 310 (nJ 8204) (gatV w (nJ 4293918720)))) (R), f))) := by
  refine (s301 (a := 392) rfl rfl).trans ?_
  refine (s301 (a := 393) rfl rfl).trans ?_
  refine (s304 (a := 394) rfl rfl (by decide)).trans ((if_pos (g5_1015808 w)).trans ?_)
  refine (s301 (a := 395) rfl rfl).trans ?_
  refine (sU1 (a := 396) rfl rfl (by decide)).trans ?_
  refine (sU2 (a := 397) rfl rfl (by decide)).trans ?_
  refine (s315 (a := 398) rfl rfl (by decide)).trans ((if_pos (g5_3968 w)).trans ?_)
  exact s317 (a := 399) rfl rfl
theorem ev_20 (w : Int64) (l : Nat → Int64) (R : Nat → Nat → Int64) (f : Nat → Bool) : rn (eW rS w) LSx 64 400 [] (l, R, f) = some ((0, (l, wrT (eW rS w) 1 (gatV w (nJ 3968)).toBitVec.toNat (u2 60 (nJ 32) ((R) 1 (gatV w (nJ 1015808)).toBitVec.toNat) (u1 310 (nJ 8204) (gatV w (nJ 4293918720)))) (R), f))) := by
  refine (s301 (a := 400) rfl rfl).trans ?_
  refine (s301 (a := 401) rfl rfl).trans ?_
  refine (s304 (a := 402) rfl rfl (by decide)).trans ((if_pos (g5_1015808 w)).trans ?_)
  refine (s301 (a := 403) rfl rfl).trans ?_
  refine (sU1 (a := 404) rfl rfl (by decide)).trans ?_
  refine (sU2 (a := 405) rfl rfl (by decide)).trans ?_
  refine (s315 (a := 406) rfl rfl (by decide)).trans ((if_pos (g5_3968 w)).trans ?_)
  exact s317 (a := 407) rfl rfl
theorem ev_21 (w : Int64) (l : Nat → Int64) (R : Nat → Nat → Int64) (f : Nat → Bool) : rn (eW rS w) LSx 64 408 [] (l, R, f) = some ((0, (l, wrT (eW rS w) 1 (gatV w (nJ 3968)).toBitVec.toNat (u2 94 (nJ 32) ((R) 1 (gatV w (nJ 1015808)).toBitVec.toNat) (u1 310 (nJ 8204) (gatV w (nJ 4293918720)))) (R), f))) := by
  refine (s301 (a := 408) rfl rfl).trans ?_
  refine (s301 (a := 409) rfl rfl).trans ?_
  refine (s304 (a := 410) rfl rfl (by decide)).trans ((if_pos (g5_1015808 w)).trans ?_)
  refine (s301 (a := 411) rfl rfl).trans ?_
  refine (sU1 (a := 412) rfl rfl (by decide)).trans ?_
  refine (sU2 (a := 413) rfl rfl (by decide)).trans ?_
  refine (s315 (a := 414) rfl rfl (by decide)).trans ((if_pos (g5_3968 w)).trans ?_)
  exact s317 (a := 415) rfl rfl
theorem ev_22 (w : Int64) (l : Nat → Int64) (R : Nat → Nat → Int64) (f : Nat → Bool) : rn (eW rS w) LSx 64 416 [] (l, R, f) = some ((0, (l, wrT (eW rS w) 1 (gatV w (nJ 3968)).toBitVec.toNat (u2 124 (nJ 32) ((R) 1 (gatV w (nJ 1015808)).toBitVec.toNat) (u1 310 (nJ 8204) (gatV w (nJ 4293918720)))) (R), f))) := by
  refine (s301 (a := 416) rfl rfl).trans ?_
  refine (s301 (a := 417) rfl rfl).trans ?_
  refine (s304 (a := 418) rfl rfl (by decide)).trans ((if_pos (g5_1015808 w)).trans ?_)
  refine (s301 (a := 419) rfl rfl).trans ?_
  refine (sU1 (a := 420) rfl rfl (by decide)).trans ?_
  refine (sU2 (a := 421) rfl rfl (by decide)).trans ?_
  refine (s315 (a := 422) rfl rfl (by decide)).trans ((if_pos (g5_3968 w)).trans ?_)
  exact s317 (a := 423) rfl rfl
theorem ev_23 (w : Int64) (l : Nat → Int64) (R : Nat → Nat → Int64) (f : Nat → Bool) : rn (eW rS w) LSx 64 424 [] (l, R, f) = some ((0, (l, wrT (eW rS w) 1 (gatV w (nJ 3968)).toBitVec.toNat (u2 38 (nJ 32) ((R) 1 (gatV w (nJ 1015808)).toBitVec.toNat) (u1 310 (nJ 8204) (gatV w (nJ 4293918720)))) (R), f))) := by
  refine (s301 (a := 424) rfl rfl).trans ?_
  refine (s301 (a := 425) rfl rfl).trans ?_
  refine (s304 (a := 426) rfl rfl (by decide)).trans ((if_pos (g5_1015808 w)).trans ?_)
  refine (s301 (a := 427) rfl rfl).trans ?_
  refine (sU1 (a := 428) rfl rfl (by decide)).trans ?_
  refine (sU2 (a := 429) rfl rfl (by decide)).trans ?_
  refine (s315 (a := 430) rfl rfl (by decide)).trans ((if_pos (g5_3968 w)).trans ?_)
  exact s317 (a := 431) rfl rfl
theorem ev_24 (w : Int64) (l : Nat → Int64) (R : Nat → Nat → Int64) (f : Nat → Bool) : rn (eW rS w) LSx 64 432 [] (l, R, f) = some ((0, (l, wrT (eW rS w) 1 (gatV w (nJ 3968)).toBitVec.toNat (u2 131 (nJ 32) ((R) 1 (gatV w (nJ 1015808)).toBitVec.toNat) (gatV w (nJ 32505856))) (R), f))) := by
  refine (s301 (a := 432) rfl rfl).trans ?_
  refine (s301 (a := 433) rfl rfl).trans ?_
  refine (s304 (a := 434) rfl rfl (by decide)).trans ((if_pos (g5_1015808 w)).trans ?_)
  refine (s301 (a := 435) rfl rfl).trans ?_
  refine (sU2 (a := 436) rfl rfl (by decide)).trans ?_
  refine (s315 (a := 437) rfl rfl (by decide)).trans ((if_pos (g5_3968 w)).trans ?_)
  exact s317 (a := 438) rfl rfl
theorem ev_25 (w : Int64) (l : Nat → Int64) (R : Nat → Nat → Int64) (f : Nat → Bool) : rn (eW rS w) LSx 64 439 [] (l, R, f) = some ((0, (l, wrT (eW rS w) 1 (gatV w (nJ 3968)).toBitVec.toNat (u2 132 (nJ 32) ((R) 1 (gatV w (nJ 1015808)).toBitVec.toNat) (gatV w (nJ 32505856))) (R), f))) := by
  refine (s301 (a := 439) rfl rfl).trans ?_
  refine (s301 (a := 440) rfl rfl).trans ?_
  refine (s304 (a := 441) rfl rfl (by decide)).trans ((if_pos (g5_1015808 w)).trans ?_)
  refine (s301 (a := 442) rfl rfl).trans ?_
  refine (sU2 (a := 443) rfl rfl (by decide)).trans ?_
  refine (s315 (a := 444) rfl rfl (by decide)).trans ((if_pos (g5_3968 w)).trans ?_)
  exact s317 (a := 445) rfl rfl
theorem ev_26 (w : Int64) (l : Nat → Int64) (R : Nat → Nat → Int64) (f : Nat → Bool) : rn (eW rS w) LSx 64 446 [] (l, R, f) = some ((0, (l, wrT (eW rS w) 1 (gatV w (nJ 3968)).toBitVec.toNat (u2 216 (nJ 32) ((R) 1 (gatV w (nJ 1015808)).toBitVec.toNat) (gatV w (nJ 32505856))) (R), f))) := by
  refine (s301 (a := 446) rfl rfl).trans ?_
  refine (s301 (a := 447) rfl rfl).trans ?_
  refine (s304 (a := 448) rfl rfl (by decide)).trans ((if_pos (g5_1015808 w)).trans ?_)
  refine (s301 (a := 449) rfl rfl).trans ?_
  refine (sU2 (a := 450) rfl rfl (by decide)).trans ?_
  refine (s315 (a := 451) rfl rfl (by decide)).trans ((if_pos (g5_3968 w)).trans ?_)
  exact s317 (a := 452) rfl rfl
theorem ev_27 (w : Int64) (l : Nat → Int64) (R : Nat → Nat → Int64) (f : Nat → Bool) : rn (eW rS w) LSx 64 453 [] (l, R, f) = some ((0, (l, wrT (eW rS w) 1 (gatV w (nJ 3968)).toBitVec.toNat (u2 43 (nJ 32) ((R) 1 (gatV w (nJ 1015808)).toBitVec.toNat) ((R) 1 (gatV w (nJ 32505856)).toBitVec.toNat)) (R), f))) := by
  refine (s301 (a := 453) rfl rfl).trans ?_
  refine (s301 (a := 454) rfl rfl).trans ?_
  refine (s304 (a := 455) rfl rfl (by decide)).trans ((if_pos (g5_1015808 w)).trans ?_)
  refine (s301 (a := 456) rfl rfl).trans ?_
  refine (s304 (a := 457) rfl rfl (by decide)).trans ((if_pos (g5_32505856 w)).trans ?_)
  refine (sU2 (a := 458) rfl rfl (by decide)).trans ?_
  refine (s315 (a := 459) rfl rfl (by decide)).trans ((if_pos (g5_3968 w)).trans ?_)
  exact s317 (a := 460) rfl rfl
theorem ev_28 (w : Int64) (l : Nat → Int64) (R : Nat → Nat → Int64) (f : Nat → Bool) : rn (eW rS w) LSx 64 461 [] (l, R, f) = some ((0, (l, wrT (eW rS w) 1 (gatV w (nJ 3968)).toBitVec.toNat (u2 45 (nJ 32) ((R) 1 (gatV w (nJ 1015808)).toBitVec.toNat) ((R) 1 (gatV w (nJ 32505856)).toBitVec.toNat)) (R), f))) := by
  refine (s301 (a := 461) rfl rfl).trans ?_
  refine (s301 (a := 462) rfl rfl).trans ?_
  refine (s304 (a := 463) rfl rfl (by decide)).trans ((if_pos (g5_1015808 w)).trans ?_)
  refine (s301 (a := 464) rfl rfl).trans ?_
  refine (s304 (a := 465) rfl rfl (by decide)).trans ((if_pos (g5_32505856 w)).trans ?_)
  refine (sU2 (a := 466) rfl rfl (by decide)).trans ?_
  refine (s315 (a := 467) rfl rfl (by decide)).trans ((if_pos (g5_3968 w)).trans ?_)
  exact s317 (a := 468) rfl rfl
theorem ev_29 (w : Int64) (l : Nat → Int64) (R : Nat → Nat → Int64) (f : Nat → Bool) : rn (eW rS w) LSx 64 469 [] (l, R, f) = some ((0, (l, wrT (eW rS w) 1 (gatV w (nJ 3968)).toBitVec.toNat (u2 131 (nJ 32) ((R) 1 (gatV w (nJ 1015808)).toBitVec.toNat) (u1 308 (nJ 1280) ((R) 1 (gatV w (nJ 32505856)).toBitVec.toNat))) (R), f))) := by
  refine (s301 (a := 469) rfl rfl).trans ?_
  refine (s301 (a := 470) rfl rfl).trans ?_
  refine (s304 (a := 471) rfl rfl (by decide)).trans ((if_pos (g5_1015808 w)).trans ?_)
  refine (s301 (a := 472) rfl rfl).trans ?_
  refine (s304 (a := 473) rfl rfl (by decide)).trans ((if_pos (g5_32505856 w)).trans ?_)
  refine (sU1 (a := 474) rfl rfl (by decide)).trans ?_
  refine (sU2 (a := 475) rfl rfl (by decide)).trans ?_
  refine (s315 (a := 476) rfl rfl (by decide)).trans ((if_pos (g5_3968 w)).trans ?_)
  exact s317 (a := 477) rfl rfl
theorem ev_30 (w : Int64) (l : Nat → Int64) (R : Nat → Nat → Int64) (f : Nat → Bool) : rn (eW rS w) LSx 64 478 [] (l, R, f) = some ((0, (l, wrT (eW rS w) 1 (gatV w (nJ 3968)).toBitVec.toNat (u2 213 (nJ 32) ((R) 1 (gatV w (nJ 1015808)).toBitVec.toNat) ((R) 1 (gatV w (nJ 32505856)).toBitVec.toNat)) (R), f))) := by
  refine (s301 (a := 478) rfl rfl).trans ?_
  refine (s301 (a := 479) rfl rfl).trans ?_
  refine (s304 (a := 480) rfl rfl (by decide)).trans ((if_pos (g5_1015808 w)).trans ?_)
  refine (s301 (a := 481) rfl rfl).trans ?_
  refine (s304 (a := 482) rfl rfl (by decide)).trans ((if_pos (g5_32505856 w)).trans ?_)
  refine (sU2 (a := 483) rfl rfl (by decide)).trans ?_
  refine (s315 (a := 484) rfl rfl (by decide)).trans ((if_pos (g5_3968 w)).trans ?_)
  exact s317 (a := 485) rfl rfl
theorem ev_31 (w : Int64) (l : Nat → Int64) (R : Nat → Nat → Int64) (f : Nat → Bool) : rn (eW rS w) LSx 64 486 [] (l, R, f) = some ((0, (l, wrT (eW rS w) 1 (gatV w (nJ 3968)).toBitVec.toNat (u2 60 (nJ 32) ((R) 1 (gatV w (nJ 1015808)).toBitVec.toNat) ((R) 1 (gatV w (nJ 32505856)).toBitVec.toNat)) (R), f))) := by
  refine (s301 (a := 486) rfl rfl).trans ?_
  refine (s301 (a := 487) rfl rfl).trans ?_
  refine (s304 (a := 488) rfl rfl (by decide)).trans ((if_pos (g5_1015808 w)).trans ?_)
  refine (s301 (a := 489) rfl rfl).trans ?_
  refine (s304 (a := 490) rfl rfl (by decide)).trans ((if_pos (g5_32505856 w)).trans ?_)
  refine (sU2 (a := 491) rfl rfl (by decide)).trans ?_
  refine (s315 (a := 492) rfl rfl (by decide)).trans ((if_pos (g5_3968 w)).trans ?_)
  exact s317 (a := 493) rfl rfl
theorem ev_32 (w : Int64) (l : Nat → Int64) (R : Nat → Nat → Int64) (f : Nat → Bool) : rn (eW rS w) LSx 64 494 [] (l, R, f) = some ((0, (l, wrT (eW rS w) 1 (gatV w (nJ 3968)).toBitVec.toNat (u2 94 (nJ 32) ((R) 1 (gatV w (nJ 1015808)).toBitVec.toNat) ((R) 1 (gatV w (nJ 32505856)).toBitVec.toNat)) (R), f))) := by
  refine (s301 (a := 494) rfl rfl).trans ?_
  refine (s301 (a := 495) rfl rfl).trans ?_
  refine (s304 (a := 496) rfl rfl (by decide)).trans ((if_pos (g5_1015808 w)).trans ?_)
  refine (s301 (a := 497) rfl rfl).trans ?_
  refine (s304 (a := 498) rfl rfl (by decide)).trans ((if_pos (g5_32505856 w)).trans ?_)
  refine (sU2 (a := 499) rfl rfl (by decide)).trans ?_
  refine (s315 (a := 500) rfl rfl (by decide)).trans ((if_pos (g5_3968 w)).trans ?_)
  exact s317 (a := 501) rfl rfl
theorem ev_33 (w : Int64) (l : Nat → Int64) (R : Nat → Nat → Int64) (f : Nat → Bool) : rn (eW rS w) LSx 64 502 [] (l, R, f) = some ((0, (l, wrT (eW rS w) 1 (gatV w (nJ 3968)).toBitVec.toNat (u2 132 (nJ 32) ((R) 1 (gatV w (nJ 1015808)).toBitVec.toNat) (u1 308 (nJ 1280) ((R) 1 (gatV w (nJ 32505856)).toBitVec.toNat))) (R), f))) := by
  refine (s301 (a := 502) rfl rfl).trans ?_
  refine (s301 (a := 503) rfl rfl).trans ?_
  refine (s304 (a := 504) rfl rfl (by decide)).trans ((if_pos (g5_1015808 w)).trans ?_)
  refine (s301 (a := 505) rfl rfl).trans ?_
  refine (s304 (a := 506) rfl rfl (by decide)).trans ((if_pos (g5_32505856 w)).trans ?_)
  refine (sU1 (a := 507) rfl rfl (by decide)).trans ?_
  refine (sU2 (a := 508) rfl rfl (by decide)).trans ?_
  refine (s315 (a := 509) rfl rfl (by decide)).trans ((if_pos (g5_3968 w)).trans ?_)
  exact s317 (a := 510) rfl rfl
theorem ev_34 (w : Int64) (l : Nat → Int64) (R : Nat → Nat → Int64) (f : Nat → Bool) : rn (eW rS w) LSx 64 511 [] (l, R, f) = some ((0, (l, wrT (eW rS w) 1 (gatV w (nJ 3968)).toBitVec.toNat (u2 216 (nJ 32) ((R) 1 (gatV w (nJ 1015808)).toBitVec.toNat) (u1 308 (nJ 1280) ((R) 1 (gatV w (nJ 32505856)).toBitVec.toNat))) (R), f))) := by
  refine (s301 (a := 511) rfl rfl).trans ?_
  refine (s301 (a := 512) rfl rfl).trans ?_
  refine (s304 (a := 513) rfl rfl (by decide)).trans ((if_pos (g5_1015808 w)).trans ?_)
  refine (s301 (a := 514) rfl rfl).trans ?_
  refine (s304 (a := 515) rfl rfl (by decide)).trans ((if_pos (g5_32505856 w)).trans ?_)
  refine (sU1 (a := 516) rfl rfl (by decide)).trans ?_
  refine (sU2 (a := 517) rfl rfl (by decide)).trans ?_
  refine (s315 (a := 518) rfl rfl (by decide)).trans ((if_pos (g5_3968 w)).trans ?_)
  exact s317 (a := 519) rfl rfl
theorem ev_35 (w : Int64) (l : Nat → Int64) (R : Nat → Nat → Int64) (f : Nat → Bool) : rn (eW rS w) LSx 64 520 [] (l, R, f) = some ((0, (l, wrT (eW rS w) 1 (gatV w (nJ 3968)).toBitVec.toNat (u2 124 (nJ 32) ((R) 1 (gatV w (nJ 1015808)).toBitVec.toNat) ((R) 1 (gatV w (nJ 32505856)).toBitVec.toNat)) (R), f))) := by
  refine (s301 (a := 520) rfl rfl).trans ?_
  refine (s301 (a := 521) rfl rfl).trans ?_
  refine (s304 (a := 522) rfl rfl (by decide)).trans ((if_pos (g5_1015808 w)).trans ?_)
  refine (s301 (a := 523) rfl rfl).trans ?_
  refine (s304 (a := 524) rfl rfl (by decide)).trans ((if_pos (g5_32505856 w)).trans ?_)
  refine (sU2 (a := 525) rfl rfl (by decide)).trans ?_
  refine (s315 (a := 526) rfl rfl (by decide)).trans ((if_pos (g5_3968 w)).trans ?_)
  exact s317 (a := 527) rfl rfl
theorem ev_36 (w : Int64) (l : Nat → Int64) (R : Nat → Nat → Int64) (f : Nat → Bool) : rn (eW rS w) LSx 64 528 [] (l, R, f) = some ((0, (l, wrT (eW rS w) 1 (gatV w (nJ 3968)).toBitVec.toNat (u2 38 (nJ 32) ((R) 1 (gatV w (nJ 1015808)).toBitVec.toNat) ((R) 1 (gatV w (nJ 32505856)).toBitVec.toNat)) (R), f))) := by
  refine (s301 (a := 528) rfl rfl).trans ?_
  refine (s301 (a := 529) rfl rfl).trans ?_
  refine (s304 (a := 530) rfl rfl (by decide)).trans ((if_pos (g5_1015808 w)).trans ?_)
  refine (s301 (a := 531) rfl rfl).trans ?_
  refine (s304 (a := 532) rfl rfl (by decide)).trans ((if_pos (g5_32505856 w)).trans ?_)
  refine (sU2 (a := 533) rfl rfl (by decide)).trans ?_
  refine (s315 (a := 534) rfl rfl (by decide)).trans ((if_pos (g5_3968 w)).trans ?_)
  exact s317 (a := 535) rfl rfl
theorem ev_37 (w : Int64) (l : Nat → Int64) (R : Nat → Nat → Int64) (f : Nat → Bool) : rn (eW rS w) LSx 64 536 [] (l, R, f) = some ((0, (l, R, f))) := by
  exact s317 (a := 536) rfl rfl
theorem ev_38 (w : Int64) (l : Nat → Int64) (R : Nat → Nat → Int64) (f : Nat → Bool) : rn (eW rS w) LSx 64 537 [] (l, R, f) = some (((nJ 8).toInt32, (l, R, f))) := by
  exact s316 (a := 537) rfl rfl
theorem ev_39 (w : Int64) (l : Nat → Int64) (R : Nat → Nat → Int64) (f : Nat → Bool) : rn (eW rS w) LSx 64 539 [] (l, R, f) = some (((nJ 3).toInt32, (l, R, f))) := by
  exact s316 (a := 539) rfl rfl
theorem ev_40 (w : Int64) (l : Nat → Int64) (R : Nat → Nat → Int64) (f : Nat → Bool) : rn (eW rS w) LSx 64 541 [] (l, R, f) = some ((0, (l, wrT (eW rS w) 1 (gatV w (nJ 3968)).toBitVec.toNat (u2 42 (nJ 32) ((R) 1 (gatV w (nJ 1015808)).toBitVec.toNat) ((R) 1 (gatV w (nJ 32505856)).toBitVec.toNat)) (R), f))) := by
  refine (s301 (a := 541) rfl rfl).trans ?_
  refine (s301 (a := 542) rfl rfl).trans ?_
  refine (s304 (a := 543) rfl rfl (by decide)).trans ((if_pos (g5_1015808 w)).trans ?_)
  refine (s301 (a := 544) rfl rfl).trans ?_
  refine (s304 (a := 545) rfl rfl (by decide)).trans ((if_pos (g5_32505856 w)).trans ?_)
  refine (sU2 (a := 546) rfl rfl (by decide)).trans ?_
  refine (s315 (a := 547) rfl rfl (by decide)).trans ((if_pos (g5_3968 w)).trans ?_)
  exact s317 (a := 548) rfl rfl
theorem ev_41 (w : Int64) (l : Nat → Int64) (R : Nat → Nat → Int64) (f : Nat → Bool) : rn (eW rS w) LSx 64 549 [] (l, R, f) = some ((0, (l, wrT (eW rS w) 1 (gatV w (nJ 3968)).toBitVec.toNat (u1 308 (nJ 8224) (u2 42 (nJ 64) (u1 310 (nJ 16416) ((R) 1 (gatV w (nJ 1015808)).toBitVec.toNat)) (u1 310 (nJ 16416) ((R) 1 (gatV w (nJ 32505856)).toBitVec.toNat)))) (R), f))) := by
  refine (s301 (a := 549) rfl rfl).trans ?_
  refine (s301 (a := 550) rfl rfl).trans ?_
  refine (s304 (a := 551) rfl rfl (by decide)).trans ((if_pos (g5_1015808 w)).trans ?_)
  refine (sU1 (a := 552) rfl rfl (by decide)).trans ?_
  refine (s301 (a := 553) rfl rfl).trans ?_
  refine (s304 (a := 554) rfl rfl (by decide)).trans ((if_pos (g5_32505856 w)).trans ?_)
  refine (sU1 (a := 555) rfl rfl (by decide)).trans ?_
  refine (sU2 (a := 556) rfl rfl (by decide)).trans ?_
  refine (sU1 (a := 557) rfl rfl (by decide)).trans ?_
  refine (s315 (a := 558) rfl rfl (by decide)).trans ((if_pos (g5_3968 w)).trans ?_)
  exact s317 (a := 559) rfl rfl
theorem ev_42 (w : Int64) (l : Nat → Int64) (R : Nat → Nat → Int64) (f : Nat → Bool) : rn (eW rS w) LSx 64 560 [] (l, R, f) = some ((0, (l, wrT (eW rS w) 1 (gatV w (nJ 3968)).toBitVec.toNat (u1 308 (nJ 8224) (u2 42 (nJ 64) (u1 310 (nJ 16416) ((R) 1 (gatV w (nJ 1015808)).toBitVec.toNat)) ((R) 1 (gatV w (nJ 32505856)).toBitVec.toNat))) (R), f))) := by
  refine (s301 (a := 560) rfl rfl).trans ?_
  refine (s301 (a := 561) rfl rfl).trans ?_
  refine (s304 (a := 562) rfl rfl (by decide)).trans ((if_pos (g5_1015808 w)).trans ?_)
  refine (sU1 (a := 563) rfl rfl (by decide)).trans ?_
  refine (s301 (a := 564) rfl rfl).trans ?_
  refine (s304 (a := 565) rfl rfl (by decide)).trans ((if_pos (g5_32505856 w)).trans ?_)
  refine (sU2 (a := 566) rfl rfl (by decide)).trans ?_
  refine (sU1 (a := 567) rfl rfl (by decide)).trans ?_
  refine (s315 (a := 568) rfl rfl (by decide)).trans ((if_pos (g5_3968 w)).trans ?_)
  exact s317 (a := 569) rfl rfl
theorem ev_43 (w : Int64) (l : Nat → Int64) (R : Nat → Nat → Int64) (f : Nat → Bool) : rn (eW rS w) LSx 64 570 [] (l, R, f) = some ((0, (l, wrT (eW rS w) 1 (gatV w (nJ 3968)).toBitVec.toNat (u1 308 (nJ 8224) (u2 42 (nJ 64) ((R) 1 (gatV w (nJ 1015808)).toBitVec.toNat) ((R) 1 (gatV w (nJ 32505856)).toBitVec.toNat))) (R), f))) := by
  refine (s301 (a := 570) rfl rfl).trans ?_
  refine (s301 (a := 571) rfl rfl).trans ?_
  refine (s304 (a := 572) rfl rfl (by decide)).trans ((if_pos (g5_1015808 w)).trans ?_)
  refine (s301 (a := 573) rfl rfl).trans ?_
  refine (s304 (a := 574) rfl rfl (by decide)).trans ((if_pos (g5_32505856 w)).trans ?_)
  refine (sU2 (a := 575) rfl rfl (by decide)).trans ?_
  refine (sU1 (a := 576) rfl rfl (by decide)).trans ?_
  refine (s315 (a := 577) rfl rfl (by decide)).trans ((if_pos (g5_3968 w)).trans ?_)
  exact s317 (a := 578) rfl rfl
theorem ev_44 (w : Int64) (l : Nat → Int64) (R : Nat → Nat → Int64) (f : Nat → Bool) : rn (eW rS w) LSx 64 579 [] (l, R, f) = some ((0, (l, wrT (eW rS w) 1 (gatV w (nJ 3968)).toBitVec.toNat (u2 214 (nJ 32) ((R) 1 (gatV w (nJ 1015808)).toBitVec.toNat) ((R) 1 (gatV w (nJ 32505856)).toBitVec.toNat)) (R), f))) := by
  refine (s301 (a := 579) rfl rfl).trans ?_
  refine (s301 (a := 580) rfl rfl).trans ?_
  refine (s304 (a := 581) rfl rfl (by decide)).trans ((if_pos (g5_1015808 w)).trans ?_)
  refine (s301 (a := 582) rfl rfl).trans ?_
  refine (s304 (a := 583) rfl rfl (by decide)).trans ((if_pos (g5_32505856 w)).trans ?_)
  refine (sU2 (a := 584) rfl rfl (by decide)).trans ?_
  refine (s315 (a := 585) rfl rfl (by decide)).trans ((if_pos (g5_3968 w)).trans ?_)
  exact s317 (a := 586) rfl rfl
theorem ev_45 (w : Int64) (l : Nat → Int64) (R : Nat → Nat → Int64) (f : Nat → Bool) : rn (eW rS w) LSx 64 587 [] (l, R, f) = some ((0, (l, wrT (eW rS w) 1 (gatV w (nJ 3968)).toBitVec.toNat (u2 47 (nJ 32) ((R) 1 (gatV w (nJ 1015808)).toBitVec.toNat) ((R) 1 (gatV w (nJ 32505856)).toBitVec.toNat)) (R), f))) := by
  refine (s301 (a := 587) rfl rfl).trans ?_
  refine (s301 (a := 588) rfl rfl).trans ?_
  refine (s304 (a := 589) rfl rfl (by decide)).trans ((if_pos (g5_1015808 w)).trans ?_)
  refine (s301 (a := 590) rfl rfl).trans ?_
  refine (s304 (a := 591) rfl rfl (by decide)).trans ((if_pos (g5_32505856 w)).trans ?_)
  refine (sU2 (a := 592) rfl rfl (by decide)).trans ?_
  refine (s315 (a := 593) rfl rfl (by decide)).trans ((if_pos (g5_3968 w)).trans ?_)
  exact s317 (a := 594) rfl rfl
theorem ev_46 (w : Int64) (l : Nat → Int64) (R : Nat → Nat → Int64) (f : Nat → Bool) : rn (eW rS w) LSx 64 595 [] (l, R, f) = some ((0, (l, wrT (eW rS w) 1 (gatV w (nJ 3968)).toBitVec.toNat (u2 215 (nJ 32) ((R) 1 (gatV w (nJ 1015808)).toBitVec.toNat) ((R) 1 (gatV w (nJ 32505856)).toBitVec.toNat)) (R), f))) := by
  refine (s301 (a := 595) rfl rfl).trans ?_
  refine (s301 (a := 596) rfl rfl).trans ?_
  refine (s304 (a := 597) rfl rfl (by decide)).trans ((if_pos (g5_1015808 w)).trans ?_)
  refine (s301 (a := 598) rfl rfl).trans ?_
  refine (s304 (a := 599) rfl rfl (by decide)).trans ((if_pos (g5_32505856 w)).trans ?_)
  refine (sU2 (a := 600) rfl rfl (by decide)).trans ?_
  refine (s315 (a := 601) rfl rfl (by decide)).trans ((if_pos (g5_3968 w)).trans ?_)
  exact s317 (a := 602) rfl rfl
theorem ev_47 (w : Int64) (l : Nat → Int64) (R : Nat → Nat → Int64) (f : Nat → Bool) : rn (eW rS w) LSx 64 603 [] (l, R, f) = some ((0, (l, wrT (eW rS w) 1 (gatV w (nJ 3968)).toBitVec.toNat (u2 37 (nJ 32) ((R) 1 (gatV w (nJ 1015808)).toBitVec.toNat) ((R) 1 (gatV w (nJ 32505856)).toBitVec.toNat)) (R), f))) := by
  refine (s301 (a := 603) rfl rfl).trans ?_
  refine (s301 (a := 604) rfl rfl).trans ?_
  refine (s304 (a := 605) rfl rfl (by decide)).trans ((if_pos (g5_1015808 w)).trans ?_)
  refine (s301 (a := 606) rfl rfl).trans ?_
  refine (s304 (a := 607) rfl rfl (by decide)).trans ((if_pos (g5_32505856 w)).trans ?_)
  refine (sU2 (a := 608) rfl rfl (by decide)).trans ?_
  refine (s315 (a := 609) rfl rfl (by decide)).trans ((if_pos (g5_3968 w)).trans ?_)
  exact s317 (a := 610) rfl rfl
/-- every op of the shipped program comes to its end -/
theorem ev_S : ∀ (k : Nat), k < 48 → ∀ (w : Int64) (s : STq), ∃ rr, rn (eW rS w) LSx 64 (stS k) [] s = some rr
  | 0, _, w, (l, R, f) => ⟨_, ev_0 w l R f⟩
  | 1, _, w, (l, R, f) => ⟨_, ev_1 w l R f⟩
  | 2, _, w, (l, R, f) => ⟨_, ev_2 w l R f⟩
  | 3, _, w, (l, R, f) => ⟨_, ev_3 w l R f⟩
  | 4, _, w, (l, R, f) => ⟨_, ev_4 w l R f⟩
  | 5, _, w, (l, R, f) => ⟨_, ev_5 w l R f⟩
  | 6, _, w, (l, R, f) => ⟨_, ev_6 w l R f⟩
  | 7, _, w, (l, R, f) => ⟨_, ev_7 w l R f⟩
  | 8, _, w, (l, R, f) => ⟨_, ev_8 w l R f⟩
  | 9, _, w, (l, R, f) => ⟨_, ev_9 w l R f⟩
  | 10, _, w, (l, R, f) => ⟨_, ev_10 w l R f⟩
  | 11, _, w, (l, R, f) => ⟨_, ev_11 w l R f⟩
  | 12, _, w, (l, R, f) => ⟨_, ev_12 w l R f⟩
  | 13, _, w, (l, R, f) => ⟨_, ev_13 w l R f⟩
  | 14, _, w, (l, R, f) => ⟨_, ev_14 w l R f⟩
  | 15, _, w, (l, R, f) => ⟨_, ev_15 w l R f⟩
  | 16, _, w, (l, R, f) => ⟨_, ev_16 w l R f⟩
  | 17, _, w, (l, R, f) => ⟨_, ev_17 w l R f⟩
  | 18, _, w, (l, R, f) => ⟨_, ev_18 w l R f⟩
  | 19, _, w, (l, R, f) => ⟨_, ev_19 w l R f⟩
  | 20, _, w, (l, R, f) => ⟨_, ev_20 w l R f⟩
  | 21, _, w, (l, R, f) => ⟨_, ev_21 w l R f⟩
  | 22, _, w, (l, R, f) => ⟨_, ev_22 w l R f⟩
  | 23, _, w, (l, R, f) => ⟨_, ev_23 w l R f⟩
  | 24, _, w, (l, R, f) => ⟨_, ev_24 w l R f⟩
  | 25, _, w, (l, R, f) => ⟨_, ev_25 w l R f⟩
  | 26, _, w, (l, R, f) => ⟨_, ev_26 w l R f⟩
  | 27, _, w, (l, R, f) => ⟨_, ev_27 w l R f⟩
  | 28, _, w, (l, R, f) => ⟨_, ev_28 w l R f⟩
  | 29, _, w, (l, R, f) => ⟨_, ev_29 w l R f⟩
  | 30, _, w, (l, R, f) => ⟨_, ev_30 w l R f⟩
  | 31, _, w, (l, R, f) => ⟨_, ev_31 w l R f⟩
  | 32, _, w, (l, R, f) => ⟨_, ev_32 w l R f⟩
  | 33, _, w, (l, R, f) => ⟨_, ev_33 w l R f⟩
  | 34, _, w, (l, R, f) => ⟨_, ev_34 w l R f⟩
  | 35, _, w, (l, R, f) => ⟨_, ev_35 w l R f⟩
  | 36, _, w, (l, R, f) => ⟨_, ev_36 w l R f⟩
  | 37, _, w, (l, R, f) => ⟨_, ev_37 w l R f⟩
  | 38, _, w, (l, R, f) => ⟨_, ev_38 w l R f⟩
  | 39, _, w, (l, R, f) => ⟨_, ev_39 w l R f⟩
  | 40, _, w, (l, R, f) => ⟨_, ev_40 w l R f⟩
  | 41, _, w, (l, R, f) => ⟨_, ev_41 w l R f⟩
  | 42, _, w, (l, R, f) => ⟨_, ev_42 w l R f⟩
  | 43, _, w, (l, R, f) => ⟨_, ev_43 w l R f⟩
  | 44, _, w, (l, R, f) => ⟨_, ev_44 w l R f⟩
  | 45, _, w, (l, R, f) => ⟨_, ev_45 w l R f⟩
  | 46, _, w, (l, R, f) => ⟨_, ev_46 w l R f⟩
  | 47, _, w, (l, R, f) => ⟨_, ev_47 w l R f⟩
  | _ + 48, h, _, _ => absurd h (by omega)
