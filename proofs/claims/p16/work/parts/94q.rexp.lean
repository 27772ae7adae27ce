/-! exact runs over abstract heaps: the reference's expressions -/
def f_Book_expression (P : Nat) (kR : Nat → Int32 → mv_H → Option (Option Int32 × mv_H)) (h : mv_H) : Option (Option Int32 × mv_H) := xtb (kR 1 (0 : Int32) h) fun u2 g1 => if (mv_i g1 P 4) = (63 : Int32) then (xtb (f_Book_pass P g1) fun u4 g3 => xk (mv_si g3 P 8 ((mv_i g3 P 8) + (1 : Int32))) fun g5 => xtb (kR 0 0 g5) fun u7 g6 => xtb (f_Book_need P g6 (58 : Int32)) fun u9 g8 => xtb (kR 0 0 g8) fun u11 g10 => xk (mv_si g10 P 8 ((mv_i g10 P 8) - (1 : Int32))) fun g12 => xhb (f_Book_chosen P g12 (mv_i g1 P 5) u2 u7 u11) fun u14 g13 => some (some u14, g13)) else (some (some u2, g1))
def fF_Book_binary_19 (P : Nat) (kR : Nat → Int32 → mv_H → Option (Option Int32 × mv_H)) (k19 : Int32 → Int32 → mv_H → Option (Option Int32 × mv_H)) (x1 : Int32) (x2 : Int32) (hz : mv_H) : Option (Option Int32 × mv_H) := xhb (f_Book_levelOf hz (mv_i hz P 4)) fun u2 g1 => if u2 = x1 then (xtb (f_Book_pass P g1) fun u4 g3 => xtb (kR 1 (x1 + (1 : Int32)) g3) fun u6 g5 => xhb (f_Book_two P g5 (mv_i g1 P 4) (mv_i g1 P 5) x2 u6) fun u8 g7 => k19 x1 u8 g7) else (some (some x2, g1))
def f_Book_binary_19 (P : Nat) (kR : Nat → Int32 → mv_H → Option (Option Int32 × mv_H)) : Nat → Int32 → Int32 → mv_H → Option (Option Int32 × mv_H)
  | 0 => fun _ _ _ => none
  | nn + 1 => fF_Book_binary_19 P kR (f_Book_binary_19 P kR nn)
def f_Book_binary (P : Nat) (kR : Nat → Int32 → mv_H → Option (Option Int32 × mv_H)) (h : mv_H) (a0 : Int32) : Option (Option Int32 × mv_H) := if a0 = (8 : Int32) then (xtb (kR 2 0 h) fun u12 g11 => some (some u12, g11)) else (xtb (kR 1 (a0 + (1 : Int32)) h) fun u10 g9 => f_Book_binary_19 P kR 200000 a0 u10 g9)
def f_Book_unary_144 (P : Nat) (kR : Nat → Int32 → mv_H → Option (Option Int32 × mv_H)) (y0 : Int32) (y1 : Int32) (y2 : Int32) (y3 : Int32) (y4 : Int32) (hz : mv_H) : Option (Option Int32 × mv_H) := xhb (f_Book_node P hz y4 y3 y2 y1 y0) fun u2 g1 => some (some u2, g1)
def f_Book_unary_123 (P : Nat) (kR : Nat → Int32 → mv_H → Option (Option Int32 × mv_H)) (x1 : Int32) (x3 : Int32) (x4 : Int32) (hz : mv_H) : Option (Option Int32 × mv_H) := if x4 = (0 : Int32) then (f_Book_unary_144 P kR (0 : Int32) (0 : Int32) x1 x3 (6 : Int32) hz) else (bif xvi x3 33000 then f_Book_unary_144 P kR (mv_a hz (P + 23) (x3).toNatClampNeg) (0 : Int32) x1 x3 (6 : Int32) hz else none)
def f_Book_unary_101 (P : Nat) (kR : Nat → Int32 → mv_H → Option (Option Int32 × mv_H)) (x1 : Int32) (x2 : Int32) (x3 : Int32) (y0 : Int32) (hz : mv_H) : Option (Option Int32 × mv_H) := bif xvi x3 33000 then if (mv_a hz (P + 23) (x3).toNatClampNeg) ≤ (0 : Int32) then (f_Book_unary_123 P kR x1 x3 y0 hz) else (if y0 = (0 : Int32) then (xhv (f_Book_fault P hz (4 : Int32) x2) fun g5 => f_Book_unary_123 P kR x1 x3 y0 g5) else (f_Book_unary_123 P kR x1 x3 y0 hz)) else none
def f_Book_unary_100 (P : Nat) (kR : Nat → Int32 → mv_H → Option (Option Int32 × mv_H)) (x1 : Int32) (x2 : Int32) (x3 : Int32) (hz : mv_H) : Option (Option Int32 × mv_H) := f_Book_unary_101 P kR x1 x2 x3 (0 : Int32) hz
def f_Book_unary_96 (P : Nat) (kR : Nat → Int32 → mv_H → Option (Option Int32 × mv_H)) (x1 : Int32) (x2 : Int32) (x3 : Int32) (hz : mv_H) : Option (Option Int32 × mv_H) := f_Book_unary_101 P kR x1 x2 x3 (1 : Int32) hz
def f_Book_unary_32 (P : Nat) (kR : Nat → Int32 → mv_H → Option (Option Int32 × mv_H)) (hz : mv_H) : Option (Option Int32 × mv_H) := xtb (f_Book_pass P hz) fun u8 g7 => xk (mv_si g7 P 8 ((mv_i g7 P 8) + (1 : Int32))) fun g9 => xtb (kR 2 0 g9) fun u11 g10 => xk (mv_si g10 P 8 ((mv_i g10 P 8) - (1 : Int32))) fun g12 => bif xvi u11 33000 then if (mv_a g12 (P + 23) (u11).toNatClampNeg) ≤ (0 : Int32) then (f_Book_unary_100 P kR (mv_i hz P 4) (mv_i hz P 5) u11 g12) else (if (mv_i hz P 4) = (33 : Int32) then (bif xvi u11 33000 then if (mv_a g12 (P + 23) (u11).toNatClampNeg) = (1 : Int32) then (f_Book_unary_96 P kR (mv_i hz P 4) (mv_i hz P 5) u11 g12) else (f_Book_unary_100 P kR (mv_i hz P 4) (mv_i hz P 5) u11 g12) else none) else (f_Book_unary_96 P kR (mv_i hz P 4) (mv_i hz P 5) u11 g12)) else none
def f_Book_unary (P : Nat) (kR : Nat → Int32 → mv_H → Option (Option Int32 × mv_H)) (h : mv_H) : Option (Option Int32 × mv_H) := if (mv_i h P 4) = (45 : Int32) then (f_Book_unary_32 P kR  h) else (if (mv_i h P 4) = (126 : Int32) then (f_Book_unary_32 P kR  h) else (if (mv_i h P 4) = (33 : Int32) then (f_Book_unary_32 P kR  h) else (xtb (kR 3 0 h) fun u16 g15 => some (some u16, g15))))
def f_Book_post_262 (P : Nat) (kR : Nat → Int32 → mv_H → Option (Option Int32 × mv_H)) (k5 : Int32 → mv_H → Option (Option Int32 × mv_H)) (y0 : Int32) (y1 : Int32) (y2 : Int32) (y3 : Int32) (y4 : Int32) (hz : mv_H) : Option (Option Int32 × mv_H) := xhb (f_Book_node P hz y4 y3 y2 y1 y0) fun u2 g1 => k5 u2 g1
def f_Book_post_246 (P : Nat) (kR : Nat → Int32 → mv_H → Option (Option Int32 × mv_H)) (k5 : Int32 → mv_H → Option (Option Int32 × mv_H)) (x2 : Int64) (x4 : Int64) (x11 : Int32) (y0 : Int32) (y1 : Int32) (y2 : Int32) (y3 : Int32) (hz : mv_H) : Option (Option Int32 × mv_H) := if x11 = (0 : Int32) then (f_Book_post_262 P kR k5 (0 : Int32) y0 y1 y2 y3 hz) else (f_Book_post_262 P kR k5 ((((x2 - x4)).toInt32) + (1 : Int32)) y0 y1 y2 y3 hz)
def f_Book_post_234 (P : Nat) (kR : Nat → Int32 → mv_H → Option (Option Int32 × mv_H)) (k5 : Int32 → mv_H → Option (Option Int32 × mv_H)) (x2 : Int64) (x4 : Int64) (x11 : Int32) (y0 : Int32) (y1 : Int32) (y2 : Int32) (hz : mv_H) : Option (Option Int32 × mv_H) := if x11 = (0 : Int32) then (f_Book_post_246 P kR k5 x2 x4 x11 (0 : Int32) y0 y1 y2 hz) else (f_Book_post_246 P kR k5 x2 x4 x11 ((x4).toInt32) y0 y1 y2 hz)
def f_Book_post_217 (P : Nat) (kR : Nat → Int32 → mv_H → Option (Option Int32 × mv_H)) (k5 : Int32 → mv_H → Option (Option Int32 × mv_H)) (x1 : Int32) (x2 : Int64) (x4 : Int64) (y0 : Int32) (hz : mv_H) : Option (Option Int32 × mv_H) := if y0 = (0 : Int32) then (f_Book_post_234 P kR k5 x2 x4 y0 (0 : Int32) x1 (8 : Int32) hz) else (f_Book_post_234 P kR k5 x2 x4 y0 ((x2).toInt32) x1 (8 : Int32) hz)
def f_Book_post_216 (P : Nat) (kR : Nat → Int32 → mv_H → Option (Option Int32 × mv_H)) (k5 : Int32 → mv_H → Option (Option Int32 × mv_H)) (x1 : Int32) (x2 : Int64) (x4 : Int64) (hz : mv_H) : Option (Option Int32 × mv_H) := f_Book_post_217 P kR k5 x1 x2 x4 (0 : Int32) hz
def f_Book_post_193 (P : Nat) (kR : Nat → Int32 → mv_H → Option (Option Int32 × mv_H)) (k5 : Int32 → mv_H → Option (Option Int32 × mv_H)) (x1 : Int32) (x2 : Int64) (x4 : Int64) (x9 : Int32) (x10 : Int32) (hz : mv_H) : Option (Option Int32 × mv_H) := bif xvi x1 33000 then if (mv_a hz (P + 23) (x1).toNatClampNeg) ≤ (0 : Int32) then (f_Book_post_216 P kR k5 x1 x2 x4 hz) else (if x9 = (0 : Int32) then (f_Book_post_216 P kR k5 x1 x2 x4 hz) else (if x10 = (0 : Int32) then (f_Book_post_216 P kR k5 x1 x2 x4 hz) else (f_Book_post_217 P kR k5 x1 x2 x4 (1 : Int32) hz))) else none
def f_Book_post_181 (P : Nat) (kR : Nat → Int32 → mv_H → Option (Option Int32 × mv_H)) (k5 : Int32 → mv_H → Option (Option Int32 × mv_H)) (x1 : Int32) (x2 : Int64) (x4 : Int64) (x7 : Int32) (x9 : Int32) (x10 : Int32) (hz : mv_H) : Option (Option Int32 × mv_H) := if x10 = (0 : Int32) then (xhv (f_Book_fault P hz (3 : Int32) x7) fun g4 => f_Book_post_193 P kR k5 x1 x2 x4 x9 x10 g4) else (f_Book_post_193 P kR k5 x1 x2 x4 x9 x10 hz)
def f_Book_post_167 (P : Nat) (kR : Nat → Int32 → mv_H → Option (Option Int32 × mv_H)) (k5 : Int32 → mv_H → Option (Option Int32 × mv_H)) (x1 : Int32) (x2 : Int64) (x4 : Int64) (x6 : Int32) (x7 : Int32) (x9 : Int32) (y0 : Int32) (hz : mv_H) : Option (Option Int32 × mv_H) := if x9 = (0 : Int32) then (xhv (f_Book_fault P hz (3 : Int32) x6) fun g6 => f_Book_post_181 P kR k5 x1 x2 x4 x7 x9 y0 g6) else (f_Book_post_181 P kR k5 x1 x2 x4 x7 x9 y0 hz)
def f_Book_post_145 (P : Nat) (kR : Nat → Int32 → mv_H → Option (Option Int32 × mv_H)) (k5 : Int32 → mv_H → Option (Option Int32 × mv_H)) (x1 : Int32) (x2 : Int64) (x4 : Int64) (x6 : Int32) (x7 : Int32) (y0 : Int32) (hz : mv_H) : Option (Option Int32 × mv_H) := if (0 : Int32) < (lg_cmp (x4 + (-9223372036854775808 : Int64)) (x2 + (-9223372036854775808 : Int64))) then (f_Book_post_167 P kR k5 x1 x2 x4 x6 x7 y0 (0 : Int32) hz) else (f_Book_post_167 P kR k5 x1 x2 x4 x6 x7 y0 (1 : Int32) hz)
def f_Book_post_140 (P : Nat) (kR : Nat → Int32 → mv_H → Option (Option Int32 × mv_H)) (k5 : Int32 → mv_H → Option (Option Int32 × mv_H)) (x1 : Int32) (x2 : Int64) (x4 : Int64) (x6 : Int32) (x7 : Int32) (hz : mv_H) : Option (Option Int32 × mv_H) := f_Book_post_145 P kR k5 x1 x2 x4 x6 x7 (1 : Int32) hz
def f_Book_post_98 (P : Nat) (kR : Nat → Int32 → mv_H → Option (Option Int32 × mv_H)) (k5 : Int32 → mv_H → Option (Option Int32 × mv_H)) (x1 : Int32) (x2 : Int64) (x4 : Int64) (x6 : Int32) (x7 : Int32) (hz : mv_H) : Option (Option Int32 × mv_H) := xtb (f_Book_need P hz (93 : Int32)) fun u9 g8 => xk (mv_si g8 P 8 ((mv_i g8 P 8) - (1 : Int32))) fun g10 => bif xvi x1 33000 then if (mv_a g10 (P + 23) (x1).toNatClampNeg) = (0 : Int32) then (f_Book_post_140 P kR k5 x1 x2 x4 x6 x7 g10) else (bif xvi x1 33000 then xhb (f_Model_in g10 x2 (0 : Int64) ((((mv_a g10 (P + 23) (x1).toNatClampNeg) - (1 : Int32))).toInt64)) fun u14 g13 => if u14 = (0 : Int32) then (f_Book_post_145 P kR k5 x1 x2 x4 x6 x7 (0 : Int32) g13) else (f_Book_post_140 P kR k5 x1 x2 x4 x6 x7 g13) else none) else none
def f_Book_post_70 (P : Nat) (kR : Nat → Int32 → mv_H → Option (Option Int32 × mv_H)) (k5 : Int32 → mv_H → Option (Option Int32 × mv_H)) (x1 : Int32) (x2 : Int64) (x4 : Int64) (x6 : Int32) (x7 : Int32) (y0 : Int32) (hz : mv_H) : Option (Option Int32 × mv_H) := if y0 = (0 : Int32) then (f_Book_post_98 P kR k5 x1 x2 x4 x6 x7 hz) else (xtb (f_Book_pass P hz) fun u16 g15 => xtb (f_Book_need P g15 (2 : Int32)) fun u18 g17 => f_Book_post_98 P kR k5 x1 x2 (mv_l g15 P 9) x6 (mv_i g15 P 5) g17)
def fF_Book_post_5 (P : Nat) (kR : Nat → Int32 → mv_H → Option (Option Int32 × mv_H)) (k5 : Int32 → mv_H → Option (Option Int32 × mv_H)) (x1 : Int32) (hz : mv_H) : Option (Option Int32 × mv_H) := if (mv_i hz P 4) = (91 : Int32) then (xtb (f_Book_pass P hz) fun u20 g19 => xk (mv_si g19 P 8 ((mv_i g19 P 8) + (1 : Int32))) fun g21 => xtb (f_Book_need P g21 (2 : Int32)) fun u23 g22 => if (mv_i g22 P 4) = (58 : Int32) then (f_Book_post_70 P kR k5 x1 (mv_l g21 P 9) (mv_l g21 P 9) (mv_i g21 P 5) (mv_i g21 P 5) (1 : Int32) g22) else (f_Book_post_70 P kR k5 x1 (mv_l g21 P 9) (mv_l g21 P 9) (mv_i g21 P 5) (mv_i g21 P 5) (0 : Int32) g22)) else (some (some x1, hz))
def f_Book_post_5 (P : Nat) (kR : Nat → Int32 → mv_H → Option (Option Int32 × mv_H)) : Nat → Int32 → mv_H → Option (Option Int32 × mv_H)
  | 0 => fun _ _ => none
  | nn + 1 => fF_Book_post_5 P kR (f_Book_post_5 P kR nn)
def f_Book_post (P : Nat) (kR : Nat → Int32 → mv_H → Option (Option Int32 × mv_H)) (h : mv_H) : Option (Option Int32 × mv_H) := xtb (kR 4 0 h) fun u25 g24 => f_Book_post_5 P kR 200000 u25 g24
def f_Book_primary_192 (P : Nat) (kR : Nat → Int32 → mv_H → Option (Option Int32 × mv_H)) (hz : mv_H) : Option (Option Int32 × mv_H) := xk (mv_si hz (P + 33) 0 (mv_i hz P 5)) fun g1 => some (none, g1)
def f_Book_primary (P : Nat) (kR : Nat → Int32 → mv_H → Option (Option Int32 × mv_H)) (h : mv_H) : Option (Option Int32 × mv_H) := if (mv_i h P 4) = (2 : Int32) then (xtb (f_Book_literal P h) fun u41 g40 => some (some u41, g40)) else (if (mv_i h P 4) = (40 : Int32) then (xtb (f_Book_pass P h) fun u33 g32 => xk (mv_si g32 P 8 ((mv_i g32 P 8) + (1 : Int32))) fun g34 => xtb (kR 0 0 g34) fun u36 g35 => xtb (f_Book_need P g35 (41 : Int32)) fun u38 g37 => xk (mv_si g37 P 8 ((mv_i g37 P 8) - (1 : Int32))) fun g39 => some (some u36, g39)) else (if (mv_i h P 4) = (123 : Int32) then (xtb (kR 8 0 h) fun u31 g30 => some (some u31, g30)) else (xhb (f_Book_is P h 148) fun u3 g2 => if u3 = (0 : Int32) then (xhb (f_Book_is P g2 149) fun u5 g4 => if u5 = (0 : Int32) then (xhb (f_Book_is P g4 150) fun u7 g6 => if u7 = (0 : Int32) then (xhb (f_Book_is P g6 151) fun u9 g8 => if u9 = (0 : Int32) then (xhb (f_Book_is P g8 152) fun u11 g10 => if u11 = (0 : Int32) then (xhb (f_Book_is P g10 153) fun u13 g12 => if u13 = (0 : Int32) then (if (mv_i g12 P 4) = (1 : Int32) then (xhb (f_Book_reserved P g12) fun u15 g14 => if u15 = (0 : Int32) then (xtb (kR 5 0 g14) fun u17 g16 => some (some u17, g16)) else (f_Book_primary_192 P kR  g14)) else (f_Book_primary_192 P kR  g12)) else (xtb (kR 7 (1003 : Int32) g12) fun u19 g18 => some (some u19, g18))) else (xtb (kR 7 (1002 : Int32) g10) fun u21 g20 => some (some u21, g20))) else (xtb (kR 7 (1001 : Int32) g8) fun u23 g22 => some (some u23, g22))) else (xtb (kR 7 (1000 : Int32) g6) fun u25 g24 => some (some u25, g24))) else (xtb (kR 6 (0 : Int32) g4) fun u27 g26 => some (some u27, g26))) else (xtb (kR 6 (1 : Int32) g2) fun u29 g28 => some (some u29, g28)))))
def f_Book_named_223 (P : Nat) (kR : Nat → Int32 → mv_H → Option (Option Int32 × mv_H)) (y0 : Int32) (y1 : Int32) (y2 : Int32) (y3 : Int32) (y4 : Int32) (hz : mv_H) : Option (Option Int32 × mv_H) := xhb (f_Book_node P hz y4 y3 y2 y1 y0) fun u2 g1 => some (some u2, g1)
def f_Book_named (P : Nat) (kR : Nat → Int32 → mv_H → Option (Option Int32 × mv_H)) (h : mv_H) : Option (Option Int32 × mv_H) := xtb (f_Book_pass P h) fun u4 g3 => xhb (f_Book_let P g3 (mv_i h P 5) (mv_i h P 6)) fun u6 g5 => if u6 < (0 : Int32) then (xhb (f_Book_isField P g5 (mv_i h P 5) (mv_i h P 6)) fun u8 g7 => if u8 = (0 : Int32) then (xhb (f_Book_thing P g7 (mv_i h P 5) (mv_i h P 6)) fun u10 g9 => if (0 : Int32) ≤ u10 then (bif xvi u10 4100 then if (mv_a g9 (P + 6) (u10).toNatClampNeg) = (0 : Int32) then (bif xvi u10 4100 then xhb (f_Book_node P g9 (2 : Int32) u10 (0 : Int32) (0 : Int32) (mv_a g9 (P + 3) (u10).toNatClampNeg)) fun u28 g27 => some (some u28, g27) else none) else (if (mv_i g9 P 4) = (91 : Int32) then (xtb (f_Book_pass P g9) fun u13 g12 => xk (mv_si g12 P 8 ((mv_i g12 P 8) + (1 : Int32))) fun g14 => xtb (kR 0 0 g14) fun u16 g15 => xtb (f_Book_need P g15 (93 : Int32)) fun u18 g17 => xk (mv_si g17 P 8 ((mv_i g17 P 8) - (1 : Int32))) fun g19 => bif xvi u16 33000 then if (mv_a g19 (P + 23) (u16).toNatClampNeg) = (0 : Int32) then (f_Book_named_223 P kR (0 : Int32) (0 : Int32) u16 u10 (3 : Int32) g19) else (bif xvi u10 4100 then f_Book_named_223 P kR (mv_a g19 (P + 3) (u10).toNatClampNeg) (0 : Int32) u16 u10 (3 : Int32) g19 else none) else none) else (xhv (f_Book_fault P g9 (2 : Int32) (mv_i h P 5)) fun g22 => xhb (f_Book_node P g22 (13 : Int32) (0 : Int32) (0 : Int32) (0 : Int32) (0 : Int32)) fun u25 g24 => some (some u25, g24))) else none) else (xhv (f_Book_fault P g9 (2 : Int32) (mv_i h P 5)) fun g29 => xhb (f_Book_node P g29 (13 : Int32) (0 : Int32) (0 : Int32) (0 : Int32) (0 : Int32)) fun u32 g31 => some (some u32, g31))) else (xhb (f_Book_look P g7 (mv_i h P 5)) fun u34 g33 => xhb (f_Book_look P g33 (mv_i h P 5)) fun u36 g35 => xhb (f_Book_letterBits P g35 u36) fun u38 g37 => xhb (f_Book_node P g37 (4 : Int32) u34 (0 : Int32) (0 : Int32) u38) fun u40 g39 => some (some u40, g39))) else (bif xvi u6 4100 then bif xvi u6 4100 then xhb (f_Book_node P g5 (5 : Int32) (mv_a g5 (P + 17) (u6).toNatClampNeg) (0 : Int32) (0 : Int32) (mv_a g5 (P + 16) (u6).toNatClampNeg)) fun u44 g43 => some (some u44, g43) else none else none)
def f_Book_wider_149 (P : Nat) (kR : Nat → Int32 → mv_H → Option (Option Int32 × mv_H)) (y0 : Int32) (y1 : Int32) (y2 : Int32) (y3 : Int32) (y4 : Int32) (hz : mv_H) : Option (Option Int32 × mv_H) := xhb (f_Book_node P hz y4 y3 y2 y1 y0) fun u2 g1 => some (some u2, g1)
def f_Book_wider_148 (P : Nat) (kR : Nat → Int32 → mv_H → Option (Option Int32 × mv_H)) (y0 : Int32) (y1 : Int32) (y2 : Int32) (y3 : Int32) (hz : mv_H) : Option (Option Int32 × mv_H) := f_Book_wider_149 P kR (0 : Int32) y0 y1 y2 y3 hz
def f_Book_wider_126 (P : Nat) (kR : Nat → Int32 → mv_H → Option (Option Int32 × mv_H)) (x2 : Int32) (x3 : Int64) (x6 : Int32) (y0 : Int32) (hz : mv_H) : Option (Option Int32 × mv_H) := if x6 = (0 : Int32) then (f_Book_wider_148 P kR (0 : Int32) (0 : Int32) x2 y0 hz) else (bif xvi x2 33000 then if (mv_a hz (P + 23) (x2).toNatClampNeg) ≤ (0 : Int32) then (f_Book_wider_148 P kR (0 : Int32) (0 : Int32) x2 y0 hz) else (f_Book_wider_149 P kR ((x3).toInt32) (0 : Int32) (0 : Int32) x2 y0 hz) else none)
def f_Book_wider_114 (P : Nat) (kR : Nat → Int32 → mv_H → Option (Option Int32 × mv_H)) (x1 : Int32) (x2 : Int32) (x3 : Int64) (x6 : Int32) (hz : mv_H) : Option (Option Int32 × mv_H) := if x1 = (0 : Int32) then (f_Book_wider_126 P kR x2 x3 x6 (12 : Int32) hz) else (f_Book_wider_126 P kR x2 x3 x6 (11 : Int32) hz)
def f_Book_wider_100 (P : Nat) (kR : Nat → Int32 → mv_H → Option (Option Int32 × mv_H)) (x1 : Int32) (x2 : Int32) (x3 : Int64) (x5 : Int32) (y0 : Int32) (hz : mv_H) : Option (Option Int32 × mv_H) := if y0 = (0 : Int32) then (xhv (f_Book_fault P hz (3 : Int32) x5) fun g4 => f_Book_wider_114 P kR x1 x2 x3 y0 g4) else (f_Book_wider_114 P kR x1 x2 x3 y0 hz)
def f_Book_wider_99 (P : Nat) (kR : Nat → Int32 → mv_H → Option (Option Int32 × mv_H)) (x1 : Int32) (x2 : Int32) (x3 : Int64) (x5 : Int32) (hz : mv_H) : Option (Option Int32 × mv_H) := f_Book_wider_100 P kR x1 x2 x3 x5 (0 : Int32) hz
def f_Book_wider_95 (P : Nat) (kR : Nat → Int32 → mv_H → Option (Option Int32 × mv_H)) (x1 : Int32) (x2 : Int32) (x3 : Int64) (x5 : Int32) (hz : mv_H) : Option (Option Int32 × mv_H) := f_Book_wider_100 P kR x1 x2 x3 x5 (1 : Int32) hz
def f_Book_wider (P : Nat) (kR : Nat → Int32 → mv_H → Option (Option Int32 × mv_H)) (h : mv_H) (a0 : Int32) : Option (Option Int32 × mv_H) := xtb (f_Book_pass P h) fun u7 g6 => xtb (f_Book_need P g6 (40 : Int32)) fun u9 g8 => xk (mv_si g8 P 8 ((mv_i g8 P 8) + (1 : Int32))) fun g10 => xtb (kR 0 0 g10) fun u12 g11 => xtb (f_Book_need P g11 (44 : Int32)) fun u14 g13 => xtb (f_Book_need P g13 (2 : Int32)) fun u16 g15 => xtb (f_Book_need P g15 (41 : Int32)) fun u18 g17 => xk (mv_si g17 P 8 ((mv_i g17 P 8) - (1 : Int32))) fun g19 => xhb (f_Model_in g19 (mv_l g13 P 9) (1 : Int64) (64 : Int64)) fun u21 g20 => if u21 = (0 : Int32) then (f_Book_wider_99 P kR a0 u12 (mv_l g13 P 9) (mv_i g13 P 5) g20) else (bif xvi u12 33000 then if (mv_a g20 (P + 23) (u12).toNatClampNeg) = (0 : Int32) then (f_Book_wider_95 P kR a0 u12 (mv_l g13 P 9) (mv_i g13 P 5) g20) else (bif xvi u12 33000 then if (lg_cmp (mv_l g13 P 9) (((mv_a g20 (P + 23) (u12).toNatClampNeg)).toInt64)) < (0 : Int32) then (f_Book_wider_99 P kR a0 u12 (mv_l g13 P 9) (mv_i g13 P 5) g20) else (f_Book_wider_95 P kR a0 u12 (mv_l g13 P 9) (mv_i g13 P 5) g20) else none) else none)
def f_Book_called (P : Nat) (kR : Nat → Int32 → mv_H → Option (Option Int32 × mv_H)) (h : mv_H) (a0 : Int32) : Option (Option Int32 × mv_H) := xtb (f_Book_pass P h) fun u2 g1 => xtb (f_Book_need P g1 (40 : Int32)) fun u4 g3 => xk (mv_si g3 P 8 ((mv_i g3 P 8) + (1 : Int32))) fun g5 => xtb (kR 0 0 g5) fun u7 g6 => xtb (f_Book_need P g6 (44 : Int32)) fun u9 g8 => xtb (kR 0 0 g8) fun u11 g10 => xtb (f_Book_need P g10 (41 : Int32)) fun u13 g12 => xk (mv_si g12 P 8 ((mv_i g12 P 8) - (1 : Int32))) fun g14 => xhb (f_Book_two P g14 a0 (mv_i h P 5) u7 u11) fun u16 g15 => some (some u16, g15)
def f_Book_together_179 (P : Nat) (kR : Nat → Int32 → mv_H → Option (Option Int32 × mv_H)) (y0 : Int32) (y1 : Int32) (y2 : Int32) (y3 : Int32) (y4 : Int32) (hz : mv_H) : Option (Option Int32 × mv_H) := xhb (f_Book_node P hz y4 y3 y2 y1 y0) fun u2 g1 => some (some u2, g1)
def f_Book_together_178 (P : Nat) (kR : Nat → Int32 → mv_H → Option (Option Int32 × mv_H)) (y0 : Int32) (y1 : Int32) (y2 : Int32) (y3 : Int32) (hz : mv_H) : Option (Option Int32 × mv_H) := f_Book_together_179 P kR (0 : Int32) y0 y1 y2 y3 hz
def f_Book_together_157 (P : Nat) (kR : Nat → Int32 → mv_H → Option (Option Int32 × mv_H)) (x2 : Int32) (x3 : Int32) (x5 : Int32) (hz : mv_H) : Option (Option Int32 × mv_H) := if x5 = (0 : Int32) then (f_Book_together_178 P kR (0 : Int32) (0 : Int32) x3 (10 : Int32) hz) else (if (64 : Int32) < x2 then (f_Book_together_178 P kR (0 : Int32) (0 : Int32) x3 (10 : Int32) hz) else (f_Book_together_179 P kR x2 (0 : Int32) (0 : Int32) x3 (10 : Int32) hz))
def f_Book_together_101 (P : Nat) (kR : Nat → Int32 → mv_H → Option (Option Int32 × mv_H)) (k52 : Int32 → Int32 → Int32 → Int32 → Int32 → mv_H → Option (Option Int32 × mv_H)) (x1 : Int32) (x2 : Int32) (x3 : Int32) (x4 : Int32) (x6 : Int32) (y0 : Int32) (y1 : Int32) (hz : mv_H) : Option (Option Int32 × mv_H) := if (1000 : Int32) ≤ x2 then (k52 x1 x2 x3 x4 (y1 &&& y0) hz) else (bif xvi x6 33000 then k52 x1 (x2 + (mv_a hz (P + 23) (x6).toNatClampNeg)) x3 x4 (y1 &&& y0) hz else none)
def fF_Book_together_52 (P : Nat) (kR : Nat → Int32 → mv_H → Option (Option Int32 × mv_H)) (k52 : Int32 → Int32 → Int32 → Int32 → Int32 → mv_H → Option (Option Int32 × mv_H)) (x1 : Int32) (x2 : Int32) (x3 : Int32) (x4 : Int32) (x5 : Int32) (hz : mv_H) : Option (Option Int32 × mv_H) := if (mv_i hz P 4) = (44 : Int32) then (xtb (f_Book_pass P hz) fun u10 g9 => xtb (kR 0 0 g9) fun u12 g11 => bif xvi x4 33000 then xk (mv_sa g11 (P + 22) (x4).toNatClampNeg u12) fun g14 => bif xvi u12 33000 then if (mv_a g14 (P + 23) (u12).toNatClampNeg) ≤ (0 : Int32) then (f_Book_together_101 P kR k52 x1 x2 x3 u12 u12 (0 : Int32) x5 g14) else (f_Book_together_101 P kR k52 x1 x2 x3 u12 u12 (1 : Int32) x5 g14) else none else none) else (xtb (f_Book_need P hz (125 : Int32)) fun u5 g4 => xk (mv_si g4 P 8 ((mv_i g4 P 8) - (1 : Int32))) fun g6 => if x5 = (0 : Int32) then (f_Book_together_157 P kR x2 x3 x5 g6) else (if x2 ≤ (64 : Int32) then (f_Book_together_157 P kR x2 x3 x5 g6) else (xhv (f_Book_fault P g6 (4 : Int32) x1) fun g7 => f_Book_together_157 P kR x2 x3 x5 g7)))
def f_Book_together_52 (P : Nat) (kR : Nat → Int32 → mv_H → Option (Option Int32 × mv_H)) : Nat → Int32 → Int32 → Int32 → Int32 → Int32 → mv_H → Option (Option Int32 × mv_H)
  | 0 => fun _ _ _ _ _ _ => none
  | nn + 1 => fF_Book_together_52 P kR (f_Book_together_52 P kR nn)
def f_Book_together_43 (P : Nat) (kR : Nat → Int32 → mv_H → Option (Option Int32 × mv_H)) (x1 : Int32) (x3 : Int32) (x4 : Int32) (y0 : Int32) (hz : mv_H) : Option (Option Int32 × mv_H) := bif xvi x3 33000 then f_Book_together_52 P kR 200000 x1 (mv_a hz (P + 23) (x3).toNatClampNeg) x3 x4 y0 hz else none
def f_Book_together (P : Nat) (kR : Nat → Int32 → mv_H → Option (Option Int32 × mv_H)) (h : mv_H) : Option (Option Int32 × mv_H) := xtb (f_Book_pass P h) fun u18 g17 => xk (mv_si g17 P 8 ((mv_i g17 P 8) + (1 : Int32))) fun g19 => xtb (kR 0 0 g19) fun u21 g20 => bif xvi u21 33000 then if (mv_a g20 (P + 23) (u21).toNatClampNeg) ≤ (0 : Int32) then (f_Book_together_43 P kR (mv_i h P 5) u21 u21 (0 : Int32) g20) else (f_Book_together_43 P kR (mv_i h P 5) u21 u21 (1 : Int32) g20) else none
def f_BookR (P : Nat) : Nat → Nat → Int32 → mv_H → Option (Option Int32 × mv_H)
  | 0 => fun _ _ _ => none
  | nn + 1 => fun m a h => match m with
    | 0 => f_Book_expression P (f_BookR P nn) h
    | 1 => f_Book_binary P (f_BookR P nn) h a
    | 2 => f_Book_unary P (f_BookR P nn) h
    | 3 => f_Book_post P (f_BookR P nn) h
    | 4 => f_Book_primary P (f_BookR P nn) h
    | 5 => f_Book_named P (f_BookR P nn) h
    | 6 => f_Book_wider P (f_BookR P nn) h a
    | 7 => f_Book_called P (f_BookR P nn) h a
    | _ => f_Book_together P (f_BookR P nn) h
def RecX (l : Launch) (dA : FieldType → ClassId) (D : va_G) (al : Nat → Nat) (ext : mv_Sh) (sk sv : Nat → Nat) (B nn : Nat) : Prop := (∀ (a : Int32) (h : mv_H) (rv : Option Int32) (rg : mv_H), Br B (mv_r h) → f_BookR B nn 0 a h = some (rv, rg) → mv_C l y_Book_expression (Cond.code y_Book_expression b_Book_expression 5 (Option.some Jvm.ClassFile.FieldType.int) :: ma) ({ frames := nn + 7, cells := 0, slots := 0, locals := 60 * nn + 400 }) (mg dA D al ext) (mK sk sv) [.ref (al B)] h (mv_Ui (fun v σ1 => rv = some v ∧ rg = σ1 ∧ mv_r σ1 = mv_r h) ("MachineLoomModel$Book$Wrong", al (B + 33)) (fun σ1 => rv = none ∧ rg = σ1 ∧ mv_r σ1 = mv_r h))) ∧ (∀ (a : Int32) (h : mv_H) (rv : Option Int32) (rg : mv_H), Br B (mv_r h) → f_BookR B nn 1 a h = some (rv, rg) → mv_C l y_Book_binary (Cond.code y_Book_binary b_Book_binary 5 (Option.some Jvm.ClassFile.FieldType.int) :: ma) ({ frames := nn + 7, cells := 0, slots := 0, locals := 60 * nn + 400 }) (mg dA D al ext) (mK sk sv) [.ref (al B), .int a] h (mv_Ui (fun v σ1 => rv = some v ∧ rg = σ1 ∧ mv_r σ1 = mv_r h) ("MachineLoomModel$Book$Wrong", al (B + 33)) (fun σ1 => rv = none ∧ rg = σ1 ∧ mv_r σ1 = mv_r h))) ∧ (∀ (a : Int32) (h : mv_H) (rv : Option Int32) (rg : mv_H), Br B (mv_r h) → f_BookR B nn 2 a h = some (rv, rg) → mv_C l y_Book_unary (Cond.code y_Book_unary b_Book_unary 5 (Option.some Jvm.ClassFile.FieldType.int) :: ma) ({ frames := nn + 7, cells := 0, slots := 0, locals := 60 * nn + 400 }) (mg dA D al ext) (mK sk sv) [.ref (al B)] h (mv_Ui (fun v σ1 => rv = some v ∧ rg = σ1 ∧ mv_r σ1 = mv_r h) ("MachineLoomModel$Book$Wrong", al (B + 33)) (fun σ1 => rv = none ∧ rg = σ1 ∧ mv_r σ1 = mv_r h))) ∧ (∀ (a : Int32) (h : mv_H) (rv : Option Int32) (rg : mv_H), Br B (mv_r h) → f_BookR B nn 3 a h = some (rv, rg) → mv_C l y_Book_post (Cond.code y_Book_post b_Book_post 12 (Option.some Jvm.ClassFile.FieldType.int) :: ma) ({ frames := nn + 7, cells := 0, slots := 0, locals := 60 * nn + 400 }) (mg dA D al ext) (mK sk sv) [.ref (al B)] h (mv_Ui (fun v σ1 => rv = some v ∧ rg = σ1 ∧ mv_r σ1 = mv_r h) ("MachineLoomModel$Book$Wrong", al (B + 33)) (fun σ1 => rv = none ∧ rg = σ1 ∧ mv_r σ1 = mv_r h))) ∧ (∀ (a : Int32) (h : mv_H) (rv : Option Int32) (rg : mv_H), Br B (mv_r h) → f_BookR B nn 4 a h = some (rv, rg) → mv_C l y_Book_primary (Cond.code y_Book_primary b_Book_primary 2 (Option.some Jvm.ClassFile.FieldType.int) :: ma) ({ frames := nn + 7, cells := 0, slots := 0, locals := 60 * nn + 400 }) (mg dA D al ext) (mK sk sv) [.ref (al B)] h (mv_Ui (fun v σ1 => rv = some v ∧ rg = σ1 ∧ mv_r σ1 = mv_r h) ("MachineLoomModel$Book$Wrong", al (B + 33)) (fun σ1 => rv = none ∧ rg = σ1 ∧ mv_r σ1 = mv_r h))) ∧ (∀ (a : Int32) (h : mv_H) (rv : Option Int32) (rg : mv_H), Br B (mv_r h) → f_BookR B nn 5 a h = some (rv, rg) → mv_C l y_Book_named (Cond.code y_Book_named b_Book_named 6 (Option.some Jvm.ClassFile.FieldType.int) :: ma) ({ frames := nn + 7, cells := 0, slots := 0, locals := 60 * nn + 400 }) (mg dA D al ext) (mK sk sv) [.ref (al B)] h (mv_Ui (fun v σ1 => rv = some v ∧ rg = σ1 ∧ mv_r σ1 = mv_r h) ("MachineLoomModel$Book$Wrong", al (B + 33)) (fun σ1 => rv = none ∧ rg = σ1 ∧ mv_r σ1 = mv_r h))) ∧ (∀ (a : Int32) (h : mv_H) (rv : Option Int32) (rg : mv_H), Br B (mv_r h) → f_BookR B nn 6 a h = some (rv, rg) → mv_C l y_Book_wider (Cond.code y_Book_wider b_Book_wider 7 (Option.some Jvm.ClassFile.FieldType.int) :: ma) ({ frames := nn + 7, cells := 0, slots := 0, locals := 60 * nn + 400 }) (mg dA D al ext) (mK sk sv) [.ref (al B), .int a] h (mv_Ui (fun v σ1 => rv = some v ∧ rg = σ1 ∧ mv_r σ1 = mv_r h) ("MachineLoomModel$Book$Wrong", al (B + 33)) (fun σ1 => rv = none ∧ rg = σ1 ∧ mv_r σ1 = mv_r h))) ∧ (∀ (a : Int32) (h : mv_H) (rv : Option Int32) (rg : mv_H), Br B (mv_r h) → f_BookR B nn 7 a h = some (rv, rg) → mv_C l y_Book_called (Cond.code y_Book_called b_Book_called 5 (Option.some Jvm.ClassFile.FieldType.int) :: ma) ({ frames := nn + 7, cells := 0, slots := 0, locals := 60 * nn + 400 }) (mg dA D al ext) (mK sk sv) [.ref (al B), .int a] h (mv_Ui (fun v σ1 => rv = some v ∧ rg = σ1 ∧ mv_r σ1 = mv_r h) ("MachineLoomModel$Book$Wrong", al (B + 33)) (fun σ1 => rv = none ∧ rg = σ1 ∧ mv_r σ1 = mv_r h))) ∧ (∀ (a : Int32) (h : mv_H) (rv : Option Int32) (rg : mv_H), Br B (mv_r h) → f_BookR B nn 8 a h = some (rv, rg) → mv_C l y_Book_together (Cond.code y_Book_together b_Book_together 7 (Option.some Jvm.ClassFile.FieldType.int) :: ma) ({ frames := nn + 7, cells := 0, slots := 0, locals := 60 * nn + 400 }) (mg dA D al ext) (mK sk sv) [.ref (al B)] h (mv_Ui (fun v σ1 => rv = some v ∧ rg = σ1 ∧ mv_r σ1 = mv_r h) ("MachineLoomModel$Book$Wrong", al (B + 33)) (fun σ1 => rv = none ∧ rg = σ1 ∧ mv_r σ1 = mv_r h)))
set_option maxHeartbeats 4000000 in
set_option maxRecDepth 100000 in
theorem cr_Book_expression_x (l : Launch) {dA : FieldType → ClassId} {D : va_G} {al : Nat → Nat} {ext : mv_Sh} {sk sv : Nat → Nat} (hi : mv_inj (mg dA D al ext)) (nn : Nat) (ih : RecX l dA D al ext sk sv 74 nn) (h : mv_H) (hb : Br 74 (mv_r h))  {rv : Option Int32} {rg : mv_H} (hf : f_Book_expression 74 (f_BookR 74 nn) h = some (rv, rg)) : mv_C l y_Book_expression (Cond.code y_Book_expression b_Book_expression 5 (Option.some Jvm.ClassFile.FieldType.int) :: ma) ({ frames := nn + 1 + 7, cells := 0, slots := 0, locals := 60 * (nn + 1) + 400 }) (mg dA D al ext) (mK sk sv) [.ref (al 74)] h (mv_Ui (fun v σ1 => rv = some v ∧ rg = σ1 ∧ mv_r σ1 = mv_r h) ("MachineLoomModel$Book$Wrong", al 107) (fun σ1 => rv = none ∧ rg = σ1 ∧ mv_r σ1 = mv_r h)) := by
  refine mv_C.ofV (cc := b_Book_expression) (nL := 5) (ret := (Option.some Jvm.ClassFile.FieldType.int)) (by decide +kernel) rfl hi (Nat.le_of_ble_eq_true rfl) ?_
  intro p e s m below meth c B hNs hr hnm hno
  unfold f_Book_expression at hf
  refine mv_aload_n (pc := 0) B d_Book_expression_0 rfl 0 rfl ?_
  refine mv_iconst (pc := 1) (v := 0) B d_Book_expression_1 (by decide) ?_
  obtain ⟨og1, g1, eg1, hf⟩ := xtb_e hf
  refine mv_callVUi (pc := 2) (n := 1) (ci := 12) (C := R_Book) B (mK_ok sk sv) hNs rfl rfl (ih.2.1 _ _ _ _ (hb) eg1) rfl (ma_goodc kc_Book_binary) (B.2.2.2.1 _ k_2249) (B.2.2.2.1 _ k_2251) (B.2.2.2.1 _ ks_105) (B.2.2.2.1 _ k_13) ⟨by decide +kernel, by decide +kernel, by decide +kernel⟩ rfl d_Book_expression_2 rfl (Nat.le_of_ble_eq_true rfl) ⟨by first | decide | (dsimp only; omega), by first | decide | (dsimp only; omega)⟩ ⟨Nat.le_refl _, Nat.le_refl _⟩ ⟨Nat.le_refl _, Nat.le_refl _⟩ (mv_noH hno _) (fun τ9 g9 => Or.inr ⟨rfl, xth hf g9 rfl⟩) (fun u2 σ2 h2 => ?_)
  obtain ⟨rfl, rfl, s_g1⟩ := h2
  have hf := xt2_s hf
  have r_g1 : mv_r g1 = mv_r h := s_g1.trans rfl
  refine mv_istore_n (pc := 5) B d_Book_expression_5 rfl (by decide) rfl ?_
  refine mv_aload_n (pc := 6) B d_Book_expression_6 rfl 1 rfl ?_
  refine mv_getI (pc := 7) (ci := 12) (C := R_Book) (T := F_Book) (N := 65) B 4 rfl rfl (by decide) i_Book (B.2.2.2.1 _ k_1847) rfl d_Book_expression_7 ?_
  refine mv_bipush (pc := 10) (v := 63) B d_Book_expression_10 (by decide) ?_
  refine mv_icmp_eq (pc := 12) (tgt := 17) B d_Book_expression_12 rfl (fun h12 => ?_) (fun h12 => ?_)
  · skip
    have hf := xif_t h12 hf
    refine mv_aload_n (pc := 17) B d_Book_expression_17 rfl 1 rfl ?_
    refine mv_getI (pc := 18) (ci := 12) (C := R_Book) (T := F_Book) (N := 65) B 5 rfl rfl (by decide) i_Book (B.2.2.2.1 _ k_1848) rfl d_Book_expression_18 ?_
    refine mv_istore_n (pc := 21) B d_Book_expression_21 rfl (by decide) rfl ?_
    refine mv_aload_n (pc := 22) B d_Book_expression_22 rfl 2 rfl ?_
    obtain ⟨og3, g3, eg3, hf⟩ := xtb_e hf
    refine mv_callVUv (pc := 23) (n := 0) (ci := 12) (C := R_Book) B (mK_ok sk sv) hNs rfl rfl (ch_Book_pass_x l hi _ (xrw r_g1 hb) eg3) rfl (ma_goodc kc_Book_pass) (B.2.2.2.1 _ k_2173) (B.2.2.2.1 _ k_2175) (B.2.2.2.1 _ ks_90) (B.2.2.2.1 _ k_13) ⟨by decide +kernel, by decide +kernel, by decide +kernel⟩ rfl d_Book_expression_23 rfl (Nat.le_of_ble_eq_true rfl) ⟨by first | decide | (dsimp only; omega), by first | decide | (dsimp only; omega)⟩ ⟨Nat.le_refl _, Nat.le_refl _⟩ ⟨Nat.le_refl _, Nat.le_refl _⟩ (mv_noH hno _) (fun τ9 g9 => Or.inr ⟨rfl, xth hf g9 r_g1⟩) (fun σ23 h23 => ?_)
    obtain ⟨rfl, rfl, s_g3⟩ := h23
    have hf := xt2_s hf
    have r_g3 : mv_r g3 = mv_r h := s_g3.trans r_g1
    refine mv_aload_n (pc := 26) B d_Book_expression_26 rfl 2 rfl ?_
    refine mv_dup (pc := 27) B d_Book_expression_27 rfl ?_
    refine mv_getI (pc := 28) (ci := 12) (C := R_Book) (T := F_Book) (N := 65) B 8 rfl rfl (by decide) i_Book (B.2.2.2.1 _ k_1851) rfl d_Book_expression_28 ?_
    refine mv_iconst (pc := 31) (v := 1) B d_Book_expression_31 (by decide) ?_
    refine mv_iadd (pc := 32) B d_Book_expression_32 ?_
    refine mv_putI (pc := 33) (ci := 12) (C := R_Book) (T := F_Book) (N := 65) B 8 rfl rfl (by decide) i_Book t_Book_ok n_Book (B.2.2.2.1 _ k_1851) rfl rfl rfl rfl d_Book_expression_33 ?_
    refine mvh_hp (R9 := mv_r h) hf r_g3 (fun g5 hf r_g5 => ?_)
    refine mv_aload_n (pc := 36) B d_Book_expression_36 rfl 2 rfl ?_
    obtain ⟨og6, g6, eg6, hf⟩ := xtb_e hf
    refine mv_callVUi (pc := 37) (n := 0) (ci := 12) (C := R_Book) B (mK_ok sk sv) hNs rfl rfl (ih.1 _ _ _ _ (xrw r_g5 hb) eg6) rfl (ma_goodc kc_Book_expression) (B.2.2.2.1 _ k_2245) (B.2.2.2.1 _ k_2247) (B.2.2.2.1 _ ks_104) (B.2.2.2.1 _ k_13) ⟨by decide +kernel, by decide +kernel, by decide +kernel⟩ rfl d_Book_expression_37 rfl (Nat.le_of_ble_eq_true rfl) ⟨by first | decide | (dsimp only; omega), by first | decide | (dsimp only; omega)⟩ ⟨Nat.le_refl _, Nat.le_refl _⟩ ⟨Nat.le_refl _, Nat.le_refl _⟩ (mv_noH hno _) (fun τ9 g9 => Or.inr ⟨rfl, xth hf g9 r_g5⟩) (fun u7 σ37 h37 => ?_)
    obtain ⟨rfl, rfl, s_g6⟩ := h37
    have hf := xt2_s hf
    have r_g6 : mv_r g6 = mv_r h := s_g6.trans r_g5
    refine mv_istore_n (pc := 40) B d_Book_expression_40 rfl (by decide) rfl ?_
    refine mv_aload_n (pc := 41) B d_Book_expression_41 rfl 3 rfl ?_
    refine mv_bipush (pc := 42) (v := 58) B d_Book_expression_42 (by decide) ?_
    obtain ⟨og8, g8, eg8, hf⟩ := xtb_e hf
    refine mv_callVUv (pc := 44) (n := 1) (ci := 12) (C := R_Book) B (mK_ok sk sv) hNs rfl rfl (ch_Book_need_x l hi _ (xrw r_g6 hb) _ eg8) rfl (ma_goodc kc_Book_need) (B.2.2.2.1 _ k_2177) (B.2.2.2.1 _ k_2179) (B.2.2.2.1 _ ks_91) (B.2.2.2.1 _ k_13) ⟨by decide +kernel, by decide +kernel, by decide +kernel⟩ rfl d_Book_expression_44 rfl (Nat.le_of_ble_eq_true rfl) ⟨by first | decide | (dsimp only; omega), by first | decide | (dsimp only; omega)⟩ ⟨Nat.le_refl _, Nat.le_refl _⟩ ⟨Nat.le_refl _, Nat.le_refl _⟩ (mv_noH hno _) (fun τ9 g9 => Or.inr ⟨rfl, xth hf g9 r_g6⟩) (fun σ44 h44 => ?_)
    obtain ⟨rfl, rfl, s_g8⟩ := h44
    have hf := xt2_s hf
    have r_g8 : mv_r g8 = mv_r h := s_g8.trans r_g6
    refine mv_aload_n (pc := 47) B d_Book_expression_47 rfl 3 rfl ?_
    obtain ⟨og10, g10, eg10, hf⟩ := xtb_e hf
    refine mv_callVUi (pc := 48) (n := 0) (ci := 12) (C := R_Book) B (mK_ok sk sv) hNs rfl rfl (ih.1 _ _ _ _ (xrw r_g8 hb) eg10) rfl (ma_goodc kc_Book_expression) (B.2.2.2.1 _ k_2245) (B.2.2.2.1 _ k_2247) (B.2.2.2.1 _ ks_104) (B.2.2.2.1 _ k_13) ⟨by decide +kernel, by decide +kernel, by decide +kernel⟩ rfl d_Book_expression_48 rfl (Nat.le_of_ble_eq_true rfl) ⟨by first | decide | (dsimp only; omega), by first | decide | (dsimp only; omega)⟩ ⟨Nat.le_refl _, Nat.le_refl _⟩ ⟨Nat.le_refl _, Nat.le_refl _⟩ (mv_noH hno _) (fun τ9 g9 => Or.inr ⟨rfl, xth hf g9 r_g8⟩) (fun u11 σ48 h48 => ?_)
    obtain ⟨rfl, rfl, s_g10⟩ := h48
    have hf := xt2_s hf
    have r_g10 : mv_r g10 = mv_r h := s_g10.trans r_g8
    refine mv_istore (pc := 51) B d_Book_expression_51 (by decide) rfl ?_
    refine mv_aload_n (pc := 53) B d_Book_expression_53 rfl 4 rfl ?_
    refine mv_dup (pc := 54) B d_Book_expression_54 rfl ?_
    refine mv_getI (pc := 55) (ci := 12) (C := R_Book) (T := F_Book) (N := 65) B 8 rfl rfl (by decide) i_Book (B.2.2.2.1 _ k_1851) rfl d_Book_expression_55 ?_
    refine mv_iconst (pc := 58) (v := 1) B d_Book_expression_58 (by decide) ?_
    refine mv_isub (pc := 59) B d_Book_expression_59 ?_
    refine mv_putI (pc := 60) (ci := 12) (C := R_Book) (T := F_Book) (N := 65) B 8 rfl rfl (by decide) i_Book t_Book_ok n_Book (B.2.2.2.1 _ k_1851) rfl rfl rfl rfl d_Book_expression_60 ?_
    refine mvh_hp (R9 := mv_r h) hf r_g10 (fun g12 hf r_g12 => ?_)
    refine mv_aload_n (pc := 63) B d_Book_expression_63 rfl 4 rfl ?_
    refine mv_iload_n (pc := 64) B d_Book_expression_64 rfl 2 rfl ?_
    refine mv_iload_n (pc := 65) B d_Book_expression_65 rfl 3 rfl ?_
    refine mv_iload_n (pc := 66) B d_Book_expression_66 rfl 1 rfl ?_
    refine mv_iload (pc := 67) B d_Book_expression_67 0 rfl ?_
    obtain ⟨u14, g13, eg13, hf⟩ := xhb_e hf
    refine mv_callVi (pc := 69) (n := 4) (ci := 12) (C := R_Book) B (mK_ok sk sv) hNs rfl rfl (ch_Book_chosen_x l hi _ (xrw r_g12 hb) _ _ _ _ eg13) rfl (ma_goodc kc_Book_chosen) (B.2.2.2.1 _ k_2321) (B.2.2.2.1 _ k_2323) (B.2.2.2.1 _ ks_119) (B.2.2.2.1 _ k_13) ⟨by decide +kernel, by decide +kernel, by decide +kernel⟩ rfl d_Book_expression_69 rfl (Nat.le_of_ble_eq_true rfl) ⟨by first | decide | (dsimp only; omega), by first | decide | (dsimp only; omega)⟩ ⟨Nat.le_refl _, Nat.le_refl _⟩ ⟨Nat.le_refl _, Nat.le_refl _⟩ (mv_noH hno _) (fun w69 σ69 h69 => ?_)
    obtain ⟨rfl, rfl, s_g13⟩ := h69
    have r_g13 : mv_r g13 = mv_r h := s_g13.trans r_g12
    exact mv_iret (pc := 72) B hr rfl d_Book_expression_72 (Nat.le_refl _) (Nat.le_refl _) (Or.inl ⟨_, rfl, xrt_i hf r_g13⟩)
  · skip
    have hf := xif_f h12 hf
    refine mv_iload_n (pc := 15) B d_Book_expression_15 rfl 0 rfl ?_
    exact mv_iret (pc := 16) B hr rfl d_Book_expression_16 (Nat.le_refl _) (Nat.le_refl _) (Or.inl ⟨_, rfl, xrt_i hf r_g1⟩)
set_option maxHeartbeats 4000000 in
set_option maxRecDepth 100000 in
theorem cr_Book_binary_x (l : Launch) {dA : FieldType → ClassId} {D : va_G} {al : Nat → Nat} {ext : mv_Sh} {sk sv : Nat → Nat} (hi : mv_inj (mg dA D al ext)) (nn : Nat) (ih : RecX l dA D al ext sk sv 74 nn) (h : mv_H) (hb : Br 74 (mv_r h))  (a0 : Int32) {rv : Option Int32} {rg : mv_H} (hf : f_Book_binary 74 (f_BookR 74 nn) h a0 = some (rv, rg)) : mv_C l y_Book_binary (Cond.code y_Book_binary b_Book_binary 5 (Option.some Jvm.ClassFile.FieldType.int) :: ma) ({ frames := nn + 1 + 7, cells := 0, slots := 0, locals := 60 * (nn + 1) + 400 }) (mg dA D al ext) (mK sk sv) [.ref (al 74), .int a0] h (mv_Ui (fun v σ1 => rv = some v ∧ rg = σ1 ∧ mv_r σ1 = mv_r h) ("MachineLoomModel$Book$Wrong", al 107) (fun σ1 => rv = none ∧ rg = σ1 ∧ mv_r σ1 = mv_r h)) := by
  refine mv_C.ofV (cc := b_Book_binary) (nL := 5) (ret := (Option.some Jvm.ClassFile.FieldType.int)) (by decide +kernel) rfl hi (Nat.le_of_ble_eq_true rfl) ?_
  intro p e s m below meth c B hNs hr hnm hno
  have lp19 : ∀ (nn19 : Nat) (x1 : Int32) (x2 : Int32) (hz : mv_H), mv_r hz = mv_r h → f_Book_binary_19 74 (f_BookR 74 nn) nn19 x1 x2 hz = some (rv, rg) → mv_V p l e ({ frames := nn + 1 + 7, cells := 0, slots := 0, locals := 60 * (nn + 1) + 400 }) s m ([.ref (al 74), .int a0] : List Value).toArray below meth c (mg dA D al ext) 5 0 0 (mv_Q (mg dA D al ext) below s 0 0 (mv_Ui (fun v σ1 => rv = some v ∧ rg = σ1 ∧ mv_r σ1 = mv_r h) ("MachineLoomModel$Book$Wrong", al 107) (fun σ1 => rv = none ∧ rg = σ1 ∧ mv_r σ1 = mv_r h))) hz 19 [(0, .ref (al 74)), (1, .int x1), (2, .int x2)] [] := by
    intro nn19
    induction nn19 with
    | zero => intro x1 x2 hz r_hz hf; cases hf
    | succ nn19 ih19 =>
      intro x1 x2 hz r_hz hf
      have hf : fF_Book_binary_19 74 (f_BookR 74 nn) (f_Book_binary_19 74 (f_BookR 74 nn) nn19) x1 x2 hz = some (rv, rg) := hf
      unfold fF_Book_binary_19 at hf
      refine mv_aload_n (pc := 19) B d_Book_binary_19 rfl 0 rfl ?_
      refine mv_getI (pc := 20) (ci := 12) (C := R_Book) (T := F_Book) (N := 65) B 4 rfl rfl (by decide) i_Book (B.2.2.2.1 _ k_1847) rfl d_Book_binary_20 ?_
      obtain ⟨u2, g1, eg1, hf⟩ := xhb_e hf
      refine mv_callSi (pc := 23) (n := 1) B (mK_ok sk sv) hNs (ch_Book_levelOf l hi _ _ eg1) rfl (ma_goodc kc_Book_levelOf) (B.2.2.2.1 _ k_2318) (B.2.2.2.1 _ k_2319) (B.2.2.2.1 _ k_13) ⟨by decide +kernel, by decide +kernel, by decide +kernel⟩ rfl d_Book_binary_23 rfl (Nat.le_of_ble_eq_true rfl) ⟨by first | decide | (dsimp only; omega), by first | decide | (dsimp only; omega)⟩ ⟨Nat.le_refl _, Nat.le_refl _⟩ ⟨Nat.le_refl _, Nat.le_refl _⟩ (mv_noH hno _) (fun w23 σ23 h23 => ?_)
      obtain ⟨rfl, rfl, s_g1⟩ := h23
      have r_g1 : mv_r g1 = mv_r h := s_g1.trans r_hz
      refine mv_iload_n (pc := 26) B d_Book_binary_26 rfl 1 rfl ?_
      refine mv_icmp_ne (pc := 27) (tgt := 64) B d_Book_binary_27 rfl (fun h27 => ?_) (fun h27 => ?_)
      · skip
        have hf := xif_f h27 hf
        refine mv_iload_n (pc := 64) B d_Book_binary_64 rfl 2 rfl ?_
        exact mv_iret (pc := 65) B hr rfl d_Book_binary_65 (Nat.le_refl _) (Nat.le_refl _) (Or.inl ⟨_, rfl, xrt_i hf r_g1⟩)
      · skip
        have hf := xif_t h27 hf
        refine mv_aload_n (pc := 30) B d_Book_binary_30 rfl 0 rfl ?_
        refine mv_getI (pc := 31) (ci := 12) (C := R_Book) (T := F_Book) (N := 65) B 4 rfl rfl (by decide) i_Book (B.2.2.2.1 _ k_1847) rfl d_Book_binary_31 ?_
        refine mv_istore_n (pc := 34) B d_Book_binary_34 rfl (by decide) rfl ?_
        refine mv_aload_n (pc := 35) B d_Book_binary_35 rfl 1 rfl ?_
        refine mv_getI (pc := 36) (ci := 12) (C := R_Book) (T := F_Book) (N := 65) B 5 rfl rfl (by decide) i_Book (B.2.2.2.1 _ k_1848) rfl d_Book_binary_36 ?_
        refine mv_istore (pc := 39) B d_Book_binary_39 (by decide) rfl ?_
        refine mv_aload_n (pc := 41) B d_Book_binary_41 rfl 2 rfl ?_
        obtain ⟨og3, g3, eg3, hf⟩ := xtb_e hf
        refine mv_callVUv (pc := 42) (n := 0) (ci := 12) (C := R_Book) B (mK_ok sk sv) hNs rfl rfl (ch_Book_pass_x l hi _ (xrw r_g1 hb) eg3) rfl (ma_goodc kc_Book_pass) (B.2.2.2.1 _ k_2173) (B.2.2.2.1 _ k_2175) (B.2.2.2.1 _ ks_90) (B.2.2.2.1 _ k_13) ⟨by decide +kernel, by decide +kernel, by decide +kernel⟩ rfl d_Book_binary_42 rfl (Nat.le_of_ble_eq_true rfl) ⟨by first | decide | (dsimp only; omega), by first | decide | (dsimp only; omega)⟩ ⟨Nat.le_refl _, Nat.le_refl _⟩ ⟨Nat.le_refl _, Nat.le_refl _⟩ (mv_noH hno _) (fun τ9 g9 => Or.inr ⟨rfl, xth hf g9 r_g1⟩) (fun σ42 h42 => ?_)
        obtain ⟨rfl, rfl, s_g3⟩ := h42
        have hf := xt2_s hf
        have r_g3 : mv_r g3 = mv_r h := s_g3.trans r_g1
        refine mv_aload_n (pc := 45) B d_Book_binary_45 rfl 2 rfl ?_
        refine mv_iload_n (pc := 46) B d_Book_binary_46 rfl 1 rfl ?_
        refine mv_iload (pc := 47) B d_Book_binary_47 0 rfl ?_
        refine mv_iload_n (pc := 49) B d_Book_binary_49 rfl 4 rfl ?_
        refine mv_aload_n (pc := 50) B d_Book_binary_50 rfl 2 rfl ?_
        refine mv_iload_n (pc := 51) B d_Book_binary_51 rfl 3 rfl ?_
        refine mv_iconst (pc := 52) (v := 1) B d_Book_binary_52 (by decide) ?_
        refine mv_iadd (pc := 53) B d_Book_binary_53 ?_
        obtain ⟨og5, g5, eg5, hf⟩ := xtb_e hf
        refine mv_callVUi (pc := 54) (n := 1) (ci := 12) (C := R_Book) B (mK_ok sk sv) hNs rfl rfl (ih.2.1 _ _ _ _ (xrw r_g3 hb) eg5) rfl (ma_goodc kc_Book_binary) (B.2.2.2.1 _ k_2249) (B.2.2.2.1 _ k_2251) (B.2.2.2.1 _ ks_105) (B.2.2.2.1 _ k_13) ⟨by decide +kernel, by decide +kernel, by decide +kernel⟩ rfl d_Book_binary_54 rfl (Nat.le_of_ble_eq_true rfl) ⟨by first | decide | (dsimp only; omega), by first | decide | (dsimp only; omega)⟩ ⟨Nat.le_refl _, Nat.le_refl _⟩ ⟨Nat.le_refl _, Nat.le_refl _⟩ (mv_noH hno _) (fun τ9 g9 => Or.inr ⟨rfl, xth hf g9 r_g3⟩) (fun u6 σ54 h54 => ?_)
        obtain ⟨rfl, rfl, s_g5⟩ := h54
        have hf := xt2_s hf
        have r_g5 : mv_r g5 = mv_r h := s_g5.trans r_g3
        obtain ⟨u8, g7, eg7, hf⟩ := xhb_e hf
        refine mv_callVi (pc := 57) (n := 4) (ci := 12) (C := R_Book) B (mK_ok sk sv) hNs rfl rfl (ch_Book_two_x l hi _ (xrw r_g5 hb) _ _ _ _ eg7) rfl (ma_goodc kc_Book_two) (B.2.2.2.1 _ k_2288) (B.2.2.2.1 _ k_2290) (B.2.2.2.1 _ ks_114) (B.2.2.2.1 _ k_13) ⟨by decide +kernel, by decide +kernel, by decide +kernel⟩ rfl d_Book_binary_57 rfl (Nat.le_of_ble_eq_true rfl) ⟨by first | decide | (dsimp only; omega), by first | decide | (dsimp only; omega)⟩ ⟨Nat.le_refl _, Nat.le_refl _⟩ ⟨Nat.le_refl _, Nat.le_refl _⟩ (mv_noH hno _) (fun w57 σ57 h57 => ?_)
        obtain ⟨rfl, rfl, s_g7⟩ := h57
        have r_g7 : mv_r g7 = mv_r h := s_g7.trans r_g5
        refine mv_istore_n (pc := 60) B d_Book_binary_60 rfl (by decide) rfl ?_
        refine mv_goto (pc := 61) (tgt := 19) B d_Book_binary_61 rfl ?_
        refine mv_lpick [3, 4, 0] rfl ?_
        exact ih19 _ _ _ r_g7 hf
  unfold f_Book_binary at hf
  refine mv_iload_n (pc := 0) B d_Book_binary_0 rfl 1 rfl ?_
  refine mv_bipush (pc := 1) (v := 8) B d_Book_binary_1 (by decide) ?_
  refine mv_icmp_ne (pc := 3) (tgt := 11) B d_Book_binary_3 rfl (fun h3 => ?_) (fun h3 => ?_)
  · skip
    have hf := xif_f h3 hf
    refine mv_aload_n (pc := 11) B d_Book_binary_11 rfl 0 rfl ?_
    refine mv_iload_n (pc := 12) B d_Book_binary_12 rfl 1 rfl ?_
    refine mv_iconst (pc := 13) (v := 1) B d_Book_binary_13 (by decide) ?_
    refine mv_iadd (pc := 14) B d_Book_binary_14 ?_
    obtain ⟨og9, g9, eg9, hf⟩ := xtb_e hf
    refine mv_callVUi (pc := 15) (n := 1) (ci := 12) (C := R_Book) B (mK_ok sk sv) hNs rfl rfl (ih.2.1 _ _ _ _ (hb) eg9) rfl (ma_goodc kc_Book_binary) (B.2.2.2.1 _ k_2249) (B.2.2.2.1 _ k_2251) (B.2.2.2.1 _ ks_105) (B.2.2.2.1 _ k_13) ⟨by decide +kernel, by decide +kernel, by decide +kernel⟩ rfl d_Book_binary_15 rfl (Nat.le_of_ble_eq_true rfl) ⟨by first | decide | (dsimp only; omega), by first | decide | (dsimp only; omega)⟩ ⟨Nat.le_refl _, Nat.le_refl _⟩ ⟨Nat.le_refl _, Nat.le_refl _⟩ (mv_noH hno _) (fun τ9 g9 => Or.inr ⟨rfl, xth hf g9 rfl⟩) (fun u10 σ15 h15 => ?_)
    obtain ⟨rfl, rfl, s_g9⟩ := h15
    have hf := xt2_s hf
    have r_g9 : mv_r g9 = mv_r h := s_g9.trans rfl
    refine mv_istore_n (pc := 18) B d_Book_binary_18 rfl (by decide) rfl ?_
    refine mv_lpick [1, 2, 0] rfl ?_
    exact lp19 _ _ _ _ r_g9 hf
  · skip
    have hf := xif_t h3 hf
    refine mv_aload_n (pc := 6) B d_Book_binary_6 rfl 0 rfl ?_
    obtain ⟨og11, g11, eg11, hf⟩ := xtb_e hf
    refine mv_callVUi (pc := 7) (n := 0) (ci := 12) (C := R_Book) B (mK_ok sk sv) hNs rfl rfl (ih.2.2.1 _ _ _ _ (hb) eg11) rfl (ma_goodc kc_Book_unary) (B.2.2.2.1 _ k_2253) (B.2.2.2.1 _ k_2255) (B.2.2.2.1 _ ks_106) (B.2.2.2.1 _ k_13) ⟨by decide +kernel, by decide +kernel, by decide +kernel⟩ rfl d_Book_binary_7 rfl (Nat.le_of_ble_eq_true rfl) ⟨by first | decide | (dsimp only; omega), by first | decide | (dsimp only; omega)⟩ ⟨Nat.le_refl _, Nat.le_refl _⟩ ⟨Nat.le_refl _, Nat.le_refl _⟩ (mv_noH hno _) (fun τ9 g9 => Or.inr ⟨rfl, xth hf g9 rfl⟩) (fun u12 σ7 h7 => ?_)
    obtain ⟨rfl, rfl, s_g11⟩ := h7
    have hf := xt2_s hf
    have r_g11 : mv_r g11 = mv_r h := s_g11.trans rfl
    exact mv_iret (pc := 10) B hr rfl d_Book_binary_10 (Nat.le_refl _) (Nat.le_refl _) (Or.inl ⟨_, rfl, xrt_i hf r_g11⟩)
set_option maxHeartbeats 4000000 in
set_option maxRecDepth 100000 in
theorem cr_Book_unary_x (l : Launch) {dA : FieldType → ClassId} {D : va_G} {al : Nat → Nat} {ext : mv_Sh} {sk sv : Nat → Nat} (hi : mv_inj (mg dA D al ext)) (nn : Nat) (ih : RecX l dA D al ext sk sv 74 nn) (h : mv_H) (hb : Br 74 (mv_r h))  {rv : Option Int32} {rg : mv_H} (hf : f_Book_unary 74 (f_BookR 74 nn) h = some (rv, rg)) : mv_C l y_Book_unary (Cond.code y_Book_unary b_Book_unary 5 (Option.some Jvm.ClassFile.FieldType.int) :: ma) ({ frames := nn + 1 + 7, cells := 0, slots := 0, locals := 60 * (nn + 1) + 400 }) (mg dA D al ext) (mK sk sv) [.ref (al 74)] h (mv_Ui (fun v σ1 => rv = some v ∧ rg = σ1 ∧ mv_r σ1 = mv_r h) ("MachineLoomModel$Book$Wrong", al 107) (fun σ1 => rv = none ∧ rg = σ1 ∧ mv_r σ1 = mv_r h)) := by
  refine mv_C.ofV (cc := b_Book_unary) (nL := 5) (ret := (Option.some Jvm.ClassFile.FieldType.int)) (by decide +kernel) rfl hi (Nat.le_of_ble_eq_true rfl) ?_
  intro p e s m below meth c B hNs hr hnm hno
  have jn144 : ∀ (y0 : Int32) (y1 : Int32) (y2 : Int32) (y3 : Int32) (y4 : Int32) (hz : mv_H), mv_r hz = mv_r h → f_Book_unary_144 74 (f_BookR 74 nn) y0 y1 y2 y3 y4 hz = some (rv, rg) → mv_V p l e ({ frames := nn + 1 + 7, cells := 0, slots := 0, locals := 60 * (nn + 1) + 400 }) s m ([.ref (al 74)] : List Value).toArray below meth c (mg dA D al ext) 5 0 0 (mv_Q (mg dA D al ext) below s 0 0 (mv_Ui (fun v σ1 => rv = some v ∧ rg = σ1 ∧ mv_r σ1 = mv_r h) ("MachineLoomModel$Book$Wrong", al 107) (fun σ1 => rv = none ∧ rg = σ1 ∧ mv_r σ1 = mv_r h))) hz 144 [] [.int y0, .int y1, .int y2, .int y3, .int y4, .ref (al 74)] := by
    intro y0 y1 y2 y3 y4 hz r_hz hf
    unfold f_Book_unary_144 at hf
    obtain ⟨u2, g1, eg1, hf⟩ := xhb_e hf
    refine mv_callVi (pc := 144) (n := 5) (ci := 12) (C := R_Book) B (mK_ok sk sv) hNs rfl rfl (ch_Book_node_x l hi _ (xrw r_hz hb) _ _ _ _ _ eg1) rfl (ma_goodc kc_Book_node) (B.2.2.2.1 _ k_2269) (B.2.2.2.1 _ k_2271) (B.2.2.2.1 _ ks_110) (B.2.2.2.1 _ k_13) ⟨by decide +kernel, by decide +kernel, by decide +kernel⟩ rfl d_Book_unary_144 rfl (Nat.le_of_ble_eq_true rfl) ⟨by first | decide | (dsimp only; omega), by first | decide | (dsimp only; omega)⟩ ⟨Nat.le_refl _, Nat.le_refl _⟩ ⟨Nat.le_refl _, Nat.le_refl _⟩ (mv_noH hno _) (fun w144 σ144 h144 => ?_)
    obtain ⟨rfl, rfl, s_g1⟩ := h144
    have r_g1 : mv_r g1 = mv_r h := s_g1.trans r_hz
    exact mv_iret (pc := 147) B hr rfl d_Book_unary_147 (Nat.le_refl _) (Nat.le_refl _) (Or.inl ⟨_, rfl, xrt_i hf r_g1⟩)
  have jn123 : ∀ (x1 : Int32) (x3 : Int32) (x4 : Int32) (hz : mv_H), mv_r hz = mv_r h → f_Book_unary_123 74 (f_BookR 74 nn) x1 x3 x4 hz = some (rv, rg) → mv_V p l e ({ frames := nn + 1 + 7, cells := 0, slots := 0, locals := 60 * (nn + 1) + 400 }) s m ([.ref (al 74)] : List Value).toArray below meth c (mg dA D al ext) 5 0 0 (mv_Q (mg dA D al ext) below s 0 0 (mv_Ui (fun v σ1 => rv = some v ∧ rg = σ1 ∧ mv_r σ1 = mv_r h) ("MachineLoomModel$Book$Wrong", al 107) (fun σ1 => rv = none ∧ rg = σ1 ∧ mv_r σ1 = mv_r h))) hz 123 [(0, .ref (al 74)), (1, .int x1), (3, .int x3), (4, .int x4)] [] := by
    intro x1 x3 x4 hz r_hz hf
    unfold f_Book_unary_123 at hf
    refine mv_aload_n (pc := 123) B d_Book_unary_123 rfl 0 rfl ?_
    refine mv_bipush (pc := 124) (v := 6) B d_Book_unary_124 (by decide) ?_
    refine mv_iload_n (pc := 126) B d_Book_unary_126 rfl 2 rfl ?_
    refine mv_iload_n (pc := 127) B d_Book_unary_127 rfl 1 rfl ?_
    refine mv_iconst (pc := 128) (v := 0) B d_Book_unary_128 (by decide) ?_
    refine mv_iload (pc := 129) B d_Book_unary_129 3 rfl ?_
    refine mv_if_eq (pc := 131) (tgt := 143) B d_Book_unary_131 rfl (fun h131 => ?_) (fun h131 => ?_)
    · skip
      have hf := xif_t h131 hf
      refine mv_iconst (pc := 143) (v := 0) B d_Book_unary_143 (by decide) ?_
      refine mv_lpick [] rfl ?_
      exact jn144 _ _ _ _ _ _ r_hz hf
    · skip
      have hf := xif_f h131 hf
      refine mv_aload_n (pc := 134) B d_Book_unary_134 rfl 0 rfl ?_
      refine mv_getR (pc := 135) (ci := 12) (C := R_Book) (T := F_Book) (N := 65) B 45 rfl rfl (by decide) i_Book (B.2.2.2.1 _ k_1894) rfl ((congrFun (congrFun r_hz 74) 45).trans (hb.1 74 45 _ rfl)) d_Book_unary_135 ?_
      refine mv_iload_n (pc := 138) B d_Book_unary_138 rfl 2 rfl ?_
      obtain ⟨q3, hf⟩ := xvi_e hf
      refine mv_iald (pc := 139) B rfl q3 d_Book_unary_139 ?_
      refine mv_goto (pc := 140) (tgt := 144) B d_Book_unary_140 rfl ?_
      refine mv_lpick [] rfl ?_
      exact jn144 _ _ _ _ _ _ r_hz hf
  have jn101 : ∀ (x1 : Int32) (x2 : Int32) (x3 : Int32) (y0 : Int32) (hz : mv_H), mv_r hz = mv_r h → f_Book_unary_101 74 (f_BookR 74 nn) x1 x2 x3 y0 hz = some (rv, rg) → mv_V p l e ({ frames := nn + 1 + 7, cells := 0, slots := 0, locals := 60 * (nn + 1) + 400 }) s m ([.ref (al 74)] : List Value).toArray below meth c (mg dA D al ext) 5 0 0 (mv_Q (mg dA D al ext) below s 0 0 (mv_Ui (fun v σ1 => rv = some v ∧ rg = σ1 ∧ mv_r σ1 = mv_r h) ("MachineLoomModel$Book$Wrong", al 107) (fun σ1 => rv = none ∧ rg = σ1 ∧ mv_r σ1 = mv_r h))) hz 101 [(0, .ref (al 74)), (1, .int x1), (2, .int x2), (3, .int x3)] [.int y0] := by
    intro x1 x2 x3 y0 hz r_hz hf
    unfold f_Book_unary_101 at hf
    refine mv_istore (pc := 101) B d_Book_unary_101 (by decide) rfl ?_
    refine mv_aload_n (pc := 103) B d_Book_unary_103 rfl 1 rfl ?_
    refine mv_getR (pc := 104) (ci := 12) (C := R_Book) (T := F_Book) (N := 65) B 45 rfl rfl (by decide) i_Book (B.2.2.2.1 _ k_1894) rfl ((congrFun (congrFun r_hz 74) 45).trans (hb.1 74 45 _ rfl)) d_Book_unary_104 ?_
    refine mv_iload_n (pc := 107) B d_Book_unary_107 rfl 4 rfl ?_
    obtain ⟨q4, hf⟩ := xvi_e hf
    refine mv_iald (pc := 108) B rfl q4 d_Book_unary_108 ?_
    refine mv_if_le (pc := 109) (tgt := 123) B d_Book_unary_109 rfl (fun h109 => ?_) (fun h109 => ?_)
    · skip
      have hf := xif_t h109 hf
      refine mv_lpick [1, 2, 4, 0] rfl ?_
      exact jn123 _ _ _ _ r_hz hf
    · skip
      have hf := xif_f h109 hf
      refine mv_iload (pc := 112) B d_Book_unary_112 0 rfl ?_
      refine mv_if_ne (pc := 114) (tgt := 123) B d_Book_unary_114 rfl (fun h114 => ?_) (fun h114 => ?_)
      · skip
        have hf := xif_f h114 hf
        refine mv_lpick [1, 2, 4, 0] rfl ?_
        exact jn123 _ _ _ _ r_hz hf
      · skip
        have hf := xif_t h114 hf
        refine mv_aload_n (pc := 117) B d_Book_unary_117 rfl 1 rfl ?_
        refine mv_iconst (pc := 118) (v := 4) B d_Book_unary_118 (by decide) ?_
        refine mv_iload_n (pc := 119) B d_Book_unary_119 rfl 3 rfl ?_
        obtain ⟨g5, eg5, hf⟩ := xhv_e hf
        refine mv_callVv (pc := 120) (n := 2) (ci := 12) (C := R_Book) B (mK_ok sk sv) hNs rfl rfl (ch_Book_fault_x l hi _ _ _ eg5) rfl (ma_goodc kc_Book_fault) (B.2.2.2.1 _ k_2185) (B.2.2.2.1 _ k_2187) (B.2.2.2.1 _ ks_92) (B.2.2.2.1 _ k_13) ⟨by decide +kernel, by decide +kernel, by decide +kernel⟩ rfl d_Book_unary_120 rfl (Nat.le_of_ble_eq_true rfl) ⟨by first | decide | (dsimp only; omega), by first | decide | (dsimp only; omega)⟩ ⟨Nat.le_refl _, Nat.le_refl _⟩ ⟨Nat.le_refl _, Nat.le_refl _⟩ (mv_noH hno _) (fun σ120 h120 => ?_)
        obtain ⟨rfl, s_g5⟩ := h120
        have r_g5 : mv_r g5 = mv_r h := s_g5.trans r_hz
        refine mv_lpick [1, 2, 4, 0] rfl ?_
        exact jn123 _ _ _ _ r_g5 hf
  have jn100 : ∀ (x1 : Int32) (x2 : Int32) (x3 : Int32) (hz : mv_H), mv_r hz = mv_r h → f_Book_unary_100 74 (f_BookR 74 nn) x1 x2 x3 hz = some (rv, rg) → mv_V p l e ({ frames := nn + 1 + 7, cells := 0, slots := 0, locals := 60 * (nn + 1) + 400 }) s m ([.ref (al 74)] : List Value).toArray below meth c (mg dA D al ext) 5 0 0 (mv_Q (mg dA D al ext) below s 0 0 (mv_Ui (fun v σ1 => rv = some v ∧ rg = σ1 ∧ mv_r σ1 = mv_r h) ("MachineLoomModel$Book$Wrong", al 107) (fun σ1 => rv = none ∧ rg = σ1 ∧ mv_r σ1 = mv_r h))) hz 100 [(0, .ref (al 74)), (1, .int x1), (2, .int x2), (3, .int x3)] [] := by
    intro x1 x2 x3 hz r_hz hf
    unfold f_Book_unary_100 at hf
    refine mv_iconst (pc := 100) (v := 0) B d_Book_unary_100 (by decide) ?_
    refine mv_lpick [0, 1, 2, 3] rfl ?_
    exact jn101 _ _ _ _ _ r_hz hf
  have jn96 : ∀ (x1 : Int32) (x2 : Int32) (x3 : Int32) (hz : mv_H), mv_r hz = mv_r h → f_Book_unary_96 74 (f_BookR 74 nn) x1 x2 x3 hz = some (rv, rg) → mv_V p l e ({ frames := nn + 1 + 7, cells := 0, slots := 0, locals := 60 * (nn + 1) + 400 }) s m ([.ref (al 74)] : List Value).toArray below meth c (mg dA D al ext) 5 0 0 (mv_Q (mg dA D al ext) below s 0 0 (mv_Ui (fun v σ1 => rv = some v ∧ rg = σ1 ∧ mv_r σ1 = mv_r h) ("MachineLoomModel$Book$Wrong", al 107) (fun σ1 => rv = none ∧ rg = σ1 ∧ mv_r σ1 = mv_r h))) hz 96 [(0, .ref (al 74)), (1, .int x1), (2, .int x2), (3, .int x3)] [] := by
    intro x1 x2 x3 hz r_hz hf
    unfold f_Book_unary_96 at hf
    refine mv_iconst (pc := 96) (v := 1) B d_Book_unary_96 (by decide) ?_
    refine mv_goto (pc := 97) (tgt := 101) B d_Book_unary_97 rfl ?_
    refine mv_lpick [0, 1, 2, 3] rfl ?_
    exact jn101 _ _ _ _ _ r_hz hf
  have jn32 : ∀ (hz : mv_H), mv_r hz = mv_r h → f_Book_unary_32 74 (f_BookR 74 nn)  hz = some (rv, rg) → mv_V p l e ({ frames := nn + 1 + 7, cells := 0, slots := 0, locals := 60 * (nn + 1) + 400 }) s m ([.ref (al 74)] : List Value).toArray below meth c (mg dA D al ext) 5 0 0 (mv_Q (mg dA D al ext) below s 0 0 (mv_Ui (fun v σ1 => rv = some v ∧ rg = σ1 ∧ mv_r σ1 = mv_r h) ("MachineLoomModel$Book$Wrong", al 107) (fun σ1 => rv = none ∧ rg = σ1 ∧ mv_r σ1 = mv_r h))) hz 32 [(0, .ref (al 74))] [] := by
    intro  hz r_hz hf
    unfold f_Book_unary_32 at hf
    refine mv_aload_n (pc := 32) B d_Book_unary_32 rfl 0 rfl ?_
    refine mv_getI (pc := 33) (ci := 12) (C := R_Book) (T := F_Book) (N := 65) B 4 rfl rfl (by decide) i_Book (B.2.2.2.1 _ k_1847) rfl d_Book_unary_33 ?_
    refine mv_istore_n (pc := 36) B d_Book_unary_36 rfl (by decide) rfl ?_
    refine mv_aload_n (pc := 37) B d_Book_unary_37 rfl 1 rfl ?_
    refine mv_getI (pc := 38) (ci := 12) (C := R_Book) (T := F_Book) (N := 65) B 5 rfl rfl (by decide) i_Book (B.2.2.2.1 _ k_1848) rfl d_Book_unary_38 ?_
    refine mv_istore_n (pc := 41) B d_Book_unary_41 rfl (by decide) rfl ?_
    refine mv_aload_n (pc := 42) B d_Book_unary_42 rfl 2 rfl ?_
    obtain ⟨og7, g7, eg7, hf⟩ := xtb_e hf
    refine mv_callVUv (pc := 43) (n := 0) (ci := 12) (C := R_Book) B (mK_ok sk sv) hNs rfl rfl (ch_Book_pass_x l hi _ (xrw r_hz hb) eg7) rfl (ma_goodc kc_Book_pass) (B.2.2.2.1 _ k_2173) (B.2.2.2.1 _ k_2175) (B.2.2.2.1 _ ks_90) (B.2.2.2.1 _ k_13) ⟨by decide +kernel, by decide +kernel, by decide +kernel⟩ rfl d_Book_unary_43 rfl (Nat.le_of_ble_eq_true rfl) ⟨by first | decide | (dsimp only; omega), by first | decide | (dsimp only; omega)⟩ ⟨Nat.le_refl _, Nat.le_refl _⟩ ⟨Nat.le_refl _, Nat.le_refl _⟩ (mv_noH hno _) (fun τ9 g9 => Or.inr ⟨rfl, xth hf g9 r_hz⟩) (fun σ43 h43 => ?_)
    obtain ⟨rfl, rfl, s_g7⟩ := h43
    have hf := xt2_s hf
    have r_g7 : mv_r g7 = mv_r h := s_g7.trans r_hz
    refine mv_aload_n (pc := 46) B d_Book_unary_46 rfl 2 rfl ?_
    refine mv_dup (pc := 47) B d_Book_unary_47 rfl ?_
    refine mv_getI (pc := 48) (ci := 12) (C := R_Book) (T := F_Book) (N := 65) B 8 rfl rfl (by decide) i_Book (B.2.2.2.1 _ k_1851) rfl d_Book_unary_48 ?_
    refine mv_iconst (pc := 51) (v := 1) B d_Book_unary_51 (by decide) ?_
    refine mv_iadd (pc := 52) B d_Book_unary_52 ?_
    refine mv_putI (pc := 53) (ci := 12) (C := R_Book) (T := F_Book) (N := 65) B 8 rfl rfl (by decide) i_Book t_Book_ok n_Book (B.2.2.2.1 _ k_1851) rfl rfl rfl rfl d_Book_unary_53 ?_
    refine mvh_hp (R9 := mv_r h) hf r_g7 (fun g9 hf r_g9 => ?_)
    refine mv_aload_n (pc := 56) B d_Book_unary_56 rfl 2 rfl ?_
    obtain ⟨og10, g10, eg10, hf⟩ := xtb_e hf
    refine mv_callVUi (pc := 57) (n := 0) (ci := 12) (C := R_Book) B (mK_ok sk sv) hNs rfl rfl (ih.2.2.1 _ _ _ _ (xrw r_g9 hb) eg10) rfl (ma_goodc kc_Book_unary) (B.2.2.2.1 _ k_2253) (B.2.2.2.1 _ k_2255) (B.2.2.2.1 _ ks_106) (B.2.2.2.1 _ k_13) ⟨by decide +kernel, by decide +kernel, by decide +kernel⟩ rfl d_Book_unary_57 rfl (Nat.le_of_ble_eq_true rfl) ⟨by first | decide | (dsimp only; omega), by first | decide | (dsimp only; omega)⟩ ⟨Nat.le_refl _, Nat.le_refl _⟩ ⟨Nat.le_refl _, Nat.le_refl _⟩ (mv_noH hno _) (fun τ9 g9 => Or.inr ⟨rfl, xth hf g9 r_g9⟩) (fun u11 σ57 h57 => ?_)
    obtain ⟨rfl, rfl, s_g10⟩ := h57
    have hf := xt2_s hf
    have r_g10 : mv_r g10 = mv_r h := s_g10.trans r_g9
    refine mv_istore_n (pc := 60) B d_Book_unary_60 rfl (by decide) rfl ?_
    refine mv_aload_n (pc := 61) B d_Book_unary_61 rfl 3 rfl ?_
    refine mv_dup (pc := 62) B d_Book_unary_62 rfl ?_
    refine mv_getI (pc := 63) (ci := 12) (C := R_Book) (T := F_Book) (N := 65) B 8 rfl rfl (by decide) i_Book (B.2.2.2.1 _ k_1851) rfl d_Book_unary_63 ?_
    refine mv_iconst (pc := 66) (v := 1) B d_Book_unary_66 (by decide) ?_
    refine mv_isub (pc := 67) B d_Book_unary_67 ?_
    refine mv_putI (pc := 68) (ci := 12) (C := R_Book) (T := F_Book) (N := 65) B 8 rfl rfl (by decide) i_Book t_Book_ok n_Book (B.2.2.2.1 _ k_1851) rfl rfl rfl rfl d_Book_unary_68 ?_
    refine mvh_hp (R9 := mv_r h) hf r_g10 (fun g12 hf r_g12 => ?_)
    refine mv_aload_n (pc := 71) B d_Book_unary_71 rfl 3 rfl ?_
    refine mv_getR (pc := 72) (ci := 12) (C := R_Book) (T := F_Book) (N := 65) B 45 rfl rfl (by decide) i_Book (B.2.2.2.1 _ k_1894) rfl ((congrFun (congrFun r_g12 74) 45).trans (hb.1 74 45 _ rfl)) d_Book_unary_72 ?_
    refine mv_iload_n (pc := 75) B d_Book_unary_75 rfl 0 rfl ?_
    obtain ⟨q13, hf⟩ := xvi_e hf
    refine mv_iald (pc := 76) B rfl q13 d_Book_unary_76 ?_
    refine mv_if_le (pc := 77) (tgt := 100) B d_Book_unary_77 rfl (fun h77 => ?_) (fun h77 => ?_)
    · skip
      have hf := xif_t h77 hf
      refine mv_lpick [3, 2, 1, 0] rfl ?_
      exact jn100 _ _ _ _ r_g12 hf
    · skip
      have hf := xif_f h77 hf
      refine mv_iload_n (pc := 80) B d_Book_unary_80 rfl 2 rfl ?_
      refine mv_bipush (pc := 81) (v := 33) B d_Book_unary_81 (by decide) ?_
      refine mv_icmp_ne (pc := 83) (tgt := 96) B d_Book_unary_83 rfl (fun h83 => ?_) (fun h83 => ?_)
      · skip
        have hf := xif_f h83 hf
        refine mv_lpick [3, 2, 1, 0] rfl ?_
        exact jn96 _ _ _ _ r_g12 hf
      · skip
        have hf := xif_t h83 hf
        refine mv_aload_n (pc := 86) B d_Book_unary_86 rfl 3 rfl ?_
        refine mv_getR (pc := 87) (ci := 12) (C := R_Book) (T := F_Book) (N := 65) B 45 rfl rfl (by decide) i_Book (B.2.2.2.1 _ k_1894) rfl ((congrFun (congrFun r_g12 74) 45).trans (hb.1 74 45 _ rfl)) d_Book_unary_87 ?_
        refine mv_iload_n (pc := 90) B d_Book_unary_90 rfl 0 rfl ?_
        obtain ⟨q14, hf⟩ := xvi_e hf
        refine mv_iald (pc := 91) B rfl q14 d_Book_unary_91 ?_
        refine mv_iconst (pc := 92) (v := 1) B d_Book_unary_92 (by decide) ?_
        refine mv_icmp_ne (pc := 93) (tgt := 100) B d_Book_unary_93 rfl (fun h93 => ?_) (fun h93 => ?_)
        · skip
          have hf := xif_f h93 hf
          refine mv_lpick [3, 2, 1, 0] rfl ?_
          exact jn100 _ _ _ _ r_g12 hf
        · skip
          have hf := xif_t h93 hf
          refine mv_lpick [3, 2, 1, 0] rfl ?_
          exact jn96 _ _ _ _ r_g12 hf
  unfold f_Book_unary at hf
  refine mv_aload_n (pc := 0) B d_Book_unary_0 rfl 0 rfl ?_
  refine mv_getI (pc := 1) (ci := 12) (C := R_Book) (T := F_Book) (N := 65) B 4 rfl rfl (by decide) i_Book (B.2.2.2.1 _ k_1847) rfl d_Book_unary_1 ?_
  refine mv_bipush (pc := 4) (v := 45) B d_Book_unary_4 (by decide) ?_
  refine mv_icmp_eq (pc := 6) (tgt := 32) B d_Book_unary_6 rfl (fun h6 => ?_) (fun h6 => ?_)
  · skip
    have hf := xif_t h6 hf
    refine mv_lpick [0] rfl ?_
    exact jn32  _ rfl hf
  · skip
    have hf := xif_f h6 hf
    refine mv_aload_n (pc := 9) B d_Book_unary_9 rfl 0 rfl ?_
    refine mv_getI (pc := 10) (ci := 12) (C := R_Book) (T := F_Book) (N := 65) B 4 rfl rfl (by decide) i_Book (B.2.2.2.1 _ k_1847) rfl d_Book_unary_10 ?_
    refine mv_bipush (pc := 13) (v := 126) B d_Book_unary_13 (by decide) ?_
    refine mv_icmp_eq (pc := 15) (tgt := 32) B d_Book_unary_15 rfl (fun h15 => ?_) (fun h15 => ?_)
    · skip
      have hf := xif_t h15 hf
      refine mv_lpick [0] rfl ?_
      exact jn32  _ rfl hf
    · skip
      have hf := xif_f h15 hf
      refine mv_aload_n (pc := 18) B d_Book_unary_18 rfl 0 rfl ?_
      refine mv_getI (pc := 19) (ci := 12) (C := R_Book) (T := F_Book) (N := 65) B 4 rfl rfl (by decide) i_Book (B.2.2.2.1 _ k_1847) rfl d_Book_unary_19 ?_
      refine mv_bipush (pc := 22) (v := 33) B d_Book_unary_22 (by decide) ?_
      refine mv_icmp_eq (pc := 24) (tgt := 32) B d_Book_unary_24 rfl (fun h24 => ?_) (fun h24 => ?_)
      · skip
        have hf := xif_t h24 hf
        refine mv_lpick [0] rfl ?_
        exact jn32  _ rfl hf
      · skip
        have hf := xif_f h24 hf
        refine mv_aload_n (pc := 27) B d_Book_unary_27 rfl 0 rfl ?_
        obtain ⟨og15, g15, eg15, hf⟩ := xtb_e hf
        refine mv_callVUi (pc := 28) (n := 0) (ci := 12) (C := R_Book) B (mK_ok sk sv) hNs rfl rfl (ih.2.2.2.1 _ _ _ _ (hb) eg15) rfl (ma_goodc kc_Book_post) (B.2.2.2.1 _ k_2257) (B.2.2.2.1 _ k_2259) (B.2.2.2.1 _ ks_107) (B.2.2.2.1 _ k_13) ⟨by decide +kernel, by decide +kernel, by decide +kernel⟩ rfl d_Book_unary_28 rfl (Nat.le_of_ble_eq_true rfl) ⟨by first | decide | (dsimp only; omega), by first | decide | (dsimp only; omega)⟩ ⟨Nat.le_refl _, Nat.le_refl _⟩ ⟨Nat.le_refl _, Nat.le_refl _⟩ (mv_noH hno _) (fun τ9 g9 => Or.inr ⟨rfl, xth hf g9 rfl⟩) (fun u16 σ28 h28 => ?_)
        obtain ⟨rfl, rfl, s_g15⟩ := h28
        have hf := xt2_s hf
        have r_g15 : mv_r g15 = mv_r h := s_g15.trans rfl
        exact mv_iret (pc := 31) B hr rfl d_Book_unary_31 (Nat.le_refl _) (Nat.le_refl _) (Or.inl ⟨_, rfl, xrt_i hf r_g15⟩)
set_option maxHeartbeats 4000000 in
set_option maxRecDepth 100000 in
theorem cr_Book_post_x (l : Launch) {dA : FieldType → ClassId} {D : va_G} {al : Nat → Nat} {ext : mv_Sh} {sk sv : Nat → Nat} (hi : mv_inj (mg dA D al ext)) (nn : Nat) (ih : RecX l dA D al ext sk sv 74 nn) (h : mv_H) (hb : Br 74 (mv_r h))  {rv : Option Int32} {rg : mv_H} (hf : f_Book_post 74 (f_BookR 74 nn) h = some (rv, rg)) : mv_C l y_Book_post (Cond.code y_Book_post b_Book_post 12 (Option.some Jvm.ClassFile.FieldType.int) :: ma) ({ frames := nn + 1 + 7, cells := 0, slots := 0, locals := 60 * (nn + 1) + 400 }) (mg dA D al ext) (mK sk sv) [.ref (al 74)] h (mv_Ui (fun v σ1 => rv = some v ∧ rg = σ1 ∧ mv_r σ1 = mv_r h) ("MachineLoomModel$Book$Wrong", al 107) (fun σ1 => rv = none ∧ rg = σ1 ∧ mv_r σ1 = mv_r h)) := by
  refine mv_C.ofV (cc := b_Book_post) (nL := 12) (ret := (Option.some Jvm.ClassFile.FieldType.int)) (by decide +kernel) rfl hi (Nat.le_of_ble_eq_true rfl) ?_
  intro p e s m below meth c B hNs hr hnm hno
  have lp5 : ∀ (nn5 : Nat) (x1 : Int32) (hz : mv_H), mv_r hz = mv_r h → f_Book_post_5 74 (f_BookR 74 nn) nn5 x1 hz = some (rv, rg) → mv_V p l e ({ frames := nn + 1 + 7, cells := 0, slots := 0, locals := 60 * (nn + 1) + 400 }) s m ([.ref (al 74)] : List Value).toArray below meth c (mg dA D al ext) 12 0 0 (mv_Q (mg dA D al ext) below s 0 0 (mv_Ui (fun v σ1 => rv = some v ∧ rg = σ1 ∧ mv_r σ1 = mv_r h) ("MachineLoomModel$Book$Wrong", al 107) (fun σ1 => rv = none ∧ rg = σ1 ∧ mv_r σ1 = mv_r h))) hz 5 [(0, .ref (al 74)), (1, .int x1)] [] := by
    intro nn5
    induction nn5 with
    | zero => intro x1 hz r_hz hf; cases hf
    | succ nn5 ih5 =>
      intro x1 hz r_hz hf
      have jn262 : ∀ (y0 : Int32) (y1 : Int32) (y2 : Int32) (y3 : Int32) (y4 : Int32) (hz : mv_H), mv_r hz = mv_r h → f_Book_post_262 74 (f_BookR 74 nn) (f_Book_post_5 74 (f_BookR 74 nn) nn5) y0 y1 y2 y3 y4 hz = some (rv, rg) → mv_V p l e ({ frames := nn + 1 + 7, cells := 0, slots := 0, locals := 60 * (nn + 1) + 400 }) s m ([.ref (al 74)] : List Value).toArray below meth c (mg dA D al ext) 12 0 0 (mv_Q (mg dA D al ext) below s 0 0 (mv_Ui (fun v σ1 => rv = some v ∧ rg = σ1 ∧ mv_r σ1 = mv_r h) ("MachineLoomModel$Book$Wrong", al 107) (fun σ1 => rv = none ∧ rg = σ1 ∧ mv_r σ1 = mv_r h))) hz 262 [(0, .ref (al 74))] [.int y0, .int y1, .int y2, .int y3, .int y4, .ref (al 74)] := by
        intro y0 y1 y2 y3 y4 hz r_hz hf
        unfold f_Book_post_262 at hf
        obtain ⟨u2, g1, eg1, hf⟩ := xhb_e hf
        refine mv_callVi (pc := 262) (n := 5) (ci := 12) (C := R_Book) B (mK_ok sk sv) hNs rfl rfl (ch_Book_node_x l hi _ (xrw r_hz hb) _ _ _ _ _ eg1) rfl (ma_goodc kc_Book_node) (B.2.2.2.1 _ k_2269) (B.2.2.2.1 _ k_2271) (B.2.2.2.1 _ ks_110) (B.2.2.2.1 _ k_13) ⟨by decide +kernel, by decide +kernel, by decide +kernel⟩ rfl d_Book_post_262 rfl (Nat.le_of_ble_eq_true rfl) ⟨by first | decide | (dsimp only; omega), by first | decide | (dsimp only; omega)⟩ ⟨Nat.le_refl _, Nat.le_refl _⟩ ⟨Nat.le_refl _, Nat.le_refl _⟩ (mv_noH hno _) (fun w262 σ262 h262 => ?_)
        obtain ⟨rfl, rfl, s_g1⟩ := h262
        have r_g1 : mv_r g1 = mv_r h := s_g1.trans r_hz
        refine mv_istore_n (pc := 265) B d_Book_post_265 rfl (by decide) rfl ?_
        refine mv_goto (pc := 266) (tgt := 5) B d_Book_post_266 rfl ?_
        refine mv_lpick [1, 0] rfl ?_
        exact ih5 _ _ r_g1 hf
      have jn246 : ∀ (x2 : Int64) (x4 : Int64) (x11 : Int32) (y0 : Int32) (y1 : Int32) (y2 : Int32) (y3 : Int32) (hz : mv_H), mv_r hz = mv_r h → f_Book_post_246 74 (f_BookR 74 nn) (f_Book_post_5 74 (f_BookR 74 nn) nn5) x2 x4 x11 y0 y1 y2 y3 hz = some (rv, rg) → mv_V p l e ({ frames := nn + 1 + 7, cells := 0, slots := 0, locals := 60 * (nn + 1) + 400 }) s m ([.ref (al 74)] : List Value).toArray below meth c (mg dA D al ext) 12 0 0 (mv_Q (mg dA D al ext) below s 0 0 (mv_Ui (fun v σ1 => rv = some v ∧ rg = σ1 ∧ mv_r σ1 = mv_r h) ("MachineLoomModel$Book$Wrong", al 107) (fun σ1 => rv = none ∧ rg = σ1 ∧ mv_r σ1 = mv_r h))) hz 246 [(0, .ref (al 74)), (2, .long x2), (4, .long x4), (11, .int x11)] [.int y0, .int y1, .int y2, .int y3, .ref (al 74)] := by
        intro x2 x4 x11 y0 y1 y2 y3 hz r_hz hf
        unfold f_Book_post_246 at hf
        refine mv_iload (pc := 246) B d_Book_post_246 3 rfl ?_
        refine mv_if_eq (pc := 248) (tgt := 261) B d_Book_post_248 rfl (fun h248 => ?_) (fun h248 => ?_)
        · skip
          have hf := xif_t h248 hf
          refine mv_iconst (pc := 261) (v := 0) B d_Book_post_261 (by decide) ?_
          refine mv_lpick [0] rfl ?_
          exact jn262 _ _ _ _ _ _ r_hz hf
        · skip
          have hf := xif_f h248 hf
          refine mv_lload_n (pc := 251) B d_Book_post_251 rfl 1 rfl ?_
          refine mv_lload (pc := 252) B d_Book_post_252 2 rfl ?_
          refine mv_lsub (pc := 254) B d_Book_post_254 ?_
          refine mv_l2i (pc := 255) B d_Book_post_255 ?_
          refine mv_iconst (pc := 256) (v := 1) B d_Book_post_256 (by decide) ?_
          refine mv_iadd (pc := 257) B d_Book_post_257 ?_
          refine mv_goto (pc := 258) (tgt := 262) B d_Book_post_258 rfl ?_
          refine mv_lpick [0] rfl ?_
          exact jn262 _ _ _ _ _ _ r_hz hf
      have jn234 : ∀ (x2 : Int64) (x4 : Int64) (x11 : Int32) (y0 : Int32) (y1 : Int32) (y2 : Int32) (hz : mv_H), mv_r hz = mv_r h → f_Book_post_234 74 (f_BookR 74 nn) (f_Book_post_5 74 (f_BookR 74 nn) nn5) x2 x4 x11 y0 y1 y2 hz = some (rv, rg) → mv_V p l e ({ frames := nn + 1 + 7, cells := 0, slots := 0, locals := 60 * (nn + 1) + 400 }) s m ([.ref (al 74)] : List Value).toArray below meth c (mg dA D al ext) 12 0 0 (mv_Q (mg dA D al ext) below s 0 0 (mv_Ui (fun v σ1 => rv = some v ∧ rg = σ1 ∧ mv_r σ1 = mv_r h) ("MachineLoomModel$Book$Wrong", al 107) (fun σ1 => rv = none ∧ rg = σ1 ∧ mv_r σ1 = mv_r h))) hz 234 [(0, .ref (al 74)), (2, .long x2), (4, .long x4), (11, .int x11)] [.int y0, .int y1, .int y2, .ref (al 74)] := by
        intro x2 x4 x11 y0 y1 y2 hz r_hz hf
        unfold f_Book_post_234 at hf
        refine mv_iload (pc := 234) B d_Book_post_234 3 rfl ?_
        refine mv_if_eq (pc := 236) (tgt := 245) B d_Book_post_236 rfl (fun h236 => ?_) (fun h236 => ?_)
        · skip
          have hf := xif_t h236 hf
          refine mv_iconst (pc := 245) (v := 0) B d_Book_post_245 (by decide) ?_
          refine mv_lpick [0, 1, 2, 3] rfl ?_
          exact jn246 _ _ _ _ _ _ _ _ r_hz hf
        · skip
          have hf := xif_f h236 hf
          refine mv_lload (pc := 239) B d_Book_post_239 2 rfl ?_
          refine mv_l2i (pc := 241) B d_Book_post_241 ?_
          refine mv_goto (pc := 242) (tgt := 246) B d_Book_post_242 rfl ?_
          refine mv_lpick [0, 1, 2, 3] rfl ?_
          exact jn246 _ _ _ _ _ _ _ _ r_hz hf
      have jn217 : ∀ (x1 : Int32) (x2 : Int64) (x4 : Int64) (y0 : Int32) (hz : mv_H), mv_r hz = mv_r h → f_Book_post_217 74 (f_BookR 74 nn) (f_Book_post_5 74 (f_BookR 74 nn) nn5) x1 x2 x4 y0 hz = some (rv, rg) → mv_V p l e ({ frames := nn + 1 + 7, cells := 0, slots := 0, locals := 60 * (nn + 1) + 400 }) s m ([.ref (al 74)] : List Value).toArray below meth c (mg dA D al ext) 12 0 0 (mv_Q (mg dA D al ext) below s 0 0 (mv_Ui (fun v σ1 => rv = some v ∧ rg = σ1 ∧ mv_r σ1 = mv_r h) ("MachineLoomModel$Book$Wrong", al 107) (fun σ1 => rv = none ∧ rg = σ1 ∧ mv_r σ1 = mv_r h))) hz 217 [(0, .ref (al 74)), (1, .int x1), (2, .long x2), (4, .long x4)] [.int y0] := by
        intro x1 x2 x4 y0 hz r_hz hf
        unfold f_Book_post_217 at hf
        refine mv_istore (pc := 217) B d_Book_post_217 (by decide) rfl ?_
        refine mv_aload_n (pc := 219) B d_Book_post_219 rfl 1 rfl ?_
        refine mv_bipush (pc := 220) (v := 8) B d_Book_post_220 (by decide) ?_
        refine mv_iload_n (pc := 222) B d_Book_post_222 rfl 2 rfl ?_
        refine mv_iload (pc := 223) B d_Book_post_223 0 rfl ?_
        refine mv_if_eq (pc := 225) (tgt := 233) B d_Book_post_225 rfl (fun h225 => ?_) (fun h225 => ?_)
        · skip
          have hf := xif_t h225 hf
          refine mv_iconst (pc := 233) (v := 0) B d_Book_post_233 (by decide) ?_
          refine mv_lpick [1, 3, 4, 0] rfl ?_
          exact jn234 _ _ _ _ _ _ _ r_hz hf
        · skip
          have hf := xif_f h225 hf
          refine mv_lload_n (pc := 228) B d_Book_post_228 rfl 3 rfl ?_
          refine mv_l2i (pc := 229) B d_Book_post_229 ?_
          refine mv_goto (pc := 230) (tgt := 234) B d_Book_post_230 rfl ?_
          refine mv_lpick [1, 3, 4, 0] rfl ?_
          exact jn234 _ _ _ _ _ _ _ r_hz hf
      have jn216 : ∀ (x1 : Int32) (x2 : Int64) (x4 : Int64) (hz : mv_H), mv_r hz = mv_r h → f_Book_post_216 74 (f_BookR 74 nn) (f_Book_post_5 74 (f_BookR 74 nn) nn5) x1 x2 x4 hz = some (rv, rg) → mv_V p l e ({ frames := nn + 1 + 7, cells := 0, slots := 0, locals := 60 * (nn + 1) + 400 }) s m ([.ref (al 74)] : List Value).toArray below meth c (mg dA D al ext) 12 0 0 (mv_Q (mg dA D al ext) below s 0 0 (mv_Ui (fun v σ1 => rv = some v ∧ rg = σ1 ∧ mv_r σ1 = mv_r h) ("MachineLoomModel$Book$Wrong", al 107) (fun σ1 => rv = none ∧ rg = σ1 ∧ mv_r σ1 = mv_r h))) hz 216 [(0, .ref (al 74)), (1, .int x1), (2, .long x2), (4, .long x4)] [] := by
        intro x1 x2 x4 hz r_hz hf
        unfold f_Book_post_216 at hf
        refine mv_iconst (pc := 216) (v := 0) B d_Book_post_216 (by decide) ?_
        refine mv_lpick [0, 1, 2, 3] rfl ?_
        exact jn217 _ _ _ _ _ r_hz hf
      have jn193 : ∀ (x1 : Int32) (x2 : Int64) (x4 : Int64) (x9 : Int32) (x10 : Int32) (hz : mv_H), mv_r hz = mv_r h → f_Book_post_193 74 (f_BookR 74 nn) (f_Book_post_5 74 (f_BookR 74 nn) nn5) x1 x2 x4 x9 x10 hz = some (rv, rg) → mv_V p l e ({ frames := nn + 1 + 7, cells := 0, slots := 0, locals := 60 * (nn + 1) + 400 }) s m ([.ref (al 74)] : List Value).toArray below meth c (mg dA D al ext) 12 0 0 (mv_Q (mg dA D al ext) below s 0 0 (mv_Ui (fun v σ1 => rv = some v ∧ rg = σ1 ∧ mv_r σ1 = mv_r h) ("MachineLoomModel$Book$Wrong", al 107) (fun σ1 => rv = none ∧ rg = σ1 ∧ mv_r σ1 = mv_r h))) hz 193 [(0, .ref (al 74)), (1, .int x1), (2, .long x2), (4, .long x4), (9, .int x9), (10, .int x10)] [] := by
        intro x1 x2 x4 x9 x10 hz r_hz hf
        unfold f_Book_post_193 at hf
        refine mv_aload_n (pc := 193) B d_Book_post_193 rfl 0 rfl ?_
        refine mv_getR (pc := 194) (ci := 12) (C := R_Book) (T := F_Book) (N := 65) B 45 rfl rfl (by decide) i_Book (B.2.2.2.1 _ k_1894) rfl ((congrFun (congrFun r_hz 74) 45).trans (hb.1 74 45 _ rfl)) d_Book_post_194 ?_
        refine mv_iload_n (pc := 197) B d_Book_post_197 rfl 1 rfl ?_
        obtain ⟨q3, hf⟩ := xvi_e hf
        refine mv_iald (pc := 198) B rfl q3 d_Book_post_198 ?_
        refine mv_if_le (pc := 199) (tgt := 216) B d_Book_post_199 rfl (fun h199 => ?_) (fun h199 => ?_)
        · skip
          have hf := xif_t h199 hf
          refine mv_lpick [0, 1, 2, 3] rfl ?_
          exact jn216 _ _ _ _ r_hz hf
        · skip
          have hf := xif_f h199 hf
          refine mv_iload (pc := 202) B d_Book_post_202 4 rfl ?_
          refine mv_if_eq (pc := 204) (tgt := 216) B d_Book_post_204 rfl (fun h204 => ?_) (fun h204 => ?_)
          · skip
            have hf := xif_t h204 hf
            refine mv_lpick [0, 1, 2, 3] rfl ?_
            exact jn216 _ _ _ _ r_hz hf
          · skip
            have hf := xif_f h204 hf
            refine mv_iload (pc := 207) B d_Book_post_207 5 rfl ?_
            refine mv_if_eq (pc := 209) (tgt := 216) B d_Book_post_209 rfl (fun h209 => ?_) (fun h209 => ?_)
            · skip
              have hf := xif_t h209 hf
              refine mv_lpick [0, 1, 2, 3] rfl ?_
              exact jn216 _ _ _ _ r_hz hf
            · skip
              have hf := xif_f h209 hf
              refine mv_iconst (pc := 212) (v := 1) B d_Book_post_212 (by decide) ?_
              refine mv_goto (pc := 213) (tgt := 217) B d_Book_post_213 rfl ?_
              refine mv_lpick [0, 1, 2, 3] rfl ?_
              exact jn217 _ _ _ _ _ r_hz hf
      have jn181 : ∀ (x1 : Int32) (x2 : Int64) (x4 : Int64) (x7 : Int32) (x9 : Int32) (x10 : Int32) (hz : mv_H), mv_r hz = mv_r h → f_Book_post_181 74 (f_BookR 74 nn) (f_Book_post_5 74 (f_BookR 74 nn) nn5) x1 x2 x4 x7 x9 x10 hz = some (rv, rg) → mv_V p l e ({ frames := nn + 1 + 7, cells := 0, slots := 0, locals := 60 * (nn + 1) + 400 }) s m ([.ref (al 74)] : List Value).toArray below meth c (mg dA D al ext) 12 0 0 (mv_Q (mg dA D al ext) below s 0 0 (mv_Ui (fun v σ1 => rv = some v ∧ rg = σ1 ∧ mv_r σ1 = mv_r h) ("MachineLoomModel$Book$Wrong", al 107) (fun σ1 => rv = none ∧ rg = σ1 ∧ mv_r σ1 = mv_r h))) hz 181 [(0, .ref (al 74)), (1, .int x1), (2, .long x2), (4, .long x4), (7, .int x7), (9, .int x9), (10, .int x10)] [] := by
        intro x1 x2 x4 x7 x9 x10 hz r_hz hf
        unfold f_Book_post_181 at hf
        refine mv_iload (pc := 181) B d_Book_post_181 6 rfl ?_
        refine mv_if_ne (pc := 183) (tgt := 193) B d_Book_post_183 rfl (fun h183 => ?_) (fun h183 => ?_)
        · skip
          have hf := xif_f h183 hf
          refine mv_lpick [0, 1, 2, 3, 5, 6] rfl ?_
          exact jn193 _ _ _ _ _ _ r_hz hf
        · skip
          have hf := xif_t h183 hf
          refine mv_aload_n (pc := 186) B d_Book_post_186 rfl 0 rfl ?_
          refine mv_iconst (pc := 187) (v := 3) B d_Book_post_187 (by decide) ?_
          refine mv_iload (pc := 188) B d_Book_post_188 4 rfl ?_
          obtain ⟨g4, eg4, hf⟩ := xhv_e hf
          refine mv_callVv (pc := 190) (n := 2) (ci := 12) (C := R_Book) B (mK_ok sk sv) hNs rfl rfl (ch_Book_fault_x l hi _ _ _ eg4) rfl (ma_goodc kc_Book_fault) (B.2.2.2.1 _ k_2185) (B.2.2.2.1 _ k_2187) (B.2.2.2.1 _ ks_92) (B.2.2.2.1 _ k_13) ⟨by decide +kernel, by decide +kernel, by decide +kernel⟩ rfl d_Book_post_190 rfl (Nat.le_of_ble_eq_true rfl) ⟨by first | decide | (dsimp only; omega), by first | decide | (dsimp only; omega)⟩ ⟨Nat.le_refl _, Nat.le_refl _⟩ ⟨Nat.le_refl _, Nat.le_refl _⟩ (mv_noH hno _) (fun σ190 h190 => ?_)
          obtain ⟨rfl, s_g4⟩ := h190
          have r_g4 : mv_r g4 = mv_r h := s_g4.trans r_hz
          refine mv_lpick [0, 1, 2, 3, 5, 6] rfl ?_
          exact jn193 _ _ _ _ _ _ r_g4 hf
      have jn167 : ∀ (x1 : Int32) (x2 : Int64) (x4 : Int64) (x6 : Int32) (x7 : Int32) (x9 : Int32) (y0 : Int32) (hz : mv_H), mv_r hz = mv_r h → f_Book_post_167 74 (f_BookR 74 nn) (f_Book_post_5 74 (f_BookR 74 nn) nn5) x1 x2 x4 x6 x7 x9 y0 hz = some (rv, rg) → mv_V p l e ({ frames := nn + 1 + 7, cells := 0, slots := 0, locals := 60 * (nn + 1) + 400 }) s m ([.ref (al 74)] : List Value).toArray below meth c (mg dA D al ext) 12 0 0 (mv_Q (mg dA D al ext) below s 0 0 (mv_Ui (fun v σ1 => rv = some v ∧ rg = σ1 ∧ mv_r σ1 = mv_r h) ("MachineLoomModel$Book$Wrong", al 107) (fun σ1 => rv = none ∧ rg = σ1 ∧ mv_r σ1 = mv_r h))) hz 167 [(0, .ref (al 74)), (1, .int x1), (2, .long x2), (4, .long x4), (6, .int x6), (7, .int x7), (9, .int x9)] [.int y0] := by
        intro x1 x2 x4 x6 x7 x9 y0 hz r_hz hf
        unfold f_Book_post_167 at hf
        refine mv_istore (pc := 167) B d_Book_post_167 (by decide) rfl ?_
        refine mv_iload (pc := 169) B d_Book_post_169 7 rfl ?_
        refine mv_if_ne (pc := 171) (tgt := 181) B d_Book_post_171 rfl (fun h171 => ?_) (fun h171 => ?_)
        · skip
          have hf := xif_f h171 hf
          refine mv_lpick [1, 2, 3, 4, 6, 7, 0] rfl ?_
          exact jn181 _ _ _ _ _ _ _ r_hz hf
        · skip
          have hf := xif_t h171 hf
          refine mv_aload_n (pc := 174) B d_Book_post_174 rfl 1 rfl ?_
          refine mv_iconst (pc := 175) (v := 3) B d_Book_post_175 (by decide) ?_
          refine mv_iload (pc := 176) B d_Book_post_176 5 rfl ?_
          obtain ⟨g6, eg6, hf⟩ := xhv_e hf
          refine mv_callVv (pc := 178) (n := 2) (ci := 12) (C := R_Book) B (mK_ok sk sv) hNs rfl rfl (ch_Book_fault_x l hi _ _ _ eg6) rfl (ma_goodc kc_Book_fault) (B.2.2.2.1 _ k_2185) (B.2.2.2.1 _ k_2187) (B.2.2.2.1 _ ks_92) (B.2.2.2.1 _ k_13) ⟨by decide +kernel, by decide +kernel, by decide +kernel⟩ rfl d_Book_post_178 rfl (Nat.le_of_ble_eq_true rfl) ⟨by first | decide | (dsimp only; omega), by first | decide | (dsimp only; omega)⟩ ⟨Nat.le_refl _, Nat.le_refl _⟩ ⟨Nat.le_refl _, Nat.le_refl _⟩ (mv_noH hno _) (fun σ178 h178 => ?_)
          obtain ⟨rfl, s_g6⟩ := h178
          have r_g6 : mv_r g6 = mv_r h := s_g6.trans r_hz
          refine mv_lpick [1, 2, 3, 4, 6, 7, 0] rfl ?_
          exact jn181 _ _ _ _ _ _ _ r_g6 hf
      have jn145 : ∀ (x1 : Int32) (x2 : Int64) (x4 : Int64) (x6 : Int32) (x7 : Int32) (y0 : Int32) (hz : mv_H), mv_r hz = mv_r h → f_Book_post_145 74 (f_BookR 74 nn) (f_Book_post_5 74 (f_BookR 74 nn) nn5) x1 x2 x4 x6 x7 y0 hz = some (rv, rg) → mv_V p l e ({ frames := nn + 1 + 7, cells := 0, slots := 0, locals := 60 * (nn + 1) + 400 }) s m ([.ref (al 74)] : List Value).toArray below meth c (mg dA D al ext) 12 0 0 (mv_Q (mg dA D al ext) below s 0 0 (mv_Ui (fun v σ1 => rv = some v ∧ rg = σ1 ∧ mv_r σ1 = mv_r h) ("MachineLoomModel$Book$Wrong", al 107) (fun σ1 => rv = none ∧ rg = σ1 ∧ mv_r σ1 = mv_r h))) hz 145 [(0, .ref (al 74)), (1, .int x1), (2, .long x2), (4, .long x4), (6, .int x6), (7, .int x7)] [.int y0] := by
        intro x1 x2 x4 x6 x7 y0 hz r_hz hf
        unfold f_Book_post_145 at hf
        refine mv_istore (pc := 145) B d_Book_post_145 (by decide) rfl ?_
        refine mv_lload (pc := 147) B d_Book_post_147 4 rfl ?_
        refine mv_ldc2 (pc := 149) (v := -9223372036854775808) B (B.2.2.2.1 _ k_2317) d_Book_post_149 ?_
        refine mv_ladd (pc := 152) B d_Book_post_152 ?_
        refine mv_lload_n (pc := 153) B d_Book_post_153 rfl 3 rfl ?_
        refine mv_ldc2 (pc := 154) (v := -9223372036854775808) B (B.2.2.2.1 _ k_2317) d_Book_post_154 ?_
        refine mv_ladd (pc := 157) B d_Book_post_157 ?_
        refine mv_lcmp (pc := 158) B d_Book_post_158 ?_
        refine mv_if_gt (pc := 159) (tgt := 166) B d_Book_post_159 rfl (fun h159 => ?_) (fun h159 => ?_)
        · skip
          have hf := xif_t h159 hf
          refine mv_iconst (pc := 166) (v := 0) B d_Book_post_166 (by decide) ?_
          refine mv_lpick [1, 2, 3, 4, 5, 6, 0] rfl ?_
          exact jn167 _ _ _ _ _ _ _ _ r_hz hf
        · skip
          have hf := xif_f h159 hf
          refine mv_iconst (pc := 162) (v := 1) B d_Book_post_162 (by decide) ?_
          refine mv_goto (pc := 163) (tgt := 167) B d_Book_post_163 rfl ?_
          refine mv_lpick [1, 2, 3, 4, 5, 6, 0] rfl ?_
          exact jn167 _ _ _ _ _ _ _ _ r_hz hf
      have jn140 : ∀ (x1 : Int32) (x2 : Int64) (x4 : Int64) (x6 : Int32) (x7 : Int32) (hz : mv_H), mv_r hz = mv_r h → f_Book_post_140 74 (f_BookR 74 nn) (f_Book_post_5 74 (f_BookR 74 nn) nn5) x1 x2 x4 x6 x7 hz = some (rv, rg) → mv_V p l e ({ frames := nn + 1 + 7, cells := 0, slots := 0, locals := 60 * (nn + 1) + 400 }) s m ([.ref (al 74)] : List Value).toArray below meth c (mg dA D al ext) 12 0 0 (mv_Q (mg dA D al ext) below s 0 0 (mv_Ui (fun v σ1 => rv = some v ∧ rg = σ1 ∧ mv_r σ1 = mv_r h) ("MachineLoomModel$Book$Wrong", al 107) (fun σ1 => rv = none ∧ rg = σ1 ∧ mv_r σ1 = mv_r h))) hz 140 [(0, .ref (al 74)), (1, .int x1), (2, .long x2), (4, .long x4), (6, .int x6), (7, .int x7)] [] := by
        intro x1 x2 x4 x6 x7 hz r_hz hf
        unfold f_Book_post_140 at hf
        refine mv_iconst (pc := 140) (v := 1) B d_Book_post_140 (by decide) ?_
        refine mv_goto (pc := 141) (tgt := 145) B d_Book_post_141 rfl ?_
        refine mv_lpick [0, 1, 2, 3, 4, 5] rfl ?_
        exact jn145 _ _ _ _ _ _ _ r_hz hf
      have jn98 : ∀ (x1 : Int32) (x2 : Int64) (x4 : Int64) (x6 : Int32) (x7 : Int32) (hz : mv_H), mv_r hz = mv_r h → f_Book_post_98 74 (f_BookR 74 nn) (f_Book_post_5 74 (f_BookR 74 nn) nn5) x1 x2 x4 x6 x7 hz = some (rv, rg) → mv_V p l e ({ frames := nn + 1 + 7, cells := 0, slots := 0, locals := 60 * (nn + 1) + 400 }) s m ([.ref (al 74)] : List Value).toArray below meth c (mg dA D al ext) 12 0 0 (mv_Q (mg dA D al ext) below s 0 0 (mv_Ui (fun v σ1 => rv = some v ∧ rg = σ1 ∧ mv_r σ1 = mv_r h) ("MachineLoomModel$Book$Wrong", al 107) (fun σ1 => rv = none ∧ rg = σ1 ∧ mv_r σ1 = mv_r h))) hz 98 [(0, .ref (al 74)), (1, .int x1), (2, .long x2), (4, .long x4), (6, .int x6), (7, .int x7)] [] := by
        intro x1 x2 x4 x6 x7 hz r_hz hf
        unfold f_Book_post_98 at hf
        refine mv_aload_n (pc := 98) B d_Book_post_98 rfl 0 rfl ?_
        refine mv_bipush (pc := 99) (v := 93) B d_Book_post_99 (by decide) ?_
        obtain ⟨og8, g8, eg8, hf⟩ := xtb_e hf
        refine mv_callVUv (pc := 101) (n := 1) (ci := 12) (C := R_Book) B (mK_ok sk sv) hNs rfl rfl (ch_Book_need_x l hi _ (xrw r_hz hb) _ eg8) rfl (ma_goodc kc_Book_need) (B.2.2.2.1 _ k_2177) (B.2.2.2.1 _ k_2179) (B.2.2.2.1 _ ks_91) (B.2.2.2.1 _ k_13) ⟨by decide +kernel, by decide +kernel, by decide +kernel⟩ rfl d_Book_post_101 rfl (Nat.le_of_ble_eq_true rfl) ⟨by first | decide | (dsimp only; omega), by first | decide | (dsimp only; omega)⟩ ⟨Nat.le_refl _, Nat.le_refl _⟩ ⟨Nat.le_refl _, Nat.le_refl _⟩ (mv_noH hno _) (fun τ9 g9 => Or.inr ⟨rfl, xth hf g9 r_hz⟩) (fun σ101 h101 => ?_)
        obtain ⟨rfl, rfl, s_g8⟩ := h101
        have hf := xt2_s hf
        have r_g8 : mv_r g8 = mv_r h := s_g8.trans r_hz
        refine mv_aload_n (pc := 104) B d_Book_post_104 rfl 0 rfl ?_
        refine mv_dup (pc := 105) B d_Book_post_105 rfl ?_
        refine mv_getI (pc := 106) (ci := 12) (C := R_Book) (T := F_Book) (N := 65) B 8 rfl rfl (by decide) i_Book (B.2.2.2.1 _ k_1851) rfl d_Book_post_106 ?_
        refine mv_iconst (pc := 109) (v := 1) B d_Book_post_109 (by decide) ?_
        refine mv_isub (pc := 110) B d_Book_post_110 ?_
        refine mv_putI (pc := 111) (ci := 12) (C := R_Book) (T := F_Book) (N := 65) B 8 rfl rfl (by decide) i_Book t_Book_ok n_Book (B.2.2.2.1 _ k_1851) rfl rfl rfl rfl d_Book_post_111 ?_
        refine mvh_hp (R9 := mv_r h) hf r_g8 (fun g10 hf r_g10 => ?_)
        refine mv_aload_n (pc := 114) B d_Book_post_114 rfl 0 rfl ?_
        refine mv_getR (pc := 115) (ci := 12) (C := R_Book) (T := F_Book) (N := 65) B 45 rfl rfl (by decide) i_Book (B.2.2.2.1 _ k_1894) rfl ((congrFun (congrFun r_g10 74) 45).trans (hb.1 74 45 _ rfl)) d_Book_post_115 ?_
        refine mv_iload_n (pc := 118) B d_Book_post_118 rfl 1 rfl ?_
        obtain ⟨q11, hf⟩ := xvi_e hf
        refine mv_iald (pc := 119) B rfl q11 d_Book_post_119 ?_
        refine mv_if_eq (pc := 120) (tgt := 140) B d_Book_post_120 rfl (fun h120 => ?_) (fun h120 => ?_)
        · skip
          have hf := xif_t h120 hf
          refine mv_lpick [0, 1, 2, 3, 4, 5] rfl ?_
          exact jn140 _ _ _ _ _ _ r_g10 hf
        · skip
          have hf := xif_f h120 hf
          refine mv_lload_n (pc := 123) B d_Book_post_123 rfl 2 rfl ?_
          refine mv_lconst (pc := 124) (v := 0) B d_Book_post_124 (by decide) ?_
          refine mv_aload_n (pc := 125) B d_Book_post_125 rfl 0 rfl ?_
          refine mv_getR (pc := 126) (ci := 12) (C := R_Book) (T := F_Book) (N := 65) B 45 rfl rfl (by decide) i_Book (B.2.2.2.1 _ k_1894) rfl ((congrFun (congrFun r_g10 74) 45).trans (hb.1 74 45 _ rfl)) d_Book_post_126 ?_
          refine mv_iload_n (pc := 129) B d_Book_post_129 rfl 1 rfl ?_
          obtain ⟨q12, hf⟩ := xvi_e hf
          refine mv_iald (pc := 130) B rfl q12 d_Book_post_130 ?_
          refine mv_iconst (pc := 131) (v := 1) B d_Book_post_131 (by decide) ?_
          refine mv_isub (pc := 132) B d_Book_post_132 ?_
          refine mv_i2l (pc := 133) B d_Book_post_133 ?_
          obtain ⟨u14, g13, eg13, hf⟩ := xhb_e hf
          refine mv_callSNi (pc := 134) (n := 3) B (mK_ok sk sv) hNs (ch_Model_in l hi _ _ _ _ eg13) rfl (ma_goodc kc_Model_in) (va_Nw.use rfl (hNs.1 _ (List.mem_of_getElem? (i := 7) rfl))) (B.2.2.2.1 _ k_2208) (B.2.2.2.1 _ k_12) ⟨by decide +kernel, by decide +kernel, by decide +kernel⟩ rfl d_Book_post_134 rfl (Nat.le_of_ble_eq_true rfl) ⟨by first | decide | (dsimp only; omega), by first | decide | (dsimp only; omega)⟩ ⟨Nat.le_refl _, Nat.le_refl _⟩ ⟨Nat.le_refl _, Nat.le_refl _⟩ (mv_noH hno _) (fun w134 σ134 h134 => ?_)
          obtain ⟨rfl, rfl, s_g13⟩ := h134
          have r_g13 : mv_r g13 = mv_r h := s_g13.trans r_g10
          refine mv_if_eq (pc := 137) (tgt := 144) B d_Book_post_137 rfl (fun h137 => ?_) (fun h137 => ?_)
          · skip
            have hf := xif_t h137 hf
            refine mv_iconst (pc := 144) (v := 0) B d_Book_post_144 (by decide) ?_
            refine mv_lpick [0, 1, 2, 3, 4, 5] rfl ?_
            exact jn145 _ _ _ _ _ _ _ r_g13 hf
          · skip
            have hf := xif_f h137 hf
            refine mv_lpick [0, 1, 2, 3, 4, 5] rfl ?_
            exact jn140 _ _ _ _ _ _ r_g13 hf
      have jn70 : ∀ (x1 : Int32) (x2 : Int64) (x4 : Int64) (x6 : Int32) (x7 : Int32) (y0 : Int32) (hz : mv_H), mv_r hz = mv_r h → f_Book_post_70 74 (f_BookR 74 nn) (f_Book_post_5 74 (f_BookR 74 nn) nn5) x1 x2 x4 x6 x7 y0 hz = some (rv, rg) → mv_V p l e ({ frames := nn + 1 + 7, cells := 0, slots := 0, locals := 60 * (nn + 1) + 400 }) s m ([.ref (al 74)] : List Value).toArray below meth c (mg dA D al ext) 12 0 0 (mv_Q (mg dA D al ext) below s 0 0 (mv_Ui (fun v σ1 => rv = some v ∧ rg = σ1 ∧ mv_r σ1 = mv_r h) ("MachineLoomModel$Book$Wrong", al 107) (fun σ1 => rv = none ∧ rg = σ1 ∧ mv_r σ1 = mv_r h))) hz 70 [(0, .ref (al 74)), (1, .int x1), (2, .long x2), (4, .long x4), (6, .int x6), (7, .int x7)] [.int y0] := by
        intro x1 x2 x4 x6 x7 y0 hz r_hz hf
        unfold f_Book_post_70 at hf
        refine mv_istore (pc := 70) B d_Book_post_70 (by decide) rfl ?_
        refine mv_iload (pc := 72) B d_Book_post_72 0 rfl ?_
        refine mv_if_eq (pc := 74) (tgt := 98) B d_Book_post_74 rfl (fun h74 => ?_) (fun h74 => ?_)
        · skip
          have hf := xif_t h74 hf
          refine mv_lpick [1, 2, 3, 4, 5, 6] rfl ?_
          exact jn98 _ _ _ _ _ _ r_hz hf
        · skip
          have hf := xif_f h74 hf
          refine mv_aload_n (pc := 77) B d_Book_post_77 rfl 1 rfl ?_
          obtain ⟨og15, g15, eg15, hf⟩ := xtb_e hf
          refine mv_callVUv (pc := 78) (n := 0) (ci := 12) (C := R_Book) B (mK_ok sk sv) hNs rfl rfl (ch_Book_pass_x l hi _ (xrw r_hz hb) eg15) rfl (ma_goodc kc_Book_pass) (B.2.2.2.1 _ k_2173) (B.2.2.2.1 _ k_2175) (B.2.2.2.1 _ ks_90) (B.2.2.2.1 _ k_13) ⟨by decide +kernel, by decide +kernel, by decide +kernel⟩ rfl d_Book_post_78 rfl (Nat.le_of_ble_eq_true rfl) ⟨by first | decide | (dsimp only; omega), by first | decide | (dsimp only; omega)⟩ ⟨Nat.le_refl _, Nat.le_refl _⟩ ⟨Nat.le_refl _, Nat.le_refl _⟩ (mv_noH hno _) (fun τ9 g9 => Or.inr ⟨rfl, xth hf g9 r_hz⟩) (fun σ78 h78 => ?_)
          obtain ⟨rfl, rfl, s_g15⟩ := h78
          have hf := xt2_s hf
          have r_g15 : mv_r g15 = mv_r h := s_g15.trans r_hz
          refine mv_aload_n (pc := 81) B d_Book_post_81 rfl 1 rfl ?_
          refine mv_getL (pc := 82) (ci := 12) (C := R_Book) (T := F_Book) (N := 65) B 9 rfl rfl (by decide) i_Book (B.2.2.2.1 _ k_1852) rfl d_Book_post_82 ?_
          refine mv_lstore (pc := 85) B d_Book_post_85 (by decide) rfl ?_
          refine mv_aload_n (pc := 87) B d_Book_post_87 rfl 2 rfl ?_
          refine mv_getI (pc := 88) (ci := 12) (C := R_Book) (T := F_Book) (N := 65) B 5 rfl rfl (by decide) i_Book (B.2.2.2.1 _ k_1848) rfl d_Book_post_88 ?_
          refine mv_istore (pc := 91) B d_Book_post_91 (by decide) rfl ?_
          refine mv_aload_n (pc := 93) B d_Book_post_93 rfl 3 rfl ?_
          refine mv_iconst (pc := 94) (v := 2) B d_Book_post_94 (by decide) ?_
          obtain ⟨og17, g17, eg17, hf⟩ := xtb_e hf
          refine mv_callVUv (pc := 95) (n := 1) (ci := 12) (C := R_Book) B (mK_ok sk sv) hNs rfl rfl (ch_Book_need_x l hi _ (xrw r_g15 hb) _ eg17) rfl (ma_goodc kc_Book_need) (B.2.2.2.1 _ k_2177) (B.2.2.2.1 _ k_2179) (B.2.2.2.1 _ ks_91) (B.2.2.2.1 _ k_13) ⟨by decide +kernel, by decide +kernel, by decide +kernel⟩ rfl d_Book_post_95 rfl (Nat.le_of_ble_eq_true rfl) ⟨by first | decide | (dsimp only; omega), by first | decide | (dsimp only; omega)⟩ ⟨Nat.le_refl _, Nat.le_refl _⟩ ⟨Nat.le_refl _, Nat.le_refl _⟩ (mv_noH hno _) (fun τ9 g9 => Or.inr ⟨rfl, xth hf g9 r_g15⟩) (fun σ95 h95 => ?_)
          obtain ⟨rfl, rfl, s_g17⟩ := h95
          have hf := xt2_s hf
          have r_g17 : mv_r g17 = mv_r h := s_g17.trans r_g15
          refine mv_lpick [3, 4, 5, 1, 6, 0] rfl ?_
          exact jn98 _ _ _ _ _ _ r_g17 hf
      have hf : fF_Book_post_5 74 (f_BookR 74 nn) (f_Book_post_5 74 (f_BookR 74 nn) nn5) x1 hz = some (rv, rg) := hf
      unfold fF_Book_post_5 at hf
      refine mv_aload_n (pc := 5) B d_Book_post_5 rfl 0 rfl ?_
      refine mv_getI (pc := 6) (ci := 12) (C := R_Book) (T := F_Book) (N := 65) B 4 rfl rfl (by decide) i_Book (B.2.2.2.1 _ k_1847) rfl d_Book_post_6 ?_
      refine mv_bipush (pc := 9) (v := 91) B d_Book_post_9 (by decide) ?_
      refine mv_icmp_ne (pc := 11) (tgt := 269) B d_Book_post_11 rfl (fun h11 => ?_) (fun h11 => ?_)
      · skip
        have hf := xif_f h11 hf
        refine mv_iload_n (pc := 269) B d_Book_post_269 rfl 1 rfl ?_
        exact mv_iret (pc := 270) B hr rfl d_Book_post_270 (Nat.le_refl _) (Nat.le_refl _) (Or.inl ⟨_, rfl, xrt_i hf r_hz⟩)
      · skip
        have hf := xif_t h11 hf
        refine mv_aload_n (pc := 14) B d_Book_post_14 rfl 0 rfl ?_
        obtain ⟨og19, g19, eg19, hf⟩ := xtb_e hf
        refine mv_callVUv (pc := 15) (n := 0) (ci := 12) (C := R_Book) B (mK_ok sk sv) hNs rfl rfl (ch_Book_pass_x l hi _ (xrw r_hz hb) eg19) rfl (ma_goodc kc_Book_pass) (B.2.2.2.1 _ k_2173) (B.2.2.2.1 _ k_2175) (B.2.2.2.1 _ ks_90) (B.2.2.2.1 _ k_13) ⟨by decide +kernel, by decide +kernel, by decide +kernel⟩ rfl d_Book_post_15 rfl (Nat.le_of_ble_eq_true rfl) ⟨by first | decide | (dsimp only; omega), by first | decide | (dsimp only; omega)⟩ ⟨Nat.le_refl _, Nat.le_refl _⟩ ⟨Nat.le_refl _, Nat.le_refl _⟩ (mv_noH hno _) (fun τ9 g9 => Or.inr ⟨rfl, xth hf g9 r_hz⟩) (fun σ15 h15 => ?_)
        obtain ⟨rfl, rfl, s_g19⟩ := h15
        have hf := xt2_s hf
        have r_g19 : mv_r g19 = mv_r h := s_g19.trans r_hz
        refine mv_aload_n (pc := 18) B d_Book_post_18 rfl 0 rfl ?_
        refine mv_dup (pc := 19) B d_Book_post_19 rfl ?_
        refine mv_getI (pc := 20) (ci := 12) (C := R_Book) (T := F_Book) (N := 65) B 8 rfl rfl (by decide) i_Book (B.2.2.2.1 _ k_1851) rfl d_Book_post_20 ?_
        refine mv_iconst (pc := 23) (v := 1) B d_Book_post_23 (by decide) ?_
        refine mv_iadd (pc := 24) B d_Book_post_24 ?_
        refine mv_putI (pc := 25) (ci := 12) (C := R_Book) (T := F_Book) (N := 65) B 8 rfl rfl (by decide) i_Book t_Book_ok n_Book (B.2.2.2.1 _ k_1851) rfl rfl rfl rfl d_Book_post_25 ?_
        refine mvh_hp (R9 := mv_r h) hf r_g19 (fun g21 hf r_g21 => ?_)
        refine mv_aload_n (pc := 28) B d_Book_post_28 rfl 0 rfl ?_
        refine mv_getL (pc := 29) (ci := 12) (C := R_Book) (T := F_Book) (N := 65) B 9 rfl rfl (by decide) i_Book (B.2.2.2.1 _ k_1852) rfl d_Book_post_29 ?_
        refine mv_lstore_n (pc := 32) B d_Book_post_32 rfl (by decide) rfl ?_
        refine mv_aload_n (pc := 33) B d_Book_post_33 rfl 1 rfl ?_
        refine mv_getL (pc := 34) (ci := 12) (C := R_Book) (T := F_Book) (N := 65) B 9 rfl rfl (by decide) i_Book (B.2.2.2.1 _ k_1852) rfl d_Book_post_34 ?_
        refine mv_lstore (pc := 37) B d_Book_post_37 (by decide) rfl ?_
        refine mv_aload_n (pc := 39) B d_Book_post_39 rfl 2 rfl ?_
        refine mv_getI (pc := 40) (ci := 12) (C := R_Book) (T := F_Book) (N := 65) B 5 rfl rfl (by decide) i_Book (B.2.2.2.1 _ k_1848) rfl d_Book_post_40 ?_
        refine mv_istore (pc := 43) B d_Book_post_43 (by decide) rfl ?_
        refine mv_aload_n (pc := 45) B d_Book_post_45 rfl 3 rfl ?_
        refine mv_getI (pc := 46) (ci := 12) (C := R_Book) (T := F_Book) (N := 65) B 5 rfl rfl (by decide) i_Book (B.2.2.2.1 _ k_1848) rfl d_Book_post_46 ?_
        refine mv_istore (pc := 49) B d_Book_post_49 (by decide) rfl ?_
        refine mv_aload_n (pc := 51) B d_Book_post_51 rfl 4 rfl ?_
        refine mv_iconst (pc := 52) (v := 2) B d_Book_post_52 (by decide) ?_
        obtain ⟨og22, g22, eg22, hf⟩ := xtb_e hf
        refine mv_callVUv (pc := 53) (n := 1) (ci := 12) (C := R_Book) B (mK_ok sk sv) hNs rfl rfl (ch_Book_need_x l hi _ (xrw r_g21 hb) _ eg22) rfl (ma_goodc kc_Book_need) (B.2.2.2.1 _ k_2177) (B.2.2.2.1 _ k_2179) (B.2.2.2.1 _ ks_91) (B.2.2.2.1 _ k_13) ⟨by decide +kernel, by decide +kernel, by decide +kernel⟩ rfl d_Book_post_53 rfl (Nat.le_of_ble_eq_true rfl) ⟨by first | decide | (dsimp only; omega), by first | decide | (dsimp only; omega)⟩ ⟨Nat.le_refl _, Nat.le_refl _⟩ ⟨Nat.le_refl _, Nat.le_refl _⟩ (mv_noH hno _) (fun τ9 g9 => Or.inr ⟨rfl, xth hf g9 r_g21⟩) (fun σ53 h53 => ?_)
        obtain ⟨rfl, rfl, s_g22⟩ := h53
        have hf := xt2_s hf
        have r_g22 : mv_r g22 = mv_r h := s_g22.trans r_g21
        refine mv_aload_n (pc := 56) B d_Book_post_56 rfl 4 rfl ?_
        refine mv_getI (pc := 57) (ci := 12) (C := R_Book) (T := F_Book) (N := 65) B 4 rfl rfl (by decide) i_Book (B.2.2.2.1 _ k_1847) rfl d_Book_post_57 ?_
        refine mv_bipush (pc := 60) (v := 58) B d_Book_post_60 (by decide) ?_
        refine mv_icmp_ne (pc := 62) (tgt := 69) B d_Book_post_62 rfl (fun h62 => ?_) (fun h62 => ?_)
        · skip
          have hf := xif_f h62 hf
          refine mv_iconst (pc := 69) (v := 0) B d_Book_post_69 (by decide) ?_
          refine mv_lpick [4, 5, 3, 2, 1, 0] rfl ?_
          exact jn70 _ _ _ _ _ _ _ r_g22 hf
        · skip
          have hf := xif_t h62 hf
          refine mv_iconst (pc := 65) (v := 1) B d_Book_post_65 (by decide) ?_
          refine mv_goto (pc := 66) (tgt := 70) B d_Book_post_66 rfl ?_
          refine mv_lpick [4, 5, 3, 2, 1, 0] rfl ?_
          exact jn70 _ _ _ _ _ _ _ r_g22 hf
  unfold f_Book_post at hf
  refine mv_aload_n (pc := 0) B d_Book_post_0 rfl 0 rfl ?_
  obtain ⟨og24, g24, eg24, hf⟩ := xtb_e hf
  refine mv_callVUi (pc := 1) (n := 0) (ci := 12) (C := R_Book) B (mK_ok sk sv) hNs rfl rfl (ih.2.2.2.2.1 _ _ _ _ (hb) eg24) rfl (ma_goodc kc_Book_primary) (B.2.2.2.1 _ k_2261) (B.2.2.2.1 _ k_2263) (B.2.2.2.1 _ ks_108) (B.2.2.2.1 _ k_13) ⟨by decide +kernel, by decide +kernel, by decide +kernel⟩ rfl d_Book_post_1 rfl (Nat.le_of_ble_eq_true rfl) ⟨by first | decide | (dsimp only; omega), by first | decide | (dsimp only; omega)⟩ ⟨Nat.le_refl _, Nat.le_refl _⟩ ⟨Nat.le_refl _, Nat.le_refl _⟩ (mv_noH hno _) (fun τ9 g9 => Or.inr ⟨rfl, xth hf g9 rfl⟩) (fun u25 σ1 h1 => ?_)
  obtain ⟨rfl, rfl, s_g24⟩ := h1
  have hf := xt2_s hf
  have r_g24 : mv_r g24 = mv_r h := s_g24.trans rfl
  refine mv_istore_n (pc := 4) B d_Book_post_4 rfl (by decide) rfl ?_
  refine mv_lpick [1, 0] rfl ?_
  exact lp5 _ _ _ r_g24 hf
set_option maxHeartbeats 4000000 in
set_option maxRecDepth 100000 in
theorem cr_Book_primary_x (l : Launch) {dA : FieldType → ClassId} {D : va_G} {al : Nat → Nat} {ext : mv_Sh} {sk sv : Nat → Nat} (hi : mv_inj (mg dA D al ext)) (nn : Nat) (ih : RecX l dA D al ext sk sv 74 nn) (h : mv_H) (hb : Br 74 (mv_r h))  {rv : Option Int32} {rg : mv_H} (hf : f_Book_primary 74 (f_BookR 74 nn) h = some (rv, rg)) : mv_C l y_Book_primary (Cond.code y_Book_primary b_Book_primary 2 (Option.some Jvm.ClassFile.FieldType.int) :: ma) ({ frames := nn + 1 + 7, cells := 0, slots := 0, locals := 60 * (nn + 1) + 400 }) (mg dA D al ext) (mK sk sv) [.ref (al 74)] h (mv_Ui (fun v σ1 => rv = some v ∧ rg = σ1 ∧ mv_r σ1 = mv_r h) ("MachineLoomModel$Book$Wrong", al 107) (fun σ1 => rv = none ∧ rg = σ1 ∧ mv_r σ1 = mv_r h)) := by
  refine mv_C.ofV (cc := b_Book_primary) (nL := 2) (ret := (Option.some Jvm.ClassFile.FieldType.int)) (by decide +kernel) rfl hi (Nat.le_of_ble_eq_true rfl) ?_
  intro p e s m below meth c B hNs hr hnm hno
  have jn192 : ∀ (hz : mv_H), mv_r hz = mv_r h → f_Book_primary_192 74 (f_BookR 74 nn)  hz = some (rv, rg) → mv_V p l e ({ frames := nn + 1 + 7, cells := 0, slots := 0, locals := 60 * (nn + 1) + 400 }) s m ([.ref (al 74)] : List Value).toArray below meth c (mg dA D al ext) 2 0 0 (mv_Q (mg dA D al ext) below s 0 0 (mv_Ui (fun v σ1 => rv = some v ∧ rg = σ1 ∧ mv_r σ1 = mv_r h) ("MachineLoomModel$Book$Wrong", al 107) (fun σ1 => rv = none ∧ rg = σ1 ∧ mv_r σ1 = mv_r h))) hz 192 [(0, .ref (al 74))] [] := by
    intro  hz r_hz hf
    unfold f_Book_primary_192 at hf
    refine mv_aload_n (pc := 192) B d_Book_primary_192 rfl 0 rfl ?_
    refine mv_aload_n (pc := 193) B d_Book_primary_193 rfl 0 rfl ?_
    refine mv_getI (pc := 194) (ci := 12) (C := R_Book) (T := F_Book) (N := 65) B 5 rfl rfl (by decide) i_Book (B.2.2.2.1 _ k_1848) rfl d_Book_primary_194 ?_
    refine mv_callVr (pc := 197) (n := 1) (ci := 12) (C := R_Book) B (mK_ok sk sv) hNs rfl rfl (c_Book_wrongAt_x l hi _ _ (xrw r_hz hb)) rfl (ma_goodc kc_Book_wrongAt) (B.2.2.2.1 _ k_2154) (B.2.2.2.1 _ k_2156) (B.2.2.2.1 _ ks_86) (B.2.2.2.1 _ k_13) ⟨by decide +kernel, by decide +kernel, by decide +kernel⟩ rfl d_Book_primary_197 rfl (Nat.le_of_ble_eq_true rfl) ⟨by first | decide | (dsimp only; omega), by first | decide | (dsimp only; omega)⟩ ⟨Nat.le_refl _, Nat.le_refl _⟩ ⟨Nat.le_refl _, Nat.le_refl _⟩ (mv_noH hno _) (fun σ197 h197 => ?_)
    obtain ⟨-, h197⟩ := h197
    subst h197
    refine mvh_hp (R9 := mv_r h) hf r_hz (fun g1 hf r_g1 => ?_)
    exact mv_athrowO (pc := 200) (o := 107) B rfl rfl (mv_noH hno _) d_Book_primary_200 (Nat.le_refl _) (Nat.le_refl _) (Or.inr ⟨rfl, xrt_t hf r_g1⟩)
  unfold f_Book_primary at hf
  refine mv_aload_n (pc := 0) B d_Book_primary_0 rfl 0 rfl ?_
  refine mv_getI (pc := 1) (ci := 12) (C := R_Book) (T := F_Book) (N := 65) B 4 rfl rfl (by decide) i_Book (B.2.2.2.1 _ k_1847) rfl d_Book_primary_1 ?_
  refine mv_iconst (pc := 4) (v := 2) B d_Book_primary_4 (by decide) ?_
  refine mv_icmp_ne (pc := 5) (tgt := 13) B d_Book_primary_5 rfl (fun h5 => ?_) (fun h5 => ?_)
  · skip
    have hf := xif_f h5 hf
    refine mv_aload_n (pc := 13) B d_Book_primary_13 rfl 0 rfl ?_
    refine mv_getI (pc := 14) (ci := 12) (C := R_Book) (T := F_Book) (N := 65) B 4 rfl rfl (by decide) i_Book (B.2.2.2.1 _ k_1847) rfl d_Book_primary_14 ?_
    refine mv_bipush (pc := 17) (v := 40) B d_Book_primary_17 (by decide) ?_
    refine mv_icmp_ne (pc := 19) (tgt := 59) B d_Book_primary_19 rfl (fun h19 => ?_) (fun h19 => ?_)
    · skip
      have hf := xif_f h19 hf
      refine mv_aload_n (pc := 59) B d_Book_primary_59 rfl 0 rfl ?_
      refine mv_getI (pc := 60) (ci := 12) (C := R_Book) (T := F_Book) (N := 65) B 4 rfl rfl (by decide) i_Book (B.2.2.2.1 _ k_1847) rfl d_Book_primary_60 ?_
      refine mv_bipush (pc := 63) (v := 123) B d_Book_primary_63 (by decide) ?_
      refine mv_icmp_ne (pc := 65) (tgt := 73) B d_Book_primary_65 rfl (fun h65 => ?_) (fun h65 => ?_)
      · skip
        have hf := xif_f h65 hf
        refine mv_aload_n (pc := 73) B d_Book_primary_73 rfl 0 rfl ?_
        refine mv_ldcwS (pc := 74) B (hNs.2.1 148 (by decide)).1 d_Book_primary_74 ?_
        obtain ⟨u3, g2, eg2, hf⟩ := xhb_e hf
        refine mv_callVi (pc := 77) (n := 1) (ci := 12) (C := R_Book) B (mK_ok sk sv) hNs rfl rfl (ch_Book_is_x l hi _ (hb) _ (by decide) eg2) rfl (ma_goodc kc_Book_is) (B.2.2.2.1 _ k_2163) (B.2.2.2.1 _ k_2165) (B.2.2.2.1 _ ks_88) (B.2.2.2.1 _ k_13) ⟨by decide +kernel, by decide +kernel, by decide +kernel⟩ rfl d_Book_primary_77 rfl (Nat.le_of_ble_eq_true rfl) ⟨by first | decide | (dsimp only; omega), by first | decide | (dsimp only; omega)⟩ ⟨Nat.le_refl _, Nat.le_refl _⟩ ⟨Nat.le_refl _, Nat.le_refl _⟩ (mv_noH hno _) (fun w77 σ77 h77 => ?_)
        obtain ⟨rfl, rfl, s_g2⟩ := h77
        have r_g2 : mv_r g2 = mv_r h := s_g2.trans rfl
        refine mv_if_eq (pc := 80) (tgt := 89) B d_Book_primary_80 rfl (fun h80 => ?_) (fun h80 => ?_)
        · skip
          have hf := xif_t h80 hf
          refine mv_aload_n (pc := 89) B d_Book_primary_89 rfl 0 rfl ?_
          refine mv_ldcwS (pc := 90) B (hNs.2.1 149 (by decide)).1 d_Book_primary_90 ?_
          obtain ⟨u5, g4, eg4, hf⟩ := xhb_e hf
          refine mv_callVi (pc := 93) (n := 1) (ci := 12) (C := R_Book) B (mK_ok sk sv) hNs rfl rfl (ch_Book_is_x l hi _ (xrw r_g2 hb) _ (by decide) eg4) rfl (ma_goodc kc_Book_is) (B.2.2.2.1 _ k_2163) (B.2.2.2.1 _ k_2165) (B.2.2.2.1 _ ks_88) (B.2.2.2.1 _ k_13) ⟨by decide +kernel, by decide +kernel, by decide +kernel⟩ rfl d_Book_primary_93 rfl (Nat.le_of_ble_eq_true rfl) ⟨by first | decide | (dsimp only; omega), by first | decide | (dsimp only; omega)⟩ ⟨Nat.le_refl _, Nat.le_refl _⟩ ⟨Nat.le_refl _, Nat.le_refl _⟩ (mv_noH hno _) (fun w93 σ93 h93 => ?_)
          obtain ⟨rfl, rfl, s_g4⟩ := h93
          have r_g4 : mv_r g4 = mv_r h := s_g4.trans r_g2
          refine mv_if_eq (pc := 96) (tgt := 105) B d_Book_primary_96 rfl (fun h96 => ?_) (fun h96 => ?_)
          · skip
            have hf := xif_t h96 hf
            refine mv_aload_n (pc := 105) B d_Book_primary_105 rfl 0 rfl ?_
            refine mv_ldcwS (pc := 106) B (hNs.2.1 150 (by decide)).1 d_Book_primary_106 ?_
            obtain ⟨u7, g6, eg6, hf⟩ := xhb_e hf
            refine mv_callVi (pc := 109) (n := 1) (ci := 12) (C := R_Book) B (mK_ok sk sv) hNs rfl rfl (ch_Book_is_x l hi _ (xrw r_g4 hb) _ (by decide) eg6) rfl (ma_goodc kc_Book_is) (B.2.2.2.1 _ k_2163) (B.2.2.2.1 _ k_2165) (B.2.2.2.1 _ ks_88) (B.2.2.2.1 _ k_13) ⟨by decide +kernel, by decide +kernel, by decide +kernel⟩ rfl d_Book_primary_109 rfl (Nat.le_of_ble_eq_true rfl) ⟨by first | decide | (dsimp only; omega), by first | decide | (dsimp only; omega)⟩ ⟨Nat.le_refl _, Nat.le_refl _⟩ ⟨Nat.le_refl _, Nat.le_refl _⟩ (mv_noH hno _) (fun w109 σ109 h109 => ?_)
            obtain ⟨rfl, rfl, s_g6⟩ := h109
            have r_g6 : mv_r g6 = mv_r h := s_g6.trans r_g4
            refine mv_if_eq (pc := 112) (tgt := 123) B d_Book_primary_112 rfl (fun h112 => ?_) (fun h112 => ?_)
            · skip
              have hf := xif_t h112 hf
              refine mv_aload_n (pc := 123) B d_Book_primary_123 rfl 0 rfl ?_
              refine mv_ldcwS (pc := 124) B (hNs.2.1 151 (by decide)).1 d_Book_primary_124 ?_
              obtain ⟨u9, g8, eg8, hf⟩ := xhb_e hf
              refine mv_callVi (pc := 127) (n := 1) (ci := 12) (C := R_Book) B (mK_ok sk sv) hNs rfl rfl (ch_Book_is_x l hi _ (xrw r_g6 hb) _ (by decide) eg8) rfl (ma_goodc kc_Book_is) (B.2.2.2.1 _ k_2163) (B.2.2.2.1 _ k_2165) (B.2.2.2.1 _ ks_88) (B.2.2.2.1 _ k_13) ⟨by decide +kernel, by decide +kernel, by decide +kernel⟩ rfl d_Book_primary_127 rfl (Nat.le_of_ble_eq_true rfl) ⟨by first | decide | (dsimp only; omega), by first | decide | (dsimp only; omega)⟩ ⟨Nat.le_refl _, Nat.le_refl _⟩ ⟨Nat.le_refl _, Nat.le_refl _⟩ (mv_noH hno _) (fun w127 σ127 h127 => ?_)
              obtain ⟨rfl, rfl, s_g8⟩ := h127
              have r_g8 : mv_r g8 = mv_r h := s_g8.trans r_g6
              refine mv_if_eq (pc := 130) (tgt := 141) B d_Book_primary_130 rfl (fun h130 => ?_) (fun h130 => ?_)
              · skip
                have hf := xif_t h130 hf
                refine mv_aload_n (pc := 141) B d_Book_primary_141 rfl 0 rfl ?_
                refine mv_ldcwS (pc := 142) B (hNs.2.1 152 (by decide)).1 d_Book_primary_142 ?_
                obtain ⟨u11, g10, eg10, hf⟩ := xhb_e hf
                refine mv_callVi (pc := 145) (n := 1) (ci := 12) (C := R_Book) B (mK_ok sk sv) hNs rfl rfl (ch_Book_is_x l hi _ (xrw r_g8 hb) _ (by decide) eg10) rfl (ma_goodc kc_Book_is) (B.2.2.2.1 _ k_2163) (B.2.2.2.1 _ k_2165) (B.2.2.2.1 _ ks_88) (B.2.2.2.1 _ k_13) ⟨by decide +kernel, by decide +kernel, by decide +kernel⟩ rfl d_Book_primary_145 rfl (Nat.le_of_ble_eq_true rfl) ⟨by first | decide | (dsimp only; omega), by first | decide | (dsimp only; omega)⟩ ⟨Nat.le_refl _, Nat.le_refl _⟩ ⟨Nat.le_refl _, Nat.le_refl _⟩ (mv_noH hno _) (fun w145 σ145 h145 => ?_)
                obtain ⟨rfl, rfl, s_g10⟩ := h145
                have r_g10 : mv_r g10 = mv_r h := s_g10.trans r_g8
                refine mv_if_eq (pc := 148) (tgt := 159) B d_Book_primary_148 rfl (fun h148 => ?_) (fun h148 => ?_)
                · skip
                  have hf := xif_t h148 hf
                  refine mv_aload_n (pc := 159) B d_Book_primary_159 rfl 0 rfl ?_
                  refine mv_ldcwS (pc := 160) B (hNs.2.1 153 (by decide)).1 d_Book_primary_160 ?_
                  obtain ⟨u13, g12, eg12, hf⟩ := xhb_e hf
                  refine mv_callVi (pc := 163) (n := 1) (ci := 12) (C := R_Book) B (mK_ok sk sv) hNs rfl rfl (ch_Book_is_x l hi _ (xrw r_g10 hb) _ (by decide) eg12) rfl (ma_goodc kc_Book_is) (B.2.2.2.1 _ k_2163) (B.2.2.2.1 _ k_2165) (B.2.2.2.1 _ ks_88) (B.2.2.2.1 _ k_13) ⟨by decide +kernel, by decide +kernel, by decide +kernel⟩ rfl d_Book_primary_163 rfl (Nat.le_of_ble_eq_true rfl) ⟨by first | decide | (dsimp only; omega), by first | decide | (dsimp only; omega)⟩ ⟨Nat.le_refl _, Nat.le_refl _⟩ ⟨Nat.le_refl _, Nat.le_refl _⟩ (mv_noH hno _) (fun w163 σ163 h163 => ?_)
                  obtain ⟨rfl, rfl, s_g12⟩ := h163
                  have r_g12 : mv_r g12 = mv_r h := s_g12.trans r_g10
                  refine mv_if_eq (pc := 166) (tgt := 177) B d_Book_primary_166 rfl (fun h166 => ?_) (fun h166 => ?_)
                  · skip
                    have hf := xif_t h166 hf
                    refine mv_aload_n (pc := 177) B d_Book_primary_177 rfl 0 rfl ?_
                    refine mv_getI (pc := 178) (ci := 12) (C := R_Book) (T := F_Book) (N := 65) B 4 rfl rfl (by decide) i_Book (B.2.2.2.1 _ k_1847) rfl d_Book_primary_178 ?_
                    refine mv_iconst (pc := 181) (v := 1) B d_Book_primary_181 (by decide) ?_
                    refine mv_icmp_ne (pc := 182) (tgt := 192) B d_Book_primary_182 rfl (fun h182 => ?_) (fun h182 => ?_)
                    · skip
                      have hf := xif_f h182 hf
                      refine mv_lpick [0] rfl ?_
                      exact jn192  _ r_g12 hf
                    · skip
                      have hf := xif_t h182 hf
                      refine mv_aload_n (pc := 185) B d_Book_primary_185 rfl 0 rfl ?_
                      obtain ⟨u15, g14, eg14, hf⟩ := xhb_e hf
                      refine mv_callVi (pc := 186) (n := 0) (ci := 12) (C := R_Book) B (mK_ok sk sv) hNs rfl rfl (ch_Book_reserved_x l hi _ (xrw r_g12 hb) eg14) rfl (ma_goodc kc_Book_reserved) (B.2.2.2.1 _ k_2198) (B.2.2.2.1 _ k_2200) (B.2.2.2.1 _ ks_95) (B.2.2.2.1 _ k_13) ⟨by decide +kernel, by decide +kernel, by decide +kernel⟩ rfl d_Book_primary_186 rfl (Nat.le_of_ble_eq_true rfl) ⟨by first | decide | (dsimp only; omega), by first | decide | (dsimp only; omega)⟩ ⟨Nat.le_refl _, Nat.le_refl _⟩ ⟨Nat.le_refl _, Nat.le_refl _⟩ (mv_noH hno _) (fun w186 σ186 h186 => ?_)
                      obtain ⟨rfl, rfl, s_g14⟩ := h186
                      have r_g14 : mv_r g14 = mv_r h := s_g14.trans r_g12
                      refine mv_if_eq (pc := 189) (tgt := 201) B d_Book_primary_189 rfl (fun h189 => ?_) (fun h189 => ?_)
                      · skip
                        have hf := xif_t h189 hf
                        refine mv_aload_n (pc := 201) B d_Book_primary_201 rfl 0 rfl ?_
                        obtain ⟨og16, g16, eg16, hf⟩ := xtb_e hf
                        refine mv_callVUi (pc := 202) (n := 0) (ci := 12) (C := R_Book) B (mK_ok sk sv) hNs rfl rfl (ih.2.2.2.2.2.1 _ _ _ _ (xrw r_g14 hb) eg16) rfl (ma_goodc kc_Book_named) (B.2.2.2.1 _ k_2301) (B.2.2.2.1 _ k_2303) (B.2.2.2.1 _ ks_115) (B.2.2.2.1 _ k_13) ⟨by decide +kernel, by decide +kernel, by decide +kernel⟩ rfl d_Book_primary_202 rfl (Nat.le_of_ble_eq_true rfl) ⟨by first | decide | (dsimp only; omega), by first | decide | (dsimp only; omega)⟩ ⟨Nat.le_refl _, Nat.le_refl _⟩ ⟨Nat.le_refl _, Nat.le_refl _⟩ (mv_noH hno _) (fun τ9 g9 => Or.inr ⟨rfl, xth hf g9 r_g14⟩) (fun u17 σ202 h202 => ?_)
                        obtain ⟨rfl, rfl, s_g16⟩ := h202
                        have hf := xt2_s hf
                        have r_g16 : mv_r g16 = mv_r h := s_g16.trans r_g14
                        exact mv_iret (pc := 205) B hr rfl d_Book_primary_205 (Nat.le_refl _) (Nat.le_refl _) (Or.inl ⟨_, rfl, xrt_i hf r_g16⟩)
                      · skip
                        have hf := xif_f h189 hf
                        refine mv_lpick [0] rfl ?_
                        exact jn192  _ r_g14 hf
                  · skip
                    have hf := xif_f h166 hf
                    refine mv_aload_n (pc := 169) B d_Book_primary_169 rfl 0 rfl ?_
                    refine mv_sipush (pc := 170) (v := 1003) B d_Book_primary_170 (by decide) ?_
                    obtain ⟨og18, g18, eg18, hf⟩ := xtb_e hf
                    refine mv_callVUi (pc := 173) (n := 1) (ci := 12) (C := R_Book) B (mK_ok sk sv) hNs rfl rfl (ih.2.2.2.2.2.2.2.1 _ _ _ _ (xrw r_g12 hb) eg18) rfl (ma_goodc kc_Book_called) (B.2.2.2.1 _ k_2284) (B.2.2.2.1 _ k_2286) (B.2.2.2.1 _ ks_113) (B.2.2.2.1 _ k_13) ⟨by decide +kernel, by decide +kernel, by decide +kernel⟩ rfl d_Book_primary_173 rfl (Nat.le_of_ble_eq_true rfl) ⟨by first | decide | (dsimp only; omega), by first | decide | (dsimp only; omega)⟩ ⟨Nat.le_refl _, Nat.le_refl _⟩ ⟨Nat.le_refl _, Nat.le_refl _⟩ (mv_noH hno _) (fun τ9 g9 => Or.inr ⟨rfl, xth hf g9 r_g12⟩) (fun u19 σ173 h173 => ?_)
                    obtain ⟨rfl, rfl, s_g18⟩ := h173
                    have hf := xt2_s hf
                    have r_g18 : mv_r g18 = mv_r h := s_g18.trans r_g12
                    exact mv_iret (pc := 176) B hr rfl d_Book_primary_176 (Nat.le_refl _) (Nat.le_refl _) (Or.inl ⟨_, rfl, xrt_i hf r_g18⟩)
                · skip
                  have hf := xif_f h148 hf
                  refine mv_aload_n (pc := 151) B d_Book_primary_151 rfl 0 rfl ?_
                  refine mv_sipush (pc := 152) (v := 1002) B d_Book_primary_152 (by decide) ?_
                  obtain ⟨og20, g20, eg20, hf⟩ := xtb_e hf
                  refine mv_callVUi (pc := 155) (n := 1) (ci := 12) (C := R_Book) B (mK_ok sk sv) hNs rfl rfl (ih.2.2.2.2.2.2.2.1 _ _ _ _ (xrw r_g10 hb) eg20) rfl (ma_goodc kc_Book_called) (B.2.2.2.1 _ k_2284) (B.2.2.2.1 _ k_2286) (B.2.2.2.1 _ ks_113) (B.2.2.2.1 _ k_13) ⟨by decide +kernel, by decide +kernel, by decide +kernel⟩ rfl d_Book_primary_155 rfl (Nat.le_of_ble_eq_true rfl) ⟨by first | decide | (dsimp only; omega), by first | decide | (dsimp only; omega)⟩ ⟨Nat.le_refl _, Nat.le_refl _⟩ ⟨Nat.le_refl _, Nat.le_refl _⟩ (mv_noH hno _) (fun τ9 g9 => Or.inr ⟨rfl, xth hf g9 r_g10⟩) (fun u21 σ155 h155 => ?_)
                  obtain ⟨rfl, rfl, s_g20⟩ := h155
                  have hf := xt2_s hf
                  have r_g20 : mv_r g20 = mv_r h := s_g20.trans r_g10
                  exact mv_iret (pc := 158) B hr rfl d_Book_primary_158 (Nat.le_refl _) (Nat.le_refl _) (Or.inl ⟨_, rfl, xrt_i hf r_g20⟩)
              · skip
                have hf := xif_f h130 hf
                refine mv_aload_n (pc := 133) B d_Book_primary_133 rfl 0 rfl ?_
                refine mv_sipush (pc := 134) (v := 1001) B d_Book_primary_134 (by decide) ?_
                obtain ⟨og22, g22, eg22, hf⟩ := xtb_e hf
                refine mv_callVUi (pc := 137) (n := 1) (ci := 12) (C := R_Book) B (mK_ok sk sv) hNs rfl rfl (ih.2.2.2.2.2.2.2.1 _ _ _ _ (xrw r_g8 hb) eg22) rfl (ma_goodc kc_Book_called) (B.2.2.2.1 _ k_2284) (B.2.2.2.1 _ k_2286) (B.2.2.2.1 _ ks_113) (B.2.2.2.1 _ k_13) ⟨by decide +kernel, by decide +kernel, by decide +kernel⟩ rfl d_Book_primary_137 rfl (Nat.le_of_ble_eq_true rfl) ⟨by first | decide | (dsimp only; omega), by first | decide | (dsimp only; omega)⟩ ⟨Nat.le_refl _, Nat.le_refl _⟩ ⟨Nat.le_refl _, Nat.le_refl _⟩ (mv_noH hno _) (fun τ9 g9 => Or.inr ⟨rfl, xth hf g9 r_g8⟩) (fun u23 σ137 h137 => ?_)
                obtain ⟨rfl, rfl, s_g22⟩ := h137
                have hf := xt2_s hf
                have r_g22 : mv_r g22 = mv_r h := s_g22.trans r_g8
                exact mv_iret (pc := 140) B hr rfl d_Book_primary_140 (Nat.le_refl _) (Nat.le_refl _) (Or.inl ⟨_, rfl, xrt_i hf r_g22⟩)
            · skip
              have hf := xif_f h112 hf
              refine mv_aload_n (pc := 115) B d_Book_primary_115 rfl 0 rfl ?_
              refine mv_sipush (pc := 116) (v := 1000) B d_Book_primary_116 (by decide) ?_
              obtain ⟨og24, g24, eg24, hf⟩ := xtb_e hf
              refine mv_callVUi (pc := 119) (n := 1) (ci := 12) (C := R_Book) B (mK_ok sk sv) hNs rfl rfl (ih.2.2.2.2.2.2.2.1 _ _ _ _ (xrw r_g6 hb) eg24) rfl (ma_goodc kc_Book_called) (B.2.2.2.1 _ k_2284) (B.2.2.2.1 _ k_2286) (B.2.2.2.1 _ ks_113) (B.2.2.2.1 _ k_13) ⟨by decide +kernel, by decide +kernel, by decide +kernel⟩ rfl d_Book_primary_119 rfl (Nat.le_of_ble_eq_true rfl) ⟨by first | decide | (dsimp only; omega), by first | decide | (dsimp only; omega)⟩ ⟨Nat.le_refl _, Nat.le_refl _⟩ ⟨Nat.le_refl _, Nat.le_refl _⟩ (mv_noH hno _) (fun τ9 g9 => Or.inr ⟨rfl, xth hf g9 r_g6⟩) (fun u25 σ119 h119 => ?_)
              obtain ⟨rfl, rfl, s_g24⟩ := h119
              have hf := xt2_s hf
              have r_g24 : mv_r g24 = mv_r h := s_g24.trans r_g6
              exact mv_iret (pc := 122) B hr rfl d_Book_primary_122 (Nat.le_refl _) (Nat.le_refl _) (Or.inl ⟨_, rfl, xrt_i hf r_g24⟩)
          · skip
            have hf := xif_f h96 hf
            refine mv_aload_n (pc := 99) B d_Book_primary_99 rfl 0 rfl ?_
            refine mv_iconst (pc := 100) (v := 0) B d_Book_primary_100 (by decide) ?_
            obtain ⟨og26, g26, eg26, hf⟩ := xtb_e hf
            refine mv_callVUi (pc := 101) (n := 1) (ci := 12) (C := R_Book) B (mK_ok sk sv) hNs rfl rfl (ih.2.2.2.2.2.2.1 _ _ _ _ (xrw r_g4 hb) eg26) rfl (ma_goodc kc_Book_wider) (B.2.2.2.1 _ k_2278) (B.2.2.2.1 _ k_2280) (B.2.2.2.1 _ ks_112) (B.2.2.2.1 _ k_13) ⟨by decide +kernel, by decide +kernel, by decide +kernel⟩ rfl d_Book_primary_101 rfl (Nat.le_of_ble_eq_true rfl) ⟨by first | decide | (dsimp only; omega), by first | decide | (dsimp only; omega)⟩ ⟨Nat.le_refl _, Nat.le_refl _⟩ ⟨Nat.le_refl _, Nat.le_refl _⟩ (mv_noH hno _) (fun τ9 g9 => Or.inr ⟨rfl, xth hf g9 r_g4⟩) (fun u27 σ101 h101 => ?_)
            obtain ⟨rfl, rfl, s_g26⟩ := h101
            have hf := xt2_s hf
            have r_g26 : mv_r g26 = mv_r h := s_g26.trans r_g4
            exact mv_iret (pc := 104) B hr rfl d_Book_primary_104 (Nat.le_refl _) (Nat.le_refl _) (Or.inl ⟨_, rfl, xrt_i hf r_g26⟩)
        · skip
          have hf := xif_f h80 hf
          refine mv_aload_n (pc := 83) B d_Book_primary_83 rfl 0 rfl ?_
          refine mv_iconst (pc := 84) (v := 1) B d_Book_primary_84 (by decide) ?_
          obtain ⟨og28, g28, eg28, hf⟩ := xtb_e hf
          refine mv_callVUi (pc := 85) (n := 1) (ci := 12) (C := R_Book) B (mK_ok sk sv) hNs rfl rfl (ih.2.2.2.2.2.2.1 _ _ _ _ (xrw r_g2 hb) eg28) rfl (ma_goodc kc_Book_wider) (B.2.2.2.1 _ k_2278) (B.2.2.2.1 _ k_2280) (B.2.2.2.1 _ ks_112) (B.2.2.2.1 _ k_13) ⟨by decide +kernel, by decide +kernel, by decide +kernel⟩ rfl d_Book_primary_85 rfl (Nat.le_of_ble_eq_true rfl) ⟨by first | decide | (dsimp only; omega), by first | decide | (dsimp only; omega)⟩ ⟨Nat.le_refl _, Nat.le_refl _⟩ ⟨Nat.le_refl _, Nat.le_refl _⟩ (mv_noH hno _) (fun τ9 g9 => Or.inr ⟨rfl, xth hf g9 r_g2⟩) (fun u29 σ85 h85 => ?_)
          obtain ⟨rfl, rfl, s_g28⟩ := h85
          have hf := xt2_s hf
          have r_g28 : mv_r g28 = mv_r h := s_g28.trans r_g2
          exact mv_iret (pc := 88) B hr rfl d_Book_primary_88 (Nat.le_refl _) (Nat.le_refl _) (Or.inl ⟨_, rfl, xrt_i hf r_g28⟩)
      · skip
        have hf := xif_t h65 hf
        refine mv_aload_n (pc := 68) B d_Book_primary_68 rfl 0 rfl ?_
        obtain ⟨og30, g30, eg30, hf⟩ := xtb_e hf
        refine mv_callVUi (pc := 69) (n := 0) (ci := 12) (C := R_Book) B (mK_ok sk sv) hNs rfl rfl (ih.2.2.2.2.2.2.2.2 _ _ _ _ (hb) eg30) rfl (ma_goodc kc_Book_together) (B.2.2.2.1 _ k_2273) (B.2.2.2.1 _ k_2275) (B.2.2.2.1 _ ks_111) (B.2.2.2.1 _ k_13) ⟨by decide +kernel, by decide +kernel, by decide +kernel⟩ rfl d_Book_primary_69 rfl (Nat.le_of_ble_eq_true rfl) ⟨by first | decide | (dsimp only; omega), by first | decide | (dsimp only; omega)⟩ ⟨Nat.le_refl _, Nat.le_refl _⟩ ⟨Nat.le_refl _, Nat.le_refl _⟩ (mv_noH hno _) (fun τ9 g9 => Or.inr ⟨rfl, xth hf g9 rfl⟩) (fun u31 σ69 h69 => ?_)
        obtain ⟨rfl, rfl, s_g30⟩ := h69
        have hf := xt2_s hf
        have r_g30 : mv_r g30 = mv_r h := s_g30.trans rfl
        exact mv_iret (pc := 72) B hr rfl d_Book_primary_72 (Nat.le_refl _) (Nat.le_refl _) (Or.inl ⟨_, rfl, xrt_i hf r_g30⟩)
    · skip
      have hf := xif_t h19 hf
      refine mv_aload_n (pc := 22) B d_Book_primary_22 rfl 0 rfl ?_
      obtain ⟨og32, g32, eg32, hf⟩ := xtb_e hf
      refine mv_callVUv (pc := 23) (n := 0) (ci := 12) (C := R_Book) B (mK_ok sk sv) hNs rfl rfl (ch_Book_pass_x l hi _ (hb) eg32) rfl (ma_goodc kc_Book_pass) (B.2.2.2.1 _ k_2173) (B.2.2.2.1 _ k_2175) (B.2.2.2.1 _ ks_90) (B.2.2.2.1 _ k_13) ⟨by decide +kernel, by decide +kernel, by decide +kernel⟩ rfl d_Book_primary_23 rfl (Nat.le_of_ble_eq_true rfl) ⟨by first | decide | (dsimp only; omega), by first | decide | (dsimp only; omega)⟩ ⟨Nat.le_refl _, Nat.le_refl _⟩ ⟨Nat.le_refl _, Nat.le_refl _⟩ (mv_noH hno _) (fun τ9 g9 => Or.inr ⟨rfl, xth hf g9 rfl⟩) (fun σ23 h23 => ?_)
      obtain ⟨rfl, rfl, s_g32⟩ := h23
      have hf := xt2_s hf
      have r_g32 : mv_r g32 = mv_r h := s_g32.trans rfl
      refine mv_aload_n (pc := 26) B d_Book_primary_26 rfl 0 rfl ?_
      refine mv_dup (pc := 27) B d_Book_primary_27 rfl ?_
      refine mv_getI (pc := 28) (ci := 12) (C := R_Book) (T := F_Book) (N := 65) B 8 rfl rfl (by decide) i_Book (B.2.2.2.1 _ k_1851) rfl d_Book_primary_28 ?_
      refine mv_iconst (pc := 31) (v := 1) B d_Book_primary_31 (by decide) ?_
      refine mv_iadd (pc := 32) B d_Book_primary_32 ?_
      refine mv_putI (pc := 33) (ci := 12) (C := R_Book) (T := F_Book) (N := 65) B 8 rfl rfl (by decide) i_Book t_Book_ok n_Book (B.2.2.2.1 _ k_1851) rfl rfl rfl rfl d_Book_primary_33 ?_
      refine mvh_hp (R9 := mv_r h) hf r_g32 (fun g34 hf r_g34 => ?_)
      refine mv_aload_n (pc := 36) B d_Book_primary_36 rfl 0 rfl ?_
      obtain ⟨og35, g35, eg35, hf⟩ := xtb_e hf
      refine mv_callVUi (pc := 37) (n := 0) (ci := 12) (C := R_Book) B (mK_ok sk sv) hNs rfl rfl (ih.1 _ _ _ _ (xrw r_g34 hb) eg35) rfl (ma_goodc kc_Book_expression) (B.2.2.2.1 _ k_2245) (B.2.2.2.1 _ k_2247) (B.2.2.2.1 _ ks_104) (B.2.2.2.1 _ k_13) ⟨by decide +kernel, by decide +kernel, by decide +kernel⟩ rfl d_Book_primary_37 rfl (Nat.le_of_ble_eq_true rfl) ⟨by first | decide | (dsimp only; omega), by first | decide | (dsimp only; omega)⟩ ⟨Nat.le_refl _, Nat.le_refl _⟩ ⟨Nat.le_refl _, Nat.le_refl _⟩ (mv_noH hno _) (fun τ9 g9 => Or.inr ⟨rfl, xth hf g9 r_g34⟩) (fun u36 σ37 h37 => ?_)
      obtain ⟨rfl, rfl, s_g35⟩ := h37
      have hf := xt2_s hf
      have r_g35 : mv_r g35 = mv_r h := s_g35.trans r_g34
      refine mv_istore_n (pc := 40) B d_Book_primary_40 rfl (by decide) rfl ?_
      refine mv_aload_n (pc := 41) B d_Book_primary_41 rfl 1 rfl ?_
      refine mv_bipush (pc := 42) (v := 41) B d_Book_primary_42 (by decide) ?_
      obtain ⟨og37, g37, eg37, hf⟩ := xtb_e hf
      refine mv_callVUv (pc := 44) (n := 1) (ci := 12) (C := R_Book) B (mK_ok sk sv) hNs rfl rfl (ch_Book_need_x l hi _ (xrw r_g35 hb) _ eg37) rfl (ma_goodc kc_Book_need) (B.2.2.2.1 _ k_2177) (B.2.2.2.1 _ k_2179) (B.2.2.2.1 _ ks_91) (B.2.2.2.1 _ k_13) ⟨by decide +kernel, by decide +kernel, by decide +kernel⟩ rfl d_Book_primary_44 rfl (Nat.le_of_ble_eq_true rfl) ⟨by first | decide | (dsimp only; omega), by first | decide | (dsimp only; omega)⟩ ⟨Nat.le_refl _, Nat.le_refl _⟩ ⟨Nat.le_refl _, Nat.le_refl _⟩ (mv_noH hno _) (fun τ9 g9 => Or.inr ⟨rfl, xth hf g9 r_g35⟩) (fun σ44 h44 => ?_)
      obtain ⟨rfl, rfl, s_g37⟩ := h44
      have hf := xt2_s hf
      have r_g37 : mv_r g37 = mv_r h := s_g37.trans r_g35
      refine mv_aload_n (pc := 47) B d_Book_primary_47 rfl 1 rfl ?_
      refine mv_dup (pc := 48) B d_Book_primary_48 rfl ?_
      refine mv_getI (pc := 49) (ci := 12) (C := R_Book) (T := F_Book) (N := 65) B 8 rfl rfl (by decide) i_Book (B.2.2.2.1 _ k_1851) rfl d_Book_primary_49 ?_
      refine mv_iconst (pc := 52) (v := 1) B d_Book_primary_52 (by decide) ?_
      refine mv_isub (pc := 53) B d_Book_primary_53 ?_
      refine mv_putI (pc := 54) (ci := 12) (C := R_Book) (T := F_Book) (N := 65) B 8 rfl rfl (by decide) i_Book t_Book_ok n_Book (B.2.2.2.1 _ k_1851) rfl rfl rfl rfl d_Book_primary_54 ?_
      refine mvh_hp (R9 := mv_r h) hf r_g37 (fun g39 hf r_g39 => ?_)
      refine mv_iload_n (pc := 57) B d_Book_primary_57 rfl 0 rfl ?_
      exact mv_iret (pc := 58) B hr rfl d_Book_primary_58 (Nat.le_refl _) (Nat.le_refl _) (Or.inl ⟨_, rfl, xrt_i hf r_g39⟩)
  · skip
    have hf := xif_t h5 hf
    refine mv_aload_n (pc := 8) B d_Book_primary_8 rfl 0 rfl ?_
    obtain ⟨og40, g40, eg40, hf⟩ := xtb_e hf
    refine mv_callVUi (pc := 9) (n := 0) (ci := 12) (C := R_Book) B (mK_ok sk sv) hNs rfl rfl (ch_Book_literal_x l hi _ (hb) eg40) rfl (ma_goodc kc_Book_literal) (B.2.2.2.1 _ k_2265) (B.2.2.2.1 _ k_2267) (B.2.2.2.1 _ ks_109) (B.2.2.2.1 _ k_13) ⟨by decide +kernel, by decide +kernel, by decide +kernel⟩ rfl d_Book_primary_9 rfl (Nat.le_of_ble_eq_true rfl) ⟨by first | decide | (dsimp only; omega), by first | decide | (dsimp only; omega)⟩ ⟨Nat.le_refl _, Nat.le_refl _⟩ ⟨Nat.le_refl _, Nat.le_refl _⟩ (mv_noH hno _) (fun τ9 g9 => Or.inr ⟨rfl, xth hf g9 rfl⟩) (fun u41 σ9 h9 => ?_)
    obtain ⟨rfl, rfl, s_g40⟩ := h9
    have hf := xt2_s hf
    have r_g40 : mv_r g40 = mv_r h := s_g40.trans rfl
    exact mv_iret (pc := 12) B hr rfl d_Book_primary_12 (Nat.le_refl _) (Nat.le_refl _) (Or.inl ⟨_, rfl, xrt_i hf r_g40⟩)
set_option maxHeartbeats 4000000 in
set_option maxRecDepth 100000 in
theorem cr_Book_named_x (l : Launch) {dA : FieldType → ClassId} {D : va_G} {al : Nat → Nat} {ext : mv_Sh} {sk sv : Nat → Nat} (hi : mv_inj (mg dA D al ext)) (nn : Nat) (ih : RecX l dA D al ext sk sv 74 nn) (h : mv_H) (hb : Br 74 (mv_r h))  {rv : Option Int32} {rg : mv_H} (hf : f_Book_named 74 (f_BookR 74 nn) h = some (rv, rg)) : mv_C l y_Book_named (Cond.code y_Book_named b_Book_named 6 (Option.some Jvm.ClassFile.FieldType.int) :: ma) ({ frames := nn + 1 + 7, cells := 0, slots := 0, locals := 60 * (nn + 1) + 400 }) (mg dA D al ext) (mK sk sv) [.ref (al 74)] h (mv_Ui (fun v σ1 => rv = some v ∧ rg = σ1 ∧ mv_r σ1 = mv_r h) ("MachineLoomModel$Book$Wrong", al 107) (fun σ1 => rv = none ∧ rg = σ1 ∧ mv_r σ1 = mv_r h)) := by
  refine mv_C.ofV (cc := b_Book_named) (nL := 6) (ret := (Option.some Jvm.ClassFile.FieldType.int)) (by decide +kernel) rfl hi (Nat.le_of_ble_eq_true rfl) ?_
  intro p e s m below meth c B hNs hr hnm hno
  have jn223 : ∀ (y0 : Int32) (y1 : Int32) (y2 : Int32) (y3 : Int32) (y4 : Int32) (hz : mv_H), mv_r hz = mv_r h → f_Book_named_223 74 (f_BookR 74 nn) y0 y1 y2 y3 y4 hz = some (rv, rg) → mv_V p l e ({ frames := nn + 1 + 7, cells := 0, slots := 0, locals := 60 * (nn + 1) + 400 }) s m ([.ref (al 74)] : List Value).toArray below meth c (mg dA D al ext) 6 0 0 (mv_Q (mg dA D al ext) below s 0 0 (mv_Ui (fun v σ1 => rv = some v ∧ rg = σ1 ∧ mv_r σ1 = mv_r h) ("MachineLoomModel$Book$Wrong", al 107) (fun σ1 => rv = none ∧ rg = σ1 ∧ mv_r σ1 = mv_r h))) hz 223 [] [.int y0, .int y1, .int y2, .int y3, .int y4, .ref (al 74)] := by
    intro y0 y1 y2 y3 y4 hz r_hz hf
    unfold f_Book_named_223 at hf
    obtain ⟨u2, g1, eg1, hf⟩ := xhb_e hf
    refine mv_callVi (pc := 223) (n := 5) (ci := 12) (C := R_Book) B (mK_ok sk sv) hNs rfl rfl (ch_Book_node_x l hi _ (xrw r_hz hb) _ _ _ _ _ eg1) rfl (ma_goodc kc_Book_node) (B.2.2.2.1 _ k_2269) (B.2.2.2.1 _ k_2271) (B.2.2.2.1 _ ks_110) (B.2.2.2.1 _ k_13) ⟨by decide +kernel, by decide +kernel, by decide +kernel⟩ rfl d_Book_named_223 rfl (Nat.le_of_ble_eq_true rfl) ⟨by first | decide | (dsimp only; omega), by first | decide | (dsimp only; omega)⟩ ⟨Nat.le_refl _, Nat.le_refl _⟩ ⟨Nat.le_refl _, Nat.le_refl _⟩ (mv_noH hno _) (fun w223 σ223 h223 => ?_)
    obtain ⟨rfl, rfl, s_g1⟩ := h223
    have r_g1 : mv_r g1 = mv_r h := s_g1.trans r_hz
    exact mv_iret (pc := 226) B hr rfl d_Book_named_226 (Nat.le_refl _) (Nat.le_refl _) (Or.inl ⟨_, rfl, xrt_i hf r_g1⟩)
  unfold f_Book_named at hf
  refine mv_aload_n (pc := 0) B d_Book_named_0 rfl 0 rfl ?_
  refine mv_getI (pc := 1) (ci := 12) (C := R_Book) (T := F_Book) (N := 65) B 5 rfl rfl (by decide) i_Book (B.2.2.2.1 _ k_1848) rfl d_Book_named_1 ?_
  refine mv_istore_n (pc := 4) B d_Book_named_4 rfl (by decide) rfl ?_
  refine mv_aload_n (pc := 5) B d_Book_named_5 rfl 1 rfl ?_
  refine mv_getI (pc := 6) (ci := 12) (C := R_Book) (T := F_Book) (N := 65) B 6 rfl rfl (by decide) i_Book (B.2.2.2.1 _ k_1849) rfl d_Book_named_6 ?_
  refine mv_istore_n (pc := 9) B d_Book_named_9 rfl (by decide) rfl ?_
  refine mv_aload_n (pc := 10) B d_Book_named_10 rfl 2 rfl ?_
  obtain ⟨og3, g3, eg3, hf⟩ := xtb_e hf
  refine mv_callVUv (pc := 11) (n := 0) (ci := 12) (C := R_Book) B (mK_ok sk sv) hNs rfl rfl (ch_Book_pass_x l hi _ (hb) eg3) rfl (ma_goodc kc_Book_pass) (B.2.2.2.1 _ k_2173) (B.2.2.2.1 _ k_2175) (B.2.2.2.1 _ ks_90) (B.2.2.2.1 _ k_13) ⟨by decide +kernel, by decide +kernel, by decide +kernel⟩ rfl d_Book_named_11 rfl (Nat.le_of_ble_eq_true rfl) ⟨by first | decide | (dsimp only; omega), by first | decide | (dsimp only; omega)⟩ ⟨Nat.le_refl _, Nat.le_refl _⟩ ⟨Nat.le_refl _, Nat.le_refl _⟩ (mv_noH hno _) (fun τ9 g9 => Or.inr ⟨rfl, xth hf g9 rfl⟩) (fun σ11 h11 => ?_)
  obtain ⟨rfl, rfl, s_g3⟩ := h11
  have hf := xt2_s hf
  have r_g3 : mv_r g3 = mv_r h := s_g3.trans rfl
  refine mv_aload_n (pc := 14) B d_Book_named_14 rfl 2 rfl ?_
  refine mv_iload_n (pc := 15) B d_Book_named_15 rfl 1 rfl ?_
  refine mv_iload_n (pc := 16) B d_Book_named_16 rfl 0 rfl ?_
  obtain ⟨u6, g5, eg5, hf⟩ := xhb_e hf
  refine mv_callVi (pc := 17) (n := 2) (ci := 12) (C := R_Book) B (mK_ok sk sv) hNs rfl rfl (ch_Book_let_x l hi _ (xrw r_g3 hb) _ _ eg5) rfl (ma_goodc kc_Book_let) (B.2.2.2.1 _ k_2305) (B.2.2.2.1 _ k_2307) (B.2.2.2.1 _ ks_116) (B.2.2.2.1 _ k_13) ⟨by decide +kernel, by decide +kernel, by decide +kernel⟩ rfl d_Book_named_17 rfl (Nat.le_of_ble_eq_true rfl) ⟨by first | decide | (dsimp only; omega), by first | decide | (dsimp only; omega)⟩ ⟨Nat.le_refl _, Nat.le_refl _⟩ ⟨Nat.le_refl _, Nat.le_refl _⟩ (mv_noH hno _) (fun w17 σ17 h17 => ?_)
  obtain ⟨rfl, rfl, s_g5⟩ := h17
  have r_g5 : mv_r g5 = mv_r h := s_g5.trans r_g3
  refine mv_istore_n (pc := 20) B d_Book_named_20 rfl (by decide) rfl ?_
  refine mv_iload_n (pc := 21) B d_Book_named_21 rfl 0 rfl ?_
  refine mv_if_lt (pc := 22) (tgt := 45) B d_Book_named_22 rfl (fun h22 => ?_) (fun h22 => ?_)
  · skip
    have hf := xif_t h22 hf
    refine mv_aload_n (pc := 45) B d_Book_named_45 rfl 3 rfl ?_
    refine mv_iload_n (pc := 46) B d_Book_named_46 rfl 2 rfl ?_
    refine mv_iload_n (pc := 47) B d_Book_named_47 rfl 1 rfl ?_
    obtain ⟨u8, g7, eg7, hf⟩ := xhb_e hf
    refine mv_callVi (pc := 48) (n := 2) (ci := 12) (C := R_Book) B (mK_ok sk sv) hNs rfl rfl (ch_Book_isField_x l hi _ (xrw r_g5 hb) _ _ eg7) rfl (ma_goodc kc_Book_isField) (B.2.2.2.1 _ k_2309) (B.2.2.2.1 _ k_2311) (B.2.2.2.1 _ ks_117) (B.2.2.2.1 _ k_13) ⟨by decide +kernel, by decide +kernel, by decide +kernel⟩ rfl d_Book_named_48 rfl (Nat.le_of_ble_eq_true rfl) ⟨by first | decide | (dsimp only; omega), by first | decide | (dsimp only; omega)⟩ ⟨Nat.le_refl _, Nat.le_refl _⟩ ⟨Nat.le_refl _, Nat.le_refl _⟩ (mv_noH hno _) (fun w48 σ48 h48 => ?_)
    obtain ⟨rfl, rfl, s_g7⟩ := h48
    have r_g7 : mv_r g7 = mv_r h := s_g7.trans r_g5
    refine mv_if_eq (pc := 51) (tgt := 76) B d_Book_named_51 rfl (fun h51 => ?_) (fun h51 => ?_)
    · skip
      have hf := xif_t h51 hf
      refine mv_aload_n (pc := 76) B d_Book_named_76 rfl 3 rfl ?_
      refine mv_iload_n (pc := 77) B d_Book_named_77 rfl 2 rfl ?_
      refine mv_iload_n (pc := 78) B d_Book_named_78 rfl 1 rfl ?_
      obtain ⟨u10, g9, eg9, hf⟩ := xhb_e hf
      refine mv_callVi (pc := 79) (n := 2) (ci := 12) (C := R_Book) B (mK_ok sk sv) hNs rfl rfl (ch_Book_thing_x l hi _ (xrw r_g7 hb) _ _ eg9) rfl (ma_goodc kc_Book_thing) (B.2.2.2.1 _ k_2212) (B.2.2.2.1 _ k_2214) (B.2.2.2.1 _ ks_97) (B.2.2.2.1 _ k_13) ⟨by decide +kernel, by decide +kernel, by decide +kernel⟩ rfl d_Book_named_79 rfl (Nat.le_of_ble_eq_true rfl) ⟨by first | decide | (dsimp only; omega), by first | decide | (dsimp only; omega)⟩ ⟨Nat.le_refl _, Nat.le_refl _⟩ ⟨Nat.le_refl _, Nat.le_refl _⟩ (mv_noH hno _) (fun w79 σ79 h79 => ?_)
      obtain ⟨rfl, rfl, s_g9⟩ := h79
      have r_g9 : mv_r g9 = mv_r h := s_g9.trans r_g7
      refine mv_istore (pc := 82) B d_Book_named_82 (by decide) rfl ?_
      refine mv_iload (pc := 84) B d_Book_named_84 0 rfl ?_
      refine mv_if_ge (pc := 86) (tgt := 106) B d_Book_named_86 rfl (fun h86 => ?_) (fun h86 => ?_)
      · skip
        have hf := xif_t h86 hf
        refine mv_aload_n (pc := 106) B d_Book_named_106 rfl 4 rfl ?_
        refine mv_getR (pc := 107) (ci := 12) (C := R_Book) (T := F_Book) (N := 65) B 15 rfl rfl (by decide) i_Book (B.2.2.2.1 _ k_1858) rfl ((congrFun (congrFun r_g9 74) 15).trans (hb.1 74 15 _ rfl)) d_Book_named_107 ?_
        refine mv_iload (pc := 110) B d_Book_named_110 0 rfl ?_
        obtain ⟨q11, hf⟩ := xvi_e hf
        refine mv_zald (pc := 112) B rfl q11 d_Book_named_112 ?_
        refine mv_if_ne (pc := 113) (tgt := 133) B d_Book_named_113 rfl (fun h113 => ?_) (fun h113 => ?_)
        · skip
          have hf := xif_f h113 hf
          refine mv_aload_n (pc := 133) B d_Book_named_133 rfl 4 rfl ?_
          refine mv_getI (pc := 134) (ci := 12) (C := R_Book) (T := F_Book) (N := 65) B 4 rfl rfl (by decide) i_Book (B.2.2.2.1 _ k_1847) rfl d_Book_named_134 ?_
          refine mv_bipush (pc := 137) (v := 91) B d_Book_named_137 (by decide) ?_
          refine mv_icmp_eq (pc := 139) (tgt := 159) B d_Book_named_139 rfl (fun h139 => ?_) (fun h139 => ?_)
          · skip
            have hf := xif_t h139 hf
            refine mv_aload_n (pc := 159) B d_Book_named_159 rfl 4 rfl ?_
            obtain ⟨og12, g12, eg12, hf⟩ := xtb_e hf
            refine mv_callVUv (pc := 160) (n := 0) (ci := 12) (C := R_Book) B (mK_ok sk sv) hNs rfl rfl (ch_Book_pass_x l hi _ (xrw r_g9 hb) eg12) rfl (ma_goodc kc_Book_pass) (B.2.2.2.1 _ k_2173) (B.2.2.2.1 _ k_2175) (B.2.2.2.1 _ ks_90) (B.2.2.2.1 _ k_13) ⟨by decide +kernel, by decide +kernel, by decide +kernel⟩ rfl d_Book_named_160 rfl (Nat.le_of_ble_eq_true rfl) ⟨by first | decide | (dsimp only; omega), by first | decide | (dsimp only; omega)⟩ ⟨Nat.le_refl _, Nat.le_refl _⟩ ⟨Nat.le_refl _, Nat.le_refl _⟩ (mv_noH hno _) (fun τ9 g9 => Or.inr ⟨rfl, xth hf g9 r_g9⟩) (fun σ160 h160 => ?_)
            obtain ⟨rfl, rfl, s_g12⟩ := h160
            have hf := xt2_s hf
            have r_g12 : mv_r g12 = mv_r h := s_g12.trans r_g9
            refine mv_aload_n (pc := 163) B d_Book_named_163 rfl 4 rfl ?_
            refine mv_dup (pc := 164) B d_Book_named_164 rfl ?_
            refine mv_getI (pc := 165) (ci := 12) (C := R_Book) (T := F_Book) (N := 65) B 8 rfl rfl (by decide) i_Book (B.2.2.2.1 _ k_1851) rfl d_Book_named_165 ?_
            refine mv_iconst (pc := 168) (v := 1) B d_Book_named_168 (by decide) ?_
            refine mv_iadd (pc := 169) B d_Book_named_169 ?_
            refine mv_putI (pc := 170) (ci := 12) (C := R_Book) (T := F_Book) (N := 65) B 8 rfl rfl (by decide) i_Book t_Book_ok n_Book (B.2.2.2.1 _ k_1851) rfl rfl rfl rfl d_Book_named_170 ?_
            refine mvh_hp (R9 := mv_r h) hf r_g12 (fun g14 hf r_g14 => ?_)
            refine mv_aload_n (pc := 173) B d_Book_named_173 rfl 4 rfl ?_
            obtain ⟨og15, g15, eg15, hf⟩ := xtb_e hf
            refine mv_callVUi (pc := 174) (n := 0) (ci := 12) (C := R_Book) B (mK_ok sk sv) hNs rfl rfl (ih.1 _ _ _ _ (xrw r_g14 hb) eg15) rfl (ma_goodc kc_Book_expression) (B.2.2.2.1 _ k_2245) (B.2.2.2.1 _ k_2247) (B.2.2.2.1 _ ks_104) (B.2.2.2.1 _ k_13) ⟨by decide +kernel, by decide +kernel, by decide +kernel⟩ rfl d_Book_named_174 rfl (Nat.le_of_ble_eq_true rfl) ⟨by first | decide | (dsimp only; omega), by first | decide | (dsimp only; omega)⟩ ⟨Nat.le_refl _, Nat.le_refl _⟩ ⟨Nat.le_refl _, Nat.le_refl _⟩ (mv_noH hno _) (fun τ9 g9 => Or.inr ⟨rfl, xth hf g9 r_g14⟩) (fun u16 σ174 h174 => ?_)
            obtain ⟨rfl, rfl, s_g15⟩ := h174
            have hf := xt2_s hf
            have r_g15 : mv_r g15 = mv_r h := s_g15.trans r_g14
            refine mv_istore (pc := 177) B d_Book_named_177 (by decide) rfl ?_
            refine mv_aload_n (pc := 179) B d_Book_named_179 rfl 5 rfl ?_
            refine mv_bipush (pc := 180) (v := 93) B d_Book_named_180 (by decide) ?_
            obtain ⟨og17, g17, eg17, hf⟩ := xtb_e hf
            refine mv_callVUv (pc := 182) (n := 1) (ci := 12) (C := R_Book) B (mK_ok sk sv) hNs rfl rfl (ch_Book_need_x l hi _ (xrw r_g15 hb) _ eg17) rfl (ma_goodc kc_Book_need) (B.2.2.2.1 _ k_2177) (B.2.2.2.1 _ k_2179) (B.2.2.2.1 _ ks_91) (B.2.2.2.1 _ k_13) ⟨by decide +kernel, by decide +kernel, by decide +kernel⟩ rfl d_Book_named_182 rfl (Nat.le_of_ble_eq_true rfl) ⟨by first | decide | (dsimp only; omega), by first | decide | (dsimp only; omega)⟩ ⟨Nat.le_refl _, Nat.le_refl _⟩ ⟨Nat.le_refl _, Nat.le_refl _⟩ (mv_noH hno _) (fun τ9 g9 => Or.inr ⟨rfl, xth hf g9 r_g15⟩) (fun σ182 h182 => ?_)
            obtain ⟨rfl, rfl, s_g17⟩ := h182
            have hf := xt2_s hf
            have r_g17 : mv_r g17 = mv_r h := s_g17.trans r_g15
            refine mv_aload_n (pc := 185) B d_Book_named_185 rfl 5 rfl ?_
            refine mv_dup (pc := 186) B d_Book_named_186 rfl ?_
            refine mv_getI (pc := 187) (ci := 12) (C := R_Book) (T := F_Book) (N := 65) B 8 rfl rfl (by decide) i_Book (B.2.2.2.1 _ k_1851) rfl d_Book_named_187 ?_
            refine mv_iconst (pc := 190) (v := 1) B d_Book_named_190 (by decide) ?_
            refine mv_isub (pc := 191) B d_Book_named_191 ?_
            refine mv_putI (pc := 192) (ci := 12) (C := R_Book) (T := F_Book) (N := 65) B 8 rfl rfl (by decide) i_Book t_Book_ok n_Book (B.2.2.2.1 _ k_1851) rfl rfl rfl rfl d_Book_named_192 ?_
            refine mvh_hp (R9 := mv_r h) hf r_g17 (fun g19 hf r_g19 => ?_)
            refine mv_aload_n (pc := 195) B d_Book_named_195 rfl 5 rfl ?_
            refine mv_iconst (pc := 196) (v := 3) B d_Book_named_196 (by decide) ?_
            refine mv_iload (pc := 197) B d_Book_named_197 1 rfl ?_
            refine mv_iload (pc := 199) B d_Book_named_199 0 rfl ?_
            refine mv_iconst (pc := 201) (v := 0) B d_Book_named_201 (by decide) ?_
            refine mv_aload_n (pc := 202) B d_Book_named_202 rfl 5 rfl ?_
            refine mv_getR (pc := 203) (ci := 12) (C := R_Book) (T := F_Book) (N := 65) B 45 rfl rfl (by decide) i_Book (B.2.2.2.1 _ k_1894) rfl ((congrFun (congrFun r_g19 74) 45).trans (hb.1 74 45 _ rfl)) d_Book_named_203 ?_
            refine mv_iload (pc := 206) B d_Book_named_206 0 rfl ?_
            obtain ⟨q20, hf⟩ := xvi_e hf
            refine mv_iald (pc := 208) B rfl q20 d_Book_named_208 ?_
            refine mv_if_ne (pc := 209) (tgt := 216) B d_Book_named_209 rfl (fun h209 => ?_) (fun h209 => ?_)
            · skip
              have hf := xif_f h209 hf
              refine mv_aload_n (pc := 216) B d_Book_named_216 rfl 5 rfl ?_
              refine mv_getR (pc := 217) (ci := 12) (C := R_Book) (T := F_Book) (N := 65) B 12 rfl rfl (by decide) i_Book (B.2.2.2.1 _ k_1855) rfl ((congrFun (congrFun r_g19 74) 12).trans (hb.1 74 12 _ rfl)) d_Book_named_217 ?_
              refine mv_iload (pc := 220) B d_Book_named_220 1 rfl ?_
              obtain ⟨q21, hf⟩ := xvi_e hf
              refine mv_iald (pc := 222) B rfl q21 d_Book_named_222 ?_
              refine mv_lpick [] rfl ?_
              exact jn223 _ _ _ _ _ _ r_g19 hf
            · skip
              have hf := xif_t h209 hf
              refine mv_iconst (pc := 212) (v := 0) B d_Book_named_212 (by decide) ?_
              refine mv_goto (pc := 213) (tgt := 223) B d_Book_named_213 rfl ?_
              refine mv_lpick [] rfl ?_
              exact jn223 _ _ _ _ _ _ r_g19 hf
          · skip
            have hf := xif_f h139 hf
            refine mv_aload_n (pc := 142) B d_Book_named_142 rfl 4 rfl ?_
            refine mv_iconst (pc := 143) (v := 2) B d_Book_named_143 (by decide) ?_
            refine mv_iload_n (pc := 144) B d_Book_named_144 rfl 3 rfl ?_
            obtain ⟨g22, eg22, hf⟩ := xhv_e hf
            refine mv_callVv (pc := 145) (n := 2) (ci := 12) (C := R_Book) B (mK_ok sk sv) hNs rfl rfl (ch_Book_fault_x l hi _ _ _ eg22) rfl (ma_goodc kc_Book_fault) (B.2.2.2.1 _ k_2185) (B.2.2.2.1 _ k_2187) (B.2.2.2.1 _ ks_92) (B.2.2.2.1 _ k_13) ⟨by decide +kernel, by decide +kernel, by decide +kernel⟩ rfl d_Book_named_145 rfl (Nat.le_of_ble_eq_true rfl) ⟨by first | decide | (dsimp only; omega), by first | decide | (dsimp only; omega)⟩ ⟨Nat.le_refl _, Nat.le_refl _⟩ ⟨Nat.le_refl _, Nat.le_refl _⟩ (mv_noH hno _) (fun σ145 h145 => ?_)
            obtain ⟨rfl, s_g22⟩ := h145
            have r_g22 : mv_r g22 = mv_r h := s_g22.trans r_g9
            refine mv_aload_n (pc := 148) B d_Book_named_148 rfl 4 rfl ?_
            refine mv_bipush (pc := 149) (v := 13) B d_Book_named_149 (by decide) ?_
            refine mv_iconst (pc := 151) (v := 0) B d_Book_named_151 (by decide) ?_
            refine mv_iconst (pc := 152) (v := 0) B d_Book_named_152 (by decide) ?_
            refine mv_iconst (pc := 153) (v := 0) B d_Book_named_153 (by decide) ?_
            refine mv_iconst (pc := 154) (v := 0) B d_Book_named_154 (by decide) ?_
            obtain ⟨u25, g24, eg24, hf⟩ := xhb_e hf
            refine mv_callVi (pc := 155) (n := 5) (ci := 12) (C := R_Book) B (mK_ok sk sv) hNs rfl rfl (ch_Book_node_x l hi _ (xrw r_g22 hb) _ _ _ _ _ eg24) rfl (ma_goodc kc_Book_node) (B.2.2.2.1 _ k_2269) (B.2.2.2.1 _ k_2271) (B.2.2.2.1 _ ks_110) (B.2.2.2.1 _ k_13) ⟨by decide +kernel, by decide +kernel, by decide +kernel⟩ rfl d_Book_named_155 rfl (Nat.le_of_ble_eq_true rfl) ⟨by first | decide | (dsimp only; omega), by first | decide | (dsimp only; omega)⟩ ⟨Nat.le_refl _, Nat.le_refl _⟩ ⟨Nat.le_refl _, Nat.le_refl _⟩ (mv_noH hno _) (fun w155 σ155 h155 => ?_)
            obtain ⟨rfl, rfl, s_g24⟩ := h155
            have r_g24 : mv_r g24 = mv_r h := s_g24.trans r_g22
            exact mv_iret (pc := 158) B hr rfl d_Book_named_158 (Nat.le_refl _) (Nat.le_refl _) (Or.inl ⟨_, rfl, xrt_i hf r_g24⟩)
        · skip
          have hf := xif_t h113 hf
          refine mv_aload_n (pc := 116) B d_Book_named_116 rfl 4 rfl ?_
          refine mv_iconst (pc := 117) (v := 2) B d_Book_named_117 (by decide) ?_
          refine mv_iload (pc := 118) B d_Book_named_118 0 rfl ?_
          refine mv_iconst (pc := 120) (v := 0) B d_Book_named_120 (by decide) ?_
          refine mv_iconst (pc := 121) (v := 0) B d_Book_named_121 (by decide) ?_
          refine mv_aload_n (pc := 122) B d_Book_named_122 rfl 4 rfl ?_
          refine mv_getR (pc := 123) (ci := 12) (C := R_Book) (T := F_Book) (N := 65) B 12 rfl rfl (by decide) i_Book (B.2.2.2.1 _ k_1855) rfl ((congrFun (congrFun r_g9 74) 12).trans (hb.1 74 12 _ rfl)) d_Book_named_123 ?_
          refine mv_iload (pc := 126) B d_Book_named_126 0 rfl ?_
          obtain ⟨q26, hf⟩ := xvi_e hf
          refine mv_iald (pc := 128) B rfl q26 d_Book_named_128 ?_
          obtain ⟨u28, g27, eg27, hf⟩ := xhb_e hf
          refine mv_callVi (pc := 129) (n := 5) (ci := 12) (C := R_Book) B (mK_ok sk sv) hNs rfl rfl (ch_Book_node_x l hi _ (xrw r_g9 hb) _ _ _ _ _ eg27) rfl (ma_goodc kc_Book_node) (B.2.2.2.1 _ k_2269) (B.2.2.2.1 _ k_2271) (B.2.2.2.1 _ ks_110) (B.2.2.2.1 _ k_13) ⟨by decide +kernel, by decide +kernel, by decide +kernel⟩ rfl d_Book_named_129 rfl (Nat.le_of_ble_eq_true rfl) ⟨by first | decide | (dsimp only; omega), by first | decide | (dsimp only; omega)⟩ ⟨Nat.le_refl _, Nat.le_refl _⟩ ⟨Nat.le_refl _, Nat.le_refl _⟩ (mv_noH hno _) (fun w129 σ129 h129 => ?_)
          obtain ⟨rfl, rfl, s_g27⟩ := h129
          have r_g27 : mv_r g27 = mv_r h := s_g27.trans r_g9
          exact mv_iret (pc := 132) B hr rfl d_Book_named_132 (Nat.le_refl _) (Nat.le_refl _) (Or.inl ⟨_, rfl, xrt_i hf r_g27⟩)
      · skip
        have hf := xif_f h86 hf
        refine mv_aload_n (pc := 89) B d_Book_named_89 rfl 4 rfl ?_
        refine mv_iconst (pc := 90) (v := 2) B d_Book_named_90 (by decide) ?_
        refine mv_iload_n (pc := 91) B d_Book_named_91 rfl 3 rfl ?_
        obtain ⟨g29, eg29, hf⟩ := xhv_e hf
        refine mv_callVv (pc := 92) (n := 2) (ci := 12) (C := R_Book) B (mK_ok sk sv) hNs rfl rfl (ch_Book_fault_x l hi _ _ _ eg29) rfl (ma_goodc kc_Book_fault) (B.2.2.2.1 _ k_2185) (B.2.2.2.1 _ k_2187) (B.2.2.2.1 _ ks_92) (B.2.2.2.1 _ k_13) ⟨by decide +kernel, by decide +kernel, by decide +kernel⟩ rfl d_Book_named_92 rfl (Nat.le_of_ble_eq_true rfl) ⟨by first | decide | (dsimp only; omega), by first | decide | (dsimp only; omega)⟩ ⟨Nat.le_refl _, Nat.le_refl _⟩ ⟨Nat.le_refl _, Nat.le_refl _⟩ (mv_noH hno _) (fun σ92 h92 => ?_)
        obtain ⟨rfl, s_g29⟩ := h92
        have r_g29 : mv_r g29 = mv_r h := s_g29.trans r_g9
        refine mv_aload_n (pc := 95) B d_Book_named_95 rfl 4 rfl ?_
        refine mv_bipush (pc := 96) (v := 13) B d_Book_named_96 (by decide) ?_
        refine mv_iconst (pc := 98) (v := 0) B d_Book_named_98 (by decide) ?_
        refine mv_iconst (pc := 99) (v := 0) B d_Book_named_99 (by decide) ?_
        refine mv_iconst (pc := 100) (v := 0) B d_Book_named_100 (by decide) ?_
        refine mv_iconst (pc := 101) (v := 0) B d_Book_named_101 (by decide) ?_
        obtain ⟨u32, g31, eg31, hf⟩ := xhb_e hf
        refine mv_callVi (pc := 102) (n := 5) (ci := 12) (C := R_Book) B (mK_ok sk sv) hNs rfl rfl (ch_Book_node_x l hi _ (xrw r_g29 hb) _ _ _ _ _ eg31) rfl (ma_goodc kc_Book_node) (B.2.2.2.1 _ k_2269) (B.2.2.2.1 _ k_2271) (B.2.2.2.1 _ ks_110) (B.2.2.2.1 _ k_13) ⟨by decide +kernel, by decide +kernel, by decide +kernel⟩ rfl d_Book_named_102 rfl (Nat.le_of_ble_eq_true rfl) ⟨by first | decide | (dsimp only; omega), by first | decide | (dsimp only; omega)⟩ ⟨Nat.le_refl _, Nat.le_refl _⟩ ⟨Nat.le_refl _, Nat.le_refl _⟩ (mv_noH hno _) (fun w102 σ102 h102 => ?_)
        obtain ⟨rfl, rfl, s_g31⟩ := h102
        have r_g31 : mv_r g31 = mv_r h := s_g31.trans r_g29
        exact mv_iret (pc := 105) B hr rfl d_Book_named_105 (Nat.le_refl _) (Nat.le_refl _) (Or.inl ⟨_, rfl, xrt_i hf r_g31⟩)
    · skip
      have hf := xif_f h51 hf
      refine mv_aload_n (pc := 54) B d_Book_named_54 rfl 3 rfl ?_
      refine mv_iconst (pc := 55) (v := 4) B d_Book_named_55 (by decide) ?_
      refine mv_aload_n (pc := 56) B d_Book_named_56 rfl 3 rfl ?_
      refine mv_iload_n (pc := 57) B d_Book_named_57 rfl 2 rfl ?_
      obtain ⟨u34, g33, eg33, hf⟩ := xhb_e hf
      refine mv_callVi (pc := 58) (n := 1) (ci := 12) (C := R_Book) B (mK_ok sk sv) hNs rfl rfl (ch_Book_look_x l hi _ (xrw r_g7 hb) _ eg33) rfl (ma_goodc kc_Book_look) (B.2.2.2.1 _ k_2122) (B.2.2.2.1 _ k_2124) (B.2.2.2.1 _ ks_82) (B.2.2.2.1 _ k_13) ⟨by decide +kernel, by decide +kernel, by decide +kernel⟩ rfl d_Book_named_58 rfl (Nat.le_of_ble_eq_true rfl) ⟨by first | decide | (dsimp only; omega), by first | decide | (dsimp only; omega)⟩ ⟨Nat.le_refl _, Nat.le_refl _⟩ ⟨Nat.le_refl _, Nat.le_refl _⟩ (mv_noH hno _) (fun w58 σ58 h58 => ?_)
      obtain ⟨rfl, rfl, s_g33⟩ := h58
      have r_g33 : mv_r g33 = mv_r h := s_g33.trans r_g7
      refine mv_iconst (pc := 61) (v := 0) B d_Book_named_61 (by decide) ?_
      refine mv_iconst (pc := 62) (v := 0) B d_Book_named_62 (by decide) ?_
      refine mv_aload_n (pc := 63) B d_Book_named_63 rfl 3 rfl ?_
      refine mv_aload_n (pc := 64) B d_Book_named_64 rfl 3 rfl ?_
      refine mv_iload_n (pc := 65) B d_Book_named_65 rfl 2 rfl ?_
      obtain ⟨u36, g35, eg35, hf⟩ := xhb_e hf
      refine mv_callVi (pc := 66) (n := 1) (ci := 12) (C := R_Book) B (mK_ok sk sv) hNs rfl rfl (ch_Book_look_x l hi _ (xrw r_g33 hb) _ eg35) rfl (ma_goodc kc_Book_look) (B.2.2.2.1 _ k_2122) (B.2.2.2.1 _ k_2124) (B.2.2.2.1 _ ks_82) (B.2.2.2.1 _ k_13) ⟨by decide +kernel, by decide +kernel, by decide +kernel⟩ rfl d_Book_named_66 rfl (Nat.le_of_ble_eq_true rfl) ⟨by first | decide | (dsimp only; omega), by first | decide | (dsimp only; omega)⟩ ⟨Nat.le_refl _, Nat.le_refl _⟩ ⟨Nat.le_refl _, Nat.le_refl _⟩ (mv_noH hno _) (fun w66 σ66 h66 => ?_)
      obtain ⟨rfl, rfl, s_g35⟩ := h66
      have r_g35 : mv_r g35 = mv_r h := s_g35.trans r_g33
      obtain ⟨u38, g37, eg37, hf⟩ := xhb_e hf
      refine mv_callVi (pc := 69) (n := 1) (ci := 12) (C := R_Book) B (mK_ok sk sv) hNs rfl rfl (ch_Book_letterBits_x l hi _ (xrw r_g35 hb) _ eg37) rfl (ma_goodc kc_Book_letterBits) (B.2.2.2.1 _ k_2313) (B.2.2.2.1 _ k_2315) (B.2.2.2.1 _ ks_118) (B.2.2.2.1 _ k_13) ⟨by decide +kernel, by decide +kernel, by decide +kernel⟩ rfl d_Book_named_69 rfl (Nat.le_of_ble_eq_true rfl) ⟨by first | decide | (dsimp only; omega), by first | decide | (dsimp only; omega)⟩ ⟨Nat.le_refl _, Nat.le_refl _⟩ ⟨Nat.le_refl _, Nat.le_refl _⟩ (mv_noH hno _) (fun w69 σ69 h69 => ?_)
      obtain ⟨rfl, rfl, s_g37⟩ := h69
      have r_g37 : mv_r g37 = mv_r h := s_g37.trans r_g35
      obtain ⟨u40, g39, eg39, hf⟩ := xhb_e hf
      refine mv_callVi (pc := 72) (n := 5) (ci := 12) (C := R_Book) B (mK_ok sk sv) hNs rfl rfl (ch_Book_node_x l hi _ (xrw r_g37 hb) _ _ _ _ _ eg39) rfl (ma_goodc kc_Book_node) (B.2.2.2.1 _ k_2269) (B.2.2.2.1 _ k_2271) (B.2.2.2.1 _ ks_110) (B.2.2.2.1 _ k_13) ⟨by decide +kernel, by decide +kernel, by decide +kernel⟩ rfl d_Book_named_72 rfl (Nat.le_of_ble_eq_true rfl) ⟨by first | decide | (dsimp only; omega), by first | decide | (dsimp only; omega)⟩ ⟨Nat.le_refl _, Nat.le_refl _⟩ ⟨Nat.le_refl _, Nat.le_refl _⟩ (mv_noH hno _) (fun w72 σ72 h72 => ?_)
      obtain ⟨rfl, rfl, s_g39⟩ := h72
      have r_g39 : mv_r g39 = mv_r h := s_g39.trans r_g37
      exact mv_iret (pc := 75) B hr rfl d_Book_named_75 (Nat.le_refl _) (Nat.le_refl _) (Or.inl ⟨_, rfl, xrt_i hf r_g39⟩)
  · skip
    have hf := xif_f h22 hf
    refine mv_aload_n (pc := 25) B d_Book_named_25 rfl 3 rfl ?_
    refine mv_iconst (pc := 26) (v := 5) B d_Book_named_26 (by decide) ?_
    refine mv_aload_n (pc := 27) B d_Book_named_27 rfl 3 rfl ?_
    refine mv_getR (pc := 28) (ci := 12) (C := R_Book) (T := F_Book) (N := 65) B 34 rfl rfl (by decide) i_Book (B.2.2.2.1 _ k_1880) rfl ((congrFun (congrFun r_g5 74) 34).trans (hb.1 74 34 _ rfl)) d_Book_named_28 ?_
    refine mv_iload_n (pc := 31) B d_Book_named_31 rfl 0 rfl ?_
    obtain ⟨q41, hf⟩ := xvi_e hf
    refine mv_iald (pc := 32) B rfl q41 d_Book_named_32 ?_
    refine mv_iconst (pc := 33) (v := 0) B d_Book_named_33 (by decide) ?_
    refine mv_iconst (pc := 34) (v := 0) B d_Book_named_34 (by decide) ?_
    refine mv_aload_n (pc := 35) B d_Book_named_35 rfl 3 rfl ?_
    refine mv_getR (pc := 36) (ci := 12) (C := R_Book) (T := F_Book) (N := 65) B 33 rfl rfl (by decide) i_Book (B.2.2.2.1 _ k_1879) rfl ((congrFun (congrFun r_g5 74) 33).trans (hb.1 74 33 _ rfl)) d_Book_named_36 ?_
    refine mv_iload_n (pc := 39) B d_Book_named_39 rfl 0 rfl ?_
    obtain ⟨q42, hf⟩ := xvi_e hf
    refine mv_iald (pc := 40) B rfl q42 d_Book_named_40 ?_
    obtain ⟨u44, g43, eg43, hf⟩ := xhb_e hf
    refine mv_callVi (pc := 41) (n := 5) (ci := 12) (C := R_Book) B (mK_ok sk sv) hNs rfl rfl (ch_Book_node_x l hi _ (xrw r_g5 hb) _ _ _ _ _ eg43) rfl (ma_goodc kc_Book_node) (B.2.2.2.1 _ k_2269) (B.2.2.2.1 _ k_2271) (B.2.2.2.1 _ ks_110) (B.2.2.2.1 _ k_13) ⟨by decide +kernel, by decide +kernel, by decide +kernel⟩ rfl d_Book_named_41 rfl (Nat.le_of_ble_eq_true rfl) ⟨by first | decide | (dsimp only; omega), by first | decide | (dsimp only; omega)⟩ ⟨Nat.le_refl _, Nat.le_refl _⟩ ⟨Nat.le_refl _, Nat.le_refl _⟩ (mv_noH hno _) (fun w41 σ41 h41 => ?_)
    obtain ⟨rfl, rfl, s_g43⟩ := h41
    have r_g43 : mv_r g43 = mv_r h := s_g43.trans r_g5
    exact mv_iret (pc := 44) B hr rfl d_Book_named_44 (Nat.le_refl _) (Nat.le_refl _) (Or.inl ⟨_, rfl, xrt_i hf r_g43⟩)
set_option maxHeartbeats 4000000 in
set_option maxRecDepth 100000 in
theorem cr_Book_wider_x (l : Launch) {dA : FieldType → ClassId} {D : va_G} {al : Nat → Nat} {ext : mv_Sh} {sk sv : Nat → Nat} (hi : mv_inj (mg dA D al ext)) (nn : Nat) (ih : RecX l dA D al ext sk sv 74 nn) (h : mv_H) (hb : Br 74 (mv_r h))  (a0 : Int32) {rv : Option Int32} {rg : mv_H} (hf : f_Book_wider 74 (f_BookR 74 nn) h a0 = some (rv, rg)) : mv_C l y_Book_wider (Cond.code y_Book_wider b_Book_wider 7 (Option.some Jvm.ClassFile.FieldType.int) :: ma) ({ frames := nn + 1 + 7, cells := 0, slots := 0, locals := 60 * (nn + 1) + 400 }) (mg dA D al ext) (mK sk sv) [.ref (al 74), .int a0] h (mv_Ui (fun v σ1 => rv = some v ∧ rg = σ1 ∧ mv_r σ1 = mv_r h) ("MachineLoomModel$Book$Wrong", al 107) (fun σ1 => rv = none ∧ rg = σ1 ∧ mv_r σ1 = mv_r h)) := by
  refine mv_C.ofV (cc := b_Book_wider) (nL := 7) (ret := (Option.some Jvm.ClassFile.FieldType.int)) (by decide +kernel) rfl hi (Nat.le_of_ble_eq_true rfl) ?_
  intro p e s m below meth c B hNs hr hnm hno
  have jn149 : ∀ (y0 : Int32) (y1 : Int32) (y2 : Int32) (y3 : Int32) (y4 : Int32) (hz : mv_H), mv_r hz = mv_r h → f_Book_wider_149 74 (f_BookR 74 nn) y0 y1 y2 y3 y4 hz = some (rv, rg) → mv_V p l e ({ frames := nn + 1 + 7, cells := 0, slots := 0, locals := 60 * (nn + 1) + 400 }) s m ([.ref (al 74), .int a0] : List Value).toArray below meth c (mg dA D al ext) 7 0 0 (mv_Q (mg dA D al ext) below s 0 0 (mv_Ui (fun v σ1 => rv = some v ∧ rg = σ1 ∧ mv_r σ1 = mv_r h) ("MachineLoomModel$Book$Wrong", al 107) (fun σ1 => rv = none ∧ rg = σ1 ∧ mv_r σ1 = mv_r h))) hz 149 [] [.int y0, .int y1, .int y2, .int y3, .int y4, .ref (al 74)] := by
    intro y0 y1 y2 y3 y4 hz r_hz hf
    unfold f_Book_wider_149 at hf
    obtain ⟨u2, g1, eg1, hf⟩ := xhb_e hf
    refine mv_callVi (pc := 149) (n := 5) (ci := 12) (C := R_Book) B (mK_ok sk sv) hNs rfl rfl (ch_Book_node_x l hi _ (xrw r_hz hb) _ _ _ _ _ eg1) rfl (ma_goodc kc_Book_node) (B.2.2.2.1 _ k_2269) (B.2.2.2.1 _ k_2271) (B.2.2.2.1 _ ks_110) (B.2.2.2.1 _ k_13) ⟨by decide +kernel, by decide +kernel, by decide +kernel⟩ rfl d_Book_wider_149 rfl (Nat.le_of_ble_eq_true rfl) ⟨by first | decide | (dsimp only; omega), by first | decide | (dsimp only; omega)⟩ ⟨Nat.le_refl _, Nat.le_refl _⟩ ⟨Nat.le_refl _, Nat.le_refl _⟩ (mv_noH hno _) (fun w149 σ149 h149 => ?_)
    obtain ⟨rfl, rfl, s_g1⟩ := h149
    have r_g1 : mv_r g1 = mv_r h := s_g1.trans r_hz
    exact mv_iret (pc := 152) B hr rfl d_Book_wider_152 (Nat.le_refl _) (Nat.le_refl _) (Or.inl ⟨_, rfl, xrt_i hf r_g1⟩)
  have jn148 : ∀ (y0 : Int32) (y1 : Int32) (y2 : Int32) (y3 : Int32) (hz : mv_H), mv_r hz = mv_r h → f_Book_wider_148 74 (f_BookR 74 nn) y0 y1 y2 y3 hz = some (rv, rg) → mv_V p l e ({ frames := nn + 1 + 7, cells := 0, slots := 0, locals := 60 * (nn + 1) + 400 }) s m ([.ref (al 74), .int a0] : List Value).toArray below meth c (mg dA D al ext) 7 0 0 (mv_Q (mg dA D al ext) below s 0 0 (mv_Ui (fun v σ1 => rv = some v ∧ rg = σ1 ∧ mv_r σ1 = mv_r h) ("MachineLoomModel$Book$Wrong", al 107) (fun σ1 => rv = none ∧ rg = σ1 ∧ mv_r σ1 = mv_r h))) hz 148 [] [.int y0, .int y1, .int y2, .int y3, .ref (al 74)] := by
    intro y0 y1 y2 y3 hz r_hz hf
    unfold f_Book_wider_148 at hf
    refine mv_iconst (pc := 148) (v := 0) B d_Book_wider_148 (by decide) ?_
    refine mv_lpick [] rfl ?_
    exact jn149 _ _ _ _ _ _ r_hz hf
  have jn126 : ∀ (x2 : Int32) (x3 : Int64) (x6 : Int32) (y0 : Int32) (hz : mv_H), mv_r hz = mv_r h → f_Book_wider_126 74 (f_BookR 74 nn) x2 x3 x6 y0 hz = some (rv, rg) → mv_V p l e ({ frames := nn + 1 + 7, cells := 0, slots := 0, locals := 60 * (nn + 1) + 400 }) s m ([.ref (al 74), .int a0] : List Value).toArray below meth c (mg dA D al ext) 7 0 0 (mv_Q (mg dA D al ext) below s 0 0 (mv_Ui (fun v σ1 => rv = some v ∧ rg = σ1 ∧ mv_r σ1 = mv_r h) ("MachineLoomModel$Book$Wrong", al 107) (fun σ1 => rv = none ∧ rg = σ1 ∧ mv_r σ1 = mv_r h))) hz 126 [(0, .ref (al 74)), (2, .int x2), (3, .long x3), (6, .int x6)] [.int y0, .ref (al 74)] := by
    intro x2 x3 x6 y0 hz r_hz hf
    unfold f_Book_wider_126 at hf
    refine mv_iload_n (pc := 126) B d_Book_wider_126 rfl 1 rfl ?_
    refine mv_iconst (pc := 127) (v := 0) B d_Book_wider_127 (by decide) ?_
    refine mv_iconst (pc := 128) (v := 0) B d_Book_wider_128 (by decide) ?_
    refine mv_iload (pc := 129) B d_Book_wider_129 3 rfl ?_
    refine mv_if_eq (pc := 131) (tgt := 148) B d_Book_wider_131 rfl (fun h131 => ?_) (fun h131 => ?_)
    · skip
      have hf := xif_t h131 hf
      refine mv_lpick [] rfl ?_
      exact jn148 _ _ _ _ _ r_hz hf
    · skip
      have hf := xif_f h131 hf
      refine mv_aload_n (pc := 134) B d_Book_wider_134 rfl 0 rfl ?_
      refine mv_getR (pc := 135) (ci := 12) (C := R_Book) (T := F_Book) (N := 65) B 45 rfl rfl (by decide) i_Book (B.2.2.2.1 _ k_1894) rfl ((congrFun (congrFun r_hz 74) 45).trans (hb.1 74 45 _ rfl)) d_Book_wider_135 ?_
      refine mv_iload_n (pc := 138) B d_Book_wider_138 rfl 1 rfl ?_
      obtain ⟨q3, hf⟩ := xvi_e hf
      refine mv_iald (pc := 139) B rfl q3 d_Book_wider_139 ?_
      refine mv_if_le (pc := 140) (tgt := 148) B d_Book_wider_140 rfl (fun h140 => ?_) (fun h140 => ?_)
      · skip
        have hf := xif_t h140 hf
        refine mv_lpick [] rfl ?_
        exact jn148 _ _ _ _ _ r_hz hf
      · skip
        have hf := xif_f h140 hf
        refine mv_lload_n (pc := 143) B d_Book_wider_143 rfl 2 rfl ?_
        refine mv_l2i (pc := 144) B d_Book_wider_144 ?_
        refine mv_goto (pc := 145) (tgt := 149) B d_Book_wider_145 rfl ?_
        refine mv_lpick [] rfl ?_
        exact jn149 _ _ _ _ _ _ r_hz hf
  have jn114 : ∀ (x1 : Int32) (x2 : Int32) (x3 : Int64) (x6 : Int32) (hz : mv_H), mv_r hz = mv_r h → f_Book_wider_114 74 (f_BookR 74 nn) x1 x2 x3 x6 hz = some (rv, rg) → mv_V p l e ({ frames := nn + 1 + 7, cells := 0, slots := 0, locals := 60 * (nn + 1) + 400 }) s m ([.ref (al 74), .int a0] : List Value).toArray below meth c (mg dA D al ext) 7 0 0 (mv_Q (mg dA D al ext) below s 0 0 (mv_Ui (fun v σ1 => rv = some v ∧ rg = σ1 ∧ mv_r σ1 = mv_r h) ("MachineLoomModel$Book$Wrong", al 107) (fun σ1 => rv = none ∧ rg = σ1 ∧ mv_r σ1 = mv_r h))) hz 114 [(0, .ref (al 74)), (1, .int x1), (2, .int x2), (3, .long x3), (6, .int x6)] [] := by
    intro x1 x2 x3 x6 hz r_hz hf
    unfold f_Book_wider_114 at hf
    refine mv_aload_n (pc := 114) B d_Book_wider_114 rfl 0 rfl ?_
    refine mv_iload_n (pc := 115) B d_Book_wider_115 rfl 1 rfl ?_
    refine mv_if_eq (pc := 116) (tgt := 124) B d_Book_wider_116 rfl (fun h116 => ?_) (fun h116 => ?_)
    · skip
      have hf := xif_t h116 hf
      refine mv_bipush (pc := 124) (v := 12) B d_Book_wider_124 (by decide) ?_
      refine mv_lpick [0, 2, 3, 4] rfl ?_
      exact jn126 _ _ _ _ _ r_hz hf
    · skip
      have hf := xif_f h116 hf
      refine mv_bipush (pc := 119) (v := 11) B d_Book_wider_119 (by decide) ?_
      refine mv_goto (pc := 121) (tgt := 126) B d_Book_wider_121 rfl ?_
      refine mv_lpick [0, 2, 3, 4] rfl ?_
      exact jn126 _ _ _ _ _ r_hz hf
  have jn100 : ∀ (x1 : Int32) (x2 : Int32) (x3 : Int64) (x5 : Int32) (y0 : Int32) (hz : mv_H), mv_r hz = mv_r h → f_Book_wider_100 74 (f_BookR 74 nn) x1 x2 x3 x5 y0 hz = some (rv, rg) → mv_V p l e ({ frames := nn + 1 + 7, cells := 0, slots := 0, locals := 60 * (nn + 1) + 400 }) s m ([.ref (al 74), .int a0] : List Value).toArray below meth c (mg dA D al ext) 7 0 0 (mv_Q (mg dA D al ext) below s 0 0 (mv_Ui (fun v σ1 => rv = some v ∧ rg = σ1 ∧ mv_r σ1 = mv_r h) ("MachineLoomModel$Book$Wrong", al 107) (fun σ1 => rv = none ∧ rg = σ1 ∧ mv_r σ1 = mv_r h))) hz 100 [(0, .ref (al 74)), (1, .int x1), (2, .int x2), (3, .long x3), (5, .int x5)] [.int y0] := by
    intro x1 x2 x3 x5 y0 hz r_hz hf
    unfold f_Book_wider_100 at hf
    refine mv_istore (pc := 100) B d_Book_wider_100 (by decide) rfl ?_
    refine mv_iload (pc := 102) B d_Book_wider_102 0 rfl ?_
    refine mv_if_ne (pc := 104) (tgt := 114) B d_Book_wider_104 rfl (fun h104 => ?_) (fun h104 => ?_)
    · skip
      have hf := xif_f h104 hf
      refine mv_lpick [1, 2, 3, 4, 0] rfl ?_
      exact jn114 _ _ _ _ _ r_hz hf
    · skip
      have hf := xif_t h104 hf
      refine mv_aload_n (pc := 107) B d_Book_wider_107 rfl 1 rfl ?_
      refine mv_iconst (pc := 108) (v := 3) B d_Book_wider_108 (by decide) ?_
      refine mv_iload (pc := 109) B d_Book_wider_109 5 rfl ?_
      obtain ⟨g4, eg4, hf⟩ := xhv_e hf
      refine mv_callVv (pc := 111) (n := 2) (ci := 12) (C := R_Book) B (mK_ok sk sv) hNs rfl rfl (ch_Book_fault_x l hi _ _ _ eg4) rfl (ma_goodc kc_Book_fault) (B.2.2.2.1 _ k_2185) (B.2.2.2.1 _ k_2187) (B.2.2.2.1 _ ks_92) (B.2.2.2.1 _ k_13) ⟨by decide +kernel, by decide +kernel, by decide +kernel⟩ rfl d_Book_wider_111 rfl (Nat.le_of_ble_eq_true rfl) ⟨by first | decide | (dsimp only; omega), by first | decide | (dsimp only; omega)⟩ ⟨Nat.le_refl _, Nat.le_refl _⟩ ⟨Nat.le_refl _, Nat.le_refl _⟩ (mv_noH hno _) (fun σ111 h111 => ?_)
      obtain ⟨rfl, s_g4⟩ := h111
      have r_g4 : mv_r g4 = mv_r h := s_g4.trans r_hz
      refine mv_lpick [1, 2, 3, 4, 0] rfl ?_
      exact jn114 _ _ _ _ _ r_g4 hf
  have jn99 : ∀ (x1 : Int32) (x2 : Int32) (x3 : Int64) (x5 : Int32) (hz : mv_H), mv_r hz = mv_r h → f_Book_wider_99 74 (f_BookR 74 nn) x1 x2 x3 x5 hz = some (rv, rg) → mv_V p l e ({ frames := nn + 1 + 7, cells := 0, slots := 0, locals := 60 * (nn + 1) + 400 }) s m ([.ref (al 74), .int a0] : List Value).toArray below meth c (mg dA D al ext) 7 0 0 (mv_Q (mg dA D al ext) below s 0 0 (mv_Ui (fun v σ1 => rv = some v ∧ rg = σ1 ∧ mv_r σ1 = mv_r h) ("MachineLoomModel$Book$Wrong", al 107) (fun σ1 => rv = none ∧ rg = σ1 ∧ mv_r σ1 = mv_r h))) hz 99 [(0, .ref (al 74)), (1, .int x1), (2, .int x2), (3, .long x3), (5, .int x5)] [] := by
    intro x1 x2 x3 x5 hz r_hz hf
    unfold f_Book_wider_99 at hf
    refine mv_iconst (pc := 99) (v := 0) B d_Book_wider_99 (by decide) ?_
    refine mv_lpick [0, 1, 2, 3, 4] rfl ?_
    exact jn100 _ _ _ _ _ _ r_hz hf
  have jn95 : ∀ (x1 : Int32) (x2 : Int32) (x3 : Int64) (x5 : Int32) (hz : mv_H), mv_r hz = mv_r h → f_Book_wider_95 74 (f_BookR 74 nn) x1 x2 x3 x5 hz = some (rv, rg) → mv_V p l e ({ frames := nn + 1 + 7, cells := 0, slots := 0, locals := 60 * (nn + 1) + 400 }) s m ([.ref (al 74), .int a0] : List Value).toArray below meth c (mg dA D al ext) 7 0 0 (mv_Q (mg dA D al ext) below s 0 0 (mv_Ui (fun v σ1 => rv = some v ∧ rg = σ1 ∧ mv_r σ1 = mv_r h) ("MachineLoomModel$Book$Wrong", al 107) (fun σ1 => rv = none ∧ rg = σ1 ∧ mv_r σ1 = mv_r h))) hz 95 [(0, .ref (al 74)), (1, .int x1), (2, .int x2), (3, .long x3), (5, .int x5)] [] := by
    intro x1 x2 x3 x5 hz r_hz hf
    unfold f_Book_wider_95 at hf
    refine mv_iconst (pc := 95) (v := 1) B d_Book_wider_95 (by decide) ?_
    refine mv_goto (pc := 96) (tgt := 100) B d_Book_wider_96 rfl ?_
    refine mv_lpick [0, 1, 2, 3, 4] rfl ?_
    exact jn100 _ _ _ _ _ _ r_hz hf
  unfold f_Book_wider at hf
  refine mv_aload_n (pc := 0) B d_Book_wider_0 rfl 0 rfl ?_
  obtain ⟨og6, g6, eg6, hf⟩ := xtb_e hf
  refine mv_callVUv (pc := 1) (n := 0) (ci := 12) (C := R_Book) B (mK_ok sk sv) hNs rfl rfl (ch_Book_pass_x l hi _ (hb) eg6) rfl (ma_goodc kc_Book_pass) (B.2.2.2.1 _ k_2173) (B.2.2.2.1 _ k_2175) (B.2.2.2.1 _ ks_90) (B.2.2.2.1 _ k_13) ⟨by decide +kernel, by decide +kernel, by decide +kernel⟩ rfl d_Book_wider_1 rfl (Nat.le_of_ble_eq_true rfl) ⟨by first | decide | (dsimp only; omega), by first | decide | (dsimp only; omega)⟩ ⟨Nat.le_refl _, Nat.le_refl _⟩ ⟨Nat.le_refl _, Nat.le_refl _⟩ (mv_noH hno _) (fun τ9 g9 => Or.inr ⟨rfl, xth hf g9 rfl⟩) (fun σ1 h1 => ?_)
  obtain ⟨rfl, rfl, s_g6⟩ := h1
  have hf := xt2_s hf
  have r_g6 : mv_r g6 = mv_r h := s_g6.trans rfl
  refine mv_aload_n (pc := 4) B d_Book_wider_4 rfl 0 rfl ?_
  refine mv_bipush (pc := 5) (v := 40) B d_Book_wider_5 (by decide) ?_
  obtain ⟨og8, g8, eg8, hf⟩ := xtb_e hf
  refine mv_callVUv (pc := 7) (n := 1) (ci := 12) (C := R_Book) B (mK_ok sk sv) hNs rfl rfl (ch_Book_need_x l hi _ (xrw r_g6 hb) _ eg8) rfl (ma_goodc kc_Book_need) (B.2.2.2.1 _ k_2177) (B.2.2.2.1 _ k_2179) (B.2.2.2.1 _ ks_91) (B.2.2.2.1 _ k_13) ⟨by decide +kernel, by decide +kernel, by decide +kernel⟩ rfl d_Book_wider_7 rfl (Nat.le_of_ble_eq_true rfl) ⟨by first | decide | (dsimp only; omega), by first | decide | (dsimp only; omega)⟩ ⟨Nat.le_refl _, Nat.le_refl _⟩ ⟨Nat.le_refl _, Nat.le_refl _⟩ (mv_noH hno _) (fun τ9 g9 => Or.inr ⟨rfl, xth hf g9 r_g6⟩) (fun σ7 h7 => ?_)
  obtain ⟨rfl, rfl, s_g8⟩ := h7
  have hf := xt2_s hf
  have r_g8 : mv_r g8 = mv_r h := s_g8.trans r_g6
  refine mv_aload_n (pc := 10) B d_Book_wider_10 rfl 0 rfl ?_
  refine mv_dup (pc := 11) B d_Book_wider_11 rfl ?_
  refine mv_getI (pc := 12) (ci := 12) (C := R_Book) (T := F_Book) (N := 65) B 8 rfl rfl (by decide) i_Book (B.2.2.2.1 _ k_1851) rfl d_Book_wider_12 ?_
  refine mv_iconst (pc := 15) (v := 1) B d_Book_wider_15 (by decide) ?_
  refine mv_iadd (pc := 16) B d_Book_wider_16 ?_
  refine mv_putI (pc := 17) (ci := 12) (C := R_Book) (T := F_Book) (N := 65) B 8 rfl rfl (by decide) i_Book t_Book_ok n_Book (B.2.2.2.1 _ k_1851) rfl rfl rfl rfl d_Book_wider_17 ?_
  refine mvh_hp (R9 := mv_r h) hf r_g8 (fun g10 hf r_g10 => ?_)
  refine mv_aload_n (pc := 20) B d_Book_wider_20 rfl 0 rfl ?_
  obtain ⟨og11, g11, eg11, hf⟩ := xtb_e hf
  refine mv_callVUi (pc := 21) (n := 0) (ci := 12) (C := R_Book) B (mK_ok sk sv) hNs rfl rfl (ih.1 _ _ _ _ (xrw r_g10 hb) eg11) rfl (ma_goodc kc_Book_expression) (B.2.2.2.1 _ k_2245) (B.2.2.2.1 _ k_2247) (B.2.2.2.1 _ ks_104) (B.2.2.2.1 _ k_13) ⟨by decide +kernel, by decide +kernel, by decide +kernel⟩ rfl d_Book_wider_21 rfl (Nat.le_of_ble_eq_true rfl) ⟨by first | decide | (dsimp only; omega), by first | decide | (dsimp only; omega)⟩ ⟨Nat.le_refl _, Nat.le_refl _⟩ ⟨Nat.le_refl _, Nat.le_refl _⟩ (mv_noH hno _) (fun τ9 g9 => Or.inr ⟨rfl, xth hf g9 r_g10⟩) (fun u12 σ21 h21 => ?_)
  obtain ⟨rfl, rfl, s_g11⟩ := h21
  have hf := xt2_s hf
  have r_g11 : mv_r g11 = mv_r h := s_g11.trans r_g10
  refine mv_istore_n (pc := 24) B d_Book_wider_24 rfl (by decide) rfl ?_
  refine mv_aload_n (pc := 25) B d_Book_wider_25 rfl 1 rfl ?_
  refine mv_bipush (pc := 26) (v := 44) B d_Book_wider_26 (by decide) ?_
  obtain ⟨og13, g13, eg13, hf⟩ := xtb_e hf
  refine mv_callVUv (pc := 28) (n := 1) (ci := 12) (C := R_Book) B (mK_ok sk sv) hNs rfl rfl (ch_Book_need_x l hi _ (xrw r_g11 hb) _ eg13) rfl (ma_goodc kc_Book_need) (B.2.2.2.1 _ k_2177) (B.2.2.2.1 _ k_2179) (B.2.2.2.1 _ ks_91) (B.2.2.2.1 _ k_13) ⟨by decide +kernel, by decide +kernel, by decide +kernel⟩ rfl d_Book_wider_28 rfl (Nat.le_of_ble_eq_true rfl) ⟨by first | decide | (dsimp only; omega), by first | decide | (dsimp only; omega)⟩ ⟨Nat.le_refl _, Nat.le_refl _⟩ ⟨Nat.le_refl _, Nat.le_refl _⟩ (mv_noH hno _) (fun τ9 g9 => Or.inr ⟨rfl, xth hf g9 r_g11⟩) (fun σ28 h28 => ?_)
  obtain ⟨rfl, rfl, s_g13⟩ := h28
  have hf := xt2_s hf
  have r_g13 : mv_r g13 = mv_r h := s_g13.trans r_g11
  refine mv_aload_n (pc := 31) B d_Book_wider_31 rfl 1 rfl ?_
  refine mv_getL (pc := 32) (ci := 12) (C := R_Book) (T := F_Book) (N := 65) B 9 rfl rfl (by decide) i_Book (B.2.2.2.1 _ k_1852) rfl d_Book_wider_32 ?_
  refine mv_lstore_n (pc := 35) B d_Book_wider_35 rfl (by decide) rfl ?_
  refine mv_aload_n (pc := 36) B d_Book_wider_36 rfl 2 rfl ?_
  refine mv_getI (pc := 37) (ci := 12) (C := R_Book) (T := F_Book) (N := 65) B 5 rfl rfl (by decide) i_Book (B.2.2.2.1 _ k_1848) rfl d_Book_wider_37 ?_
  refine mv_istore (pc := 40) B d_Book_wider_40 (by decide) rfl ?_
  refine mv_aload_n (pc := 42) B d_Book_wider_42 rfl 3 rfl ?_
  refine mv_iconst (pc := 43) (v := 2) B d_Book_wider_43 (by decide) ?_
  obtain ⟨og15, g15, eg15, hf⟩ := xtb_e hf
  refine mv_callVUv (pc := 44) (n := 1) (ci := 12) (C := R_Book) B (mK_ok sk sv) hNs rfl rfl (ch_Book_need_x l hi _ (xrw r_g13 hb) _ eg15) rfl (ma_goodc kc_Book_need) (B.2.2.2.1 _ k_2177) (B.2.2.2.1 _ k_2179) (B.2.2.2.1 _ ks_91) (B.2.2.2.1 _ k_13) ⟨by decide +kernel, by decide +kernel, by decide +kernel⟩ rfl d_Book_wider_44 rfl (Nat.le_of_ble_eq_true rfl) ⟨by first | decide | (dsimp only; omega), by first | decide | (dsimp only; omega)⟩ ⟨Nat.le_refl _, Nat.le_refl _⟩ ⟨Nat.le_refl _, Nat.le_refl _⟩ (mv_noH hno _) (fun τ9 g9 => Or.inr ⟨rfl, xth hf g9 r_g13⟩) (fun σ44 h44 => ?_)
  obtain ⟨rfl, rfl, s_g15⟩ := h44
  have hf := xt2_s hf
  have r_g15 : mv_r g15 = mv_r h := s_g15.trans r_g13
  refine mv_aload_n (pc := 47) B d_Book_wider_47 rfl 3 rfl ?_
  refine mv_bipush (pc := 48) (v := 41) B d_Book_wider_48 (by decide) ?_
  obtain ⟨og17, g17, eg17, hf⟩ := xtb_e hf
  refine mv_callVUv (pc := 50) (n := 1) (ci := 12) (C := R_Book) B (mK_ok sk sv) hNs rfl rfl (ch_Book_need_x l hi _ (xrw r_g15 hb) _ eg17) rfl (ma_goodc kc_Book_need) (B.2.2.2.1 _ k_2177) (B.2.2.2.1 _ k_2179) (B.2.2.2.1 _ ks_91) (B.2.2.2.1 _ k_13) ⟨by decide +kernel, by decide +kernel, by decide +kernel⟩ rfl d_Book_wider_50 rfl (Nat.le_of_ble_eq_true rfl) ⟨by first | decide | (dsimp only; omega), by first | decide | (dsimp only; omega)⟩ ⟨Nat.le_refl _, Nat.le_refl _⟩ ⟨Nat.le_refl _, Nat.le_refl _⟩ (mv_noH hno _) (fun τ9 g9 => Or.inr ⟨rfl, xth hf g9 r_g15⟩) (fun σ50 h50 => ?_)
  obtain ⟨rfl, rfl, s_g17⟩ := h50
  have hf := xt2_s hf
  have r_g17 : mv_r g17 = mv_r h := s_g17.trans r_g15
  refine mv_aload_n (pc := 53) B d_Book_wider_53 rfl 3 rfl ?_
  refine mv_dup (pc := 54) B d_Book_wider_54 rfl ?_
  refine mv_getI (pc := 55) (ci := 12) (C := R_Book) (T := F_Book) (N := 65) B 8 rfl rfl (by decide) i_Book (B.2.2.2.1 _ k_1851) rfl d_Book_wider_55 ?_
  refine mv_iconst (pc := 58) (v := 1) B d_Book_wider_58 (by decide) ?_
  refine mv_isub (pc := 59) B d_Book_wider_59 ?_
  refine mv_putI (pc := 60) (ci := 12) (C := R_Book) (T := F_Book) (N := 65) B 8 rfl rfl (by decide) i_Book t_Book_ok n_Book (B.2.2.2.1 _ k_1851) rfl rfl rfl rfl d_Book_wider_60 ?_
  refine mvh_hp (R9 := mv_r h) hf r_g17 (fun g19 hf r_g19 => ?_)
  refine mv_lload_n (pc := 63) B d_Book_wider_63 rfl 1 rfl ?_
  refine mv_lconst (pc := 64) (v := 1) B d_Book_wider_64 (by decide) ?_
  refine mv_ldc2 (pc := 65) (v := 64) B (B.2.2.2.1 _ k_2184) d_Book_wider_65 ?_
  obtain ⟨u21, g20, eg20, hf⟩ := xhb_e hf
  refine mv_callSNi (pc := 68) (n := 3) B (mK_ok sk sv) hNs (ch_Model_in l hi _ _ _ _ eg20) rfl (ma_goodc kc_Model_in) (va_Nw.use rfl (hNs.1 _ (List.mem_of_getElem? (i := 7) rfl))) (B.2.2.2.1 _ k_2208) (B.2.2.2.1 _ k_12) ⟨by decide +kernel, by decide +kernel, by decide +kernel⟩ rfl d_Book_wider_68 rfl (Nat.le_of_ble_eq_true rfl) ⟨by first | decide | (dsimp only; omega), by first | decide | (dsimp only; omega)⟩ ⟨Nat.le_refl _, Nat.le_refl _⟩ ⟨Nat.le_refl _, Nat.le_refl _⟩ (mv_noH hno _) (fun w68 σ68 h68 => ?_)
  obtain ⟨rfl, rfl, s_g20⟩ := h68
  have r_g20 : mv_r g20 = mv_r h := s_g20.trans r_g19
  refine mv_if_eq (pc := 71) (tgt := 99) B d_Book_wider_71 rfl (fun h71 => ?_) (fun h71 => ?_)
  · skip
    have hf := xif_t h71 hf
    refine mv_lpick [3, 4, 2, 1, 0] rfl ?_
    exact jn99 _ _ _ _ _ r_g20 hf
  · skip
    have hf := xif_f h71 hf
    refine mv_aload_n (pc := 74) B d_Book_wider_74 rfl 3 rfl ?_
    refine mv_getR (pc := 75) (ci := 12) (C := R_Book) (T := F_Book) (N := 65) B 45 rfl rfl (by decide) i_Book (B.2.2.2.1 _ k_1894) rfl ((congrFun (congrFun r_g20 74) 45).trans (hb.1 74 45 _ rfl)) d_Book_wider_75 ?_
    refine mv_iload_n (pc := 78) B d_Book_wider_78 rfl 2 rfl ?_
    obtain ⟨q22, hf⟩ := xvi_e hf
    refine mv_iald (pc := 79) B rfl q22 d_Book_wider_79 ?_
    refine mv_if_eq (pc := 80) (tgt := 95) B d_Book_wider_80 rfl (fun h80 => ?_) (fun h80 => ?_)
    · skip
      have hf := xif_t h80 hf
      refine mv_lpick [3, 4, 2, 1, 0] rfl ?_
      exact jn95 _ _ _ _ _ r_g20 hf
    · skip
      have hf := xif_f h80 hf
      refine mv_lload_n (pc := 83) B d_Book_wider_83 rfl 1 rfl ?_
      refine mv_aload_n (pc := 84) B d_Book_wider_84 rfl 3 rfl ?_
      refine mv_getR (pc := 85) (ci := 12) (C := R_Book) (T := F_Book) (N := 65) B 45 rfl rfl (by decide) i_Book (B.2.2.2.1 _ k_1894) rfl ((congrFun (congrFun r_g20 74) 45).trans (hb.1 74 45 _ rfl)) d_Book_wider_85 ?_
      refine mv_iload_n (pc := 88) B d_Book_wider_88 rfl 2 rfl ?_
      obtain ⟨q23, hf⟩ := xvi_e hf
      refine mv_iald (pc := 89) B rfl q23 d_Book_wider_89 ?_
      refine mv_i2l (pc := 90) B d_Book_wider_90 ?_
      refine mv_lcmp (pc := 91) B d_Book_wider_91 ?_
      refine mv_if_lt (pc := 92) (tgt := 99) B d_Book_wider_92 rfl (fun h92 => ?_) (fun h92 => ?_)
      · skip
        have hf := xif_t h92 hf
        refine mv_lpick [3, 4, 2, 1, 0] rfl ?_
        exact jn99 _ _ _ _ _ r_g20 hf
      · skip
        have hf := xif_f h92 hf
        refine mv_lpick [3, 4, 2, 1, 0] rfl ?_
        exact jn95 _ _ _ _ _ r_g20 hf
set_option maxHeartbeats 4000000 in
set_option maxRecDepth 100000 in
theorem cr_Book_called_x (l : Launch) {dA : FieldType → ClassId} {D : va_G} {al : Nat → Nat} {ext : mv_Sh} {sk sv : Nat → Nat} (hi : mv_inj (mg dA D al ext)) (nn : Nat) (ih : RecX l dA D al ext sk sv 74 nn) (h : mv_H) (hb : Br 74 (mv_r h))  (a0 : Int32) {rv : Option Int32} {rg : mv_H} (hf : f_Book_called 74 (f_BookR 74 nn) h a0 = some (rv, rg)) : mv_C l y_Book_called (Cond.code y_Book_called b_Book_called 5 (Option.some Jvm.ClassFile.FieldType.int) :: ma) ({ frames := nn + 1 + 7, cells := 0, slots := 0, locals := 60 * (nn + 1) + 400 }) (mg dA D al ext) (mK sk sv) [.ref (al 74), .int a0] h (mv_Ui (fun v σ1 => rv = some v ∧ rg = σ1 ∧ mv_r σ1 = mv_r h) ("MachineLoomModel$Book$Wrong", al 107) (fun σ1 => rv = none ∧ rg = σ1 ∧ mv_r σ1 = mv_r h)) := by
  refine mv_C.ofV (cc := b_Book_called) (nL := 5) (ret := (Option.some Jvm.ClassFile.FieldType.int)) (by decide +kernel) rfl hi (Nat.le_of_ble_eq_true rfl) ?_
  intro p e s m below meth c B hNs hr hnm hno
  unfold f_Book_called at hf
  refine mv_aload_n (pc := 0) B d_Book_called_0 rfl 0 rfl ?_
  refine mv_getI (pc := 1) (ci := 12) (C := R_Book) (T := F_Book) (N := 65) B 5 rfl rfl (by decide) i_Book (B.2.2.2.1 _ k_1848) rfl d_Book_called_1 ?_
  refine mv_istore_n (pc := 4) B d_Book_called_4 rfl (by decide) rfl ?_
  refine mv_aload_n (pc := 5) B d_Book_called_5 rfl 1 rfl ?_
  obtain ⟨og1, g1, eg1, hf⟩ := xtb_e hf
  refine mv_callVUv (pc := 6) (n := 0) (ci := 12) (C := R_Book) B (mK_ok sk sv) hNs rfl rfl (ch_Book_pass_x l hi _ (hb) eg1) rfl (ma_goodc kc_Book_pass) (B.2.2.2.1 _ k_2173) (B.2.2.2.1 _ k_2175) (B.2.2.2.1 _ ks_90) (B.2.2.2.1 _ k_13) ⟨by decide +kernel, by decide +kernel, by decide +kernel⟩ rfl d_Book_called_6 rfl (Nat.le_of_ble_eq_true rfl) ⟨by first | decide | (dsimp only; omega), by first | decide | (dsimp only; omega)⟩ ⟨Nat.le_refl _, Nat.le_refl _⟩ ⟨Nat.le_refl _, Nat.le_refl _⟩ (mv_noH hno _) (fun τ9 g9 => Or.inr ⟨rfl, xth hf g9 rfl⟩) (fun σ6 h6 => ?_)
  obtain ⟨rfl, rfl, s_g1⟩ := h6
  have hf := xt2_s hf
  have r_g1 : mv_r g1 = mv_r h := s_g1.trans rfl
  refine mv_aload_n (pc := 9) B d_Book_called_9 rfl 1 rfl ?_
  refine mv_bipush (pc := 10) (v := 40) B d_Book_called_10 (by decide) ?_
  obtain ⟨og3, g3, eg3, hf⟩ := xtb_e hf
  refine mv_callVUv (pc := 12) (n := 1) (ci := 12) (C := R_Book) B (mK_ok sk sv) hNs rfl rfl (ch_Book_need_x l hi _ (xrw r_g1 hb) _ eg3) rfl (ma_goodc kc_Book_need) (B.2.2.2.1 _ k_2177) (B.2.2.2.1 _ k_2179) (B.2.2.2.1 _ ks_91) (B.2.2.2.1 _ k_13) ⟨by decide +kernel, by decide +kernel, by decide +kernel⟩ rfl d_Book_called_12 rfl (Nat.le_of_ble_eq_true rfl) ⟨by first | decide | (dsimp only; omega), by first | decide | (dsimp only; omega)⟩ ⟨Nat.le_refl _, Nat.le_refl _⟩ ⟨Nat.le_refl _, Nat.le_refl _⟩ (mv_noH hno _) (fun τ9 g9 => Or.inr ⟨rfl, xth hf g9 r_g1⟩) (fun σ12 h12 => ?_)
  obtain ⟨rfl, rfl, s_g3⟩ := h12
  have hf := xt2_s hf
  have r_g3 : mv_r g3 = mv_r h := s_g3.trans r_g1
  refine mv_aload_n (pc := 15) B d_Book_called_15 rfl 1 rfl ?_
  refine mv_dup (pc := 16) B d_Book_called_16 rfl ?_
  refine mv_getI (pc := 17) (ci := 12) (C := R_Book) (T := F_Book) (N := 65) B 8 rfl rfl (by decide) i_Book (B.2.2.2.1 _ k_1851) rfl d_Book_called_17 ?_
  refine mv_iconst (pc := 20) (v := 1) B d_Book_called_20 (by decide) ?_
  refine mv_iadd (pc := 21) B d_Book_called_21 ?_
  refine mv_putI (pc := 22) (ci := 12) (C := R_Book) (T := F_Book) (N := 65) B 8 rfl rfl (by decide) i_Book t_Book_ok n_Book (B.2.2.2.1 _ k_1851) rfl rfl rfl rfl d_Book_called_22 ?_
  refine mvh_hp (R9 := mv_r h) hf r_g3 (fun g5 hf r_g5 => ?_)
  refine mv_aload_n (pc := 25) B d_Book_called_25 rfl 1 rfl ?_
  obtain ⟨og6, g6, eg6, hf⟩ := xtb_e hf
  refine mv_callVUi (pc := 26) (n := 0) (ci := 12) (C := R_Book) B (mK_ok sk sv) hNs rfl rfl (ih.1 _ _ _ _ (xrw r_g5 hb) eg6) rfl (ma_goodc kc_Book_expression) (B.2.2.2.1 _ k_2245) (B.2.2.2.1 _ k_2247) (B.2.2.2.1 _ ks_104) (B.2.2.2.1 _ k_13) ⟨by decide +kernel, by decide +kernel, by decide +kernel⟩ rfl d_Book_called_26 rfl (Nat.le_of_ble_eq_true rfl) ⟨by first | decide | (dsimp only; omega), by first | decide | (dsimp only; omega)⟩ ⟨Nat.le_refl _, Nat.le_refl _⟩ ⟨Nat.le_refl _, Nat.le_refl _⟩ (mv_noH hno _) (fun τ9 g9 => Or.inr ⟨rfl, xth hf g9 r_g5⟩) (fun u7 σ26 h26 => ?_)
  obtain ⟨rfl, rfl, s_g6⟩ := h26
  have hf := xt2_s hf
  have r_g6 : mv_r g6 = mv_r h := s_g6.trans r_g5
  refine mv_istore_n (pc := 29) B d_Book_called_29 rfl (by decide) rfl ?_
  refine mv_aload_n (pc := 30) B d_Book_called_30 rfl 2 rfl ?_
  refine mv_bipush (pc := 31) (v := 44) B d_Book_called_31 (by decide) ?_
  obtain ⟨og8, g8, eg8, hf⟩ := xtb_e hf
  refine mv_callVUv (pc := 33) (n := 1) (ci := 12) (C := R_Book) B (mK_ok sk sv) hNs rfl rfl (ch_Book_need_x l hi _ (xrw r_g6 hb) _ eg8) rfl (ma_goodc kc_Book_need) (B.2.2.2.1 _ k_2177) (B.2.2.2.1 _ k_2179) (B.2.2.2.1 _ ks_91) (B.2.2.2.1 _ k_13) ⟨by decide +kernel, by decide +kernel, by decide +kernel⟩ rfl d_Book_called_33 rfl (Nat.le_of_ble_eq_true rfl) ⟨by first | decide | (dsimp only; omega), by first | decide | (dsimp only; omega)⟩ ⟨Nat.le_refl _, Nat.le_refl _⟩ ⟨Nat.le_refl _, Nat.le_refl _⟩ (mv_noH hno _) (fun τ9 g9 => Or.inr ⟨rfl, xth hf g9 r_g6⟩) (fun σ33 h33 => ?_)
  obtain ⟨rfl, rfl, s_g8⟩ := h33
  have hf := xt2_s hf
  have r_g8 : mv_r g8 = mv_r h := s_g8.trans r_g6
  refine mv_aload_n (pc := 36) B d_Book_called_36 rfl 2 rfl ?_
  obtain ⟨og10, g10, eg10, hf⟩ := xtb_e hf
  refine mv_callVUi (pc := 37) (n := 0) (ci := 12) (C := R_Book) B (mK_ok sk sv) hNs rfl rfl (ih.1 _ _ _ _ (xrw r_g8 hb) eg10) rfl (ma_goodc kc_Book_expression) (B.2.2.2.1 _ k_2245) (B.2.2.2.1 _ k_2247) (B.2.2.2.1 _ ks_104) (B.2.2.2.1 _ k_13) ⟨by decide +kernel, by decide +kernel, by decide +kernel⟩ rfl d_Book_called_37 rfl (Nat.le_of_ble_eq_true rfl) ⟨by first | decide | (dsimp only; omega), by first | decide | (dsimp only; omega)⟩ ⟨Nat.le_refl _, Nat.le_refl _⟩ ⟨Nat.le_refl _, Nat.le_refl _⟩ (mv_noH hno _) (fun τ9 g9 => Or.inr ⟨rfl, xth hf g9 r_g8⟩) (fun u11 σ37 h37 => ?_)
  obtain ⟨rfl, rfl, s_g10⟩ := h37
  have hf := xt2_s hf
  have r_g10 : mv_r g10 = mv_r h := s_g10.trans r_g8
  refine mv_istore (pc := 40) B d_Book_called_40 (by decide) rfl ?_
  refine mv_aload_n (pc := 42) B d_Book_called_42 rfl 3 rfl ?_
  refine mv_bipush (pc := 43) (v := 41) B d_Book_called_43 (by decide) ?_
  obtain ⟨og12, g12, eg12, hf⟩ := xtb_e hf
  refine mv_callVUv (pc := 45) (n := 1) (ci := 12) (C := R_Book) B (mK_ok sk sv) hNs rfl rfl (ch_Book_need_x l hi _ (xrw r_g10 hb) _ eg12) rfl (ma_goodc kc_Book_need) (B.2.2.2.1 _ k_2177) (B.2.2.2.1 _ k_2179) (B.2.2.2.1 _ ks_91) (B.2.2.2.1 _ k_13) ⟨by decide +kernel, by decide +kernel, by decide +kernel⟩ rfl d_Book_called_45 rfl (Nat.le_of_ble_eq_true rfl) ⟨by first | decide | (dsimp only; omega), by first | decide | (dsimp only; omega)⟩ ⟨Nat.le_refl _, Nat.le_refl _⟩ ⟨Nat.le_refl _, Nat.le_refl _⟩ (mv_noH hno _) (fun τ9 g9 => Or.inr ⟨rfl, xth hf g9 r_g10⟩) (fun σ45 h45 => ?_)
  obtain ⟨rfl, rfl, s_g12⟩ := h45
  have hf := xt2_s hf
  have r_g12 : mv_r g12 = mv_r h := s_g12.trans r_g10
  refine mv_aload_n (pc := 48) B d_Book_called_48 rfl 3 rfl ?_
  refine mv_dup (pc := 49) B d_Book_called_49 rfl ?_
  refine mv_getI (pc := 50) (ci := 12) (C := R_Book) (T := F_Book) (N := 65) B 8 rfl rfl (by decide) i_Book (B.2.2.2.1 _ k_1851) rfl d_Book_called_50 ?_
  refine mv_iconst (pc := 53) (v := 1) B d_Book_called_53 (by decide) ?_
  refine mv_isub (pc := 54) B d_Book_called_54 ?_
  refine mv_putI (pc := 55) (ci := 12) (C := R_Book) (T := F_Book) (N := 65) B 8 rfl rfl (by decide) i_Book t_Book_ok n_Book (B.2.2.2.1 _ k_1851) rfl rfl rfl rfl d_Book_called_55 ?_
  refine mvh_hp (R9 := mv_r h) hf r_g12 (fun g14 hf r_g14 => ?_)
  refine mv_aload_n (pc := 58) B d_Book_called_58 rfl 3 rfl ?_
  refine mv_iload_n (pc := 59) B d_Book_called_59 rfl 4 rfl ?_
  refine mv_iload_n (pc := 60) B d_Book_called_60 rfl 2 rfl ?_
  refine mv_iload_n (pc := 61) B d_Book_called_61 rfl 1 rfl ?_
  refine mv_iload (pc := 62) B d_Book_called_62 0 rfl ?_
  obtain ⟨u16, g15, eg15, hf⟩ := xhb_e hf
  refine mv_callVi (pc := 64) (n := 4) (ci := 12) (C := R_Book) B (mK_ok sk sv) hNs rfl rfl (ch_Book_two_x l hi _ (xrw r_g14 hb) _ _ _ _ eg15) rfl (ma_goodc kc_Book_two) (B.2.2.2.1 _ k_2288) (B.2.2.2.1 _ k_2290) (B.2.2.2.1 _ ks_114) (B.2.2.2.1 _ k_13) ⟨by decide +kernel, by decide +kernel, by decide +kernel⟩ rfl d_Book_called_64 rfl (Nat.le_of_ble_eq_true rfl) ⟨by first | decide | (dsimp only; omega), by first | decide | (dsimp only; omega)⟩ ⟨Nat.le_refl _, Nat.le_refl _⟩ ⟨Nat.le_refl _, Nat.le_refl _⟩ (mv_noH hno _) (fun w64 σ64 h64 => ?_)
  obtain ⟨rfl, rfl, s_g15⟩ := h64
  have r_g15 : mv_r g15 = mv_r h := s_g15.trans r_g14
  exact mv_iret (pc := 67) B hr rfl d_Book_called_67 (Nat.le_refl _) (Nat.le_refl _) (Or.inl ⟨_, rfl, xrt_i hf r_g15⟩)
set_option maxHeartbeats 4000000 in
set_option maxRecDepth 100000 in
theorem cr_Book_together_x (l : Launch) {dA : FieldType → ClassId} {D : va_G} {al : Nat → Nat} {ext : mv_Sh} {sk sv : Nat → Nat} (hi : mv_inj (mg dA D al ext)) (nn : Nat) (ih : RecX l dA D al ext sk sv 74 nn) (h : mv_H) (hb : Br 74 (mv_r h))  {rv : Option Int32} {rg : mv_H} (hf : f_Book_together 74 (f_BookR 74 nn) h = some (rv, rg)) : mv_C l y_Book_together (Cond.code y_Book_together b_Book_together 7 (Option.some Jvm.ClassFile.FieldType.int) :: ma) ({ frames := nn + 1 + 7, cells := 0, slots := 0, locals := 60 * (nn + 1) + 400 }) (mg dA D al ext) (mK sk sv) [.ref (al 74)] h (mv_Ui (fun v σ1 => rv = some v ∧ rg = σ1 ∧ mv_r σ1 = mv_r h) ("MachineLoomModel$Book$Wrong", al 107) (fun σ1 => rv = none ∧ rg = σ1 ∧ mv_r σ1 = mv_r h)) := by
  refine mv_C.ofV (cc := b_Book_together) (nL := 7) (ret := (Option.some Jvm.ClassFile.FieldType.int)) (by decide +kernel) rfl hi (Nat.le_of_ble_eq_true rfl) ?_
  intro p e s m below meth c B hNs hr hnm hno
  have jn179 : ∀ (y0 : Int32) (y1 : Int32) (y2 : Int32) (y3 : Int32) (y4 : Int32) (hz : mv_H), mv_r hz = mv_r h → f_Book_together_179 74 (f_BookR 74 nn) y0 y1 y2 y3 y4 hz = some (rv, rg) → mv_V p l e ({ frames := nn + 1 + 7, cells := 0, slots := 0, locals := 60 * (nn + 1) + 400 }) s m ([.ref (al 74)] : List Value).toArray below meth c (mg dA D al ext) 7 0 0 (mv_Q (mg dA D al ext) below s 0 0 (mv_Ui (fun v σ1 => rv = some v ∧ rg = σ1 ∧ mv_r σ1 = mv_r h) ("MachineLoomModel$Book$Wrong", al 107) (fun σ1 => rv = none ∧ rg = σ1 ∧ mv_r σ1 = mv_r h))) hz 179 [] [.int y0, .int y1, .int y2, .int y3, .int y4, .ref (al 74)] := by
    intro y0 y1 y2 y3 y4 hz r_hz hf
    unfold f_Book_together_179 at hf
    obtain ⟨u2, g1, eg1, hf⟩ := xhb_e hf
    refine mv_callVi (pc := 179) (n := 5) (ci := 12) (C := R_Book) B (mK_ok sk sv) hNs rfl rfl (ch_Book_node_x l hi _ (xrw r_hz hb) _ _ _ _ _ eg1) rfl (ma_goodc kc_Book_node) (B.2.2.2.1 _ k_2269) (B.2.2.2.1 _ k_2271) (B.2.2.2.1 _ ks_110) (B.2.2.2.1 _ k_13) ⟨by decide +kernel, by decide +kernel, by decide +kernel⟩ rfl d_Book_together_179 rfl (Nat.le_of_ble_eq_true rfl) ⟨by first | decide | (dsimp only; omega), by first | decide | (dsimp only; omega)⟩ ⟨Nat.le_refl _, Nat.le_refl _⟩ ⟨Nat.le_refl _, Nat.le_refl _⟩ (mv_noH hno _) (fun w179 σ179 h179 => ?_)
    obtain ⟨rfl, rfl, s_g1⟩ := h179
    have r_g1 : mv_r g1 = mv_r h := s_g1.trans r_hz
    exact mv_iret (pc := 182) B hr rfl d_Book_together_182 (Nat.le_refl _) (Nat.le_refl _) (Or.inl ⟨_, rfl, xrt_i hf r_g1⟩)
  have jn178 : ∀ (y0 : Int32) (y1 : Int32) (y2 : Int32) (y3 : Int32) (hz : mv_H), mv_r hz = mv_r h → f_Book_together_178 74 (f_BookR 74 nn) y0 y1 y2 y3 hz = some (rv, rg) → mv_V p l e ({ frames := nn + 1 + 7, cells := 0, slots := 0, locals := 60 * (nn + 1) + 400 }) s m ([.ref (al 74)] : List Value).toArray below meth c (mg dA D al ext) 7 0 0 (mv_Q (mg dA D al ext) below s 0 0 (mv_Ui (fun v σ1 => rv = some v ∧ rg = σ1 ∧ mv_r σ1 = mv_r h) ("MachineLoomModel$Book$Wrong", al 107) (fun σ1 => rv = none ∧ rg = σ1 ∧ mv_r σ1 = mv_r h))) hz 178 [] [.int y0, .int y1, .int y2, .int y3, .ref (al 74)] := by
    intro y0 y1 y2 y3 hz r_hz hf
    unfold f_Book_together_178 at hf
    refine mv_iconst (pc := 178) (v := 0) B d_Book_together_178 (by decide) ?_
    refine mv_lpick [] rfl ?_
    exact jn179 _ _ _ _ _ _ r_hz hf
  have jn157 : ∀ (x2 : Int32) (x3 : Int32) (x5 : Int32) (hz : mv_H), mv_r hz = mv_r h → f_Book_together_157 74 (f_BookR 74 nn) x2 x3 x5 hz = some (rv, rg) → mv_V p l e ({ frames := nn + 1 + 7, cells := 0, slots := 0, locals := 60 * (nn + 1) + 400 }) s m ([.ref (al 74)] : List Value).toArray below meth c (mg dA D al ext) 7 0 0 (mv_Q (mg dA D al ext) below s 0 0 (mv_Ui (fun v σ1 => rv = some v ∧ rg = σ1 ∧ mv_r σ1 = mv_r h) ("MachineLoomModel$Book$Wrong", al 107) (fun σ1 => rv = none ∧ rg = σ1 ∧ mv_r σ1 = mv_r h))) hz 157 [(0, .ref (al 74)), (2, .int x2), (3, .int x3), (5, .int x5)] [] := by
    intro x2 x3 x5 hz r_hz hf
    unfold f_Book_together_157 at hf
    refine mv_aload_n (pc := 157) B d_Book_together_157 rfl 0 rfl ?_
    refine mv_bipush (pc := 158) (v := 10) B d_Book_together_158 (by decide) ?_
    refine mv_iload_n (pc := 160) B d_Book_together_160 rfl 2 rfl ?_
    refine mv_iconst (pc := 161) (v := 0) B d_Book_together_161 (by decide) ?_
    refine mv_iconst (pc := 162) (v := 0) B d_Book_together_162 (by decide) ?_
    refine mv_iload (pc := 163) B d_Book_together_163 3 rfl ?_
    refine mv_if_eq (pc := 165) (tgt := 178) B d_Book_together_165 rfl (fun h165 => ?_) (fun h165 => ?_)
    · skip
      have hf := xif_t h165 hf
      refine mv_lpick [] rfl ?_
      exact jn178 _ _ _ _ _ r_hz hf
    · skip
      have hf := xif_f h165 hf
      refine mv_iload_n (pc := 168) B d_Book_together_168 rfl 1 rfl ?_
      refine mv_bipush (pc := 169) (v := 64) B d_Book_together_169 (by decide) ?_
      refine mv_icmp_gt (pc := 171) (tgt := 178) B d_Book_together_171 rfl (fun h171 => ?_) (fun h171 => ?_)
      · skip
        have hf := xif_t h171 hf
        refine mv_lpick [] rfl ?_
        exact jn178 _ _ _ _ _ r_hz hf
      · skip
        have hf := xif_f h171 hf
        refine mv_iload_n (pc := 174) B d_Book_together_174 rfl 1 rfl ?_
        refine mv_goto (pc := 175) (tgt := 179) B d_Book_together_175 rfl ?_
        refine mv_lpick [] rfl ?_
        exact jn179 _ _ _ _ _ _ r_hz hf
  have lp52 : ∀ (nn52 : Nat) (x1 : Int32) (x2 : Int32) (x3 : Int32) (x4 : Int32) (x5 : Int32) (hz : mv_H), mv_r hz = mv_r h → f_Book_together_52 74 (f_BookR 74 nn) nn52 x1 x2 x3 x4 x5 hz = some (rv, rg) → mv_V p l e ({ frames := nn + 1 + 7, cells := 0, slots := 0, locals := 60 * (nn + 1) + 400 }) s m ([.ref (al 74)] : List Value).toArray below meth c (mg dA D al ext) 7 0 0 (mv_Q (mg dA D al ext) below s 0 0 (mv_Ui (fun v σ1 => rv = some v ∧ rg = σ1 ∧ mv_r σ1 = mv_r h) ("MachineLoomModel$Book$Wrong", al 107) (fun σ1 => rv = none ∧ rg = σ1 ∧ mv_r σ1 = mv_r h))) hz 52 [(0, .ref (al 74)), (1, .int x1), (2, .int x2), (3, .int x3), (4, .int x4), (5, .int x5)] [] := by
    intro nn52
    induction nn52 with
    | zero => intro x1 x2 x3 x4 x5 hz r_hz hf; cases hf
    | succ nn52 ih52 =>
      intro x1 x2 x3 x4 x5 hz r_hz hf
      have jn101 : ∀ (x1 : Int32) (x2 : Int32) (x3 : Int32) (x4 : Int32) (x6 : Int32) (y0 : Int32) (y1 : Int32) (hz : mv_H), mv_r hz = mv_r h → f_Book_together_101 74 (f_BookR 74 nn) (f_Book_together_52 74 (f_BookR 74 nn) nn52) x1 x2 x3 x4 x6 y0 y1 hz = some (rv, rg) → mv_V p l e ({ frames := nn + 1 + 7, cells := 0, slots := 0, locals := 60 * (nn + 1) + 400 }) s m ([.ref (al 74)] : List Value).toArray below meth c (mg dA D al ext) 7 0 0 (mv_Q (mg dA D al ext) below s 0 0 (mv_Ui (fun v σ1 => rv = some v ∧ rg = σ1 ∧ mv_r σ1 = mv_r h) ("MachineLoomModel$Book$Wrong", al 107) (fun σ1 => rv = none ∧ rg = σ1 ∧ mv_r σ1 = mv_r h))) hz 101 [(0, .ref (al 74)), (1, .int x1), (2, .int x2), (3, .int x3), (4, .int x4), (6, .int x6)] [.int y0, .int y1] := by
        intro x1 x2 x3 x4 x6 y0 y1 hz r_hz hf
        unfold f_Book_together_101 at hf
        refine mv_iand (pc := 101) B d_Book_together_101 ?_
        refine mv_istore (pc := 102) B d_Book_together_102 (by decide) rfl ?_
        refine mv_iload_n (pc := 104) B d_Book_together_104 rfl 3 rfl ?_
        refine mv_sipush (pc := 105) (v := 1000) B d_Book_together_105 (by decide) ?_
        refine mv_icmp_ge (pc := 108) (tgt := 121) B d_Book_together_108 rfl (fun h108 => ?_) (fun h108 => ?_)
        · skip
          have hf := xif_t h108 hf
          refine mv_goto (pc := 121) (tgt := 52) B d_Book_together_121 rfl ?_
          refine mv_lpick [1, 2, 3, 4, 5, 0] rfl ?_
          exact ih52 _ _ _ _ _ _ r_hz hf
        · skip
          have hf := xif_f h108 hf
          refine mv_iload_n (pc := 111) B d_Book_together_111 rfl 3 rfl ?_
          refine mv_aload_n (pc := 112) B d_Book_together_112 rfl 1 rfl ?_
          refine mv_getR (pc := 113) (ci := 12) (C := R_Book) (T := F_Book) (N := 65) B 45 rfl rfl (by decide) i_Book (B.2.2.2.1 _ k_1894) rfl ((congrFun (congrFun r_hz 74) 45).trans (hb.1 74 45 _ rfl)) d_Book_together_113 ?_
          refine mv_iload (pc := 116) B d_Book_together_116 6 rfl ?_
          obtain ⟨q3, hf⟩ := xvi_e hf
          refine mv_iald (pc := 118) B rfl q3 d_Book_together_118 ?_
          refine mv_iadd (pc := 119) B d_Book_together_119 ?_
          refine mv_istore_n (pc := 120) B d_Book_together_120 rfl (by decide) rfl ?_
          refine mv_goto (pc := 121) (tgt := 52) B d_Book_together_121 rfl ?_
          refine mv_lpick [2, 3, 0, 4, 5, 1] rfl ?_
          exact ih52 _ _ _ _ _ _ r_hz hf
      have hf : fF_Book_together_52 74 (f_BookR 74 nn) (f_Book_together_52 74 (f_BookR 74 nn) nn52) x1 x2 x3 x4 x5 hz = some (rv, rg) := hf
      unfold fF_Book_together_52 at hf
      refine mv_aload_n (pc := 52) B d_Book_together_52 rfl 0 rfl ?_
      refine mv_getI (pc := 53) (ci := 12) (C := R_Book) (T := F_Book) (N := 65) B 4 rfl rfl (by decide) i_Book (B.2.2.2.1 _ k_1847) rfl d_Book_together_53 ?_
      refine mv_bipush (pc := 56) (v := 44) B d_Book_together_56 (by decide) ?_
      refine mv_icmp_ne (pc := 58) (tgt := 124) B d_Book_together_58 rfl (fun h58 => ?_) (fun h58 => ?_)
      · skip
        have hf := xif_f h58 hf
        refine mv_aload_n (pc := 124) B d_Book_together_124 rfl 0 rfl ?_
        refine mv_bipush (pc := 125) (v := 125) B d_Book_together_125 (by decide) ?_
        obtain ⟨og4, g4, eg4, hf⟩ := xtb_e hf
        refine mv_callVUv (pc := 127) (n := 1) (ci := 12) (C := R_Book) B (mK_ok sk sv) hNs rfl rfl (ch_Book_need_x l hi _ (xrw r_hz hb) _ eg4) rfl (ma_goodc kc_Book_need) (B.2.2.2.1 _ k_2177) (B.2.2.2.1 _ k_2179) (B.2.2.2.1 _ ks_91) (B.2.2.2.1 _ k_13) ⟨by decide +kernel, by decide +kernel, by decide +kernel⟩ rfl d_Book_together_127 rfl (Nat.le_of_ble_eq_true rfl) ⟨by first | decide | (dsimp only; omega), by first | decide | (dsimp only; omega)⟩ ⟨Nat.le_refl _, Nat.le_refl _⟩ ⟨Nat.le_refl _, Nat.le_refl _⟩ (mv_noH hno _) (fun τ9 g9 => Or.inr ⟨rfl, xth hf g9 r_hz⟩) (fun σ127 h127 => ?_)
        obtain ⟨rfl, rfl, s_g4⟩ := h127
        have hf := xt2_s hf
        have r_g4 : mv_r g4 = mv_r h := s_g4.trans r_hz
        refine mv_aload_n (pc := 130) B d_Book_together_130 rfl 0 rfl ?_
        refine mv_dup (pc := 131) B d_Book_together_131 rfl ?_
        refine mv_getI (pc := 132) (ci := 12) (C := R_Book) (T := F_Book) (N := 65) B 8 rfl rfl (by decide) i_Book (B.2.2.2.1 _ k_1851) rfl d_Book_together_132 ?_
        refine mv_iconst (pc := 135) (v := 1) B d_Book_together_135 (by decide) ?_
        refine mv_isub (pc := 136) B d_Book_together_136 ?_
        refine mv_putI (pc := 137) (ci := 12) (C := R_Book) (T := F_Book) (N := 65) B 8 rfl rfl (by decide) i_Book t_Book_ok n_Book (B.2.2.2.1 _ k_1851) rfl rfl rfl rfl d_Book_together_137 ?_
        refine mvh_hp (R9 := mv_r h) hf r_g4 (fun g6 hf r_g6 => ?_)
        refine mv_iload (pc := 140) B d_Book_together_140 5 rfl ?_
        refine mv_if_eq (pc := 142) (tgt := 157) B d_Book_together_142 rfl (fun h142 => ?_) (fun h142 => ?_)
        · skip
          have hf := xif_t h142 hf
          refine mv_lpick [0, 2, 3, 5] rfl ?_
          exact jn157 _ _ _ _ r_g6 hf
        · skip
          have hf := xif_f h142 hf
          refine mv_iload_n (pc := 145) B d_Book_together_145 rfl 2 rfl ?_
          refine mv_bipush (pc := 146) (v := 64) B d_Book_together_146 (by decide) ?_
          refine mv_icmp_le (pc := 148) (tgt := 157) B d_Book_together_148 rfl (fun h148 => ?_) (fun h148 => ?_)
          · skip
            have hf := xif_t h148 hf
            refine mv_lpick [0, 2, 3, 5] rfl ?_
            exact jn157 _ _ _ _ r_g6 hf
          · skip
            have hf := xif_f h148 hf
            refine mv_aload_n (pc := 151) B d_Book_together_151 rfl 0 rfl ?_
            refine mv_iconst (pc := 152) (v := 4) B d_Book_together_152 (by decide) ?_
            refine mv_iload_n (pc := 153) B d_Book_together_153 rfl 1 rfl ?_
            obtain ⟨g7, eg7, hf⟩ := xhv_e hf
            refine mv_callVv (pc := 154) (n := 2) (ci := 12) (C := R_Book) B (mK_ok sk sv) hNs rfl rfl (ch_Book_fault_x l hi _ _ _ eg7) rfl (ma_goodc kc_Book_fault) (B.2.2.2.1 _ k_2185) (B.2.2.2.1 _ k_2187) (B.2.2.2.1 _ ks_92) (B.2.2.2.1 _ k_13) ⟨by decide +kernel, by decide +kernel, by decide +kernel⟩ rfl d_Book_together_154 rfl (Nat.le_of_ble_eq_true rfl) ⟨by first | decide | (dsimp only; omega), by first | decide | (dsimp only; omega)⟩ ⟨Nat.le_refl _, Nat.le_refl _⟩ ⟨Nat.le_refl _, Nat.le_refl _⟩ (mv_noH hno _) (fun σ154 h154 => ?_)
            obtain ⟨rfl, s_g7⟩ := h154
            have r_g7 : mv_r g7 = mv_r h := s_g7.trans r_g6
            refine mv_lpick [0, 2, 3, 5] rfl ?_
            exact jn157 _ _ _ _ r_g7 hf
      · skip
        have hf := xif_t h58 hf
        refine mv_aload_n (pc := 61) B d_Book_together_61 rfl 0 rfl ?_
        obtain ⟨og9, g9, eg9, hf⟩ := xtb_e hf
        refine mv_callVUv (pc := 62) (n := 0) (ci := 12) (C := R_Book) B (mK_ok sk sv) hNs rfl rfl (ch_Book_pass_x l hi _ (xrw r_hz hb) eg9) rfl (ma_goodc kc_Book_pass) (B.2.2.2.1 _ k_2173) (B.2.2.2.1 _ k_2175) (B.2.2.2.1 _ ks_90) (B.2.2.2.1 _ k_13) ⟨by decide +kernel, by decide +kernel, by decide +kernel⟩ rfl d_Book_together_62 rfl (Nat.le_of_ble_eq_true rfl) ⟨by first | decide | (dsimp only; omega), by first | decide | (dsimp only; omega)⟩ ⟨Nat.le_refl _, Nat.le_refl _⟩ ⟨Nat.le_refl _, Nat.le_refl _⟩ (mv_noH hno _) (fun τ9 g9 => Or.inr ⟨rfl, xth hf g9 r_hz⟩) (fun σ62 h62 => ?_)
        obtain ⟨rfl, rfl, s_g9⟩ := h62
        have hf := xt2_s hf
        have r_g9 : mv_r g9 = mv_r h := s_g9.trans r_hz
        refine mv_aload_n (pc := 65) B d_Book_together_65 rfl 0 rfl ?_
        obtain ⟨og11, g11, eg11, hf⟩ := xtb_e hf
        refine mv_callVUi (pc := 66) (n := 0) (ci := 12) (C := R_Book) B (mK_ok sk sv) hNs rfl rfl (ih.1 _ _ _ _ (xrw r_g9 hb) eg11) rfl (ma_goodc kc_Book_expression) (B.2.2.2.1 _ k_2245) (B.2.2.2.1 _ k_2247) (B.2.2.2.1 _ ks_104) (B.2.2.2.1 _ k_13) ⟨by decide +kernel, by decide +kernel, by decide +kernel⟩ rfl d_Book_together_66 rfl (Nat.le_of_ble_eq_true rfl) ⟨by first | decide | (dsimp only; omega), by first | decide | (dsimp only; omega)⟩ ⟨Nat.le_refl _, Nat.le_refl _⟩ ⟨Nat.le_refl _, Nat.le_refl _⟩ (mv_noH hno _) (fun τ9 g9 => Or.inr ⟨rfl, xth hf g9 r_g9⟩) (fun u12 σ66 h66 => ?_)
        obtain ⟨rfl, rfl, s_g11⟩ := h66
        have hf := xt2_s hf
        have r_g11 : mv_r g11 = mv_r h := s_g11.trans r_g9
        refine mv_istore (pc := 69) B d_Book_together_69 (by decide) rfl ?_
        refine mv_aload_n (pc := 71) B d_Book_together_71 rfl 1 rfl ?_
        refine mv_getR (pc := 72) (ci := 12) (C := R_Book) (T := F_Book) (N := 65) B 44 rfl rfl (by decide) i_Book (B.2.2.2.1 _ k_1893) rfl ((congrFun (congrFun r_g11 74) 44).trans (hb.1 74 44 _ rfl)) d_Book_together_72 ?_
        refine mv_iload (pc := 75) B d_Book_together_75 5 rfl ?_
        refine mv_iload (pc := 77) B d_Book_together_77 0 rfl ?_
        obtain ⟨q13, hf⟩ := xvi_e hf
        refine mv_iast (pc := 79) B rfl q13 d_Book_together_79 ?_
        refine mvh_hp (R9 := mv_r h) hf r_g11 (fun g14 hf r_g14 => ?_)
        refine mv_iload (pc := 80) B d_Book_together_80 0 rfl ?_
        refine mv_istore (pc := 82) B d_Book_together_82 (by decide) rfl ?_
        refine mv_iload (pc := 84) B d_Book_together_84 6 rfl ?_
        refine mv_aload_n (pc := 86) B d_Book_together_86 rfl 2 rfl ?_
        refine mv_getR (pc := 87) (ci := 12) (C := R_Book) (T := F_Book) (N := 65) B 45 rfl rfl (by decide) i_Book (B.2.2.2.1 _ k_1894) rfl ((congrFun (congrFun r_g14 74) 45).trans (hb.1 74 45 _ rfl)) d_Book_together_87 ?_
        refine mv_iload (pc := 90) B d_Book_together_90 1 rfl ?_
        obtain ⟨q15, hf⟩ := xvi_e hf
        refine mv_iald (pc := 92) B rfl q15 d_Book_together_92 ?_
        refine mv_if_le (pc := 93) (tgt := 100) B d_Book_together_93 rfl (fun h93 => ?_) (fun h93 => ?_)
        · skip
          have hf := xif_t h93 hf
          refine mv_iconst (pc := 100) (v := 0) B d_Book_together_100 (by decide) ?_
          refine mv_lpick [2, 3, 4, 5, 0, 1] rfl ?_
          exact jn101 _ _ _ _ _ _ _ _ r_g14 hf
        · skip
          have hf := xif_f h93 hf
          refine mv_iconst (pc := 96) (v := 1) B d_Book_together_96 (by decide) ?_
          refine mv_goto (pc := 97) (tgt := 101) B d_Book_together_97 rfl ?_
          refine mv_lpick [2, 3, 4, 5, 0, 1] rfl ?_
          exact jn101 _ _ _ _ _ _ _ _ r_g14 hf
  have jn43 : ∀ (x1 : Int32) (x3 : Int32) (x4 : Int32) (y0 : Int32) (hz : mv_H), mv_r hz = mv_r h → f_Book_together_43 74 (f_BookR 74 nn) x1 x3 x4 y0 hz = some (rv, rg) → mv_V p l e ({ frames := nn + 1 + 7, cells := 0, slots := 0, locals := 60 * (nn + 1) + 400 }) s m ([.ref (al 74)] : List Value).toArray below meth c (mg dA D al ext) 7 0 0 (mv_Q (mg dA D al ext) below s 0 0 (mv_Ui (fun v σ1 => rv = some v ∧ rg = σ1 ∧ mv_r σ1 = mv_r h) ("MachineLoomModel$Book$Wrong", al 107) (fun σ1 => rv = none ∧ rg = σ1 ∧ mv_r σ1 = mv_r h))) hz 43 [(0, .ref (al 74)), (1, .int x1), (3, .int x3), (4, .int x4)] [.int y0] := by
    intro x1 x3 x4 y0 hz r_hz hf
    unfold f_Book_together_43 at hf
    refine mv_istore (pc := 43) B d_Book_together_43 (by decide) rfl ?_
    refine mv_aload_n (pc := 45) B d_Book_together_45 rfl 1 rfl ?_
    refine mv_getR (pc := 46) (ci := 12) (C := R_Book) (T := F_Book) (N := 65) B 45 rfl rfl (by decide) i_Book (B.2.2.2.1 _ k_1894) rfl ((congrFun (congrFun r_hz 74) 45).trans (hb.1 74 45 _ rfl)) d_Book_together_46 ?_
    refine mv_iload_n (pc := 49) B d_Book_together_49 rfl 3 rfl ?_
    obtain ⟨q16, hf⟩ := xvi_e hf
    refine mv_iald (pc := 50) B rfl q16 d_Book_together_50 ?_
    refine mv_istore_n (pc := 51) B d_Book_together_51 rfl (by decide) rfl ?_
    refine mv_lpick [2, 3, 0, 4, 5, 1] rfl ?_
    exact lp52 _ _ _ _ _ _ _ r_hz hf
  unfold f_Book_together at hf
  refine mv_aload_n (pc := 0) B d_Book_together_0 rfl 0 rfl ?_
  refine mv_getI (pc := 1) (ci := 12) (C := R_Book) (T := F_Book) (N := 65) B 5 rfl rfl (by decide) i_Book (B.2.2.2.1 _ k_1848) rfl d_Book_together_1 ?_
  refine mv_istore_n (pc := 4) B d_Book_together_4 rfl (by decide) rfl ?_
  refine mv_iconst (pc := 5) (v := 0) B d_Book_together_5 (by decide) ?_
  refine mv_istore_n (pc := 6) B d_Book_together_6 rfl (by decide) rfl ?_
  refine mv_aload_n (pc := 7) B d_Book_together_7 rfl 2 rfl ?_
  obtain ⟨og17, g17, eg17, hf⟩ := xtb_e hf
  refine mv_callVUv (pc := 8) (n := 0) (ci := 12) (C := R_Book) B (mK_ok sk sv) hNs rfl rfl (ch_Book_pass_x l hi _ (hb) eg17) rfl (ma_goodc kc_Book_pass) (B.2.2.2.1 _ k_2173) (B.2.2.2.1 _ k_2175) (B.2.2.2.1 _ ks_90) (B.2.2.2.1 _ k_13) ⟨by decide +kernel, by decide +kernel, by decide +kernel⟩ rfl d_Book_together_8 rfl (Nat.le_of_ble_eq_true rfl) ⟨by first | decide | (dsimp only; omega), by first | decide | (dsimp only; omega)⟩ ⟨Nat.le_refl _, Nat.le_refl _⟩ ⟨Nat.le_refl _, Nat.le_refl _⟩ (mv_noH hno _) (fun τ9 g9 => Or.inr ⟨rfl, xth hf g9 rfl⟩) (fun σ8 h8 => ?_)
  obtain ⟨rfl, rfl, s_g17⟩ := h8
  have hf := xt2_s hf
  have r_g17 : mv_r g17 = mv_r h := s_g17.trans rfl
  refine mv_aload_n (pc := 11) B d_Book_together_11 rfl 2 rfl ?_
  refine mv_dup (pc := 12) B d_Book_together_12 rfl ?_
  refine mv_getI (pc := 13) (ci := 12) (C := R_Book) (T := F_Book) (N := 65) B 8 rfl rfl (by decide) i_Book (B.2.2.2.1 _ k_1851) rfl d_Book_together_13 ?_
  refine mv_iconst (pc := 16) (v := 1) B d_Book_together_16 (by decide) ?_
  refine mv_iadd (pc := 17) B d_Book_together_17 ?_
  refine mv_putI (pc := 18) (ci := 12) (C := R_Book) (T := F_Book) (N := 65) B 8 rfl rfl (by decide) i_Book t_Book_ok n_Book (B.2.2.2.1 _ k_1851) rfl rfl rfl rfl d_Book_together_18 ?_
  refine mvh_hp (R9 := mv_r h) hf r_g17 (fun g19 hf r_g19 => ?_)
  refine mv_aload_n (pc := 21) B d_Book_together_21 rfl 2 rfl ?_
  obtain ⟨og20, g20, eg20, hf⟩ := xtb_e hf
  refine mv_callVUi (pc := 22) (n := 0) (ci := 12) (C := R_Book) B (mK_ok sk sv) hNs rfl rfl (ih.1 _ _ _ _ (xrw r_g19 hb) eg20) rfl (ma_goodc kc_Book_expression) (B.2.2.2.1 _ k_2245) (B.2.2.2.1 _ k_2247) (B.2.2.2.1 _ ks_104) (B.2.2.2.1 _ k_13) ⟨by decide +kernel, by decide +kernel, by decide +kernel⟩ rfl d_Book_together_22 rfl (Nat.le_of_ble_eq_true rfl) ⟨by first | decide | (dsimp only; omega), by first | decide | (dsimp only; omega)⟩ ⟨Nat.le_refl _, Nat.le_refl _⟩ ⟨Nat.le_refl _, Nat.le_refl _⟩ (mv_noH hno _) (fun τ9 g9 => Or.inr ⟨rfl, xth hf g9 r_g19⟩) (fun u21 σ22 h22 => ?_)
  obtain ⟨rfl, rfl, s_g20⟩ := h22
  have hf := xt2_s hf
  have r_g20 : mv_r g20 = mv_r h := s_g20.trans r_g19
  refine mv_istore_n (pc := 25) B d_Book_together_25 rfl (by decide) rfl ?_
  refine mv_iload_n (pc := 26) B d_Book_together_26 rfl 0 rfl ?_
  refine mv_istore (pc := 27) B d_Book_together_27 (by decide) rfl ?_
  refine mv_aload_n (pc := 29) B d_Book_together_29 rfl 4 rfl ?_
  refine mv_getR (pc := 30) (ci := 12) (C := R_Book) (T := F_Book) (N := 65) B 45 rfl rfl (by decide) i_Book (B.2.2.2.1 _ k_1894) rfl ((congrFun (congrFun r_g20 74) 45).trans (hb.1 74 45 _ rfl)) d_Book_together_30 ?_
  refine mv_iload_n (pc := 33) B d_Book_together_33 rfl 1 rfl ?_
  obtain ⟨q22, hf⟩ := xvi_e hf
  refine mv_iald (pc := 34) B rfl q22 d_Book_together_34 ?_
  refine mv_if_le (pc := 35) (tgt := 42) B d_Book_together_35 rfl (fun h35 => ?_) (fun h35 => ?_)
  · skip
    have hf := xif_t h35 hf
    refine mv_iconst (pc := 42) (v := 0) B d_Book_together_42 (by decide) ?_
    refine mv_lpick [4, 3, 1, 0] rfl ?_
    exact jn43 _ _ _ _ _ r_g20 hf
  · skip
    have hf := xif_f h35 hf
    refine mv_iconst (pc := 38) (v := 1) B d_Book_together_38 (by decide) ?_
    refine mv_goto (pc := 39) (tgt := 43) B d_Book_together_39 rfl ?_
    refine mv_lpick [4, 3, 1, 0] rfl ?_
    exact jn43 _ _ _ _ _ r_g20 hf
theorem rec_0x (l : Launch) {dA : FieldType → ClassId} {D : va_G} {al : Nat → Nat} {ext : mv_Sh} {sk sv : Nat → Nat} (hi : mv_inj (mg dA D al ext)) : RecX l dA D al ext sk sv 74 0 := ⟨(fun a h rv rg hb hf => by cases hf), (fun a h rv rg hb hf => by cases hf), (fun a h rv rg hb hf => by cases hf), (fun a h rv rg hb hf => by cases hf), (fun a h rv rg hb hf => by cases hf), (fun a h rv rg hb hf => by cases hf), (fun a h rv rg hb hf => by cases hf), (fun a h rv rg hb hf => by cases hf), (fun a h rv rg hb hf => by cases hf)⟩
theorem rec_1x (l : Launch) {dA : FieldType → ClassId} {D : va_G} {al : Nat → Nat} {ext : mv_Sh} {sk sv : Nat → Nat} (hi : mv_inj (mg dA D al ext)) (nn : Nat) (ih : RecX l dA D al ext sk sv 74 nn) : RecX l dA D al ext sk sv 74 (nn + 1) := ⟨(fun a h rv rg hb hf => cr_Book_expression_x l hi nn ih h hb (by rw [f_BookR] at hf; exact hf)), (fun a h rv rg hb hf => cr_Book_binary_x l hi nn ih h hb a (by rw [f_BookR] at hf; exact hf)), (fun a h rv rg hb hf => cr_Book_unary_x l hi nn ih h hb (by rw [f_BookR] at hf; exact hf)), (fun a h rv rg hb hf => cr_Book_post_x l hi nn ih h hb (by rw [f_BookR] at hf; exact hf)), (fun a h rv rg hb hf => cr_Book_primary_x l hi nn ih h hb (by rw [f_BookR] at hf; exact hf)), (fun a h rv rg hb hf => cr_Book_named_x l hi nn ih h hb (by rw [f_BookR] at hf; exact hf)), (fun a h rv rg hb hf => cr_Book_wider_x l hi nn ih h hb a (by rw [f_BookR] at hf; exact hf)), (fun a h rv rg hb hf => cr_Book_called_x l hi nn ih h hb a (by rw [f_BookR] at hf; exact hf)), (fun a h rv rg hb hf => cr_Book_together_x l hi nn ih h hb (by rw [f_BookR] at hf; exact hf))⟩
theorem rec_x (l : Launch) {dA : FieldType → ClassId} {D : va_G} {al : Nat → Nat} {ext : mv_Sh} {sk sv : Nat → Nat} (hi : mv_inj (mg dA D al ext)) : ∀ nn, RecX l dA D al ext sk sv 74 nn := by
  intro nn
  induction nn with
  | zero => exact rec_0x l hi
  | succ nn ih => exact rec_1x l hi nn ih
set_option maxHeartbeats 4000000 in
set_option maxRecDepth 100000 in
theorem cr_Book_expression_y (l : Launch) {dA : FieldType → ClassId} {D : va_G} {al : Nat → Nat} {ext : mv_Sh} {sk sv : Nat → Nat} (hi : mv_inj (mg dA D al ext)) (nn : Nat) (ih : RecX l dA D al ext sk sv 108 nn) (h : mv_H) (hb : Br 108 (mv_r h))  {rv : Option Int32} {rg : mv_H} (hf : f_Book_expression 108 (f_BookR 108 nn) h = some (rv, rg)) : mv_C l y_Book_expression (Cond.code y_Book_expression b_Book_expression 5 (Option.some Jvm.ClassFile.FieldType.int) :: ma) ({ frames := nn + 1 + 7, cells := 0, slots := 0, locals := 60 * (nn + 1) + 400 }) (mg dA D al ext) (mK sk sv) [.ref (al 108)] h (mv_Ui (fun v σ1 => rv = some v ∧ rg = σ1 ∧ mv_r σ1 = mv_r h) ("MachineLoomModel$Book$Wrong", al 141) (fun σ1 => rv = none ∧ rg = σ1 ∧ mv_r σ1 = mv_r h)) := by
  refine mv_C.ofV (cc := b_Book_expression) (nL := 5) (ret := (Option.some Jvm.ClassFile.FieldType.int)) (by decide +kernel) rfl hi (Nat.le_of_ble_eq_true rfl) ?_
  intro p e s m below meth c B hNs hr hnm hno
  unfold f_Book_expression at hf
  refine mv_aload_n (pc := 0) B d_Book_expression_0 rfl 0 rfl ?_
  refine mv_iconst (pc := 1) (v := 0) B d_Book_expression_1 (by decide) ?_
  obtain ⟨og1, g1, eg1, hf⟩ := xtb_e hf
  refine mv_callVUi (pc := 2) (n := 1) (ci := 12) (C := R_Book) B (mK_ok sk sv) hNs rfl rfl (ih.2.1 _ _ _ _ (hb) eg1) rfl (ma_goodc kc_Book_binary) (B.2.2.2.1 _ k_2249) (B.2.2.2.1 _ k_2251) (B.2.2.2.1 _ ks_105) (B.2.2.2.1 _ k_13) ⟨by decide +kernel, by decide +kernel, by decide +kernel⟩ rfl d_Book_expression_2 rfl (Nat.le_of_ble_eq_true rfl) ⟨by first | decide | (dsimp only; omega), by first | decide | (dsimp only; omega)⟩ ⟨Nat.le_refl _, Nat.le_refl _⟩ ⟨Nat.le_refl _, Nat.le_refl _⟩ (mv_noH hno _) (fun τ9 g9 => Or.inr ⟨rfl, xth hf g9 rfl⟩) (fun u2 σ2 h2 => ?_)
  obtain ⟨rfl, rfl, s_g1⟩ := h2
  have hf := xt2_s hf
  have r_g1 : mv_r g1 = mv_r h := s_g1.trans rfl
  refine mv_istore_n (pc := 5) B d_Book_expression_5 rfl (by decide) rfl ?_
  refine mv_aload_n (pc := 6) B d_Book_expression_6 rfl 1 rfl ?_
  refine mv_getI (pc := 7) (ci := 12) (C := R_Book) (T := F_Book) (N := 65) B 4 rfl rfl (by decide) i_Book (B.2.2.2.1 _ k_1847) rfl d_Book_expression_7 ?_
  refine mv_bipush (pc := 10) (v := 63) B d_Book_expression_10 (by decide) ?_
  refine mv_icmp_eq (pc := 12) (tgt := 17) B d_Book_expression_12 rfl (fun h12 => ?_) (fun h12 => ?_)
  · skip
    have hf := xif_t h12 hf
    refine mv_aload_n (pc := 17) B d_Book_expression_17 rfl 1 rfl ?_
    refine mv_getI (pc := 18) (ci := 12) (C := R_Book) (T := F_Book) (N := 65) B 5 rfl rfl (by decide) i_Book (B.2.2.2.1 _ k_1848) rfl d_Book_expression_18 ?_
    refine mv_istore_n (pc := 21) B d_Book_expression_21 rfl (by decide) rfl ?_
    refine mv_aload_n (pc := 22) B d_Book_expression_22 rfl 2 rfl ?_
    obtain ⟨og3, g3, eg3, hf⟩ := xtb_e hf
    refine mv_callVUv (pc := 23) (n := 0) (ci := 12) (C := R_Book) B (mK_ok sk sv) hNs rfl rfl (ch_Book_pass_y l hi _ (xrw r_g1 hb) eg3) rfl (ma_goodc kc_Book_pass) (B.2.2.2.1 _ k_2173) (B.2.2.2.1 _ k_2175) (B.2.2.2.1 _ ks_90) (B.2.2.2.1 _ k_13) ⟨by decide +kernel, by decide +kernel, by decide +kernel⟩ rfl d_Book_expression_23 rfl (Nat.le_of_ble_eq_true rfl) ⟨by first | decide | (dsimp only; omega), by first | decide | (dsimp only; omega)⟩ ⟨Nat.le_refl _, Nat.le_refl _⟩ ⟨Nat.le_refl _, Nat.le_refl _⟩ (mv_noH hno _) (fun τ9 g9 => Or.inr ⟨rfl, xth hf g9 r_g1⟩) (fun σ23 h23 => ?_)
    obtain ⟨rfl, rfl, s_g3⟩ := h23
    have hf := xt2_s hf
    have r_g3 : mv_r g3 = mv_r h := s_g3.trans r_g1
    refine mv_aload_n (pc := 26) B d_Book_expression_26 rfl 2 rfl ?_
    refine mv_dup (pc := 27) B d_Book_expression_27 rfl ?_
    refine mv_getI (pc := 28) (ci := 12) (C := R_Book) (T := F_Book) (N := 65) B 8 rfl rfl (by decide) i_Book (B.2.2.2.1 _ k_1851) rfl d_Book_expression_28 ?_
    refine mv_iconst (pc := 31) (v := 1) B d_Book_expression_31 (by decide) ?_
    refine mv_iadd (pc := 32) B d_Book_expression_32 ?_
    refine mv_putI (pc := 33) (ci := 12) (C := R_Book) (T := F_Book) (N := 65) B 8 rfl rfl (by decide) i_Book t_Book_ok n_Book (B.2.2.2.1 _ k_1851) rfl rfl rfl rfl d_Book_expression_33 ?_
    refine mvh_hp (R9 := mv_r h) hf r_g3 (fun g5 hf r_g5 => ?_)
    refine mv_aload_n (pc := 36) B d_Book_expression_36 rfl 2 rfl ?_
    obtain ⟨og6, g6, eg6, hf⟩ := xtb_e hf
    refine mv_callVUi (pc := 37) (n := 0) (ci := 12) (C := R_Book) B (mK_ok sk sv) hNs rfl rfl (ih.1 _ _ _ _ (xrw r_g5 hb) eg6) rfl (ma_goodc kc_Book_expression) (B.2.2.2.1 _ k_2245) (B.2.2.2.1 _ k_2247) (B.2.2.2.1 _ ks_104) (B.2.2.2.1 _ k_13) ⟨by decide +kernel, by decide +kernel, by decide +kernel⟩ rfl d_Book_expression_37 rfl (Nat.le_of_ble_eq_true rfl) ⟨by first | decide | (dsimp only; omega), by first | decide | (dsimp only; omega)⟩ ⟨Nat.le_refl _, Nat.le_refl _⟩ ⟨Nat.le_refl _, Nat.le_refl _⟩ (mv_noH hno _) (fun τ9 g9 => Or.inr ⟨rfl, xth hf g9 r_g5⟩) (fun u7 σ37 h37 => ?_)
    obtain ⟨rfl, rfl, s_g6⟩ := h37
    have hf := xt2_s hf
    have r_g6 : mv_r g6 = mv_r h := s_g6.trans r_g5
    refine mv_istore_n (pc := 40) B d_Book_expression_40 rfl (by decide) rfl ?_
    refine mv_aload_n (pc := 41) B d_Book_expression_41 rfl 3 rfl ?_
    refine mv_bipush (pc := 42) (v := 58) B d_Book_expression_42 (by decide) ?_
    obtain ⟨og8, g8, eg8, hf⟩ := xtb_e hf
    refine mv_callVUv (pc := 44) (n := 1) (ci := 12) (C := R_Book) B (mK_ok sk sv) hNs rfl rfl (ch_Book_need_y l hi _ (xrw r_g6 hb) _ eg8) rfl (ma_goodc kc_Book_need) (B.2.2.2.1 _ k_2177) (B.2.2.2.1 _ k_2179) (B.2.2.2.1 _ ks_91) (B.2.2.2.1 _ k_13) ⟨by decide +kernel, by decide +kernel, by decide +kernel⟩ rfl d_Book_expression_44 rfl (Nat.le_of_ble_eq_true rfl) ⟨by first | decide | (dsimp only; omega), by first | decide | (dsimp only; omega)⟩ ⟨Nat.le_refl _, Nat.le_refl _⟩ ⟨Nat.le_refl _, Nat.le_refl _⟩ (mv_noH hno _) (fun τ9 g9 => Or.inr ⟨rfl, xth hf g9 r_g6⟩) (fun σ44 h44 => ?_)
    obtain ⟨rfl, rfl, s_g8⟩ := h44
    have hf := xt2_s hf
    have r_g8 : mv_r g8 = mv_r h := s_g8.trans r_g6
    refine mv_aload_n (pc := 47) B d_Book_expression_47 rfl 3 rfl ?_
    obtain ⟨og10, g10, eg10, hf⟩ := xtb_e hf
    refine mv_callVUi (pc := 48) (n := 0) (ci := 12) (C := R_Book) B (mK_ok sk sv) hNs rfl rfl (ih.1 _ _ _ _ (xrw r_g8 hb) eg10) rfl (ma_goodc kc_Book_expression) (B.2.2.2.1 _ k_2245) (B.2.2.2.1 _ k_2247) (B.2.2.2.1 _ ks_104) (B.2.2.2.1 _ k_13) ⟨by decide +kernel, by decide +kernel, by decide +kernel⟩ rfl d_Book_expression_48 rfl (Nat.le_of_ble_eq_true rfl) ⟨by first | decide | (dsimp only; omega), by first | decide | (dsimp only; omega)⟩ ⟨Nat.le_refl _, Nat.le_refl _⟩ ⟨Nat.le_refl _, Nat.le_refl _⟩ (mv_noH hno _) (fun τ9 g9 => Or.inr ⟨rfl, xth hf g9 r_g8⟩) (fun u11 σ48 h48 => ?_)
    obtain ⟨rfl, rfl, s_g10⟩ := h48
    have hf := xt2_s hf
    have r_g10 : mv_r g10 = mv_r h := s_g10.trans r_g8
    refine mv_istore (pc := 51) B d_Book_expression_51 (by decide) rfl ?_
    refine mv_aload_n (pc := 53) B d_Book_expression_53 rfl 4 rfl ?_
    refine mv_dup (pc := 54) B d_Book_expression_54 rfl ?_
    refine mv_getI (pc := 55) (ci := 12) (C := R_Book) (T := F_Book) (N := 65) B 8 rfl rfl (by decide) i_Book (B.2.2.2.1 _ k_1851) rfl d_Book_expression_55 ?_
    refine mv_iconst (pc := 58) (v := 1) B d_Book_expression_58 (by decide) ?_
    refine mv_isub (pc := 59) B d_Book_expression_59 ?_
    refine mv_putI (pc := 60) (ci := 12) (C := R_Book) (T := F_Book) (N := 65) B 8 rfl rfl (by decide) i_Book t_Book_ok n_Book (B.2.2.2.1 _ k_1851) rfl rfl rfl rfl d_Book_expression_60 ?_
    refine mvh_hp (R9 := mv_r h) hf r_g10 (fun g12 hf r_g12 => ?_)
    refine mv_aload_n (pc := 63) B d_Book_expression_63 rfl 4 rfl ?_
    refine mv_iload_n (pc := 64) B d_Book_expression_64 rfl 2 rfl ?_
    refine mv_iload_n (pc := 65) B d_Book_expression_65 rfl 3 rfl ?_
    refine mv_iload_n (pc := 66) B d_Book_expression_66 rfl 1 rfl ?_
    refine mv_iload (pc := 67) B d_Book_expression_67 0 rfl ?_
    obtain ⟨u14, g13, eg13, hf⟩ := xhb_e hf
    refine mv_callVi (pc := 69) (n := 4) (ci := 12) (C := R_Book) B (mK_ok sk sv) hNs rfl rfl (ch_Book_chosen_y l hi _ (xrw r_g12 hb) _ _ _ _ eg13) rfl (ma_goodc kc_Book_chosen) (B.2.2.2.1 _ k_2321) (B.2.2.2.1 _ k_2323) (B.2.2.2.1 _ ks_119) (B.2.2.2.1 _ k_13) ⟨by decide +kernel, by decide +kernel, by decide +kernel⟩ rfl d_Book_expression_69 rfl (Nat.le_of_ble_eq_true rfl) ⟨by first | decide | (dsimp only; omega), by first | decide | (dsimp only; omega)⟩ ⟨Nat.le_refl _, Nat.le_refl _⟩ ⟨Nat.le_refl _, Nat.le_refl _⟩ (mv_noH hno _) (fun w69 σ69 h69 => ?_)
    obtain ⟨rfl, rfl, s_g13⟩ := h69
    have r_g13 : mv_r g13 = mv_r h := s_g13.trans r_g12
    exact mv_iret (pc := 72) B hr rfl d_Book_expression_72 (Nat.le_refl _) (Nat.le_refl _) (Or.inl ⟨_, rfl, xrt_i hf r_g13⟩)
  · skip
    have hf := xif_f h12 hf
    refine mv_iload_n (pc := 15) B d_Book_expression_15 rfl 0 rfl ?_
    exact mv_iret (pc := 16) B hr rfl d_Book_expression_16 (Nat.le_refl _) (Nat.le_refl _) (Or.inl ⟨_, rfl, xrt_i hf r_g1⟩)
set_option maxHeartbeats 4000000 in
set_option maxRecDepth 100000 in
theorem cr_Book_binary_y (l : Launch) {dA : FieldType → ClassId} {D : va_G} {al : Nat → Nat} {ext : mv_Sh} {sk sv : Nat → Nat} (hi : mv_inj (mg dA D al ext)) (nn : Nat) (ih : RecX l dA D al ext sk sv 108 nn) (h : mv_H) (hb : Br 108 (mv_r h))  (a0 : Int32) {rv : Option Int32} {rg : mv_H} (hf : f_Book_binary 108 (f_BookR 108 nn) h a0 = some (rv, rg)) : mv_C l y_Book_binary (Cond.code y_Book_binary b_Book_binary 5 (Option.some Jvm.ClassFile.FieldType.int) :: ma) ({ frames := nn + 1 + 7, cells := 0, slots := 0, locals := 60 * (nn + 1) + 400 }) (mg dA D al ext) (mK sk sv) [.ref (al 108), .int a0] h (mv_Ui (fun v σ1 => rv = some v ∧ rg = σ1 ∧ mv_r σ1 = mv_r h) ("MachineLoomModel$Book$Wrong", al 141) (fun σ1 => rv = none ∧ rg = σ1 ∧ mv_r σ1 = mv_r h)) := by
  refine mv_C.ofV (cc := b_Book_binary) (nL := 5) (ret := (Option.some Jvm.ClassFile.FieldType.int)) (by decide +kernel) rfl hi (Nat.le_of_ble_eq_true rfl) ?_
  intro p e s m below meth c B hNs hr hnm hno
  have lp19 : ∀ (nn19 : Nat) (x1 : Int32) (x2 : Int32) (hz : mv_H), mv_r hz = mv_r h → f_Book_binary_19 108 (f_BookR 108 nn) nn19 x1 x2 hz = some (rv, rg) → mv_V p l e ({ frames := nn + 1 + 7, cells := 0, slots := 0, locals := 60 * (nn + 1) + 400 }) s m ([.ref (al 108), .int a0] : List Value).toArray below meth c (mg dA D al ext) 5 0 0 (mv_Q (mg dA D al ext) below s 0 0 (mv_Ui (fun v σ1 => rv = some v ∧ rg = σ1 ∧ mv_r σ1 = mv_r h) ("MachineLoomModel$Book$Wrong", al 141) (fun σ1 => rv = none ∧ rg = σ1 ∧ mv_r σ1 = mv_r h))) hz 19 [(0, .ref (al 108)), (1, .int x1), (2, .int x2)] [] := by
    intro nn19
    induction nn19 with
    | zero => intro x1 x2 hz r_hz hf; cases hf
    | succ nn19 ih19 =>
      intro x1 x2 hz r_hz hf
      have hf : fF_Book_binary_19 108 (f_BookR 108 nn) (f_Book_binary_19 108 (f_BookR 108 nn) nn19) x1 x2 hz = some (rv, rg) := hf
      unfold fF_Book_binary_19 at hf
      refine mv_aload_n (pc := 19) B d_Book_binary_19 rfl 0 rfl ?_
      refine mv_getI (pc := 20) (ci := 12) (C := R_Book) (T := F_Book) (N := 65) B 4 rfl rfl (by decide) i_Book (B.2.2.2.1 _ k_1847) rfl d_Book_binary_20 ?_
      obtain ⟨u2, g1, eg1, hf⟩ := xhb_e hf
      refine mv_callSi (pc := 23) (n := 1) B (mK_ok sk sv) hNs (ch_Book_levelOf l hi _ _ eg1) rfl (ma_goodc kc_Book_levelOf) (B.2.2.2.1 _ k_2318) (B.2.2.2.1 _ k_2319) (B.2.2.2.1 _ k_13) ⟨by decide +kernel, by decide +kernel, by decide +kernel⟩ rfl d_Book_binary_23 rfl (Nat.le_of_ble_eq_true rfl) ⟨by first | decide | (dsimp only; omega), by first | decide | (dsimp only; omega)⟩ ⟨Nat.le_refl _, Nat.le_refl _⟩ ⟨Nat.le_refl _, Nat.le_refl _⟩ (mv_noH hno _) (fun w23 σ23 h23 => ?_)
      obtain ⟨rfl, rfl, s_g1⟩ := h23
      have r_g1 : mv_r g1 = mv_r h := s_g1.trans r_hz
      refine mv_iload_n (pc := 26) B d_Book_binary_26 rfl 1 rfl ?_
      refine mv_icmp_ne (pc := 27) (tgt := 64) B d_Book_binary_27 rfl (fun h27 => ?_) (fun h27 => ?_)
      · skip
        have hf := xif_f h27 hf
        refine mv_iload_n (pc := 64) B d_Book_binary_64 rfl 2 rfl ?_
        exact mv_iret (pc := 65) B hr rfl d_Book_binary_65 (Nat.le_refl _) (Nat.le_refl _) (Or.inl ⟨_, rfl, xrt_i hf r_g1⟩)
      · skip
        have hf := xif_t h27 hf
        refine mv_aload_n (pc := 30) B d_Book_binary_30 rfl 0 rfl ?_
        refine mv_getI (pc := 31) (ci := 12) (C := R_Book) (T := F_Book) (N := 65) B 4 rfl rfl (by decide) i_Book (B.2.2.2.1 _ k_1847) rfl d_Book_binary_31 ?_
        refine mv_istore_n (pc := 34) B d_Book_binary_34 rfl (by decide) rfl ?_
        refine mv_aload_n (pc := 35) B d_Book_binary_35 rfl 1 rfl ?_
        refine mv_getI (pc := 36) (ci := 12) (C := R_Book) (T := F_Book) (N := 65) B 5 rfl rfl (by decide) i_Book (B.2.2.2.1 _ k_1848) rfl d_Book_binary_36 ?_
        refine mv_istore (pc := 39) B d_Book_binary_39 (by decide) rfl ?_
        refine mv_aload_n (pc := 41) B d_Book_binary_41 rfl 2 rfl ?_
        obtain ⟨og3, g3, eg3, hf⟩ := xtb_e hf
        refine mv_callVUv (pc := 42) (n := 0) (ci := 12) (C := R_Book) B (mK_ok sk sv) hNs rfl rfl (ch_Book_pass_y l hi _ (xrw r_g1 hb) eg3) rfl (ma_goodc kc_Book_pass) (B.2.2.2.1 _ k_2173) (B.2.2.2.1 _ k_2175) (B.2.2.2.1 _ ks_90) (B.2.2.2.1 _ k_13) ⟨by decide +kernel, by decide +kernel, by decide +kernel⟩ rfl d_Book_binary_42 rfl (Nat.le_of_ble_eq_true rfl) ⟨by first | decide | (dsimp only; omega), by first | decide | (dsimp only; omega)⟩ ⟨Nat.le_refl _, Nat.le_refl _⟩ ⟨Nat.le_refl _, Nat.le_refl _⟩ (mv_noH hno _) (fun τ9 g9 => Or.inr ⟨rfl, xth hf g9 r_g1⟩) (fun σ42 h42 => ?_)
        obtain ⟨rfl, rfl, s_g3⟩ := h42
        have hf := xt2_s hf
        have r_g3 : mv_r g3 = mv_r h := s_g3.trans r_g1
        refine mv_aload_n (pc := 45) B d_Book_binary_45 rfl 2 rfl ?_
        refine mv_iload_n (pc := 46) B d_Book_binary_46 rfl 1 rfl ?_
        refine mv_iload (pc := 47) B d_Book_binary_47 0 rfl ?_
        refine mv_iload_n (pc := 49) B d_Book_binary_49 rfl 4 rfl ?_
        refine mv_aload_n (pc := 50) B d_Book_binary_50 rfl 2 rfl ?_
        refine mv_iload_n (pc := 51) B d_Book_binary_51 rfl 3 rfl ?_
        refine mv_iconst (pc := 52) (v := 1) B d_Book_binary_52 (by decide) ?_
        refine mv_iadd (pc := 53) B d_Book_binary_53 ?_
        obtain ⟨og5, g5, eg5, hf⟩ := xtb_e hf
        refine mv_callVUi (pc := 54) (n := 1) (ci := 12) (C := R_Book) B (mK_ok sk sv) hNs rfl rfl (ih.2.1 _ _ _ _ (xrw r_g3 hb) eg5) rfl (ma_goodc kc_Book_binary) (B.2.2.2.1 _ k_2249) (B.2.2.2.1 _ k_2251) (B.2.2.2.1 _ ks_105) (B.2.2.2.1 _ k_13) ⟨by decide +kernel, by decide +kernel, by decide +kernel⟩ rfl d_Book_binary_54 rfl (Nat.le_of_ble_eq_true rfl) ⟨by first | decide | (dsimp only; omega), by first | decide | (dsimp only; omega)⟩ ⟨Nat.le_refl _, Nat.le_refl _⟩ ⟨Nat.le_refl _, Nat.le_refl _⟩ (mv_noH hno _) (fun τ9 g9 => Or.inr ⟨rfl, xth hf g9 r_g3⟩) (fun u6 σ54 h54 => ?_)
        obtain ⟨rfl, rfl, s_g5⟩ := h54
        have hf := xt2_s hf
        have r_g5 : mv_r g5 = mv_r h := s_g5.trans r_g3
        obtain ⟨u8, g7, eg7, hf⟩ := xhb_e hf
        refine mv_callVi (pc := 57) (n := 4) (ci := 12) (C := R_Book) B (mK_ok sk sv) hNs rfl rfl (ch_Book_two_y l hi _ (xrw r_g5 hb) _ _ _ _ eg7) rfl (ma_goodc kc_Book_two) (B.2.2.2.1 _ k_2288) (B.2.2.2.1 _ k_2290) (B.2.2.2.1 _ ks_114) (B.2.2.2.1 _ k_13) ⟨by decide +kernel, by decide +kernel, by decide +kernel⟩ rfl d_Book_binary_57 rfl (Nat.le_of_ble_eq_true rfl) ⟨by first | decide | (dsimp only; omega), by first | decide | (dsimp only; omega)⟩ ⟨Nat.le_refl _, Nat.le_refl _⟩ ⟨Nat.le_refl _, Nat.le_refl _⟩ (mv_noH hno _) (fun w57 σ57 h57 => ?_)
        obtain ⟨rfl, rfl, s_g7⟩ := h57
        have r_g7 : mv_r g7 = mv_r h := s_g7.trans r_g5
        refine mv_istore_n (pc := 60) B d_Book_binary_60 rfl (by decide) rfl ?_
        refine mv_goto (pc := 61) (tgt := 19) B d_Book_binary_61 rfl ?_
        refine mv_lpick [3, 4, 0] rfl ?_
        exact ih19 _ _ _ r_g7 hf
  unfold f_Book_binary at hf
  refine mv_iload_n (pc := 0) B d_Book_binary_0 rfl 1 rfl ?_
  refine mv_bipush (pc := 1) (v := 8) B d_Book_binary_1 (by decide) ?_
  refine mv_icmp_ne (pc := 3) (tgt := 11) B d_Book_binary_3 rfl (fun h3 => ?_) (fun h3 => ?_)
  · skip
    have hf := xif_f h3 hf
    refine mv_aload_n (pc := 11) B d_Book_binary_11 rfl 0 rfl ?_
    refine mv_iload_n (pc := 12) B d_Book_binary_12 rfl 1 rfl ?_
    refine mv_iconst (pc := 13) (v := 1) B d_Book_binary_13 (by decide) ?_
    refine mv_iadd (pc := 14) B d_Book_binary_14 ?_
    obtain ⟨og9, g9, eg9, hf⟩ := xtb_e hf
    refine mv_callVUi (pc := 15) (n := 1) (ci := 12) (C := R_Book) B (mK_ok sk sv) hNs rfl rfl (ih.2.1 _ _ _ _ (hb) eg9) rfl (ma_goodc kc_Book_binary) (B.2.2.2.1 _ k_2249) (B.2.2.2.1 _ k_2251) (B.2.2.2.1 _ ks_105) (B.2.2.2.1 _ k_13) ⟨by decide +kernel, by decide +kernel, by decide +kernel⟩ rfl d_Book_binary_15 rfl (Nat.le_of_ble_eq_true rfl) ⟨by first | decide | (dsimp only; omega), by first | decide | (dsimp only; omega)⟩ ⟨Nat.le_refl _, Nat.le_refl _⟩ ⟨Nat.le_refl _, Nat.le_refl _⟩ (mv_noH hno _) (fun τ9 g9 => Or.inr ⟨rfl, xth hf g9 rfl⟩) (fun u10 σ15 h15 => ?_)
    obtain ⟨rfl, rfl, s_g9⟩ := h15
    have hf := xt2_s hf
    have r_g9 : mv_r g9 = mv_r h := s_g9.trans rfl
    refine mv_istore_n (pc := 18) B d_Book_binary_18 rfl (by decide) rfl ?_
    refine mv_lpick [1, 2, 0] rfl ?_
    exact lp19 _ _ _ _ r_g9 hf
  · skip
    have hf := xif_t h3 hf
    refine mv_aload_n (pc := 6) B d_Book_binary_6 rfl 0 rfl ?_
    obtain ⟨og11, g11, eg11, hf⟩ := xtb_e hf
    refine mv_callVUi (pc := 7) (n := 0) (ci := 12) (C := R_Book) B (mK_ok sk sv) hNs rfl rfl (ih.2.2.1 _ _ _ _ (hb) eg11) rfl (ma_goodc kc_Book_unary) (B.2.2.2.1 _ k_2253) (B.2.2.2.1 _ k_2255) (B.2.2.2.1 _ ks_106) (B.2.2.2.1 _ k_13) ⟨by decide +kernel, by decide +kernel, by decide +kernel⟩ rfl d_Book_binary_7 rfl (Nat.le_of_ble_eq_true rfl) ⟨by first | decide | (dsimp only; omega), by first | decide | (dsimp only; omega)⟩ ⟨Nat.le_refl _, Nat.le_refl _⟩ ⟨Nat.le_refl _, Nat.le_refl _⟩ (mv_noH hno _) (fun τ9 g9 => Or.inr ⟨rfl, xth hf g9 rfl⟩) (fun u12 σ7 h7 => ?_)
    obtain ⟨rfl, rfl, s_g11⟩ := h7
    have hf := xt2_s hf
    have r_g11 : mv_r g11 = mv_r h := s_g11.trans rfl
    exact mv_iret (pc := 10) B hr rfl d_Book_binary_10 (Nat.le_refl _) (Nat.le_refl _) (Or.inl ⟨_, rfl, xrt_i hf r_g11⟩)
set_option maxHeartbeats 4000000 in
set_option maxRecDepth 100000 in
theorem cr_Book_unary_y (l : Launch) {dA : FieldType → ClassId} {D : va_G} {al : Nat → Nat} {ext : mv_Sh} {sk sv : Nat → Nat} (hi : mv_inj (mg dA D al ext)) (nn : Nat) (ih : RecX l dA D al ext sk sv 108 nn) (h : mv_H) (hb : Br 108 (mv_r h))  {rv : Option Int32} {rg : mv_H} (hf : f_Book_unary 108 (f_BookR 108 nn) h = some (rv, rg)) : mv_C l y_Book_unary (Cond.code y_Book_unary b_Book_unary 5 (Option.some Jvm.ClassFile.FieldType.int) :: ma) ({ frames := nn + 1 + 7, cells := 0, slots := 0, locals := 60 * (nn + 1) + 400 }) (mg dA D al ext) (mK sk sv) [.ref (al 108)] h (mv_Ui (fun v σ1 => rv = some v ∧ rg = σ1 ∧ mv_r σ1 = mv_r h) ("MachineLoomModel$Book$Wrong", al 141) (fun σ1 => rv = none ∧ rg = σ1 ∧ mv_r σ1 = mv_r h)) := by
  refine mv_C.ofV (cc := b_Book_unary) (nL := 5) (ret := (Option.some Jvm.ClassFile.FieldType.int)) (by decide +kernel) rfl hi (Nat.le_of_ble_eq_true rfl) ?_
  intro p e s m below meth c B hNs hr hnm hno
  have jn144 : ∀ (y0 : Int32) (y1 : Int32) (y2 : Int32) (y3 : Int32) (y4 : Int32) (hz : mv_H), mv_r hz = mv_r h → f_Book_unary_144 108 (f_BookR 108 nn) y0 y1 y2 y3 y4 hz = some (rv, rg) → mv_V p l e ({ frames := nn + 1 + 7, cells := 0, slots := 0, locals := 60 * (nn + 1) + 400 }) s m ([.ref (al 108)] : List Value).toArray below meth c (mg dA D al ext) 5 0 0 (mv_Q (mg dA D al ext) below s 0 0 (mv_Ui (fun v σ1 => rv = some v ∧ rg = σ1 ∧ mv_r σ1 = mv_r h) ("MachineLoomModel$Book$Wrong", al 141) (fun σ1 => rv = none ∧ rg = σ1 ∧ mv_r σ1 = mv_r h))) hz 144 [] [.int y0, .int y1, .int y2, .int y3, .int y4, .ref (al 108)] := by
    intro y0 y1 y2 y3 y4 hz r_hz hf
    unfold f_Book_unary_144 at hf
    obtain ⟨u2, g1, eg1, hf⟩ := xhb_e hf
    refine mv_callVi (pc := 144) (n := 5) (ci := 12) (C := R_Book) B (mK_ok sk sv) hNs rfl rfl (ch_Book_node_y l hi _ (xrw r_hz hb) _ _ _ _ _ eg1) rfl (ma_goodc kc_Book_node) (B.2.2.2.1 _ k_2269) (B.2.2.2.1 _ k_2271) (B.2.2.2.1 _ ks_110) (B.2.2.2.1 _ k_13) ⟨by decide +kernel, by decide +kernel, by decide +kernel⟩ rfl d_Book_unary_144 rfl (Nat.le_of_ble_eq_true rfl) ⟨by first | decide | (dsimp only; omega), by first | decide | (dsimp only; omega)⟩ ⟨Nat.le_refl _, Nat.le_refl _⟩ ⟨Nat.le_refl _, Nat.le_refl _⟩ (mv_noH hno _) (fun w144 σ144 h144 => ?_)
    obtain ⟨rfl, rfl, s_g1⟩ := h144
    have r_g1 : mv_r g1 = mv_r h := s_g1.trans r_hz
    exact mv_iret (pc := 147) B hr rfl d_Book_unary_147 (Nat.le_refl _) (Nat.le_refl _) (Or.inl ⟨_, rfl, xrt_i hf r_g1⟩)
  have jn123 : ∀ (x1 : Int32) (x3 : Int32) (x4 : Int32) (hz : mv_H), mv_r hz = mv_r h → f_Book_unary_123 108 (f_BookR 108 nn) x1 x3 x4 hz = some (rv, rg) → mv_V p l e ({ frames := nn + 1 + 7, cells := 0, slots := 0, locals := 60 * (nn + 1) + 400 }) s m ([.ref (al 108)] : List Value).toArray below meth c (mg dA D al ext) 5 0 0 (mv_Q (mg dA D al ext) below s 0 0 (mv_Ui (fun v σ1 => rv = some v ∧ rg = σ1 ∧ mv_r σ1 = mv_r h) ("MachineLoomModel$Book$Wrong", al 141) (fun σ1 => rv = none ∧ rg = σ1 ∧ mv_r σ1 = mv_r h))) hz 123 [(0, .ref (al 108)), (1, .int x1), (3, .int x3), (4, .int x4)] [] := by
    intro x1 x3 x4 hz r_hz hf
    unfold f_Book_unary_123 at hf
    refine mv_aload_n (pc := 123) B d_Book_unary_123 rfl 0 rfl ?_
    refine mv_bipush (pc := 124) (v := 6) B d_Book_unary_124 (by decide) ?_
    refine mv_iload_n (pc := 126) B d_Book_unary_126 rfl 2 rfl ?_
    refine mv_iload_n (pc := 127) B d_Book_unary_127 rfl 1 rfl ?_
    refine mv_iconst (pc := 128) (v := 0) B d_Book_unary_128 (by decide) ?_
    refine mv_iload (pc := 129) B d_Book_unary_129 3 rfl ?_
    refine mv_if_eq (pc := 131) (tgt := 143) B d_Book_unary_131 rfl (fun h131 => ?_) (fun h131 => ?_)
    · skip
      have hf := xif_t h131 hf
      refine mv_iconst (pc := 143) (v := 0) B d_Book_unary_143 (by decide) ?_
      refine mv_lpick [] rfl ?_
      exact jn144 _ _ _ _ _ _ r_hz hf
    · skip
      have hf := xif_f h131 hf
      refine mv_aload_n (pc := 134) B d_Book_unary_134 rfl 0 rfl ?_
      refine mv_getR (pc := 135) (ci := 12) (C := R_Book) (T := F_Book) (N := 65) B 45 rfl rfl (by decide) i_Book (B.2.2.2.1 _ k_1894) rfl ((congrFun (congrFun r_hz 108) 45).trans (hb.1 108 45 _ rfl)) d_Book_unary_135 ?_
      refine mv_iload_n (pc := 138) B d_Book_unary_138 rfl 2 rfl ?_
      obtain ⟨q3, hf⟩ := xvi_e hf
      refine mv_iald (pc := 139) B rfl q3 d_Book_unary_139 ?_
      refine mv_goto (pc := 140) (tgt := 144) B d_Book_unary_140 rfl ?_
      refine mv_lpick [] rfl ?_
      exact jn144 _ _ _ _ _ _ r_hz hf
  have jn101 : ∀ (x1 : Int32) (x2 : Int32) (x3 : Int32) (y0 : Int32) (hz : mv_H), mv_r hz = mv_r h → f_Book_unary_101 108 (f_BookR 108 nn) x1 x2 x3 y0 hz = some (rv, rg) → mv_V p l e ({ frames := nn + 1 + 7, cells := 0, slots := 0, locals := 60 * (nn + 1) + 400 }) s m ([.ref (al 108)] : List Value).toArray below meth c (mg dA D al ext) 5 0 0 (mv_Q (mg dA D al ext) below s 0 0 (mv_Ui (fun v σ1 => rv = some v ∧ rg = σ1 ∧ mv_r σ1 = mv_r h) ("MachineLoomModel$Book$Wrong", al 141) (fun σ1 => rv = none ∧ rg = σ1 ∧ mv_r σ1 = mv_r h))) hz 101 [(0, .ref (al 108)), (1, .int x1), (2, .int x2), (3, .int x3)] [.int y0] := by
    intro x1 x2 x3 y0 hz r_hz hf
    unfold f_Book_unary_101 at hf
    refine mv_istore (pc := 101) B d_Book_unary_101 (by decide) rfl ?_
    refine mv_aload_n (pc := 103) B d_Book_unary_103 rfl 1 rfl ?_
    refine mv_getR (pc := 104) (ci := 12) (C := R_Book) (T := F_Book) (N := 65) B 45 rfl rfl (by decide) i_Book (B.2.2.2.1 _ k_1894) rfl ((congrFun (congrFun r_hz 108) 45).trans (hb.1 108 45 _ rfl)) d_Book_unary_104 ?_
    refine mv_iload_n (pc := 107) B d_Book_unary_107 rfl 4 rfl ?_
    obtain ⟨q4, hf⟩ := xvi_e hf
    refine mv_iald (pc := 108) B rfl q4 d_Book_unary_108 ?_
    refine mv_if_le (pc := 109) (tgt := 123) B d_Book_unary_109 rfl (fun h109 => ?_) (fun h109 => ?_)
    · skip
      have hf := xif_t h109 hf
      refine mv_lpick [1, 2, 4, 0] rfl ?_
      exact jn123 _ _ _ _ r_hz hf
    · skip
      have hf := xif_f h109 hf
      refine mv_iload (pc := 112) B d_Book_unary_112 0 rfl ?_
      refine mv_if_ne (pc := 114) (tgt := 123) B d_Book_unary_114 rfl (fun h114 => ?_) (fun h114 => ?_)
      · skip
        have hf := xif_f h114 hf
        refine mv_lpick [1, 2, 4, 0] rfl ?_
        exact jn123 _ _ _ _ r_hz hf
      · skip
        have hf := xif_t h114 hf
        refine mv_aload_n (pc := 117) B d_Book_unary_117 rfl 1 rfl ?_
        refine mv_iconst (pc := 118) (v := 4) B d_Book_unary_118 (by decide) ?_
        refine mv_iload_n (pc := 119) B d_Book_unary_119 rfl 3 rfl ?_
        obtain ⟨g5, eg5, hf⟩ := xhv_e hf
        refine mv_callVv (pc := 120) (n := 2) (ci := 12) (C := R_Book) B (mK_ok sk sv) hNs rfl rfl (ch_Book_fault_y l hi _ _ _ eg5) rfl (ma_goodc kc_Book_fault) (B.2.2.2.1 _ k_2185) (B.2.2.2.1 _ k_2187) (B.2.2.2.1 _ ks_92) (B.2.2.2.1 _ k_13) ⟨by decide +kernel, by decide +kernel, by decide +kernel⟩ rfl d_Book_unary_120 rfl (Nat.le_of_ble_eq_true rfl) ⟨by first | decide | (dsimp only; omega), by first | decide | (dsimp only; omega)⟩ ⟨Nat.le_refl _, Nat.le_refl _⟩ ⟨Nat.le_refl _, Nat.le_refl _⟩ (mv_noH hno _) (fun σ120 h120 => ?_)
        obtain ⟨rfl, s_g5⟩ := h120
        have r_g5 : mv_r g5 = mv_r h := s_g5.trans r_hz
        refine mv_lpick [1, 2, 4, 0] rfl ?_
        exact jn123 _ _ _ _ r_g5 hf
  have jn100 : ∀ (x1 : Int32) (x2 : Int32) (x3 : Int32) (hz : mv_H), mv_r hz = mv_r h → f_Book_unary_100 108 (f_BookR 108 nn) x1 x2 x3 hz = some (rv, rg) → mv_V p l e ({ frames := nn + 1 + 7, cells := 0, slots := 0, locals := 60 * (nn + 1) + 400 }) s m ([.ref (al 108)] : List Value).toArray below meth c (mg dA D al ext) 5 0 0 (mv_Q (mg dA D al ext) below s 0 0 (mv_Ui (fun v σ1 => rv = some v ∧ rg = σ1 ∧ mv_r σ1 = mv_r h) ("MachineLoomModel$Book$Wrong", al 141) (fun σ1 => rv = none ∧ rg = σ1 ∧ mv_r σ1 = mv_r h))) hz 100 [(0, .ref (al 108)), (1, .int x1), (2, .int x2), (3, .int x3)] [] := by
    intro x1 x2 x3 hz r_hz hf
    unfold f_Book_unary_100 at hf
    refine mv_iconst (pc := 100) (v := 0) B d_Book_unary_100 (by decide) ?_
    refine mv_lpick [0, 1, 2, 3] rfl ?_
    exact jn101 _ _ _ _ _ r_hz hf
  have jn96 : ∀ (x1 : Int32) (x2 : Int32) (x3 : Int32) (hz : mv_H), mv_r hz = mv_r h → f_Book_unary_96 108 (f_BookR 108 nn) x1 x2 x3 hz = some (rv, rg) → mv_V p l e ({ frames := nn + 1 + 7, cells := 0, slots := 0, locals := 60 * (nn + 1) + 400 }) s m ([.ref (al 108)] : List Value).toArray below meth c (mg dA D al ext) 5 0 0 (mv_Q (mg dA D al ext) below s 0 0 (mv_Ui (fun v σ1 => rv = some v ∧ rg = σ1 ∧ mv_r σ1 = mv_r h) ("MachineLoomModel$Book$Wrong", al 141) (fun σ1 => rv = none ∧ rg = σ1 ∧ mv_r σ1 = mv_r h))) hz 96 [(0, .ref (al 108)), (1, .int x1), (2, .int x2), (3, .int x3)] [] := by
    intro x1 x2 x3 hz r_hz hf
    unfold f_Book_unary_96 at hf
    refine mv_iconst (pc := 96) (v := 1) B d_Book_unary_96 (by decide) ?_
    refine mv_goto (pc := 97) (tgt := 101) B d_Book_unary_97 rfl ?_
    refine mv_lpick [0, 1, 2, 3] rfl ?_
    exact jn101 _ _ _ _ _ r_hz hf
  have jn32 : ∀ (hz : mv_H), mv_r hz = mv_r h → f_Book_unary_32 108 (f_BookR 108 nn)  hz = some (rv, rg) → mv_V p l e ({ frames := nn + 1 + 7, cells := 0, slots := 0, locals := 60 * (nn + 1) + 400 }) s m ([.ref (al 108)] : List Value).toArray below meth c (mg dA D al ext) 5 0 0 (mv_Q (mg dA D al ext) below s 0 0 (mv_Ui (fun v σ1 => rv = some v ∧ rg = σ1 ∧ mv_r σ1 = mv_r h) ("MachineLoomModel$Book$Wrong", al 141) (fun σ1 => rv = none ∧ rg = σ1 ∧ mv_r σ1 = mv_r h))) hz 32 [(0, .ref (al 108))] [] := by
    intro  hz r_hz hf
    unfold f_Book_unary_32 at hf
    refine mv_aload_n (pc := 32) B d_Book_unary_32 rfl 0 rfl ?_
    refine mv_getI (pc := 33) (ci := 12) (C := R_Book) (T := F_Book) (N := 65) B 4 rfl rfl (by decide) i_Book (B.2.2.2.1 _ k_1847) rfl d_Book_unary_33 ?_
    refine mv_istore_n (pc := 36) B d_Book_unary_36 rfl (by decide) rfl ?_
    refine mv_aload_n (pc := 37) B d_Book_unary_37 rfl 1 rfl ?_
    refine mv_getI (pc := 38) (ci := 12) (C := R_Book) (T := F_Book) (N := 65) B 5 rfl rfl (by decide) i_Book (B.2.2.2.1 _ k_1848) rfl d_Book_unary_38 ?_
    refine mv_istore_n (pc := 41) B d_Book_unary_41 rfl (by decide) rfl ?_
    refine mv_aload_n (pc := 42) B d_Book_unary_42 rfl 2 rfl ?_
    obtain ⟨og7, g7, eg7, hf⟩ := xtb_e hf
    refine mv_callVUv (pc := 43) (n := 0) (ci := 12) (C := R_Book) B (mK_ok sk sv) hNs rfl rfl (ch_Book_pass_y l hi _ (xrw r_hz hb) eg7) rfl (ma_goodc kc_Book_pass) (B.2.2.2.1 _ k_2173) (B.2.2.2.1 _ k_2175) (B.2.2.2.1 _ ks_90) (B.2.2.2.1 _ k_13) ⟨by decide +kernel, by decide +kernel, by decide +kernel⟩ rfl d_Book_unary_43 rfl (Nat.le_of_ble_eq_true rfl) ⟨by first | decide | (dsimp only; omega), by first | decide | (dsimp only; omega)⟩ ⟨Nat.le_refl _, Nat.le_refl _⟩ ⟨Nat.le_refl _, Nat.le_refl _⟩ (mv_noH hno _) (fun τ9 g9 => Or.inr ⟨rfl, xth hf g9 r_hz⟩) (fun σ43 h43 => ?_)
    obtain ⟨rfl, rfl, s_g7⟩ := h43
    have hf := xt2_s hf
    have r_g7 : mv_r g7 = mv_r h := s_g7.trans r_hz
    refine mv_aload_n (pc := 46) B d_Book_unary_46 rfl 2 rfl ?_
    refine mv_dup (pc := 47) B d_Book_unary_47 rfl ?_
    refine mv_getI (pc := 48) (ci := 12) (C := R_Book) (T := F_Book) (N := 65) B 8 rfl rfl (by decide) i_Book (B.2.2.2.1 _ k_1851) rfl d_Book_unary_48 ?_
    refine mv_iconst (pc := 51) (v := 1) B d_Book_unary_51 (by decide) ?_
    refine mv_iadd (pc := 52) B d_Book_unary_52 ?_
    refine mv_putI (pc := 53) (ci := 12) (C := R_Book) (T := F_Book) (N := 65) B 8 rfl rfl (by decide) i_Book t_Book_ok n_Book (B.2.2.2.1 _ k_1851) rfl rfl rfl rfl d_Book_unary_53 ?_
    refine mvh_hp (R9 := mv_r h) hf r_g7 (fun g9 hf r_g9 => ?_)
    refine mv_aload_n (pc := 56) B d_Book_unary_56 rfl 2 rfl ?_
    obtain ⟨og10, g10, eg10, hf⟩ := xtb_e hf
    refine mv_callVUi (pc := 57) (n := 0) (ci := 12) (C := R_Book) B (mK_ok sk sv) hNs rfl rfl (ih.2.2.1 _ _ _ _ (xrw r_g9 hb) eg10) rfl (ma_goodc kc_Book_unary) (B.2.2.2.1 _ k_2253) (B.2.2.2.1 _ k_2255) (B.2.2.2.1 _ ks_106) (B.2.2.2.1 _ k_13) ⟨by decide +kernel, by decide +kernel, by decide +kernel⟩ rfl d_Book_unary_57 rfl (Nat.le_of_ble_eq_true rfl) ⟨by first | decide | (dsimp only; omega), by first | decide | (dsimp only; omega)⟩ ⟨Nat.le_refl _, Nat.le_refl _⟩ ⟨Nat.le_refl _, Nat.le_refl _⟩ (mv_noH hno _) (fun τ9 g9 => Or.inr ⟨rfl, xth hf g9 r_g9⟩) (fun u11 σ57 h57 => ?_)
    obtain ⟨rfl, rfl, s_g10⟩ := h57
    have hf := xt2_s hf
    have r_g10 : mv_r g10 = mv_r h := s_g10.trans r_g9
    refine mv_istore_n (pc := 60) B d_Book_unary_60 rfl (by decide) rfl ?_
    refine mv_aload_n (pc := 61) B d_Book_unary_61 rfl 3 rfl ?_
    refine mv_dup (pc := 62) B d_Book_unary_62 rfl ?_
    refine mv_getI (pc := 63) (ci := 12) (C := R_Book) (T := F_Book) (N := 65) B 8 rfl rfl (by decide) i_Book (B.2.2.2.1 _ k_1851) rfl d_Book_unary_63 ?_
    refine mv_iconst (pc := 66) (v := 1) B d_Book_unary_66 (by decide) ?_
    refine mv_isub (pc := 67) B d_Book_unary_67 ?_
    refine mv_putI (pc := 68) (ci := 12) (C := R_Book) (T := F_Book) (N := 65) B 8 rfl rfl (by decide) i_Book t_Book_ok n_Book (B.2.2.2.1 _ k_1851) rfl rfl rfl rfl d_Book_unary_68 ?_
    refine mvh_hp (R9 := mv_r h) hf r_g10 (fun g12 hf r_g12 => ?_)
    refine mv_aload_n (pc := 71) B d_Book_unary_71 rfl 3 rfl ?_
    refine mv_getR (pc := 72) (ci := 12) (C := R_Book) (T := F_Book) (N := 65) B 45 rfl rfl (by decide) i_Book (B.2.2.2.1 _ k_1894) rfl ((congrFun (congrFun r_g12 108) 45).trans (hb.1 108 45 _ rfl)) d_Book_unary_72 ?_
    refine mv_iload_n (pc := 75) B d_Book_unary_75 rfl 0 rfl ?_
    obtain ⟨q13, hf⟩ := xvi_e hf
    refine mv_iald (pc := 76) B rfl q13 d_Book_unary_76 ?_
    refine mv_if_le (pc := 77) (tgt := 100) B d_Book_unary_77 rfl (fun h77 => ?_) (fun h77 => ?_)
    · skip
      have hf := xif_t h77 hf
      refine mv_lpick [3, 2, 1, 0] rfl ?_
      exact jn100 _ _ _ _ r_g12 hf
    · skip
      have hf := xif_f h77 hf
      refine mv_iload_n (pc := 80) B d_Book_unary_80 rfl 2 rfl ?_
      refine mv_bipush (pc := 81) (v := 33) B d_Book_unary_81 (by decide) ?_
      refine mv_icmp_ne (pc := 83) (tgt := 96) B d_Book_unary_83 rfl (fun h83 => ?_) (fun h83 => ?_)
      · skip
        have hf := xif_f h83 hf
        refine mv_lpick [3, 2, 1, 0] rfl ?_
        exact jn96 _ _ _ _ r_g12 hf
      · skip
        have hf := xif_t h83 hf
        refine mv_aload_n (pc := 86) B d_Book_unary_86 rfl 3 rfl ?_
        refine mv_getR (pc := 87) (ci := 12) (C := R_Book) (T := F_Book) (N := 65) B 45 rfl rfl (by decide) i_Book (B.2.2.2.1 _ k_1894) rfl ((congrFun (congrFun r_g12 108) 45).trans (hb.1 108 45 _ rfl)) d_Book_unary_87 ?_
        refine mv_iload_n (pc := 90) B d_Book_unary_90 rfl 0 rfl ?_
        obtain ⟨q14, hf⟩ := xvi_e hf
        refine mv_iald (pc := 91) B rfl q14 d_Book_unary_91 ?_
        refine mv_iconst (pc := 92) (v := 1) B d_Book_unary_92 (by decide) ?_
        refine mv_icmp_ne (pc := 93) (tgt := 100) B d_Book_unary_93 rfl (fun h93 => ?_) (fun h93 => ?_)
        · skip
          have hf := xif_f h93 hf
          refine mv_lpick [3, 2, 1, 0] rfl ?_
          exact jn100 _ _ _ _ r_g12 hf
        · skip
          have hf := xif_t h93 hf
          refine mv_lpick [3, 2, 1, 0] rfl ?_
          exact jn96 _ _ _ _ r_g12 hf
  unfold f_Book_unary at hf
  refine mv_aload_n (pc := 0) B d_Book_unary_0 rfl 0 rfl ?_
  refine mv_getI (pc := 1) (ci := 12) (C := R_Book) (T := F_Book) (N := 65) B 4 rfl rfl (by decide) i_Book (B.2.2.2.1 _ k_1847) rfl d_Book_unary_1 ?_
  refine mv_bipush (pc := 4) (v := 45) B d_Book_unary_4 (by decide) ?_
  refine mv_icmp_eq (pc := 6) (tgt := 32) B d_Book_unary_6 rfl (fun h6 => ?_) (fun h6 => ?_)
  · skip
    have hf := xif_t h6 hf
    refine mv_lpick [0] rfl ?_
    exact jn32  _ rfl hf
  · skip
    have hf := xif_f h6 hf
    refine mv_aload_n (pc := 9) B d_Book_unary_9 rfl 0 rfl ?_
    refine mv_getI (pc := 10) (ci := 12) (C := R_Book) (T := F_Book) (N := 65) B 4 rfl rfl (by decide) i_Book (B.2.2.2.1 _ k_1847) rfl d_Book_unary_10 ?_
    refine mv_bipush (pc := 13) (v := 126) B d_Book_unary_13 (by decide) ?_
    refine mv_icmp_eq (pc := 15) (tgt := 32) B d_Book_unary_15 rfl (fun h15 => ?_) (fun h15 => ?_)
    · skip
      have hf := xif_t h15 hf
      refine mv_lpick [0] rfl ?_
      exact jn32  _ rfl hf
    · skip
      have hf := xif_f h15 hf
      refine mv_aload_n (pc := 18) B d_Book_unary_18 rfl 0 rfl ?_
      refine mv_getI (pc := 19) (ci := 12) (C := R_Book) (T := F_Book) (N := 65) B 4 rfl rfl (by decide) i_Book (B.2.2.2.1 _ k_1847) rfl d_Book_unary_19 ?_
      refine mv_bipush (pc := 22) (v := 33) B d_Book_unary_22 (by decide) ?_
      refine mv_icmp_eq (pc := 24) (tgt := 32) B d_Book_unary_24 rfl (fun h24 => ?_) (fun h24 => ?_)
      · skip
        have hf := xif_t h24 hf
        refine mv_lpick [0] rfl ?_
        exact jn32  _ rfl hf
      · skip
        have hf := xif_f h24 hf
        refine mv_aload_n (pc := 27) B d_Book_unary_27 rfl 0 rfl ?_
        obtain ⟨og15, g15, eg15, hf⟩ := xtb_e hf
        refine mv_callVUi (pc := 28) (n := 0) (ci := 12) (C := R_Book) B (mK_ok sk sv) hNs rfl rfl (ih.2.2.2.1 _ _ _ _ (hb) eg15) rfl (ma_goodc kc_Book_post) (B.2.2.2.1 _ k_2257) (B.2.2.2.1 _ k_2259) (B.2.2.2.1 _ ks_107) (B.2.2.2.1 _ k_13) ⟨by decide +kernel, by decide +kernel, by decide +kernel⟩ rfl d_Book_unary_28 rfl (Nat.le_of_ble_eq_true rfl) ⟨by first | decide | (dsimp only; omega), by first | decide | (dsimp only; omega)⟩ ⟨Nat.le_refl _, Nat.le_refl _⟩ ⟨Nat.le_refl _, Nat.le_refl _⟩ (mv_noH hno _) (fun τ9 g9 => Or.inr ⟨rfl, xth hf g9 rfl⟩) (fun u16 σ28 h28 => ?_)
        obtain ⟨rfl, rfl, s_g15⟩ := h28
        have hf := xt2_s hf
        have r_g15 : mv_r g15 = mv_r h := s_g15.trans rfl
        exact mv_iret (pc := 31) B hr rfl d_Book_unary_31 (Nat.le_refl _) (Nat.le_refl _) (Or.inl ⟨_, rfl, xrt_i hf r_g15⟩)
set_option maxHeartbeats 4000000 in
set_option maxRecDepth 100000 in
theorem cr_Book_post_y (l : Launch) {dA : FieldType → ClassId} {D : va_G} {al : Nat → Nat} {ext : mv_Sh} {sk sv : Nat → Nat} (hi : mv_inj (mg dA D al ext)) (nn : Nat) (ih : RecX l dA D al ext sk sv 108 nn) (h : mv_H) (hb : Br 108 (mv_r h))  {rv : Option Int32} {rg : mv_H} (hf : f_Book_post 108 (f_BookR 108 nn) h = some (rv, rg)) : mv_C l y_Book_post (Cond.code y_Book_post b_Book_post 12 (Option.some Jvm.ClassFile.FieldType.int) :: ma) ({ frames := nn + 1 + 7, cells := 0, slots := 0, locals := 60 * (nn + 1) + 400 }) (mg dA D al ext) (mK sk sv) [.ref (al 108)] h (mv_Ui (fun v σ1 => rv = some v ∧ rg = σ1 ∧ mv_r σ1 = mv_r h) ("MachineLoomModel$Book$Wrong", al 141) (fun σ1 => rv = none ∧ rg = σ1 ∧ mv_r σ1 = mv_r h)) := by
  refine mv_C.ofV (cc := b_Book_post) (nL := 12) (ret := (Option.some Jvm.ClassFile.FieldType.int)) (by decide +kernel) rfl hi (Nat.le_of_ble_eq_true rfl) ?_
  intro p e s m below meth c B hNs hr hnm hno
  have lp5 : ∀ (nn5 : Nat) (x1 : Int32) (hz : mv_H), mv_r hz = mv_r h → f_Book_post_5 108 (f_BookR 108 nn) nn5 x1 hz = some (rv, rg) → mv_V p l e ({ frames := nn + 1 + 7, cells := 0, slots := 0, locals := 60 * (nn + 1) + 400 }) s m ([.ref (al 108)] : List Value).toArray below meth c (mg dA D al ext) 12 0 0 (mv_Q (mg dA D al ext) below s 0 0 (mv_Ui (fun v σ1 => rv = some v ∧ rg = σ1 ∧ mv_r σ1 = mv_r h) ("MachineLoomModel$Book$Wrong", al 141) (fun σ1 => rv = none ∧ rg = σ1 ∧ mv_r σ1 = mv_r h))) hz 5 [(0, .ref (al 108)), (1, .int x1)] [] := by
    intro nn5
    induction nn5 with
    | zero => intro x1 hz r_hz hf; cases hf
    | succ nn5 ih5 =>
      intro x1 hz r_hz hf
      have jn262 : ∀ (y0 : Int32) (y1 : Int32) (y2 : Int32) (y3 : Int32) (y4 : Int32) (hz : mv_H), mv_r hz = mv_r h → f_Book_post_262 108 (f_BookR 108 nn) (f_Book_post_5 108 (f_BookR 108 nn) nn5) y0 y1 y2 y3 y4 hz = some (rv, rg) → mv_V p l e ({ frames := nn + 1 + 7, cells := 0, slots := 0, locals := 60 * (nn + 1) + 400 }) s m ([.ref (al 108)] : List Value).toArray below meth c (mg dA D al ext) 12 0 0 (mv_Q (mg dA D al ext) below s 0 0 (mv_Ui (fun v σ1 => rv = some v ∧ rg = σ1 ∧ mv_r σ1 = mv_r h) ("MachineLoomModel$Book$Wrong", al 141) (fun σ1 => rv = none ∧ rg = σ1 ∧ mv_r σ1 = mv_r h))) hz 262 [(0, .ref (al 108))] [.int y0, .int y1, .int y2, .int y3, .int y4, .ref (al 108)] := by
        intro y0 y1 y2 y3 y4 hz r_hz hf
        unfold f_Book_post_262 at hf
        obtain ⟨u2, g1, eg1, hf⟩ := xhb_e hf
        refine mv_callVi (pc := 262) (n := 5) (ci := 12) (C := R_Book) B (mK_ok sk sv) hNs rfl rfl (ch_Book_node_y l hi _ (xrw r_hz hb) _ _ _ _ _ eg1) rfl (ma_goodc kc_Book_node) (B.2.2.2.1 _ k_2269) (B.2.2.2.1 _ k_2271) (B.2.2.2.1 _ ks_110) (B.2.2.2.1 _ k_13) ⟨by decide +kernel, by decide +kernel, by decide +kernel⟩ rfl d_Book_post_262 rfl (Nat.le_of_ble_eq_true rfl) ⟨by first | decide | (dsimp only; omega), by first | decide | (dsimp only; omega)⟩ ⟨Nat.le_refl _, Nat.le_refl _⟩ ⟨Nat.le_refl _, Nat.le_refl _⟩ (mv_noH hno _) (fun w262 σ262 h262 => ?_)
        obtain ⟨rfl, rfl, s_g1⟩ := h262
        have r_g1 : mv_r g1 = mv_r h := s_g1.trans r_hz
        refine mv_istore_n (pc := 265) B d_Book_post_265 rfl (by decide) rfl ?_
        refine mv_goto (pc := 266) (tgt := 5) B d_Book_post_266 rfl ?_
        refine mv_lpick [1, 0] rfl ?_
        exact ih5 _ _ r_g1 hf
      have jn246 : ∀ (x2 : Int64) (x4 : Int64) (x11 : Int32) (y0 : Int32) (y1 : Int32) (y2 : Int32) (y3 : Int32) (hz : mv_H), mv_r hz = mv_r h → f_Book_post_246 108 (f_BookR 108 nn) (f_Book_post_5 108 (f_BookR 108 nn) nn5) x2 x4 x11 y0 y1 y2 y3 hz = some (rv, rg) → mv_V p l e ({ frames := nn + 1 + 7, cells := 0, slots := 0, locals := 60 * (nn + 1) + 400 }) s m ([.ref (al 108)] : List Value).toArray below meth c (mg dA D al ext) 12 0 0 (mv_Q (mg dA D al ext) below s 0 0 (mv_Ui (fun v σ1 => rv = some v ∧ rg = σ1 ∧ mv_r σ1 = mv_r h) ("MachineLoomModel$Book$Wrong", al 141) (fun σ1 => rv = none ∧ rg = σ1 ∧ mv_r σ1 = mv_r h))) hz 246 [(0, .ref (al 108)), (2, .long x2), (4, .long x4), (11, .int x11)] [.int y0, .int y1, .int y2, .int y3, .ref (al 108)] := by
        intro x2 x4 x11 y0 y1 y2 y3 hz r_hz hf
        unfold f_Book_post_246 at hf
        refine mv_iload (pc := 246) B d_Book_post_246 3 rfl ?_
        refine mv_if_eq (pc := 248) (tgt := 261) B d_Book_post_248 rfl (fun h248 => ?_) (fun h248 => ?_)
        · skip
          have hf := xif_t h248 hf
          refine mv_iconst (pc := 261) (v := 0) B d_Book_post_261 (by decide) ?_
          refine mv_lpick [0] rfl ?_
          exact jn262 _ _ _ _ _ _ r_hz hf
        · skip
          have hf := xif_f h248 hf
          refine mv_lload_n (pc := 251) B d_Book_post_251 rfl 1 rfl ?_
          refine mv_lload (pc := 252) B d_Book_post_252 2 rfl ?_
          refine mv_lsub (pc := 254) B d_Book_post_254 ?_
          refine mv_l2i (pc := 255) B d_Book_post_255 ?_
          refine mv_iconst (pc := 256) (v := 1) B d_Book_post_256 (by decide) ?_
          refine mv_iadd (pc := 257) B d_Book_post_257 ?_
          refine mv_goto (pc := 258) (tgt := 262) B d_Book_post_258 rfl ?_
          refine mv_lpick [0] rfl ?_
          exact jn262 _ _ _ _ _ _ r_hz hf
      have jn234 : ∀ (x2 : Int64) (x4 : Int64) (x11 : Int32) (y0 : Int32) (y1 : Int32) (y2 : Int32) (hz : mv_H), mv_r hz = mv_r h → f_Book_post_234 108 (f_BookR 108 nn) (f_Book_post_5 108 (f_BookR 108 nn) nn5) x2 x4 x11 y0 y1 y2 hz = some (rv, rg) → mv_V p l e ({ frames := nn + 1 + 7, cells := 0, slots := 0, locals := 60 * (nn + 1) + 400 }) s m ([.ref (al 108)] : List Value).toArray below meth c (mg dA D al ext) 12 0 0 (mv_Q (mg dA D al ext) below s 0 0 (mv_Ui (fun v σ1 => rv = some v ∧ rg = σ1 ∧ mv_r σ1 = mv_r h) ("MachineLoomModel$Book$Wrong", al 141) (fun σ1 => rv = none ∧ rg = σ1 ∧ mv_r σ1 = mv_r h))) hz 234 [(0, .ref (al 108)), (2, .long x2), (4, .long x4), (11, .int x11)] [.int y0, .int y1, .int y2, .ref (al 108)] := by
        intro x2 x4 x11 y0 y1 y2 hz r_hz hf
        unfold f_Book_post_234 at hf
        refine mv_iload (pc := 234) B d_Book_post_234 3 rfl ?_
        refine mv_if_eq (pc := 236) (tgt := 245) B d_Book_post_236 rfl (fun h236 => ?_) (fun h236 => ?_)
        · skip
          have hf := xif_t h236 hf
          refine mv_iconst (pc := 245) (v := 0) B d_Book_post_245 (by decide) ?_
          refine mv_lpick [0, 1, 2, 3] rfl ?_
          exact jn246 _ _ _ _ _ _ _ _ r_hz hf
        · skip
          have hf := xif_f h236 hf
          refine mv_lload (pc := 239) B d_Book_post_239 2 rfl ?_
          refine mv_l2i (pc := 241) B d_Book_post_241 ?_
          refine mv_goto (pc := 242) (tgt := 246) B d_Book_post_242 rfl ?_
          refine mv_lpick [0, 1, 2, 3] rfl ?_
          exact jn246 _ _ _ _ _ _ _ _ r_hz hf
      have jn217 : ∀ (x1 : Int32) (x2 : Int64) (x4 : Int64) (y0 : Int32) (hz : mv_H), mv_r hz = mv_r h → f_Book_post_217 108 (f_BookR 108 nn) (f_Book_post_5 108 (f_BookR 108 nn) nn5) x1 x2 x4 y0 hz = some (rv, rg) → mv_V p l e ({ frames := nn + 1 + 7, cells := 0, slots := 0, locals := 60 * (nn + 1) + 400 }) s m ([.ref (al 108)] : List Value).toArray below meth c (mg dA D al ext) 12 0 0 (mv_Q (mg dA D al ext) below s 0 0 (mv_Ui (fun v σ1 => rv = some v ∧ rg = σ1 ∧ mv_r σ1 = mv_r h) ("MachineLoomModel$Book$Wrong", al 141) (fun σ1 => rv = none ∧ rg = σ1 ∧ mv_r σ1 = mv_r h))) hz 217 [(0, .ref (al 108)), (1, .int x1), (2, .long x2), (4, .long x4)] [.int y0] := by
        intro x1 x2 x4 y0 hz r_hz hf
        unfold f_Book_post_217 at hf
        refine mv_istore (pc := 217) B d_Book_post_217 (by decide) rfl ?_
        refine mv_aload_n (pc := 219) B d_Book_post_219 rfl 1 rfl ?_
        refine mv_bipush (pc := 220) (v := 8) B d_Book_post_220 (by decide) ?_
        refine mv_iload_n (pc := 222) B d_Book_post_222 rfl 2 rfl ?_
        refine mv_iload (pc := 223) B d_Book_post_223 0 rfl ?_
        refine mv_if_eq (pc := 225) (tgt := 233) B d_Book_post_225 rfl (fun h225 => ?_) (fun h225 => ?_)
        · skip
          have hf := xif_t h225 hf
          refine mv_iconst (pc := 233) (v := 0) B d_Book_post_233 (by decide) ?_
          refine mv_lpick [1, 3, 4, 0] rfl ?_
          exact jn234 _ _ _ _ _ _ _ r_hz hf
        · skip
          have hf := xif_f h225 hf
          refine mv_lload_n (pc := 228) B d_Book_post_228 rfl 3 rfl ?_
          refine mv_l2i (pc := 229) B d_Book_post_229 ?_
          refine mv_goto (pc := 230) (tgt := 234) B d_Book_post_230 rfl ?_
          refine mv_lpick [1, 3, 4, 0] rfl ?_
          exact jn234 _ _ _ _ _ _ _ r_hz hf
      have jn216 : ∀ (x1 : Int32) (x2 : Int64) (x4 : Int64) (hz : mv_H), mv_r hz = mv_r h → f_Book_post_216 108 (f_BookR 108 nn) (f_Book_post_5 108 (f_BookR 108 nn) nn5) x1 x2 x4 hz = some (rv, rg) → mv_V p l e ({ frames := nn + 1 + 7, cells := 0, slots := 0, locals := 60 * (nn + 1) + 400 }) s m ([.ref (al 108)] : List Value).toArray below meth c (mg dA D al ext) 12 0 0 (mv_Q (mg dA D al ext) below s 0 0 (mv_Ui (fun v σ1 => rv = some v ∧ rg = σ1 ∧ mv_r σ1 = mv_r h) ("MachineLoomModel$Book$Wrong", al 141) (fun σ1 => rv = none ∧ rg = σ1 ∧ mv_r σ1 = mv_r h))) hz 216 [(0, .ref (al 108)), (1, .int x1), (2, .long x2), (4, .long x4)] [] := by
        intro x1 x2 x4 hz r_hz hf
        unfold f_Book_post_216 at hf
        refine mv_iconst (pc := 216) (v := 0) B d_Book_post_216 (by decide) ?_
        refine mv_lpick [0, 1, 2, 3] rfl ?_
        exact jn217 _ _ _ _ _ r_hz hf
      have jn193 : ∀ (x1 : Int32) (x2 : Int64) (x4 : Int64) (x9 : Int32) (x10 : Int32) (hz : mv_H), mv_r hz = mv_r h → f_Book_post_193 108 (f_BookR 108 nn) (f_Book_post_5 108 (f_BookR 108 nn) nn5) x1 x2 x4 x9 x10 hz = some (rv, rg) → mv_V p l e ({ frames := nn + 1 + 7, cells := 0, slots := 0, locals := 60 * (nn + 1) + 400 }) s m ([.ref (al 108)] : List Value).toArray below meth c (mg dA D al ext) 12 0 0 (mv_Q (mg dA D al ext) below s 0 0 (mv_Ui (fun v σ1 => rv = some v ∧ rg = σ1 ∧ mv_r σ1 = mv_r h) ("MachineLoomModel$Book$Wrong", al 141) (fun σ1 => rv = none ∧ rg = σ1 ∧ mv_r σ1 = mv_r h))) hz 193 [(0, .ref (al 108)), (1, .int x1), (2, .long x2), (4, .long x4), (9, .int x9), (10, .int x10)] [] := by
        intro x1 x2 x4 x9 x10 hz r_hz hf
        unfold f_Book_post_193 at hf
        refine mv_aload_n (pc := 193) B d_Book_post_193 rfl 0 rfl ?_
        refine mv_getR (pc := 194) (ci := 12) (C := R_Book) (T := F_Book) (N := 65) B 45 rfl rfl (by decide) i_Book (B.2.2.2.1 _ k_1894) rfl ((congrFun (congrFun r_hz 108) 45).trans (hb.1 108 45 _ rfl)) d_Book_post_194 ?_
        refine mv_iload_n (pc := 197) B d_Book_post_197 rfl 1 rfl ?_
        obtain ⟨q3, hf⟩ := xvi_e hf
        refine mv_iald (pc := 198) B rfl q3 d_Book_post_198 ?_
        refine mv_if_le (pc := 199) (tgt := 216) B d_Book_post_199 rfl (fun h199 => ?_) (fun h199 => ?_)
        · skip
          have hf := xif_t h199 hf
          refine mv_lpick [0, 1, 2, 3] rfl ?_
          exact jn216 _ _ _ _ r_hz hf
        · skip
          have hf := xif_f h199 hf
          refine mv_iload (pc := 202) B d_Book_post_202 4 rfl ?_
          refine mv_if_eq (pc := 204) (tgt := 216) B d_Book_post_204 rfl (fun h204 => ?_) (fun h204 => ?_)
          · skip
            have hf := xif_t h204 hf
            refine mv_lpick [0, 1, 2, 3] rfl ?_
            exact jn216 _ _ _ _ r_hz hf
          · skip
            have hf := xif_f h204 hf
            refine mv_iload (pc := 207) B d_Book_post_207 5 rfl ?_
            refine mv_if_eq (pc := 209) (tgt := 216) B d_Book_post_209 rfl (fun h209 => ?_) (fun h209 => ?_)
            · skip
              have hf := xif_t h209 hf
              refine mv_lpick [0, 1, 2, 3] rfl ?_
              exact jn216 _ _ _ _ r_hz hf
            · skip
              have hf := xif_f h209 hf
              refine mv_iconst (pc := 212) (v := 1) B d_Book_post_212 (by decide) ?_
              refine mv_goto (pc := 213) (tgt := 217) B d_Book_post_213 rfl ?_
              refine mv_lpick [0, 1, 2, 3] rfl ?_
              exact jn217 _ _ _ _ _ r_hz hf
      have jn181 : ∀ (x1 : Int32) (x2 : Int64) (x4 : Int64) (x7 : Int32) (x9 : Int32) (x10 : Int32) (hz : mv_H), mv_r hz = mv_r h → f_Book_post_181 108 (f_BookR 108 nn) (f_Book_post_5 108 (f_BookR 108 nn) nn5) x1 x2 x4 x7 x9 x10 hz = some (rv, rg) → mv_V p l e ({ frames := nn + 1 + 7, cells := 0, slots := 0, locals := 60 * (nn + 1) + 400 }) s m ([.ref (al 108)] : List Value).toArray below meth c (mg dA D al ext) 12 0 0 (mv_Q (mg dA D al ext) below s 0 0 (mv_Ui (fun v σ1 => rv = some v ∧ rg = σ1 ∧ mv_r σ1 = mv_r h) ("MachineLoomModel$Book$Wrong", al 141) (fun σ1 => rv = none ∧ rg = σ1 ∧ mv_r σ1 = mv_r h))) hz 181 [(0, .ref (al 108)), (1, .int x1), (2, .long x2), (4, .long x4), (7, .int x7), (9, .int x9), (10, .int x10)] [] := by
        intro x1 x2 x4 x7 x9 x10 hz r_hz hf
        unfold f_Book_post_181 at hf
        refine mv_iload (pc := 181) B d_Book_post_181 6 rfl ?_
        refine mv_if_ne (pc := 183) (tgt := 193) B d_Book_post_183 rfl (fun h183 => ?_) (fun h183 => ?_)
        · skip
          have hf := xif_f h183 hf
          refine mv_lpick [0, 1, 2, 3, 5, 6] rfl ?_
          exact jn193 _ _ _ _ _ _ r_hz hf
        · skip
          have hf := xif_t h183 hf
          refine mv_aload_n (pc := 186) B d_Book_post_186 rfl 0 rfl ?_
          refine mv_iconst (pc := 187) (v := 3) B d_Book_post_187 (by decide) ?_
          refine mv_iload (pc := 188) B d_Book_post_188 4 rfl ?_
          obtain ⟨g4, eg4, hf⟩ := xhv_e hf
          refine mv_callVv (pc := 190) (n := 2) (ci := 12) (C := R_Book) B (mK_ok sk sv) hNs rfl rfl (ch_Book_fault_y l hi _ _ _ eg4) rfl (ma_goodc kc_Book_fault) (B.2.2.2.1 _ k_2185) (B.2.2.2.1 _ k_2187) (B.2.2.2.1 _ ks_92) (B.2.2.2.1 _ k_13) ⟨by decide +kernel, by decide +kernel, by decide +kernel⟩ rfl d_Book_post_190 rfl (Nat.le_of_ble_eq_true rfl) ⟨by first | decide | (dsimp only; omega), by first | decide | (dsimp only; omega)⟩ ⟨Nat.le_refl _, Nat.le_refl _⟩ ⟨Nat.le_refl _, Nat.le_refl _⟩ (mv_noH hno _) (fun σ190 h190 => ?_)
          obtain ⟨rfl, s_g4⟩ := h190
          have r_g4 : mv_r g4 = mv_r h := s_g4.trans r_hz
          refine mv_lpick [0, 1, 2, 3, 5, 6] rfl ?_
          exact jn193 _ _ _ _ _ _ r_g4 hf
      have jn167 : ∀ (x1 : Int32) (x2 : Int64) (x4 : Int64) (x6 : Int32) (x7 : Int32) (x9 : Int32) (y0 : Int32) (hz : mv_H), mv_r hz = mv_r h → f_Book_post_167 108 (f_BookR 108 nn) (f_Book_post_5 108 (f_BookR 108 nn) nn5) x1 x2 x4 x6 x7 x9 y0 hz = some (rv, rg) → mv_V p l e ({ frames := nn + 1 + 7, cells := 0, slots := 0, locals := 60 * (nn + 1) + 400 }) s m ([.ref (al 108)] : List Value).toArray below meth c (mg dA D al ext) 12 0 0 (mv_Q (mg dA D al ext) below s 0 0 (mv_Ui (fun v σ1 => rv = some v ∧ rg = σ1 ∧ mv_r σ1 = mv_r h) ("MachineLoomModel$Book$Wrong", al 141) (fun σ1 => rv = none ∧ rg = σ1 ∧ mv_r σ1 = mv_r h))) hz 167 [(0, .ref (al 108)), (1, .int x1), (2, .long x2), (4, .long x4), (6, .int x6), (7, .int x7), (9, .int x9)] [.int y0] := by
        intro x1 x2 x4 x6 x7 x9 y0 hz r_hz hf
        unfold f_Book_post_167 at hf
        refine mv_istore (pc := 167) B d_Book_post_167 (by decide) rfl ?_
        refine mv_iload (pc := 169) B d_Book_post_169 7 rfl ?_
        refine mv_if_ne (pc := 171) (tgt := 181) B d_Book_post_171 rfl (fun h171 => ?_) (fun h171 => ?_)
        · skip
          have hf := xif_f h171 hf
          refine mv_lpick [1, 2, 3, 4, 6, 7, 0] rfl ?_
          exact jn181 _ _ _ _ _ _ _ r_hz hf
        · skip
          have hf := xif_t h171 hf
          refine mv_aload_n (pc := 174) B d_Book_post_174 rfl 1 rfl ?_
          refine mv_iconst (pc := 175) (v := 3) B d_Book_post_175 (by decide) ?_
          refine mv_iload (pc := 176) B d_Book_post_176 5 rfl ?_
          obtain ⟨g6, eg6, hf⟩ := xhv_e hf
          refine mv_callVv (pc := 178) (n := 2) (ci := 12) (C := R_Book) B (mK_ok sk sv) hNs rfl rfl (ch_Book_fault_y l hi _ _ _ eg6) rfl (ma_goodc kc_Book_fault) (B.2.2.2.1 _ k_2185) (B.2.2.2.1 _ k_2187) (B.2.2.2.1 _ ks_92) (B.2.2.2.1 _ k_13) ⟨by decide +kernel, by decide +kernel, by decide +kernel⟩ rfl d_Book_post_178 rfl (Nat.le_of_ble_eq_true rfl) ⟨by first | decide | (dsimp only; omega), by first | decide | (dsimp only; omega)⟩ ⟨Nat.le_refl _, Nat.le_refl _⟩ ⟨Nat.le_refl _, Nat.le_refl _⟩ (mv_noH hno _) (fun σ178 h178 => ?_)
          obtain ⟨rfl, s_g6⟩ := h178
          have r_g6 : mv_r g6 = mv_r h := s_g6.trans r_hz
          refine mv_lpick [1, 2, 3, 4, 6, 7, 0] rfl ?_
          exact jn181 _ _ _ _ _ _ _ r_g6 hf
      have jn145 : ∀ (x1 : Int32) (x2 : Int64) (x4 : Int64) (x6 : Int32) (x7 : Int32) (y0 : Int32) (hz : mv_H), mv_r hz = mv_r h → f_Book_post_145 108 (f_BookR 108 nn) (f_Book_post_5 108 (f_BookR 108 nn) nn5) x1 x2 x4 x6 x7 y0 hz = some (rv, rg) → mv_V p l e ({ frames := nn + 1 + 7, cells := 0, slots := 0, locals := 60 * (nn + 1) + 400 }) s m ([.ref (al 108)] : List Value).toArray below meth c (mg dA D al ext) 12 0 0 (mv_Q (mg dA D al ext) below s 0 0 (mv_Ui (fun v σ1 => rv = some v ∧ rg = σ1 ∧ mv_r σ1 = mv_r h) ("MachineLoomModel$Book$Wrong", al 141) (fun σ1 => rv = none ∧ rg = σ1 ∧ mv_r σ1 = mv_r h))) hz 145 [(0, .ref (al 108)), (1, .int x1), (2, .long x2), (4, .long x4), (6, .int x6), (7, .int x7)] [.int y0] := by
        intro x1 x2 x4 x6 x7 y0 hz r_hz hf
        unfold f_Book_post_145 at hf
        refine mv_istore (pc := 145) B d_Book_post_145 (by decide) rfl ?_
        refine mv_lload (pc := 147) B d_Book_post_147 4 rfl ?_
        refine mv_ldc2 (pc := 149) (v := -9223372036854775808) B (B.2.2.2.1 _ k_2317) d_Book_post_149 ?_
        refine mv_ladd (pc := 152) B d_Book_post_152 ?_
        refine mv_lload_n (pc := 153) B d_Book_post_153 rfl 3 rfl ?_
        refine mv_ldc2 (pc := 154) (v := -9223372036854775808) B (B.2.2.2.1 _ k_2317) d_Book_post_154 ?_
        refine mv_ladd (pc := 157) B d_Book_post_157 ?_
        refine mv_lcmp (pc := 158) B d_Book_post_158 ?_
        refine mv_if_gt (pc := 159) (tgt := 166) B d_Book_post_159 rfl (fun h159 => ?_) (fun h159 => ?_)
        · skip
          have hf := xif_t h159 hf
          refine mv_iconst (pc := 166) (v := 0) B d_Book_post_166 (by decide) ?_
          refine mv_lpick [1, 2, 3, 4, 5, 6, 0] rfl ?_
          exact jn167 _ _ _ _ _ _ _ _ r_hz hf
        · skip
          have hf := xif_f h159 hf
          refine mv_iconst (pc := 162) (v := 1) B d_Book_post_162 (by decide) ?_
          refine mv_goto (pc := 163) (tgt := 167) B d_Book_post_163 rfl ?_
          refine mv_lpick [1, 2, 3, 4, 5, 6, 0] rfl ?_
          exact jn167 _ _ _ _ _ _ _ _ r_hz hf
      have jn140 : ∀ (x1 : Int32) (x2 : Int64) (x4 : Int64) (x6 : Int32) (x7 : Int32) (hz : mv_H), mv_r hz = mv_r h → f_Book_post_140 108 (f_BookR 108 nn) (f_Book_post_5 108 (f_BookR 108 nn) nn5) x1 x2 x4 x6 x7 hz = some (rv, rg) → mv_V p l e ({ frames := nn + 1 + 7, cells := 0, slots := 0, locals := 60 * (nn + 1) + 400 }) s m ([.ref (al 108)] : List Value).toArray below meth c (mg dA D al ext) 12 0 0 (mv_Q (mg dA D al ext) below s 0 0 (mv_Ui (fun v σ1 => rv = some v ∧ rg = σ1 ∧ mv_r σ1 = mv_r h) ("MachineLoomModel$Book$Wrong", al 141) (fun σ1 => rv = none ∧ rg = σ1 ∧ mv_r σ1 = mv_r h))) hz 140 [(0, .ref (al 108)), (1, .int x1), (2, .long x2), (4, .long x4), (6, .int x6), (7, .int x7)] [] := by
        intro x1 x2 x4 x6 x7 hz r_hz hf
        unfold f_Book_post_140 at hf
        refine mv_iconst (pc := 140) (v := 1) B d_Book_post_140 (by decide) ?_
        refine mv_goto (pc := 141) (tgt := 145) B d_Book_post_141 rfl ?_
        refine mv_lpick [0, 1, 2, 3, 4, 5] rfl ?_
        exact jn145 _ _ _ _ _ _ _ r_hz hf
      have jn98 : ∀ (x1 : Int32) (x2 : Int64) (x4 : Int64) (x6 : Int32) (x7 : Int32) (hz : mv_H), mv_r hz = mv_r h → f_Book_post_98 108 (f_BookR 108 nn) (f_Book_post_5 108 (f_BookR 108 nn) nn5) x1 x2 x4 x6 x7 hz = some (rv, rg) → mv_V p l e ({ frames := nn + 1 + 7, cells := 0, slots := 0, locals := 60 * (nn + 1) + 400 }) s m ([.ref (al 108)] : List Value).toArray below meth c (mg dA D al ext) 12 0 0 (mv_Q (mg dA D al ext) below s 0 0 (mv_Ui (fun v σ1 => rv = some v ∧ rg = σ1 ∧ mv_r σ1 = mv_r h) ("MachineLoomModel$Book$Wrong", al 141) (fun σ1 => rv = none ∧ rg = σ1 ∧ mv_r σ1 = mv_r h))) hz 98 [(0, .ref (al 108)), (1, .int x1), (2, .long x2), (4, .long x4), (6, .int x6), (7, .int x7)] [] := by
        intro x1 x2 x4 x6 x7 hz r_hz hf
        unfold f_Book_post_98 at hf
        refine mv_aload_n (pc := 98) B d_Book_post_98 rfl 0 rfl ?_
        refine mv_bipush (pc := 99) (v := 93) B d_Book_post_99 (by decide) ?_
        obtain ⟨og8, g8, eg8, hf⟩ := xtb_e hf
        refine mv_callVUv (pc := 101) (n := 1) (ci := 12) (C := R_Book) B (mK_ok sk sv) hNs rfl rfl (ch_Book_need_y l hi _ (xrw r_hz hb) _ eg8) rfl (ma_goodc kc_Book_need) (B.2.2.2.1 _ k_2177) (B.2.2.2.1 _ k_2179) (B.2.2.2.1 _ ks_91) (B.2.2.2.1 _ k_13) ⟨by decide +kernel, by decide +kernel, by decide +kernel⟩ rfl d_Book_post_101 rfl (Nat.le_of_ble_eq_true rfl) ⟨by first | decide | (dsimp only; omega), by first | decide | (dsimp only; omega)⟩ ⟨Nat.le_refl _, Nat.le_refl _⟩ ⟨Nat.le_refl _, Nat.le_refl _⟩ (mv_noH hno _) (fun τ9 g9 => Or.inr ⟨rfl, xth hf g9 r_hz⟩) (fun σ101 h101 => ?_)
        obtain ⟨rfl, rfl, s_g8⟩ := h101
        have hf := xt2_s hf
        have r_g8 : mv_r g8 = mv_r h := s_g8.trans r_hz
        refine mv_aload_n (pc := 104) B d_Book_post_104 rfl 0 rfl ?_
        refine mv_dup (pc := 105) B d_Book_post_105 rfl ?_
        refine mv_getI (pc := 106) (ci := 12) (C := R_Book) (T := F_Book) (N := 65) B 8 rfl rfl (by decide) i_Book (B.2.2.2.1 _ k_1851) rfl d_Book_post_106 ?_
        refine mv_iconst (pc := 109) (v := 1) B d_Book_post_109 (by decide) ?_
        refine mv_isub (pc := 110) B d_Book_post_110 ?_
        refine mv_putI (pc := 111) (ci := 12) (C := R_Book) (T := F_Book) (N := 65) B 8 rfl rfl (by decide) i_Book t_Book_ok n_Book (B.2.2.2.1 _ k_1851) rfl rfl rfl rfl d_Book_post_111 ?_
        refine mvh_hp (R9 := mv_r h) hf r_g8 (fun g10 hf r_g10 => ?_)
        refine mv_aload_n (pc := 114) B d_Book_post_114 rfl 0 rfl ?_
        refine mv_getR (pc := 115) (ci := 12) (C := R_Book) (T := F_Book) (N := 65) B 45 rfl rfl (by decide) i_Book (B.2.2.2.1 _ k_1894) rfl ((congrFun (congrFun r_g10 108) 45).trans (hb.1 108 45 _ rfl)) d_Book_post_115 ?_
        refine mv_iload_n (pc := 118) B d_Book_post_118 rfl 1 rfl ?_
        obtain ⟨q11, hf⟩ := xvi_e hf
        refine mv_iald (pc := 119) B rfl q11 d_Book_post_119 ?_
        refine mv_if_eq (pc := 120) (tgt := 140) B d_Book_post_120 rfl (fun h120 => ?_) (fun h120 => ?_)
        · skip
          have hf := xif_t h120 hf
          refine mv_lpick [0, 1, 2, 3, 4, 5] rfl ?_
          exact jn140 _ _ _ _ _ _ r_g10 hf
        · skip
          have hf := xif_f h120 hf
          refine mv_lload_n (pc := 123) B d_Book_post_123 rfl 2 rfl ?_
          refine mv_lconst (pc := 124) (v := 0) B d_Book_post_124 (by decide) ?_
          refine mv_aload_n (pc := 125) B d_Book_post_125 rfl 0 rfl ?_
          refine mv_getR (pc := 126) (ci := 12) (C := R_Book) (T := F_Book) (N := 65) B 45 rfl rfl (by decide) i_Book (B.2.2.2.1 _ k_1894) rfl ((congrFun (congrFun r_g10 108) 45).trans (hb.1 108 45 _ rfl)) d_Book_post_126 ?_
          refine mv_iload_n (pc := 129) B d_Book_post_129 rfl 1 rfl ?_
          obtain ⟨q12, hf⟩ := xvi_e hf
          refine mv_iald (pc := 130) B rfl q12 d_Book_post_130 ?_
          refine mv_iconst (pc := 131) (v := 1) B d_Book_post_131 (by decide) ?_
          refine mv_isub (pc := 132) B d_Book_post_132 ?_
          refine mv_i2l (pc := 133) B d_Book_post_133 ?_
          obtain ⟨u14, g13, eg13, hf⟩ := xhb_e hf
          refine mv_callSNi (pc := 134) (n := 3) B (mK_ok sk sv) hNs (ch_Model_in l hi _ _ _ _ eg13) rfl (ma_goodc kc_Model_in) (va_Nw.use rfl (hNs.1 _ (List.mem_of_getElem? (i := 7) rfl))) (B.2.2.2.1 _ k_2208) (B.2.2.2.1 _ k_12) ⟨by decide +kernel, by decide +kernel, by decide +kernel⟩ rfl d_Book_post_134 rfl (Nat.le_of_ble_eq_true rfl) ⟨by first | decide | (dsimp only; omega), by first | decide | (dsimp only; omega)⟩ ⟨Nat.le_refl _, Nat.le_refl _⟩ ⟨Nat.le_refl _, Nat.le_refl _⟩ (mv_noH hno _) (fun w134 σ134 h134 => ?_)
          obtain ⟨rfl, rfl, s_g13⟩ := h134
          have r_g13 : mv_r g13 = mv_r h := s_g13.trans r_g10
          refine mv_if_eq (pc := 137) (tgt := 144) B d_Book_post_137 rfl (fun h137 => ?_) (fun h137 => ?_)
          · skip
            have hf := xif_t h137 hf
            refine mv_iconst (pc := 144) (v := 0) B d_Book_post_144 (by decide) ?_
            refine mv_lpick [0, 1, 2, 3, 4, 5] rfl ?_
            exact jn145 _ _ _ _ _ _ _ r_g13 hf
          · skip
            have hf := xif_f h137 hf
            refine mv_lpick [0, 1, 2, 3, 4, 5] rfl ?_
            exact jn140 _ _ _ _ _ _ r_g13 hf
      have jn70 : ∀ (x1 : Int32) (x2 : Int64) (x4 : Int64) (x6 : Int32) (x7 : Int32) (y0 : Int32) (hz : mv_H), mv_r hz = mv_r h → f_Book_post_70 108 (f_BookR 108 nn) (f_Book_post_5 108 (f_BookR 108 nn) nn5) x1 x2 x4 x6 x7 y0 hz = some (rv, rg) → mv_V p l e ({ frames := nn + 1 + 7, cells := 0, slots := 0, locals := 60 * (nn + 1) + 400 }) s m ([.ref (al 108)] : List Value).toArray below meth c (mg dA D al ext) 12 0 0 (mv_Q (mg dA D al ext) below s 0 0 (mv_Ui (fun v σ1 => rv = some v ∧ rg = σ1 ∧ mv_r σ1 = mv_r h) ("MachineLoomModel$Book$Wrong", al 141) (fun σ1 => rv = none ∧ rg = σ1 ∧ mv_r σ1 = mv_r h))) hz 70 [(0, .ref (al 108)), (1, .int x1), (2, .long x2), (4, .long x4), (6, .int x6), (7, .int x7)] [.int y0] := by
        intro x1 x2 x4 x6 x7 y0 hz r_hz hf
        unfold f_Book_post_70 at hf
        refine mv_istore (pc := 70) B d_Book_post_70 (by decide) rfl ?_
        refine mv_iload (pc := 72) B d_Book_post_72 0 rfl ?_
        refine mv_if_eq (pc := 74) (tgt := 98) B d_Book_post_74 rfl (fun h74 => ?_) (fun h74 => ?_)
        · skip
          have hf := xif_t h74 hf
          refine mv_lpick [1, 2, 3, 4, 5, 6] rfl ?_
          exact jn98 _ _ _ _ _ _ r_hz hf
        · skip
          have hf := xif_f h74 hf
          refine mv_aload_n (pc := 77) B d_Book_post_77 rfl 1 rfl ?_
          obtain ⟨og15, g15, eg15, hf⟩ := xtb_e hf
          refine mv_callVUv (pc := 78) (n := 0) (ci := 12) (C := R_Book) B (mK_ok sk sv) hNs rfl rfl (ch_Book_pass_y l hi _ (xrw r_hz hb) eg15) rfl (ma_goodc kc_Book_pass) (B.2.2.2.1 _ k_2173) (B.2.2.2.1 _ k_2175) (B.2.2.2.1 _ ks_90) (B.2.2.2.1 _ k_13) ⟨by decide +kernel, by decide +kernel, by decide +kernel⟩ rfl d_Book_post_78 rfl (Nat.le_of_ble_eq_true rfl) ⟨by first | decide | (dsimp only; omega), by first | decide | (dsimp only; omega)⟩ ⟨Nat.le_refl _, Nat.le_refl _⟩ ⟨Nat.le_refl _, Nat.le_refl _⟩ (mv_noH hno _) (fun τ9 g9 => Or.inr ⟨rfl, xth hf g9 r_hz⟩) (fun σ78 h78 => ?_)
          obtain ⟨rfl, rfl, s_g15⟩ := h78
          have hf := xt2_s hf
          have r_g15 : mv_r g15 = mv_r h := s_g15.trans r_hz
          refine mv_aload_n (pc := 81) B d_Book_post_81 rfl 1 rfl ?_
          refine mv_getL (pc := 82) (ci := 12) (C := R_Book) (T := F_Book) (N := 65) B 9 rfl rfl (by decide) i_Book (B.2.2.2.1 _ k_1852) rfl d_Book_post_82 ?_
          refine mv_lstore (pc := 85) B d_Book_post_85 (by decide) rfl ?_
          refine mv_aload_n (pc := 87) B d_Book_post_87 rfl 2 rfl ?_
          refine mv_getI (pc := 88) (ci := 12) (C := R_Book) (T := F_Book) (N := 65) B 5 rfl rfl (by decide) i_Book (B.2.2.2.1 _ k_1848) rfl d_Book_post_88 ?_
          refine mv_istore (pc := 91) B d_Book_post_91 (by decide) rfl ?_
          refine mv_aload_n (pc := 93) B d_Book_post_93 rfl 3 rfl ?_
          refine mv_iconst (pc := 94) (v := 2) B d_Book_post_94 (by decide) ?_
          obtain ⟨og17, g17, eg17, hf⟩ := xtb_e hf
          refine mv_callVUv (pc := 95) (n := 1) (ci := 12) (C := R_Book) B (mK_ok sk sv) hNs rfl rfl (ch_Book_need_y l hi _ (xrw r_g15 hb) _ eg17) rfl (ma_goodc kc_Book_need) (B.2.2.2.1 _ k_2177) (B.2.2.2.1 _ k_2179) (B.2.2.2.1 _ ks_91) (B.2.2.2.1 _ k_13) ⟨by decide +kernel, by decide +kernel, by decide +kernel⟩ rfl d_Book_post_95 rfl (Nat.le_of_ble_eq_true rfl) ⟨by first | decide | (dsimp only; omega), by first | decide | (dsimp only; omega)⟩ ⟨Nat.le_refl _, Nat.le_refl _⟩ ⟨Nat.le_refl _, Nat.le_refl _⟩ (mv_noH hno _) (fun τ9 g9 => Or.inr ⟨rfl, xth hf g9 r_g15⟩) (fun σ95 h95 => ?_)
          obtain ⟨rfl, rfl, s_g17⟩ := h95
          have hf := xt2_s hf
          have r_g17 : mv_r g17 = mv_r h := s_g17.trans r_g15
          refine mv_lpick [3, 4, 5, 1, 6, 0] rfl ?_
          exact jn98 _ _ _ _ _ _ r_g17 hf
      have hf : fF_Book_post_5 108 (f_BookR 108 nn) (f_Book_post_5 108 (f_BookR 108 nn) nn5) x1 hz = some (rv, rg) := hf
      unfold fF_Book_post_5 at hf
      refine mv_aload_n (pc := 5) B d_Book_post_5 rfl 0 rfl ?_
      refine mv_getI (pc := 6) (ci := 12) (C := R_Book) (T := F_Book) (N := 65) B 4 rfl rfl (by decide) i_Book (B.2.2.2.1 _ k_1847) rfl d_Book_post_6 ?_
      refine mv_bipush (pc := 9) (v := 91) B d_Book_post_9 (by decide) ?_
      refine mv_icmp_ne (pc := 11) (tgt := 269) B d_Book_post_11 rfl (fun h11 => ?_) (fun h11 => ?_)
      · skip
        have hf := xif_f h11 hf
        refine mv_iload_n (pc := 269) B d_Book_post_269 rfl 1 rfl ?_
        exact mv_iret (pc := 270) B hr rfl d_Book_post_270 (Nat.le_refl _) (Nat.le_refl _) (Or.inl ⟨_, rfl, xrt_i hf r_hz⟩)
      · skip
        have hf := xif_t h11 hf
        refine mv_aload_n (pc := 14) B d_Book_post_14 rfl 0 rfl ?_
        obtain ⟨og19, g19, eg19, hf⟩ := xtb_e hf
        refine mv_callVUv (pc := 15) (n := 0) (ci := 12) (C := R_Book) B (mK_ok sk sv) hNs rfl rfl (ch_Book_pass_y l hi _ (xrw r_hz hb) eg19) rfl (ma_goodc kc_Book_pass) (B.2.2.2.1 _ k_2173) (B.2.2.2.1 _ k_2175) (B.2.2.2.1 _ ks_90) (B.2.2.2.1 _ k_13) ⟨by decide +kernel, by decide +kernel, by decide +kernel⟩ rfl d_Book_post_15 rfl (Nat.le_of_ble_eq_true rfl) ⟨by first | decide | (dsimp only; omega), by first | decide | (dsimp only; omega)⟩ ⟨Nat.le_refl _, Nat.le_refl _⟩ ⟨Nat.le_refl _, Nat.le_refl _⟩ (mv_noH hno _) (fun τ9 g9 => Or.inr ⟨rfl, xth hf g9 r_hz⟩) (fun σ15 h15 => ?_)
        obtain ⟨rfl, rfl, s_g19⟩ := h15
        have hf := xt2_s hf
        have r_g19 : mv_r g19 = mv_r h := s_g19.trans r_hz
        refine mv_aload_n (pc := 18) B d_Book_post_18 rfl 0 rfl ?_
        refine mv_dup (pc := 19) B d_Book_post_19 rfl ?_
        refine mv_getI (pc := 20) (ci := 12) (C := R_Book) (T := F_Book) (N := 65) B 8 rfl rfl (by decide) i_Book (B.2.2.2.1 _ k_1851) rfl d_Book_post_20 ?_
        refine mv_iconst (pc := 23) (v := 1) B d_Book_post_23 (by decide) ?_
        refine mv_iadd (pc := 24) B d_Book_post_24 ?_
        refine mv_putI (pc := 25) (ci := 12) (C := R_Book) (T := F_Book) (N := 65) B 8 rfl rfl (by decide) i_Book t_Book_ok n_Book (B.2.2.2.1 _ k_1851) rfl rfl rfl rfl d_Book_post_25 ?_
        refine mvh_hp (R9 := mv_r h) hf r_g19 (fun g21 hf r_g21 => ?_)
        refine mv_aload_n (pc := 28) B d_Book_post_28 rfl 0 rfl ?_
        refine mv_getL (pc := 29) (ci := 12) (C := R_Book) (T := F_Book) (N := 65) B 9 rfl rfl (by decide) i_Book (B.2.2.2.1 _ k_1852) rfl d_Book_post_29 ?_
        refine mv_lstore_n (pc := 32) B d_Book_post_32 rfl (by decide) rfl ?_
        refine mv_aload_n (pc := 33) B d_Book_post_33 rfl 1 rfl ?_
        refine mv_getL (pc := 34) (ci := 12) (C := R_Book) (T := F_Book) (N := 65) B 9 rfl rfl (by decide) i_Book (B.2.2.2.1 _ k_1852) rfl d_Book_post_34 ?_
        refine mv_lstore (pc := 37) B d_Book_post_37 (by decide) rfl ?_
        refine mv_aload_n (pc := 39) B d_Book_post_39 rfl 2 rfl ?_
        refine mv_getI (pc := 40) (ci := 12) (C := R_Book) (T := F_Book) (N := 65) B 5 rfl rfl (by decide) i_Book (B.2.2.2.1 _ k_1848) rfl d_Book_post_40 ?_
        refine mv_istore (pc := 43) B d_Book_post_43 (by decide) rfl ?_
        refine mv_aload_n (pc := 45) B d_Book_post_45 rfl 3 rfl ?_
        refine mv_getI (pc := 46) (ci := 12) (C := R_Book) (T := F_Book) (N := 65) B 5 rfl rfl (by decide) i_Book (B.2.2.2.1 _ k_1848) rfl d_Book_post_46 ?_
        refine mv_istore (pc := 49) B d_Book_post_49 (by decide) rfl ?_
        refine mv_aload_n (pc := 51) B d_Book_post_51 rfl 4 rfl ?_
        refine mv_iconst (pc := 52) (v := 2) B d_Book_post_52 (by decide) ?_
        obtain ⟨og22, g22, eg22, hf⟩ := xtb_e hf
        refine mv_callVUv (pc := 53) (n := 1) (ci := 12) (C := R_Book) B (mK_ok sk sv) hNs rfl rfl (ch_Book_need_y l hi _ (xrw r_g21 hb) _ eg22) rfl (ma_goodc kc_Book_need) (B.2.2.2.1 _ k_2177) (B.2.2.2.1 _ k_2179) (B.2.2.2.1 _ ks_91) (B.2.2.2.1 _ k_13) ⟨by decide +kernel, by decide +kernel, by decide +kernel⟩ rfl d_Book_post_53 rfl (Nat.le_of_ble_eq_true rfl) ⟨by first | decide | (dsimp only; omega), by first | decide | (dsimp only; omega)⟩ ⟨Nat.le_refl _, Nat.le_refl _⟩ ⟨Nat.le_refl _, Nat.le_refl _⟩ (mv_noH hno _) (fun τ9 g9 => Or.inr ⟨rfl, xth hf g9 r_g21⟩) (fun σ53 h53 => ?_)
        obtain ⟨rfl, rfl, s_g22⟩ := h53
        have hf := xt2_s hf
        have r_g22 : mv_r g22 = mv_r h := s_g22.trans r_g21
        refine mv_aload_n (pc := 56) B d_Book_post_56 rfl 4 rfl ?_
        refine mv_getI (pc := 57) (ci := 12) (C := R_Book) (T := F_Book) (N := 65) B 4 rfl rfl (by decide) i_Book (B.2.2.2.1 _ k_1847) rfl d_Book_post_57 ?_
        refine mv_bipush (pc := 60) (v := 58) B d_Book_post_60 (by decide) ?_
        refine mv_icmp_ne (pc := 62) (tgt := 69) B d_Book_post_62 rfl (fun h62 => ?_) (fun h62 => ?_)
        · skip
          have hf := xif_f h62 hf
          refine mv_iconst (pc := 69) (v := 0) B d_Book_post_69 (by decide) ?_
          refine mv_lpick [4, 5, 3, 2, 1, 0] rfl ?_
          exact jn70 _ _ _ _ _ _ _ r_g22 hf
        · skip
          have hf := xif_t h62 hf
          refine mv_iconst (pc := 65) (v := 1) B d_Book_post_65 (by decide) ?_
          refine mv_goto (pc := 66) (tgt := 70) B d_Book_post_66 rfl ?_
          refine mv_lpick [4, 5, 3, 2, 1, 0] rfl ?_
          exact jn70 _ _ _ _ _ _ _ r_g22 hf
  unfold f_Book_post at hf
  refine mv_aload_n (pc := 0) B d_Book_post_0 rfl 0 rfl ?_
  obtain ⟨og24, g24, eg24, hf⟩ := xtb_e hf
  refine mv_callVUi (pc := 1) (n := 0) (ci := 12) (C := R_Book) B (mK_ok sk sv) hNs rfl rfl (ih.2.2.2.2.1 _ _ _ _ (hb) eg24) rfl (ma_goodc kc_Book_primary) (B.2.2.2.1 _ k_2261) (B.2.2.2.1 _ k_2263) (B.2.2.2.1 _ ks_108) (B.2.2.2.1 _ k_13) ⟨by decide +kernel, by decide +kernel, by decide +kernel⟩ rfl d_Book_post_1 rfl (Nat.le_of_ble_eq_true rfl) ⟨by first | decide | (dsimp only; omega), by first | decide | (dsimp only; omega)⟩ ⟨Nat.le_refl _, Nat.le_refl _⟩ ⟨Nat.le_refl _, Nat.le_refl _⟩ (mv_noH hno _) (fun τ9 g9 => Or.inr ⟨rfl, xth hf g9 rfl⟩) (fun u25 σ1 h1 => ?_)
  obtain ⟨rfl, rfl, s_g24⟩ := h1
  have hf := xt2_s hf
  have r_g24 : mv_r g24 = mv_r h := s_g24.trans rfl
  refine mv_istore_n (pc := 4) B d_Book_post_4 rfl (by decide) rfl ?_
  refine mv_lpick [1, 0] rfl ?_
  exact lp5 _ _ _ r_g24 hf
set_option maxHeartbeats 4000000 in
set_option maxRecDepth 100000 in
theorem cr_Book_primary_y (l : Launch) {dA : FieldType → ClassId} {D : va_G} {al : Nat → Nat} {ext : mv_Sh} {sk sv : Nat → Nat} (hi : mv_inj (mg dA D al ext)) (nn : Nat) (ih : RecX l dA D al ext sk sv 108 nn) (h : mv_H) (hb : Br 108 (mv_r h))  {rv : Option Int32} {rg : mv_H} (hf : f_Book_primary 108 (f_BookR 108 nn) h = some (rv, rg)) : mv_C l y_Book_primary (Cond.code y_Book_primary b_Book_primary 2 (Option.some Jvm.ClassFile.FieldType.int) :: ma) ({ frames := nn + 1 + 7, cells := 0, slots := 0, locals := 60 * (nn + 1) + 400 }) (mg dA D al ext) (mK sk sv) [.ref (al 108)] h (mv_Ui (fun v σ1 => rv = some v ∧ rg = σ1 ∧ mv_r σ1 = mv_r h) ("MachineLoomModel$Book$Wrong", al 141) (fun σ1 => rv = none ∧ rg = σ1 ∧ mv_r σ1 = mv_r h)) := by
  refine mv_C.ofV (cc := b_Book_primary) (nL := 2) (ret := (Option.some Jvm.ClassFile.FieldType.int)) (by decide +kernel) rfl hi (Nat.le_of_ble_eq_true rfl) ?_
  intro p e s m below meth c B hNs hr hnm hno
  have jn192 : ∀ (hz : mv_H), mv_r hz = mv_r h → f_Book_primary_192 108 (f_BookR 108 nn)  hz = some (rv, rg) → mv_V p l e ({ frames := nn + 1 + 7, cells := 0, slots := 0, locals := 60 * (nn + 1) + 400 }) s m ([.ref (al 108)] : List Value).toArray below meth c (mg dA D al ext) 2 0 0 (mv_Q (mg dA D al ext) below s 0 0 (mv_Ui (fun v σ1 => rv = some v ∧ rg = σ1 ∧ mv_r σ1 = mv_r h) ("MachineLoomModel$Book$Wrong", al 141) (fun σ1 => rv = none ∧ rg = σ1 ∧ mv_r σ1 = mv_r h))) hz 192 [(0, .ref (al 108))] [] := by
    intro  hz r_hz hf
    unfold f_Book_primary_192 at hf
    refine mv_aload_n (pc := 192) B d_Book_primary_192 rfl 0 rfl ?_
    refine mv_aload_n (pc := 193) B d_Book_primary_193 rfl 0 rfl ?_
    refine mv_getI (pc := 194) (ci := 12) (C := R_Book) (T := F_Book) (N := 65) B 5 rfl rfl (by decide) i_Book (B.2.2.2.1 _ k_1848) rfl d_Book_primary_194 ?_
    refine mv_callVr (pc := 197) (n := 1) (ci := 12) (C := R_Book) B (mK_ok sk sv) hNs rfl rfl (c_Book_wrongAt_y l hi _ _ (xrw r_hz hb)) rfl (ma_goodc kc_Book_wrongAt) (B.2.2.2.1 _ k_2154) (B.2.2.2.1 _ k_2156) (B.2.2.2.1 _ ks_86) (B.2.2.2.1 _ k_13) ⟨by decide +kernel, by decide +kernel, by decide +kernel⟩ rfl d_Book_primary_197 rfl (Nat.le_of_ble_eq_true rfl) ⟨by first | decide | (dsimp only; omega), by first | decide | (dsimp only; omega)⟩ ⟨Nat.le_refl _, Nat.le_refl _⟩ ⟨Nat.le_refl _, Nat.le_refl _⟩ (mv_noH hno _) (fun σ197 h197 => ?_)
    obtain ⟨-, h197⟩ := h197
    subst h197
    refine mvh_hp (R9 := mv_r h) hf r_hz (fun g1 hf r_g1 => ?_)
    exact mv_athrowO (pc := 200) (o := 141) B rfl rfl (mv_noH hno _) d_Book_primary_200 (Nat.le_refl _) (Nat.le_refl _) (Or.inr ⟨rfl, xrt_t hf r_g1⟩)
  unfold f_Book_primary at hf
  refine mv_aload_n (pc := 0) B d_Book_primary_0 rfl 0 rfl ?_
  refine mv_getI (pc := 1) (ci := 12) (C := R_Book) (T := F_Book) (N := 65) B 4 rfl rfl (by decide) i_Book (B.2.2.2.1 _ k_1847) rfl d_Book_primary_1 ?_
  refine mv_iconst (pc := 4) (v := 2) B d_Book_primary_4 (by decide) ?_
  refine mv_icmp_ne (pc := 5) (tgt := 13) B d_Book_primary_5 rfl (fun h5 => ?_) (fun h5 => ?_)
  · skip
    have hf := xif_f h5 hf
    refine mv_aload_n (pc := 13) B d_Book_primary_13 rfl 0 rfl ?_
    refine mv_getI (pc := 14) (ci := 12) (C := R_Book) (T := F_Book) (N := 65) B 4 rfl rfl (by decide) i_Book (B.2.2.2.1 _ k_1847) rfl d_Book_primary_14 ?_
    refine mv_bipush (pc := 17) (v := 40) B d_Book_primary_17 (by decide) ?_
    refine mv_icmp_ne (pc := 19) (tgt := 59) B d_Book_primary_19 rfl (fun h19 => ?_) (fun h19 => ?_)
    · skip
      have hf := xif_f h19 hf
      refine mv_aload_n (pc := 59) B d_Book_primary_59 rfl 0 rfl ?_
      refine mv_getI (pc := 60) (ci := 12) (C := R_Book) (T := F_Book) (N := 65) B 4 rfl rfl (by decide) i_Book (B.2.2.2.1 _ k_1847) rfl d_Book_primary_60 ?_
      refine mv_bipush (pc := 63) (v := 123) B d_Book_primary_63 (by decide) ?_
      refine mv_icmp_ne (pc := 65) (tgt := 73) B d_Book_primary_65 rfl (fun h65 => ?_) (fun h65 => ?_)
      · skip
        have hf := xif_f h65 hf
        refine mv_aload_n (pc := 73) B d_Book_primary_73 rfl 0 rfl ?_
        refine mv_ldcwS (pc := 74) B (hNs.2.1 148 (by decide)).1 d_Book_primary_74 ?_
        obtain ⟨u3, g2, eg2, hf⟩ := xhb_e hf
        refine mv_callVi (pc := 77) (n := 1) (ci := 12) (C := R_Book) B (mK_ok sk sv) hNs rfl rfl (ch_Book_is_y l hi _ (hb) _ (by decide) eg2) rfl (ma_goodc kc_Book_is) (B.2.2.2.1 _ k_2163) (B.2.2.2.1 _ k_2165) (B.2.2.2.1 _ ks_88) (B.2.2.2.1 _ k_13) ⟨by decide +kernel, by decide +kernel, by decide +kernel⟩ rfl d_Book_primary_77 rfl (Nat.le_of_ble_eq_true rfl) ⟨by first | decide | (dsimp only; omega), by first | decide | (dsimp only; omega)⟩ ⟨Nat.le_refl _, Nat.le_refl _⟩ ⟨Nat.le_refl _, Nat.le_refl _⟩ (mv_noH hno _) (fun w77 σ77 h77 => ?_)
        obtain ⟨rfl, rfl, s_g2⟩ := h77
        have r_g2 : mv_r g2 = mv_r h := s_g2.trans rfl
        refine mv_if_eq (pc := 80) (tgt := 89) B d_Book_primary_80 rfl (fun h80 => ?_) (fun h80 => ?_)
        · skip
          have hf := xif_t h80 hf
          refine mv_aload_n (pc := 89) B d_Book_primary_89 rfl 0 rfl ?_
          refine mv_ldcwS (pc := 90) B (hNs.2.1 149 (by decide)).1 d_Book_primary_90 ?_
          obtain ⟨u5, g4, eg4, hf⟩ := xhb_e hf
          refine mv_callVi (pc := 93) (n := 1) (ci := 12) (C := R_Book) B (mK_ok sk sv) hNs rfl rfl (ch_Book_is_y l hi _ (xrw r_g2 hb) _ (by decide) eg4) rfl (ma_goodc kc_Book_is) (B.2.2.2.1 _ k_2163) (B.2.2.2.1 _ k_2165) (B.2.2.2.1 _ ks_88) (B.2.2.2.1 _ k_13) ⟨by decide +kernel, by decide +kernel, by decide +kernel⟩ rfl d_Book_primary_93 rfl (Nat.le_of_ble_eq_true rfl) ⟨by first | decide | (dsimp only; omega), by first | decide | (dsimp only; omega)⟩ ⟨Nat.le_refl _, Nat.le_refl _⟩ ⟨Nat.le_refl _, Nat.le_refl _⟩ (mv_noH hno _) (fun w93 σ93 h93 => ?_)
          obtain ⟨rfl, rfl, s_g4⟩ := h93
          have r_g4 : mv_r g4 = mv_r h := s_g4.trans r_g2
          refine mv_if_eq (pc := 96) (tgt := 105) B d_Book_primary_96 rfl (fun h96 => ?_) (fun h96 => ?_)
          · skip
            have hf := xif_t h96 hf
            refine mv_aload_n (pc := 105) B d_Book_primary_105 rfl 0 rfl ?_
            refine mv_ldcwS (pc := 106) B (hNs.2.1 150 (by decide)).1 d_Book_primary_106 ?_
            obtain ⟨u7, g6, eg6, hf⟩ := xhb_e hf
            refine mv_callVi (pc := 109) (n := 1) (ci := 12) (C := R_Book) B (mK_ok sk sv) hNs rfl rfl (ch_Book_is_y l hi _ (xrw r_g4 hb) _ (by decide) eg6) rfl (ma_goodc kc_Book_is) (B.2.2.2.1 _ k_2163) (B.2.2.2.1 _ k_2165) (B.2.2.2.1 _ ks_88) (B.2.2.2.1 _ k_13) ⟨by decide +kernel, by decide +kernel, by decide +kernel⟩ rfl d_Book_primary_109 rfl (Nat.le_of_ble_eq_true rfl) ⟨by first | decide | (dsimp only; omega), by first | decide | (dsimp only; omega)⟩ ⟨Nat.le_refl _, Nat.le_refl _⟩ ⟨Nat.le_refl _, Nat.le_refl _⟩ (mv_noH hno _) (fun w109 σ109 h109 => ?_)
            obtain ⟨rfl, rfl, s_g6⟩ := h109
            have r_g6 : mv_r g6 = mv_r h := s_g6.trans r_g4
            refine mv_if_eq (pc := 112) (tgt := 123) B d_Book_primary_112 rfl (fun h112 => ?_) (fun h112 => ?_)
            · skip
              have hf := xif_t h112 hf
              refine mv_aload_n (pc := 123) B d_Book_primary_123 rfl 0 rfl ?_
              refine mv_ldcwS (pc := 124) B (hNs.2.1 151 (by decide)).1 d_Book_primary_124 ?_
              obtain ⟨u9, g8, eg8, hf⟩ := xhb_e hf
              refine mv_callVi (pc := 127) (n := 1) (ci := 12) (C := R_Book) B (mK_ok sk sv) hNs rfl rfl (ch_Book_is_y l hi _ (xrw r_g6 hb) _ (by decide) eg8) rfl (ma_goodc kc_Book_is) (B.2.2.2.1 _ k_2163) (B.2.2.2.1 _ k_2165) (B.2.2.2.1 _ ks_88) (B.2.2.2.1 _ k_13) ⟨by decide +kernel, by decide +kernel, by decide +kernel⟩ rfl d_Book_primary_127 rfl (Nat.le_of_ble_eq_true rfl) ⟨by first | decide | (dsimp only; omega), by first | decide | (dsimp only; omega)⟩ ⟨Nat.le_refl _, Nat.le_refl _⟩ ⟨Nat.le_refl _, Nat.le_refl _⟩ (mv_noH hno _) (fun w127 σ127 h127 => ?_)
              obtain ⟨rfl, rfl, s_g8⟩ := h127
              have r_g8 : mv_r g8 = mv_r h := s_g8.trans r_g6
              refine mv_if_eq (pc := 130) (tgt := 141) B d_Book_primary_130 rfl (fun h130 => ?_) (fun h130 => ?_)
              · skip
                have hf := xif_t h130 hf
                refine mv_aload_n (pc := 141) B d_Book_primary_141 rfl 0 rfl ?_
                refine mv_ldcwS (pc := 142) B (hNs.2.1 152 (by decide)).1 d_Book_primary_142 ?_
                obtain ⟨u11, g10, eg10, hf⟩ := xhb_e hf
                refine mv_callVi (pc := 145) (n := 1) (ci := 12) (C := R_Book) B (mK_ok sk sv) hNs rfl rfl (ch_Book_is_y l hi _ (xrw r_g8 hb) _ (by decide) eg10) rfl (ma_goodc kc_Book_is) (B.2.2.2.1 _ k_2163) (B.2.2.2.1 _ k_2165) (B.2.2.2.1 _ ks_88) (B.2.2.2.1 _ k_13) ⟨by decide +kernel, by decide +kernel, by decide +kernel⟩ rfl d_Book_primary_145 rfl (Nat.le_of_ble_eq_true rfl) ⟨by first | decide | (dsimp only; omega), by first | decide | (dsimp only; omega)⟩ ⟨Nat.le_refl _, Nat.le_refl _⟩ ⟨Nat.le_refl _, Nat.le_refl _⟩ (mv_noH hno _) (fun w145 σ145 h145 => ?_)
                obtain ⟨rfl, rfl, s_g10⟩ := h145
                have r_g10 : mv_r g10 = mv_r h := s_g10.trans r_g8
                refine mv_if_eq (pc := 148) (tgt := 159) B d_Book_primary_148 rfl (fun h148 => ?_) (fun h148 => ?_)
                · skip
                  have hf := xif_t h148 hf
                  refine mv_aload_n (pc := 159) B d_Book_primary_159 rfl 0 rfl ?_
                  refine mv_ldcwS (pc := 160) B (hNs.2.1 153 (by decide)).1 d_Book_primary_160 ?_
                  obtain ⟨u13, g12, eg12, hf⟩ := xhb_e hf
                  refine mv_callVi (pc := 163) (n := 1) (ci := 12) (C := R_Book) B (mK_ok sk sv) hNs rfl rfl (ch_Book_is_y l hi _ (xrw r_g10 hb) _ (by decide) eg12) rfl (ma_goodc kc_Book_is) (B.2.2.2.1 _ k_2163) (B.2.2.2.1 _ k_2165) (B.2.2.2.1 _ ks_88) (B.2.2.2.1 _ k_13) ⟨by decide +kernel, by decide +kernel, by decide +kernel⟩ rfl d_Book_primary_163 rfl (Nat.le_of_ble_eq_true rfl) ⟨by first | decide | (dsimp only; omega), by first | decide | (dsimp only; omega)⟩ ⟨Nat.le_refl _, Nat.le_refl _⟩ ⟨Nat.le_refl _, Nat.le_refl _⟩ (mv_noH hno _) (fun w163 σ163 h163 => ?_)
                  obtain ⟨rfl, rfl, s_g12⟩ := h163
                  have r_g12 : mv_r g12 = mv_r h := s_g12.trans r_g10
                  refine mv_if_eq (pc := 166) (tgt := 177) B d_Book_primary_166 rfl (fun h166 => ?_) (fun h166 => ?_)
                  · skip
                    have hf := xif_t h166 hf
                    refine mv_aload_n (pc := 177) B d_Book_primary_177 rfl 0 rfl ?_
                    refine mv_getI (pc := 178) (ci := 12) (C := R_Book) (T := F_Book) (N := 65) B 4 rfl rfl (by decide) i_Book (B.2.2.2.1 _ k_1847) rfl d_Book_primary_178 ?_
                    refine mv_iconst (pc := 181) (v := 1) B d_Book_primary_181 (by decide) ?_
                    refine mv_icmp_ne (pc := 182) (tgt := 192) B d_Book_primary_182 rfl (fun h182 => ?_) (fun h182 => ?_)
                    · skip
                      have hf := xif_f h182 hf
                      refine mv_lpick [0] rfl ?_
                      exact jn192  _ r_g12 hf
                    · skip
                      have hf := xif_t h182 hf
                      refine mv_aload_n (pc := 185) B d_Book_primary_185 rfl 0 rfl ?_
                      obtain ⟨u15, g14, eg14, hf⟩ := xhb_e hf
                      refine mv_callVi (pc := 186) (n := 0) (ci := 12) (C := R_Book) B (mK_ok sk sv) hNs rfl rfl (ch_Book_reserved_y l hi _ (xrw r_g12 hb) eg14) rfl (ma_goodc kc_Book_reserved) (B.2.2.2.1 _ k_2198) (B.2.2.2.1 _ k_2200) (B.2.2.2.1 _ ks_95) (B.2.2.2.1 _ k_13) ⟨by decide +kernel, by decide +kernel, by decide +kernel⟩ rfl d_Book_primary_186 rfl (Nat.le_of_ble_eq_true rfl) ⟨by first | decide | (dsimp only; omega), by first | decide | (dsimp only; omega)⟩ ⟨Nat.le_refl _, Nat.le_refl _⟩ ⟨Nat.le_refl _, Nat.le_refl _⟩ (mv_noH hno _) (fun w186 σ186 h186 => ?_)
                      obtain ⟨rfl, rfl, s_g14⟩ := h186
                      have r_g14 : mv_r g14 = mv_r h := s_g14.trans r_g12
                      refine mv_if_eq (pc := 189) (tgt := 201) B d_Book_primary_189 rfl (fun h189 => ?_) (fun h189 => ?_)
                      · skip
                        have hf := xif_t h189 hf
                        refine mv_aload_n (pc := 201) B d_Book_primary_201 rfl 0 rfl ?_
                        obtain ⟨og16, g16, eg16, hf⟩ := xtb_e hf
                        refine mv_callVUi (pc := 202) (n := 0) (ci := 12) (C := R_Book) B (mK_ok sk sv) hNs rfl rfl (ih.2.2.2.2.2.1 _ _ _ _ (xrw r_g14 hb) eg16) rfl (ma_goodc kc_Book_named) (B.2.2.2.1 _ k_2301) (B.2.2.2.1 _ k_2303) (B.2.2.2.1 _ ks_115) (B.2.2.2.1 _ k_13) ⟨by decide +kernel, by decide +kernel, by decide +kernel⟩ rfl d_Book_primary_202 rfl (Nat.le_of_ble_eq_true rfl) ⟨by first | decide | (dsimp only; omega), by first | decide | (dsimp only; omega)⟩ ⟨Nat.le_refl _, Nat.le_refl _⟩ ⟨Nat.le_refl _, Nat.le_refl _⟩ (mv_noH hno _) (fun τ9 g9 => Or.inr ⟨rfl, xth hf g9 r_g14⟩) (fun u17 σ202 h202 => ?_)
                        obtain ⟨rfl, rfl, s_g16⟩ := h202
                        have hf := xt2_s hf
                        have r_g16 : mv_r g16 = mv_r h := s_g16.trans r_g14
                        exact mv_iret (pc := 205) B hr rfl d_Book_primary_205 (Nat.le_refl _) (Nat.le_refl _) (Or.inl ⟨_, rfl, xrt_i hf r_g16⟩)
                      · skip
                        have hf := xif_f h189 hf
                        refine mv_lpick [0] rfl ?_
                        exact jn192  _ r_g14 hf
                  · skip
                    have hf := xif_f h166 hf
                    refine mv_aload_n (pc := 169) B d_Book_primary_169 rfl 0 rfl ?_
                    refine mv_sipush (pc := 170) (v := 1003) B d_Book_primary_170 (by decide) ?_
                    obtain ⟨og18, g18, eg18, hf⟩ := xtb_e hf
                    refine mv_callVUi (pc := 173) (n := 1) (ci := 12) (C := R_Book) B (mK_ok sk sv) hNs rfl rfl (ih.2.2.2.2.2.2.2.1 _ _ _ _ (xrw r_g12 hb) eg18) rfl (ma_goodc kc_Book_called) (B.2.2.2.1 _ k_2284) (B.2.2.2.1 _ k_2286) (B.2.2.2.1 _ ks_113) (B.2.2.2.1 _ k_13) ⟨by decide +kernel, by decide +kernel, by decide +kernel⟩ rfl d_Book_primary_173 rfl (Nat.le_of_ble_eq_true rfl) ⟨by first | decide | (dsimp only; omega), by first | decide | (dsimp only; omega)⟩ ⟨Nat.le_refl _, Nat.le_refl _⟩ ⟨Nat.le_refl _, Nat.le_refl _⟩ (mv_noH hno _) (fun τ9 g9 => Or.inr ⟨rfl, xth hf g9 r_g12⟩) (fun u19 σ173 h173 => ?_)
                    obtain ⟨rfl, rfl, s_g18⟩ := h173
                    have hf := xt2_s hf
                    have r_g18 : mv_r g18 = mv_r h := s_g18.trans r_g12
                    exact mv_iret (pc := 176) B hr rfl d_Book_primary_176 (Nat.le_refl _) (Nat.le_refl _) (Or.inl ⟨_, rfl, xrt_i hf r_g18⟩)
                · skip
                  have hf := xif_f h148 hf
                  refine mv_aload_n (pc := 151) B d_Book_primary_151 rfl 0 rfl ?_
                  refine mv_sipush (pc := 152) (v := 1002) B d_Book_primary_152 (by decide) ?_
                  obtain ⟨og20, g20, eg20, hf⟩ := xtb_e hf
                  refine mv_callVUi (pc := 155) (n := 1) (ci := 12) (C := R_Book) B (mK_ok sk sv) hNs rfl rfl (ih.2.2.2.2.2.2.2.1 _ _ _ _ (xrw r_g10 hb) eg20) rfl (ma_goodc kc_Book_called) (B.2.2.2.1 _ k_2284) (B.2.2.2.1 _ k_2286) (B.2.2.2.1 _ ks_113) (B.2.2.2.1 _ k_13) ⟨by decide +kernel, by decide +kernel, by decide +kernel⟩ rfl d_Book_primary_155 rfl (Nat.le_of_ble_eq_true rfl) ⟨by first | decide | (dsimp only; omega), by first | decide | (dsimp only; omega)⟩ ⟨Nat.le_refl _, Nat.le_refl _⟩ ⟨Nat.le_refl _, Nat.le_refl _⟩ (mv_noH hno _) (fun τ9 g9 => Or.inr ⟨rfl, xth hf g9 r_g10⟩) (fun u21 σ155 h155 => ?_)
                  obtain ⟨rfl, rfl, s_g20⟩ := h155
                  have hf := xt2_s hf
                  have r_g20 : mv_r g20 = mv_r h := s_g20.trans r_g10
                  exact mv_iret (pc := 158) B hr rfl d_Book_primary_158 (Nat.le_refl _) (Nat.le_refl _) (Or.inl ⟨_, rfl, xrt_i hf r_g20⟩)
              · skip
                have hf := xif_f h130 hf
                refine mv_aload_n (pc := 133) B d_Book_primary_133 rfl 0 rfl ?_
                refine mv_sipush (pc := 134) (v := 1001) B d_Book_primary_134 (by decide) ?_
                obtain ⟨og22, g22, eg22, hf⟩ := xtb_e hf
                refine mv_callVUi (pc := 137) (n := 1) (ci := 12) (C := R_Book) B (mK_ok sk sv) hNs rfl rfl (ih.2.2.2.2.2.2.2.1 _ _ _ _ (xrw r_g8 hb) eg22) rfl (ma_goodc kc_Book_called) (B.2.2.2.1 _ k_2284) (B.2.2.2.1 _ k_2286) (B.2.2.2.1 _ ks_113) (B.2.2.2.1 _ k_13) ⟨by decide +kernel, by decide +kernel, by decide +kernel⟩ rfl d_Book_primary_137 rfl (Nat.le_of_ble_eq_true rfl) ⟨by first | decide | (dsimp only; omega), by first | decide | (dsimp only; omega)⟩ ⟨Nat.le_refl _, Nat.le_refl _⟩ ⟨Nat.le_refl _, Nat.le_refl _⟩ (mv_noH hno _) (fun τ9 g9 => Or.inr ⟨rfl, xth hf g9 r_g8⟩) (fun u23 σ137 h137 => ?_)
                obtain ⟨rfl, rfl, s_g22⟩ := h137
                have hf := xt2_s hf
                have r_g22 : mv_r g22 = mv_r h := s_g22.trans r_g8
                exact mv_iret (pc := 140) B hr rfl d_Book_primary_140 (Nat.le_refl _) (Nat.le_refl _) (Or.inl ⟨_, rfl, xrt_i hf r_g22⟩)
            · skip
              have hf := xif_f h112 hf
              refine mv_aload_n (pc := 115) B d_Book_primary_115 rfl 0 rfl ?_
              refine mv_sipush (pc := 116) (v := 1000) B d_Book_primary_116 (by decide) ?_
              obtain ⟨og24, g24, eg24, hf⟩ := xtb_e hf
              refine mv_callVUi (pc := 119) (n := 1) (ci := 12) (C := R_Book) B (mK_ok sk sv) hNs rfl rfl (ih.2.2.2.2.2.2.2.1 _ _ _ _ (xrw r_g6 hb) eg24) rfl (ma_goodc kc_Book_called) (B.2.2.2.1 _ k_2284) (B.2.2.2.1 _ k_2286) (B.2.2.2.1 _ ks_113) (B.2.2.2.1 _ k_13) ⟨by decide +kernel, by decide +kernel, by decide +kernel⟩ rfl d_Book_primary_119 rfl (Nat.le_of_ble_eq_true rfl) ⟨by first | decide | (dsimp only; omega), by first | decide | (dsimp only; omega)⟩ ⟨Nat.le_refl _, Nat.le_refl _⟩ ⟨Nat.le_refl _, Nat.le_refl _⟩ (mv_noH hno _) (fun τ9 g9 => Or.inr ⟨rfl, xth hf g9 r_g6⟩) (fun u25 σ119 h119 => ?_)
              obtain ⟨rfl, rfl, s_g24⟩ := h119
              have hf := xt2_s hf
              have r_g24 : mv_r g24 = mv_r h := s_g24.trans r_g6
              exact mv_iret (pc := 122) B hr rfl d_Book_primary_122 (Nat.le_refl _) (Nat.le_refl _) (Or.inl ⟨_, rfl, xrt_i hf r_g24⟩)
          · skip
            have hf := xif_f h96 hf
            refine mv_aload_n (pc := 99) B d_Book_primary_99 rfl 0 rfl ?_
            refine mv_iconst (pc := 100) (v := 0) B d_Book_primary_100 (by decide) ?_
            obtain ⟨og26, g26, eg26, hf⟩ := xtb_e hf
            refine mv_callVUi (pc := 101) (n := 1) (ci := 12) (C := R_Book) B (mK_ok sk sv) hNs rfl rfl (ih.2.2.2.2.2.2.1 _ _ _ _ (xrw r_g4 hb) eg26) rfl (ma_goodc kc_Book_wider) (B.2.2.2.1 _ k_2278) (B.2.2.2.1 _ k_2280) (B.2.2.2.1 _ ks_112) (B.2.2.2.1 _ k_13) ⟨by decide +kernel, by decide +kernel, by decide +kernel⟩ rfl d_Book_primary_101 rfl (Nat.le_of_ble_eq_true rfl) ⟨by first | decide | (dsimp only; omega), by first | decide | (dsimp only; omega)⟩ ⟨Nat.le_refl _, Nat.le_refl _⟩ ⟨Nat.le_refl _, Nat.le_refl _⟩ (mv_noH hno _) (fun τ9 g9 => Or.inr ⟨rfl, xth hf g9 r_g4⟩) (fun u27 σ101 h101 => ?_)
            obtain ⟨rfl, rfl, s_g26⟩ := h101
            have hf := xt2_s hf
            have r_g26 : mv_r g26 = mv_r h := s_g26.trans r_g4
            exact mv_iret (pc := 104) B hr rfl d_Book_primary_104 (Nat.le_refl _) (Nat.le_refl _) (Or.inl ⟨_, rfl, xrt_i hf r_g26⟩)
        · skip
          have hf := xif_f h80 hf
          refine mv_aload_n (pc := 83) B d_Book_primary_83 rfl 0 rfl ?_
          refine mv_iconst (pc := 84) (v := 1) B d_Book_primary_84 (by decide) ?_
          obtain ⟨og28, g28, eg28, hf⟩ := xtb_e hf
          refine mv_callVUi (pc := 85) (n := 1) (ci := 12) (C := R_Book) B (mK_ok sk sv) hNs rfl rfl (ih.2.2.2.2.2.2.1 _ _ _ _ (xrw r_g2 hb) eg28) rfl (ma_goodc kc_Book_wider) (B.2.2.2.1 _ k_2278) (B.2.2.2.1 _ k_2280) (B.2.2.2.1 _ ks_112) (B.2.2.2.1 _ k_13) ⟨by decide +kernel, by decide +kernel, by decide +kernel⟩ rfl d_Book_primary_85 rfl (Nat.le_of_ble_eq_true rfl) ⟨by first | decide | (dsimp only; omega), by first | decide | (dsimp only; omega)⟩ ⟨Nat.le_refl _, Nat.le_refl _⟩ ⟨Nat.le_refl _, Nat.le_refl _⟩ (mv_noH hno _) (fun τ9 g9 => Or.inr ⟨rfl, xth hf g9 r_g2⟩) (fun u29 σ85 h85 => ?_)
          obtain ⟨rfl, rfl, s_g28⟩ := h85
          have hf := xt2_s hf
          have r_g28 : mv_r g28 = mv_r h := s_g28.trans r_g2
          exact mv_iret (pc := 88) B hr rfl d_Book_primary_88 (Nat.le_refl _) (Nat.le_refl _) (Or.inl ⟨_, rfl, xrt_i hf r_g28⟩)
      · skip
        have hf := xif_t h65 hf
        refine mv_aload_n (pc := 68) B d_Book_primary_68 rfl 0 rfl ?_
        obtain ⟨og30, g30, eg30, hf⟩ := xtb_e hf
        refine mv_callVUi (pc := 69) (n := 0) (ci := 12) (C := R_Book) B (mK_ok sk sv) hNs rfl rfl (ih.2.2.2.2.2.2.2.2 _ _ _ _ (hb) eg30) rfl (ma_goodc kc_Book_together) (B.2.2.2.1 _ k_2273) (B.2.2.2.1 _ k_2275) (B.2.2.2.1 _ ks_111) (B.2.2.2.1 _ k_13) ⟨by decide +kernel, by decide +kernel, by decide +kernel⟩ rfl d_Book_primary_69 rfl (Nat.le_of_ble_eq_true rfl) ⟨by first | decide | (dsimp only; omega), by first | decide | (dsimp only; omega)⟩ ⟨Nat.le_refl _, Nat.le_refl _⟩ ⟨Nat.le_refl _, Nat.le_refl _⟩ (mv_noH hno _) (fun τ9 g9 => Or.inr ⟨rfl, xth hf g9 rfl⟩) (fun u31 σ69 h69 => ?_)
        obtain ⟨rfl, rfl, s_g30⟩ := h69
        have hf := xt2_s hf
        have r_g30 : mv_r g30 = mv_r h := s_g30.trans rfl
        exact mv_iret (pc := 72) B hr rfl d_Book_primary_72 (Nat.le_refl _) (Nat.le_refl _) (Or.inl ⟨_, rfl, xrt_i hf r_g30⟩)
    · skip
      have hf := xif_t h19 hf
      refine mv_aload_n (pc := 22) B d_Book_primary_22 rfl 0 rfl ?_
      obtain ⟨og32, g32, eg32, hf⟩ := xtb_e hf
      refine mv_callVUv (pc := 23) (n := 0) (ci := 12) (C := R_Book) B (mK_ok sk sv) hNs rfl rfl (ch_Book_pass_y l hi _ (hb) eg32) rfl (ma_goodc kc_Book_pass) (B.2.2.2.1 _ k_2173) (B.2.2.2.1 _ k_2175) (B.2.2.2.1 _ ks_90) (B.2.2.2.1 _ k_13) ⟨by decide +kernel, by decide +kernel, by decide +kernel⟩ rfl d_Book_primary_23 rfl (Nat.le_of_ble_eq_true rfl) ⟨by first | decide | (dsimp only; omega), by first | decide | (dsimp only; omega)⟩ ⟨Nat.le_refl _, Nat.le_refl _⟩ ⟨Nat.le_refl _, Nat.le_refl _⟩ (mv_noH hno _) (fun τ9 g9 => Or.inr ⟨rfl, xth hf g9 rfl⟩) (fun σ23 h23 => ?_)
      obtain ⟨rfl, rfl, s_g32⟩ := h23
      have hf := xt2_s hf
      have r_g32 : mv_r g32 = mv_r h := s_g32.trans rfl
      refine mv_aload_n (pc := 26) B d_Book_primary_26 rfl 0 rfl ?_
      refine mv_dup (pc := 27) B d_Book_primary_27 rfl ?_
      refine mv_getI (pc := 28) (ci := 12) (C := R_Book) (T := F_Book) (N := 65) B 8 rfl rfl (by decide) i_Book (B.2.2.2.1 _ k_1851) rfl d_Book_primary_28 ?_
      refine mv_iconst (pc := 31) (v := 1) B d_Book_primary_31 (by decide) ?_
      refine mv_iadd (pc := 32) B d_Book_primary_32 ?_
      refine mv_putI (pc := 33) (ci := 12) (C := R_Book) (T := F_Book) (N := 65) B 8 rfl rfl (by decide) i_Book t_Book_ok n_Book (B.2.2.2.1 _ k_1851) rfl rfl rfl rfl d_Book_primary_33 ?_
      refine mvh_hp (R9 := mv_r h) hf r_g32 (fun g34 hf r_g34 => ?_)
      refine mv_aload_n (pc := 36) B d_Book_primary_36 rfl 0 rfl ?_
      obtain ⟨og35, g35, eg35, hf⟩ := xtb_e hf
      refine mv_callVUi (pc := 37) (n := 0) (ci := 12) (C := R_Book) B (mK_ok sk sv) hNs rfl rfl (ih.1 _ _ _ _ (xrw r_g34 hb) eg35) rfl (ma_goodc kc_Book_expression) (B.2.2.2.1 _ k_2245) (B.2.2.2.1 _ k_2247) (B.2.2.2.1 _ ks_104) (B.2.2.2.1 _ k_13) ⟨by decide +kernel, by decide +kernel, by decide +kernel⟩ rfl d_Book_primary_37 rfl (Nat.le_of_ble_eq_true rfl) ⟨by first | decide | (dsimp only; omega), by first | decide | (dsimp only; omega)⟩ ⟨Nat.le_refl _, Nat.le_refl _⟩ ⟨Nat.le_refl _, Nat.le_refl _⟩ (mv_noH hno _) (fun τ9 g9 => Or.inr ⟨rfl, xth hf g9 r_g34⟩) (fun u36 σ37 h37 => ?_)
      obtain ⟨rfl, rfl, s_g35⟩ := h37
      have hf := xt2_s hf
      have r_g35 : mv_r g35 = mv_r h := s_g35.trans r_g34
      refine mv_istore_n (pc := 40) B d_Book_primary_40 rfl (by decide) rfl ?_
      refine mv_aload_n (pc := 41) B d_Book_primary_41 rfl 1 rfl ?_
      refine mv_bipush (pc := 42) (v := 41) B d_Book_primary_42 (by decide) ?_
      obtain ⟨og37, g37, eg37, hf⟩ := xtb_e hf
      refine mv_callVUv (pc := 44) (n := 1) (ci := 12) (C := R_Book) B (mK_ok sk sv) hNs rfl rfl (ch_Book_need_y l hi _ (xrw r_g35 hb) _ eg37) rfl (ma_goodc kc_Book_need) (B.2.2.2.1 _ k_2177) (B.2.2.2.1 _ k_2179) (B.2.2.2.1 _ ks_91) (B.2.2.2.1 _ k_13) ⟨by decide +kernel, by decide +kernel, by decide +kernel⟩ rfl d_Book_primary_44 rfl (Nat.le_of_ble_eq_true rfl) ⟨by first | decide | (dsimp only; omega), by first | decide | (dsimp only; omega)⟩ ⟨Nat.le_refl _, Nat.le_refl _⟩ ⟨Nat.le_refl _, Nat.le_refl _⟩ (mv_noH hno _) (fun τ9 g9 => Or.inr ⟨rfl, xth hf g9 r_g35⟩) (fun σ44 h44 => ?_)
      obtain ⟨rfl, rfl, s_g37⟩ := h44
      have hf := xt2_s hf
      have r_g37 : mv_r g37 = mv_r h := s_g37.trans r_g35
      refine mv_aload_n (pc := 47) B d_Book_primary_47 rfl 1 rfl ?_
      refine mv_dup (pc := 48) B d_Book_primary_48 rfl ?_
      refine mv_getI (pc := 49) (ci := 12) (C := R_Book) (T := F_Book) (N := 65) B 8 rfl rfl (by decide) i_Book (B.2.2.2.1 _ k_1851) rfl d_Book_primary_49 ?_
      refine mv_iconst (pc := 52) (v := 1) B d_Book_primary_52 (by decide) ?_
      refine mv_isub (pc := 53) B d_Book_primary_53 ?_
      refine mv_putI (pc := 54) (ci := 12) (C := R_Book) (T := F_Book) (N := 65) B 8 rfl rfl (by decide) i_Book t_Book_ok n_Book (B.2.2.2.1 _ k_1851) rfl rfl rfl rfl d_Book_primary_54 ?_
      refine mvh_hp (R9 := mv_r h) hf r_g37 (fun g39 hf r_g39 => ?_)
      refine mv_iload_n (pc := 57) B d_Book_primary_57 rfl 0 rfl ?_
      exact mv_iret (pc := 58) B hr rfl d_Book_primary_58 (Nat.le_refl _) (Nat.le_refl _) (Or.inl ⟨_, rfl, xrt_i hf r_g39⟩)
  · skip
    have hf := xif_t h5 hf
    refine mv_aload_n (pc := 8) B d_Book_primary_8 rfl 0 rfl ?_
    obtain ⟨og40, g40, eg40, hf⟩ := xtb_e hf
    refine mv_callVUi (pc := 9) (n := 0) (ci := 12) (C := R_Book) B (mK_ok sk sv) hNs rfl rfl (ch_Book_literal_y l hi _ (hb) eg40) rfl (ma_goodc kc_Book_literal) (B.2.2.2.1 _ k_2265) (B.2.2.2.1 _ k_2267) (B.2.2.2.1 _ ks_109) (B.2.2.2.1 _ k_13) ⟨by decide +kernel, by decide +kernel, by decide +kernel⟩ rfl d_Book_primary_9 rfl (Nat.le_of_ble_eq_true rfl) ⟨by first | decide | (dsimp only; omega), by first | decide | (dsimp only; omega)⟩ ⟨Nat.le_refl _, Nat.le_refl _⟩ ⟨Nat.le_refl _, Nat.le_refl _⟩ (mv_noH hno _) (fun τ9 g9 => Or.inr ⟨rfl, xth hf g9 rfl⟩) (fun u41 σ9 h9 => ?_)
    obtain ⟨rfl, rfl, s_g40⟩ := h9
    have hf := xt2_s hf
    have r_g40 : mv_r g40 = mv_r h := s_g40.trans rfl
    exact mv_iret (pc := 12) B hr rfl d_Book_primary_12 (Nat.le_refl _) (Nat.le_refl _) (Or.inl ⟨_, rfl, xrt_i hf r_g40⟩)
set_option maxHeartbeats 4000000 in
set_option maxRecDepth 100000 in
theorem cr_Book_named_y (l : Launch) {dA : FieldType → ClassId} {D : va_G} {al : Nat → Nat} {ext : mv_Sh} {sk sv : Nat → Nat} (hi : mv_inj (mg dA D al ext)) (nn : Nat) (ih : RecX l dA D al ext sk sv 108 nn) (h : mv_H) (hb : Br 108 (mv_r h))  {rv : Option Int32} {rg : mv_H} (hf : f_Book_named 108 (f_BookR 108 nn) h = some (rv, rg)) : mv_C l y_Book_named (Cond.code y_Book_named b_Book_named 6 (Option.some Jvm.ClassFile.FieldType.int) :: ma) ({ frames := nn + 1 + 7, cells := 0, slots := 0, locals := 60 * (nn + 1) + 400 }) (mg dA D al ext) (mK sk sv) [.ref (al 108)] h (mv_Ui (fun v σ1 => rv = some v ∧ rg = σ1 ∧ mv_r σ1 = mv_r h) ("MachineLoomModel$Book$Wrong", al 141) (fun σ1 => rv = none ∧ rg = σ1 ∧ mv_r σ1 = mv_r h)) := by
  refine mv_C.ofV (cc := b_Book_named) (nL := 6) (ret := (Option.some Jvm.ClassFile.FieldType.int)) (by decide +kernel) rfl hi (Nat.le_of_ble_eq_true rfl) ?_
  intro p e s m below meth c B hNs hr hnm hno
  have jn223 : ∀ (y0 : Int32) (y1 : Int32) (y2 : Int32) (y3 : Int32) (y4 : Int32) (hz : mv_H), mv_r hz = mv_r h → f_Book_named_223 108 (f_BookR 108 nn) y0 y1 y2 y3 y4 hz = some (rv, rg) → mv_V p l e ({ frames := nn + 1 + 7, cells := 0, slots := 0, locals := 60 * (nn + 1) + 400 }) s m ([.ref (al 108)] : List Value).toArray below meth c (mg dA D al ext) 6 0 0 (mv_Q (mg dA D al ext) below s 0 0 (mv_Ui (fun v σ1 => rv = some v ∧ rg = σ1 ∧ mv_r σ1 = mv_r h) ("MachineLoomModel$Book$Wrong", al 141) (fun σ1 => rv = none ∧ rg = σ1 ∧ mv_r σ1 = mv_r h))) hz 223 [] [.int y0, .int y1, .int y2, .int y3, .int y4, .ref (al 108)] := by
    intro y0 y1 y2 y3 y4 hz r_hz hf
    unfold f_Book_named_223 at hf
    obtain ⟨u2, g1, eg1, hf⟩ := xhb_e hf
    refine mv_callVi (pc := 223) (n := 5) (ci := 12) (C := R_Book) B (mK_ok sk sv) hNs rfl rfl (ch_Book_node_y l hi _ (xrw r_hz hb) _ _ _ _ _ eg1) rfl (ma_goodc kc_Book_node) (B.2.2.2.1 _ k_2269) (B.2.2.2.1 _ k_2271) (B.2.2.2.1 _ ks_110) (B.2.2.2.1 _ k_13) ⟨by decide +kernel, by decide +kernel, by decide +kernel⟩ rfl d_Book_named_223 rfl (Nat.le_of_ble_eq_true rfl) ⟨by first | decide | (dsimp only; omega), by first | decide | (dsimp only; omega)⟩ ⟨Nat.le_refl _, Nat.le_refl _⟩ ⟨Nat.le_refl _, Nat.le_refl _⟩ (mv_noH hno _) (fun w223 σ223 h223 => ?_)
    obtain ⟨rfl, rfl, s_g1⟩ := h223
    have r_g1 : mv_r g1 = mv_r h := s_g1.trans r_hz
    exact mv_iret (pc := 226) B hr rfl d_Book_named_226 (Nat.le_refl _) (Nat.le_refl _) (Or.inl ⟨_, rfl, xrt_i hf r_g1⟩)
  unfold f_Book_named at hf
  refine mv_aload_n (pc := 0) B d_Book_named_0 rfl 0 rfl ?_
  refine mv_getI (pc := 1) (ci := 12) (C := R_Book) (T := F_Book) (N := 65) B 5 rfl rfl (by decide) i_Book (B.2.2.2.1 _ k_1848) rfl d_Book_named_1 ?_
  refine mv_istore_n (pc := 4) B d_Book_named_4 rfl (by decide) rfl ?_
  refine mv_aload_n (pc := 5) B d_Book_named_5 rfl 1 rfl ?_
  refine mv_getI (pc := 6) (ci := 12) (C := R_Book) (T := F_Book) (N := 65) B 6 rfl rfl (by decide) i_Book (B.2.2.2.1 _ k_1849) rfl d_Book_named_6 ?_
  refine mv_istore_n (pc := 9) B d_Book_named_9 rfl (by decide) rfl ?_
  refine mv_aload_n (pc := 10) B d_Book_named_10 rfl 2 rfl ?_
  obtain ⟨og3, g3, eg3, hf⟩ := xtb_e hf
  refine mv_callVUv (pc := 11) (n := 0) (ci := 12) (C := R_Book) B (mK_ok sk sv) hNs rfl rfl (ch_Book_pass_y l hi _ (hb) eg3) rfl (ma_goodc kc_Book_pass) (B.2.2.2.1 _ k_2173) (B.2.2.2.1 _ k_2175) (B.2.2.2.1 _ ks_90) (B.2.2.2.1 _ k_13) ⟨by decide +kernel, by decide +kernel, by decide +kernel⟩ rfl d_Book_named_11 rfl (Nat.le_of_ble_eq_true rfl) ⟨by first | decide | (dsimp only; omega), by first | decide | (dsimp only; omega)⟩ ⟨Nat.le_refl _, Nat.le_refl _⟩ ⟨Nat.le_refl _, Nat.le_refl _⟩ (mv_noH hno _) (fun τ9 g9 => Or.inr ⟨rfl, xth hf g9 rfl⟩) (fun σ11 h11 => ?_)
  obtain ⟨rfl, rfl, s_g3⟩ := h11
  have hf := xt2_s hf
  have r_g3 : mv_r g3 = mv_r h := s_g3.trans rfl
  refine mv_aload_n (pc := 14) B d_Book_named_14 rfl 2 rfl ?_
  refine mv_iload_n (pc := 15) B d_Book_named_15 rfl 1 rfl ?_
  refine mv_iload_n (pc := 16) B d_Book_named_16 rfl 0 rfl ?_
  obtain ⟨u6, g5, eg5, hf⟩ := xhb_e hf
  refine mv_callVi (pc := 17) (n := 2) (ci := 12) (C := R_Book) B (mK_ok sk sv) hNs rfl rfl (ch_Book_let_y l hi _ (xrw r_g3 hb) _ _ eg5) rfl (ma_goodc kc_Book_let) (B.2.2.2.1 _ k_2305) (B.2.2.2.1 _ k_2307) (B.2.2.2.1 _ ks_116) (B.2.2.2.1 _ k_13) ⟨by decide +kernel, by decide +kernel, by decide +kernel⟩ rfl d_Book_named_17 rfl (Nat.le_of_ble_eq_true rfl) ⟨by first | decide | (dsimp only; omega), by first | decide | (dsimp only; omega)⟩ ⟨Nat.le_refl _, Nat.le_refl _⟩ ⟨Nat.le_refl _, Nat.le_refl _⟩ (mv_noH hno _) (fun w17 σ17 h17 => ?_)
  obtain ⟨rfl, rfl, s_g5⟩ := h17
  have r_g5 : mv_r g5 = mv_r h := s_g5.trans r_g3
  refine mv_istore_n (pc := 20) B d_Book_named_20 rfl (by decide) rfl ?_
  refine mv_iload_n (pc := 21) B d_Book_named_21 rfl 0 rfl ?_
  refine mv_if_lt (pc := 22) (tgt := 45) B d_Book_named_22 rfl (fun h22 => ?_) (fun h22 => ?_)
  · skip
    have hf := xif_t h22 hf
    refine mv_aload_n (pc := 45) B d_Book_named_45 rfl 3 rfl ?_
    refine mv_iload_n (pc := 46) B d_Book_named_46 rfl 2 rfl ?_
    refine mv_iload_n (pc := 47) B d_Book_named_47 rfl 1 rfl ?_
    obtain ⟨u8, g7, eg7, hf⟩ := xhb_e hf
    refine mv_callVi (pc := 48) (n := 2) (ci := 12) (C := R_Book) B (mK_ok sk sv) hNs rfl rfl (ch_Book_isField_y l hi _ (xrw r_g5 hb) _ _ eg7) rfl (ma_goodc kc_Book_isField) (B.2.2.2.1 _ k_2309) (B.2.2.2.1 _ k_2311) (B.2.2.2.1 _ ks_117) (B.2.2.2.1 _ k_13) ⟨by decide +kernel, by decide +kernel, by decide +kernel⟩ rfl d_Book_named_48 rfl (Nat.le_of_ble_eq_true rfl) ⟨by first | decide | (dsimp only; omega), by first | decide | (dsimp only; omega)⟩ ⟨Nat.le_refl _, Nat.le_refl _⟩ ⟨Nat.le_refl _, Nat.le_refl _⟩ (mv_noH hno _) (fun w48 σ48 h48 => ?_)
    obtain ⟨rfl, rfl, s_g7⟩ := h48
    have r_g7 : mv_r g7 = mv_r h := s_g7.trans r_g5
    refine mv_if_eq (pc := 51) (tgt := 76) B d_Book_named_51 rfl (fun h51 => ?_) (fun h51 => ?_)
    · skip
      have hf := xif_t h51 hf
      refine mv_aload_n (pc := 76) B d_Book_named_76 rfl 3 rfl ?_
      refine mv_iload_n (pc := 77) B d_Book_named_77 rfl 2 rfl ?_
      refine mv_iload_n (pc := 78) B d_Book_named_78 rfl 1 rfl ?_
      obtain ⟨u10, g9, eg9, hf⟩ := xhb_e hf
      refine mv_callVi (pc := 79) (n := 2) (ci := 12) (C := R_Book) B (mK_ok sk sv) hNs rfl rfl (ch_Book_thing_y l hi _ (xrw r_g7 hb) _ _ eg9) rfl (ma_goodc kc_Book_thing) (B.2.2.2.1 _ k_2212) (B.2.2.2.1 _ k_2214) (B.2.2.2.1 _ ks_97) (B.2.2.2.1 _ k_13) ⟨by decide +kernel, by decide +kernel, by decide +kernel⟩ rfl d_Book_named_79 rfl (Nat.le_of_ble_eq_true rfl) ⟨by first | decide | (dsimp only; omega), by first | decide | (dsimp only; omega)⟩ ⟨Nat.le_refl _, Nat.le_refl _⟩ ⟨Nat.le_refl _, Nat.le_refl _⟩ (mv_noH hno _) (fun w79 σ79 h79 => ?_)
      obtain ⟨rfl, rfl, s_g9⟩ := h79
      have r_g9 : mv_r g9 = mv_r h := s_g9.trans r_g7
      refine mv_istore (pc := 82) B d_Book_named_82 (by decide) rfl ?_
      refine mv_iload (pc := 84) B d_Book_named_84 0 rfl ?_
      refine mv_if_ge (pc := 86) (tgt := 106) B d_Book_named_86 rfl (fun h86 => ?_) (fun h86 => ?_)
      · skip
        have hf := xif_t h86 hf
        refine mv_aload_n (pc := 106) B d_Book_named_106 rfl 4 rfl ?_
        refine mv_getR (pc := 107) (ci := 12) (C := R_Book) (T := F_Book) (N := 65) B 15 rfl rfl (by decide) i_Book (B.2.2.2.1 _ k_1858) rfl ((congrFun (congrFun r_g9 108) 15).trans (hb.1 108 15 _ rfl)) d_Book_named_107 ?_
        refine mv_iload (pc := 110) B d_Book_named_110 0 rfl ?_
        obtain ⟨q11, hf⟩ := xvi_e hf
        refine mv_zald (pc := 112) B rfl q11 d_Book_named_112 ?_
        refine mv_if_ne (pc := 113) (tgt := 133) B d_Book_named_113 rfl (fun h113 => ?_) (fun h113 => ?_)
        · skip
          have hf := xif_f h113 hf
          refine mv_aload_n (pc := 133) B d_Book_named_133 rfl 4 rfl ?_
          refine mv_getI (pc := 134) (ci := 12) (C := R_Book) (T := F_Book) (N := 65) B 4 rfl rfl (by decide) i_Book (B.2.2.2.1 _ k_1847) rfl d_Book_named_134 ?_
          refine mv_bipush (pc := 137) (v := 91) B d_Book_named_137 (by decide) ?_
          refine mv_icmp_eq (pc := 139) (tgt := 159) B d_Book_named_139 rfl (fun h139 => ?_) (fun h139 => ?_)
          · skip
            have hf := xif_t h139 hf
            refine mv_aload_n (pc := 159) B d_Book_named_159 rfl 4 rfl ?_
            obtain ⟨og12, g12, eg12, hf⟩ := xtb_e hf
            refine mv_callVUv (pc := 160) (n := 0) (ci := 12) (C := R_Book) B (mK_ok sk sv) hNs rfl rfl (ch_Book_pass_y l hi _ (xrw r_g9 hb) eg12) rfl (ma_goodc kc_Book_pass) (B.2.2.2.1 _ k_2173) (B.2.2.2.1 _ k_2175) (B.2.2.2.1 _ ks_90) (B.2.2.2.1 _ k_13) ⟨by decide +kernel, by decide +kernel, by decide +kernel⟩ rfl d_Book_named_160 rfl (Nat.le_of_ble_eq_true rfl) ⟨by first | decide | (dsimp only; omega), by first | decide | (dsimp only; omega)⟩ ⟨Nat.le_refl _, Nat.le_refl _⟩ ⟨Nat.le_refl _, Nat.le_refl _⟩ (mv_noH hno _) (fun τ9 g9 => Or.inr ⟨rfl, xth hf g9 r_g9⟩) (fun σ160 h160 => ?_)
            obtain ⟨rfl, rfl, s_g12⟩ := h160
            have hf := xt2_s hf
            have r_g12 : mv_r g12 = mv_r h := s_g12.trans r_g9
            refine mv_aload_n (pc := 163) B d_Book_named_163 rfl 4 rfl ?_
            refine mv_dup (pc := 164) B d_Book_named_164 rfl ?_
            refine mv_getI (pc := 165) (ci := 12) (C := R_Book) (T := F_Book) (N := 65) B 8 rfl rfl (by decide) i_Book (B.2.2.2.1 _ k_1851) rfl d_Book_named_165 ?_
            refine mv_iconst (pc := 168) (v := 1) B d_Book_named_168 (by decide) ?_
            refine mv_iadd (pc := 169) B d_Book_named_169 ?_
            refine mv_putI (pc := 170) (ci := 12) (C := R_Book) (T := F_Book) (N := 65) B 8 rfl rfl (by decide) i_Book t_Book_ok n_Book (B.2.2.2.1 _ k_1851) rfl rfl rfl rfl d_Book_named_170 ?_
            refine mvh_hp (R9 := mv_r h) hf r_g12 (fun g14 hf r_g14 => ?_)
            refine mv_aload_n (pc := 173) B d_Book_named_173 rfl 4 rfl ?_
            obtain ⟨og15, g15, eg15, hf⟩ := xtb_e hf
            refine mv_callVUi (pc := 174) (n := 0) (ci := 12) (C := R_Book) B (mK_ok sk sv) hNs rfl rfl (ih.1 _ _ _ _ (xrw r_g14 hb) eg15) rfl (ma_goodc kc_Book_expression) (B.2.2.2.1 _ k_2245) (B.2.2.2.1 _ k_2247) (B.2.2.2.1 _ ks_104) (B.2.2.2.1 _ k_13) ⟨by decide +kernel, by decide +kernel, by decide +kernel⟩ rfl d_Book_named_174 rfl (Nat.le_of_ble_eq_true rfl) ⟨by first | decide | (dsimp only; omega), by first | decide | (dsimp only; omega)⟩ ⟨Nat.le_refl _, Nat.le_refl _⟩ ⟨Nat.le_refl _, Nat.le_refl _⟩ (mv_noH hno _) (fun τ9 g9 => Or.inr ⟨rfl, xth hf g9 r_g14⟩) (fun u16 σ174 h174 => ?_)
            obtain ⟨rfl, rfl, s_g15⟩ := h174
            have hf := xt2_s hf
            have r_g15 : mv_r g15 = mv_r h := s_g15.trans r_g14
            refine mv_istore (pc := 177) B d_Book_named_177 (by decide) rfl ?_
            refine mv_aload_n (pc := 179) B d_Book_named_179 rfl 5 rfl ?_
            refine mv_bipush (pc := 180) (v := 93) B d_Book_named_180 (by decide) ?_
            obtain ⟨og17, g17, eg17, hf⟩ := xtb_e hf
            refine mv_callVUv (pc := 182) (n := 1) (ci := 12) (C := R_Book) B (mK_ok sk sv) hNs rfl rfl (ch_Book_need_y l hi _ (xrw r_g15 hb) _ eg17) rfl (ma_goodc kc_Book_need) (B.2.2.2.1 _ k_2177) (B.2.2.2.1 _ k_2179) (B.2.2.2.1 _ ks_91) (B.2.2.2.1 _ k_13) ⟨by decide +kernel, by decide +kernel, by decide +kernel⟩ rfl d_Book_named_182 rfl (Nat.le_of_ble_eq_true rfl) ⟨by first | decide | (dsimp only; omega), by first | decide | (dsimp only; omega)⟩ ⟨Nat.le_refl _, Nat.le_refl _⟩ ⟨Nat.le_refl _, Nat.le_refl _⟩ (mv_noH hno _) (fun τ9 g9 => Or.inr ⟨rfl, xth hf g9 r_g15⟩) (fun σ182 h182 => ?_)
            obtain ⟨rfl, rfl, s_g17⟩ := h182
            have hf := xt2_s hf
            have r_g17 : mv_r g17 = mv_r h := s_g17.trans r_g15
            refine mv_aload_n (pc := 185) B d_Book_named_185 rfl 5 rfl ?_
            refine mv_dup (pc := 186) B d_Book_named_186 rfl ?_
            refine mv_getI (pc := 187) (ci := 12) (C := R_Book) (T := F_Book) (N := 65) B 8 rfl rfl (by decide) i_Book (B.2.2.2.1 _ k_1851) rfl d_Book_named_187 ?_
            refine mv_iconst (pc := 190) (v := 1) B d_Book_named_190 (by decide) ?_
            refine mv_isub (pc := 191) B d_Book_named_191 ?_
            refine mv_putI (pc := 192) (ci := 12) (C := R_Book) (T := F_Book) (N := 65) B 8 rfl rfl (by decide) i_Book t_Book_ok n_Book (B.2.2.2.1 _ k_1851) rfl rfl rfl rfl d_Book_named_192 ?_
            refine mvh_hp (R9 := mv_r h) hf r_g17 (fun g19 hf r_g19 => ?_)
            refine mv_aload_n (pc := 195) B d_Book_named_195 rfl 5 rfl ?_
            refine mv_iconst (pc := 196) (v := 3) B d_Book_named_196 (by decide) ?_
            refine mv_iload (pc := 197) B d_Book_named_197 1 rfl ?_
            refine mv_iload (pc := 199) B d_Book_named_199 0 rfl ?_
            refine mv_iconst (pc := 201) (v := 0) B d_Book_named_201 (by decide) ?_
            refine mv_aload_n (pc := 202) B d_Book_named_202 rfl 5 rfl ?_
            refine mv_getR (pc := 203) (ci := 12) (C := R_Book) (T := F_Book) (N := 65) B 45 rfl rfl (by decide) i_Book (B.2.2.2.1 _ k_1894) rfl ((congrFun (congrFun r_g19 108) 45).trans (hb.1 108 45 _ rfl)) d_Book_named_203 ?_
            refine mv_iload (pc := 206) B d_Book_named_206 0 rfl ?_
            obtain ⟨q20, hf⟩ := xvi_e hf
            refine mv_iald (pc := 208) B rfl q20 d_Book_named_208 ?_
            refine mv_if_ne (pc := 209) (tgt := 216) B d_Book_named_209 rfl (fun h209 => ?_) (fun h209 => ?_)
            · skip
              have hf := xif_f h209 hf
              refine mv_aload_n (pc := 216) B d_Book_named_216 rfl 5 rfl ?_
              refine mv_getR (pc := 217) (ci := 12) (C := R_Book) (T := F_Book) (N := 65) B 12 rfl rfl (by decide) i_Book (B.2.2.2.1 _ k_1855) rfl ((congrFun (congrFun r_g19 108) 12).trans (hb.1 108 12 _ rfl)) d_Book_named_217 ?_
              refine mv_iload (pc := 220) B d_Book_named_220 1 rfl ?_
              obtain ⟨q21, hf⟩ := xvi_e hf
              refine mv_iald (pc := 222) B rfl q21 d_Book_named_222 ?_
              refine mv_lpick [] rfl ?_
              exact jn223 _ _ _ _ _ _ r_g19 hf
            · skip
              have hf := xif_t h209 hf
              refine mv_iconst (pc := 212) (v := 0) B d_Book_named_212 (by decide) ?_
              refine mv_goto (pc := 213) (tgt := 223) B d_Book_named_213 rfl ?_
              refine mv_lpick [] rfl ?_
              exact jn223 _ _ _ _ _ _ r_g19 hf
          · skip
            have hf := xif_f h139 hf
            refine mv_aload_n (pc := 142) B d_Book_named_142 rfl 4 rfl ?_
            refine mv_iconst (pc := 143) (v := 2) B d_Book_named_143 (by decide) ?_
            refine mv_iload_n (pc := 144) B d_Book_named_144 rfl 3 rfl ?_
            obtain ⟨g22, eg22, hf⟩ := xhv_e hf
            refine mv_callVv (pc := 145) (n := 2) (ci := 12) (C := R_Book) B (mK_ok sk sv) hNs rfl rfl (ch_Book_fault_y l hi _ _ _ eg22) rfl (ma_goodc kc_Book_fault) (B.2.2.2.1 _ k_2185) (B.2.2.2.1 _ k_2187) (B.2.2.2.1 _ ks_92) (B.2.2.2.1 _ k_13) ⟨by decide +kernel, by decide +kernel, by decide +kernel⟩ rfl d_Book_named_145 rfl (Nat.le_of_ble_eq_true rfl) ⟨by first | decide | (dsimp only; omega), by first | decide | (dsimp only; omega)⟩ ⟨Nat.le_refl _, Nat.le_refl _⟩ ⟨Nat.le_refl _, Nat.le_refl _⟩ (mv_noH hno _) (fun σ145 h145 => ?_)
            obtain ⟨rfl, s_g22⟩ := h145
            have r_g22 : mv_r g22 = mv_r h := s_g22.trans r_g9
            refine mv_aload_n (pc := 148) B d_Book_named_148 rfl 4 rfl ?_
            refine mv_bipush (pc := 149) (v := 13) B d_Book_named_149 (by decide) ?_
            refine mv_iconst (pc := 151) (v := 0) B d_Book_named_151 (by decide) ?_
            refine mv_iconst (pc := 152) (v := 0) B d_Book_named_152 (by decide) ?_
            refine mv_iconst (pc := 153) (v := 0) B d_Book_named_153 (by decide) ?_
            refine mv_iconst (pc := 154) (v := 0) B d_Book_named_154 (by decide) ?_
            obtain ⟨u25, g24, eg24, hf⟩ := xhb_e hf
            refine mv_callVi (pc := 155) (n := 5) (ci := 12) (C := R_Book) B (mK_ok sk sv) hNs rfl rfl (ch_Book_node_y l hi _ (xrw r_g22 hb) _ _ _ _ _ eg24) rfl (ma_goodc kc_Book_node) (B.2.2.2.1 _ k_2269) (B.2.2.2.1 _ k_2271) (B.2.2.2.1 _ ks_110) (B.2.2.2.1 _ k_13) ⟨by decide +kernel, by decide +kernel, by decide +kernel⟩ rfl d_Book_named_155 rfl (Nat.le_of_ble_eq_true rfl) ⟨by first | decide | (dsimp only; omega), by first | decide | (dsimp only; omega)⟩ ⟨Nat.le_refl _, Nat.le_refl _⟩ ⟨Nat.le_refl _, Nat.le_refl _⟩ (mv_noH hno _) (fun w155 σ155 h155 => ?_)
            obtain ⟨rfl, rfl, s_g24⟩ := h155
            have r_g24 : mv_r g24 = mv_r h := s_g24.trans r_g22
            exact mv_iret (pc := 158) B hr rfl d_Book_named_158 (Nat.le_refl _) (Nat.le_refl _) (Or.inl ⟨_, rfl, xrt_i hf r_g24⟩)
        · skip
          have hf := xif_t h113 hf
          refine mv_aload_n (pc := 116) B d_Book_named_116 rfl 4 rfl ?_
          refine mv_iconst (pc := 117) (v := 2) B d_Book_named_117 (by decide) ?_
          refine mv_iload (pc := 118) B d_Book_named_118 0 rfl ?_
          refine mv_iconst (pc := 120) (v := 0) B d_Book_named_120 (by decide) ?_
          refine mv_iconst (pc := 121) (v := 0) B d_Book_named_121 (by decide) ?_
          refine mv_aload_n (pc := 122) B d_Book_named_122 rfl 4 rfl ?_
          refine mv_getR (pc := 123) (ci := 12) (C := R_Book) (T := F_Book) (N := 65) B 12 rfl rfl (by decide) i_Book (B.2.2.2.1 _ k_1855) rfl ((congrFun (congrFun r_g9 108) 12).trans (hb.1 108 12 _ rfl)) d_Book_named_123 ?_
          refine mv_iload (pc := 126) B d_Book_named_126 0 rfl ?_
          obtain ⟨q26, hf⟩ := xvi_e hf
          refine mv_iald (pc := 128) B rfl q26 d_Book_named_128 ?_
          obtain ⟨u28, g27, eg27, hf⟩ := xhb_e hf
          refine mv_callVi (pc := 129) (n := 5) (ci := 12) (C := R_Book) B (mK_ok sk sv) hNs rfl rfl (ch_Book_node_y l hi _ (xrw r_g9 hb) _ _ _ _ _ eg27) rfl (ma_goodc kc_Book_node) (B.2.2.2.1 _ k_2269) (B.2.2.2.1 _ k_2271) (B.2.2.2.1 _ ks_110) (B.2.2.2.1 _ k_13) ⟨by decide +kernel, by decide +kernel, by decide +kernel⟩ rfl d_Book_named_129 rfl (Nat.le_of_ble_eq_true rfl) ⟨by first | decide | (dsimp only; omega), by first | decide | (dsimp only; omega)⟩ ⟨Nat.le_refl _, Nat.le_refl _⟩ ⟨Nat.le_refl _, Nat.le_refl _⟩ (mv_noH hno _) (fun w129 σ129 h129 => ?_)
          obtain ⟨rfl, rfl, s_g27⟩ := h129
          have r_g27 : mv_r g27 = mv_r h := s_g27.trans r_g9
          exact mv_iret (pc := 132) B hr rfl d_Book_named_132 (Nat.le_refl _) (Nat.le_refl _) (Or.inl ⟨_, rfl, xrt_i hf r_g27⟩)
      · skip
        have hf := xif_f h86 hf
        refine mv_aload_n (pc := 89) B d_Book_named_89 rfl 4 rfl ?_
        refine mv_iconst (pc := 90) (v := 2) B d_Book_named_90 (by decide) ?_
        refine mv_iload_n (pc := 91) B d_Book_named_91 rfl 3 rfl ?_
        obtain ⟨g29, eg29, hf⟩ := xhv_e hf
        refine mv_callVv (pc := 92) (n := 2) (ci := 12) (C := R_Book) B (mK_ok sk sv) hNs rfl rfl (ch_Book_fault_y l hi _ _ _ eg29) rfl (ma_goodc kc_Book_fault) (B.2.2.2.1 _ k_2185) (B.2.2.2.1 _ k_2187) (B.2.2.2.1 _ ks_92) (B.2.2.2.1 _ k_13) ⟨by decide +kernel, by decide +kernel, by decide +kernel⟩ rfl d_Book_named_92 rfl (Nat.le_of_ble_eq_true rfl) ⟨by first | decide | (dsimp only; omega), by first | decide | (dsimp only; omega)⟩ ⟨Nat.le_refl _, Nat.le_refl _⟩ ⟨Nat.le_refl _, Nat.le_refl _⟩ (mv_noH hno _) (fun σ92 h92 => ?_)
        obtain ⟨rfl, s_g29⟩ := h92
        have r_g29 : mv_r g29 = mv_r h := s_g29.trans r_g9
        refine mv_aload_n (pc := 95) B d_Book_named_95 rfl 4 rfl ?_
        refine mv_bipush (pc := 96) (v := 13) B d_Book_named_96 (by decide) ?_
        refine mv_iconst (pc := 98) (v := 0) B d_Book_named_98 (by decide) ?_
        refine mv_iconst (pc := 99) (v := 0) B d_Book_named_99 (by decide) ?_
        refine mv_iconst (pc := 100) (v := 0) B d_Book_named_100 (by decide) ?_
        refine mv_iconst (pc := 101) (v := 0) B d_Book_named_101 (by decide) ?_
        obtain ⟨u32, g31, eg31, hf⟩ := xhb_e hf
        refine mv_callVi (pc := 102) (n := 5) (ci := 12) (C := R_Book) B (mK_ok sk sv) hNs rfl rfl (ch_Book_node_y l hi _ (xrw r_g29 hb) _ _ _ _ _ eg31) rfl (ma_goodc kc_Book_node) (B.2.2.2.1 _ k_2269) (B.2.2.2.1 _ k_2271) (B.2.2.2.1 _ ks_110) (B.2.2.2.1 _ k_13) ⟨by decide +kernel, by decide +kernel, by decide +kernel⟩ rfl d_Book_named_102 rfl (Nat.le_of_ble_eq_true rfl) ⟨by first | decide | (dsimp only; omega), by first | decide | (dsimp only; omega)⟩ ⟨Nat.le_refl _, Nat.le_refl _⟩ ⟨Nat.le_refl _, Nat.le_refl _⟩ (mv_noH hno _) (fun w102 σ102 h102 => ?_)
        obtain ⟨rfl, rfl, s_g31⟩ := h102
        have r_g31 : mv_r g31 = mv_r h := s_g31.trans r_g29
        exact mv_iret (pc := 105) B hr rfl d_Book_named_105 (Nat.le_refl _) (Nat.le_refl _) (Or.inl ⟨_, rfl, xrt_i hf r_g31⟩)
    · skip
      have hf := xif_f h51 hf
      refine mv_aload_n (pc := 54) B d_Book_named_54 rfl 3 rfl ?_
      refine mv_iconst (pc := 55) (v := 4) B d_Book_named_55 (by decide) ?_
      refine mv_aload_n (pc := 56) B d_Book_named_56 rfl 3 rfl ?_
      refine mv_iload_n (pc := 57) B d_Book_named_57 rfl 2 rfl ?_
      obtain ⟨u34, g33, eg33, hf⟩ := xhb_e hf
      refine mv_callVi (pc := 58) (n := 1) (ci := 12) (C := R_Book) B (mK_ok sk sv) hNs rfl rfl (ch_Book_look_y l hi _ (xrw r_g7 hb) _ eg33) rfl (ma_goodc kc_Book_look) (B.2.2.2.1 _ k_2122) (B.2.2.2.1 _ k_2124) (B.2.2.2.1 _ ks_82) (B.2.2.2.1 _ k_13) ⟨by decide +kernel, by decide +kernel, by decide +kernel⟩ rfl d_Book_named_58 rfl (Nat.le_of_ble_eq_true rfl) ⟨by first | decide | (dsimp only; omega), by first | decide | (dsimp only; omega)⟩ ⟨Nat.le_refl _, Nat.le_refl _⟩ ⟨Nat.le_refl _, Nat.le_refl _⟩ (mv_noH hno _) (fun w58 σ58 h58 => ?_)
      obtain ⟨rfl, rfl, s_g33⟩ := h58
      have r_g33 : mv_r g33 = mv_r h := s_g33.trans r_g7
      refine mv_iconst (pc := 61) (v := 0) B d_Book_named_61 (by decide) ?_
      refine mv_iconst (pc := 62) (v := 0) B d_Book_named_62 (by decide) ?_
      refine mv_aload_n (pc := 63) B d_Book_named_63 rfl 3 rfl ?_
      refine mv_aload_n (pc := 64) B d_Book_named_64 rfl 3 rfl ?_
      refine mv_iload_n (pc := 65) B d_Book_named_65 rfl 2 rfl ?_
      obtain ⟨u36, g35, eg35, hf⟩ := xhb_e hf
      refine mv_callVi (pc := 66) (n := 1) (ci := 12) (C := R_Book) B (mK_ok sk sv) hNs rfl rfl (ch_Book_look_y l hi _ (xrw r_g33 hb) _ eg35) rfl (ma_goodc kc_Book_look) (B.2.2.2.1 _ k_2122) (B.2.2.2.1 _ k_2124) (B.2.2.2.1 _ ks_82) (B.2.2.2.1 _ k_13) ⟨by decide +kernel, by decide +kernel, by decide +kernel⟩ rfl d_Book_named_66 rfl (Nat.le_of_ble_eq_true rfl) ⟨by first | decide | (dsimp only; omega), by first | decide | (dsimp only; omega)⟩ ⟨Nat.le_refl _, Nat.le_refl _⟩ ⟨Nat.le_refl _, Nat.le_refl _⟩ (mv_noH hno _) (fun w66 σ66 h66 => ?_)
      obtain ⟨rfl, rfl, s_g35⟩ := h66
      have r_g35 : mv_r g35 = mv_r h := s_g35.trans r_g33
      obtain ⟨u38, g37, eg37, hf⟩ := xhb_e hf
      refine mv_callVi (pc := 69) (n := 1) (ci := 12) (C := R_Book) B (mK_ok sk sv) hNs rfl rfl (ch_Book_letterBits_y l hi _ (xrw r_g35 hb) _ eg37) rfl (ma_goodc kc_Book_letterBits) (B.2.2.2.1 _ k_2313) (B.2.2.2.1 _ k_2315) (B.2.2.2.1 _ ks_118) (B.2.2.2.1 _ k_13) ⟨by decide +kernel, by decide +kernel, by decide +kernel⟩ rfl d_Book_named_69 rfl (Nat.le_of_ble_eq_true rfl) ⟨by first | decide | (dsimp only; omega), by first | decide | (dsimp only; omega)⟩ ⟨Nat.le_refl _, Nat.le_refl _⟩ ⟨Nat.le_refl _, Nat.le_refl _⟩ (mv_noH hno _) (fun w69 σ69 h69 => ?_)
      obtain ⟨rfl, rfl, s_g37⟩ := h69
      have r_g37 : mv_r g37 = mv_r h := s_g37.trans r_g35
      obtain ⟨u40, g39, eg39, hf⟩ := xhb_e hf
      refine mv_callVi (pc := 72) (n := 5) (ci := 12) (C := R_Book) B (mK_ok sk sv) hNs rfl rfl (ch_Book_node_y l hi _ (xrw r_g37 hb) _ _ _ _ _ eg39) rfl (ma_goodc kc_Book_node) (B.2.2.2.1 _ k_2269) (B.2.2.2.1 _ k_2271) (B.2.2.2.1 _ ks_110) (B.2.2.2.1 _ k_13) ⟨by decide +kernel, by decide +kernel, by decide +kernel⟩ rfl d_Book_named_72 rfl (Nat.le_of_ble_eq_true rfl) ⟨by first | decide | (dsimp only; omega), by first | decide | (dsimp only; omega)⟩ ⟨Nat.le_refl _, Nat.le_refl _⟩ ⟨Nat.le_refl _, Nat.le_refl _⟩ (mv_noH hno _) (fun w72 σ72 h72 => ?_)
      obtain ⟨rfl, rfl, s_g39⟩ := h72
      have r_g39 : mv_r g39 = mv_r h := s_g39.trans r_g37
      exact mv_iret (pc := 75) B hr rfl d_Book_named_75 (Nat.le_refl _) (Nat.le_refl _) (Or.inl ⟨_, rfl, xrt_i hf r_g39⟩)
  · skip
    have hf := xif_f h22 hf
    refine mv_aload_n (pc := 25) B d_Book_named_25 rfl 3 rfl ?_
    refine mv_iconst (pc := 26) (v := 5) B d_Book_named_26 (by decide) ?_
    refine mv_aload_n (pc := 27) B d_Book_named_27 rfl 3 rfl ?_
    refine mv_getR (pc := 28) (ci := 12) (C := R_Book) (T := F_Book) (N := 65) B 34 rfl rfl (by decide) i_Book (B.2.2.2.1 _ k_1880) rfl ((congrFun (congrFun r_g5 108) 34).trans (hb.1 108 34 _ rfl)) d_Book_named_28 ?_
    refine mv_iload_n (pc := 31) B d_Book_named_31 rfl 0 rfl ?_
    obtain ⟨q41, hf⟩ := xvi_e hf
    refine mv_iald (pc := 32) B rfl q41 d_Book_named_32 ?_
    refine mv_iconst (pc := 33) (v := 0) B d_Book_named_33 (by decide) ?_
    refine mv_iconst (pc := 34) (v := 0) B d_Book_named_34 (by decide) ?_
    refine mv_aload_n (pc := 35) B d_Book_named_35 rfl 3 rfl ?_
    refine mv_getR (pc := 36) (ci := 12) (C := R_Book) (T := F_Book) (N := 65) B 33 rfl rfl (by decide) i_Book (B.2.2.2.1 _ k_1879) rfl ((congrFun (congrFun r_g5 108) 33).trans (hb.1 108 33 _ rfl)) d_Book_named_36 ?_
    refine mv_iload_n (pc := 39) B d_Book_named_39 rfl 0 rfl ?_
    obtain ⟨q42, hf⟩ := xvi_e hf
    refine mv_iald (pc := 40) B rfl q42 d_Book_named_40 ?_
    obtain ⟨u44, g43, eg43, hf⟩ := xhb_e hf
    refine mv_callVi (pc := 41) (n := 5) (ci := 12) (C := R_Book) B (mK_ok sk sv) hNs rfl rfl (ch_Book_node_y l hi _ (xrw r_g5 hb) _ _ _ _ _ eg43) rfl (ma_goodc kc_Book_node) (B.2.2.2.1 _ k_2269) (B.2.2.2.1 _ k_2271) (B.2.2.2.1 _ ks_110) (B.2.2.2.1 _ k_13) ⟨by decide +kernel, by decide +kernel, by decide +kernel⟩ rfl d_Book_named_41 rfl (Nat.le_of_ble_eq_true rfl) ⟨by first | decide | (dsimp only; omega), by first | decide | (dsimp only; omega)⟩ ⟨Nat.le_refl _, Nat.le_refl _⟩ ⟨Nat.le_refl _, Nat.le_refl _⟩ (mv_noH hno _) (fun w41 σ41 h41 => ?_)
    obtain ⟨rfl, rfl, s_g43⟩ := h41
    have r_g43 : mv_r g43 = mv_r h := s_g43.trans r_g5
    exact mv_iret (pc := 44) B hr rfl d_Book_named_44 (Nat.le_refl _) (Nat.le_refl _) (Or.inl ⟨_, rfl, xrt_i hf r_g43⟩)
set_option maxHeartbeats 4000000 in
set_option maxRecDepth 100000 in
theorem cr_Book_wider_y (l : Launch) {dA : FieldType → ClassId} {D : va_G} {al : Nat → Nat} {ext : mv_Sh} {sk sv : Nat → Nat} (hi : mv_inj (mg dA D al ext)) (nn : Nat) (ih : RecX l dA D al ext sk sv 108 nn) (h : mv_H) (hb : Br 108 (mv_r h))  (a0 : Int32) {rv : Option Int32} {rg : mv_H} (hf : f_Book_wider 108 (f_BookR 108 nn) h a0 = some (rv, rg)) : mv_C l y_Book_wider (Cond.code y_Book_wider b_Book_wider 7 (Option.some Jvm.ClassFile.FieldType.int) :: ma) ({ frames := nn + 1 + 7, cells := 0, slots := 0, locals := 60 * (nn + 1) + 400 }) (mg dA D al ext) (mK sk sv) [.ref (al 108), .int a0] h (mv_Ui (fun v σ1 => rv = some v ∧ rg = σ1 ∧ mv_r σ1 = mv_r h) ("MachineLoomModel$Book$Wrong", al 141) (fun σ1 => rv = none ∧ rg = σ1 ∧ mv_r σ1 = mv_r h)) := by
  refine mv_C.ofV (cc := b_Book_wider) (nL := 7) (ret := (Option.some Jvm.ClassFile.FieldType.int)) (by decide +kernel) rfl hi (Nat.le_of_ble_eq_true rfl) ?_
  intro p e s m below meth c B hNs hr hnm hno
  have jn149 : ∀ (y0 : Int32) (y1 : Int32) (y2 : Int32) (y3 : Int32) (y4 : Int32) (hz : mv_H), mv_r hz = mv_r h → f_Book_wider_149 108 (f_BookR 108 nn) y0 y1 y2 y3 y4 hz = some (rv, rg) → mv_V p l e ({ frames := nn + 1 + 7, cells := 0, slots := 0, locals := 60 * (nn + 1) + 400 }) s m ([.ref (al 108), .int a0] : List Value).toArray below meth c (mg dA D al ext) 7 0 0 (mv_Q (mg dA D al ext) below s 0 0 (mv_Ui (fun v σ1 => rv = some v ∧ rg = σ1 ∧ mv_r σ1 = mv_r h) ("MachineLoomModel$Book$Wrong", al 141) (fun σ1 => rv = none ∧ rg = σ1 ∧ mv_r σ1 = mv_r h))) hz 149 [] [.int y0, .int y1, .int y2, .int y3, .int y4, .ref (al 108)] := by
    intro y0 y1 y2 y3 y4 hz r_hz hf
    unfold f_Book_wider_149 at hf
    obtain ⟨u2, g1, eg1, hf⟩ := xhb_e hf
    refine mv_callVi (pc := 149) (n := 5) (ci := 12) (C := R_Book) B (mK_ok sk sv) hNs rfl rfl (ch_Book_node_y l hi _ (xrw r_hz hb) _ _ _ _ _ eg1) rfl (ma_goodc kc_Book_node) (B.2.2.2.1 _ k_2269) (B.2.2.2.1 _ k_2271) (B.2.2.2.1 _ ks_110) (B.2.2.2.1 _ k_13) ⟨by decide +kernel, by decide +kernel, by decide +kernel⟩ rfl d_Book_wider_149 rfl (Nat.le_of_ble_eq_true rfl) ⟨by first | decide | (dsimp only; omega), by first | decide | (dsimp only; omega)⟩ ⟨Nat.le_refl _, Nat.le_refl _⟩ ⟨Nat.le_refl _, Nat.le_refl _⟩ (mv_noH hno _) (fun w149 σ149 h149 => ?_)
    obtain ⟨rfl, rfl, s_g1⟩ := h149
    have r_g1 : mv_r g1 = mv_r h := s_g1.trans r_hz
    exact mv_iret (pc := 152) B hr rfl d_Book_wider_152 (Nat.le_refl _) (Nat.le_refl _) (Or.inl ⟨_, rfl, xrt_i hf r_g1⟩)
  have jn148 : ∀ (y0 : Int32) (y1 : Int32) (y2 : Int32) (y3 : Int32) (hz : mv_H), mv_r hz = mv_r h → f_Book_wider_148 108 (f_BookR 108 nn) y0 y1 y2 y3 hz = some (rv, rg) → mv_V p l e ({ frames := nn + 1 + 7, cells := 0, slots := 0, locals := 60 * (nn + 1) + 400 }) s m ([.ref (al 108), .int a0] : List Value).toArray below meth c (mg dA D al ext) 7 0 0 (mv_Q (mg dA D al ext) below s 0 0 (mv_Ui (fun v σ1 => rv = some v ∧ rg = σ1 ∧ mv_r σ1 = mv_r h) ("MachineLoomModel$Book$Wrong", al 141) (fun σ1 => rv = none ∧ rg = σ1 ∧ mv_r σ1 = mv_r h))) hz 148 [] [.int y0, .int y1, .int y2, .int y3, .ref (al 108)] := by
    intro y0 y1 y2 y3 hz r_hz hf
    unfold f_Book_wider_148 at hf
    refine mv_iconst (pc := 148) (v := 0) B d_Book_wider_148 (by decide) ?_
    refine mv_lpick [] rfl ?_
    exact jn149 _ _ _ _ _ _ r_hz hf
  have jn126 : ∀ (x2 : Int32) (x3 : Int64) (x6 : Int32) (y0 : Int32) (hz : mv_H), mv_r hz = mv_r h → f_Book_wider_126 108 (f_BookR 108 nn) x2 x3 x6 y0 hz = some (rv, rg) → mv_V p l e ({ frames := nn + 1 + 7, cells := 0, slots := 0, locals := 60 * (nn + 1) + 400 }) s m ([.ref (al 108), .int a0] : List Value).toArray below meth c (mg dA D al ext) 7 0 0 (mv_Q (mg dA D al ext) below s 0 0 (mv_Ui (fun v σ1 => rv = some v ∧ rg = σ1 ∧ mv_r σ1 = mv_r h) ("MachineLoomModel$Book$Wrong", al 141) (fun σ1 => rv = none ∧ rg = σ1 ∧ mv_r σ1 = mv_r h))) hz 126 [(0, .ref (al 108)), (2, .int x2), (3, .long x3), (6, .int x6)] [.int y0, .ref (al 108)] := by
    intro x2 x3 x6 y0 hz r_hz hf
    unfold f_Book_wider_126 at hf
    refine mv_iload_n (pc := 126) B d_Book_wider_126 rfl 1 rfl ?_
    refine mv_iconst (pc := 127) (v := 0) B d_Book_wider_127 (by decide) ?_
    refine mv_iconst (pc := 128) (v := 0) B d_Book_wider_128 (by decide) ?_
    refine mv_iload (pc := 129) B d_Book_wider_129 3 rfl ?_
    refine mv_if_eq (pc := 131) (tgt := 148) B d_Book_wider_131 rfl (fun h131 => ?_) (fun h131 => ?_)
    · skip
      have hf := xif_t h131 hf
      refine mv_lpick [] rfl ?_
      exact jn148 _ _ _ _ _ r_hz hf
    · skip
      have hf := xif_f h131 hf
      refine mv_aload_n (pc := 134) B d_Book_wider_134 rfl 0 rfl ?_
      refine mv_getR (pc := 135) (ci := 12) (C := R_Book) (T := F_Book) (N := 65) B 45 rfl rfl (by decide) i_Book (B.2.2.2.1 _ k_1894) rfl ((congrFun (congrFun r_hz 108) 45).trans (hb.1 108 45 _ rfl)) d_Book_wider_135 ?_
      refine mv_iload_n (pc := 138) B d_Book_wider_138 rfl 1 rfl ?_
      obtain ⟨q3, hf⟩ := xvi_e hf
      refine mv_iald (pc := 139) B rfl q3 d_Book_wider_139 ?_
      refine mv_if_le (pc := 140) (tgt := 148) B d_Book_wider_140 rfl (fun h140 => ?_) (fun h140 => ?_)
      · skip
        have hf := xif_t h140 hf
        refine mv_lpick [] rfl ?_
        exact jn148 _ _ _ _ _ r_hz hf
      · skip
        have hf := xif_f h140 hf
        refine mv_lload_n (pc := 143) B d_Book_wider_143 rfl 2 rfl ?_
        refine mv_l2i (pc := 144) B d_Book_wider_144 ?_
        refine mv_goto (pc := 145) (tgt := 149) B d_Book_wider_145 rfl ?_
        refine mv_lpick [] rfl ?_
        exact jn149 _ _ _ _ _ _ r_hz hf
  have jn114 : ∀ (x1 : Int32) (x2 : Int32) (x3 : Int64) (x6 : Int32) (hz : mv_H), mv_r hz = mv_r h → f_Book_wider_114 108 (f_BookR 108 nn) x1 x2 x3 x6 hz = some (rv, rg) → mv_V p l e ({ frames := nn + 1 + 7, cells := 0, slots := 0, locals := 60 * (nn + 1) + 400 }) s m ([.ref (al 108), .int a0] : List Value).toArray below meth c (mg dA D al ext) 7 0 0 (mv_Q (mg dA D al ext) below s 0 0 (mv_Ui (fun v σ1 => rv = some v ∧ rg = σ1 ∧ mv_r σ1 = mv_r h) ("MachineLoomModel$Book$Wrong", al 141) (fun σ1 => rv = none ∧ rg = σ1 ∧ mv_r σ1 = mv_r h))) hz 114 [(0, .ref (al 108)), (1, .int x1), (2, .int x2), (3, .long x3), (6, .int x6)] [] := by
    intro x1 x2 x3 x6 hz r_hz hf
    unfold f_Book_wider_114 at hf
    refine mv_aload_n (pc := 114) B d_Book_wider_114 rfl 0 rfl ?_
    refine mv_iload_n (pc := 115) B d_Book_wider_115 rfl 1 rfl ?_
    refine mv_if_eq (pc := 116) (tgt := 124) B d_Book_wider_116 rfl (fun h116 => ?_) (fun h116 => ?_)
    · skip
      have hf := xif_t h116 hf
      refine mv_bipush (pc := 124) (v := 12) B d_Book_wider_124 (by decide) ?_
      refine mv_lpick [0, 2, 3, 4] rfl ?_
      exact jn126 _ _ _ _ _ r_hz hf
    · skip
      have hf := xif_f h116 hf
      refine mv_bipush (pc := 119) (v := 11) B d_Book_wider_119 (by decide) ?_
      refine mv_goto (pc := 121) (tgt := 126) B d_Book_wider_121 rfl ?_
      refine mv_lpick [0, 2, 3, 4] rfl ?_
      exact jn126 _ _ _ _ _ r_hz hf
  have jn100 : ∀ (x1 : Int32) (x2 : Int32) (x3 : Int64) (x5 : Int32) (y0 : Int32) (hz : mv_H), mv_r hz = mv_r h → f_Book_wider_100 108 (f_BookR 108 nn) x1 x2 x3 x5 y0 hz = some (rv, rg) → mv_V p l e ({ frames := nn + 1 + 7, cells := 0, slots := 0, locals := 60 * (nn + 1) + 400 }) s m ([.ref (al 108), .int a0] : List Value).toArray below meth c (mg dA D al ext) 7 0 0 (mv_Q (mg dA D al ext) below s 0 0 (mv_Ui (fun v σ1 => rv = some v ∧ rg = σ1 ∧ mv_r σ1 = mv_r h) ("MachineLoomModel$Book$Wrong", al 141) (fun σ1 => rv = none ∧ rg = σ1 ∧ mv_r σ1 = mv_r h))) hz 100 [(0, .ref (al 108)), (1, .int x1), (2, .int x2), (3, .long x3), (5, .int x5)] [.int y0] := by
    intro x1 x2 x3 x5 y0 hz r_hz hf
    unfold f_Book_wider_100 at hf
    refine mv_istore (pc := 100) B d_Book_wider_100 (by decide) rfl ?_
    refine mv_iload (pc := 102) B d_Book_wider_102 0 rfl ?_
    refine mv_if_ne (pc := 104) (tgt := 114) B d_Book_wider_104 rfl (fun h104 => ?_) (fun h104 => ?_)
    · skip
      have hf := xif_f h104 hf
      refine mv_lpick [1, 2, 3, 4, 0] rfl ?_
      exact jn114 _ _ _ _ _ r_hz hf
    · skip
      have hf := xif_t h104 hf
      refine mv_aload_n (pc := 107) B d_Book_wider_107 rfl 1 rfl ?_
      refine mv_iconst (pc := 108) (v := 3) B d_Book_wider_108 (by decide) ?_
      refine mv_iload (pc := 109) B d_Book_wider_109 5 rfl ?_
      obtain ⟨g4, eg4, hf⟩ := xhv_e hf
      refine mv_callVv (pc := 111) (n := 2) (ci := 12) (C := R_Book) B (mK_ok sk sv) hNs rfl rfl (ch_Book_fault_y l hi _ _ _ eg4) rfl (ma_goodc kc_Book_fault) (B.2.2.2.1 _ k_2185) (B.2.2.2.1 _ k_2187) (B.2.2.2.1 _ ks_92) (B.2.2.2.1 _ k_13) ⟨by decide +kernel, by decide +kernel, by decide +kernel⟩ rfl d_Book_wider_111 rfl (Nat.le_of_ble_eq_true rfl) ⟨by first | decide | (dsimp only; omega), by first | decide | (dsimp only; omega)⟩ ⟨Nat.le_refl _, Nat.le_refl _⟩ ⟨Nat.le_refl _, Nat.le_refl _⟩ (mv_noH hno _) (fun σ111 h111 => ?_)
      obtain ⟨rfl, s_g4⟩ := h111
      have r_g4 : mv_r g4 = mv_r h := s_g4.trans r_hz
      refine mv_lpick [1, 2, 3, 4, 0] rfl ?_
      exact jn114 _ _ _ _ _ r_g4 hf
  have jn99 : ∀ (x1 : Int32) (x2 : Int32) (x3 : Int64) (x5 : Int32) (hz : mv_H), mv_r hz = mv_r h → f_Book_wider_99 108 (f_BookR 108 nn) x1 x2 x3 x5 hz = some (rv, rg) → mv_V p l e ({ frames := nn + 1 + 7, cells := 0, slots := 0, locals := 60 * (nn + 1) + 400 }) s m ([.ref (al 108), .int a0] : List Value).toArray below meth c (mg dA D al ext) 7 0 0 (mv_Q (mg dA D al ext) below s 0 0 (mv_Ui (fun v σ1 => rv = some v ∧ rg = σ1 ∧ mv_r σ1 = mv_r h) ("MachineLoomModel$Book$Wrong", al 141) (fun σ1 => rv = none ∧ rg = σ1 ∧ mv_r σ1 = mv_r h))) hz 99 [(0, .ref (al 108)), (1, .int x1), (2, .int x2), (3, .long x3), (5, .int x5)] [] := by
    intro x1 x2 x3 x5 hz r_hz hf
    unfold f_Book_wider_99 at hf
    refine mv_iconst (pc := 99) (v := 0) B d_Book_wider_99 (by decide) ?_
    refine mv_lpick [0, 1, 2, 3, 4] rfl ?_
    exact jn100 _ _ _ _ _ _ r_hz hf
  have jn95 : ∀ (x1 : Int32) (x2 : Int32) (x3 : Int64) (x5 : Int32) (hz : mv_H), mv_r hz = mv_r h → f_Book_wider_95 108 (f_BookR 108 nn) x1 x2 x3 x5 hz = some (rv, rg) → mv_V p l e ({ frames := nn + 1 + 7, cells := 0, slots := 0, locals := 60 * (nn + 1) + 400 }) s m ([.ref (al 108), .int a0] : List Value).toArray below meth c (mg dA D al ext) 7 0 0 (mv_Q (mg dA D al ext) below s 0 0 (mv_Ui (fun v σ1 => rv = some v ∧ rg = σ1 ∧ mv_r σ1 = mv_r h) ("MachineLoomModel$Book$Wrong", al 141) (fun σ1 => rv = none ∧ rg = σ1 ∧ mv_r σ1 = mv_r h))) hz 95 [(0, .ref (al 108)), (1, .int x1), (2, .int x2), (3, .long x3), (5, .int x5)] [] := by
    intro x1 x2 x3 x5 hz r_hz hf
    unfold f_Book_wider_95 at hf
    refine mv_iconst (pc := 95) (v := 1) B d_Book_wider_95 (by decide) ?_
    refine mv_goto (pc := 96) (tgt := 100) B d_Book_wider_96 rfl ?_
    refine mv_lpick [0, 1, 2, 3, 4] rfl ?_
    exact jn100 _ _ _ _ _ _ r_hz hf
  unfold f_Book_wider at hf
  refine mv_aload_n (pc := 0) B d_Book_wider_0 rfl 0 rfl ?_
  obtain ⟨og6, g6, eg6, hf⟩ := xtb_e hf
  refine mv_callVUv (pc := 1) (n := 0) (ci := 12) (C := R_Book) B (mK_ok sk sv) hNs rfl rfl (ch_Book_pass_y l hi _ (hb) eg6) rfl (ma_goodc kc_Book_pass) (B.2.2.2.1 _ k_2173) (B.2.2.2.1 _ k_2175) (B.2.2.2.1 _ ks_90) (B.2.2.2.1 _ k_13) ⟨by decide +kernel, by decide +kernel, by decide +kernel⟩ rfl d_Book_wider_1 rfl (Nat.le_of_ble_eq_true rfl) ⟨by first | decide | (dsimp only; omega), by first | decide | (dsimp only; omega)⟩ ⟨Nat.le_refl _, Nat.le_refl _⟩ ⟨Nat.le_refl _, Nat.le_refl _⟩ (mv_noH hno _) (fun τ9 g9 => Or.inr ⟨rfl, xth hf g9 rfl⟩) (fun σ1 h1 => ?_)
  obtain ⟨rfl, rfl, s_g6⟩ := h1
  have hf := xt2_s hf
  have r_g6 : mv_r g6 = mv_r h := s_g6.trans rfl
  refine mv_aload_n (pc := 4) B d_Book_wider_4 rfl 0 rfl ?_
  refine mv_bipush (pc := 5) (v := 40) B d_Book_wider_5 (by decide) ?_
  obtain ⟨og8, g8, eg8, hf⟩ := xtb_e hf
  refine mv_callVUv (pc := 7) (n := 1) (ci := 12) (C := R_Book) B (mK_ok sk sv) hNs rfl rfl (ch_Book_need_y l hi _ (xrw r_g6 hb) _ eg8) rfl (ma_goodc kc_Book_need) (B.2.2.2.1 _ k_2177) (B.2.2.2.1 _ k_2179) (B.2.2.2.1 _ ks_91) (B.2.2.2.1 _ k_13) ⟨by decide +kernel, by decide +kernel, by decide +kernel⟩ rfl d_Book_wider_7 rfl (Nat.le_of_ble_eq_true rfl) ⟨by first | decide | (dsimp only; omega), by first | decide | (dsimp only; omega)⟩ ⟨Nat.le_refl _, Nat.le_refl _⟩ ⟨Nat.le_refl _, Nat.le_refl _⟩ (mv_noH hno _) (fun τ9 g9 => Or.inr ⟨rfl, xth hf g9 r_g6⟩) (fun σ7 h7 => ?_)
  obtain ⟨rfl, rfl, s_g8⟩ := h7
  have hf := xt2_s hf
  have r_g8 : mv_r g8 = mv_r h := s_g8.trans r_g6
  refine mv_aload_n (pc := 10) B d_Book_wider_10 rfl 0 rfl ?_
  refine mv_dup (pc := 11) B d_Book_wider_11 rfl ?_
  refine mv_getI (pc := 12) (ci := 12) (C := R_Book) (T := F_Book) (N := 65) B 8 rfl rfl (by decide) i_Book (B.2.2.2.1 _ k_1851) rfl d_Book_wider_12 ?_
  refine mv_iconst (pc := 15) (v := 1) B d_Book_wider_15 (by decide) ?_
  refine mv_iadd (pc := 16) B d_Book_wider_16 ?_
  refine mv_putI (pc := 17) (ci := 12) (C := R_Book) (T := F_Book) (N := 65) B 8 rfl rfl (by decide) i_Book t_Book_ok n_Book (B.2.2.2.1 _ k_1851) rfl rfl rfl rfl d_Book_wider_17 ?_
  refine mvh_hp (R9 := mv_r h) hf r_g8 (fun g10 hf r_g10 => ?_)
  refine mv_aload_n (pc := 20) B d_Book_wider_20 rfl 0 rfl ?_
  obtain ⟨og11, g11, eg11, hf⟩ := xtb_e hf
  refine mv_callVUi (pc := 21) (n := 0) (ci := 12) (C := R_Book) B (mK_ok sk sv) hNs rfl rfl (ih.1 _ _ _ _ (xrw r_g10 hb) eg11) rfl (ma_goodc kc_Book_expression) (B.2.2.2.1 _ k_2245) (B.2.2.2.1 _ k_2247) (B.2.2.2.1 _ ks_104) (B.2.2.2.1 _ k_13) ⟨by decide +kernel, by decide +kernel, by decide +kernel⟩ rfl d_Book_wider_21 rfl (Nat.le_of_ble_eq_true rfl) ⟨by first | decide | (dsimp only; omega), by first | decide | (dsimp only; omega)⟩ ⟨Nat.le_refl _, Nat.le_refl _⟩ ⟨Nat.le_refl _, Nat.le_refl _⟩ (mv_noH hno _) (fun τ9 g9 => Or.inr ⟨rfl, xth hf g9 r_g10⟩) (fun u12 σ21 h21 => ?_)
  obtain ⟨rfl, rfl, s_g11⟩ := h21
  have hf := xt2_s hf
  have r_g11 : mv_r g11 = mv_r h := s_g11.trans r_g10
  refine mv_istore_n (pc := 24) B d_Book_wider_24 rfl (by decide) rfl ?_
  refine mv_aload_n (pc := 25) B d_Book_wider_25 rfl 1 rfl ?_
  refine mv_bipush (pc := 26) (v := 44) B d_Book_wider_26 (by decide) ?_
  obtain ⟨og13, g13, eg13, hf⟩ := xtb_e hf
  refine mv_callVUv (pc := 28) (n := 1) (ci := 12) (C := R_Book) B (mK_ok sk sv) hNs rfl rfl (ch_Book_need_y l hi _ (xrw r_g11 hb) _ eg13) rfl (ma_goodc kc_Book_need) (B.2.2.2.1 _ k_2177) (B.2.2.2.1 _ k_2179) (B.2.2.2.1 _ ks_91) (B.2.2.2.1 _ k_13) ⟨by decide +kernel, by decide +kernel, by decide +kernel⟩ rfl d_Book_wider_28 rfl (Nat.le_of_ble_eq_true rfl) ⟨by first | decide | (dsimp only; omega), by first | decide | (dsimp only; omega)⟩ ⟨Nat.le_refl _, Nat.le_refl _⟩ ⟨Nat.le_refl _, Nat.le_refl _⟩ (mv_noH hno _) (fun τ9 g9 => Or.inr ⟨rfl, xth hf g9 r_g11⟩) (fun σ28 h28 => ?_)
  obtain ⟨rfl, rfl, s_g13⟩ := h28
  have hf := xt2_s hf
  have r_g13 : mv_r g13 = mv_r h := s_g13.trans r_g11
  refine mv_aload_n (pc := 31) B d_Book_wider_31 rfl 1 rfl ?_
  refine mv_getL (pc := 32) (ci := 12) (C := R_Book) (T := F_Book) (N := 65) B 9 rfl rfl (by decide) i_Book (B.2.2.2.1 _ k_1852) rfl d_Book_wider_32 ?_
  refine mv_lstore_n (pc := 35) B d_Book_wider_35 rfl (by decide) rfl ?_
  refine mv_aload_n (pc := 36) B d_Book_wider_36 rfl 2 rfl ?_
  refine mv_getI (pc := 37) (ci := 12) (C := R_Book) (T := F_Book) (N := 65) B 5 rfl rfl (by decide) i_Book (B.2.2.2.1 _ k_1848) rfl d_Book_wider_37 ?_
  refine mv_istore (pc := 40) B d_Book_wider_40 (by decide) rfl ?_
  refine mv_aload_n (pc := 42) B d_Book_wider_42 rfl 3 rfl ?_
  refine mv_iconst (pc := 43) (v := 2) B d_Book_wider_43 (by decide) ?_
  obtain ⟨og15, g15, eg15, hf⟩ := xtb_e hf
  refine mv_callVUv (pc := 44) (n := 1) (ci := 12) (C := R_Book) B (mK_ok sk sv) hNs rfl rfl (ch_Book_need_y l hi _ (xrw r_g13 hb) _ eg15) rfl (ma_goodc kc_Book_need) (B.2.2.2.1 _ k_2177) (B.2.2.2.1 _ k_2179) (B.2.2.2.1 _ ks_91) (B.2.2.2.1 _ k_13) ⟨by decide +kernel, by decide +kernel, by decide +kernel⟩ rfl d_Book_wider_44 rfl (Nat.le_of_ble_eq_true rfl) ⟨by first | decide | (dsimp only; omega), by first | decide | (dsimp only; omega)⟩ ⟨Nat.le_refl _, Nat.le_refl _⟩ ⟨Nat.le_refl _, Nat.le_refl _⟩ (mv_noH hno _) (fun τ9 g9 => Or.inr ⟨rfl, xth hf g9 r_g13⟩) (fun σ44 h44 => ?_)
  obtain ⟨rfl, rfl, s_g15⟩ := h44
  have hf := xt2_s hf
  have r_g15 : mv_r g15 = mv_r h := s_g15.trans r_g13
  refine mv_aload_n (pc := 47) B d_Book_wider_47 rfl 3 rfl ?_
  refine mv_bipush (pc := 48) (v := 41) B d_Book_wider_48 (by decide) ?_
  obtain ⟨og17, g17, eg17, hf⟩ := xtb_e hf
  refine mv_callVUv (pc := 50) (n := 1) (ci := 12) (C := R_Book) B (mK_ok sk sv) hNs rfl rfl (ch_Book_need_y l hi _ (xrw r_g15 hb) _ eg17) rfl (ma_goodc kc_Book_need) (B.2.2.2.1 _ k_2177) (B.2.2.2.1 _ k_2179) (B.2.2.2.1 _ ks_91) (B.2.2.2.1 _ k_13) ⟨by decide +kernel, by decide +kernel, by decide +kernel⟩ rfl d_Book_wider_50 rfl (Nat.le_of_ble_eq_true rfl) ⟨by first | decide | (dsimp only; omega), by first | decide | (dsimp only; omega)⟩ ⟨Nat.le_refl _, Nat.le_refl _⟩ ⟨Nat.le_refl _, Nat.le_refl _⟩ (mv_noH hno _) (fun τ9 g9 => Or.inr ⟨rfl, xth hf g9 r_g15⟩) (fun σ50 h50 => ?_)
  obtain ⟨rfl, rfl, s_g17⟩ := h50
  have hf := xt2_s hf
  have r_g17 : mv_r g17 = mv_r h := s_g17.trans r_g15
  refine mv_aload_n (pc := 53) B d_Book_wider_53 rfl 3 rfl ?_
  refine mv_dup (pc := 54) B d_Book_wider_54 rfl ?_
  refine mv_getI (pc := 55) (ci := 12) (C := R_Book) (T := F_Book) (N := 65) B 8 rfl rfl (by decide) i_Book (B.2.2.2.1 _ k_1851) rfl d_Book_wider_55 ?_
  refine mv_iconst (pc := 58) (v := 1) B d_Book_wider_58 (by decide) ?_
  refine mv_isub (pc := 59) B d_Book_wider_59 ?_
  refine mv_putI (pc := 60) (ci := 12) (C := R_Book) (T := F_Book) (N := 65) B 8 rfl rfl (by decide) i_Book t_Book_ok n_Book (B.2.2.2.1 _ k_1851) rfl rfl rfl rfl d_Book_wider_60 ?_
  refine mvh_hp (R9 := mv_r h) hf r_g17 (fun g19 hf r_g19 => ?_)
  refine mv_lload_n (pc := 63) B d_Book_wider_63 rfl 1 rfl ?_
  refine mv_lconst (pc := 64) (v := 1) B d_Book_wider_64 (by decide) ?_
  refine mv_ldc2 (pc := 65) (v := 64) B (B.2.2.2.1 _ k_2184) d_Book_wider_65 ?_
  obtain ⟨u21, g20, eg20, hf⟩ := xhb_e hf
  refine mv_callSNi (pc := 68) (n := 3) B (mK_ok sk sv) hNs (ch_Model_in l hi _ _ _ _ eg20) rfl (ma_goodc kc_Model_in) (va_Nw.use rfl (hNs.1 _ (List.mem_of_getElem? (i := 7) rfl))) (B.2.2.2.1 _ k_2208) (B.2.2.2.1 _ k_12) ⟨by decide +kernel, by decide +kernel, by decide +kernel⟩ rfl d_Book_wider_68 rfl (Nat.le_of_ble_eq_true rfl) ⟨by first | decide | (dsimp only; omega), by first | decide | (dsimp only; omega)⟩ ⟨Nat.le_refl _, Nat.le_refl _⟩ ⟨Nat.le_refl _, Nat.le_refl _⟩ (mv_noH hno _) (fun w68 σ68 h68 => ?_)
  obtain ⟨rfl, rfl, s_g20⟩ := h68
  have r_g20 : mv_r g20 = mv_r h := s_g20.trans r_g19
  refine mv_if_eq (pc := 71) (tgt := 99) B d_Book_wider_71 rfl (fun h71 => ?_) (fun h71 => ?_)
  · skip
    have hf := xif_t h71 hf
    refine mv_lpick [3, 4, 2, 1, 0] rfl ?_
    exact jn99 _ _ _ _ _ r_g20 hf
  · skip
    have hf := xif_f h71 hf
    refine mv_aload_n (pc := 74) B d_Book_wider_74 rfl 3 rfl ?_
    refine mv_getR (pc := 75) (ci := 12) (C := R_Book) (T := F_Book) (N := 65) B 45 rfl rfl (by decide) i_Book (B.2.2.2.1 _ k_1894) rfl ((congrFun (congrFun r_g20 108) 45).trans (hb.1 108 45 _ rfl)) d_Book_wider_75 ?_
    refine mv_iload_n (pc := 78) B d_Book_wider_78 rfl 2 rfl ?_
    obtain ⟨q22, hf⟩ := xvi_e hf
    refine mv_iald (pc := 79) B rfl q22 d_Book_wider_79 ?_
    refine mv_if_eq (pc := 80) (tgt := 95) B d_Book_wider_80 rfl (fun h80 => ?_) (fun h80 => ?_)
    · skip
      have hf := xif_t h80 hf
      refine mv_lpick [3, 4, 2, 1, 0] rfl ?_
      exact jn95 _ _ _ _ _ r_g20 hf
    · skip
      have hf := xif_f h80 hf
      refine mv_lload_n (pc := 83) B d_Book_wider_83 rfl 1 rfl ?_
      refine mv_aload_n (pc := 84) B d_Book_wider_84 rfl 3 rfl ?_
      refine mv_getR (pc := 85) (ci := 12) (C := R_Book) (T := F_Book) (N := 65) B 45 rfl rfl (by decide) i_Book (B.2.2.2.1 _ k_1894) rfl ((congrFun (congrFun r_g20 108) 45).trans (hb.1 108 45 _ rfl)) d_Book_wider_85 ?_
      refine mv_iload_n (pc := 88) B d_Book_wider_88 rfl 2 rfl ?_
      obtain ⟨q23, hf⟩ := xvi_e hf
      refine mv_iald (pc := 89) B rfl q23 d_Book_wider_89 ?_
      refine mv_i2l (pc := 90) B d_Book_wider_90 ?_
      refine mv_lcmp (pc := 91) B d_Book_wider_91 ?_
      refine mv_if_lt (pc := 92) (tgt := 99) B d_Book_wider_92 rfl (fun h92 => ?_) (fun h92 => ?_)
      · skip
        have hf := xif_t h92 hf
        refine mv_lpick [3, 4, 2, 1, 0] rfl ?_
        exact jn99 _ _ _ _ _ r_g20 hf
      · skip
        have hf := xif_f h92 hf
        refine mv_lpick [3, 4, 2, 1, 0] rfl ?_
        exact jn95 _ _ _ _ _ r_g20 hf
set_option maxHeartbeats 4000000 in
set_option maxRecDepth 100000 in
theorem cr_Book_called_y (l : Launch) {dA : FieldType → ClassId} {D : va_G} {al : Nat → Nat} {ext : mv_Sh} {sk sv : Nat → Nat} (hi : mv_inj (mg dA D al ext)) (nn : Nat) (ih : RecX l dA D al ext sk sv 108 nn) (h : mv_H) (hb : Br 108 (mv_r h))  (a0 : Int32) {rv : Option Int32} {rg : mv_H} (hf : f_Book_called 108 (f_BookR 108 nn) h a0 = some (rv, rg)) : mv_C l y_Book_called (Cond.code y_Book_called b_Book_called 5 (Option.some Jvm.ClassFile.FieldType.int) :: ma) ({ frames := nn + 1 + 7, cells := 0, slots := 0, locals := 60 * (nn + 1) + 400 }) (mg dA D al ext) (mK sk sv) [.ref (al 108), .int a0] h (mv_Ui (fun v σ1 => rv = some v ∧ rg = σ1 ∧ mv_r σ1 = mv_r h) ("MachineLoomModel$Book$Wrong", al 141) (fun σ1 => rv = none ∧ rg = σ1 ∧ mv_r σ1 = mv_r h)) := by
  refine mv_C.ofV (cc := b_Book_called) (nL := 5) (ret := (Option.some Jvm.ClassFile.FieldType.int)) (by decide +kernel) rfl hi (Nat.le_of_ble_eq_true rfl) ?_
  intro p e s m below meth c B hNs hr hnm hno
  unfold f_Book_called at hf
  refine mv_aload_n (pc := 0) B d_Book_called_0 rfl 0 rfl ?_
  refine mv_getI (pc := 1) (ci := 12) (C := R_Book) (T := F_Book) (N := 65) B 5 rfl rfl (by decide) i_Book (B.2.2.2.1 _ k_1848) rfl d_Book_called_1 ?_
  refine mv_istore_n (pc := 4) B d_Book_called_4 rfl (by decide) rfl ?_
  refine mv_aload_n (pc := 5) B d_Book_called_5 rfl 1 rfl ?_
  obtain ⟨og1, g1, eg1, hf⟩ := xtb_e hf
  refine mv_callVUv (pc := 6) (n := 0) (ci := 12) (C := R_Book) B (mK_ok sk sv) hNs rfl rfl (ch_Book_pass_y l hi _ (hb) eg1) rfl (ma_goodc kc_Book_pass) (B.2.2.2.1 _ k_2173) (B.2.2.2.1 _ k_2175) (B.2.2.2.1 _ ks_90) (B.2.2.2.1 _ k_13) ⟨by decide +kernel, by decide +kernel, by decide +kernel⟩ rfl d_Book_called_6 rfl (Nat.le_of_ble_eq_true rfl) ⟨by first | decide | (dsimp only; omega), by first | decide | (dsimp only; omega)⟩ ⟨Nat.le_refl _, Nat.le_refl _⟩ ⟨Nat.le_refl _, Nat.le_refl _⟩ (mv_noH hno _) (fun τ9 g9 => Or.inr ⟨rfl, xth hf g9 rfl⟩) (fun σ6 h6 => ?_)
  obtain ⟨rfl, rfl, s_g1⟩ := h6
  have hf := xt2_s hf
  have r_g1 : mv_r g1 = mv_r h := s_g1.trans rfl
  refine mv_aload_n (pc := 9) B d_Book_called_9 rfl 1 rfl ?_
  refine mv_bipush (pc := 10) (v := 40) B d_Book_called_10 (by decide) ?_
  obtain ⟨og3, g3, eg3, hf⟩ := xtb_e hf
  refine mv_callVUv (pc := 12) (n := 1) (ci := 12) (C := R_Book) B (mK_ok sk sv) hNs rfl rfl (ch_Book_need_y l hi _ (xrw r_g1 hb) _ eg3) rfl (ma_goodc kc_Book_need) (B.2.2.2.1 _ k_2177) (B.2.2.2.1 _ k_2179) (B.2.2.2.1 _ ks_91) (B.2.2.2.1 _ k_13) ⟨by decide +kernel, by decide +kernel, by decide +kernel⟩ rfl d_Book_called_12 rfl (Nat.le_of_ble_eq_true rfl) ⟨by first | decide | (dsimp only; omega), by first | decide | (dsimp only; omega)⟩ ⟨Nat.le_refl _, Nat.le_refl _⟩ ⟨Nat.le_refl _, Nat.le_refl _⟩ (mv_noH hno _) (fun τ9 g9 => Or.inr ⟨rfl, xth hf g9 r_g1⟩) (fun σ12 h12 => ?_)
  obtain ⟨rfl, rfl, s_g3⟩ := h12
  have hf := xt2_s hf
  have r_g3 : mv_r g3 = mv_r h := s_g3.trans r_g1
  refine mv_aload_n (pc := 15) B d_Book_called_15 rfl 1 rfl ?_
  refine mv_dup (pc := 16) B d_Book_called_16 rfl ?_
  refine mv_getI (pc := 17) (ci := 12) (C := R_Book) (T := F_Book) (N := 65) B 8 rfl rfl (by decide) i_Book (B.2.2.2.1 _ k_1851) rfl d_Book_called_17 ?_
  refine mv_iconst (pc := 20) (v := 1) B d_Book_called_20 (by decide) ?_
  refine mv_iadd (pc := 21) B d_Book_called_21 ?_
  refine mv_putI (pc := 22) (ci := 12) (C := R_Book) (T := F_Book) (N := 65) B 8 rfl rfl (by decide) i_Book t_Book_ok n_Book (B.2.2.2.1 _ k_1851) rfl rfl rfl rfl d_Book_called_22 ?_
  refine mvh_hp (R9 := mv_r h) hf r_g3 (fun g5 hf r_g5 => ?_)
  refine mv_aload_n (pc := 25) B d_Book_called_25 rfl 1 rfl ?_
  obtain ⟨og6, g6, eg6, hf⟩ := xtb_e hf
  refine mv_callVUi (pc := 26) (n := 0) (ci := 12) (C := R_Book) B (mK_ok sk sv) hNs rfl rfl (ih.1 _ _ _ _ (xrw r_g5 hb) eg6) rfl (ma_goodc kc_Book_expression) (B.2.2.2.1 _ k_2245) (B.2.2.2.1 _ k_2247) (B.2.2.2.1 _ ks_104) (B.2.2.2.1 _ k_13) ⟨by decide +kernel, by decide +kernel, by decide +kernel⟩ rfl d_Book_called_26 rfl (Nat.le_of_ble_eq_true rfl) ⟨by first | decide | (dsimp only; omega), by first | decide | (dsimp only; omega)⟩ ⟨Nat.le_refl _, Nat.le_refl _⟩ ⟨Nat.le_refl _, Nat.le_refl _⟩ (mv_noH hno _) (fun τ9 g9 => Or.inr ⟨rfl, xth hf g9 r_g5⟩) (fun u7 σ26 h26 => ?_)
  obtain ⟨rfl, rfl, s_g6⟩ := h26
  have hf := xt2_s hf
  have r_g6 : mv_r g6 = mv_r h := s_g6.trans r_g5
  refine mv_istore_n (pc := 29) B d_Book_called_29 rfl (by decide) rfl ?_
  refine mv_aload_n (pc := 30) B d_Book_called_30 rfl 2 rfl ?_
  refine mv_bipush (pc := 31) (v := 44) B d_Book_called_31 (by decide) ?_
  obtain ⟨og8, g8, eg8, hf⟩ := xtb_e hf
  refine mv_callVUv (pc := 33) (n := 1) (ci := 12) (C := R_Book) B (mK_ok sk sv) hNs rfl rfl (ch_Book_need_y l hi _ (xrw r_g6 hb) _ eg8) rfl (ma_goodc kc_Book_need) (B.2.2.2.1 _ k_2177) (B.2.2.2.1 _ k_2179) (B.2.2.2.1 _ ks_91) (B.2.2.2.1 _ k_13) ⟨by decide +kernel, by decide +kernel, by decide +kernel⟩ rfl d_Book_called_33 rfl (Nat.le_of_ble_eq_true rfl) ⟨by first | decide | (dsimp only; omega), by first | decide | (dsimp only; omega)⟩ ⟨Nat.le_refl _, Nat.le_refl _⟩ ⟨Nat.le_refl _, Nat.le_refl _⟩ (mv_noH hno _) (fun τ9 g9 => Or.inr ⟨rfl, xth hf g9 r_g6⟩) (fun σ33 h33 => ?_)
  obtain ⟨rfl, rfl, s_g8⟩ := h33
  have hf := xt2_s hf
  have r_g8 : mv_r g8 = mv_r h := s_g8.trans r_g6
  refine mv_aload_n (pc := 36) B d_Book_called_36 rfl 2 rfl ?_
  obtain ⟨og10, g10, eg10, hf⟩ := xtb_e hf
  refine mv_callVUi (pc := 37) (n := 0) (ci := 12) (C := R_Book) B (mK_ok sk sv) hNs rfl rfl (ih.1 _ _ _ _ (xrw r_g8 hb) eg10) rfl (ma_goodc kc_Book_expression) (B.2.2.2.1 _ k_2245) (B.2.2.2.1 _ k_2247) (B.2.2.2.1 _ ks_104) (B.2.2.2.1 _ k_13) ⟨by decide +kernel, by decide +kernel, by decide +kernel⟩ rfl d_Book_called_37 rfl (Nat.le_of_ble_eq_true rfl) ⟨by first | decide | (dsimp only; omega), by first | decide | (dsimp only; omega)⟩ ⟨Nat.le_refl _, Nat.le_refl _⟩ ⟨Nat.le_refl _, Nat.le_refl _⟩ (mv_noH hno _) (fun τ9 g9 => Or.inr ⟨rfl, xth hf g9 r_g8⟩) (fun u11 σ37 h37 => ?_)
  obtain ⟨rfl, rfl, s_g10⟩ := h37
  have hf := xt2_s hf
  have r_g10 : mv_r g10 = mv_r h := s_g10.trans r_g8
  refine mv_istore (pc := 40) B d_Book_called_40 (by decide) rfl ?_
  refine mv_aload_n (pc := 42) B d_Book_called_42 rfl 3 rfl ?_
  refine mv_bipush (pc := 43) (v := 41) B d_Book_called_43 (by decide) ?_
  obtain ⟨og12, g12, eg12, hf⟩ := xtb_e hf
  refine mv_callVUv (pc := 45) (n := 1) (ci := 12) (C := R_Book) B (mK_ok sk sv) hNs rfl rfl (ch_Book_need_y l hi _ (xrw r_g10 hb) _ eg12) rfl (ma_goodc kc_Book_need) (B.2.2.2.1 _ k_2177) (B.2.2.2.1 _ k_2179) (B.2.2.2.1 _ ks_91) (B.2.2.2.1 _ k_13) ⟨by decide +kernel, by decide +kernel, by decide +kernel⟩ rfl d_Book_called_45 rfl (Nat.le_of_ble_eq_true rfl) ⟨by first | decide | (dsimp only; omega), by first | decide | (dsimp only; omega)⟩ ⟨Nat.le_refl _, Nat.le_refl _⟩ ⟨Nat.le_refl _, Nat.le_refl _⟩ (mv_noH hno _) (fun τ9 g9 => Or.inr ⟨rfl, xth hf g9 r_g10⟩) (fun σ45 h45 => ?_)
  obtain ⟨rfl, rfl, s_g12⟩ := h45
  have hf := xt2_s hf
  have r_g12 : mv_r g12 = mv_r h := s_g12.trans r_g10
  refine mv_aload_n (pc := 48) B d_Book_called_48 rfl 3 rfl ?_
  refine mv_dup (pc := 49) B d_Book_called_49 rfl ?_
  refine mv_getI (pc := 50) (ci := 12) (C := R_Book) (T := F_Book) (N := 65) B 8 rfl rfl (by decide) i_Book (B.2.2.2.1 _ k_1851) rfl d_Book_called_50 ?_
  refine mv_iconst (pc := 53) (v := 1) B d_Book_called_53 (by decide) ?_
  refine mv_isub (pc := 54) B d_Book_called_54 ?_
  refine mv_putI (pc := 55) (ci := 12) (C := R_Book) (T := F_Book) (N := 65) B 8 rfl rfl (by decide) i_Book t_Book_ok n_Book (B.2.2.2.1 _ k_1851) rfl rfl rfl rfl d_Book_called_55 ?_
  refine mvh_hp (R9 := mv_r h) hf r_g12 (fun g14 hf r_g14 => ?_)
  refine mv_aload_n (pc := 58) B d_Book_called_58 rfl 3 rfl ?_
  refine mv_iload_n (pc := 59) B d_Book_called_59 rfl 4 rfl ?_
  refine mv_iload_n (pc := 60) B d_Book_called_60 rfl 2 rfl ?_
  refine mv_iload_n (pc := 61) B d_Book_called_61 rfl 1 rfl ?_
  refine mv_iload (pc := 62) B d_Book_called_62 0 rfl ?_
  obtain ⟨u16, g15, eg15, hf⟩ := xhb_e hf
  refine mv_callVi (pc := 64) (n := 4) (ci := 12) (C := R_Book) B (mK_ok sk sv) hNs rfl rfl (ch_Book_two_y l hi _ (xrw r_g14 hb) _ _ _ _ eg15) rfl (ma_goodc kc_Book_two) (B.2.2.2.1 _ k_2288) (B.2.2.2.1 _ k_2290) (B.2.2.2.1 _ ks_114) (B.2.2.2.1 _ k_13) ⟨by decide +kernel, by decide +kernel, by decide +kernel⟩ rfl d_Book_called_64 rfl (Nat.le_of_ble_eq_true rfl) ⟨by first | decide | (dsimp only; omega), by first | decide | (dsimp only; omega)⟩ ⟨Nat.le_refl _, Nat.le_refl _⟩ ⟨Nat.le_refl _, Nat.le_refl _⟩ (mv_noH hno _) (fun w64 σ64 h64 => ?_)
  obtain ⟨rfl, rfl, s_g15⟩ := h64
  have r_g15 : mv_r g15 = mv_r h := s_g15.trans r_g14
  exact mv_iret (pc := 67) B hr rfl d_Book_called_67 (Nat.le_refl _) (Nat.le_refl _) (Or.inl ⟨_, rfl, xrt_i hf r_g15⟩)
set_option maxHeartbeats 4000000 in
set_option maxRecDepth 100000 in
theorem cr_Book_together_y (l : Launch) {dA : FieldType → ClassId} {D : va_G} {al : Nat → Nat} {ext : mv_Sh} {sk sv : Nat → Nat} (hi : mv_inj (mg dA D al ext)) (nn : Nat) (ih : RecX l dA D al ext sk sv 108 nn) (h : mv_H) (hb : Br 108 (mv_r h))  {rv : Option Int32} {rg : mv_H} (hf : f_Book_together 108 (f_BookR 108 nn) h = some (rv, rg)) : mv_C l y_Book_together (Cond.code y_Book_together b_Book_together 7 (Option.some Jvm.ClassFile.FieldType.int) :: ma) ({ frames := nn + 1 + 7, cells := 0, slots := 0, locals := 60 * (nn + 1) + 400 }) (mg dA D al ext) (mK sk sv) [.ref (al 108)] h (mv_Ui (fun v σ1 => rv = some v ∧ rg = σ1 ∧ mv_r σ1 = mv_r h) ("MachineLoomModel$Book$Wrong", al 141) (fun σ1 => rv = none ∧ rg = σ1 ∧ mv_r σ1 = mv_r h)) := by
  refine mv_C.ofV (cc := b_Book_together) (nL := 7) (ret := (Option.some Jvm.ClassFile.FieldType.int)) (by decide +kernel) rfl hi (Nat.le_of_ble_eq_true rfl) ?_
  intro p e s m below meth c B hNs hr hnm hno
  have jn179 : ∀ (y0 : Int32) (y1 : Int32) (y2 : Int32) (y3 : Int32) (y4 : Int32) (hz : mv_H), mv_r hz = mv_r h → f_Book_together_179 108 (f_BookR 108 nn) y0 y1 y2 y3 y4 hz = some (rv, rg) → mv_V p l e ({ frames := nn + 1 + 7, cells := 0, slots := 0, locals := 60 * (nn + 1) + 400 }) s m ([.ref (al 108)] : List Value).toArray below meth c (mg dA D al ext) 7 0 0 (mv_Q (mg dA D al ext) below s 0 0 (mv_Ui (fun v σ1 => rv = some v ∧ rg = σ1 ∧ mv_r σ1 = mv_r h) ("MachineLoomModel$Book$Wrong", al 141) (fun σ1 => rv = none ∧ rg = σ1 ∧ mv_r σ1 = mv_r h))) hz 179 [] [.int y0, .int y1, .int y2, .int y3, .int y4, .ref (al 108)] := by
    intro y0 y1 y2 y3 y4 hz r_hz hf
    unfold f_Book_together_179 at hf
    obtain ⟨u2, g1, eg1, hf⟩ := xhb_e hf
    refine mv_callVi (pc := 179) (n := 5) (ci := 12) (C := R_Book) B (mK_ok sk sv) hNs rfl rfl (ch_Book_node_y l hi _ (xrw r_hz hb) _ _ _ _ _ eg1) rfl (ma_goodc kc_Book_node) (B.2.2.2.1 _ k_2269) (B.2.2.2.1 _ k_2271) (B.2.2.2.1 _ ks_110) (B.2.2.2.1 _ k_13) ⟨by decide +kernel, by decide +kernel, by decide +kernel⟩ rfl d_Book_together_179 rfl (Nat.le_of_ble_eq_true rfl) ⟨by first | decide | (dsimp only; omega), by first | decide | (dsimp only; omega)⟩ ⟨Nat.le_refl _, Nat.le_refl _⟩ ⟨Nat.le_refl _, Nat.le_refl _⟩ (mv_noH hno _) (fun w179 σ179 h179 => ?_)
    obtain ⟨rfl, rfl, s_g1⟩ := h179
    have r_g1 : mv_r g1 = mv_r h := s_g1.trans r_hz
    exact mv_iret (pc := 182) B hr rfl d_Book_together_182 (Nat.le_refl _) (Nat.le_refl _) (Or.inl ⟨_, rfl, xrt_i hf r_g1⟩)
  have jn178 : ∀ (y0 : Int32) (y1 : Int32) (y2 : Int32) (y3 : Int32) (hz : mv_H), mv_r hz = mv_r h → f_Book_together_178 108 (f_BookR 108 nn) y0 y1 y2 y3 hz = some (rv, rg) → mv_V p l e ({ frames := nn + 1 + 7, cells := 0, slots := 0, locals := 60 * (nn + 1) + 400 }) s m ([.ref (al 108)] : List Value).toArray below meth c (mg dA D al ext) 7 0 0 (mv_Q (mg dA D al ext) below s 0 0 (mv_Ui (fun v σ1 => rv = some v ∧ rg = σ1 ∧ mv_r σ1 = mv_r h) ("MachineLoomModel$Book$Wrong", al 141) (fun σ1 => rv = none ∧ rg = σ1 ∧ mv_r σ1 = mv_r h))) hz 178 [] [.int y0, .int y1, .int y2, .int y3, .ref (al 108)] := by
    intro y0 y1 y2 y3 hz r_hz hf
    unfold f_Book_together_178 at hf
    refine mv_iconst (pc := 178) (v := 0) B d_Book_together_178 (by decide) ?_
    refine mv_lpick [] rfl ?_
    exact jn179 _ _ _ _ _ _ r_hz hf
  have jn157 : ∀ (x2 : Int32) (x3 : Int32) (x5 : Int32) (hz : mv_H), mv_r hz = mv_r h → f_Book_together_157 108 (f_BookR 108 nn) x2 x3 x5 hz = some (rv, rg) → mv_V p l e ({ frames := nn + 1 + 7, cells := 0, slots := 0, locals := 60 * (nn + 1) + 400 }) s m ([.ref (al 108)] : List Value).toArray below meth c (mg dA D al ext) 7 0 0 (mv_Q (mg dA D al ext) below s 0 0 (mv_Ui (fun v σ1 => rv = some v ∧ rg = σ1 ∧ mv_r σ1 = mv_r h) ("MachineLoomModel$Book$Wrong", al 141) (fun σ1 => rv = none ∧ rg = σ1 ∧ mv_r σ1 = mv_r h))) hz 157 [(0, .ref (al 108)), (2, .int x2), (3, .int x3), (5, .int x5)] [] := by
    intro x2 x3 x5 hz r_hz hf
    unfold f_Book_together_157 at hf
    refine mv_aload_n (pc := 157) B d_Book_together_157 rfl 0 rfl ?_
    refine mv_bipush (pc := 158) (v := 10) B d_Book_together_158 (by decide) ?_
    refine mv_iload_n (pc := 160) B d_Book_together_160 rfl 2 rfl ?_
    refine mv_iconst (pc := 161) (v := 0) B d_Book_together_161 (by decide) ?_
    refine mv_iconst (pc := 162) (v := 0) B d_Book_together_162 (by decide) ?_
    refine mv_iload (pc := 163) B d_Book_together_163 3 rfl ?_
    refine mv_if_eq (pc := 165) (tgt := 178) B d_Book_together_165 rfl (fun h165 => ?_) (fun h165 => ?_)
    · skip
      have hf := xif_t h165 hf
      refine mv_lpick [] rfl ?_
      exact jn178 _ _ _ _ _ r_hz hf
    · skip
      have hf := xif_f h165 hf
      refine mv_iload_n (pc := 168) B d_Book_together_168 rfl 1 rfl ?_
      refine mv_bipush (pc := 169) (v := 64) B d_Book_together_169 (by decide) ?_
      refine mv_icmp_gt (pc := 171) (tgt := 178) B d_Book_together_171 rfl (fun h171 => ?_) (fun h171 => ?_)
      · skip
        have hf := xif_t h171 hf
        refine mv_lpick [] rfl ?_
        exact jn178 _ _ _ _ _ r_hz hf
      · skip
        have hf := xif_f h171 hf
        refine mv_iload_n (pc := 174) B d_Book_together_174 rfl 1 rfl ?_
        refine mv_goto (pc := 175) (tgt := 179) B d_Book_together_175 rfl ?_
        refine mv_lpick [] rfl ?_
        exact jn179 _ _ _ _ _ _ r_hz hf
  have lp52 : ∀ (nn52 : Nat) (x1 : Int32) (x2 : Int32) (x3 : Int32) (x4 : Int32) (x5 : Int32) (hz : mv_H), mv_r hz = mv_r h → f_Book_together_52 108 (f_BookR 108 nn) nn52 x1 x2 x3 x4 x5 hz = some (rv, rg) → mv_V p l e ({ frames := nn + 1 + 7, cells := 0, slots := 0, locals := 60 * (nn + 1) + 400 }) s m ([.ref (al 108)] : List Value).toArray below meth c (mg dA D al ext) 7 0 0 (mv_Q (mg dA D al ext) below s 0 0 (mv_Ui (fun v σ1 => rv = some v ∧ rg = σ1 ∧ mv_r σ1 = mv_r h) ("MachineLoomModel$Book$Wrong", al 141) (fun σ1 => rv = none ∧ rg = σ1 ∧ mv_r σ1 = mv_r h))) hz 52 [(0, .ref (al 108)), (1, .int x1), (2, .int x2), (3, .int x3), (4, .int x4), (5, .int x5)] [] := by
    intro nn52
    induction nn52 with
    | zero => intro x1 x2 x3 x4 x5 hz r_hz hf; cases hf
    | succ nn52 ih52 =>
      intro x1 x2 x3 x4 x5 hz r_hz hf
      have jn101 : ∀ (x1 : Int32) (x2 : Int32) (x3 : Int32) (x4 : Int32) (x6 : Int32) (y0 : Int32) (y1 : Int32) (hz : mv_H), mv_r hz = mv_r h → f_Book_together_101 108 (f_BookR 108 nn) (f_Book_together_52 108 (f_BookR 108 nn) nn52) x1 x2 x3 x4 x6 y0 y1 hz = some (rv, rg) → mv_V p l e ({ frames := nn + 1 + 7, cells := 0, slots := 0, locals := 60 * (nn + 1) + 400 }) s m ([.ref (al 108)] : List Value).toArray below meth c (mg dA D al ext) 7 0 0 (mv_Q (mg dA D al ext) below s 0 0 (mv_Ui (fun v σ1 => rv = some v ∧ rg = σ1 ∧ mv_r σ1 = mv_r h) ("MachineLoomModel$Book$Wrong", al 141) (fun σ1 => rv = none ∧ rg = σ1 ∧ mv_r σ1 = mv_r h))) hz 101 [(0, .ref (al 108)), (1, .int x1), (2, .int x2), (3, .int x3), (4, .int x4), (6, .int x6)] [.int y0, .int y1] := by
        intro x1 x2 x3 x4 x6 y0 y1 hz r_hz hf
        unfold f_Book_together_101 at hf
        refine mv_iand (pc := 101) B d_Book_together_101 ?_
        refine mv_istore (pc := 102) B d_Book_together_102 (by decide) rfl ?_
        refine mv_iload_n (pc := 104) B d_Book_together_104 rfl 3 rfl ?_
        refine mv_sipush (pc := 105) (v := 1000) B d_Book_together_105 (by decide) ?_
        refine mv_icmp_ge (pc := 108) (tgt := 121) B d_Book_together_108 rfl (fun h108 => ?_) (fun h108 => ?_)
        · skip
          have hf := xif_t h108 hf
          refine mv_goto (pc := 121) (tgt := 52) B d_Book_together_121 rfl ?_
          refine mv_lpick [1, 2, 3, 4, 5, 0] rfl ?_
          exact ih52 _ _ _ _ _ _ r_hz hf
        · skip
          have hf := xif_f h108 hf
          refine mv_iload_n (pc := 111) B d_Book_together_111 rfl 3 rfl ?_
          refine mv_aload_n (pc := 112) B d_Book_together_112 rfl 1 rfl ?_
          refine mv_getR (pc := 113) (ci := 12) (C := R_Book) (T := F_Book) (N := 65) B 45 rfl rfl (by decide) i_Book (B.2.2.2.1 _ k_1894) rfl ((congrFun (congrFun r_hz 108) 45).trans (hb.1 108 45 _ rfl)) d_Book_together_113 ?_
          refine mv_iload (pc := 116) B d_Book_together_116 6 rfl ?_
          obtain ⟨q3, hf⟩ := xvi_e hf
          refine mv_iald (pc := 118) B rfl q3 d_Book_together_118 ?_
          refine mv_iadd (pc := 119) B d_Book_together_119 ?_
          refine mv_istore_n (pc := 120) B d_Book_together_120 rfl (by decide) rfl ?_
          refine mv_goto (pc := 121) (tgt := 52) B d_Book_together_121 rfl ?_
          refine mv_lpick [2, 3, 0, 4, 5, 1] rfl ?_
          exact ih52 _ _ _ _ _ _ r_hz hf
      have hf : fF_Book_together_52 108 (f_BookR 108 nn) (f_Book_together_52 108 (f_BookR 108 nn) nn52) x1 x2 x3 x4 x5 hz = some (rv, rg) := hf
      unfold fF_Book_together_52 at hf
      refine mv_aload_n (pc := 52) B d_Book_together_52 rfl 0 rfl ?_
      refine mv_getI (pc := 53) (ci := 12) (C := R_Book) (T := F_Book) (N := 65) B 4 rfl rfl (by decide) i_Book (B.2.2.2.1 _ k_1847) rfl d_Book_together_53 ?_
      refine mv_bipush (pc := 56) (v := 44) B d_Book_together_56 (by decide) ?_
      refine mv_icmp_ne (pc := 58) (tgt := 124) B d_Book_together_58 rfl (fun h58 => ?_) (fun h58 => ?_)
      · skip
        have hf := xif_f h58 hf
        refine mv_aload_n (pc := 124) B d_Book_together_124 rfl 0 rfl ?_
        refine mv_bipush (pc := 125) (v := 125) B d_Book_together_125 (by decide) ?_
        obtain ⟨og4, g4, eg4, hf⟩ := xtb_e hf
        refine mv_callVUv (pc := 127) (n := 1) (ci := 12) (C := R_Book) B (mK_ok sk sv) hNs rfl rfl (ch_Book_need_y l hi _ (xrw r_hz hb) _ eg4) rfl (ma_goodc kc_Book_need) (B.2.2.2.1 _ k_2177) (B.2.2.2.1 _ k_2179) (B.2.2.2.1 _ ks_91) (B.2.2.2.1 _ k_13) ⟨by decide +kernel, by decide +kernel, by decide +kernel⟩ rfl d_Book_together_127 rfl (Nat.le_of_ble_eq_true rfl) ⟨by first | decide | (dsimp only; omega), by first | decide | (dsimp only; omega)⟩ ⟨Nat.le_refl _, Nat.le_refl _⟩ ⟨Nat.le_refl _, Nat.le_refl _⟩ (mv_noH hno _) (fun τ9 g9 => Or.inr ⟨rfl, xth hf g9 r_hz⟩) (fun σ127 h127 => ?_)
        obtain ⟨rfl, rfl, s_g4⟩ := h127
        have hf := xt2_s hf
        have r_g4 : mv_r g4 = mv_r h := s_g4.trans r_hz
        refine mv_aload_n (pc := 130) B d_Book_together_130 rfl 0 rfl ?_
        refine mv_dup (pc := 131) B d_Book_together_131 rfl ?_
        refine mv_getI (pc := 132) (ci := 12) (C := R_Book) (T := F_Book) (N := 65) B 8 rfl rfl (by decide) i_Book (B.2.2.2.1 _ k_1851) rfl d_Book_together_132 ?_
        refine mv_iconst (pc := 135) (v := 1) B d_Book_together_135 (by decide) ?_
        refine mv_isub (pc := 136) B d_Book_together_136 ?_
        refine mv_putI (pc := 137) (ci := 12) (C := R_Book) (T := F_Book) (N := 65) B 8 rfl rfl (by decide) i_Book t_Book_ok n_Book (B.2.2.2.1 _ k_1851) rfl rfl rfl rfl d_Book_together_137 ?_
        refine mvh_hp (R9 := mv_r h) hf r_g4 (fun g6 hf r_g6 => ?_)
        refine mv_iload (pc := 140) B d_Book_together_140 5 rfl ?_
        refine mv_if_eq (pc := 142) (tgt := 157) B d_Book_together_142 rfl (fun h142 => ?_) (fun h142 => ?_)
        · skip
          have hf := xif_t h142 hf
          refine mv_lpick [0, 2, 3, 5] rfl ?_
          exact jn157 _ _ _ _ r_g6 hf
        · skip
          have hf := xif_f h142 hf
          refine mv_iload_n (pc := 145) B d_Book_together_145 rfl 2 rfl ?_
          refine mv_bipush (pc := 146) (v := 64) B d_Book_together_146 (by decide) ?_
          refine mv_icmp_le (pc := 148) (tgt := 157) B d_Book_together_148 rfl (fun h148 => ?_) (fun h148 => ?_)
          · skip
            have hf := xif_t h148 hf
            refine mv_lpick [0, 2, 3, 5] rfl ?_
            exact jn157 _ _ _ _ r_g6 hf
          · skip
            have hf := xif_f h148 hf
            refine mv_aload_n (pc := 151) B d_Book_together_151 rfl 0 rfl ?_
            refine mv_iconst (pc := 152) (v := 4) B d_Book_together_152 (by decide) ?_
            refine mv_iload_n (pc := 153) B d_Book_together_153 rfl 1 rfl ?_
            obtain ⟨g7, eg7, hf⟩ := xhv_e hf
            refine mv_callVv (pc := 154) (n := 2) (ci := 12) (C := R_Book) B (mK_ok sk sv) hNs rfl rfl (ch_Book_fault_y l hi _ _ _ eg7) rfl (ma_goodc kc_Book_fault) (B.2.2.2.1 _ k_2185) (B.2.2.2.1 _ k_2187) (B.2.2.2.1 _ ks_92) (B.2.2.2.1 _ k_13) ⟨by decide +kernel, by decide +kernel, by decide +kernel⟩ rfl d_Book_together_154 rfl (Nat.le_of_ble_eq_true rfl) ⟨by first | decide | (dsimp only; omega), by first | decide | (dsimp only; omega)⟩ ⟨Nat.le_refl _, Nat.le_refl _⟩ ⟨Nat.le_refl _, Nat.le_refl _⟩ (mv_noH hno _) (fun σ154 h154 => ?_)
            obtain ⟨rfl, s_g7⟩ := h154
            have r_g7 : mv_r g7 = mv_r h := s_g7.trans r_g6
            refine mv_lpick [0, 2, 3, 5] rfl ?_
            exact jn157 _ _ _ _ r_g7 hf
      · skip
        have hf := xif_t h58 hf
        refine mv_aload_n (pc := 61) B d_Book_together_61 rfl 0 rfl ?_
        obtain ⟨og9, g9, eg9, hf⟩ := xtb_e hf
        refine mv_callVUv (pc := 62) (n := 0) (ci := 12) (C := R_Book) B (mK_ok sk sv) hNs rfl rfl (ch_Book_pass_y l hi _ (xrw r_hz hb) eg9) rfl (ma_goodc kc_Book_pass) (B.2.2.2.1 _ k_2173) (B.2.2.2.1 _ k_2175) (B.2.2.2.1 _ ks_90) (B.2.2.2.1 _ k_13) ⟨by decide +kernel, by decide +kernel, by decide +kernel⟩ rfl d_Book_together_62 rfl (Nat.le_of_ble_eq_true rfl) ⟨by first | decide | (dsimp only; omega), by first | decide | (dsimp only; omega)⟩ ⟨Nat.le_refl _, Nat.le_refl _⟩ ⟨Nat.le_refl _, Nat.le_refl _⟩ (mv_noH hno _) (fun τ9 g9 => Or.inr ⟨rfl, xth hf g9 r_hz⟩) (fun σ62 h62 => ?_)
        obtain ⟨rfl, rfl, s_g9⟩ := h62
        have hf := xt2_s hf
        have r_g9 : mv_r g9 = mv_r h := s_g9.trans r_hz
        refine mv_aload_n (pc := 65) B d_Book_together_65 rfl 0 rfl ?_
        obtain ⟨og11, g11, eg11, hf⟩ := xtb_e hf
        refine mv_callVUi (pc := 66) (n := 0) (ci := 12) (C := R_Book) B (mK_ok sk sv) hNs rfl rfl (ih.1 _ _ _ _ (xrw r_g9 hb) eg11) rfl (ma_goodc kc_Book_expression) (B.2.2.2.1 _ k_2245) (B.2.2.2.1 _ k_2247) (B.2.2.2.1 _ ks_104) (B.2.2.2.1 _ k_13) ⟨by decide +kernel, by decide +kernel, by decide +kernel⟩ rfl d_Book_together_66 rfl (Nat.le_of_ble_eq_true rfl) ⟨by first | decide | (dsimp only; omega), by first | decide | (dsimp only; omega)⟩ ⟨Nat.le_refl _, Nat.le_refl _⟩ ⟨Nat.le_refl _, Nat.le_refl _⟩ (mv_noH hno _) (fun τ9 g9 => Or.inr ⟨rfl, xth hf g9 r_g9⟩) (fun u12 σ66 h66 => ?_)
        obtain ⟨rfl, rfl, s_g11⟩ := h66
        have hf := xt2_s hf
        have r_g11 : mv_r g11 = mv_r h := s_g11.trans r_g9
        refine mv_istore (pc := 69) B d_Book_together_69 (by decide) rfl ?_
        refine mv_aload_n (pc := 71) B d_Book_together_71 rfl 1 rfl ?_
        refine mv_getR (pc := 72) (ci := 12) (C := R_Book) (T := F_Book) (N := 65) B 44 rfl rfl (by decide) i_Book (B.2.2.2.1 _ k_1893) rfl ((congrFun (congrFun r_g11 108) 44).trans (hb.1 108 44 _ rfl)) d_Book_together_72 ?_
        refine mv_iload (pc := 75) B d_Book_together_75 5 rfl ?_
        refine mv_iload (pc := 77) B d_Book_together_77 0 rfl ?_
        obtain ⟨q13, hf⟩ := xvi_e hf
        refine mv_iast (pc := 79) B rfl q13 d_Book_together_79 ?_
        refine mvh_hp (R9 := mv_r h) hf r_g11 (fun g14 hf r_g14 => ?_)
        refine mv_iload (pc := 80) B d_Book_together_80 0 rfl ?_
        refine mv_istore (pc := 82) B d_Book_together_82 (by decide) rfl ?_
        refine mv_iload (pc := 84) B d_Book_together_84 6 rfl ?_
        refine mv_aload_n (pc := 86) B d_Book_together_86 rfl 2 rfl ?_
        refine mv_getR (pc := 87) (ci := 12) (C := R_Book) (T := F_Book) (N := 65) B 45 rfl rfl (by decide) i_Book (B.2.2.2.1 _ k_1894) rfl ((congrFun (congrFun r_g14 108) 45).trans (hb.1 108 45 _ rfl)) d_Book_together_87 ?_
        refine mv_iload (pc := 90) B d_Book_together_90 1 rfl ?_
        obtain ⟨q15, hf⟩ := xvi_e hf
        refine mv_iald (pc := 92) B rfl q15 d_Book_together_92 ?_
        refine mv_if_le (pc := 93) (tgt := 100) B d_Book_together_93 rfl (fun h93 => ?_) (fun h93 => ?_)
        · skip
          have hf := xif_t h93 hf
          refine mv_iconst (pc := 100) (v := 0) B d_Book_together_100 (by decide) ?_
          refine mv_lpick [2, 3, 4, 5, 0, 1] rfl ?_
          exact jn101 _ _ _ _ _ _ _ _ r_g14 hf
        · skip
          have hf := xif_f h93 hf
          refine mv_iconst (pc := 96) (v := 1) B d_Book_together_96 (by decide) ?_
          refine mv_goto (pc := 97) (tgt := 101) B d_Book_together_97 rfl ?_
          refine mv_lpick [2, 3, 4, 5, 0, 1] rfl ?_
          exact jn101 _ _ _ _ _ _ _ _ r_g14 hf
  have jn43 : ∀ (x1 : Int32) (x3 : Int32) (x4 : Int32) (y0 : Int32) (hz : mv_H), mv_r hz = mv_r h → f_Book_together_43 108 (f_BookR 108 nn) x1 x3 x4 y0 hz = some (rv, rg) → mv_V p l e ({ frames := nn + 1 + 7, cells := 0, slots := 0, locals := 60 * (nn + 1) + 400 }) s m ([.ref (al 108)] : List Value).toArray below meth c (mg dA D al ext) 7 0 0 (mv_Q (mg dA D al ext) below s 0 0 (mv_Ui (fun v σ1 => rv = some v ∧ rg = σ1 ∧ mv_r σ1 = mv_r h) ("MachineLoomModel$Book$Wrong", al 141) (fun σ1 => rv = none ∧ rg = σ1 ∧ mv_r σ1 = mv_r h))) hz 43 [(0, .ref (al 108)), (1, .int x1), (3, .int x3), (4, .int x4)] [.int y0] := by
    intro x1 x3 x4 y0 hz r_hz hf
    unfold f_Book_together_43 at hf
    refine mv_istore (pc := 43) B d_Book_together_43 (by decide) rfl ?_
    refine mv_aload_n (pc := 45) B d_Book_together_45 rfl 1 rfl ?_
    refine mv_getR (pc := 46) (ci := 12) (C := R_Book) (T := F_Book) (N := 65) B 45 rfl rfl (by decide) i_Book (B.2.2.2.1 _ k_1894) rfl ((congrFun (congrFun r_hz 108) 45).trans (hb.1 108 45 _ rfl)) d_Book_together_46 ?_
    refine mv_iload_n (pc := 49) B d_Book_together_49 rfl 3 rfl ?_
    obtain ⟨q16, hf⟩ := xvi_e hf
    refine mv_iald (pc := 50) B rfl q16 d_Book_together_50 ?_
    refine mv_istore_n (pc := 51) B d_Book_together_51 rfl (by decide) rfl ?_
    refine mv_lpick [2, 3, 0, 4, 5, 1] rfl ?_
    exact lp52 _ _ _ _ _ _ _ r_hz hf
  unfold f_Book_together at hf
  refine mv_aload_n (pc := 0) B d_Book_together_0 rfl 0 rfl ?_
  refine mv_getI (pc := 1) (ci := 12) (C := R_Book) (T := F_Book) (N := 65) B 5 rfl rfl (by decide) i_Book (B.2.2.2.1 _ k_1848) rfl d_Book_together_1 ?_
  refine mv_istore_n (pc := 4) B d_Book_together_4 rfl (by decide) rfl ?_
  refine mv_iconst (pc := 5) (v := 0) B d_Book_together_5 (by decide) ?_
  refine mv_istore_n (pc := 6) B d_Book_together_6 rfl (by decide) rfl ?_
  refine mv_aload_n (pc := 7) B d_Book_together_7 rfl 2 rfl ?_
  obtain ⟨og17, g17, eg17, hf⟩ := xtb_e hf
  refine mv_callVUv (pc := 8) (n := 0) (ci := 12) (C := R_Book) B (mK_ok sk sv) hNs rfl rfl (ch_Book_pass_y l hi _ (hb) eg17) rfl (ma_goodc kc_Book_pass) (B.2.2.2.1 _ k_2173) (B.2.2.2.1 _ k_2175) (B.2.2.2.1 _ ks_90) (B.2.2.2.1 _ k_13) ⟨by decide +kernel, by decide +kernel, by decide +kernel⟩ rfl d_Book_together_8 rfl (Nat.le_of_ble_eq_true rfl) ⟨by first | decide | (dsimp only; omega), by first | decide | (dsimp only; omega)⟩ ⟨Nat.le_refl _, Nat.le_refl _⟩ ⟨Nat.le_refl _, Nat.le_refl _⟩ (mv_noH hno _) (fun τ9 g9 => Or.inr ⟨rfl, xth hf g9 rfl⟩) (fun σ8 h8 => ?_)
  obtain ⟨rfl, rfl, s_g17⟩ := h8
  have hf := xt2_s hf
  have r_g17 : mv_r g17 = mv_r h := s_g17.trans rfl
  refine mv_aload_n (pc := 11) B d_Book_together_11 rfl 2 rfl ?_
  refine mv_dup (pc := 12) B d_Book_together_12 rfl ?_
  refine mv_getI (pc := 13) (ci := 12) (C := R_Book) (T := F_Book) (N := 65) B 8 rfl rfl (by decide) i_Book (B.2.2.2.1 _ k_1851) rfl d_Book_together_13 ?_
  refine mv_iconst (pc := 16) (v := 1) B d_Book_together_16 (by decide) ?_
  refine mv_iadd (pc := 17) B d_Book_together_17 ?_
  refine mv_putI (pc := 18) (ci := 12) (C := R_Book) (T := F_Book) (N := 65) B 8 rfl rfl (by decide) i_Book t_Book_ok n_Book (B.2.2.2.1 _ k_1851) rfl rfl rfl rfl d_Book_together_18 ?_
  refine mvh_hp (R9 := mv_r h) hf r_g17 (fun g19 hf r_g19 => ?_)
  refine mv_aload_n (pc := 21) B d_Book_together_21 rfl 2 rfl ?_
  obtain ⟨og20, g20, eg20, hf⟩ := xtb_e hf
  refine mv_callVUi (pc := 22) (n := 0) (ci := 12) (C := R_Book) B (mK_ok sk sv) hNs rfl rfl (ih.1 _ _ _ _ (xrw r_g19 hb) eg20) rfl (ma_goodc kc_Book_expression) (B.2.2.2.1 _ k_2245) (B.2.2.2.1 _ k_2247) (B.2.2.2.1 _ ks_104) (B.2.2.2.1 _ k_13) ⟨by decide +kernel, by decide +kernel, by decide +kernel⟩ rfl d_Book_together_22 rfl (Nat.le_of_ble_eq_true rfl) ⟨by first | decide | (dsimp only; omega), by first | decide | (dsimp only; omega)⟩ ⟨Nat.le_refl _, Nat.le_refl _⟩ ⟨Nat.le_refl _, Nat.le_refl _⟩ (mv_noH hno _) (fun τ9 g9 => Or.inr ⟨rfl, xth hf g9 r_g19⟩) (fun u21 σ22 h22 => ?_)
  obtain ⟨rfl, rfl, s_g20⟩ := h22
  have hf := xt2_s hf
  have r_g20 : mv_r g20 = mv_r h := s_g20.trans r_g19
  refine mv_istore_n (pc := 25) B d_Book_together_25 rfl (by decide) rfl ?_
  refine mv_iload_n (pc := 26) B d_Book_together_26 rfl 0 rfl ?_
  refine mv_istore (pc := 27) B d_Book_together_27 (by decide) rfl ?_
  refine mv_aload_n (pc := 29) B d_Book_together_29 rfl 4 rfl ?_
  refine mv_getR (pc := 30) (ci := 12) (C := R_Book) (T := F_Book) (N := 65) B 45 rfl rfl (by decide) i_Book (B.2.2.2.1 _ k_1894) rfl ((congrFun (congrFun r_g20 108) 45).trans (hb.1 108 45 _ rfl)) d_Book_together_30 ?_
  refine mv_iload_n (pc := 33) B d_Book_together_33 rfl 1 rfl ?_
  obtain ⟨q22, hf⟩ := xvi_e hf
  refine mv_iald (pc := 34) B rfl q22 d_Book_together_34 ?_
  refine mv_if_le (pc := 35) (tgt := 42) B d_Book_together_35 rfl (fun h35 => ?_) (fun h35 => ?_)
  · skip
    have hf := xif_t h35 hf
    refine mv_iconst (pc := 42) (v := 0) B d_Book_together_42 (by decide) ?_
    refine mv_lpick [4, 3, 1, 0] rfl ?_
    exact jn43 _ _ _ _ _ r_g20 hf
  · skip
    have hf := xif_f h35 hf
    refine mv_iconst (pc := 38) (v := 1) B d_Book_together_38 (by decide) ?_
    refine mv_goto (pc := 39) (tgt := 43) B d_Book_together_39 rfl ?_
    refine mv_lpick [4, 3, 1, 0] rfl ?_
    exact jn43 _ _ _ _ _ r_g20 hf
theorem rec_0y (l : Launch) {dA : FieldType → ClassId} {D : va_G} {al : Nat → Nat} {ext : mv_Sh} {sk sv : Nat → Nat} (hi : mv_inj (mg dA D al ext)) : RecX l dA D al ext sk sv 108 0 := ⟨(fun a h rv rg hb hf => by cases hf), (fun a h rv rg hb hf => by cases hf), (fun a h rv rg hb hf => by cases hf), (fun a h rv rg hb hf => by cases hf), (fun a h rv rg hb hf => by cases hf), (fun a h rv rg hb hf => by cases hf), (fun a h rv rg hb hf => by cases hf), (fun a h rv rg hb hf => by cases hf), (fun a h rv rg hb hf => by cases hf)⟩
theorem rec_1y (l : Launch) {dA : FieldType → ClassId} {D : va_G} {al : Nat → Nat} {ext : mv_Sh} {sk sv : Nat → Nat} (hi : mv_inj (mg dA D al ext)) (nn : Nat) (ih : RecX l dA D al ext sk sv 108 nn) : RecX l dA D al ext sk sv 108 (nn + 1) := ⟨(fun a h rv rg hb hf => cr_Book_expression_y l hi nn ih h hb (by rw [f_BookR] at hf; exact hf)), (fun a h rv rg hb hf => cr_Book_binary_y l hi nn ih h hb a (by rw [f_BookR] at hf; exact hf)), (fun a h rv rg hb hf => cr_Book_unary_y l hi nn ih h hb (by rw [f_BookR] at hf; exact hf)), (fun a h rv rg hb hf => cr_Book_post_y l hi nn ih h hb (by rw [f_BookR] at hf; exact hf)), (fun a h rv rg hb hf => cr_Book_primary_y l hi nn ih h hb (by rw [f_BookR] at hf; exact hf)), (fun a h rv rg hb hf => cr_Book_named_y l hi nn ih h hb (by rw [f_BookR] at hf; exact hf)), (fun a h rv rg hb hf => cr_Book_wider_y l hi nn ih h hb a (by rw [f_BookR] at hf; exact hf)), (fun a h rv rg hb hf => cr_Book_called_y l hi nn ih h hb a (by rw [f_BookR] at hf; exact hf)), (fun a h rv rg hb hf => cr_Book_together_y l hi nn ih h hb (by rw [f_BookR] at hf; exact hf))⟩
theorem rec_y (l : Launch) {dA : FieldType → ClassId} {D : va_G} {al : Nat → Nat} {ext : mv_Sh} {sk sv : Nat → Nat} (hi : mv_inj (mg dA D al ext)) : ∀ nn, RecX l dA D al ext sk sv 108 nn := by
  intro nn
  induction nn with
  | zero => exact rec_0y l hi
  | succ nn ih => exact rec_1y l hi nn ih
