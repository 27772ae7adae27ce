/-! the shape of the cells: class, reference, the law's own array; behind them (ext) the shipped program, once it is made -/
def mb : mv_Sh := [.inl 0, .inr (.byte, 32768), .inl 1, .inl 2, .inr (.int, 32770), .inr (.int, 32770), .inr (.long, 32770), .inl 3, .inr (.byte, 32896), .inr (.int, 16449), .inr (.int, 1024), .inr (.int, 16448), .inr (.byte, 128), .inl 4, .inr (.int, 16448), .inr (.int, 16448), .inr (.byte, 16448), .inr (.int, 128), .inr (.long, 128), .inr (.int, 64), .inr (.int, 64), .inl 5, .inl 6, .inr (.int, 1024), .inr (.int, 1024), .inr (.int, 1024), .inr (.int, 1024), .inr (.int, 1024), .inr (.int, 61), .inr (.int, 61), .inr (.int, 61), .inr (.int, 61), .inl 7, .inr (.int, 64), .inr (.int, 64), .inr (.int, 64), .inr (.boolean, 64), .inr (.long, 512), .inr (.long, 512), .inr (.int, 512), .inr (.byte, 32768), .inr (.int, 32768), .inr (.long, 32768), .inl 8, .inr (.int, 512), .inr (.int, 1025), .inr (.int, 1025), .inr (.int, 1025), .inl 7, .inr (.int, 64), .inr (.int, 64), .inr (.int, 64), .inr (.boolean, 64), .inr (.long, 512), .inr (.long, 512), .inr (.int, 512), .inr (.byte, 32768), .inr (.int, 32768), .inr (.long, 32768), .inl 8, .inr (.int, 512), .inr (.int, 1025), .inr (.int, 1025), .inr (.int, 1025), .inl 9, .inr (.long, 65600), .inr (.long, 64), .inr (.long, 1024), .inr (.int, 8193), .inr (.long, 8193), .inl 11, .inr (.byte, 32768), .inr (.int, 32), .inr (.byte, 32768), .inl 12, .inr (.int, 4100), .inr (.int, 4100), .inr (.int, 4100), .inr (.int, 4100), .inr (.int, 4100), .inr (.boolean, 4100), .inr (.boolean, 4100), .inr (.int, 4100), .inr (.int, 4100), .inr (.int, 4100), .inr (.int, 4100), .inr (.int, 4100), .inr (.byte, 32768), .inr (.int, 4100), .inr (.int, 4100), .inr (.int, 4100), .inr (.int, 4100), .inr (.int, 33000), .inr (.int, 33000), .inr (.int, 33000), .inr (.int, 33000), .inr (.int, 33000), .inr (.int, 33000), .inr (.long, 33000), .inr (.boolean, 33000), .inr (.long, 4100), .inr (.long, 4100), .inr (.long, 65536), .inr (.int, 12000), .inr (.int, 12000), .inr (.int, 33000), .inr (.long, 12000), .inl 13, .inl 12, .inr (.int, 4100), .inr (.int, 4100), .inr (.int, 4100), .inr (.int, 4100), .inr (.int, 4100), .inr (.boolean, 4100), .inr (.boolean, 4100), .inr (.int, 4100), .inr (.int, 4100), .inr (.int, 4100), .inr (.int, 4100), .inr (.int, 4100), .inr (.byte, 32768), .inr (.int, 4100), .inr (.int, 4100), .inr (.int, 4100), .inr (.int, 4100), .inr (.int, 33000), .inr (.int, 33000), .inr (.int, 33000), .inr (.int, 33000), .inr (.int, 33000), .inr (.int, 33000), .inr (.long, 33000), .inr (.boolean, 33000), .inr (.long, 4100), .inr (.long, 4100), .inr (.long, 65536), .inr (.int, 12000), .inr (.int, 12000), .inr (.int, 33000), .inr (.long, 12000), .inl 13, .inr (.long, 1)]
def me : mv_Sh := [.inl 10, .inr (.byte, 8192), .inl 7, .inr (.int, 64), .inr (.int, 64), .inr (.int, 64), .inr (.boolean, 64), .inr (.long, 48), .inr (.long, 48), .inr (.int, 48), .inr (.byte, 3072), .inr (.int, 8192), .inr (.long, 8192), .inl 8, .inr (.int, 48), .inr (.int, 97), .inr (.int, 97), .inr (.int, 97)]
abbrev mg (dA : FieldType → ClassId) (D : va_G) (al : Nat → Nat) (ext : mv_Sh) : mv_G := (mc_cl, mc_ft, dA, D, al, mb ++ ext)
/-- the references that never change -/
def mr : Nat → Nat → Option Nat := fun o => match o with
  | 0 => fun k => match k with
    | 0 => some 1
    | 5 => some 2
    | 6 => some 32
    | 7 => some 48
    | 9 => some 64
    | _ => none
  | 2 => fun k => match k with
    | 0 => some 3
    | 1 => some 13
    | 2 => some 21
    | 3 => some 22
    | 11 => some 28
    | 12 => some 29
    | 13 => some 30
    | 14 => some 31
    | _ => none
  | 3 => fun k => match k with
    | 0 => some 4
    | 1 => some 5
    | 2 => some 6
    | 3 => some 7
    | _ => none
  | 7 => fun k => match k with
    | 0 => some 8
    | 1 => some 9
    | 2 => some 10
    | 3 => some 11
    | 4 => some 12
    | _ => none
  | 13 => fun k => match k with
    | 0 => some 7
    | 1 => some 14
    | 2 => some 15
    | 3 => some 16
    | 4 => some 17
    | 5 => some 18
    | 6 => some 19
    | 8 => some 20
    | _ => none
  | 22 => fun k => match k with
    | 0 => some 3
    | 1 => some 13
    | 2 => some 21
    | 4 => some 23
    | 5 => some 24
    | 6 => some 25
    | 7 => some 26
    | 9 => some 27
    | _ => none
  | 32 => fun k => match k with
    | 2 => some 33
    | 3 => some 34
    | 4 => some 35
    | 5 => some 36
    | 11 => some 37
    | 12 => some 38
    | 13 => some 39
    | 14 => some 40
    | 15 => some 41
    | 16 => some 42
    | 18 => some 43
    | _ => none
  | 43 => fun k => match k with
    | 0 => some 44
    | 1 => some 45
    | 2 => some 46
    | 3 => some 47
    | _ => none
  | 48 => fun k => match k with
    | 2 => some 49
    | 3 => some 50
    | 4 => some 51
    | 5 => some 52
    | 11 => some 53
    | 12 => some 54
    | 13 => some 55
    | 14 => some 56
    | 15 => some 57
    | 16 => some 58
    | 18 => some 59
    | _ => none
  | 59 => fun k => match k with
    | 0 => some 60
    | 1 => some 61
    | 2 => some 62
    | 3 => some 63
    | _ => none
  | 64 => fun k => match k with
    | 1 => some 65
    | 2 => some 66
    | 3 => some 67
    | 5 => some 68
    | 6 => some 69
    | _ => none
  | 70 => fun k => match k with
    | 0 => some 71
    | 7 => some 72
    | 8 => some 73
    | _ => none
  | 74 => fun k => match k with
    | 0 => some 107
    | 10 => some 75
    | 11 => some 76
    | 12 => some 77
    | 13 => some 78
    | 14 => some 79
    | 15 => some 80
    | 16 => some 81
    | 23 => some 82
    | 24 => some 83
    | 25 => some 84
    | 26 => some 85
    | 27 => some 86
    | 28 => some 87
    | 31 => some 88
    | 32 => some 89
    | 33 => some 90
    | 34 => some 91
    | 40 => some 92
    | 41 => some 93
    | 42 => some 94
    | 43 => some 95
    | 44 => some 96
    | 45 => some 97
    | 46 => some 98
    | 47 => some 99
    | 54 => some 100
    | 55 => some 101
    | 56 => some 102
    | 57 => some 103
    | 58 => some 104
    | 59 => some 105
    | 60 => some 106
    | _ => none
  | 108 => fun k => match k with
    | 0 => some 141
    | 10 => some 109
    | 11 => some 110
    | 12 => some 111
    | 13 => some 112
    | 14 => some 113
    | 15 => some 114
    | 16 => some 115
    | 23 => some 116
    | 24 => some 117
    | 25 => some 118
    | 26 => some 119
    | 27 => some 120
    | 28 => some 121
    | 31 => some 122
    | 32 => some 123
    | 33 => some 124
    | 34 => some 125
    | 40 => some 126
    | 41 => some 127
    | 42 => some 128
    | 43 => some 129
    | 44 => some 130
    | 45 => some 131
    | 46 => some 132
    | 47 => some 133
    | 54 => some 134
    | 55 => some 135
    | 56 => some 136
    | 57 => some 137
    | 58 => some 138
    | 59 => some 139
    | 60 => some 140
    | _ => none
  | 143 => fun k => match k with
    | 0 => some 144
    | _ => none
  | 145 => fun k => match k with
    | 2 => some 146
    | 3 => some 147
    | 4 => some 148
    | 5 => some 149
    | 11 => some 150
    | 12 => some 151
    | 13 => some 152
    | 14 => some 153
    | 15 => some 154
    | 16 => some 155
    | 18 => some 156
    | _ => none
  | 156 => fun k => match k with
    | 0 => some 157
    | 1 => some 158
    | 2 => some 159
    | 3 => some 160
    | _ => none
  | _ => fun _ => none
def mh (r : Nat → Nat → Option Nat) : Prop := ∀ o k v : Nat, mr o k = some v → r o k = some v
def mn : List Cond := [(Jvm.Cond.methodLinkNest "MachineLoom" (23 : Nat) ({ cls := "MachineLoom$Weaver", name := "<init>", desc := "()V" } : Jvm.MethodName) "MachineLoom"), (Jvm.Cond.methodLinkNest "MachineLoom$Weaver" (11 : Nat) ({ cls := "MachineLoom$Tokens", name := "<init>", desc := "()V" } : Jvm.MethodName) "MachineLoom"), (Jvm.Cond.methodLinkNest "MachineLoom$Tokens" (25 : Nat) ({ cls := "MachineLoom$Symbols", name := "<init>", desc := "()V" } : Jvm.MethodName) "MachineLoom"), (Jvm.Cond.methodLinkNest "MachineLoom$Weaver" (33 : Nat) ({ cls := "MachineLoom$Faults", name := "<init>", desc := "()V" } : Jvm.MethodName) "MachineLoom"), (Jvm.Cond.methodLinkNest "MachineLoom" (113 : Nat) ({ cls := "MachineLoom$Shipped", name := "<init>", desc := "()V" } : Jvm.MethodName) "MachineLoom"), (Jvm.Cond.methodLinkNest "MachineLoomModel" (30 : Nat) ({ cls := "MachineLoomModel$Book", name := "<init>", desc := "()V" } : Jvm.MethodName) "MachineLoomModel"), (Jvm.Cond.methodLinkNest "MachineLoomModel$Book" (9 : Nat) ({ cls := "MachineLoomModel$Book$Wrong", name := "<init>", desc := "()V" } : Jvm.MethodName) "MachineLoomModel"), (Jvm.Cond.methodLinkNest "MachineLoomModel$Book" (296 : Nat) ({ cls := "MachineLoomModel", name := "in", desc := "(JJJ)Z" } : Jvm.MethodName) "MachineLoomModel")]
theorem mn_ok : ∀ w ∈ mn, mv_isN w := fun w h => by
  simp only [mn, List.mem_cons, List.not_mem_nil, or_false] at h
  rcases h with rfl | rfl | rfl | rfl | rfl | rfl | rfl | rfl <;> exact Or.inr ⟨_, _, _, _, rfl⟩
/-- the String constants: class, entry, text, bytes -/
def st_t : List (String × Nat × String × List Int32) := [
  ("MachineLoom$Shipped", 15, "bits 32; reg pc: 32; file x: 32[32] zero; file m: 8[32768]; fetch pc from m;", [98, 105, 116, 115, 32, 51, 50, 59, 32, 114, 101, 103, 32, 112, 99, 58, 32, 51, 50, 59, 32, 102, 105, 108, 101, 32, 120, 58, 32, 51, 50, 91, 51, 50, 93, 32, 122, 101, 114, 111, 59, 32, 102, 105, 108, 101, 32, 109, 58, 32, 56, 91, 51, 50, 55, 54, 56, 93, 59, 32, 102, 101, 116, 99, 104, 32, 112, 99, 32, 102, 114, 111, 109, 32, 109, 59]),
  ("MachineLoom$Shipped", 21, "lui", [108, 117, 105]),
  ("MachineLoom$Shipped", 23, "iiiiiiiiiiiiiiiiiiiiddddd0110111", [105, 105, 105, 105, 105, 105, 105, 105, 105, 105, 105, 105, 105, 105, 105, 105, 105, 105, 105, 105, 100, 100, 100, 100, 100, 48, 49, 49, 48, 49, 49, 49]),
  ("MachineLoom$Shipped", 25, "x[d] = {i, 12'0};", [120, 91, 100, 93, 32, 61, 32, 123, 105, 44, 32, 49, 50, 39, 48, 125, 59]),
  ("MachineLoom$Shipped", 115, "", []),
  ("MachineLoom$Shipped", 325, " op ", [32, 111, 112, 32]),
  ("MachineLoom$Shipped", 304, " }", [32, 125]),
  ("MachineLoom$Shipped", 31, "auipc", [97, 117, 105, 112, 99]),
  ("MachineLoom$Shipped", 33, "iiiiiiiiiiiiiiiiiiiiddddd0010111", [105, 105, 105, 105, 105, 105, 105, 105, 105, 105, 105, 105, 105, 105, 105, 105, 105, 105, 105, 105, 100, 100, 100, 100, 100, 48, 48, 49, 48, 49, 49, 49]),
  ("MachineLoom$Shipped", 35, "x[d] = pc + {i, 12'0};", [120, 91, 100, 93, 32, 61, 32, 112, 99, 32, 43, 32, 123, 105, 44, 32, 49, 50, 39, 48, 125, 59]),
  ("MachineLoom$Shipped", 37, "jal", [106, 97, 108]),
  ("MachineLoom$Shipped", 39, "abbbbbbbbbbceeeeeeeeddddd1101111", [97, 98, 98, 98, 98, 98, 98, 98, 98, 98, 98, 99, 101, 101, 101, 101, 101, 101, 101, 101, 100, 100, 100, 100, 100, 49, 49, 48, 49, 49, 49, 49]),
  ("MachineLoom$Shipped", 41, "let to = pc + sx({a, e, c, b, 1'0}, 32); if to[1:0] != 2'0 { trap 1; } x[d] = pc + 32'4; pc = to;", [108, 101, 116, 32, 116, 111, 32, 61, 32, 112, 99, 32, 43, 32, 115, 120, 40, 123, 97, 44, 32, 101, 44, 32, 99, 44, 32, 98, 44, 32, 49, 39, 48, 125, 44, 32, 51, 50, 41, 59, 32, 105, 102, 32, 116, 111, 91, 49, 58, 48, 93, 32, 33, 61, 32, 50, 39, 48, 32, 123, 32, 116, 114, 97, 112, 32, 49, 59, 32, 125, 32, 120, 91, 100, 93, 32, 61, 32, 112, 99, 32, 43, 32, 51, 50, 39, 52, 59, 32, 112, 99, 32, 61, 32, 116, 111, 59]),
  ("MachineLoom$Shipped", 43, "jalr", [106, 97, 108, 114]),
  ("MachineLoom$Shipped", 45, "iiiiiiiiiiiisssss000ddddd1100111", [105, 105, 105, 105, 105, 105, 105, 105, 105, 105, 105, 105, 115, 115, 115, 115, 115, 48, 48, 48, 100, 100, 100, 100, 100, 49, 49, 48, 48, 49, 49, 49]),
  ("MachineLoom$Shipped", 47, "let to = x[s] + sx(i, 32) & 32'0xfffffffe; if to[1:0] != 2'0 { trap 1; } x[d] = pc + 32'4; pc = to;", [108, 101, 116, 32, 116, 111, 32, 61, 32, 120, 91, 115, 93, 32, 43, 32, 115, 120, 40, 105, 44, 32, 51, 50, 41, 32, 38, 32, 51, 50, 39, 48, 120, 102, 102, 102, 102, 102, 102, 102, 101, 59, 32, 105, 102, 32, 116, 111, 91, 49, 58, 48, 93, 32, 33, 61, 32, 50, 39, 48, 32, 123, 32, 116, 114, 97, 112, 32, 49, 59, 32, 125, 32, 120, 91, 100, 93, 32, 61, 32, 112, 99, 32, 43, 32, 51, 50, 39, 52, 59, 32, 112, 99, 32, 61, 32, 116, 111, 59]),
  ("MachineLoom$Shipped", 49, "beq", [98, 101, 113]),
  ("MachineLoom$Shipped", 51, "000", [48, 48, 48]),
  ("MachineLoom$Shipped", 53, "x[s] == x[t]", [120, 91, 115, 93, 32, 61, 61, 32, 120, 91, 116, 93]),
  ("MachineLoom$Shipped", 279, "abbbbbbtttttsssss", [97, 98, 98, 98, 98, 98, 98, 116, 116, 116, 116, 116, 115, 115, 115, 115, 115]),
  ("MachineLoom$Shipped", 281, "cccce1100011", [99, 99, 99, 99, 101, 49, 49, 48, 48, 48, 49, 49]),
  ("MachineLoom$Shipped", 286, "if ", [105, 102, 32]),
  ("MachineLoom$Shipped", 288, "{ let to = pc + sx({a, e, b, c, 1'0}, 32); if to[1:0] != 2'0 { trap 1; } pc = to; } }", [123, 32, 108, 101, 116, 32, 116, 111, 32, 61, 32, 112, 99, 32, 43, 32, 115, 120, 40, 123, 97, 44, 32, 101, 44, 32, 98, 44, 32, 99, 44, 32, 49, 39, 48, 125, 44, 32, 51, 50, 41, 59, 32, 105, 102, 32, 116, 111, 91, 49, 58, 48, 93, 32, 33, 61, 32, 50, 39, 48, 32, 123, 32, 116, 114, 97, 112, 32, 49, 59, 32, 125, 32, 112, 99, 32, 61, 32, 116, 111, 59, 32, 125, 32, 125]),
  ("MachineLoom$Shipped", 58, "bne", [98, 110, 101]),
  ("MachineLoom$Shipped", 60, "001", [48, 48, 49]),
  ("MachineLoom$Shipped", 62, "x[s] != x[t]", [120, 91, 115, 93, 32, 33, 61, 32, 120, 91, 116, 93]),
  ("MachineLoom$Shipped", 64, "blt", [98, 108, 116]),
  ("MachineLoom$Shipped", 66, "100", [49, 48, 48]),
  ("MachineLoom$Shipped", 68, "slt(x[s], x[t])", [115, 108, 116, 40, 120, 91, 115, 93, 44, 32, 120, 91, 116, 93, 41]),
  ("MachineLoom$Shipped", 70, "bge", [98, 103, 101]),
  ("MachineLoom$Shipped", 72, "101", [49, 48, 49]),
  ("MachineLoom$Shipped", 74, "!slt(x[s], x[t])", [33, 115, 108, 116, 40, 120, 91, 115, 93, 44, 32, 120, 91, 116, 93, 41]),
  ("MachineLoom$Shipped", 76, "bltu", [98, 108, 116, 117]),
  ("MachineLoom$Shipped", 78, "110", [49, 49, 48]),
  ("MachineLoom$Shipped", 80, "x[s] < x[t]", [120, 91, 115, 93, 32, 60, 32, 120, 91, 116, 93]),
  ("MachineLoom$Shipped", 82, "bgeu", [98, 103, 101, 117]),
  ("MachineLoom$Shipped", 84, "111", [49, 49, 49]),
  ("MachineLoom$Shipped", 86, "x[t] <= x[s]", [120, 91, 116, 93, 32, 60, 61, 32, 120, 91, 115, 93]),
  ("MachineLoom$Shipped", 88, "lb", [108, 98]),
  ("MachineLoom$Shipped", 90, "sx(m[p], 32)", [115, 120, 40, 109, 91, 112, 93, 44, 32, 51, 50, 41]),
  ("MachineLoom$Shipped", 290, "iiiiiiiiiiiisssss", [105, 105, 105, 105, 105, 105, 105, 105, 105, 105, 105, 105, 115, 115, 115, 115, 115]),
  ("MachineLoom$Shipped", 292, "ddddd0000011", [100, 100, 100, 100, 100, 48, 48, 48, 48, 48, 49, 49]),
  ("MachineLoom$Shipped", 294, "let p = x[s] + sx(i, 32); x[d] = ", [108, 101, 116, 32, 112, 32, 61, 32, 120, 91, 115, 93, 32, 43, 32, 115, 120, 40, 105, 44, 32, 51, 50, 41, 59, 32, 120, 91, 100, 93, 32, 61, 32]),
  ("MachineLoom$Shipped", 296, "; }", [59, 32, 125]),
  ("MachineLoom$Shipped", 95, "lh", [108, 104]),
  ("MachineLoom$Shipped", 97, "sx({m[p + 32'1], m[p]}, 32)", [115, 120, 40, 123, 109, 91, 112, 32, 43, 32, 51, 50, 39, 49, 93, 44, 32, 109, 91, 112, 93, 125, 44, 32, 51, 50, 41]),
  ("MachineLoom$Shipped", 99, "lw", [108, 119]),
  ("MachineLoom$Shipped", 101, "010", [48, 49, 48]),
  ("MachineLoom$Shipped", 103, "{m[p + 32'3], m[p + 32'2], m[p + 32'1], m[p]}", [123, 109, 91, 112, 32, 43, 32, 51, 50, 39, 51, 93, 44, 32, 109, 91, 112, 32, 43, 32, 51, 50, 39, 50, 93, 44, 32, 109, 91, 112, 32, 43, 32, 51, 50, 39, 49, 93, 44, 32, 109, 91, 112, 93, 125]),
  ("MachineLoom$Shipped", 105, "lbu", [108, 98, 117]),
  ("MachineLoom$Shipped", 107, "zx(m[p], 32)", [122, 120, 40, 109, 91, 112, 93, 44, 32, 51, 50, 41]),
  ("MachineLoom$Shipped", 109, "lhu", [108, 104, 117]),
  ("MachineLoom$Shipped", 111, "zx({m[p + 32'1], m[p]}, 32)", [122, 120, 40, 123, 109, 91, 112, 32, 43, 32, 51, 50, 39, 49, 93, 44, 32, 109, 91, 112, 93, 125, 44, 32, 51, 50, 41]),
  ("MachineLoom$Shipped", 113, "sb", [115, 98]),
  ("MachineLoom$Shipped", 298, "iiiiiiitttttsssss", [105, 105, 105, 105, 105, 105, 105, 116, 116, 116, 116, 116, 115, 115, 115, 115, 115]),
  ("MachineLoom$Shipped", 300, "jjjjj0100011", [106, 106, 106, 106, 106, 48, 49, 48, 48, 48, 49, 49]),
  ("MachineLoom$Shipped", 302, "let p = x[s] + sx({i, j}, 32); m[p] = x[t][7:0]; ", [108, 101, 116, 32, 112, 32, 61, 32, 120, 91, 115, 93, 32, 43, 32, 115, 120, 40, 123, 105, 44, 32, 106, 125, 44, 32, 51, 50, 41, 59, 32, 109, 91, 112, 93, 32, 61, 32, 120, 91, 116, 93, 91, 55, 58, 48, 93, 59, 32]),
  ("MachineLoom$Shipped", 120, "sh", [115, 104]),
  ("MachineLoom$Shipped", 122, "m[p + 32'1] = x[t][15:8];", [109, 91, 112, 32, 43, 32, 51, 50, 39, 49, 93, 32, 61, 32, 120, 91, 116, 93, 91, 49, 53, 58, 56, 93, 59]),
  ("MachineLoom$Shipped", 124, "sw", [115, 119]),
  ("MachineLoom$Shipped", 126, "m[p + 32'1] = x[t][15:8]; m[p + 32'2] = x[t][23:16]; m[p + 32'3] = x[t][31:24];", [109, 91, 112, 32, 43, 32, 51, 50, 39, 49, 93, 32, 61, 32, 120, 91, 116, 93, 91, 49, 53, 58, 56, 93, 59, 32, 109, 91, 112, 32, 43, 32, 51, 50, 39, 50, 93, 32, 61, 32, 120, 91, 116, 93, 91, 50, 51, 58, 49, 54, 93, 59, 32, 109, 91, 112, 32, 43, 32, 51, 50, 39, 51, 93, 32, 61, 32, 120, 91, 116, 93, 91, 51, 49, 58, 50, 52, 93, 59]),
  ("MachineLoom$Shipped", 153, "addi", [97, 100, 100, 105]),
  ("MachineLoom$Shipped", 155, "x[s] + sx(i, 32)", [120, 91, 115, 93, 32, 43, 32, 115, 120, 40, 105, 44, 32, 51, 50, 41]),
  ("MachineLoom$Shipped", 306, "ddddd0010011", [100, 100, 100, 100, 100, 48, 48, 49, 48, 48, 49, 49]),
  ("MachineLoom$Shipped", 323, "x[d] = ", [120, 91, 100, 93, 32, 61, 32]),
  ("MachineLoom$Shipped", 160, "slti", [115, 108, 116, 105]),
  ("MachineLoom$Shipped", 162, "zx(slt(x[s], sx(i, 32)), 32)", [122, 120, 40, 115, 108, 116, 40, 120, 91, 115, 93, 44, 32, 115, 120, 40, 105, 44, 32, 51, 50, 41, 41, 44, 32, 51, 50, 41]),
  ("MachineLoom$Shipped", 164, "sltiu", [115, 108, 116, 105, 117]),
  ("MachineLoom$Shipped", 166, "011", [48, 49, 49]),
  ("MachineLoom$Shipped", 168, "zx(x[s] < sx(i, 32), 32)", [122, 120, 40, 120, 91, 115, 93, 32, 60, 32, 115, 120, 40, 105, 44, 32, 51, 50, 41, 44, 32, 51, 50, 41]),
  ("MachineLoom$Shipped", 170, "xori", [120, 111, 114, 105]),
  ("MachineLoom$Shipped", 172, "x[s] ^ sx(i, 32)", [120, 91, 115, 93, 32, 94, 32, 115, 120, 40, 105, 44, 32, 51, 50, 41]),
  ("MachineLoom$Shipped", 174, "ori", [111, 114, 105]),
  ("MachineLoom$Shipped", 176, "x[s] | sx(i, 32)", [120, 91, 115, 93, 32, 124, 32, 115, 120, 40, 105, 44, 32, 51, 50, 41]),
  ("MachineLoom$Shipped", 178, "andi", [97, 110, 100, 105]),
  ("MachineLoom$Shipped", 180, "x[s] & sx(i, 32)", [120, 91, 115, 93, 32, 38, 32, 115, 120, 40, 105, 44, 32, 51, 50, 41]),
  ("MachineLoom$Shipped", 182, "slli", [115, 108, 108, 105]),
  ("MachineLoom$Shipped", 184, "0000000", [48, 48, 48, 48, 48, 48, 48]),
  ("MachineLoom$Shipped", 186, "x[s] << h", [120, 91, 115, 93, 32, 60, 60, 32, 104]),
  ("MachineLoom$Shipped", 311, "op ", [111, 112, 32]),
  ("MachineLoom$Shipped", 315, "hhhhhsssss", [104, 104, 104, 104, 104, 115, 115, 115, 115, 115]),
  ("MachineLoom$Shipped", 192, "srli", [115, 114, 108, 105]),
  ("MachineLoom$Shipped", 194, "x[s] >> h", [120, 91, 115, 93, 32, 62, 62, 32, 104]),
  ("MachineLoom$Shipped", 196, "srai", [115, 114, 97, 105]),
  ("MachineLoom$Shipped", 198, "0100000", [48, 49, 48, 48, 48, 48, 48]),
  ("MachineLoom$Shipped", 200, "sra(x[s], h)", [115, 114, 97, 40, 120, 91, 115, 93, 44, 32, 104, 41]),
  ("MachineLoom$Shipped", 202, "add", [97, 100, 100]),
  ("MachineLoom$Shipped", 204, "x[s] + x[t]", [120, 91, 115, 93, 32, 43, 32, 120, 91, 116, 93]),
  ("MachineLoom$Shipped", 319, "tttttsssss", [116, 116, 116, 116, 116, 115, 115, 115, 115, 115]),
  ("MachineLoom$Shipped", 209, "sub", [115, 117, 98]),
  ("MachineLoom$Shipped", 211, "x[s] - x[t]", [120, 91, 115, 93, 32, 45, 32, 120, 91, 116, 93]),
  ("MachineLoom$Shipped", 213, "sll", [115, 108, 108]),
  ("MachineLoom$Shipped", 215, "x[s] << x[t][4:0]", [120, 91, 115, 93, 32, 60, 60, 32, 120, 91, 116, 93, 91, 52, 58, 48, 93]),
  ("MachineLoom$Shipped", 217, "slt_", [115, 108, 116, 95]),
  ("MachineLoom$Shipped", 219, "zx(slt(x[s], x[t]), 32)", [122, 120, 40, 115, 108, 116, 40, 120, 91, 115, 93, 44, 32, 120, 91, 116, 93, 41, 44, 32, 51, 50, 41]),
  ("MachineLoom$Shipped", 221, "sltu", [115, 108, 116, 117]),
  ("MachineLoom$Shipped", 223, "zx(x[s] < x[t], 32)", [122, 120, 40, 120, 91, 115, 93, 32, 60, 32, 120, 91, 116, 93, 44, 32, 51, 50, 41]),
  ("MachineLoom$Shipped", 225, "xor", [120, 111, 114]),
  ("MachineLoom$Shipped", 227, "x[s] ^ x[t]", [120, 91, 115, 93, 32, 94, 32, 120, 91, 116, 93]),
  ("MachineLoom$Shipped", 229, "srl", [115, 114, 108]),
  ("MachineLoom$Shipped", 231, "x[s] >> x[t][4:0]", [120, 91, 115, 93, 32, 62, 62, 32, 120, 91, 116, 93, 91, 52, 58, 48, 93]),
  ("MachineLoom$Shipped", 233, "sra_", [115, 114, 97, 95]),
  ("MachineLoom$Shipped", 235, "sra(x[s], x[t][4:0])", [115, 114, 97, 40, 120, 91, 115, 93, 44, 32, 120, 91, 116, 93, 91, 52, 58, 48, 93, 41]),
  ("MachineLoom$Shipped", 237, "or", [111, 114]),
  ("MachineLoom$Shipped", 239, "x[s] | x[t]", [120, 91, 115, 93, 32, 124, 32, 120, 91, 116, 93]),
  ("MachineLoom$Shipped", 241, "and", [97, 110, 100]),
  ("MachineLoom$Shipped", 243, "x[s] & x[t]", [120, 91, 115, 93, 32, 38, 32, 120, 91, 116, 93]),
  ("MachineLoom$Shipped", 134, "fence", [102, 101, 110, 99, 101]),
  ("MachineLoom$Shipped", 136, ".................000.....0001111", [46, 46, 46, 46, 46, 46, 46, 46, 46, 46, 46, 46, 46, 46, 46, 46, 46, 48, 48, 48, 46, 46, 46, 46, 46, 48, 48, 48, 49, 49, 49, 49]),
  ("MachineLoom$Shipped", 138, "ecall", [101, 99, 97, 108, 108]),
  ("MachineLoom$Shipped", 140, "00000000000000000000000001110011", [48, 48, 48, 48, 48, 48, 48, 48, 48, 48, 48, 48, 48, 48, 48, 48, 48, 48, 48, 48, 48, 48, 48, 48, 48, 49, 49, 49, 48, 48, 49, 49]),
  ("MachineLoom$Shipped", 142, "trap 8;", [116, 114, 97, 112, 32, 56, 59]),
  ("MachineLoom$Shipped", 144, "ebreak", [101, 98, 114, 101, 97, 107]),
  ("MachineLoom$Shipped", 146, "00000000000100000000000001110011", [48, 48, 48, 48, 48, 48, 48, 48, 48, 48, 48, 49, 48, 48, 48, 48, 48, 48, 48, 48, 48, 48, 48, 48, 48, 49, 49, 49, 48, 48, 49, 49]),
  ("MachineLoom$Shipped", 148, "trap 3;", [116, 114, 97, 112, 32, 51, 59]),
  ("MachineLoom$Shipped", 245, "mul", [109, 117, 108]),
  ("MachineLoom$Shipped", 247, "0000001", [48, 48, 48, 48, 48, 48, 49]),
  ("MachineLoom$Shipped", 249, "x[s] * x[t]", [120, 91, 115, 93, 32, 42, 32, 120, 91, 116, 93]),
  ("MachineLoom$Shipped", 251, "mulh", [109, 117, 108, 104]),
  ("MachineLoom$Shipped", 253, "(sx(x[s], 64) * sx(x[t], 64))[63:32]", [40, 115, 120, 40, 120, 91, 115, 93, 44, 32, 54, 52, 41, 32, 42, 32, 115, 120, 40, 120, 91, 116, 93, 44, 32, 54, 52, 41, 41, 91, 54, 51, 58, 51, 50, 93]),
  ("MachineLoom$Shipped", 255, "mulhsu", [109, 117, 108, 104, 115, 117]),
  ("MachineLoom$Shipped", 257, "(sx(x[s], 64) * zx(x[t], 64))[63:32]", [40, 115, 120, 40, 120, 91, 115, 93, 44, 32, 54, 52, 41, 32, 42, 32, 122, 120, 40, 120, 91, 116, 93, 44, 32, 54, 52, 41, 41, 91, 54, 51, 58, 51, 50, 93]),
  ("MachineLoom$Shipped", 259, "mulhu", [109, 117, 108, 104, 117]),
  ("MachineLoom$Shipped", 261, "(zx(x[s], 64) * zx(x[t], 64))[63:32]", [40, 122, 120, 40, 120, 91, 115, 93, 44, 32, 54, 52, 41, 32, 42, 32, 122, 120, 40, 120, 91, 116, 93, 44, 32, 54, 52, 41, 41, 91, 54, 51, 58, 51, 50, 93]),
  ("MachineLoom$Shipped", 263, "div", [100, 105, 118]),
  ("MachineLoom$Shipped", 265, "sdiv(x[s], x[t])", [115, 100, 105, 118, 40, 120, 91, 115, 93, 44, 32, 120, 91, 116, 93, 41]),
  ("MachineLoom$Shipped", 267, "divu", [100, 105, 118, 117]),
  ("MachineLoom$Shipped", 269, "x[s] / x[t]", [120, 91, 115, 93, 32, 47, 32, 120, 91, 116, 93]),
  ("MachineLoom$Shipped", 271, "rem", [114, 101, 109]),
  ("MachineLoom$Shipped", 273, "srem(x[s], x[t])", [115, 114, 101, 109, 40, 120, 91, 115, 93, 44, 32, 120, 91, 116, 93, 41]),
  ("MachineLoom$Shipped", 275, "remu", [114, 101, 109, 117]),
  ("MachineLoom$Shipped", 277, "x[s] % x[t]", [120, 91, 115, 93, 32, 37, 32, 120, 91, 116, 93]),
  ("MachineLoom$Symbols", 39, "bits reg file zero fetch from op let trap if else sx zx slt sdiv srem sra ", [98, 105, 116, 115, 32, 114, 101, 103, 32, 102, 105, 108, 101, 32, 122, 101, 114, 111, 32, 102, 101, 116, 99, 104, 32, 102, 114, 111, 109, 32, 111, 112, 32, 108, 101, 116, 32, 116, 114, 97, 112, 32, 105, 102, 32, 101, 108, 115, 101, 32, 115, 120, 32, 122, 120, 32, 115, 108, 116, 32, 115, 100, 105, 118, 32, 115, 114, 101, 109, 32, 115, 114, 97, 32]),
  ("MachineLoom$Tokens", 118, "{}()[];:,?'+-*/%&|^~=!<", [123, 125, 40, 41, 91, 93, 59, 58, 44, 63, 39, 43, 45, 42, 47, 37, 38, 124, 94, 126, 61, 33, 60]),
  ("java/util/Arrays", 48, "fromIndex(", [102, 114, 111, 109, 73, 110, 100, 101, 120, 40]),
  ("java/util/Arrays", 57, ") > toIndex(", [41, 32, 62, 32, 116, 111, 73, 110, 100, 101, 120, 40]),
  ("java/util/Arrays", 59, ")", [41]),
  ("java/util/Arrays", 337, " > ", [32, 62, 32]),
  ("java/lang/ArrayIndexOutOfBoundsException", 13, "Array index out of range: ", [65, 114, 114, 97, 121, 32, 105, 110, 100, 101, 120, 32, 111, 117, 116, 32, 111, 102, 32, 114, 97, 110, 103, 101, 58, 32]),
  ("MachineLoomModel$Book", 406, "bits", [98, 105, 116, 115]),
  ("MachineLoomModel$Book", 414, "reg", [114, 101, 103]),
  ("MachineLoomModel$Book", 223, " bits reg file zero fetch from op let trap if else sx zx slt sdiv srem sra ", [32, 98, 105, 116, 115, 32, 114, 101, 103, 32, 102, 105, 108, 101, 32, 122, 101, 114, 111, 32, 102, 101, 116, 99, 104, 32, 102, 114, 111, 109, 32, 111, 112, 32, 108, 101, 116, 32, 116, 114, 97, 112, 32, 105, 102, 32, 101, 108, 115, 101, 32, 115, 120, 32, 122, 120, 32, 115, 108, 116, 32, 115, 100, 105, 118, 32, 115, 114, 101, 109, 32, 115, 114, 97, 32]),
  ("MachineLoomModel$Book", 365, "zero", [122, 101, 114, 111]),
  ("MachineLoomModel$Book", 420, "file", [102, 105, 108, 101]),
  ("MachineLoomModel$Book", 422, "fetch", [102, 101, 116, 99, 104]),
  ("MachineLoomModel$Book", 370, "from", [102, 114, 111, 109]),
  ("MachineLoomModel$Book", 426, "op", [111, 112]),
  ("MachineLoomModel$Book", 391, "let", [108, 101, 116]),
  ("MachineLoomModel$Book", 324, "sx", [115, 120]),
  ("MachineLoomModel$Book", 330, "zx", [122, 120]),
  ("MachineLoomModel$Book", 332, "slt", [115, 108, 116]),
  ("MachineLoomModel$Book", 337, "sdiv", [115, 100, 105, 118]),
  ("MachineLoomModel$Book", 339, "srem", [115, 114, 101, 109]),
  ("MachineLoomModel$Book", 341, "sra", [115, 114, 97]),
  ("MachineLoomModel$Book", 395, "trap", [116, 114, 97, 112]),
  ("MachineLoomModel$Book", 399, "if", [105, 102]),
  ("MachineLoomModel$Book", 404, "else", [101, 108, 115, 101]),
  ("MachineLoom$Shipped", 313, " \"", [32, 34]),
  ("MachineLoom$Shipped", 327, "\" { ", [34, 32, 123, 32]),
  ("MachineLoom$Shipped", 317, "ddddd0010011\" { ", [100, 100, 100, 100, 100, 48, 48, 49, 48, 48, 49, 49, 34, 32, 123, 32]),
  ("MachineLoom$Shipped", 321, "ddddd0110011\" { ", [100, 100, 100, 100, 100, 48, 49, 49, 48, 48, 49, 49, 34, 32, 123, 32])]
def st_g (i : Nat) : String × Nat × String × List Int32 := st_t.getD i ("", 0, "", [])
def st_1 (sk sv : Nat → Nat) (i : Nat) (A : Nat → Prop) (U : State) (H : Heap) : Prop := vk_R (st_g i).1 (st_g i).2.1 (st_g i).2.2.1 (sk i) U ∧ va_O "java/lang/String" (sk i) A U H ∧ va_OF "java/lang/String" "coder" "B" (.int 0) (sk i) A U H ∧ va_OF "java/lang/String" "value" "[B" (.ref (sv i)) (sk i) A U H ∧ va_T .byte (sv i) (st_g i).2.2.2.length (fun j => .int ((st_g i).2.2.2.getD j 0)) A U H
def mK (sk sv : Nat → Nat) : mv_T := fun A U H => mv_N mn U ∧ (∀ i, i < st_t.length → st_1 sk sv i A U H) ∧ va_Z "java/lang/String" "COMPACT_STRINGS" "Z" (.int 1) A U H ∧ va_Zq "jdk/internal/util/Preconditions" "SIOOBE_FORMATTER" "Ljava/util/function/BiFunction;" A U H
theorem mK_ok (sk sv : Nat → Nat) : mv_Tok (mK sk sv) := by
  refine ⟨fun A u U H hW h => ⟨mv_N.warm mn_ok hW h.1, fun i hi => ?_, va_Z.moved hW.alike h.2.2.1, va_Zq.moved hW.alike h.2.2.2⟩, fun A U H H1 h hq => ⟨h.1, fun i hi => ?_, va_Z.kept h.2.2.1 hq, va_Zq.kept h.2.2.2 hq⟩, fun A A' U H h hA => ⟨h.1, fun i hi => ?_, va_Z.narrow h.2.2.1 hA, va_Zq.narrow h.2.2.2 hA⟩⟩
  · obtain ⟨h1, h2, h3, h4, h5⟩ := h.2.1 i hi
    exact ⟨h1.warm hW, h2.moved hW.alike, h3.moved hW.alike, h4.moved hW.alike, h5.moved hW.alike⟩
  · obtain ⟨h1, h2, h3, h4, h5⟩ := h.2.1 i hi
    exact ⟨h1, h2.kept hq, h3.kept hq, h4.kept hq, h5.kept hq⟩
  · obtain ⟨h1, h2, h3, h4, h5⟩ := h.2.1 i hi
    exact ⟨h1, h2.narrow hA, h3.narrow hA, h4.narrow hA, h5.narrow hA⟩
theorem mv_noH {c : Code} (h : c.exceptionTable.isEmpty = true) (pc : Nat) : ∀ x ∈ c.exceptionTable.toList, covers x pc = false := by
  have h0 : c.exceptionTable.size = 0 := by simpa [Array.isEmpty] using h
  have h1 : c.exceptionTable.toList = [] := List.eq_nil_of_length_eq_zero (by simpa using h0)
  intro x hx
  rw [h1] at hx
  cases hx
