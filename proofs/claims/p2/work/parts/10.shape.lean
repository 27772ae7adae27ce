/-! the shape of the cells: class, reference, the law's own array; behind them (ext) the shipped program, once it is made -/
def mb : mv_Sh := [.inl 0, .inr (.byte, 32768), .inl 1, .inl 2, .inr (.int, 32770), .inr (.int, 32770), .inr (.long, 32770), .inl 3, .inr (.byte, 32896), .inr (.int, 16449), .inr (.int, 1024), .inr (.int, 16448), .inr (.byte, 128), .inl 4, .inr (.int, 16448), .inr (.int, 16448), .inr (.byte, 16448), .inr (.int, 128), .inr (.long, 128), .inr (.int, 64), .inr (.int, 64), .inl 5, .inl 6, .inr (.int, 1024), .inr (.int, 1024), .inr (.int, 1024), .inr (.int, 1024), .inr (.int, 1024), .inr (.int, 61), .inr (.int, 61), .inr (.int, 61), .inr (.int, 61), .inl 7, .inr (.int, 64), .inr (.int, 64), .inr (.int, 64), .inr (.boolean, 64), .inr (.long, 512), .inr (.long, 512), .inr (.int, 512), .inr (.byte, 32768), .inr (.int, 32768), .inr (.long, 32768), .inl 8, .inr (.int, 512), .inr (.int, 1025), .inr (.int, 1025), .inr (.int, 1025), .inl 7, .inr (.int, 64), .inr (.int, 64), .inr (.int, 64), .inr (.boolean, 64), .inr (.long, 512), .inr (.long, 512), .inr (.int, 512), .inr (.byte, 32768), .inr (.int, 32768), .inr (.long, 32768), .inl 8, .inr (.int, 512), .inr (.int, 1025), .inr (.int, 1025), .inr (.int, 1025), .inl 9, .inr (.long, 65600), .inr (.long, 64), .inr (.long, 1024), .inr (.int, 8193), .inr (.long, 8193), .inl 11, .inr (.byte, 32768), .inr (.int, 32), .inr (.byte, 32768), .inl 12, .inr (.int, 4100), .inr (.int, 4100), .inr (.int, 4100), .inr (.int, 4100), .inr (.int, 4100), .inr (.boolean, 4100), .inr (.boolean, 4100), .inr (.int, 4100), .inr (.int, 4100), .inr (.int, 4100), .inr (.int, 4100), .inr (.int, 4100), .inr (.byte, 32768), .inr (.int, 4100), .inr (.int, 4100), .inr (.int, 4100), .inr (.int, 4100), .inr (.int, 33000), .inr (.int, 33000), .inr (.int, 33000), .inr (.int, 33000), .inr (.int, 33000), .inr (.int, 33000), .inr (.long, 33000), .inr (.boolean, 33000), .inr (.long, 4100), .inr (.long, 4100), .inr (.long, 65536), .inr (.int, 12000), .inr (.int, 12000), .inr (.int, 33000), .inr (.long, 12000), .inl 13, .inl 12, .inr (.int, 4100), .inr (.int, 4100), .inr (.int, 4100), .inr (.int, 4100), .inr (.int, 4100), .inr (.boolean, 4100), .inr (.boolean, 4100), .inr (.int, 4100), .inr (.int, 4100), .inr (.int, 4100), .inr (.int, 4100), .inr (.int, 4100), .inr (.byte, 32768), .inr (.int, 4100), .inr (.int, 4100), .inr (.int, 4100), .inr (.int, 4100), .inr (.int, 33000), .inr (.int, 33000), .inr (.int, 33000), .inr (.int, 33000), .inr (.int, 33000), .inr (.int, 33000), .inr (.long, 33000), .inr (.boolean, 33000), .inr (.long, 4100), .inr (.long, 4100), .inr (.long, 65536), .inr (.int, 12000), .inr (.int, 12000), .inr (.int, 33000), .inr (.long, 12000), .inl 13, .inr (.long, 1)]
def me : mv_Sh := [.inl 10, .inr (.byte, 8192), .inl 7, .inr (.int, 64), .inr (.int, 64), .inr (.int, 64), .inr (.boolean, 64), .inr (.long, 48), .inr (.long, 48), .inr (.int, 48), .inr (.byte, 3072), .inr (.int, 8192), .inr (.long, 8192), .inl 8, .inr (.int, 48), .inr (.int, 97), .inr (.int, 97), .inr (.int, 97)]
abbrev mg (dA : FieldType → ClassId) (D : va_G) (al : Nat → Nat) (ext : mv_Sh) : mv_G := (mc_cl, mc_ft, dA, D, al, mb ++ ext)
/-- the references that never change -/
def mr : Nat → Nat → Option Nat := fun o => match o with
  | 0 => fun k => match k with
    | 0 => some 1
    | 5 => some 2
    | 6 => some 32
    | 7 => some 48
    | 9 => some 64
    | _ => none
  | 2 => fun k => match k with
    | 0 => some 3
    | 1 => some 13
    | 2 => some 21
    | 3 => some 22
    | 11 => some 28
    | 12 => some 29
    | 13 => some 30
    | 14 => some 31
    | _ => none
  | 3 => fun k => match k with
    | 0 => some 4
    | 1 => some 5
    | 2 => some 6
    | 3 => some 7
    | _ => none
  | 7 => fun k => match k with
    | 0 => some 8
    | 1 => some 9
    | 2 => some 10
    | 3 => some 11
    | 4 => some 12
    | _ => none
  | 13 => fun k => match k with
    | 0 => some 7
    | 1 => some 14
    | 2 => some 15
    | 3 => some 16
    | 4 => some 17
    | 5 => some 18
    | 6 => some 19
    | 8 => some 20
    | _ => none
  | 22 => fun k => match k with
    | 0 => some 3
    | 1 => some 13
    | 2 => some 21
    | 4 => some 23
    | 5 => some 24
    | 6 => some 25
    | 7 => some 26
    | 9 => some 27
    | _ => none
  | 32 => fun k => match k with
    | 2 => some 33
    | 3 => some 34
    | 4 => some 35
    | 5 => some 36
    | 11 => some 37
    | 12 => some 38
    | 13 => some 39
    | 14 => some 40
    | 15 => some 41
    | 16 => some 42
    | 18 => some 43
    | _ => none
  | 43 => fun k => match k with
    | 0 => some 44
    | 1 => some 45
    | 2 => some 46
    | 3 => some 47
    | _ => none
  | 48 => fun k => match k with
    | 2 => some 49
    | 3 => some 50
    | 4 => some 51
    | 5 => some 52
    | 11 => some 53
    | 12 => some 54
    | 13 => some 55
    | 14 => some 56
    | 15 => some 57
    | 16 => some 58
    | 18 => some 59
    | _ => none
  | 59 => fun k => match k with
    | 0 => some 60
    | 1 => some 61
    | 2 => some 62
    | 3 => some 63
    | _ => none
  | 64 => fun k => match k with
    | 1 => some 65
    | 2 => some 66
    | 3 => some 67
    | 5 => some 68
    | 6 => some 69
    | _ => none
  | 70 => fun k => match k with
    | 0 => some 71
    | 7 => some 72
    | 8 => some 73
    | _ => none
  | 74 => fun k => match k with
    | 0 => some 107
    | 10 => some 75
    | 11 => some 76
    | 12 => some 77
    | 13 => some 78
    | 14 => some 79
    | 15 => some 80
    | 16 => some 81
    | 23 => some 82
    | 24 => some 83
    | 25 => some 84
    | 26 => some 85
    | 27 => some 86
    | 28 => some 87
    | 31 => some 88
    | 32 => some 89
    | 33 => some 90
    | 34 => some 91
    | 40 => some 92
    | 41 => some 93
    | 42 => some 94
    | 43 => some 95
    | 44 => some 96
    | 45 => some 97
    | 46 => some 98
    | 47 => some 99
    | 54 => some 100
    | 55 => some 101
    | 56 => some 102
    | 57 => some 103
    | 58 => some 104
    | 59 => some 105
    | 60 => some 106
    | _ => none
  | 108 => fun k => match k with
    | 0 => some 141
    | 10 => some 109
    | 11 => some 110
    | 12 => some 111
    | 13 => some 112
    | 14 => some 113
    | 15 => some 114
    | 16 => some 115
    | 23 => some 116
    | 24 => some 117
    | 25 => some 118
    | 26 => some 119
    | 27 => some 120
    | 28 => some 121
    | 31 => some 122
    | 32 => some 123
    | 33 => some 124
    | 34 => some 125
    | 40 => some 126
    | 41 => some 127
    | 42 => some 128
    | 43 => some 129
    | 44 => some 130
    | 45 => some 131
    | 46 => some 132
    | 47 => some 133
    | 54 => some 134
    | 55 => some 135
    | 56 => some 136
    | 57 => some 137
    | 58 => some 138
    | 59 => some 139
    | 60 => some 140
    | _ => none
  | 143 => fun k => match k with
    | 0 => some 144
    | _ => none
  | 145 => fun k => match k with
    | 2 => some 146
    | 3 => some 147
    | 4 => some 148
    | 5 => some 149
    | 11 => some 150
    | 12 => some 151
    | 13 => some 152
    | 14 => some 153
    | 15 => some 154
    | 16 => some 155
    | 18 => some 156
    | _ => none
  | 156 => fun k => match k with
    | 0 => some 157
    | 1 => some 158
    | 2 => some 159
    | 3 => some 160
    | _ => none
  | _ => fun _ => none
def mh (r : Nat → Nat → Option Nat) : Prop := ∀ o k v : Nat, mr o k = some v → r o k = some v
def mn : List Cond := [(Jvm.Cond.methodLinkNest "MachineLoom" (23 : Nat) ({ cls := "MachineLoom$Weaver", name := "<init>", desc := "()V" } : Jvm.MethodName) "MachineLoom"), (Jvm.Cond.methodLinkNest "MachineLoom$Weaver" (11 : Nat) ({ cls := "MachineLoom$Tokens", name := "<init>", desc := "()V" } : Jvm.MethodName) "MachineLoom"), (Jvm.Cond.methodLinkNest "MachineLoom$Tokens" (25 : Nat) ({ cls := "MachineLoom$Symbols", name := "<init>", desc := "()V" } : Jvm.MethodName) "MachineLoom"), (Jvm.Cond.methodLinkNest "MachineLoom$Weaver" (33 : Nat) ({ cls := "MachineLoom$Faults", name := "<init>", desc := "()V" } : Jvm.MethodName) "MachineLoom"), (Jvm.Cond.methodLinkNest "MachineLoom" (113 : Nat) ({ cls := "MachineLoom$Shipped", name := "<init>", desc := "()V" } : Jvm.MethodName) "MachineLoom"), (Jvm.Cond.methodLinkNest "MachineLoomModel" (30 : Nat) ({ cls := "MachineLoomModel$Book", name := "<init>", desc := "()V" } : Jvm.MethodName) "MachineLoomModel"), (Jvm.Cond.methodLinkNest "MachineLoomModel$Book" (9 : Nat) ({ cls := "MachineLoomModel$Book$Wrong", name := "<init>", desc := "()V" } : Jvm.MethodName) "MachineLoomModel"), (Jvm.Cond.methodLinkNest "MachineLoomModel$Book" (296 : Nat) ({ cls := "MachineLoomModel", name := "in", desc := "(JJJ)Z" } : Jvm.MethodName) "MachineLoomModel")]
theorem mn_ok : ∀ w ∈ mn, mv_isN w := fun w h => by
  simp only [mn, List.mem_cons, List.not_mem_nil, or_false] at h
  rcases h with rfl | rfl | rfl | rfl | rfl | rfl | rfl | rfl <;> exact Or.inr ⟨_, _, _, _, rfl⟩
theorem mv_noH {c : Code} (h : c.exceptionTable.isEmpty = true) (pc : Nat) : ∀ x ∈ c.exceptionTable.toList, covers x pc = false := by
  have h0 : c.exceptionTable.size = 0 := by simpa [Array.isEmpty] using h
  have h1 : c.exceptionTable.toList = [] := List.eq_nil_of_length_eq_zero (by simpa using h0)
  intro x hx
  rw [h1] at hx
  cases hx
