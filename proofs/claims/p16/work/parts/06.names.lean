/-! names: classes and their fields, methods, words, by program out of the listing -/
def ma : List Cond := lw_tbl.filter goodWord
theorem ma_of {w : Cond} (h : w ∈ tables_1) (g : goodWord w = true) : w ∈ ma := List.mem_filter.mpr ⟨List.mem_append_right _ h, g⟩
theorem ma_sel {w : Cond} (i : Nat) (h : (k2_sels lw_privs)[i]? = some w) (g : goodWord w = true) : w ∈ ma := List.mem_filter.mpr ⟨List.mem_append_left _ (List.mem_of_getElem? h), g⟩
theorem ma_good : GoodIn ma ma := fun w h => ⟨h, good_of_word (List.mem_filter.mp h).2⟩
theorem ma_goodc {w : Cond} (h : w ∈ ma) : GoodIn ma (w :: ma) := fun x hx => by
  rcases List.mem_cons.mp hx with rfl | hx
  · exact ma_good _ h
  · exact ma_good _ hx
def R_Loom : String := "MachineLoom"
def F_Loom : u_T := fun k => match k with
  | 0 => ("MachineLoom", "input", "[B", true)
  | 1 => ("MachineLoom", "inputLength", "I", false)
  | 2 => ("MachineLoom", "faultNumber", "I", false)
  | 3 => ("MachineLoom", "faultPlace", "I", false)
  | 4 => ("MachineLoom", "faultOther", "I", false)
  | 5 => ("MachineLoom", "weaver", "LMachineLoom$Weaver;", true)
  | 6 => ("MachineLoom", "first", "LMachineLoom$Program;", true)
  | 7 => ("MachineLoom", "second", "LMachineLoom$Program;", true)
  | 8 => ("MachineLoom", "shipped", "LMachineLoom$Program;", false)
  | _ => ("MachineLoom", "machine", "LMachineLoom$Machine;", true)
def t_Loom : Nat → FieldType := fun k => match k with
  | 0 => .array .byte
  | 1 => .int
  | 2 => .int
  | 3 => .int
  | 4 => .int
  | 5 => .object "MachineLoom$Weaver"
  | 6 => .object "MachineLoom$Program"
  | 7 => .object "MachineLoom$Program"
  | 8 => .object "MachineLoom$Program"
  | _ => .object "MachineLoom$Machine"
theorem n_Loom : ∀ a, a < 10 → ∀ b, b < 10 → a ≠ b → (F_Loom a).2.1 ≠ (F_Loom b).2.1 := by decide +kernel
theorem t_Loom_ok : ∀ k, k < 10 → parseFieldDescriptor (F_Loom k).2.2.1 = some (t_Loom k) := by decide +kernel
theorem l_Loom_0 : u_lay R_Loom F_Loom 0 ∈ ma := ma_of (tb_3 _ (List.mem_of_getElem? (i := 16) rfl)) rfl
theorem l_Loom_1 : u_lay R_Loom F_Loom 1 ∈ ma := ma_of (tb_3 _ (List.mem_of_getElem? (i := 18) rfl)) rfl
theorem l_Loom_2 : u_lay R_Loom F_Loom 2 ∈ ma := ma_of (tb_3 _ (List.mem_of_getElem? (i := 20) rfl)) rfl
theorem l_Loom_3 : u_lay R_Loom F_Loom 3 ∈ ma := ma_of (tb_3 _ (List.mem_of_getElem? (i := 22) rfl)) rfl
theorem l_Loom_4 : u_lay R_Loom F_Loom 4 ∈ ma := ma_of (tb_3 _ (List.mem_of_getElem? (i := 24) rfl)) rfl
theorem l_Loom_5 : u_lay R_Loom F_Loom 5 ∈ ma := ma_of (tb_3 _ (List.mem_of_getElem? (i := 26) rfl)) rfl
theorem l_Loom_6 : u_lay R_Loom F_Loom 6 ∈ ma := ma_of (tb_3 _ (List.mem_of_getElem? (i := 28) rfl)) rfl
theorem l_Loom_7 : u_lay R_Loom F_Loom 7 ∈ ma := ma_of (tb_3 _ (List.mem_of_getElem? (i := 30) rfl)) rfl
theorem l_Loom_8 : u_lay R_Loom F_Loom 8 ∈ ma := ma_of (tb_3 _ (List.mem_of_getElem? (i := 32) rfl)) rfl
theorem l_Loom_9 : u_lay R_Loom F_Loom 9 ∈ ma := ma_of (tb_3 _ (List.mem_of_getElem? (i := 34) rfl)) rfl
theorem i_Loom : ∀ w ∈ u_ws R_Loom F_Loom 10, w ∈ ma := fun w hw => by
  obtain ⟨k, hk, rfl⟩ := List.mem_map.mp hw
  have hk := List.mem_range.mp hk
  rcases (show k = 0 ∨ k = 1 ∨ k = 2 ∨ k = 3 ∨ k = 4 ∨ k = 5 ∨ k = 6 ∨ k = 7 ∨ k = 8 ∨ k = 9 by omega) with rfl | rfl | rfl | rfl | rfl | rfl | rfl | rfl | rfl | rfl
  · exact l_Loom_0
  · exact l_Loom_1
  · exact l_Loom_2
  · exact l_Loom_3
  · exact l_Loom_4
  · exact l_Loom_5
  · exact l_Loom_6
  · exact l_Loom_7
  · exact l_Loom_8
  · exact l_Loom_9
def R_Weaver : String := "MachineLoom$Weaver"
def F_Weaver : u_T := fun k => match k with
  | 0 => ("MachineLoom$Weaver", "tokens", "LMachineLoom$Tokens;", true)
  | 1 => ("MachineLoom$Weaver", "names", "LMachineLoom$Names;", true)
  | 2 => ("MachineLoom$Weaver", "faults", "LMachineLoom$Faults;", true)
  | 3 => ("MachineLoom$Weaver", "exprs", "LMachineLoom$Exprs;", true)
  | 4 => ("MachineLoom$Weaver", "other", "I", false)
  | 5 => ("MachineLoom$Weaver", "program", "LMachineLoom$Program;", false)
  | 6 => ("MachineLoom$Weaver", "mode", "I", false)
  | 7 => ("MachineLoom$Weaver", "goal", "I", false)
  | 8 => ("MachineLoom$Weaver", "goalToken", "I", false)
  | 9 => ("MachineLoom$Weaver", "goalIndex", "I", false)
  | 10 => ("MachineLoom$Weaver", "exits", "I", false)
  | 11 => ("MachineLoom$Weaver", "blockKinds", "[I", true)
  | 12 => ("MachineLoom$Weaver", "blockUnlesses", "[I", true)
  | 13 => ("MachineLoom$Weaver", "blockExits", "[I", true)
  | 14 => ("MachineLoom$Weaver", "blockScopes", "[I", true)
  | _ => ("MachineLoom$Weaver", "blocks", "I", false)
def t_Weaver : Nat → FieldType := fun k => match k with
  | 0 => .object "MachineLoom$Tokens"
  | 1 => .object "MachineLoom$Names"
  | 2 => .object "MachineLoom$Faults"
  | 3 => .object "MachineLoom$Exprs"
  | 4 => .int
  | 5 => .object "MachineLoom$Program"
  | 6 => .int
  | 7 => .int
  | 8 => .int
  | 9 => .int
  | 10 => .int
  | 11 => .array .int
  | 12 => .array .int
  | 13 => .array .int
  | 14 => .array .int
  | _ => .int
theorem n_Weaver : ∀ a, a < 16 → ∀ b, b < 16 → a ≠ b → (F_Weaver a).2.1 ≠ (F_Weaver b).2.1 := by decide +kernel
theorem t_Weaver_ok : ∀ k, k < 16 → parseFieldDescriptor (F_Weaver k).2.2.1 = some (t_Weaver k) := by decide +kernel
theorem l_Weaver_0 : u_lay R_Weaver F_Weaver 0 ∈ ma := ma_of (tb_2 _ (List.mem_of_getElem? (i := 6) rfl)) rfl
theorem l_Weaver_1 : u_lay R_Weaver F_Weaver 1 ∈ ma := ma_of (tb_2 _ (List.mem_of_getElem? (i := 8) rfl)) rfl
theorem l_Weaver_2 : u_lay R_Weaver F_Weaver 2 ∈ ma := ma_of (tb_2 _ (List.mem_of_getElem? (i := 10) rfl)) rfl
theorem l_Weaver_3 : u_lay R_Weaver F_Weaver 3 ∈ ma := ma_of (tb_2 _ (List.mem_of_getElem? (i := 12) rfl)) rfl
theorem l_Weaver_4 : u_lay R_Weaver F_Weaver 4 ∈ ma := ma_of (tb_2 _ (List.mem_of_getElem? (i := 14) rfl)) rfl
theorem l_Weaver_5 : u_lay R_Weaver F_Weaver 5 ∈ ma := ma_of (tb_2 _ (List.mem_of_getElem? (i := 16) rfl)) rfl
theorem l_Weaver_6 : u_lay R_Weaver F_Weaver 6 ∈ ma := ma_of (tb_2 _ (List.mem_of_getElem? (i := 18) rfl)) rfl
theorem l_Weaver_7 : u_lay R_Weaver F_Weaver 7 ∈ ma := ma_of (tb_2 _ (List.mem_of_getElem? (i := 20) rfl)) rfl
theorem l_Weaver_8 : u_lay R_Weaver F_Weaver 8 ∈ ma := ma_of (tb_2 _ (List.mem_of_getElem? (i := 22) rfl)) rfl
theorem l_Weaver_9 : u_lay R_Weaver F_Weaver 9 ∈ ma := ma_of (tb_2 _ (List.mem_of_getElem? (i := 24) rfl)) rfl
theorem l_Weaver_10 : u_lay R_Weaver F_Weaver 10 ∈ ma := ma_of (tb_2 _ (List.mem_of_getElem? (i := 26) rfl)) rfl
theorem l_Weaver_11 : u_lay R_Weaver F_Weaver 11 ∈ ma := ma_of (tb_2 _ (List.mem_of_getElem? (i := 28) rfl)) rfl
theorem l_Weaver_12 : u_lay R_Weaver F_Weaver 12 ∈ ma := ma_of (tb_2 _ (List.mem_of_getElem? (i := 30) rfl)) rfl
theorem l_Weaver_13 : u_lay R_Weaver F_Weaver 13 ∈ ma := ma_of (tb_2 _ (List.mem_of_getElem? (i := 32) rfl)) rfl
theorem l_Weaver_14 : u_lay R_Weaver F_Weaver 14 ∈ ma := ma_of (tb_2 _ (List.mem_of_getElem? (i := 34) rfl)) rfl
theorem l_Weaver_15 : u_lay R_Weaver F_Weaver 15 ∈ ma := ma_of (tb_2 _ (List.mem_of_getElem? (i := 36) rfl)) rfl
theorem i_Weaver : ∀ w ∈ u_ws R_Weaver F_Weaver 16, w ∈ ma := fun w hw => by
  obtain ⟨k, hk, rfl⟩ := List.mem_map.mp hw
  have hk := List.mem_range.mp hk
  rcases (show k = 0 ∨ k = 1 ∨ k = 2 ∨ k = 3 ∨ k = 4 ∨ k = 5 ∨ k = 6 ∨ k = 7 ∨ k = 8 ∨ k = 9 ∨ k = 10 ∨ k = 11 ∨ k = 12 ∨ k = 13 ∨ k = 14 ∨ k = 15 by omega) with rfl | rfl | rfl | rfl | rfl | rfl | rfl | rfl | rfl | rfl | rfl | rfl | rfl | rfl | rfl | rfl
  · exact l_Weaver_0
  · exact l_Weaver_1
  · exact l_Weaver_2
  · exact l_Weaver_3
  · exact l_Weaver_4
  · exact l_Weaver_5
  · exact l_Weaver_6
  · exact l_Weaver_7
  · exact l_Weaver_8
  · exact l_Weaver_9
  · exact l_Weaver_10
  · exact l_Weaver_11
  · exact l_Weaver_12
  · exact l_Weaver_13
  · exact l_Weaver_14
  · exact l_Weaver_15
def R_Tokens : String := "MachineLoom$Tokens"
def F_Tokens : u_T := fun k => match k with
  | 0 => ("MachineLoom$Tokens", "kinds", "[I", true)
  | 1 => ("MachineLoom$Tokens", "places", "[I", true)
  | 2 => ("MachineLoom$Tokens", "numbers", "[J", true)
  | 3 => ("MachineLoom$Tokens", "symbols", "LMachineLoom$Symbols;", true)
  | 4 => ("MachineLoom$Tokens", "text", "[B", false)
  | 5 => ("MachineLoom$Tokens", "length", "I", false)
  | 6 => ("MachineLoom$Tokens", "size", "I", false)
  | 7 => ("MachineLoom$Tokens", "at", "I", false)
  | 8 => ("MachineLoom$Tokens", "depth", "I", false)
  | _ => ("MachineLoom$Tokens", "wrongPlace", "I", false)
def t_Tokens : Nat → FieldType := fun k => match k with
  | 0 => .array .int
  | 1 => .array .int
  | 2 => .array .long
  | 3 => .object "MachineLoom$Symbols"
  | 4 => .array .byte
  | 5 => .int
  | 6 => .int
  | 7 => .int
  | 8 => .int
  | _ => .int
theorem n_Tokens : ∀ a, a < 10 → ∀ b, b < 10 → a ≠ b → (F_Tokens a).2.1 ≠ (F_Tokens b).2.1 := by decide +kernel
theorem t_Tokens_ok : ∀ k, k < 10 → parseFieldDescriptor (F_Tokens k).2.2.1 = some (t_Tokens k) := by decide +kernel
theorem l_Tokens_0 : u_lay R_Tokens F_Tokens 0 ∈ ma := ma_of (tb_1 _ (List.mem_of_getElem? (i := 107) rfl)) rfl
theorem l_Tokens_1 : u_lay R_Tokens F_Tokens 1 ∈ ma := ma_of (tb_1 _ (List.mem_of_getElem? (i := 109) rfl)) rfl
theorem l_Tokens_2 : u_lay R_Tokens F_Tokens 2 ∈ ma := ma_of (tb_1 _ (List.mem_of_getElem? (i := 111) rfl)) rfl
theorem l_Tokens_3 : u_lay R_Tokens F_Tokens 3 ∈ ma := ma_of (tb_1 _ (List.mem_of_getElem? (i := 113) rfl)) rfl
theorem l_Tokens_4 : u_lay R_Tokens F_Tokens 4 ∈ ma := ma_of (tb_1 _ (List.mem_of_getElem? (i := 115) rfl)) rfl
theorem l_Tokens_5 : u_lay R_Tokens F_Tokens 5 ∈ ma := ma_of (tb_1 _ (List.mem_of_getElem? (i := 117) rfl)) rfl
theorem l_Tokens_6 : u_lay R_Tokens F_Tokens 6 ∈ ma := ma_of (tb_1 _ (List.mem_of_getElem? (i := 119) rfl)) rfl
theorem l_Tokens_7 : u_lay R_Tokens F_Tokens 7 ∈ ma := ma_of (tb_1 _ (List.mem_of_getElem? (i := 121) rfl)) rfl
theorem l_Tokens_8 : u_lay R_Tokens F_Tokens 8 ∈ ma := ma_of (tb_1 _ (List.mem_of_getElem? (i := 123) rfl)) rfl
theorem l_Tokens_9 : u_lay R_Tokens F_Tokens 9 ∈ ma := ma_of (tb_1 _ (List.mem_of_getElem? (i := 125) rfl)) rfl
theorem i_Tokens : ∀ w ∈ u_ws R_Tokens F_Tokens 10, w ∈ ma := fun w hw => by
  obtain ⟨k, hk, rfl⟩ := List.mem_map.mp hw
  have hk := List.mem_range.mp hk
  rcases (show k = 0 ∨ k = 1 ∨ k = 2 ∨ k = 3 ∨ k = 4 ∨ k = 5 ∨ k = 6 ∨ k = 7 ∨ k = 8 ∨ k = 9 by omega) with rfl | rfl | rfl | rfl | rfl | rfl | rfl | rfl | rfl | rfl
  · exact l_Tokens_0
  · exact l_Tokens_1
  · exact l_Tokens_2
  · exact l_Tokens_3
  · exact l_Tokens_4
  · exact l_Tokens_5
  · exact l_Tokens_6
  · exact l_Tokens_7
  · exact l_Tokens_8
  · exact l_Tokens_9
def R_Symbols : String := "MachineLoom$Symbols"
def F_Symbols : u_T := fun k => match k with
  | 0 => ("MachineLoom$Symbols", "spelling", "[B", true)
  | 1 => ("MachineLoom$Symbols", "starts", "[I", true)
  | 2 => ("MachineLoom$Symbols", "buckets", "[I", true)
  | 3 => ("MachineLoom$Symbols", "chains", "[I", true)
  | 4 => ("MachineLoom$Symbols", "words", "[B", true)
  | _ => ("MachineLoom$Symbols", "size", "I", false)
def t_Symbols : Nat → FieldType := fun k => match k with
  | 0 => .array .byte
  | 1 => .array .int
  | 2 => .array .int
  | 3 => .array .int
  | 4 => .array .byte
  | _ => .int
theorem n_Symbols : ∀ a, a < 6 → ∀ b, b < 6 → a ≠ b → (F_Symbols a).2.1 ≠ (F_Symbols b).2.1 := by decide +kernel
theorem t_Symbols_ok : ∀ k, k < 6 → parseFieldDescriptor (F_Symbols k).2.2.1 = some (t_Symbols k) := by decide +kernel
theorem l_Symbols_0 : u_lay R_Symbols F_Symbols 0 ∈ ma := ma_of (tb_1 _ (List.mem_of_getElem? (i := 73) rfl)) rfl
theorem l_Symbols_1 : u_lay R_Symbols F_Symbols 1 ∈ ma := ma_of (tb_1 _ (List.mem_of_getElem? (i := 75) rfl)) rfl
theorem l_Symbols_2 : u_lay R_Symbols F_Symbols 2 ∈ ma := ma_of (tb_1 _ (List.mem_of_getElem? (i := 77) rfl)) rfl
theorem l_Symbols_3 : u_lay R_Symbols F_Symbols 3 ∈ ma := ma_of (tb_1 _ (List.mem_of_getElem? (i := 79) rfl)) rfl
theorem l_Symbols_4 : u_lay R_Symbols F_Symbols 4 ∈ ma := ma_of (tb_1 _ (List.mem_of_getElem? (i := 81) rfl)) rfl
theorem l_Symbols_5 : u_lay R_Symbols F_Symbols 5 ∈ ma := ma_of (tb_1 _ (List.mem_of_getElem? (i := 83) rfl)) rfl
theorem i_Symbols : ∀ w ∈ u_ws R_Symbols F_Symbols 6, w ∈ ma := fun w hw => by
  obtain ⟨k, hk, rfl⟩ := List.mem_map.mp hw
  have hk := List.mem_range.mp hk
  rcases (show k = 0 ∨ k = 1 ∨ k = 2 ∨ k = 3 ∨ k = 4 ∨ k = 5 by omega) with rfl | rfl | rfl | rfl | rfl | rfl
  · exact l_Symbols_0
  · exact l_Symbols_1
  · exact l_Symbols_2
  · exact l_Symbols_3
  · exact l_Symbols_4
  · exact l_Symbols_5
def R_Names : String := "MachineLoom$Names"
def F_Names : u_T := fun k => match k with
  | 0 => ("MachineLoom$Names", "symbols", "LMachineLoom$Symbols;", true)
  | 1 => ("MachineLoom$Names", "kinds", "[I", true)
  | 2 => ("MachineLoom$Names", "indexes", "[I", true)
  | 3 => ("MachineLoom$Names", "ops", "[B", true)
  | 4 => ("MachineLoom$Names", "letters", "[I", true)
  | 5 => ("MachineLoom$Names", "masks", "[J", true)
  | 6 => ("MachineLoom$Names", "scope", "[I", true)
  | 7 => ("MachineLoom$Names", "inScope", "I", false)
  | 8 => ("MachineLoom$Names", "letWidths", "[I", true)
  | _ => ("MachineLoom$Names", "lets", "I", false)
def t_Names : Nat → FieldType := fun k => match k with
  | 0 => .object "MachineLoom$Symbols"
  | 1 => .array .int
  | 2 => .array .int
  | 3 => .array .byte
  | 4 => .array .int
  | 5 => .array .long
  | 6 => .array .int
  | 7 => .int
  | 8 => .array .int
  | _ => .int
theorem n_Names : ∀ a, a < 10 → ∀ b, b < 10 → a ≠ b → (F_Names a).2.1 ≠ (F_Names b).2.1 := by decide +kernel
theorem t_Names_ok : ∀ k, k < 10 → parseFieldDescriptor (F_Names k).2.2.1 = some (t_Names k) := by decide +kernel
theorem l_Names_0 : u_lay R_Names F_Names 0 ∈ ma := ma_of (tb_1 _ (List.mem_of_getElem? (i := 150) rfl)) rfl
theorem l_Names_1 : u_lay R_Names F_Names 1 ∈ ma := ma_of (tb_1 _ (List.mem_of_getElem? (i := 152) rfl)) rfl
theorem l_Names_2 : u_lay R_Names F_Names 2 ∈ ma := ma_of (tb_1 _ (List.mem_of_getElem? (i := 154) rfl)) rfl
theorem l_Names_3 : u_lay R_Names F_Names 3 ∈ ma := ma_of (tb_1 _ (List.mem_of_getElem? (i := 156) rfl)) rfl
theorem l_Names_4 : u_lay R_Names F_Names 4 ∈ ma := ma_of (tb_1 _ (List.mem_of_getElem? (i := 158) rfl)) rfl
theorem l_Names_5 : u_lay R_Names F_Names 5 ∈ ma := ma_of (tb_1 _ (List.mem_of_getElem? (i := 160) rfl)) rfl
theorem l_Names_6 : u_lay R_Names F_Names 6 ∈ ma := ma_of (tb_1 _ (List.mem_of_getElem? (i := 162) rfl)) rfl
theorem l_Names_7 : u_lay R_Names F_Names 7 ∈ ma := ma_of (tb_1 _ (List.mem_of_getElem? (i := 164) rfl)) rfl
theorem l_Names_8 : u_lay R_Names F_Names 8 ∈ ma := ma_of (tb_1 _ (List.mem_of_getElem? (i := 166) rfl)) rfl
theorem l_Names_9 : u_lay R_Names F_Names 9 ∈ ma := ma_of (tb_1 _ (List.mem_of_getElem? (i := 168) rfl)) rfl
theorem i_Names : ∀ w ∈ u_ws R_Names F_Names 10, w ∈ ma := fun w hw => by
  obtain ⟨k, hk, rfl⟩ := List.mem_map.mp hw
  have hk := List.mem_range.mp hk
  rcases (show k = 0 ∨ k = 1 ∨ k = 2 ∨ k = 3 ∨ k = 4 ∨ k = 5 ∨ k = 6 ∨ k = 7 ∨ k = 8 ∨ k = 9 by omega) with rfl | rfl | rfl | rfl | rfl | rfl | rfl | rfl | rfl | rfl
  · exact l_Names_0
  · exact l_Names_1
  · exact l_Names_2
  · exact l_Names_3
  · exact l_Names_4
  · exact l_Names_5
  · exact l_Names_6
  · exact l_Names_7
  · exact l_Names_8
  · exact l_Names_9
def R_Faults : String := "MachineLoom$Faults"
def F_Faults : u_T := fun k => match k with
  | 0 => ("MachineLoom$Faults", "number", "I", false)
  | _ => ("MachineLoom$Faults", "place", "I", false)
def t_Faults : Nat → FieldType := fun k => match k with
  | 0 => .int
  | _ => .int
theorem n_Faults : ∀ a, a < 2 → ∀ b, b < 2 → a ≠ b → (F_Faults a).2.1 ≠ (F_Faults b).2.1 := by decide +kernel
theorem t_Faults_ok : ∀ k, k < 2 → parseFieldDescriptor (F_Faults k).2.2.1 = some (t_Faults k) := by decide +kernel
theorem l_Faults_0 : u_lay R_Faults F_Faults 0 ∈ ma := ma_of (tb_1 _ (List.mem_of_getElem? (i := 182) rfl)) rfl
theorem l_Faults_1 : u_lay R_Faults F_Faults 1 ∈ ma := ma_of (tb_1 _ (List.mem_of_getElem? (i := 184) rfl)) rfl
theorem i_Faults : ∀ w ∈ u_ws R_Faults F_Faults 2, w ∈ ma := fun w hw => by
  obtain ⟨k, hk, rfl⟩ := List.mem_map.mp hw
  have hk := List.mem_range.mp hk
  rcases (show k = 0 ∨ k = 1 by omega) with rfl | rfl
  · exact l_Faults_0
  · exact l_Faults_1
def R_Exprs : String := "MachineLoom$Exprs"
def F_Exprs : u_T := fun k => match k with
  | 0 => ("MachineLoom$Exprs", "tokens", "LMachineLoom$Tokens;", true)
  | 1 => ("MachineLoom$Exprs", "names", "LMachineLoom$Names;", true)
  | 2 => ("MachineLoom$Exprs", "faults", "LMachineLoom$Faults;", true)
  | 3 => ("MachineLoom$Exprs", "program", "LMachineLoom$Program;", false)
  | 4 => ("MachineLoom$Exprs", "marks", "[I", true)
  | 5 => ("MachineLoom$Exprs", "markTokens", "[I", true)
  | 6 => ("MachineLoom$Exprs", "markWiths", "[I", true)
  | 7 => ("MachineLoom$Exprs", "conditions", "[I", true)
  | 8 => ("MachineLoom$Exprs", "marked", "I", false)
  | 9 => ("MachineLoom$Exprs", "widths", "[I", true)
  | _ => ("MachineLoom$Exprs", "held", "I", false)
def t_Exprs : Nat → FieldType := fun k => match k with
  | 0 => .object "MachineLoom$Tokens"
  | 1 => .object "MachineLoom$Names"
  | 2 => .object "MachineLoom$Faults"
  | 3 => .object "MachineLoom$Program"
  | 4 => .array .int
  | 5 => .array .int
  | 6 => .array .int
  | 7 => .array .int
  | 8 => .int
  | 9 => .array .int
  | _ => .int
theorem n_Exprs : ∀ a, a < 11 → ∀ b, b < 11 → a ≠ b → (F_Exprs a).2.1 ≠ (F_Exprs b).2.1 := by decide +kernel
theorem t_Exprs_ok : ∀ k, k < 11 → parseFieldDescriptor (F_Exprs k).2.2.1 = some (t_Exprs k) := by decide +kernel
theorem l_Exprs_0 : u_lay R_Exprs F_Exprs 0 ∈ ma := ma_of (tb_1 _ (List.mem_of_getElem? (i := 205) rfl)) rfl
theorem l_Exprs_1 : u_lay R_Exprs F_Exprs 1 ∈ ma := ma_of (tb_1 _ (List.mem_of_getElem? (i := 207) rfl)) rfl
theorem l_Exprs_2 : u_lay R_Exprs F_Exprs 2 ∈ ma := ma_of (tb_1 _ (List.mem_of_getElem? (i := 209) rfl)) rfl
theorem l_Exprs_3 : u_lay R_Exprs F_Exprs 3 ∈ ma := ma_of (tb_1 _ (List.mem_of_getElem? (i := 211) rfl)) rfl
theorem l_Exprs_4 : u_lay R_Exprs F_Exprs 4 ∈ ma := ma_of (tb_1 _ (List.mem_of_getElem? (i := 213) rfl)) rfl
theorem l_Exprs_5 : u_lay R_Exprs F_Exprs 5 ∈ ma := ma_of (tb_1 _ (List.mem_of_getElem? (i := 215) rfl)) rfl
theorem l_Exprs_6 : u_lay R_Exprs F_Exprs 6 ∈ ma := ma_of (tb_1 _ (List.mem_of_getElem? (i := 217) rfl)) rfl
theorem l_Exprs_7 : u_lay R_Exprs F_Exprs 7 ∈ ma := ma_of (tb_1 _ (List.mem_of_getElem? (i := 219) rfl)) rfl
theorem l_Exprs_8 : u_lay R_Exprs F_Exprs 8 ∈ ma := ma_of (tb_1 _ (List.mem_of_getElem? (i := 221) rfl)) rfl
theorem l_Exprs_9 : u_lay R_Exprs F_Exprs 9 ∈ ma := ma_of (tb_1 _ (List.mem_of_getElem? (i := 223) rfl)) rfl
theorem l_Exprs_10 : u_lay R_Exprs F_Exprs 10 ∈ ma := ma_of (tb_1 _ (List.mem_of_getElem? (i := 225) rfl)) rfl
theorem i_Exprs : ∀ w ∈ u_ws R_Exprs F_Exprs 11, w ∈ ma := fun w hw => by
  obtain ⟨k, hk, rfl⟩ := List.mem_map.mp hw
  have hk := List.mem_range.mp hk
  rcases (show k = 0 ∨ k = 1 ∨ k = 2 ∨ k = 3 ∨ k = 4 ∨ k = 5 ∨ k = 6 ∨ k = 7 ∨ k = 8 ∨ k = 9 ∨ k = 10 by omega) with rfl | rfl | rfl | rfl | rfl | rfl | rfl | rfl | rfl | rfl | rfl
  · exact l_Exprs_0
  · exact l_Exprs_1
  · exact l_Exprs_2
  · exact l_Exprs_3
  · exact l_Exprs_4
  · exact l_Exprs_5
  · exact l_Exprs_6
  · exact l_Exprs_7
  · exact l_Exprs_8
  · exact l_Exprs_9
  · exact l_Exprs_10
def R_Program : String := "MachineLoom$Program"
def F_Program : u_T := fun k => match k with
  | 0 => ("MachineLoom$Program", "length", "I", false)
  | 1 => ("MachineLoom$Program", "things", "I", false)
  | 2 => ("MachineLoom$Program", "widths", "[I", true)
  | 3 => ("MachineLoom$Program", "cells", "[I", true)
  | 4 => ("MachineLoom$Program", "firsts", "[I", true)
  | 5 => ("MachineLoom$Program", "zeros", "[Z", true)
  | 6 => ("MachineLoom$Program", "slots", "I", false)
  | 7 => ("MachineLoom$Program", "allCells", "I", false)
  | 8 => ("MachineLoom$Program", "fetchRegister", "I", false)
  | 9 => ("MachineLoom$Program", "fetchFile", "I", false)
  | 10 => ("MachineLoom$Program", "ops", "I", false)
  | 11 => ("MachineLoom$Program", "masks", "[J", true)
  | 12 => ("MachineLoom$Program", "values", "[J", true)
  | 13 => ("MachineLoom$Program", "starts", "[I", true)
  | 14 => ("MachineLoom$Program", "signs", "[B", true)
  | 15 => ("MachineLoom$Program", "does", "[I", true)
  | 16 => ("MachineLoom$Program", "withs", "[J", true)
  | 17 => ("MachineLoom$Program", "size", "I", false)
  | _ => ("MachineLoom$Program", "tree", "LMachineLoom$Tree;", true)
def t_Program : Nat → FieldType := fun k => match k with
  | 0 => .int
  | 1 => .int
  | 2 => .array .int
  | 3 => .array .int
  | 4 => .array .int
  | 5 => .array .boolean
  | 6 => .int
  | 7 => .int
  | 8 => .int
  | 9 => .int
  | 10 => .int
  | 11 => .array .long
  | 12 => .array .long
  | 13 => .array .int
  | 14 => .array .byte
  | 15 => .array .int
  | 16 => .array .long
  | 17 => .int
  | _ => .object "MachineLoom$Tree"
theorem n_Program : ∀ a, a < 19 → ∀ b, b < 19 → a ≠ b → (F_Program a).2.1 ≠ (F_Program b).2.1 := by decide +kernel
theorem t_Program_ok : ∀ k, k < 19 → parseFieldDescriptor (F_Program k).2.2.1 = some (t_Program k) := by decide +kernel
theorem l_Program_0 : u_lay R_Program F_Program 0 ∈ ma := ma_of (tb_2 _ (List.mem_of_getElem? (i := 127) rfl)) rfl
theorem l_Program_1 : u_lay R_Program F_Program 1 ∈ ma := ma_of (tb_2 _ (List.mem_of_getElem? (i := 129) rfl)) rfl
theorem l_Program_2 : u_lay R_Program F_Program 2 ∈ ma := ma_of (tb_2 _ (List.mem_of_getElem? (i := 131) rfl)) rfl
theorem l_Program_3 : u_lay R_Program F_Program 3 ∈ ma := ma_of (tb_2 _ (List.mem_of_getElem? (i := 133) rfl)) rfl
theorem l_Program_4 : u_lay R_Program F_Program 4 ∈ ma := ma_of (tb_2 _ (List.mem_of_getElem? (i := 135) rfl)) rfl
theorem l_Program_5 : u_lay R_Program F_Program 5 ∈ ma := ma_of (tb_2 _ (List.mem_of_getElem? (i := 137) rfl)) rfl
theorem l_Program_6 : u_lay R_Program F_Program 6 ∈ ma := ma_of (tb_2 _ (List.mem_of_getElem? (i := 139) rfl)) rfl
theorem l_Program_7 : u_lay R_Program F_Program 7 ∈ ma := ma_of (tb_2 _ (List.mem_of_getElem? (i := 141) rfl)) rfl
theorem l_Program_8 : u_lay R_Program F_Program 8 ∈ ma := ma_of (tb_2 _ (List.mem_of_getElem? (i := 143) rfl)) rfl
theorem l_Program_9 : u_lay R_Program F_Program 9 ∈ ma := ma_of (tb_2 _ (List.mem_of_getElem? (i := 145) rfl)) rfl
theorem l_Program_10 : u_lay R_Program F_Program 10 ∈ ma := ma_of (tb_2 _ (List.mem_of_getElem? (i := 147) rfl)) rfl
theorem l_Program_11 : u_lay R_Program F_Program 11 ∈ ma := ma_of (tb_2 _ (List.mem_of_getElem? (i := 149) rfl)) rfl
theorem l_Program_12 : u_lay R_Program F_Program 12 ∈ ma := ma_of (tb_2 _ (List.mem_of_getElem? (i := 151) rfl)) rfl
theorem l_Program_13 : u_lay R_Program F_Program 13 ∈ ma := ma_of (tb_2 _ (List.mem_of_getElem? (i := 153) rfl)) rfl
theorem l_Program_14 : u_lay R_Program F_Program 14 ∈ ma := ma_of (tb_2 _ (List.mem_of_getElem? (i := 155) rfl)) rfl
theorem l_Program_15 : u_lay R_Program F_Program 15 ∈ ma := ma_of (tb_2 _ (List.mem_of_getElem? (i := 157) rfl)) rfl
theorem l_Program_16 : u_lay R_Program F_Program 16 ∈ ma := ma_of (tb_2 _ (List.mem_of_getElem? (i := 159) rfl)) rfl
theorem l_Program_17 : u_lay R_Program F_Program 17 ∈ ma := ma_of (tb_2 _ (List.mem_of_getElem? (i := 161) rfl)) rfl
theorem l_Program_18 : u_lay R_Program F_Program 18 ∈ ma := ma_of (tb_2 _ (List.mem_of_getElem? (i := 163) rfl)) rfl
theorem i_Program : ∀ w ∈ u_ws R_Program F_Program 19, w ∈ ma := fun w hw => by
  obtain ⟨k, hk, rfl⟩ := List.mem_map.mp hw
  have hk := List.mem_range.mp hk
  rcases (show k = 0 ∨ k = 1 ∨ k = 2 ∨ k = 3 ∨ k = 4 ∨ k = 5 ∨ k = 6 ∨ k = 7 ∨ k = 8 ∨ k = 9 ∨ k = 10 ∨ k = 11 ∨ k = 12 ∨ k = 13 ∨ k = 14 ∨ k = 15 ∨ k = 16 ∨ k = 17 ∨ k = 18 by omega) with rfl | rfl | rfl | rfl | rfl | rfl | rfl | rfl | rfl | rfl | rfl | rfl | rfl | rfl | rfl | rfl | rfl | rfl | rfl
  · exact l_Program_0
  · exact l_Program_1
  · exact l_Program_2
  · exact l_Program_3
  · exact l_Program_4
  · exact l_Program_5
  · exact l_Program_6
  · exact l_Program_7
  · exact l_Program_8
  · exact l_Program_9
  · exact l_Program_10
  · exact l_Program_11
  · exact l_Program_12
  · exact l_Program_13
  · exact l_Program_14
  · exact l_Program_15
  · exact l_Program_16
  · exact l_Program_17
  · exact l_Program_18
def R_Tree : String := "MachineLoom$Tree"
def F_Tree : u_T := fun k => match k with
  | 0 => ("MachineLoom$Tree", "order", "[I", true)
  | 1 => ("MachineLoom$Tree", "bits", "[I", true)
  | 2 => ("MachineLoom$Tree", "lows", "[I", true)
  | 3 => ("MachineLoom$Tree", "highs", "[I", true)
  | _ => ("MachineLoom$Tree", "nodes", "I", false)
def t_Tree : Nat → FieldType := fun k => match k with
  | 0 => .array .int
  | 1 => .array .int
  | 2 => .array .int
  | 3 => .array .int
  | _ => .int
theorem n_Tree : ∀ a, a < 5 → ∀ b, b < 5 → a ≠ b → (F_Tree a).2.1 ≠ (F_Tree b).2.1 := by decide +kernel
theorem t_Tree_ok : ∀ k, k < 5 → parseFieldDescriptor (F_Tree k).2.2.1 = some (t_Tree k) := by decide +kernel
theorem l_Tree_0 : u_lay R_Tree F_Tree 0 ∈ ma := ma_of (tb_2 _ (List.mem_of_getElem? (i := 59) rfl)) rfl
theorem l_Tree_1 : u_lay R_Tree F_Tree 1 ∈ ma := ma_of (tb_2 _ (List.mem_of_getElem? (i := 61) rfl)) rfl
theorem l_Tree_2 : u_lay R_Tree F_Tree 2 ∈ ma := ma_of (tb_2 _ (List.mem_of_getElem? (i := 63) rfl)) rfl
theorem l_Tree_3 : u_lay R_Tree F_Tree 3 ∈ ma := ma_of (tb_2 _ (List.mem_of_getElem? (i := 65) rfl)) rfl
theorem l_Tree_4 : u_lay R_Tree F_Tree 4 ∈ ma := ma_of (tb_2 _ (List.mem_of_getElem? (i := 67) rfl)) rfl
theorem i_Tree : ∀ w ∈ u_ws R_Tree F_Tree 5, w ∈ ma := fun w hw => by
  obtain ⟨k, hk, rfl⟩ := List.mem_map.mp hw
  have hk := List.mem_range.mp hk
  rcases (show k = 0 ∨ k = 1 ∨ k = 2 ∨ k = 3 ∨ k = 4 by omega) with rfl | rfl | rfl | rfl | rfl
  · exact l_Tree_0
  · exact l_Tree_1
  · exact l_Tree_2
  · exact l_Tree_3
  · exact l_Tree_4
def R_Machine : String := "MachineLoom$Machine"
def F_Machine : u_T := fun k => match k with
  | 0 => ("MachineLoom$Machine", "program", "LMachineLoom$Program;", false)
  | 1 => ("MachineLoom$Machine", "values", "[J", true)
  | 2 => ("MachineLoom$Machine", "lets", "[J", true)
  | 3 => ("MachineLoom$Machine", "stack", "[J", true)
  | 4 => ("MachineLoom$Machine", "top", "I", false)
  | 5 => ("MachineLoom$Machine", "undoSlots", "[I", true)
  | 6 => ("MachineLoom$Machine", "undoValues", "[J", true)
  | 7 => ("MachineLoom$Machine", "undos", "I", false)
  | 8 => ("MachineLoom$Machine", "assigned", "Z", false)
  | 9 => ("MachineLoom$Machine", "latest", "I", false)
  | 10 => ("MachineLoom$Machine", "done", "I", false)
  | 11 => ("MachineLoom$Machine", "trapped", "I", false)
  | _ => ("MachineLoom$Machine", "beyond", "I", false)
def t_Machine : Nat → FieldType := fun k => match k with
  | 0 => .object "MachineLoom$Program"
  | 1 => .array .long
  | 2 => .array .long
  | 3 => .array .long
  | 4 => .int
  | 5 => .array .int
  | 6 => .array .long
  | 7 => .int
  | 8 => .boolean
  | 9 => .int
  | 10 => .int
  | 11 => .int
  | _ => .int
theorem n_Machine : ∀ a, a < 13 → ∀ b, b < 13 → a ≠ b → (F_Machine a).2.1 ≠ (F_Machine b).2.1 := by decide +kernel
theorem t_Machine_ok : ∀ k, k < 13 → parseFieldDescriptor (F_Machine k).2.2.1 = some (t_Machine k) := by decide +kernel
theorem l_Machine_0 : u_lay R_Machine F_Machine 0 ∈ ma := ma_of (tb_2 _ (List.mem_of_getElem? (i := 219) rfl)) rfl
theorem l_Machine_1 : u_lay R_Machine F_Machine 1 ∈ ma := ma_of (tb_2 _ (List.mem_of_getElem? (i := 221) rfl)) rfl
theorem l_Machine_2 : u_lay R_Machine F_Machine 2 ∈ ma := ma_of (tb_2 _ (List.mem_of_getElem? (i := 223) rfl)) rfl
theorem l_Machine_3 : u_lay R_Machine F_Machine 3 ∈ ma := ma_of (tb_2 _ (List.mem_of_getElem? (i := 225) rfl)) rfl
theorem l_Machine_4 : u_lay R_Machine F_Machine 4 ∈ ma := ma_of (tb_2 _ (List.mem_of_getElem? (i := 227) rfl)) rfl
theorem l_Machine_5 : u_lay R_Machine F_Machine 5 ∈ ma := ma_of (tb_2 _ (List.mem_of_getElem? (i := 229) rfl)) rfl
theorem l_Machine_6 : u_lay R_Machine F_Machine 6 ∈ ma := ma_of (tb_2 _ (List.mem_of_getElem? (i := 231) rfl)) rfl
theorem l_Machine_7 : u_lay R_Machine F_Machine 7 ∈ ma := ma_of (tb_2 _ (List.mem_of_getElem? (i := 233) rfl)) rfl
theorem l_Machine_8 : u_lay R_Machine F_Machine 8 ∈ ma := ma_of (tb_2 _ (List.mem_of_getElem? (i := 235) rfl)) rfl
theorem l_Machine_9 : u_lay R_Machine F_Machine 9 ∈ ma := ma_of (tb_2 _ (List.mem_of_getElem? (i := 237) rfl)) rfl
theorem l_Machine_10 : u_lay R_Machine F_Machine 10 ∈ ma := ma_of (tb_2 _ (List.mem_of_getElem? (i := 239) rfl)) rfl
theorem l_Machine_11 : u_lay R_Machine F_Machine 11 ∈ ma := ma_of (tb_3 _ (List.mem_of_getElem? (i := 1) rfl)) rfl
theorem l_Machine_12 : u_lay R_Machine F_Machine 12 ∈ ma := ma_of (tb_3 _ (List.mem_of_getElem? (i := 3) rfl)) rfl
theorem i_Machine : ∀ w ∈ u_ws R_Machine F_Machine 13, w ∈ ma := fun w hw => by
  obtain ⟨k, hk, rfl⟩ := List.mem_map.mp hw
  have hk := List.mem_range.mp hk
  rcases (show k = 0 ∨ k = 1 ∨ k = 2 ∨ k = 3 ∨ k = 4 ∨ k = 5 ∨ k = 6 ∨ k = 7 ∨ k = 8 ∨ k = 9 ∨ k = 10 ∨ k = 11 ∨ k = 12 by omega) with rfl | rfl | rfl | rfl | rfl | rfl | rfl | rfl | rfl | rfl | rfl | rfl | rfl
  · exact l_Machine_0
  · exact l_Machine_1
  · exact l_Machine_2
  · exact l_Machine_3
  · exact l_Machine_4
  · exact l_Machine_5
  · exact l_Machine_6
  · exact l_Machine_7
  · exact l_Machine_8
  · exact l_Machine_9
  · exact l_Machine_10
  · exact l_Machine_11
  · exact l_Machine_12
def R_Shipped : String := "MachineLoom$Shipped"
def F_Shipped : u_T := fun k => match k with
  | 0 => ("MachineLoom$Shipped", "row", "[B", true)
  | _ => ("MachineLoom$Shipped", "size", "I", false)
def t_Shipped : Nat → FieldType := fun k => match k with
  | 0 => .array .byte
  | _ => .int
theorem n_Shipped : ∀ a, a < 2 → ∀ b, b < 2 → a ≠ b → (F_Shipped a).2.1 ≠ (F_Shipped b).2.1 := by decide +kernel
theorem t_Shipped_ok : ∀ k, k < 2 → parseFieldDescriptor (F_Shipped k).2.2.1 = some (t_Shipped k) := by decide +kernel
theorem l_Shipped_0 : u_lay R_Shipped F_Shipped 0 ∈ ma := ma_of (tb_3 _ (List.mem_of_getElem? (i := 51) rfl)) rfl
theorem l_Shipped_1 : u_lay R_Shipped F_Shipped 1 ∈ ma := ma_of (tb_3 _ (List.mem_of_getElem? (i := 53) rfl)) rfl
theorem i_Shipped : ∀ w ∈ u_ws R_Shipped F_Shipped 2, w ∈ ma := fun w hw => by
  obtain ⟨k, hk, rfl⟩ := List.mem_map.mp hw
  have hk := List.mem_range.mp hk
  rcases (show k = 0 ∨ k = 1 by omega) with rfl | rfl
  · exact l_Shipped_0
  · exact l_Shipped_1
def R_Model : String := "MachineLoomModel"
def F_Model : u_T := fun k => match k with
  | 0 => ("MachineLoomModel", "input", "[B", true)
  | 1 => ("MachineLoomModel", "size", "I", false)
  | 2 => ("MachineLoomModel", "thrown", "I", false)
  | 3 => ("MachineLoomModel", "faultNumber", "I", false)
  | 4 => ("MachineLoomModel", "faultPlace", "I", false)
  | 5 => ("MachineLoomModel", "faultOther", "I", false)
  | 6 => ("MachineLoomModel", "pc", "I", false)
  | 7 => ("MachineLoomModel", "x", "[I", true)
  | 8 => ("MachineLoomModel", "m", "[B", true)
  | 9 => ("MachineLoomModel", "now", "LMachineLoomModel$Book;", false)
  | 10 => ("MachineLoomModel", "spare", "LMachineLoomModel$Book;", false)
  | 11 => ("MachineLoomModel", "shipped", "Z", false)
  | 12 => ("MachineLoomModel", "steps", "I", false)
  | 13 => ("MachineLoomModel", "traps", "I", false)
  | 14 => ("MachineLoomModel", "trap", "I", false)
  | _ => ("MachineLoomModel", "beyond", "I", false)
def t_Model : Nat → FieldType := fun k => match k with
  | 0 => .array .byte
  | 1 => .int
  | 2 => .int
  | 3 => .int
  | 4 => .int
  | 5 => .int
  | 6 => .int
  | 7 => .array .int
  | 8 => .array .byte
  | 9 => .object "MachineLoomModel$Book"
  | 10 => .object "MachineLoomModel$Book"
  | 11 => .boolean
  | 12 => .int
  | 13 => .int
  | 14 => .int
  | _ => .int
theorem n_Model : ∀ a, a < 16 → ∀ b, b < 16 → a ≠ b → (F_Model a).2.1 ≠ (F_Model b).2.1 := by decide +kernel
theorem t_Model_ok : ∀ k, k < 16 → parseFieldDescriptor (F_Model k).2.2.1 = some (t_Model k) := by decide +kernel
theorem l_Model_0 : u_lay R_Model F_Model 0 ∈ ma := ma_of (tb_9 _ (List.mem_of_getElem? (i := 141) rfl)) rfl
theorem l_Model_1 : u_lay R_Model F_Model 1 ∈ ma := ma_of (tb_9 _ (List.mem_of_getElem? (i := 143) rfl)) rfl
theorem l_Model_2 : u_lay R_Model F_Model 2 ∈ ma := ma_of (tb_9 _ (List.mem_of_getElem? (i := 145) rfl)) rfl
theorem l_Model_3 : u_lay R_Model F_Model 3 ∈ ma := ma_of (tb_9 _ (List.mem_of_getElem? (i := 147) rfl)) rfl
theorem l_Model_4 : u_lay R_Model F_Model 4 ∈ ma := ma_of (tb_9 _ (List.mem_of_getElem? (i := 149) rfl)) rfl
theorem l_Model_5 : u_lay R_Model F_Model 5 ∈ ma := ma_of (tb_9 _ (List.mem_of_getElem? (i := 151) rfl)) rfl
theorem l_Model_6 : u_lay R_Model F_Model 6 ∈ ma := ma_of (tb_9 _ (List.mem_of_getElem? (i := 153) rfl)) rfl
theorem l_Model_7 : u_lay R_Model F_Model 7 ∈ ma := ma_of (tb_9 _ (List.mem_of_getElem? (i := 155) rfl)) rfl
theorem l_Model_8 : u_lay R_Model F_Model 8 ∈ ma := ma_of (tb_9 _ (List.mem_of_getElem? (i := 157) rfl)) rfl
theorem l_Model_9 : u_lay R_Model F_Model 9 ∈ ma := ma_of (tb_9 _ (List.mem_of_getElem? (i := 159) rfl)) rfl
theorem l_Model_10 : u_lay R_Model F_Model 10 ∈ ma := ma_of (tb_9 _ (List.mem_of_getElem? (i := 161) rfl)) rfl
theorem l_Model_11 : u_lay R_Model F_Model 11 ∈ ma := ma_of (tb_9 _ (List.mem_of_getElem? (i := 163) rfl)) rfl
theorem l_Model_12 : u_lay R_Model F_Model 12 ∈ ma := ma_of (tb_9 _ (List.mem_of_getElem? (i := 165) rfl)) rfl
theorem l_Model_13 : u_lay R_Model F_Model 13 ∈ ma := ma_of (tb_9 _ (List.mem_of_getElem? (i := 167) rfl)) rfl
theorem l_Model_14 : u_lay R_Model F_Model 14 ∈ ma := ma_of (tb_9 _ (List.mem_of_getElem? (i := 169) rfl)) rfl
theorem l_Model_15 : u_lay R_Model F_Model 15 ∈ ma := ma_of (tb_9 _ (List.mem_of_getElem? (i := 171) rfl)) rfl
theorem i_Model : ∀ w ∈ u_ws R_Model F_Model 16, w ∈ ma := fun w hw => by
  obtain ⟨k, hk, rfl⟩ := List.mem_map.mp hw
  have hk := List.mem_range.mp hk
  rcases (show k = 0 ∨ k = 1 ∨ k = 2 ∨ k = 3 ∨ k = 4 ∨ k = 5 ∨ k = 6 ∨ k = 7 ∨ k = 8 ∨ k = 9 ∨ k = 10 ∨ k = 11 ∨ k = 12 ∨ k = 13 ∨ k = 14 ∨ k = 15 by omega) with rfl | rfl | rfl | rfl | rfl | rfl | rfl | rfl | rfl | rfl | rfl | rfl | rfl | rfl | rfl | rfl
  · exact l_Model_0
  · exact l_Model_1
  · exact l_Model_2
  · exact l_Model_3
  · exact l_Model_4
  · exact l_Model_5
  · exact l_Model_6
  · exact l_Model_7
  · exact l_Model_8
  · exact l_Model_9
  · exact l_Model_10
  · exact l_Model_11
  · exact l_Model_12
  · exact l_Model_13
  · exact l_Model_14
  · exact l_Model_15
def R_Book : String := "MachineLoomModel$Book"
def F_Book : u_T := fun k => match k with
  | 0 => ("MachineLoomModel$Book", "wrong", "LMachineLoomModel$Book$Wrong;", true)
  | 1 => ("MachineLoomModel$Book", "input", "[B", false)
  | 2 => ("MachineLoomModel$Book", "size", "I", false)
  | 3 => ("MachineLoomModel$Book", "at", "I", false)
  | 4 => ("MachineLoomModel$Book", "kind", "I", false)
  | 5 => ("MachineLoomModel$Book", "start", "I", false)
  | 6 => ("MachineLoomModel$Book", "stop", "I", false)
  | 7 => ("MachineLoomModel$Book", "broken", "I", false)
  | 8 => ("MachineLoomModel$Book", "depth", "I", false)
  | 9 => ("MachineLoomModel$Book", "number", "J", false)
  | 10 => ("MachineLoomModel$Book", "thingFrom", "[I", true)
  | 11 => ("MachineLoomModel$Book", "thingTo", "[I", true)
  | 12 => ("MachineLoomModel$Book", "thingWidth", "[I", true)
  | 13 => ("MachineLoomModel$Book", "thingCells", "[I", true)
  | 14 => ("MachineLoomModel$Book", "thingAt", "[I", true)
  | 15 => ("MachineLoomModel$Book", "thingFile", "[Z", true)
  | 16 => ("MachineLoomModel$Book", "thingZero", "[Z", true)
  | 17 => ("MachineLoomModel$Book", "things", "I", false)
  | 18 => ("MachineLoomModel$Book", "fetchThing", "I", false)
  | 19 => ("MachineLoomModel$Book", "cells", "I", false)
  | 20 => ("MachineLoomModel$Book", "length", "I", false)
  | 21 => ("MachineLoomModel$Book", "fetchFile", "I", false)
  | 22 => ("MachineLoomModel$Book", "fetches", "I", false)
  | 23 => ("MachineLoomModel$Book", "opFrom", "[I", true)
  | 24 => ("MachineLoomModel$Book", "opTo", "[I", true)
  | 25 => ("MachineLoomModel$Book", "codeAt", "[I", true)
  | 26 => ("MachineLoomModel$Book", "opBody", "[I", true)
  | 27 => ("MachineLoomModel$Book", "codeLength", "[I", true)
  | 28 => ("MachineLoomModel$Book", "codes", "[B", true)
  | 29 => ("MachineLoomModel$Book", "ops", "I", false)
  | 30 => ("MachineLoomModel$Book", "codesEnd", "I", false)
  | 31 => ("MachineLoomModel$Book", "letFrom", "[I", true)
  | 32 => ("MachineLoomModel$Book", "letTo", "[I", true)
  | 33 => ("MachineLoomModel$Book", "letWidth", "[I", true)
  | 34 => ("MachineLoomModel$Book", "letSlot", "[I", true)
  | 35 => ("MachineLoomModel$Book", "lets", "I", false)
  | 36 => ("MachineLoomModel$Book", "letsEver", "I", false)
  | 37 => ("MachineLoomModel$Book", "best", "I", false)
  | 38 => ("MachineLoomModel$Book", "bestNumber", "I", false)
  | 39 => ("MachineLoomModel$Book", "other", "I", false)
  | 40 => ("MachineLoomModel$Book", "sort", "[I", true)
  | 41 => ("MachineLoomModel$Book", "a", "[I", true)
  | 42 => ("MachineLoomModel$Book", "b", "[I", true)
  | 43 => ("MachineLoomModel$Book", "c", "[I", true)
  | 44 => ("MachineLoomModel$Book", "follow", "[I", true)
  | 45 => ("MachineLoomModel$Book", "width", "[I", true)
  | 46 => ("MachineLoomModel$Book", "value", "[J", true)
  | 47 => ("MachineLoomModel$Book", "chained", "[Z", true)
  | 48 => ("MachineLoomModel$Book", "nodes", "I", false)
  | 49 => ("MachineLoomModel$Book", "nameFrom", "I", false)
  | 50 => ("MachineLoomModel$Book", "nameTo", "I", false)
  | 51 => ("MachineLoomModel$Book", "codesBase", "I", false)
  | 52 => ("MachineLoomModel$Book", "word", "J", false)
  | 53 => ("MachineLoomModel$Book", "trap", "I", false)
  | 54 => ("MachineLoomModel$Book", "letValue", "[J", true)
  | 55 => ("MachineLoomModel$Book", "registers", "[J", true)
  | 56 => ("MachineLoomModel$Book", "cellValue", "[J", true)
  | 57 => ("MachineLoomModel$Book", "writeThing", "[I", true)
  | 58 => ("MachineLoomModel$Book", "writeIndex", "[I", true)
  | 59 => ("MachineLoomModel$Book", "spine", "[I", true)
  | 60 => ("MachineLoomModel$Book", "writeValue", "[J", true)
  | 61 => ("MachineLoomModel$Book", "writes", "I", false)
  | 62 => ("MachineLoomModel$Book", "spineTop", "I", false)
  | 63 => ("MachineLoomModel$Book", "current", "I", false)
  | _ => ("MachineLoomModel$Book", "fetched", "J", false)
def t_Book : Nat → FieldType := fun k => match k with
  | 0 => .object "MachineLoomModel$Book$Wrong"
  | 1 => .array .byte
  | 2 => .int
  | 3 => .int
  | 4 => .int
  | 5 => .int
  | 6 => .int
  | 7 => .int
  | 8 => .int
  | 9 => .long
  | 10 => .array .int
  | 11 => .array .int
  | 12 => .array .int
  | 13 => .array .int
  | 14 => .array .int
  | 15 => .array .boolean
  | 16 => .array .boolean
  | 17 => .int
  | 18 => .int
  | 19 => .int
  | 20 => .int
  | 21 => .int
  | 22 => .int
  | 23 => .array .int
  | 24 => .array .int
  | 25 => .array .int
  | 26 => .array .int
  | 27 => .array .int
  | 28 => .array .byte
  | 29 => .int
  | 30 => .int
  | 31 => .array .int
  | 32 => .array .int
  | 33 => .array .int
  | 34 => .array .int
  | 35 => .int
  | 36 => .int
  | 37 => .int
  | 38 => .int
  | 39 => .int
  | 40 => .array .int
  | 41 => .array .int
  | 42 => .array .int
  | 43 => .array .int
  | 44 => .array .int
  | 45 => .array .int
  | 46 => .array .long
  | 47 => .array .boolean
  | 48 => .int
  | 49 => .int
  | 50 => .int
  | 51 => .int
  | 52 => .long
  | 53 => .int
  | 54 => .array .long
  | 55 => .array .long
  | 56 => .array .long
  | 57 => .array .int
  | 58 => .array .int
  | 59 => .array .int
  | 60 => .array .long
  | 61 => .int
  | 62 => .int
  | 63 => .int
  | _ => .long
theorem n_Book : ∀ a, a < 65 → ∀ b, b < 65 → a ≠ b → (F_Book a).2.1 ≠ (F_Book b).2.1 := by decide +kernel
theorem t_Book_ok : ∀ k, k < 65 → parseFieldDescriptor (F_Book k).2.2.1 = some (t_Book k) := by decide +kernel
theorem l_Book_0 : u_lay R_Book F_Book 0 ∈ ma := ma_of (tb_8 _ (List.mem_of_getElem? (i := 234) rfl)) rfl
theorem l_Book_1 : u_lay R_Book F_Book 1 ∈ ma := ma_of (tb_8 _ (List.mem_of_getElem? (i := 236) rfl)) rfl
theorem l_Book_2 : u_lay R_Book F_Book 2 ∈ ma := ma_of (tb_8 _ (List.mem_of_getElem? (i := 238) rfl)) rfl
theorem l_Book_3 : u_lay R_Book F_Book 3 ∈ ma := ma_of (tb_9 _ (List.mem_of_getElem? (i := 0) rfl)) rfl
theorem l_Book_4 : u_lay R_Book F_Book 4 ∈ ma := ma_of (tb_9 _ (List.mem_of_getElem? (i := 2) rfl)) rfl
theorem l_Book_5 : u_lay R_Book F_Book 5 ∈ ma := ma_of (tb_9 _ (List.mem_of_getElem? (i := 4) rfl)) rfl
theorem l_Book_6 : u_lay R_Book F_Book 6 ∈ ma := ma_of (tb_9 _ (List.mem_of_getElem? (i := 6) rfl)) rfl
theorem l_Book_7 : u_lay R_Book F_Book 7 ∈ ma := ma_of (tb_9 _ (List.mem_of_getElem? (i := 8) rfl)) rfl
theorem l_Book_8 : u_lay R_Book F_Book 8 ∈ ma := ma_of (tb_9 _ (List.mem_of_getElem? (i := 10) rfl)) rfl
theorem l_Book_9 : u_lay R_Book F_Book 9 ∈ ma := ma_of (tb_9 _ (List.mem_of_getElem? (i := 12) rfl)) rfl
theorem l_Book_10 : u_lay R_Book F_Book 10 ∈ ma := ma_of (tb_9 _ (List.mem_of_getElem? (i := 14) rfl)) rfl
theorem l_Book_11 : u_lay R_Book F_Book 11 ∈ ma := ma_of (tb_9 _ (List.mem_of_getElem? (i := 16) rfl)) rfl
theorem l_Book_12 : u_lay R_Book F_Book 12 ∈ ma := ma_of (tb_9 _ (List.mem_of_getElem? (i := 18) rfl)) rfl
theorem l_Book_13 : u_lay R_Book F_Book 13 ∈ ma := ma_of (tb_9 _ (List.mem_of_getElem? (i := 20) rfl)) rfl
theorem l_Book_14 : u_lay R_Book F_Book 14 ∈ ma := ma_of (tb_9 _ (List.mem_of_getElem? (i := 22) rfl)) rfl
theorem l_Book_15 : u_lay R_Book F_Book 15 ∈ ma := ma_of (tb_9 _ (List.mem_of_getElem? (i := 24) rfl)) rfl
theorem l_Book_16 : u_lay R_Book F_Book 16 ∈ ma := ma_of (tb_9 _ (List.mem_of_getElem? (i := 26) rfl)) rfl
theorem l_Book_17 : u_lay R_Book F_Book 17 ∈ ma := ma_of (tb_9 _ (List.mem_of_getElem? (i := 28) rfl)) rfl
theorem l_Book_18 : u_lay R_Book F_Book 18 ∈ ma := ma_of (tb_9 _ (List.mem_of_getElem? (i := 30) rfl)) rfl
theorem l_Book_19 : u_lay R_Book F_Book 19 ∈ ma := ma_of (tb_9 _ (List.mem_of_getElem? (i := 32) rfl)) rfl
theorem l_Book_20 : u_lay R_Book F_Book 20 ∈ ma := ma_of (tb_9 _ (List.mem_of_getElem? (i := 34) rfl)) rfl
theorem l_Book_21 : u_lay R_Book F_Book 21 ∈ ma := ma_of (tb_9 _ (List.mem_of_getElem? (i := 36) rfl)) rfl
theorem l_Book_22 : u_lay R_Book F_Book 22 ∈ ma := ma_of (tb_9 _ (List.mem_of_getElem? (i := 38) rfl)) rfl
theorem l_Book_23 : u_lay R_Book F_Book 23 ∈ ma := ma_of (tb_9 _ (List.mem_of_getElem? (i := 40) rfl)) rfl
theorem l_Book_24 : u_lay R_Book F_Book 24 ∈ ma := ma_of (tb_9 _ (List.mem_of_getElem? (i := 42) rfl)) rfl
theorem l_Book_25 : u_lay R_Book F_Book 25 ∈ ma := ma_of (tb_9 _ (List.mem_of_getElem? (i := 44) rfl)) rfl
theorem l_Book_26 : u_lay R_Book F_Book 26 ∈ ma := ma_of (tb_9 _ (List.mem_of_getElem? (i := 46) rfl)) rfl
theorem l_Book_27 : u_lay R_Book F_Book 27 ∈ ma := ma_of (tb_9 _ (List.mem_of_getElem? (i := 48) rfl)) rfl
theorem l_Book_28 : u_lay R_Book F_Book 28 ∈ ma := ma_of (tb_9 _ (List.mem_of_getElem? (i := 50) rfl)) rfl
theorem l_Book_29 : u_lay R_Book F_Book 29 ∈ ma := ma_of (tb_9 _ (List.mem_of_getElem? (i := 52) rfl)) rfl
theorem l_Book_30 : u_lay R_Book F_Book 30 ∈ ma := ma_of (tb_9 _ (List.mem_of_getElem? (i := 54) rfl)) rfl
theorem l_Book_31 : u_lay R_Book F_Book 31 ∈ ma := ma_of (tb_9 _ (List.mem_of_getElem? (i := 56) rfl)) rfl
theorem l_Book_32 : u_lay R_Book F_Book 32 ∈ ma := ma_of (tb_9 _ (List.mem_of_getElem? (i := 58) rfl)) rfl
theorem l_Book_33 : u_lay R_Book F_Book 33 ∈ ma := ma_of (tb_9 _ (List.mem_of_getElem? (i := 60) rfl)) rfl
theorem l_Book_34 : u_lay R_Book F_Book 34 ∈ ma := ma_of (tb_9 _ (List.mem_of_getElem? (i := 62) rfl)) rfl
theorem l_Book_35 : u_lay R_Book F_Book 35 ∈ ma := ma_of (tb_9 _ (List.mem_of_getElem? (i := 64) rfl)) rfl
theorem l_Book_36 : u_lay R_Book F_Book 36 ∈ ma := ma_of (tb_9 _ (List.mem_of_getElem? (i := 66) rfl)) rfl
theorem l_Book_37 : u_lay R_Book F_Book 37 ∈ ma := ma_of (tb_9 _ (List.mem_of_getElem? (i := 68) rfl)) rfl
theorem l_Book_38 : u_lay R_Book F_Book 38 ∈ ma := ma_of (tb_9 _ (List.mem_of_getElem? (i := 70) rfl)) rfl
theorem l_Book_39 : u_lay R_Book F_Book 39 ∈ ma := ma_of (tb_9 _ (List.mem_of_getElem? (i := 72) rfl)) rfl
theorem l_Book_40 : u_lay R_Book F_Book 40 ∈ ma := ma_of (tb_9 _ (List.mem_of_getElem? (i := 74) rfl)) rfl
theorem l_Book_41 : u_lay R_Book F_Book 41 ∈ ma := ma_of (tb_9 _ (List.mem_of_getElem? (i := 76) rfl)) rfl
theorem l_Book_42 : u_lay R_Book F_Book 42 ∈ ma := ma_of (tb_9 _ (List.mem_of_getElem? (i := 78) rfl)) rfl
theorem l_Book_43 : u_lay R_Book F_Book 43 ∈ ma := ma_of (tb_9 _ (List.mem_of_getElem? (i := 80) rfl)) rfl
theorem l_Book_44 : u_lay R_Book F_Book 44 ∈ ma := ma_of (tb_9 _ (List.mem_of_getElem? (i := 82) rfl)) rfl
theorem l_Book_45 : u_lay R_Book F_Book 45 ∈ ma := ma_of (tb_9 _ (List.mem_of_getElem? (i := 84) rfl)) rfl
theorem l_Book_46 : u_lay R_Book F_Book 46 ∈ ma := ma_of (tb_9 _ (List.mem_of_getElem? (i := 86) rfl)) rfl
theorem l_Book_47 : u_lay R_Book F_Book 47 ∈ ma := ma_of (tb_9 _ (List.mem_of_getElem? (i := 88) rfl)) rfl
theorem l_Book_48 : u_lay R_Book F_Book 48 ∈ ma := ma_of (tb_9 _ (List.mem_of_getElem? (i := 90) rfl)) rfl
theorem l_Book_49 : u_lay R_Book F_Book 49 ∈ ma := ma_of (tb_9 _ (List.mem_of_getElem? (i := 92) rfl)) rfl
theorem l_Book_50 : u_lay R_Book F_Book 50 ∈ ma := ma_of (tb_9 _ (List.mem_of_getElem? (i := 94) rfl)) rfl
theorem l_Book_51 : u_lay R_Book F_Book 51 ∈ ma := ma_of (tb_9 _ (List.mem_of_getElem? (i := 96) rfl)) rfl
theorem l_Book_52 : u_lay R_Book F_Book 52 ∈ ma := ma_of (tb_9 _ (List.mem_of_getElem? (i := 98) rfl)) rfl
theorem l_Book_53 : u_lay R_Book F_Book 53 ∈ ma := ma_of (tb_9 _ (List.mem_of_getElem? (i := 100) rfl)) rfl
theorem l_Book_54 : u_lay R_Book F_Book 54 ∈ ma := ma_of (tb_9 _ (List.mem_of_getElem? (i := 102) rfl)) rfl
theorem l_Book_55 : u_lay R_Book F_Book 55 ∈ ma := ma_of (tb_9 _ (List.mem_of_getElem? (i := 104) rfl)) rfl
theorem l_Book_56 : u_lay R_Book F_Book 56 ∈ ma := ma_of (tb_9 _ (List.mem_of_getElem? (i := 106) rfl)) rfl
theorem l_Book_57 : u_lay R_Book F_Book 57 ∈ ma := ma_of (tb_9 _ (List.mem_of_getElem? (i := 108) rfl)) rfl
theorem l_Book_58 : u_lay R_Book F_Book 58 ∈ ma := ma_of (tb_9 _ (List.mem_of_getElem? (i := 110) rfl)) rfl
theorem l_Book_59 : u_lay R_Book F_Book 59 ∈ ma := ma_of (tb_9 _ (List.mem_of_getElem? (i := 112) rfl)) rfl
theorem l_Book_60 : u_lay R_Book F_Book 60 ∈ ma := ma_of (tb_9 _ (List.mem_of_getElem? (i := 114) rfl)) rfl
theorem l_Book_61 : u_lay R_Book F_Book 61 ∈ ma := ma_of (tb_9 _ (List.mem_of_getElem? (i := 116) rfl)) rfl
theorem l_Book_62 : u_lay R_Book F_Book 62 ∈ ma := ma_of (tb_9 _ (List.mem_of_getElem? (i := 118) rfl)) rfl
theorem l_Book_63 : u_lay R_Book F_Book 63 ∈ ma := ma_of (tb_9 _ (List.mem_of_getElem? (i := 120) rfl)) rfl
theorem l_Book_64 : u_lay R_Book F_Book 64 ∈ ma := ma_of (tb_9 _ (List.mem_of_getElem? (i := 122) rfl)) rfl
theorem i_Book : ∀ w ∈ u_ws R_Book F_Book 65, w ∈ ma := fun w hw => by
  obtain ⟨k, hk, rfl⟩ := List.mem_map.mp hw
  have hk := List.mem_range.mp hk
  rcases (show k = 0 ∨ k = 1 ∨ k = 2 ∨ k = 3 ∨ k = 4 ∨ k = 5 ∨ k = 6 ∨ k = 7 ∨ k = 8 ∨ k = 9 ∨ k = 10 ∨ k = 11 ∨ k = 12 ∨ k = 13 ∨ k = 14 ∨ k = 15 ∨ k = 16 ∨ k = 17 ∨ k = 18 ∨ k = 19 ∨ k = 20 ∨ k = 21 ∨ k = 22 ∨ k = 23 ∨ k = 24 ∨ k = 25 ∨ k = 26 ∨ k = 27 ∨ k = 28 ∨ k = 29 ∨ k = 30 ∨ k = 31 ∨ k = 32 ∨ k = 33 ∨ k = 34 ∨ k = 35 ∨ k = 36 ∨ k = 37 ∨ k = 38 ∨ k = 39 ∨ k = 40 ∨ k = 41 ∨ k = 42 ∨ k = 43 ∨ k = 44 ∨ k = 45 ∨ k = 46 ∨ k = 47 ∨ k = 48 ∨ k = 49 ∨ k = 50 ∨ k = 51 ∨ k = 52 ∨ k = 53 ∨ k = 54 ∨ k = 55 ∨ k = 56 ∨ k = 57 ∨ k = 58 ∨ k = 59 ∨ k = 60 ∨ k = 61 ∨ k = 62 ∨ k = 63 ∨ k = 64 by omega) with rfl | rfl | rfl | rfl | rfl | rfl | rfl | rfl | rfl | rfl | rfl | rfl | rfl | rfl | rfl | rfl | rfl | rfl | rfl | rfl | rfl | rfl | rfl | rfl | rfl | rfl | rfl | rfl | rfl | rfl | rfl | rfl | rfl | rfl | rfl | rfl | rfl | rfl | rfl | rfl | rfl | rfl | rfl | rfl | rfl | rfl | rfl | rfl | rfl | rfl | rfl | rfl | rfl | rfl | rfl | rfl | rfl | rfl | rfl | rfl | rfl | rfl | rfl | rfl | rfl
  · exact l_Book_0
  · exact l_Book_1
  · exact l_Book_2
  · exact l_Book_3
  · exact l_Book_4
  · exact l_Book_5
  · exact l_Book_6
  · exact l_Book_7
  · exact l_Book_8
  · exact l_Book_9
  · exact l_Book_10
  · exact l_Book_11
  · exact l_Book_12
  · exact l_Book_13
  · exact l_Book_14
  · exact l_Book_15
  · exact l_Book_16
  · exact l_Book_17
  · exact l_Book_18
  · exact l_Book_19
  · exact l_Book_20
  · exact l_Book_21
  · exact l_Book_22
  · exact l_Book_23
  · exact l_Book_24
  · exact l_Book_25
  · exact l_Book_26
  · exact l_Book_27
  · exact l_Book_28
  · exact l_Book_29
  · exact l_Book_30
  · exact l_Book_31
  · exact l_Book_32
  · exact l_Book_33
  · exact l_Book_34
  · exact l_Book_35
  · exact l_Book_36
  · exact l_Book_37
  · exact l_Book_38
  · exact l_Book_39
  · exact l_Book_40
  · exact l_Book_41
  · exact l_Book_42
  · exact l_Book_43
  · exact l_Book_44
  · exact l_Book_45
  · exact l_Book_46
  · exact l_Book_47
  · exact l_Book_48
  · exact l_Book_49
  · exact l_Book_50
  · exact l_Book_51
  · exact l_Book_52
  · exact l_Book_53
  · exact l_Book_54
  · exact l_Book_55
  · exact l_Book_56
  · exact l_Book_57
  · exact l_Book_58
  · exact l_Book_59
  · exact l_Book_60
  · exact l_Book_61
  · exact l_Book_62
  · exact l_Book_63
  · exact l_Book_64
def R_Wrong : String := "MachineLoomModel$Book$Wrong"
def F_Wrong : u_T := fun k => match k with
  | _ => ("MachineLoomModel$Book$Wrong", "place", "I", false)
def t_Wrong : Nat → FieldType := fun k => match k with
  | _ => .int
theorem n_Wrong : ∀ a, a < 1 → ∀ b, b < 1 → a ≠ b → (F_Wrong a).2.1 ≠ (F_Wrong b).2.1 := by decide +kernel
theorem t_Wrong_ok : ∀ k, k < 1 → parseFieldDescriptor (F_Wrong k).2.2.1 = some (t_Wrong k) := by decide +kernel
theorem l_Wrong_0 : u_lay R_Wrong F_Wrong 0 ∈ ma := ma_of (tb_8 _ (List.mem_of_getElem? (i := 156) rfl)) rfl
theorem i_Wrong : ∀ w ∈ u_ws R_Wrong F_Wrong 1, w ∈ ma := fun w hw => by
  obtain ⟨k, hk, rfl⟩ := List.mem_map.mp hw
  have hk := List.mem_range.mp hk
  have hk : k = 0 := by omega
  subst hk
  exact l_Wrong_0
def mc_cl : List vw_C := [(R_Loom, F_Loom, 10), (R_Weaver, F_Weaver, 16), (R_Tokens, F_Tokens, 10), (R_Symbols, F_Symbols, 6), (R_Names, F_Names, 10), (R_Faults, F_Faults, 2), (R_Exprs, F_Exprs, 11), (R_Program, F_Program, 19), (R_Tree, F_Tree, 5), (R_Machine, F_Machine, 13), (R_Shipped, F_Shipped, 2), (R_Model, F_Model, 16), (R_Book, F_Book, 65), (R_Wrong, F_Wrong, 1)]
def mc_ft : Nat → Nat → FieldType := fun c => match c with
  | 0 => t_Loom
  | 1 => t_Weaver
  | 2 => t_Tokens
  | 3 => t_Symbols
  | 4 => t_Names
  | 5 => t_Faults
  | 6 => t_Exprs
  | 7 => t_Program
  | 8 => t_Tree
  | 9 => t_Machine
  | 10 => t_Shipped
  | 11 => t_Model
  | 12 => t_Book
  | _ => t_Wrong
