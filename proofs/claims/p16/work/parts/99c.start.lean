theorem k_38 : (Jvm.Cond.instantiable "MachineLoom" (10 : Nat)) ∈ ma := ma_of (tb_1 _ (List.mem_of_getElem? (i := 38) rfl)) rfl
theorem k_1810 : (Jvm.Cond.instantiable "MachineLoomModel" (16 : Nat)) ∈ ma := ma_of (tb_8 _ (List.mem_of_getElem? (i := 130) rfl)) rfl
/-! what holds at the law's start -/
def st_w (i : Nat) : List Cond := [.exactly (.string (st_g i).1 (st_g i).2.1) "java/lang/String", .eq (.field (.string (st_g i).1 (st_g i).2.1) "java/lang/String" "coder" "B") (.int 0), .arrayOf (.field (.string (st_g i).1 (st_g i).2.1) "java/lang/String" "value" "[B") .byte, .eq (.length (.field (.string (st_g i).1 (st_g i).2.1) "java/lang/String" "value" "[B")) (.int (Int32.ofNat (st_g i).2.2.2.length))] ++ (List.range (st_g i).2.2.2.length).map (fun j => .eq (.elem (.field (.string (st_g i).1 (st_g i).2.1) "java/lang/String" "value" "[B") (.int (Int32.ofNat j))) (.int ((st_g i).2.2.2.getD j 0)))
def st_FF : List Cond := flatC (Jvm.Cond.and given_1 narrow_1)
def st_b : List Nat := [316, 396, 403, 439, 460, 464, 486, 492, 501, 537, 563, 570, 606, 707, 715, 751, 854, 861, 868, 884, 905, 921, 928, 1017, 1024, 1031, 1047, 1054, 1061, 1080, 1087, 1094, 1114, 1122, 1129, 1144, 1152, 1159, 1175, 1181, 1197, 1218, 1234, 1271, 1278, 1284, 1315, 1321, 1328, 1377, 1384, 1400, 1407, 1438, 1444, 1465, 1481, 1534, 1540, 1569, 1575, 1658, 1666, 1686, 1702, 1713, 1721, 1753, 1762, 1769, 1797, 1805, 1825, 1832, 1852, 1860, 1880, 1888, 1899, 1912, 1919, 1953, 1961, 1974, 1982, 1993, 2009, 2016, 2031, 2065, 2072, 2087, 2094, 2115, 2123, 2150, 2158, 2181, 2188, 2203, 2210, 2231, 2239, 2263, 2269, 2284, 2291, 2306, 2315, 2351, 2360, 2396, 2407, 2417, 2453, 2464, 2471, 2482, 2497, 2505, 2545, 2555, 2595, 2604, 2644, 2651, 2671, 2679, 2694, 2701, 2721, 2729, 2744, 2822, 2849, 2863, 2879, 2884, 2891, 2921, 2929, 2936, 3015, 3023, 3031, 3040, 3048, 3054, 3061, 3067, 3073, 3080, 3088, 3096, 3103, 3111, 3117, 472, 478, 1933, 2045]
def st_x : List Nat := [540, 593, 594, 595, 600, 605, 608, 609, 610, 611, 612, 613, 614, 615, 616, 617, 618, 619, 620, 625, 626, 627, 628, 629, 630, 631, 632, 633, 634, 635, 636, 637, 638, 639, 640, 641, 642, 643, 644, 645, 650, 651, 652, 653, 654, 655, 656, 657, 658, 659, 660, 661, 662, 663, 668, 669, 670, 671, 672, 673, 674, 679, 680, 685, 690, 691, 692, 693, 694, 695, 696, 697, 698, 699, 700, 701, 702, 703, 704, 709, 710, 712, 713, 714, 715, 716, 721, 722, 727, 729, 730, 731, 732, 733, 734, 735, 736, 737, 738, 739, 740, 741, 742, 743, 744, 745, 746, 747, 748, 749, 750, 751, 752, 753, 754, 759, 760, 761, 762, 763, 764, 765, 766, 767, 768, 769, 770, 771, 772, 773, 774, 775, 800, 884, 1028, 1140, 1141, 1178, 1232, 2158, 2189, 2202, 2211, 2220, 2221, 2226, 2227, 2240, 2277, 2282, 2283, 2298, 2299, 2300, 2325, 2327, 2332, 606, 607, 711, 728]
set_option maxRecDepth 100000 in
theorem st_all9 : ∀ i, i < st_t.length → ((st_FF.drop (st_b.getD i 0)).take (st_w i).length) = st_w i := by decide +kernel
set_option maxRecDepth 100000 in
theorem st_ref9 : ∀ i, i < st_t.length → tables_1[st_x.getD i 0]? = some (.stringRef (st_g i).1 (st_g i).2.1 (st_g i).2.2.1) := by decide +kernel
theorem st_mem {i : Nat} (hi : i < st_t.length) {w : Cond} (hw : w ∈ st_w i) : w ∈ st_FF := by
  rw [← st_all9 i hi] at hw
  exact List.mem_of_mem_drop (List.mem_of_mem_take hw)
theorem st_ex {args : Array Value} {s : State} (h : ∀ w ∈ st_FF, w.before args s = true) (hts : ∀ w ∈ tables_1, w.before args s = true) {A : Nat → Prop} (hA : ∀ a : Nat, a < s.heap.size → ¬ A a) : ∃ sk sv : Nat → Nat, ∀ i, i < st_t.length → st_1 sk sv i A s s.heap := by
  have h0 : ∀ i : Nat, ∃ q : Nat × Nat, i < st_t.length → vk_R (st_g i).1 (st_g i).2.1 (st_g i).2.2.1 q.1 s ∧ va_O "java/lang/String" q.1 A s s.heap ∧ va_OF "java/lang/String" "coder" "B" (.int 0) q.1 A s s.heap ∧ va_OF "java/lang/String" "value" "[B" (.ref q.2) q.1 A s s.heap ∧ va_T .byte q.2 (st_g i).2.2.2.length (fun j => .int ((st_g i).2.2.2.getD j 0)) A s s.heap := by
    intro i
    by_cases hi : i < st_t.length
    · have hw : ∀ w ∈ st_w i, w.before args s = true := fun w q => h w (st_mem hi q)
      have e1 := hw _ (List.mem_append_left _ List.mem_cons_self)
      have e2 := hw _ (List.mem_append_left _ (List.mem_cons_of_mem _ List.mem_cons_self))
      have e3 := hw _ (List.mem_append_left _ (List.mem_cons_of_mem _ (List.mem_cons_of_mem _ List.mem_cons_self)))
      have e4 := hw _ (List.mem_append_left _ (List.mem_cons_of_mem _ (List.mem_cons_of_mem _ (List.mem_cons_of_mem _ List.mem_cons_self))))
      have e5 : ∀ j, j < (st_g i).2.2.2.length → (Cond.eq (.elem (.field (.string (st_g i).1 (st_g i).2.1) "java/lang/String" "value" "[B") (.int (Int32.ofNat j))) (.int ((st_g i).2.2.2.getD j 0))).before args s = true := fun j hj => hw _ (List.mem_append_right _ (List.mem_map.mpr ⟨j, List.mem_range.mpr hj, rfl⟩))
      obtain ⟨a, c, cA, kA, q1, q2, q3, q4, q5, q6, -⟩ := Cond.exactly_spec (args := args) (first := s) (o := none) (s := s) (idx := []) (t := .string (st_g i).1 (st_g i).2.1) (cls := "java/lang/String") e1
      have hl := st_l9 i hi
      obtain ⟨t, ht, hT⟩ := va_Tof (f := fun j => .int ((st_g i).2.2.2.getD j 0)) (A := A) (by omega) e3 (va_eqt e4) (fun j hj => va_eqt (e5 j hj)) hA
      exact ⟨(a, t), fun _ => ⟨vk_R.of (hts _ (List.mem_of_getElem? (st_ref9 i hi))) q1, ⟨cA, q3, q5, by rw [q6]; exact q2, hA a (Array.getElem?_eq_some_iff.mp q3).1⟩, vk_OFof q1 (va_eqt e2) hA, vk_OFof q1 ht hA, hT⟩⟩
    · exact ⟨(0, 0), fun z => absurd z hi⟩
  obtain ⟨ad, had⟩ := Classical.axiomOfChoice h0
  exact ⟨fun i => (ad i).1, fun i => (ad i).2, fun i hi => had i hi⟩
theorem mt_Zof {args : Array Value} {s : State} {C n d : String} {A : Nat → Prop} (hl : (Cond.laysStatic C n d).before args s = true) (hini : (Cond.initialized C).before args s = true) (h : (Cond.isRef (.static C n d)).before args s = true) (hA : ∀ a : Nat, a < s.heap.size → ¬ A a) : mt_Z C n d A s s.heap := by
  obtain ⟨c, k, i, f, a, cell, hc, hi, hst, ha, hcell, hs, hcls, hlt, hty⟩ := Cond.laysStatic_spec hl
  exact ⟨va_Zqof hl hini h hA, c, k, i, f, a, cell, hc, hi, hst, ha, hcell, hs, hcls, hlt, hty, hA a (Array.getElem?_eq_some_iff.mp hcell).1⟩
theorem mt_Nof1 {args : Array Value} {s : State} {X Y : String} (h : (Cond.not (.castable X Y)).before args s = true) {cX cY : ClassId} (h1 : s.vm.findClass X = some cX) (h2 : s.vm.findClass Y = some cY) : s.vm.assignable cX cY = false := by
  have h : (Cond.not (.castable X Y)).holds args s none s [] = true := h
  cases e : s.vm.assignable cX cY with
  | false => rfl
  | true =>
    simp [Cond.holds, Cond.value, h1, h2, e] at h
set_option maxRecDepth 100000 in
theorem mt_Nof {args : Array Value} {s : State} (h : ∀ w ∈ st_FF, w.before args s = true) : mt_N s := fun X hX cX cY h1 h2 => by
  rcases hX with rfl | rfl
  · exact mt_Nof1 (args := args) (h _ (show Cond.not (.castable "java/util/NoSuchElementException" "java/lang/IllegalArgumentException") ∈ st_FF by decide +kernel)) h1 h2
  · exact mt_Nof1 (args := args) (h _ (show Cond.not (.castable "java/lang/IllegalStateException" "java/lang/IllegalArgumentException") ∈ st_FF by decide +kernel)) h1 h2
set_option maxRecDepth 100000 in
theorem law_Ks {args : Array Value} {s : State} (h : ∀ w ∈ st_FF, w.before args s = true) (hts : ∀ w ∈ tables_1, w.before args s = true) : ∃ sk sv : Nat → Nat, mKt sk sv (fun q => s.heap.size ≤ q) s s.heap := by
  have hA : ∀ a : Nat, a < s.heap.size → ¬ (fun q => s.heap.size ≤ q) a := fun a ha z => absurd ha (Nat.not_lt.mpr z)
  obtain ⟨sk, sv, hst⟩ := st_ex h hts hA
  refine ⟨sk, sv, ⟨fun w hw => ?_, hst, va_Zof (hts _ (tb_3 _ (List.mem_of_getElem? (i := 74) rfl))) (hts _ (tb_1 _ (List.mem_of_getElem? (i := 21) rfl))) (va_eqt (h _ (show Cond.eq (.static "java/lang/String" "COMPACT_STRINGS" "Z") (.int 1) ∈ st_FF by decide +kernel))) hA, va_Zqof (hts _ (tb_3 _ (List.mem_of_getElem? (i := 90) rfl))) (hts _ (tb_1 _ (List.mem_of_getElem? (i := 23) rfl))) (h _ (show Cond.isRef (.static "jdk/internal/util/Preconditions" "SIOOBE_FORMATTER" "Ljava/util/function/BiFunction;") ∈ st_FF by decide +kernel)) hA⟩,
    ⟨mt_Zof (hts _ (tb_5 _ (List.mem_of_getElem? (i := 21) rfl))) (hts _ (tb_1 _ (List.mem_of_getElem? (i := 14) rfl))) (h _ (show Cond.isRef (.static "java/lang/Throwable" "UNASSIGNED_STACK" "[Ljava/lang/StackTraceElement;") ∈ st_FF by decide +kernel)) hA, mt_Zof (hts _ (tb_5 _ (List.mem_of_getElem? (i := 23) rfl))) (hts _ (tb_1 _ (List.mem_of_getElem? (i := 14) rfl))) (h _ (show Cond.isRef (.static "java/lang/Throwable" "SUPPRESSED_SENTINEL" "Ljava/util/List;") ∈ st_FF by decide +kernel)) hA⟩, mt_Nof h⟩
  simp only [mn, List.mem_cons, List.not_mem_nil, or_false] at hw
  rcases hw with rfl | rfl | rfl | rfl | rfl | rfl | rfl | rfl
  · exact va_Nw.of rfl (hts _ (tb_1 _ (List.mem_of_getElem? (i := 48) rfl)))
  · exact va_Nw.of rfl (hts _ (tb_1 _ (List.mem_of_getElem? (i := 54) rfl)))
  · exact va_Nw.of rfl (hts _ (tb_1 _ (List.mem_of_getElem? (i := 61) rfl)))
  · exact va_Nw.of rfl (hts _ (tb_1 _ (List.mem_of_getElem? (i := 173) rfl)))
  · exact va_Nw.of rfl (hts _ (tb_3 _ (List.mem_of_getElem? (i := 43) rfl)))
  · exact va_Nw.of rfl (hts _ (tb_8 _ (List.mem_of_getElem? (i := 138) rfl)))
  · exact va_Nw.of rfl (hts _ (tb_8 _ (List.mem_of_getElem? (i := 151) rfl)))
  · exact va_Nw.of rfl (hts _ (tb_10 _ (List.mem_of_getElem? (i := 47) rfl)))
theorem law_D {args : Array Value} {s : State} (hma : ∀ w ∈ ma, w.before args s = true) : ∃ (dA : FieldType → ClassId) (D : va_G), va_K D mc_cl [(dA .int, .int), (dA .long, .long), (dA .byte, .byte), (dA .boolean, .boolean)] s := by
  have hall : ∀ q ∈ mc_cl, ∃ (cC : ClassId) (iS : Nat → Nat), u_Kn s q.1 q.2.1 q.2.2 cC iS := by
    intro q hq
    simp only [mc_cl, List.mem_cons, List.not_mem_nil, or_false] at hq
    rcases hq with rfl | rfl | rfl | rfl | rfl | rfl | rfl | rfl | rfl | rfl | rfl | rfl | rfl | rfl
    · exact u_known hma i_Loom (hma _ k_38)
    · exact u_known hma i_Weaver (hma _ k_47)
    · exact u_known hma i_Tokens (hma _ k_53)
    · exact u_known hma i_Symbols (hma _ k_60)
    · exact u_known hma i_Names (hma _ k_129)
    · exact u_known hma i_Faults (hma _ k_172)
    · exact u_known hma i_Exprs (hma _ k_188)
    · exact u_known hma i_Program (hma _ k_280)
    · exact u_known hma i_Tree (hma _ k_286)
    · exact u_known hma i_Machine (hma _ k_434)
    · exact u_known hma i_Shipped (hma _ k_522)
    · exact u_known hma i_Model (hma _ k_1810)
    · exact u_known hma i_Book (hma _ k_1817)
    · exact u_known hma i_Wrong (hma _ k_1823)
  have h0 : ∀ c : Nat, ∃ z : ClassId × (Nat → Nat), ∀ q, mc_cl[c]? = some q → u_Kn s q.1 q.2.1 q.2.2 z.1 z.2 := by
    intro c
    cases hq : mc_cl[c]? with
    | none => exact ⟨(0, fun _ => 0), fun q h => nomatch h⟩
    | some q =>
      obtain ⟨cC, iS, h⟩ := hall q (List.mem_of_getElem? hq)
      exact ⟨(cC, iS), fun q' h' => by cases h'; exact h⟩
  obtain ⟨f, hf⟩ := Classical.axiomOfChoice h0
  have harr : ∀ ty : FieldType, (Cond.arrayClass ty).before args s = true → ∃ cA : ClassId, ArrOfT s cA ty ∧ s.vm.findClass ("[" ++ ty.toString) = some cA := fun ty h => by
    obtain ⟨cA, kA, comp, h1, h2, h3⟩ := Cond.arrayClass_spec h
    exact ⟨cA, fun n z => ⟨fun k h => (by cases h), kA, h2, comp, h3⟩, h1⟩
  obtain ⟨aint, bint, cint⟩ := harr .int (hma _ k_87)
  obtain ⟨along, blong, clong⟩ := harr .long (hma _ k_88)
  obtain ⟨abyte, bbyte, cbyte⟩ := harr .byte (hma _ k_86)
  obtain ⟨aboolean, bboolean, cboolean⟩ := harr .boolean (hma _ k_310)
  refine ⟨fun ty => match ty with | .int => aint | .long => along | .byte => abyte | _ => aboolean, (fun c => (f c).1, fun c => (f c).2), fun c q hq => hf c q hq, fun k q hk => ?_⟩
  match k, hk with
  | 0, hk => cases hk; exact ⟨bint, cint⟩
  | 1, hk => cases hk; exact ⟨blong, clong⟩
  | 2, hk => cases hk; exact ⟨bbyte, cbyte⟩
  | 3, hk => cases hk; exact ⟨bboolean, cboolean⟩
  | k + 4, hk => exact absurd hk (by simp)
