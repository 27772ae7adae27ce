/-! throw new X(): the statics of Throwable, the frame seen from here, the words of a throw -/
theorem k_14 : (Jvm.Cond.initialized "java/lang/Throwable") ∈ ma := ma_of (tb_1 _ (List.mem_of_getElem? (i := 14) rfl)) rfl
theorem k_976 : (Jvm.Cond.superclass "java/lang/Throwable" "java/lang/Object") ∈ ma := ma_of (tb_5 _ (List.mem_of_getElem? (i := 16) rfl)) rfl
theorem k_985 : (Jvm.Cond.instanceMethod ({ cls := "java/lang/Throwable", name := "fillInStackTrace", desc := "()Ljava/lang/Throwable;" } : Jvm.MethodName)) ∈ ma := ma_of (tb_5 _ (List.mem_of_getElem? (i := 25) rfl)) rfl
theorem k_992 : (Jvm.Cond.codeSync ({ cls := "java/lang/Throwable", name := "fillInStackTrace", desc := "()Ljava/lang/Throwable;" } : Jvm.MethodName) prog_34_method_18_code (1 : Nat) (Option.some (Jvm.ClassFile.FieldType.object "java/lang/Throwable"))) ∈ ma := ma_of (tb_5 _ (List.mem_of_getElem? (i := 32) rfl)) rfl
theorem k_995 : (Jvm.Cond.instanceMethod ({ cls := "java/lang/Throwable", name := "fillInStackTrace", desc := "(I)Ljava/lang/Throwable;" } : Jvm.MethodName)) ∈ ma := ma_of (tb_5 _ (List.mem_of_getElem? (i := 35) rfl)) rfl
theorem k_997 : (Jvm.Cond.native ({ cls := "java/lang/Throwable", name := "fillInStackTrace", desc := "(I)Ljava/lang/Throwable;" } : Jvm.MethodName)) ∈ ma := ma_of (tb_5 _ (List.mem_of_getElem? (i := 37) rfl)) rfl
theorem k_977 : (Jvm.Cond.instanceMethod ({ cls := "java/lang/Throwable", name := "<init>", desc := "()V" } : Jvm.MethodName)) ∈ ma := ma_of (tb_5 _ (List.mem_of_getElem? (i := 17) rfl)) rfl
theorem k_978 : (Jvm.Cond.code ({ cls := "java/lang/Throwable", name := "<init>", desc := "()V" } : Jvm.MethodName) prog_34_method_1_code (1 : Nat) (Option.none : Option Jvm.ClassFile.FieldType)) ∈ ma := ma_of (tb_5 _ (List.mem_of_getElem? (i := 18) rfl)) rfl
theorem k_43 : (Jvm.Cond.instanceMethod ({ cls := "java/lang/Object", name := "<init>", desc := "()V" } : Jvm.MethodName)) ∈ ma := ma_of (tb_1 _ (List.mem_of_getElem? (i := 43) rfl)) rfl
theorem k_44 : (Jvm.Cond.code ({ cls := "java/lang/Object", name := "<init>", desc := "()V" } : Jvm.MethodName) object_method_1_code (1 : Nat) (Option.none : Option Jvm.ClassFile.FieldType)) ∈ ma := ma_of (tb_1 _ (List.mem_of_getElem? (i := 44) rfl)) rfl
theorem k_979 : (Jvm.Cond.methodLink "java/lang/Throwable" (1 : Nat) ({ cls := "java/lang/Object", name := "<init>", desc := "()V" } : Jvm.MethodName)) ∈ ma := ma_of (tb_5 _ (List.mem_of_getElem? (i := 19) rfl)) rfl
theorem k_984 : (Jvm.Cond.methodLink "java/lang/Throwable" (27 : Nat) ({ cls := "java/lang/Throwable", name := "fillInStackTrace", desc := "()Ljava/lang/Throwable;" } : Jvm.MethodName)) ∈ ma := ma_of (tb_5 _ (List.mem_of_getElem? (i := 24) rfl)) rfl
theorem k_993 : (Jvm.Cond.methodLink "java/lang/Throwable" (202 : Nat) ({ cls := "java/lang/Throwable", name := "fillInStackTrace", desc := "(I)Ljava/lang/Throwable;" } : Jvm.MethodName)) ∈ ma := ma_of (tb_5 _ (List.mem_of_getElem? (i := 33) rfl)) rfl
theorem k_1193 : (Jvm.Cond.fieldLink "java/lang/Throwable" (7 : Nat) "java/lang/Throwable" "cause" "Ljava/lang/Throwable;") ∈ ma := ma_of (tb_5 _ (List.mem_of_getElem? (i := 233) rfl)) rfl
theorem k_966 : (Jvm.Cond.lays "java/lang/Throwable" "java/lang/Throwable" "cause" "Ljava/lang/Throwable;") ∈ ma := ma_of (tb_5 _ (List.mem_of_getElem? (i := 6) rfl)) rfl
theorem k_1194 : (Jvm.Cond.fieldLink "java/lang/Throwable" (17 : Nat) "java/lang/Throwable" "stackTrace" "[Ljava/lang/StackTraceElement;") ∈ ma := ma_of (tb_5 _ (List.mem_of_getElem? (i := 234) rfl)) rfl
theorem k_968 : (Jvm.Cond.lays "java/lang/Throwable" "java/lang/Throwable" "stackTrace" "[Ljava/lang/StackTraceElement;") ∈ ma := ma_of (tb_5 _ (List.mem_of_getElem? (i := 8) rfl)) rfl
theorem k_1195 : (Jvm.Cond.fieldLink "java/lang/Throwable" (24 : Nat) "java/lang/Throwable" "suppressedExceptions" "Ljava/util/List;") ∈ ma := ma_of (tb_5 _ (List.mem_of_getElem? (i := 235) rfl)) rfl
theorem k_970 : (Jvm.Cond.lays "java/lang/Throwable" "java/lang/Throwable" "suppressedExceptions" "Ljava/util/List;") ∈ ma := ma_of (tb_5 _ (List.mem_of_getElem? (i := 10) rfl)) rfl
theorem k_980 : (Jvm.Cond.fieldLink "java/lang/Throwable" (13 : Nat) "java/lang/Throwable" "UNASSIGNED_STACK" "[Ljava/lang/StackTraceElement;") ∈ ma := ma_of (tb_5 _ (List.mem_of_getElem? (i := 20) rfl)) rfl
theorem k_982 : (Jvm.Cond.fieldLink "java/lang/Throwable" (20 : Nat) "java/lang/Throwable" "SUPPRESSED_SENTINEL" "Ljava/util/List;") ∈ ma := ma_of (tb_5 _ (List.mem_of_getElem? (i := 22) rfl)) rfl
theorem k_972 : (Jvm.Cond.lays "java/lang/Throwable" "java/lang/Throwable" "detailMessage" "Ljava/lang/String;") ∈ ma := ma_of (tb_5 _ (List.mem_of_getElem? (i := 12) rfl)) rfl
theorem k_1685 : (Jvm.Cond.code ({ cls := "java/lang/RuntimeException", name := "<init>", desc := "()V" } : Jvm.MethodName) prog_28_method_1_code (1 : Nat) (Option.none : Option Jvm.ClassFile.FieldType)) ∈ ma := ma_of (tb_8 _ (List.mem_of_getElem? (i := 5) rfl)) rfl
theorem k_1688 : (Jvm.Cond.code ({ cls := "java/lang/Exception", name := "<init>", desc := "()V" } : Jvm.MethodName) prog_21_method_1_code (1 : Nat) (Option.none : Option Jvm.ClassFile.FieldType)) ∈ ma := ma_of (tb_8 _ (List.mem_of_getElem? (i := 8) rfl)) rfl
theorem k_1684 : (Jvm.Cond.instanceMethod ({ cls := "java/lang/RuntimeException", name := "<init>", desc := "()V" } : Jvm.MethodName)) ∈ ma := ma_of (tb_8 _ (List.mem_of_getElem? (i := 4) rfl)) rfl
theorem k_1686 : (Jvm.Cond.methodLink "java/lang/RuntimeException" (1 : Nat) ({ cls := "java/lang/Exception", name := "<init>", desc := "()V" } : Jvm.MethodName)) ∈ ma := ma_of (tb_8 _ (List.mem_of_getElem? (i := 6) rfl)) rfl
theorem k_1687 : (Jvm.Cond.instanceMethod ({ cls := "java/lang/Exception", name := "<init>", desc := "()V" } : Jvm.MethodName)) ∈ ma := ma_of (tb_8 _ (List.mem_of_getElem? (i := 7) rfl)) rfl
theorem k_1689 : (Jvm.Cond.methodLink "java/lang/Exception" (1 : Nat) ({ cls := "java/lang/Throwable", name := "<init>", desc := "()V" } : Jvm.MethodName)) ∈ ma := ma_of (tb_8 _ (List.mem_of_getElem? (i := 9) rfl)) rfl
theorem k_975 : (Jvm.Cond.fieldLink "java/lang/Throwable" (198 : Nat) "java/lang/Throwable" "backtrace" "Ljava/lang/Object;") ∈ ma := ma_of (tb_5 _ (List.mem_of_getElem? (i := 15) rfl)) rfl
theorem k_974 : (Jvm.Cond.lays "java/lang/Throwable" "java/lang/Throwable" "backtrace" "Ljava/lang/Object;") ∈ ma := ma_of (tb_5 _ (List.mem_of_getElem? (i := 14) rfl)) rfl
theorem k_1681 : (Jvm.Cond.instanceMethod ({ cls := "java/lang/IndexOutOfBoundsException", name := "<init>", desc := "()V" } : Jvm.MethodName)) ∈ ma := ma_of (tb_8 _ (List.mem_of_getElem? (i := 1) rfl)) rfl
theorem k_1682 : (Jvm.Cond.code ({ cls := "java/lang/IndexOutOfBoundsException", name := "<init>", desc := "()V" } : Jvm.MethodName) prog_24_method_1_code (1 : Nat) (Option.none : Option Jvm.ClassFile.FieldType)) ∈ ma := ma_of (tb_8 _ (List.mem_of_getElem? (i := 2) rfl)) rfl
theorem k_1683 : (Jvm.Cond.methodLink "java/lang/IndexOutOfBoundsException" (1 : Nat) ({ cls := "java/lang/RuntimeException", name := "<init>", desc := "()V" } : Jvm.MethodName)) ∈ ma := ma_of (tb_8 _ (List.mem_of_getElem? (i := 3) rfl)) rfl
theorem k_1672 : (Jvm.Cond.instantiable "java/lang/IndexOutOfBoundsException" (6 : Nat)) ∈ ma := ma_of (tb_7 _ (List.mem_of_getElem? (i := 232) rfl)) rfl
theorem k_1674 : (Jvm.Cond.selects "java/lang/IndexOutOfBoundsException" ({ cls := "java/lang/Throwable", name := "fillInStackTrace", desc := "(I)Ljava/lang/Throwable;" } : Jvm.MethodName) ({ cls := "java/lang/Throwable", name := "fillInStackTrace", desc := "(I)Ljava/lang/Throwable;" } : Jvm.MethodName)) ∈ ma := ma_of (tb_7 _ (List.mem_of_getElem? (i := 234) rfl)) rfl
theorem k_990 : (Jvm.Cond.selects "java/lang/IndexOutOfBoundsException" ({ cls := "java/lang/Throwable", name := "fillInStackTrace", desc := "()Ljava/lang/Throwable;" } : Jvm.MethodName) ({ cls := "java/lang/Throwable", name := "fillInStackTrace", desc := "()Ljava/lang/Throwable;" } : Jvm.MethodName)) ∈ ma := ma_of (tb_5 _ (List.mem_of_getElem? (i := 30) rfl)) rfl
theorem k_1675 : (Jvm.Cond.lays "java/lang/IndexOutOfBoundsException" "java/lang/Throwable" "cause" "Ljava/lang/Throwable;") ∈ ma := ma_of (tb_7 _ (List.mem_of_getElem? (i := 235) rfl)) rfl
theorem k_1676 : (Jvm.Cond.lays "java/lang/IndexOutOfBoundsException" "java/lang/Throwable" "stackTrace" "[Ljava/lang/StackTraceElement;") ∈ ma := ma_of (tb_7 _ (List.mem_of_getElem? (i := 236) rfl)) rfl
theorem k_1677 : (Jvm.Cond.lays "java/lang/IndexOutOfBoundsException" "java/lang/Throwable" "suppressedExceptions" "Ljava/util/List;") ∈ ma := ma_of (tb_7 _ (List.mem_of_getElem? (i := 237) rfl)) rfl
theorem k_1678 : (Jvm.Cond.lays "java/lang/IndexOutOfBoundsException" "java/lang/Throwable" "detailMessage" "Ljava/lang/String;") ∈ ma := ma_of (tb_7 _ (List.mem_of_getElem? (i := 238) rfl)) rfl
theorem k_1679 : (Jvm.Cond.lays "java/lang/IndexOutOfBoundsException" "java/lang/Throwable" "backtrace" "Ljava/lang/Object;") ∈ ma := ma_of (tb_7 _ (List.mem_of_getElem? (i := 239) rfl)) rfl
theorem k_1706 : (Jvm.Cond.instanceMethod ({ cls := "java/lang/IllegalArgumentException", name := "<init>", desc := "()V" } : Jvm.MethodName)) ∈ ma := ma_of (tb_8 _ (List.mem_of_getElem? (i := 26) rfl)) rfl
theorem k_1707 : (Jvm.Cond.code ({ cls := "java/lang/IllegalArgumentException", name := "<init>", desc := "()V" } : Jvm.MethodName) prog_22_method_1_code (1 : Nat) (Option.none : Option Jvm.ClassFile.FieldType)) ∈ ma := ma_of (tb_8 _ (List.mem_of_getElem? (i := 27) rfl)) rfl
theorem k_1708 : (Jvm.Cond.methodLink "java/lang/IllegalArgumentException" (1 : Nat) ({ cls := "java/lang/RuntimeException", name := "<init>", desc := "()V" } : Jvm.MethodName)) ∈ ma := ma_of (tb_8 _ (List.mem_of_getElem? (i := 28) rfl)) rfl
theorem k_955 : (Jvm.Cond.instantiable "java/lang/IllegalArgumentException" (6 : Nat)) ∈ ma := ma_of (tb_4 _ (List.mem_of_getElem? (i := 235) rfl)) rfl
theorem k_963 : (Jvm.Cond.selects "java/lang/IllegalArgumentException" ({ cls := "java/lang/Throwable", name := "fillInStackTrace", desc := "(I)Ljava/lang/Throwable;" } : Jvm.MethodName) ({ cls := "java/lang/Throwable", name := "fillInStackTrace", desc := "(I)Ljava/lang/Throwable;" } : Jvm.MethodName)) ∈ ma := ma_of (tb_5 _ (List.mem_of_getElem? (i := 3) rfl)) rfl
theorem k_964 : (Jvm.Cond.selects "java/lang/IllegalArgumentException" ({ cls := "java/lang/Throwable", name := "fillInStackTrace", desc := "()Ljava/lang/Throwable;" } : Jvm.MethodName) ({ cls := "java/lang/Throwable", name := "fillInStackTrace", desc := "()Ljava/lang/Throwable;" } : Jvm.MethodName)) ∈ ma := ma_of (tb_5 _ (List.mem_of_getElem? (i := 4) rfl)) rfl
theorem k_965 : (Jvm.Cond.lays "java/lang/IllegalArgumentException" "java/lang/Throwable" "cause" "Ljava/lang/Throwable;") ∈ ma := ma_of (tb_5 _ (List.mem_of_getElem? (i := 5) rfl)) rfl
theorem k_967 : (Jvm.Cond.lays "java/lang/IllegalArgumentException" "java/lang/Throwable" "stackTrace" "[Ljava/lang/StackTraceElement;") ∈ ma := ma_of (tb_5 _ (List.mem_of_getElem? (i := 7) rfl)) rfl
theorem k_969 : (Jvm.Cond.lays "java/lang/IllegalArgumentException" "java/lang/Throwable" "suppressedExceptions" "Ljava/util/List;") ∈ ma := ma_of (tb_5 _ (List.mem_of_getElem? (i := 9) rfl)) rfl
theorem k_971 : (Jvm.Cond.lays "java/lang/IllegalArgumentException" "java/lang/Throwable" "detailMessage" "Ljava/lang/String;") ∈ ma := ma_of (tb_5 _ (List.mem_of_getElem? (i := 11) rfl)) rfl
theorem k_973 : (Jvm.Cond.lays "java/lang/IllegalArgumentException" "java/lang/Throwable" "backtrace" "Ljava/lang/Object;") ∈ ma := ma_of (tb_5 _ (List.mem_of_getElem? (i := 13) rfl)) rfl
theorem k_1727 : (Jvm.Cond.instanceMethod ({ cls := "java/lang/IllegalStateException", name := "<init>", desc := "()V" } : Jvm.MethodName)) ∈ ma := ma_of (tb_8 _ (List.mem_of_getElem? (i := 47) rfl)) rfl
theorem k_1728 : (Jvm.Cond.code ({ cls := "java/lang/IllegalStateException", name := "<init>", desc := "()V" } : Jvm.MethodName) prog_23_method_1_code (1 : Nat) (Option.none : Option Jvm.ClassFile.FieldType)) ∈ ma := ma_of (tb_8 _ (List.mem_of_getElem? (i := 48) rfl)) rfl
theorem k_1729 : (Jvm.Cond.methodLink "java/lang/IllegalStateException" (1 : Nat) ({ cls := "java/lang/RuntimeException", name := "<init>", desc := "()V" } : Jvm.MethodName)) ∈ ma := ma_of (tb_8 _ (List.mem_of_getElem? (i := 49) rfl)) rfl
theorem k_1718 : (Jvm.Cond.instantiable "java/lang/IllegalStateException" (6 : Nat)) ∈ ma := ma_of (tb_8 _ (List.mem_of_getElem? (i := 38) rfl)) rfl
theorem k_1720 : (Jvm.Cond.selects "java/lang/IllegalStateException" ({ cls := "java/lang/Throwable", name := "fillInStackTrace", desc := "(I)Ljava/lang/Throwable;" } : Jvm.MethodName) ({ cls := "java/lang/Throwable", name := "fillInStackTrace", desc := "(I)Ljava/lang/Throwable;" } : Jvm.MethodName)) ∈ ma := ma_of (tb_8 _ (List.mem_of_getElem? (i := 40) rfl)) rfl
theorem k_989 : (Jvm.Cond.selects "java/lang/IllegalStateException" ({ cls := "java/lang/Throwable", name := "fillInStackTrace", desc := "()Ljava/lang/Throwable;" } : Jvm.MethodName) ({ cls := "java/lang/Throwable", name := "fillInStackTrace", desc := "()Ljava/lang/Throwable;" } : Jvm.MethodName)) ∈ ma := ma_of (tb_5 _ (List.mem_of_getElem? (i := 29) rfl)) rfl
theorem k_1721 : (Jvm.Cond.lays "java/lang/IllegalStateException" "java/lang/Throwable" "cause" "Ljava/lang/Throwable;") ∈ ma := ma_of (tb_8 _ (List.mem_of_getElem? (i := 41) rfl)) rfl
theorem k_1722 : (Jvm.Cond.lays "java/lang/IllegalStateException" "java/lang/Throwable" "stackTrace" "[Ljava/lang/StackTraceElement;") ∈ ma := ma_of (tb_8 _ (List.mem_of_getElem? (i := 42) rfl)) rfl
theorem k_1723 : (Jvm.Cond.lays "java/lang/IllegalStateException" "java/lang/Throwable" "suppressedExceptions" "Ljava/util/List;") ∈ ma := ma_of (tb_8 _ (List.mem_of_getElem? (i := 43) rfl)) rfl
theorem k_1724 : (Jvm.Cond.lays "java/lang/IllegalStateException" "java/lang/Throwable" "detailMessage" "Ljava/lang/String;") ∈ ma := ma_of (tb_8 _ (List.mem_of_getElem? (i := 44) rfl)) rfl
theorem k_1725 : (Jvm.Cond.lays "java/lang/IllegalStateException" "java/lang/Throwable" "backtrace" "Ljava/lang/Object;") ∈ ma := ma_of (tb_8 _ (List.mem_of_getElem? (i := 45) rfl)) rfl
theorem k_1761 : (Jvm.Cond.instanceMethod ({ cls := "java/util/NoSuchElementException", name := "<init>", desc := "()V" } : Jvm.MethodName)) ∈ ma := ma_of (tb_8 _ (List.mem_of_getElem? (i := 81) rfl)) rfl
theorem k_1762 : (Jvm.Cond.code ({ cls := "java/util/NoSuchElementException", name := "<init>", desc := "()V" } : Jvm.MethodName) prog_36_method_1_code (1 : Nat) (Option.none : Option Jvm.ClassFile.FieldType)) ∈ ma := ma_of (tb_8 _ (List.mem_of_getElem? (i := 82) rfl)) rfl
theorem k_1763 : (Jvm.Cond.methodLink "java/util/NoSuchElementException" (1 : Nat) ({ cls := "java/lang/RuntimeException", name := "<init>", desc := "()V" } : Jvm.MethodName)) ∈ ma := ma_of (tb_8 _ (List.mem_of_getElem? (i := 83) rfl)) rfl
theorem k_1752 : (Jvm.Cond.instantiable "java/util/NoSuchElementException" (6 : Nat)) ∈ ma := ma_of (tb_8 _ (List.mem_of_getElem? (i := 72) rfl)) rfl
theorem k_1754 : (Jvm.Cond.selects "java/util/NoSuchElementException" ({ cls := "java/lang/Throwable", name := "fillInStackTrace", desc := "(I)Ljava/lang/Throwable;" } : Jvm.MethodName) ({ cls := "java/lang/Throwable", name := "fillInStackTrace", desc := "(I)Ljava/lang/Throwable;" } : Jvm.MethodName)) ∈ ma := ma_of (tb_8 _ (List.mem_of_getElem? (i := 74) rfl)) rfl
theorem k_991 : (Jvm.Cond.selects "java/util/NoSuchElementException" ({ cls := "java/lang/Throwable", name := "fillInStackTrace", desc := "()Ljava/lang/Throwable;" } : Jvm.MethodName) ({ cls := "java/lang/Throwable", name := "fillInStackTrace", desc := "()Ljava/lang/Throwable;" } : Jvm.MethodName)) ∈ ma := ma_of (tb_5 _ (List.mem_of_getElem? (i := 31) rfl)) rfl
theorem k_1755 : (Jvm.Cond.lays "java/util/NoSuchElementException" "java/lang/Throwable" "cause" "Ljava/lang/Throwable;") ∈ ma := ma_of (tb_8 _ (List.mem_of_getElem? (i := 75) rfl)) rfl
theorem k_1756 : (Jvm.Cond.lays "java/util/NoSuchElementException" "java/lang/Throwable" "stackTrace" "[Ljava/lang/StackTraceElement;") ∈ ma := ma_of (tb_8 _ (List.mem_of_getElem? (i := 76) rfl)) rfl
theorem k_1757 : (Jvm.Cond.lays "java/util/NoSuchElementException" "java/lang/Throwable" "suppressedExceptions" "Ljava/util/List;") ∈ ma := ma_of (tb_8 _ (List.mem_of_getElem? (i := 77) rfl)) rfl
theorem k_1758 : (Jvm.Cond.lays "java/util/NoSuchElementException" "java/lang/Throwable" "detailMessage" "Ljava/lang/String;") ∈ ma := ma_of (tb_8 _ (List.mem_of_getElem? (i := 78) rfl)) rfl
theorem k_1759 : (Jvm.Cond.lays "java/util/NoSuchElementException" "java/lang/Throwable" "backtrace" "Ljava/lang/Object;") ∈ ma := ma_of (tb_8 _ (List.mem_of_getElem? (i := 79) rfl)) rfl
theorem mt_c {args : Array Value} {s : State} {w : Cond} {B : List Cond} (h : w.before args s = true) (t : ∀ w ∈ B, w.before args s = true) : ∀ w' ∈ w :: B, w'.before args s = true := List.forall_mem_cons.mpr ⟨h, t⟩
theorem mt_n {args : Array Value} {s : State} : ∀ w ∈ ([] : List Cond), w.before args s = true := fun _ h => nomatch h
theorem mt_a {args : Array Value} {s : State} {A B : List Cond} (h : ∀ w ∈ A, w.before args s = true) (t : ∀ w ∈ B, w.before args s = true) : ∀ w ∈ A ++ B, w.before args s = true := List.forall_mem_append.mpr ⟨h, t⟩
/-- a method with code that is no static one is declared -/
theorem mt_decl {args : Array Value} {s : State} {y : MethodName} {b : ByteArray} {n : Nat} {r : Option FieldType} (h : (Cond.instanceMethod y).before args s = true) (hc : (Cond.code y b n r).before args s = true) : (Cond.declares y).before args s = true := by
  obtain ⟨m, meth, h1, h2, h3, -⟩ := Cond.instanceMethod_spec h
  obtain ⟨meth', c, h4, -, -, -, -, -, -, h5⟩ := Cond.code_spec h1 hc
  cases h2.symm.trans h4
  show (Cond.declares y).holds args s none s [] = true
  simp only [Cond.holds, Cond.value, h1, h2, h3, h5, Option.bind_some, Option.map_some, Bool.not_false, decide_true, Bool.and_self, Option.getD_some]
  rfl
theorem mt_cast {args : Array Value} {s : State} {X : String} {n : Nat} (h : (Cond.instantiable X n).before args s = true) : (Cond.castable X X).before args s = true := by
  obtain ⟨c, k, h1, -⟩ := Cond.instantiable_spec h
  show (Cond.castable X X).holds args s none s [] = true
  simp only [Cond.holds, Cond.value, h1, Vm.assignable_self, Option.getD_some]
  rfl
theorem mt_words {args : Array Value} {s : State} {own X : String} {ic : Nat} (hma : ∀ w ∈ ma, w.before args s = true)
    (x1 : (Cond.instanceMethod (Jvm.Bundle.init0 X)).before args s = true) (x2 : (Cond.code (Jvm.Bundle.init0 X) Jvm.Bundle.five 1 none).before args s = true) (x3 : (Cond.methodLink X 1 ({ cls := "java/lang/RuntimeException", name := "<init>", desc := "()V" } : Jvm.MethodName)).before args s = true) (x4 : (Cond.methodLink own ic (Jvm.Bundle.init0 X)).before args s = true) (x5 : (Cond.instantiable X 6).before args s = true)
    (x6 : (Cond.selects X ({ cls := "java/lang/Throwable", name := "fillInStackTrace", desc := "(I)Ljava/lang/Throwable;" } : Jvm.MethodName) ({ cls := "java/lang/Throwable", name := "fillInStackTrace", desc := "(I)Ljava/lang/Throwable;" } : Jvm.MethodName)).before args s = true) (x7 : (Cond.selects X ({ cls := "java/lang/Throwable", name := "fillInStackTrace", desc := "()Ljava/lang/Throwable;" } : Jvm.MethodName) ({ cls := "java/lang/Throwable", name := "fillInStackTrace", desc := "()Ljava/lang/Throwable;" } : Jvm.MethodName)).before args s = true) (x8 : (Cond.lays X "java/lang/Throwable" "cause" "Ljava/lang/Throwable;").before args s = true) (x9 : (Cond.lays X "java/lang/Throwable" "stackTrace" "[Ljava/lang/StackTraceElement;").before args s = true) (x10 : (Cond.lays X "java/lang/Throwable" "suppressedExceptions" "Ljava/util/List;").before args s = true) (x11 : (Cond.lays X "java/lang/Throwable" "detailMessage" "Ljava/lang/String;").before args s = true) (x12 : (Cond.lays X "java/lang/Throwable" "backtrace" "Ljava/lang/Object;").before args s = true)
    (hU : (Cond.isRef (.static "java/lang/Throwable" "UNASSIGNED_STACK" "[Ljava/lang/StackTraceElement;")).before args s = true) (hN : (Cond.isRef (.static "java/lang/Throwable" "SUPPRESSED_SENTINEL" "Ljava/util/List;")).before args s = true) (lU : (Cond.laysStatic "java/lang/Throwable" "UNASSIGNED_STACK" "[Ljava/lang/StackTraceElement;").before args s = true) (lN : (Cond.laysStatic "java/lang/Throwable" "SUPPRESSED_SENTINEL" "Ljava/util/List;").before args s = true) :
    ∀ w ∈ Jvm.Bundle.ownAtoms0 own ic X ["java/lang/RuntimeException", "java/lang/Exception"], w.before args s = true :=
  mt_a (mt_a (mt_c (hma _ k_14) (mt_c (hma _ k_976) (mt_c (hma _ k_985) (mt_c (hma _ k_992) (mt_c (hma _ k_995) (mt_c (hma _ k_997) (mt_c (hma _ k_977) (mt_c (hma _ k_978) (mt_c (hma _ k_43) (mt_c (hma _ k_44) (mt_c (hma _ k_979) (mt_c (hma _ k_984) (mt_c (hma _ k_993) (mt_c (hma _ k_1193) (mt_c (hma _ k_966) (mt_c (hma _ k_1194) (mt_c (hma _ k_968) (mt_c (hma _ k_1195) (mt_c (hma _ k_970) (mt_c (hma _ k_980) (mt_c lU (mt_c (hma _ k_982) (mt_c lN (mt_c (hma _ k_972) mt_n)))))))))))))))))))))))) (mt_a (mt_c x1 (mt_c x2 (mt_c x3 (mt_c (hma _ k_1684) (mt_c (mt_decl (hma _ k_1684) (hma _ k_1685)) mt_n))))) (mt_a (mt_c (hma _ k_1684) (mt_c (hma _ k_1685) (mt_c (hma _ k_1686) (mt_c (hma _ k_1687) (mt_c (mt_decl (hma _ k_1687) (hma _ k_1688)) mt_n))))) (mt_c (hma _ k_1687) (mt_c (hma _ k_1688) (mt_c (hma _ k_1689) (mt_c (hma _ k_977) (mt_c (mt_decl (hma _ k_977) (hma _ k_978)) mt_n)))))))) (mt_c x4 (mt_c x5 (mt_c (mt_cast x5) (mt_c x6 (mt_c x7 (mt_c x8 (mt_c x9 (mt_c x10 (mt_c x11 (mt_c hU (mt_c hN (mt_c (hma _ k_975) (mt_c (hma _ k_974) (mt_c x12 mt_n))))))))))))))
theorem mt_w_iob {args : Array Value} {s : State} {own : String} {ic : Nat} (hma : ∀ w ∈ ma, w.before args s = true) (x4 : (Cond.methodLink own ic ({ cls := "java/lang/IndexOutOfBoundsException", name := "<init>", desc := "()V" } : Jvm.MethodName)).before args s = true)
    (hU : (Cond.isRef (.static "java/lang/Throwable" "UNASSIGNED_STACK" "[Ljava/lang/StackTraceElement;")).before args s = true) (hN : (Cond.isRef (.static "java/lang/Throwable" "SUPPRESSED_SENTINEL" "Ljava/util/List;")).before args s = true) (lU : (Cond.laysStatic "java/lang/Throwable" "UNASSIGNED_STACK" "[Ljava/lang/StackTraceElement;").before args s = true) (lN : (Cond.laysStatic "java/lang/Throwable" "SUPPRESSED_SENTINEL" "Ljava/util/List;").before args s = true) :
    ∀ w ∈ Jvm.Bundle.ownAtoms0 own ic "java/lang/IndexOutOfBoundsException" ["java/lang/RuntimeException", "java/lang/Exception"], w.before args s = true :=
  mt_words hma (hma _ k_1681) (hma _ k_1682) (hma _ k_1683) x4 (hma _ k_1672) (hma _ k_1674) (hma _ k_990) (hma _ k_1675) (hma _ k_1676) (hma _ k_1677) (hma _ k_1678) (hma _ k_1679) hU hN lU lN
theorem mt_w_iae {args : Array Value} {s : State} {own : String} {ic : Nat} (hma : ∀ w ∈ ma, w.before args s = true) (x4 : (Cond.methodLink own ic ({ cls := "java/lang/IllegalArgumentException", name := "<init>", desc := "()V" } : Jvm.MethodName)).before args s = true)
    (hU : (Cond.isRef (.static "java/lang/Throwable" "UNASSIGNED_STACK" "[Ljava/lang/StackTraceElement;")).before args s = true) (hN : (Cond.isRef (.static "java/lang/Throwable" "SUPPRESSED_SENTINEL" "Ljava/util/List;")).before args s = true) (lU : (Cond.laysStatic "java/lang/Throwable" "UNASSIGNED_STACK" "[Ljava/lang/StackTraceElement;").before args s = true) (lN : (Cond.laysStatic "java/lang/Throwable" "SUPPRESSED_SENTINEL" "Ljava/util/List;").before args s = true) :
    ∀ w ∈ Jvm.Bundle.ownAtoms0 own ic "java/lang/IllegalArgumentException" ["java/lang/RuntimeException", "java/lang/Exception"], w.before args s = true :=
  mt_words hma (hma _ k_1706) (hma _ k_1707) (hma _ k_1708) x4 (hma _ k_955) (hma _ k_963) (hma _ k_964) (hma _ k_965) (hma _ k_967) (hma _ k_969) (hma _ k_971) (hma _ k_973) hU hN lU lN
theorem mt_w_ise {args : Array Value} {s : State} {own : String} {ic : Nat} (hma : ∀ w ∈ ma, w.before args s = true) (x4 : (Cond.methodLink own ic ({ cls := "java/lang/IllegalStateException", name := "<init>", desc := "()V" } : Jvm.MethodName)).before args s = true)
    (hU : (Cond.isRef (.static "java/lang/Throwable" "UNASSIGNED_STACK" "[Ljava/lang/StackTraceElement;")).before args s = true) (hN : (Cond.isRef (.static "java/lang/Throwable" "SUPPRESSED_SENTINEL" "Ljava/util/List;")).before args s = true) (lU : (Cond.laysStatic "java/lang/Throwable" "UNASSIGNED_STACK" "[Ljava/lang/StackTraceElement;").before args s = true) (lN : (Cond.laysStatic "java/lang/Throwable" "SUPPRESSED_SENTINEL" "Ljava/util/List;").before args s = true) :
    ∀ w ∈ Jvm.Bundle.ownAtoms0 own ic "java/lang/IllegalStateException" ["java/lang/RuntimeException", "java/lang/Exception"], w.before args s = true :=
  mt_words hma (hma _ k_1727) (hma _ k_1728) (hma _ k_1729) x4 (hma _ k_1718) (hma _ k_1720) (hma _ k_989) (hma _ k_1721) (hma _ k_1722) (hma _ k_1723) (hma _ k_1724) (hma _ k_1725) hU hN lU lN
theorem mt_w_nse {args : Array Value} {s : State} {own : String} {ic : Nat} (hma : ∀ w ∈ ma, w.before args s = true) (x4 : (Cond.methodLink own ic ({ cls := "java/util/NoSuchElementException", name := "<init>", desc := "()V" } : Jvm.MethodName)).before args s = true)
    (hU : (Cond.isRef (.static "java/lang/Throwable" "UNASSIGNED_STACK" "[Ljava/lang/StackTraceElement;")).before args s = true) (hN : (Cond.isRef (.static "java/lang/Throwable" "SUPPRESSED_SENTINEL" "Ljava/util/List;")).before args s = true) (lU : (Cond.laysStatic "java/lang/Throwable" "UNASSIGNED_STACK" "[Ljava/lang/StackTraceElement;").before args s = true) (lN : (Cond.laysStatic "java/lang/Throwable" "SUPPRESSED_SENTINEL" "Ljava/util/List;").before args s = true) :
    ∀ w ∈ Jvm.Bundle.ownAtoms0 own ic "java/util/NoSuchElementException" ["java/lang/RuntimeException", "java/lang/Exception"], w.before args s = true :=
  mt_words hma (hma _ k_1761) (hma _ k_1762) (hma _ k_1763) x4 (hma _ k_1752) (hma _ k_1754) (hma _ k_991) (hma _ k_1755) (hma _ k_1756) (hma _ k_1757) (hma _ k_1758) (hma _ k_1759) hU hN lU lN
/-- a static field of a reference type, where it lies and that it holds one -/
def mt_Z (C n d : String) (A : Nat → Prop) (U : State) (H : Heap) : Prop := va_Zq C n d A U H ∧ ∃ (c : ClassId) (k : Class) (i : Nat) (f : Field) (a : Nat) (cell : Cell), U.vm.findClass C = some c ∧ U.fieldFound? C n d = some (c, k, i, f) ∧ f.isStatic = true ∧ k.statics = some a ∧ H[a]? = some cell ∧ cell.vm.isStatics = true ∧ cell.cls = c ∧ f.slot < cell.slots.size ∧ k.staticTypes[f.slot]? = some f.type ∧ ¬ A a
theorem mt_Z.moved {C n d : String} {A : Nat → Prop} {u U : State} {H : Heap} (hvm : u.vm.Alike U.vm) (h : mt_Z C n d A u H) : mt_Z C n d A U H := by
  obtain ⟨h0, c, k, i, f, a, cell, h1, h2, h3, h4, h5, h6, h7, h8, h9, h10⟩ := h
  obtain ⟨k', q1, q2⟩ := State.fieldFound?_setVm hvm h2
  exact ⟨h0.moved hvm, c, k', i, f, a, cell, by rw [hvm.findClass]; exact h1, q1, h3, q2 ▸ h4, h5, h6, h7, h8, q2 ▸ h9, h10⟩
theorem mt_Z.kept {C n d : String} {A : Nat → Prop} {U : State} {H H1 : Heap} (h : mt_Z C n d A U H) (hq : ∀ a : Nat, a < H.size → ¬ A a → H1[a]? = H[a]?) : mt_Z C n d A U H1 := by
  obtain ⟨h0, c, k, i, f, a, cell, h1, h2, h3, h4, h5, h6, h7, h8, h9, h10⟩ := h
  exact ⟨h0.kept hq, c, k, i, f, a, cell, h1, h2, h3, h4, (hq a (Array.getElem?_eq_some_iff.mp h5).1 h10).trans h5, h6, h7, h8, h9, h10⟩
theorem mt_Z.less {C n d : String} {A B : Nat → Prop} {U : State} {H : Heap} (h : mt_Z C n d A U H) (hAB : ∀ q, B q → A q) : mt_Z C n d B U H := by
  obtain ⟨h0, c, k, i, f, a, cell, h1, h2, h3, h4, h5, h6, h7, h8, h9, h10⟩ := h
  exact ⟨h0.narrow hAB, c, k, i, f, a, cell, h1, h2, h3, h4, h5, h6, h7, h8, h9, fun z => h10 (hAB _ z)⟩
theorem mt_Z.lies {C n d : String} {A : Nat → Prop} {s : State} {args : Array Value} (h : mt_Z C n d A s s.heap) : (Cond.laysStatic C n d).before args s = true := by
  obtain ⟨-, c, k, i, f, a, cell, h1, h2, h3, h4, h5, h6, h7, h8, h9, -⟩ := h
  show (Cond.laysStatic C n d).holds args s none s [] = true
  exact Cond.laysStatic_of h1 h2 h3 h4 h5 h6 h7 h8 h9
theorem mt_Z.ref {C n d : String} {A : Nat → Prop} {s : State} {args : Array Value} (h : mt_Z C n d A s s.heap) : (Cond.isRef (.static C n d)).before args s = true := by
  have key : ∀ v : Value, v.isRef = true → va_Z C n d v A s s.heap → (Cond.isRef (.static C n d)).before args s = true := by
    rintro v hv ⟨cf, kf, fi, f, a, cell, h1, h2, -, h4, h5, h6, h7, -⟩
    have he : (Term.static C n d).eval args s none [] s = some v := by
      simp [Term.eval, State.fieldNamed?, h1, h2, h4, h5, h6, h7]
    show (Cond.isRef (.static C n d)).holds args s none s [] = true
    simp only [Cond.holds, Cond.value, he]
    cases v <;> first | rfl | (simp [Value.isRef] at hv) | simp_all [Value.isRef]
  rcases h.1 with h | ⟨t, h⟩
  · exact key _ rfl h
  · exact key _ rfl h
def mt_K : mv_T := fun A U H => mt_Z "java/lang/Throwable" "UNASSIGNED_STACK" "[Ljava/lang/StackTraceElement;" A U H ∧ mt_Z "java/lang/Throwable" "SUPPRESSED_SENTINEL" "Ljava/util/List;" A U H
/-- what is no kind of IllegalArgumentException -/
def mt_N (U : State) : Prop := ∀ X, (X = "java/util/NoSuchElementException" ∨ X = "java/lang/IllegalStateException") → ∀ cX cY, U.vm.findClass X = some cX → U.vm.findClass "java/lang/IllegalArgumentException" = some cY → U.vm.assignable cX cY = false
theorem mt_N.moved {u U : State} (hvm : u.vm.Alike U.vm) (h : mt_N u) : mt_N U := fun X hX cX cY h1 h2 => by
  rw [hvm.findClass] at h1 h2
  rw [hvm.assignable]
  exact h X hX cX cY h1 h2
/-- what is known outside, and Throwable's statics -/
def mKt (sk sv : Nat → Nat) : mv_T := fun A U H => mK sk sv A U H ∧ mt_K A U H ∧ mt_N U
theorem mKt_ok (sk sv : Nat → Nat) : mv_Tok (mKt sk sv) := by
  have h := mK_ok sk sv
  refine ⟨fun A u U H w k => ⟨h.1 A u U H w k.1, ⟨k.2.1.1.moved w.alike, k.2.1.2.moved w.alike⟩, k.2.2.moved w.alike⟩, fun A U H H1 k q => ⟨h.2.1 A U H H1 k.1 q, ⟨k.2.1.1.kept q, k.2.1.2.kept q⟩, k.2.2⟩, fun A A' U H k q => ⟨h.2.2 A A' U H k.1 q, ⟨k.2.1.1.less q, k.2.1.2.less q⟩, k.2.2⟩⟩
/-- the frame, seen from here: its heap now is where it began -/
theorem mt_anchor {p : Program} {l : Launch} {e : Env} {R R' : Room} {s T : State} {m : MethodId} {args : Array Value} {below : List Frame} {meth : Method} {c : Code} {locs : List Loc} {cells slots : Nat} (X : Stand p l e R s m args below meth c T locs cells slots)
    (hf : R'.frames ≤ R.frames) (hl : R'.locals ≤ R.locals) (hc : cells + R'.cells ≤ R.cells) (hs : slots + R'.slots ≤ R.slots) :
    ∃ s' : State, s'.vm = s.vm ∧ s'.heap = T.heap ∧ Stand p l e R' s' m args below meth c T [] 0 0 ∧ ∀ (U : State) (k n : Nat), s'.sameButNew ({ U with vm := s'.vm } : State) [] k n → s.sameButNew ({ U with vm := s.vm } : State) locs (cells + k) (slots + n) := by
  have htop : (T.setVm s.vm).topJava?.isSome := X.here.top
  obtain ⟨g, hg⟩ := Option.isSome_iff_exists.mp htop
  obtain ⟨r, hr⟩ := State.topJava?_eq_some.mp hg
  obtain ⟨t, ht, -⟩ := State.frames_cons hr
  have hF : ((T.setVm s.vm).setFrames (.invoking m args :: below)).frames = .invoking m args :: below := State.frames_setFrames _ (State.cur_lt_of_top htop)
  have hnil : ((T.heap.toList.drop T.heap.size).map (·.slots.size)).sum = 0 := by
    rw [List.drop_eq_nil_of_le (Nat.le_of_eq Array.length_toList)]
    rfl
  refine ⟨(T.setVm s.vm).setFrames (.invoking m args :: below), rfl, rfl, ⟨X.admits, X.cas, X.clock, hF, ?_, X.hears, X.method, X.code, X.here, X.tail, X.warmed, ?_, ?_, ?_⟩, ?_⟩
  · have h := X.room
    have z1 := X.heapSize
    have z2 := X.used
    have hu : ((T.setVm s.vm).setFrames (.invoking m args :: below)).localsInUse = s.localsInUse := by
      rw [State.localsInUse_invoking hF (meth := meth) (c := c) X.method X.code, State.localsInUse_invoking X.frames X.method X.code]
    have hli : e.platform.stackLimits ((T.setVm s.vm).setFrames (.invoking m args :: below)).me = e.platform.stackLimits s.me := by
      rw [State.stackLimits_setFrames]; exact X.limits
    have hby : ((T.setVm s.vm).setFrames (.invoking m args :: below)).me.stackBytes = s.me.stackBytes := by
      rw [State.stackBytes_setFrames]; exact X.bytes
    simp only [State.hasRoom, Bool.and_eq_true, decide_eq_true_eq] at h ⊢
    obtain ⟨⟨⟨⟨h1, h2, h3, h4, h5, h6⟩, h7⟩, h8⟩, -⟩ := h
    rw [X.frames, List.length_cons] at h2 h3
    rw [hu, hli, hby, hF, List.length_cons]
    exact ⟨⟨⟨⟨by omega, by omega, by omega, by omega, by omega, h6⟩, show T.heap.size + R'.cells ≤ _ by omega⟩, show T.slotsUsed + R'.slots ≤ _ by omega⟩, X.book⟩
  · rw [State.stackLimits_setFrames]; rfl
  · rw [State.stackBytes_setFrames]; rfl
  · refine ⟨?_, Nat.le_refl _, Nat.le_refl _, ?_, Nat.le_of_eq hnil, fun a d hd => ⟨d, hd, rfl, rfl, fun _ _ => rfl⟩⟩
    · show T.setVm s.vm = { ((T.setVm s.vm).setFrames (.invoking m args :: below)).setFrames (T.setVm s.vm).frames with heap := T.heap, slotsUsed := T.slotsUsed }
      rw [State.setFrames_setFrames, State.setFrames_self ht]
      rfl
    · show T.slotsUsed = T.slotsUsed + ((T.heap.toList.drop T.heap.size).map (·.slots.size)).sum
      rw [hnil]
      rfl
  · rintro U k n ⟨e1, e2⟩
    rw [State.setFrames_setFrames] at e1
    have h2 : (T.setVm s.vm).sameButNew ({ U with vm := s.vm } : State) [] k n := ⟨e1, e2⟩
    have h3 := X.same.trans h2
    rw [List.append_nil] at h3
    exact h3
theorem mt_old {s U : State} {k n : Nat} (h : s.sameButNew ({ U with vm := s.vm } : State) [] k n) : s.heap.size ≤ U.heap.size ∧ ∀ q : Nat, q < s.heap.size → U.heap[q]? = s.heap[q]? := by
  obtain ⟨-, h2, -, -, -, h6⟩ := h
  refine ⟨h2, fun q hq => ?_⟩
  obtain ⟨d, e1, e2, -, e4⟩ := h6 q _ (Array.getElem?_eq_getElem hq)
  have hs : d.slots = (s.heap[q]).slots := Array.ext_getElem? fun i => e4 i (fun z => nomatch z)
  rw [hs] at e2
  have e5 : U.heap[q]? = some d := e1
  rw [e5, e2, Array.getElem?_eq_getElem hq]
/-- the world does not feel new cells behind it -/
theorem mt_P {G : mv_G} {σ : mv_H} {H H1 : Heap} (h : va_P (mv_D G) (mv_cl G) (mv_wl G σ) H) (hq : ∀ q : Nat, q < H.size → H1[q]? = H[q]?) : va_P (mv_D G) (mv_cl G) (mv_wl G σ) H1 := h.kept (fun k q hk => hq q.1 (h k q hk).lt)
section MTT
variable {p : Program} {l : Launch} {e : Env} {R : Room} {s : State} {m : MethodId} {args : Array Value} {below : List Frame} {meth : Method} {c : Code} {G : mv_G} {ws : List Cond} {own : String} {cc : ByteArray} {nL : Nat} {cells slots : Nat} {σ : mv_H} {pc : Nat} {L : List (Nat × Value)} {st : List Value}
theorem mv_throw0 (B : mv_B p s m args meth c G ws own cc nL) (hl : l.stackTraces = false) (hZ : mt_K (mv_A G s.heap.size) s s.heap) {X : String} {ik ic mc ms : Nat} {Post : mv_O → mv_H → Prop} (hfit : Jvm.Bundle.fit X = true)
    (hk : (Cond.classLink own ik X).before args s = true) (hini : (Cond.initialized X).before args s = true) (hins : (Cond.instantiable X 6).before args s = true)
    (hgk : (Cond.classLink own ik X).onTables = true) 
    (hat : ∀ s' : State, s'.vm = s.vm → (Cond.isRef (.static "java/lang/Throwable" "UNASSIGNED_STACK" "[Ljava/lang/StackTraceElement;")).before args s' = true → (Cond.isRef (.static "java/lang/Throwable" "SUPPRESSED_SENTINEL" "Ljava/util/List;")).before args s' = true → (Cond.laysStatic "java/lang/Throwable" "UNASSIGNED_STACK" "[Ljava/lang/StackTraceElement;").before args s' = true → (Cond.laysStatic "java/lang/Throwable" "SUPPRESSED_SENTINEL" "Ljava/util/List;").before args s' = true → ∀ w ∈ Jvm.Bundle.ownAtoms0 own ic X ["java/lang/RuntimeException", "java/lang/Exception"], w.before args s' = true)
    (d0 : decode cc pc = .ok (.new ik, 3)) (d3 : decode cc (pc + 3) = .ok (.dup, 1)) (d4 : decode cc (pc + 4) = .ok (.invokespecial ic, 3)) (d7 : decode cc (pc + 7) = .ok (.athrow, 1))
    (hout : ∀ x ∈ c.exceptionTable.toList, covers x (pc + 7) = false) (hroom : 6 ≤ R.frames ∧ 81 ≤ R.locals) (hcell : cells + 1 ≤ R.cells ∧ slots + 6 ≤ R.slots) (hmc : cells + 1 ≤ mc ∧ slots + 6 ≤ ms) (hp : ∀ a : Nat, Post (.inr (X, a)) σ) :
    mv_V p l e R s m args below meth c G nL cells slots (mv_Q G below s mc ms Post) σ pc L [] := fun H locs ls h1 h2 h3 T hT Y => by
  have htr : e.platform.stackTraces = false := (show e.platform.stackTraces = l.stackTraces by rw [Y.admits.platform]).trans hl
  obtain ⟨s', hvm, hhp, Z, hback⟩ := mt_anchor Y (R' := { frames := R.frames, locals := R.locals, cells := 1, slots := 6 }) (Nat.le_refl _) (Nat.le_refl _) hcell.1 hcell.2
  have hHs : s'.heap = H := hhp.trans hT
  have hW0 : s.WarmedH s'.vm := by rw [hvm]; exact State.WarmedH.refl s
  have hK' : mt_K (mv_A G s.heap.size) s' s'.heap := by
    rw [hHs]
    exact ⟨(hZ.1.kept h2.2.1).moved hW0.alike, (hZ.2.kept h2.2.1).moved hW0.alike⟩
  have hA := hat s' hvm hK'.1.ref hK'.2.ref hK'.1.lies hK'.2.lies
  have hk' : (Cond.classLink own ik X).before args s' = true := va_tabs hgk hvm.symm hk
  have hini' : (Cond.initialized X).before args s' = true := va_tabs rfl hvm.symm hini
  have hins' : (Cond.instantiable X 6).before args s' = true := va_tabs rfl hvm.symm hins
  have hown' : s'.vm.findClass own = some m.cls := by rw [hvm]; exact B.2.2.1
  obtain ⟨vm₁, cX, kX, hfX, hkX, -, -, X₁, st1⟩ := Z.newCold B.1.1 (own := own) (C := X) (index := ik) (n := 6) hown' hk' hins' hini' (g := F0 m pc ls []) rfl (by rw [B.1.2]; exact d0) (Nat.le_refl _) (Nat.le_refl _)
  generalize hT1 : (T.setVm vm₁).pushCell { cls := cX, slots := kX.instanceTypes.map defaultValue, vm := .none } = T1 at X₁ st1
  have hcellA : T1.heap[T.heap.size]? = some (Jvm.freshCell cX kX) := by rw [← hT1]; exact State.heap_pushCell_size _ _
  have d3' : decode c.code (pc + 3) = .ok (.dup, 1) := by rw [B.1.2]; exact d3
  have hsz : ls.size = c.maxLocals := by rw [B.2.1]; exact h3.1
  obtain ⟨U, hsteps, hrun, hend, hW, hsame, ce, hce, hO⟩ := X₁.ctorThrow0 B.1.1 htr (own := own) (cls := X) (names := ["java/lang/RuntimeException", "java/lang/Exception"]) (ic := ic) hown' hfit (by decide +kernel) hA (fun x hx => nomatch hx) hfX hkX hcellA (by rw [hhp]; exact Nat.le_refl _)
    (g := { method := m, pc := pc + 4, locals := ls, stack := [.ref T.heap.size, .ref T.heap.size], locked := none }) rfl hsz rfl rfl (rest := []) rfl
    (by rw [B.1.2]; exact d4) (by rw [B.1.2]; exact d7) hout (by show 2 + 3 < R.frames; omega) (by show 0 + 1 + (13 * (2 + 1) + 41) ≤ R.locals; omega) B.2.2.2.2.2.2
  obtain ⟨f1, f2⟩ := mt_old hsame
  rw [hHs] at f1 f2
  have hWs : s.WarmedH U.vm := State.WarmedH.trans hW0 hW
  have hcl : U.vm.findClass X = some ce.cls := by
    have h9 := hO.cls
    rw [hvm] at h9
    rw [hWs.alike.findClass]; exact h9
  have hvn : ce.vm = .none := hO.vm
  refine ⟨U, ?_, .threw T.heap.size, hrun, hend, .inr (X, T.heap.size), σ, ⟨rfl, ce, hce, by rw [hvn]; rfl, hvn ▸ (fun z => nomatch z), hcl⟩, hp _, mt_P h1 f2, ⟨Nat.le_trans h2.1 f1, fun q g1 g2 => (f2 q (Nat.lt_of_lt_of_le g1 h2.1)).trans (h2.2.1 q g1 g2)⟩, hWs, locs, (hback U _ _ hsame).mono hmc.1 hmc.2, h2.2.2⟩
  refine st1 _ ?_
  show Steps p.tables e below (T1.setTop { method := m, pc := pc + 3, locals := ls, stack := [.ref T.heap.size], locked := none }) _
  jvm_step X₁.here [X₁.here.top, B.1.1, d3', Value.category]
  exact hsteps
end MTT
