/-! words -/
def ALL : List Cond := lw_tbl.filter goodWord
theorem in_ALL {w : Cond} (i : Nat) (h : lw_tbl[i]? = some w) (g : goodWord w = true) : w ∈ ALL := List.mem_filter.mpr ⟨List.mem_of_getElem? h, g⟩
theorem ALL_tbl : ∀ w ∈ ALL, w ∈ lw_tbl := fun w h => (List.mem_filter.mp h).1
theorem gW {w : Cond} (h : w ∈ ALL) : w ∈ ALL ∧ ((w.onTables && w.keeps) = true ∨ ∃ ty, w = .arrayClass ty) := ⟨h, good_of_word (List.mem_filter.mp h).2⟩
theorem gA {w : Cond} (h : w ∈ ALL) : GoodIn ALL (w :: ALL) := fun x hx => (List.mem_cons.mp hx).elim (fun e => by rw [e]; exact gW h) gW
theorem gV {own C : String} {idx : Nat} {y : MethodName} {w : Cond} (h1 : Cond.methodLink own idx y ∈ ALL) (h2 : Cond.instanceMethod y ∈ ALL) (h3 : Cond.selects C y y ∈ ALL) (h4 : Cond.initialized C ∈ ALL) (h5 : w ∈ ALL) : GoodIn ALL (wsV own idx C y (w :: ALL)) := by
  intro x hx
  simp only [wsV, List.cons_append, List.nil_append, List.mem_cons] at hx
  rcases hx with e | e | e | e | e | e
  · rw [e]; exact gW h1
  · rw [e]; exact gW h2
  · rw [e]; exact gW h3
  · rw [e]; exact gW h4
  · rw [e]; exact gW h5
  · exact gW e
theorem gS {own : String} {idx : Nat} {y : MethodName} {w : Cond} (h1 : Cond.methodLink own idx y ∈ ALL) (h2 : Cond.static y ∈ ALL) (h4 : Cond.initialized y.cls ∈ ALL) (h5 : w ∈ ALL) : GoodIn ALL (va_wsS own idx y (w :: ALL)) := by
  intro x hx
  simp only [va_wsS, List.cons_append, List.nil_append, List.mem_cons] at hx
  rcases hx with e | e | e | e | e
  · rw [e]; exact gW h1
  · rw [e]; exact gW h2
  · rw [e]; exact gW h4
  · rw [e]; exact gW h5
  · exact gW e
set_option maxRecDepth 100000 in
theorem w_0 : (Jvm.Cond.initialized "ReplenLaw") ∈ ALL := in_ALL 16 rfl rfl
set_option maxRecDepth 100000 in
theorem w_1 : (Jvm.Cond.initialized "Replen") ∈ ALL := in_ALL 17 rfl rfl
set_option maxRecDepth 100000 in
theorem w_2 : (Jvm.Cond.initialized "Replen$DayBook") ∈ ALL := in_ALL 18 rfl rfl
set_option maxRecDepth 100000 in
theorem w_3 : (Jvm.Cond.initialized "Replen$Learner") ∈ ALL := in_ALL 19 rfl rfl
set_option maxRecDepth 100000 in
theorem w_4 : (Jvm.Cond.initialized "Replen$Sharing") ∈ ALL := in_ALL 20 rfl rfl
set_option maxRecDepth 100000 in
theorem w_5 : (Jvm.Cond.initialized "java/lang/Throwable") ∈ ALL := in_ALL 21 rfl rfl
set_option maxRecDepth 100000 in
theorem w_6 : (Jvm.Cond.initialized "java/lang/Exception") ∈ ALL := in_ALL 22 rfl rfl
set_option maxRecDepth 100000 in
theorem w_7 : (Jvm.Cond.initialized "java/lang/RuntimeException") ∈ ALL := in_ALL 23 rfl rfl
set_option maxRecDepth 100000 in
theorem w_8 : (Jvm.Cond.initialized "java/lang/IllegalArgumentException") ∈ ALL := in_ALL 24 rfl rfl
set_option maxRecDepth 100000 in
theorem w_9 : (Jvm.Cond.initialized "java/lang/IllegalStateException") ∈ ALL := in_ALL 25 rfl rfl
set_option maxRecDepth 100000 in
theorem w_10 : (Jvm.Cond.initialized "Replen$Item") ∈ ALL := in_ALL 26 rfl rfl
set_option maxRecDepth 100000 in
theorem w_11 : (Jvm.Cond.initialized "java/lang/IndexOutOfBoundsException") ∈ ALL := in_ALL 27 rfl rfl
set_option maxRecDepth 100000 in
theorem w_12 : (Jvm.Cond.initialized "java/util/NoSuchElementException") ∈ ALL := in_ALL 28 rfl rfl
set_option maxRecDepth 100000 in
theorem w_13 : (Jvm.Cond.initialized "Replen$Line") ∈ ALL := in_ALL 29 rfl rfl
set_option maxRecDepth 100000 in
theorem w_14 : (Jvm.Cond.initialized "java/lang/UnsupportedOperationException") ∈ ALL := in_ALL 30 rfl rfl
set_option maxRecDepth 100000 in
theorem w_15 : (Jvm.Cond.initialized "java/lang/Math") ∈ ALL := in_ALL 31 rfl rfl
set_option maxRecDepth 100000 in
theorem w_16 : (Jvm.Cond.classLink "ReplenLaw" (15 : Nat) "Replen") ∈ ALL := in_ALL 32 rfl rfl
set_option maxRecDepth 100000 in
theorem w_17 : (Jvm.Cond.instantiable "Replen" (14 : Nat)) ∈ ALL := in_ALL 33 rfl rfl
set_option maxRecDepth 100000 in
theorem w_18 : (Jvm.Cond.methodLink "ReplenLaw" (119 : Nat) ({ cls := "Replen", name := "<init>", desc := "()V" } : Jvm.MethodName)) ∈ ALL := in_ALL 34 rfl rfl
set_option maxRecDepth 100000 in
theorem w_19 : (Jvm.Cond.instanceMethod ({ cls := "Replen", name := "<init>", desc := "()V" } : Jvm.MethodName)) ∈ ALL := in_ALL 35 rfl rfl
set_option maxRecDepth 100000 in
theorem w_20 : (Jvm.Cond.code ({ cls := "Replen", name := "<init>", desc := "()V" } : Jvm.MethodName) prog_1_method_1_code (1 : Nat) (Option.none : Option Jvm.ClassFile.FieldType)) ∈ ALL := in_ALL 36 rfl rfl
set_option maxRecDepth 100000 in
theorem w_21 : (Jvm.Cond.methodLink "Replen" (3 : Nat) ({ cls := "java/lang/Object", name := "<init>", desc := "()V" } : Jvm.MethodName)) ∈ ALL := in_ALL 37 rfl rfl
set_option maxRecDepth 100000 in
theorem w_22 : (Jvm.Cond.instanceMethod ({ cls := "java/lang/Object", name := "<init>", desc := "()V" } : Jvm.MethodName)) ∈ ALL := in_ALL 38 rfl rfl
set_option maxRecDepth 100000 in
theorem w_23 : (Jvm.Cond.code ({ cls := "java/lang/Object", name := "<init>", desc := "()V" } : Jvm.MethodName) object_method_1_code (1 : Nat) (Option.none : Option Jvm.ClassFile.FieldType)) ∈ ALL := in_ALL 39 rfl rfl
set_option maxRecDepth 100000 in
theorem w_24 : (Jvm.Cond.classLink "Replen" (13 : Nat) "Replen$Item") ∈ ALL := in_ALL 40 rfl rfl
set_option maxRecDepth 100000 in
theorem w_26 : (Jvm.Cond.classLink "Replen" (19 : Nat) "Replen$Line") ∈ ALL := in_ALL 42 rfl rfl
set_option maxRecDepth 100000 in
theorem w_28 : (Jvm.Cond.classLink "Replen" (25 : Nat) "Replen$DayBook") ∈ ALL := in_ALL 44 rfl rfl
set_option maxRecDepth 100000 in
theorem w_29 : (Jvm.Cond.instantiable "Replen$DayBook" (1 : Nat)) ∈ ALL := in_ALL 45 rfl rfl
set_option maxRecDepth 100000 in
theorem w_31 : (Jvm.Cond.instanceMethod ({ cls := "Replen$DayBook", name := "<init>", desc := "()V" } : Jvm.MethodName)) ∈ ALL := in_ALL 47 rfl rfl
set_option maxRecDepth 100000 in
theorem w_32 : (Jvm.Cond.code ({ cls := "Replen$DayBook", name := "<init>", desc := "()V" } : Jvm.MethodName) prog_2_method_1_code (1 : Nat) (Option.none : Option Jvm.ClassFile.FieldType)) ∈ ALL := in_ALL 48 rfl rfl
set_option maxRecDepth 100000 in
theorem w_33 : (Jvm.Cond.methodLink "Replen$DayBook" (3 : Nat) ({ cls := "java/lang/Object", name := "<init>", desc := "()V" } : Jvm.MethodName)) ∈ ALL := in_ALL 49 rfl rfl
set_option maxRecDepth 100000 in
theorem w_34 : (Jvm.Cond.fieldLink "Replen$DayBook" (9 : Nat) "Replen$DayBook" "units" "[I") ∈ ALL := in_ALL 50 rfl rfl
set_option maxRecDepth 100000 in
theorem w_35 : (Jvm.Cond.laysFinal "Replen$DayBook" "Replen$DayBook" "units" "[I") ∈ ALL := in_ALL 51 rfl rfl
set_option maxRecDepth 100000 in
theorem w_38 : (Jvm.Cond.arrayClass Jvm.ClassFile.FieldType.int) ∈ ALL := in_ALL 54 rfl rfl
set_option maxRecDepth 100000 in
theorem w_39 : (Jvm.Cond.classLink "Replen" (35 : Nat) "Replen$Learner") ∈ ALL := in_ALL 55 rfl rfl
set_option maxRecDepth 100000 in
theorem w_40 : (Jvm.Cond.instantiable "Replen$Learner" (2 : Nat)) ∈ ALL := in_ALL 56 rfl rfl
set_option maxRecDepth 100000 in
theorem w_42 : (Jvm.Cond.instanceMethod ({ cls := "Replen$Learner", name := "<init>", desc := "()V" } : Jvm.MethodName)) ∈ ALL := in_ALL 58 rfl rfl
set_option maxRecDepth 100000 in
theorem w_43 : (Jvm.Cond.code ({ cls := "Replen$Learner", name := "<init>", desc := "()V" } : Jvm.MethodName) prog_4_method_1_code (1 : Nat) (Option.none : Option Jvm.ClassFile.FieldType)) ∈ ALL := in_ALL 59 rfl rfl
set_option maxRecDepth 100000 in
theorem w_44 : (Jvm.Cond.methodLink "Replen$Learner" (3 : Nat) ({ cls := "java/lang/Object", name := "<init>", desc := "()V" } : Jvm.MethodName)) ∈ ALL := in_ALL 60 rfl rfl
set_option maxRecDepth 100000 in
theorem w_45 : (Jvm.Cond.fieldLink "Replen$Learner" (9 : Nat) "Replen$Learner" "seasons" "[I") ∈ ALL := in_ALL 61 rfl rfl
set_option maxRecDepth 100000 in
theorem w_46 : (Jvm.Cond.fieldLink "Replen$Learner" (15 : Nat) "Replen$Learner" "level" "I") ∈ ALL := in_ALL 62 rfl rfl
set_option maxRecDepth 100000 in
theorem w_48 : (Jvm.Cond.laysFinal "Replen$Learner" "Replen$Learner" "seasons" "[I") ∈ ALL := in_ALL 64 rfl rfl
set_option maxRecDepth 100000 in
theorem w_50 : (Jvm.Cond.lays "Replen$Learner" "Replen$Learner" "level" "I") ∈ ALL := in_ALL 66 rfl rfl
set_option maxRecDepth 100000 in
theorem w_53 : (Jvm.Cond.classLink "Replen" (42 : Nat) "Replen$Sharing") ∈ ALL := in_ALL 69 rfl rfl
set_option maxRecDepth 100000 in
theorem w_54 : (Jvm.Cond.instantiable "Replen$Sharing" (3 : Nat)) ∈ ALL := in_ALL 70 rfl rfl
set_option maxRecDepth 100000 in
theorem w_56 : (Jvm.Cond.instanceMethod ({ cls := "Replen$Sharing", name := "<init>", desc := "()V" } : Jvm.MethodName)) ∈ ALL := in_ALL 72 rfl rfl
set_option maxRecDepth 100000 in
theorem w_57 : (Jvm.Cond.code ({ cls := "Replen$Sharing", name := "<init>", desc := "()V" } : Jvm.MethodName) prog_6_method_1_code (1 : Nat) (Option.none : Option Jvm.ClassFile.FieldType)) ∈ ALL := in_ALL 73 rfl rfl
set_option maxRecDepth 100000 in
theorem w_58 : (Jvm.Cond.methodLink "Replen$Sharing" (3 : Nat) ({ cls := "java/lang/Object", name := "<init>", desc := "()V" } : Jvm.MethodName)) ∈ ALL := in_ALL 74 rfl rfl
set_option maxRecDepth 100000 in
theorem w_59 : (Jvm.Cond.fieldLink "Replen$Sharing" (9 : Nat) "Replen$Sharing" "requests" "[I") ∈ ALL := in_ALL 75 rfl rfl
set_option maxRecDepth 100000 in
theorem w_60 : (Jvm.Cond.fieldLink "Replen$Sharing" (15 : Nat) "Replen$Sharing" "given" "[I") ∈ ALL := in_ALL 76 rfl rfl
set_option maxRecDepth 100000 in
theorem w_61 : (Jvm.Cond.fieldLink "Replen$Sharing" (18 : Nat) "Replen$Sharing" "packs" "I") ∈ ALL := in_ALL 77 rfl rfl
set_option maxRecDepth 100000 in
theorem w_62 : (Jvm.Cond.laysFinal "Replen$Sharing" "Replen$Sharing" "requests" "[I") ∈ ALL := in_ALL 78 rfl rfl
set_option maxRecDepth 100000 in
theorem w_64 : (Jvm.Cond.laysFinal "Replen$Sharing" "Replen$Sharing" "given" "[I") ∈ ALL := in_ALL 80 rfl rfl
set_option maxRecDepth 100000 in
theorem w_66 : (Jvm.Cond.lays "Replen$Sharing" "Replen$Sharing" "packs" "I") ∈ ALL := in_ALL 82 rfl rfl
set_option maxRecDepth 100000 in
theorem w_69 : (Jvm.Cond.fieldLink "Replen" (9 : Nat) "Replen" "leads" "[I") ∈ ALL := in_ALL 85 rfl rfl
set_option maxRecDepth 100000 in
theorem w_70 : (Jvm.Cond.fieldLink "Replen" (15 : Nat) "Replen" "items" "[LReplen$Item;") ∈ ALL := in_ALL 86 rfl rfl
set_option maxRecDepth 100000 in
theorem w_71 : (Jvm.Cond.fieldLink "Replen" (21 : Nat) "Replen" "lines" "[LReplen$Line;") ∈ ALL := in_ALL 87 rfl rfl
set_option maxRecDepth 100000 in
theorem w_72 : (Jvm.Cond.fieldLink "Replen" (28 : Nat) "Replen" "levelRates" "LReplen$DayBook;") ∈ ALL := in_ALL 88 rfl rfl
set_option maxRecDepth 100000 in
theorem w_73 : (Jvm.Cond.fieldLink "Replen" (32 : Nat) "Replen" "seasonRates" "LReplen$DayBook;") ∈ ALL := in_ALL 89 rfl rfl
set_option maxRecDepth 100000 in
theorem w_74 : (Jvm.Cond.fieldLink "Replen" (38 : Nat) "Replen" "replay" "LReplen$Learner;") ∈ ALL := in_ALL 90 rfl rfl
set_option maxRecDepth 100000 in
theorem w_75 : (Jvm.Cond.fieldLink "Replen" (45 : Nat) "Replen" "sharing" "LReplen$Sharing;") ∈ ALL := in_ALL 91 rfl rfl
set_option maxRecDepth 100000 in
theorem w_76 : (Jvm.Cond.fieldLink "Replen" (49 : Nat) "Replen" "shopCount" "I") ∈ ALL := in_ALL 92 rfl rfl
set_option maxRecDepth 100000 in
theorem w_77 : (Jvm.Cond.fieldLink "Replen" (53 : Nat) "Replen" "itemCount" "I") ∈ ALL := in_ALL 93 rfl rfl
set_option maxRecDepth 100000 in
theorem w_78 : (Jvm.Cond.fieldLink "Replen" (56 : Nat) "Replen" "lineCount" "I") ∈ ALL := in_ALL 94 rfl rfl
set_option maxRecDepth 100000 in
theorem w_79 : (Jvm.Cond.fieldLink "Replen" (59 : Nat) "Replen" "day" "I") ∈ ALL := in_ALL 95 rfl rfl
set_option maxRecDepth 100000 in
theorem w_80 : (Jvm.Cond.fieldLink "Replen" (62 : Nat) "Replen" "percent" "I") ∈ ALL := in_ALL 96 rfl rfl
set_option maxRecDepth 100000 in
theorem w_81 : (Jvm.Cond.fieldLink "Replen" (65 : Nat) "Replen" "levelRate" "I") ∈ ALL := in_ALL 97 rfl rfl
set_option maxRecDepth 100000 in
theorem w_82 : (Jvm.Cond.fieldLink "Replen" (68 : Nat) "Replen" "seasonRate" "I") ∈ ALL := in_ALL 98 rfl rfl
set_option maxRecDepth 100000 in
theorem w_83 : (Jvm.Cond.laysFinal "Replen" "Replen" "leads" "[I") ∈ ALL := in_ALL 99 rfl rfl
set_option maxRecDepth 100000 in
theorem w_85 : (Jvm.Cond.laysFinal "Replen" "Replen" "items" "[LReplen$Item;") ∈ ALL := in_ALL 101 rfl rfl
set_option maxRecDepth 100000 in
theorem w_87 : (Jvm.Cond.laysFinal "Replen" "Replen" "lines" "[LReplen$Line;") ∈ ALL := in_ALL 103 rfl rfl
set_option maxRecDepth 100000 in
theorem w_89 : (Jvm.Cond.laysFinal "Replen" "Replen" "levelRates" "LReplen$DayBook;") ∈ ALL := in_ALL 105 rfl rfl
set_option maxRecDepth 100000 in
theorem w_91 : (Jvm.Cond.laysFinal "Replen" "Replen" "seasonRates" "LReplen$DayBook;") ∈ ALL := in_ALL 107 rfl rfl
set_option maxRecDepth 100000 in
theorem w_93 : (Jvm.Cond.laysFinal "Replen" "Replen" "replay" "LReplen$Learner;") ∈ ALL := in_ALL 109 rfl rfl
set_option maxRecDepth 100000 in
theorem w_95 : (Jvm.Cond.laysFinal "Replen" "Replen" "sharing" "LReplen$Sharing;") ∈ ALL := in_ALL 111 rfl rfl
set_option maxRecDepth 100000 in
theorem w_97 : (Jvm.Cond.lays "Replen" "Replen" "shopCount" "I") ∈ ALL := in_ALL 113 rfl rfl
set_option maxRecDepth 100000 in
theorem w_99 : (Jvm.Cond.lays "Replen" "Replen" "itemCount" "I") ∈ ALL := in_ALL 115 rfl rfl
set_option maxRecDepth 100000 in
theorem w_101 : (Jvm.Cond.lays "Replen" "Replen" "lineCount" "I") ∈ ALL := in_ALL 117 rfl rfl
set_option maxRecDepth 100000 in
theorem w_103 : (Jvm.Cond.lays "Replen" "Replen" "day" "I") ∈ ALL := in_ALL 119 rfl rfl
set_option maxRecDepth 100000 in
theorem w_105 : (Jvm.Cond.lays "Replen" "Replen" "percent" "I") ∈ ALL := in_ALL 121 rfl rfl
set_option maxRecDepth 100000 in
theorem w_107 : (Jvm.Cond.lays "Replen" "Replen" "levelRate" "I") ∈ ALL := in_ALL 123 rfl rfl
set_option maxRecDepth 100000 in
theorem w_109 : (Jvm.Cond.lays "Replen" "Replen" "seasonRate" "I") ∈ ALL := in_ALL 125 rfl rfl
set_option maxRecDepth 100000 in
theorem w_112 : (Jvm.Cond.methodLink "ReplenLaw" (154 : Nat) ({ cls := "Replen", name := "today", desc := "()I" } : Jvm.MethodName)) ∈ ALL := in_ALL 128 rfl rfl
set_option maxRecDepth 100000 in
theorem w_113 : (Jvm.Cond.instanceMethod ({ cls := "Replen", name := "today", desc := "()I" } : Jvm.MethodName)) ∈ ALL := in_ALL 129 rfl rfl
set_option maxRecDepth 100000 in
theorem w_114 : (Jvm.Cond.selects "Replen" ({ cls := "Replen", name := "today", desc := "()I" } : Jvm.MethodName) ({ cls := "Replen", name := "today", desc := "()I" } : Jvm.MethodName)) ∈ ALL := in_ALL 130 rfl rfl
set_option maxRecDepth 100000 in
theorem w_115 : (Jvm.Cond.code ({ cls := "Replen", name := "today", desc := "()I" } : Jvm.MethodName) prog_1_method_13_code (1 : Nat) (Option.some Jvm.ClassFile.FieldType.int)) ∈ ALL := in_ALL 131 rfl rfl
set_option maxRecDepth 100000 in
theorem w_116 : (Jvm.Cond.methodLink "ReplenLaw" (179 : Nat) ({ cls := "Replen", name := "units", desc := "()J" } : Jvm.MethodName)) ∈ ALL := in_ALL 132 rfl rfl
set_option maxRecDepth 100000 in
theorem w_117 : (Jvm.Cond.instanceMethod ({ cls := "Replen", name := "units", desc := "()J" } : Jvm.MethodName)) ∈ ALL := in_ALL 133 rfl rfl
set_option maxRecDepth 100000 in
theorem w_118 : (Jvm.Cond.selects "Replen" ({ cls := "Replen", name := "units", desc := "()J" } : Jvm.MethodName) ({ cls := "Replen", name := "units", desc := "()J" } : Jvm.MethodName)) ∈ ALL := in_ALL 134 rfl rfl
set_option maxRecDepth 100000 in
theorem w_119 : (Jvm.Cond.code ({ cls := "Replen", name := "units", desc := "()J" } : Jvm.MethodName) prog_1_method_33_code (5 : Nat) (Option.some Jvm.ClassFile.FieldType.long)) ∈ ALL := in_ALL 135 rfl rfl
set_option maxRecDepth 100000 in
theorem w_120 : (Jvm.Cond.methodLink "Replen" (227 : Nat) ({ cls := "Replen$Line", name := "dueAfter", desc := "(I)I" } : Jvm.MethodName)) ∈ ALL := in_ALL 136 rfl rfl
set_option maxRecDepth 100000 in
theorem w_121 : (Jvm.Cond.instanceMethod ({ cls := "Replen$Line", name := "dueAfter", desc := "(I)I" } : Jvm.MethodName)) ∈ ALL := in_ALL 137 rfl rfl
set_option maxRecDepth 100000 in
theorem w_122 : (Jvm.Cond.selects "Replen$Line" ({ cls := "Replen$Line", name := "dueAfter", desc := "(I)I" } : Jvm.MethodName) ({ cls := "Replen$Line", name := "dueAfter", desc := "(I)I" } : Jvm.MethodName)) ∈ ALL := in_ALL 138 rfl rfl
set_option maxRecDepth 100000 in
theorem w_123 : (Jvm.Cond.code ({ cls := "Replen$Line", name := "dueAfter", desc := "(I)I" } : Jvm.MethodName) prog_5_method_6_code (4 : Nat) (Option.some Jvm.ClassFile.FieldType.int)) ∈ ALL := in_ALL 139 rfl rfl
set_option maxRecDepth 100000 in
theorem w_124 : (Jvm.Cond.methodLink "Replen$Line" (78 : Nat) ({ cls := "Replen$DayBook", name := "on", desc := "(I)I" } : Jvm.MethodName)) ∈ ALL := in_ALL 140 rfl rfl
set_option maxRecDepth 100000 in
theorem w_125 : (Jvm.Cond.instanceMethod ({ cls := "Replen$DayBook", name := "on", desc := "(I)I" } : Jvm.MethodName)) ∈ ALL := in_ALL 141 rfl rfl
set_option maxRecDepth 100000 in
theorem w_126 : (Jvm.Cond.selects "Replen$DayBook" ({ cls := "Replen$DayBook", name := "on", desc := "(I)I" } : Jvm.MethodName) ({ cls := "Replen$DayBook", name := "on", desc := "(I)I" } : Jvm.MethodName)) ∈ ALL := in_ALL 142 rfl rfl
set_option maxRecDepth 100000 in
theorem w_127 : (Jvm.Cond.code ({ cls := "Replen$DayBook", name := "on", desc := "(I)I" } : Jvm.MethodName) prog_2_method_2_code (2 : Nat) (Option.some Jvm.ClassFile.FieldType.int)) ∈ ALL := in_ALL 143 rfl rfl
set_option maxRecDepth 100000 in
theorem w_128 : (Jvm.Cond.methodLink "ReplenLaw" (120 : Nat) ({ cls := "ReplenLaw", name := "pick", desc := "([III)I" } : Jvm.MethodName)) ∈ ALL := in_ALL 144 rfl rfl
set_option maxRecDepth 100000 in
theorem w_129 : (Jvm.Cond.static ({ cls := "ReplenLaw", name := "pick", desc := "([III)I" } : Jvm.MethodName)) ∈ ALL := in_ALL 145 rfl rfl
set_option maxRecDepth 100000 in
theorem w_130 : (Jvm.Cond.code ({ cls := "ReplenLaw", name := "pick", desc := "([III)I" } : Jvm.MethodName) method_3_code (3 : Nat) (Option.some Jvm.ClassFile.FieldType.int)) ∈ ALL := in_ALL 146 rfl rfl
set_option maxRecDepth 100000 in
theorem w_131 : (Jvm.Cond.methodLink "ReplenLaw" (8 : Nat) ({ cls := "ReplenLaw", name := "cell", desc := "([II)I" } : Jvm.MethodName)) ∈ ALL := in_ALL 147 rfl rfl
set_option maxRecDepth 100000 in
theorem w_132 : (Jvm.Cond.static ({ cls := "ReplenLaw", name := "cell", desc := "([II)I" } : Jvm.MethodName)) ∈ ALL := in_ALL 148 rfl rfl
set_option maxRecDepth 100000 in
theorem w_133 : (Jvm.Cond.code ({ cls := "ReplenLaw", name := "cell", desc := "([II)I" } : Jvm.MethodName) method_2_code (2 : Nat) (Option.some Jvm.ClassFile.FieldType.int)) ∈ ALL := in_ALL 149 rfl rfl
set_option maxRecDepth 100000 in
theorem w_134 : (Jvm.Cond.constant "ReplenLaw" (7 : Nat) (40503 : Int32)) ∈ ALL := in_ALL 150 rfl rfl
set_option maxRecDepth 100000 in
theorem w_135 : (Jvm.Cond.methodLink "ReplenLaw" (124 : Nat) ({ cls := "ReplenLaw", name := "addShop", desc := "(LReplen;I)I" } : Jvm.MethodName)) ∈ ALL := in_ALL 151 rfl rfl
set_option maxRecDepth 100000 in
theorem w_136 : (Jvm.Cond.static ({ cls := "ReplenLaw", name := "addShop", desc := "(LReplen;I)I" } : Jvm.MethodName)) ∈ ALL := in_ALL 152 rfl rfl
set_option maxRecDepth 100000 in
theorem w_137 : (Jvm.Cond.codeWith ({ cls := "ReplenLaw", name := "addShop", desc := "(LReplen;I)I" } : Jvm.MethodName) method_4_code (3 : Nat) (Option.some Jvm.ClassFile.FieldType.int) [((0 : Nat), (5 : Nat), (6 : Nat), (20 : Nat)), ((0 : Nat), (5 : Nat), (10 : Nat), (22 : Nat))]) ∈ ALL := in_ALL 153 rfl rfl
set_option maxRecDepth 100000 in
theorem w_138 : (Jvm.Cond.classLink "ReplenLaw" (20 : Nat) "java/lang/IllegalArgumentException") ∈ ALL := in_ALL 154 rfl rfl
set_option maxRecDepth 100000 in
theorem w_139 : (Jvm.Cond.classLink "ReplenLaw" (22 : Nat) "java/lang/IllegalStateException") ∈ ALL := in_ALL 155 rfl rfl
set_option maxRecDepth 100000 in
theorem w_140 : (Jvm.Cond.methodLink "ReplenLaw" (14 : Nat) ({ cls := "Replen", name := "addShop", desc := "(I)I" } : Jvm.MethodName)) ∈ ALL := in_ALL 156 rfl rfl
set_option maxRecDepth 100000 in
theorem w_141 : (Jvm.Cond.instanceMethod ({ cls := "Replen", name := "addShop", desc := "(I)I" } : Jvm.MethodName)) ∈ ALL := in_ALL 157 rfl rfl
set_option maxRecDepth 100000 in
theorem w_142 : (Jvm.Cond.selects "Replen" ({ cls := "Replen", name := "addShop", desc := "(I)I" } : Jvm.MethodName) ({ cls := "Replen", name := "addShop", desc := "(I)I" } : Jvm.MethodName)) ∈ ALL := in_ALL 158 rfl rfl
set_option maxRecDepth 100000 in
theorem w_143 : (Jvm.Cond.code ({ cls := "Replen", name := "addShop", desc := "(I)I" } : Jvm.MethodName) prog_1_method_2_code (2 : Nat) (Option.some Jvm.ClassFile.FieldType.int)) ∈ ALL := in_ALL 159 rfl rfl
set_option maxRecDepth 100000 in
theorem w_144 : (Jvm.Cond.classLink "Replen" (71 : Nat) "java/lang/IllegalArgumentException") ∈ ALL := in_ALL 160 rfl rfl
set_option maxRecDepth 100000 in
theorem w_145 : (Jvm.Cond.instantiable "java/lang/IllegalArgumentException" (6 : Nat)) ∈ ALL := in_ALL 161 rfl rfl
set_option maxRecDepth 100000 in
theorem w_153 : (Jvm.Cond.selects "java/lang/IllegalArgumentException" ({ cls := "java/lang/Throwable", name := "fillInStackTrace", desc := "(I)Ljava/lang/Throwable;" } : Jvm.MethodName) ({ cls := "java/lang/Throwable", name := "fillInStackTrace", desc := "(I)Ljava/lang/Throwable;" } : Jvm.MethodName)) ∈ ALL := in_ALL 169 rfl rfl
set_option maxRecDepth 100000 in
theorem w_154 : (Jvm.Cond.selects "java/lang/IllegalArgumentException" ({ cls := "java/lang/Throwable", name := "fillInStackTrace", desc := "()Ljava/lang/Throwable;" } : Jvm.MethodName) ({ cls := "java/lang/Throwable", name := "fillInStackTrace", desc := "()Ljava/lang/Throwable;" } : Jvm.MethodName)) ∈ ALL := in_ALL 170 rfl rfl
set_option maxRecDepth 100000 in
theorem w_165 : (Jvm.Cond.fieldLink "java/lang/Throwable" (198 : Nat) "java/lang/Throwable" "backtrace" "Ljava/lang/Object;") ∈ ALL := in_ALL 181 rfl rfl
set_option maxRecDepth 100000 in
theorem w_167 : (Jvm.Cond.instanceMethod ({ cls := "java/lang/Throwable", name := "<init>", desc := "()V" } : Jvm.MethodName)) ∈ ALL := in_ALL 183 rfl rfl
set_option maxRecDepth 100000 in
theorem w_168 : (Jvm.Cond.code ({ cls := "java/lang/Throwable", name := "<init>", desc := "()V" } : Jvm.MethodName) prog_17_method_1_code (1 : Nat) (Option.none : Option Jvm.ClassFile.FieldType)) ∈ ALL := in_ALL 184 rfl rfl
set_option maxRecDepth 100000 in
theorem w_169 : (Jvm.Cond.methodLink "java/lang/Throwable" (1 : Nat) ({ cls := "java/lang/Object", name := "<init>", desc := "()V" } : Jvm.MethodName)) ∈ ALL := in_ALL 185 rfl rfl
set_option maxRecDepth 100000 in
theorem w_170 : (Jvm.Cond.fieldLink "java/lang/Throwable" (13 : Nat) "java/lang/Throwable" "UNASSIGNED_STACK" "[Ljava/lang/StackTraceElement;") ∈ ALL := in_ALL 186 rfl rfl
set_option maxRecDepth 100000 in
theorem w_172 : (Jvm.Cond.fieldLink "java/lang/Throwable" (20 : Nat) "java/lang/Throwable" "SUPPRESSED_SENTINEL" "Ljava/util/List;") ∈ ALL := in_ALL 188 rfl rfl
set_option maxRecDepth 100000 in
theorem w_174 : (Jvm.Cond.methodLink "java/lang/Throwable" (27 : Nat) ({ cls := "java/lang/Throwable", name := "fillInStackTrace", desc := "()Ljava/lang/Throwable;" } : Jvm.MethodName)) ∈ ALL := in_ALL 190 rfl rfl
set_option maxRecDepth 100000 in
theorem w_175 : (Jvm.Cond.instanceMethod ({ cls := "java/lang/Throwable", name := "fillInStackTrace", desc := "()Ljava/lang/Throwable;" } : Jvm.MethodName)) ∈ ALL := in_ALL 191 rfl rfl
set_option maxRecDepth 100000 in
theorem w_177 : (Jvm.Cond.selects "java/lang/IllegalStateException" ({ cls := "java/lang/Throwable", name := "fillInStackTrace", desc := "()Ljava/lang/Throwable;" } : Jvm.MethodName) ({ cls := "java/lang/Throwable", name := "fillInStackTrace", desc := "()Ljava/lang/Throwable;" } : Jvm.MethodName)) ∈ ALL := in_ALL 193 rfl rfl
set_option maxRecDepth 100000 in
theorem w_178 : (Jvm.Cond.selects "java/lang/IndexOutOfBoundsException" ({ cls := "java/lang/Throwable", name := "fillInStackTrace", desc := "()Ljava/lang/Throwable;" } : Jvm.MethodName) ({ cls := "java/lang/Throwable", name := "fillInStackTrace", desc := "()Ljava/lang/Throwable;" } : Jvm.MethodName)) ∈ ALL := in_ALL 194 rfl rfl
set_option maxRecDepth 100000 in
theorem w_179 : (Jvm.Cond.selects "java/lang/UnsupportedOperationException" ({ cls := "java/lang/Throwable", name := "fillInStackTrace", desc := "()Ljava/lang/Throwable;" } : Jvm.MethodName) ({ cls := "java/lang/Throwable", name := "fillInStackTrace", desc := "()Ljava/lang/Throwable;" } : Jvm.MethodName)) ∈ ALL := in_ALL 195 rfl rfl
set_option maxRecDepth 100000 in
theorem w_180 : (Jvm.Cond.selects "java/util/NoSuchElementException" ({ cls := "java/lang/Throwable", name := "fillInStackTrace", desc := "()Ljava/lang/Throwable;" } : Jvm.MethodName) ({ cls := "java/lang/Throwable", name := "fillInStackTrace", desc := "()Ljava/lang/Throwable;" } : Jvm.MethodName)) ∈ ALL := in_ALL 196 rfl rfl
set_option maxRecDepth 100000 in
theorem w_182 : (Jvm.Cond.methodLink "java/lang/Throwable" (202 : Nat) ({ cls := "java/lang/Throwable", name := "fillInStackTrace", desc := "(I)Ljava/lang/Throwable;" } : Jvm.MethodName)) ∈ ALL := in_ALL 198 rfl rfl
set_option maxRecDepth 100000 in
theorem w_184 : (Jvm.Cond.instanceMethod ({ cls := "java/lang/Throwable", name := "fillInStackTrace", desc := "(I)Ljava/lang/Throwable;" } : Jvm.MethodName)) ∈ ALL := in_ALL 200 rfl rfl
set_option maxRecDepth 100000 in
theorem w_185 : (Jvm.Cond.instantiable "java/lang/Throwable" (6 : Nat)) ∈ ALL := in_ALL 201 rfl rfl
set_option maxRecDepth 100000 in
theorem w_188 : (Jvm.Cond.methodLink "Replen" (75 : Nat) ({ cls := "java/lang/IllegalArgumentException", name := "<init>", desc := "(Ljava/lang/String;)V" } : Jvm.MethodName)) ∈ ALL := in_ALL 204 rfl rfl
set_option maxRecDepth 100000 in
theorem w_189 : (Jvm.Cond.instanceMethod ({ cls := "java/lang/IllegalArgumentException", name := "<init>", desc := "(Ljava/lang/String;)V" } : Jvm.MethodName)) ∈ ALL := in_ALL 205 rfl rfl
set_option maxRecDepth 100000 in
theorem w_190 : (Jvm.Cond.code ({ cls := "java/lang/IllegalArgumentException", name := "<init>", desc := "(Ljava/lang/String;)V" } : Jvm.MethodName) prog_11_method_2_code (2 : Nat) (Option.none : Option Jvm.ClassFile.FieldType)) ∈ ALL := in_ALL 206 rfl rfl
set_option maxRecDepth 100000 in
theorem w_191 : (Jvm.Cond.methodLink "java/lang/IllegalArgumentException" (7 : Nat) ({ cls := "java/lang/RuntimeException", name := "<init>", desc := "(Ljava/lang/String;)V" } : Jvm.MethodName)) ∈ ALL := in_ALL 207 rfl rfl
set_option maxRecDepth 100000 in
theorem w_192 : (Jvm.Cond.instanceMethod ({ cls := "java/lang/RuntimeException", name := "<init>", desc := "(Ljava/lang/String;)V" } : Jvm.MethodName)) ∈ ALL := in_ALL 208 rfl rfl
set_option maxRecDepth 100000 in
theorem w_193 : (Jvm.Cond.code ({ cls := "java/lang/RuntimeException", name := "<init>", desc := "(Ljava/lang/String;)V" } : Jvm.MethodName) prog_15_method_2_code (2 : Nat) (Option.none : Option Jvm.ClassFile.FieldType)) ∈ ALL := in_ALL 209 rfl rfl
set_option maxRecDepth 100000 in
theorem w_194 : (Jvm.Cond.methodLink "java/lang/RuntimeException" (7 : Nat) ({ cls := "java/lang/Exception", name := "<init>", desc := "(Ljava/lang/String;)V" } : Jvm.MethodName)) ∈ ALL := in_ALL 210 rfl rfl
set_option maxRecDepth 100000 in
theorem w_195 : (Jvm.Cond.instanceMethod ({ cls := "java/lang/Exception", name := "<init>", desc := "(Ljava/lang/String;)V" } : Jvm.MethodName)) ∈ ALL := in_ALL 211 rfl rfl
set_option maxRecDepth 100000 in
theorem w_196 : (Jvm.Cond.code ({ cls := "java/lang/Exception", name := "<init>", desc := "(Ljava/lang/String;)V" } : Jvm.MethodName) prog_10_method_2_code (2 : Nat) (Option.none : Option Jvm.ClassFile.FieldType)) ∈ ALL := in_ALL 212 rfl rfl
set_option maxRecDepth 100000 in
theorem w_197 : (Jvm.Cond.methodLink "java/lang/Exception" (7 : Nat) ({ cls := "java/lang/Throwable", name := "<init>", desc := "(Ljava/lang/String;)V" } : Jvm.MethodName)) ∈ ALL := in_ALL 213 rfl rfl
set_option maxRecDepth 100000 in
theorem w_198 : (Jvm.Cond.instanceMethod ({ cls := "java/lang/Throwable", name := "<init>", desc := "(Ljava/lang/String;)V" } : Jvm.MethodName)) ∈ ALL := in_ALL 214 rfl rfl
set_option maxRecDepth 100000 in
theorem w_199 : (Jvm.Cond.code ({ cls := "java/lang/Throwable", name := "<init>", desc := "(Ljava/lang/String;)V" } : Jvm.MethodName) prog_17_method_2_code (2 : Nat) (Option.none : Option Jvm.ClassFile.FieldType)) ∈ ALL := in_ALL 215 rfl rfl
set_option maxRecDepth 100000 in
theorem w_200 : (Jvm.Cond.fieldLink "java/lang/Throwable" (198 : Nat) "java/lang/Throwable" "backtrace" "Ljava/lang/Object;") ∈ ALL := in_ALL 216 rfl rfl
set_option maxRecDepth 100000 in
theorem w_201 : (Jvm.Cond.fieldLink "java/lang/Throwable" (31 : Nat) "java/lang/Throwable" "detailMessage" "Ljava/lang/String;") ∈ ALL := in_ALL 217 rfl rfl
set_option maxRecDepth 100000 in
theorem w_202 : (Jvm.Cond.fieldLink "java/lang/Throwable" (7 : Nat) "java/lang/Throwable" "cause" "Ljava/lang/Throwable;") ∈ ALL := in_ALL 218 rfl rfl
set_option maxRecDepth 100000 in
theorem w_203 : (Jvm.Cond.fieldLink "java/lang/Throwable" (17 : Nat) "java/lang/Throwable" "stackTrace" "[Ljava/lang/StackTraceElement;") ∈ ALL := in_ALL 219 rfl rfl
set_option maxRecDepth 100000 in
theorem w_204 : (Jvm.Cond.fieldLink "java/lang/Throwable" (24 : Nat) "java/lang/Throwable" "suppressedExceptions" "Ljava/util/List;") ∈ ALL := in_ALL 220 rfl rfl
set_option maxRecDepth 100000 in
theorem w_213 : (Jvm.Cond.arrayClass Jvm.ClassFile.FieldType.byte) ∈ ALL := in_ALL 229 rfl rfl
set_option maxRecDepth 100000 in
theorem w_214 : (Jvm.Cond.classLink "Replen" (78 : Nat) "java/lang/IllegalStateException") ∈ ALL := in_ALL 230 rfl rfl
set_option maxRecDepth 100000 in
theorem w_215 : (Jvm.Cond.instantiable "java/lang/IllegalStateException" (6 : Nat)) ∈ ALL := in_ALL 231 rfl rfl
set_option maxRecDepth 100000 in
theorem w_217 : (Jvm.Cond.selects "java/lang/IllegalStateException" ({ cls := "java/lang/Throwable", name := "fillInStackTrace", desc := "(I)Ljava/lang/Throwable;" } : Jvm.MethodName) ({ cls := "java/lang/Throwable", name := "fillInStackTrace", desc := "(I)Ljava/lang/Throwable;" } : Jvm.MethodName)) ∈ ALL := in_ALL 233 rfl rfl
set_option maxRecDepth 100000 in
theorem w_224 : (Jvm.Cond.methodLink "Replen" (82 : Nat) ({ cls := "java/lang/IllegalStateException", name := "<init>", desc := "(Ljava/lang/String;)V" } : Jvm.MethodName)) ∈ ALL := in_ALL 240 rfl rfl
set_option maxRecDepth 100000 in
theorem w_225 : (Jvm.Cond.instanceMethod ({ cls := "java/lang/IllegalStateException", name := "<init>", desc := "(Ljava/lang/String;)V" } : Jvm.MethodName)) ∈ ALL := in_ALL 241 rfl rfl
set_option maxRecDepth 100000 in
theorem w_226 : (Jvm.Cond.code ({ cls := "java/lang/IllegalStateException", name := "<init>", desc := "(Ljava/lang/String;)V" } : Jvm.MethodName) prog_12_method_2_code (2 : Nat) (Option.none : Option Jvm.ClassFile.FieldType)) ∈ ALL := in_ALL 242 rfl rfl
set_option maxRecDepth 100000 in
theorem w_227 : (Jvm.Cond.methodLink "java/lang/IllegalStateException" (7 : Nat) ({ cls := "java/lang/RuntimeException", name := "<init>", desc := "(Ljava/lang/String;)V" } : Jvm.MethodName)) ∈ ALL := in_ALL 243 rfl rfl
set_option maxRecDepth 100000 in
theorem w_230 : (Jvm.Cond.methodLink "ReplenLaw" (127 : Nat) ({ cls := "ReplenLaw", name := "addItem", desc := "(LReplen;II)I" } : Jvm.MethodName)) ∈ ALL := in_ALL 246 rfl rfl
set_option maxRecDepth 100000 in
theorem w_231 : (Jvm.Cond.static ({ cls := "ReplenLaw", name := "addItem", desc := "(LReplen;II)I" } : Jvm.MethodName)) ∈ ALL := in_ALL 247 rfl rfl
set_option maxRecDepth 100000 in
theorem w_232 : (Jvm.Cond.codeWith ({ cls := "ReplenLaw", name := "addItem", desc := "(LReplen;II)I" } : Jvm.MethodName) method_5_code (4 : Nat) (Option.some Jvm.ClassFile.FieldType.int) [((0 : Nat), (6 : Nat), (7 : Nat), (20 : Nat)), ((0 : Nat), (6 : Nat), (11 : Nat), (22 : Nat))]) ∈ ALL := in_ALL 248 rfl rfl
set_option maxRecDepth 100000 in
theorem w_233 : (Jvm.Cond.methodLink "ReplenLaw" (24 : Nat) ({ cls := "Replen", name := "addItem", desc := "(II)I" } : Jvm.MethodName)) ∈ ALL := in_ALL 249 rfl rfl
set_option maxRecDepth 100000 in
theorem w_234 : (Jvm.Cond.instanceMethod ({ cls := "Replen", name := "addItem", desc := "(II)I" } : Jvm.MethodName)) ∈ ALL := in_ALL 250 rfl rfl
set_option maxRecDepth 100000 in
theorem w_235 : (Jvm.Cond.selects "Replen" ({ cls := "Replen", name := "addItem", desc := "(II)I" } : Jvm.MethodName) ({ cls := "Replen", name := "addItem", desc := "(II)I" } : Jvm.MethodName)) ∈ ALL := in_ALL 251 rfl rfl
set_option maxRecDepth 100000 in
theorem w_236 : (Jvm.Cond.code ({ cls := "Replen", name := "addItem", desc := "(II)I" } : Jvm.MethodName) prog_1_method_3_code (3 : Nat) (Option.some Jvm.ClassFile.FieldType.int)) ∈ ALL := in_ALL 252 rfl rfl
set_option maxRecDepth 100000 in
theorem w_240 : (Jvm.Cond.instantiable "Replen$Item" (6 : Nat)) ∈ ALL := in_ALL 256 rfl rfl
set_option maxRecDepth 100000 in
theorem w_241 : (Jvm.Cond.methodLink "Replen" (89 : Nat) ({ cls := "Replen$Item", name := "<init>", desc := "(II)V" } : Jvm.MethodName)) ∈ ALL := in_ALL 257 rfl rfl
set_option maxRecDepth 100000 in
theorem w_242 : (Jvm.Cond.instanceMethod ({ cls := "Replen$Item", name := "<init>", desc := "(II)V" } : Jvm.MethodName)) ∈ ALL := in_ALL 258 rfl rfl
set_option maxRecDepth 100000 in
theorem w_243 : (Jvm.Cond.code ({ cls := "Replen$Item", name := "<init>", desc := "(II)V" } : Jvm.MethodName) prog_3_method_1_code (3 : Nat) (Option.none : Option Jvm.ClassFile.FieldType)) ∈ ALL := in_ALL 259 rfl rfl
set_option maxRecDepth 100000 in
theorem w_244 : (Jvm.Cond.methodLink "Replen$Item" (1 : Nat) ({ cls := "java/lang/Object", name := "<init>", desc := "()V" } : Jvm.MethodName)) ∈ ALL := in_ALL 260 rfl rfl
set_option maxRecDepth 100000 in
theorem w_245 : (Jvm.Cond.classLink "Replen$Item" (7 : Nat) "Replen$DayBook") ∈ ALL := in_ALL 261 rfl rfl
set_option maxRecDepth 100000 in
theorem w_247 : (Jvm.Cond.fieldLink "Replen$Item" (22 : Nat) "Replen$Item" "pack" "I") ∈ ALL := in_ALL 263 rfl rfl
set_option maxRecDepth 100000 in
theorem w_249 : (Jvm.Cond.fieldLink "Replen$Item" (26 : Nat) "Replen$Item" "firstStock" "I") ∈ ALL := in_ALL 265 rfl rfl
set_option maxRecDepth 100000 in
theorem w_250 : (Jvm.Cond.fieldLink "Replen$Item" (10 : Nat) "Replen$Item" "takenIn" "LReplen$DayBook;") ∈ ALL := in_ALL 266 rfl rfl
set_option maxRecDepth 100000 in
theorem w_251 : (Jvm.Cond.fieldLink "Replen$Item" (16 : Nat) "Replen$Item" "givenOut" "LReplen$DayBook;") ∈ ALL := in_ALL 267 rfl rfl
set_option maxRecDepth 100000 in
theorem w_252 : (Jvm.Cond.fieldLink "Replen$Item" (19 : Nat) "Replen$Item" "promotions" "LReplen$DayBook;") ∈ ALL := in_ALL 268 rfl rfl
set_option maxRecDepth 100000 in
theorem w_254 : (Jvm.Cond.fieldLink "Replen$Item" (29 : Nat) "Replen$Item" "stock" "I") ∈ ALL := in_ALL 270 rfl rfl
set_option maxRecDepth 100000 in
theorem w_256 : (Jvm.Cond.laysFinal "Replen$Item" "Replen$Item" "pack" "I") ∈ ALL := in_ALL 272 rfl rfl
set_option maxRecDepth 100000 in
theorem w_258 : (Jvm.Cond.laysFinal "Replen$Item" "Replen$Item" "firstStock" "I") ∈ ALL := in_ALL 274 rfl rfl
set_option maxRecDepth 100000 in
theorem w_260 : (Jvm.Cond.laysFinal "Replen$Item" "Replen$Item" "takenIn" "LReplen$DayBook;") ∈ ALL := in_ALL 276 rfl rfl
set_option maxRecDepth 100000 in
theorem w_262 : (Jvm.Cond.laysFinal "Replen$Item" "Replen$Item" "givenOut" "LReplen$DayBook;") ∈ ALL := in_ALL 278 rfl rfl
set_option maxRecDepth 100000 in
theorem w_264 : (Jvm.Cond.laysFinal "Replen$Item" "Replen$Item" "promotions" "LReplen$DayBook;") ∈ ALL := in_ALL 280 rfl rfl
set_option maxRecDepth 100000 in
theorem w_266 : (Jvm.Cond.lays "Replen$Item" "Replen$Item" "stock" "I") ∈ ALL := in_ALL 282 rfl rfl
set_option maxRecDepth 100000 in
theorem w_269 : (Jvm.Cond.methodLink "ReplenLaw" (134 : Nat) ({ cls := "ReplenLaw", name := "carry", desc := "(LReplen;IIII)I" } : Jvm.MethodName)) ∈ ALL := in_ALL 285 rfl rfl
set_option maxRecDepth 100000 in
theorem w_270 : (Jvm.Cond.static ({ cls := "ReplenLaw", name := "carry", desc := "(LReplen;IIII)I" } : Jvm.MethodName)) ∈ ALL := in_ALL 286 rfl rfl
set_option maxRecDepth 100000 in
theorem w_271 : (Jvm.Cond.codeWith ({ cls := "ReplenLaw", name := "carry", desc := "(LReplen;IIII)I" } : Jvm.MethodName) method_6_code (6 : Nat) (Option.some Jvm.ClassFile.FieldType.int) [((0 : Nat), (9 : Nat), (10 : Nat), (32 : Nat)), ((0 : Nat), (9 : Nat), (15 : Nat), (20 : Nat)), ((0 : Nat), (9 : Nat), (20 : Nat), (22 : Nat))]) ∈ ALL := in_ALL 287 rfl rfl
set_option maxRecDepth 100000 in
theorem w_272 : (Jvm.Cond.classLink "ReplenLaw" (32 : Nat) "java/lang/IndexOutOfBoundsException") ∈ ALL := in_ALL 288 rfl rfl
set_option maxRecDepth 100000 in
theorem w_273 : (Jvm.Cond.methodLink "ReplenLaw" (28 : Nat) ({ cls := "Replen", name := "carry", desc := "(IIII)I" } : Jvm.MethodName)) ∈ ALL := in_ALL 289 rfl rfl
set_option maxRecDepth 100000 in
theorem w_274 : (Jvm.Cond.instanceMethod ({ cls := "Replen", name := "carry", desc := "(IIII)I" } : Jvm.MethodName)) ∈ ALL := in_ALL 290 rfl rfl
set_option maxRecDepth 100000 in
theorem w_275 : (Jvm.Cond.selects "Replen" ({ cls := "Replen", name := "carry", desc := "(IIII)I" } : Jvm.MethodName) ({ cls := "Replen", name := "carry", desc := "(IIII)I" } : Jvm.MethodName)) ∈ ALL := in_ALL 291 rfl rfl
set_option maxRecDepth 100000 in
theorem w_276 : (Jvm.Cond.code ({ cls := "Replen", name := "carry", desc := "(IIII)I" } : Jvm.MethodName) prog_1_method_4_code (7 : Nat) (Option.some Jvm.ClassFile.FieldType.int)) ∈ ALL := in_ALL 292 rfl rfl
set_option maxRecDepth 100000 in
theorem w_277 : (Jvm.Cond.methodLink "Replen" (92 : Nat) ({ cls := "Replen", name := "requireShop", desc := "(I)V" } : Jvm.MethodName)) ∈ ALL := in_ALL 293 rfl rfl
set_option maxRecDepth 100000 in
theorem w_279 : (Jvm.Cond.instanceMethod ({ cls := "Replen", name := "requireShop", desc := "(I)V" } : Jvm.MethodName)) ∈ ALL := in_ALL 295 rfl rfl
set_option maxRecDepth 100000 in
theorem w_280 : (Jvm.Cond.code ({ cls := "Replen", name := "requireShop", desc := "(I)V" } : Jvm.MethodName) prog_1_method_37_code (2 : Nat) (Option.none : Option Jvm.ClassFile.FieldType)) ∈ ALL := in_ALL 296 rfl rfl
set_option maxRecDepth 100000 in
theorem w_281 : (Jvm.Cond.methodLink "Replen" (262 : Nat) ({ cls := "Replen", name := "isShop", desc := "(I)Z" } : Jvm.MethodName)) ∈ ALL := in_ALL 297 rfl rfl
set_option maxRecDepth 100000 in
theorem w_283 : (Jvm.Cond.instanceMethod ({ cls := "Replen", name := "isShop", desc := "(I)Z" } : Jvm.MethodName)) ∈ ALL := in_ALL 299 rfl rfl
set_option maxRecDepth 100000 in
theorem w_284 : (Jvm.Cond.code ({ cls := "Replen", name := "isShop", desc := "(I)Z" } : Jvm.MethodName) prog_1_method_35_code (2 : Nat) (Option.some Jvm.ClassFile.FieldType.boolean)) ∈ ALL := in_ALL 300 rfl rfl
set_option maxRecDepth 100000 in
theorem w_285 : (Jvm.Cond.classLink "Replen" (265 : Nat) "java/lang/IndexOutOfBoundsException") ∈ ALL := in_ALL 301 rfl rfl
set_option maxRecDepth 100000 in
theorem w_286 : (Jvm.Cond.instantiable "java/lang/IndexOutOfBoundsException" (6 : Nat)) ∈ ALL := in_ALL 302 rfl rfl
set_option maxRecDepth 100000 in
theorem w_288 : (Jvm.Cond.selects "java/lang/IndexOutOfBoundsException" ({ cls := "java/lang/Throwable", name := "fillInStackTrace", desc := "(I)Ljava/lang/Throwable;" } : Jvm.MethodName) ({ cls := "java/lang/Throwable", name := "fillInStackTrace", desc := "(I)Ljava/lang/Throwable;" } : Jvm.MethodName)) ∈ ALL := in_ALL 304 rfl rfl
set_option maxRecDepth 100000 in
theorem w_295 : (Jvm.Cond.methodLink "Replen" (269 : Nat) ({ cls := "java/lang/IndexOutOfBoundsException", name := "<init>", desc := "(Ljava/lang/String;)V" } : Jvm.MethodName)) ∈ ALL := in_ALL 311 rfl rfl
set_option maxRecDepth 100000 in
theorem w_296 : (Jvm.Cond.instanceMethod ({ cls := "java/lang/IndexOutOfBoundsException", name := "<init>", desc := "(Ljava/lang/String;)V" } : Jvm.MethodName)) ∈ ALL := in_ALL 312 rfl rfl
set_option maxRecDepth 100000 in
theorem w_297 : (Jvm.Cond.code ({ cls := "java/lang/IndexOutOfBoundsException", name := "<init>", desc := "(Ljava/lang/String;)V" } : Jvm.MethodName) prog_13_method_2_code (2 : Nat) (Option.none : Option Jvm.ClassFile.FieldType)) ∈ ALL := in_ALL 313 rfl rfl
set_option maxRecDepth 100000 in
theorem w_298 : (Jvm.Cond.methodLink "java/lang/IndexOutOfBoundsException" (7 : Nat) ({ cls := "java/lang/RuntimeException", name := "<init>", desc := "(Ljava/lang/String;)V" } : Jvm.MethodName)) ∈ ALL := in_ALL 314 rfl rfl
set_option maxRecDepth 100000 in
theorem w_301 : (Jvm.Cond.methodLink "Replen" (96 : Nat) ({ cls := "Replen", name := "requireItem", desc := "(I)LReplen$Item;" } : Jvm.MethodName)) ∈ ALL := in_ALL 317 rfl rfl
set_option maxRecDepth 100000 in
theorem w_303 : (Jvm.Cond.instanceMethod ({ cls := "Replen", name := "requireItem", desc := "(I)LReplen$Item;" } : Jvm.MethodName)) ∈ ALL := in_ALL 319 rfl rfl
set_option maxRecDepth 100000 in
theorem w_304 : (Jvm.Cond.code ({ cls := "Replen", name := "requireItem", desc := "(I)LReplen$Item;" } : Jvm.MethodName) prog_1_method_38_code (3 : Nat) (Option.some (Jvm.ClassFile.FieldType.object "Replen$Item"))) ∈ ALL := in_ALL 320 rfl rfl
set_option maxRecDepth 100000 in
theorem w_305 : (Jvm.Cond.methodLink "Replen" (270 : Nat) ({ cls := "Replen", name := "itemOrNull", desc := "(I)LReplen$Item;" } : Jvm.MethodName)) ∈ ALL := in_ALL 321 rfl rfl
set_option maxRecDepth 100000 in
theorem w_307 : (Jvm.Cond.instanceMethod ({ cls := "Replen", name := "itemOrNull", desc := "(I)LReplen$Item;" } : Jvm.MethodName)) ∈ ALL := in_ALL 323 rfl rfl
set_option maxRecDepth 100000 in
theorem w_308 : (Jvm.Cond.code ({ cls := "Replen", name := "itemOrNull", desc := "(I)LReplen$Item;" } : Jvm.MethodName) prog_1_method_39_code (2 : Nat) (Option.some (Jvm.ClassFile.FieldType.object "Replen$Item"))) ∈ ALL := in_ALL 324 rfl rfl
set_option maxRecDepth 100000 in
theorem w_309 : (Jvm.Cond.methodLink "Replen" (275 : Nat) ({ cls := "Replen", name := "isItem", desc := "(I)Z" } : Jvm.MethodName)) ∈ ALL := in_ALL 325 rfl rfl
set_option maxRecDepth 100000 in
theorem w_311 : (Jvm.Cond.instanceMethod ({ cls := "Replen", name := "isItem", desc := "(I)Z" } : Jvm.MethodName)) ∈ ALL := in_ALL 327 rfl rfl
set_option maxRecDepth 100000 in
theorem w_312 : (Jvm.Cond.code ({ cls := "Replen", name := "isItem", desc := "(I)Z" } : Jvm.MethodName) prog_1_method_36_code (2 : Nat) (Option.some Jvm.ClassFile.FieldType.boolean)) ∈ ALL := in_ALL 328 rfl rfl
set_option maxRecDepth 100000 in
theorem w_315 : (Jvm.Cond.constant "Replen" (102 : Nat) (99999 : Int32)) ∈ ALL := in_ALL 331 rfl rfl
set_option maxRecDepth 100000 in
theorem w_317 : (Jvm.Cond.methodLink "Replen" (105 : Nat) ({ cls := "Replen", name := "placeOf", desc := "(II)I" } : Jvm.MethodName)) ∈ ALL := in_ALL 333 rfl rfl
set_option maxRecDepth 100000 in
theorem w_319 : (Jvm.Cond.instanceMethod ({ cls := "Replen", name := "placeOf", desc := "(II)I" } : Jvm.MethodName)) ∈ ALL := in_ALL 335 rfl rfl
set_option maxRecDepth 100000 in
theorem w_320 : (Jvm.Cond.code ({ cls := "Replen", name := "placeOf", desc := "(II)I" } : Jvm.MethodName) prog_1_method_42_code (3 : Nat) (Option.some Jvm.ClassFile.FieldType.int)) ∈ ALL := in_ALL 336 rfl rfl
set_option maxRecDepth 100000 in
theorem w_322 : (Jvm.Cond.instantiable "Replen$Line" (14 : Nat)) ∈ ALL := in_ALL 338 rfl rfl
set_option maxRecDepth 100000 in
theorem w_323 : (Jvm.Cond.methodLink "Replen" (111 : Nat) ({ cls := "Replen", name := "leadOf", desc := "(I)I" } : Jvm.MethodName)) ∈ ALL := in_ALL 339 rfl rfl
set_option maxRecDepth 100000 in
theorem w_325 : (Jvm.Cond.instanceMethod ({ cls := "Replen", name := "leadOf", desc := "(I)I" } : Jvm.MethodName)) ∈ ALL := in_ALL 341 rfl rfl
set_option maxRecDepth 100000 in
theorem w_326 : (Jvm.Cond.code ({ cls := "Replen", name := "leadOf", desc := "(I)I" } : Jvm.MethodName) prog_1_method_43_code (2 : Nat) (Option.some Jvm.ClassFile.FieldType.int)) ∈ ALL := in_ALL 342 rfl rfl
set_option maxRecDepth 100000 in
theorem w_327 : (Jvm.Cond.methodLink "Replen" (115 : Nat) ({ cls := "Replen$Line", name := "<init>", desc := "(LReplen$Item;IIII)V" } : Jvm.MethodName)) ∈ ALL := in_ALL 343 rfl rfl
set_option maxRecDepth 100000 in
theorem w_328 : (Jvm.Cond.instanceMethod ({ cls := "Replen$Line", name := "<init>", desc := "(LReplen$Item;IIII)V" } : Jvm.MethodName)) ∈ ALL := in_ALL 344 rfl rfl
set_option maxRecDepth 100000 in
theorem w_329 : (Jvm.Cond.code ({ cls := "Replen$Line", name := "<init>", desc := "(LReplen$Item;IIII)V" } : Jvm.MethodName) prog_5_method_1_code (6 : Nat) (Option.none : Option Jvm.ClassFile.FieldType)) ∈ ALL := in_ALL 345 rfl rfl
set_option maxRecDepth 100000 in
theorem w_330 : (Jvm.Cond.methodLink "Replen$Line" (3 : Nat) ({ cls := "java/lang/Object", name := "<init>", desc := "()V" } : Jvm.MethodName)) ∈ ALL := in_ALL 346 rfl rfl
set_option maxRecDepth 100000 in
theorem w_331 : (Jvm.Cond.classLink "Replen$Line" (9 : Nat) "Replen$Learner") ∈ ALL := in_ALL 347 rfl rfl
set_option maxRecDepth 100000 in
theorem w_333 : (Jvm.Cond.classLink "Replen$Line" (22 : Nat) "Replen$DayBook") ∈ ALL := in_ALL 349 rfl rfl
set_option maxRecDepth 100000 in
theorem w_335 : (Jvm.Cond.methodLink "Replen$Line" (64 : Nat) ({ cls := "Replen$Learner", name := "start", desc := "(I)V" } : Jvm.MethodName)) ∈ ALL := in_ALL 351 rfl rfl
set_option maxRecDepth 100000 in
theorem w_336 : (Jvm.Cond.instanceMethod ({ cls := "Replen$Learner", name := "start", desc := "(I)V" } : Jvm.MethodName)) ∈ ALL := in_ALL 352 rfl rfl
set_option maxRecDepth 100000 in
theorem w_337 : (Jvm.Cond.selects "Replen$Learner" ({ cls := "Replen$Learner", name := "start", desc := "(I)V" } : Jvm.MethodName) ({ cls := "Replen$Learner", name := "start", desc := "(I)V" } : Jvm.MethodName)) ∈ ALL := in_ALL 353 rfl rfl
set_option maxRecDepth 100000 in
theorem w_338 : (Jvm.Cond.code ({ cls := "Replen$Learner", name := "start", desc := "(I)V" } : Jvm.MethodName) prog_4_method_2_code (3 : Nat) (Option.none : Option Jvm.ClassFile.FieldType)) ∈ ALL := in_ALL 354 rfl rfl
set_option maxRecDepth 100000 in
theorem w_339 : (Jvm.Cond.fieldLink "Replen$Line" (45 : Nat) "Replen$Line" "item" "LReplen$Item;") ∈ ALL := in_ALL 355 rfl rfl
set_option maxRecDepth 100000 in
theorem w_341 : (Jvm.Cond.fieldLink "Replen$Line" (49 : Nat) "Replen$Line" "lead" "I") ∈ ALL := in_ALL 357 rfl rfl
set_option maxRecDepth 100000 in
theorem w_342 : (Jvm.Cond.fieldLink "Replen$Line" (52 : Nat) "Replen$Line" "firstDay" "I") ∈ ALL := in_ALL 358 rfl rfl
set_option maxRecDepth 100000 in
theorem w_344 : (Jvm.Cond.fieldLink "Replen$Line" (55 : Nat) "Replen$Line" "firstStock" "I") ∈ ALL := in_ALL 360 rfl rfl
set_option maxRecDepth 100000 in
theorem w_345 : (Jvm.Cond.fieldLink "Replen$Line" (58 : Nat) "Replen$Line" "firstLevel" "I") ∈ ALL := in_ALL 361 rfl rfl
set_option maxRecDepth 100000 in
theorem w_347 : (Jvm.Cond.fieldLink "Replen$Line" (12 : Nat) "Replen$Line" "learner" "LReplen$Learner;") ∈ ALL := in_ALL 363 rfl rfl
set_option maxRecDepth 100000 in
theorem w_349 : (Jvm.Cond.fieldLink "Replen$Line" (18 : Nat) "Replen$Line" "errorTimes" "[I") ∈ ALL := in_ALL 365 rfl rfl
set_option maxRecDepth 100000 in
theorem w_350 : (Jvm.Cond.fieldLink "Replen$Line" (25 : Nat) "Replen$Line" "demands" "LReplen$DayBook;") ∈ ALL := in_ALL 366 rfl rfl
set_option maxRecDepth 100000 in
theorem w_352 : (Jvm.Cond.fieldLink "Replen$Line" (29 : Nat) "Replen$Line" "sales" "LReplen$DayBook;") ∈ ALL := in_ALL 368 rfl rfl
set_option maxRecDepth 100000 in
theorem w_353 : (Jvm.Cond.fieldLink "Replen$Line" (32 : Nat) "Replen$Line" "arrivals" "LReplen$DayBook;") ∈ ALL := in_ALL 369 rfl rfl
set_option maxRecDepth 100000 in
theorem w_355 : (Jvm.Cond.fieldLink "Replen$Line" (35 : Nat) "Replen$Line" "errorSum" "I") ∈ ALL := in_ALL 371 rfl rfl
set_option maxRecDepth 100000 in
theorem w_356 : (Jvm.Cond.fieldLink "Replen$Line" (61 : Nat) "Replen$Line" "stock" "I") ∈ ALL := in_ALL 372 rfl rfl
set_option maxRecDepth 100000 in
theorem w_358 : (Jvm.Cond.fieldLink "Replen$Line" (39 : Nat) "Replen$Line" "soldSum" "I") ∈ ALL := in_ALL 374 rfl rfl
set_option maxRecDepth 100000 in
theorem w_359 : (Jvm.Cond.fieldLink "Replen$Line" (42 : Nat) "Replen$Line" "lostSum" "I") ∈ ALL := in_ALL 375 rfl rfl
set_option maxRecDepth 100000 in
theorem w_361 : (Jvm.Cond.laysFinal "Replen$Line" "Replen$Line" "item" "LReplen$Item;") ∈ ALL := in_ALL 377 rfl rfl
set_option maxRecDepth 100000 in
theorem w_363 : (Jvm.Cond.laysFinal "Replen$Line" "Replen$Line" "lead" "I") ∈ ALL := in_ALL 379 rfl rfl
set_option maxRecDepth 100000 in
theorem w_365 : (Jvm.Cond.laysFinal "Replen$Line" "Replen$Line" "firstDay" "I") ∈ ALL := in_ALL 381 rfl rfl
set_option maxRecDepth 100000 in
theorem w_367 : (Jvm.Cond.laysFinal "Replen$Line" "Replen$Line" "firstStock" "I") ∈ ALL := in_ALL 383 rfl rfl
set_option maxRecDepth 100000 in
theorem w_369 : (Jvm.Cond.laysFinal "Replen$Line" "Replen$Line" "firstLevel" "I") ∈ ALL := in_ALL 385 rfl rfl
set_option maxRecDepth 100000 in
theorem w_371 : (Jvm.Cond.laysFinal "Replen$Line" "Replen$Line" "learner" "LReplen$Learner;") ∈ ALL := in_ALL 387 rfl rfl
set_option maxRecDepth 100000 in
theorem w_373 : (Jvm.Cond.laysFinal "Replen$Line" "Replen$Line" "errorTimes" "[I") ∈ ALL := in_ALL 389 rfl rfl
set_option maxRecDepth 100000 in
theorem w_375 : (Jvm.Cond.laysFinal "Replen$Line" "Replen$Line" "demands" "LReplen$DayBook;") ∈ ALL := in_ALL 391 rfl rfl
set_option maxRecDepth 100000 in
theorem w_377 : (Jvm.Cond.laysFinal "Replen$Line" "Replen$Line" "sales" "LReplen$DayBook;") ∈ ALL := in_ALL 393 rfl rfl
set_option maxRecDepth 100000 in
theorem w_379 : (Jvm.Cond.laysFinal "Replen$Line" "Replen$Line" "arrivals" "LReplen$DayBook;") ∈ ALL := in_ALL 395 rfl rfl
set_option maxRecDepth 100000 in
theorem w_381 : (Jvm.Cond.lays "Replen$Line" "Replen$Line" "errorSum" "I") ∈ ALL := in_ALL 397 rfl rfl
set_option maxRecDepth 100000 in
theorem w_383 : (Jvm.Cond.lays "Replen$Line" "Replen$Line" "stock" "I") ∈ ALL := in_ALL 399 rfl rfl
set_option maxRecDepth 100000 in
theorem w_385 : (Jvm.Cond.lays "Replen$Line" "Replen$Line" "soldSum" "I") ∈ ALL := in_ALL 401 rfl rfl
set_option maxRecDepth 100000 in
theorem w_387 : (Jvm.Cond.lays "Replen$Line" "Replen$Line" "lostSum" "I") ∈ ALL := in_ALL 403 rfl rfl
set_option maxRecDepth 100000 in
theorem w_390 : (Jvm.Cond.methodLink "ReplenLaw" (137 : Nat) ({ cls := "ReplenLaw", name := "carries", desc := "(LReplen;II)I" } : Jvm.MethodName)) ∈ ALL := in_ALL 406 rfl rfl
set_option maxRecDepth 100000 in
theorem w_391 : (Jvm.Cond.static ({ cls := "ReplenLaw", name := "carries", desc := "(LReplen;II)I" } : Jvm.MethodName)) ∈ ALL := in_ALL 407 rfl rfl
set_option maxRecDepth 100000 in
theorem w_392 : (Jvm.Cond.codeWith ({ cls := "ReplenLaw", name := "carries", desc := "(LReplen;II)I" } : Jvm.MethodName) method_7_code (4 : Nat) (Option.some Jvm.ClassFile.FieldType.int) [((0 : Nat), (14 : Nat), (15 : Nat), (32 : Nat))]) ∈ ALL := in_ALL 408 rfl rfl
set_option maxRecDepth 100000 in
theorem w_393 : (Jvm.Cond.methodLink "ReplenLaw" (34 : Nat) ({ cls := "Replen", name := "carries", desc := "(II)Z" } : Jvm.MethodName)) ∈ ALL := in_ALL 409 rfl rfl
set_option maxRecDepth 100000 in
theorem w_394 : (Jvm.Cond.instanceMethod ({ cls := "Replen", name := "carries", desc := "(II)Z" } : Jvm.MethodName)) ∈ ALL := in_ALL 410 rfl rfl
set_option maxRecDepth 100000 in
theorem w_395 : (Jvm.Cond.selects "Replen" ({ cls := "Replen", name := "carries", desc := "(II)Z" } : Jvm.MethodName) ({ cls := "Replen", name := "carries", desc := "(II)Z" } : Jvm.MethodName)) ∈ ALL := in_ALL 411 rfl rfl
set_option maxRecDepth 100000 in
theorem w_396 : (Jvm.Cond.code ({ cls := "Replen", name := "carries", desc := "(II)Z" } : Jvm.MethodName) prog_1_method_5_code (3 : Nat) (Option.some Jvm.ClassFile.FieldType.boolean)) ∈ ALL := in_ALL 412 rfl rfl
set_option maxRecDepth 100000 in
theorem w_397 : (Jvm.Cond.methodLink "Replen" (118 : Nat) ({ cls := "Replen", name := "lineOrNull", desc := "(II)LReplen$Line;" } : Jvm.MethodName)) ∈ ALL := in_ALL 413 rfl rfl
set_option maxRecDepth 100000 in
theorem w_399 : (Jvm.Cond.instanceMethod ({ cls := "Replen", name := "lineOrNull", desc := "(II)LReplen$Line;" } : Jvm.MethodName)) ∈ ALL := in_ALL 415 rfl rfl
set_option maxRecDepth 100000 in
theorem w_400 : (Jvm.Cond.code ({ cls := "Replen", name := "lineOrNull", desc := "(II)LReplen$Line;" } : Jvm.MethodName) prog_1_method_41_code (4 : Nat) (Option.some (Jvm.ClassFile.FieldType.object "Replen$Line"))) ∈ ALL := in_ALL 416 rfl rfl
set_option maxRecDepth 100000 in
theorem w_401 : (Jvm.Cond.methodLink "ReplenLaw" (146 : Nat) ({ cls := "ReplenLaw", name := "supply", desc := "(LReplen;II)I" } : Jvm.MethodName)) ∈ ALL := in_ALL 417 rfl rfl
set_option maxRecDepth 100000 in
theorem w_402 : (Jvm.Cond.static ({ cls := "ReplenLaw", name := "supply", desc := "(LReplen;II)I" } : Jvm.MethodName)) ∈ ALL := in_ALL 418 rfl rfl
set_option maxRecDepth 100000 in
theorem w_403 : (Jvm.Cond.codeWith ({ cls := "ReplenLaw", name := "supply", desc := "(LReplen;II)I" } : Jvm.MethodName) method_8_code (4 : Nat) (Option.some Jvm.ClassFile.FieldType.int) [((0 : Nat), (6 : Nat), (7 : Nat), (32 : Nat)), ((0 : Nat), (6 : Nat), (11 : Nat), (20 : Nat)), ((0 : Nat), (6 : Nat), (15 : Nat), (22 : Nat))]) ∈ ALL := in_ALL 419 rfl rfl
set_option maxRecDepth 100000 in
theorem w_404 : (Jvm.Cond.methodLink "ReplenLaw" (38 : Nat) ({ cls := "Replen", name := "supply", desc := "(II)I" } : Jvm.MethodName)) ∈ ALL := in_ALL 420 rfl rfl
set_option maxRecDepth 100000 in
theorem w_405 : (Jvm.Cond.instanceMethod ({ cls := "Replen", name := "supply", desc := "(II)I" } : Jvm.MethodName)) ∈ ALL := in_ALL 421 rfl rfl
set_option maxRecDepth 100000 in
theorem w_406 : (Jvm.Cond.selects "Replen" ({ cls := "Replen", name := "supply", desc := "(II)I" } : Jvm.MethodName) ({ cls := "Replen", name := "supply", desc := "(II)I" } : Jvm.MethodName)) ∈ ALL := in_ALL 422 rfl rfl
set_option maxRecDepth 100000 in
theorem w_407 : (Jvm.Cond.code ({ cls := "Replen", name := "supply", desc := "(II)I" } : Jvm.MethodName) prog_1_method_6_code (4 : Nat) (Option.some Jvm.ClassFile.FieldType.int)) ∈ ALL := in_ALL 423 rfl rfl
set_option maxRecDepth 100000 in
theorem w_410 : (Jvm.Cond.methodLink "Replen" (129 : Nat) ({ cls := "Replen$Item", name := "takeIn", desc := "(II)V" } : Jvm.MethodName)) ∈ ALL := in_ALL 426 rfl rfl
set_option maxRecDepth 100000 in
theorem w_411 : (Jvm.Cond.instanceMethod ({ cls := "Replen$Item", name := "takeIn", desc := "(II)V" } : Jvm.MethodName)) ∈ ALL := in_ALL 427 rfl rfl
set_option maxRecDepth 100000 in
theorem w_412 : (Jvm.Cond.selects "Replen$Item" ({ cls := "Replen$Item", name := "takeIn", desc := "(II)V" } : Jvm.MethodName) ({ cls := "Replen$Item", name := "takeIn", desc := "(II)V" } : Jvm.MethodName)) ∈ ALL := in_ALL 428 rfl rfl
set_option maxRecDepth 100000 in
theorem w_413 : (Jvm.Cond.code ({ cls := "Replen$Item", name := "takeIn", desc := "(II)V" } : Jvm.MethodName) prog_3_method_3_code (3 : Nat) (Option.none : Option Jvm.ClassFile.FieldType)) ∈ ALL := in_ALL 429 rfl rfl
set_option maxRecDepth 100000 in
theorem w_414 : (Jvm.Cond.methodLink "Replen$Item" (36 : Nat) ({ cls := "Replen$DayBook", name := "add", desc := "(II)V" } : Jvm.MethodName)) ∈ ALL := in_ALL 430 rfl rfl
set_option maxRecDepth 100000 in
theorem w_415 : (Jvm.Cond.instanceMethod ({ cls := "Replen$DayBook", name := "add", desc := "(II)V" } : Jvm.MethodName)) ∈ ALL := in_ALL 431 rfl rfl
set_option maxRecDepth 100000 in
theorem w_416 : (Jvm.Cond.selects "Replen$DayBook" ({ cls := "Replen$DayBook", name := "add", desc := "(II)V" } : Jvm.MethodName) ({ cls := "Replen$DayBook", name := "add", desc := "(II)V" } : Jvm.MethodName)) ∈ ALL := in_ALL 432 rfl rfl
set_option maxRecDepth 100000 in
theorem w_417 : (Jvm.Cond.code ({ cls := "Replen$DayBook", name := "add", desc := "(II)V" } : Jvm.MethodName) prog_2_method_3_code (3 : Nat) (Option.none : Option Jvm.ClassFile.FieldType)) ∈ ALL := in_ALL 433 rfl rfl
set_option maxRecDepth 100000 in
theorem w_418 : (Jvm.Cond.methodLink "ReplenLaw" (150 : Nat) ({ cls := "ReplenLaw", name := "setService", desc := "(LReplen;I)I" } : Jvm.MethodName)) ∈ ALL := in_ALL 434 rfl rfl
set_option maxRecDepth 100000 in
theorem w_419 : (Jvm.Cond.static ({ cls := "ReplenLaw", name := "setService", desc := "(LReplen;I)I" } : Jvm.MethodName)) ∈ ALL := in_ALL 435 rfl rfl
set_option maxRecDepth 100000 in
theorem w_420 : (Jvm.Cond.codeWith ({ cls := "ReplenLaw", name := "setService", desc := "(LReplen;I)I" } : Jvm.MethodName) method_9_code (3 : Nat) (Option.some Jvm.ClassFile.FieldType.int) [((0 : Nat), (5 : Nat), (6 : Nat), (20 : Nat))]) ∈ ALL := in_ALL 436 rfl rfl
set_option maxRecDepth 100000 in
theorem w_421 : (Jvm.Cond.methodLink "ReplenLaw" (41 : Nat) ({ cls := "Replen", name := "setService", desc := "(I)I" } : Jvm.MethodName)) ∈ ALL := in_ALL 437 rfl rfl
set_option maxRecDepth 100000 in
theorem w_422 : (Jvm.Cond.instanceMethod ({ cls := "Replen", name := "setService", desc := "(I)I" } : Jvm.MethodName)) ∈ ALL := in_ALL 438 rfl rfl
set_option maxRecDepth 100000 in
theorem w_423 : (Jvm.Cond.selects "Replen" ({ cls := "Replen", name := "setService", desc := "(I)I" } : Jvm.MethodName) ({ cls := "Replen", name := "setService", desc := "(I)I" } : Jvm.MethodName)) ∈ ALL := in_ALL 439 rfl rfl
set_option maxRecDepth 100000 in
theorem w_424 : (Jvm.Cond.code ({ cls := "Replen", name := "setService", desc := "(I)I" } : Jvm.MethodName) prog_1_method_7_code (3 : Nat) (Option.some Jvm.ClassFile.FieldType.int)) ∈ ALL := in_ALL 440 rfl rfl
set_option maxRecDepth 100000 in
theorem w_426 : (Jvm.Cond.methodLink "ReplenLaw" (152 : Nat) ({ cls := "ReplenLaw", name := "setRates", desc := "(LReplen;II)I" } : Jvm.MethodName)) ∈ ALL := in_ALL 442 rfl rfl
set_option maxRecDepth 100000 in
theorem w_427 : (Jvm.Cond.static ({ cls := "ReplenLaw", name := "setRates", desc := "(LReplen;II)I" } : Jvm.MethodName)) ∈ ALL := in_ALL 443 rfl rfl
set_option maxRecDepth 100000 in
theorem w_428 : (Jvm.Cond.codeWith ({ cls := "ReplenLaw", name := "setRates", desc := "(LReplen;II)I" } : Jvm.MethodName) method_10_code (4 : Nat) (Option.some Jvm.ClassFile.FieldType.int) [((0 : Nat), (6 : Nat), (7 : Nat), (20 : Nat))]) ∈ ALL := in_ALL 444 rfl rfl
set_option maxRecDepth 100000 in
theorem w_429 : (Jvm.Cond.methodLink "ReplenLaw" (44 : Nat) ({ cls := "Replen", name := "setRates", desc := "(II)I" } : Jvm.MethodName)) ∈ ALL := in_ALL 445 rfl rfl
set_option maxRecDepth 100000 in
theorem w_430 : (Jvm.Cond.instanceMethod ({ cls := "Replen", name := "setRates", desc := "(II)I" } : Jvm.MethodName)) ∈ ALL := in_ALL 446 rfl rfl
set_option maxRecDepth 100000 in
theorem w_431 : (Jvm.Cond.selects "Replen" ({ cls := "Replen", name := "setRates", desc := "(II)I" } : Jvm.MethodName) ({ cls := "Replen", name := "setRates", desc := "(II)I" } : Jvm.MethodName)) ∈ ALL := in_ALL 447 rfl rfl
set_option maxRecDepth 100000 in
theorem w_432 : (Jvm.Cond.code ({ cls := "Replen", name := "setRates", desc := "(II)I" } : Jvm.MethodName) prog_1_method_8_code (4 : Nat) (Option.some Jvm.ClassFile.FieldType.int)) ∈ ALL := in_ALL 448 rfl rfl
set_option maxRecDepth 100000 in
theorem w_435 : (Jvm.Cond.methodLink "ReplenLaw" (157 : Nat) ({ cls := "ReplenLaw", name := "mark", desc := "(LReplen;II)I" } : Jvm.MethodName)) ∈ ALL := in_ALL 451 rfl rfl
set_option maxRecDepth 100000 in
theorem w_436 : (Jvm.Cond.static ({ cls := "ReplenLaw", name := "mark", desc := "(LReplen;II)I" } : Jvm.MethodName)) ∈ ALL := in_ALL 452 rfl rfl
set_option maxRecDepth 100000 in
theorem w_437 : (Jvm.Cond.codeWith ({ cls := "ReplenLaw", name := "mark", desc := "(LReplen;II)I" } : Jvm.MethodName) method_11_code (4 : Nat) (Option.some Jvm.ClassFile.FieldType.int) [((0 : Nat), (14 : Nat), (15 : Nat), (32 : Nat)), ((0 : Nat), (14 : Nat), (19 : Nat), (20 : Nat))]) ∈ ALL := in_ALL 453 rfl rfl
set_option maxRecDepth 100000 in
theorem w_438 : (Jvm.Cond.methodLink "ReplenLaw" (47 : Nat) ({ cls := "Replen", name := "mark", desc := "(II)Z" } : Jvm.MethodName)) ∈ ALL := in_ALL 454 rfl rfl
set_option maxRecDepth 100000 in
theorem w_439 : (Jvm.Cond.instanceMethod ({ cls := "Replen", name := "mark", desc := "(II)Z" } : Jvm.MethodName)) ∈ ALL := in_ALL 455 rfl rfl
set_option maxRecDepth 100000 in
theorem w_440 : (Jvm.Cond.selects "Replen" ({ cls := "Replen", name := "mark", desc := "(II)Z" } : Jvm.MethodName) ({ cls := "Replen", name := "mark", desc := "(II)Z" } : Jvm.MethodName)) ∈ ALL := in_ALL 456 rfl rfl
set_option maxRecDepth 100000 in
theorem w_441 : (Jvm.Cond.code ({ cls := "Replen", name := "mark", desc := "(II)Z" } : Jvm.MethodName) prog_1_method_9_code (5 : Nat) (Option.some Jvm.ClassFile.FieldType.boolean)) ∈ ALL := in_ALL 457 rfl rfl
set_option maxRecDepth 100000 in
theorem w_443 : (Jvm.Cond.methodLink "Replen" (140 : Nat) ({ cls := "Replen$Item", name := "hasPromotion", desc := "(I)Z" } : Jvm.MethodName)) ∈ ALL := in_ALL 459 rfl rfl
set_option maxRecDepth 100000 in
theorem w_444 : (Jvm.Cond.instanceMethod ({ cls := "Replen$Item", name := "hasPromotion", desc := "(I)Z" } : Jvm.MethodName)) ∈ ALL := in_ALL 460 rfl rfl
set_option maxRecDepth 100000 in
theorem w_445 : (Jvm.Cond.selects "Replen$Item" ({ cls := "Replen$Item", name := "hasPromotion", desc := "(I)Z" } : Jvm.MethodName) ({ cls := "Replen$Item", name := "hasPromotion", desc := "(I)Z" } : Jvm.MethodName)) ∈ ALL := in_ALL 461 rfl rfl
set_option maxRecDepth 100000 in
theorem w_446 : (Jvm.Cond.code ({ cls := "Replen$Item", name := "hasPromotion", desc := "(I)Z" } : Jvm.MethodName) prog_3_method_2_code (2 : Nat) (Option.some Jvm.ClassFile.FieldType.boolean)) ∈ ALL := in_ALL 462 rfl rfl
set_option maxRecDepth 100000 in
theorem w_447 : (Jvm.Cond.methodLink "Replen$Item" (32 : Nat) ({ cls := "Replen$DayBook", name := "on", desc := "(I)I" } : Jvm.MethodName)) ∈ ALL := in_ALL 463 rfl rfl
set_option maxRecDepth 100000 in
theorem w_448 : (Jvm.Cond.methodLink "Replen" (147 : Nat) ({ cls := "Replen$DayBook", name := "add", desc := "(II)V" } : Jvm.MethodName)) ∈ ALL := in_ALL 464 rfl rfl
set_option maxRecDepth 100000 in
theorem w_449 : (Jvm.Cond.methodLink "ReplenLaw" (159 : Nat) ({ cls := "ReplenLaw", name := "isMarked", desc := "(LReplen;II)I" } : Jvm.MethodName)) ∈ ALL := in_ALL 465 rfl rfl
set_option maxRecDepth 100000 in
theorem w_450 : (Jvm.Cond.static ({ cls := "ReplenLaw", name := "isMarked", desc := "(LReplen;II)I" } : Jvm.MethodName)) ∈ ALL := in_ALL 466 rfl rfl
set_option maxRecDepth 100000 in
theorem w_451 : (Jvm.Cond.codeWith ({ cls := "ReplenLaw", name := "isMarked", desc := "(LReplen;II)I" } : Jvm.MethodName) method_12_code (4 : Nat) (Option.some Jvm.ClassFile.FieldType.int) [((0 : Nat), (14 : Nat), (15 : Nat), (32 : Nat)), ((0 : Nat), (14 : Nat), (19 : Nat), (20 : Nat))]) ∈ ALL := in_ALL 467 rfl rfl
set_option maxRecDepth 100000 in
theorem w_452 : (Jvm.Cond.methodLink "ReplenLaw" (50 : Nat) ({ cls := "Replen", name := "isMarked", desc := "(II)Z" } : Jvm.MethodName)) ∈ ALL := in_ALL 468 rfl rfl
set_option maxRecDepth 100000 in
theorem w_453 : (Jvm.Cond.instanceMethod ({ cls := "Replen", name := "isMarked", desc := "(II)Z" } : Jvm.MethodName)) ∈ ALL := in_ALL 469 rfl rfl
set_option maxRecDepth 100000 in
theorem w_454 : (Jvm.Cond.selects "Replen" ({ cls := "Replen", name := "isMarked", desc := "(II)Z" } : Jvm.MethodName) ({ cls := "Replen", name := "isMarked", desc := "(II)Z" } : Jvm.MethodName)) ∈ ALL := in_ALL 470 rfl rfl
set_option maxRecDepth 100000 in
theorem w_455 : (Jvm.Cond.code ({ cls := "Replen", name := "isMarked", desc := "(II)Z" } : Jvm.MethodName) prog_1_method_10_code (4 : Nat) (Option.some Jvm.ClassFile.FieldType.boolean)) ∈ ALL := in_ALL 471 rfl rfl
set_option maxRecDepth 100000 in
theorem w_457 : (Jvm.Cond.methodLink "ReplenLaw" (165 : Nat) ({ cls := "ReplenLaw", name := "demand", desc := "(LReplen;III)I" } : Jvm.MethodName)) ∈ ALL := in_ALL 473 rfl rfl
set_option maxRecDepth 100000 in
theorem w_458 : (Jvm.Cond.static ({ cls := "ReplenLaw", name := "demand", desc := "(LReplen;III)I" } : Jvm.MethodName)) ∈ ALL := in_ALL 474 rfl rfl
set_option maxRecDepth 100000 in
theorem w_459 : (Jvm.Cond.codeWith ({ cls := "ReplenLaw", name := "demand", desc := "(LReplen;III)I" } : Jvm.MethodName) method_13_code (5 : Nat) (Option.some Jvm.ClassFile.FieldType.int) [((0 : Nat), (7 : Nat), (8 : Nat), (32 : Nat)), ((0 : Nat), (7 : Nat), (13 : Nat), (57 : Nat)), ((0 : Nat), (7 : Nat), (18 : Nat), (20 : Nat)), ((0 : Nat), (7 : Nat), (23 : Nat), (59 : Nat))]) ∈ ALL := in_ALL 475 rfl rfl
set_option maxRecDepth 100000 in
theorem w_460 : (Jvm.Cond.classLink "ReplenLaw" (57 : Nat) "java/util/NoSuchElementException") ∈ ALL := in_ALL 476 rfl rfl
set_option maxRecDepth 100000 in
theorem w_461 : (Jvm.Cond.classLink "ReplenLaw" (59 : Nat) "java/lang/UnsupportedOperationException") ∈ ALL := in_ALL 477 rfl rfl
set_option maxRecDepth 100000 in
theorem w_462 : (Jvm.Cond.methodLink "ReplenLaw" (53 : Nat) ({ cls := "Replen", name := "demand", desc := "(III)I" } : Jvm.MethodName)) ∈ ALL := in_ALL 478 rfl rfl
set_option maxRecDepth 100000 in
theorem w_463 : (Jvm.Cond.instanceMethod ({ cls := "Replen", name := "demand", desc := "(III)I" } : Jvm.MethodName)) ∈ ALL := in_ALL 479 rfl rfl
set_option maxRecDepth 100000 in
theorem w_464 : (Jvm.Cond.selects "Replen" ({ cls := "Replen", name := "demand", desc := "(III)I" } : Jvm.MethodName) ({ cls := "Replen", name := "demand", desc := "(III)I" } : Jvm.MethodName)) ∈ ALL := in_ALL 480 rfl rfl
set_option maxRecDepth 100000 in
theorem w_465 : (Jvm.Cond.code ({ cls := "Replen", name := "demand", desc := "(III)I" } : Jvm.MethodName) prog_1_method_11_code (5 : Nat) (Option.some Jvm.ClassFile.FieldType.int)) ∈ ALL := in_ALL 481 rfl rfl
set_option maxRecDepth 100000 in
theorem w_466 : (Jvm.Cond.methodLink "Replen" (152 : Nat) ({ cls := "Replen", name := "requireLine", desc := "(II)LReplen$Line;" } : Jvm.MethodName)) ∈ ALL := in_ALL 482 rfl rfl
set_option maxRecDepth 100000 in
theorem w_468 : (Jvm.Cond.instanceMethod ({ cls := "Replen", name := "requireLine", desc := "(II)LReplen$Line;" } : Jvm.MethodName)) ∈ ALL := in_ALL 484 rfl rfl
set_option maxRecDepth 100000 in
theorem w_469 : (Jvm.Cond.code ({ cls := "Replen", name := "requireLine", desc := "(II)LReplen$Line;" } : Jvm.MethodName) prog_1_method_40_code (4 : Nat) (Option.some (Jvm.ClassFile.FieldType.object "Replen$Line"))) ∈ ALL := in_ALL 485 rfl rfl
set_option maxRecDepth 100000 in
theorem w_470 : (Jvm.Cond.classLink "Replen" (233 : Nat) "java/util/NoSuchElementException") ∈ ALL := in_ALL 486 rfl rfl
set_option maxRecDepth 100000 in
theorem w_471 : (Jvm.Cond.instantiable "java/util/NoSuchElementException" (6 : Nat)) ∈ ALL := in_ALL 487 rfl rfl
set_option maxRecDepth 100000 in
theorem w_473 : (Jvm.Cond.selects "java/util/NoSuchElementException" ({ cls := "java/lang/Throwable", name := "fillInStackTrace", desc := "(I)Ljava/lang/Throwable;" } : Jvm.MethodName) ({ cls := "java/lang/Throwable", name := "fillInStackTrace", desc := "(I)Ljava/lang/Throwable;" } : Jvm.MethodName)) ∈ ALL := in_ALL 489 rfl rfl
set_option maxRecDepth 100000 in
theorem w_480 : (Jvm.Cond.methodLink "Replen" (237 : Nat) ({ cls := "java/util/NoSuchElementException", name := "<init>", desc := "(Ljava/lang/String;)V" } : Jvm.MethodName)) ∈ ALL := in_ALL 496 rfl rfl
set_option maxRecDepth 100000 in
theorem w_481 : (Jvm.Cond.instanceMethod ({ cls := "java/util/NoSuchElementException", name := "<init>", desc := "(Ljava/lang/String;)V" } : Jvm.MethodName)) ∈ ALL := in_ALL 497 rfl rfl
set_option maxRecDepth 100000 in
theorem w_482 : (Jvm.Cond.code ({ cls := "java/util/NoSuchElementException", name := "<init>", desc := "(Ljava/lang/String;)V" } : Jvm.MethodName) prog_19_method_4_code (2 : Nat) (Option.none : Option Jvm.ClassFile.FieldType)) ∈ ALL := in_ALL 498 rfl rfl
set_option maxRecDepth 100000 in
theorem w_483 : (Jvm.Cond.methodLink "java/util/NoSuchElementException" (13 : Nat) ({ cls := "java/lang/RuntimeException", name := "<init>", desc := "(Ljava/lang/String;)V" } : Jvm.MethodName)) ∈ ALL := in_ALL 499 rfl rfl
set_option maxRecDepth 100000 in
theorem w_487 : (Jvm.Cond.methodLink "Replen" (160 : Nat) ({ cls := "Replen$DayBook", name := "on", desc := "(I)I" } : Jvm.MethodName)) ∈ ALL := in_ALL 503 rfl rfl
set_option maxRecDepth 100000 in
theorem w_488 : (Jvm.Cond.classLink "Replen" (163 : Nat) "java/lang/UnsupportedOperationException") ∈ ALL := in_ALL 504 rfl rfl
set_option maxRecDepth 100000 in
theorem w_489 : (Jvm.Cond.instantiable "java/lang/UnsupportedOperationException" (6 : Nat)) ∈ ALL := in_ALL 505 rfl rfl
set_option maxRecDepth 100000 in
theorem w_491 : (Jvm.Cond.selects "java/lang/UnsupportedOperationException" ({ cls := "java/lang/Throwable", name := "fillInStackTrace", desc := "(I)Ljava/lang/Throwable;" } : Jvm.MethodName) ({ cls := "java/lang/Throwable", name := "fillInStackTrace", desc := "(I)Ljava/lang/Throwable;" } : Jvm.MethodName)) ∈ ALL := in_ALL 507 rfl rfl
set_option maxRecDepth 100000 in
theorem w_498 : (Jvm.Cond.methodLink "Replen" (167 : Nat) ({ cls := "java/lang/UnsupportedOperationException", name := "<init>", desc := "(Ljava/lang/String;)V" } : Jvm.MethodName)) ∈ ALL := in_ALL 514 rfl rfl
set_option maxRecDepth 100000 in
theorem w_499 : (Jvm.Cond.instanceMethod ({ cls := "java/lang/UnsupportedOperationException", name := "<init>", desc := "(Ljava/lang/String;)V" } : Jvm.MethodName)) ∈ ALL := in_ALL 515 rfl rfl
set_option maxRecDepth 100000 in
theorem w_500 : (Jvm.Cond.code ({ cls := "java/lang/UnsupportedOperationException", name := "<init>", desc := "(Ljava/lang/String;)V" } : Jvm.MethodName) prog_18_method_2_code (2 : Nat) (Option.none : Option Jvm.ClassFile.FieldType)) ∈ ALL := in_ALL 516 rfl rfl
set_option maxRecDepth 100000 in
theorem w_501 : (Jvm.Cond.methodLink "java/lang/UnsupportedOperationException" (7 : Nat) ({ cls := "java/lang/RuntimeException", name := "<init>", desc := "(Ljava/lang/String;)V" } : Jvm.MethodName)) ∈ ALL := in_ALL 517 rfl rfl
set_option maxRecDepth 100000 in
theorem w_504 : (Jvm.Cond.methodLink "Replen" (168 : Nat) ({ cls := "Replen$Line", name := "sell", desc := "(II)I" } : Jvm.MethodName)) ∈ ALL := in_ALL 520 rfl rfl
set_option maxRecDepth 100000 in
theorem w_505 : (Jvm.Cond.instanceMethod ({ cls := "Replen$Line", name := "sell", desc := "(II)I" } : Jvm.MethodName)) ∈ ALL := in_ALL 521 rfl rfl
set_option maxRecDepth 100000 in
theorem w_506 : (Jvm.Cond.selects "Replen$Line" ({ cls := "Replen$Line", name := "sell", desc := "(II)I" } : Jvm.MethodName) ({ cls := "Replen$Line", name := "sell", desc := "(II)I" } : Jvm.MethodName)) ∈ ALL := in_ALL 522 rfl rfl
set_option maxRecDepth 100000 in
theorem w_507 : (Jvm.Cond.code ({ cls := "Replen$Line", name := "sell", desc := "(II)I" } : Jvm.MethodName) prog_5_method_2_code (4 : Nat) (Option.some Jvm.ClassFile.FieldType.int)) ∈ ALL := in_ALL 523 rfl rfl
set_option maxRecDepth 100000 in
theorem w_508 : (Jvm.Cond.methodLink "Replen$Line" (68 : Nat) ({ cls := "java/lang/Math", name := "min", desc := "(II)I" } : Jvm.MethodName)) ∈ ALL := in_ALL 524 rfl rfl
set_option maxRecDepth 100000 in
theorem w_509 : (Jvm.Cond.static ({ cls := "java/lang/Math", name := "min", desc := "(II)I" } : Jvm.MethodName)) ∈ ALL := in_ALL 525 rfl rfl
set_option maxRecDepth 100000 in
theorem w_510 : (Jvm.Cond.code ({ cls := "java/lang/Math", name := "min", desc := "(II)I" } : Jvm.MethodName) prog_14_method_69_code (2 : Nat) (Option.some Jvm.ClassFile.FieldType.int)) ∈ ALL := in_ALL 526 rfl rfl
set_option maxRecDepth 100000 in
theorem w_511 : (Jvm.Cond.methodLink "Replen$Line" (74 : Nat) ({ cls := "Replen$DayBook", name := "add", desc := "(II)V" } : Jvm.MethodName)) ∈ ALL := in_ALL 527 rfl rfl
set_option maxRecDepth 100000 in
theorem w_512 : (Jvm.Cond.methodLink "ReplenLaw" (172 : Nat) ({ cls := "ReplenLaw", name := "night", desc := "(LReplen;)I" } : Jvm.MethodName)) ∈ ALL := in_ALL 528 rfl rfl
set_option maxRecDepth 100000 in
theorem w_513 : (Jvm.Cond.static ({ cls := "ReplenLaw", name := "night", desc := "(LReplen;)I" } : Jvm.MethodName)) ∈ ALL := in_ALL 529 rfl rfl
set_option maxRecDepth 100000 in
theorem w_514 : (Jvm.Cond.codeWith ({ cls := "ReplenLaw", name := "night", desc := "(LReplen;)I" } : Jvm.MethodName) method_14_code (2 : Nat) (Option.some Jvm.ClassFile.FieldType.int) [((0 : Nat), (4 : Nat), (5 : Nat), (22 : Nat))]) ∈ ALL := in_ALL 530 rfl rfl
set_option maxRecDepth 100000 in
theorem w_515 : (Jvm.Cond.methodLink "ReplenLaw" (61 : Nat) ({ cls := "Replen", name := "night", desc := "()I" } : Jvm.MethodName)) ∈ ALL := in_ALL 531 rfl rfl
set_option maxRecDepth 100000 in
theorem w_516 : (Jvm.Cond.instanceMethod ({ cls := "Replen", name := "night", desc := "()I" } : Jvm.MethodName)) ∈ ALL := in_ALL 532 rfl rfl
set_option maxRecDepth 100000 in
theorem w_517 : (Jvm.Cond.selects "Replen" ({ cls := "Replen", name := "night", desc := "()I" } : Jvm.MethodName) ({ cls := "Replen", name := "night", desc := "()I" } : Jvm.MethodName)) ∈ ALL := in_ALL 533 rfl rfl
set_option maxRecDepth 100000 in
theorem w_518 : (Jvm.Cond.code ({ cls := "Replen", name := "night", desc := "()I" } : Jvm.MethodName) prog_1_method_12_code (3 : Nat) (Option.some Jvm.ClassFile.FieldType.int)) ∈ ALL := in_ALL 534 rfl rfl
set_option maxRecDepth 100000 in
theorem w_520 : (Jvm.Cond.methodLink "Replen" (173 : Nat) ({ cls := "Replen", name := "learnToday", desc := "()V" } : Jvm.MethodName)) ∈ ALL := in_ALL 536 rfl rfl
set_option maxRecDepth 100000 in
theorem w_522 : (Jvm.Cond.instanceMethod ({ cls := "Replen", name := "learnToday", desc := "()V" } : Jvm.MethodName)) ∈ ALL := in_ALL 538 rfl rfl
set_option maxRecDepth 100000 in
theorem w_523 : (Jvm.Cond.code ({ cls := "Replen", name := "learnToday", desc := "()V" } : Jvm.MethodName) prog_1_method_44_code (3 : Nat) (Option.none : Option Jvm.ClassFile.FieldType)) ∈ ALL := in_ALL 539 rfl rfl
set_option maxRecDepth 100000 in
theorem w_524 : (Jvm.Cond.methodLink "Replen" (280 : Nat) ({ cls := "Replen$Line", name := "learnFrom", desc := "(III)V" } : Jvm.MethodName)) ∈ ALL := in_ALL 540 rfl rfl
set_option maxRecDepth 100000 in
theorem w_525 : (Jvm.Cond.instanceMethod ({ cls := "Replen$Line", name := "learnFrom", desc := "(III)V" } : Jvm.MethodName)) ∈ ALL := in_ALL 541 rfl rfl
set_option maxRecDepth 100000 in
theorem w_526 : (Jvm.Cond.selects "Replen$Line" ({ cls := "Replen$Line", name := "learnFrom", desc := "(III)V" } : Jvm.MethodName) ({ cls := "Replen$Line", name := "learnFrom", desc := "(III)V" } : Jvm.MethodName)) ∈ ALL := in_ALL 542 rfl rfl
set_option maxRecDepth 100000 in
theorem w_527 : (Jvm.Cond.code ({ cls := "Replen$Line", name := "learnFrom", desc := "(III)V" } : Jvm.MethodName) prog_5_method_3_code (6 : Nat) (Option.none : Option Jvm.ClassFile.FieldType)) ∈ ALL := in_ALL 543 rfl rfl
set_option maxRecDepth 100000 in
theorem w_528 : (Jvm.Cond.methodLink "Replen$Line" (82 : Nat) ({ cls := "Replen$Learner", name := "unitsFor", desc := "(I)I" } : Jvm.MethodName)) ∈ ALL := in_ALL 544 rfl rfl
set_option maxRecDepth 100000 in
theorem w_529 : (Jvm.Cond.instanceMethod ({ cls := "Replen$Learner", name := "unitsFor", desc := "(I)I" } : Jvm.MethodName)) ∈ ALL := in_ALL 545 rfl rfl
set_option maxRecDepth 100000 in
theorem w_530 : (Jvm.Cond.selects "Replen$Learner" ({ cls := "Replen$Learner", name := "unitsFor", desc := "(I)I" } : Jvm.MethodName) ({ cls := "Replen$Learner", name := "unitsFor", desc := "(I)I" } : Jvm.MethodName)) ∈ ALL := in_ALL 546 rfl rfl
set_option maxRecDepth 100000 in
theorem w_531 : (Jvm.Cond.code ({ cls := "Replen$Learner", name := "unitsFor", desc := "(I)I" } : Jvm.MethodName) prog_4_method_5_code (2 : Nat) (Option.some Jvm.ClassFile.FieldType.int)) ∈ ALL := in_ALL 547 rfl rfl
set_option maxRecDepth 100000 in
theorem w_532 : (Jvm.Cond.methodLink "Replen$Learner" (25 : Nat) ({ cls := "Replen$Learner", name := "thousandthsFor", desc := "(I)I" } : Jvm.MethodName)) ∈ ALL := in_ALL 548 rfl rfl
set_option maxRecDepth 100000 in
theorem w_533 : (Jvm.Cond.instanceMethod ({ cls := "Replen$Learner", name := "thousandthsFor", desc := "(I)I" } : Jvm.MethodName)) ∈ ALL := in_ALL 549 rfl rfl
set_option maxRecDepth 100000 in
theorem w_534 : (Jvm.Cond.selects "Replen$Learner" ({ cls := "Replen$Learner", name := "thousandthsFor", desc := "(I)I" } : Jvm.MethodName) ({ cls := "Replen$Learner", name := "thousandthsFor", desc := "(I)I" } : Jvm.MethodName)) ∈ ALL := in_ALL 550 rfl rfl
set_option maxRecDepth 100000 in
theorem w_535 : (Jvm.Cond.code ({ cls := "Replen$Learner", name := "thousandthsFor", desc := "(I)I" } : Jvm.MethodName) prog_4_method_4_code (2 : Nat) (Option.some Jvm.ClassFile.FieldType.int)) ∈ ALL := in_ALL 551 rfl rfl
set_option maxRecDepth 100000 in
theorem w_536 : (Jvm.Cond.methodLink "Replen$Learner" (19 : Nat) ({ cls := "Replen$Learner", name := "seasonOf", desc := "(I)I" } : Jvm.MethodName)) ∈ ALL := in_ALL 552 rfl rfl
set_option maxRecDepth 100000 in
theorem w_537 : (Jvm.Cond.instanceMethod ({ cls := "Replen$Learner", name := "seasonOf", desc := "(I)I" } : Jvm.MethodName)) ∈ ALL := in_ALL 553 rfl rfl
set_option maxRecDepth 100000 in
theorem w_538 : (Jvm.Cond.selects "Replen$Learner" ({ cls := "Replen$Learner", name := "seasonOf", desc := "(I)I" } : Jvm.MethodName) ({ cls := "Replen$Learner", name := "seasonOf", desc := "(I)I" } : Jvm.MethodName)) ∈ ALL := in_ALL 554 rfl rfl
set_option maxRecDepth 100000 in
theorem w_539 : (Jvm.Cond.code ({ cls := "Replen$Learner", name := "seasonOf", desc := "(I)I" } : Jvm.MethodName) prog_4_method_3_code (2 : Nat) (Option.some Jvm.ClassFile.FieldType.int)) ∈ ALL := in_ALL 555 rfl rfl
set_option maxRecDepth 100000 in
theorem w_540 : (Jvm.Cond.constantLong "Replen$Learner" (23 : Nat) (1000 : Int64)) ∈ ALL := in_ALL 556 rfl rfl
set_option maxRecDepth 100000 in
theorem w_541 : (Jvm.Cond.methodLink "Replen$Line" (85 : Nat) ({ cls := "java/lang/Math", name := "abs", desc := "(I)I" } : Jvm.MethodName)) ∈ ALL := in_ALL 557 rfl rfl
set_option maxRecDepth 100000 in
theorem w_542 : (Jvm.Cond.static ({ cls := "java/lang/Math", name := "abs", desc := "(I)I" } : Jvm.MethodName)) ∈ ALL := in_ALL 558 rfl rfl
set_option maxRecDepth 100000 in
theorem w_543 : (Jvm.Cond.code ({ cls := "java/lang/Math", name := "abs", desc := "(I)I" } : Jvm.MethodName) prog_14_method_59_code (1 : Nat) (Option.some Jvm.ClassFile.FieldType.int)) ∈ ALL := in_ALL 559 rfl rfl
set_option maxRecDepth 100000 in
theorem w_544 : (Jvm.Cond.methodLink "Replen$Line" (88 : Nat) ({ cls := "Replen$Learner", name := "learn", desc := "(IIII)V" } : Jvm.MethodName)) ∈ ALL := in_ALL 560 rfl rfl
set_option maxRecDepth 100000 in
theorem w_545 : (Jvm.Cond.instanceMethod ({ cls := "Replen$Learner", name := "learn", desc := "(IIII)V" } : Jvm.MethodName)) ∈ ALL := in_ALL 561 rfl rfl
set_option maxRecDepth 100000 in
theorem w_546 : (Jvm.Cond.selects "Replen$Learner" ({ cls := "Replen$Learner", name := "learn", desc := "(IIII)V" } : Jvm.MethodName) ({ cls := "Replen$Learner", name := "learn", desc := "(IIII)V" } : Jvm.MethodName)) ∈ ALL := in_ALL 562 rfl rfl
set_option maxRecDepth 100000 in
theorem w_547 : (Jvm.Cond.code ({ cls := "Replen$Learner", name := "learn", desc := "(IIII)V" } : Jvm.MethodName) prog_4_method_6_code (11 : Nat) (Option.none : Option Jvm.ClassFile.FieldType)) ∈ ALL := in_ALL 563 rfl rfl
set_option maxRecDepth 100000 in
theorem w_548 : (Jvm.Cond.constantLong "Replen$Learner" (28 : Nat) (1000000 : Int64)) ∈ ALL := in_ALL 564 rfl rfl
set_option maxRecDepth 100000 in
theorem w_549 : (Jvm.Cond.constantLong "Replen$Learner" (30 : Nat) (100 : Int64)) ∈ ALL := in_ALL 565 rfl rfl
set_option maxRecDepth 100000 in
theorem w_550 : (Jvm.Cond.methodLink "Replen$Learner" (32 : Nat) ({ cls := "java/lang/Math", name := "floorDiv", desc := "(JJ)J" } : Jvm.MethodName)) ∈ ALL := in_ALL 566 rfl rfl
set_option maxRecDepth 100000 in
theorem w_551 : (Jvm.Cond.static ({ cls := "java/lang/Math", name := "floorDiv", desc := "(JJ)J" } : Jvm.MethodName)) ∈ ALL := in_ALL 567 rfl rfl
set_option maxRecDepth 100000 in
theorem w_552 : (Jvm.Cond.code ({ cls := "java/lang/Math", name := "floorDiv", desc := "(JJ)J" } : Jvm.MethodName) prog_14_method_49_code (6 : Nat) (Option.some Jvm.ClassFile.FieldType.long)) ∈ ALL := in_ALL 568 rfl rfl
set_option maxRecDepth 100000 in
theorem w_553 : (Jvm.Cond.constantLong "Replen$Learner" (38 : Nat) (5000 : Int64)) ∈ ALL := in_ALL 569 rfl rfl
set_option maxRecDepth 100000 in
theorem w_554 : (Jvm.Cond.methodLink "Replen$Learner" (40 : Nat) ({ cls := "java/lang/Math", name := "min", desc := "(JJ)J" } : Jvm.MethodName)) ∈ ALL := in_ALL 570 rfl rfl
set_option maxRecDepth 100000 in
theorem w_555 : (Jvm.Cond.static ({ cls := "java/lang/Math", name := "min", desc := "(JJ)J" } : Jvm.MethodName)) ∈ ALL := in_ALL 571 rfl rfl
set_option maxRecDepth 100000 in
theorem w_556 : (Jvm.Cond.code ({ cls := "java/lang/Math", name := "min", desc := "(JJ)J" } : Jvm.MethodName) prog_14_method_70_code (4 : Nat) (Option.some Jvm.ClassFile.FieldType.long)) ∈ ALL := in_ALL 572 rfl rfl
set_option maxRecDepth 100000 in
theorem w_557 : (Jvm.Cond.methodLink "Replen$Learner" (43 : Nat) ({ cls := "java/lang/Math", name := "max", desc := "(JJ)J" } : Jvm.MethodName)) ∈ ALL := in_ALL 573 rfl rfl
set_option maxRecDepth 100000 in
theorem w_558 : (Jvm.Cond.static ({ cls := "java/lang/Math", name := "max", desc := "(JJ)J" } : Jvm.MethodName)) ∈ ALL := in_ALL 574 rfl rfl
set_option maxRecDepth 100000 in
theorem w_559 : (Jvm.Cond.code ({ cls := "java/lang/Math", name := "max", desc := "(JJ)J" } : Jvm.MethodName) prog_14_method_66_code (4 : Nat) (Option.some Jvm.ClassFile.FieldType.long)) ∈ ALL := in_ALL 575 rfl rfl
set_option maxRecDepth 100000 in
theorem w_560 : (Jvm.Cond.methodLink "Replen" (176 : Nat) ({ cls := "Replen", name := "receiveToday", desc := "()V" } : Jvm.MethodName)) ∈ ALL := in_ALL 576 rfl rfl
set_option maxRecDepth 100000 in
theorem w_562 : (Jvm.Cond.instanceMethod ({ cls := "Replen", name := "receiveToday", desc := "()V" } : Jvm.MethodName)) ∈ ALL := in_ALL 578 rfl rfl
set_option maxRecDepth 100000 in
theorem w_563 : (Jvm.Cond.code ({ cls := "Replen", name := "receiveToday", desc := "()V" } : Jvm.MethodName) prog_1_method_45_code (3 : Nat) (Option.none : Option Jvm.ClassFile.FieldType)) ∈ ALL := in_ALL 579 rfl rfl
set_option maxRecDepth 100000 in
theorem w_564 : (Jvm.Cond.methodLink "Replen" (179 : Nat) ({ cls := "Replen", name := "sendPacks", desc := "(I)I" } : Jvm.MethodName)) ∈ ALL := in_ALL 580 rfl rfl
set_option maxRecDepth 100000 in
theorem w_566 : (Jvm.Cond.instanceMethod ({ cls := "Replen", name := "sendPacks", desc := "(I)I" } : Jvm.MethodName)) ∈ ALL := in_ALL 582 rfl rfl
set_option maxRecDepth 100000 in
theorem w_567 : (Jvm.Cond.code ({ cls := "Replen", name := "sendPacks", desc := "(I)I" } : Jvm.MethodName) prog_1_method_47_code (6 : Nat) (Option.some Jvm.ClassFile.FieldType.int)) ∈ ALL := in_ALL 583 rfl rfl
set_option maxRecDepth 100000 in
theorem w_568 : (Jvm.Cond.methodLink "Replen" (244 : Nat) ({ cls := "Replen", name := "askForAll", desc := "(I)V" } : Jvm.MethodName)) ∈ ALL := in_ALL 584 rfl rfl
set_option maxRecDepth 100000 in
theorem w_570 : (Jvm.Cond.instanceMethod ({ cls := "Replen", name := "askForAll", desc := "(I)V" } : Jvm.MethodName)) ∈ ALL := in_ALL 586 rfl rfl
set_option maxRecDepth 100000 in
theorem w_571 : (Jvm.Cond.code ({ cls := "Replen", name := "askForAll", desc := "(I)V" } : Jvm.MethodName) prog_1_method_46_code (5 : Nat) (Option.none : Option Jvm.ClassFile.FieldType)) ∈ ALL := in_ALL 587 rfl rfl
set_option maxRecDepth 100000 in
theorem w_572 : (Jvm.Cond.methodLink "Replen" (287 : Nat) ({ cls := "Replen$Item", name := "wholePacks", desc := "()I" } : Jvm.MethodName)) ∈ ALL := in_ALL 588 rfl rfl
set_option maxRecDepth 100000 in
theorem w_573 : (Jvm.Cond.instanceMethod ({ cls := "Replen$Item", name := "wholePacks", desc := "()I" } : Jvm.MethodName)) ∈ ALL := in_ALL 589 rfl rfl
set_option maxRecDepth 100000 in
theorem w_574 : (Jvm.Cond.selects "Replen$Item" ({ cls := "Replen$Item", name := "wholePacks", desc := "()I" } : Jvm.MethodName) ({ cls := "Replen$Item", name := "wholePacks", desc := "()I" } : Jvm.MethodName)) ∈ ALL := in_ALL 590 rfl rfl
set_option maxRecDepth 100000 in
theorem w_575 : (Jvm.Cond.code ({ cls := "Replen$Item", name := "wholePacks", desc := "()I" } : Jvm.MethodName) prog_3_method_5_code (1 : Nat) (Option.some Jvm.ClassFile.FieldType.int)) ∈ ALL := in_ALL 591 rfl rfl
set_option maxRecDepth 100000 in
theorem w_576 : (Jvm.Cond.methodLink "Replen" (291 : Nat) ({ cls := "Replen$Sharing", name := "start", desc := "(I)V" } : Jvm.MethodName)) ∈ ALL := in_ALL 592 rfl rfl
set_option maxRecDepth 100000 in
theorem w_577 : (Jvm.Cond.instanceMethod ({ cls := "Replen$Sharing", name := "start", desc := "(I)V" } : Jvm.MethodName)) ∈ ALL := in_ALL 593 rfl rfl
set_option maxRecDepth 100000 in
theorem w_578 : (Jvm.Cond.selects "Replen$Sharing" ({ cls := "Replen$Sharing", name := "start", desc := "(I)V" } : Jvm.MethodName) ({ cls := "Replen$Sharing", name := "start", desc := "(I)V" } : Jvm.MethodName)) ∈ ALL := in_ALL 594 rfl rfl
set_option maxRecDepth 100000 in
theorem w_579 : (Jvm.Cond.code ({ cls := "Replen$Sharing", name := "start", desc := "(I)V" } : Jvm.MethodName) prog_6_method_2_code (3 : Nat) (Option.none : Option Jvm.ClassFile.FieldType)) ∈ ALL := in_ALL 595 rfl rfl
set_option maxRecDepth 100000 in
theorem w_580 : (Jvm.Cond.methodLink "Replen" (241 : Nat) ({ cls := "Replen$Line", name := "requestOn", desc := "(II)I" } : Jvm.MethodName)) ∈ ALL := in_ALL 596 rfl rfl
set_option maxRecDepth 100000 in
theorem w_581 : (Jvm.Cond.instanceMethod ({ cls := "Replen$Line", name := "requestOn", desc := "(II)I" } : Jvm.MethodName)) ∈ ALL := in_ALL 597 rfl rfl
set_option maxRecDepth 100000 in
theorem w_582 : (Jvm.Cond.selects "Replen$Line" ({ cls := "Replen$Line", name := "requestOn", desc := "(II)I" } : Jvm.MethodName) ({ cls := "Replen$Line", name := "requestOn", desc := "(II)I" } : Jvm.MethodName)) ∈ ALL := in_ALL 598 rfl rfl
set_option maxRecDepth 100000 in
theorem w_583 : (Jvm.Cond.code ({ cls := "Replen$Line", name := "requestOn", desc := "(II)I" } : Jvm.MethodName) prog_5_method_10_code (3 : Nat) (Option.some Jvm.ClassFile.FieldType.int)) ∈ ALL := in_ALL 599 rfl rfl
set_option maxRecDepth 100000 in
theorem w_584 : (Jvm.Cond.methodLink "Replen$Line" (113 : Nat) ({ cls := "Replen$Line", name := "needOn", desc := "(II)I" } : Jvm.MethodName)) ∈ ALL := in_ALL 600 rfl rfl
set_option maxRecDepth 100000 in
theorem w_585 : (Jvm.Cond.instanceMethod ({ cls := "Replen$Line", name := "needOn", desc := "(II)I" } : Jvm.MethodName)) ∈ ALL := in_ALL 601 rfl rfl
set_option maxRecDepth 100000 in
theorem w_586 : (Jvm.Cond.selects "Replen$Line" ({ cls := "Replen$Line", name := "needOn", desc := "(II)I" } : Jvm.MethodName) ({ cls := "Replen$Line", name := "needOn", desc := "(II)I" } : Jvm.MethodName)) ∈ ALL := in_ALL 602 rfl rfl
set_option maxRecDepth 100000 in
theorem w_587 : (Jvm.Cond.code ({ cls := "Replen$Line", name := "needOn", desc := "(II)I" } : Jvm.MethodName) prog_5_method_9_code (6 : Nat) (Option.some Jvm.ClassFile.FieldType.int)) ∈ ALL := in_ALL 603 rfl rfl
set_option maxRecDepth 100000 in
theorem w_588 : (Jvm.Cond.methodLink "Replen$Line" (100 : Nat) ({ cls := "Replen$Learner", name := "thousandthsFor", desc := "(I)I" } : Jvm.MethodName)) ∈ ALL := in_ALL 604 rfl rfl
set_option maxRecDepth 100000 in
theorem w_589 : (Jvm.Cond.constantLong "Replen$Line" (103 : Nat) (999 : Int64)) ∈ ALL := in_ALL 605 rfl rfl
set_option maxRecDepth 100000 in
theorem w_590 : (Jvm.Cond.constantLong "Replen$Line" (105 : Nat) (1000 : Int64)) ∈ ALL := in_ALL 606 rfl rfl
set_option maxRecDepth 100000 in
theorem w_591 : (Jvm.Cond.methodLink "Replen$Line" (107 : Nat) ({ cls := "Replen$Line", name := "safetyAt", desc := "(I)I" } : Jvm.MethodName)) ∈ ALL := in_ALL 607 rfl rfl
set_option maxRecDepth 100000 in
theorem w_592 : (Jvm.Cond.instanceMethod ({ cls := "Replen$Line", name := "safetyAt", desc := "(I)I" } : Jvm.MethodName)) ∈ ALL := in_ALL 608 rfl rfl
set_option maxRecDepth 100000 in
theorem w_593 : (Jvm.Cond.selects "Replen$Line" ({ cls := "Replen$Line", name := "safetyAt", desc := "(I)I" } : Jvm.MethodName) ({ cls := "Replen$Line", name := "safetyAt", desc := "(I)I" } : Jvm.MethodName)) ∈ ALL := in_ALL 609 rfl rfl
set_option maxRecDepth 100000 in
theorem w_594 : (Jvm.Cond.code ({ cls := "Replen$Line", name := "safetyAt", desc := "(I)I" } : Jvm.MethodName) prog_5_method_5_code (4 : Nat) (Option.some Jvm.ClassFile.FieldType.int)) ∈ ALL := in_ALL 610 rfl rfl
set_option maxRecDepth 100000 in
theorem w_595 : (Jvm.Cond.methodLink "Replen$Line" (110 : Nat) ({ cls := "Replen$Line", name := "dueAfter", desc := "(I)I" } : Jvm.MethodName)) ∈ ALL := in_ALL 611 rfl rfl
set_option maxRecDepth 100000 in
theorem w_596 : (Jvm.Cond.methodLink "Replen$Line" (116 : Nat) ({ cls := "Replen$Item", name := "packsFor", desc := "(I)I" } : Jvm.MethodName)) ∈ ALL := in_ALL 612 rfl rfl
set_option maxRecDepth 100000 in
theorem w_597 : (Jvm.Cond.instanceMethod ({ cls := "Replen$Item", name := "packsFor", desc := "(I)I" } : Jvm.MethodName)) ∈ ALL := in_ALL 613 rfl rfl
set_option maxRecDepth 100000 in
theorem w_598 : (Jvm.Cond.selects "Replen$Item" ({ cls := "Replen$Item", name := "packsFor", desc := "(I)I" } : Jvm.MethodName) ({ cls := "Replen$Item", name := "packsFor", desc := "(I)I" } : Jvm.MethodName)) ∈ ALL := in_ALL 614 rfl rfl
set_option maxRecDepth 100000 in
theorem w_599 : (Jvm.Cond.code ({ cls := "Replen$Item", name := "packsFor", desc := "(I)I" } : Jvm.MethodName) prog_3_method_6_code (2 : Nat) (Option.some Jvm.ClassFile.FieldType.int)) ∈ ALL := in_ALL 615 rfl rfl
set_option maxRecDepth 100000 in
theorem w_600 : (Jvm.Cond.methodLink "Replen" (292 : Nat) ({ cls := "Replen$Sharing", name := "ask", desc := "(II)V" } : Jvm.MethodName)) ∈ ALL := in_ALL 616 rfl rfl
set_option maxRecDepth 100000 in
theorem w_601 : (Jvm.Cond.instanceMethod ({ cls := "Replen$Sharing", name := "ask", desc := "(II)V" } : Jvm.MethodName)) ∈ ALL := in_ALL 617 rfl rfl
set_option maxRecDepth 100000 in
theorem w_602 : (Jvm.Cond.selects "Replen$Sharing" ({ cls := "Replen$Sharing", name := "ask", desc := "(II)V" } : Jvm.MethodName) ({ cls := "Replen$Sharing", name := "ask", desc := "(II)V" } : Jvm.MethodName)) ∈ ALL := in_ALL 618 rfl rfl
set_option maxRecDepth 100000 in
theorem w_603 : (Jvm.Cond.code ({ cls := "Replen$Sharing", name := "ask", desc := "(II)V" } : Jvm.MethodName) prog_6_method_3_code (3 : Nat) (Option.none : Option Jvm.ClassFile.FieldType)) ∈ ALL := in_ALL 619 rfl rfl
set_option maxRecDepth 100000 in
theorem w_604 : (Jvm.Cond.methodLink "Replen" (247 : Nat) ({ cls := "Replen$Sharing", name := "counted", desc := "(I)I" } : Jvm.MethodName)) ∈ ALL := in_ALL 620 rfl rfl
set_option maxRecDepth 100000 in
theorem w_605 : (Jvm.Cond.instanceMethod ({ cls := "Replen$Sharing", name := "counted", desc := "(I)I" } : Jvm.MethodName)) ∈ ALL := in_ALL 621 rfl rfl
set_option maxRecDepth 100000 in
theorem w_606 : (Jvm.Cond.selects "Replen$Sharing" ({ cls := "Replen$Sharing", name := "counted", desc := "(I)I" } : Jvm.MethodName) ({ cls := "Replen$Sharing", name := "counted", desc := "(I)I" } : Jvm.MethodName)) ∈ ALL := in_ALL 622 rfl rfl
set_option maxRecDepth 100000 in
theorem w_607 : (Jvm.Cond.code ({ cls := "Replen$Sharing", name := "counted", desc := "(I)I" } : Jvm.MethodName) prog_6_method_4_code (6 : Nat) (Option.some Jvm.ClassFile.FieldType.int)) ∈ ALL := in_ALL 623 rfl rfl
set_option maxRecDepth 100000 in
theorem w_608 : (Jvm.Cond.methodLink "Replen$Sharing" (22 : Nat) ({ cls := "Replen$Sharing", name := "givenAhead", desc := "(II)J" } : Jvm.MethodName)) ∈ ALL := in_ALL 624 rfl rfl
set_option maxRecDepth 100000 in
theorem w_610 : (Jvm.Cond.instanceMethod ({ cls := "Replen$Sharing", name := "givenAhead", desc := "(II)J" } : Jvm.MethodName)) ∈ ALL := in_ALL 626 rfl rfl
set_option maxRecDepth 100000 in
theorem w_611 : (Jvm.Cond.code ({ cls := "Replen$Sharing", name := "givenAhead", desc := "(II)J" } : Jvm.MethodName) prog_6_method_5_code (10 : Nat) (Option.some Jvm.ClassFile.FieldType.long)) ∈ ALL := in_ALL 627 rfl rfl
set_option maxRecDepth 100000 in
theorem w_612 : (Jvm.Cond.methodLink "Replen" (295 : Nat) ({ cls := "Replen$Line", name := "send", desc := "(II)V" } : Jvm.MethodName)) ∈ ALL := in_ALL 628 rfl rfl
set_option maxRecDepth 100000 in
theorem w_613 : (Jvm.Cond.instanceMethod ({ cls := "Replen$Line", name := "send", desc := "(II)V" } : Jvm.MethodName)) ∈ ALL := in_ALL 629 rfl rfl
set_option maxRecDepth 100000 in
theorem w_614 : (Jvm.Cond.selects "Replen$Line" ({ cls := "Replen$Line", name := "send", desc := "(II)V" } : Jvm.MethodName) ({ cls := "Replen$Line", name := "send", desc := "(II)V" } : Jvm.MethodName)) ∈ ALL := in_ALL 630 rfl rfl
set_option maxRecDepth 100000 in
theorem w_615 : (Jvm.Cond.code ({ cls := "Replen$Line", name := "send", desc := "(II)V" } : Jvm.MethodName) prog_5_method_7_code (4 : Nat) (Option.none : Option Jvm.ClassFile.FieldType)) ∈ ALL := in_ALL 631 rfl rfl
set_option maxRecDepth 100000 in
theorem w_616 : (Jvm.Cond.methodLink "Replen$Line" (97 : Nat) ({ cls := "Replen$Item", name := "giveOut", desc := "(II)V" } : Jvm.MethodName)) ∈ ALL := in_ALL 632 rfl rfl
set_option maxRecDepth 100000 in
theorem w_617 : (Jvm.Cond.instanceMethod ({ cls := "Replen$Item", name := "giveOut", desc := "(II)V" } : Jvm.MethodName)) ∈ ALL := in_ALL 633 rfl rfl
set_option maxRecDepth 100000 in
theorem w_618 : (Jvm.Cond.selects "Replen$Item" ({ cls := "Replen$Item", name := "giveOut", desc := "(II)V" } : Jvm.MethodName) ({ cls := "Replen$Item", name := "giveOut", desc := "(II)V" } : Jvm.MethodName)) ∈ ALL := in_ALL 634 rfl rfl
set_option maxRecDepth 100000 in
theorem w_619 : (Jvm.Cond.code ({ cls := "Replen$Item", name := "giveOut", desc := "(II)V" } : Jvm.MethodName) prog_3_method_4_code (3 : Nat) (Option.none : Option Jvm.ClassFile.FieldType)) ∈ ALL := in_ALL 635 rfl rfl
set_option maxRecDepth 100000 in
theorem w_620 : (Jvm.Cond.methodLink "ReplenLaw" (161 : Nat) ({ cls := "ReplenLaw", name := "demandToday", desc := "(LReplen;II)I" } : Jvm.MethodName)) ∈ ALL := in_ALL 636 rfl rfl
set_option maxRecDepth 100000 in
theorem w_621 : (Jvm.Cond.static ({ cls := "ReplenLaw", name := "demandToday", desc := "(LReplen;II)I" } : Jvm.MethodName)) ∈ ALL := in_ALL 637 rfl rfl
set_option maxRecDepth 100000 in
theorem w_622 : (Jvm.Cond.codeWith ({ cls := "ReplenLaw", name := "demandToday", desc := "(LReplen;II)I" } : Jvm.MethodName) method_15_code (4 : Nat) (Option.some Jvm.ClassFile.FieldType.int) [((0 : Nat), (6 : Nat), (7 : Nat), (32 : Nat)), ((0 : Nat), (6 : Nat), (11 : Nat), (57 : Nat))]) ∈ ALL := in_ALL 638 rfl rfl
set_option maxRecDepth 100000 in
theorem w_623 : (Jvm.Cond.methodLink "ReplenLaw" (65 : Nat) ({ cls := "Replen", name := "demandToday", desc := "(II)I" } : Jvm.MethodName)) ∈ ALL := in_ALL 639 rfl rfl
set_option maxRecDepth 100000 in
theorem w_624 : (Jvm.Cond.instanceMethod ({ cls := "Replen", name := "demandToday", desc := "(II)I" } : Jvm.MethodName)) ∈ ALL := in_ALL 640 rfl rfl
set_option maxRecDepth 100000 in
theorem w_625 : (Jvm.Cond.selects "Replen" ({ cls := "Replen", name := "demandToday", desc := "(II)I" } : Jvm.MethodName) ({ cls := "Replen", name := "demandToday", desc := "(II)I" } : Jvm.MethodName)) ∈ ALL := in_ALL 641 rfl rfl
set_option maxRecDepth 100000 in
theorem w_626 : (Jvm.Cond.code ({ cls := "Replen", name := "demandToday", desc := "(II)I" } : Jvm.MethodName) prog_1_method_14_code (3 : Nat) (Option.some Jvm.ClassFile.FieldType.int)) ∈ ALL := in_ALL 642 rfl rfl
set_option maxRecDepth 100000 in
theorem w_627 : (Jvm.Cond.methodLink "ReplenLaw" (141 : Nat) ({ cls := "ReplenLaw", name := "level", desc := "(LReplen;II)I" } : Jvm.MethodName)) ∈ ALL := in_ALL 643 rfl rfl
set_option maxRecDepth 100000 in
theorem w_628 : (Jvm.Cond.static ({ cls := "ReplenLaw", name := "level", desc := "(LReplen;II)I" } : Jvm.MethodName)) ∈ ALL := in_ALL 644 rfl rfl
set_option maxRecDepth 100000 in
theorem w_629 : (Jvm.Cond.codeWith ({ cls := "ReplenLaw", name := "level", desc := "(LReplen;II)I" } : Jvm.MethodName) method_16_code (4 : Nat) (Option.some Jvm.ClassFile.FieldType.int) [((0 : Nat), (6 : Nat), (7 : Nat), (32 : Nat)), ((0 : Nat), (6 : Nat), (11 : Nat), (57 : Nat))]) ∈ ALL := in_ALL 645 rfl rfl
set_option maxRecDepth 100000 in
theorem w_630 : (Jvm.Cond.methodLink "ReplenLaw" (68 : Nat) ({ cls := "Replen", name := "level", desc := "(II)I" } : Jvm.MethodName)) ∈ ALL := in_ALL 646 rfl rfl
set_option maxRecDepth 100000 in
theorem w_631 : (Jvm.Cond.instanceMethod ({ cls := "Replen", name := "level", desc := "(II)I" } : Jvm.MethodName)) ∈ ALL := in_ALL 647 rfl rfl
set_option maxRecDepth 100000 in
theorem w_632 : (Jvm.Cond.selects "Replen" ({ cls := "Replen", name := "level", desc := "(II)I" } : Jvm.MethodName) ({ cls := "Replen", name := "level", desc := "(II)I" } : Jvm.MethodName)) ∈ ALL := in_ALL 648 rfl rfl
set_option maxRecDepth 100000 in
theorem w_633 : (Jvm.Cond.code ({ cls := "Replen", name := "level", desc := "(II)I" } : Jvm.MethodName) prog_1_method_15_code (3 : Nat) (Option.some Jvm.ClassFile.FieldType.int)) ∈ ALL := in_ALL 649 rfl rfl
set_option maxRecDepth 100000 in
theorem w_634 : (Jvm.Cond.methodLink "ReplenLaw" (143 : Nat) ({ cls := "ReplenLaw", name := "season", desc := "(LReplen;III)I" } : Jvm.MethodName)) ∈ ALL := in_ALL 650 rfl rfl
set_option maxRecDepth 100000 in
theorem w_635 : (Jvm.Cond.static ({ cls := "ReplenLaw", name := "season", desc := "(LReplen;III)I" } : Jvm.MethodName)) ∈ ALL := in_ALL 651 rfl rfl
set_option maxRecDepth 100000 in
theorem w_636 : (Jvm.Cond.codeWith ({ cls := "ReplenLaw", name := "season", desc := "(LReplen;III)I" } : Jvm.MethodName) method_18_code (5 : Nat) (Option.some Jvm.ClassFile.FieldType.int) [((0 : Nat), (7 : Nat), (8 : Nat), (32 : Nat)), ((0 : Nat), (7 : Nat), (13 : Nat), (57 : Nat)), ((0 : Nat), (7 : Nat), (18 : Nat), (20 : Nat))]) ∈ ALL := in_ALL 652 rfl rfl
set_option maxRecDepth 100000 in
theorem w_637 : (Jvm.Cond.methodLink "ReplenLaw" (74 : Nat) ({ cls := "Replen", name := "season", desc := "(III)I" } : Jvm.MethodName)) ∈ ALL := in_ALL 653 rfl rfl
set_option maxRecDepth 100000 in
theorem w_638 : (Jvm.Cond.instanceMethod ({ cls := "Replen", name := "season", desc := "(III)I" } : Jvm.MethodName)) ∈ ALL := in_ALL 654 rfl rfl
set_option maxRecDepth 100000 in
theorem w_639 : (Jvm.Cond.selects "Replen" ({ cls := "Replen", name := "season", desc := "(III)I" } : Jvm.MethodName) ({ cls := "Replen", name := "season", desc := "(III)I" } : Jvm.MethodName)) ∈ ALL := in_ALL 655 rfl rfl
set_option maxRecDepth 100000 in
theorem w_640 : (Jvm.Cond.code ({ cls := "Replen", name := "season", desc := "(III)I" } : Jvm.MethodName) prog_1_method_17_code (5 : Nat) (Option.some Jvm.ClassFile.FieldType.int)) ∈ ALL := in_ALL 656 rfl rfl
set_option maxRecDepth 100000 in
theorem w_642 : (Jvm.Cond.methodLink "Replen" (207 : Nat) ({ cls := "Replen$Learner", name := "seasonOf", desc := "(I)I" } : Jvm.MethodName)) ∈ ALL := in_ALL 658 rfl rfl
set_option maxRecDepth 100000 in
theorem w_643 : (Jvm.Cond.methodLink "ReplenLaw" (139 : Nat) ({ cls := "ReplenLaw", name := "stock", desc := "(LReplen;II)I" } : Jvm.MethodName)) ∈ ALL := in_ALL 659 rfl rfl
set_option maxRecDepth 100000 in
theorem w_644 : (Jvm.Cond.static ({ cls := "ReplenLaw", name := "stock", desc := "(LReplen;II)I" } : Jvm.MethodName)) ∈ ALL := in_ALL 660 rfl rfl
set_option maxRecDepth 100000 in
theorem w_645 : (Jvm.Cond.codeWith ({ cls := "ReplenLaw", name := "stock", desc := "(LReplen;II)I" } : Jvm.MethodName) method_22_code (4 : Nat) (Option.some Jvm.ClassFile.FieldType.int) [((0 : Nat), (6 : Nat), (7 : Nat), (32 : Nat)), ((0 : Nat), (6 : Nat), (11 : Nat), (57 : Nat))]) ∈ ALL := in_ALL 661 rfl rfl
set_option maxRecDepth 100000 in
theorem w_646 : (Jvm.Cond.methodLink "ReplenLaw" (86 : Nat) ({ cls := "Replen", name := "stock", desc := "(II)I" } : Jvm.MethodName)) ∈ ALL := in_ALL 662 rfl rfl
set_option maxRecDepth 100000 in
theorem w_647 : (Jvm.Cond.instanceMethod ({ cls := "Replen", name := "stock", desc := "(II)I" } : Jvm.MethodName)) ∈ ALL := in_ALL 663 rfl rfl
set_option maxRecDepth 100000 in
theorem w_648 : (Jvm.Cond.selects "Replen" ({ cls := "Replen", name := "stock", desc := "(II)I" } : Jvm.MethodName) ({ cls := "Replen", name := "stock", desc := "(II)I" } : Jvm.MethodName)) ∈ ALL := in_ALL 664 rfl rfl
set_option maxRecDepth 100000 in
theorem w_649 : (Jvm.Cond.code ({ cls := "Replen", name := "stock", desc := "(II)I" } : Jvm.MethodName) prog_1_method_21_code (3 : Nat) (Option.some Jvm.ClassFile.FieldType.int)) ∈ ALL := in_ALL 665 rfl rfl
set_option maxRecDepth 100000 in
theorem w_650 : (Jvm.Cond.methodLink "ReplenLaw" (148 : Nat) ({ cls := "ReplenLaw", name := "centre", desc := "(LReplen;I)I" } : Jvm.MethodName)) ∈ ALL := in_ALL 666 rfl rfl
set_option maxRecDepth 100000 in
theorem w_651 : (Jvm.Cond.static ({ cls := "ReplenLaw", name := "centre", desc := "(LReplen;I)I" } : Jvm.MethodName)) ∈ ALL := in_ALL 667 rfl rfl
set_option maxRecDepth 100000 in
theorem w_652 : (Jvm.Cond.codeWith ({ cls := "ReplenLaw", name := "centre", desc := "(LReplen;I)I" } : Jvm.MethodName) method_30_code (3 : Nat) (Option.some Jvm.ClassFile.FieldType.int) [((0 : Nat), (5 : Nat), (6 : Nat), (32 : Nat))]) ∈ ALL := in_ALL 668 rfl rfl
set_option maxRecDepth 100000 in
theorem w_653 : (Jvm.Cond.methodLink "ReplenLaw" (110 : Nat) ({ cls := "Replen", name := "centre", desc := "(I)I" } : Jvm.MethodName)) ∈ ALL := in_ALL 669 rfl rfl
set_option maxRecDepth 100000 in
theorem w_654 : (Jvm.Cond.instanceMethod ({ cls := "Replen", name := "centre", desc := "(I)I" } : Jvm.MethodName)) ∈ ALL := in_ALL 670 rfl rfl
set_option maxRecDepth 100000 in
theorem w_655 : (Jvm.Cond.selects "Replen" ({ cls := "Replen", name := "centre", desc := "(I)I" } : Jvm.MethodName) ({ cls := "Replen", name := "centre", desc := "(I)I" } : Jvm.MethodName)) ∈ ALL := in_ALL 671 rfl rfl
set_option maxRecDepth 100000 in
theorem w_656 : (Jvm.Cond.code ({ cls := "Replen", name := "centre", desc := "(I)I" } : Jvm.MethodName) prog_1_method_29_code (2 : Nat) (Option.some Jvm.ClassFile.FieldType.int)) ∈ ALL := in_ALL 672 rfl rfl
set_option maxRecDepth 100000 in
theorem w_657 : (Jvm.Cond.methodLink "ReplenLaw" (163 : Nat) ({ cls := "ReplenLaw", name := "lost", desc := "(LReplen;II)I" } : Jvm.MethodName)) ∈ ALL := in_ALL 673 rfl rfl
set_option maxRecDepth 100000 in
theorem w_658 : (Jvm.Cond.static ({ cls := "ReplenLaw", name := "lost", desc := "(LReplen;II)I" } : Jvm.MethodName)) ∈ ALL := in_ALL 674 rfl rfl
set_option maxRecDepth 100000 in
theorem w_659 : (Jvm.Cond.codeWith ({ cls := "ReplenLaw", name := "lost", desc := "(LReplen;II)I" } : Jvm.MethodName) method_32_code (4 : Nat) (Option.some Jvm.ClassFile.FieldType.int) [((0 : Nat), (6 : Nat), (7 : Nat), (32 : Nat)), ((0 : Nat), (6 : Nat), (11 : Nat), (57 : Nat))]) ∈ ALL := in_ALL 675 rfl rfl
set_option maxRecDepth 100000 in
theorem w_660 : (Jvm.Cond.methodLink "ReplenLaw" (116 : Nat) ({ cls := "Replen", name := "lost", desc := "(II)I" } : Jvm.MethodName)) ∈ ALL := in_ALL 676 rfl rfl
set_option maxRecDepth 100000 in
theorem w_661 : (Jvm.Cond.instanceMethod ({ cls := "Replen", name := "lost", desc := "(II)I" } : Jvm.MethodName)) ∈ ALL := in_ALL 677 rfl rfl
set_option maxRecDepth 100000 in
theorem w_662 : (Jvm.Cond.selects "Replen" ({ cls := "Replen", name := "lost", desc := "(II)I" } : Jvm.MethodName) ({ cls := "Replen", name := "lost", desc := "(II)I" } : Jvm.MethodName)) ∈ ALL := in_ALL 678 rfl rfl
set_option maxRecDepth 100000 in
theorem w_663 : (Jvm.Cond.code ({ cls := "Replen", name := "lost", desc := "(II)I" } : Jvm.MethodName) prog_1_method_32_code (3 : Nat) (Option.some Jvm.ClassFile.FieldType.int)) ∈ ALL := in_ALL 679 rfl rfl
set_option maxRecDepth 100000 in
theorem w_664 : (Jvm.Cond.methodLink "ReplenLaw" (130 : Nat) ({ cls := "ReplenLaw", name := "sum", desc := "(LReplen;)J" } : Jvm.MethodName)) ∈ ALL := in_ALL 680 rfl rfl
set_option maxRecDepth 100000 in
theorem w_665 : (Jvm.Cond.static ({ cls := "ReplenLaw", name := "sum", desc := "(LReplen;)J" } : Jvm.MethodName)) ∈ ALL := in_ALL 681 rfl rfl
set_option maxRecDepth 100000 in
theorem w_666 : (Jvm.Cond.code ({ cls := "ReplenLaw", name := "sum", desc := "(LReplen;)J" } : Jvm.MethodName) method_34_code (6 : Nat) (Option.some Jvm.ClassFile.FieldType.long)) ∈ ALL := in_ALL 682 rfl rfl
set_option maxRecDepth 100000 in
theorem w_667 : (Jvm.Cond.constantLong "ReplenLaw" (187 : Nat) (31 : Int64)) ∈ ALL := in_ALL 683 rfl rfl
set_option maxRecDepth 100000 in
theorem w_668 : (Jvm.Cond.constantLong "ReplenLaw" (189 : Nat) (7 : Int64)) ∈ ALL := in_ALL 684 rfl rfl
set_option maxRecDepth 100000 in
theorem w_669 : (Jvm.Cond.constantLong "ReplenLaw" (191 : Nat) (11 : Int64)) ∈ ALL := in_ALL 685 rfl rfl
set_option maxRecDepth 100000 in
theorem w_670 : (Jvm.Cond.methodLink "ReplenLaw" (193 : Nat) ({ cls := "ReplenLaw", name := "share", desc := "(LReplen;II)I" } : Jvm.MethodName)) ∈ ALL := in_ALL 686 rfl rfl
set_option maxRecDepth 100000 in
theorem w_671 : (Jvm.Cond.static ({ cls := "ReplenLaw", name := "share", desc := "(LReplen;II)I" } : Jvm.MethodName)) ∈ ALL := in_ALL 687 rfl rfl
set_option maxRecDepth 100000 in
theorem w_672 : (Jvm.Cond.codeWith ({ cls := "ReplenLaw", name := "share", desc := "(LReplen;II)I" } : Jvm.MethodName) method_28_code (4 : Nat) (Option.some Jvm.ClassFile.FieldType.int) [((0 : Nat), (6 : Nat), (7 : Nat), (32 : Nat)), ((0 : Nat), (6 : Nat), (11 : Nat), (57 : Nat))]) ∈ ALL := in_ALL 688 rfl rfl
set_option maxRecDepth 100000 in
theorem w_673 : (Jvm.Cond.methodLink "ReplenLaw" (104 : Nat) ({ cls := "Replen", name := "share", desc := "(II)I" } : Jvm.MethodName)) ∈ ALL := in_ALL 689 rfl rfl
set_option maxRecDepth 100000 in
theorem w_674 : (Jvm.Cond.instanceMethod ({ cls := "Replen", name := "share", desc := "(II)I" } : Jvm.MethodName)) ∈ ALL := in_ALL 690 rfl rfl
set_option maxRecDepth 100000 in
theorem w_675 : (Jvm.Cond.selects "Replen" ({ cls := "Replen", name := "share", desc := "(II)I" } : Jvm.MethodName) ({ cls := "Replen", name := "share", desc := "(II)I" } : Jvm.MethodName)) ∈ ALL := in_ALL 691 rfl rfl
set_option maxRecDepth 100000 in
theorem w_676 : (Jvm.Cond.code ({ cls := "Replen", name := "share", desc := "(II)I" } : Jvm.MethodName) prog_1_method_27_code (3 : Nat) (Option.some Jvm.ClassFile.FieldType.int)) ∈ ALL := in_ALL 692 rfl rfl
set_option maxRecDepth 100000 in
theorem w_677 : (Jvm.Cond.constantLong "ReplenLaw" (195 : Nat) (13 : Int64)) ∈ ALL := in_ALL 693 rfl rfl
set_option maxRecDepth 100000 in
theorem w_678 : (Jvm.Cond.methodLink "ReplenLaw" (197 : Nat) ({ cls := "ReplenLaw", name := "need", desc := "(LReplen;II)I" } : Jvm.MethodName)) ∈ ALL := in_ALL 694 rfl rfl
set_option maxRecDepth 100000 in
theorem w_679 : (Jvm.Cond.static ({ cls := "ReplenLaw", name := "need", desc := "(LReplen;II)I" } : Jvm.MethodName)) ∈ ALL := in_ALL 695 rfl rfl
set_option maxRecDepth 100000 in
theorem w_680 : (Jvm.Cond.codeWith ({ cls := "ReplenLaw", name := "need", desc := "(LReplen;II)I" } : Jvm.MethodName) method_26_code (4 : Nat) (Option.some Jvm.ClassFile.FieldType.int) [((0 : Nat), (6 : Nat), (7 : Nat), (32 : Nat)), ((0 : Nat), (6 : Nat), (11 : Nat), (57 : Nat))]) ∈ ALL := in_ALL 696 rfl rfl
set_option maxRecDepth 100000 in
theorem w_681 : (Jvm.Cond.methodLink "ReplenLaw" (98 : Nat) ({ cls := "Replen", name := "need", desc := "(II)I" } : Jvm.MethodName)) ∈ ALL := in_ALL 697 rfl rfl
set_option maxRecDepth 100000 in
theorem w_682 : (Jvm.Cond.instanceMethod ({ cls := "Replen", name := "need", desc := "(II)I" } : Jvm.MethodName)) ∈ ALL := in_ALL 698 rfl rfl
set_option maxRecDepth 100000 in
theorem w_683 : (Jvm.Cond.selects "Replen" ({ cls := "Replen", name := "need", desc := "(II)I" } : Jvm.MethodName) ({ cls := "Replen", name := "need", desc := "(II)I" } : Jvm.MethodName)) ∈ ALL := in_ALL 699 rfl rfl
set_option maxRecDepth 100000 in
theorem w_684 : (Jvm.Cond.code ({ cls := "Replen", name := "need", desc := "(II)I" } : Jvm.MethodName) prog_1_method_25_code (3 : Nat) (Option.some Jvm.ClassFile.FieldType.int)) ∈ ALL := in_ALL 700 rfl rfl
set_option maxRecDepth 100000 in
theorem w_685 : (Jvm.Cond.methodLink "Replen" (238 : Nat) ({ cls := "Replen$Line", name := "needOn", desc := "(II)I" } : Jvm.MethodName)) ∈ ALL := in_ALL 701 rfl rfl
set_option maxRecDepth 100000 in
theorem w_686 : (Jvm.Cond.constantLong "ReplenLaw" (199 : Nat) (17 : Int64)) ∈ ALL := in_ALL 702 rfl rfl
set_option maxRecDepth 100000 in
theorem w_687 : (Jvm.Cond.methodLink "ReplenLaw" (201 : Nat) ({ cls := "ReplenLaw", name := "onWay", desc := "(LReplen;II)I" } : Jvm.MethodName)) ∈ ALL := in_ALL 703 rfl rfl
set_option maxRecDepth 100000 in
theorem w_688 : (Jvm.Cond.static ({ cls := "ReplenLaw", name := "onWay", desc := "(LReplen;II)I" } : Jvm.MethodName)) ∈ ALL := in_ALL 704 rfl rfl
set_option maxRecDepth 100000 in
theorem w_689 : (Jvm.Cond.codeWith ({ cls := "ReplenLaw", name := "onWay", desc := "(LReplen;II)I" } : Jvm.MethodName) method_24_code (4 : Nat) (Option.some Jvm.ClassFile.FieldType.int) [((0 : Nat), (6 : Nat), (7 : Nat), (32 : Nat)), ((0 : Nat), (6 : Nat), (11 : Nat), (57 : Nat))]) ∈ ALL := in_ALL 705 rfl rfl
set_option maxRecDepth 100000 in
theorem w_690 : (Jvm.Cond.methodLink "ReplenLaw" (92 : Nat) ({ cls := "Replen", name := "onWay", desc := "(II)I" } : Jvm.MethodName)) ∈ ALL := in_ALL 706 rfl rfl
set_option maxRecDepth 100000 in
theorem w_691 : (Jvm.Cond.instanceMethod ({ cls := "Replen", name := "onWay", desc := "(II)I" } : Jvm.MethodName)) ∈ ALL := in_ALL 707 rfl rfl
set_option maxRecDepth 100000 in
theorem w_692 : (Jvm.Cond.selects "Replen" ({ cls := "Replen", name := "onWay", desc := "(II)I" } : Jvm.MethodName) ({ cls := "Replen", name := "onWay", desc := "(II)I" } : Jvm.MethodName)) ∈ ALL := in_ALL 708 rfl rfl
set_option maxRecDepth 100000 in
theorem w_693 : (Jvm.Cond.code ({ cls := "Replen", name := "onWay", desc := "(II)I" } : Jvm.MethodName) prog_1_method_23_code (3 : Nat) (Option.some Jvm.ClassFile.FieldType.int)) ∈ ALL := in_ALL 709 rfl rfl
set_option maxRecDepth 100000 in
theorem w_694 : (Jvm.Cond.methodLink "ReplenLaw" (175 : Nat) ({ cls := "ReplenLaw", name := "areEven", desc := "(LReplen;[II)Z" } : Jvm.MethodName)) ∈ ALL := in_ALL 710 rfl rfl
set_option maxRecDepth 100000 in
theorem w_695 : (Jvm.Cond.static ({ cls := "ReplenLaw", name := "areEven", desc := "(LReplen;[II)Z" } : Jvm.MethodName)) ∈ ALL := in_ALL 711 rfl rfl
set_option maxRecDepth 100000 in
theorem w_696 : (Jvm.Cond.code ({ cls := "ReplenLaw", name := "areEven", desc := "(LReplen;[II)Z" } : Jvm.MethodName) method_35_code (7 : Nat) (Option.some Jvm.ClassFile.FieldType.boolean)) ∈ ALL := in_ALL 712 rfl rfl
set_option maxRecDepth 100000 in
theorem w_697 : (Jvm.Cond.methodLink "ReplenLaw" (203 : Nat) ({ cls := "ReplenLaw", name := "nextArrival", desc := "(LReplen;II)I" } : Jvm.MethodName)) ∈ ALL := in_ALL 713 rfl rfl
set_option maxRecDepth 100000 in
theorem w_698 : (Jvm.Cond.static ({ cls := "ReplenLaw", name := "nextArrival", desc := "(LReplen;II)I" } : Jvm.MethodName)) ∈ ALL := in_ALL 714 rfl rfl
set_option maxRecDepth 100000 in
theorem w_699 : (Jvm.Cond.codeWith ({ cls := "ReplenLaw", name := "nextArrival", desc := "(LReplen;II)I" } : Jvm.MethodName) method_25_code (4 : Nat) (Option.some Jvm.ClassFile.FieldType.int) [((0 : Nat), (6 : Nat), (7 : Nat), (32 : Nat)), ((0 : Nat), (6 : Nat), (11 : Nat), (57 : Nat))]) ∈ ALL := in_ALL 715 rfl rfl
set_option maxRecDepth 100000 in
theorem w_700 : (Jvm.Cond.methodLink "ReplenLaw" (95 : Nat) ({ cls := "Replen", name := "nextArrival", desc := "(II)I" } : Jvm.MethodName)) ∈ ALL := in_ALL 716 rfl rfl
set_option maxRecDepth 100000 in
theorem w_701 : (Jvm.Cond.instanceMethod ({ cls := "Replen", name := "nextArrival", desc := "(II)I" } : Jvm.MethodName)) ∈ ALL := in_ALL 717 rfl rfl
set_option maxRecDepth 100000 in
theorem w_702 : (Jvm.Cond.selects "Replen" ({ cls := "Replen", name := "nextArrival", desc := "(II)I" } : Jvm.MethodName) ({ cls := "Replen", name := "nextArrival", desc := "(II)I" } : Jvm.MethodName)) ∈ ALL := in_ALL 718 rfl rfl
set_option maxRecDepth 100000 in
theorem w_703 : (Jvm.Cond.code ({ cls := "Replen", name := "nextArrival", desc := "(II)I" } : Jvm.MethodName) prog_1_method_24_code (4 : Nat) (Option.some Jvm.ClassFile.FieldType.int)) ∈ ALL := in_ALL 719 rfl rfl
set_option maxRecDepth 100000 in
theorem w_704 : (Jvm.Cond.methodLink "Replen" (230 : Nat) ({ cls := "Replen$Line", name := "firstDueAfter", desc := "(I)I" } : Jvm.MethodName)) ∈ ALL := in_ALL 720 rfl rfl
set_option maxRecDepth 100000 in
theorem w_705 : (Jvm.Cond.instanceMethod ({ cls := "Replen$Line", name := "firstDueAfter", desc := "(I)I" } : Jvm.MethodName)) ∈ ALL := in_ALL 721 rfl rfl
set_option maxRecDepth 100000 in
theorem w_706 : (Jvm.Cond.selects "Replen$Line" ({ cls := "Replen$Line", name := "firstDueAfter", desc := "(I)I" } : Jvm.MethodName) ({ cls := "Replen$Line", name := "firstDueAfter", desc := "(I)I" } : Jvm.MethodName)) ∈ ALL := in_ALL 722 rfl rfl
set_option maxRecDepth 100000 in
theorem w_707 : (Jvm.Cond.code ({ cls := "Replen$Line", name := "firstDueAfter", desc := "(I)I" } : Jvm.MethodName) prog_5_method_8_code (3 : Nat) (Option.some Jvm.ClassFile.FieldType.int)) ∈ ALL := in_ALL 723 rfl rfl
set_option maxRecDepth 100000 in
theorem w_709 : (Jvm.Cond.methodLink "ReplenLaw" (183 : Nat) ({ cls := "ReplenLaw", name := "areLines", desc := "(LReplen;[I[I[I)Z" } : Jvm.MethodName)) ∈ ALL := in_ALL 725 rfl rfl
set_option maxRecDepth 100000 in
theorem w_710 : (Jvm.Cond.static ({ cls := "ReplenLaw", name := "areLines", desc := "(LReplen;[I[I[I)Z" } : Jvm.MethodName)) ∈ ALL := in_ALL 726 rfl rfl
set_option maxRecDepth 100000 in
theorem w_711 : (Jvm.Cond.code ({ cls := "ReplenLaw", name := "areLines", desc := "(LReplen;[I[I[I)Z" } : Jvm.MethodName) method_36_code (13 : Nat) (Option.some Jvm.ClassFile.FieldType.boolean)) ∈ ALL := in_ALL 727 rfl rfl
set_option maxRecDepth 100000 in
theorem w_712 : (Jvm.Cond.methodLink "ReplenLaw" (205 : Nat) ({ cls := "ReplenLaw", name := "request", desc := "(LReplen;II)I" } : Jvm.MethodName)) ∈ ALL := in_ALL 728 rfl rfl
set_option maxRecDepth 100000 in
theorem w_713 : (Jvm.Cond.static ({ cls := "ReplenLaw", name := "request", desc := "(LReplen;II)I" } : Jvm.MethodName)) ∈ ALL := in_ALL 729 rfl rfl
set_option maxRecDepth 100000 in
theorem w_714 : (Jvm.Cond.codeWith ({ cls := "ReplenLaw", name := "request", desc := "(LReplen;II)I" } : Jvm.MethodName) method_27_code (4 : Nat) (Option.some Jvm.ClassFile.FieldType.int) [((0 : Nat), (6 : Nat), (7 : Nat), (32 : Nat)), ((0 : Nat), (6 : Nat), (11 : Nat), (57 : Nat))]) ∈ ALL := in_ALL 730 rfl rfl
set_option maxRecDepth 100000 in
theorem w_715 : (Jvm.Cond.methodLink "ReplenLaw" (101 : Nat) ({ cls := "Replen", name := "request", desc := "(II)I" } : Jvm.MethodName)) ∈ ALL := in_ALL 731 rfl rfl
set_option maxRecDepth 100000 in
theorem w_716 : (Jvm.Cond.instanceMethod ({ cls := "Replen", name := "request", desc := "(II)I" } : Jvm.MethodName)) ∈ ALL := in_ALL 732 rfl rfl
set_option maxRecDepth 100000 in
theorem w_717 : (Jvm.Cond.selects "Replen" ({ cls := "Replen", name := "request", desc := "(II)I" } : Jvm.MethodName) ({ cls := "Replen", name := "request", desc := "(II)I" } : Jvm.MethodName)) ∈ ALL := in_ALL 733 rfl rfl
set_option maxRecDepth 100000 in
theorem w_718 : (Jvm.Cond.code ({ cls := "Replen", name := "request", desc := "(II)I" } : Jvm.MethodName) prog_1_method_26_code (3 : Nat) (Option.some Jvm.ClassFile.FieldType.int)) ∈ ALL := in_ALL 734 rfl rfl
set_option maxRecDepth 100000 in
theorem w_719 : (Jvm.Cond.methodLink "ReplenLaw" (207 : Nat) ({ cls := "ReplenLaw", name := "shareByPacks", desc := "(LReplen;II)I" } : Jvm.MethodName)) ∈ ALL := in_ALL 735 rfl rfl
set_option maxRecDepth 100000 in
theorem w_720 : (Jvm.Cond.static ({ cls := "ReplenLaw", name := "shareByPacks", desc := "(LReplen;II)I" } : Jvm.MethodName)) ∈ ALL := in_ALL 736 rfl rfl
set_option maxRecDepth 100000 in
theorem w_721 : (Jvm.Cond.codeWith ({ cls := "ReplenLaw", name := "shareByPacks", desc := "(LReplen;II)I" } : Jvm.MethodName) method_29_code (4 : Nat) (Option.some Jvm.ClassFile.FieldType.int) [((0 : Nat), (6 : Nat), (7 : Nat), (32 : Nat)), ((0 : Nat), (6 : Nat), (11 : Nat), (57 : Nat))]) ∈ ALL := in_ALL 737 rfl rfl
set_option maxRecDepth 100000 in
theorem w_722 : (Jvm.Cond.methodLink "ReplenLaw" (107 : Nat) ({ cls := "Replen", name := "shareByPacks", desc := "(II)I" } : Jvm.MethodName)) ∈ ALL := in_ALL 738 rfl rfl
set_option maxRecDepth 100000 in
theorem w_723 : (Jvm.Cond.instanceMethod ({ cls := "Replen", name := "shareByPacks", desc := "(II)I" } : Jvm.MethodName)) ∈ ALL := in_ALL 739 rfl rfl
set_option maxRecDepth 100000 in
theorem w_724 : (Jvm.Cond.selects "Replen" ({ cls := "Replen", name := "shareByPacks", desc := "(II)I" } : Jvm.MethodName) ({ cls := "Replen", name := "shareByPacks", desc := "(II)I" } : Jvm.MethodName)) ∈ ALL := in_ALL 740 rfl rfl
set_option maxRecDepth 100000 in
theorem w_725 : (Jvm.Cond.code ({ cls := "Replen", name := "shareByPacks", desc := "(II)I" } : Jvm.MethodName) prog_1_method_28_code (3 : Nat) (Option.some Jvm.ClassFile.FieldType.int)) ∈ ALL := in_ALL 741 rfl rfl
set_option maxRecDepth 100000 in
theorem w_726 : (Jvm.Cond.methodLink "Replen" (250 : Nat) ({ cls := "Replen$Sharing", name := "handedOut", desc := "(I)I" } : Jvm.MethodName)) ∈ ALL := in_ALL 742 rfl rfl
set_option maxRecDepth 100000 in
theorem w_727 : (Jvm.Cond.instanceMethod ({ cls := "Replen$Sharing", name := "handedOut", desc := "(I)I" } : Jvm.MethodName)) ∈ ALL := in_ALL 743 rfl rfl
set_option maxRecDepth 100000 in
theorem w_728 : (Jvm.Cond.selects "Replen$Sharing" ({ cls := "Replen$Sharing", name := "handedOut", desc := "(I)I" } : Jvm.MethodName) ({ cls := "Replen$Sharing", name := "handedOut", desc := "(I)I" } : Jvm.MethodName)) ∈ ALL := in_ALL 744 rfl rfl
set_option maxRecDepth 100000 in
theorem w_729 : (Jvm.Cond.code ({ cls := "Replen$Sharing", name := "handedOut", desc := "(I)I" } : Jvm.MethodName) prog_6_method_6_code (4 : Nat) (Option.some Jvm.ClassFile.FieldType.int)) ∈ ALL := in_ALL 745 rfl rfl
set_option maxRecDepth 100000 in
theorem w_730 : (Jvm.Cond.methodLink "Replen$Sharing" (26 : Nat) ({ cls := "Replen$Sharing", name := "nextToGet", desc := "()I" } : Jvm.MethodName)) ∈ ALL := in_ALL 746 rfl rfl
set_option maxRecDepth 100000 in
theorem w_732 : (Jvm.Cond.instanceMethod ({ cls := "Replen$Sharing", name := "nextToGet", desc := "()I" } : Jvm.MethodName)) ∈ ALL := in_ALL 748 rfl rfl
set_option maxRecDepth 100000 in
theorem w_733 : (Jvm.Cond.code ({ cls := "Replen$Sharing", name := "nextToGet", desc := "()I" } : Jvm.MethodName) prog_6_method_7_code (8 : Nat) (Option.some Jvm.ClassFile.FieldType.int)) ∈ ALL := in_ALL 749 rfl rfl
set_option maxRecDepth 100000 in
theorem w_734 : (Jvm.Cond.methodLink "ReplenLaw" (209 : Nat) ({ cls := "ReplenLaw", name := "isLine", desc := "(LReplen;IIIII)Z" } : Jvm.MethodName)) ∈ ALL := in_ALL 750 rfl rfl
set_option maxRecDepth 100000 in
theorem w_735 : (Jvm.Cond.static ({ cls := "ReplenLaw", name := "isLine", desc := "(LReplen;IIIII)Z" } : Jvm.MethodName)) ∈ ALL := in_ALL 751 rfl rfl
set_option maxRecDepth 100000 in
theorem w_736 : (Jvm.Cond.code ({ cls := "ReplenLaw", name := "isLine", desc := "(LReplen;IIIII)Z" } : Jvm.MethodName) method_37_code (17 : Nat) (Option.some Jvm.ClassFile.FieldType.boolean)) ∈ ALL := in_ALL 752 rfl rfl
set_option maxRecDepth 100000 in
theorem w_737 : (Jvm.Cond.methodLink "ReplenLaw" (215 : Nat) ({ cls := "ReplenLaw", name := "safety", desc := "(LReplen;II)I" } : Jvm.MethodName)) ∈ ALL := in_ALL 753 rfl rfl
set_option maxRecDepth 100000 in
theorem w_738 : (Jvm.Cond.static ({ cls := "ReplenLaw", name := "safety", desc := "(LReplen;II)I" } : Jvm.MethodName)) ∈ ALL := in_ALL 754 rfl rfl
set_option maxRecDepth 100000 in
theorem w_739 : (Jvm.Cond.codeWith ({ cls := "ReplenLaw", name := "safety", desc := "(LReplen;II)I" } : Jvm.MethodName) method_21_code (4 : Nat) (Option.some Jvm.ClassFile.FieldType.int) [((0 : Nat), (6 : Nat), (7 : Nat), (32 : Nat)), ((0 : Nat), (6 : Nat), (11 : Nat), (57 : Nat))]) ∈ ALL := in_ALL 755 rfl rfl
set_option maxRecDepth 100000 in
theorem w_740 : (Jvm.Cond.methodLink "ReplenLaw" (83 : Nat) ({ cls := "Replen", name := "safety", desc := "(II)I" } : Jvm.MethodName)) ∈ ALL := in_ALL 756 rfl rfl
set_option maxRecDepth 100000 in
theorem w_741 : (Jvm.Cond.instanceMethod ({ cls := "Replen", name := "safety", desc := "(II)I" } : Jvm.MethodName)) ∈ ALL := in_ALL 757 rfl rfl
set_option maxRecDepth 100000 in
theorem w_742 : (Jvm.Cond.selects "Replen" ({ cls := "Replen", name := "safety", desc := "(II)I" } : Jvm.MethodName) ({ cls := "Replen", name := "safety", desc := "(II)I" } : Jvm.MethodName)) ∈ ALL := in_ALL 758 rfl rfl
set_option maxRecDepth 100000 in
theorem w_743 : (Jvm.Cond.code ({ cls := "Replen", name := "safety", desc := "(II)I" } : Jvm.MethodName) prog_1_method_20_code (3 : Nat) (Option.some Jvm.ClassFile.FieldType.int)) ∈ ALL := in_ALL 759 rfl rfl
set_option maxRecDepth 100000 in
theorem w_744 : (Jvm.Cond.methodLink "Replen" (220 : Nat) ({ cls := "Replen$Line", name := "safetyAt", desc := "(I)I" } : Jvm.MethodName)) ∈ ALL := in_ALL 760 rfl rfl
set_option maxRecDepth 100000 in
theorem w_745 : (Jvm.Cond.methodLink "ReplenLaw" (217 : Nat) ({ cls := "ReplenLaw", name := "stockByJournal", desc := "(LReplen;II)I" } : Jvm.MethodName)) ∈ ALL := in_ALL 761 rfl rfl
set_option maxRecDepth 100000 in
theorem w_746 : (Jvm.Cond.static ({ cls := "ReplenLaw", name := "stockByJournal", desc := "(LReplen;II)I" } : Jvm.MethodName)) ∈ ALL := in_ALL 762 rfl rfl
set_option maxRecDepth 100000 in
theorem w_747 : (Jvm.Cond.codeWith ({ cls := "ReplenLaw", name := "stockByJournal", desc := "(LReplen;II)I" } : Jvm.MethodName) method_23_code (4 : Nat) (Option.some Jvm.ClassFile.FieldType.int) [((0 : Nat), (6 : Nat), (7 : Nat), (32 : Nat)), ((0 : Nat), (6 : Nat), (11 : Nat), (57 : Nat))]) ∈ ALL := in_ALL 763 rfl rfl
set_option maxRecDepth 100000 in
theorem w_748 : (Jvm.Cond.methodLink "ReplenLaw" (89 : Nat) ({ cls := "Replen", name := "stockByJournal", desc := "(II)I" } : Jvm.MethodName)) ∈ ALL := in_ALL 764 rfl rfl
set_option maxRecDepth 100000 in
theorem w_749 : (Jvm.Cond.instanceMethod ({ cls := "Replen", name := "stockByJournal", desc := "(II)I" } : Jvm.MethodName)) ∈ ALL := in_ALL 765 rfl rfl
set_option maxRecDepth 100000 in
theorem w_750 : (Jvm.Cond.selects "Replen" ({ cls := "Replen", name := "stockByJournal", desc := "(II)I" } : Jvm.MethodName) ({ cls := "Replen", name := "stockByJournal", desc := "(II)I" } : Jvm.MethodName)) ∈ ALL := in_ALL 766 rfl rfl
set_option maxRecDepth 100000 in
theorem w_751 : (Jvm.Cond.code ({ cls := "Replen", name := "stockByJournal", desc := "(II)I" } : Jvm.MethodName) prog_1_method_22_code (3 : Nat) (Option.some Jvm.ClassFile.FieldType.int)) ∈ ALL := in_ALL 767 rfl rfl
set_option maxRecDepth 100000 in
theorem w_752 : (Jvm.Cond.methodLink "Replen" (224 : Nat) ({ cls := "Replen$Line", name := "journalStock", desc := "(I)I" } : Jvm.MethodName)) ∈ ALL := in_ALL 768 rfl rfl
set_option maxRecDepth 100000 in
theorem w_753 : (Jvm.Cond.instanceMethod ({ cls := "Replen$Line", name := "journalStock", desc := "(I)I" } : Jvm.MethodName)) ∈ ALL := in_ALL 769 rfl rfl
set_option maxRecDepth 100000 in
theorem w_754 : (Jvm.Cond.selects "Replen$Line" ({ cls := "Replen$Line", name := "journalStock", desc := "(I)I" } : Jvm.MethodName) ({ cls := "Replen$Line", name := "journalStock", desc := "(I)I" } : Jvm.MethodName)) ∈ ALL := in_ALL 770 rfl rfl
set_option maxRecDepth 100000 in
theorem w_755 : (Jvm.Cond.code ({ cls := "Replen$Line", name := "journalStock", desc := "(I)I" } : Jvm.MethodName) prog_5_method_11_code (2 : Nat) (Option.some Jvm.ClassFile.FieldType.int)) ∈ ALL := in_ALL 771 rfl rfl
set_option maxRecDepth 100000 in
theorem w_756 : (Jvm.Cond.methodLink "Replen$Line" (119 : Nat) ({ cls := "Replen$DayBook", name := "sumUpTo", desc := "(I)I" } : Jvm.MethodName)) ∈ ALL := in_ALL 772 rfl rfl
set_option maxRecDepth 100000 in
theorem w_757 : (Jvm.Cond.instanceMethod ({ cls := "Replen$DayBook", name := "sumUpTo", desc := "(I)I" } : Jvm.MethodName)) ∈ ALL := in_ALL 773 rfl rfl
set_option maxRecDepth 100000 in
theorem w_758 : (Jvm.Cond.selects "Replen$DayBook" ({ cls := "Replen$DayBook", name := "sumUpTo", desc := "(I)I" } : Jvm.MethodName) ({ cls := "Replen$DayBook", name := "sumUpTo", desc := "(I)I" } : Jvm.MethodName)) ∈ ALL := in_ALL 774 rfl rfl
set_option maxRecDepth 100000 in
theorem w_759 : (Jvm.Cond.code ({ cls := "Replen$DayBook", name := "sumUpTo", desc := "(I)I" } : Jvm.MethodName) prog_2_method_4_code (4 : Nat) (Option.some Jvm.ClassFile.FieldType.int)) ∈ ALL := in_ALL 775 rfl rfl
set_option maxRecDepth 100000 in
theorem w_760 : (Jvm.Cond.methodLink "ReplenLaw" (219 : Nat) ({ cls := "ReplenLaw", name := "levelByDays", desc := "(LReplen;II)I" } : Jvm.MethodName)) ∈ ALL := in_ALL 776 rfl rfl
set_option maxRecDepth 100000 in
theorem w_761 : (Jvm.Cond.static ({ cls := "ReplenLaw", name := "levelByDays", desc := "(LReplen;II)I" } : Jvm.MethodName)) ∈ ALL := in_ALL 777 rfl rfl
set_option maxRecDepth 100000 in
theorem w_762 : (Jvm.Cond.codeWith ({ cls := "ReplenLaw", name := "levelByDays", desc := "(LReplen;II)I" } : Jvm.MethodName) method_17_code (4 : Nat) (Option.some Jvm.ClassFile.FieldType.int) [((0 : Nat), (6 : Nat), (7 : Nat), (32 : Nat)), ((0 : Nat), (6 : Nat), (11 : Nat), (57 : Nat))]) ∈ ALL := in_ALL 778 rfl rfl
set_option maxRecDepth 100000 in
theorem w_763 : (Jvm.Cond.methodLink "ReplenLaw" (71 : Nat) ({ cls := "Replen", name := "levelByDays", desc := "(II)I" } : Jvm.MethodName)) ∈ ALL := in_ALL 779 rfl rfl
set_option maxRecDepth 100000 in
theorem w_764 : (Jvm.Cond.instanceMethod ({ cls := "Replen", name := "levelByDays", desc := "(II)I" } : Jvm.MethodName)) ∈ ALL := in_ALL 780 rfl rfl
set_option maxRecDepth 100000 in
theorem w_765 : (Jvm.Cond.selects "Replen" ({ cls := "Replen", name := "levelByDays", desc := "(II)I" } : Jvm.MethodName) ({ cls := "Replen", name := "levelByDays", desc := "(II)I" } : Jvm.MethodName)) ∈ ALL := in_ALL 781 rfl rfl
set_option maxRecDepth 100000 in
theorem w_766 : (Jvm.Cond.code ({ cls := "Replen", name := "levelByDays", desc := "(II)I" } : Jvm.MethodName) prog_1_method_16_code (5 : Nat) (Option.some Jvm.ClassFile.FieldType.int)) ∈ ALL := in_ALL 782 rfl rfl
set_option maxRecDepth 100000 in
theorem w_767 : (Jvm.Cond.methodLink "Replen" (191 : Nat) ({ cls := "Replen$Learner", name := "start", desc := "(I)V" } : Jvm.MethodName)) ∈ ALL := in_ALL 783 rfl rfl
set_option maxRecDepth 100000 in
theorem w_768 : (Jvm.Cond.methodLink "Replen" (201 : Nat) ({ cls := "Replen$Learner", name := "learn", desc := "(IIII)V" } : Jvm.MethodName)) ∈ ALL := in_ALL 784 rfl rfl
set_option maxRecDepth 100000 in
theorem w_769 : (Jvm.Cond.methodLink "ReplenLaw" (221 : Nat) ({ cls := "ReplenLaw", name := "errors", desc := "(LReplen;III)I" } : Jvm.MethodName)) ∈ ALL := in_ALL 785 rfl rfl
set_option maxRecDepth 100000 in
theorem w_770 : (Jvm.Cond.static ({ cls := "ReplenLaw", name := "errors", desc := "(LReplen;III)I" } : Jvm.MethodName)) ∈ ALL := in_ALL 786 rfl rfl
set_option maxRecDepth 100000 in
theorem w_771 : (Jvm.Cond.codeWith ({ cls := "ReplenLaw", name := "errors", desc := "(LReplen;III)I" } : Jvm.MethodName) method_20_code (5 : Nat) (Option.some Jvm.ClassFile.FieldType.int) [((0 : Nat), (7 : Nat), (8 : Nat), (32 : Nat)), ((0 : Nat), (7 : Nat), (13 : Nat), (57 : Nat)), ((0 : Nat), (7 : Nat), (18 : Nat), (20 : Nat))]) ∈ ALL := in_ALL 787 rfl rfl
set_option maxRecDepth 100000 in
theorem w_772 : (Jvm.Cond.methodLink "ReplenLaw" (80 : Nat) ({ cls := "Replen", name := "errors", desc := "(III)I" } : Jvm.MethodName)) ∈ ALL := in_ALL 788 rfl rfl
set_option maxRecDepth 100000 in
theorem w_773 : (Jvm.Cond.instanceMethod ({ cls := "Replen", name := "errors", desc := "(III)I" } : Jvm.MethodName)) ∈ ALL := in_ALL 789 rfl rfl
set_option maxRecDepth 100000 in
theorem w_774 : (Jvm.Cond.selects "Replen" ({ cls := "Replen", name := "errors", desc := "(III)I" } : Jvm.MethodName) ({ cls := "Replen", name := "errors", desc := "(III)I" } : Jvm.MethodName)) ∈ ALL := in_ALL 790 rfl rfl
set_option maxRecDepth 100000 in
theorem w_775 : (Jvm.Cond.code ({ cls := "Replen", name := "errors", desc := "(III)I" } : Jvm.MethodName) prog_1_method_19_code (5 : Nat) (Option.some Jvm.ClassFile.FieldType.int)) ∈ ALL := in_ALL 791 rfl rfl
set_option maxRecDepth 100000 in
theorem w_777 : (Jvm.Cond.methodLink "Replen" (217 : Nat) ({ cls := "Replen$Line", name := "timesOf", desc := "(I)I" } : Jvm.MethodName)) ∈ ALL := in_ALL 793 rfl rfl
set_option maxRecDepth 100000 in
theorem w_778 : (Jvm.Cond.instanceMethod ({ cls := "Replen$Line", name := "timesOf", desc := "(I)I" } : Jvm.MethodName)) ∈ ALL := in_ALL 794 rfl rfl
set_option maxRecDepth 100000 in
theorem w_779 : (Jvm.Cond.selects "Replen$Line" ({ cls := "Replen$Line", name := "timesOf", desc := "(I)I" } : Jvm.MethodName) ({ cls := "Replen$Line", name := "timesOf", desc := "(I)I" } : Jvm.MethodName)) ∈ ALL := in_ALL 795 rfl rfl
set_option maxRecDepth 100000 in
theorem w_780 : (Jvm.Cond.code ({ cls := "Replen$Line", name := "timesOf", desc := "(I)I" } : Jvm.MethodName) prog_5_method_4_code (2 : Nat) (Option.some Jvm.ClassFile.FieldType.int)) ∈ ALL := in_ALL 796 rfl rfl
set_option maxRecDepth 100000 in
theorem w_781 : (Jvm.Cond.methodLink "ReplenLaw" (223 : Nat) ({ cls := "ReplenLaw", name := "forecast", desc := "(LReplen;III)I" } : Jvm.MethodName)) ∈ ALL := in_ALL 797 rfl rfl
set_option maxRecDepth 100000 in
theorem w_782 : (Jvm.Cond.static ({ cls := "ReplenLaw", name := "forecast", desc := "(LReplen;III)I" } : Jvm.MethodName)) ∈ ALL := in_ALL 798 rfl rfl
set_option maxRecDepth 100000 in
theorem w_783 : (Jvm.Cond.codeWith ({ cls := "ReplenLaw", name := "forecast", desc := "(LReplen;III)I" } : Jvm.MethodName) method_19_code (5 : Nat) (Option.some Jvm.ClassFile.FieldType.int) [((0 : Nat), (7 : Nat), (8 : Nat), (32 : Nat)), ((0 : Nat), (7 : Nat), (13 : Nat), (57 : Nat)), ((0 : Nat), (7 : Nat), (18 : Nat), (20 : Nat))]) ∈ ALL := in_ALL 799 rfl rfl
set_option maxRecDepth 100000 in
theorem w_784 : (Jvm.Cond.methodLink "ReplenLaw" (77 : Nat) ({ cls := "Replen", name := "forecast", desc := "(III)I" } : Jvm.MethodName)) ∈ ALL := in_ALL 800 rfl rfl
set_option maxRecDepth 100000 in
theorem w_785 : (Jvm.Cond.instanceMethod ({ cls := "Replen", name := "forecast", desc := "(III)I" } : Jvm.MethodName)) ∈ ALL := in_ALL 801 rfl rfl
set_option maxRecDepth 100000 in
theorem w_786 : (Jvm.Cond.selects "Replen" ({ cls := "Replen", name := "forecast", desc := "(III)I" } : Jvm.MethodName) ({ cls := "Replen", name := "forecast", desc := "(III)I" } : Jvm.MethodName)) ∈ ALL := in_ALL 802 rfl rfl
set_option maxRecDepth 100000 in
theorem w_787 : (Jvm.Cond.code ({ cls := "Replen", name := "forecast", desc := "(III)I" } : Jvm.MethodName) prog_1_method_18_code (5 : Nat) (Option.some Jvm.ClassFile.FieldType.int)) ∈ ALL := in_ALL 803 rfl rfl
set_option maxRecDepth 100000 in
theorem w_789 : (Jvm.Cond.methodLink "Replen" (212 : Nat) ({ cls := "Replen$Learner", name := "thousandthsFor", desc := "(I)I" } : Jvm.MethodName)) ∈ ALL := in_ALL 805 rfl rfl
set_option maxRecDepth 100000 in
theorem w_790 : (Jvm.Cond.constantLong "ReplenLaw" (225 : Nat) (1000 : Int64)) ∈ ALL := in_ALL 806 rfl rfl
set_option maxRecDepth 100000 in
theorem w_791 : (Jvm.Cond.constantLong "ReplenLaw" (227 : Nat) (999 : Int64)) ∈ ALL := in_ALL 807 rfl rfl
set_option maxRecDepth 100000 in
theorem w_792 : (Jvm.Cond.methodLink "ReplenLaw" (213 : Nat) ({ cls := "ReplenLaw", name := "centreByJournal", desc := "(LReplen;I)I" } : Jvm.MethodName)) ∈ ALL := in_ALL 808 rfl rfl
set_option maxRecDepth 100000 in
theorem w_793 : (Jvm.Cond.static ({ cls := "ReplenLaw", name := "centreByJournal", desc := "(LReplen;I)I" } : Jvm.MethodName)) ∈ ALL := in_ALL 809 rfl rfl
set_option maxRecDepth 100000 in
theorem w_794 : (Jvm.Cond.codeWith ({ cls := "ReplenLaw", name := "centreByJournal", desc := "(LReplen;I)I" } : Jvm.MethodName) method_31_code (3 : Nat) (Option.some Jvm.ClassFile.FieldType.int) [((0 : Nat), (5 : Nat), (6 : Nat), (32 : Nat))]) ∈ ALL := in_ALL 810 rfl rfl
set_option maxRecDepth 100000 in
theorem w_795 : (Jvm.Cond.methodLink "ReplenLaw" (113 : Nat) ({ cls := "Replen", name := "centreByJournal", desc := "(I)I" } : Jvm.MethodName)) ∈ ALL := in_ALL 811 rfl rfl
set_option maxRecDepth 100000 in
theorem w_796 : (Jvm.Cond.instanceMethod ({ cls := "Replen", name := "centreByJournal", desc := "(I)I" } : Jvm.MethodName)) ∈ ALL := in_ALL 812 rfl rfl
set_option maxRecDepth 100000 in
theorem w_797 : (Jvm.Cond.selects "Replen" ({ cls := "Replen", name := "centreByJournal", desc := "(I)I" } : Jvm.MethodName) ({ cls := "Replen", name := "centreByJournal", desc := "(I)I" } : Jvm.MethodName)) ∈ ALL := in_ALL 813 rfl rfl
set_option maxRecDepth 100000 in
theorem w_798 : (Jvm.Cond.code ({ cls := "Replen", name := "centreByJournal", desc := "(I)I" } : Jvm.MethodName) prog_1_method_30_code (2 : Nat) (Option.some Jvm.ClassFile.FieldType.int)) ∈ ALL := in_ALL 814 rfl rfl
set_option maxRecDepth 100000 in
theorem w_799 : (Jvm.Cond.methodLink "Replen" (253 : Nat) ({ cls := "Replen$Item", name := "journalStock", desc := "(I)I" } : Jvm.MethodName)) ∈ ALL := in_ALL 815 rfl rfl
set_option maxRecDepth 100000 in
theorem w_800 : (Jvm.Cond.instanceMethod ({ cls := "Replen$Item", name := "journalStock", desc := "(I)I" } : Jvm.MethodName)) ∈ ALL := in_ALL 816 rfl rfl
set_option maxRecDepth 100000 in
theorem w_801 : (Jvm.Cond.selects "Replen$Item" ({ cls := "Replen$Item", name := "journalStock", desc := "(I)I" } : Jvm.MethodName) ({ cls := "Replen$Item", name := "journalStock", desc := "(I)I" } : Jvm.MethodName)) ∈ ALL := in_ALL 817 rfl rfl
set_option maxRecDepth 100000 in
theorem w_802 : (Jvm.Cond.code ({ cls := "Replen$Item", name := "journalStock", desc := "(I)I" } : Jvm.MethodName) prog_3_method_7_code (2 : Nat) (Option.some Jvm.ClassFile.FieldType.int)) ∈ ALL := in_ALL 818 rfl rfl
set_option maxRecDepth 100000 in
theorem w_803 : (Jvm.Cond.methodLink "Replen$Item" (40 : Nat) ({ cls := "Replen$DayBook", name := "sumUpTo", desc := "(I)I" } : Jvm.MethodName)) ∈ ALL := in_ALL 819 rfl rfl
set_option maxRecDepth 100000 in
theorem w_804 : (Jvm.Cond.methodLink "ReplenLaw" (167 : Nat) ({ cls := "java/lang/Math", name := "min", desc := "(II)I" } : Jvm.MethodName)) ∈ ALL := in_ALL 820 rfl rfl
set_option maxRecDepth 100000 in
theorem w_p0 : Cond.selects "java/lang/Throwable" ⟨"java/lang/Throwable", "fillInStackTrace", "(I)Ljava/lang/Throwable;"⟩ ⟨"java/lang/Throwable", "fillInStackTrace", "(I)Ljava/lang/Throwable;"⟩ ∈ ALL := in_ALL 0 rfl rfl
set_option maxRecDepth 100000 in
theorem w_p1 : Cond.selects "Replen" ⟨"Replen", "requireShop", "(I)V"⟩ ⟨"Replen", "requireShop", "(I)V"⟩ ∈ ALL := in_ALL 1 rfl rfl
set_option maxRecDepth 100000 in
theorem w_p2 : Cond.selects "Replen" ⟨"Replen", "isShop", "(I)Z"⟩ ⟨"Replen", "isShop", "(I)Z"⟩ ∈ ALL := in_ALL 2 rfl rfl
set_option maxRecDepth 100000 in
theorem w_p3 : Cond.selects "Replen" ⟨"Replen", "requireItem", "(I)LReplen$Item;"⟩ ⟨"Replen", "requireItem", "(I)LReplen$Item;"⟩ ∈ ALL := in_ALL 3 rfl rfl
set_option maxRecDepth 100000 in
theorem w_p4 : Cond.selects "Replen" ⟨"Replen", "itemOrNull", "(I)LReplen$Item;"⟩ ⟨"Replen", "itemOrNull", "(I)LReplen$Item;"⟩ ∈ ALL := in_ALL 4 rfl rfl
set_option maxRecDepth 100000 in
theorem w_p5 : Cond.selects "Replen" ⟨"Replen", "isItem", "(I)Z"⟩ ⟨"Replen", "isItem", "(I)Z"⟩ ∈ ALL := in_ALL 5 rfl rfl
set_option maxRecDepth 100000 in
theorem w_p6 : Cond.selects "Replen" ⟨"Replen", "placeOf", "(II)I"⟩ ⟨"Replen", "placeOf", "(II)I"⟩ ∈ ALL := in_ALL 6 rfl rfl
set_option maxRecDepth 100000 in
theorem w_p7 : Cond.selects "Replen" ⟨"Replen", "leadOf", "(I)I"⟩ ⟨"Replen", "leadOf", "(I)I"⟩ ∈ ALL := in_ALL 7 rfl rfl
set_option maxRecDepth 100000 in
theorem w_p8 : Cond.selects "Replen" ⟨"Replen", "lineOrNull", "(II)LReplen$Line;"⟩ ⟨"Replen", "lineOrNull", "(II)LReplen$Line;"⟩ ∈ ALL := in_ALL 8 rfl rfl
set_option maxRecDepth 100000 in
theorem w_p9 : Cond.selects "Replen" ⟨"Replen", "requireLine", "(II)LReplen$Line;"⟩ ⟨"Replen", "requireLine", "(II)LReplen$Line;"⟩ ∈ ALL := in_ALL 9 rfl rfl
set_option maxRecDepth 100000 in
theorem w_p10 : Cond.selects "Replen" ⟨"Replen", "learnToday", "()V"⟩ ⟨"Replen", "learnToday", "()V"⟩ ∈ ALL := in_ALL 10 rfl rfl
set_option maxRecDepth 100000 in
theorem w_p11 : Cond.selects "Replen" ⟨"Replen", "receiveToday", "()V"⟩ ⟨"Replen", "receiveToday", "()V"⟩ ∈ ALL := in_ALL 11 rfl rfl
set_option maxRecDepth 100000 in
theorem w_p12 : Cond.selects "Replen" ⟨"Replen", "sendPacks", "(I)I"⟩ ⟨"Replen", "sendPacks", "(I)I"⟩ ∈ ALL := in_ALL 12 rfl rfl
set_option maxRecDepth 100000 in
theorem w_p13 : Cond.selects "Replen" ⟨"Replen", "askForAll", "(I)V"⟩ ⟨"Replen", "askForAll", "(I)V"⟩ ∈ ALL := in_ALL 13 rfl rfl
set_option maxRecDepth 100000 in
theorem w_p14 : Cond.selects "Replen$Sharing" ⟨"Replen$Sharing", "givenAhead", "(II)J"⟩ ⟨"Replen$Sharing", "givenAhead", "(II)J"⟩ ∈ ALL := in_ALL 14 rfl rfl
set_option maxRecDepth 100000 in
theorem w_p15 : Cond.selects "Replen$Sharing" ⟨"Replen$Sharing", "nextToGet", "()I"⟩ ⟨"Replen$Sharing", "nextToGet", "()I"⟩ ∈ ALL := in_ALL 15 rfl rfl
set_option maxRecDepth 100000 in
theorem inAX0 : ∀ w ∈ wsX00, w ∈ ALL := by
  intro w hw
  obtain ⟨k, hk, rfl⟩ := List.mem_map.mp hw
  have hk2 := List.mem_range.mp hk
  clear hk
  exact match k, hk2 with
  | 0, _ => w_35
  | k + 1, h => absurd h (by omega)
set_option maxRecDepth 100000 in
theorem inAX1 : ∀ w ∈ wsX10, w ∈ ALL := by
  intro w hw
  obtain ⟨k, hk, rfl⟩ := List.mem_map.mp hw
  have hk2 := List.mem_range.mp hk
  clear hk
  exact match k, hk2 with
  | 0, _ => w_256
  | 1, _ => w_258
  | 2, _ => w_260
  | 3, _ => w_262
  | 4, _ => w_264
  | 5, _ => w_266
  | k + 6, h => absurd h (by omega)
set_option maxRecDepth 100000 in
theorem inAX2 : ∀ w ∈ wsX20, w ∈ ALL := by
  intro w hw
  obtain ⟨k, hk, rfl⟩ := List.mem_map.mp hw
  have hk2 := List.mem_range.mp hk
  clear hk
  exact match k, hk2 with
  | 0, _ => w_48
  | 1, _ => w_50
  | k + 2, h => absurd h (by omega)
set_option maxRecDepth 100000 in
theorem inAX3 : ∀ w ∈ wsX30, w ∈ ALL := by
  intro w hw
  obtain ⟨k, hk, rfl⟩ := List.mem_map.mp hw
  have hk2 := List.mem_range.mp hk
  clear hk
  exact match k, hk2 with
  | 0, _ => w_361
  | 1, _ => w_363
  | 2, _ => w_365
  | 3, _ => w_367
  | 4, _ => w_369
  | 5, _ => w_371
  | 6, _ => w_373
  | 7, _ => w_375
  | 8, _ => w_377
  | 9, _ => w_379
  | 10, _ => w_381
  | 11, _ => w_383
  | 12, _ => w_385
  | 13, _ => w_387
  | k + 14, h => absurd h (by omega)
set_option maxRecDepth 100000 in
theorem inAX4 : ∀ w ∈ wsX40, w ∈ ALL := by
  intro w hw
  obtain ⟨k, hk, rfl⟩ := List.mem_map.mp hw
  have hk2 := List.mem_range.mp hk
  clear hk
  exact match k, hk2 with
  | 0, _ => w_62
  | 1, _ => w_64
  | 2, _ => w_66
  | k + 3, h => absurd h (by omega)
set_option maxRecDepth 100000 in
theorem inAX5 : ∀ w ∈ wsX50, w ∈ ALL := by
  intro w hw
  obtain ⟨k, hk, rfl⟩ := List.mem_map.mp hw
  have hk2 := List.mem_range.mp hk
  clear hk
  exact match k, hk2 with
  | 0, _ => w_83
  | 1, _ => w_85
  | 2, _ => w_87
  | 3, _ => w_89
  | 4, _ => w_91
  | 5, _ => w_93
  | 6, _ => w_95
  | 7, _ => w_97
  | 8, _ => w_99
  | 9, _ => w_101
  | 10, _ => w_103
  | 11, _ => w_105
  | 12, _ => w_107
  | 13, _ => w_109
  | k + 14, h => absurd h (by omega)
