/-! words -/
def ALL : List Cond := lw_tbl.filter goodWord
theorem in_ALL {w : Cond} (i : Nat) (h : lw_tbl[i]? = some w) (g : goodWord w = true) : w ∈ ALL := List.mem_filter.mpr ⟨List.mem_of_getElem? h, g⟩
theorem ALL_tbl : ∀ w ∈ ALL, w ∈ lw_tbl := fun w h => (List.mem_filter.mp h).1
theorem gW {w : Cond} (h : w ∈ ALL) : w ∈ ALL ∧ ((w.onTables && w.keeps) = true ∨ ∃ ty, w = .arrayClass ty) := ⟨h, good_of_word (List.mem_filter.mp h).2⟩
theorem gA {w : Cond} (h : w ∈ ALL) : GoodIn ALL (w :: ALL) := fun x hx => (List.mem_cons.mp hx).elim (fun e => by rw [e]; exact gW h) gW
theorem gV {own C : String} {idx : Nat} {y : MethodName} {w : Cond} (h1 : Cond.methodLink own idx y ∈ ALL) (h2 : Cond.instanceMethod y ∈ ALL) (h3 : Cond.selects C y y ∈ ALL) (h4 : Cond.initialized C ∈ ALL) (h5 : w ∈ ALL) : GoodIn ALL (wsV own idx C y (w :: ALL)) := by
  intro x hx
  simp only [wsV, List.cons_append, List.nil_append, List.mem_cons] at hx
  rcases hx with e | e | e | e | e | e
  · rw [e]; exact gW h1
  · rw [e]; exact gW h2
  · rw [e]; exact gW h3
  · rw [e]; exact gW h4
  · rw [e]; exact gW h5
  · exact gW e
theorem gS {own : String} {idx : Nat} {y : MethodName} {w : Cond} (h1 : Cond.methodLink own idx y ∈ ALL) (h2 : Cond.static y ∈ ALL) (h4 : Cond.initialized y.cls ∈ ALL) (h5 : w ∈ ALL) : GoodIn ALL (va_wsS own idx y (w :: ALL)) := by
  intro x hx
  simp only [va_wsS, List.cons_append, List.nil_append, List.mem_cons] at hx
  rcases hx with e | e | e | e | e
  · rw [e]; exact gW h1
  · rw [e]; exact gW h2
  · rw [e]; exact gW h4
  · rw [e]; exact gW h5
  · exact gW e
set_option maxRecDepth 100000 in
theorem w_0 : (Jvm.Cond.initialized "ReplenLaw") ∈ ALL := in_ALL 27 rfl rfl
set_option maxRecDepth 100000 in
theorem w_1 : (Jvm.Cond.initialized "Replen") ∈ ALL := in_ALL 28 rfl rfl
set_option maxRecDepth 100000 in
theorem w_2 : (Jvm.Cond.initialized "Replen$DayBook") ∈ ALL := in_ALL 29 rfl rfl
set_option maxRecDepth 100000 in
theorem w_3 : (Jvm.Cond.initialized "Replen$Learner") ∈ ALL := in_ALL 30 rfl rfl
set_option maxRecDepth 100000 in
theorem w_4 : (Jvm.Cond.initialized "Replen$Sharing") ∈ ALL := in_ALL 31 rfl rfl
set_option maxRecDepth 100000 in
theorem w_5 : (Jvm.Cond.initialized "ReplenModel") ∈ ALL := in_ALL 32 rfl rfl
set_option maxRecDepth 100000 in
theorem w_6 : (Jvm.Cond.initialized "java/lang/Throwable") ∈ ALL := in_ALL 33 rfl rfl
set_option maxRecDepth 100000 in
theorem w_7 : (Jvm.Cond.initialized "java/lang/Exception") ∈ ALL := in_ALL 34 rfl rfl
set_option maxRecDepth 100000 in
theorem w_8 : (Jvm.Cond.initialized "java/lang/RuntimeException") ∈ ALL := in_ALL 35 rfl rfl
set_option maxRecDepth 100000 in
theorem w_9 : (Jvm.Cond.initialized "java/lang/IllegalArgumentException") ∈ ALL := in_ALL 36 rfl rfl
set_option maxRecDepth 100000 in
theorem w_10 : (Jvm.Cond.initialized "java/lang/IllegalStateException") ∈ ALL := in_ALL 37 rfl rfl
set_option maxRecDepth 100000 in
theorem w_11 : (Jvm.Cond.initialized "Replen$Item") ∈ ALL := in_ALL 38 rfl rfl
set_option maxRecDepth 100000 in
theorem w_12 : (Jvm.Cond.initialized "java/lang/IndexOutOfBoundsException") ∈ ALL := in_ALL 39 rfl rfl
set_option maxRecDepth 100000 in
theorem w_13 : (Jvm.Cond.initialized "Replen$Line") ∈ ALL := in_ALL 40 rfl rfl
set_option maxRecDepth 100000 in
theorem w_14 : (Jvm.Cond.initialized "java/util/NoSuchElementException") ∈ ALL := in_ALL 41 rfl rfl
set_option maxRecDepth 100000 in
theorem w_15 : (Jvm.Cond.initialized "java/lang/UnsupportedOperationException") ∈ ALL := in_ALL 42 rfl rfl
set_option maxRecDepth 100000 in
theorem w_16 : (Jvm.Cond.initialized "java/lang/Math") ∈ ALL := in_ALL 43 rfl rfl
set_option maxRecDepth 100000 in
theorem w_17 : (Jvm.Cond.classLink "ReplenLaw" (8 : Nat) "Replen") ∈ ALL := in_ALL 44 rfl rfl
set_option maxRecDepth 100000 in
theorem w_18 : (Jvm.Cond.instantiable "Replen" (14 : Nat)) ∈ ALL := in_ALL 45 rfl rfl
set_option maxRecDepth 100000 in
theorem w_19 : (Jvm.Cond.methodLink "ReplenLaw" (119 : Nat) ({ cls := "Replen", name := "<init>", desc := "()V" } : Jvm.MethodName)) ∈ ALL := in_ALL 46 rfl rfl
set_option maxRecDepth 100000 in
theorem w_20 : (Jvm.Cond.instanceMethod ({ cls := "Replen", name := "<init>", desc := "()V" } : Jvm.MethodName)) ∈ ALL := in_ALL 47 rfl rfl
set_option maxRecDepth 100000 in
theorem w_21 : (Jvm.Cond.code ({ cls := "Replen", name := "<init>", desc := "()V" } : Jvm.MethodName) prog_1_method_1_code (1 : Nat) (Option.none : Option Jvm.ClassFile.FieldType)) ∈ ALL := in_ALL 48 rfl rfl
set_option maxRecDepth 100000 in
theorem w_22 : (Jvm.Cond.methodLink "Replen" (3 : Nat) ({ cls := "java/lang/Object", name := "<init>", desc := "()V" } : Jvm.MethodName)) ∈ ALL := in_ALL 49 rfl rfl
set_option maxRecDepth 100000 in
theorem w_23 : (Jvm.Cond.instanceMethod ({ cls := "java/lang/Object", name := "<init>", desc := "()V" } : Jvm.MethodName)) ∈ ALL := in_ALL 50 rfl rfl
set_option maxRecDepth 100000 in
theorem w_24 : (Jvm.Cond.code ({ cls := "java/lang/Object", name := "<init>", desc := "()V" } : Jvm.MethodName) object_method_1_code (1 : Nat) (Option.none : Option Jvm.ClassFile.FieldType)) ∈ ALL := in_ALL 51 rfl rfl
set_option maxRecDepth 100000 in
theorem w_25 : (Jvm.Cond.classLink "Replen" (13 : Nat) "Replen$Item") ∈ ALL := in_ALL 52 rfl rfl
set_option maxRecDepth 100000 in
theorem w_27 : (Jvm.Cond.classLink "Replen" (19 : Nat) "Replen$Line") ∈ ALL := in_ALL 54 rfl rfl
set_option maxRecDepth 100000 in
theorem w_29 : (Jvm.Cond.classLink "Replen" (25 : Nat) "Replen$DayBook") ∈ ALL := in_ALL 56 rfl rfl
set_option maxRecDepth 100000 in
theorem w_30 : (Jvm.Cond.instantiable "Replen$DayBook" (1 : Nat)) ∈ ALL := in_ALL 57 rfl rfl
set_option maxRecDepth 100000 in
theorem w_32 : (Jvm.Cond.instanceMethod ({ cls := "Replen$DayBook", name := "<init>", desc := "()V" } : Jvm.MethodName)) ∈ ALL := in_ALL 59 rfl rfl
set_option maxRecDepth 100000 in
theorem w_33 : (Jvm.Cond.code ({ cls := "Replen$DayBook", name := "<init>", desc := "()V" } : Jvm.MethodName) prog_2_method_1_code (1 : Nat) (Option.none : Option Jvm.ClassFile.FieldType)) ∈ ALL := in_ALL 60 rfl rfl
set_option maxRecDepth 100000 in
theorem w_34 : (Jvm.Cond.methodLink "Replen$DayBook" (3 : Nat) ({ cls := "java/lang/Object", name := "<init>", desc := "()V" } : Jvm.MethodName)) ∈ ALL := in_ALL 61 rfl rfl
set_option maxRecDepth 100000 in
theorem w_35 : (Jvm.Cond.fieldLink "Replen$DayBook" (9 : Nat) "Replen$DayBook" "units" "[I") ∈ ALL := in_ALL 62 rfl rfl
set_option maxRecDepth 100000 in
theorem w_36 : (Jvm.Cond.laysFinal "Replen$DayBook" "Replen$DayBook" "units" "[I") ∈ ALL := in_ALL 63 rfl rfl
set_option maxRecDepth 100000 in
theorem w_39 : (Jvm.Cond.arrayClass Jvm.ClassFile.FieldType.int) ∈ ALL := in_ALL 66 rfl rfl
set_option maxRecDepth 100000 in
theorem w_40 : (Jvm.Cond.classLink "Replen" (35 : Nat) "Replen$Learner") ∈ ALL := in_ALL 67 rfl rfl
set_option maxRecDepth 100000 in
theorem w_41 : (Jvm.Cond.instantiable "Replen$Learner" (2 : Nat)) ∈ ALL := in_ALL 68 rfl rfl
set_option maxRecDepth 100000 in
theorem w_43 : (Jvm.Cond.instanceMethod ({ cls := "Replen$Learner", name := "<init>", desc := "()V" } : Jvm.MethodName)) ∈ ALL := in_ALL 70 rfl rfl
set_option maxRecDepth 100000 in
theorem w_44 : (Jvm.Cond.code ({ cls := "Replen$Learner", name := "<init>", desc := "()V" } : Jvm.MethodName) prog_4_method_1_code (1 : Nat) (Option.none : Option Jvm.ClassFile.FieldType)) ∈ ALL := in_ALL 71 rfl rfl
set_option maxRecDepth 100000 in
theorem w_45 : (Jvm.Cond.methodLink "Replen$Learner" (3 : Nat) ({ cls := "java/lang/Object", name := "<init>", desc := "()V" } : Jvm.MethodName)) ∈ ALL := in_ALL 72 rfl rfl
set_option maxRecDepth 100000 in
theorem w_46 : (Jvm.Cond.fieldLink "Replen$Learner" (9 : Nat) "Replen$Learner" "seasons" "[I") ∈ ALL := in_ALL 73 rfl rfl
set_option maxRecDepth 100000 in
theorem w_47 : (Jvm.Cond.fieldLink "Replen$Learner" (15 : Nat) "Replen$Learner" "level" "I") ∈ ALL := in_ALL 74 rfl rfl
set_option maxRecDepth 100000 in
theorem w_49 : (Jvm.Cond.laysFinal "Replen$Learner" "Replen$Learner" "seasons" "[I") ∈ ALL := in_ALL 76 rfl rfl
set_option maxRecDepth 100000 in
theorem w_51 : (Jvm.Cond.lays "Replen$Learner" "Replen$Learner" "level" "I") ∈ ALL := in_ALL 78 rfl rfl
set_option maxRecDepth 100000 in
theorem w_54 : (Jvm.Cond.classLink "Replen" (42 : Nat) "Replen$Sharing") ∈ ALL := in_ALL 81 rfl rfl
set_option maxRecDepth 100000 in
theorem w_55 : (Jvm.Cond.instantiable "Replen$Sharing" (3 : Nat)) ∈ ALL := in_ALL 82 rfl rfl
set_option maxRecDepth 100000 in
theorem w_57 : (Jvm.Cond.instanceMethod ({ cls := "Replen$Sharing", name := "<init>", desc := "()V" } : Jvm.MethodName)) ∈ ALL := in_ALL 84 rfl rfl
set_option maxRecDepth 100000 in
theorem w_58 : (Jvm.Cond.code ({ cls := "Replen$Sharing", name := "<init>", desc := "()V" } : Jvm.MethodName) prog_6_method_1_code (1 : Nat) (Option.none : Option Jvm.ClassFile.FieldType)) ∈ ALL := in_ALL 85 rfl rfl
set_option maxRecDepth 100000 in
theorem w_59 : (Jvm.Cond.methodLink "Replen$Sharing" (3 : Nat) ({ cls := "java/lang/Object", name := "<init>", desc := "()V" } : Jvm.MethodName)) ∈ ALL := in_ALL 86 rfl rfl
set_option maxRecDepth 100000 in
theorem w_60 : (Jvm.Cond.fieldLink "Replen$Sharing" (9 : Nat) "Replen$Sharing" "requests" "[I") ∈ ALL := in_ALL 87 rfl rfl
set_option maxRecDepth 100000 in
theorem w_61 : (Jvm.Cond.fieldLink "Replen$Sharing" (15 : Nat) "Replen$Sharing" "given" "[I") ∈ ALL := in_ALL 88 rfl rfl
set_option maxRecDepth 100000 in
theorem w_62 : (Jvm.Cond.fieldLink "Replen$Sharing" (18 : Nat) "Replen$Sharing" "packs" "I") ∈ ALL := in_ALL 89 rfl rfl
set_option maxRecDepth 100000 in
theorem w_63 : (Jvm.Cond.laysFinal "Replen$Sharing" "Replen$Sharing" "requests" "[I") ∈ ALL := in_ALL 90 rfl rfl
set_option maxRecDepth 100000 in
theorem w_65 : (Jvm.Cond.laysFinal "Replen$Sharing" "Replen$Sharing" "given" "[I") ∈ ALL := in_ALL 92 rfl rfl
set_option maxRecDepth 100000 in
theorem w_67 : (Jvm.Cond.lays "Replen$Sharing" "Replen$Sharing" "packs" "I") ∈ ALL := in_ALL 94 rfl rfl
set_option maxRecDepth 100000 in
theorem w_70 : (Jvm.Cond.fieldLink "Replen" (9 : Nat) "Replen" "leads" "[I") ∈ ALL := in_ALL 97 rfl rfl
set_option maxRecDepth 100000 in
theorem w_71 : (Jvm.Cond.fieldLink "Replen" (15 : Nat) "Replen" "items" "[LReplen$Item;") ∈ ALL := in_ALL 98 rfl rfl
set_option maxRecDepth 100000 in
theorem w_72 : (Jvm.Cond.fieldLink "Replen" (21 : Nat) "Replen" "lines" "[LReplen$Line;") ∈ ALL := in_ALL 99 rfl rfl
set_option maxRecDepth 100000 in
theorem w_73 : (Jvm.Cond.fieldLink "Replen" (28 : Nat) "Replen" "levelRates" "LReplen$DayBook;") ∈ ALL := in_ALL 100 rfl rfl
set_option maxRecDepth 100000 in
theorem w_74 : (Jvm.Cond.fieldLink "Replen" (32 : Nat) "Replen" "seasonRates" "LReplen$DayBook;") ∈ ALL := in_ALL 101 rfl rfl
set_option maxRecDepth 100000 in
theorem w_75 : (Jvm.Cond.fieldLink "Replen" (38 : Nat) "Replen" "replay" "LReplen$Learner;") ∈ ALL := in_ALL 102 rfl rfl
set_option maxRecDepth 100000 in
theorem w_76 : (Jvm.Cond.fieldLink "Replen" (45 : Nat) "Replen" "sharing" "LReplen$Sharing;") ∈ ALL := in_ALL 103 rfl rfl
set_option maxRecDepth 100000 in
theorem w_77 : (Jvm.Cond.fieldLink "Replen" (49 : Nat) "Replen" "shopCount" "I") ∈ ALL := in_ALL 104 rfl rfl
set_option maxRecDepth 100000 in
theorem w_78 : (Jvm.Cond.fieldLink "Replen" (53 : Nat) "Replen" "itemCount" "I") ∈ ALL := in_ALL 105 rfl rfl
set_option maxRecDepth 100000 in
theorem w_79 : (Jvm.Cond.fieldLink "Replen" (56 : Nat) "Replen" "lineCount" "I") ∈ ALL := in_ALL 106 rfl rfl
set_option maxRecDepth 100000 in
theorem w_80 : (Jvm.Cond.fieldLink "Replen" (59 : Nat) "Replen" "day" "I") ∈ ALL := in_ALL 107 rfl rfl
set_option maxRecDepth 100000 in
theorem w_81 : (Jvm.Cond.fieldLink "Replen" (62 : Nat) "Replen" "percent" "I") ∈ ALL := in_ALL 108 rfl rfl
set_option maxRecDepth 100000 in
theorem w_82 : (Jvm.Cond.fieldLink "Replen" (65 : Nat) "Replen" "levelRate" "I") ∈ ALL := in_ALL 109 rfl rfl
set_option maxRecDepth 100000 in
theorem w_83 : (Jvm.Cond.fieldLink "Replen" (68 : Nat) "Replen" "seasonRate" "I") ∈ ALL := in_ALL 110 rfl rfl
set_option maxRecDepth 100000 in
theorem w_84 : (Jvm.Cond.laysFinal "Replen" "Replen" "leads" "[I") ∈ ALL := in_ALL 111 rfl rfl
set_option maxRecDepth 100000 in
theorem w_86 : (Jvm.Cond.laysFinal "Replen" "Replen" "items" "[LReplen$Item;") ∈ ALL := in_ALL 113 rfl rfl
set_option maxRecDepth 100000 in
theorem w_88 : (Jvm.Cond.laysFinal "Replen" "Replen" "lines" "[LReplen$Line;") ∈ ALL := in_ALL 115 rfl rfl
set_option maxRecDepth 100000 in
theorem w_90 : (Jvm.Cond.laysFinal "Replen" "Replen" "levelRates" "LReplen$DayBook;") ∈ ALL := in_ALL 117 rfl rfl
set_option maxRecDepth 100000 in
theorem w_92 : (Jvm.Cond.laysFinal "Replen" "Replen" "seasonRates" "LReplen$DayBook;") ∈ ALL := in_ALL 119 rfl rfl
set_option maxRecDepth 100000 in
theorem w_94 : (Jvm.Cond.laysFinal "Replen" "Replen" "replay" "LReplen$Learner;") ∈ ALL := in_ALL 121 rfl rfl
set_option maxRecDepth 100000 in
theorem w_96 : (Jvm.Cond.laysFinal "Replen" "Replen" "sharing" "LReplen$Sharing;") ∈ ALL := in_ALL 123 rfl rfl
set_option maxRecDepth 100000 in
theorem w_98 : (Jvm.Cond.lays "Replen" "Replen" "shopCount" "I") ∈ ALL := in_ALL 125 rfl rfl
set_option maxRecDepth 100000 in
theorem w_100 : (Jvm.Cond.lays "Replen" "Replen" "itemCount" "I") ∈ ALL := in_ALL 127 rfl rfl
set_option maxRecDepth 100000 in
theorem w_102 : (Jvm.Cond.lays "Replen" "Replen" "lineCount" "I") ∈ ALL := in_ALL 129 rfl rfl
set_option maxRecDepth 100000 in
theorem w_104 : (Jvm.Cond.lays "Replen" "Replen" "day" "I") ∈ ALL := in_ALL 131 rfl rfl
set_option maxRecDepth 100000 in
theorem w_106 : (Jvm.Cond.lays "Replen" "Replen" "percent" "I") ∈ ALL := in_ALL 133 rfl rfl
set_option maxRecDepth 100000 in
theorem w_108 : (Jvm.Cond.lays "Replen" "Replen" "levelRate" "I") ∈ ALL := in_ALL 135 rfl rfl
set_option maxRecDepth 100000 in
theorem w_110 : (Jvm.Cond.lays "Replen" "Replen" "seasonRate" "I") ∈ ALL := in_ALL 137 rfl rfl
set_option maxRecDepth 100000 in
theorem w_113 : (Jvm.Cond.methodLink "ReplenLaw" (166 : Nat) ({ cls := "Replen", name := "today", desc := "()I" } : Jvm.MethodName)) ∈ ALL := in_ALL 140 rfl rfl
set_option maxRecDepth 100000 in
theorem w_114 : (Jvm.Cond.instanceMethod ({ cls := "Replen", name := "today", desc := "()I" } : Jvm.MethodName)) ∈ ALL := in_ALL 141 rfl rfl
set_option maxRecDepth 100000 in
theorem w_115 : (Jvm.Cond.selects "Replen" ({ cls := "Replen", name := "today", desc := "()I" } : Jvm.MethodName) ({ cls := "Replen", name := "today", desc := "()I" } : Jvm.MethodName)) ∈ ALL := in_ALL 142 rfl rfl
set_option maxRecDepth 100000 in
theorem w_116 : (Jvm.Cond.code ({ cls := "Replen", name := "today", desc := "()I" } : Jvm.MethodName) prog_1_method_13_code (1 : Nat) (Option.some Jvm.ClassFile.FieldType.int)) ∈ ALL := in_ALL 143 rfl rfl
set_option maxRecDepth 100000 in
theorem w_117 : (Jvm.Cond.methodLink "ReplenLaw" (227 : Nat) ({ cls := "Replen", name := "units", desc := "()J" } : Jvm.MethodName)) ∈ ALL := in_ALL 144 rfl rfl
set_option maxRecDepth 100000 in
theorem w_118 : (Jvm.Cond.instanceMethod ({ cls := "Replen", name := "units", desc := "()J" } : Jvm.MethodName)) ∈ ALL := in_ALL 145 rfl rfl
set_option maxRecDepth 100000 in
theorem w_119 : (Jvm.Cond.selects "Replen" ({ cls := "Replen", name := "units", desc := "()J" } : Jvm.MethodName) ({ cls := "Replen", name := "units", desc := "()J" } : Jvm.MethodName)) ∈ ALL := in_ALL 146 rfl rfl
set_option maxRecDepth 100000 in
theorem w_120 : (Jvm.Cond.code ({ cls := "Replen", name := "units", desc := "()J" } : Jvm.MethodName) prog_1_method_33_code (5 : Nat) (Option.some Jvm.ClassFile.FieldType.long)) ∈ ALL := in_ALL 147 rfl rfl
set_option maxRecDepth 100000 in
theorem w_121 : (Jvm.Cond.methodLink "Replen" (227 : Nat) ({ cls := "Replen$Line", name := "dueAfter", desc := "(I)I" } : Jvm.MethodName)) ∈ ALL := in_ALL 148 rfl rfl
set_option maxRecDepth 100000 in
theorem w_122 : (Jvm.Cond.instanceMethod ({ cls := "Replen$Line", name := "dueAfter", desc := "(I)I" } : Jvm.MethodName)) ∈ ALL := in_ALL 149 rfl rfl
set_option maxRecDepth 100000 in
theorem w_123 : (Jvm.Cond.selects "Replen$Line" ({ cls := "Replen$Line", name := "dueAfter", desc := "(I)I" } : Jvm.MethodName) ({ cls := "Replen$Line", name := "dueAfter", desc := "(I)I" } : Jvm.MethodName)) ∈ ALL := in_ALL 150 rfl rfl
set_option maxRecDepth 100000 in
theorem w_124 : (Jvm.Cond.code ({ cls := "Replen$Line", name := "dueAfter", desc := "(I)I" } : Jvm.MethodName) prog_5_method_6_code (4 : Nat) (Option.some Jvm.ClassFile.FieldType.int)) ∈ ALL := in_ALL 151 rfl rfl
set_option maxRecDepth 100000 in
theorem w_125 : (Jvm.Cond.methodLink "Replen$Line" (78 : Nat) ({ cls := "Replen$DayBook", name := "on", desc := "(I)I" } : Jvm.MethodName)) ∈ ALL := in_ALL 152 rfl rfl
set_option maxRecDepth 100000 in
theorem w_126 : (Jvm.Cond.instanceMethod ({ cls := "Replen$DayBook", name := "on", desc := "(I)I" } : Jvm.MethodName)) ∈ ALL := in_ALL 153 rfl rfl
set_option maxRecDepth 100000 in
theorem w_127 : (Jvm.Cond.selects "Replen$DayBook" ({ cls := "Replen$DayBook", name := "on", desc := "(I)I" } : Jvm.MethodName) ({ cls := "Replen$DayBook", name := "on", desc := "(I)I" } : Jvm.MethodName)) ∈ ALL := in_ALL 154 rfl rfl
set_option maxRecDepth 100000 in
theorem w_128 : (Jvm.Cond.code ({ cls := "Replen$DayBook", name := "on", desc := "(I)I" } : Jvm.MethodName) prog_2_method_2_code (2 : Nat) (Option.some Jvm.ClassFile.FieldType.int)) ∈ ALL := in_ALL 155 rfl rfl
set_option maxRecDepth 100000 in
theorem w_129 : (Jvm.Cond.methodLink "ReplenLaw" (123 : Nat) ({ cls := "ReplenLaw", name := "addShop", desc := "(LReplen;I[J)I" } : Jvm.MethodName)) ∈ ALL := in_ALL 156 rfl rfl
set_option maxRecDepth 100000 in
theorem w_130 : (Jvm.Cond.static ({ cls := "ReplenLaw", name := "addShop", desc := "(LReplen;I[J)I" } : Jvm.MethodName)) ∈ ALL := in_ALL 157 rfl rfl
set_option maxRecDepth 100000 in
theorem w_131 : (Jvm.Cond.codeWith ({ cls := "ReplenLaw", name := "addShop", desc := "(LReplen;I[J)I" } : Jvm.MethodName) method_3_code (4 : Nat) (Option.some Jvm.ClassFile.FieldType.int) [((0 : Nat), (9 : Nat), (12 : Nat), (13 : Nat)), ((0 : Nat), (9 : Nat), (15 : Nat), (15 : Nat))]) ∈ ALL := in_ALL 158 rfl rfl
set_option maxRecDepth 100000 in
theorem w_132 : (Jvm.Cond.classLink "ReplenLaw" (13 : Nat) "java/lang/IllegalArgumentException") ∈ ALL := in_ALL 159 rfl rfl
set_option maxRecDepth 100000 in
theorem w_133 : (Jvm.Cond.classLink "ReplenLaw" (15 : Nat) "java/lang/IllegalStateException") ∈ ALL := in_ALL 160 rfl rfl
set_option maxRecDepth 100000 in
theorem w_134 : (Jvm.Cond.methodLink "ReplenLaw" (7 : Nat) ({ cls := "Replen", name := "addShop", desc := "(I)I" } : Jvm.MethodName)) ∈ ALL := in_ALL 161 rfl rfl
set_option maxRecDepth 100000 in
theorem w_135 : (Jvm.Cond.instanceMethod ({ cls := "Replen", name := "addShop", desc := "(I)I" } : Jvm.MethodName)) ∈ ALL := in_ALL 162 rfl rfl
set_option maxRecDepth 100000 in
theorem w_136 : (Jvm.Cond.selects "Replen" ({ cls := "Replen", name := "addShop", desc := "(I)I" } : Jvm.MethodName) ({ cls := "Replen", name := "addShop", desc := "(I)I" } : Jvm.MethodName)) ∈ ALL := in_ALL 163 rfl rfl
set_option maxRecDepth 100000 in
theorem w_137 : (Jvm.Cond.code ({ cls := "Replen", name := "addShop", desc := "(I)I" } : Jvm.MethodName) prog_1_method_2_code (2 : Nat) (Option.some Jvm.ClassFile.FieldType.int)) ∈ ALL := in_ALL 164 rfl rfl
set_option maxRecDepth 100000 in
theorem w_138 : (Jvm.Cond.classLink "Replen" (71 : Nat) "java/lang/IllegalArgumentException") ∈ ALL := in_ALL 165 rfl rfl
set_option maxRecDepth 100000 in
theorem w_139 : (Jvm.Cond.instantiable "java/lang/IllegalArgumentException" (6 : Nat)) ∈ ALL := in_ALL 166 rfl rfl
set_option maxRecDepth 100000 in
theorem w_147 : (Jvm.Cond.selects "java/lang/IllegalArgumentException" ({ cls := "java/lang/Throwable", name := "fillInStackTrace", desc := "(I)Ljava/lang/Throwable;" } : Jvm.MethodName) ({ cls := "java/lang/Throwable", name := "fillInStackTrace", desc := "(I)Ljava/lang/Throwable;" } : Jvm.MethodName)) ∈ ALL := in_ALL 174 rfl rfl
set_option maxRecDepth 100000 in
theorem w_148 : (Jvm.Cond.selects "java/lang/IllegalArgumentException" ({ cls := "java/lang/Throwable", name := "fillInStackTrace", desc := "()Ljava/lang/Throwable;" } : Jvm.MethodName) ({ cls := "java/lang/Throwable", name := "fillInStackTrace", desc := "()Ljava/lang/Throwable;" } : Jvm.MethodName)) ∈ ALL := in_ALL 175 rfl rfl
set_option maxRecDepth 100000 in
theorem w_159 : (Jvm.Cond.fieldLink "java/lang/Throwable" (198 : Nat) "java/lang/Throwable" "backtrace" "Ljava/lang/Object;") ∈ ALL := in_ALL 186 rfl rfl
set_option maxRecDepth 100000 in
theorem w_161 : (Jvm.Cond.instanceMethod ({ cls := "java/lang/Throwable", name := "<init>", desc := "()V" } : Jvm.MethodName)) ∈ ALL := in_ALL 188 rfl rfl
set_option maxRecDepth 100000 in
theorem w_162 : (Jvm.Cond.code ({ cls := "java/lang/Throwable", name := "<init>", desc := "()V" } : Jvm.MethodName) prog_17_method_1_code (1 : Nat) (Option.none : Option Jvm.ClassFile.FieldType)) ∈ ALL := in_ALL 189 rfl rfl
set_option maxRecDepth 100000 in
theorem w_163 : (Jvm.Cond.methodLink "java/lang/Throwable" (1 : Nat) ({ cls := "java/lang/Object", name := "<init>", desc := "()V" } : Jvm.MethodName)) ∈ ALL := in_ALL 190 rfl rfl
set_option maxRecDepth 100000 in
theorem w_164 : (Jvm.Cond.fieldLink "java/lang/Throwable" (13 : Nat) "java/lang/Throwable" "UNASSIGNED_STACK" "[Ljava/lang/StackTraceElement;") ∈ ALL := in_ALL 191 rfl rfl
set_option maxRecDepth 100000 in
theorem w_166 : (Jvm.Cond.fieldLink "java/lang/Throwable" (20 : Nat) "java/lang/Throwable" "SUPPRESSED_SENTINEL" "Ljava/util/List;") ∈ ALL := in_ALL 193 rfl rfl
set_option maxRecDepth 100000 in
theorem w_168 : (Jvm.Cond.methodLink "java/lang/Throwable" (27 : Nat) ({ cls := "java/lang/Throwable", name := "fillInStackTrace", desc := "()Ljava/lang/Throwable;" } : Jvm.MethodName)) ∈ ALL := in_ALL 195 rfl rfl
set_option maxRecDepth 100000 in
theorem w_169 : (Jvm.Cond.instanceMethod ({ cls := "java/lang/Throwable", name := "fillInStackTrace", desc := "()Ljava/lang/Throwable;" } : Jvm.MethodName)) ∈ ALL := in_ALL 196 rfl rfl
set_option maxRecDepth 100000 in
theorem w_171 : (Jvm.Cond.selects "java/lang/IllegalStateException" ({ cls := "java/lang/Throwable", name := "fillInStackTrace", desc := "()Ljava/lang/Throwable;" } : Jvm.MethodName) ({ cls := "java/lang/Throwable", name := "fillInStackTrace", desc := "()Ljava/lang/Throwable;" } : Jvm.MethodName)) ∈ ALL := in_ALL 198 rfl rfl
set_option maxRecDepth 100000 in
theorem w_172 : (Jvm.Cond.selects "java/lang/IndexOutOfBoundsException" ({ cls := "java/lang/Throwable", name := "fillInStackTrace", desc := "()Ljava/lang/Throwable;" } : Jvm.MethodName) ({ cls := "java/lang/Throwable", name := "fillInStackTrace", desc := "()Ljava/lang/Throwable;" } : Jvm.MethodName)) ∈ ALL := in_ALL 199 rfl rfl
set_option maxRecDepth 100000 in
theorem w_173 : (Jvm.Cond.selects "java/lang/UnsupportedOperationException" ({ cls := "java/lang/Throwable", name := "fillInStackTrace", desc := "()Ljava/lang/Throwable;" } : Jvm.MethodName) ({ cls := "java/lang/Throwable", name := "fillInStackTrace", desc := "()Ljava/lang/Throwable;" } : Jvm.MethodName)) ∈ ALL := in_ALL 200 rfl rfl
set_option maxRecDepth 100000 in
theorem w_174 : (Jvm.Cond.selects "java/util/NoSuchElementException" ({ cls := "java/lang/Throwable", name := "fillInStackTrace", desc := "()Ljava/lang/Throwable;" } : Jvm.MethodName) ({ cls := "java/lang/Throwable", name := "fillInStackTrace", desc := "()Ljava/lang/Throwable;" } : Jvm.MethodName)) ∈ ALL := in_ALL 201 rfl rfl
set_option maxRecDepth 100000 in
theorem w_176 : (Jvm.Cond.methodLink "java/lang/Throwable" (202 : Nat) ({ cls := "java/lang/Throwable", name := "fillInStackTrace", desc := "(I)Ljava/lang/Throwable;" } : Jvm.MethodName)) ∈ ALL := in_ALL 203 rfl rfl
set_option maxRecDepth 100000 in
theorem w_178 : (Jvm.Cond.instanceMethod ({ cls := "java/lang/Throwable", name := "fillInStackTrace", desc := "(I)Ljava/lang/Throwable;" } : Jvm.MethodName)) ∈ ALL := in_ALL 205 rfl rfl
set_option maxRecDepth 100000 in
theorem w_179 : (Jvm.Cond.instantiable "java/lang/Throwable" (6 : Nat)) ∈ ALL := in_ALL 206 rfl rfl
set_option maxRecDepth 100000 in
theorem w_182 : (Jvm.Cond.methodLink "Replen" (75 : Nat) ({ cls := "java/lang/IllegalArgumentException", name := "<init>", desc := "(Ljava/lang/String;)V" } : Jvm.MethodName)) ∈ ALL := in_ALL 209 rfl rfl
set_option maxRecDepth 100000 in
theorem w_183 : (Jvm.Cond.instanceMethod ({ cls := "java/lang/IllegalArgumentException", name := "<init>", desc := "(Ljava/lang/String;)V" } : Jvm.MethodName)) ∈ ALL := in_ALL 210 rfl rfl
set_option maxRecDepth 100000 in
theorem w_184 : (Jvm.Cond.code ({ cls := "java/lang/IllegalArgumentException", name := "<init>", desc := "(Ljava/lang/String;)V" } : Jvm.MethodName) prog_11_method_2_code (2 : Nat) (Option.none : Option Jvm.ClassFile.FieldType)) ∈ ALL := in_ALL 211 rfl rfl
set_option maxRecDepth 100000 in
theorem w_185 : (Jvm.Cond.methodLink "java/lang/IllegalArgumentException" (7 : Nat) ({ cls := "java/lang/RuntimeException", name := "<init>", desc := "(Ljava/lang/String;)V" } : Jvm.MethodName)) ∈ ALL := in_ALL 212 rfl rfl
set_option maxRecDepth 100000 in
theorem w_186 : (Jvm.Cond.instanceMethod ({ cls := "java/lang/RuntimeException", name := "<init>", desc := "(Ljava/lang/String;)V" } : Jvm.MethodName)) ∈ ALL := in_ALL 213 rfl rfl
set_option maxRecDepth 100000 in
theorem w_187 : (Jvm.Cond.code ({ cls := "java/lang/RuntimeException", name := "<init>", desc := "(Ljava/lang/String;)V" } : Jvm.MethodName) prog_15_method_2_code (2 : Nat) (Option.none : Option Jvm.ClassFile.FieldType)) ∈ ALL := in_ALL 214 rfl rfl
set_option maxRecDepth 100000 in
theorem w_188 : (Jvm.Cond.methodLink "java/lang/RuntimeException" (7 : Nat) ({ cls := "java/lang/Exception", name := "<init>", desc := "(Ljava/lang/String;)V" } : Jvm.MethodName)) ∈ ALL := in_ALL 215 rfl rfl
set_option maxRecDepth 100000 in
theorem w_189 : (Jvm.Cond.instanceMethod ({ cls := "java/lang/Exception", name := "<init>", desc := "(Ljava/lang/String;)V" } : Jvm.MethodName)) ∈ ALL := in_ALL 216 rfl rfl
set_option maxRecDepth 100000 in
theorem w_190 : (Jvm.Cond.code ({ cls := "java/lang/Exception", name := "<init>", desc := "(Ljava/lang/String;)V" } : Jvm.MethodName) prog_10_method_2_code (2 : Nat) (Option.none : Option Jvm.ClassFile.FieldType)) ∈ ALL := in_ALL 217 rfl rfl
set_option maxRecDepth 100000 in
theorem w_191 : (Jvm.Cond.methodLink "java/lang/Exception" (7 : Nat) ({ cls := "java/lang/Throwable", name := "<init>", desc := "(Ljava/lang/String;)V" } : Jvm.MethodName)) ∈ ALL := in_ALL 218 rfl rfl
set_option maxRecDepth 100000 in
theorem w_192 : (Jvm.Cond.instanceMethod ({ cls := "java/lang/Throwable", name := "<init>", desc := "(Ljava/lang/String;)V" } : Jvm.MethodName)) ∈ ALL := in_ALL 219 rfl rfl
set_option maxRecDepth 100000 in
theorem w_193 : (Jvm.Cond.code ({ cls := "java/lang/Throwable", name := "<init>", desc := "(Ljava/lang/String;)V" } : Jvm.MethodName) prog_17_method_2_code (2 : Nat) (Option.none : Option Jvm.ClassFile.FieldType)) ∈ ALL := in_ALL 220 rfl rfl
set_option maxRecDepth 100000 in
theorem w_194 : (Jvm.Cond.fieldLink "java/lang/Throwable" (198 : Nat) "java/lang/Throwable" "backtrace" "Ljava/lang/Object;") ∈ ALL := in_ALL 221 rfl rfl
set_option maxRecDepth 100000 in
theorem w_195 : (Jvm.Cond.fieldLink "java/lang/Throwable" (31 : Nat) "java/lang/Throwable" "detailMessage" "Ljava/lang/String;") ∈ ALL := in_ALL 222 rfl rfl
set_option maxRecDepth 100000 in
theorem w_196 : (Jvm.Cond.fieldLink "java/lang/Throwable" (7 : Nat) "java/lang/Throwable" "cause" "Ljava/lang/Throwable;") ∈ ALL := in_ALL 223 rfl rfl
set_option maxRecDepth 100000 in
theorem w_197 : (Jvm.Cond.fieldLink "java/lang/Throwable" (17 : Nat) "java/lang/Throwable" "stackTrace" "[Ljava/lang/StackTraceElement;") ∈ ALL := in_ALL 224 rfl rfl
set_option maxRecDepth 100000 in
theorem w_198 : (Jvm.Cond.fieldLink "java/lang/Throwable" (24 : Nat) "java/lang/Throwable" "suppressedExceptions" "Ljava/util/List;") ∈ ALL := in_ALL 225 rfl rfl
set_option maxRecDepth 100000 in
theorem w_207 : (Jvm.Cond.arrayClass Jvm.ClassFile.FieldType.byte) ∈ ALL := in_ALL 234 rfl rfl
set_option maxRecDepth 100000 in
theorem w_208 : (Jvm.Cond.classLink "Replen" (78 : Nat) "java/lang/IllegalStateException") ∈ ALL := in_ALL 235 rfl rfl
set_option maxRecDepth 100000 in
theorem w_209 : (Jvm.Cond.instantiable "java/lang/IllegalStateException" (6 : Nat)) ∈ ALL := in_ALL 236 rfl rfl
set_option maxRecDepth 100000 in
theorem w_211 : (Jvm.Cond.selects "java/lang/IllegalStateException" ({ cls := "java/lang/Throwable", name := "fillInStackTrace", desc := "(I)Ljava/lang/Throwable;" } : Jvm.MethodName) ({ cls := "java/lang/Throwable", name := "fillInStackTrace", desc := "(I)Ljava/lang/Throwable;" } : Jvm.MethodName)) ∈ ALL := in_ALL 238 rfl rfl
set_option maxRecDepth 100000 in
theorem w_218 : (Jvm.Cond.methodLink "Replen" (82 : Nat) ({ cls := "java/lang/IllegalStateException", name := "<init>", desc := "(Ljava/lang/String;)V" } : Jvm.MethodName)) ∈ ALL := in_ALL 245 rfl rfl
set_option maxRecDepth 100000 in
theorem w_219 : (Jvm.Cond.instanceMethod ({ cls := "java/lang/IllegalStateException", name := "<init>", desc := "(Ljava/lang/String;)V" } : Jvm.MethodName)) ∈ ALL := in_ALL 246 rfl rfl
set_option maxRecDepth 100000 in
theorem w_220 : (Jvm.Cond.code ({ cls := "java/lang/IllegalStateException", name := "<init>", desc := "(Ljava/lang/String;)V" } : Jvm.MethodName) prog_12_method_2_code (2 : Nat) (Option.none : Option Jvm.ClassFile.FieldType)) ∈ ALL := in_ALL 247 rfl rfl
set_option maxRecDepth 100000 in
theorem w_221 : (Jvm.Cond.methodLink "java/lang/IllegalStateException" (7 : Nat) ({ cls := "java/lang/RuntimeException", name := "<init>", desc := "(Ljava/lang/String;)V" } : Jvm.MethodName)) ∈ ALL := in_ALL 248 rfl rfl
set_option maxRecDepth 100000 in
theorem w_224 : (Jvm.Cond.methodLink "ReplenLaw" (132 : Nat) ({ cls := "ReplenLaw", name := "addItem", desc := "(LReplen;II[J)I" } : Jvm.MethodName)) ∈ ALL := in_ALL 251 rfl rfl
set_option maxRecDepth 100000 in
theorem w_225 : (Jvm.Cond.static ({ cls := "ReplenLaw", name := "addItem", desc := "(LReplen;II[J)I" } : Jvm.MethodName)) ∈ ALL := in_ALL 252 rfl rfl
set_option maxRecDepth 100000 in
theorem w_226 : (Jvm.Cond.codeWith ({ cls := "ReplenLaw", name := "addItem", desc := "(LReplen;II[J)I" } : Jvm.MethodName) method_4_code (5 : Nat) (Option.some Jvm.ClassFile.FieldType.int) [((0 : Nat), (10 : Nat), (13 : Nat), (13 : Nat)), ((0 : Nat), (10 : Nat), (17 : Nat), (15 : Nat))]) ∈ ALL := in_ALL 253 rfl rfl
set_option maxRecDepth 100000 in
theorem w_227 : (Jvm.Cond.methodLink "ReplenLaw" (17 : Nat) ({ cls := "Replen", name := "addItem", desc := "(II)I" } : Jvm.MethodName)) ∈ ALL := in_ALL 254 rfl rfl
set_option maxRecDepth 100000 in
theorem w_228 : (Jvm.Cond.instanceMethod ({ cls := "Replen", name := "addItem", desc := "(II)I" } : Jvm.MethodName)) ∈ ALL := in_ALL 255 rfl rfl
set_option maxRecDepth 100000 in
theorem w_229 : (Jvm.Cond.selects "Replen" ({ cls := "Replen", name := "addItem", desc := "(II)I" } : Jvm.MethodName) ({ cls := "Replen", name := "addItem", desc := "(II)I" } : Jvm.MethodName)) ∈ ALL := in_ALL 256 rfl rfl
set_option maxRecDepth 100000 in
theorem w_230 : (Jvm.Cond.code ({ cls := "Replen", name := "addItem", desc := "(II)I" } : Jvm.MethodName) prog_1_method_3_code (3 : Nat) (Option.some Jvm.ClassFile.FieldType.int)) ∈ ALL := in_ALL 257 rfl rfl
set_option maxRecDepth 100000 in
theorem w_234 : (Jvm.Cond.instantiable "Replen$Item" (6 : Nat)) ∈ ALL := in_ALL 261 rfl rfl
set_option maxRecDepth 100000 in
theorem w_235 : (Jvm.Cond.methodLink "Replen" (89 : Nat) ({ cls := "Replen$Item", name := "<init>", desc := "(II)V" } : Jvm.MethodName)) ∈ ALL := in_ALL 262 rfl rfl
set_option maxRecDepth 100000 in
theorem w_236 : (Jvm.Cond.instanceMethod ({ cls := "Replen$Item", name := "<init>", desc := "(II)V" } : Jvm.MethodName)) ∈ ALL := in_ALL 263 rfl rfl
set_option maxRecDepth 100000 in
theorem w_237 : (Jvm.Cond.code ({ cls := "Replen$Item", name := "<init>", desc := "(II)V" } : Jvm.MethodName) prog_3_method_1_code (3 : Nat) (Option.none : Option Jvm.ClassFile.FieldType)) ∈ ALL := in_ALL 264 rfl rfl
set_option maxRecDepth 100000 in
theorem w_238 : (Jvm.Cond.methodLink "Replen$Item" (1 : Nat) ({ cls := "java/lang/Object", name := "<init>", desc := "()V" } : Jvm.MethodName)) ∈ ALL := in_ALL 265 rfl rfl
set_option maxRecDepth 100000 in
theorem w_239 : (Jvm.Cond.classLink "Replen$Item" (7 : Nat) "Replen$DayBook") ∈ ALL := in_ALL 266 rfl rfl
set_option maxRecDepth 100000 in
theorem w_241 : (Jvm.Cond.fieldLink "Replen$Item" (22 : Nat) "Replen$Item" "pack" "I") ∈ ALL := in_ALL 268 rfl rfl
set_option maxRecDepth 100000 in
theorem w_243 : (Jvm.Cond.fieldLink "Replen$Item" (26 : Nat) "Replen$Item" "firstStock" "I") ∈ ALL := in_ALL 270 rfl rfl
set_option maxRecDepth 100000 in
theorem w_244 : (Jvm.Cond.fieldLink "Replen$Item" (10 : Nat) "Replen$Item" "takenIn" "LReplen$DayBook;") ∈ ALL := in_ALL 271 rfl rfl
set_option maxRecDepth 100000 in
theorem w_245 : (Jvm.Cond.fieldLink "Replen$Item" (16 : Nat) "Replen$Item" "givenOut" "LReplen$DayBook;") ∈ ALL := in_ALL 272 rfl rfl
set_option maxRecDepth 100000 in
theorem w_246 : (Jvm.Cond.fieldLink "Replen$Item" (19 : Nat) "Replen$Item" "promotions" "LReplen$DayBook;") ∈ ALL := in_ALL 273 rfl rfl
set_option maxRecDepth 100000 in
theorem w_248 : (Jvm.Cond.fieldLink "Replen$Item" (29 : Nat) "Replen$Item" "stock" "I") ∈ ALL := in_ALL 275 rfl rfl
set_option maxRecDepth 100000 in
theorem w_250 : (Jvm.Cond.laysFinal "Replen$Item" "Replen$Item" "pack" "I") ∈ ALL := in_ALL 277 rfl rfl
set_option maxRecDepth 100000 in
theorem w_252 : (Jvm.Cond.laysFinal "Replen$Item" "Replen$Item" "firstStock" "I") ∈ ALL := in_ALL 279 rfl rfl
set_option maxRecDepth 100000 in
theorem w_254 : (Jvm.Cond.laysFinal "Replen$Item" "Replen$Item" "takenIn" "LReplen$DayBook;") ∈ ALL := in_ALL 281 rfl rfl
set_option maxRecDepth 100000 in
theorem w_256 : (Jvm.Cond.laysFinal "Replen$Item" "Replen$Item" "givenOut" "LReplen$DayBook;") ∈ ALL := in_ALL 283 rfl rfl
set_option maxRecDepth 100000 in
theorem w_258 : (Jvm.Cond.laysFinal "Replen$Item" "Replen$Item" "promotions" "LReplen$DayBook;") ∈ ALL := in_ALL 285 rfl rfl
set_option maxRecDepth 100000 in
theorem w_260 : (Jvm.Cond.lays "Replen$Item" "Replen$Item" "stock" "I") ∈ ALL := in_ALL 287 rfl rfl
set_option maxRecDepth 100000 in
theorem w_263 : (Jvm.Cond.methodLink "ReplenLaw" (136 : Nat) ({ cls := "ReplenLaw", name := "carry", desc := "(LReplen;IIII[J)I" } : Jvm.MethodName)) ∈ ALL := in_ALL 290 rfl rfl
set_option maxRecDepth 100000 in
theorem w_264 : (Jvm.Cond.static ({ cls := "ReplenLaw", name := "carry", desc := "(LReplen;IIII[J)I" } : Jvm.MethodName)) ∈ ALL := in_ALL 291 rfl rfl
set_option maxRecDepth 100000 in
theorem w_265 : (Jvm.Cond.codeWith ({ cls := "ReplenLaw", name := "carry", desc := "(LReplen;IIII[J)I" } : Jvm.MethodName) method_5_code (7 : Nat) (Option.some Jvm.ClassFile.FieldType.int) [((0 : Nat), (14 : Nat), (17 : Nat), (25 : Nat)), ((0 : Nat), (14 : Nat), (21 : Nat), (13 : Nat)), ((0 : Nat), (14 : Nat), (25 : Nat), (15 : Nat))]) ∈ ALL := in_ALL 292 rfl rfl
set_option maxRecDepth 100000 in
theorem w_266 : (Jvm.Cond.classLink "ReplenLaw" (25 : Nat) "java/lang/IndexOutOfBoundsException") ∈ ALL := in_ALL 293 rfl rfl
set_option maxRecDepth 100000 in
theorem w_267 : (Jvm.Cond.methodLink "ReplenLaw" (21 : Nat) ({ cls := "Replen", name := "carry", desc := "(IIII)I" } : Jvm.MethodName)) ∈ ALL := in_ALL 294 rfl rfl
set_option maxRecDepth 100000 in
theorem w_268 : (Jvm.Cond.instanceMethod ({ cls := "Replen", name := "carry", desc := "(IIII)I" } : Jvm.MethodName)) ∈ ALL := in_ALL 295 rfl rfl
set_option maxRecDepth 100000 in
theorem w_269 : (Jvm.Cond.selects "Replen" ({ cls := "Replen", name := "carry", desc := "(IIII)I" } : Jvm.MethodName) ({ cls := "Replen", name := "carry", desc := "(IIII)I" } : Jvm.MethodName)) ∈ ALL := in_ALL 296 rfl rfl
set_option maxRecDepth 100000 in
theorem w_270 : (Jvm.Cond.code ({ cls := "Replen", name := "carry", desc := "(IIII)I" } : Jvm.MethodName) prog_1_method_4_code (7 : Nat) (Option.some Jvm.ClassFile.FieldType.int)) ∈ ALL := in_ALL 297 rfl rfl
set_option maxRecDepth 100000 in
theorem w_271 : (Jvm.Cond.methodLink "Replen" (92 : Nat) ({ cls := "Replen", name := "requireShop", desc := "(I)V" } : Jvm.MethodName)) ∈ ALL := in_ALL 298 rfl rfl
set_option maxRecDepth 100000 in
theorem w_273 : (Jvm.Cond.instanceMethod ({ cls := "Replen", name := "requireShop", desc := "(I)V" } : Jvm.MethodName)) ∈ ALL := in_ALL 300 rfl rfl
set_option maxRecDepth 100000 in
theorem w_274 : (Jvm.Cond.code ({ cls := "Replen", name := "requireShop", desc := "(I)V" } : Jvm.MethodName) prog_1_method_37_code (2 : Nat) (Option.none : Option Jvm.ClassFile.FieldType)) ∈ ALL := in_ALL 301 rfl rfl
set_option maxRecDepth 100000 in
theorem w_275 : (Jvm.Cond.methodLink "Replen" (262 : Nat) ({ cls := "Replen", name := "isShop", desc := "(I)Z" } : Jvm.MethodName)) ∈ ALL := in_ALL 302 rfl rfl
set_option maxRecDepth 100000 in
theorem w_277 : (Jvm.Cond.instanceMethod ({ cls := "Replen", name := "isShop", desc := "(I)Z" } : Jvm.MethodName)) ∈ ALL := in_ALL 304 rfl rfl
set_option maxRecDepth 100000 in
theorem w_278 : (Jvm.Cond.code ({ cls := "Replen", name := "isShop", desc := "(I)Z" } : Jvm.MethodName) prog_1_method_35_code (2 : Nat) (Option.some Jvm.ClassFile.FieldType.boolean)) ∈ ALL := in_ALL 305 rfl rfl
set_option maxRecDepth 100000 in
theorem w_279 : (Jvm.Cond.classLink "Replen" (265 : Nat) "java/lang/IndexOutOfBoundsException") ∈ ALL := in_ALL 306 rfl rfl
set_option maxRecDepth 100000 in
theorem w_280 : (Jvm.Cond.instantiable "java/lang/IndexOutOfBoundsException" (6 : Nat)) ∈ ALL := in_ALL 307 rfl rfl
set_option maxRecDepth 100000 in
theorem w_282 : (Jvm.Cond.selects "java/lang/IndexOutOfBoundsException" ({ cls := "java/lang/Throwable", name := "fillInStackTrace", desc := "(I)Ljava/lang/Throwable;" } : Jvm.MethodName) ({ cls := "java/lang/Throwable", name := "fillInStackTrace", desc := "(I)Ljava/lang/Throwable;" } : Jvm.MethodName)) ∈ ALL := in_ALL 309 rfl rfl
set_option maxRecDepth 100000 in
theorem w_289 : (Jvm.Cond.methodLink "Replen" (269 : Nat) ({ cls := "java/lang/IndexOutOfBoundsException", name := "<init>", desc := "(Ljava/lang/String;)V" } : Jvm.MethodName)) ∈ ALL := in_ALL 316 rfl rfl
set_option maxRecDepth 100000 in
theorem w_290 : (Jvm.Cond.instanceMethod ({ cls := "java/lang/IndexOutOfBoundsException", name := "<init>", desc := "(Ljava/lang/String;)V" } : Jvm.MethodName)) ∈ ALL := in_ALL 317 rfl rfl
set_option maxRecDepth 100000 in
theorem w_291 : (Jvm.Cond.code ({ cls := "java/lang/IndexOutOfBoundsException", name := "<init>", desc := "(Ljava/lang/String;)V" } : Jvm.MethodName) prog_13_method_2_code (2 : Nat) (Option.none : Option Jvm.ClassFile.FieldType)) ∈ ALL := in_ALL 318 rfl rfl
set_option maxRecDepth 100000 in
theorem w_292 : (Jvm.Cond.methodLink "java/lang/IndexOutOfBoundsException" (7 : Nat) ({ cls := "java/lang/RuntimeException", name := "<init>", desc := "(Ljava/lang/String;)V" } : Jvm.MethodName)) ∈ ALL := in_ALL 319 rfl rfl
set_option maxRecDepth 100000 in
theorem w_295 : (Jvm.Cond.methodLink "Replen" (96 : Nat) ({ cls := "Replen", name := "requireItem", desc := "(I)LReplen$Item;" } : Jvm.MethodName)) ∈ ALL := in_ALL 322 rfl rfl
set_option maxRecDepth 100000 in
theorem w_297 : (Jvm.Cond.instanceMethod ({ cls := "Replen", name := "requireItem", desc := "(I)LReplen$Item;" } : Jvm.MethodName)) ∈ ALL := in_ALL 324 rfl rfl
set_option maxRecDepth 100000 in
theorem w_298 : (Jvm.Cond.code ({ cls := "Replen", name := "requireItem", desc := "(I)LReplen$Item;" } : Jvm.MethodName) prog_1_method_38_code (3 : Nat) (Option.some (Jvm.ClassFile.FieldType.object "Replen$Item"))) ∈ ALL := in_ALL 325 rfl rfl
set_option maxRecDepth 100000 in
theorem w_299 : (Jvm.Cond.methodLink "Replen" (270 : Nat) ({ cls := "Replen", name := "itemOrNull", desc := "(I)LReplen$Item;" } : Jvm.MethodName)) ∈ ALL := in_ALL 326 rfl rfl
set_option maxRecDepth 100000 in
theorem w_301 : (Jvm.Cond.instanceMethod ({ cls := "Replen", name := "itemOrNull", desc := "(I)LReplen$Item;" } : Jvm.MethodName)) ∈ ALL := in_ALL 328 rfl rfl
set_option maxRecDepth 100000 in
theorem w_302 : (Jvm.Cond.code ({ cls := "Replen", name := "itemOrNull", desc := "(I)LReplen$Item;" } : Jvm.MethodName) prog_1_method_39_code (2 : Nat) (Option.some (Jvm.ClassFile.FieldType.object "Replen$Item"))) ∈ ALL := in_ALL 329 rfl rfl
set_option maxRecDepth 100000 in
theorem w_303 : (Jvm.Cond.methodLink "Replen" (275 : Nat) ({ cls := "Replen", name := "isItem", desc := "(I)Z" } : Jvm.MethodName)) ∈ ALL := in_ALL 330 rfl rfl
set_option maxRecDepth 100000 in
theorem w_305 : (Jvm.Cond.instanceMethod ({ cls := "Replen", name := "isItem", desc := "(I)Z" } : Jvm.MethodName)) ∈ ALL := in_ALL 332 rfl rfl
set_option maxRecDepth 100000 in
theorem w_306 : (Jvm.Cond.code ({ cls := "Replen", name := "isItem", desc := "(I)Z" } : Jvm.MethodName) prog_1_method_36_code (2 : Nat) (Option.some Jvm.ClassFile.FieldType.boolean)) ∈ ALL := in_ALL 333 rfl rfl
set_option maxRecDepth 100000 in
theorem w_309 : (Jvm.Cond.constant "Replen" (102 : Nat) (99999 : Int32)) ∈ ALL := in_ALL 336 rfl rfl
set_option maxRecDepth 100000 in
theorem w_311 : (Jvm.Cond.methodLink "Replen" (105 : Nat) ({ cls := "Replen", name := "placeOf", desc := "(II)I" } : Jvm.MethodName)) ∈ ALL := in_ALL 338 rfl rfl
set_option maxRecDepth 100000 in
theorem w_313 : (Jvm.Cond.instanceMethod ({ cls := "Replen", name := "placeOf", desc := "(II)I" } : Jvm.MethodName)) ∈ ALL := in_ALL 340 rfl rfl
set_option maxRecDepth 100000 in
theorem w_314 : (Jvm.Cond.code ({ cls := "Replen", name := "placeOf", desc := "(II)I" } : Jvm.MethodName) prog_1_method_42_code (3 : Nat) (Option.some Jvm.ClassFile.FieldType.int)) ∈ ALL := in_ALL 341 rfl rfl
set_option maxRecDepth 100000 in
theorem w_316 : (Jvm.Cond.instantiable "Replen$Line" (14 : Nat)) ∈ ALL := in_ALL 343 rfl rfl
set_option maxRecDepth 100000 in
theorem w_317 : (Jvm.Cond.methodLink "Replen" (111 : Nat) ({ cls := "Replen", name := "leadOf", desc := "(I)I" } : Jvm.MethodName)) ∈ ALL := in_ALL 344 rfl rfl
set_option maxRecDepth 100000 in
theorem w_319 : (Jvm.Cond.instanceMethod ({ cls := "Replen", name := "leadOf", desc := "(I)I" } : Jvm.MethodName)) ∈ ALL := in_ALL 346 rfl rfl
set_option maxRecDepth 100000 in
theorem w_320 : (Jvm.Cond.code ({ cls := "Replen", name := "leadOf", desc := "(I)I" } : Jvm.MethodName) prog_1_method_43_code (2 : Nat) (Option.some Jvm.ClassFile.FieldType.int)) ∈ ALL := in_ALL 347 rfl rfl
set_option maxRecDepth 100000 in
theorem w_321 : (Jvm.Cond.methodLink "Replen" (115 : Nat) ({ cls := "Replen$Line", name := "<init>", desc := "(LReplen$Item;IIII)V" } : Jvm.MethodName)) ∈ ALL := in_ALL 348 rfl rfl
set_option maxRecDepth 100000 in
theorem w_322 : (Jvm.Cond.instanceMethod ({ cls := "Replen$Line", name := "<init>", desc := "(LReplen$Item;IIII)V" } : Jvm.MethodName)) ∈ ALL := in_ALL 349 rfl rfl
set_option maxRecDepth 100000 in
theorem w_323 : (Jvm.Cond.code ({ cls := "Replen$Line", name := "<init>", desc := "(LReplen$Item;IIII)V" } : Jvm.MethodName) prog_5_method_1_code (6 : Nat) (Option.none : Option Jvm.ClassFile.FieldType)) ∈ ALL := in_ALL 350 rfl rfl
set_option maxRecDepth 100000 in
theorem w_324 : (Jvm.Cond.methodLink "Replen$Line" (3 : Nat) ({ cls := "java/lang/Object", name := "<init>", desc := "()V" } : Jvm.MethodName)) ∈ ALL := in_ALL 351 rfl rfl
set_option maxRecDepth 100000 in
theorem w_325 : (Jvm.Cond.classLink "Replen$Line" (9 : Nat) "Replen$Learner") ∈ ALL := in_ALL 352 rfl rfl
set_option maxRecDepth 100000 in
theorem w_327 : (Jvm.Cond.classLink "Replen$Line" (22 : Nat) "Replen$DayBook") ∈ ALL := in_ALL 354 rfl rfl
set_option maxRecDepth 100000 in
theorem w_329 : (Jvm.Cond.methodLink "Replen$Line" (64 : Nat) ({ cls := "Replen$Learner", name := "start", desc := "(I)V" } : Jvm.MethodName)) ∈ ALL := in_ALL 356 rfl rfl
set_option maxRecDepth 100000 in
theorem w_330 : (Jvm.Cond.instanceMethod ({ cls := "Replen$Learner", name := "start", desc := "(I)V" } : Jvm.MethodName)) ∈ ALL := in_ALL 357 rfl rfl
set_option maxRecDepth 100000 in
theorem w_331 : (Jvm.Cond.selects "Replen$Learner" ({ cls := "Replen$Learner", name := "start", desc := "(I)V" } : Jvm.MethodName) ({ cls := "Replen$Learner", name := "start", desc := "(I)V" } : Jvm.MethodName)) ∈ ALL := in_ALL 358 rfl rfl
set_option maxRecDepth 100000 in
theorem w_332 : (Jvm.Cond.code ({ cls := "Replen$Learner", name := "start", desc := "(I)V" } : Jvm.MethodName) prog_4_method_2_code (3 : Nat) (Option.none : Option Jvm.ClassFile.FieldType)) ∈ ALL := in_ALL 359 rfl rfl
set_option maxRecDepth 100000 in
theorem w_333 : (Jvm.Cond.fieldLink "Replen$Line" (45 : Nat) "Replen$Line" "item" "LReplen$Item;") ∈ ALL := in_ALL 360 rfl rfl
set_option maxRecDepth 100000 in
theorem w_335 : (Jvm.Cond.fieldLink "Replen$Line" (49 : Nat) "Replen$Line" "lead" "I") ∈ ALL := in_ALL 362 rfl rfl
set_option maxRecDepth 100000 in
theorem w_336 : (Jvm.Cond.fieldLink "Replen$Line" (52 : Nat) "Replen$Line" "firstDay" "I") ∈ ALL := in_ALL 363 rfl rfl
set_option maxRecDepth 100000 in
theorem w_338 : (Jvm.Cond.fieldLink "Replen$Line" (55 : Nat) "Replen$Line" "firstStock" "I") ∈ ALL := in_ALL 365 rfl rfl
set_option maxRecDepth 100000 in
theorem w_339 : (Jvm.Cond.fieldLink "Replen$Line" (58 : Nat) "Replen$Line" "firstLevel" "I") ∈ ALL := in_ALL 366 rfl rfl
set_option maxRecDepth 100000 in
theorem w_341 : (Jvm.Cond.fieldLink "Replen$Line" (12 : Nat) "Replen$Line" "learner" "LReplen$Learner;") ∈ ALL := in_ALL 368 rfl rfl
set_option maxRecDepth 100000 in
theorem w_343 : (Jvm.Cond.fieldLink "Replen$Line" (18 : Nat) "Replen$Line" "errorTimes" "[I") ∈ ALL := in_ALL 370 rfl rfl
set_option maxRecDepth 100000 in
theorem w_344 : (Jvm.Cond.fieldLink "Replen$Line" (25 : Nat) "Replen$Line" "demands" "LReplen$DayBook;") ∈ ALL := in_ALL 371 rfl rfl
set_option maxRecDepth 100000 in
theorem w_346 : (Jvm.Cond.fieldLink "Replen$Line" (29 : Nat) "Replen$Line" "sales" "LReplen$DayBook;") ∈ ALL := in_ALL 373 rfl rfl
set_option maxRecDepth 100000 in
theorem w_347 : (Jvm.Cond.fieldLink "Replen$Line" (32 : Nat) "Replen$Line" "arrivals" "LReplen$DayBook;") ∈ ALL := in_ALL 374 rfl rfl
set_option maxRecDepth 100000 in
theorem w_349 : (Jvm.Cond.fieldLink "Replen$Line" (35 : Nat) "Replen$Line" "errorSum" "I") ∈ ALL := in_ALL 376 rfl rfl
set_option maxRecDepth 100000 in
theorem w_350 : (Jvm.Cond.fieldLink "Replen$Line" (61 : Nat) "Replen$Line" "stock" "I") ∈ ALL := in_ALL 377 rfl rfl
set_option maxRecDepth 100000 in
theorem w_352 : (Jvm.Cond.fieldLink "Replen$Line" (39 : Nat) "Replen$Line" "soldSum" "I") ∈ ALL := in_ALL 379 rfl rfl
set_option maxRecDepth 100000 in
theorem w_354 : (Jvm.Cond.fieldLink "Replen$Line" (42 : Nat) "Replen$Line" "lostSum" "I") ∈ ALL := in_ALL 381 rfl rfl
set_option maxRecDepth 100000 in
theorem w_356 : (Jvm.Cond.laysFinal "Replen$Line" "Replen$Line" "item" "LReplen$Item;") ∈ ALL := in_ALL 383 rfl rfl
set_option maxRecDepth 100000 in
theorem w_358 : (Jvm.Cond.laysFinal "Replen$Line" "Replen$Line" "lead" "I") ∈ ALL := in_ALL 385 rfl rfl
set_option maxRecDepth 100000 in
theorem w_360 : (Jvm.Cond.laysFinal "Replen$Line" "Replen$Line" "firstDay" "I") ∈ ALL := in_ALL 387 rfl rfl
set_option maxRecDepth 100000 in
theorem w_362 : (Jvm.Cond.laysFinal "Replen$Line" "Replen$Line" "firstStock" "I") ∈ ALL := in_ALL 389 rfl rfl
set_option maxRecDepth 100000 in
theorem w_364 : (Jvm.Cond.laysFinal "Replen$Line" "Replen$Line" "firstLevel" "I") ∈ ALL := in_ALL 391 rfl rfl
set_option maxRecDepth 100000 in
theorem w_366 : (Jvm.Cond.laysFinal "Replen$Line" "Replen$Line" "learner" "LReplen$Learner;") ∈ ALL := in_ALL 393 rfl rfl
set_option maxRecDepth 100000 in
theorem w_368 : (Jvm.Cond.laysFinal "Replen$Line" "Replen$Line" "errorTimes" "[I") ∈ ALL := in_ALL 395 rfl rfl
set_option maxRecDepth 100000 in
theorem w_370 : (Jvm.Cond.laysFinal "Replen$Line" "Replen$Line" "demands" "LReplen$DayBook;") ∈ ALL := in_ALL 397 rfl rfl
set_option maxRecDepth 100000 in
theorem w_372 : (Jvm.Cond.laysFinal "Replen$Line" "Replen$Line" "sales" "LReplen$DayBook;") ∈ ALL := in_ALL 399 rfl rfl
set_option maxRecDepth 100000 in
theorem w_374 : (Jvm.Cond.laysFinal "Replen$Line" "Replen$Line" "arrivals" "LReplen$DayBook;") ∈ ALL := in_ALL 401 rfl rfl
set_option maxRecDepth 100000 in
theorem w_376 : (Jvm.Cond.lays "Replen$Line" "Replen$Line" "errorSum" "I") ∈ ALL := in_ALL 403 rfl rfl
set_option maxRecDepth 100000 in
theorem w_378 : (Jvm.Cond.lays "Replen$Line" "Replen$Line" "stock" "I") ∈ ALL := in_ALL 405 rfl rfl
set_option maxRecDepth 100000 in
theorem w_380 : (Jvm.Cond.lays "Replen$Line" "Replen$Line" "soldSum" "I") ∈ ALL := in_ALL 407 rfl rfl
set_option maxRecDepth 100000 in
theorem w_382 : (Jvm.Cond.lays "Replen$Line" "Replen$Line" "lostSum" "I") ∈ ALL := in_ALL 409 rfl rfl
set_option maxRecDepth 100000 in
theorem w_385 : (Jvm.Cond.methodLink "ReplenLaw" (140 : Nat) ({ cls := "ReplenLaw", name := "carries", desc := "(LReplen;II[J)I" } : Jvm.MethodName)) ∈ ALL := in_ALL 412 rfl rfl
set_option maxRecDepth 100000 in
theorem w_386 : (Jvm.Cond.static ({ cls := "ReplenLaw", name := "carries", desc := "(LReplen;II[J)I" } : Jvm.MethodName)) ∈ ALL := in_ALL 413 rfl rfl
set_option maxRecDepth 100000 in
theorem w_387 : (Jvm.Cond.codeWith ({ cls := "ReplenLaw", name := "carries", desc := "(LReplen;II[J)I" } : Jvm.MethodName) method_6_code (5 : Nat) (Option.some Jvm.ClassFile.FieldType.int) [((0 : Nat), (17 : Nat), (20 : Nat), (25 : Nat))]) ∈ ALL := in_ALL 414 rfl rfl
set_option maxRecDepth 100000 in
theorem w_388 : (Jvm.Cond.methodLink "ReplenLaw" (27 : Nat) ({ cls := "Replen", name := "carries", desc := "(II)Z" } : Jvm.MethodName)) ∈ ALL := in_ALL 415 rfl rfl
set_option maxRecDepth 100000 in
theorem w_389 : (Jvm.Cond.instanceMethod ({ cls := "Replen", name := "carries", desc := "(II)Z" } : Jvm.MethodName)) ∈ ALL := in_ALL 416 rfl rfl
set_option maxRecDepth 100000 in
theorem w_390 : (Jvm.Cond.selects "Replen" ({ cls := "Replen", name := "carries", desc := "(II)Z" } : Jvm.MethodName) ({ cls := "Replen", name := "carries", desc := "(II)Z" } : Jvm.MethodName)) ∈ ALL := in_ALL 417 rfl rfl
set_option maxRecDepth 100000 in
theorem w_391 : (Jvm.Cond.code ({ cls := "Replen", name := "carries", desc := "(II)Z" } : Jvm.MethodName) prog_1_method_5_code (3 : Nat) (Option.some Jvm.ClassFile.FieldType.boolean)) ∈ ALL := in_ALL 418 rfl rfl
set_option maxRecDepth 100000 in
theorem w_392 : (Jvm.Cond.methodLink "Replen" (118 : Nat) ({ cls := "Replen", name := "lineOrNull", desc := "(II)LReplen$Line;" } : Jvm.MethodName)) ∈ ALL := in_ALL 419 rfl rfl
set_option maxRecDepth 100000 in
theorem w_394 : (Jvm.Cond.instanceMethod ({ cls := "Replen", name := "lineOrNull", desc := "(II)LReplen$Line;" } : Jvm.MethodName)) ∈ ALL := in_ALL 421 rfl rfl
set_option maxRecDepth 100000 in
theorem w_395 : (Jvm.Cond.code ({ cls := "Replen", name := "lineOrNull", desc := "(II)LReplen$Line;" } : Jvm.MethodName) prog_1_method_41_code (4 : Nat) (Option.some (Jvm.ClassFile.FieldType.object "Replen$Line"))) ∈ ALL := in_ALL 422 rfl rfl
set_option maxRecDepth 100000 in
theorem w_396 : (Jvm.Cond.methodLink "ReplenLaw" (143 : Nat) ({ cls := "ReplenLaw", name := "supply", desc := "(LReplen;II[J)I" } : Jvm.MethodName)) ∈ ALL := in_ALL 423 rfl rfl
set_option maxRecDepth 100000 in
theorem w_397 : (Jvm.Cond.static ({ cls := "ReplenLaw", name := "supply", desc := "(LReplen;II[J)I" } : Jvm.MethodName)) ∈ ALL := in_ALL 424 rfl rfl
set_option maxRecDepth 100000 in
theorem w_398 : (Jvm.Cond.codeWith ({ cls := "ReplenLaw", name := "supply", desc := "(LReplen;II[J)I" } : Jvm.MethodName) method_7_code (5 : Nat) (Option.some Jvm.ClassFile.FieldType.int) [((0 : Nat), (10 : Nat), (13 : Nat), (25 : Nat)), ((0 : Nat), (10 : Nat), (17 : Nat), (13 : Nat)), ((0 : Nat), (10 : Nat), (21 : Nat), (15 : Nat))]) ∈ ALL := in_ALL 425 rfl rfl
set_option maxRecDepth 100000 in
theorem w_399 : (Jvm.Cond.methodLink "ReplenLaw" (31 : Nat) ({ cls := "Replen", name := "supply", desc := "(II)I" } : Jvm.MethodName)) ∈ ALL := in_ALL 426 rfl rfl
set_option maxRecDepth 100000 in
theorem w_400 : (Jvm.Cond.instanceMethod ({ cls := "Replen", name := "supply", desc := "(II)I" } : Jvm.MethodName)) ∈ ALL := in_ALL 427 rfl rfl
set_option maxRecDepth 100000 in
theorem w_401 : (Jvm.Cond.selects "Replen" ({ cls := "Replen", name := "supply", desc := "(II)I" } : Jvm.MethodName) ({ cls := "Replen", name := "supply", desc := "(II)I" } : Jvm.MethodName)) ∈ ALL := in_ALL 428 rfl rfl
set_option maxRecDepth 100000 in
theorem w_402 : (Jvm.Cond.code ({ cls := "Replen", name := "supply", desc := "(II)I" } : Jvm.MethodName) prog_1_method_6_code (4 : Nat) (Option.some Jvm.ClassFile.FieldType.int)) ∈ ALL := in_ALL 429 rfl rfl
set_option maxRecDepth 100000 in
theorem w_405 : (Jvm.Cond.methodLink "Replen" (129 : Nat) ({ cls := "Replen$Item", name := "takeIn", desc := "(II)V" } : Jvm.MethodName)) ∈ ALL := in_ALL 432 rfl rfl
set_option maxRecDepth 100000 in
theorem w_406 : (Jvm.Cond.instanceMethod ({ cls := "Replen$Item", name := "takeIn", desc := "(II)V" } : Jvm.MethodName)) ∈ ALL := in_ALL 433 rfl rfl
set_option maxRecDepth 100000 in
theorem w_407 : (Jvm.Cond.selects "Replen$Item" ({ cls := "Replen$Item", name := "takeIn", desc := "(II)V" } : Jvm.MethodName) ({ cls := "Replen$Item", name := "takeIn", desc := "(II)V" } : Jvm.MethodName)) ∈ ALL := in_ALL 434 rfl rfl
set_option maxRecDepth 100000 in
theorem w_408 : (Jvm.Cond.code ({ cls := "Replen$Item", name := "takeIn", desc := "(II)V" } : Jvm.MethodName) prog_3_method_3_code (3 : Nat) (Option.none : Option Jvm.ClassFile.FieldType)) ∈ ALL := in_ALL 435 rfl rfl
set_option maxRecDepth 100000 in
theorem w_409 : (Jvm.Cond.methodLink "Replen$Item" (36 : Nat) ({ cls := "Replen$DayBook", name := "add", desc := "(II)V" } : Jvm.MethodName)) ∈ ALL := in_ALL 436 rfl rfl
set_option maxRecDepth 100000 in
theorem w_410 : (Jvm.Cond.instanceMethod ({ cls := "Replen$DayBook", name := "add", desc := "(II)V" } : Jvm.MethodName)) ∈ ALL := in_ALL 437 rfl rfl
set_option maxRecDepth 100000 in
theorem w_411 : (Jvm.Cond.selects "Replen$DayBook" ({ cls := "Replen$DayBook", name := "add", desc := "(II)V" } : Jvm.MethodName) ({ cls := "Replen$DayBook", name := "add", desc := "(II)V" } : Jvm.MethodName)) ∈ ALL := in_ALL 438 rfl rfl
set_option maxRecDepth 100000 in
theorem w_412 : (Jvm.Cond.code ({ cls := "Replen$DayBook", name := "add", desc := "(II)V" } : Jvm.MethodName) prog_2_method_3_code (3 : Nat) (Option.none : Option Jvm.ClassFile.FieldType)) ∈ ALL := in_ALL 439 rfl rfl
set_option maxRecDepth 100000 in
theorem w_413 : (Jvm.Cond.methodLink "ReplenLaw" (146 : Nat) ({ cls := "ReplenLaw", name := "setService", desc := "(LReplen;I[J)I" } : Jvm.MethodName)) ∈ ALL := in_ALL 440 rfl rfl
set_option maxRecDepth 100000 in
theorem w_414 : (Jvm.Cond.static ({ cls := "ReplenLaw", name := "setService", desc := "(LReplen;I[J)I" } : Jvm.MethodName)) ∈ ALL := in_ALL 441 rfl rfl
set_option maxRecDepth 100000 in
theorem w_415 : (Jvm.Cond.codeWith ({ cls := "ReplenLaw", name := "setService", desc := "(LReplen;I[J)I" } : Jvm.MethodName) method_8_code (4 : Nat) (Option.some Jvm.ClassFile.FieldType.int) [((0 : Nat), (9 : Nat), (12 : Nat), (13 : Nat))]) ∈ ALL := in_ALL 442 rfl rfl
set_option maxRecDepth 100000 in
theorem w_416 : (Jvm.Cond.methodLink "ReplenLaw" (34 : Nat) ({ cls := "Replen", name := "setService", desc := "(I)I" } : Jvm.MethodName)) ∈ ALL := in_ALL 443 rfl rfl
set_option maxRecDepth 100000 in
theorem w_417 : (Jvm.Cond.instanceMethod ({ cls := "Replen", name := "setService", desc := "(I)I" } : Jvm.MethodName)) ∈ ALL := in_ALL 444 rfl rfl
set_option maxRecDepth 100000 in
theorem w_418 : (Jvm.Cond.selects "Replen" ({ cls := "Replen", name := "setService", desc := "(I)I" } : Jvm.MethodName) ({ cls := "Replen", name := "setService", desc := "(I)I" } : Jvm.MethodName)) ∈ ALL := in_ALL 445 rfl rfl
set_option maxRecDepth 100000 in
theorem w_419 : (Jvm.Cond.code ({ cls := "Replen", name := "setService", desc := "(I)I" } : Jvm.MethodName) prog_1_method_7_code (3 : Nat) (Option.some Jvm.ClassFile.FieldType.int)) ∈ ALL := in_ALL 446 rfl rfl
set_option maxRecDepth 100000 in
theorem w_421 : (Jvm.Cond.methodLink "ReplenLaw" (149 : Nat) ({ cls := "ReplenLaw", name := "setRates", desc := "(LReplen;II[J)I" } : Jvm.MethodName)) ∈ ALL := in_ALL 448 rfl rfl
set_option maxRecDepth 100000 in
theorem w_422 : (Jvm.Cond.static ({ cls := "ReplenLaw", name := "setRates", desc := "(LReplen;II[J)I" } : Jvm.MethodName)) ∈ ALL := in_ALL 449 rfl rfl
set_option maxRecDepth 100000 in
theorem w_423 : (Jvm.Cond.codeWith ({ cls := "ReplenLaw", name := "setRates", desc := "(LReplen;II[J)I" } : Jvm.MethodName) method_9_code (5 : Nat) (Option.some Jvm.ClassFile.FieldType.int) [((0 : Nat), (10 : Nat), (13 : Nat), (13 : Nat))]) ∈ ALL := in_ALL 450 rfl rfl
set_option maxRecDepth 100000 in
theorem w_424 : (Jvm.Cond.methodLink "ReplenLaw" (37 : Nat) ({ cls := "Replen", name := "setRates", desc := "(II)I" } : Jvm.MethodName)) ∈ ALL := in_ALL 451 rfl rfl
set_option maxRecDepth 100000 in
theorem w_425 : (Jvm.Cond.instanceMethod ({ cls := "Replen", name := "setRates", desc := "(II)I" } : Jvm.MethodName)) ∈ ALL := in_ALL 452 rfl rfl
set_option maxRecDepth 100000 in
theorem w_426 : (Jvm.Cond.selects "Replen" ({ cls := "Replen", name := "setRates", desc := "(II)I" } : Jvm.MethodName) ({ cls := "Replen", name := "setRates", desc := "(II)I" } : Jvm.MethodName)) ∈ ALL := in_ALL 453 rfl rfl
set_option maxRecDepth 100000 in
theorem w_427 : (Jvm.Cond.code ({ cls := "Replen", name := "setRates", desc := "(II)I" } : Jvm.MethodName) prog_1_method_8_code (4 : Nat) (Option.some Jvm.ClassFile.FieldType.int)) ∈ ALL := in_ALL 454 rfl rfl
set_option maxRecDepth 100000 in
theorem w_430 : (Jvm.Cond.methodLink "ReplenLaw" (152 : Nat) ({ cls := "ReplenLaw", name := "mark", desc := "(LReplen;II[J)I" } : Jvm.MethodName)) ∈ ALL := in_ALL 457 rfl rfl
set_option maxRecDepth 100000 in
theorem w_431 : (Jvm.Cond.static ({ cls := "ReplenLaw", name := "mark", desc := "(LReplen;II[J)I" } : Jvm.MethodName)) ∈ ALL := in_ALL 458 rfl rfl
set_option maxRecDepth 100000 in
theorem w_432 : (Jvm.Cond.codeWith ({ cls := "ReplenLaw", name := "mark", desc := "(LReplen;II[J)I" } : Jvm.MethodName) method_10_code (5 : Nat) (Option.some Jvm.ClassFile.FieldType.int) [((0 : Nat), (17 : Nat), (20 : Nat), (25 : Nat)), ((0 : Nat), (17 : Nat), (24 : Nat), (13 : Nat))]) ∈ ALL := in_ALL 459 rfl rfl
set_option maxRecDepth 100000 in
theorem w_433 : (Jvm.Cond.methodLink "ReplenLaw" (40 : Nat) ({ cls := "Replen", name := "mark", desc := "(II)Z" } : Jvm.MethodName)) ∈ ALL := in_ALL 460 rfl rfl
set_option maxRecDepth 100000 in
theorem w_434 : (Jvm.Cond.instanceMethod ({ cls := "Replen", name := "mark", desc := "(II)Z" } : Jvm.MethodName)) ∈ ALL := in_ALL 461 rfl rfl
set_option maxRecDepth 100000 in
theorem w_435 : (Jvm.Cond.selects "Replen" ({ cls := "Replen", name := "mark", desc := "(II)Z" } : Jvm.MethodName) ({ cls := "Replen", name := "mark", desc := "(II)Z" } : Jvm.MethodName)) ∈ ALL := in_ALL 462 rfl rfl
set_option maxRecDepth 100000 in
theorem w_436 : (Jvm.Cond.code ({ cls := "Replen", name := "mark", desc := "(II)Z" } : Jvm.MethodName) prog_1_method_9_code (5 : Nat) (Option.some Jvm.ClassFile.FieldType.boolean)) ∈ ALL := in_ALL 463 rfl rfl
set_option maxRecDepth 100000 in
theorem w_438 : (Jvm.Cond.methodLink "Replen" (140 : Nat) ({ cls := "Replen$Item", name := "hasPromotion", desc := "(I)Z" } : Jvm.MethodName)) ∈ ALL := in_ALL 465 rfl rfl
set_option maxRecDepth 100000 in
theorem w_439 : (Jvm.Cond.instanceMethod ({ cls := "Replen$Item", name := "hasPromotion", desc := "(I)Z" } : Jvm.MethodName)) ∈ ALL := in_ALL 466 rfl rfl
set_option maxRecDepth 100000 in
theorem w_440 : (Jvm.Cond.selects "Replen$Item" ({ cls := "Replen$Item", name := "hasPromotion", desc := "(I)Z" } : Jvm.MethodName) ({ cls := "Replen$Item", name := "hasPromotion", desc := "(I)Z" } : Jvm.MethodName)) ∈ ALL := in_ALL 467 rfl rfl
set_option maxRecDepth 100000 in
theorem w_441 : (Jvm.Cond.code ({ cls := "Replen$Item", name := "hasPromotion", desc := "(I)Z" } : Jvm.MethodName) prog_3_method_2_code (2 : Nat) (Option.some Jvm.ClassFile.FieldType.boolean)) ∈ ALL := in_ALL 468 rfl rfl
set_option maxRecDepth 100000 in
theorem w_442 : (Jvm.Cond.methodLink "Replen$Item" (32 : Nat) ({ cls := "Replen$DayBook", name := "on", desc := "(I)I" } : Jvm.MethodName)) ∈ ALL := in_ALL 469 rfl rfl
set_option maxRecDepth 100000 in
theorem w_443 : (Jvm.Cond.methodLink "Replen" (147 : Nat) ({ cls := "Replen$DayBook", name := "add", desc := "(II)V" } : Jvm.MethodName)) ∈ ALL := in_ALL 470 rfl rfl
set_option maxRecDepth 100000 in
theorem w_444 : (Jvm.Cond.methodLink "ReplenLaw" (155 : Nat) ({ cls := "ReplenLaw", name := "isMarked", desc := "(LReplen;II[J)I" } : Jvm.MethodName)) ∈ ALL := in_ALL 471 rfl rfl
set_option maxRecDepth 100000 in
theorem w_445 : (Jvm.Cond.static ({ cls := "ReplenLaw", name := "isMarked", desc := "(LReplen;II[J)I" } : Jvm.MethodName)) ∈ ALL := in_ALL 472 rfl rfl
set_option maxRecDepth 100000 in
theorem w_446 : (Jvm.Cond.codeWith ({ cls := "ReplenLaw", name := "isMarked", desc := "(LReplen;II[J)I" } : Jvm.MethodName) method_11_code (5 : Nat) (Option.some Jvm.ClassFile.FieldType.int) [((0 : Nat), (17 : Nat), (20 : Nat), (25 : Nat)), ((0 : Nat), (17 : Nat), (24 : Nat), (13 : Nat))]) ∈ ALL := in_ALL 473 rfl rfl
set_option maxRecDepth 100000 in
theorem w_447 : (Jvm.Cond.methodLink "ReplenLaw" (43 : Nat) ({ cls := "Replen", name := "isMarked", desc := "(II)Z" } : Jvm.MethodName)) ∈ ALL := in_ALL 474 rfl rfl
set_option maxRecDepth 100000 in
theorem w_448 : (Jvm.Cond.instanceMethod ({ cls := "Replen", name := "isMarked", desc := "(II)Z" } : Jvm.MethodName)) ∈ ALL := in_ALL 475 rfl rfl
set_option maxRecDepth 100000 in
theorem w_449 : (Jvm.Cond.selects "Replen" ({ cls := "Replen", name := "isMarked", desc := "(II)Z" } : Jvm.MethodName) ({ cls := "Replen", name := "isMarked", desc := "(II)Z" } : Jvm.MethodName)) ∈ ALL := in_ALL 476 rfl rfl
set_option maxRecDepth 100000 in
theorem w_450 : (Jvm.Cond.code ({ cls := "Replen", name := "isMarked", desc := "(II)Z" } : Jvm.MethodName) prog_1_method_10_code (4 : Nat) (Option.some Jvm.ClassFile.FieldType.boolean)) ∈ ALL := in_ALL 477 rfl rfl
set_option maxRecDepth 100000 in
theorem w_452 : (Jvm.Cond.methodLink "ReplenLaw" (158 : Nat) ({ cls := "ReplenLaw", name := "demand", desc := "(LReplen;III[J)I" } : Jvm.MethodName)) ∈ ALL := in_ALL 479 rfl rfl
set_option maxRecDepth 100000 in
theorem w_453 : (Jvm.Cond.static ({ cls := "ReplenLaw", name := "demand", desc := "(LReplen;III[J)I" } : Jvm.MethodName)) ∈ ALL := in_ALL 480 rfl rfl
set_option maxRecDepth 100000 in
theorem w_454 : (Jvm.Cond.codeWith ({ cls := "ReplenLaw", name := "demand", desc := "(LReplen;III[J)I" } : Jvm.MethodName) method_12_code (6 : Nat) (Option.some Jvm.ClassFile.FieldType.int) [((0 : Nat), (12 : Nat), (15 : Nat), (25 : Nat)), ((0 : Nat), (12 : Nat), (19 : Nat), (50 : Nat)), ((0 : Nat), (12 : Nat), (23 : Nat), (13 : Nat)), ((0 : Nat), (12 : Nat), (27 : Nat), (52 : Nat))]) ∈ ALL := in_ALL 481 rfl rfl
set_option maxRecDepth 100000 in
theorem w_455 : (Jvm.Cond.classLink "ReplenLaw" (50 : Nat) "java/util/NoSuchElementException") ∈ ALL := in_ALL 482 rfl rfl
set_option maxRecDepth 100000 in
theorem w_456 : (Jvm.Cond.classLink "ReplenLaw" (52 : Nat) "java/lang/UnsupportedOperationException") ∈ ALL := in_ALL 483 rfl rfl
set_option maxRecDepth 100000 in
theorem w_457 : (Jvm.Cond.methodLink "ReplenLaw" (46 : Nat) ({ cls := "Replen", name := "demand", desc := "(III)I" } : Jvm.MethodName)) ∈ ALL := in_ALL 484 rfl rfl
set_option maxRecDepth 100000 in
theorem w_458 : (Jvm.Cond.instanceMethod ({ cls := "Replen", name := "demand", desc := "(III)I" } : Jvm.MethodName)) ∈ ALL := in_ALL 485 rfl rfl
set_option maxRecDepth 100000 in
theorem w_459 : (Jvm.Cond.selects "Replen" ({ cls := "Replen", name := "demand", desc := "(III)I" } : Jvm.MethodName) ({ cls := "Replen", name := "demand", desc := "(III)I" } : Jvm.MethodName)) ∈ ALL := in_ALL 486 rfl rfl
set_option maxRecDepth 100000 in
theorem w_460 : (Jvm.Cond.code ({ cls := "Replen", name := "demand", desc := "(III)I" } : Jvm.MethodName) prog_1_method_11_code (5 : Nat) (Option.some Jvm.ClassFile.FieldType.int)) ∈ ALL := in_ALL 487 rfl rfl
set_option maxRecDepth 100000 in
theorem w_461 : (Jvm.Cond.methodLink "Replen" (152 : Nat) ({ cls := "Replen", name := "requireLine", desc := "(II)LReplen$Line;" } : Jvm.MethodName)) ∈ ALL := in_ALL 488 rfl rfl
set_option maxRecDepth 100000 in
theorem w_463 : (Jvm.Cond.instanceMethod ({ cls := "Replen", name := "requireLine", desc := "(II)LReplen$Line;" } : Jvm.MethodName)) ∈ ALL := in_ALL 490 rfl rfl
set_option maxRecDepth 100000 in
theorem w_464 : (Jvm.Cond.code ({ cls := "Replen", name := "requireLine", desc := "(II)LReplen$Line;" } : Jvm.MethodName) prog_1_method_40_code (4 : Nat) (Option.some (Jvm.ClassFile.FieldType.object "Replen$Line"))) ∈ ALL := in_ALL 491 rfl rfl
set_option maxRecDepth 100000 in
theorem w_465 : (Jvm.Cond.classLink "Replen" (233 : Nat) "java/util/NoSuchElementException") ∈ ALL := in_ALL 492 rfl rfl
set_option maxRecDepth 100000 in
theorem w_466 : (Jvm.Cond.instantiable "java/util/NoSuchElementException" (6 : Nat)) ∈ ALL := in_ALL 493 rfl rfl
set_option maxRecDepth 100000 in
theorem w_468 : (Jvm.Cond.selects "java/util/NoSuchElementException" ({ cls := "java/lang/Throwable", name := "fillInStackTrace", desc := "(I)Ljava/lang/Throwable;" } : Jvm.MethodName) ({ cls := "java/lang/Throwable", name := "fillInStackTrace", desc := "(I)Ljava/lang/Throwable;" } : Jvm.MethodName)) ∈ ALL := in_ALL 495 rfl rfl
set_option maxRecDepth 100000 in
theorem w_475 : (Jvm.Cond.methodLink "Replen" (237 : Nat) ({ cls := "java/util/NoSuchElementException", name := "<init>", desc := "(Ljava/lang/String;)V" } : Jvm.MethodName)) ∈ ALL := in_ALL 502 rfl rfl
set_option maxRecDepth 100000 in
theorem w_476 : (Jvm.Cond.instanceMethod ({ cls := "java/util/NoSuchElementException", name := "<init>", desc := "(Ljava/lang/String;)V" } : Jvm.MethodName)) ∈ ALL := in_ALL 503 rfl rfl
set_option maxRecDepth 100000 in
theorem w_477 : (Jvm.Cond.code ({ cls := "java/util/NoSuchElementException", name := "<init>", desc := "(Ljava/lang/String;)V" } : Jvm.MethodName) prog_19_method_4_code (2 : Nat) (Option.none : Option Jvm.ClassFile.FieldType)) ∈ ALL := in_ALL 504 rfl rfl
set_option maxRecDepth 100000 in
theorem w_478 : (Jvm.Cond.methodLink "java/util/NoSuchElementException" (13 : Nat) ({ cls := "java/lang/RuntimeException", name := "<init>", desc := "(Ljava/lang/String;)V" } : Jvm.MethodName)) ∈ ALL := in_ALL 505 rfl rfl
set_option maxRecDepth 100000 in
theorem w_482 : (Jvm.Cond.methodLink "Replen" (160 : Nat) ({ cls := "Replen$DayBook", name := "on", desc := "(I)I" } : Jvm.MethodName)) ∈ ALL := in_ALL 509 rfl rfl
set_option maxRecDepth 100000 in
theorem w_483 : (Jvm.Cond.classLink "Replen" (163 : Nat) "java/lang/UnsupportedOperationException") ∈ ALL := in_ALL 510 rfl rfl
set_option maxRecDepth 100000 in
theorem w_484 : (Jvm.Cond.instantiable "java/lang/UnsupportedOperationException" (6 : Nat)) ∈ ALL := in_ALL 511 rfl rfl
set_option maxRecDepth 100000 in
theorem w_486 : (Jvm.Cond.selects "java/lang/UnsupportedOperationException" ({ cls := "java/lang/Throwable", name := "fillInStackTrace", desc := "(I)Ljava/lang/Throwable;" } : Jvm.MethodName) ({ cls := "java/lang/Throwable", name := "fillInStackTrace", desc := "(I)Ljava/lang/Throwable;" } : Jvm.MethodName)) ∈ ALL := in_ALL 513 rfl rfl
set_option maxRecDepth 100000 in
theorem w_493 : (Jvm.Cond.methodLink "Replen" (167 : Nat) ({ cls := "java/lang/UnsupportedOperationException", name := "<init>", desc := "(Ljava/lang/String;)V" } : Jvm.MethodName)) ∈ ALL := in_ALL 520 rfl rfl
set_option maxRecDepth 100000 in
theorem w_494 : (Jvm.Cond.instanceMethod ({ cls := "java/lang/UnsupportedOperationException", name := "<init>", desc := "(Ljava/lang/String;)V" } : Jvm.MethodName)) ∈ ALL := in_ALL 521 rfl rfl
set_option maxRecDepth 100000 in
theorem w_495 : (Jvm.Cond.code ({ cls := "java/lang/UnsupportedOperationException", name := "<init>", desc := "(Ljava/lang/String;)V" } : Jvm.MethodName) prog_18_method_2_code (2 : Nat) (Option.none : Option Jvm.ClassFile.FieldType)) ∈ ALL := in_ALL 522 rfl rfl
set_option maxRecDepth 100000 in
theorem w_496 : (Jvm.Cond.methodLink "java/lang/UnsupportedOperationException" (7 : Nat) ({ cls := "java/lang/RuntimeException", name := "<init>", desc := "(Ljava/lang/String;)V" } : Jvm.MethodName)) ∈ ALL := in_ALL 523 rfl rfl
set_option maxRecDepth 100000 in
theorem w_499 : (Jvm.Cond.methodLink "Replen" (168 : Nat) ({ cls := "Replen$Line", name := "sell", desc := "(II)I" } : Jvm.MethodName)) ∈ ALL := in_ALL 526 rfl rfl
set_option maxRecDepth 100000 in
theorem w_500 : (Jvm.Cond.instanceMethod ({ cls := "Replen$Line", name := "sell", desc := "(II)I" } : Jvm.MethodName)) ∈ ALL := in_ALL 527 rfl rfl
set_option maxRecDepth 100000 in
theorem w_501 : (Jvm.Cond.selects "Replen$Line" ({ cls := "Replen$Line", name := "sell", desc := "(II)I" } : Jvm.MethodName) ({ cls := "Replen$Line", name := "sell", desc := "(II)I" } : Jvm.MethodName)) ∈ ALL := in_ALL 528 rfl rfl
set_option maxRecDepth 100000 in
theorem w_502 : (Jvm.Cond.code ({ cls := "Replen$Line", name := "sell", desc := "(II)I" } : Jvm.MethodName) prog_5_method_2_code (4 : Nat) (Option.some Jvm.ClassFile.FieldType.int)) ∈ ALL := in_ALL 529 rfl rfl
set_option maxRecDepth 100000 in
theorem w_503 : (Jvm.Cond.methodLink "Replen$Line" (68 : Nat) ({ cls := "java/lang/Math", name := "min", desc := "(II)I" } : Jvm.MethodName)) ∈ ALL := in_ALL 530 rfl rfl
set_option maxRecDepth 100000 in
theorem w_504 : (Jvm.Cond.static ({ cls := "java/lang/Math", name := "min", desc := "(II)I" } : Jvm.MethodName)) ∈ ALL := in_ALL 531 rfl rfl
set_option maxRecDepth 100000 in
theorem w_505 : (Jvm.Cond.code ({ cls := "java/lang/Math", name := "min", desc := "(II)I" } : Jvm.MethodName) prog_14_method_69_code (2 : Nat) (Option.some Jvm.ClassFile.FieldType.int)) ∈ ALL := in_ALL 532 rfl rfl
set_option maxRecDepth 100000 in
theorem w_506 : (Jvm.Cond.methodLink "Replen$Line" (74 : Nat) ({ cls := "Replen$DayBook", name := "add", desc := "(II)V" } : Jvm.MethodName)) ∈ ALL := in_ALL 533 rfl rfl
set_option maxRecDepth 100000 in
theorem w_507 : (Jvm.Cond.methodLink "ReplenLaw" (162 : Nat) ({ cls := "ReplenLaw", name := "night", desc := "(LReplen;[J)I" } : Jvm.MethodName)) ∈ ALL := in_ALL 534 rfl rfl
set_option maxRecDepth 100000 in
theorem w_508 : (Jvm.Cond.static ({ cls := "ReplenLaw", name := "night", desc := "(LReplen;[J)I" } : Jvm.MethodName)) ∈ ALL := in_ALL 535 rfl rfl
set_option maxRecDepth 100000 in
theorem w_509 : (Jvm.Cond.codeWith ({ cls := "ReplenLaw", name := "night", desc := "(LReplen;[J)I" } : Jvm.MethodName) method_13_code (3 : Nat) (Option.some Jvm.ClassFile.FieldType.int) [((0 : Nat), (8 : Nat), (11 : Nat), (15 : Nat))]) ∈ ALL := in_ALL 536 rfl rfl
set_option maxRecDepth 100000 in
theorem w_510 : (Jvm.Cond.methodLink "ReplenLaw" (54 : Nat) ({ cls := "Replen", name := "night", desc := "()I" } : Jvm.MethodName)) ∈ ALL := in_ALL 537 rfl rfl
set_option maxRecDepth 100000 in
theorem w_511 : (Jvm.Cond.instanceMethod ({ cls := "Replen", name := "night", desc := "()I" } : Jvm.MethodName)) ∈ ALL := in_ALL 538 rfl rfl
set_option maxRecDepth 100000 in
theorem w_512 : (Jvm.Cond.selects "Replen" ({ cls := "Replen", name := "night", desc := "()I" } : Jvm.MethodName) ({ cls := "Replen", name := "night", desc := "()I" } : Jvm.MethodName)) ∈ ALL := in_ALL 539 rfl rfl
set_option maxRecDepth 100000 in
theorem w_513 : (Jvm.Cond.code ({ cls := "Replen", name := "night", desc := "()I" } : Jvm.MethodName) prog_1_method_12_code (3 : Nat) (Option.some Jvm.ClassFile.FieldType.int)) ∈ ALL := in_ALL 540 rfl rfl
set_option maxRecDepth 100000 in
theorem w_515 : (Jvm.Cond.methodLink "Replen" (173 : Nat) ({ cls := "Replen", name := "learnToday", desc := "()V" } : Jvm.MethodName)) ∈ ALL := in_ALL 542 rfl rfl
set_option maxRecDepth 100000 in
theorem w_517 : (Jvm.Cond.instanceMethod ({ cls := "Replen", name := "learnToday", desc := "()V" } : Jvm.MethodName)) ∈ ALL := in_ALL 544 rfl rfl
set_option maxRecDepth 100000 in
theorem w_518 : (Jvm.Cond.code ({ cls := "Replen", name := "learnToday", desc := "()V" } : Jvm.MethodName) prog_1_method_44_code (3 : Nat) (Option.none : Option Jvm.ClassFile.FieldType)) ∈ ALL := in_ALL 545 rfl rfl
set_option maxRecDepth 100000 in
theorem w_519 : (Jvm.Cond.methodLink "Replen" (280 : Nat) ({ cls := "Replen$Line", name := "learnFrom", desc := "(III)V" } : Jvm.MethodName)) ∈ ALL := in_ALL 546 rfl rfl
set_option maxRecDepth 100000 in
theorem w_520 : (Jvm.Cond.instanceMethod ({ cls := "Replen$Line", name := "learnFrom", desc := "(III)V" } : Jvm.MethodName)) ∈ ALL := in_ALL 547 rfl rfl
set_option maxRecDepth 100000 in
theorem w_521 : (Jvm.Cond.selects "Replen$Line" ({ cls := "Replen$Line", name := "learnFrom", desc := "(III)V" } : Jvm.MethodName) ({ cls := "Replen$Line", name := "learnFrom", desc := "(III)V" } : Jvm.MethodName)) ∈ ALL := in_ALL 548 rfl rfl
set_option maxRecDepth 100000 in
theorem w_522 : (Jvm.Cond.code ({ cls := "Replen$Line", name := "learnFrom", desc := "(III)V" } : Jvm.MethodName) prog_5_method_3_code (6 : Nat) (Option.none : Option Jvm.ClassFile.FieldType)) ∈ ALL := in_ALL 549 rfl rfl
set_option maxRecDepth 100000 in
theorem w_523 : (Jvm.Cond.methodLink "Replen$Line" (82 : Nat) ({ cls := "Replen$Learner", name := "unitsFor", desc := "(I)I" } : Jvm.MethodName)) ∈ ALL := in_ALL 550 rfl rfl
set_option maxRecDepth 100000 in
theorem w_524 : (Jvm.Cond.instanceMethod ({ cls := "Replen$Learner", name := "unitsFor", desc := "(I)I" } : Jvm.MethodName)) ∈ ALL := in_ALL 551 rfl rfl
set_option maxRecDepth 100000 in
theorem w_525 : (Jvm.Cond.selects "Replen$Learner" ({ cls := "Replen$Learner", name := "unitsFor", desc := "(I)I" } : Jvm.MethodName) ({ cls := "Replen$Learner", name := "unitsFor", desc := "(I)I" } : Jvm.MethodName)) ∈ ALL := in_ALL 552 rfl rfl
set_option maxRecDepth 100000 in
theorem w_526 : (Jvm.Cond.code ({ cls := "Replen$Learner", name := "unitsFor", desc := "(I)I" } : Jvm.MethodName) prog_4_method_5_code (2 : Nat) (Option.some Jvm.ClassFile.FieldType.int)) ∈ ALL := in_ALL 553 rfl rfl
set_option maxRecDepth 100000 in
theorem w_527 : (Jvm.Cond.methodLink "Replen$Learner" (25 : Nat) ({ cls := "Replen$Learner", name := "thousandthsFor", desc := "(I)I" } : Jvm.MethodName)) ∈ ALL := in_ALL 554 rfl rfl
set_option maxRecDepth 100000 in
theorem w_528 : (Jvm.Cond.instanceMethod ({ cls := "Replen$Learner", name := "thousandthsFor", desc := "(I)I" } : Jvm.MethodName)) ∈ ALL := in_ALL 555 rfl rfl
set_option maxRecDepth 100000 in
theorem w_529 : (Jvm.Cond.selects "Replen$Learner" ({ cls := "Replen$Learner", name := "thousandthsFor", desc := "(I)I" } : Jvm.MethodName) ({ cls := "Replen$Learner", name := "thousandthsFor", desc := "(I)I" } : Jvm.MethodName)) ∈ ALL := in_ALL 556 rfl rfl
set_option maxRecDepth 100000 in
theorem w_530 : (Jvm.Cond.code ({ cls := "Replen$Learner", name := "thousandthsFor", desc := "(I)I" } : Jvm.MethodName) prog_4_method_4_code (2 : Nat) (Option.some Jvm.ClassFile.FieldType.int)) ∈ ALL := in_ALL 557 rfl rfl
set_option maxRecDepth 100000 in
theorem w_531 : (Jvm.Cond.methodLink "Replen$Learner" (19 : Nat) ({ cls := "Replen$Learner", name := "seasonOf", desc := "(I)I" } : Jvm.MethodName)) ∈ ALL := in_ALL 558 rfl rfl
set_option maxRecDepth 100000 in
theorem w_532 : (Jvm.Cond.instanceMethod ({ cls := "Replen$Learner", name := "seasonOf", desc := "(I)I" } : Jvm.MethodName)) ∈ ALL := in_ALL 559 rfl rfl
set_option maxRecDepth 100000 in
theorem w_533 : (Jvm.Cond.selects "Replen$Learner" ({ cls := "Replen$Learner", name := "seasonOf", desc := "(I)I" } : Jvm.MethodName) ({ cls := "Replen$Learner", name := "seasonOf", desc := "(I)I" } : Jvm.MethodName)) ∈ ALL := in_ALL 560 rfl rfl
set_option maxRecDepth 100000 in
theorem w_534 : (Jvm.Cond.code ({ cls := "Replen$Learner", name := "seasonOf", desc := "(I)I" } : Jvm.MethodName) prog_4_method_3_code (2 : Nat) (Option.some Jvm.ClassFile.FieldType.int)) ∈ ALL := in_ALL 561 rfl rfl
set_option maxRecDepth 100000 in
theorem w_535 : (Jvm.Cond.constantLong "Replen$Learner" (23 : Nat) (1000 : Int64)) ∈ ALL := in_ALL 562 rfl rfl
set_option maxRecDepth 100000 in
theorem w_536 : (Jvm.Cond.methodLink "Replen$Line" (85 : Nat) ({ cls := "java/lang/Math", name := "abs", desc := "(I)I" } : Jvm.MethodName)) ∈ ALL := in_ALL 563 rfl rfl
set_option maxRecDepth 100000 in
theorem w_537 : (Jvm.Cond.static ({ cls := "java/lang/Math", name := "abs", desc := "(I)I" } : Jvm.MethodName)) ∈ ALL := in_ALL 564 rfl rfl
set_option maxRecDepth 100000 in
theorem w_538 : (Jvm.Cond.code ({ cls := "java/lang/Math", name := "abs", desc := "(I)I" } : Jvm.MethodName) prog_14_method_59_code (1 : Nat) (Option.some Jvm.ClassFile.FieldType.int)) ∈ ALL := in_ALL 565 rfl rfl
set_option maxRecDepth 100000 in
theorem w_539 : (Jvm.Cond.methodLink "Replen$Line" (88 : Nat) ({ cls := "Replen$Learner", name := "learn", desc := "(IIII)V" } : Jvm.MethodName)) ∈ ALL := in_ALL 566 rfl rfl
set_option maxRecDepth 100000 in
theorem w_540 : (Jvm.Cond.instanceMethod ({ cls := "Replen$Learner", name := "learn", desc := "(IIII)V" } : Jvm.MethodName)) ∈ ALL := in_ALL 567 rfl rfl
set_option maxRecDepth 100000 in
theorem w_541 : (Jvm.Cond.selects "Replen$Learner" ({ cls := "Replen$Learner", name := "learn", desc := "(IIII)V" } : Jvm.MethodName) ({ cls := "Replen$Learner", name := "learn", desc := "(IIII)V" } : Jvm.MethodName)) ∈ ALL := in_ALL 568 rfl rfl
set_option maxRecDepth 100000 in
theorem w_542 : (Jvm.Cond.code ({ cls := "Replen$Learner", name := "learn", desc := "(IIII)V" } : Jvm.MethodName) prog_4_method_6_code (11 : Nat) (Option.none : Option Jvm.ClassFile.FieldType)) ∈ ALL := in_ALL 569 rfl rfl
set_option maxRecDepth 100000 in
theorem w_543 : (Jvm.Cond.constantLong "Replen$Learner" (28 : Nat) (1000000 : Int64)) ∈ ALL := in_ALL 570 rfl rfl
set_option maxRecDepth 100000 in
theorem w_544 : (Jvm.Cond.constantLong "Replen$Learner" (30 : Nat) (100 : Int64)) ∈ ALL := in_ALL 571 rfl rfl
set_option maxRecDepth 100000 in
theorem w_545 : (Jvm.Cond.methodLink "Replen$Learner" (32 : Nat) ({ cls := "java/lang/Math", name := "floorDiv", desc := "(JJ)J" } : Jvm.MethodName)) ∈ ALL := in_ALL 572 rfl rfl
set_option maxRecDepth 100000 in
theorem w_546 : (Jvm.Cond.static ({ cls := "java/lang/Math", name := "floorDiv", desc := "(JJ)J" } : Jvm.MethodName)) ∈ ALL := in_ALL 573 rfl rfl
set_option maxRecDepth 100000 in
theorem w_547 : (Jvm.Cond.code ({ cls := "java/lang/Math", name := "floorDiv", desc := "(JJ)J" } : Jvm.MethodName) prog_14_method_49_code (6 : Nat) (Option.some Jvm.ClassFile.FieldType.long)) ∈ ALL := in_ALL 574 rfl rfl
set_option maxRecDepth 100000 in
theorem w_548 : (Jvm.Cond.constantLong "Replen$Learner" (38 : Nat) (5000 : Int64)) ∈ ALL := in_ALL 575 rfl rfl
set_option maxRecDepth 100000 in
theorem w_549 : (Jvm.Cond.methodLink "Replen$Learner" (40 : Nat) ({ cls := "java/lang/Math", name := "min", desc := "(JJ)J" } : Jvm.MethodName)) ∈ ALL := in_ALL 576 rfl rfl
set_option maxRecDepth 100000 in
theorem w_550 : (Jvm.Cond.static ({ cls := "java/lang/Math", name := "min", desc := "(JJ)J" } : Jvm.MethodName)) ∈ ALL := in_ALL 577 rfl rfl
set_option maxRecDepth 100000 in
theorem w_551 : (Jvm.Cond.code ({ cls := "java/lang/Math", name := "min", desc := "(JJ)J" } : Jvm.MethodName) prog_14_method_70_code (4 : Nat) (Option.some Jvm.ClassFile.FieldType.long)) ∈ ALL := in_ALL 578 rfl rfl
set_option maxRecDepth 100000 in
theorem w_552 : (Jvm.Cond.methodLink "Replen$Learner" (43 : Nat) ({ cls := "java/lang/Math", name := "max", desc := "(JJ)J" } : Jvm.MethodName)) ∈ ALL := in_ALL 579 rfl rfl
set_option maxRecDepth 100000 in
theorem w_553 : (Jvm.Cond.static ({ cls := "java/lang/Math", name := "max", desc := "(JJ)J" } : Jvm.MethodName)) ∈ ALL := in_ALL 580 rfl rfl
set_option maxRecDepth 100000 in
theorem w_554 : (Jvm.Cond.code ({ cls := "java/lang/Math", name := "max", desc := "(JJ)J" } : Jvm.MethodName) prog_14_method_66_code (4 : Nat) (Option.some Jvm.ClassFile.FieldType.long)) ∈ ALL := in_ALL 581 rfl rfl
set_option maxRecDepth 100000 in
theorem w_555 : (Jvm.Cond.methodLink "Replen" (176 : Nat) ({ cls := "Replen", name := "receiveToday", desc := "()V" } : Jvm.MethodName)) ∈ ALL := in_ALL 582 rfl rfl
set_option maxRecDepth 100000 in
theorem w_557 : (Jvm.Cond.instanceMethod ({ cls := "Replen", name := "receiveToday", desc := "()V" } : Jvm.MethodName)) ∈ ALL := in_ALL 584 rfl rfl
set_option maxRecDepth 100000 in
theorem w_558 : (Jvm.Cond.code ({ cls := "Replen", name := "receiveToday", desc := "()V" } : Jvm.MethodName) prog_1_method_45_code (3 : Nat) (Option.none : Option Jvm.ClassFile.FieldType)) ∈ ALL := in_ALL 585 rfl rfl
set_option maxRecDepth 100000 in
theorem w_559 : (Jvm.Cond.methodLink "Replen" (179 : Nat) ({ cls := "Replen", name := "sendPacks", desc := "(I)I" } : Jvm.MethodName)) ∈ ALL := in_ALL 586 rfl rfl
set_option maxRecDepth 100000 in
theorem w_561 : (Jvm.Cond.instanceMethod ({ cls := "Replen", name := "sendPacks", desc := "(I)I" } : Jvm.MethodName)) ∈ ALL := in_ALL 588 rfl rfl
set_option maxRecDepth 100000 in
theorem w_562 : (Jvm.Cond.code ({ cls := "Replen", name := "sendPacks", desc := "(I)I" } : Jvm.MethodName) prog_1_method_47_code (6 : Nat) (Option.some Jvm.ClassFile.FieldType.int)) ∈ ALL := in_ALL 589 rfl rfl
set_option maxRecDepth 100000 in
theorem w_563 : (Jvm.Cond.methodLink "Replen" (244 : Nat) ({ cls := "Replen", name := "askForAll", desc := "(I)V" } : Jvm.MethodName)) ∈ ALL := in_ALL 590 rfl rfl
set_option maxRecDepth 100000 in
theorem w_565 : (Jvm.Cond.instanceMethod ({ cls := "Replen", name := "askForAll", desc := "(I)V" } : Jvm.MethodName)) ∈ ALL := in_ALL 592 rfl rfl
set_option maxRecDepth 100000 in
theorem w_566 : (Jvm.Cond.code ({ cls := "Replen", name := "askForAll", desc := "(I)V" } : Jvm.MethodName) prog_1_method_46_code (5 : Nat) (Option.none : Option Jvm.ClassFile.FieldType)) ∈ ALL := in_ALL 593 rfl rfl
set_option maxRecDepth 100000 in
theorem w_567 : (Jvm.Cond.methodLink "Replen" (287 : Nat) ({ cls := "Replen$Item", name := "wholePacks", desc := "()I" } : Jvm.MethodName)) ∈ ALL := in_ALL 594 rfl rfl
set_option maxRecDepth 100000 in
theorem w_568 : (Jvm.Cond.instanceMethod ({ cls := "Replen$Item", name := "wholePacks", desc := "()I" } : Jvm.MethodName)) ∈ ALL := in_ALL 595 rfl rfl
set_option maxRecDepth 100000 in
theorem w_569 : (Jvm.Cond.selects "Replen$Item" ({ cls := "Replen$Item", name := "wholePacks", desc := "()I" } : Jvm.MethodName) ({ cls := "Replen$Item", name := "wholePacks", desc := "()I" } : Jvm.MethodName)) ∈ ALL := in_ALL 596 rfl rfl
set_option maxRecDepth 100000 in
theorem w_570 : (Jvm.Cond.code ({ cls := "Replen$Item", name := "wholePacks", desc := "()I" } : Jvm.MethodName) prog_3_method_5_code (1 : Nat) (Option.some Jvm.ClassFile.FieldType.int)) ∈ ALL := in_ALL 597 rfl rfl
set_option maxRecDepth 100000 in
theorem w_571 : (Jvm.Cond.methodLink "Replen" (291 : Nat) ({ cls := "Replen$Sharing", name := "start", desc := "(I)V" } : Jvm.MethodName)) ∈ ALL := in_ALL 598 rfl rfl
set_option maxRecDepth 100000 in
theorem w_572 : (Jvm.Cond.instanceMethod ({ cls := "Replen$Sharing", name := "start", desc := "(I)V" } : Jvm.MethodName)) ∈ ALL := in_ALL 599 rfl rfl
set_option maxRecDepth 100000 in
theorem w_573 : (Jvm.Cond.selects "Replen$Sharing" ({ cls := "Replen$Sharing", name := "start", desc := "(I)V" } : Jvm.MethodName) ({ cls := "Replen$Sharing", name := "start", desc := "(I)V" } : Jvm.MethodName)) ∈ ALL := in_ALL 600 rfl rfl
set_option maxRecDepth 100000 in
theorem w_574 : (Jvm.Cond.code ({ cls := "Replen$Sharing", name := "start", desc := "(I)V" } : Jvm.MethodName) prog_6_method_2_code (3 : Nat) (Option.none : Option Jvm.ClassFile.FieldType)) ∈ ALL := in_ALL 601 rfl rfl
set_option maxRecDepth 100000 in
theorem w_575 : (Jvm.Cond.methodLink "Replen" (241 : Nat) ({ cls := "Replen$Line", name := "requestOn", desc := "(II)I" } : Jvm.MethodName)) ∈ ALL := in_ALL 602 rfl rfl
set_option maxRecDepth 100000 in
theorem w_576 : (Jvm.Cond.instanceMethod ({ cls := "Replen$Line", name := "requestOn", desc := "(II)I" } : Jvm.MethodName)) ∈ ALL := in_ALL 603 rfl rfl
set_option maxRecDepth 100000 in
theorem w_577 : (Jvm.Cond.selects "Replen$Line" ({ cls := "Replen$Line", name := "requestOn", desc := "(II)I" } : Jvm.MethodName) ({ cls := "Replen$Line", name := "requestOn", desc := "(II)I" } : Jvm.MethodName)) ∈ ALL := in_ALL 604 rfl rfl
set_option maxRecDepth 100000 in
theorem w_578 : (Jvm.Cond.code ({ cls := "Replen$Line", name := "requestOn", desc := "(II)I" } : Jvm.MethodName) prog_5_method_10_code (3 : Nat) (Option.some Jvm.ClassFile.FieldType.int)) ∈ ALL := in_ALL 605 rfl rfl
set_option maxRecDepth 100000 in
theorem w_579 : (Jvm.Cond.methodLink "Replen$Line" (113 : Nat) ({ cls := "Replen$Line", name := "needOn", desc := "(II)I" } : Jvm.MethodName)) ∈ ALL := in_ALL 606 rfl rfl
set_option maxRecDepth 100000 in
theorem w_580 : (Jvm.Cond.instanceMethod ({ cls := "Replen$Line", name := "needOn", desc := "(II)I" } : Jvm.MethodName)) ∈ ALL := in_ALL 607 rfl rfl
set_option maxRecDepth 100000 in
theorem w_581 : (Jvm.Cond.selects "Replen$Line" ({ cls := "Replen$Line", name := "needOn", desc := "(II)I" } : Jvm.MethodName) ({ cls := "Replen$Line", name := "needOn", desc := "(II)I" } : Jvm.MethodName)) ∈ ALL := in_ALL 608 rfl rfl
set_option maxRecDepth 100000 in
theorem w_582 : (Jvm.Cond.code ({ cls := "Replen$Line", name := "needOn", desc := "(II)I" } : Jvm.MethodName) prog_5_method_9_code (6 : Nat) (Option.some Jvm.ClassFile.FieldType.int)) ∈ ALL := in_ALL 609 rfl rfl
set_option maxRecDepth 100000 in
theorem w_583 : (Jvm.Cond.methodLink "Replen$Line" (100 : Nat) ({ cls := "Replen$Learner", name := "thousandthsFor", desc := "(I)I" } : Jvm.MethodName)) ∈ ALL := in_ALL 610 rfl rfl
set_option maxRecDepth 100000 in
theorem w_584 : (Jvm.Cond.constantLong "Replen$Line" (103 : Nat) (999 : Int64)) ∈ ALL := in_ALL 611 rfl rfl
set_option maxRecDepth 100000 in
theorem w_585 : (Jvm.Cond.constantLong "Replen$Line" (105 : Nat) (1000 : Int64)) ∈ ALL := in_ALL 612 rfl rfl
set_option maxRecDepth 100000 in
theorem w_586 : (Jvm.Cond.methodLink "Replen$Line" (107 : Nat) ({ cls := "Replen$Line", name := "safetyAt", desc := "(I)I" } : Jvm.MethodName)) ∈ ALL := in_ALL 613 rfl rfl
set_option maxRecDepth 100000 in
theorem w_587 : (Jvm.Cond.instanceMethod ({ cls := "Replen$Line", name := "safetyAt", desc := "(I)I" } : Jvm.MethodName)) ∈ ALL := in_ALL 614 rfl rfl
set_option maxRecDepth 100000 in
theorem w_588 : (Jvm.Cond.selects "Replen$Line" ({ cls := "Replen$Line", name := "safetyAt", desc := "(I)I" } : Jvm.MethodName) ({ cls := "Replen$Line", name := "safetyAt", desc := "(I)I" } : Jvm.MethodName)) ∈ ALL := in_ALL 615 rfl rfl
set_option maxRecDepth 100000 in
theorem w_589 : (Jvm.Cond.code ({ cls := "Replen$Line", name := "safetyAt", desc := "(I)I" } : Jvm.MethodName) prog_5_method_5_code (4 : Nat) (Option.some Jvm.ClassFile.FieldType.int)) ∈ ALL := in_ALL 616 rfl rfl
set_option maxRecDepth 100000 in
theorem w_590 : (Jvm.Cond.methodLink "Replen$Line" (110 : Nat) ({ cls := "Replen$Line", name := "dueAfter", desc := "(I)I" } : Jvm.MethodName)) ∈ ALL := in_ALL 617 rfl rfl
set_option maxRecDepth 100000 in
theorem w_591 : (Jvm.Cond.methodLink "Replen$Line" (116 : Nat) ({ cls := "Replen$Item", name := "packsFor", desc := "(I)I" } : Jvm.MethodName)) ∈ ALL := in_ALL 618 rfl rfl
set_option maxRecDepth 100000 in
theorem w_592 : (Jvm.Cond.instanceMethod ({ cls := "Replen$Item", name := "packsFor", desc := "(I)I" } : Jvm.MethodName)) ∈ ALL := in_ALL 619 rfl rfl
set_option maxRecDepth 100000 in
theorem w_593 : (Jvm.Cond.selects "Replen$Item" ({ cls := "Replen$Item", name := "packsFor", desc := "(I)I" } : Jvm.MethodName) ({ cls := "Replen$Item", name := "packsFor", desc := "(I)I" } : Jvm.MethodName)) ∈ ALL := in_ALL 620 rfl rfl
set_option maxRecDepth 100000 in
theorem w_594 : (Jvm.Cond.code ({ cls := "Replen$Item", name := "packsFor", desc := "(I)I" } : Jvm.MethodName) prog_3_method_6_code (2 : Nat) (Option.some Jvm.ClassFile.FieldType.int)) ∈ ALL := in_ALL 621 rfl rfl
set_option maxRecDepth 100000 in
theorem w_595 : (Jvm.Cond.methodLink "Replen" (292 : Nat) ({ cls := "Replen$Sharing", name := "ask", desc := "(II)V" } : Jvm.MethodName)) ∈ ALL := in_ALL 622 rfl rfl
set_option maxRecDepth 100000 in
theorem w_596 : (Jvm.Cond.instanceMethod ({ cls := "Replen$Sharing", name := "ask", desc := "(II)V" } : Jvm.MethodName)) ∈ ALL := in_ALL 623 rfl rfl
set_option maxRecDepth 100000 in
theorem w_597 : (Jvm.Cond.selects "Replen$Sharing" ({ cls := "Replen$Sharing", name := "ask", desc := "(II)V" } : Jvm.MethodName) ({ cls := "Replen$Sharing", name := "ask", desc := "(II)V" } : Jvm.MethodName)) ∈ ALL := in_ALL 624 rfl rfl
set_option maxRecDepth 100000 in
theorem w_598 : (Jvm.Cond.code ({ cls := "Replen$Sharing", name := "ask", desc := "(II)V" } : Jvm.MethodName) prog_6_method_3_code (3 : Nat) (Option.none : Option Jvm.ClassFile.FieldType)) ∈ ALL := in_ALL 625 rfl rfl
set_option maxRecDepth 100000 in
theorem w_599 : (Jvm.Cond.methodLink "Replen" (247 : Nat) ({ cls := "Replen$Sharing", name := "counted", desc := "(I)I" } : Jvm.MethodName)) ∈ ALL := in_ALL 626 rfl rfl
set_option maxRecDepth 100000 in
theorem w_600 : (Jvm.Cond.instanceMethod ({ cls := "Replen$Sharing", name := "counted", desc := "(I)I" } : Jvm.MethodName)) ∈ ALL := in_ALL 627 rfl rfl
set_option maxRecDepth 100000 in
theorem w_601 : (Jvm.Cond.selects "Replen$Sharing" ({ cls := "Replen$Sharing", name := "counted", desc := "(I)I" } : Jvm.MethodName) ({ cls := "Replen$Sharing", name := "counted", desc := "(I)I" } : Jvm.MethodName)) ∈ ALL := in_ALL 628 rfl rfl
set_option maxRecDepth 100000 in
theorem w_602 : (Jvm.Cond.code ({ cls := "Replen$Sharing", name := "counted", desc := "(I)I" } : Jvm.MethodName) prog_6_method_4_code (6 : Nat) (Option.some Jvm.ClassFile.FieldType.int)) ∈ ALL := in_ALL 629 rfl rfl
set_option maxRecDepth 100000 in
theorem w_603 : (Jvm.Cond.methodLink "Replen$Sharing" (22 : Nat) ({ cls := "Replen$Sharing", name := "givenAhead", desc := "(II)J" } : Jvm.MethodName)) ∈ ALL := in_ALL 630 rfl rfl
set_option maxRecDepth 100000 in
theorem w_605 : (Jvm.Cond.instanceMethod ({ cls := "Replen$Sharing", name := "givenAhead", desc := "(II)J" } : Jvm.MethodName)) ∈ ALL := in_ALL 632 rfl rfl
set_option maxRecDepth 100000 in
theorem w_606 : (Jvm.Cond.code ({ cls := "Replen$Sharing", name := "givenAhead", desc := "(II)J" } : Jvm.MethodName) prog_6_method_5_code (10 : Nat) (Option.some Jvm.ClassFile.FieldType.long)) ∈ ALL := in_ALL 633 rfl rfl
set_option maxRecDepth 100000 in
theorem w_607 : (Jvm.Cond.methodLink "Replen" (295 : Nat) ({ cls := "Replen$Line", name := "send", desc := "(II)V" } : Jvm.MethodName)) ∈ ALL := in_ALL 634 rfl rfl
set_option maxRecDepth 100000 in
theorem w_608 : (Jvm.Cond.instanceMethod ({ cls := "Replen$Line", name := "send", desc := "(II)V" } : Jvm.MethodName)) ∈ ALL := in_ALL 635 rfl rfl
set_option maxRecDepth 100000 in
theorem w_609 : (Jvm.Cond.selects "Replen$Line" ({ cls := "Replen$Line", name := "send", desc := "(II)V" } : Jvm.MethodName) ({ cls := "Replen$Line", name := "send", desc := "(II)V" } : Jvm.MethodName)) ∈ ALL := in_ALL 636 rfl rfl
set_option maxRecDepth 100000 in
theorem w_610 : (Jvm.Cond.code ({ cls := "Replen$Line", name := "send", desc := "(II)V" } : Jvm.MethodName) prog_5_method_7_code (4 : Nat) (Option.none : Option Jvm.ClassFile.FieldType)) ∈ ALL := in_ALL 637 rfl rfl
set_option maxRecDepth 100000 in
theorem w_611 : (Jvm.Cond.methodLink "Replen$Line" (97 : Nat) ({ cls := "Replen$Item", name := "giveOut", desc := "(II)V" } : Jvm.MethodName)) ∈ ALL := in_ALL 638 rfl rfl
set_option maxRecDepth 100000 in
theorem w_612 : (Jvm.Cond.instanceMethod ({ cls := "Replen$Item", name := "giveOut", desc := "(II)V" } : Jvm.MethodName)) ∈ ALL := in_ALL 639 rfl rfl
set_option maxRecDepth 100000 in
theorem w_613 : (Jvm.Cond.selects "Replen$Item" ({ cls := "Replen$Item", name := "giveOut", desc := "(II)V" } : Jvm.MethodName) ({ cls := "Replen$Item", name := "giveOut", desc := "(II)V" } : Jvm.MethodName)) ∈ ALL := in_ALL 640 rfl rfl
set_option maxRecDepth 100000 in
theorem w_614 : (Jvm.Cond.code ({ cls := "Replen$Item", name := "giveOut", desc := "(II)V" } : Jvm.MethodName) prog_3_method_4_code (3 : Nat) (Option.none : Option Jvm.ClassFile.FieldType)) ∈ ALL := in_ALL 641 rfl rfl
set_option maxRecDepth 100000 in
theorem w_615 : (Jvm.Cond.methodLink "ReplenLaw" (170 : Nat) ({ cls := "ReplenLaw", name := "demandToday", desc := "(LReplen;II[J)I" } : Jvm.MethodName)) ∈ ALL := in_ALL 642 rfl rfl
set_option maxRecDepth 100000 in
theorem w_616 : (Jvm.Cond.static ({ cls := "ReplenLaw", name := "demandToday", desc := "(LReplen;II[J)I" } : Jvm.MethodName)) ∈ ALL := in_ALL 643 rfl rfl
set_option maxRecDepth 100000 in
theorem w_617 : (Jvm.Cond.codeWith ({ cls := "ReplenLaw", name := "demandToday", desc := "(LReplen;II[J)I" } : Jvm.MethodName) method_14_code (5 : Nat) (Option.some Jvm.ClassFile.FieldType.int) [((0 : Nat), (10 : Nat), (13 : Nat), (25 : Nat)), ((0 : Nat), (10 : Nat), (17 : Nat), (50 : Nat))]) ∈ ALL := in_ALL 644 rfl rfl
set_option maxRecDepth 100000 in
theorem w_618 : (Jvm.Cond.methodLink "ReplenLaw" (58 : Nat) ({ cls := "Replen", name := "demandToday", desc := "(II)I" } : Jvm.MethodName)) ∈ ALL := in_ALL 645 rfl rfl
set_option maxRecDepth 100000 in
theorem w_619 : (Jvm.Cond.instanceMethod ({ cls := "Replen", name := "demandToday", desc := "(II)I" } : Jvm.MethodName)) ∈ ALL := in_ALL 646 rfl rfl
set_option maxRecDepth 100000 in
theorem w_620 : (Jvm.Cond.selects "Replen" ({ cls := "Replen", name := "demandToday", desc := "(II)I" } : Jvm.MethodName) ({ cls := "Replen", name := "demandToday", desc := "(II)I" } : Jvm.MethodName)) ∈ ALL := in_ALL 647 rfl rfl
set_option maxRecDepth 100000 in
theorem w_621 : (Jvm.Cond.code ({ cls := "Replen", name := "demandToday", desc := "(II)I" } : Jvm.MethodName) prog_1_method_14_code (3 : Nat) (Option.some Jvm.ClassFile.FieldType.int)) ∈ ALL := in_ALL 648 rfl rfl
set_option maxRecDepth 100000 in
theorem w_622 : (Jvm.Cond.methodLink "ReplenLaw" (173 : Nat) ({ cls := "ReplenLaw", name := "level", desc := "(LReplen;II[J)I" } : Jvm.MethodName)) ∈ ALL := in_ALL 649 rfl rfl
set_option maxRecDepth 100000 in
theorem w_623 : (Jvm.Cond.static ({ cls := "ReplenLaw", name := "level", desc := "(LReplen;II[J)I" } : Jvm.MethodName)) ∈ ALL := in_ALL 650 rfl rfl
set_option maxRecDepth 100000 in
theorem w_624 : (Jvm.Cond.codeWith ({ cls := "ReplenLaw", name := "level", desc := "(LReplen;II[J)I" } : Jvm.MethodName) method_15_code (5 : Nat) (Option.some Jvm.ClassFile.FieldType.int) [((0 : Nat), (10 : Nat), (13 : Nat), (25 : Nat)), ((0 : Nat), (10 : Nat), (17 : Nat), (50 : Nat))]) ∈ ALL := in_ALL 651 rfl rfl
set_option maxRecDepth 100000 in
theorem w_625 : (Jvm.Cond.methodLink "ReplenLaw" (61 : Nat) ({ cls := "Replen", name := "level", desc := "(II)I" } : Jvm.MethodName)) ∈ ALL := in_ALL 652 rfl rfl
set_option maxRecDepth 100000 in
theorem w_626 : (Jvm.Cond.instanceMethod ({ cls := "Replen", name := "level", desc := "(II)I" } : Jvm.MethodName)) ∈ ALL := in_ALL 653 rfl rfl
set_option maxRecDepth 100000 in
theorem w_627 : (Jvm.Cond.selects "Replen" ({ cls := "Replen", name := "level", desc := "(II)I" } : Jvm.MethodName) ({ cls := "Replen", name := "level", desc := "(II)I" } : Jvm.MethodName)) ∈ ALL := in_ALL 654 rfl rfl
set_option maxRecDepth 100000 in
theorem w_628 : (Jvm.Cond.code ({ cls := "Replen", name := "level", desc := "(II)I" } : Jvm.MethodName) prog_1_method_15_code (3 : Nat) (Option.some Jvm.ClassFile.FieldType.int)) ∈ ALL := in_ALL 655 rfl rfl
set_option maxRecDepth 100000 in
theorem w_629 : (Jvm.Cond.methodLink "ReplenLaw" (176 : Nat) ({ cls := "ReplenLaw", name := "levelByDays", desc := "(LReplen;II[J)I" } : Jvm.MethodName)) ∈ ALL := in_ALL 656 rfl rfl
set_option maxRecDepth 100000 in
theorem w_630 : (Jvm.Cond.static ({ cls := "ReplenLaw", name := "levelByDays", desc := "(LReplen;II[J)I" } : Jvm.MethodName)) ∈ ALL := in_ALL 657 rfl rfl
set_option maxRecDepth 100000 in
theorem w_631 : (Jvm.Cond.codeWith ({ cls := "ReplenLaw", name := "levelByDays", desc := "(LReplen;II[J)I" } : Jvm.MethodName) method_16_code (5 : Nat) (Option.some Jvm.ClassFile.FieldType.int) [((0 : Nat), (10 : Nat), (13 : Nat), (25 : Nat)), ((0 : Nat), (10 : Nat), (17 : Nat), (50 : Nat))]) ∈ ALL := in_ALL 658 rfl rfl
set_option maxRecDepth 100000 in
theorem w_632 : (Jvm.Cond.methodLink "ReplenLaw" (64 : Nat) ({ cls := "Replen", name := "levelByDays", desc := "(II)I" } : Jvm.MethodName)) ∈ ALL := in_ALL 659 rfl rfl
set_option maxRecDepth 100000 in
theorem w_633 : (Jvm.Cond.instanceMethod ({ cls := "Replen", name := "levelByDays", desc := "(II)I" } : Jvm.MethodName)) ∈ ALL := in_ALL 660 rfl rfl
set_option maxRecDepth 100000 in
theorem w_634 : (Jvm.Cond.selects "Replen" ({ cls := "Replen", name := "levelByDays", desc := "(II)I" } : Jvm.MethodName) ({ cls := "Replen", name := "levelByDays", desc := "(II)I" } : Jvm.MethodName)) ∈ ALL := in_ALL 661 rfl rfl
set_option maxRecDepth 100000 in
theorem w_635 : (Jvm.Cond.code ({ cls := "Replen", name := "levelByDays", desc := "(II)I" } : Jvm.MethodName) prog_1_method_16_code (5 : Nat) (Option.some Jvm.ClassFile.FieldType.int)) ∈ ALL := in_ALL 662 rfl rfl
set_option maxRecDepth 100000 in
theorem w_636 : (Jvm.Cond.methodLink "Replen" (191 : Nat) ({ cls := "Replen$Learner", name := "start", desc := "(I)V" } : Jvm.MethodName)) ∈ ALL := in_ALL 663 rfl rfl
set_option maxRecDepth 100000 in
theorem w_637 : (Jvm.Cond.methodLink "Replen" (201 : Nat) ({ cls := "Replen$Learner", name := "learn", desc := "(IIII)V" } : Jvm.MethodName)) ∈ ALL := in_ALL 664 rfl rfl
set_option maxRecDepth 100000 in
theorem w_638 : (Jvm.Cond.methodLink "ReplenLaw" (179 : Nat) ({ cls := "ReplenLaw", name := "season", desc := "(LReplen;III[J)I" } : Jvm.MethodName)) ∈ ALL := in_ALL 665 rfl rfl
set_option maxRecDepth 100000 in
theorem w_639 : (Jvm.Cond.static ({ cls := "ReplenLaw", name := "season", desc := "(LReplen;III[J)I" } : Jvm.MethodName)) ∈ ALL := in_ALL 666 rfl rfl
set_option maxRecDepth 100000 in
theorem w_640 : (Jvm.Cond.codeWith ({ cls := "ReplenLaw", name := "season", desc := "(LReplen;III[J)I" } : Jvm.MethodName) method_17_code (6 : Nat) (Option.some Jvm.ClassFile.FieldType.int) [((0 : Nat), (12 : Nat), (15 : Nat), (25 : Nat)), ((0 : Nat), (12 : Nat), (19 : Nat), (50 : Nat)), ((0 : Nat), (12 : Nat), (23 : Nat), (13 : Nat))]) ∈ ALL := in_ALL 667 rfl rfl
set_option maxRecDepth 100000 in
theorem w_641 : (Jvm.Cond.methodLink "ReplenLaw" (67 : Nat) ({ cls := "Replen", name := "season", desc := "(III)I" } : Jvm.MethodName)) ∈ ALL := in_ALL 668 rfl rfl
set_option maxRecDepth 100000 in
theorem w_642 : (Jvm.Cond.instanceMethod ({ cls := "Replen", name := "season", desc := "(III)I" } : Jvm.MethodName)) ∈ ALL := in_ALL 669 rfl rfl
set_option maxRecDepth 100000 in
theorem w_643 : (Jvm.Cond.selects "Replen" ({ cls := "Replen", name := "season", desc := "(III)I" } : Jvm.MethodName) ({ cls := "Replen", name := "season", desc := "(III)I" } : Jvm.MethodName)) ∈ ALL := in_ALL 670 rfl rfl
set_option maxRecDepth 100000 in
theorem w_644 : (Jvm.Cond.code ({ cls := "Replen", name := "season", desc := "(III)I" } : Jvm.MethodName) prog_1_method_17_code (5 : Nat) (Option.some Jvm.ClassFile.FieldType.int)) ∈ ALL := in_ALL 671 rfl rfl
set_option maxRecDepth 100000 in
theorem w_646 : (Jvm.Cond.methodLink "Replen" (207 : Nat) ({ cls := "Replen$Learner", name := "seasonOf", desc := "(I)I" } : Jvm.MethodName)) ∈ ALL := in_ALL 673 rfl rfl
set_option maxRecDepth 100000 in
theorem w_647 : (Jvm.Cond.methodLink "ReplenLaw" (182 : Nat) ({ cls := "ReplenLaw", name := "forecast", desc := "(LReplen;III[J)I" } : Jvm.MethodName)) ∈ ALL := in_ALL 674 rfl rfl
set_option maxRecDepth 100000 in
theorem w_648 : (Jvm.Cond.static ({ cls := "ReplenLaw", name := "forecast", desc := "(LReplen;III[J)I" } : Jvm.MethodName)) ∈ ALL := in_ALL 675 rfl rfl
set_option maxRecDepth 100000 in
theorem w_649 : (Jvm.Cond.codeWith ({ cls := "ReplenLaw", name := "forecast", desc := "(LReplen;III[J)I" } : Jvm.MethodName) method_18_code (6 : Nat) (Option.some Jvm.ClassFile.FieldType.int) [((0 : Nat), (12 : Nat), (15 : Nat), (25 : Nat)), ((0 : Nat), (12 : Nat), (19 : Nat), (50 : Nat)), ((0 : Nat), (12 : Nat), (23 : Nat), (13 : Nat))]) ∈ ALL := in_ALL 676 rfl rfl
set_option maxRecDepth 100000 in
theorem w_650 : (Jvm.Cond.methodLink "ReplenLaw" (70 : Nat) ({ cls := "Replen", name := "forecast", desc := "(III)I" } : Jvm.MethodName)) ∈ ALL := in_ALL 677 rfl rfl
set_option maxRecDepth 100000 in
theorem w_651 : (Jvm.Cond.instanceMethod ({ cls := "Replen", name := "forecast", desc := "(III)I" } : Jvm.MethodName)) ∈ ALL := in_ALL 678 rfl rfl
set_option maxRecDepth 100000 in
theorem w_652 : (Jvm.Cond.selects "Replen" ({ cls := "Replen", name := "forecast", desc := "(III)I" } : Jvm.MethodName) ({ cls := "Replen", name := "forecast", desc := "(III)I" } : Jvm.MethodName)) ∈ ALL := in_ALL 679 rfl rfl
set_option maxRecDepth 100000 in
theorem w_653 : (Jvm.Cond.code ({ cls := "Replen", name := "forecast", desc := "(III)I" } : Jvm.MethodName) prog_1_method_18_code (5 : Nat) (Option.some Jvm.ClassFile.FieldType.int)) ∈ ALL := in_ALL 680 rfl rfl
set_option maxRecDepth 100000 in
theorem w_655 : (Jvm.Cond.methodLink "Replen" (212 : Nat) ({ cls := "Replen$Learner", name := "thousandthsFor", desc := "(I)I" } : Jvm.MethodName)) ∈ ALL := in_ALL 682 rfl rfl
set_option maxRecDepth 100000 in
theorem w_656 : (Jvm.Cond.methodLink "ReplenLaw" (185 : Nat) ({ cls := "ReplenLaw", name := "errors", desc := "(LReplen;III[J)I" } : Jvm.MethodName)) ∈ ALL := in_ALL 683 rfl rfl
set_option maxRecDepth 100000 in
theorem w_657 : (Jvm.Cond.static ({ cls := "ReplenLaw", name := "errors", desc := "(LReplen;III[J)I" } : Jvm.MethodName)) ∈ ALL := in_ALL 684 rfl rfl
set_option maxRecDepth 100000 in
theorem w_658 : (Jvm.Cond.codeWith ({ cls := "ReplenLaw", name := "errors", desc := "(LReplen;III[J)I" } : Jvm.MethodName) method_19_code (6 : Nat) (Option.some Jvm.ClassFile.FieldType.int) [((0 : Nat), (12 : Nat), (15 : Nat), (25 : Nat)), ((0 : Nat), (12 : Nat), (19 : Nat), (50 : Nat)), ((0 : Nat), (12 : Nat), (23 : Nat), (13 : Nat))]) ∈ ALL := in_ALL 685 rfl rfl
set_option maxRecDepth 100000 in
theorem w_659 : (Jvm.Cond.methodLink "ReplenLaw" (73 : Nat) ({ cls := "Replen", name := "errors", desc := "(III)I" } : Jvm.MethodName)) ∈ ALL := in_ALL 686 rfl rfl
set_option maxRecDepth 100000 in
theorem w_660 : (Jvm.Cond.instanceMethod ({ cls := "Replen", name := "errors", desc := "(III)I" } : Jvm.MethodName)) ∈ ALL := in_ALL 687 rfl rfl
set_option maxRecDepth 100000 in
theorem w_661 : (Jvm.Cond.selects "Replen" ({ cls := "Replen", name := "errors", desc := "(III)I" } : Jvm.MethodName) ({ cls := "Replen", name := "errors", desc := "(III)I" } : Jvm.MethodName)) ∈ ALL := in_ALL 688 rfl rfl
set_option maxRecDepth 100000 in
theorem w_662 : (Jvm.Cond.code ({ cls := "Replen", name := "errors", desc := "(III)I" } : Jvm.MethodName) prog_1_method_19_code (5 : Nat) (Option.some Jvm.ClassFile.FieldType.int)) ∈ ALL := in_ALL 689 rfl rfl
set_option maxRecDepth 100000 in
theorem w_664 : (Jvm.Cond.methodLink "Replen" (217 : Nat) ({ cls := "Replen$Line", name := "timesOf", desc := "(I)I" } : Jvm.MethodName)) ∈ ALL := in_ALL 691 rfl rfl
set_option maxRecDepth 100000 in
theorem w_665 : (Jvm.Cond.instanceMethod ({ cls := "Replen$Line", name := "timesOf", desc := "(I)I" } : Jvm.MethodName)) ∈ ALL := in_ALL 692 rfl rfl
set_option maxRecDepth 100000 in
theorem w_666 : (Jvm.Cond.selects "Replen$Line" ({ cls := "Replen$Line", name := "timesOf", desc := "(I)I" } : Jvm.MethodName) ({ cls := "Replen$Line", name := "timesOf", desc := "(I)I" } : Jvm.MethodName)) ∈ ALL := in_ALL 693 rfl rfl
set_option maxRecDepth 100000 in
theorem w_667 : (Jvm.Cond.code ({ cls := "Replen$Line", name := "timesOf", desc := "(I)I" } : Jvm.MethodName) prog_5_method_4_code (2 : Nat) (Option.some Jvm.ClassFile.FieldType.int)) ∈ ALL := in_ALL 694 rfl rfl
set_option maxRecDepth 100000 in
theorem w_668 : (Jvm.Cond.methodLink "ReplenLaw" (188 : Nat) ({ cls := "ReplenLaw", name := "safety", desc := "(LReplen;II[J)I" } : Jvm.MethodName)) ∈ ALL := in_ALL 695 rfl rfl
set_option maxRecDepth 100000 in
theorem w_669 : (Jvm.Cond.static ({ cls := "ReplenLaw", name := "safety", desc := "(LReplen;II[J)I" } : Jvm.MethodName)) ∈ ALL := in_ALL 696 rfl rfl
set_option maxRecDepth 100000 in
theorem w_670 : (Jvm.Cond.codeWith ({ cls := "ReplenLaw", name := "safety", desc := "(LReplen;II[J)I" } : Jvm.MethodName) method_20_code (5 : Nat) (Option.some Jvm.ClassFile.FieldType.int) [((0 : Nat), (10 : Nat), (13 : Nat), (25 : Nat)), ((0 : Nat), (10 : Nat), (17 : Nat), (50 : Nat))]) ∈ ALL := in_ALL 697 rfl rfl
set_option maxRecDepth 100000 in
theorem w_671 : (Jvm.Cond.methodLink "ReplenLaw" (76 : Nat) ({ cls := "Replen", name := "safety", desc := "(II)I" } : Jvm.MethodName)) ∈ ALL := in_ALL 698 rfl rfl
set_option maxRecDepth 100000 in
theorem w_672 : (Jvm.Cond.instanceMethod ({ cls := "Replen", name := "safety", desc := "(II)I" } : Jvm.MethodName)) ∈ ALL := in_ALL 699 rfl rfl
set_option maxRecDepth 100000 in
theorem w_673 : (Jvm.Cond.selects "Replen" ({ cls := "Replen", name := "safety", desc := "(II)I" } : Jvm.MethodName) ({ cls := "Replen", name := "safety", desc := "(II)I" } : Jvm.MethodName)) ∈ ALL := in_ALL 700 rfl rfl
set_option maxRecDepth 100000 in
theorem w_674 : (Jvm.Cond.code ({ cls := "Replen", name := "safety", desc := "(II)I" } : Jvm.MethodName) prog_1_method_20_code (3 : Nat) (Option.some Jvm.ClassFile.FieldType.int)) ∈ ALL := in_ALL 701 rfl rfl
set_option maxRecDepth 100000 in
theorem w_675 : (Jvm.Cond.methodLink "Replen" (220 : Nat) ({ cls := "Replen$Line", name := "safetyAt", desc := "(I)I" } : Jvm.MethodName)) ∈ ALL := in_ALL 702 rfl rfl
set_option maxRecDepth 100000 in
theorem w_676 : (Jvm.Cond.methodLink "ReplenLaw" (191 : Nat) ({ cls := "ReplenLaw", name := "stock", desc := "(LReplen;II[J)I" } : Jvm.MethodName)) ∈ ALL := in_ALL 703 rfl rfl
set_option maxRecDepth 100000 in
theorem w_677 : (Jvm.Cond.static ({ cls := "ReplenLaw", name := "stock", desc := "(LReplen;II[J)I" } : Jvm.MethodName)) ∈ ALL := in_ALL 704 rfl rfl
set_option maxRecDepth 100000 in
theorem w_678 : (Jvm.Cond.codeWith ({ cls := "ReplenLaw", name := "stock", desc := "(LReplen;II[J)I" } : Jvm.MethodName) method_21_code (5 : Nat) (Option.some Jvm.ClassFile.FieldType.int) [((0 : Nat), (10 : Nat), (13 : Nat), (25 : Nat)), ((0 : Nat), (10 : Nat), (17 : Nat), (50 : Nat))]) ∈ ALL := in_ALL 705 rfl rfl
set_option maxRecDepth 100000 in
theorem w_679 : (Jvm.Cond.methodLink "ReplenLaw" (79 : Nat) ({ cls := "Replen", name := "stock", desc := "(II)I" } : Jvm.MethodName)) ∈ ALL := in_ALL 706 rfl rfl
set_option maxRecDepth 100000 in
theorem w_680 : (Jvm.Cond.instanceMethod ({ cls := "Replen", name := "stock", desc := "(II)I" } : Jvm.MethodName)) ∈ ALL := in_ALL 707 rfl rfl
set_option maxRecDepth 100000 in
theorem w_681 : (Jvm.Cond.selects "Replen" ({ cls := "Replen", name := "stock", desc := "(II)I" } : Jvm.MethodName) ({ cls := "Replen", name := "stock", desc := "(II)I" } : Jvm.MethodName)) ∈ ALL := in_ALL 708 rfl rfl
set_option maxRecDepth 100000 in
theorem w_682 : (Jvm.Cond.code ({ cls := "Replen", name := "stock", desc := "(II)I" } : Jvm.MethodName) prog_1_method_21_code (3 : Nat) (Option.some Jvm.ClassFile.FieldType.int)) ∈ ALL := in_ALL 709 rfl rfl
set_option maxRecDepth 100000 in
theorem w_683 : (Jvm.Cond.methodLink "ReplenLaw" (194 : Nat) ({ cls := "ReplenLaw", name := "stockByJournal", desc := "(LReplen;II[J)I" } : Jvm.MethodName)) ∈ ALL := in_ALL 710 rfl rfl
set_option maxRecDepth 100000 in
theorem w_684 : (Jvm.Cond.static ({ cls := "ReplenLaw", name := "stockByJournal", desc := "(LReplen;II[J)I" } : Jvm.MethodName)) ∈ ALL := in_ALL 711 rfl rfl
set_option maxRecDepth 100000 in
theorem w_685 : (Jvm.Cond.codeWith ({ cls := "ReplenLaw", name := "stockByJournal", desc := "(LReplen;II[J)I" } : Jvm.MethodName) method_22_code (5 : Nat) (Option.some Jvm.ClassFile.FieldType.int) [((0 : Nat), (10 : Nat), (13 : Nat), (25 : Nat)), ((0 : Nat), (10 : Nat), (17 : Nat), (50 : Nat))]) ∈ ALL := in_ALL 712 rfl rfl
set_option maxRecDepth 100000 in
theorem w_686 : (Jvm.Cond.methodLink "ReplenLaw" (82 : Nat) ({ cls := "Replen", name := "stockByJournal", desc := "(II)I" } : Jvm.MethodName)) ∈ ALL := in_ALL 713 rfl rfl
set_option maxRecDepth 100000 in
theorem w_687 : (Jvm.Cond.instanceMethod ({ cls := "Replen", name := "stockByJournal", desc := "(II)I" } : Jvm.MethodName)) ∈ ALL := in_ALL 714 rfl rfl
set_option maxRecDepth 100000 in
theorem w_688 : (Jvm.Cond.selects "Replen" ({ cls := "Replen", name := "stockByJournal", desc := "(II)I" } : Jvm.MethodName) ({ cls := "Replen", name := "stockByJournal", desc := "(II)I" } : Jvm.MethodName)) ∈ ALL := in_ALL 715 rfl rfl
set_option maxRecDepth 100000 in
theorem w_689 : (Jvm.Cond.code ({ cls := "Replen", name := "stockByJournal", desc := "(II)I" } : Jvm.MethodName) prog_1_method_22_code (3 : Nat) (Option.some Jvm.ClassFile.FieldType.int)) ∈ ALL := in_ALL 716 rfl rfl
set_option maxRecDepth 100000 in
theorem w_690 : (Jvm.Cond.methodLink "Replen" (224 : Nat) ({ cls := "Replen$Line", name := "journalStock", desc := "(I)I" } : Jvm.MethodName)) ∈ ALL := in_ALL 717 rfl rfl
set_option maxRecDepth 100000 in
theorem w_691 : (Jvm.Cond.instanceMethod ({ cls := "Replen$Line", name := "journalStock", desc := "(I)I" } : Jvm.MethodName)) ∈ ALL := in_ALL 718 rfl rfl
set_option maxRecDepth 100000 in
theorem w_692 : (Jvm.Cond.selects "Replen$Line" ({ cls := "Replen$Line", name := "journalStock", desc := "(I)I" } : Jvm.MethodName) ({ cls := "Replen$Line", name := "journalStock", desc := "(I)I" } : Jvm.MethodName)) ∈ ALL := in_ALL 719 rfl rfl
set_option maxRecDepth 100000 in
theorem w_693 : (Jvm.Cond.code ({ cls := "Replen$Line", name := "journalStock", desc := "(I)I" } : Jvm.MethodName) prog_5_method_11_code (2 : Nat) (Option.some Jvm.ClassFile.FieldType.int)) ∈ ALL := in_ALL 720 rfl rfl
set_option maxRecDepth 100000 in
theorem w_694 : (Jvm.Cond.methodLink "Replen$Line" (119 : Nat) ({ cls := "Replen$DayBook", name := "sumUpTo", desc := "(I)I" } : Jvm.MethodName)) ∈ ALL := in_ALL 721 rfl rfl
set_option maxRecDepth 100000 in
theorem w_695 : (Jvm.Cond.instanceMethod ({ cls := "Replen$DayBook", name := "sumUpTo", desc := "(I)I" } : Jvm.MethodName)) ∈ ALL := in_ALL 722 rfl rfl
set_option maxRecDepth 100000 in
theorem w_696 : (Jvm.Cond.selects "Replen$DayBook" ({ cls := "Replen$DayBook", name := "sumUpTo", desc := "(I)I" } : Jvm.MethodName) ({ cls := "Replen$DayBook", name := "sumUpTo", desc := "(I)I" } : Jvm.MethodName)) ∈ ALL := in_ALL 723 rfl rfl
set_option maxRecDepth 100000 in
theorem w_697 : (Jvm.Cond.code ({ cls := "Replen$DayBook", name := "sumUpTo", desc := "(I)I" } : Jvm.MethodName) prog_2_method_4_code (4 : Nat) (Option.some Jvm.ClassFile.FieldType.int)) ∈ ALL := in_ALL 724 rfl rfl
set_option maxRecDepth 100000 in
theorem w_698 : (Jvm.Cond.methodLink "ReplenLaw" (197 : Nat) ({ cls := "ReplenLaw", name := "onWay", desc := "(LReplen;II[J)I" } : Jvm.MethodName)) ∈ ALL := in_ALL 725 rfl rfl
set_option maxRecDepth 100000 in
theorem w_699 : (Jvm.Cond.static ({ cls := "ReplenLaw", name := "onWay", desc := "(LReplen;II[J)I" } : Jvm.MethodName)) ∈ ALL := in_ALL 726 rfl rfl
set_option maxRecDepth 100000 in
theorem w_700 : (Jvm.Cond.codeWith ({ cls := "ReplenLaw", name := "onWay", desc := "(LReplen;II[J)I" } : Jvm.MethodName) method_23_code (5 : Nat) (Option.some Jvm.ClassFile.FieldType.int) [((0 : Nat), (10 : Nat), (13 : Nat), (25 : Nat)), ((0 : Nat), (10 : Nat), (17 : Nat), (50 : Nat))]) ∈ ALL := in_ALL 727 rfl rfl
set_option maxRecDepth 100000 in
theorem w_701 : (Jvm.Cond.methodLink "ReplenLaw" (85 : Nat) ({ cls := "Replen", name := "onWay", desc := "(II)I" } : Jvm.MethodName)) ∈ ALL := in_ALL 728 rfl rfl
set_option maxRecDepth 100000 in
theorem w_702 : (Jvm.Cond.instanceMethod ({ cls := "Replen", name := "onWay", desc := "(II)I" } : Jvm.MethodName)) ∈ ALL := in_ALL 729 rfl rfl
set_option maxRecDepth 100000 in
theorem w_703 : (Jvm.Cond.selects "Replen" ({ cls := "Replen", name := "onWay", desc := "(II)I" } : Jvm.MethodName) ({ cls := "Replen", name := "onWay", desc := "(II)I" } : Jvm.MethodName)) ∈ ALL := in_ALL 730 rfl rfl
set_option maxRecDepth 100000 in
theorem w_704 : (Jvm.Cond.code ({ cls := "Replen", name := "onWay", desc := "(II)I" } : Jvm.MethodName) prog_1_method_23_code (3 : Nat) (Option.some Jvm.ClassFile.FieldType.int)) ∈ ALL := in_ALL 731 rfl rfl
set_option maxRecDepth 100000 in
theorem w_705 : (Jvm.Cond.methodLink "ReplenLaw" (200 : Nat) ({ cls := "ReplenLaw", name := "nextArrival", desc := "(LReplen;II[J)I" } : Jvm.MethodName)) ∈ ALL := in_ALL 732 rfl rfl
set_option maxRecDepth 100000 in
theorem w_706 : (Jvm.Cond.static ({ cls := "ReplenLaw", name := "nextArrival", desc := "(LReplen;II[J)I" } : Jvm.MethodName)) ∈ ALL := in_ALL 733 rfl rfl
set_option maxRecDepth 100000 in
theorem w_707 : (Jvm.Cond.codeWith ({ cls := "ReplenLaw", name := "nextArrival", desc := "(LReplen;II[J)I" } : Jvm.MethodName) method_24_code (5 : Nat) (Option.some Jvm.ClassFile.FieldType.int) [((0 : Nat), (10 : Nat), (13 : Nat), (25 : Nat)), ((0 : Nat), (10 : Nat), (17 : Nat), (50 : Nat))]) ∈ ALL := in_ALL 734 rfl rfl
set_option maxRecDepth 100000 in
theorem w_708 : (Jvm.Cond.methodLink "ReplenLaw" (88 : Nat) ({ cls := "Replen", name := "nextArrival", desc := "(II)I" } : Jvm.MethodName)) ∈ ALL := in_ALL 735 rfl rfl
set_option maxRecDepth 100000 in
theorem w_709 : (Jvm.Cond.instanceMethod ({ cls := "Replen", name := "nextArrival", desc := "(II)I" } : Jvm.MethodName)) ∈ ALL := in_ALL 736 rfl rfl
set_option maxRecDepth 100000 in
theorem w_710 : (Jvm.Cond.selects "Replen" ({ cls := "Replen", name := "nextArrival", desc := "(II)I" } : Jvm.MethodName) ({ cls := "Replen", name := "nextArrival", desc := "(II)I" } : Jvm.MethodName)) ∈ ALL := in_ALL 737 rfl rfl
set_option maxRecDepth 100000 in
theorem w_711 : (Jvm.Cond.code ({ cls := "Replen", name := "nextArrival", desc := "(II)I" } : Jvm.MethodName) prog_1_method_24_code (4 : Nat) (Option.some Jvm.ClassFile.FieldType.int)) ∈ ALL := in_ALL 738 rfl rfl
set_option maxRecDepth 100000 in
theorem w_712 : (Jvm.Cond.methodLink "Replen" (230 : Nat) ({ cls := "Replen$Line", name := "firstDueAfter", desc := "(I)I" } : Jvm.MethodName)) ∈ ALL := in_ALL 739 rfl rfl
set_option maxRecDepth 100000 in
theorem w_713 : (Jvm.Cond.instanceMethod ({ cls := "Replen$Line", name := "firstDueAfter", desc := "(I)I" } : Jvm.MethodName)) ∈ ALL := in_ALL 740 rfl rfl
set_option maxRecDepth 100000 in
theorem w_714 : (Jvm.Cond.selects "Replen$Line" ({ cls := "Replen$Line", name := "firstDueAfter", desc := "(I)I" } : Jvm.MethodName) ({ cls := "Replen$Line", name := "firstDueAfter", desc := "(I)I" } : Jvm.MethodName)) ∈ ALL := in_ALL 741 rfl rfl
set_option maxRecDepth 100000 in
theorem w_715 : (Jvm.Cond.code ({ cls := "Replen$Line", name := "firstDueAfter", desc := "(I)I" } : Jvm.MethodName) prog_5_method_8_code (3 : Nat) (Option.some Jvm.ClassFile.FieldType.int)) ∈ ALL := in_ALL 742 rfl rfl
set_option maxRecDepth 100000 in
theorem w_717 : (Jvm.Cond.methodLink "ReplenLaw" (203 : Nat) ({ cls := "ReplenLaw", name := "need", desc := "(LReplen;II[J)I" } : Jvm.MethodName)) ∈ ALL := in_ALL 744 rfl rfl
set_option maxRecDepth 100000 in
theorem w_718 : (Jvm.Cond.static ({ cls := "ReplenLaw", name := "need", desc := "(LReplen;II[J)I" } : Jvm.MethodName)) ∈ ALL := in_ALL 745 rfl rfl
set_option maxRecDepth 100000 in
theorem w_719 : (Jvm.Cond.codeWith ({ cls := "ReplenLaw", name := "need", desc := "(LReplen;II[J)I" } : Jvm.MethodName) method_25_code (5 : Nat) (Option.some Jvm.ClassFile.FieldType.int) [((0 : Nat), (10 : Nat), (13 : Nat), (25 : Nat)), ((0 : Nat), (10 : Nat), (17 : Nat), (50 : Nat))]) ∈ ALL := in_ALL 746 rfl rfl
set_option maxRecDepth 100000 in
theorem w_720 : (Jvm.Cond.methodLink "ReplenLaw" (91 : Nat) ({ cls := "Replen", name := "need", desc := "(II)I" } : Jvm.MethodName)) ∈ ALL := in_ALL 747 rfl rfl
set_option maxRecDepth 100000 in
theorem w_721 : (Jvm.Cond.instanceMethod ({ cls := "Replen", name := "need", desc := "(II)I" } : Jvm.MethodName)) ∈ ALL := in_ALL 748 rfl rfl
set_option maxRecDepth 100000 in
theorem w_722 : (Jvm.Cond.selects "Replen" ({ cls := "Replen", name := "need", desc := "(II)I" } : Jvm.MethodName) ({ cls := "Replen", name := "need", desc := "(II)I" } : Jvm.MethodName)) ∈ ALL := in_ALL 749 rfl rfl
set_option maxRecDepth 100000 in
theorem w_723 : (Jvm.Cond.code ({ cls := "Replen", name := "need", desc := "(II)I" } : Jvm.MethodName) prog_1_method_25_code (3 : Nat) (Option.some Jvm.ClassFile.FieldType.int)) ∈ ALL := in_ALL 750 rfl rfl
set_option maxRecDepth 100000 in
theorem w_724 : (Jvm.Cond.methodLink "Replen" (238 : Nat) ({ cls := "Replen$Line", name := "needOn", desc := "(II)I" } : Jvm.MethodName)) ∈ ALL := in_ALL 751 rfl rfl
set_option maxRecDepth 100000 in
theorem w_725 : (Jvm.Cond.methodLink "ReplenLaw" (206 : Nat) ({ cls := "ReplenLaw", name := "request", desc := "(LReplen;II[J)I" } : Jvm.MethodName)) ∈ ALL := in_ALL 752 rfl rfl
set_option maxRecDepth 100000 in
theorem w_726 : (Jvm.Cond.static ({ cls := "ReplenLaw", name := "request", desc := "(LReplen;II[J)I" } : Jvm.MethodName)) ∈ ALL := in_ALL 753 rfl rfl
set_option maxRecDepth 100000 in
theorem w_727 : (Jvm.Cond.codeWith ({ cls := "ReplenLaw", name := "request", desc := "(LReplen;II[J)I" } : Jvm.MethodName) method_26_code (5 : Nat) (Option.some Jvm.ClassFile.FieldType.int) [((0 : Nat), (10 : Nat), (13 : Nat), (25 : Nat)), ((0 : Nat), (10 : Nat), (17 : Nat), (50 : Nat))]) ∈ ALL := in_ALL 754 rfl rfl
set_option maxRecDepth 100000 in
theorem w_728 : (Jvm.Cond.methodLink "ReplenLaw" (94 : Nat) ({ cls := "Replen", name := "request", desc := "(II)I" } : Jvm.MethodName)) ∈ ALL := in_ALL 755 rfl rfl
set_option maxRecDepth 100000 in
theorem w_729 : (Jvm.Cond.instanceMethod ({ cls := "Replen", name := "request", desc := "(II)I" } : Jvm.MethodName)) ∈ ALL := in_ALL 756 rfl rfl
set_option maxRecDepth 100000 in
theorem w_730 : (Jvm.Cond.selects "Replen" ({ cls := "Replen", name := "request", desc := "(II)I" } : Jvm.MethodName) ({ cls := "Replen", name := "request", desc := "(II)I" } : Jvm.MethodName)) ∈ ALL := in_ALL 757 rfl rfl
set_option maxRecDepth 100000 in
theorem w_731 : (Jvm.Cond.code ({ cls := "Replen", name := "request", desc := "(II)I" } : Jvm.MethodName) prog_1_method_26_code (3 : Nat) (Option.some Jvm.ClassFile.FieldType.int)) ∈ ALL := in_ALL 758 rfl rfl
set_option maxRecDepth 100000 in
theorem w_732 : (Jvm.Cond.methodLink "ReplenLaw" (209 : Nat) ({ cls := "ReplenLaw", name := "share", desc := "(LReplen;II[J)I" } : Jvm.MethodName)) ∈ ALL := in_ALL 759 rfl rfl
set_option maxRecDepth 100000 in
theorem w_733 : (Jvm.Cond.static ({ cls := "ReplenLaw", name := "share", desc := "(LReplen;II[J)I" } : Jvm.MethodName)) ∈ ALL := in_ALL 760 rfl rfl
set_option maxRecDepth 100000 in
theorem w_734 : (Jvm.Cond.codeWith ({ cls := "ReplenLaw", name := "share", desc := "(LReplen;II[J)I" } : Jvm.MethodName) method_27_code (5 : Nat) (Option.some Jvm.ClassFile.FieldType.int) [((0 : Nat), (10 : Nat), (13 : Nat), (25 : Nat)), ((0 : Nat), (10 : Nat), (17 : Nat), (50 : Nat))]) ∈ ALL := in_ALL 761 rfl rfl
set_option maxRecDepth 100000 in
theorem w_735 : (Jvm.Cond.methodLink "ReplenLaw" (97 : Nat) ({ cls := "Replen", name := "share", desc := "(II)I" } : Jvm.MethodName)) ∈ ALL := in_ALL 762 rfl rfl
set_option maxRecDepth 100000 in
theorem w_736 : (Jvm.Cond.instanceMethod ({ cls := "Replen", name := "share", desc := "(II)I" } : Jvm.MethodName)) ∈ ALL := in_ALL 763 rfl rfl
set_option maxRecDepth 100000 in
theorem w_737 : (Jvm.Cond.selects "Replen" ({ cls := "Replen", name := "share", desc := "(II)I" } : Jvm.MethodName) ({ cls := "Replen", name := "share", desc := "(II)I" } : Jvm.MethodName)) ∈ ALL := in_ALL 764 rfl rfl
set_option maxRecDepth 100000 in
theorem w_738 : (Jvm.Cond.code ({ cls := "Replen", name := "share", desc := "(II)I" } : Jvm.MethodName) prog_1_method_27_code (3 : Nat) (Option.some Jvm.ClassFile.FieldType.int)) ∈ ALL := in_ALL 765 rfl rfl
set_option maxRecDepth 100000 in
theorem w_739 : (Jvm.Cond.methodLink "ReplenLaw" (212 : Nat) ({ cls := "ReplenLaw", name := "shareByPacks", desc := "(LReplen;II[J)I" } : Jvm.MethodName)) ∈ ALL := in_ALL 766 rfl rfl
set_option maxRecDepth 100000 in
theorem w_740 : (Jvm.Cond.static ({ cls := "ReplenLaw", name := "shareByPacks", desc := "(LReplen;II[J)I" } : Jvm.MethodName)) ∈ ALL := in_ALL 767 rfl rfl
set_option maxRecDepth 100000 in
theorem w_741 : (Jvm.Cond.codeWith ({ cls := "ReplenLaw", name := "shareByPacks", desc := "(LReplen;II[J)I" } : Jvm.MethodName) method_28_code (5 : Nat) (Option.some Jvm.ClassFile.FieldType.int) [((0 : Nat), (10 : Nat), (13 : Nat), (25 : Nat)), ((0 : Nat), (10 : Nat), (17 : Nat), (50 : Nat))]) ∈ ALL := in_ALL 768 rfl rfl
set_option maxRecDepth 100000 in
theorem w_742 : (Jvm.Cond.methodLink "ReplenLaw" (100 : Nat) ({ cls := "Replen", name := "shareByPacks", desc := "(II)I" } : Jvm.MethodName)) ∈ ALL := in_ALL 769 rfl rfl
set_option maxRecDepth 100000 in
theorem w_743 : (Jvm.Cond.instanceMethod ({ cls := "Replen", name := "shareByPacks", desc := "(II)I" } : Jvm.MethodName)) ∈ ALL := in_ALL 770 rfl rfl
set_option maxRecDepth 100000 in
theorem w_744 : (Jvm.Cond.selects "Replen" ({ cls := "Replen", name := "shareByPacks", desc := "(II)I" } : Jvm.MethodName) ({ cls := "Replen", name := "shareByPacks", desc := "(II)I" } : Jvm.MethodName)) ∈ ALL := in_ALL 771 rfl rfl
set_option maxRecDepth 100000 in
theorem w_745 : (Jvm.Cond.code ({ cls := "Replen", name := "shareByPacks", desc := "(II)I" } : Jvm.MethodName) prog_1_method_28_code (3 : Nat) (Option.some Jvm.ClassFile.FieldType.int)) ∈ ALL := in_ALL 772 rfl rfl
set_option maxRecDepth 100000 in
theorem w_746 : (Jvm.Cond.methodLink "Replen" (250 : Nat) ({ cls := "Replen$Sharing", name := "handedOut", desc := "(I)I" } : Jvm.MethodName)) ∈ ALL := in_ALL 773 rfl rfl
set_option maxRecDepth 100000 in
theorem w_747 : (Jvm.Cond.instanceMethod ({ cls := "Replen$Sharing", name := "handedOut", desc := "(I)I" } : Jvm.MethodName)) ∈ ALL := in_ALL 774 rfl rfl
set_option maxRecDepth 100000 in
theorem w_748 : (Jvm.Cond.selects "Replen$Sharing" ({ cls := "Replen$Sharing", name := "handedOut", desc := "(I)I" } : Jvm.MethodName) ({ cls := "Replen$Sharing", name := "handedOut", desc := "(I)I" } : Jvm.MethodName)) ∈ ALL := in_ALL 775 rfl rfl
set_option maxRecDepth 100000 in
theorem w_749 : (Jvm.Cond.code ({ cls := "Replen$Sharing", name := "handedOut", desc := "(I)I" } : Jvm.MethodName) prog_6_method_6_code (4 : Nat) (Option.some Jvm.ClassFile.FieldType.int)) ∈ ALL := in_ALL 776 rfl rfl
set_option maxRecDepth 100000 in
theorem w_750 : (Jvm.Cond.methodLink "Replen$Sharing" (26 : Nat) ({ cls := "Replen$Sharing", name := "nextToGet", desc := "()I" } : Jvm.MethodName)) ∈ ALL := in_ALL 777 rfl rfl
set_option maxRecDepth 100000 in
theorem w_752 : (Jvm.Cond.instanceMethod ({ cls := "Replen$Sharing", name := "nextToGet", desc := "()I" } : Jvm.MethodName)) ∈ ALL := in_ALL 779 rfl rfl
set_option maxRecDepth 100000 in
theorem w_753 : (Jvm.Cond.code ({ cls := "Replen$Sharing", name := "nextToGet", desc := "()I" } : Jvm.MethodName) prog_6_method_7_code (8 : Nat) (Option.some Jvm.ClassFile.FieldType.int)) ∈ ALL := in_ALL 780 rfl rfl
set_option maxRecDepth 100000 in
theorem w_754 : (Jvm.Cond.methodLink "ReplenLaw" (215 : Nat) ({ cls := "ReplenLaw", name := "centre", desc := "(LReplen;I[J)I" } : Jvm.MethodName)) ∈ ALL := in_ALL 781 rfl rfl
set_option maxRecDepth 100000 in
theorem w_755 : (Jvm.Cond.static ({ cls := "ReplenLaw", name := "centre", desc := "(LReplen;I[J)I" } : Jvm.MethodName)) ∈ ALL := in_ALL 782 rfl rfl
set_option maxRecDepth 100000 in
theorem w_756 : (Jvm.Cond.codeWith ({ cls := "ReplenLaw", name := "centre", desc := "(LReplen;I[J)I" } : Jvm.MethodName) method_29_code (4 : Nat) (Option.some Jvm.ClassFile.FieldType.int) [((0 : Nat), (9 : Nat), (12 : Nat), (25 : Nat))]) ∈ ALL := in_ALL 783 rfl rfl
set_option maxRecDepth 100000 in
theorem w_757 : (Jvm.Cond.methodLink "ReplenLaw" (103 : Nat) ({ cls := "Replen", name := "centre", desc := "(I)I" } : Jvm.MethodName)) ∈ ALL := in_ALL 784 rfl rfl
set_option maxRecDepth 100000 in
theorem w_758 : (Jvm.Cond.instanceMethod ({ cls := "Replen", name := "centre", desc := "(I)I" } : Jvm.MethodName)) ∈ ALL := in_ALL 785 rfl rfl
set_option maxRecDepth 100000 in
theorem w_759 : (Jvm.Cond.selects "Replen" ({ cls := "Replen", name := "centre", desc := "(I)I" } : Jvm.MethodName) ({ cls := "Replen", name := "centre", desc := "(I)I" } : Jvm.MethodName)) ∈ ALL := in_ALL 786 rfl rfl
set_option maxRecDepth 100000 in
theorem w_760 : (Jvm.Cond.code ({ cls := "Replen", name := "centre", desc := "(I)I" } : Jvm.MethodName) prog_1_method_29_code (2 : Nat) (Option.some Jvm.ClassFile.FieldType.int)) ∈ ALL := in_ALL 787 rfl rfl
set_option maxRecDepth 100000 in
theorem w_761 : (Jvm.Cond.methodLink "ReplenLaw" (218 : Nat) ({ cls := "ReplenLaw", name := "centreByJournal", desc := "(LReplen;I[J)I" } : Jvm.MethodName)) ∈ ALL := in_ALL 788 rfl rfl
set_option maxRecDepth 100000 in
theorem w_762 : (Jvm.Cond.static ({ cls := "ReplenLaw", name := "centreByJournal", desc := "(LReplen;I[J)I" } : Jvm.MethodName)) ∈ ALL := in_ALL 789 rfl rfl
set_option maxRecDepth 100000 in
theorem w_763 : (Jvm.Cond.codeWith ({ cls := "ReplenLaw", name := "centreByJournal", desc := "(LReplen;I[J)I" } : Jvm.MethodName) method_30_code (4 : Nat) (Option.some Jvm.ClassFile.FieldType.int) [((0 : Nat), (9 : Nat), (12 : Nat), (25 : Nat))]) ∈ ALL := in_ALL 790 rfl rfl
set_option maxRecDepth 100000 in
theorem w_764 : (Jvm.Cond.methodLink "ReplenLaw" (106 : Nat) ({ cls := "Replen", name := "centreByJournal", desc := "(I)I" } : Jvm.MethodName)) ∈ ALL := in_ALL 791 rfl rfl
set_option maxRecDepth 100000 in
theorem w_765 : (Jvm.Cond.instanceMethod ({ cls := "Replen", name := "centreByJournal", desc := "(I)I" } : Jvm.MethodName)) ∈ ALL := in_ALL 792 rfl rfl
set_option maxRecDepth 100000 in
theorem w_766 : (Jvm.Cond.selects "Replen" ({ cls := "Replen", name := "centreByJournal", desc := "(I)I" } : Jvm.MethodName) ({ cls := "Replen", name := "centreByJournal", desc := "(I)I" } : Jvm.MethodName)) ∈ ALL := in_ALL 793 rfl rfl
set_option maxRecDepth 100000 in
theorem w_767 : (Jvm.Cond.code ({ cls := "Replen", name := "centreByJournal", desc := "(I)I" } : Jvm.MethodName) prog_1_method_30_code (2 : Nat) (Option.some Jvm.ClassFile.FieldType.int)) ∈ ALL := in_ALL 794 rfl rfl
set_option maxRecDepth 100000 in
theorem w_768 : (Jvm.Cond.methodLink "Replen" (253 : Nat) ({ cls := "Replen$Item", name := "journalStock", desc := "(I)I" } : Jvm.MethodName)) ∈ ALL := in_ALL 795 rfl rfl
set_option maxRecDepth 100000 in
theorem w_769 : (Jvm.Cond.instanceMethod ({ cls := "Replen$Item", name := "journalStock", desc := "(I)I" } : Jvm.MethodName)) ∈ ALL := in_ALL 796 rfl rfl
set_option maxRecDepth 100000 in
theorem w_770 : (Jvm.Cond.selects "Replen$Item" ({ cls := "Replen$Item", name := "journalStock", desc := "(I)I" } : Jvm.MethodName) ({ cls := "Replen$Item", name := "journalStock", desc := "(I)I" } : Jvm.MethodName)) ∈ ALL := in_ALL 797 rfl rfl
set_option maxRecDepth 100000 in
theorem w_771 : (Jvm.Cond.code ({ cls := "Replen$Item", name := "journalStock", desc := "(I)I" } : Jvm.MethodName) prog_3_method_7_code (2 : Nat) (Option.some Jvm.ClassFile.FieldType.int)) ∈ ALL := in_ALL 798 rfl rfl
set_option maxRecDepth 100000 in
theorem w_772 : (Jvm.Cond.methodLink "Replen$Item" (40 : Nat) ({ cls := "Replen$DayBook", name := "sumUpTo", desc := "(I)I" } : Jvm.MethodName)) ∈ ALL := in_ALL 799 rfl rfl
set_option maxRecDepth 100000 in
theorem w_773 : (Jvm.Cond.methodLink "ReplenLaw" (221 : Nat) ({ cls := "ReplenLaw", name := "sold", desc := "(LReplen;II[J)I" } : Jvm.MethodName)) ∈ ALL := in_ALL 800 rfl rfl
set_option maxRecDepth 100000 in
theorem w_774 : (Jvm.Cond.static ({ cls := "ReplenLaw", name := "sold", desc := "(LReplen;II[J)I" } : Jvm.MethodName)) ∈ ALL := in_ALL 801 rfl rfl
set_option maxRecDepth 100000 in
theorem w_775 : (Jvm.Cond.codeWith ({ cls := "ReplenLaw", name := "sold", desc := "(LReplen;II[J)I" } : Jvm.MethodName) method_31_code (5 : Nat) (Option.some Jvm.ClassFile.FieldType.int) [((0 : Nat), (10 : Nat), (13 : Nat), (25 : Nat)), ((0 : Nat), (10 : Nat), (17 : Nat), (50 : Nat))]) ∈ ALL := in_ALL 802 rfl rfl
set_option maxRecDepth 100000 in
theorem w_776 : (Jvm.Cond.methodLink "ReplenLaw" (109 : Nat) ({ cls := "Replen", name := "sold", desc := "(II)I" } : Jvm.MethodName)) ∈ ALL := in_ALL 803 rfl rfl
set_option maxRecDepth 100000 in
theorem w_777 : (Jvm.Cond.instanceMethod ({ cls := "Replen", name := "sold", desc := "(II)I" } : Jvm.MethodName)) ∈ ALL := in_ALL 804 rfl rfl
set_option maxRecDepth 100000 in
theorem w_778 : (Jvm.Cond.selects "Replen" ({ cls := "Replen", name := "sold", desc := "(II)I" } : Jvm.MethodName) ({ cls := "Replen", name := "sold", desc := "(II)I" } : Jvm.MethodName)) ∈ ALL := in_ALL 805 rfl rfl
set_option maxRecDepth 100000 in
theorem w_779 : (Jvm.Cond.code ({ cls := "Replen", name := "sold", desc := "(II)I" } : Jvm.MethodName) prog_1_method_31_code (3 : Nat) (Option.some Jvm.ClassFile.FieldType.int)) ∈ ALL := in_ALL 806 rfl rfl
set_option maxRecDepth 100000 in
theorem w_780 : (Jvm.Cond.methodLink "ReplenLaw" (224 : Nat) ({ cls := "ReplenLaw", name := "lost", desc := "(LReplen;II[J)I" } : Jvm.MethodName)) ∈ ALL := in_ALL 807 rfl rfl
set_option maxRecDepth 100000 in
theorem w_781 : (Jvm.Cond.static ({ cls := "ReplenLaw", name := "lost", desc := "(LReplen;II[J)I" } : Jvm.MethodName)) ∈ ALL := in_ALL 808 rfl rfl
set_option maxRecDepth 100000 in
theorem w_782 : (Jvm.Cond.codeWith ({ cls := "ReplenLaw", name := "lost", desc := "(LReplen;II[J)I" } : Jvm.MethodName) method_32_code (5 : Nat) (Option.some Jvm.ClassFile.FieldType.int) [((0 : Nat), (10 : Nat), (13 : Nat), (25 : Nat)), ((0 : Nat), (10 : Nat), (17 : Nat), (50 : Nat))]) ∈ ALL := in_ALL 809 rfl rfl
set_option maxRecDepth 100000 in
theorem w_783 : (Jvm.Cond.methodLink "ReplenLaw" (112 : Nat) ({ cls := "Replen", name := "lost", desc := "(II)I" } : Jvm.MethodName)) ∈ ALL := in_ALL 810 rfl rfl
set_option maxRecDepth 100000 in
theorem w_784 : (Jvm.Cond.instanceMethod ({ cls := "Replen", name := "lost", desc := "(II)I" } : Jvm.MethodName)) ∈ ALL := in_ALL 811 rfl rfl
set_option maxRecDepth 100000 in
theorem w_785 : (Jvm.Cond.selects "Replen" ({ cls := "Replen", name := "lost", desc := "(II)I" } : Jvm.MethodName) ({ cls := "Replen", name := "lost", desc := "(II)I" } : Jvm.MethodName)) ∈ ALL := in_ALL 812 rfl rfl
set_option maxRecDepth 100000 in
theorem w_786 : (Jvm.Cond.code ({ cls := "Replen", name := "lost", desc := "(II)I" } : Jvm.MethodName) prog_1_method_32_code (3 : Nat) (Option.some Jvm.ClassFile.FieldType.int)) ∈ ALL := in_ALL 813 rfl rfl
set_option maxRecDepth 100000 in
theorem w_787 : (Jvm.Cond.methodLink "ReplenLaw" (232 : Nat) ({ cls := "ReplenLaw", name := "service", desc := "(LReplen;I[D)I" } : Jvm.MethodName)) ∈ ALL := in_ALL 814 rfl rfl
set_option maxRecDepth 100000 in
theorem w_788 : (Jvm.Cond.static ({ cls := "ReplenLaw", name := "service", desc := "(LReplen;I[D)I" } : Jvm.MethodName)) ∈ ALL := in_ALL 815 rfl rfl
set_option maxRecDepth 100000 in
theorem w_789 : (Jvm.Cond.codeWith ({ cls := "ReplenLaw", name := "service", desc := "(LReplen;I[D)I" } : Jvm.MethodName) method_33_code (4 : Nat) (Option.some Jvm.ClassFile.FieldType.int) [((0 : Nat), (9 : Nat), (12 : Nat), (25 : Nat)), ((0 : Nat), (9 : Nat), (15 : Nat), (50 : Nat))]) ∈ ALL := in_ALL 816 rfl rfl
set_option maxRecDepth 100000 in
theorem w_790 : (Jvm.Cond.methodLink "ReplenLaw" (115 : Nat) ({ cls := "Replen", name := "service", desc := "(I)F" } : Jvm.MethodName)) ∈ ALL := in_ALL 817 rfl rfl
set_option maxRecDepth 100000 in
theorem w_791 : (Jvm.Cond.instanceMethod ({ cls := "Replen", name := "service", desc := "(I)F" } : Jvm.MethodName)) ∈ ALL := in_ALL 818 rfl rfl
set_option maxRecDepth 100000 in
theorem w_792 : (Jvm.Cond.selects "Replen" ({ cls := "Replen", name := "service", desc := "(I)F" } : Jvm.MethodName) ({ cls := "Replen", name := "service", desc := "(I)F" } : Jvm.MethodName)) ∈ ALL := in_ALL 819 rfl rfl
set_option maxRecDepth 100000 in
theorem w_793 : (Jvm.Cond.code ({ cls := "Replen", name := "service", desc := "(I)F" } : Jvm.MethodName) prog_1_method_34_code (6 : Nat) (Option.some Jvm.ClassFile.FieldType.float)) ∈ ALL := in_ALL 820 rfl rfl
set_option maxRecDepth 100000 in
theorem w_795 : (Jvm.Cond.classLink "ReplenLaw" (120 : Nat) "ReplenModel") ∈ ALL := in_ALL 822 rfl rfl
set_option maxRecDepth 100000 in
theorem w_796 : (Jvm.Cond.instantiable "ReplenModel" (23 : Nat)) ∈ ALL := in_ALL 823 rfl rfl
set_option maxRecDepth 100000 in
theorem w_797 : (Jvm.Cond.methodLink "ReplenLaw" (122 : Nat) ({ cls := "ReplenModel", name := "<init>", desc := "()V" } : Jvm.MethodName)) ∈ ALL := in_ALL 824 rfl rfl
set_option maxRecDepth 100000 in
theorem w_798 : (Jvm.Cond.instanceMethod ({ cls := "ReplenModel", name := "<init>", desc := "()V" } : Jvm.MethodName)) ∈ ALL := in_ALL 825 rfl rfl
set_option maxRecDepth 100000 in
theorem w_799 : (Jvm.Cond.code ({ cls := "ReplenModel", name := "<init>", desc := "()V" } : Jvm.MethodName) prog_8_method_1_code (1 : Nat) (Option.none : Option Jvm.ClassFile.FieldType)) ∈ ALL := in_ALL 826 rfl rfl
set_option maxRecDepth 100000 in
theorem w_800 : (Jvm.Cond.methodLink "ReplenModel" (1 : Nat) ({ cls := "java/lang/Object", name := "<init>", desc := "()V" } : Jvm.MethodName)) ∈ ALL := in_ALL 827 rfl rfl
set_option maxRecDepth 100000 in
theorem w_801 : (Jvm.Cond.fieldLink "ReplenModel" (66 : Nat) "ReplenModel" "thrown" "I") ∈ ALL := in_ALL 828 rfl rfl
set_option maxRecDepth 100000 in
theorem w_802 : (Jvm.Cond.fieldLink "ReplenModel" (69 : Nat) "ReplenModel" "shops" "I") ∈ ALL := in_ALL 829 rfl rfl
set_option maxRecDepth 100000 in
theorem w_803 : (Jvm.Cond.fieldLink "ReplenModel" (76 : Nat) "ReplenModel" "items" "I") ∈ ALL := in_ALL 830 rfl rfl
set_option maxRecDepth 100000 in
theorem w_804 : (Jvm.Cond.fieldLink "ReplenModel" (94 : Nat) "ReplenModel" "today" "I") ∈ ALL := in_ALL 831 rfl rfl
set_option maxRecDepth 100000 in
theorem w_805 : (Jvm.Cond.fieldLink "ReplenModel" (91 : Nat) "ReplenModel" "lines" "I") ∈ ALL := in_ALL 832 rfl rfl
set_option maxRecDepth 100000 in
theorem w_806 : (Jvm.Cond.fieldLink "ReplenModel" (7 : Nat) "ReplenModel" "service" "I") ∈ ALL := in_ALL 833 rfl rfl
set_option maxRecDepth 100000 in
theorem w_807 : (Jvm.Cond.fieldLink "ReplenModel" (13 : Nat) "ReplenModel" "levelRate" "I") ∈ ALL := in_ALL 834 rfl rfl
set_option maxRecDepth 100000 in
theorem w_808 : (Jvm.Cond.fieldLink "ReplenModel" (16 : Nat) "ReplenModel" "seasonRate" "I") ∈ ALL := in_ALL 835 rfl rfl
set_option maxRecDepth 100000 in
theorem w_809 : (Jvm.Cond.fieldLink "ReplenModel" (19 : Nat) "ReplenModel" "lead" "[I") ∈ ALL := in_ALL 836 rfl rfl
set_option maxRecDepth 100000 in
theorem w_810 : (Jvm.Cond.fieldLink "ReplenModel" (23 : Nat) "ReplenModel" "pack" "[I") ∈ ALL := in_ALL 837 rfl rfl
set_option maxRecDepth 100000 in
theorem w_811 : (Jvm.Cond.fieldLink "ReplenModel" (26 : Nat) "ReplenModel" "centre" "[I") ∈ ALL := in_ALL 838 rfl rfl
set_option maxRecDepth 100000 in
theorem w_812 : (Jvm.Cond.fieldLink "ReplenModel" (29 : Nat) "ReplenModel" "isCarried" "[Z") ∈ ALL := in_ALL 839 rfl rfl
set_option maxRecDepth 100000 in
theorem w_813 : (Jvm.Cond.fieldLink "ReplenModel" (33 : Nat) "ReplenModel" "isMarked" "[Z") ∈ ALL := in_ALL 840 rfl rfl
set_option maxRecDepth 100000 in
theorem w_814 : (Jvm.Cond.fieldLink "ReplenModel" (36 : Nat) "ReplenModel" "stock" "[I") ∈ ALL := in_ALL 841 rfl rfl
set_option maxRecDepth 100000 in
theorem w_815 : (Jvm.Cond.fieldLink "ReplenModel" (39 : Nat) "ReplenModel" "level" "[I") ∈ ALL := in_ALL 842 rfl rfl
set_option maxRecDepth 100000 in
theorem w_816 : (Jvm.Cond.fieldLink "ReplenModel" (42 : Nat) "ReplenModel" "season" "[I") ∈ ALL := in_ALL 843 rfl rfl
set_option maxRecDepth 100000 in
theorem w_817 : (Jvm.Cond.fieldLink "ReplenModel" (45 : Nat) "ReplenModel" "errors" "[I") ∈ ALL := in_ALL 844 rfl rfl
set_option maxRecDepth 100000 in
theorem w_818 : (Jvm.Cond.fieldLink "ReplenModel" (48 : Nat) "ReplenModel" "asked" "[I") ∈ ALL := in_ALL 845 rfl rfl
set_option maxRecDepth 100000 in
theorem w_819 : (Jvm.Cond.fieldLink "ReplenModel" (51 : Nat) "ReplenModel" "sold" "[I") ∈ ALL := in_ALL 846 rfl rfl
set_option maxRecDepth 100000 in
theorem w_820 : (Jvm.Cond.fieldLink "ReplenModel" (54 : Nat) "ReplenModel" "lost" "[I") ∈ ALL := in_ALL 847 rfl rfl
set_option maxRecDepth 100000 in
theorem w_821 : (Jvm.Cond.fieldLink "ReplenModel" (57 : Nat) "ReplenModel" "due" "[I") ∈ ALL := in_ALL 848 rfl rfl
set_option maxRecDepth 100000 in
theorem w_822 : (Jvm.Cond.fieldLink "ReplenModel" (60 : Nat) "ReplenModel" "given" "[I") ∈ ALL := in_ALL 849 rfl rfl
set_option maxRecDepth 100000 in
theorem w_823 : (Jvm.Cond.fieldLink "ReplenModel" (63 : Nat) "ReplenModel" "wished" "[I") ∈ ALL := in_ALL 850 rfl rfl
set_option maxRecDepth 100000 in
theorem w_824 : (Jvm.Cond.lays "ReplenModel" "ReplenModel" "thrown" "I") ∈ ALL := in_ALL 851 rfl rfl
set_option maxRecDepth 100000 in
theorem w_826 : (Jvm.Cond.lays "ReplenModel" "ReplenModel" "shops" "I") ∈ ALL := in_ALL 853 rfl rfl
set_option maxRecDepth 100000 in
theorem w_828 : (Jvm.Cond.lays "ReplenModel" "ReplenModel" "items" "I") ∈ ALL := in_ALL 855 rfl rfl
set_option maxRecDepth 100000 in
theorem w_830 : (Jvm.Cond.lays "ReplenModel" "ReplenModel" "today" "I") ∈ ALL := in_ALL 857 rfl rfl
set_option maxRecDepth 100000 in
theorem w_832 : (Jvm.Cond.lays "ReplenModel" "ReplenModel" "lines" "I") ∈ ALL := in_ALL 859 rfl rfl
set_option maxRecDepth 100000 in
theorem w_834 : (Jvm.Cond.lays "ReplenModel" "ReplenModel" "service" "I") ∈ ALL := in_ALL 861 rfl rfl
set_option maxRecDepth 100000 in
theorem w_836 : (Jvm.Cond.lays "ReplenModel" "ReplenModel" "levelRate" "I") ∈ ALL := in_ALL 863 rfl rfl
set_option maxRecDepth 100000 in
theorem w_838 : (Jvm.Cond.lays "ReplenModel" "ReplenModel" "seasonRate" "I") ∈ ALL := in_ALL 865 rfl rfl
set_option maxRecDepth 100000 in
theorem w_840 : (Jvm.Cond.laysFinal "ReplenModel" "ReplenModel" "lead" "[I") ∈ ALL := in_ALL 867 rfl rfl
set_option maxRecDepth 100000 in
theorem w_842 : (Jvm.Cond.laysFinal "ReplenModel" "ReplenModel" "pack" "[I") ∈ ALL := in_ALL 869 rfl rfl
set_option maxRecDepth 100000 in
theorem w_844 : (Jvm.Cond.laysFinal "ReplenModel" "ReplenModel" "centre" "[I") ∈ ALL := in_ALL 871 rfl rfl
set_option maxRecDepth 100000 in
theorem w_846 : (Jvm.Cond.laysFinal "ReplenModel" "ReplenModel" "isCarried" "[Z") ∈ ALL := in_ALL 873 rfl rfl
set_option maxRecDepth 100000 in
theorem w_848 : (Jvm.Cond.laysFinal "ReplenModel" "ReplenModel" "isMarked" "[Z") ∈ ALL := in_ALL 875 rfl rfl
set_option maxRecDepth 100000 in
theorem w_850 : (Jvm.Cond.laysFinal "ReplenModel" "ReplenModel" "stock" "[I") ∈ ALL := in_ALL 877 rfl rfl
set_option maxRecDepth 100000 in
theorem w_852 : (Jvm.Cond.laysFinal "ReplenModel" "ReplenModel" "level" "[I") ∈ ALL := in_ALL 879 rfl rfl
set_option maxRecDepth 100000 in
theorem w_854 : (Jvm.Cond.laysFinal "ReplenModel" "ReplenModel" "season" "[I") ∈ ALL := in_ALL 881 rfl rfl
set_option maxRecDepth 100000 in
theorem w_856 : (Jvm.Cond.laysFinal "ReplenModel" "ReplenModel" "errors" "[I") ∈ ALL := in_ALL 883 rfl rfl
set_option maxRecDepth 100000 in
theorem w_858 : (Jvm.Cond.laysFinal "ReplenModel" "ReplenModel" "asked" "[I") ∈ ALL := in_ALL 885 rfl rfl
set_option maxRecDepth 100000 in
theorem w_860 : (Jvm.Cond.laysFinal "ReplenModel" "ReplenModel" "sold" "[I") ∈ ALL := in_ALL 887 rfl rfl
set_option maxRecDepth 100000 in
theorem w_862 : (Jvm.Cond.laysFinal "ReplenModel" "ReplenModel" "lost" "[I") ∈ ALL := in_ALL 889 rfl rfl
set_option maxRecDepth 100000 in
theorem w_864 : (Jvm.Cond.laysFinal "ReplenModel" "ReplenModel" "due" "[I") ∈ ALL := in_ALL 891 rfl rfl
set_option maxRecDepth 100000 in
theorem w_866 : (Jvm.Cond.laysFinal "ReplenModel" "ReplenModel" "given" "[I") ∈ ALL := in_ALL 893 rfl rfl
set_option maxRecDepth 100000 in
theorem w_868 : (Jvm.Cond.laysFinal "ReplenModel" "ReplenModel" "wished" "[I") ∈ ALL := in_ALL 895 rfl rfl
set_option maxRecDepth 100000 in
theorem w_871 : (Jvm.Cond.arrayClass Jvm.ClassFile.FieldType.boolean) ∈ ALL := in_ALL 898 rfl rfl
set_option maxRecDepth 100000 in
theorem w_872 : (Jvm.Cond.methodLink "ReplenLaw" (129 : Nat) ({ cls := "ReplenModel", name := "thrown", desc := "()I" } : Jvm.MethodName)) ∈ ALL := in_ALL 899 rfl rfl
set_option maxRecDepth 100000 in
theorem w_873 : (Jvm.Cond.instanceMethod ({ cls := "ReplenModel", name := "thrown", desc := "()I" } : Jvm.MethodName)) ∈ ALL := in_ALL 900 rfl rfl
set_option maxRecDepth 100000 in
theorem w_874 : (Jvm.Cond.selects "ReplenModel" ({ cls := "ReplenModel", name := "thrown", desc := "()I" } : Jvm.MethodName) ({ cls := "ReplenModel", name := "thrown", desc := "()I" } : Jvm.MethodName)) ∈ ALL := in_ALL 901 rfl rfl
set_option maxRecDepth 100000 in
theorem w_875 : (Jvm.Cond.code ({ cls := "ReplenModel", name := "thrown", desc := "()I" } : Jvm.MethodName) prog_8_method_2_code (1 : Nat) (Option.some Jvm.ClassFile.FieldType.int)) ∈ ALL := in_ALL 902 rfl rfl
set_option maxRecDepth 100000 in
theorem w_876 : (Jvm.Cond.methodLink "ReplenLaw" (128 : Nat) ({ cls := "ReplenModel", name := "addShop", desc := "(I)I" } : Jvm.MethodName)) ∈ ALL := in_ALL 903 rfl rfl
set_option maxRecDepth 100000 in
theorem w_877 : (Jvm.Cond.instanceMethod ({ cls := "ReplenModel", name := "addShop", desc := "(I)I" } : Jvm.MethodName)) ∈ ALL := in_ALL 904 rfl rfl
set_option maxRecDepth 100000 in
theorem w_878 : (Jvm.Cond.selects "ReplenModel" ({ cls := "ReplenModel", name := "addShop", desc := "(I)I" } : Jvm.MethodName) ({ cls := "ReplenModel", name := "addShop", desc := "(I)I" } : Jvm.MethodName)) ∈ ALL := in_ALL 905 rfl rfl
set_option maxRecDepth 100000 in
theorem w_879 : (Jvm.Cond.code ({ cls := "ReplenModel", name := "addShop", desc := "(I)I" } : Jvm.MethodName) prog_8_method_9_code (2 : Nat) (Option.some Jvm.ClassFile.FieldType.int)) ∈ ALL := in_ALL 906 rfl rfl
set_option maxRecDepth 100000 in
theorem w_880 : (Jvm.Cond.methodLink "ReplenModel" (72 : Nat) ({ cls := "ReplenModel", name := "in", desc := "(III)Z" } : Jvm.MethodName)) ∈ ALL := in_ALL 907 rfl rfl
set_option maxRecDepth 100000 in
theorem w_881 : (Jvm.Cond.static ({ cls := "ReplenModel", name := "in", desc := "(III)Z" } : Jvm.MethodName)) ∈ ALL := in_ALL 908 rfl rfl
set_option maxRecDepth 100000 in
theorem w_882 : (Jvm.Cond.code ({ cls := "ReplenModel", name := "in", desc := "(III)Z" } : Jvm.MethodName) prog_8_method_4_code (3 : Nat) (Option.some Jvm.ClassFile.FieldType.boolean)) ∈ ALL := in_ALL 909 rfl rfl
set_option maxRecDepth 100000 in
theorem w_883 : (Jvm.Cond.methodLink "ReplenModel" (86 : Nat) ({ cls := "ReplenModel", name := "fails", desc := "(I)I" } : Jvm.MethodName)) ∈ ALL := in_ALL 910 rfl rfl
set_option maxRecDepth 100000 in
theorem w_885 : (Jvm.Cond.instanceMethod ({ cls := "ReplenModel", name := "fails", desc := "(I)I" } : Jvm.MethodName)) ∈ ALL := in_ALL 912 rfl rfl
set_option maxRecDepth 100000 in
theorem w_886 : (Jvm.Cond.code ({ cls := "ReplenModel", name := "fails", desc := "(I)I" } : Jvm.MethodName) prog_8_method_3_code (2 : Nat) (Option.some Jvm.ClassFile.FieldType.int)) ∈ ALL := in_ALL 913 rfl rfl
set_option maxRecDepth 100000 in
theorem w_887 : (Jvm.Cond.methodLink "ReplenLaw" (135 : Nat) ({ cls := "ReplenModel", name := "addItem", desc := "(II)I" } : Jvm.MethodName)) ∈ ALL := in_ALL 914 rfl rfl
set_option maxRecDepth 100000 in
theorem w_888 : (Jvm.Cond.instanceMethod ({ cls := "ReplenModel", name := "addItem", desc := "(II)I" } : Jvm.MethodName)) ∈ ALL := in_ALL 915 rfl rfl
set_option maxRecDepth 100000 in
theorem w_889 : (Jvm.Cond.selects "ReplenModel" ({ cls := "ReplenModel", name := "addItem", desc := "(II)I" } : Jvm.MethodName) ({ cls := "ReplenModel", name := "addItem", desc := "(II)I" } : Jvm.MethodName)) ∈ ALL := in_ALL 916 rfl rfl
set_option maxRecDepth 100000 in
theorem w_890 : (Jvm.Cond.code ({ cls := "ReplenModel", name := "addItem", desc := "(II)I" } : Jvm.MethodName) prog_8_method_10_code (3 : Nat) (Option.some Jvm.ClassFile.FieldType.int)) ∈ ALL := in_ALL 917 rfl rfl
set_option maxRecDepth 100000 in
theorem w_891 : (Jvm.Cond.methodLink "ReplenLaw" (139 : Nat) ({ cls := "ReplenModel", name := "carry", desc := "(IIII)I" } : Jvm.MethodName)) ∈ ALL := in_ALL 918 rfl rfl
set_option maxRecDepth 100000 in
theorem w_892 : (Jvm.Cond.instanceMethod ({ cls := "ReplenModel", name := "carry", desc := "(IIII)I" } : Jvm.MethodName)) ∈ ALL := in_ALL 919 rfl rfl
set_option maxRecDepth 100000 in
theorem w_893 : (Jvm.Cond.selects "ReplenModel" ({ cls := "ReplenModel", name := "carry", desc := "(IIII)I" } : Jvm.MethodName) ({ cls := "ReplenModel", name := "carry", desc := "(IIII)I" } : Jvm.MethodName)) ∈ ALL := in_ALL 920 rfl rfl
set_option maxRecDepth 100000 in
theorem w_894 : (Jvm.Cond.code ({ cls := "ReplenModel", name := "carry", desc := "(IIII)I" } : Jvm.MethodName) prog_8_method_11_code (7 : Nat) (Option.some Jvm.ClassFile.FieldType.int)) ∈ ALL := in_ALL 921 rfl rfl
set_option maxRecDepth 100000 in
theorem w_895 : (Jvm.Cond.methodLink "ReplenModel" (79 : Nat) ({ cls := "ReplenModel", name := "isShop", desc := "(I)Z" } : Jvm.MethodName)) ∈ ALL := in_ALL 922 rfl rfl
set_option maxRecDepth 100000 in
theorem w_897 : (Jvm.Cond.instanceMethod ({ cls := "ReplenModel", name := "isShop", desc := "(I)Z" } : Jvm.MethodName)) ∈ ALL := in_ALL 924 rfl rfl
set_option maxRecDepth 100000 in
theorem w_898 : (Jvm.Cond.code ({ cls := "ReplenModel", name := "isShop", desc := "(I)Z" } : Jvm.MethodName) prog_8_method_5_code (2 : Nat) (Option.some Jvm.ClassFile.FieldType.boolean)) ∈ ALL := in_ALL 925 rfl rfl
set_option maxRecDepth 100000 in
theorem w_899 : (Jvm.Cond.methodLink "ReplenModel" (83 : Nat) ({ cls := "ReplenModel", name := "isItem", desc := "(I)Z" } : Jvm.MethodName)) ∈ ALL := in_ALL 926 rfl rfl
set_option maxRecDepth 100000 in
theorem w_901 : (Jvm.Cond.instanceMethod ({ cls := "ReplenModel", name := "isItem", desc := "(I)Z" } : Jvm.MethodName)) ∈ ALL := in_ALL 928 rfl rfl
set_option maxRecDepth 100000 in
theorem w_902 : (Jvm.Cond.code ({ cls := "ReplenModel", name := "isItem", desc := "(I)Z" } : Jvm.MethodName) prog_8_method_6_code (2 : Nat) (Option.some Jvm.ClassFile.FieldType.boolean)) ∈ ALL := in_ALL 929 rfl rfl
set_option maxRecDepth 100000 in
theorem w_903 : (Jvm.Cond.constant "ReplenModel" (90 : Nat) (99999 : Int32)) ∈ ALL := in_ALL 930 rfl rfl
set_option maxRecDepth 100000 in
theorem w_904 : (Jvm.Cond.methodLink "ReplenLaw" (142 : Nat) ({ cls := "ReplenModel", name := "carries", desc := "(II)Z" } : Jvm.MethodName)) ∈ ALL := in_ALL 931 rfl rfl
set_option maxRecDepth 100000 in
theorem w_905 : (Jvm.Cond.instanceMethod ({ cls := "ReplenModel", name := "carries", desc := "(II)Z" } : Jvm.MethodName)) ∈ ALL := in_ALL 932 rfl rfl
set_option maxRecDepth 100000 in
theorem w_906 : (Jvm.Cond.selects "ReplenModel" ({ cls := "ReplenModel", name := "carries", desc := "(II)Z" } : Jvm.MethodName) ({ cls := "ReplenModel", name := "carries", desc := "(II)Z" } : Jvm.MethodName)) ∈ ALL := in_ALL 933 rfl rfl
set_option maxRecDepth 100000 in
theorem w_907 : (Jvm.Cond.code ({ cls := "ReplenModel", name := "carries", desc := "(II)Z" } : Jvm.MethodName) prog_8_method_12_code (3 : Nat) (Option.some Jvm.ClassFile.FieldType.boolean)) ∈ ALL := in_ALL 934 rfl rfl
set_option maxRecDepth 100000 in
theorem w_908 : (Jvm.Cond.methodLink "ReplenLaw" (145 : Nat) ({ cls := "ReplenModel", name := "supply", desc := "(II)I" } : Jvm.MethodName)) ∈ ALL := in_ALL 935 rfl rfl
set_option maxRecDepth 100000 in
theorem w_909 : (Jvm.Cond.instanceMethod ({ cls := "ReplenModel", name := "supply", desc := "(II)I" } : Jvm.MethodName)) ∈ ALL := in_ALL 936 rfl rfl
set_option maxRecDepth 100000 in
theorem w_910 : (Jvm.Cond.selects "ReplenModel" ({ cls := "ReplenModel", name := "supply", desc := "(II)I" } : Jvm.MethodName) ({ cls := "ReplenModel", name := "supply", desc := "(II)I" } : Jvm.MethodName)) ∈ ALL := in_ALL 937 rfl rfl
set_option maxRecDepth 100000 in
theorem w_911 : (Jvm.Cond.code ({ cls := "ReplenModel", name := "supply", desc := "(II)I" } : Jvm.MethodName) prog_8_method_13_code (3 : Nat) (Option.some Jvm.ClassFile.FieldType.int)) ∈ ALL := in_ALL 938 rfl rfl
set_option maxRecDepth 100000 in
theorem w_912 : (Jvm.Cond.methodLink "ReplenLaw" (148 : Nat) ({ cls := "ReplenModel", name := "setService", desc := "(I)I" } : Jvm.MethodName)) ∈ ALL := in_ALL 939 rfl rfl
set_option maxRecDepth 100000 in
theorem w_913 : (Jvm.Cond.instanceMethod ({ cls := "ReplenModel", name := "setService", desc := "(I)I" } : Jvm.MethodName)) ∈ ALL := in_ALL 940 rfl rfl
set_option maxRecDepth 100000 in
theorem w_914 : (Jvm.Cond.selects "ReplenModel" ({ cls := "ReplenModel", name := "setService", desc := "(I)I" } : Jvm.MethodName) ({ cls := "ReplenModel", name := "setService", desc := "(I)I" } : Jvm.MethodName)) ∈ ALL := in_ALL 941 rfl rfl
set_option maxRecDepth 100000 in
theorem w_915 : (Jvm.Cond.code ({ cls := "ReplenModel", name := "setService", desc := "(I)I" } : Jvm.MethodName) prog_8_method_14_code (3 : Nat) (Option.some Jvm.ClassFile.FieldType.int)) ∈ ALL := in_ALL 942 rfl rfl
set_option maxRecDepth 100000 in
theorem w_916 : (Jvm.Cond.methodLink "ReplenLaw" (151 : Nat) ({ cls := "ReplenModel", name := "setRates", desc := "(II)I" } : Jvm.MethodName)) ∈ ALL := in_ALL 943 rfl rfl
set_option maxRecDepth 100000 in
theorem w_917 : (Jvm.Cond.instanceMethod ({ cls := "ReplenModel", name := "setRates", desc := "(II)I" } : Jvm.MethodName)) ∈ ALL := in_ALL 944 rfl rfl
set_option maxRecDepth 100000 in
theorem w_918 : (Jvm.Cond.selects "ReplenModel" ({ cls := "ReplenModel", name := "setRates", desc := "(II)I" } : Jvm.MethodName) ({ cls := "ReplenModel", name := "setRates", desc := "(II)I" } : Jvm.MethodName)) ∈ ALL := in_ALL 945 rfl rfl
set_option maxRecDepth 100000 in
theorem w_919 : (Jvm.Cond.code ({ cls := "ReplenModel", name := "setRates", desc := "(II)I" } : Jvm.MethodName) prog_8_method_15_code (4 : Nat) (Option.some Jvm.ClassFile.FieldType.int)) ∈ ALL := in_ALL 946 rfl rfl
set_option maxRecDepth 100000 in
theorem w_920 : (Jvm.Cond.methodLink "ReplenLaw" (154 : Nat) ({ cls := "ReplenModel", name := "mark", desc := "(II)Z" } : Jvm.MethodName)) ∈ ALL := in_ALL 947 rfl rfl
set_option maxRecDepth 100000 in
theorem w_921 : (Jvm.Cond.instanceMethod ({ cls := "ReplenModel", name := "mark", desc := "(II)Z" } : Jvm.MethodName)) ∈ ALL := in_ALL 948 rfl rfl
set_option maxRecDepth 100000 in
theorem w_922 : (Jvm.Cond.selects "ReplenModel" ({ cls := "ReplenModel", name := "mark", desc := "(II)Z" } : Jvm.MethodName) ({ cls := "ReplenModel", name := "mark", desc := "(II)Z" } : Jvm.MethodName)) ∈ ALL := in_ALL 949 rfl rfl
set_option maxRecDepth 100000 in
theorem w_923 : (Jvm.Cond.code ({ cls := "ReplenModel", name := "mark", desc := "(II)Z" } : Jvm.MethodName) prog_8_method_16_code (4 : Nat) (Option.some Jvm.ClassFile.FieldType.boolean)) ∈ ALL := in_ALL 950 rfl rfl
set_option maxRecDepth 100000 in
theorem w_924 : (Jvm.Cond.methodLink "ReplenLaw" (157 : Nat) ({ cls := "ReplenModel", name := "isMarked", desc := "(II)Z" } : Jvm.MethodName)) ∈ ALL := in_ALL 951 rfl rfl
set_option maxRecDepth 100000 in
theorem w_925 : (Jvm.Cond.instanceMethod ({ cls := "ReplenModel", name := "isMarked", desc := "(II)Z" } : Jvm.MethodName)) ∈ ALL := in_ALL 952 rfl rfl
set_option maxRecDepth 100000 in
theorem w_926 : (Jvm.Cond.selects "ReplenModel" ({ cls := "ReplenModel", name := "isMarked", desc := "(II)Z" } : Jvm.MethodName) ({ cls := "ReplenModel", name := "isMarked", desc := "(II)Z" } : Jvm.MethodName)) ∈ ALL := in_ALL 953 rfl rfl
set_option maxRecDepth 100000 in
theorem w_927 : (Jvm.Cond.code ({ cls := "ReplenModel", name := "isMarked", desc := "(II)Z" } : Jvm.MethodName) prog_8_method_17_code (3 : Nat) (Option.some Jvm.ClassFile.FieldType.boolean)) ∈ ALL := in_ALL 954 rfl rfl
set_option maxRecDepth 100000 in
theorem w_928 : (Jvm.Cond.methodLink "ReplenLaw" (161 : Nat) ({ cls := "ReplenModel", name := "demand", desc := "(III)I" } : Jvm.MethodName)) ∈ ALL := in_ALL 955 rfl rfl
set_option maxRecDepth 100000 in
theorem w_929 : (Jvm.Cond.instanceMethod ({ cls := "ReplenModel", name := "demand", desc := "(III)I" } : Jvm.MethodName)) ∈ ALL := in_ALL 956 rfl rfl
set_option maxRecDepth 100000 in
theorem w_930 : (Jvm.Cond.selects "ReplenModel" ({ cls := "ReplenModel", name := "demand", desc := "(III)I" } : Jvm.MethodName) ({ cls := "ReplenModel", name := "demand", desc := "(III)I" } : Jvm.MethodName)) ∈ ALL := in_ALL 957 rfl rfl
set_option maxRecDepth 100000 in
theorem w_931 : (Jvm.Cond.code ({ cls := "ReplenModel", name := "demand", desc := "(III)I" } : Jvm.MethodName) prog_8_method_18_code (6 : Nat) (Option.some Jvm.ClassFile.FieldType.int)) ∈ ALL := in_ALL 958 rfl rfl
set_option maxRecDepth 100000 in
theorem w_932 : (Jvm.Cond.methodLink "ReplenModel" (97 : Nat) ({ cls := "ReplenModel", name := "isLine", desc := "(II)Z" } : Jvm.MethodName)) ∈ ALL := in_ALL 959 rfl rfl
set_option maxRecDepth 100000 in
theorem w_934 : (Jvm.Cond.instanceMethod ({ cls := "ReplenModel", name := "isLine", desc := "(II)Z" } : Jvm.MethodName)) ∈ ALL := in_ALL 961 rfl rfl
set_option maxRecDepth 100000 in
theorem w_935 : (Jvm.Cond.code ({ cls := "ReplenModel", name := "isLine", desc := "(II)Z" } : Jvm.MethodName) prog_8_method_7_code (3 : Nat) (Option.some Jvm.ClassFile.FieldType.boolean)) ∈ ALL := in_ALL 962 rfl rfl
set_option maxRecDepth 100000 in
theorem w_936 : (Jvm.Cond.methodLink "ReplenLaw" (165 : Nat) ({ cls := "ReplenModel", name := "night", desc := "()I" } : Jvm.MethodName)) ∈ ALL := in_ALL 963 rfl rfl
set_option maxRecDepth 100000 in
theorem w_937 : (Jvm.Cond.instanceMethod ({ cls := "ReplenModel", name := "night", desc := "()I" } : Jvm.MethodName)) ∈ ALL := in_ALL 964 rfl rfl
set_option maxRecDepth 100000 in
theorem w_938 : (Jvm.Cond.selects "ReplenModel" ({ cls := "ReplenModel", name := "night", desc := "()I" } : Jvm.MethodName) ({ cls := "ReplenModel", name := "night", desc := "()I" } : Jvm.MethodName)) ∈ ALL := in_ALL 965 rfl rfl
set_option maxRecDepth 100000 in
theorem w_939 : (Jvm.Cond.code ({ cls := "ReplenModel", name := "night", desc := "()I" } : Jvm.MethodName) prog_8_method_22_code (4 : Nat) (Option.some Jvm.ClassFile.FieldType.int)) ∈ ALL := in_ALL 966 rfl rfl
set_option maxRecDepth 100000 in
theorem w_940 : (Jvm.Cond.methodLink "ReplenModel" (118 : Nat) ({ cls := "ReplenModel", name := "learns", desc := "(I)V" } : Jvm.MethodName)) ∈ ALL := in_ALL 967 rfl rfl
set_option maxRecDepth 100000 in
theorem w_942 : (Jvm.Cond.instanceMethod ({ cls := "ReplenModel", name := "learns", desc := "(I)V" } : Jvm.MethodName)) ∈ ALL := in_ALL 969 rfl rfl
set_option maxRecDepth 100000 in
theorem w_943 : (Jvm.Cond.code ({ cls := "ReplenModel", name := "learns", desc := "(I)V" } : Jvm.MethodName) prog_8_method_20_code (6 : Nat) (Option.none : Option Jvm.ClassFile.FieldType)) ∈ ALL := in_ALL 970 rfl rfl
set_option maxRecDepth 100000 in
theorem w_944 : (Jvm.Cond.methodLink "ReplenModel" (103 : Nat) ({ cls := "ReplenModel", name := "told", desc := "(II)I" } : Jvm.MethodName)) ∈ ALL := in_ALL 971 rfl rfl
set_option maxRecDepth 100000 in
theorem w_946 : (Jvm.Cond.instanceMethod ({ cls := "ReplenModel", name := "told", desc := "(II)I" } : Jvm.MethodName)) ∈ ALL := in_ALL 973 rfl rfl
set_option maxRecDepth 100000 in
theorem w_947 : (Jvm.Cond.code ({ cls := "ReplenModel", name := "told", desc := "(II)I" } : Jvm.MethodName) prog_8_method_19_code (3 : Nat) (Option.some Jvm.ClassFile.FieldType.int)) ∈ ALL := in_ALL 974 rfl rfl
set_option maxRecDepth 100000 in
theorem w_948 : (Jvm.Cond.constantLong "ReplenModel" (101 : Nat) (1000 : Int64)) ∈ ALL := in_ALL 975 rfl rfl
set_option maxRecDepth 100000 in
theorem w_949 : (Jvm.Cond.constantLong "ReplenModel" (107 : Nat) (1000000 : Int64)) ∈ ALL := in_ALL 976 rfl rfl
set_option maxRecDepth 100000 in
theorem w_950 : (Jvm.Cond.constantLong "ReplenModel" (109 : Nat) (100 : Int64)) ∈ ALL := in_ALL 977 rfl rfl
set_option maxRecDepth 100000 in
theorem w_951 : (Jvm.Cond.methodLink "ReplenModel" (111 : Nat) ({ cls := "ReplenModel", name := "down", desc := "(JJ)J" } : Jvm.MethodName)) ∈ ALL := in_ALL 978 rfl rfl
set_option maxRecDepth 100000 in
theorem w_952 : (Jvm.Cond.static ({ cls := "ReplenModel", name := "down", desc := "(JJ)J" } : Jvm.MethodName)) ∈ ALL := in_ALL 979 rfl rfl
set_option maxRecDepth 100000 in
theorem w_953 : (Jvm.Cond.code ({ cls := "ReplenModel", name := "down", desc := "(JJ)J" } : Jvm.MethodName) prog_8_method_8_code (4 : Nat) (Option.some Jvm.ClassFile.FieldType.long)) ∈ ALL := in_ALL 980 rfl rfl
set_option maxRecDepth 100000 in
theorem w_954 : (Jvm.Cond.methodLink "ReplenModel" (122 : Nat) ({ cls := "ReplenModel", name := "gives", desc := "(I)V" } : Jvm.MethodName)) ∈ ALL := in_ALL 981 rfl rfl
set_option maxRecDepth 100000 in
theorem w_956 : (Jvm.Cond.instanceMethod ({ cls := "ReplenModel", name := "gives", desc := "(I)V" } : Jvm.MethodName)) ∈ ALL := in_ALL 983 rfl rfl
set_option maxRecDepth 100000 in
theorem w_957 : (Jvm.Cond.code ({ cls := "ReplenModel", name := "gives", desc := "(I)V" } : Jvm.MethodName) prog_8_method_21_code (5 : Nat) (Option.none : Option Jvm.ClassFile.FieldType)) ∈ ALL := in_ALL 984 rfl rfl
set_option maxRecDepth 100000 in
theorem w_958 : (Jvm.Cond.methodLink "ReplenModel" (115 : Nat) ({ cls := "ReplenModel", name := "requestOf", desc := "(I)I" } : Jvm.MethodName)) ∈ ALL := in_ALL 985 rfl rfl
set_option maxRecDepth 100000 in
theorem w_960 : (Jvm.Cond.instanceMethod ({ cls := "ReplenModel", name := "requestOf", desc := "(I)I" } : Jvm.MethodName)) ∈ ALL := in_ALL 987 rfl rfl
set_option maxRecDepth 100000 in
theorem w_961 : (Jvm.Cond.code ({ cls := "ReplenModel", name := "requestOf", desc := "(I)I" } : Jvm.MethodName) prog_8_method_38_code (4 : Nat) (Option.some Jvm.ClassFile.FieldType.int)) ∈ ALL := in_ALL 988 rfl rfl
set_option maxRecDepth 100000 in
theorem w_962 : (Jvm.Cond.methodLink "ReplenModel" (135 : Nat) ({ cls := "ReplenModel", name := "needOf", desc := "(I)I" } : Jvm.MethodName)) ∈ ALL := in_ALL 989 rfl rfl
set_option maxRecDepth 100000 in
theorem w_964 : (Jvm.Cond.instanceMethod ({ cls := "ReplenModel", name := "needOf", desc := "(I)I" } : Jvm.MethodName)) ∈ ALL := in_ALL 991 rfl rfl
set_option maxRecDepth 100000 in
theorem w_965 : (Jvm.Cond.code ({ cls := "ReplenModel", name := "needOf", desc := "(I)I" } : Jvm.MethodName) prog_8_method_37_code (4 : Nat) (Option.some Jvm.ClassFile.FieldType.int)) ∈ ALL := in_ALL 992 rfl rfl
set_option maxRecDepth 100000 in
theorem w_966 : (Jvm.Cond.methodLink "ReplenModel" (127 : Nat) ({ cls := "ReplenModel", name := "safetyOf", desc := "(I)I" } : Jvm.MethodName)) ∈ ALL := in_ALL 993 rfl rfl
set_option maxRecDepth 100000 in
theorem w_968 : (Jvm.Cond.instanceMethod ({ cls := "ReplenModel", name := "safetyOf", desc := "(I)I" } : Jvm.MethodName)) ∈ ALL := in_ALL 995 rfl rfl
set_option maxRecDepth 100000 in
theorem w_969 : (Jvm.Cond.code ({ cls := "ReplenModel", name := "safetyOf", desc := "(I)I" } : Jvm.MethodName) prog_8_method_30_code (5 : Nat) (Option.some Jvm.ClassFile.FieldType.int)) ∈ ALL := in_ALL 996 rfl rfl
set_option maxRecDepth 100000 in
theorem w_970 : (Jvm.Cond.methodLink "ReplenModel" (132 : Nat) ({ cls := "ReplenModel", name := "coming", desc := "(I)I" } : Jvm.MethodName)) ∈ ALL := in_ALL 997 rfl rfl
set_option maxRecDepth 100000 in
theorem w_972 : (Jvm.Cond.instanceMethod ({ cls := "ReplenModel", name := "coming", desc := "(I)I" } : Jvm.MethodName)) ∈ ALL := in_ALL 999 rfl rfl
set_option maxRecDepth 100000 in
theorem w_973 : (Jvm.Cond.code ({ cls := "ReplenModel", name := "coming", desc := "(I)I" } : Jvm.MethodName) prog_8_method_34_code (4 : Nat) (Option.some Jvm.ClassFile.FieldType.int)) ∈ ALL := in_ALL 1000 rfl rfl
set_option maxRecDepth 100000 in
theorem w_974 : (Jvm.Cond.methodLink "ReplenLaw" (169 : Nat) ({ cls := "ReplenModel", name := "today", desc := "()I" } : Jvm.MethodName)) ∈ ALL := in_ALL 1001 rfl rfl
set_option maxRecDepth 100000 in
theorem w_975 : (Jvm.Cond.instanceMethod ({ cls := "ReplenModel", name := "today", desc := "()I" } : Jvm.MethodName)) ∈ ALL := in_ALL 1002 rfl rfl
set_option maxRecDepth 100000 in
theorem w_976 : (Jvm.Cond.selects "ReplenModel" ({ cls := "ReplenModel", name := "today", desc := "()I" } : Jvm.MethodName) ({ cls := "ReplenModel", name := "today", desc := "()I" } : Jvm.MethodName)) ∈ ALL := in_ALL 1003 rfl rfl
set_option maxRecDepth 100000 in
theorem w_977 : (Jvm.Cond.code ({ cls := "ReplenModel", name := "today", desc := "()I" } : Jvm.MethodName) prog_8_method_23_code (1 : Nat) (Option.some Jvm.ClassFile.FieldType.int)) ∈ ALL := in_ALL 1004 rfl rfl
set_option maxRecDepth 100000 in
theorem w_978 : (Jvm.Cond.methodLink "ReplenLaw" (172 : Nat) ({ cls := "ReplenModel", name := "demandToday", desc := "(II)I" } : Jvm.MethodName)) ∈ ALL := in_ALL 1005 rfl rfl
set_option maxRecDepth 100000 in
theorem w_979 : (Jvm.Cond.instanceMethod ({ cls := "ReplenModel", name := "demandToday", desc := "(II)I" } : Jvm.MethodName)) ∈ ALL := in_ALL 1006 rfl rfl
set_option maxRecDepth 100000 in
theorem w_980 : (Jvm.Cond.selects "ReplenModel" ({ cls := "ReplenModel", name := "demandToday", desc := "(II)I" } : Jvm.MethodName) ({ cls := "ReplenModel", name := "demandToday", desc := "(II)I" } : Jvm.MethodName)) ∈ ALL := in_ALL 1007 rfl rfl
set_option maxRecDepth 100000 in
theorem w_981 : (Jvm.Cond.code ({ cls := "ReplenModel", name := "demandToday", desc := "(II)I" } : Jvm.MethodName) prog_8_method_24_code (3 : Nat) (Option.some Jvm.ClassFile.FieldType.int)) ∈ ALL := in_ALL 1008 rfl rfl
set_option maxRecDepth 100000 in
theorem w_982 : (Jvm.Cond.methodLink "ReplenLaw" (175 : Nat) ({ cls := "ReplenModel", name := "level", desc := "(II)I" } : Jvm.MethodName)) ∈ ALL := in_ALL 1009 rfl rfl
set_option maxRecDepth 100000 in
theorem w_983 : (Jvm.Cond.instanceMethod ({ cls := "ReplenModel", name := "level", desc := "(II)I" } : Jvm.MethodName)) ∈ ALL := in_ALL 1010 rfl rfl
set_option maxRecDepth 100000 in
theorem w_984 : (Jvm.Cond.selects "ReplenModel" ({ cls := "ReplenModel", name := "level", desc := "(II)I" } : Jvm.MethodName) ({ cls := "ReplenModel", name := "level", desc := "(II)I" } : Jvm.MethodName)) ∈ ALL := in_ALL 1011 rfl rfl
set_option maxRecDepth 100000 in
theorem w_985 : (Jvm.Cond.code ({ cls := "ReplenModel", name := "level", desc := "(II)I" } : Jvm.MethodName) prog_8_method_25_code (3 : Nat) (Option.some Jvm.ClassFile.FieldType.int)) ∈ ALL := in_ALL 1012 rfl rfl
set_option maxRecDepth 100000 in
theorem w_986 : (Jvm.Cond.methodLink "ReplenLaw" (178 : Nat) ({ cls := "ReplenModel", name := "levelByDays", desc := "(II)I" } : Jvm.MethodName)) ∈ ALL := in_ALL 1013 rfl rfl
set_option maxRecDepth 100000 in
theorem w_987 : (Jvm.Cond.instanceMethod ({ cls := "ReplenModel", name := "levelByDays", desc := "(II)I" } : Jvm.MethodName)) ∈ ALL := in_ALL 1014 rfl rfl
set_option maxRecDepth 100000 in
theorem w_988 : (Jvm.Cond.selects "ReplenModel" ({ cls := "ReplenModel", name := "levelByDays", desc := "(II)I" } : Jvm.MethodName) ({ cls := "ReplenModel", name := "levelByDays", desc := "(II)I" } : Jvm.MethodName)) ∈ ALL := in_ALL 1015 rfl rfl
set_option maxRecDepth 100000 in
theorem w_989 : (Jvm.Cond.code ({ cls := "ReplenModel", name := "levelByDays", desc := "(II)I" } : Jvm.MethodName) prog_8_method_26_code (3 : Nat) (Option.some Jvm.ClassFile.FieldType.int)) ∈ ALL := in_ALL 1016 rfl rfl
set_option maxRecDepth 100000 in
theorem w_990 : (Jvm.Cond.methodLink "ReplenModel" (125 : Nat) ({ cls := "ReplenModel", name := "level", desc := "(II)I" } : Jvm.MethodName)) ∈ ALL := in_ALL 1017 rfl rfl
set_option maxRecDepth 100000 in
theorem w_991 : (Jvm.Cond.methodLink "ReplenLaw" (181 : Nat) ({ cls := "ReplenModel", name := "season", desc := "(III)I" } : Jvm.MethodName)) ∈ ALL := in_ALL 1018 rfl rfl
set_option maxRecDepth 100000 in
theorem w_992 : (Jvm.Cond.instanceMethod ({ cls := "ReplenModel", name := "season", desc := "(III)I" } : Jvm.MethodName)) ∈ ALL := in_ALL 1019 rfl rfl
set_option maxRecDepth 100000 in
theorem w_993 : (Jvm.Cond.selects "ReplenModel" ({ cls := "ReplenModel", name := "season", desc := "(III)I" } : Jvm.MethodName) ({ cls := "ReplenModel", name := "season", desc := "(III)I" } : Jvm.MethodName)) ∈ ALL := in_ALL 1020 rfl rfl
set_option maxRecDepth 100000 in
theorem w_994 : (Jvm.Cond.code ({ cls := "ReplenModel", name := "season", desc := "(III)I" } : Jvm.MethodName) prog_8_method_27_code (4 : Nat) (Option.some Jvm.ClassFile.FieldType.int)) ∈ ALL := in_ALL 1021 rfl rfl
set_option maxRecDepth 100000 in
theorem w_995 : (Jvm.Cond.methodLink "ReplenLaw" (184 : Nat) ({ cls := "ReplenModel", name := "forecast", desc := "(III)I" } : Jvm.MethodName)) ∈ ALL := in_ALL 1022 rfl rfl
set_option maxRecDepth 100000 in
theorem w_996 : (Jvm.Cond.instanceMethod ({ cls := "ReplenModel", name := "forecast", desc := "(III)I" } : Jvm.MethodName)) ∈ ALL := in_ALL 1023 rfl rfl
set_option maxRecDepth 100000 in
theorem w_997 : (Jvm.Cond.selects "ReplenModel" ({ cls := "ReplenModel", name := "forecast", desc := "(III)I" } : Jvm.MethodName) ({ cls := "ReplenModel", name := "forecast", desc := "(III)I" } : Jvm.MethodName)) ∈ ALL := in_ALL 1024 rfl rfl
set_option maxRecDepth 100000 in
theorem w_998 : (Jvm.Cond.code ({ cls := "ReplenModel", name := "forecast", desc := "(III)I" } : Jvm.MethodName) prog_8_method_28_code (4 : Nat) (Option.some Jvm.ClassFile.FieldType.int)) ∈ ALL := in_ALL 1025 rfl rfl
set_option maxRecDepth 100000 in
theorem w_999 : (Jvm.Cond.methodLink "ReplenLaw" (187 : Nat) ({ cls := "ReplenModel", name := "errors", desc := "(III)I" } : Jvm.MethodName)) ∈ ALL := in_ALL 1026 rfl rfl
set_option maxRecDepth 100000 in
theorem w_1000 : (Jvm.Cond.instanceMethod ({ cls := "ReplenModel", name := "errors", desc := "(III)I" } : Jvm.MethodName)) ∈ ALL := in_ALL 1027 rfl rfl
set_option maxRecDepth 100000 in
theorem w_1001 : (Jvm.Cond.selects "ReplenModel" ({ cls := "ReplenModel", name := "errors", desc := "(III)I" } : Jvm.MethodName) ({ cls := "ReplenModel", name := "errors", desc := "(III)I" } : Jvm.MethodName)) ∈ ALL := in_ALL 1028 rfl rfl
set_option maxRecDepth 100000 in
theorem w_1002 : (Jvm.Cond.code ({ cls := "ReplenModel", name := "errors", desc := "(III)I" } : Jvm.MethodName) prog_8_method_29_code (4 : Nat) (Option.some Jvm.ClassFile.FieldType.int)) ∈ ALL := in_ALL 1029 rfl rfl
set_option maxRecDepth 100000 in
theorem w_1003 : (Jvm.Cond.methodLink "ReplenLaw" (190 : Nat) ({ cls := "ReplenModel", name := "safety", desc := "(II)I" } : Jvm.MethodName)) ∈ ALL := in_ALL 1030 rfl rfl
set_option maxRecDepth 100000 in
theorem w_1004 : (Jvm.Cond.instanceMethod ({ cls := "ReplenModel", name := "safety", desc := "(II)I" } : Jvm.MethodName)) ∈ ALL := in_ALL 1031 rfl rfl
set_option maxRecDepth 100000 in
theorem w_1005 : (Jvm.Cond.selects "ReplenModel" ({ cls := "ReplenModel", name := "safety", desc := "(II)I" } : Jvm.MethodName) ({ cls := "ReplenModel", name := "safety", desc := "(II)I" } : Jvm.MethodName)) ∈ ALL := in_ALL 1032 rfl rfl
set_option maxRecDepth 100000 in
theorem w_1006 : (Jvm.Cond.code ({ cls := "ReplenModel", name := "safety", desc := "(II)I" } : Jvm.MethodName) prog_8_method_31_code (3 : Nat) (Option.some Jvm.ClassFile.FieldType.int)) ∈ ALL := in_ALL 1033 rfl rfl
set_option maxRecDepth 100000 in
theorem w_1007 : (Jvm.Cond.methodLink "ReplenLaw" (193 : Nat) ({ cls := "ReplenModel", name := "stock", desc := "(II)I" } : Jvm.MethodName)) ∈ ALL := in_ALL 1034 rfl rfl
set_option maxRecDepth 100000 in
theorem w_1008 : (Jvm.Cond.instanceMethod ({ cls := "ReplenModel", name := "stock", desc := "(II)I" } : Jvm.MethodName)) ∈ ALL := in_ALL 1035 rfl rfl
set_option maxRecDepth 100000 in
theorem w_1009 : (Jvm.Cond.selects "ReplenModel" ({ cls := "ReplenModel", name := "stock", desc := "(II)I" } : Jvm.MethodName) ({ cls := "ReplenModel", name := "stock", desc := "(II)I" } : Jvm.MethodName)) ∈ ALL := in_ALL 1036 rfl rfl
set_option maxRecDepth 100000 in
theorem w_1010 : (Jvm.Cond.code ({ cls := "ReplenModel", name := "stock", desc := "(II)I" } : Jvm.MethodName) prog_8_method_32_code (3 : Nat) (Option.some Jvm.ClassFile.FieldType.int)) ∈ ALL := in_ALL 1037 rfl rfl
set_option maxRecDepth 100000 in
theorem w_1011 : (Jvm.Cond.methodLink "ReplenLaw" (196 : Nat) ({ cls := "ReplenModel", name := "stockByJournal", desc := "(II)I" } : Jvm.MethodName)) ∈ ALL := in_ALL 1038 rfl rfl
set_option maxRecDepth 100000 in
theorem w_1012 : (Jvm.Cond.instanceMethod ({ cls := "ReplenModel", name := "stockByJournal", desc := "(II)I" } : Jvm.MethodName)) ∈ ALL := in_ALL 1039 rfl rfl
set_option maxRecDepth 100000 in
theorem w_1013 : (Jvm.Cond.selects "ReplenModel" ({ cls := "ReplenModel", name := "stockByJournal", desc := "(II)I" } : Jvm.MethodName) ({ cls := "ReplenModel", name := "stockByJournal", desc := "(II)I" } : Jvm.MethodName)) ∈ ALL := in_ALL 1040 rfl rfl
set_option maxRecDepth 100000 in
theorem w_1014 : (Jvm.Cond.code ({ cls := "ReplenModel", name := "stockByJournal", desc := "(II)I" } : Jvm.MethodName) prog_8_method_33_code (3 : Nat) (Option.some Jvm.ClassFile.FieldType.int)) ∈ ALL := in_ALL 1041 rfl rfl
set_option maxRecDepth 100000 in
theorem w_1015 : (Jvm.Cond.methodLink "ReplenModel" (130 : Nat) ({ cls := "ReplenModel", name := "stock", desc := "(II)I" } : Jvm.MethodName)) ∈ ALL := in_ALL 1042 rfl rfl
set_option maxRecDepth 100000 in
theorem w_1016 : (Jvm.Cond.methodLink "ReplenLaw" (199 : Nat) ({ cls := "ReplenModel", name := "onWay", desc := "(II)I" } : Jvm.MethodName)) ∈ ALL := in_ALL 1043 rfl rfl
set_option maxRecDepth 100000 in
theorem w_1017 : (Jvm.Cond.instanceMethod ({ cls := "ReplenModel", name := "onWay", desc := "(II)I" } : Jvm.MethodName)) ∈ ALL := in_ALL 1044 rfl rfl
set_option maxRecDepth 100000 in
theorem w_1018 : (Jvm.Cond.selects "ReplenModel" ({ cls := "ReplenModel", name := "onWay", desc := "(II)I" } : Jvm.MethodName) ({ cls := "ReplenModel", name := "onWay", desc := "(II)I" } : Jvm.MethodName)) ∈ ALL := in_ALL 1045 rfl rfl
set_option maxRecDepth 100000 in
theorem w_1019 : (Jvm.Cond.code ({ cls := "ReplenModel", name := "onWay", desc := "(II)I" } : Jvm.MethodName) prog_8_method_35_code (3 : Nat) (Option.some Jvm.ClassFile.FieldType.int)) ∈ ALL := in_ALL 1046 rfl rfl
set_option maxRecDepth 100000 in
theorem w_1020 : (Jvm.Cond.methodLink "ReplenLaw" (202 : Nat) ({ cls := "ReplenModel", name := "nextArrival", desc := "(II)I" } : Jvm.MethodName)) ∈ ALL := in_ALL 1047 rfl rfl
set_option maxRecDepth 100000 in
theorem w_1021 : (Jvm.Cond.instanceMethod ({ cls := "ReplenModel", name := "nextArrival", desc := "(II)I" } : Jvm.MethodName)) ∈ ALL := in_ALL 1048 rfl rfl
set_option maxRecDepth 100000 in
theorem w_1022 : (Jvm.Cond.selects "ReplenModel" ({ cls := "ReplenModel", name := "nextArrival", desc := "(II)I" } : Jvm.MethodName) ({ cls := "ReplenModel", name := "nextArrival", desc := "(II)I" } : Jvm.MethodName)) ∈ ALL := in_ALL 1049 rfl rfl
set_option maxRecDepth 100000 in
theorem w_1023 : (Jvm.Cond.code ({ cls := "ReplenModel", name := "nextArrival", desc := "(II)I" } : Jvm.MethodName) prog_8_method_36_code (4 : Nat) (Option.some Jvm.ClassFile.FieldType.int)) ∈ ALL := in_ALL 1050 rfl rfl
set_option maxRecDepth 100000 in
theorem w_1024 : (Jvm.Cond.methodLink "ReplenLaw" (205 : Nat) ({ cls := "ReplenModel", name := "need", desc := "(II)I" } : Jvm.MethodName)) ∈ ALL := in_ALL 1051 rfl rfl
set_option maxRecDepth 100000 in
theorem w_1025 : (Jvm.Cond.instanceMethod ({ cls := "ReplenModel", name := "need", desc := "(II)I" } : Jvm.MethodName)) ∈ ALL := in_ALL 1052 rfl rfl
set_option maxRecDepth 100000 in
theorem w_1026 : (Jvm.Cond.selects "ReplenModel" ({ cls := "ReplenModel", name := "need", desc := "(II)I" } : Jvm.MethodName) ({ cls := "ReplenModel", name := "need", desc := "(II)I" } : Jvm.MethodName)) ∈ ALL := in_ALL 1053 rfl rfl
set_option maxRecDepth 100000 in
theorem w_1027 : (Jvm.Cond.code ({ cls := "ReplenModel", name := "need", desc := "(II)I" } : Jvm.MethodName) prog_8_method_39_code (3 : Nat) (Option.some Jvm.ClassFile.FieldType.int)) ∈ ALL := in_ALL 1054 rfl rfl
set_option maxRecDepth 100000 in
theorem w_1028 : (Jvm.Cond.methodLink "ReplenLaw" (208 : Nat) ({ cls := "ReplenModel", name := "request", desc := "(II)I" } : Jvm.MethodName)) ∈ ALL := in_ALL 1055 rfl rfl
set_option maxRecDepth 100000 in
theorem w_1029 : (Jvm.Cond.instanceMethod ({ cls := "ReplenModel", name := "request", desc := "(II)I" } : Jvm.MethodName)) ∈ ALL := in_ALL 1056 rfl rfl
set_option maxRecDepth 100000 in
theorem w_1030 : (Jvm.Cond.selects "ReplenModel" ({ cls := "ReplenModel", name := "request", desc := "(II)I" } : Jvm.MethodName) ({ cls := "ReplenModel", name := "request", desc := "(II)I" } : Jvm.MethodName)) ∈ ALL := in_ALL 1057 rfl rfl
set_option maxRecDepth 100000 in
theorem w_1031 : (Jvm.Cond.code ({ cls := "ReplenModel", name := "request", desc := "(II)I" } : Jvm.MethodName) prog_8_method_40_code (3 : Nat) (Option.some Jvm.ClassFile.FieldType.int)) ∈ ALL := in_ALL 1058 rfl rfl
set_option maxRecDepth 100000 in
theorem w_1032 : (Jvm.Cond.methodLink "ReplenLaw" (211 : Nat) ({ cls := "ReplenModel", name := "share", desc := "(II)I" } : Jvm.MethodName)) ∈ ALL := in_ALL 1059 rfl rfl
set_option maxRecDepth 100000 in
theorem w_1033 : (Jvm.Cond.instanceMethod ({ cls := "ReplenModel", name := "share", desc := "(II)I" } : Jvm.MethodName)) ∈ ALL := in_ALL 1060 rfl rfl
set_option maxRecDepth 100000 in
theorem w_1034 : (Jvm.Cond.selects "ReplenModel" ({ cls := "ReplenModel", name := "share", desc := "(II)I" } : Jvm.MethodName) ({ cls := "ReplenModel", name := "share", desc := "(II)I" } : Jvm.MethodName)) ∈ ALL := in_ALL 1061 rfl rfl
set_option maxRecDepth 100000 in
theorem w_1035 : (Jvm.Cond.code ({ cls := "ReplenModel", name := "share", desc := "(II)I" } : Jvm.MethodName) prog_8_method_41_code (3 : Nat) (Option.some Jvm.ClassFile.FieldType.int)) ∈ ALL := in_ALL 1062 rfl rfl
set_option maxRecDepth 100000 in
theorem w_1036 : (Jvm.Cond.methodLink "ReplenLaw" (214 : Nat) ({ cls := "ReplenModel", name := "shareByPacks", desc := "(II)I" } : Jvm.MethodName)) ∈ ALL := in_ALL 1063 rfl rfl
set_option maxRecDepth 100000 in
theorem w_1037 : (Jvm.Cond.instanceMethod ({ cls := "ReplenModel", name := "shareByPacks", desc := "(II)I" } : Jvm.MethodName)) ∈ ALL := in_ALL 1064 rfl rfl
set_option maxRecDepth 100000 in
theorem w_1038 : (Jvm.Cond.selects "ReplenModel" ({ cls := "ReplenModel", name := "shareByPacks", desc := "(II)I" } : Jvm.MethodName) ({ cls := "ReplenModel", name := "shareByPacks", desc := "(II)I" } : Jvm.MethodName)) ∈ ALL := in_ALL 1065 rfl rfl
set_option maxRecDepth 100000 in
theorem w_1039 : (Jvm.Cond.code ({ cls := "ReplenModel", name := "shareByPacks", desc := "(II)I" } : Jvm.MethodName) prog_8_method_42_code (3 : Nat) (Option.some Jvm.ClassFile.FieldType.int)) ∈ ALL := in_ALL 1066 rfl rfl
set_option maxRecDepth 100000 in
theorem w_1040 : (Jvm.Cond.methodLink "ReplenModel" (138 : Nat) ({ cls := "ReplenModel", name := "share", desc := "(II)I" } : Jvm.MethodName)) ∈ ALL := in_ALL 1067 rfl rfl
set_option maxRecDepth 100000 in
theorem w_1041 : (Jvm.Cond.methodLink "ReplenLaw" (217 : Nat) ({ cls := "ReplenModel", name := "centre", desc := "(I)I" } : Jvm.MethodName)) ∈ ALL := in_ALL 1068 rfl rfl
set_option maxRecDepth 100000 in
theorem w_1042 : (Jvm.Cond.instanceMethod ({ cls := "ReplenModel", name := "centre", desc := "(I)I" } : Jvm.MethodName)) ∈ ALL := in_ALL 1069 rfl rfl
set_option maxRecDepth 100000 in
theorem w_1043 : (Jvm.Cond.selects "ReplenModel" ({ cls := "ReplenModel", name := "centre", desc := "(I)I" } : Jvm.MethodName) ({ cls := "ReplenModel", name := "centre", desc := "(I)I" } : Jvm.MethodName)) ∈ ALL := in_ALL 1070 rfl rfl
set_option maxRecDepth 100000 in
theorem w_1044 : (Jvm.Cond.code ({ cls := "ReplenModel", name := "centre", desc := "(I)I" } : Jvm.MethodName) prog_8_method_43_code (2 : Nat) (Option.some Jvm.ClassFile.FieldType.int)) ∈ ALL := in_ALL 1071 rfl rfl
set_option maxRecDepth 100000 in
theorem w_1045 : (Jvm.Cond.methodLink "ReplenLaw" (220 : Nat) ({ cls := "ReplenModel", name := "centreByJournal", desc := "(I)I" } : Jvm.MethodName)) ∈ ALL := in_ALL 1072 rfl rfl
set_option maxRecDepth 100000 in
theorem w_1046 : (Jvm.Cond.instanceMethod ({ cls := "ReplenModel", name := "centreByJournal", desc := "(I)I" } : Jvm.MethodName)) ∈ ALL := in_ALL 1073 rfl rfl
set_option maxRecDepth 100000 in
theorem w_1047 : (Jvm.Cond.selects "ReplenModel" ({ cls := "ReplenModel", name := "centreByJournal", desc := "(I)I" } : Jvm.MethodName) ({ cls := "ReplenModel", name := "centreByJournal", desc := "(I)I" } : Jvm.MethodName)) ∈ ALL := in_ALL 1074 rfl rfl
set_option maxRecDepth 100000 in
theorem w_1048 : (Jvm.Cond.code ({ cls := "ReplenModel", name := "centreByJournal", desc := "(I)I" } : Jvm.MethodName) prog_8_method_44_code (2 : Nat) (Option.some Jvm.ClassFile.FieldType.int)) ∈ ALL := in_ALL 1075 rfl rfl
set_option maxRecDepth 100000 in
theorem w_1049 : (Jvm.Cond.methodLink "ReplenModel" (141 : Nat) ({ cls := "ReplenModel", name := "centre", desc := "(I)I" } : Jvm.MethodName)) ∈ ALL := in_ALL 1076 rfl rfl
set_option maxRecDepth 100000 in
theorem w_1050 : (Jvm.Cond.methodLink "ReplenLaw" (223 : Nat) ({ cls := "ReplenModel", name := "sold", desc := "(II)I" } : Jvm.MethodName)) ∈ ALL := in_ALL 1077 rfl rfl
set_option maxRecDepth 100000 in
theorem w_1051 : (Jvm.Cond.instanceMethod ({ cls := "ReplenModel", name := "sold", desc := "(II)I" } : Jvm.MethodName)) ∈ ALL := in_ALL 1078 rfl rfl
set_option maxRecDepth 100000 in
theorem w_1052 : (Jvm.Cond.selects "ReplenModel" ({ cls := "ReplenModel", name := "sold", desc := "(II)I" } : Jvm.MethodName) ({ cls := "ReplenModel", name := "sold", desc := "(II)I" } : Jvm.MethodName)) ∈ ALL := in_ALL 1079 rfl rfl
set_option maxRecDepth 100000 in
theorem w_1053 : (Jvm.Cond.code ({ cls := "ReplenModel", name := "sold", desc := "(II)I" } : Jvm.MethodName) prog_8_method_45_code (3 : Nat) (Option.some Jvm.ClassFile.FieldType.int)) ∈ ALL := in_ALL 1080 rfl rfl
set_option maxRecDepth 100000 in
theorem w_1054 : (Jvm.Cond.methodLink "ReplenLaw" (226 : Nat) ({ cls := "ReplenModel", name := "lost", desc := "(II)I" } : Jvm.MethodName)) ∈ ALL := in_ALL 1081 rfl rfl
set_option maxRecDepth 100000 in
theorem w_1055 : (Jvm.Cond.instanceMethod ({ cls := "ReplenModel", name := "lost", desc := "(II)I" } : Jvm.MethodName)) ∈ ALL := in_ALL 1082 rfl rfl
set_option maxRecDepth 100000 in
theorem w_1056 : (Jvm.Cond.selects "ReplenModel" ({ cls := "ReplenModel", name := "lost", desc := "(II)I" } : Jvm.MethodName) ({ cls := "ReplenModel", name := "lost", desc := "(II)I" } : Jvm.MethodName)) ∈ ALL := in_ALL 1083 rfl rfl
set_option maxRecDepth 100000 in
theorem w_1057 : (Jvm.Cond.code ({ cls := "ReplenModel", name := "lost", desc := "(II)I" } : Jvm.MethodName) prog_8_method_46_code (3 : Nat) (Option.some Jvm.ClassFile.FieldType.int)) ∈ ALL := in_ALL 1084 rfl rfl
set_option maxRecDepth 100000 in
theorem w_1058 : (Jvm.Cond.methodLink "ReplenLaw" (231 : Nat) ({ cls := "ReplenModel", name := "units", desc := "()J" } : Jvm.MethodName)) ∈ ALL := in_ALL 1085 rfl rfl
set_option maxRecDepth 100000 in
theorem w_1059 : (Jvm.Cond.instanceMethod ({ cls := "ReplenModel", name := "units", desc := "()J" } : Jvm.MethodName)) ∈ ALL := in_ALL 1086 rfl rfl
set_option maxRecDepth 100000 in
theorem w_1060 : (Jvm.Cond.selects "ReplenModel" ({ cls := "ReplenModel", name := "units", desc := "()J" } : Jvm.MethodName) ({ cls := "ReplenModel", name := "units", desc := "()J" } : Jvm.MethodName)) ∈ ALL := in_ALL 1087 rfl rfl
set_option maxRecDepth 100000 in
theorem w_1061 : (Jvm.Cond.code ({ cls := "ReplenModel", name := "units", desc := "()J" } : Jvm.MethodName) prog_8_method_47_code (4 : Nat) (Option.some Jvm.ClassFile.FieldType.long)) ∈ ALL := in_ALL 1088 rfl rfl
set_option maxRecDepth 100000 in
theorem w_1062 : (Jvm.Cond.methodLink "ReplenLaw" (235 : Nat) ({ cls := "ReplenModel", name := "service", desc := "(I)F" } : Jvm.MethodName)) ∈ ALL := in_ALL 1089 rfl rfl
set_option maxRecDepth 100000 in
theorem w_1063 : (Jvm.Cond.instanceMethod ({ cls := "ReplenModel", name := "service", desc := "(I)F" } : Jvm.MethodName)) ∈ ALL := in_ALL 1090 rfl rfl
set_option maxRecDepth 100000 in
theorem w_1064 : (Jvm.Cond.selects "ReplenModel" ({ cls := "ReplenModel", name := "service", desc := "(I)F" } : Jvm.MethodName) ({ cls := "ReplenModel", name := "service", desc := "(I)F" } : Jvm.MethodName)) ∈ ALL := in_ALL 1091 rfl rfl
set_option maxRecDepth 100000 in
theorem w_1065 : (Jvm.Cond.code ({ cls := "ReplenModel", name := "service", desc := "(I)F" } : Jvm.MethodName) prog_8_method_48_code (5 : Nat) (Option.some Jvm.ClassFile.FieldType.float)) ∈ ALL := in_ALL 1092 rfl rfl
set_option maxRecDepth 100000 in
theorem w_1066 : (Jvm.Cond.arrayClass Jvm.ClassFile.FieldType.long) ∈ ALL := in_ALL 1093 rfl rfl
set_option maxRecDepth 100000 in
theorem w_1067 : (Jvm.Cond.arrayClass Jvm.ClassFile.FieldType.double) ∈ ALL := in_ALL 1094 rfl rfl
set_option maxRecDepth 100000 in
theorem w_p0 : Cond.selects "java/lang/Throwable" ⟨"java/lang/Throwable", "fillInStackTrace", "(I)Ljava/lang/Throwable;"⟩ ⟨"java/lang/Throwable", "fillInStackTrace", "(I)Ljava/lang/Throwable;"⟩ ∈ ALL := in_ALL 0 rfl rfl
set_option maxRecDepth 100000 in
theorem w_p1 : Cond.selects "Replen" ⟨"Replen", "requireShop", "(I)V"⟩ ⟨"Replen", "requireShop", "(I)V"⟩ ∈ ALL := in_ALL 1 rfl rfl
set_option maxRecDepth 100000 in
theorem w_p2 : Cond.selects "Replen" ⟨"Replen", "isShop", "(I)Z"⟩ ⟨"Replen", "isShop", "(I)Z"⟩ ∈ ALL := in_ALL 2 rfl rfl
set_option maxRecDepth 100000 in
theorem w_p3 : Cond.selects "Replen" ⟨"Replen", "requireItem", "(I)LReplen$Item;"⟩ ⟨"Replen", "requireItem", "(I)LReplen$Item;"⟩ ∈ ALL := in_ALL 3 rfl rfl
set_option maxRecDepth 100000 in
theorem w_p4 : Cond.selects "Replen" ⟨"Replen", "itemOrNull", "(I)LReplen$Item;"⟩ ⟨"Replen", "itemOrNull", "(I)LReplen$Item;"⟩ ∈ ALL := in_ALL 4 rfl rfl
set_option maxRecDepth 100000 in
theorem w_p5 : Cond.selects "Replen" ⟨"Replen", "isItem", "(I)Z"⟩ ⟨"Replen", "isItem", "(I)Z"⟩ ∈ ALL := in_ALL 5 rfl rfl
set_option maxRecDepth 100000 in
theorem w_p6 : Cond.selects "Replen" ⟨"Replen", "placeOf", "(II)I"⟩ ⟨"Replen", "placeOf", "(II)I"⟩ ∈ ALL := in_ALL 6 rfl rfl
set_option maxRecDepth 100000 in
theorem w_p7 : Cond.selects "Replen" ⟨"Replen", "leadOf", "(I)I"⟩ ⟨"Replen", "leadOf", "(I)I"⟩ ∈ ALL := in_ALL 7 rfl rfl
set_option maxRecDepth 100000 in
theorem w_p8 : Cond.selects "Replen" ⟨"Replen", "lineOrNull", "(II)LReplen$Line;"⟩ ⟨"Replen", "lineOrNull", "(II)LReplen$Line;"⟩ ∈ ALL := in_ALL 8 rfl rfl
set_option maxRecDepth 100000 in
theorem w_p9 : Cond.selects "Replen" ⟨"Replen", "requireLine", "(II)LReplen$Line;"⟩ ⟨"Replen", "requireLine", "(II)LReplen$Line;"⟩ ∈ ALL := in_ALL 9 rfl rfl
set_option maxRecDepth 100000 in
theorem w_p10 : Cond.selects "Replen" ⟨"Replen", "learnToday", "()V"⟩ ⟨"Replen", "learnToday", "()V"⟩ ∈ ALL := in_ALL 10 rfl rfl
set_option maxRecDepth 100000 in
theorem w_p11 : Cond.selects "Replen" ⟨"Replen", "receiveToday", "()V"⟩ ⟨"Replen", "receiveToday", "()V"⟩ ∈ ALL := in_ALL 11 rfl rfl
set_option maxRecDepth 100000 in
theorem w_p12 : Cond.selects "Replen" ⟨"Replen", "sendPacks", "(I)I"⟩ ⟨"Replen", "sendPacks", "(I)I"⟩ ∈ ALL := in_ALL 12 rfl rfl
set_option maxRecDepth 100000 in
theorem w_p13 : Cond.selects "Replen" ⟨"Replen", "askForAll", "(I)V"⟩ ⟨"Replen", "askForAll", "(I)V"⟩ ∈ ALL := in_ALL 13 rfl rfl
set_option maxRecDepth 100000 in
theorem w_p14 : Cond.selects "Replen$Sharing" ⟨"Replen$Sharing", "givenAhead", "(II)J"⟩ ⟨"Replen$Sharing", "givenAhead", "(II)J"⟩ ∈ ALL := in_ALL 14 rfl rfl
set_option maxRecDepth 100000 in
theorem w_p15 : Cond.selects "Replen$Sharing" ⟨"Replen$Sharing", "nextToGet", "()I"⟩ ⟨"Replen$Sharing", "nextToGet", "()I"⟩ ∈ ALL := in_ALL 15 rfl rfl
set_option maxRecDepth 100000 in
theorem w_p16 : Cond.selects "ReplenModel" ⟨"ReplenModel", "fails", "(I)I"⟩ ⟨"ReplenModel", "fails", "(I)I"⟩ ∈ ALL := in_ALL 16 rfl rfl
set_option maxRecDepth 100000 in
theorem w_p17 : Cond.selects "ReplenModel" ⟨"ReplenModel", "isShop", "(I)Z"⟩ ⟨"ReplenModel", "isShop", "(I)Z"⟩ ∈ ALL := in_ALL 17 rfl rfl
set_option maxRecDepth 100000 in
theorem w_p18 : Cond.selects "ReplenModel" ⟨"ReplenModel", "isItem", "(I)Z"⟩ ⟨"ReplenModel", "isItem", "(I)Z"⟩ ∈ ALL := in_ALL 18 rfl rfl
set_option maxRecDepth 100000 in
theorem w_p19 : Cond.selects "ReplenModel" ⟨"ReplenModel", "isLine", "(II)Z"⟩ ⟨"ReplenModel", "isLine", "(II)Z"⟩ ∈ ALL := in_ALL 19 rfl rfl
set_option maxRecDepth 100000 in
theorem w_p20 : Cond.selects "ReplenModel" ⟨"ReplenModel", "learns", "(I)V"⟩ ⟨"ReplenModel", "learns", "(I)V"⟩ ∈ ALL := in_ALL 20 rfl rfl
set_option maxRecDepth 100000 in
theorem w_p21 : Cond.selects "ReplenModel" ⟨"ReplenModel", "told", "(II)I"⟩ ⟨"ReplenModel", "told", "(II)I"⟩ ∈ ALL := in_ALL 21 rfl rfl
set_option maxRecDepth 100000 in
theorem w_p22 : Cond.selects "ReplenModel" ⟨"ReplenModel", "gives", "(I)V"⟩ ⟨"ReplenModel", "gives", "(I)V"⟩ ∈ ALL := in_ALL 22 rfl rfl
set_option maxRecDepth 100000 in
theorem w_p23 : Cond.selects "ReplenModel" ⟨"ReplenModel", "requestOf", "(I)I"⟩ ⟨"ReplenModel", "requestOf", "(I)I"⟩ ∈ ALL := in_ALL 23 rfl rfl
set_option maxRecDepth 100000 in
theorem w_p24 : Cond.selects "ReplenModel" ⟨"ReplenModel", "needOf", "(I)I"⟩ ⟨"ReplenModel", "needOf", "(I)I"⟩ ∈ ALL := in_ALL 24 rfl rfl
set_option maxRecDepth 100000 in
theorem w_p25 : Cond.selects "ReplenModel" ⟨"ReplenModel", "safetyOf", "(I)I"⟩ ⟨"ReplenModel", "safetyOf", "(I)I"⟩ ∈ ALL := in_ALL 25 rfl rfl
set_option maxRecDepth 100000 in
theorem w_p26 : Cond.selects "ReplenModel" ⟨"ReplenModel", "coming", "(I)I"⟩ ⟨"ReplenModel", "coming", "(I)I"⟩ ∈ ALL := in_ALL 26 rfl rfl
set_option maxRecDepth 100000 in
theorem inAX0 : ∀ w ∈ wsX00, w ∈ ALL := by
  intro w hw
  obtain ⟨k, hk, rfl⟩ := List.mem_map.mp hw
  have hk2 := List.mem_range.mp hk
  clear hk
  exact match k, hk2 with
  | 0, _ => w_36
  | k + 1, h => absurd h (by omega)
set_option maxRecDepth 100000 in
theorem inAX1 : ∀ w ∈ wsX10, w ∈ ALL := by
  intro w hw
  obtain ⟨k, hk, rfl⟩ := List.mem_map.mp hw
  have hk2 := List.mem_range.mp hk
  clear hk
  exact match k, hk2 with
  | 0, _ => w_250
  | 1, _ => w_252
  | 2, _ => w_254
  | 3, _ => w_256
  | 4, _ => w_258
  | 5, _ => w_260
  | k + 6, h => absurd h (by omega)
set_option maxRecDepth 100000 in
theorem inAX2 : ∀ w ∈ wsX20, w ∈ ALL := by
  intro w hw
  obtain ⟨k, hk, rfl⟩ := List.mem_map.mp hw
  have hk2 := List.mem_range.mp hk
  clear hk
  exact match k, hk2 with
  | 0, _ => w_49
  | 1, _ => w_51
  | k + 2, h => absurd h (by omega)
set_option maxRecDepth 100000 in
theorem inAX3 : ∀ w ∈ wsX30, w ∈ ALL := by
  intro w hw
  obtain ⟨k, hk, rfl⟩ := List.mem_map.mp hw
  have hk2 := List.mem_range.mp hk
  clear hk
  exact match k, hk2 with
  | 0, _ => w_356
  | 1, _ => w_358
  | 2, _ => w_360
  | 3, _ => w_362
  | 4, _ => w_364
  | 5, _ => w_366
  | 6, _ => w_368
  | 7, _ => w_370
  | 8, _ => w_372
  | 9, _ => w_374
  | 10, _ => w_376
  | 11, _ => w_378
  | 12, _ => w_380
  | 13, _ => w_382
  | k + 14, h => absurd h (by omega)
set_option maxRecDepth 100000 in
theorem inAX4 : ∀ w ∈ wsX40, w ∈ ALL := by
  intro w hw
  obtain ⟨k, hk, rfl⟩ := List.mem_map.mp hw
  have hk2 := List.mem_range.mp hk
  clear hk
  exact match k, hk2 with
  | 0, _ => w_63
  | 1, _ => w_65
  | 2, _ => w_67
  | k + 3, h => absurd h (by omega)
set_option maxRecDepth 100000 in
theorem inAX5 : ∀ w ∈ wsX50, w ∈ ALL := by
  intro w hw
  obtain ⟨k, hk, rfl⟩ := List.mem_map.mp hw
  have hk2 := List.mem_range.mp hk
  clear hk
  exact match k, hk2 with
  | 0, _ => w_84
  | 1, _ => w_86
  | 2, _ => w_88
  | 3, _ => w_90
  | 4, _ => w_92
  | 5, _ => w_94
  | 6, _ => w_96
  | 7, _ => w_98
  | 8, _ => w_100
  | 9, _ => w_102
  | 10, _ => w_104
  | 11, _ => w_106
  | 12, _ => w_108
  | 13, _ => w_110
  | k + 14, h => absurd h (by omega)
set_option maxRecDepth 100000 in
theorem inAX6 : ∀ w ∈ wsX60, w ∈ ALL := by
  intro w hw
  obtain ⟨k, hk, rfl⟩ := List.mem_map.mp hw
  have hk2 := List.mem_range.mp hk
  clear hk
  exact match k, hk2 with
  | 0, _ => w_824
  | 1, _ => w_826
  | 2, _ => w_828
  | 3, _ => w_830
  | 4, _ => w_832
  | 5, _ => w_834
  | 6, _ => w_836
  | 7, _ => w_838
  | 8, _ => w_840
  | 9, _ => w_842
  | 10, _ => w_844
  | 11, _ => w_846
  | 12, _ => w_848
  | 13, _ => w_850
  | 14, _ => w_852
  | 15, _ => w_854
  | 16, _ => w_856
  | 17, _ => w_858
  | 18, _ => w_860
  | 19, _ => w_862
  | 20, _ => w_864
  | 21, _ => w_866
  | 22, _ => w_868
  | k + 23, h => absurd h (by omega)
