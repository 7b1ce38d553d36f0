theorem tw_1_0 : (Jvm.Cond.initialized "CodeJudgeLaw") ∈ TB := tb_1 0 rfl rfl
theorem tw_1_1 : (Jvm.Cond.initialized "CodeJudge") ∈ TB := tb_1 1 rfl rfl
theorem tw_1_2 : (Jvm.Cond.initialized "CodeJudge$Method") ∈ TB := tb_1 2 rfl rfl
theorem tw_1_3 : (Jvm.Cond.initialized "CodeJudge$Judge") ∈ TB := tb_1 3 rfl rfl
theorem tw_1_4 : (Jvm.Cond.initialized "CodeJudge$Shape") ∈ TB := tb_1 4 rfl rfl
theorem tw_1_5 : (Jvm.Cond.initialized "CodeJudge$Machine") ∈ TB := tb_1 5 rfl rfl
theorem tw_1_6 : (Jvm.Cond.initialized "CodeJudge$Frames") ∈ TB := tb_1 6 rfl rfl
theorem tw_1_7 : (Jvm.Cond.initialized "CodeJudge$Heap") ∈ TB := tb_1 7 rfl rfl
theorem tw_1_8 : (Jvm.Cond.initialized "CodeJudge$Outputs") ∈ TB := tb_1 8 rfl rfl
theorem tw_1_9 : (Jvm.Cond.initialized "CodeJudgeModel") ∈ TB := tb_1 9 rfl rfl
theorem tw_1_10 : (Jvm.Cond.initialized "java/lang/Throwable") ∈ TB := tb_1 10 rfl rfl
theorem tw_1_11 : (Jvm.Cond.initialized "java/lang/Exception") ∈ TB := tb_1 11 rfl rfl
theorem tw_1_12 : (Jvm.Cond.initialized "java/lang/RuntimeException") ∈ TB := tb_1 12 rfl rfl
theorem tw_1_13 : (Jvm.Cond.initialized "java/util/NoSuchElementException") ∈ TB := tb_1 13 rfl rfl
theorem tw_1_14 : (Jvm.Cond.initialized "java/lang/IllegalArgumentException") ∈ TB := tb_1 14 rfl rfl
theorem tw_1_15 : (Jvm.Cond.initialized "java/lang/IllegalStateException") ∈ TB := tb_1 15 rfl rfl
theorem tw_1_16 : (Jvm.Cond.initialized "CodeJudge$Order") ∈ TB := tb_1 16 rfl rfl
theorem tw_1_17 : (Jvm.Cond.initialized "java/lang/Integer") ∈ TB := tb_1 17 rfl rfl
theorem tw_1_18 : (Jvm.Cond.initialized "java/lang/Math") ∈ TB := tb_1 18 rfl rfl
theorem tw_1_19 : (Jvm.Cond.classLink "CodeJudgeLaw" (8 : Nat) "CodeJudge") ∈ TB := tb_1 19 rfl rfl
theorem tw_1_20 : (Jvm.Cond.instantiable "CodeJudge" (3 : Nat)) ∈ TB := tb_1 20 rfl rfl
theorem tw_1_21 : (Jvm.Cond.methodLink "CodeJudgeLaw" (64 : Nat) ({ cls := "CodeJudge", name := "<init>", desc := "()V" } : Jvm.MethodName)) ∈ TB := tb_1 21 rfl rfl
theorem tw_1_22 : (Jvm.Cond.instanceMethod ({ cls := "CodeJudge", name := "<init>", desc := "()V" } : Jvm.MethodName)) ∈ TB := tb_1 22 rfl rfl
theorem tw_1_23 : (Jvm.Cond.code ({ cls := "CodeJudge", name := "<init>", desc := "()V" } : Jvm.MethodName) prog_1_method_1_code (2 : Nat) (Option.none : Option Jvm.ClassFile.FieldType)) ∈ TB := tb_1 23 rfl rfl
theorem tw_1_24 : (Jvm.Cond.methodLink "CodeJudge" (1 : Nat) ({ cls := "java/lang/Object", name := "<init>", desc := "()V" } : Jvm.MethodName)) ∈ TB := tb_1 24 rfl rfl
theorem tw_1_25 : (Jvm.Cond.instanceMethod ({ cls := "java/lang/Object", name := "<init>", desc := "()V" } : Jvm.MethodName)) ∈ TB := tb_1 25 rfl rfl
theorem tw_1_26 : (Jvm.Cond.code ({ cls := "java/lang/Object", name := "<init>", desc := "()V" } : Jvm.MethodName) object_method_1_code (1 : Nat) (Option.none : Option Jvm.ClassFile.FieldType)) ∈ TB := tb_1 26 rfl rfl
theorem tw_1_27 : (Jvm.Cond.classLink "CodeJudge" (9 : Nat) "CodeJudge$Method") ∈ TB := tb_1 27 rfl rfl
theorem tw_1_29 : (Jvm.Cond.instantiable "CodeJudge$Method" (9 : Nat)) ∈ TB := tb_1 29 rfl rfl
theorem tw_1_30 : (Jvm.Cond.methodLink "CodeJudge" (15 : Nat) ({ cls := "CodeJudge$Method", name := "<init>", desc := "()V" } : Jvm.MethodName)) ∈ TB := tb_1 30 rfl rfl
theorem tw_1_31 : (Jvm.Cond.instanceMethod ({ cls := "CodeJudge$Method", name := "<init>", desc := "()V" } : Jvm.MethodName)) ∈ TB := tb_1 31 rfl rfl
theorem tw_1_32 : (Jvm.Cond.code ({ cls := "CodeJudge$Method", name := "<init>", desc := "()V" } : Jvm.MethodName) prog_6_method_1_code (1 : Nat) (Option.none : Option Jvm.ClassFile.FieldType)) ∈ TB := tb_1 32 rfl rfl
theorem tw_1_33 : (Jvm.Cond.methodLink "CodeJudge$Method" (3 : Nat) ({ cls := "java/lang/Object", name := "<init>", desc := "()V" } : Jvm.MethodName)) ∈ TB := tb_1 33 rfl rfl
theorem tw_1_34 : (Jvm.Cond.fieldLink "CodeJudge$Method" (18 : Nat) "CodeJudge$Method" "there" "Z") ∈ TB := tb_1 34 rfl rfl
theorem tw_1_35 : (Jvm.Cond.fieldLink "CodeJudge" (40 : Nat) "CodeJudge$Method" "there" "Z") ∈ TB := tb_1 35 rfl rfl
theorem tw_1_36 : (Jvm.Cond.fieldLink "CodeJudge$Judge" (108 : Nat) "CodeJudge$Method" "there" "Z") ∈ TB := tb_1 36 rfl rfl
theorem tw_1_37 : (Jvm.Cond.fieldLink "CodeJudge$Method" (22 : Nat) "CodeJudge$Method" "parameters" "I") ∈ TB := tb_1 37 rfl rfl
theorem tw_1_38 : (Jvm.Cond.fieldLink "CodeJudge$Judge" (60 : Nat) "CodeJudge$Method" "parameters" "I") ∈ TB := tb_1 38 rfl rfl
theorem tw_1_39 : (Jvm.Cond.fieldLink "CodeJudge$Machine" (57 : Nat) "CodeJudge$Method" "parameters" "I") ∈ TB := tb_1 39 rfl rfl
theorem tw_1_40 : (Jvm.Cond.fieldLink "CodeJudge$Method" (26 : Nat) "CodeJudge$Method" "arrays" "I") ∈ TB := tb_1 40 rfl rfl
theorem tw_1_41 : (Jvm.Cond.fieldLink "CodeJudge$Judge" (65 : Nat) "CodeJudge$Method" "arrays" "I") ∈ TB := tb_1 41 rfl rfl
theorem tw_1_42 : (Jvm.Cond.fieldLink "CodeJudge$Method" (29 : Nat) "CodeJudge$Method" "returns" "I") ∈ TB := tb_1 42 rfl rfl
theorem tw_1_43 : (Jvm.Cond.fieldLink "CodeJudge$Judge" (135 : Nat) "CodeJudge$Method" "returns" "I") ∈ TB := tb_1 43 rfl rfl
theorem tw_1_44 : (Jvm.Cond.fieldLink "CodeJudge$Machine" (112 : Nat) "CodeJudge$Method" "returns" "I") ∈ TB := tb_1 44 rfl rfl
theorem tw_1_45 : (Jvm.Cond.fieldLink "CodeJudge$Method" (32 : Nat) "CodeJudge$Method" "locals" "I") ∈ TB := tb_1 45 rfl rfl
theorem tw_1_46 : (Jvm.Cond.fieldLink "CodeJudge$Judge" (98 : Nat) "CodeJudge$Method" "locals" "I") ∈ TB := tb_1 46 rfl rfl
theorem tw_1_47 : (Jvm.Cond.fieldLink "CodeJudge" (93 : Nat) "CodeJudge$Method" "locals" "I") ∈ TB := tb_1 47 rfl rfl
theorem tw_1_48 : (Jvm.Cond.fieldLink "CodeJudge$Method" (35 : Nat) "CodeJudge$Method" "limit" "I") ∈ TB := tb_1 48 rfl rfl
theorem tw_1_49 : (Jvm.Cond.fieldLink "CodeJudge$Judge" (86 : Nat) "CodeJudge$Method" "limit" "I") ∈ TB := tb_1 49 rfl rfl
theorem tw_1_50 : (Jvm.Cond.fieldLink "CodeJudge$Method" (38 : Nat) "CodeJudge$Method" "size" "I") ∈ TB := tb_1 50 rfl rfl
theorem tw_1_51 : (Jvm.Cond.fieldLink "CodeJudge" (57 : Nat) "CodeJudge$Method" "size" "I") ∈ TB := tb_1 51 rfl rfl
theorem tw_1_52 : (Jvm.Cond.fieldLink "CodeJudge$Judge" (154 : Nat) "CodeJudge$Method" "size" "I") ∈ TB := tb_1 52 rfl rfl
theorem tw_1_53 : (Jvm.Cond.fieldLink "CodeJudge$Method" (9 : Nat) "CodeJudge$Method" "orders" "[I") ∈ TB := tb_1 53 rfl rfl
theorem tw_1_54 : (Jvm.Cond.fieldLink "CodeJudge$Method" (15 : Nat) "CodeJudge$Method" "numbers" "[I") ∈ TB := tb_1 54 rfl rfl
theorem tw_1_55 : (Jvm.Cond.lays "CodeJudge$Method" "CodeJudge$Method" "there" "Z") ∈ TB := tb_1 55 rfl rfl
theorem tw_1_57 : (Jvm.Cond.lays "CodeJudge$Method" "CodeJudge$Method" "parameters" "I") ∈ TB := tb_1 57 rfl rfl
theorem tw_1_59 : (Jvm.Cond.lays "CodeJudge$Method" "CodeJudge$Method" "arrays" "I") ∈ TB := tb_1 59 rfl rfl
theorem tw_1_61 : (Jvm.Cond.lays "CodeJudge$Method" "CodeJudge$Method" "returns" "I") ∈ TB := tb_1 61 rfl rfl
theorem tw_1_63 : (Jvm.Cond.lays "CodeJudge$Method" "CodeJudge$Method" "locals" "I") ∈ TB := tb_1 63 rfl rfl
theorem tw_1_65 : (Jvm.Cond.lays "CodeJudge$Method" "CodeJudge$Method" "limit" "I") ∈ TB := tb_1 65 rfl rfl
theorem tw_1_67 : (Jvm.Cond.lays "CodeJudge$Method" "CodeJudge$Method" "size" "I") ∈ TB := tb_1 67 rfl rfl
theorem tw_1_69 : (Jvm.Cond.laysFinal "CodeJudge$Method" "CodeJudge$Method" "orders" "[I") ∈ TB := tb_1 69 rfl rfl
theorem tw_1_71 : (Jvm.Cond.laysFinal "CodeJudge$Method" "CodeJudge$Method" "numbers" "[I") ∈ TB := tb_1 71 rfl rfl
theorem tw_1_74 : (Jvm.Cond.arrayClass Jvm.ClassFile.FieldType.int) ∈ TB := tb_1 74 rfl rfl
theorem tw_1_75 : (Jvm.Cond.classLink "CodeJudge" (16 : Nat) "CodeJudge$Judge") ∈ TB := tb_1 75 rfl rfl
theorem tw_1_76 : (Jvm.Cond.instantiable "CodeJudge$Judge" (8 : Nat)) ∈ TB := tb_1 76 rfl rfl
theorem tw_1_77 : (Jvm.Cond.methodLink "CodeJudge" (18 : Nat) ({ cls := "CodeJudge$Judge", name := "<init>", desc := "()V" } : Jvm.MethodName)) ∈ TB := tb_1 77 rfl rfl
theorem tw_1_78 : (Jvm.Cond.instanceMethod ({ cls := "CodeJudge$Judge", name := "<init>", desc := "()V" } : Jvm.MethodName)) ∈ TB := tb_1 78 rfl rfl
theorem tw_1_79 : (Jvm.Cond.code ({ cls := "CodeJudge$Judge", name := "<init>", desc := "()V" } : Jvm.MethodName) prog_4_method_1_code (1 : Nat) (Option.none : Option Jvm.ClassFile.FieldType)) ∈ TB := tb_1 79 rfl rfl
theorem tw_1_80 : (Jvm.Cond.methodLink "CodeJudge$Judge" (3 : Nat) ({ cls := "java/lang/Object", name := "<init>", desc := "()V" } : Jvm.MethodName)) ∈ TB := tb_1 80 rfl rfl
theorem tw_1_81 : (Jvm.Cond.classLink "CodeJudge$Judge" (31 : Nat) "CodeJudge$Shape") ∈ TB := tb_1 81 rfl rfl
theorem tw_1_82 : (Jvm.Cond.instantiable "CodeJudge$Shape" (4 : Nat)) ∈ TB := tb_1 82 rfl rfl
theorem tw_1_84 : (Jvm.Cond.instanceMethod ({ cls := "CodeJudge$Shape", name := "<init>", desc := "()V" } : Jvm.MethodName)) ∈ TB := tb_1 84 rfl rfl
theorem tw_1_85 : (Jvm.Cond.code ({ cls := "CodeJudge$Shape", name := "<init>", desc := "()V" } : Jvm.MethodName) prog_9_method_1_code (1 : Nat) (Option.none : Option Jvm.ClassFile.FieldType)) ∈ TB := tb_1 85 rfl rfl
theorem tw_1_86 : (Jvm.Cond.methodLink "CodeJudge$Shape" (3 : Nat) ({ cls := "java/lang/Object", name := "<init>", desc := "()V" } : Jvm.MethodName)) ∈ TB := tb_1 86 rfl rfl
theorem tw_1_87 : (Jvm.Cond.fieldLink "CodeJudge$Shape" (9 : Nat) "CodeJudge$Shape" "high" "I") ∈ TB := tb_1 87 rfl rfl
theorem tw_1_88 : (Jvm.Cond.fieldLink "CodeJudge$Judge" (54 : Nat) "CodeJudge$Shape" "high" "I") ∈ TB := tb_1 88 rfl rfl
theorem tw_1_89 : (Jvm.Cond.fieldLink "CodeJudge$Shape" (15 : Nat) "CodeJudge$Shape" "stack" "I") ∈ TB := tb_1 89 rfl rfl
theorem tw_1_90 : (Jvm.Cond.fieldLink "CodeJudge$Judge" (57 : Nat) "CodeJudge$Shape" "stack" "I") ∈ TB := tb_1 90 rfl rfl
theorem tw_1_91 : (Jvm.Cond.fieldLink "CodeJudge$Judge" (68 : Nat) "CodeJudge$Shape" "intLocals" "I") ∈ TB := tb_1 91 rfl rfl
theorem tw_1_92 : (Jvm.Cond.fieldLink "CodeJudge$Shape" (22 : Nat) "CodeJudge$Shape" "intLocals" "I") ∈ TB := tb_1 92 rfl rfl
theorem tw_1_93 : (Jvm.Cond.fieldLink "CodeJudge$Judge" (70 : Nat) "CodeJudge$Shape" "arrayLocals" "I") ∈ TB := tb_1 93 rfl rfl
theorem tw_1_94 : (Jvm.Cond.fieldLink "CodeJudge$Shape" (25 : Nat) "CodeJudge$Shape" "arrayLocals" "I") ∈ TB := tb_1 94 rfl rfl
theorem tw_1_95 : (Jvm.Cond.lays "CodeJudge$Shape" "CodeJudge$Shape" "high" "I") ∈ TB := tb_1 95 rfl rfl
theorem tw_1_97 : (Jvm.Cond.lays "CodeJudge$Shape" "CodeJudge$Shape" "stack" "I") ∈ TB := tb_1 97 rfl rfl
theorem tw_1_99 : (Jvm.Cond.lays "CodeJudge$Shape" "CodeJudge$Shape" "intLocals" "I") ∈ TB := tb_1 99 rfl rfl
theorem tw_1_101 : (Jvm.Cond.lays "CodeJudge$Shape" "CodeJudge$Shape" "arrayLocals" "I") ∈ TB := tb_1 101 rfl rfl
theorem tw_1_104 : (Jvm.Cond.arrayClass Jvm.ClassFile.FieldType.boolean) ∈ TB := tb_1 104 rfl rfl
theorem tw_1_105 : (Jvm.Cond.fieldLink "CodeJudge$Judge" (9 : Nat) "CodeJudge$Judge" "heights" "[I") ∈ TB := tb_1 105 rfl rfl
theorem tw_1_106 : (Jvm.Cond.fieldLink "CodeJudge$Judge" (15 : Nat) "CodeJudge$Judge" "stacks" "[I") ∈ TB := tb_1 106 rfl rfl
theorem tw_1_107 : (Jvm.Cond.fieldLink "CodeJudge$Judge" (18 : Nat) "CodeJudge$Judge" "intLocals" "[I") ∈ TB := tb_1 107 rfl rfl
theorem tw_1_108 : (Jvm.Cond.fieldLink "CodeJudge$Judge" (21 : Nat) "CodeJudge$Judge" "arrayLocals" "[I") ∈ TB := tb_1 108 rfl rfl
theorem tw_1_109 : (Jvm.Cond.fieldLink "CodeJudge$Judge" (24 : Nat) "CodeJudge$Judge" "waiting" "[I") ∈ TB := tb_1 109 rfl rfl
theorem tw_1_110 : (Jvm.Cond.fieldLink "CodeJudge$Judge" (27 : Nat) "CodeJudge$Judge" "waits" "[Z") ∈ TB := tb_1 110 rfl rfl
theorem tw_1_111 : (Jvm.Cond.fieldLink "CodeJudge$Judge" (46 : Nat) "CodeJudge$Judge" "waitingSize" "I") ∈ TB := tb_1 111 rfl rfl
theorem tw_1_112 : (Jvm.Cond.fieldLink "CodeJudge$Judge" (34 : Nat) "CodeJudge$Judge" "now" "LCodeJudge$Shape;") ∈ TB := tb_1 112 rfl rfl
theorem tw_1_113 : (Jvm.Cond.laysFinal "CodeJudge$Judge" "CodeJudge$Judge" "heights" "[I") ∈ TB := tb_1 113 rfl rfl
theorem tw_1_115 : (Jvm.Cond.laysFinal "CodeJudge$Judge" "CodeJudge$Judge" "stacks" "[I") ∈ TB := tb_1 115 rfl rfl
theorem tw_1_117 : (Jvm.Cond.laysFinal "CodeJudge$Judge" "CodeJudge$Judge" "intLocals" "[I") ∈ TB := tb_1 117 rfl rfl
theorem tw_1_119 : (Jvm.Cond.laysFinal "CodeJudge$Judge" "CodeJudge$Judge" "arrayLocals" "[I") ∈ TB := tb_1 119 rfl rfl
theorem tw_1_121 : (Jvm.Cond.laysFinal "CodeJudge$Judge" "CodeJudge$Judge" "waiting" "[I") ∈ TB := tb_1 121 rfl rfl
theorem tw_1_123 : (Jvm.Cond.laysFinal "CodeJudge$Judge" "CodeJudge$Judge" "waits" "[Z") ∈ TB := tb_1 123 rfl rfl
theorem tw_1_125 : (Jvm.Cond.lays "CodeJudge$Judge" "CodeJudge$Judge" "waitingSize" "I") ∈ TB := tb_1 125 rfl rfl
theorem tw_1_127 : (Jvm.Cond.laysFinal "CodeJudge$Judge" "CodeJudge$Judge" "now" "LCodeJudge$Shape;") ∈ TB := tb_1 127 rfl rfl
theorem tw_1_130 : (Jvm.Cond.classLink "CodeJudge" (23 : Nat) "CodeJudge$Machine") ∈ TB := tb_1 130 rfl rfl
theorem tw_1_131 : (Jvm.Cond.instantiable "CodeJudge$Machine" (7 : Nat)) ∈ TB := tb_1 131 rfl rfl
theorem tw_1_132 : (Jvm.Cond.methodLink "CodeJudge" (25 : Nat) ({ cls := "CodeJudge$Machine", name := "<init>", desc := "()V" } : Jvm.MethodName)) ∈ TB := tb_1 132 rfl rfl
theorem tw_1_133 : (Jvm.Cond.instanceMethod ({ cls := "CodeJudge$Machine", name := "<init>", desc := "()V" } : Jvm.MethodName)) ∈ TB := tb_1 133 rfl rfl
theorem tw_1_134 : (Jvm.Cond.code ({ cls := "CodeJudge$Machine", name := "<init>", desc := "()V" } : Jvm.MethodName) prog_5_method_1_code (1 : Nat) (Option.none : Option Jvm.ClassFile.FieldType)) ∈ TB := tb_1 134 rfl rfl
theorem tw_1_135 : (Jvm.Cond.methodLink "CodeJudge$Machine" (3 : Nat) ({ cls := "java/lang/Object", name := "<init>", desc := "()V" } : Jvm.MethodName)) ∈ TB := tb_1 135 rfl rfl
theorem tw_1_136 : (Jvm.Cond.classLink "CodeJudge$Machine" (9 : Nat) "CodeJudge$Frames") ∈ TB := tb_1 136 rfl rfl
theorem tw_1_137 : (Jvm.Cond.instantiable "CodeJudge$Frames" (6 : Nat)) ∈ TB := tb_1 137 rfl rfl
theorem tw_1_138 : (Jvm.Cond.methodLink "CodeJudge$Machine" (11 : Nat) ({ cls := "CodeJudge$Frames", name := "<init>", desc := "()V" } : Jvm.MethodName)) ∈ TB := tb_1 138 rfl rfl
theorem tw_1_139 : (Jvm.Cond.instanceMethod ({ cls := "CodeJudge$Frames", name := "<init>", desc := "()V" } : Jvm.MethodName)) ∈ TB := tb_1 139 rfl rfl
theorem tw_1_140 : (Jvm.Cond.code ({ cls := "CodeJudge$Frames", name := "<init>", desc := "()V" } : Jvm.MethodName) prog_2_method_1_code (1 : Nat) (Option.none : Option Jvm.ClassFile.FieldType)) ∈ TB := tb_1 140 rfl rfl
theorem tw_1_141 : (Jvm.Cond.methodLink "CodeJudge$Frames" (3 : Nat) ({ cls := "java/lang/Object", name := "<init>", desc := "()V" } : Jvm.MethodName)) ∈ TB := tb_1 141 rfl rfl
theorem tw_1_142 : (Jvm.Cond.fieldLink "CodeJudge$Frames" (27 : Nat) "CodeJudge$Frames" "open" "I") ∈ TB := tb_1 142 rfl rfl
theorem tw_1_143 : (Jvm.Cond.fieldLink "CodeJudge$Machine" (50 : Nat) "CodeJudge$Frames" "open" "I") ∈ TB := tb_1 143 rfl rfl
theorem tw_1_144 : (Jvm.Cond.fieldLink "CodeJudge" (133 : Nat) "CodeJudge$Frames" "open" "I") ∈ TB := tb_1 144 rfl rfl
theorem tw_1_145 : (Jvm.Cond.fieldLink "CodeJudge$Frames" (11 : Nat) "CodeJudge$Frames" "numbers" "[I") ∈ TB := tb_1 145 rfl rfl
theorem tw_1_146 : (Jvm.Cond.fieldLink "CodeJudge$Frames" (15 : Nat) "CodeJudge$Frames" "places" "[I") ∈ TB := tb_1 146 rfl rfl
theorem tw_1_147 : (Jvm.Cond.fieldLink "CodeJudge$Frames" (18 : Nat) "CodeJudge$Frames" "heights" "[I") ∈ TB := tb_1 147 rfl rfl
theorem tw_1_148 : (Jvm.Cond.fieldLink "CodeJudge$Frames" (21 : Nat) "CodeJudge$Frames" "locals" "[I") ∈ TB := tb_1 148 rfl rfl
theorem tw_1_149 : (Jvm.Cond.fieldLink "CodeJudge$Frames" (24 : Nat) "CodeJudge$Frames" "stacks" "[I") ∈ TB := tb_1 149 rfl rfl
theorem tw_1_150 : (Jvm.Cond.lays "CodeJudge$Frames" "CodeJudge$Frames" "open" "I") ∈ TB := tb_1 150 rfl rfl
theorem tw_1_152 : (Jvm.Cond.laysFinal "CodeJudge$Frames" "CodeJudge$Frames" "numbers" "[I") ∈ TB := tb_1 152 rfl rfl
theorem tw_1_154 : (Jvm.Cond.laysFinal "CodeJudge$Frames" "CodeJudge$Frames" "places" "[I") ∈ TB := tb_1 154 rfl rfl
theorem tw_1_156 : (Jvm.Cond.laysFinal "CodeJudge$Frames" "CodeJudge$Frames" "heights" "[I") ∈ TB := tb_1 156 rfl rfl
theorem tw_1_158 : (Jvm.Cond.laysFinal "CodeJudge$Frames" "CodeJudge$Frames" "locals" "[I") ∈ TB := tb_1 158 rfl rfl
theorem tw_1_160 : (Jvm.Cond.laysFinal "CodeJudge$Frames" "CodeJudge$Frames" "stacks" "[I") ∈ TB := tb_1 160 rfl rfl
theorem tw_1_163 : (Jvm.Cond.classLink "CodeJudge$Machine" (18 : Nat) "CodeJudge$Heap") ∈ TB := tb_1 163 rfl rfl
theorem tw_1_164 : (Jvm.Cond.instantiable "CodeJudge$Heap" (5 : Nat)) ∈ TB := tb_1 164 rfl rfl
theorem tw_1_165 : (Jvm.Cond.methodLink "CodeJudge$Machine" (20 : Nat) ({ cls := "CodeJudge$Heap", name := "<init>", desc := "()V" } : Jvm.MethodName)) ∈ TB := tb_1 165 rfl rfl
theorem tw_1_166 : (Jvm.Cond.instanceMethod ({ cls := "CodeJudge$Heap", name := "<init>", desc := "()V" } : Jvm.MethodName)) ∈ TB := tb_1 166 rfl rfl
theorem tw_1_167 : (Jvm.Cond.code ({ cls := "CodeJudge$Heap", name := "<init>", desc := "()V" } : Jvm.MethodName) prog_3_method_1_code (1 : Nat) (Option.none : Option Jvm.ClassFile.FieldType)) ∈ TB := tb_1 167 rfl rfl
theorem tw_1_168 : (Jvm.Cond.methodLink "CodeJudge$Heap" (3 : Nat) ({ cls := "java/lang/Object", name := "<init>", desc := "()V" } : Jvm.MethodName)) ∈ TB := tb_1 168 rfl rfl
theorem tw_1_169 : (Jvm.Cond.fieldLink "CodeJudge$Heap" (21 : Nat) "CodeJudge$Heap" "arrays" "I") ∈ TB := tb_1 169 rfl rfl
theorem tw_1_170 : (Jvm.Cond.fieldLink "CodeJudge$Machine" (85 : Nat) "CodeJudge$Heap" "arrays" "I") ∈ TB := tb_1 170 rfl rfl
theorem tw_1_171 : (Jvm.Cond.fieldLink "CodeJudge$Heap" (25 : Nat) "CodeJudge$Heap" "used" "I") ∈ TB := tb_1 171 rfl rfl
theorem tw_1_172 : (Jvm.Cond.fieldLink "CodeJudge$Machine" (88 : Nat) "CodeJudge$Heap" "used" "I") ∈ TB := tb_1 172 rfl rfl
theorem tw_1_173 : (Jvm.Cond.fieldLink "CodeJudge$Heap" (11 : Nat) "CodeJudge$Heap" "begins" "[I") ∈ TB := tb_1 173 rfl rfl
theorem tw_1_174 : (Jvm.Cond.fieldLink "CodeJudge$Heap" (15 : Nat) "CodeJudge$Heap" "lengths" "[I") ∈ TB := tb_1 174 rfl rfl
theorem tw_1_175 : (Jvm.Cond.fieldLink "CodeJudge$Heap" (18 : Nat) "CodeJudge$Heap" "cells" "[I") ∈ TB := tb_1 175 rfl rfl
theorem tw_1_176 : (Jvm.Cond.lays "CodeJudge$Heap" "CodeJudge$Heap" "arrays" "I") ∈ TB := tb_1 176 rfl rfl
theorem tw_1_178 : (Jvm.Cond.lays "CodeJudge$Heap" "CodeJudge$Heap" "used" "I") ∈ TB := tb_1 178 rfl rfl
theorem tw_1_180 : (Jvm.Cond.laysFinal "CodeJudge$Heap" "CodeJudge$Heap" "begins" "[I") ∈ TB := tb_1 180 rfl rfl
theorem tw_1_182 : (Jvm.Cond.laysFinal "CodeJudge$Heap" "CodeJudge$Heap" "lengths" "[I") ∈ TB := tb_1 182 rfl rfl
theorem tw_1_184 : (Jvm.Cond.laysFinal "CodeJudge$Heap" "CodeJudge$Heap" "cells" "[I") ∈ TB := tb_1 184 rfl rfl
theorem tw_1_187 : (Jvm.Cond.classLink "CodeJudge$Machine" (25 : Nat) "CodeJudge$Outputs") ∈ TB := tb_1 187 rfl rfl
theorem tw_1_188 : (Jvm.Cond.instantiable "CodeJudge$Outputs" (2 : Nat)) ∈ TB := tb_1 188 rfl rfl
theorem tw_1_189 : (Jvm.Cond.methodLink "CodeJudge$Machine" (27 : Nat) ({ cls := "CodeJudge$Outputs", name := "<init>", desc := "()V" } : Jvm.MethodName)) ∈ TB := tb_1 189 rfl rfl
theorem tw_1_190 : (Jvm.Cond.instanceMethod ({ cls := "CodeJudge$Outputs", name := "<init>", desc := "()V" } : Jvm.MethodName)) ∈ TB := tb_1 190 rfl rfl
theorem tw_1_191 : (Jvm.Cond.code ({ cls := "CodeJudge$Outputs", name := "<init>", desc := "()V" } : Jvm.MethodName) prog_8_method_1_code (1 : Nat) (Option.none : Option Jvm.ClassFile.FieldType)) ∈ TB := tb_1 191 rfl rfl
theorem tw_1_192 : (Jvm.Cond.methodLink "CodeJudge$Outputs" (1 : Nat) ({ cls := "java/lang/Object", name := "<init>", desc := "()V" } : Jvm.MethodName)) ∈ TB := tb_1 192 rfl rfl
theorem tw_1_193 : (Jvm.Cond.fieldLink "CodeJudge$Outputs" (13 : Nat) "CodeJudge$Outputs" "total" "I") ∈ TB := tb_1 193 rfl rfl
theorem tw_1_194 : (Jvm.Cond.fieldLink "CodeJudge$Machine" (91 : Nat) "CodeJudge$Outputs" "total" "I") ∈ TB := tb_1 194 rfl rfl
theorem tw_1_195 : (Jvm.Cond.fieldLink "CodeJudge$Outputs" (9 : Nat) "CodeJudge$Outputs" "latest" "[I") ∈ TB := tb_1 195 rfl rfl
theorem tw_1_196 : (Jvm.Cond.lays "CodeJudge$Outputs" "CodeJudge$Outputs" "total" "I") ∈ TB := tb_1 196 rfl rfl
theorem tw_1_198 : (Jvm.Cond.laysFinal "CodeJudge$Outputs" "CodeJudge$Outputs" "latest" "[I") ∈ TB := tb_1 198 rfl rfl
theorem tw_1_201 : (Jvm.Cond.fieldLink "CodeJudge$Machine" (32 : Nat) "CodeJudge$Machine" "there" "Z") ∈ TB := tb_1 201 rfl rfl
theorem tw_1_202 : (Jvm.Cond.fieldLink "CodeJudge" (128 : Nat) "CodeJudge$Machine" "there" "Z") ∈ TB := tb_1 202 rfl rfl
theorem tw_1_203 : (Jvm.Cond.fieldLink "CodeJudge$Machine" (12 : Nat) "CodeJudge$Machine" "frames" "LCodeJudge$Frames;") ∈ TB := tb_1 203 rfl rfl
theorem tw_1_204 : (Jvm.Cond.fieldLink "CodeJudge" (129 : Nat) "CodeJudge$Machine" "frames" "LCodeJudge$Frames;") ∈ TB := tb_1 204 rfl rfl
theorem tw_1_205 : (Jvm.Cond.fieldLink "CodeJudge$Machine" (21 : Nat) "CodeJudge$Machine" "heap" "LCodeJudge$Heap;") ∈ TB := tb_1 205 rfl rfl
theorem tw_1_206 : (Jvm.Cond.fieldLink "CodeJudge" (151 : Nat) "CodeJudge$Machine" "heap" "LCodeJudge$Heap;") ∈ TB := tb_1 206 rfl rfl
theorem tw_1_207 : (Jvm.Cond.fieldLink "CodeJudge$Machine" (28 : Nat) "CodeJudge$Machine" "outputs" "LCodeJudge$Outputs;") ∈ TB := tb_1 207 rfl rfl
theorem tw_1_208 : (Jvm.Cond.fieldLink "CodeJudge" (169 : Nat) "CodeJudge$Machine" "outputs" "LCodeJudge$Outputs;") ∈ TB := tb_1 208 rfl rfl
theorem tw_1_209 : (Jvm.Cond.fieldLink "CodeJudge$Machine" (36 : Nat) "CodeJudge$Machine" "outcome" "I") ∈ TB := tb_1 209 rfl rfl
theorem tw_1_210 : (Jvm.Cond.fieldLink "CodeJudge$Machine" (40 : Nat) "CodeJudge$Machine" "steps" "I") ∈ TB := tb_1 210 rfl rfl
theorem tw_1_211 : (Jvm.Cond.fieldLink "CodeJudge$Machine" (43 : Nat) "CodeJudge$Machine" "returned" "I") ∈ TB := tb_1 211 rfl rfl
theorem tw_1_212 : (Jvm.Cond.lays "CodeJudge$Machine" "CodeJudge$Machine" "there" "Z") ∈ TB := tb_1 212 rfl rfl
theorem tw_1_214 : (Jvm.Cond.laysFinal "CodeJudge$Machine" "CodeJudge$Machine" "frames" "LCodeJudge$Frames;") ∈ TB := tb_1 214 rfl rfl
theorem tw_1_216 : (Jvm.Cond.laysFinal "CodeJudge$Machine" "CodeJudge$Machine" "heap" "LCodeJudge$Heap;") ∈ TB := tb_1 216 rfl rfl
theorem tw_1_218 : (Jvm.Cond.laysFinal "CodeJudge$Machine" "CodeJudge$Machine" "outputs" "LCodeJudge$Outputs;") ∈ TB := tb_1 218 rfl rfl
theorem tw_1_220 : (Jvm.Cond.lays "CodeJudge$Machine" "CodeJudge$Machine" "outcome" "I") ∈ TB := tb_1 220 rfl rfl
theorem tw_1_222 : (Jvm.Cond.lays "CodeJudge$Machine" "CodeJudge$Machine" "steps" "I") ∈ TB := tb_1 222 rfl rfl
theorem tw_1_224 : (Jvm.Cond.lays "CodeJudge$Machine" "CodeJudge$Machine" "returned" "I") ∈ TB := tb_1 224 rfl rfl
theorem tw_1_227 : (Jvm.Cond.fieldLink "CodeJudge" (11 : Nat) "CodeJudge" "methods" "[LCodeJudge$Method;") ∈ TB := tb_1 227 rfl rfl
theorem tw_1_228 : (Jvm.Cond.fieldLink "CodeJudge" (19 : Nat) "CodeJudge" "judge" "LCodeJudge$Judge;") ∈ TB := tb_1 228 rfl rfl
theorem tw_1_229 : (Jvm.Cond.fieldLink "CodeJudge" (26 : Nat) "CodeJudge" "machine" "LCodeJudge$Machine;") ∈ TB := tb_1 229 rfl rfl
theorem tw_1_230 : (Jvm.Cond.laysFinal "CodeJudge" "CodeJudge" "methods" "[LCodeJudge$Method;") ∈ TB := tb_1 230 rfl rfl
theorem tw_1_232 : (Jvm.Cond.laysFinal "CodeJudge" "CodeJudge" "judge" "LCodeJudge$Judge;") ∈ TB := tb_1 232 rfl rfl
theorem tw_1_234 : (Jvm.Cond.laysFinal "CodeJudge" "CodeJudge" "machine" "LCodeJudge$Machine;") ∈ TB := tb_1 234 rfl rfl
theorem tw_1_237 : (Jvm.Cond.methodLink "CodeJudgeLaw" (68 : Nat) ({ cls := "CodeJudgeLaw", name := "method", desc := "(LCodeJudge;IIIIII[J)I" } : Jvm.MethodName)) ∈ TB := tb_1 237 rfl rfl
theorem tw_1_238 : (Jvm.Cond.static ({ cls := "CodeJudgeLaw", name := "method", desc := "(LCodeJudge;IIIIII[J)I" } : Jvm.MethodName)) ∈ TB := tb_1 238 rfl rfl
theorem tw_1_239 : (Jvm.Cond.codeWith ({ cls := "CodeJudgeLaw", name := "method", desc := "(LCodeJudge;IIIIII[J)I" } : Jvm.MethodName) method_3_code (9 : Nat) (Option.some Jvm.ClassFile.FieldType.int) [((0 : Nat), (25 : Nat), (28 : Nat), (13 : Nat)), ((0 : Nat), (25 : Nat), (32 : Nat), (15 : Nat))]) ∈ TB := tb_1 239 rfl rfl
theorem tw_2_0 : (Jvm.Cond.classLink "CodeJudgeLaw" (13 : Nat) "java/util/NoSuchElementException") ∈ TB := tb_2 0 rfl rfl
theorem tw_2_1 : (Jvm.Cond.classLink "CodeJudgeLaw" (15 : Nat) "java/lang/IllegalArgumentException") ∈ TB := tb_2 1 rfl rfl
theorem tw_2_2 : (Jvm.Cond.methodLink "CodeJudgeLaw" (7 : Nat) ({ cls := "CodeJudge", name := "method", desc := "(IIIIII)Z" } : Jvm.MethodName)) ∈ TB := tb_2 2 rfl rfl
theorem tw_2_3 : (Jvm.Cond.instanceMethod ({ cls := "CodeJudge", name := "method", desc := "(IIIIII)Z" } : Jvm.MethodName)) ∈ TB := tb_2 3 rfl rfl
theorem tw_2_4 : (Jvm.Cond.selects "CodeJudge" ({ cls := "CodeJudge", name := "method", desc := "(IIIIII)Z" } : Jvm.MethodName) ({ cls := "CodeJudge", name := "method", desc := "(IIIIII)Z" } : Jvm.MethodName)) ∈ TB := tb_2 4 rfl rfl
theorem tw_2_5 : (Jvm.Cond.code ({ cls := "CodeJudge", name := "method", desc := "(IIIIII)Z" } : Jvm.MethodName) prog_1_method_2_code (9 : Nat) (Option.some Jvm.ClassFile.FieldType.boolean)) ∈ TB := tb_2 5 rfl rfl
theorem tw_2_6 : (Jvm.Cond.methodLink "CodeJudge" (30 : Nat) ({ cls := "CodeJudge", name := "isBelow", desc := "(II)Z" } : Jvm.MethodName)) ∈ TB := tb_2 6 rfl rfl
theorem tw_2_7 : (Jvm.Cond.static ({ cls := "CodeJudge", name := "isBelow", desc := "(II)Z" } : Jvm.MethodName)) ∈ TB := tb_2 7 rfl rfl
theorem tw_2_8 : (Jvm.Cond.code ({ cls := "CodeJudge", name := "isBelow", desc := "(II)Z" } : Jvm.MethodName) prog_1_method_17_code (2 : Nat) (Option.some Jvm.ClassFile.FieldType.boolean)) ∈ TB := tb_2 8 rfl rfl
theorem tw_2_9 : (Jvm.Cond.classLink "CodeJudge" (34 : Nat) "java/util/NoSuchElementException") ∈ TB := tb_2 9 rfl rfl
theorem tw_2_10 : (Jvm.Cond.instantiable "java/util/NoSuchElementException" (6 : Nat)) ∈ TB := tb_2 10 rfl rfl
theorem tw_2_18 : (Jvm.Cond.selects "java/util/NoSuchElementException" ({ cls := "java/lang/Throwable", name := "fillInStackTrace", desc := "(I)Ljava/lang/Throwable;" } : Jvm.MethodName) ({ cls := "java/lang/Throwable", name := "fillInStackTrace", desc := "(I)Ljava/lang/Throwable;" } : Jvm.MethodName)) ∈ TB := tb_2 18 rfl rfl
theorem tw_2_19 : (Jvm.Cond.selects "java/util/NoSuchElementException" ({ cls := "java/lang/Throwable", name := "fillInStackTrace", desc := "()Ljava/lang/Throwable;" } : Jvm.MethodName) ({ cls := "java/lang/Throwable", name := "fillInStackTrace", desc := "()Ljava/lang/Throwable;" } : Jvm.MethodName)) ∈ TB := tb_2 19 rfl rfl
theorem tw_2_20 : (Jvm.Cond.lays "java/util/NoSuchElementException" "java/lang/Throwable" "cause" "Ljava/lang/Throwable;") ∈ TB := tb_2 20 rfl rfl
theorem tw_2_21 : (Jvm.Cond.lays "java/lang/Throwable" "java/lang/Throwable" "cause" "Ljava/lang/Throwable;") ∈ TB := tb_2 21 rfl rfl
theorem tw_2_22 : (Jvm.Cond.lays "java/util/NoSuchElementException" "java/lang/Throwable" "stackTrace" "[Ljava/lang/StackTraceElement;") ∈ TB := tb_2 22 rfl rfl
theorem tw_2_23 : (Jvm.Cond.lays "java/lang/Throwable" "java/lang/Throwable" "stackTrace" "[Ljava/lang/StackTraceElement;") ∈ TB := tb_2 23 rfl rfl
theorem tw_2_24 : (Jvm.Cond.lays "java/util/NoSuchElementException" "java/lang/Throwable" "suppressedExceptions" "Ljava/util/List;") ∈ TB := tb_2 24 rfl rfl
theorem tw_2_25 : (Jvm.Cond.lays "java/lang/Throwable" "java/lang/Throwable" "suppressedExceptions" "Ljava/util/List;") ∈ TB := tb_2 25 rfl rfl
theorem tw_2_26 : (Jvm.Cond.lays "java/util/NoSuchElementException" "java/lang/Throwable" "detailMessage" "Ljava/lang/String;") ∈ TB := tb_2 26 rfl rfl
theorem tw_2_27 : (Jvm.Cond.lays "java/lang/Throwable" "java/lang/Throwable" "detailMessage" "Ljava/lang/String;") ∈ TB := tb_2 27 rfl rfl
theorem tw_2_28 : (Jvm.Cond.lays "java/util/NoSuchElementException" "java/lang/Throwable" "backtrace" "Ljava/lang/Object;") ∈ TB := tb_2 28 rfl rfl
theorem tw_2_29 : (Jvm.Cond.lays "java/lang/Throwable" "java/lang/Throwable" "backtrace" "Ljava/lang/Object;") ∈ TB := tb_2 29 rfl rfl
theorem tw_2_30 : (Jvm.Cond.fieldLink "java/lang/Throwable" (198 : Nat) "java/lang/Throwable" "backtrace" "Ljava/lang/Object;") ∈ TB := tb_2 30 rfl rfl
theorem tw_2_32 : (Jvm.Cond.instanceMethod ({ cls := "java/lang/Throwable", name := "<init>", desc := "()V" } : Jvm.MethodName)) ∈ TB := tb_2 32 rfl rfl
theorem tw_2_33 : (Jvm.Cond.code ({ cls := "java/lang/Throwable", name := "<init>", desc := "()V" } : Jvm.MethodName) prog_18_method_1_code (1 : Nat) (Option.none : Option Jvm.ClassFile.FieldType)) ∈ TB := tb_2 33 rfl rfl
theorem tw_2_34 : (Jvm.Cond.methodLink "java/lang/Throwable" (1 : Nat) ({ cls := "java/lang/Object", name := "<init>", desc := "()V" } : Jvm.MethodName)) ∈ TB := tb_2 34 rfl rfl
theorem tw_2_35 : (Jvm.Cond.fieldLink "java/lang/Throwable" (13 : Nat) "java/lang/Throwable" "UNASSIGNED_STACK" "[Ljava/lang/StackTraceElement;") ∈ TB := tb_2 35 rfl rfl
theorem tw_2_37 : (Jvm.Cond.fieldLink "java/lang/Throwable" (20 : Nat) "java/lang/Throwable" "SUPPRESSED_SENTINEL" "Ljava/util/List;") ∈ TB := tb_2 37 rfl rfl
theorem tw_2_39 : (Jvm.Cond.methodLink "java/lang/Throwable" (27 : Nat) ({ cls := "java/lang/Throwable", name := "fillInStackTrace", desc := "()Ljava/lang/Throwable;" } : Jvm.MethodName)) ∈ TB := tb_2 39 rfl rfl
theorem tw_2_40 : (Jvm.Cond.instanceMethod ({ cls := "java/lang/Throwable", name := "fillInStackTrace", desc := "()Ljava/lang/Throwable;" } : Jvm.MethodName)) ∈ TB := tb_2 40 rfl rfl
theorem tw_2_41 : (Jvm.Cond.sameMethod "java/lang/Throwable" "java/lang/Throwable" "fillInStackTrace" "()Ljava/lang/Throwable;") ∈ TB := tb_2 41 rfl rfl
theorem tw_2_42 : (Jvm.Cond.selects "java/lang/IllegalArgumentException" ({ cls := "java/lang/Throwable", name := "fillInStackTrace", desc := "()Ljava/lang/Throwable;" } : Jvm.MethodName) ({ cls := "java/lang/Throwable", name := "fillInStackTrace", desc := "()Ljava/lang/Throwable;" } : Jvm.MethodName)) ∈ TB := tb_2 42 rfl rfl
theorem tw_2_43 : (Jvm.Cond.selects "java/lang/IllegalStateException" ({ cls := "java/lang/Throwable", name := "fillInStackTrace", desc := "()Ljava/lang/Throwable;" } : Jvm.MethodName) ({ cls := "java/lang/Throwable", name := "fillInStackTrace", desc := "()Ljava/lang/Throwable;" } : Jvm.MethodName)) ∈ TB := tb_2 43 rfl rfl
theorem tw_2_44 : (Jvm.Cond.codeSync ({ cls := "java/lang/Throwable", name := "fillInStackTrace", desc := "()Ljava/lang/Throwable;" } : Jvm.MethodName) prog_18_method_18_code (1 : Nat) (Option.some (Jvm.ClassFile.FieldType.object "java/lang/Throwable"))) ∈ TB := tb_2 44 rfl rfl
theorem tw_2_45 : (Jvm.Cond.methodLink "java/lang/Throwable" (202 : Nat) ({ cls := "java/lang/Throwable", name := "fillInStackTrace", desc := "(I)Ljava/lang/Throwable;" } : Jvm.MethodName)) ∈ TB := tb_2 45 rfl rfl
theorem tw_2_47 : (Jvm.Cond.instanceMethod ({ cls := "java/lang/Throwable", name := "fillInStackTrace", desc := "(I)Ljava/lang/Throwable;" } : Jvm.MethodName)) ∈ TB := tb_2 47 rfl rfl
theorem tw_2_48 : (Jvm.Cond.instantiable "java/lang/Throwable" (6 : Nat)) ∈ TB := tb_2 48 rfl rfl
theorem tw_2_49 : (Jvm.Cond.native ({ cls := "java/lang/Throwable", name := "fillInStackTrace", desc := "(I)Ljava/lang/Throwable;" } : Jvm.MethodName)) ∈ TB := tb_2 49 rfl rfl
theorem tw_2_50 : (Jvm.Cond.methodLink "CodeJudge" (36 : Nat) ({ cls := "java/util/NoSuchElementException", name := "<init>", desc := "()V" } : Jvm.MethodName)) ∈ TB := tb_2 50 rfl rfl
theorem tw_2_51 : (Jvm.Cond.instanceMethod ({ cls := "java/util/NoSuchElementException", name := "<init>", desc := "()V" } : Jvm.MethodName)) ∈ TB := tb_2 51 rfl rfl
theorem tw_2_52 : (Jvm.Cond.code ({ cls := "java/util/NoSuchElementException", name := "<init>", desc := "()V" } : Jvm.MethodName) prog_19_method_1_code (1 : Nat) (Option.none : Option Jvm.ClassFile.FieldType)) ∈ TB := tb_2 52 rfl rfl
theorem tw_2_53 : (Jvm.Cond.methodLink "java/util/NoSuchElementException" (1 : Nat) ({ cls := "java/lang/RuntimeException", name := "<init>", desc := "()V" } : Jvm.MethodName)) ∈ TB := tb_2 53 rfl rfl
theorem tw_2_54 : (Jvm.Cond.instanceMethod ({ cls := "java/lang/RuntimeException", name := "<init>", desc := "()V" } : Jvm.MethodName)) ∈ TB := tb_2 54 rfl rfl
theorem tw_2_55 : (Jvm.Cond.code ({ cls := "java/lang/RuntimeException", name := "<init>", desc := "()V" } : Jvm.MethodName) prog_17_method_1_code (1 : Nat) (Option.none : Option Jvm.ClassFile.FieldType)) ∈ TB := tb_2 55 rfl rfl
theorem tw_2_56 : (Jvm.Cond.methodLink "java/lang/RuntimeException" (1 : Nat) ({ cls := "java/lang/Exception", name := "<init>", desc := "()V" } : Jvm.MethodName)) ∈ TB := tb_2 56 rfl rfl
theorem tw_2_57 : (Jvm.Cond.instanceMethod ({ cls := "java/lang/Exception", name := "<init>", desc := "()V" } : Jvm.MethodName)) ∈ TB := tb_2 57 rfl rfl
theorem tw_2_58 : (Jvm.Cond.code ({ cls := "java/lang/Exception", name := "<init>", desc := "()V" } : Jvm.MethodName) prog_12_method_1_code (1 : Nat) (Option.none : Option Jvm.ClassFile.FieldType)) ∈ TB := tb_2 58 rfl rfl
theorem tw_2_59 : (Jvm.Cond.methodLink "java/lang/Exception" (1 : Nat) ({ cls := "java/lang/Throwable", name := "<init>", desc := "()V" } : Jvm.MethodName)) ∈ TB := tb_2 59 rfl rfl
theorem tw_2_60 : (Jvm.Cond.fieldLink "java/lang/Throwable" (198 : Nat) "java/lang/Throwable" "backtrace" "Ljava/lang/Object;") ∈ TB := tb_2 60 rfl rfl
theorem tw_2_61 : (Jvm.Cond.fieldLink "java/lang/Throwable" (7 : Nat) "java/lang/Throwable" "cause" "Ljava/lang/Throwable;") ∈ TB := tb_2 61 rfl rfl
theorem tw_2_62 : (Jvm.Cond.fieldLink "java/lang/Throwable" (17 : Nat) "java/lang/Throwable" "stackTrace" "[Ljava/lang/StackTraceElement;") ∈ TB := tb_2 62 rfl rfl
theorem tw_2_63 : (Jvm.Cond.fieldLink "java/lang/Throwable" (24 : Nat) "java/lang/Throwable" "suppressedExceptions" "Ljava/util/List;") ∈ TB := tb_2 63 rfl rfl
theorem tw_2_68 : (Jvm.Cond.lays "java/util/NoSuchElementException" "java/lang/Throwable" "depth" "I") ∈ TB := tb_2 68 rfl rfl
theorem tw_2_72 : (Jvm.Cond.classLink "CodeJudge" (37 : Nat) "java/lang/IllegalArgumentException") ∈ TB := tb_2 72 rfl rfl
theorem tw_2_73 : (Jvm.Cond.instantiable "java/lang/IllegalArgumentException" (6 : Nat)) ∈ TB := tb_2 73 rfl rfl
theorem tw_2_75 : (Jvm.Cond.selects "java/lang/IllegalArgumentException" ({ cls := "java/lang/Throwable", name := "fillInStackTrace", desc := "(I)Ljava/lang/Throwable;" } : Jvm.MethodName) ({ cls := "java/lang/Throwable", name := "fillInStackTrace", desc := "(I)Ljava/lang/Throwable;" } : Jvm.MethodName)) ∈ TB := tb_2 75 rfl rfl
theorem tw_2_76 : (Jvm.Cond.lays "java/lang/IllegalArgumentException" "java/lang/Throwable" "cause" "Ljava/lang/Throwable;") ∈ TB := tb_2 76 rfl rfl
theorem tw_2_77 : (Jvm.Cond.lays "java/lang/IllegalArgumentException" "java/lang/Throwable" "stackTrace" "[Ljava/lang/StackTraceElement;") ∈ TB := tb_2 77 rfl rfl
theorem tw_2_78 : (Jvm.Cond.lays "java/lang/IllegalArgumentException" "java/lang/Throwable" "suppressedExceptions" "Ljava/util/List;") ∈ TB := tb_2 78 rfl rfl
theorem tw_2_79 : (Jvm.Cond.lays "java/lang/IllegalArgumentException" "java/lang/Throwable" "detailMessage" "Ljava/lang/String;") ∈ TB := tb_2 79 rfl rfl
theorem tw_2_80 : (Jvm.Cond.lays "java/lang/IllegalArgumentException" "java/lang/Throwable" "backtrace" "Ljava/lang/Object;") ∈ TB := tb_2 80 rfl rfl
theorem tw_2_81 : (Jvm.Cond.methodLink "CodeJudge" (39 : Nat) ({ cls := "java/lang/IllegalArgumentException", name := "<init>", desc := "()V" } : Jvm.MethodName)) ∈ TB := tb_2 81 rfl rfl
theorem tw_2_82 : (Jvm.Cond.instanceMethod ({ cls := "java/lang/IllegalArgumentException", name := "<init>", desc := "()V" } : Jvm.MethodName)) ∈ TB := tb_2 82 rfl rfl
theorem tw_2_83 : (Jvm.Cond.code ({ cls := "java/lang/IllegalArgumentException", name := "<init>", desc := "()V" } : Jvm.MethodName) prog_13_method_1_code (1 : Nat) (Option.none : Option Jvm.ClassFile.FieldType)) ∈ TB := tb_2 83 rfl rfl
theorem tw_2_84 : (Jvm.Cond.methodLink "java/lang/IllegalArgumentException" (1 : Nat) ({ cls := "java/lang/RuntimeException", name := "<init>", desc := "()V" } : Jvm.MethodName)) ∈ TB := tb_2 84 rfl rfl
theorem tw_2_85 : (Jvm.Cond.lays "java/lang/IllegalArgumentException" "java/lang/Throwable" "depth" "I") ∈ TB := tb_2 85 rfl rfl
theorem tw_2_87 : (Jvm.Cond.methodLink "CodeJudge" (44 : Nat) ({ cls := "CodeJudge$Method", name := "begin", desc := "(IIIII)V" } : Jvm.MethodName)) ∈ TB := tb_2 87 rfl rfl
theorem tw_2_88 : (Jvm.Cond.instanceMethod ({ cls := "CodeJudge$Method", name := "begin", desc := "(IIIII)V" } : Jvm.MethodName)) ∈ TB := tb_2 88 rfl rfl
theorem tw_2_89 : (Jvm.Cond.selects "CodeJudge$Method" ({ cls := "CodeJudge$Method", name := "begin", desc := "(IIIII)V" } : Jvm.MethodName) ({ cls := "CodeJudge$Method", name := "begin", desc := "(IIIII)V" } : Jvm.MethodName)) ∈ TB := tb_2 89 rfl rfl
theorem tw_2_90 : (Jvm.Cond.code ({ cls := "CodeJudge$Method", name := "begin", desc := "(IIIII)V" } : Jvm.MethodName) prog_6_method_2_code (6 : Nat) (Option.none : Option Jvm.ClassFile.FieldType)) ∈ TB := tb_2 90 rfl rfl
theorem tw_2_91 : (Jvm.Cond.methodLink "CodeJudge" (48 : Nat) ({ cls := "CodeJudge$Machine", name := "forget", desc := "()V" } : Jvm.MethodName)) ∈ TB := tb_2 91 rfl rfl
theorem tw_2_92 : (Jvm.Cond.instanceMethod ({ cls := "CodeJudge$Machine", name := "forget", desc := "()V" } : Jvm.MethodName)) ∈ TB := tb_2 92 rfl rfl
theorem tw_2_93 : (Jvm.Cond.selects "CodeJudge$Machine" ({ cls := "CodeJudge$Machine", name := "forget", desc := "()V" } : Jvm.MethodName) ({ cls := "CodeJudge$Machine", name := "forget", desc := "()V" } : Jvm.MethodName)) ∈ TB := tb_2 93 rfl rfl
theorem tw_2_94 : (Jvm.Cond.code ({ cls := "CodeJudge$Machine", name := "forget", desc := "()V" } : Jvm.MethodName) prog_5_method_2_code (1 : Nat) (Option.none : Option Jvm.ClassFile.FieldType)) ∈ TB := tb_2 94 rfl rfl
theorem tw_2_95 : (Jvm.Cond.methodLink "CodeJudgeLaw" (78 : Nat) ({ cls := "CodeJudgeLaw", name := "add", desc := "(LCodeJudge;III[J)I" } : Jvm.MethodName)) ∈ TB := tb_2 95 rfl rfl
theorem tw_2_96 : (Jvm.Cond.static ({ cls := "CodeJudgeLaw", name := "add", desc := "(LCodeJudge;III[J)I" } : Jvm.MethodName)) ∈ TB := tb_2 96 rfl rfl
theorem tw_2_97 : (Jvm.Cond.codeWith ({ cls := "CodeJudgeLaw", name := "add", desc := "(LCodeJudge;III[J)I" } : Jvm.MethodName) method_4_code (6 : Nat) (Option.some Jvm.ClassFile.FieldType.int) [((0 : Nat), (12 : Nat), (15 : Nat), (13 : Nat)), ((0 : Nat), (12 : Nat), (19 : Nat), (15 : Nat)), ((0 : Nat), (12 : Nat), (23 : Nat), (21 : Nat))]) ∈ TB := tb_2 97 rfl rfl
theorem tw_2_98 : (Jvm.Cond.classLink "CodeJudgeLaw" (21 : Nat) "java/lang/IllegalStateException") ∈ TB := tb_2 98 rfl rfl
theorem tw_2_99 : (Jvm.Cond.methodLink "CodeJudgeLaw" (17 : Nat) ({ cls := "CodeJudge", name := "add", desc := "(III)I" } : Jvm.MethodName)) ∈ TB := tb_2 99 rfl rfl
theorem tw_2_100 : (Jvm.Cond.instanceMethod ({ cls := "CodeJudge", name := "add", desc := "(III)I" } : Jvm.MethodName)) ∈ TB := tb_2 100 rfl rfl
theorem tw_2_101 : (Jvm.Cond.selects "CodeJudge" ({ cls := "CodeJudge", name := "add", desc := "(III)I" } : Jvm.MethodName) ({ cls := "CodeJudge", name := "add", desc := "(III)I" } : Jvm.MethodName)) ∈ TB := tb_2 101 rfl rfl
theorem tw_2_102 : (Jvm.Cond.code ({ cls := "CodeJudge", name := "add", desc := "(III)I" } : Jvm.MethodName) prog_1_method_3_code (5 : Nat) (Option.some Jvm.ClassFile.FieldType.int)) ∈ TB := tb_2 102 rfl rfl
theorem tw_2_103 : (Jvm.Cond.methodLink "CodeJudge" (51 : Nat) ({ cls := "CodeJudge", name := "present", desc := "(I)LCodeJudge$Method;" } : Jvm.MethodName)) ∈ TB := tb_2 103 rfl rfl
theorem tw_2_105 : (Jvm.Cond.instanceMethod ({ cls := "CodeJudge", name := "present", desc := "(I)LCodeJudge$Method;" } : Jvm.MethodName)) ∈ TB := tb_2 105 rfl rfl
theorem tw_2_106 : (Jvm.Cond.code ({ cls := "CodeJudge", name := "present", desc := "(I)LCodeJudge$Method;" } : Jvm.MethodName) prog_1_method_18_code (2 : Nat) (Option.some (Jvm.ClassFile.FieldType.object "CodeJudge$Method"))) ∈ TB := tb_2 106 rfl rfl
theorem tw_2_107 : (Jvm.Cond.classLink "CodeJudge" (61 : Nat) "java/lang/IllegalStateException") ∈ TB := tb_2 107 rfl rfl
theorem tw_2_108 : (Jvm.Cond.instantiable "java/lang/IllegalStateException" (6 : Nat)) ∈ TB := tb_2 108 rfl rfl
theorem tw_2_110 : (Jvm.Cond.selects "java/lang/IllegalStateException" ({ cls := "java/lang/Throwable", name := "fillInStackTrace", desc := "(I)Ljava/lang/Throwable;" } : Jvm.MethodName) ({ cls := "java/lang/Throwable", name := "fillInStackTrace", desc := "(I)Ljava/lang/Throwable;" } : Jvm.MethodName)) ∈ TB := tb_2 110 rfl rfl
theorem tw_2_111 : (Jvm.Cond.lays "java/lang/IllegalStateException" "java/lang/Throwable" "cause" "Ljava/lang/Throwable;") ∈ TB := tb_2 111 rfl rfl
theorem tw_2_112 : (Jvm.Cond.lays "java/lang/IllegalStateException" "java/lang/Throwable" "stackTrace" "[Ljava/lang/StackTraceElement;") ∈ TB := tb_2 112 rfl rfl
theorem tw_2_113 : (Jvm.Cond.lays "java/lang/IllegalStateException" "java/lang/Throwable" "suppressedExceptions" "Ljava/util/List;") ∈ TB := tb_2 113 rfl rfl
theorem tw_2_114 : (Jvm.Cond.lays "java/lang/IllegalStateException" "java/lang/Throwable" "detailMessage" "Ljava/lang/String;") ∈ TB := tb_2 114 rfl rfl
theorem tw_2_115 : (Jvm.Cond.lays "java/lang/IllegalStateException" "java/lang/Throwable" "backtrace" "Ljava/lang/Object;") ∈ TB := tb_2 115 rfl rfl
theorem tw_2_116 : (Jvm.Cond.methodLink "CodeJudge" (63 : Nat) ({ cls := "java/lang/IllegalStateException", name := "<init>", desc := "()V" } : Jvm.MethodName)) ∈ TB := tb_2 116 rfl rfl
theorem tw_2_117 : (Jvm.Cond.instanceMethod ({ cls := "java/lang/IllegalStateException", name := "<init>", desc := "()V" } : Jvm.MethodName)) ∈ TB := tb_2 117 rfl rfl
theorem tw_2_118 : (Jvm.Cond.code ({ cls := "java/lang/IllegalStateException", name := "<init>", desc := "()V" } : Jvm.MethodName) prog_14_method_1_code (1 : Nat) (Option.none : Option Jvm.ClassFile.FieldType)) ∈ TB := tb_2 118 rfl rfl
theorem tw_2_119 : (Jvm.Cond.methodLink "java/lang/IllegalStateException" (1 : Nat) ({ cls := "java/lang/RuntimeException", name := "<init>", desc := "()V" } : Jvm.MethodName)) ∈ TB := tb_2 119 rfl rfl
theorem tw_2_120 : (Jvm.Cond.lays "java/lang/IllegalStateException" "java/lang/Throwable" "depth" "I") ∈ TB := tb_2 120 rfl rfl
theorem tw_2_122 : (Jvm.Cond.methodLink "CodeJudge" (64 : Nat) ({ cls := "CodeJudge$Method", name := "append", desc := "(II)V" } : Jvm.MethodName)) ∈ TB := tb_2 122 rfl rfl
theorem tw_2_123 : (Jvm.Cond.instanceMethod ({ cls := "CodeJudge$Method", name := "append", desc := "(II)V" } : Jvm.MethodName)) ∈ TB := tb_2 123 rfl rfl
theorem tw_2_124 : (Jvm.Cond.selects "CodeJudge$Method" ({ cls := "CodeJudge$Method", name := "append", desc := "(II)V" } : Jvm.MethodName) ({ cls := "CodeJudge$Method", name := "append", desc := "(II)V" } : Jvm.MethodName)) ∈ TB := tb_2 124 rfl rfl
theorem tw_2_125 : (Jvm.Cond.code ({ cls := "CodeJudge$Method", name := "append", desc := "(II)V" } : Jvm.MethodName) prog_6_method_4_code (3 : Nat) (Option.none : Option Jvm.ClassFile.FieldType)) ∈ TB := tb_2 125 rfl rfl
theorem tw_2_126 : (Jvm.Cond.methodLink "CodeJudgeLaw" (82 : Nat) ({ cls := "CodeJudgeLaw", name := "patch", desc := "(LCodeJudge;III[J)I" } : Jvm.MethodName)) ∈ TB := tb_2 126 rfl rfl
theorem tw_2_127 : (Jvm.Cond.static ({ cls := "CodeJudgeLaw", name := "patch", desc := "(LCodeJudge;III[J)I" } : Jvm.MethodName)) ∈ TB := tb_2 127 rfl rfl
theorem tw_2_128 : (Jvm.Cond.codeWith ({ cls := "CodeJudgeLaw", name := "patch", desc := "(LCodeJudge;III[J)I" } : Jvm.MethodName) method_5_code (6 : Nat) (Option.some Jvm.ClassFile.FieldType.int) [((0 : Nat), (12 : Nat), (15 : Nat), (13 : Nat))]) ∈ TB := tb_2 128 rfl rfl
theorem tw_2_129 : (Jvm.Cond.methodLink "CodeJudgeLaw" (23 : Nat) ({ cls := "CodeJudge", name := "patch", desc := "(III)I" } : Jvm.MethodName)) ∈ TB := tb_2 129 rfl rfl
theorem tw_2_130 : (Jvm.Cond.instanceMethod ({ cls := "CodeJudge", name := "patch", desc := "(III)I" } : Jvm.MethodName)) ∈ TB := tb_2 130 rfl rfl
theorem tw_2_131 : (Jvm.Cond.selects "CodeJudge" ({ cls := "CodeJudge", name := "patch", desc := "(III)I" } : Jvm.MethodName) ({ cls := "CodeJudge", name := "patch", desc := "(III)I" } : Jvm.MethodName)) ∈ TB := tb_2 131 rfl rfl
theorem tw_2_132 : (Jvm.Cond.code ({ cls := "CodeJudge", name := "patch", desc := "(III)I" } : Jvm.MethodName) prog_1_method_4_code (6 : Nat) (Option.some Jvm.ClassFile.FieldType.int)) ∈ TB := tb_2 132 rfl rfl
theorem tw_2_133 : (Jvm.Cond.methodLink "CodeJudge" (68 : Nat) ({ cls := "CodeJudge", name := "presentWith", desc := "(II)LCodeJudge$Method;" } : Jvm.MethodName)) ∈ TB := tb_2 133 rfl rfl
theorem tw_2_135 : (Jvm.Cond.instanceMethod ({ cls := "CodeJudge", name := "presentWith", desc := "(II)LCodeJudge$Method;" } : Jvm.MethodName)) ∈ TB := tb_2 135 rfl rfl
theorem tw_2_136 : (Jvm.Cond.code ({ cls := "CodeJudge", name := "presentWith", desc := "(II)LCodeJudge$Method;" } : Jvm.MethodName) prog_1_method_19_code (4 : Nat) (Option.some (Jvm.ClassFile.FieldType.object "CodeJudge$Method"))) ∈ TB := tb_2 136 rfl rfl
theorem tw_2_137 : (Jvm.Cond.methodLink "CodeJudge" (184 : Nat) ({ cls := "CodeJudge$Method", name := "has", desc := "(I)Z" } : Jvm.MethodName)) ∈ TB := tb_2 137 rfl rfl
theorem tw_2_138 : (Jvm.Cond.instanceMethod ({ cls := "CodeJudge$Method", name := "has", desc := "(I)Z" } : Jvm.MethodName)) ∈ TB := tb_2 138 rfl rfl
theorem tw_2_139 : (Jvm.Cond.selects "CodeJudge$Method" ({ cls := "CodeJudge$Method", name := "has", desc := "(I)Z" } : Jvm.MethodName) ({ cls := "CodeJudge$Method", name := "has", desc := "(I)Z" } : Jvm.MethodName)) ∈ TB := tb_2 139 rfl rfl
theorem tw_2_140 : (Jvm.Cond.code ({ cls := "CodeJudge$Method", name := "has", desc := "(I)Z" } : Jvm.MethodName) prog_6_method_6_code (2 : Nat) (Option.some Jvm.ClassFile.FieldType.boolean)) ∈ TB := tb_2 140 rfl rfl
theorem tw_2_142 : (Jvm.Cond.methodLink "CodeJudge" (72 : Nat) ({ cls := "CodeJudge$Method", name := "numberAt", desc := "(I)I" } : Jvm.MethodName)) ∈ TB := tb_2 142 rfl rfl
theorem tw_2_143 : (Jvm.Cond.instanceMethod ({ cls := "CodeJudge$Method", name := "numberAt", desc := "(I)I" } : Jvm.MethodName)) ∈ TB := tb_2 143 rfl rfl
theorem tw_2_144 : (Jvm.Cond.selects "CodeJudge$Method" ({ cls := "CodeJudge$Method", name := "numberAt", desc := "(I)I" } : Jvm.MethodName) ({ cls := "CodeJudge$Method", name := "numberAt", desc := "(I)I" } : Jvm.MethodName)) ∈ TB := tb_2 144 rfl rfl
theorem tw_2_145 : (Jvm.Cond.code ({ cls := "CodeJudge$Method", name := "numberAt", desc := "(I)I" } : Jvm.MethodName) prog_6_method_8_code (2 : Nat) (Option.some Jvm.ClassFile.FieldType.int)) ∈ TB := tb_2 145 rfl rfl
theorem tw_2_146 : (Jvm.Cond.methodLink "CodeJudge$Method" (41 : Nat) ({ cls := "CodeJudge$Method", name := "has", desc := "(I)Z" } : Jvm.MethodName)) ∈ TB := tb_2 146 rfl rfl
theorem tw_2_147 : (Jvm.Cond.methodLink "CodeJudge" (76 : Nat) ({ cls := "CodeJudge$Method", name := "renumber", desc := "(II)V" } : Jvm.MethodName)) ∈ TB := tb_2 147 rfl rfl
theorem tw_2_148 : (Jvm.Cond.instanceMethod ({ cls := "CodeJudge$Method", name := "renumber", desc := "(II)V" } : Jvm.MethodName)) ∈ TB := tb_2 148 rfl rfl
theorem tw_2_149 : (Jvm.Cond.selects "CodeJudge$Method" ({ cls := "CodeJudge$Method", name := "renumber", desc := "(II)V" } : Jvm.MethodName) ({ cls := "CodeJudge$Method", name := "renumber", desc := "(II)V" } : Jvm.MethodName)) ∈ TB := tb_2 149 rfl rfl
theorem tw_2_150 : (Jvm.Cond.code ({ cls := "CodeJudge$Method", name := "renumber", desc := "(II)V" } : Jvm.MethodName) prog_6_method_5_code (3 : Nat) (Option.none : Option Jvm.ClassFile.FieldType)) ∈ TB := tb_2 150 rfl rfl
theorem tw_2_151 : (Jvm.Cond.methodLink "CodeJudgeLaw" (85 : Nat) ({ cls := "CodeJudgeLaw", name := "drop", desc := "(LCodeJudge;I[J)I" } : Jvm.MethodName)) ∈ TB := tb_2 151 rfl rfl
theorem tw_2_152 : (Jvm.Cond.static ({ cls := "CodeJudgeLaw", name := "drop", desc := "(LCodeJudge;I[J)I" } : Jvm.MethodName)) ∈ TB := tb_2 152 rfl rfl
theorem tw_2_153 : (Jvm.Cond.codeWith ({ cls := "CodeJudgeLaw", name := "drop", desc := "(LCodeJudge;I[J)I" } : Jvm.MethodName) method_6_code (4 : Nat) (Option.some Jvm.ClassFile.FieldType.int) [((0 : Nat), (9 : Nat), (12 : Nat), (13 : Nat))]) ∈ TB := tb_2 153 rfl rfl
theorem tw_2_154 : (Jvm.Cond.methodLink "CodeJudgeLaw" (26 : Nat) ({ cls := "CodeJudge", name := "drop", desc := "(I)I" } : Jvm.MethodName)) ∈ TB := tb_2 154 rfl rfl
theorem tw_2_155 : (Jvm.Cond.instanceMethod ({ cls := "CodeJudge", name := "drop", desc := "(I)I" } : Jvm.MethodName)) ∈ TB := tb_2 155 rfl rfl
theorem tw_2_156 : (Jvm.Cond.selects "CodeJudge" ({ cls := "CodeJudge", name := "drop", desc := "(I)I" } : Jvm.MethodName) ({ cls := "CodeJudge", name := "drop", desc := "(I)I" } : Jvm.MethodName)) ∈ TB := tb_2 156 rfl rfl
theorem tw_2_157 : (Jvm.Cond.code ({ cls := "CodeJudge", name := "drop", desc := "(I)I" } : Jvm.MethodName) prog_1_method_5_code (4 : Nat) (Option.some Jvm.ClassFile.FieldType.int)) ∈ TB := tb_2 157 rfl rfl
theorem tw_2_158 : (Jvm.Cond.methodLink "CodeJudge" (79 : Nat) ({ cls := "CodeJudge$Method", name := "vanish", desc := "()V" } : Jvm.MethodName)) ∈ TB := tb_2 158 rfl rfl
theorem tw_2_159 : (Jvm.Cond.instanceMethod ({ cls := "CodeJudge$Method", name := "vanish", desc := "()V" } : Jvm.MethodName)) ∈ TB := tb_2 159 rfl rfl
theorem tw_2_160 : (Jvm.Cond.selects "CodeJudge$Method" ({ cls := "CodeJudge$Method", name := "vanish", desc := "()V" } : Jvm.MethodName) ({ cls := "CodeJudge$Method", name := "vanish", desc := "()V" } : Jvm.MethodName)) ∈ TB := tb_2 160 rfl rfl
theorem tw_2_161 : (Jvm.Cond.code ({ cls := "CodeJudge$Method", name := "vanish", desc := "()V" } : Jvm.MethodName) prog_6_method_3_code (1 : Nat) (Option.none : Option Jvm.ClassFile.FieldType)) ∈ TB := tb_2 161 rfl rfl
theorem tw_2_162 : (Jvm.Cond.methodLink "CodeJudgeLaw" (89 : Nat) ({ cls := "CodeJudgeLaw", name := "good", desc := "(LCodeJudge;I[J)I" } : Jvm.MethodName)) ∈ TB := tb_2 162 rfl rfl
theorem tw_2_163 : (Jvm.Cond.static ({ cls := "CodeJudgeLaw", name := "good", desc := "(LCodeJudge;I[J)I" } : Jvm.MethodName)) ∈ TB := tb_2 163 rfl rfl
theorem tw_2_164 : (Jvm.Cond.codeWith ({ cls := "CodeJudgeLaw", name := "good", desc := "(LCodeJudge;I[J)I" } : Jvm.MethodName) method_7_code (4 : Nat) (Option.some Jvm.ClassFile.FieldType.int) [((0 : Nat), (16 : Nat), (19 : Nat), (13 : Nat))]) ∈ TB := tb_2 164 rfl rfl
theorem tw_2_165 : (Jvm.Cond.methodLink "CodeJudgeLaw" (30 : Nat) ({ cls := "CodeJudge", name := "good", desc := "(I)Z" } : Jvm.MethodName)) ∈ TB := tb_2 165 rfl rfl
theorem tw_2_166 : (Jvm.Cond.instanceMethod ({ cls := "CodeJudge", name := "good", desc := "(I)Z" } : Jvm.MethodName)) ∈ TB := tb_2 166 rfl rfl
theorem tw_2_167 : (Jvm.Cond.selects "CodeJudge" ({ cls := "CodeJudge", name := "good", desc := "(I)Z" } : Jvm.MethodName) ({ cls := "CodeJudge", name := "good", desc := "(I)Z" } : Jvm.MethodName)) ∈ TB := tb_2 167 rfl rfl
theorem tw_2_168 : (Jvm.Cond.code ({ cls := "CodeJudge", name := "good", desc := "(I)Z" } : Jvm.MethodName) prog_1_method_6_code (2 : Nat) (Option.some Jvm.ClassFile.FieldType.boolean)) ∈ TB := tb_2 168 rfl rfl
theorem tw_2_169 : (Jvm.Cond.methodLink "CodeJudge" (82 : Nat) ({ cls := "CodeJudge$Judge", name := "approves", desc := "([LCodeJudge$Method;LCodeJudge$Method;)Z" } : Jvm.MethodName)) ∈ TB := tb_2 169 rfl rfl
theorem tw_2_170 : (Jvm.Cond.instanceMethod ({ cls := "CodeJudge$Judge", name := "approves", desc := "([LCodeJudge$Method;LCodeJudge$Method;)Z" } : Jvm.MethodName)) ∈ TB := tb_2 170 rfl rfl
theorem tw_2_171 : (Jvm.Cond.selects "CodeJudge$Judge" ({ cls := "CodeJudge$Judge", name := "approves", desc := "([LCodeJudge$Method;LCodeJudge$Method;)Z" } : Jvm.MethodName) ({ cls := "CodeJudge$Judge", name := "approves", desc := "([LCodeJudge$Method;LCodeJudge$Method;)Z" } : Jvm.MethodName)) ∈ TB := tb_2 171 rfl rfl
theorem tw_2_172 : (Jvm.Cond.code ({ cls := "CodeJudge$Judge", name := "approves", desc := "([LCodeJudge$Method;LCodeJudge$Method;)Z" } : Jvm.MethodName) prog_4_method_2_code (5 : Nat) (Option.some Jvm.ClassFile.FieldType.boolean)) ∈ TB := tb_2 172 rfl rfl
theorem tw_2_173 : (Jvm.Cond.methodLink "CodeJudge$Judge" (38 : Nat) ({ cls := "CodeJudge$Judge", name := "enter", desc := "(LCodeJudge$Method;)V" } : Jvm.MethodName)) ∈ TB := tb_2 173 rfl rfl
theorem tw_2_175 : (Jvm.Cond.instanceMethod ({ cls := "CodeJudge$Judge", name := "enter", desc := "(LCodeJudge$Method;)V" } : Jvm.MethodName)) ∈ TB := tb_2 175 rfl rfl
theorem tw_2_176 : (Jvm.Cond.code ({ cls := "CodeJudge$Judge", name := "enter", desc := "(LCodeJudge$Method;)V" } : Jvm.MethodName) prog_4_method_3_code (3 : Nat) (Option.none : Option Jvm.ClassFile.FieldType)) ∈ TB := tb_2 176 rfl rfl
theorem tw_2_177 : (Jvm.Cond.methodLink "CodeJudge$Judge" (42 : Nat) ({ cls := "CodeJudge$Judge", name := "arrive", desc := "(LCodeJudge$Method;I)Z" } : Jvm.MethodName)) ∈ TB := tb_2 177 rfl rfl
theorem tw_2_179 : (Jvm.Cond.instanceMethod ({ cls := "CodeJudge$Judge", name := "arrive", desc := "(LCodeJudge$Method;I)Z" } : Jvm.MethodName)) ∈ TB := tb_2 179 rfl rfl
theorem tw_2_180 : (Jvm.Cond.code ({ cls := "CodeJudge$Judge", name := "arrive", desc := "(LCodeJudge$Method;I)Z" } : Jvm.MethodName) prog_4_method_7_code (5 : Nat) (Option.some Jvm.ClassFile.FieldType.boolean)) ∈ TB := tb_2 180 rfl rfl
theorem tw_2_181 : (Jvm.Cond.methodLink "CodeJudge$Judge" (105 : Nat) ({ cls := "CodeJudge$Method", name := "has", desc := "(I)Z" } : Jvm.MethodName)) ∈ TB := tb_2 181 rfl rfl
theorem tw_2_182 : (Jvm.Cond.methodLink "CodeJudge$Judge" (147 : Nat) ({ cls := "CodeJudge$Judge", name := "await", desc := "(I)V" } : Jvm.MethodName)) ∈ TB := tb_2 182 rfl rfl
theorem tw_2_184 : (Jvm.Cond.instanceMethod ({ cls := "CodeJudge$Judge", name := "await", desc := "(I)V" } : Jvm.MethodName)) ∈ TB := tb_2 184 rfl rfl
theorem tw_2_185 : (Jvm.Cond.code ({ cls := "CodeJudge$Judge", name := "await", desc := "(I)V" } : Jvm.MethodName) prog_4_method_8_code (2 : Nat) (Option.none : Option Jvm.ClassFile.FieldType)) ∈ TB := tb_2 185 rfl rfl
theorem tw_2_186 : (Jvm.Cond.methodLink "CodeJudge$Judge" (50 : Nat) ({ cls := "CodeJudge$Judge", name := "follow", desc := "([LCodeJudge$Method;LCodeJudge$Method;I)Z" } : Jvm.MethodName)) ∈ TB := tb_2 186 rfl rfl
theorem tw_2_188 : (Jvm.Cond.instanceMethod ({ cls := "CodeJudge$Judge", name := "follow", desc := "([LCodeJudge$Method;LCodeJudge$Method;I)Z" } : Jvm.MethodName)) ∈ TB := tb_2 188 rfl rfl
theorem tw_2_189 : (Jvm.Cond.code ({ cls := "CodeJudge$Judge", name := "follow", desc := "([LCodeJudge$Method;LCodeJudge$Method;I)Z" } : Jvm.MethodName) prog_4_method_4_code (6 : Nat) (Option.some Jvm.ClassFile.FieldType.boolean)) ∈ TB := tb_2 189 rfl rfl
theorem tw_2_190 : (Jvm.Cond.methodLink "CodeJudge$Judge" (72 : Nat) ({ cls := "CodeJudge$Method", name := "orderAt", desc := "(I)I" } : Jvm.MethodName)) ∈ TB := tb_2 190 rfl rfl
theorem tw_2_191 : (Jvm.Cond.instanceMethod ({ cls := "CodeJudge$Method", name := "orderAt", desc := "(I)I" } : Jvm.MethodName)) ∈ TB := tb_2 191 rfl rfl
theorem tw_2_192 : (Jvm.Cond.selects "CodeJudge$Method" ({ cls := "CodeJudge$Method", name := "orderAt", desc := "(I)I" } : Jvm.MethodName) ({ cls := "CodeJudge$Method", name := "orderAt", desc := "(I)I" } : Jvm.MethodName)) ∈ TB := tb_2 192 rfl rfl
theorem tw_2_193 : (Jvm.Cond.code ({ cls := "CodeJudge$Method", name := "orderAt", desc := "(I)I" } : Jvm.MethodName) prog_6_method_7_code (2 : Nat) (Option.some Jvm.ClassFile.FieldType.int)) ∈ TB := tb_2 193 rfl rfl
theorem tw_2_194 : (Jvm.Cond.methodLink "CodeJudge$Judge" (76 : Nat) ({ cls := "CodeJudge$Method", name := "numberAt", desc := "(I)I" } : Jvm.MethodName)) ∈ TB := tb_2 194 rfl rfl
theorem tw_2_195 : (Jvm.Cond.methodLink "CodeJudge$Judge" (79 : Nat) ({ cls := "CodeJudge$Judge", name := "isThere", desc := "([LCodeJudge$Method;LCodeJudge$Method;II)Z" } : Jvm.MethodName)) ∈ TB := tb_2 195 rfl rfl
theorem tw_2_196 : (Jvm.Cond.static ({ cls := "CodeJudge$Judge", name := "isThere", desc := "([LCodeJudge$Method;LCodeJudge$Method;II)Z" } : Jvm.MethodName)) ∈ TB := tb_2 196 rfl rfl
theorem tw_2_197 : (Jvm.Cond.code ({ cls := "CodeJudge$Judge", name := "isThere", desc := "([LCodeJudge$Method;LCodeJudge$Method;II)Z" } : Jvm.MethodName) prog_4_method_5_code (4 : Nat) (Option.some Jvm.ClassFile.FieldType.boolean)) ∈ TB := tb_2 197 rfl rfl
theorem tw_2_198 : (Jvm.Cond.methodLink "CodeJudge$Judge" (95 : Nat) ({ cls := "CodeJudge$Order", name := "namesLocal", desc := "(I)Z" } : Jvm.MethodName)) ∈ TB := tb_2 198 rfl rfl
theorem tw_2_199 : (Jvm.Cond.static ({ cls := "CodeJudge$Order", name := "namesLocal", desc := "(I)Z" } : Jvm.MethodName)) ∈ TB := tb_2 199 rfl rfl
theorem tw_2_200 : (Jvm.Cond.code ({ cls := "CodeJudge$Order", name := "namesLocal", desc := "(I)Z" } : Jvm.MethodName) prog_7_method_7_code (1 : Nat) (Option.some Jvm.ClassFile.FieldType.boolean)) ∈ TB := tb_2 200 rfl rfl
theorem tw_2_202 : (Jvm.Cond.methodLink "CodeJudge$Judge" (91 : Nat) ({ cls := "CodeJudge$Order", name := "namesPlace", desc := "(I)Z" } : Jvm.MethodName)) ∈ TB := tb_2 202 rfl rfl
theorem tw_2_203 : (Jvm.Cond.static ({ cls := "CodeJudge$Order", name := "namesPlace", desc := "(I)Z" } : Jvm.MethodName)) ∈ TB := tb_2 203 rfl rfl
theorem tw_2_204 : (Jvm.Cond.code ({ cls := "CodeJudge$Order", name := "namesPlace", desc := "(I)Z" } : Jvm.MethodName) prog_7_method_8_code (1 : Nat) (Option.some Jvm.ClassFile.FieldType.boolean)) ∈ TB := tb_2 204 rfl rfl
theorem tw_2_205 : (Jvm.Cond.methodLink "CodeJudge$Judge" (83 : Nat) ({ cls := "CodeJudge$Judge", name := "change", desc := "([LCodeJudge$Method;LCodeJudge$Method;II)Z" } : Jvm.MethodName)) ∈ TB := tb_2 205 rfl rfl
theorem tw_2_207 : (Jvm.Cond.instanceMethod ({ cls := "CodeJudge$Judge", name := "change", desc := "([LCodeJudge$Method;LCodeJudge$Method;II)Z" } : Jvm.MethodName)) ∈ TB := tb_2 207 rfl rfl
theorem tw_2_208 : (Jvm.Cond.code ({ cls := "CodeJudge$Judge", name := "change", desc := "([LCodeJudge$Method;LCodeJudge$Method;II)Z" } : Jvm.MethodName) prog_4_method_6_code (5 : Nat) (Option.some Jvm.ClassFile.FieldType.boolean)) ∈ TB := tb_2 208 rfl rfl
theorem tw_2_209 : (Jvm.Cond.methodLink "CodeJudge$Judge" (112 : Nat) ({ cls := "CodeJudge$Shape", name := "hasInLocal", desc := "(II)Z" } : Jvm.MethodName)) ∈ TB := tb_2 209 rfl rfl
theorem tw_2_210 : (Jvm.Cond.instanceMethod ({ cls := "CodeJudge$Shape", name := "hasInLocal", desc := "(II)Z" } : Jvm.MethodName)) ∈ TB := tb_2 210 rfl rfl
theorem tw_2_211 : (Jvm.Cond.selects "CodeJudge$Shape" ({ cls := "CodeJudge$Shape", name := "hasInLocal", desc := "(II)Z" } : Jvm.MethodName) ({ cls := "CodeJudge$Shape", name := "hasInLocal", desc := "(II)Z" } : Jvm.MethodName)) ∈ TB := tb_2 211 rfl rfl
theorem tw_2_212 : (Jvm.Cond.code ({ cls := "CodeJudge$Shape", name := "hasInLocal", desc := "(II)Z" } : Jvm.MethodName) prog_9_method_8_code (3 : Nat) (Option.some Jvm.ClassFile.FieldType.boolean)) ∈ TB := tb_2 212 rfl rfl
theorem tw_2_213 : (Jvm.Cond.methodLink "CodeJudge$Judge" (115 : Nat) ({ cls := "CodeJudge$Shape", name := "put", desc := "(I)Z" } : Jvm.MethodName)) ∈ TB := tb_2 213 rfl rfl
theorem tw_2_214 : (Jvm.Cond.instanceMethod ({ cls := "CodeJudge$Shape", name := "put", desc := "(I)Z" } : Jvm.MethodName)) ∈ TB := tb_2 214 rfl rfl
theorem tw_2_215 : (Jvm.Cond.selects "CodeJudge$Shape" ({ cls := "CodeJudge$Shape", name := "put", desc := "(I)Z" } : Jvm.MethodName) ({ cls := "CodeJudge$Shape", name := "put", desc := "(I)Z" } : Jvm.MethodName)) ∈ TB := tb_2 215 rfl rfl
theorem tw_2_216 : (Jvm.Cond.code ({ cls := "CodeJudge$Shape", name := "put", desc := "(I)Z" } : Jvm.MethodName) prog_9_method_5_code (2 : Nat) (Option.some Jvm.ClassFile.FieldType.boolean)) ∈ TB := tb_2 216 rfl rfl
theorem tw_2_217 : (Jvm.Cond.methodLink "CodeJudge$Judge" (118 : Nat) ({ cls := "CodeJudge$Shape", name := "take", desc := "(II)Z" } : Jvm.MethodName)) ∈ TB := tb_2 217 rfl rfl
theorem tw_2_218 : (Jvm.Cond.instanceMethod ({ cls := "CodeJudge$Shape", name := "take", desc := "(II)Z" } : Jvm.MethodName)) ∈ TB := tb_2 218 rfl rfl
theorem tw_2_219 : (Jvm.Cond.selects "CodeJudge$Shape" ({ cls := "CodeJudge$Shape", name := "take", desc := "(II)Z" } : Jvm.MethodName) ({ cls := "CodeJudge$Shape", name := "take", desc := "(II)Z" } : Jvm.MethodName)) ∈ TB := tb_2 219 rfl rfl
theorem tw_2_220 : (Jvm.Cond.code ({ cls := "CodeJudge$Shape", name := "take", desc := "(II)Z" } : Jvm.MethodName) prog_9_method_2_code (3 : Nat) (Option.some Jvm.ClassFile.FieldType.boolean)) ∈ TB := tb_2 220 rfl rfl
theorem tw_2_221 : (Jvm.Cond.methodLink "CodeJudge$Judge" (121 : Nat) ({ cls := "CodeJudge$Shape", name := "setLocal", desc := "(II)Z" } : Jvm.MethodName)) ∈ TB := tb_2 221 rfl rfl
theorem tw_2_222 : (Jvm.Cond.instanceMethod ({ cls := "CodeJudge$Shape", name := "setLocal", desc := "(II)Z" } : Jvm.MethodName)) ∈ TB := tb_2 222 rfl rfl
theorem tw_2_223 : (Jvm.Cond.selects "CodeJudge$Shape" ({ cls := "CodeJudge$Shape", name := "setLocal", desc := "(II)Z" } : Jvm.MethodName) ({ cls := "CodeJudge$Shape", name := "setLocal", desc := "(II)Z" } : Jvm.MethodName)) ∈ TB := tb_2 223 rfl rfl
theorem tw_2_224 : (Jvm.Cond.code ({ cls := "CodeJudge$Shape", name := "setLocal", desc := "(II)Z" } : Jvm.MethodName) prog_9_method_7_code (3 : Nat) (Option.some Jvm.ClassFile.FieldType.boolean)) ∈ TB := tb_2 224 rfl rfl
theorem tw_2_225 : (Jvm.Cond.methodLink "CodeJudge$Judge" (124 : Nat) ({ cls := "CodeJudge$Shape", name := "upperType", desc := "()I" } : Jvm.MethodName)) ∈ TB := tb_2 225 rfl rfl
theorem tw_2_226 : (Jvm.Cond.instanceMethod ({ cls := "CodeJudge$Shape", name := "upperType", desc := "()I" } : Jvm.MethodName)) ∈ TB := tb_2 226 rfl rfl
theorem tw_2_227 : (Jvm.Cond.selects "CodeJudge$Shape" ({ cls := "CodeJudge$Shape", name := "upperType", desc := "()I" } : Jvm.MethodName) ({ cls := "CodeJudge$Shape", name := "upperType", desc := "()I" } : Jvm.MethodName)) ∈ TB := tb_2 227 rfl rfl
theorem tw_2_228 : (Jvm.Cond.code ({ cls := "CodeJudge$Shape", name := "upperType", desc := "()I" } : Jvm.MethodName) prog_9_method_6_code (1 : Nat) (Option.some Jvm.ClassFile.FieldType.int)) ∈ TB := tb_2 228 rfl rfl
theorem tw_2_229 : (Jvm.Cond.methodLink "CodeJudge$Judge" (128 : Nat) ({ cls := "CodeJudge$Shape", name := "takeAny", desc := "()Z" } : Jvm.MethodName)) ∈ TB := tb_2 229 rfl rfl
theorem tw_2_230 : (Jvm.Cond.instanceMethod ({ cls := "CodeJudge$Shape", name := "takeAny", desc := "()Z" } : Jvm.MethodName)) ∈ TB := tb_2 230 rfl rfl
theorem tw_2_231 : (Jvm.Cond.selects "CodeJudge$Shape" ({ cls := "CodeJudge$Shape", name := "takeAny", desc := "()Z" } : Jvm.MethodName) ({ cls := "CodeJudge$Shape", name := "takeAny", desc := "()Z" } : Jvm.MethodName)) ∈ TB := tb_2 231 rfl rfl
theorem tw_2_232 : (Jvm.Cond.code ({ cls := "CodeJudge$Shape", name := "takeAny", desc := "()Z" } : Jvm.MethodName) prog_9_method_3_code (1 : Nat) (Option.some Jvm.ClassFile.FieldType.boolean)) ∈ TB := tb_2 232 rfl rfl
theorem tw_2_233 : (Jvm.Cond.methodLink "CodeJudge$Shape" (18 : Nat) ({ cls := "CodeJudge$Shape", name := "take", desc := "(II)Z" } : Jvm.MethodName)) ∈ TB := tb_2 233 rfl rfl
theorem tw_2_234 : (Jvm.Cond.methodLink "CodeJudge$Judge" (132 : Nat) ({ cls := "CodeJudge$Shape", name := "turn", desc := "()Z" } : Jvm.MethodName)) ∈ TB := tb_2 234 rfl rfl
theorem tw_2_235 : (Jvm.Cond.instanceMethod ({ cls := "CodeJudge$Shape", name := "turn", desc := "()Z" } : Jvm.MethodName)) ∈ TB := tb_2 235 rfl rfl
theorem tw_2_236 : (Jvm.Cond.selects "CodeJudge$Shape" ({ cls := "CodeJudge$Shape", name := "turn", desc := "()Z" } : Jvm.MethodName) ({ cls := "CodeJudge$Shape", name := "turn", desc := "()Z" } : Jvm.MethodName)) ∈ TB := tb_2 236 rfl rfl
theorem tw_2_237 : (Jvm.Cond.code ({ cls := "CodeJudge$Shape", name := "turn", desc := "()Z" } : Jvm.MethodName) prog_9_method_4_code (4 : Nat) (Option.some Jvm.ClassFile.FieldType.boolean)) ∈ TB := tb_2 237 rfl rfl
theorem tw_2_238 : (Jvm.Cond.methodLink "CodeJudge$Judge" (138 : Nat) ({ cls := "CodeJudge$Order", name := "taken", desc := "(I)I" } : Jvm.MethodName)) ∈ TB := tb_2 238 rfl rfl
theorem tw_2_239 : (Jvm.Cond.static ({ cls := "CodeJudge$Order", name := "taken", desc := "(I)I" } : Jvm.MethodName)) ∈ TB := tb_2 239 rfl rfl
theorem tw_0_0 : Cond.selects "java/lang/Throwable" ⟨"java/lang/Throwable", "fillInStackTrace", "(I)Ljava/lang/Throwable;"⟩ ⟨"java/lang/Throwable", "fillInStackTrace", "(I)Ljava/lang/Throwable;"⟩ ∈ TB := tb_0 0 rfl rfl
theorem tw_0_1 : Cond.selects "CodeJudge" ⟨"CodeJudge", "present", "(I)LCodeJudge$Method;"⟩ ⟨"CodeJudge", "present", "(I)LCodeJudge$Method;"⟩ ∈ TB := tb_0 1 rfl rfl
theorem tw_0_2 : Cond.selects "CodeJudge" ⟨"CodeJudge", "presentWith", "(II)LCodeJudge$Method;"⟩ ⟨"CodeJudge", "presentWith", "(II)LCodeJudge$Method;"⟩ ∈ TB := tb_0 2 rfl rfl
theorem tw_0_3 : Cond.selects "CodeJudge$Judge" ⟨"CodeJudge$Judge", "enter", "(LCodeJudge$Method;)V"⟩ ⟨"CodeJudge$Judge", "enter", "(LCodeJudge$Method;)V"⟩ ∈ TB := tb_0 3 rfl rfl
theorem tw_0_4 : Cond.selects "CodeJudge$Judge" ⟨"CodeJudge$Judge", "arrive", "(LCodeJudge$Method;I)Z"⟩ ⟨"CodeJudge$Judge", "arrive", "(LCodeJudge$Method;I)Z"⟩ ∈ TB := tb_0 4 rfl rfl
theorem tw_0_5 : Cond.selects "CodeJudge$Judge" ⟨"CodeJudge$Judge", "await", "(I)V"⟩ ⟨"CodeJudge$Judge", "await", "(I)V"⟩ ∈ TB := tb_0 5 rfl rfl
theorem tw_0_6 : Cond.selects "CodeJudge$Judge" ⟨"CodeJudge$Judge", "follow", "([LCodeJudge$Method;LCodeJudge$Method;I)Z"⟩ ⟨"CodeJudge$Judge", "follow", "([LCodeJudge$Method;LCodeJudge$Method;I)Z"⟩ ∈ TB := tb_0 6 rfl rfl
theorem tw_0_7 : Cond.selects "CodeJudge$Judge" ⟨"CodeJudge$Judge", "change", "([LCodeJudge$Method;LCodeJudge$Method;II)Z"⟩ ⟨"CodeJudge$Judge", "change", "([LCodeJudge$Method;LCodeJudge$Method;II)Z"⟩ ∈ TB := tb_0 7 rfl rfl
theorem tw_0_8 : Cond.selects "CodeJudge" ⟨"CodeJudge", "needGood", "(LCodeJudge$Method;)V"⟩ ⟨"CodeJudge", "needGood", "(LCodeJudge$Method;)V"⟩ ∈ TB := tb_0 8 rfl rfl
theorem tw_0_9 : Cond.selects "CodeJudge" ⟨"CodeJudge", "areGoodFrom", "(I)Z"⟩ ⟨"CodeJudge", "areGoodFrom", "(I)Z"⟩ ∈ TB := tb_0 9 rfl rfl
theorem tw_0_10 : Cond.selects "CodeJudge" ⟨"CodeJudge", "needRun", "()V"⟩ ⟨"CodeJudge", "needRun", "()V"⟩ ∈ TB := tb_0 10 rfl rfl
theorem tw_0_11 : Cond.selects "CodeJudge$Machine" ⟨"CodeJudge$Machine", "step", "([LCodeJudge$Method;)Z"⟩ ⟨"CodeJudge$Machine", "step", "([LCodeJudge$Method;)Z"⟩ ∈ TB := tb_0 11 rfl rfl
theorem tw_0_12 : Cond.selects "CodeJudge$Machine" ⟨"CodeJudge$Machine", "troubleWith", "(I)I"⟩ ⟨"CodeJudge$Machine", "troubleWith", "(I)I"⟩ ∈ TB := tb_0 12 rfl rfl
theorem tw_0_13 : Cond.selects "CodeJudge$Machine" ⟨"CodeJudge$Machine", "troubleWithLength", "(I)I"⟩ ⟨"CodeJudge$Machine", "troubleWithLength", "(I)I"⟩ ∈ TB := tb_0 13 rfl rfl
theorem tw_0_14 : Cond.selects "CodeJudge$Machine" ⟨"CodeJudge$Machine", "troubleWithCell", "(II)I"⟩ ⟨"CodeJudge$Machine", "troubleWithCell", "(II)I"⟩ ∈ TB := tb_0 14 rfl rfl
theorem tw_0_15 : Cond.selects "CodeJudge$Machine" ⟨"CodeJudge$Machine", "giveBack", "(I)V"⟩ ⟨"CodeJudge$Machine", "giveBack", "(I)V"⟩ ∈ TB := tb_0 15 rfl rfl
theorem tw_0_16 : Cond.selects "CodeJudge$Machine" ⟨"CodeJudge$Machine", "leap", "(II)V"⟩ ⟨"CodeJudge$Machine", "leap", "(II)V"⟩ ∈ TB := tb_0 16 rfl rfl
theorem tw_0_17 : Cond.selects "CodeJudge$Machine" ⟨"CodeJudge$Machine", "isMet", "(II)Z"⟩ ⟨"CodeJudge$Machine", "isMet", "(II)Z"⟩ ∈ TB := tb_0 17 rfl rfl
theorem tw_0_18 : Cond.selects "CodeJudge$Machine" ⟨"CodeJudge$Machine", "combine", "(III)V"⟩ ⟨"CodeJudge$Machine", "combine", "(III)V"⟩ ∈ TB := tb_0 18 rfl rfl
theorem tw_0_19 : Cond.selects "CodeJudge$Machine" ⟨"CodeJudge$Machine", "work", "(II)V"⟩ ⟨"CodeJudge$Machine", "work", "(II)V"⟩ ∈ TB := tb_0 19 rfl rfl
theorem tw_0_20 : Cond.selects "CodeJudge" ⟨"CodeJudge", "share", "(LCodeJudge$Method;I)I"⟩ ⟨"CodeJudge", "share", "(LCodeJudge$Method;I)I"⟩ ∈ TB := tb_0 20 rfl rfl
theorem tw_0_21 : Cond.selects "CodeJudgeModel" ⟨"CodeJudgeModel", "goes", "(ZZZ)Z"⟩ ⟨"CodeJudgeModel", "goes", "(ZZZ)Z"⟩ ∈ TB := tb_0 21 rfl rfl
theorem tw_0_22 : Cond.selects "CodeJudgeModel" ⟨"CodeJudgeModel", "isMethod", "(I)Z"⟩ ⟨"CodeJudgeModel", "isMethod", "(I)Z"⟩ ∈ TB := tb_0 22 rfl rfl
theorem tw_0_23 : Cond.selects "CodeJudgeModel" ⟨"CodeJudgeModel", "isPlace", "(II)Z"⟩ ⟨"CodeJudgeModel", "isPlace", "(II)Z"⟩ ∈ TB := tb_0 23 rfl rfl
theorem tw_0_24 : Cond.selects "CodeJudgeModel" ⟨"CodeJudgeModel", "judge", "(I)Z"⟩ ⟨"CodeJudgeModel", "judge", "(I)Z"⟩ ∈ TB := tb_0 24 rfl rfl
theorem tw_0_25 : Cond.selects "CodeJudgeModel" ⟨"CodeJudgeModel", "come", "(II)V"⟩ ⟨"CodeJudgeModel", "come", "(II)V"⟩ ∈ TB := tb_0 25 rfl rfl
theorem tw_0_26 : Cond.selects "CodeJudgeModel" ⟨"CodeJudgeModel", "look", "(II)V"⟩ ⟨"CodeJudgeModel", "look", "(II)V"⟩ ∈ TB := tb_0 26 rfl rfl
theorem tw_0_27 : Cond.selects "CodeJudgeModel" ⟨"CodeJudgeModel", "effect", "(III)V"⟩ ⟨"CodeJudgeModel", "effect", "(III)V"⟩ ∈ TB := tb_0 27 rfl rfl
theorem tw_0_28 : Cond.selects "CodeJudgeModel" ⟨"CodeJudgeModel", "push", "(I)V"⟩ ⟨"CodeJudgeModel", "push", "(I)V"⟩ ∈ TB := tb_0 28 rfl rfl
theorem tw_0_29 : Cond.selects "CodeJudgeModel" ⟨"CodeJudgeModel", "local", "(IIIZ)V"⟩ ⟨"CodeJudgeModel", "local", "(IIIZ)V"⟩ ∈ TB := tb_0 29 rfl rfl
theorem tw_0_30 : Cond.selects "CodeJudgeModel" ⟨"CodeJudgeModel", "pop", "(I)I"⟩ ⟨"CodeJudgeModel", "pop", "(I)I"⟩ ∈ TB := tb_0 30 rfl rfl
theorem tw_0_31 : Cond.selects "CodeJudgeModel" ⟨"CodeJudgeModel", "take", "(III)V"⟩ ⟨"CodeJudgeModel", "take", "(III)V"⟩ ∈ TB := tb_0 31 rfl rfl
theorem tw_0_32 : Cond.selects "CodeJudgeModel" ⟨"CodeJudgeModel", "call", "(I)V"⟩ ⟨"CodeJudgeModel", "call", "(I)V"⟩ ∈ TB := tb_0 32 rfl rfl
theorem tw_0_33 : Cond.selects "CodeJudgeModel" ⟨"CodeJudgeModel", "allGood", "(I)Z"⟩ ⟨"CodeJudgeModel", "allGood", "(I)Z"⟩ ∈ TB := tb_0 33 rfl rfl
theorem tw_0_34 : Cond.selects "CodeJudgeModel" ⟨"CodeJudgeModel", "open", "(I)V"⟩ ⟨"CodeJudgeModel", "open", "(I)V"⟩ ∈ TB := tb_0 34 rfl rfl
theorem tw_0_35 : Cond.selects "CodeJudgeModel" ⟨"CodeJudgeModel", "make", "(I)I"⟩ ⟨"CodeJudgeModel", "make", "(I)I"⟩ ∈ TB := tb_0 35 rfl rfl
theorem tw_0_36 : Cond.selects "CodeJudgeModel" ⟨"CodeJudgeModel", "troubleOf", "(I)I"⟩ ⟨"CodeJudgeModel", "troubleOf", "(I)I"⟩ ∈ TB := tb_0 36 rfl rfl
theorem tw_0_37 : Cond.selects "CodeJudgeModel" ⟨"CodeJudgeModel", "peek", "(I)I"⟩ ⟨"CodeJudgeModel", "peek", "(I)I"⟩ ∈ TB := tb_0 37 rfl rfl
theorem tw_0_38 : Cond.selects "CodeJudgeModel" ⟨"CodeJudgeModel", "step", "(II)V"⟩ ⟨"CodeJudgeModel", "step", "(II)V"⟩ ∈ TB := tb_0 38 rfl rfl
theorem tw_0_39 : Cond.selects "CodeJudgeModel" ⟨"CodeJudgeModel", "pushValue", "(I)V"⟩ ⟨"CodeJudgeModel", "pushValue", "(I)V"⟩ ∈ TB := tb_0 39 rfl rfl
theorem tw_0_40 : Cond.selects "CodeJudgeModel" ⟨"CodeJudgeModel", "popValue", "()I"⟩ ⟨"CodeJudgeModel", "popValue", "()I"⟩ ∈ TB := tb_0 40 rfl rfl
theorem tw_0_41 : Cond.selects "CodeJudgeModel" ⟨"CodeJudgeModel", "jumps", "(I)Z"⟩ ⟨"CodeJudgeModel", "jumps", "(I)Z"⟩ ∈ TB := tb_0 41 rfl rfl
theorem tw_0_42 : Cond.selects "CodeJudgeModel" ⟨"CodeJudgeModel", "into", "(I)V"⟩ ⟨"CodeJudgeModel", "into", "(I)V"⟩ ∈ TB := tb_0 42 rfl rfl
theorem tw_0_43 : Cond.selects "CodeJudgeModel" ⟨"CodeJudgeModel", "back", "()V"⟩ ⟨"CodeJudgeModel", "back", "()V"⟩ ∈ TB := tb_0 43 rfl rfl
theorem tw_0_44 : Cond.selects "CodeJudgeModel" ⟨"CodeJudgeModel", "handle", "(I)V"⟩ ⟨"CodeJudgeModel", "handle", "(I)V"⟩ ∈ TB := tb_0 44 rfl rfl
