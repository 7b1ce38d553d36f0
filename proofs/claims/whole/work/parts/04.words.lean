theorem tw_3_0 : (Jvm.Cond.code ({ cls := "CodeJudge$Order", name := "taken", desc := "(I)I" } : Jvm.MethodName) prog_7_method_2_code (1 : Nat) (Option.some Jvm.ClassFile.FieldType.int)) ∈ TB := tb_3 0 rfl rfl
theorem tw_3_1 : (Jvm.Cond.methodLink "CodeJudge$Order" (9 : Nat) ({ cls := "CodeJudge$Order", name := "isArithmetic", desc := "(I)Z" } : Jvm.MethodName)) ∈ TB := tb_3 1 rfl rfl
theorem tw_3_2 : (Jvm.Cond.static ({ cls := "CodeJudge$Order", name := "isArithmetic", desc := "(I)Z" } : Jvm.MethodName)) ∈ TB := tb_3 2 rfl rfl
theorem tw_3_3 : (Jvm.Cond.code ({ cls := "CodeJudge$Order", name := "isArithmetic", desc := "(I)Z" } : Jvm.MethodName) prog_7_method_5_code (1 : Nat) (Option.some Jvm.ClassFile.FieldType.boolean)) ∈ TB := tb_3 3 rfl rfl
theorem tw_3_4 : (Jvm.Cond.methodLink "CodeJudge$Judge" (141 : Nat) ({ cls := "CodeJudge$Order", name := "arraysTaken", desc := "(I)I" } : Jvm.MethodName)) ∈ TB := tb_3 4 rfl rfl
theorem tw_3_5 : (Jvm.Cond.static ({ cls := "CodeJudge$Order", name := "arraysTaken", desc := "(I)I" } : Jvm.MethodName)) ∈ TB := tb_3 5 rfl rfl
theorem tw_3_6 : (Jvm.Cond.code ({ cls := "CodeJudge$Order", name := "arraysTaken", desc := "(I)I" } : Jvm.MethodName) prog_7_method_3_code (1 : Nat) (Option.some Jvm.ClassFile.FieldType.int)) ∈ TB := tb_3 6 rfl rfl
theorem tw_3_7 : (Jvm.Cond.methodLink "CodeJudge$Judge" (144 : Nat) ({ cls := "CodeJudge$Order", name := "puts", desc := "(I)I" } : Jvm.MethodName)) ∈ TB := tb_3 7 rfl rfl
theorem tw_3_8 : (Jvm.Cond.static ({ cls := "CodeJudge$Order", name := "puts", desc := "(I)I" } : Jvm.MethodName)) ∈ TB := tb_3 8 rfl rfl
theorem tw_3_9 : (Jvm.Cond.code ({ cls := "CodeJudge$Order", name := "puts", desc := "(I)I" } : Jvm.MethodName) prog_7_method_4_code (1 : Nat) (Option.some Jvm.ClassFile.FieldType.int)) ∈ TB := tb_3 9 rfl rfl
theorem tw_3_10 : (Jvm.Cond.methodLink "CodeJudgeLaw" (92 : Nat) ({ cls := "CodeJudgeLaw", name := "height", desc := "(LCodeJudge;II[J)I" } : Jvm.MethodName)) ∈ TB := tb_3 10 rfl rfl
theorem tw_3_11 : (Jvm.Cond.static ({ cls := "CodeJudgeLaw", name := "height", desc := "(LCodeJudge;II[J)I" } : Jvm.MethodName)) ∈ TB := tb_3 11 rfl rfl
theorem tw_3_12 : (Jvm.Cond.codeWith ({ cls := "CodeJudgeLaw", name := "height", desc := "(LCodeJudge;II[J)I" } : Jvm.MethodName) method_8_code (5 : Nat) (Option.some Jvm.ClassFile.FieldType.int) [((0 : Nat), (10 : Nat), (13 : Nat), (13 : Nat)), ((0 : Nat), (10 : Nat), (17 : Nat), (21 : Nat))]) ∈ TB := tb_3 12 rfl rfl
theorem tw_3_13 : (Jvm.Cond.methodLink "CodeJudgeLaw" (34 : Nat) ({ cls := "CodeJudge", name := "height", desc := "(II)I" } : Jvm.MethodName)) ∈ TB := tb_3 13 rfl rfl
theorem tw_3_14 : (Jvm.Cond.instanceMethod ({ cls := "CodeJudge", name := "height", desc := "(II)I" } : Jvm.MethodName)) ∈ TB := tb_3 14 rfl rfl
theorem tw_3_15 : (Jvm.Cond.selects "CodeJudge" ({ cls := "CodeJudge", name := "height", desc := "(II)I" } : Jvm.MethodName) ({ cls := "CodeJudge", name := "height", desc := "(II)I" } : Jvm.MethodName)) ∈ TB := tb_3 15 rfl rfl
theorem tw_3_16 : (Jvm.Cond.code ({ cls := "CodeJudge", name := "height", desc := "(II)I" } : Jvm.MethodName) prog_1_method_7_code (4 : Nat) (Option.some Jvm.ClassFile.FieldType.int)) ∈ TB := tb_3 16 rfl rfl
theorem tw_3_17 : (Jvm.Cond.methodLink "CodeJudge" (86 : Nat) ({ cls := "CodeJudge", name := "needGood", desc := "(LCodeJudge$Method;)V" } : Jvm.MethodName)) ∈ TB := tb_3 17 rfl rfl
theorem tw_3_19 : (Jvm.Cond.instanceMethod ({ cls := "CodeJudge", name := "needGood", desc := "(LCodeJudge$Method;)V" } : Jvm.MethodName)) ∈ TB := tb_3 19 rfl rfl
theorem tw_3_20 : (Jvm.Cond.code ({ cls := "CodeJudge", name := "needGood", desc := "(LCodeJudge$Method;)V" } : Jvm.MethodName) prog_1_method_20_code (2 : Nat) (Option.none : Option Jvm.ClassFile.FieldType)) ∈ TB := tb_3 20 rfl rfl
theorem tw_3_21 : (Jvm.Cond.methodLink "CodeJudge" (90 : Nat) ({ cls := "CodeJudge$Judge", name := "heightAt", desc := "(I)I" } : Jvm.MethodName)) ∈ TB := tb_3 21 rfl rfl
theorem tw_3_22 : (Jvm.Cond.instanceMethod ({ cls := "CodeJudge$Judge", name := "heightAt", desc := "(I)I" } : Jvm.MethodName)) ∈ TB := tb_3 22 rfl rfl
theorem tw_3_23 : (Jvm.Cond.selects "CodeJudge$Judge" ({ cls := "CodeJudge$Judge", name := "heightAt", desc := "(I)I" } : Jvm.MethodName) ({ cls := "CodeJudge$Judge", name := "heightAt", desc := "(I)I" } : Jvm.MethodName)) ∈ TB := tb_3 23 rfl rfl
theorem tw_3_24 : (Jvm.Cond.code ({ cls := "CodeJudge$Judge", name := "heightAt", desc := "(I)I" } : Jvm.MethodName) prog_4_method_9_code (2 : Nat) (Option.some Jvm.ClassFile.FieldType.int)) ∈ TB := tb_3 24 rfl rfl
theorem tw_3_25 : (Jvm.Cond.methodLink "CodeJudgeLaw" (96 : Nat) ({ cls := "CodeJudgeLaw", name := "type", desc := "(LCodeJudge;IIII[J)I" } : Jvm.MethodName)) ∈ TB := tb_3 25 rfl rfl
theorem tw_3_26 : (Jvm.Cond.static ({ cls := "CodeJudgeLaw", name := "type", desc := "(LCodeJudge;IIII[J)I" } : Jvm.MethodName)) ∈ TB := tb_3 26 rfl rfl
theorem tw_3_27 : (Jvm.Cond.codeWith ({ cls := "CodeJudgeLaw", name := "type", desc := "(LCodeJudge;IIII[J)I" } : Jvm.MethodName) method_9_code (7 : Nat) (Option.some Jvm.ClassFile.FieldType.int) [((0 : Nat), (14 : Nat), (17 : Nat), (13 : Nat)), ((0 : Nat), (14 : Nat), (21 : Nat), (21 : Nat))]) ∈ TB := tb_3 27 rfl rfl
theorem tw_3_28 : (Jvm.Cond.methodLink "CodeJudgeLaw" (38 : Nat) ({ cls := "CodeJudge", name := "type", desc := "(IIII)I" } : Jvm.MethodName)) ∈ TB := tb_3 28 rfl rfl
theorem tw_3_29 : (Jvm.Cond.instanceMethod ({ cls := "CodeJudge", name := "type", desc := "(IIII)I" } : Jvm.MethodName)) ∈ TB := tb_3 29 rfl rfl
theorem tw_3_30 : (Jvm.Cond.selects "CodeJudge" ({ cls := "CodeJudge", name := "type", desc := "(IIII)I" } : Jvm.MethodName) ({ cls := "CodeJudge", name := "type", desc := "(IIII)I" } : Jvm.MethodName)) ∈ TB := tb_3 30 rfl rfl
theorem tw_3_31 : (Jvm.Cond.code ({ cls := "CodeJudge", name := "type", desc := "(IIII)I" } : Jvm.MethodName) prog_1_method_8_code (6 : Nat) (Option.some Jvm.ClassFile.FieldType.int)) ∈ TB := tb_3 31 rfl rfl
theorem tw_3_32 : (Jvm.Cond.methodLink "CodeJudge" (96 : Nat) ({ cls := "CodeJudge$Judge", name := "stackTypeAt", desc := "(II)I" } : Jvm.MethodName)) ∈ TB := tb_3 32 rfl rfl
theorem tw_3_33 : (Jvm.Cond.instanceMethod ({ cls := "CodeJudge$Judge", name := "stackTypeAt", desc := "(II)I" } : Jvm.MethodName)) ∈ TB := tb_3 33 rfl rfl
theorem tw_3_34 : (Jvm.Cond.selects "CodeJudge$Judge" ({ cls := "CodeJudge$Judge", name := "stackTypeAt", desc := "(II)I" } : Jvm.MethodName) ({ cls := "CodeJudge$Judge", name := "stackTypeAt", desc := "(II)I" } : Jvm.MethodName)) ∈ TB := tb_3 34 rfl rfl
theorem tw_3_35 : (Jvm.Cond.code ({ cls := "CodeJudge$Judge", name := "stackTypeAt", desc := "(II)I" } : Jvm.MethodName) prog_4_method_10_code (3 : Nat) (Option.some Jvm.ClassFile.FieldType.int)) ∈ TB := tb_3 35 rfl rfl
theorem tw_3_36 : (Jvm.Cond.methodLink "CodeJudge$Judge" (151 : Nat) ({ cls := "CodeJudge$Judge", name := "heightAt", desc := "(I)I" } : Jvm.MethodName)) ∈ TB := tb_3 36 rfl rfl
theorem tw_3_37 : (Jvm.Cond.methodLink "CodeJudge" (100 : Nat) ({ cls := "CodeJudge$Judge", name := "localTypeAt", desc := "(II)I" } : Jvm.MethodName)) ∈ TB := tb_3 37 rfl rfl
theorem tw_3_38 : (Jvm.Cond.instanceMethod ({ cls := "CodeJudge$Judge", name := "localTypeAt", desc := "(II)I" } : Jvm.MethodName)) ∈ TB := tb_3 38 rfl rfl
theorem tw_3_39 : (Jvm.Cond.selects "CodeJudge$Judge" ({ cls := "CodeJudge$Judge", name := "localTypeAt", desc := "(II)I" } : Jvm.MethodName) ({ cls := "CodeJudge$Judge", name := "localTypeAt", desc := "(II)I" } : Jvm.MethodName)) ∈ TB := tb_3 39 rfl rfl
theorem tw_3_40 : (Jvm.Cond.code ({ cls := "CodeJudge$Judge", name := "localTypeAt", desc := "(II)I" } : Jvm.MethodName) prog_4_method_11_code (3 : Nat) (Option.some Jvm.ClassFile.FieldType.int)) ∈ TB := tb_3 40 rfl rfl
theorem tw_3_41 : (Jvm.Cond.methodLink "CodeJudgeLaw" (100 : Nat) ({ cls := "CodeJudgeLaw", name := "start", desc := "(LCodeJudge;IIIII)I" } : Jvm.MethodName)) ∈ TB := tb_3 41 rfl rfl
theorem tw_3_42 : (Jvm.Cond.static ({ cls := "CodeJudgeLaw", name := "start", desc := "(LCodeJudge;IIIII)I" } : Jvm.MethodName)) ∈ TB := tb_3 42 rfl rfl
theorem tw_3_43 : (Jvm.Cond.codeWith ({ cls := "CodeJudgeLaw", name := "start", desc := "(LCodeJudge;IIIII)I" } : Jvm.MethodName) method_10_code (7 : Nat) (Option.some Jvm.ClassFile.FieldType.int) [((0 : Nat), (11 : Nat), (14 : Nat), (13 : Nat)), ((0 : Nat), (11 : Nat), (18 : Nat), (15 : Nat)), ((0 : Nat), (11 : Nat), (22 : Nat), (21 : Nat))]) ∈ TB := tb_3 43 rfl rfl
theorem tw_3_44 : (Jvm.Cond.methodLink "CodeJudgeLaw" (42 : Nat) ({ cls := "CodeJudge", name := "start", desc := "(IIIII)V" } : Jvm.MethodName)) ∈ TB := tb_3 44 rfl rfl
theorem tw_3_45 : (Jvm.Cond.instanceMethod ({ cls := "CodeJudge", name := "start", desc := "(IIIII)V" } : Jvm.MethodName)) ∈ TB := tb_3 45 rfl rfl
theorem tw_3_46 : (Jvm.Cond.selects "CodeJudge" ({ cls := "CodeJudge", name := "start", desc := "(IIIII)V" } : Jvm.MethodName) ({ cls := "CodeJudge", name := "start", desc := "(IIIII)V" } : Jvm.MethodName)) ∈ TB := tb_3 46 rfl rfl
theorem tw_3_47 : (Jvm.Cond.code ({ cls := "CodeJudge", name := "start", desc := "(IIIII)V" } : Jvm.MethodName) prog_1_method_9_code (7 : Nat) (Option.none : Option Jvm.ClassFile.FieldType)) ∈ TB := tb_3 47 rfl rfl
theorem tw_3_48 : (Jvm.Cond.methodLink "CodeJudge" (103 : Nat) ({ cls := "CodeJudge", name := "cellsFit", desc := "(LCodeJudge$Method;II)Z" } : Jvm.MethodName)) ∈ TB := tb_3 48 rfl rfl
theorem tw_3_49 : (Jvm.Cond.static ({ cls := "CodeJudge", name := "cellsFit", desc := "(LCodeJudge$Method;II)Z" } : Jvm.MethodName)) ∈ TB := tb_3 49 rfl rfl
theorem tw_3_50 : (Jvm.Cond.code ({ cls := "CodeJudge", name := "cellsFit", desc := "(LCodeJudge$Method;II)Z" } : Jvm.MethodName) prog_1_method_23_code (3 : Nat) (Option.some Jvm.ClassFile.FieldType.boolean)) ∈ TB := tb_3 50 rfl rfl
theorem tw_3_51 : (Jvm.Cond.methodLink "CodeJudge" (194 : Nat) ({ cls := "CodeJudge$Method", name := "takesArray", desc := "(I)Z" } : Jvm.MethodName)) ∈ TB := tb_3 51 rfl rfl
theorem tw_3_52 : (Jvm.Cond.instanceMethod ({ cls := "CodeJudge$Method", name := "takesArray", desc := "(I)Z" } : Jvm.MethodName)) ∈ TB := tb_3 52 rfl rfl
theorem tw_3_53 : (Jvm.Cond.selects "CodeJudge$Method" ({ cls := "CodeJudge$Method", name := "takesArray", desc := "(I)Z" } : Jvm.MethodName) ({ cls := "CodeJudge$Method", name := "takesArray", desc := "(I)Z" } : Jvm.MethodName)) ∈ TB := tb_3 53 rfl rfl
theorem tw_3_54 : (Jvm.Cond.code ({ cls := "CodeJudge$Method", name := "takesArray", desc := "(I)Z" } : Jvm.MethodName) prog_6_method_9_code (2 : Nat) (Option.some Jvm.ClassFile.FieldType.boolean)) ∈ TB := tb_3 54 rfl rfl
theorem tw_3_55 : (Jvm.Cond.methodLink "CodeJudge" (107 : Nat) ({ cls := "CodeJudge", name := "areGoodFrom", desc := "(I)Z" } : Jvm.MethodName)) ∈ TB := tb_3 55 rfl rfl
theorem tw_3_57 : (Jvm.Cond.instanceMethod ({ cls := "CodeJudge", name := "areGoodFrom", desc := "(I)Z" } : Jvm.MethodName)) ∈ TB := tb_3 57 rfl rfl
theorem tw_3_58 : (Jvm.Cond.code ({ cls := "CodeJudge", name := "areGoodFrom", desc := "(I)Z" } : Jvm.MethodName) prog_1_method_22_code (6 : Nat) (Option.some Jvm.ClassFile.FieldType.boolean)) ∈ TB := tb_3 58 rfl rfl
theorem tw_3_59 : (Jvm.Cond.methodLink "CodeJudge" (185 : Nat) ({ cls := "java/lang/Integer", name := "numberOfTrailingZeros", desc := "(I)I" } : Jvm.MethodName)) ∈ TB := tb_3 59 rfl rfl
theorem tw_3_60 : (Jvm.Cond.static ({ cls := "java/lang/Integer", name := "numberOfTrailingZeros", desc := "(I)I" } : Jvm.MethodName)) ∈ TB := tb_3 60 rfl rfl
theorem tw_3_61 : (Jvm.Cond.code ({ cls := "java/lang/Integer", name := "numberOfTrailingZeros", desc := "(I)I" } : Jvm.MethodName) prog_15_method_48_code (2 : Nat) (Option.some Jvm.ClassFile.FieldType.int)) ∈ TB := tb_3 61 rfl rfl
theorem tw_3_62 : (Jvm.Cond.constant "java/lang/Integer" (264 : Nat) (65536 : Int32)) ∈ TB := tb_3 62 rfl rfl
theorem tw_3_63 : (Jvm.Cond.methodLink "CodeJudge" (190 : Nat) ({ cls := "CodeJudge$Judge", name := "calledBy", desc := "(LCodeJudge$Method;)I" } : Jvm.MethodName)) ∈ TB := tb_3 63 rfl rfl
theorem tw_3_64 : (Jvm.Cond.instanceMethod ({ cls := "CodeJudge$Judge", name := "calledBy", desc := "(LCodeJudge$Method;)I" } : Jvm.MethodName)) ∈ TB := tb_3 64 rfl rfl
theorem tw_3_65 : (Jvm.Cond.selects "CodeJudge$Judge" ({ cls := "CodeJudge$Judge", name := "calledBy", desc := "(LCodeJudge$Method;)I" } : Jvm.MethodName) ({ cls := "CodeJudge$Judge", name := "calledBy", desc := "(LCodeJudge$Method;)I" } : Jvm.MethodName)) ∈ TB := tb_3 65 rfl rfl
theorem tw_3_66 : (Jvm.Cond.code ({ cls := "CodeJudge$Judge", name := "calledBy", desc := "(LCodeJudge$Method;)I" } : Jvm.MethodName) prog_4_method_12_code (4 : Nat) (Option.some Jvm.ClassFile.FieldType.int)) ∈ TB := tb_3 66 rfl rfl
theorem tw_3_67 : (Jvm.Cond.methodLink "CodeJudge" (111 : Nat) ({ cls := "CodeJudge$Machine", name := "begin", desc := "(I)V" } : Jvm.MethodName)) ∈ TB := tb_3 67 rfl rfl
theorem tw_3_68 : (Jvm.Cond.instanceMethod ({ cls := "CodeJudge$Machine", name := "begin", desc := "(I)V" } : Jvm.MethodName)) ∈ TB := tb_3 68 rfl rfl
theorem tw_3_69 : (Jvm.Cond.selects "CodeJudge$Machine" ({ cls := "CodeJudge$Machine", name := "begin", desc := "(I)V" } : Jvm.MethodName) ({ cls := "CodeJudge$Machine", name := "begin", desc := "(I)V" } : Jvm.MethodName)) ∈ TB := tb_3 69 rfl rfl
theorem tw_3_70 : (Jvm.Cond.code ({ cls := "CodeJudge$Machine", name := "begin", desc := "(I)V" } : Jvm.MethodName) prog_5_method_3_code (2 : Nat) (Option.none : Option Jvm.ClassFile.FieldType)) ∈ TB := tb_3 70 rfl rfl
theorem tw_3_71 : (Jvm.Cond.methodLink "CodeJudge$Machine" (46 : Nat) ({ cls := "CodeJudge$Heap", name := "clear", desc := "()V" } : Jvm.MethodName)) ∈ TB := tb_3 71 rfl rfl
theorem tw_3_72 : (Jvm.Cond.instanceMethod ({ cls := "CodeJudge$Heap", name := "clear", desc := "()V" } : Jvm.MethodName)) ∈ TB := tb_3 72 rfl rfl
theorem tw_3_73 : (Jvm.Cond.selects "CodeJudge$Heap" ({ cls := "CodeJudge$Heap", name := "clear", desc := "()V" } : Jvm.MethodName) ({ cls := "CodeJudge$Heap", name := "clear", desc := "()V" } : Jvm.MethodName)) ∈ TB := tb_3 73 rfl rfl
theorem tw_3_74 : (Jvm.Cond.code ({ cls := "CodeJudge$Heap", name := "clear", desc := "()V" } : Jvm.MethodName) prog_3_method_2_code (1 : Nat) (Option.none : Option Jvm.ClassFile.FieldType)) ∈ TB := tb_3 74 rfl rfl
theorem tw_3_75 : (Jvm.Cond.methodLink "CodeJudge$Machine" (49 : Nat) ({ cls := "CodeJudge$Outputs", name := "clear", desc := "()V" } : Jvm.MethodName)) ∈ TB := tb_3 75 rfl rfl
theorem tw_3_76 : (Jvm.Cond.instanceMethod ({ cls := "CodeJudge$Outputs", name := "clear", desc := "()V" } : Jvm.MethodName)) ∈ TB := tb_3 76 rfl rfl
theorem tw_3_77 : (Jvm.Cond.selects "CodeJudge$Outputs" ({ cls := "CodeJudge$Outputs", name := "clear", desc := "()V" } : Jvm.MethodName) ({ cls := "CodeJudge$Outputs", name := "clear", desc := "()V" } : Jvm.MethodName)) ∈ TB := tb_3 77 rfl rfl
theorem tw_3_78 : (Jvm.Cond.code ({ cls := "CodeJudge$Outputs", name := "clear", desc := "()V" } : Jvm.MethodName) prog_8_method_2_code (1 : Nat) (Option.none : Option Jvm.ClassFile.FieldType)) ∈ TB := tb_3 78 rfl rfl
theorem tw_3_79 : (Jvm.Cond.methodLink "CodeJudge$Machine" (53 : Nat) ({ cls := "CodeJudge$Frames", name := "enter", desc := "(I)V" } : Jvm.MethodName)) ∈ TB := tb_3 79 rfl rfl
theorem tw_3_80 : (Jvm.Cond.instanceMethod ({ cls := "CodeJudge$Frames", name := "enter", desc := "(I)V" } : Jvm.MethodName)) ∈ TB := tb_3 80 rfl rfl
theorem tw_3_81 : (Jvm.Cond.selects "CodeJudge$Frames" ({ cls := "CodeJudge$Frames", name := "enter", desc := "(I)V" } : Jvm.MethodName) ({ cls := "CodeJudge$Frames", name := "enter", desc := "(I)V" } : Jvm.MethodName)) ∈ TB := tb_3 81 rfl rfl
theorem tw_3_82 : (Jvm.Cond.code ({ cls := "CodeJudge$Frames", name := "enter", desc := "(I)V" } : Jvm.MethodName) prog_2_method_2_code (3 : Nat) (Option.none : Option Jvm.ClassFile.FieldType)) ∈ TB := tb_3 82 rfl rfl
theorem tw_3_83 : (Jvm.Cond.methodLink "CodeJudge" (114 : Nat) ({ cls := "CodeJudge$Machine", name := "give", desc := "(LCodeJudge$Method;II)V" } : Jvm.MethodName)) ∈ TB := tb_3 83 rfl rfl
theorem tw_3_84 : (Jvm.Cond.instanceMethod ({ cls := "CodeJudge$Machine", name := "give", desc := "(LCodeJudge$Method;II)V" } : Jvm.MethodName)) ∈ TB := tb_3 84 rfl rfl
theorem tw_3_85 : (Jvm.Cond.selects "CodeJudge$Machine" ({ cls := "CodeJudge$Machine", name := "give", desc := "(LCodeJudge$Method;II)V" } : Jvm.MethodName) ({ cls := "CodeJudge$Machine", name := "give", desc := "(LCodeJudge$Method;II)V" } : Jvm.MethodName)) ∈ TB := tb_3 85 rfl rfl
theorem tw_3_86 : (Jvm.Cond.code ({ cls := "CodeJudge$Machine", name := "give", desc := "(LCodeJudge$Method;II)V" } : Jvm.MethodName) prog_5_method_4_code (4 : Nat) (Option.none : Option Jvm.ClassFile.FieldType)) ∈ TB := tb_3 86 rfl rfl
theorem tw_3_87 : (Jvm.Cond.methodLink "CodeJudge$Machine" (62 : Nat) ({ cls := "CodeJudge$Method", name := "takesArray", desc := "(I)Z" } : Jvm.MethodName)) ∈ TB := tb_3 87 rfl rfl
theorem tw_3_88 : (Jvm.Cond.methodLink "CodeJudge$Machine" (66 : Nat) ({ cls := "CodeJudge$Heap", name := "make", desc := "(I)I" } : Jvm.MethodName)) ∈ TB := tb_3 88 rfl rfl
theorem tw_3_89 : (Jvm.Cond.instanceMethod ({ cls := "CodeJudge$Heap", name := "make", desc := "(I)I" } : Jvm.MethodName)) ∈ TB := tb_3 89 rfl rfl
theorem tw_3_90 : (Jvm.Cond.selects "CodeJudge$Heap" ({ cls := "CodeJudge$Heap", name := "make", desc := "(I)I" } : Jvm.MethodName) ({ cls := "CodeJudge$Heap", name := "make", desc := "(I)I" } : Jvm.MethodName)) ∈ TB := tb_3 90 rfl rfl
theorem tw_3_91 : (Jvm.Cond.code ({ cls := "CodeJudge$Heap", name := "make", desc := "(I)I" } : Jvm.MethodName) prog_3_method_4_code (3 : Nat) (Option.some Jvm.ClassFile.FieldType.int)) ∈ TB := tb_3 91 rfl rfl
theorem tw_3_92 : (Jvm.Cond.methodLink "CodeJudge$Heap" (28 : Nat) ({ cls := "CodeJudge$Heap", name := "hasRoom", desc := "(I)Z" } : Jvm.MethodName)) ∈ TB := tb_3 92 rfl rfl
theorem tw_3_93 : (Jvm.Cond.instanceMethod ({ cls := "CodeJudge$Heap", name := "hasRoom", desc := "(I)Z" } : Jvm.MethodName)) ∈ TB := tb_3 93 rfl rfl
theorem tw_3_94 : (Jvm.Cond.selects "CodeJudge$Heap" ({ cls := "CodeJudge$Heap", name := "hasRoom", desc := "(I)Z" } : Jvm.MethodName) ({ cls := "CodeJudge$Heap", name := "hasRoom", desc := "(I)Z" } : Jvm.MethodName)) ∈ TB := tb_3 94 rfl rfl
theorem tw_3_95 : (Jvm.Cond.code ({ cls := "CodeJudge$Heap", name := "hasRoom", desc := "(I)Z" } : Jvm.MethodName) prog_3_method_3_code (2 : Nat) (Option.some Jvm.ClassFile.FieldType.boolean)) ∈ TB := tb_3 95 rfl rfl
theorem tw_3_96 : (Jvm.Cond.methodLink "CodeJudge$Machine" (70 : Nat) ({ cls := "CodeJudge$Frames", name := "setLocal", desc := "(II)V" } : Jvm.MethodName)) ∈ TB := tb_3 96 rfl rfl
theorem tw_3_97 : (Jvm.Cond.instanceMethod ({ cls := "CodeJudge$Frames", name := "setLocal", desc := "(II)V" } : Jvm.MethodName)) ∈ TB := tb_3 97 rfl rfl
theorem tw_3_98 : (Jvm.Cond.selects "CodeJudge$Frames" ({ cls := "CodeJudge$Frames", name := "setLocal", desc := "(II)V" } : Jvm.MethodName) ({ cls := "CodeJudge$Frames", name := "setLocal", desc := "(II)V" } : Jvm.MethodName)) ∈ TB := tb_3 98 rfl rfl
theorem tw_3_99 : (Jvm.Cond.code ({ cls := "CodeJudge$Frames", name := "setLocal", desc := "(II)V" } : Jvm.MethodName) prog_2_method_10_code (3 : Nat) (Option.none : Option Jvm.ClassFile.FieldType)) ∈ TB := tb_3 99 rfl rfl
theorem tw_3_101 : (Jvm.Cond.methodLink "CodeJudgeLaw" (104 : Nat) ({ cls := "CodeJudgeLaw", name := "run", desc := "(LCodeJudge;I[J)I" } : Jvm.MethodName)) ∈ TB := tb_3 101 rfl rfl
theorem tw_3_102 : (Jvm.Cond.static ({ cls := "CodeJudgeLaw", name := "run", desc := "(LCodeJudge;I[J)I" } : Jvm.MethodName)) ∈ TB := tb_3 102 rfl rfl
theorem tw_3_103 : (Jvm.Cond.codeWith ({ cls := "CodeJudgeLaw", name := "run", desc := "(LCodeJudge;I[J)I" } : Jvm.MethodName) method_11_code (4 : Nat) (Option.some Jvm.ClassFile.FieldType.int) [((0 : Nat), (9 : Nat), (12 : Nat), (15 : Nat)), ((0 : Nat), (9 : Nat), (15 : Nat), (21 : Nat))]) ∈ TB := tb_3 103 rfl rfl
theorem tw_3_104 : (Jvm.Cond.methodLink "CodeJudgeLaw" (46 : Nat) ({ cls := "CodeJudge", name := "run", desc := "(I)I" } : Jvm.MethodName)) ∈ TB := tb_3 104 rfl rfl
theorem tw_3_105 : (Jvm.Cond.instanceMethod ({ cls := "CodeJudge", name := "run", desc := "(I)I" } : Jvm.MethodName)) ∈ TB := tb_3 105 rfl rfl
theorem tw_3_106 : (Jvm.Cond.selects "CodeJudge" ({ cls := "CodeJudge", name := "run", desc := "(I)I" } : Jvm.MethodName) ({ cls := "CodeJudge", name := "run", desc := "(I)I" } : Jvm.MethodName)) ∈ TB := tb_3 106 rfl rfl
theorem tw_3_107 : (Jvm.Cond.code ({ cls := "CodeJudge", name := "run", desc := "(I)I" } : Jvm.MethodName) prog_1_method_10_code (2 : Nat) (Option.some Jvm.ClassFile.FieldType.int)) ∈ TB := tb_3 107 rfl rfl
theorem tw_3_108 : (Jvm.Cond.methodLink "CodeJudge" (118 : Nat) ({ cls := "CodeJudge", name := "needRun", desc := "()V" } : Jvm.MethodName)) ∈ TB := tb_3 108 rfl rfl
theorem tw_3_110 : (Jvm.Cond.instanceMethod ({ cls := "CodeJudge", name := "needRun", desc := "()V" } : Jvm.MethodName)) ∈ TB := tb_3 110 rfl rfl
theorem tw_3_111 : (Jvm.Cond.code ({ cls := "CodeJudge", name := "needRun", desc := "()V" } : Jvm.MethodName) prog_1_method_21_code (1 : Nat) (Option.none : Option Jvm.ClassFile.FieldType)) ∈ TB := tb_3 111 rfl rfl
theorem tw_3_112 : (Jvm.Cond.methodLink "CodeJudge" (121 : Nat) ({ cls := "CodeJudge$Machine", name := "advance", desc := "([LCodeJudge$Method;I)I" } : Jvm.MethodName)) ∈ TB := tb_3 112 rfl rfl
theorem tw_3_113 : (Jvm.Cond.instanceMethod ({ cls := "CodeJudge$Machine", name := "advance", desc := "([LCodeJudge$Method;I)I" } : Jvm.MethodName)) ∈ TB := tb_3 113 rfl rfl
theorem tw_3_114 : (Jvm.Cond.selects "CodeJudge$Machine" ({ cls := "CodeJudge$Machine", name := "advance", desc := "([LCodeJudge$Method;I)I" } : Jvm.MethodName) ({ cls := "CodeJudge$Machine", name := "advance", desc := "([LCodeJudge$Method;I)I" } : Jvm.MethodName)) ∈ TB := tb_3 114 rfl rfl
theorem tw_3_115 : (Jvm.Cond.code ({ cls := "CodeJudge$Machine", name := "advance", desc := "([LCodeJudge$Method;I)I" } : Jvm.MethodName) prog_5_method_5_code (4 : Nat) (Option.some Jvm.ClassFile.FieldType.int)) ∈ TB := tb_3 115 rfl rfl
theorem tw_3_116 : (Jvm.Cond.methodLink "CodeJudge$Machine" (74 : Nat) ({ cls := "CodeJudge$Machine", name := "step", desc := "([LCodeJudge$Method;)Z" } : Jvm.MethodName)) ∈ TB := tb_3 116 rfl rfl
theorem tw_3_118 : (Jvm.Cond.instanceMethod ({ cls := "CodeJudge$Machine", name := "step", desc := "([LCodeJudge$Method;)Z" } : Jvm.MethodName)) ∈ TB := tb_3 118 rfl rfl
theorem tw_3_119 : (Jvm.Cond.code ({ cls := "CodeJudge$Machine", name := "step", desc := "([LCodeJudge$Method;)Z" } : Jvm.MethodName) prog_5_method_7_code (8 : Nat) (Option.some Jvm.ClassFile.FieldType.boolean)) ∈ TB := tb_3 119 rfl rfl
theorem tw_3_120 : (Jvm.Cond.methodLink "CodeJudge$Machine" (78 : Nat) ({ cls := "CodeJudge$Frames", name := "upperMethod", desc := "()I" } : Jvm.MethodName)) ∈ TB := tb_3 120 rfl rfl
theorem tw_3_121 : (Jvm.Cond.instanceMethod ({ cls := "CodeJudge$Frames", name := "upperMethod", desc := "()I" } : Jvm.MethodName)) ∈ TB := tb_3 121 rfl rfl
theorem tw_3_122 : (Jvm.Cond.selects "CodeJudge$Frames" ({ cls := "CodeJudge$Frames", name := "upperMethod", desc := "()I" } : Jvm.MethodName) ({ cls := "CodeJudge$Frames", name := "upperMethod", desc := "()I" } : Jvm.MethodName)) ∈ TB := tb_3 122 rfl rfl
theorem tw_3_123 : (Jvm.Cond.code ({ cls := "CodeJudge$Frames", name := "upperMethod", desc := "()I" } : Jvm.MethodName) prog_2_method_5_code (1 : Nat) (Option.some Jvm.ClassFile.FieldType.int)) ∈ TB := tb_3 123 rfl rfl
theorem tw_3_125 : (Jvm.Cond.methodLink "CodeJudge$Machine" (82 : Nat) ({ cls := "CodeJudge$Frames", name := "upperPlace", desc := "()I" } : Jvm.MethodName)) ∈ TB := tb_3 125 rfl rfl
theorem tw_3_126 : (Jvm.Cond.instanceMethod ({ cls := "CodeJudge$Frames", name := "upperPlace", desc := "()I" } : Jvm.MethodName)) ∈ TB := tb_3 126 rfl rfl
theorem tw_3_127 : (Jvm.Cond.selects "CodeJudge$Frames" ({ cls := "CodeJudge$Frames", name := "upperPlace", desc := "()I" } : Jvm.MethodName) ({ cls := "CodeJudge$Frames", name := "upperPlace", desc := "()I" } : Jvm.MethodName)) ∈ TB := tb_3 127 rfl rfl
theorem tw_3_128 : (Jvm.Cond.code ({ cls := "CodeJudge$Frames", name := "upperPlace", desc := "()I" } : Jvm.MethodName) prog_2_method_6_code (1 : Nat) (Option.some Jvm.ClassFile.FieldType.int)) ∈ TB := tb_3 128 rfl rfl
theorem tw_3_129 : (Jvm.Cond.methodLink "CodeJudge$Machine" (98 : Nat) ({ cls := "CodeJudge$Method", name := "orderAt", desc := "(I)I" } : Jvm.MethodName)) ∈ TB := tb_3 129 rfl rfl
theorem tw_3_130 : (Jvm.Cond.methodLink "CodeJudge$Machine" (101 : Nat) ({ cls := "CodeJudge$Method", name := "numberAt", desc := "(I)I" } : Jvm.MethodName)) ∈ TB := tb_3 130 rfl rfl
theorem tw_3_131 : (Jvm.Cond.methodLink "CodeJudge$Machine" (104 : Nat) ({ cls := "CodeJudge$Machine", name := "troubleWith", desc := "(I)I" } : Jvm.MethodName)) ∈ TB := tb_3 131 rfl rfl
theorem tw_3_133 : (Jvm.Cond.instanceMethod ({ cls := "CodeJudge$Machine", name := "troubleWith", desc := "(I)I" } : Jvm.MethodName)) ∈ TB := tb_3 133 rfl rfl
theorem tw_3_134 : (Jvm.Cond.code ({ cls := "CodeJudge$Machine", name := "troubleWith", desc := "(I)I" } : Jvm.MethodName) prog_5_method_8_code (2 : Nat) (Option.some Jvm.ClassFile.FieldType.int)) ∈ TB := tb_3 134 rfl rfl
theorem tw_3_135 : (Jvm.Cond.methodLink "CodeJudge$Machine" (140 : Nat) ({ cls := "CodeJudge$Frames", name := "fromTop", desc := "(I)I" } : Jvm.MethodName)) ∈ TB := tb_3 135 rfl rfl
theorem tw_3_136 : (Jvm.Cond.instanceMethod ({ cls := "CodeJudge$Frames", name := "fromTop", desc := "(I)I" } : Jvm.MethodName)) ∈ TB := tb_3 136 rfl rfl
theorem tw_3_137 : (Jvm.Cond.selects "CodeJudge$Frames" ({ cls := "CodeJudge$Frames", name := "fromTop", desc := "(I)I" } : Jvm.MethodName) ({ cls := "CodeJudge$Frames", name := "fromTop", desc := "(I)I" } : Jvm.MethodName)) ∈ TB := tb_3 137 rfl rfl
theorem tw_3_138 : (Jvm.Cond.code ({ cls := "CodeJudge$Frames", name := "fromTop", desc := "(I)I" } : Jvm.MethodName) prog_2_method_12_code (2 : Nat) (Option.some Jvm.ClassFile.FieldType.int)) ∈ TB := tb_3 138 rfl rfl
theorem tw_3_139 : (Jvm.Cond.methodLink "CodeJudge$Frames" (43 : Nat) ({ cls := "CodeJudge$Frames", name := "upperHeight", desc := "()I" } : Jvm.MethodName)) ∈ TB := tb_3 139 rfl rfl
theorem tw_3_140 : (Jvm.Cond.instanceMethod ({ cls := "CodeJudge$Frames", name := "upperHeight", desc := "()I" } : Jvm.MethodName)) ∈ TB := tb_3 140 rfl rfl
theorem tw_3_141 : (Jvm.Cond.selects "CodeJudge$Frames" ({ cls := "CodeJudge$Frames", name := "upperHeight", desc := "()I" } : Jvm.MethodName) ({ cls := "CodeJudge$Frames", name := "upperHeight", desc := "()I" } : Jvm.MethodName)) ∈ TB := tb_3 141 rfl rfl
theorem tw_3_142 : (Jvm.Cond.code ({ cls := "CodeJudge$Frames", name := "upperHeight", desc := "()I" } : Jvm.MethodName) prog_2_method_7_code (1 : Nat) (Option.some Jvm.ClassFile.FieldType.int)) ∈ TB := tb_3 142 rfl rfl
theorem tw_3_143 : (Jvm.Cond.methodLink "CodeJudge$Frames" (47 : Nat) ({ cls := "CodeJudge$Frames", name := "onStack", desc := "(I)I" } : Jvm.MethodName)) ∈ TB := tb_3 143 rfl rfl
theorem tw_3_144 : (Jvm.Cond.instanceMethod ({ cls := "CodeJudge$Frames", name := "onStack", desc := "(I)I" } : Jvm.MethodName)) ∈ TB := tb_3 144 rfl rfl
theorem tw_3_145 : (Jvm.Cond.selects "CodeJudge$Frames" ({ cls := "CodeJudge$Frames", name := "onStack", desc := "(I)I" } : Jvm.MethodName) ({ cls := "CodeJudge$Frames", name := "onStack", desc := "(I)I" } : Jvm.MethodName)) ∈ TB := tb_3 145 rfl rfl
theorem tw_3_146 : (Jvm.Cond.code ({ cls := "CodeJudge$Frames", name := "onStack", desc := "(I)I" } : Jvm.MethodName) prog_2_method_11_code (2 : Nat) (Option.some Jvm.ClassFile.FieldType.int)) ∈ TB := tb_3 146 rfl rfl
theorem tw_3_147 : (Jvm.Cond.methodLink "CodeJudge$Machine" (143 : Nat) ({ cls := "CodeJudge$Machine", name := "troubleWithLength", desc := "(I)I" } : Jvm.MethodName)) ∈ TB := tb_3 147 rfl rfl
theorem tw_3_149 : (Jvm.Cond.instanceMethod ({ cls := "CodeJudge$Machine", name := "troubleWithLength", desc := "(I)I" } : Jvm.MethodName)) ∈ TB := tb_3 149 rfl rfl
theorem tw_3_150 : (Jvm.Cond.code ({ cls := "CodeJudge$Machine", name := "troubleWithLength", desc := "(I)I" } : Jvm.MethodName) prog_5_method_9_code (2 : Nat) (Option.some Jvm.ClassFile.FieldType.int)) ∈ TB := tb_3 150 rfl rfl
theorem tw_3_151 : (Jvm.Cond.methodLink "CodeJudge$Machine" (153 : Nat) ({ cls := "CodeJudge$Heap", name := "hasRoom", desc := "(I)Z" } : Jvm.MethodName)) ∈ TB := tb_3 151 rfl rfl
theorem tw_3_152 : (Jvm.Cond.methodLink "CodeJudge$Machine" (146 : Nat) ({ cls := "CodeJudge$Heap", name := "has", desc := "(I)Z" } : Jvm.MethodName)) ∈ TB := tb_3 152 rfl rfl
theorem tw_3_153 : (Jvm.Cond.instanceMethod ({ cls := "CodeJudge$Heap", name := "has", desc := "(I)Z" } : Jvm.MethodName)) ∈ TB := tb_3 153 rfl rfl
theorem tw_3_154 : (Jvm.Cond.selects "CodeJudge$Heap" ({ cls := "CodeJudge$Heap", name := "has", desc := "(I)Z" } : Jvm.MethodName) ({ cls := "CodeJudge$Heap", name := "has", desc := "(I)Z" } : Jvm.MethodName)) ∈ TB := tb_3 154 rfl rfl
theorem tw_3_155 : (Jvm.Cond.code ({ cls := "CodeJudge$Heap", name := "has", desc := "(I)Z" } : Jvm.MethodName) prog_3_method_5_code (2 : Nat) (Option.some Jvm.ClassFile.FieldType.boolean)) ∈ TB := tb_3 155 rfl rfl
theorem tw_3_157 : (Jvm.Cond.methodLink "CodeJudge$Machine" (149 : Nat) ({ cls := "CodeJudge$Machine", name := "troubleWithCell", desc := "(II)I" } : Jvm.MethodName)) ∈ TB := tb_3 157 rfl rfl
theorem tw_3_159 : (Jvm.Cond.instanceMethod ({ cls := "CodeJudge$Machine", name := "troubleWithCell", desc := "(II)I" } : Jvm.MethodName)) ∈ TB := tb_3 159 rfl rfl
theorem tw_3_160 : (Jvm.Cond.code ({ cls := "CodeJudge$Machine", name := "troubleWithCell", desc := "(II)I" } : Jvm.MethodName) prog_5_method_10_code (3 : Nat) (Option.some Jvm.ClassFile.FieldType.int)) ∈ TB := tb_3 160 rfl rfl
theorem tw_3_161 : (Jvm.Cond.methodLink "CodeJudge$Machine" (156 : Nat) ({ cls := "CodeJudge$Heap", name := "hasCell", desc := "(II)Z" } : Jvm.MethodName)) ∈ TB := tb_3 161 rfl rfl
theorem tw_3_162 : (Jvm.Cond.instanceMethod ({ cls := "CodeJudge$Heap", name := "hasCell", desc := "(II)Z" } : Jvm.MethodName)) ∈ TB := tb_3 162 rfl rfl
theorem tw_3_163 : (Jvm.Cond.selects "CodeJudge$Heap" ({ cls := "CodeJudge$Heap", name := "hasCell", desc := "(II)Z" } : Jvm.MethodName) ({ cls := "CodeJudge$Heap", name := "hasCell", desc := "(II)Z" } : Jvm.MethodName)) ∈ TB := tb_3 163 rfl rfl
theorem tw_3_164 : (Jvm.Cond.code ({ cls := "CodeJudge$Heap", name := "hasCell", desc := "(II)Z" } : Jvm.MethodName) prog_3_method_6_code (3 : Nat) (Option.some Jvm.ClassFile.FieldType.boolean)) ∈ TB := tb_3 164 rfl rfl
theorem tw_3_165 : (Jvm.Cond.methodLink "CodeJudge$Heap" (36 : Nat) ({ cls := "CodeJudge$Heap", name := "has", desc := "(I)Z" } : Jvm.MethodName)) ∈ TB := tb_3 165 rfl rfl
theorem tw_3_166 : (Jvm.Cond.methodLink "CodeJudge$Machine" (107 : Nat) ({ cls := "CodeJudge$Frames", name := "go", desc := "(I)V" } : Jvm.MethodName)) ∈ TB := tb_3 166 rfl rfl
theorem tw_3_167 : (Jvm.Cond.instanceMethod ({ cls := "CodeJudge$Frames", name := "go", desc := "(I)V" } : Jvm.MethodName)) ∈ TB := tb_3 167 rfl rfl
theorem tw_3_168 : (Jvm.Cond.selects "CodeJudge$Frames" ({ cls := "CodeJudge$Frames", name := "go", desc := "(I)V" } : Jvm.MethodName) ({ cls := "CodeJudge$Frames", name := "go", desc := "(I)V" } : Jvm.MethodName)) ∈ TB := tb_3 168 rfl rfl
theorem tw_3_169 : (Jvm.Cond.code ({ cls := "CodeJudge$Frames", name := "go", desc := "(I)V" } : Jvm.MethodName) prog_2_method_8_code (2 : Nat) (Option.none : Option Jvm.ClassFile.FieldType)) ∈ TB := tb_3 169 rfl rfl
theorem tw_3_170 : (Jvm.Cond.methodLink "CodeJudge$Machine" (115 : Nat) ({ cls := "CodeJudge$Machine", name := "giveBack", desc := "(I)V" } : Jvm.MethodName)) ∈ TB := tb_3 170 rfl rfl
theorem tw_3_172 : (Jvm.Cond.instanceMethod ({ cls := "CodeJudge$Machine", name := "giveBack", desc := "(I)V" } : Jvm.MethodName)) ∈ TB := tb_3 172 rfl rfl
theorem tw_3_173 : (Jvm.Cond.code ({ cls := "CodeJudge$Machine", name := "giveBack", desc := "(I)V" } : Jvm.MethodName) prog_5_method_11_code (3 : Nat) (Option.none : Option Jvm.ClassFile.FieldType)) ∈ TB := tb_3 173 rfl rfl
theorem tw_3_174 : (Jvm.Cond.methodLink "CodeJudge$Machine" (130 : Nat) ({ cls := "CodeJudge$Frames", name := "pop", desc := "()I" } : Jvm.MethodName)) ∈ TB := tb_3 174 rfl rfl
theorem tw_3_175 : (Jvm.Cond.instanceMethod ({ cls := "CodeJudge$Frames", name := "pop", desc := "()I" } : Jvm.MethodName)) ∈ TB := tb_3 175 rfl rfl
theorem tw_3_176 : (Jvm.Cond.selects "CodeJudge$Frames" ({ cls := "CodeJudge$Frames", name := "pop", desc := "()I" } : Jvm.MethodName) ({ cls := "CodeJudge$Frames", name := "pop", desc := "()I" } : Jvm.MethodName)) ∈ TB := tb_3 176 rfl rfl
theorem tw_3_177 : (Jvm.Cond.code ({ cls := "CodeJudge$Frames", name := "pop", desc := "()I" } : Jvm.MethodName) prog_2_method_14_code (1 : Nat) (Option.some Jvm.ClassFile.FieldType.int)) ∈ TB := tb_3 177 rfl rfl
theorem tw_3_178 : (Jvm.Cond.methodLink "CodeJudge$Machine" (159 : Nat) ({ cls := "CodeJudge$Frames", name := "leave", desc := "()V" } : Jvm.MethodName)) ∈ TB := tb_3 178 rfl rfl
theorem tw_3_179 : (Jvm.Cond.instanceMethod ({ cls := "CodeJudge$Frames", name := "leave", desc := "()V" } : Jvm.MethodName)) ∈ TB := tb_3 179 rfl rfl
theorem tw_3_180 : (Jvm.Cond.selects "CodeJudge$Frames" ({ cls := "CodeJudge$Frames", name := "leave", desc := "()V" } : Jvm.MethodName) ({ cls := "CodeJudge$Frames", name := "leave", desc := "()V" } : Jvm.MethodName)) ∈ TB := tb_3 180 rfl rfl
theorem tw_3_181 : (Jvm.Cond.code ({ cls := "CodeJudge$Frames", name := "leave", desc := "()V" } : Jvm.MethodName) prog_2_method_4_code (1 : Nat) (Option.none : Option Jvm.ClassFile.FieldType)) ∈ TB := tb_3 181 rfl rfl
theorem tw_3_182 : (Jvm.Cond.methodLink "CodeJudge$Machine" (162 : Nat) ({ cls := "CodeJudge$Frames", name := "push", desc := "(I)V" } : Jvm.MethodName)) ∈ TB := tb_3 182 rfl rfl
theorem tw_3_183 : (Jvm.Cond.instanceMethod ({ cls := "CodeJudge$Frames", name := "push", desc := "(I)V" } : Jvm.MethodName)) ∈ TB := tb_3 183 rfl rfl
theorem tw_3_184 : (Jvm.Cond.selects "CodeJudge$Frames" ({ cls := "CodeJudge$Frames", name := "push", desc := "(I)V" } : Jvm.MethodName) ({ cls := "CodeJudge$Frames", name := "push", desc := "(I)V" } : Jvm.MethodName)) ∈ TB := tb_3 184 rfl rfl
theorem tw_3_185 : (Jvm.Cond.code ({ cls := "CodeJudge$Frames", name := "push", desc := "(I)V" } : Jvm.MethodName) prog_2_method_13_code (3 : Nat) (Option.none : Option Jvm.ClassFile.FieldType)) ∈ TB := tb_3 185 rfl rfl
theorem tw_3_186 : (Jvm.Cond.methodLink "CodeJudge$Machine" (118 : Nat) ({ cls := "CodeJudge$Frames", name := "enterWith", desc := "(II)V" } : Jvm.MethodName)) ∈ TB := tb_3 186 rfl rfl
theorem tw_3_187 : (Jvm.Cond.instanceMethod ({ cls := "CodeJudge$Frames", name := "enterWith", desc := "(II)V" } : Jvm.MethodName)) ∈ TB := tb_3 187 rfl rfl
theorem tw_3_188 : (Jvm.Cond.selects "CodeJudge$Frames" ({ cls := "CodeJudge$Frames", name := "enterWith", desc := "(II)V" } : Jvm.MethodName) ({ cls := "CodeJudge$Frames", name := "enterWith", desc := "(II)V" } : Jvm.MethodName)) ∈ TB := tb_3 188 rfl rfl
theorem tw_3_189 : (Jvm.Cond.code ({ cls := "CodeJudge$Frames", name := "enterWith", desc := "(II)V" } : Jvm.MethodName) prog_2_method_3_code (5 : Nat) (Option.none : Option Jvm.ClassFile.FieldType)) ∈ TB := tb_3 189 rfl rfl
theorem tw_3_190 : (Jvm.Cond.methodLink "CodeJudge$Frames" (31 : Nat) ({ cls := "CodeJudge$Frames", name := "enter", desc := "(I)V" } : Jvm.MethodName)) ∈ TB := tb_3 190 rfl rfl
theorem tw_3_191 : (Jvm.Cond.methodLink "CodeJudge$Frames" (35 : Nat) ({ cls := "CodeJudge$Frames", name := "setLocal", desc := "(II)V" } : Jvm.MethodName)) ∈ TB := tb_3 191 rfl rfl
theorem tw_3_192 : (Jvm.Cond.methodLink "CodeJudge$Machine" (121 : Nat) ({ cls := "CodeJudge$Order", name := "namesPlace", desc := "(I)Z" } : Jvm.MethodName)) ∈ TB := tb_3 192 rfl rfl
theorem tw_3_193 : (Jvm.Cond.methodLink "CodeJudge$Machine" (124 : Nat) ({ cls := "CodeJudge$Machine", name := "leap", desc := "(II)V" } : Jvm.MethodName)) ∈ TB := tb_3 193 rfl rfl
theorem tw_3_195 : (Jvm.Cond.instanceMethod ({ cls := "CodeJudge$Machine", name := "leap", desc := "(II)V" } : Jvm.MethodName)) ∈ TB := tb_3 195 rfl rfl
theorem tw_3_196 : (Jvm.Cond.code ({ cls := "CodeJudge$Machine", name := "leap", desc := "(II)V" } : Jvm.MethodName) prog_5_method_12_code (3 : Nat) (Option.none : Option Jvm.ClassFile.FieldType)) ∈ TB := tb_3 196 rfl rfl
theorem tw_3_197 : (Jvm.Cond.methodLink "CodeJudge$Machine" (165 : Nat) ({ cls := "CodeJudge$Machine", name := "isMet", desc := "(II)Z" } : Jvm.MethodName)) ∈ TB := tb_3 197 rfl rfl
theorem tw_3_199 : (Jvm.Cond.instanceMethod ({ cls := "CodeJudge$Machine", name := "isMet", desc := "(II)Z" } : Jvm.MethodName)) ∈ TB := tb_3 199 rfl rfl
theorem tw_3_200 : (Jvm.Cond.code ({ cls := "CodeJudge$Machine", name := "isMet", desc := "(II)Z" } : Jvm.MethodName) prog_5_method_13_code (3 : Nat) (Option.some Jvm.ClassFile.FieldType.boolean)) ∈ TB := tb_3 200 rfl rfl
theorem tw_3_201 : (Jvm.Cond.methodLink "CodeJudge$Machine" (127 : Nat) ({ cls := "CodeJudge$Order", name := "combines", desc := "(I)Z" } : Jvm.MethodName)) ∈ TB := tb_3 201 rfl rfl
theorem tw_3_202 : (Jvm.Cond.static ({ cls := "CodeJudge$Order", name := "combines", desc := "(I)Z" } : Jvm.MethodName)) ∈ TB := tb_3 202 rfl rfl
theorem tw_3_203 : (Jvm.Cond.code ({ cls := "CodeJudge$Order", name := "combines", desc := "(I)Z" } : Jvm.MethodName) prog_7_method_6_code (1 : Nat) (Option.some Jvm.ClassFile.FieldType.boolean)) ∈ TB := tb_3 203 rfl rfl
theorem tw_3_204 : (Jvm.Cond.methodLink "CodeJudge$Machine" (133 : Nat) ({ cls := "CodeJudge$Machine", name := "combine", desc := "(III)V" } : Jvm.MethodName)) ∈ TB := tb_3 204 rfl rfl
theorem tw_3_206 : (Jvm.Cond.instanceMethod ({ cls := "CodeJudge$Machine", name := "combine", desc := "(III)V" } : Jvm.MethodName)) ∈ TB := tb_3 206 rfl rfl
theorem tw_3_207 : (Jvm.Cond.code ({ cls := "CodeJudge$Machine", name := "combine", desc := "(III)V" } : Jvm.MethodName) prog_5_method_15_code (4 : Nat) (Option.none : Option Jvm.ClassFile.FieldType)) ∈ TB := tb_3 207 rfl rfl
theorem tw_3_208 : (Jvm.Cond.methodLink "CodeJudge$Machine" (177 : Nat) ({ cls := "CodeJudge$Heap", name := "read", desc := "(II)I" } : Jvm.MethodName)) ∈ TB := tb_3 208 rfl rfl
theorem tw_3_209 : (Jvm.Cond.instanceMethod ({ cls := "CodeJudge$Heap", name := "read", desc := "(II)I" } : Jvm.MethodName)) ∈ TB := tb_3 209 rfl rfl
theorem tw_3_210 : (Jvm.Cond.selects "CodeJudge$Heap" ({ cls := "CodeJudge$Heap", name := "read", desc := "(II)I" } : Jvm.MethodName) ({ cls := "CodeJudge$Heap", name := "read", desc := "(II)I" } : Jvm.MethodName)) ∈ TB := tb_3 210 rfl rfl
theorem tw_3_211 : (Jvm.Cond.code ({ cls := "CodeJudge$Heap", name := "read", desc := "(II)I" } : Jvm.MethodName) prog_3_method_8_code (3 : Nat) (Option.some Jvm.ClassFile.FieldType.int)) ∈ TB := tb_3 211 rfl rfl
theorem tw_3_212 : (Jvm.Cond.methodLink "CodeJudge$Heap" (39 : Nat) ({ cls := "CodeJudge$Heap", name := "hasCell", desc := "(II)Z" } : Jvm.MethodName)) ∈ TB := tb_3 212 rfl rfl
theorem tw_3_213 : (Jvm.Cond.methodLink "CodeJudge$Machine" (180 : Nat) ({ cls := "CodeJudge$Heap", name := "write", desc := "(III)V" } : Jvm.MethodName)) ∈ TB := tb_3 213 rfl rfl
theorem tw_3_214 : (Jvm.Cond.instanceMethod ({ cls := "CodeJudge$Heap", name := "write", desc := "(III)V" } : Jvm.MethodName)) ∈ TB := tb_3 214 rfl rfl
theorem tw_3_215 : (Jvm.Cond.selects "CodeJudge$Heap" ({ cls := "CodeJudge$Heap", name := "write", desc := "(III)V" } : Jvm.MethodName) ({ cls := "CodeJudge$Heap", name := "write", desc := "(III)V" } : Jvm.MethodName)) ∈ TB := tb_3 215 rfl rfl
theorem tw_3_216 : (Jvm.Cond.code ({ cls := "CodeJudge$Heap", name := "write", desc := "(III)V" } : Jvm.MethodName) prog_3_method_9_code (4 : Nat) (Option.none : Option Jvm.ClassFile.FieldType)) ∈ TB := tb_3 216 rfl rfl
theorem tw_3_217 : (Jvm.Cond.methodLink "CodeJudge$Machine" (183 : Nat) ({ cls := "CodeJudge$Machine", name := "reckon", desc := "(III)I" } : Jvm.MethodName)) ∈ TB := tb_3 217 rfl rfl
theorem tw_3_218 : (Jvm.Cond.static ({ cls := "CodeJudge$Machine", name := "reckon", desc := "(III)I" } : Jvm.MethodName)) ∈ TB := tb_3 218 rfl rfl
theorem tw_3_219 : (Jvm.Cond.code ({ cls := "CodeJudge$Machine", name := "reckon", desc := "(III)I" } : Jvm.MethodName) prog_5_method_16_code (3 : Nat) (Option.some Jvm.ClassFile.FieldType.int)) ∈ TB := tb_3 219 rfl rfl
theorem tw_3_220 : (Jvm.Cond.methodLink "CodeJudge$Machine" (137 : Nat) ({ cls := "CodeJudge$Machine", name := "work", desc := "(II)V" } : Jvm.MethodName)) ∈ TB := tb_3 220 rfl rfl
theorem tw_3_222 : (Jvm.Cond.instanceMethod ({ cls := "CodeJudge$Machine", name := "work", desc := "(II)V" } : Jvm.MethodName)) ∈ TB := tb_3 222 rfl rfl
theorem tw_3_223 : (Jvm.Cond.code ({ cls := "CodeJudge$Machine", name := "work", desc := "(II)V" } : Jvm.MethodName) prog_5_method_14_code (3 : Nat) (Option.none : Option Jvm.ClassFile.FieldType)) ∈ TB := tb_3 223 rfl rfl
theorem tw_3_224 : (Jvm.Cond.methodLink "CodeJudge$Machine" (168 : Nat) ({ cls := "CodeJudge$Frames", name := "inLocal", desc := "(I)I" } : Jvm.MethodName)) ∈ TB := tb_3 224 rfl rfl
theorem tw_3_225 : (Jvm.Cond.instanceMethod ({ cls := "CodeJudge$Frames", name := "inLocal", desc := "(I)I" } : Jvm.MethodName)) ∈ TB := tb_3 225 rfl rfl
theorem tw_3_226 : (Jvm.Cond.selects "CodeJudge$Frames" ({ cls := "CodeJudge$Frames", name := "inLocal", desc := "(I)I" } : Jvm.MethodName) ({ cls := "CodeJudge$Frames", name := "inLocal", desc := "(I)I" } : Jvm.MethodName)) ∈ TB := tb_3 226 rfl rfl
theorem tw_3_227 : (Jvm.Cond.code ({ cls := "CodeJudge$Frames", name := "inLocal", desc := "(I)I" } : Jvm.MethodName) prog_2_method_9_code (2 : Nat) (Option.some Jvm.ClassFile.FieldType.int)) ∈ TB := tb_3 227 rfl rfl
theorem tw_3_228 : (Jvm.Cond.methodLink "CodeJudge$Machine" (171 : Nat) ({ cls := "CodeJudge$Outputs", name := "append", desc := "(I)V" } : Jvm.MethodName)) ∈ TB := tb_3 228 rfl rfl
theorem tw_3_229 : (Jvm.Cond.instanceMethod ({ cls := "CodeJudge$Outputs", name := "append", desc := "(I)V" } : Jvm.MethodName)) ∈ TB := tb_3 229 rfl rfl
theorem tw_3_230 : (Jvm.Cond.selects "CodeJudge$Outputs" ({ cls := "CodeJudge$Outputs", name := "append", desc := "(I)V" } : Jvm.MethodName) ({ cls := "CodeJudge$Outputs", name := "append", desc := "(I)V" } : Jvm.MethodName)) ∈ TB := tb_3 230 rfl rfl
theorem tw_3_231 : (Jvm.Cond.code ({ cls := "CodeJudge$Outputs", name := "append", desc := "(I)V" } : Jvm.MethodName) prog_8_method_3_code (2 : Nat) (Option.none : Option Jvm.ClassFile.FieldType)) ∈ TB := tb_3 231 rfl rfl
theorem tw_3_232 : (Jvm.Cond.methodLink "CodeJudge$Outputs" (17 : Nat) ({ cls := "java/lang/Math", name := "floorMod", desc := "(II)I" } : Jvm.MethodName)) ∈ TB := tb_3 232 rfl rfl
theorem tw_3_233 : (Jvm.Cond.static ({ cls := "java/lang/Math", name := "floorMod", desc := "(II)I" } : Jvm.MethodName)) ∈ TB := tb_3 233 rfl rfl
theorem tw_3_234 : (Jvm.Cond.code ({ cls := "java/lang/Math", name := "floorMod", desc := "(II)I" } : Jvm.MethodName) prog_16_method_50_code (3 : Nat) (Option.some Jvm.ClassFile.FieldType.int)) ∈ TB := tb_3 234 rfl rfl
theorem tw_3_235 : (Jvm.Cond.methodLink "CodeJudge$Machine" (174 : Nat) ({ cls := "CodeJudge$Heap", name := "lengthOf", desc := "(I)I" } : Jvm.MethodName)) ∈ TB := tb_3 235 rfl rfl
theorem tw_3_236 : (Jvm.Cond.instanceMethod ({ cls := "CodeJudge$Heap", name := "lengthOf", desc := "(I)I" } : Jvm.MethodName)) ∈ TB := tb_3 236 rfl rfl
theorem tw_3_237 : (Jvm.Cond.selects "CodeJudge$Heap" ({ cls := "CodeJudge$Heap", name := "lengthOf", desc := "(I)I" } : Jvm.MethodName) ({ cls := "CodeJudge$Heap", name := "lengthOf", desc := "(I)I" } : Jvm.MethodName)) ∈ TB := tb_3 237 rfl rfl
theorem tw_3_238 : (Jvm.Cond.code ({ cls := "CodeJudge$Heap", name := "lengthOf", desc := "(I)I" } : Jvm.MethodName) prog_3_method_7_code (2 : Nat) (Option.some Jvm.ClassFile.FieldType.int)) ∈ TB := tb_3 238 rfl rfl
theorem tw_3_239 : (Jvm.Cond.methodLink "CodeJudgeLaw" (107 : Nat) ({ cls := "CodeJudgeLaw", name := "state", desc := "(LCodeJudge;I[J)I" } : Jvm.MethodName)) ∈ TB := tb_3 239 rfl rfl
theorem tw_4_0 : (Jvm.Cond.static ({ cls := "CodeJudgeLaw", name := "state", desc := "(LCodeJudge;I[J)I" } : Jvm.MethodName)) ∈ TB := tb_4 0 rfl rfl
theorem tw_4_1 : (Jvm.Cond.codeWith ({ cls := "CodeJudgeLaw", name := "state", desc := "(LCodeJudge;I[J)I" } : Jvm.MethodName) method_12_code (4 : Nat) (Option.some Jvm.ClassFile.FieldType.int) [((0 : Nat), (9 : Nat), (12 : Nat), (15 : Nat)), ((0 : Nat), (9 : Nat), (15 : Nat), (21 : Nat))]) ∈ TB := tb_4 1 rfl rfl
theorem tw_4_2 : (Jvm.Cond.methodLink "CodeJudgeLaw" (49 : Nat) ({ cls := "CodeJudge", name := "state", desc := "(I)I" } : Jvm.MethodName)) ∈ TB := tb_4 2 rfl rfl
theorem tw_4_3 : (Jvm.Cond.instanceMethod ({ cls := "CodeJudge", name := "state", desc := "(I)I" } : Jvm.MethodName)) ∈ TB := tb_4 3 rfl rfl
theorem tw_4_4 : (Jvm.Cond.selects "CodeJudge" ({ cls := "CodeJudge", name := "state", desc := "(I)I" } : Jvm.MethodName) ({ cls := "CodeJudge", name := "state", desc := "(I)I" } : Jvm.MethodName)) ∈ TB := tb_4 4 rfl rfl
theorem tw_4_5 : (Jvm.Cond.code ({ cls := "CodeJudge", name := "state", desc := "(I)I" } : Jvm.MethodName) prog_1_method_11_code (2 : Nat) (Option.some Jvm.ClassFile.FieldType.int)) ∈ TB := tb_4 5 rfl rfl
theorem tw_4_6 : (Jvm.Cond.methodLink "CodeJudge" (125 : Nat) ({ cls := "CodeJudge$Machine", name := "tell", desc := "(I)I" } : Jvm.MethodName)) ∈ TB := tb_4 6 rfl rfl
theorem tw_4_7 : (Jvm.Cond.instanceMethod ({ cls := "CodeJudge$Machine", name := "tell", desc := "(I)I" } : Jvm.MethodName)) ∈ TB := tb_4 7 rfl rfl
theorem tw_4_8 : (Jvm.Cond.selects "CodeJudge$Machine" ({ cls := "CodeJudge$Machine", name := "tell", desc := "(I)I" } : Jvm.MethodName) ({ cls := "CodeJudge$Machine", name := "tell", desc := "(I)I" } : Jvm.MethodName)) ∈ TB := tb_4 8 rfl rfl
theorem tw_4_9 : (Jvm.Cond.code ({ cls := "CodeJudge$Machine", name := "tell", desc := "(I)I" } : Jvm.MethodName) prog_5_method_6_code (2 : Nat) (Option.some Jvm.ClassFile.FieldType.int)) ∈ TB := tb_4 9 rfl rfl
theorem tw_4_10 : (Jvm.Cond.methodLink "CodeJudgeLaw" (110 : Nat) ({ cls := "CodeJudgeLaw", name := "value", desc := "(LCodeJudge;II[J)I" } : Jvm.MethodName)) ∈ TB := tb_4 10 rfl rfl
theorem tw_4_11 : (Jvm.Cond.static ({ cls := "CodeJudgeLaw", name := "value", desc := "(LCodeJudge;II[J)I" } : Jvm.MethodName)) ∈ TB := tb_4 11 rfl rfl
theorem tw_4_12 : (Jvm.Cond.codeWith ({ cls := "CodeJudgeLaw", name := "value", desc := "(LCodeJudge;II[J)I" } : Jvm.MethodName) method_13_code (5 : Nat) (Option.some Jvm.ClassFile.FieldType.int) [((0 : Nat), (10 : Nat), (13 : Nat), (13 : Nat))]) ∈ TB := tb_4 12 rfl rfl
theorem tw_4_13 : (Jvm.Cond.methodLink "CodeJudgeLaw" (52 : Nat) ({ cls := "CodeJudge", name := "value", desc := "(II)I" } : Jvm.MethodName)) ∈ TB := tb_4 13 rfl rfl
theorem tw_4_14 : (Jvm.Cond.instanceMethod ({ cls := "CodeJudge", name := "value", desc := "(II)I" } : Jvm.MethodName)) ∈ TB := tb_4 14 rfl rfl
theorem tw_4_15 : (Jvm.Cond.selects "CodeJudge" ({ cls := "CodeJudge", name := "value", desc := "(II)I" } : Jvm.MethodName) ({ cls := "CodeJudge", name := "value", desc := "(II)I" } : Jvm.MethodName)) ∈ TB := tb_4 15 rfl rfl
theorem tw_4_16 : (Jvm.Cond.code ({ cls := "CodeJudge", name := "value", desc := "(II)I" } : Jvm.MethodName) prog_1_method_12_code (4 : Nat) (Option.some Jvm.ClassFile.FieldType.int)) ∈ TB := tb_4 16 rfl rfl
theorem tw_4_17 : (Jvm.Cond.methodLink "CodeJudge" (138 : Nat) ({ cls := "CodeJudge$Frames", name := "upperHeight", desc := "()I" } : Jvm.MethodName)) ∈ TB := tb_4 17 rfl rfl
theorem tw_4_18 : (Jvm.Cond.methodLink "CodeJudge" (142 : Nat) ({ cls := "CodeJudge$Frames", name := "onStack", desc := "(I)I" } : Jvm.MethodName)) ∈ TB := tb_4 18 rfl rfl
theorem tw_4_19 : (Jvm.Cond.methodLink "CodeJudge" (145 : Nat) ({ cls := "CodeJudge$Frames", name := "upperMethod", desc := "()I" } : Jvm.MethodName)) ∈ TB := tb_4 19 rfl rfl
theorem tw_4_20 : (Jvm.Cond.methodLink "CodeJudge" (148 : Nat) ({ cls := "CodeJudge$Frames", name := "inLocal", desc := "(I)I" } : Jvm.MethodName)) ∈ TB := tb_4 20 rfl rfl
theorem tw_4_21 : (Jvm.Cond.methodLink "CodeJudgeLaw" (113 : Nat) ({ cls := "CodeJudgeLaw", name := "cell", desc := "(LCodeJudge;II[J)I" } : Jvm.MethodName)) ∈ TB := tb_4 21 rfl rfl
theorem tw_4_22 : (Jvm.Cond.static ({ cls := "CodeJudgeLaw", name := "cell", desc := "(LCodeJudge;II[J)I" } : Jvm.MethodName)) ∈ TB := tb_4 22 rfl rfl
theorem tw_4_23 : (Jvm.Cond.codeWith ({ cls := "CodeJudgeLaw", name := "cell", desc := "(LCodeJudge;II[J)I" } : Jvm.MethodName) method_14_code (5 : Nat) (Option.some Jvm.ClassFile.FieldType.int) [((0 : Nat), (10 : Nat), (13 : Nat), (13 : Nat))]) ∈ TB := tb_4 23 rfl rfl
theorem tw_4_24 : (Jvm.Cond.methodLink "CodeJudgeLaw" (55 : Nat) ({ cls := "CodeJudge", name := "cell", desc := "(II)I" } : Jvm.MethodName)) ∈ TB := tb_4 24 rfl rfl
theorem tw_4_25 : (Jvm.Cond.instanceMethod ({ cls := "CodeJudge", name := "cell", desc := "(II)I" } : Jvm.MethodName)) ∈ TB := tb_4 25 rfl rfl
theorem tw_4_26 : (Jvm.Cond.selects "CodeJudge" ({ cls := "CodeJudge", name := "cell", desc := "(II)I" } : Jvm.MethodName) ({ cls := "CodeJudge", name := "cell", desc := "(II)I" } : Jvm.MethodName)) ∈ TB := tb_4 26 rfl rfl
theorem tw_4_27 : (Jvm.Cond.code ({ cls := "CodeJudge", name := "cell", desc := "(II)I" } : Jvm.MethodName) prog_1_method_13_code (3 : Nat) (Option.some Jvm.ClassFile.FieldType.int)) ∈ TB := tb_4 27 rfl rfl
theorem tw_4_28 : (Jvm.Cond.methodLink "CodeJudge" (155 : Nat) ({ cls := "CodeJudge$Heap", name := "has", desc := "(I)Z" } : Jvm.MethodName)) ∈ TB := tb_4 28 rfl rfl
theorem tw_4_29 : (Jvm.Cond.methodLink "CodeJudge" (160 : Nat) ({ cls := "CodeJudge$Heap", name := "lengthOf", desc := "(I)I" } : Jvm.MethodName)) ∈ TB := tb_4 29 rfl rfl
theorem tw_4_30 : (Jvm.Cond.methodLink "CodeJudge" (163 : Nat) ({ cls := "CodeJudge$Heap", name := "hasCell", desc := "(II)Z" } : Jvm.MethodName)) ∈ TB := tb_4 30 rfl rfl
theorem tw_4_31 : (Jvm.Cond.methodLink "CodeJudge" (166 : Nat) ({ cls := "CodeJudge$Heap", name := "read", desc := "(II)I" } : Jvm.MethodName)) ∈ TB := tb_4 31 rfl rfl
theorem tw_4_32 : (Jvm.Cond.methodLink "CodeJudgeLaw" (116 : Nat) ({ cls := "CodeJudgeLaw", name := "output", desc := "(LCodeJudge;I[J)I" } : Jvm.MethodName)) ∈ TB := tb_4 32 rfl rfl
theorem tw_4_33 : (Jvm.Cond.static ({ cls := "CodeJudgeLaw", name := "output", desc := "(LCodeJudge;I[J)I" } : Jvm.MethodName)) ∈ TB := tb_4 33 rfl rfl
theorem tw_4_34 : (Jvm.Cond.codeWith ({ cls := "CodeJudgeLaw", name := "output", desc := "(LCodeJudge;I[J)I" } : Jvm.MethodName) method_15_code (4 : Nat) (Option.some Jvm.ClassFile.FieldType.int) [((0 : Nat), (9 : Nat), (12 : Nat), (13 : Nat))]) ∈ TB := tb_4 34 rfl rfl
theorem tw_4_35 : (Jvm.Cond.methodLink "CodeJudgeLaw" (58 : Nat) ({ cls := "CodeJudge", name := "output", desc := "(I)I" } : Jvm.MethodName)) ∈ TB := tb_4 35 rfl rfl
theorem tw_4_36 : (Jvm.Cond.instanceMethod ({ cls := "CodeJudge", name := "output", desc := "(I)I" } : Jvm.MethodName)) ∈ TB := tb_4 36 rfl rfl
theorem tw_4_37 : (Jvm.Cond.selects "CodeJudge" ({ cls := "CodeJudge", name := "output", desc := "(I)I" } : Jvm.MethodName) ({ cls := "CodeJudge", name := "output", desc := "(I)I" } : Jvm.MethodName)) ∈ TB := tb_4 37 rfl rfl
theorem tw_4_38 : (Jvm.Cond.code ({ cls := "CodeJudge", name := "output", desc := "(I)I" } : Jvm.MethodName) prog_1_method_14_code (2 : Nat) (Option.some Jvm.ClassFile.FieldType.int)) ∈ TB := tb_4 38 rfl rfl
theorem tw_4_39 : (Jvm.Cond.methodLink "CodeJudge" (173 : Nat) ({ cls := "CodeJudge$Outputs", name := "keeps", desc := "(I)Z" } : Jvm.MethodName)) ∈ TB := tb_4 39 rfl rfl
theorem tw_4_40 : (Jvm.Cond.instanceMethod ({ cls := "CodeJudge$Outputs", name := "keeps", desc := "(I)Z" } : Jvm.MethodName)) ∈ TB := tb_4 40 rfl rfl
theorem tw_4_41 : (Jvm.Cond.selects "CodeJudge$Outputs" ({ cls := "CodeJudge$Outputs", name := "keeps", desc := "(I)Z" } : Jvm.MethodName) ({ cls := "CodeJudge$Outputs", name := "keeps", desc := "(I)Z" } : Jvm.MethodName)) ∈ TB := tb_4 41 rfl rfl
theorem tw_4_42 : (Jvm.Cond.code ({ cls := "CodeJudge$Outputs", name := "keeps", desc := "(I)Z" } : Jvm.MethodName) prog_8_method_4_code (2 : Nat) (Option.some Jvm.ClassFile.FieldType.boolean)) ∈ TB := tb_4 42 rfl rfl
theorem tw_4_44 : (Jvm.Cond.methodLink "CodeJudge" (178 : Nat) ({ cls := "CodeJudge$Outputs", name := "read", desc := "(I)I" } : Jvm.MethodName)) ∈ TB := tb_4 44 rfl rfl
theorem tw_4_45 : (Jvm.Cond.instanceMethod ({ cls := "CodeJudge$Outputs", name := "read", desc := "(I)I" } : Jvm.MethodName)) ∈ TB := tb_4 45 rfl rfl
theorem tw_4_46 : (Jvm.Cond.selects "CodeJudge$Outputs" ({ cls := "CodeJudge$Outputs", name := "read", desc := "(I)I" } : Jvm.MethodName) ({ cls := "CodeJudge$Outputs", name := "read", desc := "(I)I" } : Jvm.MethodName)) ∈ TB := tb_4 46 rfl rfl
theorem tw_4_47 : (Jvm.Cond.code ({ cls := "CodeJudge$Outputs", name := "read", desc := "(I)I" } : Jvm.MethodName) prog_8_method_5_code (2 : Nat) (Option.some Jvm.ClassFile.FieldType.int)) ∈ TB := tb_4 47 rfl rfl
theorem tw_4_48 : (Jvm.Cond.methodLink "CodeJudge$Outputs" (29 : Nat) ({ cls := "CodeJudge$Outputs", name := "keeps", desc := "(I)Z" } : Jvm.MethodName)) ∈ TB := tb_4 48 rfl rfl
theorem tw_4_49 : (Jvm.Cond.methodLink "CodeJudgeLaw" (119 : Nat) ({ cls := "CodeJudgeLaw", name := "count", desc := "(LCodeJudge;I[J)I" } : Jvm.MethodName)) ∈ TB := tb_4 49 rfl rfl
theorem tw_4_50 : (Jvm.Cond.static ({ cls := "CodeJudgeLaw", name := "count", desc := "(LCodeJudge;I[J)I" } : Jvm.MethodName)) ∈ TB := tb_4 50 rfl rfl
theorem tw_4_51 : (Jvm.Cond.codeWith ({ cls := "CodeJudgeLaw", name := "count", desc := "(LCodeJudge;I[J)I" } : Jvm.MethodName) method_16_code (4 : Nat) (Option.some Jvm.ClassFile.FieldType.int) [((0 : Nat), (9 : Nat), (12 : Nat), (15 : Nat))]) ∈ TB := tb_4 51 rfl rfl
theorem tw_4_52 : (Jvm.Cond.methodLink "CodeJudgeLaw" (61 : Nat) ({ cls := "CodeJudge", name := "count", desc := "(I)I" } : Jvm.MethodName)) ∈ TB := tb_4 52 rfl rfl
theorem tw_4_53 : (Jvm.Cond.instanceMethod ({ cls := "CodeJudge", name := "count", desc := "(I)I" } : Jvm.MethodName)) ∈ TB := tb_4 53 rfl rfl
theorem tw_4_54 : (Jvm.Cond.selects "CodeJudge" ({ cls := "CodeJudge", name := "count", desc := "(I)I" } : Jvm.MethodName) ({ cls := "CodeJudge", name := "count", desc := "(I)I" } : Jvm.MethodName)) ∈ TB := tb_4 54 rfl rfl
theorem tw_4_55 : (Jvm.Cond.code ({ cls := "CodeJudge", name := "count", desc := "(I)I" } : Jvm.MethodName) prog_1_method_15_code (4 : Nat) (Option.some Jvm.ClassFile.FieldType.int)) ∈ TB := tb_4 55 rfl rfl
theorem tw_4_56 : (Jvm.Cond.methodLink "CodeJudge" (180 : Nat) ({ cls := "CodeJudge", name := "share", desc := "(LCodeJudge$Method;I)I" } : Jvm.MethodName)) ∈ TB := tb_4 56 rfl rfl
theorem tw_4_58 : (Jvm.Cond.instanceMethod ({ cls := "CodeJudge", name := "share", desc := "(LCodeJudge$Method;I)I" } : Jvm.MethodName)) ∈ TB := tb_4 58 rfl rfl
theorem tw_4_59 : (Jvm.Cond.code ({ cls := "CodeJudge", name := "share", desc := "(LCodeJudge$Method;I)I" } : Jvm.MethodName) prog_1_method_16_code (3 : Nat) (Option.some Jvm.ClassFile.FieldType.int)) ∈ TB := tb_4 59 rfl rfl
theorem tw_4_60 : (Jvm.Cond.classLink "CodeJudgeLaw" (65 : Nat) "CodeJudgeModel") ∈ TB := tb_4 60 rfl rfl
theorem tw_4_61 : (Jvm.Cond.instantiable "CodeJudgeModel" (37 : Nat)) ∈ TB := tb_4 61 rfl rfl
theorem tw_4_62 : (Jvm.Cond.methodLink "CodeJudgeLaw" (67 : Nat) ({ cls := "CodeJudgeModel", name := "<init>", desc := "()V" } : Jvm.MethodName)) ∈ TB := tb_4 62 rfl rfl
theorem tw_4_63 : (Jvm.Cond.instanceMethod ({ cls := "CodeJudgeModel", name := "<init>", desc := "()V" } : Jvm.MethodName)) ∈ TB := tb_4 63 rfl rfl
theorem tw_4_64 : (Jvm.Cond.code ({ cls := "CodeJudgeModel", name := "<init>", desc := "()V" } : Jvm.MethodName) prog_11_method_1_code (1 : Nat) (Option.none : Option Jvm.ClassFile.FieldType)) ∈ TB := tb_4 64 rfl rfl
theorem tw_4_65 : (Jvm.Cond.methodLink "CodeJudgeModel" (1 : Nat) ({ cls := "java/lang/Object", name := "<init>", desc := "()V" } : Jvm.MethodName)) ∈ TB := tb_4 65 rfl rfl
theorem tw_4_66 : (Jvm.Cond.fieldLink "CodeJudgeModel" (86 : Nat) "CodeJudgeModel" "thrown" "I") ∈ TB := tb_4 66 rfl rfl
theorem tw_4_67 : (Jvm.Cond.fieldLink "CodeJudgeModel" (7 : Nat) "CodeJudgeModel" "there" "[Z") ∈ TB := tb_4 67 rfl rfl
theorem tw_4_68 : (Jvm.Cond.fieldLink "CodeJudgeModel" (13 : Nat) "CodeJudgeModel" "parameters" "[I") ∈ TB := tb_4 68 rfl rfl
theorem tw_4_69 : (Jvm.Cond.fieldLink "CodeJudgeModel" (17 : Nat) "CodeJudgeModel" "arrays" "[I") ∈ TB := tb_4 69 rfl rfl
theorem tw_4_70 : (Jvm.Cond.fieldLink "CodeJudgeModel" (20 : Nat) "CodeJudgeModel" "returns" "[I") ∈ TB := tb_4 70 rfl rfl
theorem tw_4_71 : (Jvm.Cond.fieldLink "CodeJudgeModel" (23 : Nat) "CodeJudgeModel" "locals" "[I") ∈ TB := tb_4 71 rfl rfl
theorem tw_4_72 : (Jvm.Cond.fieldLink "CodeJudgeModel" (26 : Nat) "CodeJudgeModel" "limits" "[I") ∈ TB := tb_4 72 rfl rfl
theorem tw_4_73 : (Jvm.Cond.fieldLink "CodeJudgeModel" (29 : Nat) "CodeJudgeModel" "sizes" "[I") ∈ TB := tb_4 73 rfl rfl
theorem tw_4_74 : (Jvm.Cond.fieldLink "CodeJudgeModel" (32 : Nat) "CodeJudgeModel" "orders" "[I") ∈ TB := tb_4 74 rfl rfl
theorem tw_4_75 : (Jvm.Cond.fieldLink "CodeJudgeModel" (35 : Nat) "CodeJudgeModel" "numbers" "[I") ∈ TB := tb_4 75 rfl rfl
theorem tw_4_76 : (Jvm.Cond.fieldLink "CodeJudgeModel" (38 : Nat) "CodeJudgeModel" "heights" "[I") ∈ TB := tb_4 76 rfl rfl
theorem tw_4_77 : (Jvm.Cond.fieldLink "CodeJudgeModel" (41 : Nat) "CodeJudgeModel" "stacks" "[I") ∈ TB := tb_4 77 rfl rfl
theorem tw_4_78 : (Jvm.Cond.fieldLink "CodeJudgeModel" (44 : Nat) "CodeJudgeModel" "types" "[I") ∈ TB := tb_4 78 rfl rfl
theorem tw_4_79 : (Jvm.Cond.fieldLink "CodeJudgeModel" (47 : Nat) "CodeJudgeModel" "fresh" "[Z") ∈ TB := tb_4 79 rfl rfl
theorem tw_4_80 : (Jvm.Cond.fieldLink "CodeJudgeModel" (113 : Nat) "CodeJudgeModel" "fails" "Z") ∈ TB := tb_4 80 rfl rfl
theorem tw_4_81 : (Jvm.Cond.fieldLink "CodeJudgeModel" (110 : Nat) "CodeJudgeModel" "high" "I") ∈ TB := tb_4 81 rfl rfl
theorem tw_4_82 : (Jvm.Cond.fieldLink "CodeJudgeModel" (50 : Nat) "CodeJudgeModel" "row" "[I") ∈ TB := tb_4 82 rfl rfl
theorem tw_4_83 : (Jvm.Cond.fieldLink "CodeJudgeModel" (53 : Nat) "CodeJudgeModel" "holds" "[I") ∈ TB := tb_4 83 rfl rfl
theorem tw_4_84 : (Jvm.Cond.fieldLink "CodeJudgeModel" (56 : Nat) "CodeJudgeModel" "called" "[Z") ∈ TB := tb_4 84 rfl rfl
theorem tw_4_85 : (Jvm.Cond.fieldLink "CodeJudgeModel" (98 : Nat) "CodeJudgeModel" "isRun" "Z") ∈ TB := tb_4 85 rfl rfl
theorem tw_4_86 : (Jvm.Cond.fieldLink "CodeJudgeModel" (154 : Nat) "CodeJudgeModel" "frames" "I") ∈ TB := tb_4 86 rfl rfl
theorem tw_4_87 : (Jvm.Cond.fieldLink "CodeJudgeModel" (59 : Nat) "CodeJudgeModel" "methods" "[I") ∈ TB := tb_4 87 rfl rfl
theorem tw_4_88 : (Jvm.Cond.fieldLink "CodeJudgeModel" (62 : Nat) "CodeJudgeModel" "places" "[I") ∈ TB := tb_4 88 rfl rfl
theorem tw_4_89 : (Jvm.Cond.fieldLink "CodeJudgeModel" (65 : Nat) "CodeJudgeModel" "tops" "[I") ∈ TB := tb_4 89 rfl rfl
theorem tw_4_90 : (Jvm.Cond.fieldLink "CodeJudgeModel" (68 : Nat) "CodeJudgeModel" "values" "[I") ∈ TB := tb_4 90 rfl rfl
theorem tw_4_91 : (Jvm.Cond.fieldLink "CodeJudgeModel" (71 : Nat) "CodeJudgeModel" "slots" "[I") ∈ TB := tb_4 91 rfl rfl
theorem tw_4_92 : (Jvm.Cond.fieldLink "CodeJudgeModel" (164 : Nat) "CodeJudgeModel" "trouble" "I") ∈ TB := tb_4 92 rfl rfl
theorem tw_4_93 : (Jvm.Cond.fieldLink "CodeJudgeModel" (167 : Nat) "CodeJudgeModel" "steps" "I") ∈ TB := tb_4 93 rfl rfl
theorem tw_4_94 : (Jvm.Cond.fieldLink "CodeJudgeModel" (170 : Nat) "CodeJudgeModel" "answer" "I") ∈ TB := tb_4 94 rfl rfl
theorem tw_4_95 : (Jvm.Cond.fieldLink "CodeJudgeModel" (148 : Nat) "CodeJudgeModel" "made" "I") ∈ TB := tb_4 95 rfl rfl
theorem tw_4_96 : (Jvm.Cond.fieldLink "CodeJudgeModel" (151 : Nat) "CodeJudgeModel" "cells" "I") ∈ TB := tb_4 96 rfl rfl
theorem tw_4_97 : (Jvm.Cond.fieldLink "CodeJudgeModel" (74 : Nat) "CodeJudgeModel" "begins" "[I") ∈ TB := tb_4 97 rfl rfl
theorem tw_4_98 : (Jvm.Cond.fieldLink "CodeJudgeModel" (77 : Nat) "CodeJudgeModel" "lengths" "[I") ∈ TB := tb_4 98 rfl rfl
theorem tw_4_99 : (Jvm.Cond.fieldLink "CodeJudgeModel" (80 : Nat) "CodeJudgeModel" "memory" "[I") ∈ TB := tb_4 99 rfl rfl
theorem tw_4_100 : (Jvm.Cond.fieldLink "CodeJudgeModel" (173 : Nat) "CodeJudgeModel" "outs" "I") ∈ TB := tb_4 100 rfl rfl
theorem tw_4_101 : (Jvm.Cond.fieldLink "CodeJudgeModel" (83 : Nat) "CodeJudgeModel" "output" "[I") ∈ TB := tb_4 101 rfl rfl
theorem tw_4_102 : (Jvm.Cond.lays "CodeJudgeModel" "CodeJudgeModel" "thrown" "I") ∈ TB := tb_4 102 rfl rfl
theorem tw_4_104 : (Jvm.Cond.laysFinal "CodeJudgeModel" "CodeJudgeModel" "there" "[Z") ∈ TB := tb_4 104 rfl rfl
theorem tw_4_106 : (Jvm.Cond.laysFinal "CodeJudgeModel" "CodeJudgeModel" "parameters" "[I") ∈ TB := tb_4 106 rfl rfl
theorem tw_4_108 : (Jvm.Cond.laysFinal "CodeJudgeModel" "CodeJudgeModel" "arrays" "[I") ∈ TB := tb_4 108 rfl rfl
theorem tw_4_110 : (Jvm.Cond.laysFinal "CodeJudgeModel" "CodeJudgeModel" "returns" "[I") ∈ TB := tb_4 110 rfl rfl
theorem tw_4_112 : (Jvm.Cond.laysFinal "CodeJudgeModel" "CodeJudgeModel" "locals" "[I") ∈ TB := tb_4 112 rfl rfl
theorem tw_4_114 : (Jvm.Cond.laysFinal "CodeJudgeModel" "CodeJudgeModel" "limits" "[I") ∈ TB := tb_4 114 rfl rfl
theorem tw_4_116 : (Jvm.Cond.laysFinal "CodeJudgeModel" "CodeJudgeModel" "sizes" "[I") ∈ TB := tb_4 116 rfl rfl
theorem tw_4_118 : (Jvm.Cond.laysFinal "CodeJudgeModel" "CodeJudgeModel" "orders" "[I") ∈ TB := tb_4 118 rfl rfl
theorem tw_4_120 : (Jvm.Cond.laysFinal "CodeJudgeModel" "CodeJudgeModel" "numbers" "[I") ∈ TB := tb_4 120 rfl rfl
theorem tw_4_122 : (Jvm.Cond.lays "CodeJudgeModel" "CodeJudgeModel" "judged" "I") ∈ TB := tb_4 122 rfl rfl
theorem tw_4_124 : (Jvm.Cond.laysFinal "CodeJudgeModel" "CodeJudgeModel" "heights" "[I") ∈ TB := tb_4 124 rfl rfl
theorem tw_4_126 : (Jvm.Cond.laysFinal "CodeJudgeModel" "CodeJudgeModel" "stacks" "[I") ∈ TB := tb_4 126 rfl rfl
theorem tw_4_128 : (Jvm.Cond.laysFinal "CodeJudgeModel" "CodeJudgeModel" "types" "[I") ∈ TB := tb_4 128 rfl rfl
theorem tw_4_130 : (Jvm.Cond.laysFinal "CodeJudgeModel" "CodeJudgeModel" "fresh" "[Z") ∈ TB := tb_4 130 rfl rfl
theorem tw_4_132 : (Jvm.Cond.lays "CodeJudgeModel" "CodeJudgeModel" "fails" "Z") ∈ TB := tb_4 132 rfl rfl
theorem tw_4_134 : (Jvm.Cond.lays "CodeJudgeModel" "CodeJudgeModel" "high" "I") ∈ TB := tb_4 134 rfl rfl
theorem tw_4_136 : (Jvm.Cond.laysFinal "CodeJudgeModel" "CodeJudgeModel" "row" "[I") ∈ TB := tb_4 136 rfl rfl
theorem tw_4_138 : (Jvm.Cond.laysFinal "CodeJudgeModel" "CodeJudgeModel" "holds" "[I") ∈ TB := tb_4 138 rfl rfl
theorem tw_4_140 : (Jvm.Cond.laysFinal "CodeJudgeModel" "CodeJudgeModel" "called" "[Z") ∈ TB := tb_4 140 rfl rfl
theorem tw_4_142 : (Jvm.Cond.lays "CodeJudgeModel" "CodeJudgeModel" "isRun" "Z") ∈ TB := tb_4 142 rfl rfl
theorem tw_4_144 : (Jvm.Cond.lays "CodeJudgeModel" "CodeJudgeModel" "frames" "I") ∈ TB := tb_4 144 rfl rfl
theorem tw_4_146 : (Jvm.Cond.laysFinal "CodeJudgeModel" "CodeJudgeModel" "methods" "[I") ∈ TB := tb_4 146 rfl rfl
theorem tw_4_148 : (Jvm.Cond.laysFinal "CodeJudgeModel" "CodeJudgeModel" "places" "[I") ∈ TB := tb_4 148 rfl rfl
theorem tw_4_150 : (Jvm.Cond.laysFinal "CodeJudgeModel" "CodeJudgeModel" "tops" "[I") ∈ TB := tb_4 150 rfl rfl
theorem tw_4_152 : (Jvm.Cond.laysFinal "CodeJudgeModel" "CodeJudgeModel" "values" "[I") ∈ TB := tb_4 152 rfl rfl
theorem tw_4_154 : (Jvm.Cond.laysFinal "CodeJudgeModel" "CodeJudgeModel" "slots" "[I") ∈ TB := tb_4 154 rfl rfl
theorem tw_4_156 : (Jvm.Cond.lays "CodeJudgeModel" "CodeJudgeModel" "trouble" "I") ∈ TB := tb_4 156 rfl rfl
theorem tw_4_158 : (Jvm.Cond.lays "CodeJudgeModel" "CodeJudgeModel" "steps" "I") ∈ TB := tb_4 158 rfl rfl
theorem tw_4_160 : (Jvm.Cond.lays "CodeJudgeModel" "CodeJudgeModel" "answer" "I") ∈ TB := tb_4 160 rfl rfl
theorem tw_4_162 : (Jvm.Cond.lays "CodeJudgeModel" "CodeJudgeModel" "made" "I") ∈ TB := tb_4 162 rfl rfl
theorem tw_4_164 : (Jvm.Cond.lays "CodeJudgeModel" "CodeJudgeModel" "cells" "I") ∈ TB := tb_4 164 rfl rfl
theorem tw_4_166 : (Jvm.Cond.laysFinal "CodeJudgeModel" "CodeJudgeModel" "begins" "[I") ∈ TB := tb_4 166 rfl rfl
theorem tw_4_168 : (Jvm.Cond.laysFinal "CodeJudgeModel" "CodeJudgeModel" "lengths" "[I") ∈ TB := tb_4 168 rfl rfl
theorem tw_4_170 : (Jvm.Cond.laysFinal "CodeJudgeModel" "CodeJudgeModel" "memory" "[I") ∈ TB := tb_4 170 rfl rfl
theorem tw_4_172 : (Jvm.Cond.lays "CodeJudgeModel" "CodeJudgeModel" "outs" "I") ∈ TB := tb_4 172 rfl rfl
theorem tw_4_174 : (Jvm.Cond.laysFinal "CodeJudgeModel" "CodeJudgeModel" "output" "[I") ∈ TB := tb_4 174 rfl rfl
theorem tw_4_177 : (Jvm.Cond.methodLink "CodeJudgeLaw" (74 : Nat) ({ cls := "CodeJudgeModel", name := "thrown", desc := "()I" } : Jvm.MethodName)) ∈ TB := tb_4 177 rfl rfl
theorem tw_4_178 : (Jvm.Cond.instanceMethod ({ cls := "CodeJudgeModel", name := "thrown", desc := "()I" } : Jvm.MethodName)) ∈ TB := tb_4 178 rfl rfl
theorem tw_4_179 : (Jvm.Cond.selects "CodeJudgeModel" ({ cls := "CodeJudgeModel", name := "thrown", desc := "()I" } : Jvm.MethodName) ({ cls := "CodeJudgeModel", name := "thrown", desc := "()I" } : Jvm.MethodName)) ∈ TB := tb_4 179 rfl rfl
theorem tw_4_180 : (Jvm.Cond.code ({ cls := "CodeJudgeModel", name := "thrown", desc := "()I" } : Jvm.MethodName) prog_11_method_2_code (1 : Nat) (Option.some Jvm.ClassFile.FieldType.int)) ∈ TB := tb_4 180 rfl rfl
theorem tw_4_181 : (Jvm.Cond.methodLink "CodeJudgeLaw" (73 : Nat) ({ cls := "CodeJudgeModel", name := "method", desc := "(IIIIII)Z" } : Jvm.MethodName)) ∈ TB := tb_4 181 rfl rfl
theorem tw_4_182 : (Jvm.Cond.instanceMethod ({ cls := "CodeJudgeModel", name := "method", desc := "(IIIIII)Z" } : Jvm.MethodName)) ∈ TB := tb_4 182 rfl rfl
theorem tw_4_183 : (Jvm.Cond.selects "CodeJudgeModel" ({ cls := "CodeJudgeModel", name := "method", desc := "(IIIIII)Z" } : Jvm.MethodName) ({ cls := "CodeJudgeModel", name := "method", desc := "(IIIIII)Z" } : Jvm.MethodName)) ∈ TB := tb_4 183 rfl rfl
theorem tw_4_184 : (Jvm.Cond.code ({ cls := "CodeJudgeModel", name := "method", desc := "(IIIIII)Z" } : Jvm.MethodName) prog_11_method_6_code (9 : Nat) (Option.some Jvm.ClassFile.FieldType.boolean)) ∈ TB := tb_4 184 rfl rfl
theorem tw_4_185 : (Jvm.Cond.methodLink "CodeJudgeModel" (90 : Nat) ({ cls := "CodeJudgeModel", name := "within", desc := "(III)Z" } : Jvm.MethodName)) ∈ TB := tb_4 185 rfl rfl
theorem tw_4_186 : (Jvm.Cond.static ({ cls := "CodeJudgeModel", name := "within", desc := "(III)Z" } : Jvm.MethodName)) ∈ TB := tb_4 186 rfl rfl
theorem tw_4_187 : (Jvm.Cond.code ({ cls := "CodeJudgeModel", name := "within", desc := "(III)Z" } : Jvm.MethodName) prog_11_method_4_code (3 : Nat) (Option.some Jvm.ClassFile.FieldType.boolean)) ∈ TB := tb_4 187 rfl rfl
theorem tw_4_188 : (Jvm.Cond.methodLink "CodeJudgeModel" (94 : Nat) ({ cls := "CodeJudgeModel", name := "goes", desc := "(ZZZ)Z" } : Jvm.MethodName)) ∈ TB := tb_4 188 rfl rfl
theorem tw_4_190 : (Jvm.Cond.instanceMethod ({ cls := "CodeJudgeModel", name := "goes", desc := "(ZZZ)Z" } : Jvm.MethodName)) ∈ TB := tb_4 190 rfl rfl
theorem tw_4_191 : (Jvm.Cond.code ({ cls := "CodeJudgeModel", name := "goes", desc := "(ZZZ)Z" } : Jvm.MethodName) prog_11_method_3_code (4 : Nat) (Option.some Jvm.ClassFile.FieldType.boolean)) ∈ TB := tb_4 191 rfl rfl
theorem tw_4_192 : (Jvm.Cond.methodLink "CodeJudgeLaw" (81 : Nat) ({ cls := "CodeJudgeModel", name := "add", desc := "(III)I" } : Jvm.MethodName)) ∈ TB := tb_4 192 rfl rfl
theorem tw_4_193 : (Jvm.Cond.instanceMethod ({ cls := "CodeJudgeModel", name := "add", desc := "(III)I" } : Jvm.MethodName)) ∈ TB := tb_4 193 rfl rfl
theorem tw_4_194 : (Jvm.Cond.selects "CodeJudgeModel" ({ cls := "CodeJudgeModel", name := "add", desc := "(III)I" } : Jvm.MethodName) ({ cls := "CodeJudgeModel", name := "add", desc := "(III)I" } : Jvm.MethodName)) ∈ TB := tb_4 194 rfl rfl
theorem tw_4_195 : (Jvm.Cond.code ({ cls := "CodeJudgeModel", name := "add", desc := "(III)I" } : Jvm.MethodName) prog_11_method_7_code (4 : Nat) (Option.some Jvm.ClassFile.FieldType.int)) ∈ TB := tb_4 195 rfl rfl
theorem tw_4_196 : (Jvm.Cond.methodLink "CodeJudgeModel" (102 : Nat) ({ cls := "CodeJudgeModel", name := "isMethod", desc := "(I)Z" } : Jvm.MethodName)) ∈ TB := tb_4 196 rfl rfl
theorem tw_4_198 : (Jvm.Cond.instanceMethod ({ cls := "CodeJudgeModel", name := "isMethod", desc := "(I)Z" } : Jvm.MethodName)) ∈ TB := tb_4 198 rfl rfl
theorem tw_4_199 : (Jvm.Cond.code ({ cls := "CodeJudgeModel", name := "isMethod", desc := "(I)Z" } : Jvm.MethodName) prog_11_method_5_code (2 : Nat) (Option.some Jvm.ClassFile.FieldType.boolean)) ∈ TB := tb_4 199 rfl rfl
theorem tw_4_200 : (Jvm.Cond.methodLink "CodeJudgeLaw" (84 : Nat) ({ cls := "CodeJudgeModel", name := "patch", desc := "(III)I" } : Jvm.MethodName)) ∈ TB := tb_4 200 rfl rfl
theorem tw_4_201 : (Jvm.Cond.instanceMethod ({ cls := "CodeJudgeModel", name := "patch", desc := "(III)I" } : Jvm.MethodName)) ∈ TB := tb_4 201 rfl rfl
theorem tw_4_202 : (Jvm.Cond.selects "CodeJudgeModel" ({ cls := "CodeJudgeModel", name := "patch", desc := "(III)I" } : Jvm.MethodName) ({ cls := "CodeJudgeModel", name := "patch", desc := "(III)I" } : Jvm.MethodName)) ∈ TB := tb_4 202 rfl rfl
theorem tw_4_203 : (Jvm.Cond.code ({ cls := "CodeJudgeModel", name := "patch", desc := "(III)I" } : Jvm.MethodName) prog_11_method_9_code (5 : Nat) (Option.some Jvm.ClassFile.FieldType.int)) ∈ TB := tb_4 203 rfl rfl
theorem tw_4_204 : (Jvm.Cond.methodLink "CodeJudgeModel" (106 : Nat) ({ cls := "CodeJudgeModel", name := "isPlace", desc := "(II)Z" } : Jvm.MethodName)) ∈ TB := tb_4 204 rfl rfl
theorem tw_4_206 : (Jvm.Cond.instanceMethod ({ cls := "CodeJudgeModel", name := "isPlace", desc := "(II)Z" } : Jvm.MethodName)) ∈ TB := tb_4 206 rfl rfl
theorem tw_4_207 : (Jvm.Cond.code ({ cls := "CodeJudgeModel", name := "isPlace", desc := "(II)Z" } : Jvm.MethodName) prog_11_method_8_code (3 : Nat) (Option.some Jvm.ClassFile.FieldType.boolean)) ∈ TB := tb_4 207 rfl rfl
theorem tw_4_208 : (Jvm.Cond.methodLink "CodeJudgeLaw" (88 : Nat) ({ cls := "CodeJudgeModel", name := "drop", desc := "(I)I" } : Jvm.MethodName)) ∈ TB := tb_4 208 rfl rfl
theorem tw_4_209 : (Jvm.Cond.instanceMethod ({ cls := "CodeJudgeModel", name := "drop", desc := "(I)I" } : Jvm.MethodName)) ∈ TB := tb_4 209 rfl rfl
theorem tw_4_210 : (Jvm.Cond.selects "CodeJudgeModel" ({ cls := "CodeJudgeModel", name := "drop", desc := "(I)I" } : Jvm.MethodName) ({ cls := "CodeJudgeModel", name := "drop", desc := "(I)I" } : Jvm.MethodName)) ∈ TB := tb_4 210 rfl rfl
theorem tw_4_211 : (Jvm.Cond.code ({ cls := "CodeJudgeModel", name := "drop", desc := "(I)I" } : Jvm.MethodName) prog_11_method_10_code (2 : Nat) (Option.some Jvm.ClassFile.FieldType.int)) ∈ TB := tb_4 211 rfl rfl
theorem tw_4_212 : (Jvm.Cond.methodLink "CodeJudgeLaw" (91 : Nat) ({ cls := "CodeJudgeModel", name := "good", desc := "(I)Z" } : Jvm.MethodName)) ∈ TB := tb_4 212 rfl rfl
theorem tw_4_213 : (Jvm.Cond.instanceMethod ({ cls := "CodeJudgeModel", name := "good", desc := "(I)Z" } : Jvm.MethodName)) ∈ TB := tb_4 213 rfl rfl
theorem tw_4_214 : (Jvm.Cond.selects "CodeJudgeModel" ({ cls := "CodeJudgeModel", name := "good", desc := "(I)Z" } : Jvm.MethodName) ({ cls := "CodeJudgeModel", name := "good", desc := "(I)Z" } : Jvm.MethodName)) ∈ TB := tb_4 214 rfl rfl
theorem tw_4_215 : (Jvm.Cond.code ({ cls := "CodeJudgeModel", name := "good", desc := "(I)Z" } : Jvm.MethodName) prog_11_method_20_code (2 : Nat) (Option.some Jvm.ClassFile.FieldType.boolean)) ∈ TB := tb_4 215 rfl rfl
theorem tw_4_216 : (Jvm.Cond.methodLink "CodeJudgeModel" (145 : Nat) ({ cls := "CodeJudgeModel", name := "judge", desc := "(I)Z" } : Jvm.MethodName)) ∈ TB := tb_4 216 rfl rfl
theorem tw_4_218 : (Jvm.Cond.instanceMethod ({ cls := "CodeJudgeModel", name := "judge", desc := "(I)Z" } : Jvm.MethodName)) ∈ TB := tb_4 218 rfl rfl
theorem tw_4_219 : (Jvm.Cond.code ({ cls := "CodeJudgeModel", name := "judge", desc := "(I)Z" } : Jvm.MethodName) prog_11_method_19_code (4 : Nat) (Option.some Jvm.ClassFile.FieldType.boolean)) ∈ TB := tb_4 219 rfl rfl
theorem tw_4_220 : (Jvm.Cond.methodLink "CodeJudgeModel" (138 : Nat) ({ cls := "CodeJudgeModel", name := "come", desc := "(II)V" } : Jvm.MethodName)) ∈ TB := tb_4 220 rfl rfl
theorem tw_4_222 : (Jvm.Cond.instanceMethod ({ cls := "CodeJudgeModel", name := "come", desc := "(II)V" } : Jvm.MethodName)) ∈ TB := tb_4 222 rfl rfl
theorem tw_4_223 : (Jvm.Cond.code ({ cls := "CodeJudgeModel", name := "come", desc := "(II)V" } : Jvm.MethodName) prog_11_method_17_code (5 : Nat) (Option.none : Option Jvm.ClassFile.FieldType)) ∈ TB := tb_4 223 rfl rfl
theorem tw_4_224 : (Jvm.Cond.methodLink "CodeJudgeModel" (142 : Nat) ({ cls := "CodeJudgeModel", name := "look", desc := "(II)V" } : Jvm.MethodName)) ∈ TB := tb_4 224 rfl rfl
theorem tw_4_226 : (Jvm.Cond.instanceMethod ({ cls := "CodeJudgeModel", name := "look", desc := "(II)V" } : Jvm.MethodName)) ∈ TB := tb_4 226 rfl rfl
theorem tw_4_227 : (Jvm.Cond.code ({ cls := "CodeJudgeModel", name := "look", desc := "(II)V" } : Jvm.MethodName) prog_11_method_18_code (5 : Nat) (Option.none : Option Jvm.ClassFile.FieldType)) ∈ TB := tb_4 227 rfl rfl
theorem tw_4_228 : (Jvm.Cond.methodLink "CodeJudgeModel" (135 : Nat) ({ cls := "CodeJudgeModel", name := "effect", desc := "(III)V" } : Jvm.MethodName)) ∈ TB := tb_4 228 rfl rfl
theorem tw_4_230 : (Jvm.Cond.instanceMethod ({ cls := "CodeJudgeModel", name := "effect", desc := "(III)V" } : Jvm.MethodName)) ∈ TB := tb_4 230 rfl rfl
theorem tw_4_231 : (Jvm.Cond.code ({ cls := "CodeJudgeModel", name := "effect", desc := "(III)V" } : Jvm.MethodName) prog_11_method_16_code (6 : Nat) (Option.none : Option Jvm.ClassFile.FieldType)) ∈ TB := tb_4 231 rfl rfl
theorem tw_4_232 : (Jvm.Cond.methodLink "CodeJudgeModel" (116 : Nat) ({ cls := "CodeJudgeModel", name := "push", desc := "(I)V" } : Jvm.MethodName)) ∈ TB := tb_4 232 rfl rfl
theorem tw_4_234 : (Jvm.Cond.instanceMethod ({ cls := "CodeJudgeModel", name := "push", desc := "(I)V" } : Jvm.MethodName)) ∈ TB := tb_4 234 rfl rfl
theorem tw_4_235 : (Jvm.Cond.code ({ cls := "CodeJudgeModel", name := "push", desc := "(I)V" } : Jvm.MethodName) prog_11_method_11_code (2 : Nat) (Option.none : Option Jvm.ClassFile.FieldType)) ∈ TB := tb_4 235 rfl rfl
theorem tw_4_236 : (Jvm.Cond.methodLink "CodeJudgeModel" (124 : Nat) ({ cls := "CodeJudgeModel", name := "local", desc := "(IIIZ)V" } : Jvm.MethodName)) ∈ TB := tb_4 236 rfl rfl
theorem tw_4_238 : (Jvm.Cond.instanceMethod ({ cls := "CodeJudgeModel", name := "local", desc := "(IIIZ)V" } : Jvm.MethodName)) ∈ TB := tb_4 238 rfl rfl
theorem tw_4_239 : (Jvm.Cond.code ({ cls := "CodeJudgeModel", name := "local", desc := "(IIIZ)V" } : Jvm.MethodName) prog_11_method_13_code (6 : Nat) (Option.none : Option Jvm.ClassFile.FieldType)) ∈ TB := tb_4 239 rfl rfl
theorem tw_5_0 : (Jvm.Cond.methodLink "CodeJudgeModel" (120 : Nat) ({ cls := "CodeJudgeModel", name := "pop", desc := "(I)I" } : Jvm.MethodName)) ∈ TB := tb_5 0 rfl rfl
theorem tw_5_2 : (Jvm.Cond.instanceMethod ({ cls := "CodeJudgeModel", name := "pop", desc := "(I)I" } : Jvm.MethodName)) ∈ TB := tb_5 2 rfl rfl
theorem tw_5_3 : (Jvm.Cond.code ({ cls := "CodeJudgeModel", name := "pop", desc := "(I)I" } : Jvm.MethodName) prog_11_method_12_code (2 : Nat) (Option.some Jvm.ClassFile.FieldType.int)) ∈ TB := tb_5 3 rfl rfl
theorem tw_5_4 : (Jvm.Cond.methodLink "CodeJudgeModel" (128 : Nat) ({ cls := "CodeJudgeModel", name := "take", desc := "(III)V" } : Jvm.MethodName)) ∈ TB := tb_5 4 rfl rfl
theorem tw_5_6 : (Jvm.Cond.instanceMethod ({ cls := "CodeJudgeModel", name := "take", desc := "(III)V" } : Jvm.MethodName)) ∈ TB := tb_5 6 rfl rfl
theorem tw_5_7 : (Jvm.Cond.code ({ cls := "CodeJudgeModel", name := "take", desc := "(III)V" } : Jvm.MethodName) prog_11_method_15_code (7 : Nat) (Option.none : Option Jvm.ClassFile.FieldType)) ∈ TB := tb_5 7 rfl rfl
theorem tw_5_8 : (Jvm.Cond.methodLink "CodeJudgeModel" (132 : Nat) ({ cls := "CodeJudgeModel", name := "call", desc := "(I)V" } : Jvm.MethodName)) ∈ TB := tb_5 8 rfl rfl
theorem tw_5_10 : (Jvm.Cond.instanceMethod ({ cls := "CodeJudgeModel", name := "call", desc := "(I)V" } : Jvm.MethodName)) ∈ TB := tb_5 10 rfl rfl
theorem tw_5_11 : (Jvm.Cond.code ({ cls := "CodeJudgeModel", name := "call", desc := "(I)V" } : Jvm.MethodName) prog_11_method_14_code (4 : Nat) (Option.none : Option Jvm.ClassFile.FieldType)) ∈ TB := tb_5 11 rfl rfl
theorem tw_5_12 : (Jvm.Cond.methodLink "CodeJudgeLaw" (95 : Nat) ({ cls := "CodeJudgeModel", name := "height", desc := "(II)I" } : Jvm.MethodName)) ∈ TB := tb_5 12 rfl rfl
theorem tw_5_13 : (Jvm.Cond.instanceMethod ({ cls := "CodeJudgeModel", name := "height", desc := "(II)I" } : Jvm.MethodName)) ∈ TB := tb_5 13 rfl rfl
theorem tw_5_14 : (Jvm.Cond.selects "CodeJudgeModel" ({ cls := "CodeJudgeModel", name := "height", desc := "(II)I" } : Jvm.MethodName) ({ cls := "CodeJudgeModel", name := "height", desc := "(II)I" } : Jvm.MethodName)) ∈ TB := tb_5 14 rfl rfl
theorem tw_5_15 : (Jvm.Cond.code ({ cls := "CodeJudgeModel", name := "height", desc := "(II)I" } : Jvm.MethodName) prog_11_method_21_code (3 : Nat) (Option.some Jvm.ClassFile.FieldType.int)) ∈ TB := tb_5 15 rfl rfl
theorem tw_5_16 : (Jvm.Cond.methodLink "CodeJudgeLaw" (99 : Nat) ({ cls := "CodeJudgeModel", name := "type", desc := "(IIII)I" } : Jvm.MethodName)) ∈ TB := tb_5 16 rfl rfl
theorem tw_5_17 : (Jvm.Cond.instanceMethod ({ cls := "CodeJudgeModel", name := "type", desc := "(IIII)I" } : Jvm.MethodName)) ∈ TB := tb_5 17 rfl rfl
theorem tw_5_18 : (Jvm.Cond.selects "CodeJudgeModel" ({ cls := "CodeJudgeModel", name := "type", desc := "(IIII)I" } : Jvm.MethodName) ({ cls := "CodeJudgeModel", name := "type", desc := "(IIII)I" } : Jvm.MethodName)) ∈ TB := tb_5 18 rfl rfl
theorem tw_5_19 : (Jvm.Cond.code ({ cls := "CodeJudgeModel", name := "type", desc := "(IIII)I" } : Jvm.MethodName) prog_11_method_22_code (6 : Nat) (Option.some Jvm.ClassFile.FieldType.int)) ∈ TB := tb_5 19 rfl rfl
theorem tw_5_20 : (Jvm.Cond.methodLink "CodeJudgeLaw" (103 : Nat) ({ cls := "CodeJudgeModel", name := "start", desc := "(IIIII)V" } : Jvm.MethodName)) ∈ TB := tb_5 20 rfl rfl
theorem tw_5_21 : (Jvm.Cond.instanceMethod ({ cls := "CodeJudgeModel", name := "start", desc := "(IIIII)V" } : Jvm.MethodName)) ∈ TB := tb_5 21 rfl rfl
theorem tw_5_22 : (Jvm.Cond.selects "CodeJudgeModel" ({ cls := "CodeJudgeModel", name := "start", desc := "(IIIII)V" } : Jvm.MethodName) ({ cls := "CodeJudgeModel", name := "start", desc := "(IIIII)V" } : Jvm.MethodName)) ∈ TB := tb_5 22 rfl rfl
theorem tw_5_23 : (Jvm.Cond.code ({ cls := "CodeJudgeModel", name := "start", desc := "(IIIII)V" } : Jvm.MethodName) prog_11_method_27_code (10 : Nat) (Option.none : Option Jvm.ClassFile.FieldType)) ∈ TB := tb_5 23 rfl rfl
theorem tw_5_24 : (Jvm.Cond.methodLink "CodeJudgeModel" (157 : Nat) ({ cls := "CodeJudgeModel", name := "of", desc := "(IIIII)I" } : Jvm.MethodName)) ∈ TB := tb_5 24 rfl rfl
theorem tw_5_25 : (Jvm.Cond.static ({ cls := "CodeJudgeModel", name := "of", desc := "(IIIII)I" } : Jvm.MethodName)) ∈ TB := tb_5 25 rfl rfl
theorem tw_5_26 : (Jvm.Cond.code ({ cls := "CodeJudgeModel", name := "of", desc := "(IIIII)I" } : Jvm.MethodName) prog_11_method_26_code (5 : Nat) (Option.some Jvm.ClassFile.FieldType.int)) ∈ TB := tb_5 26 rfl rfl
theorem tw_5_27 : (Jvm.Cond.methodLink "CodeJudgeModel" (161 : Nat) ({ cls := "CodeJudgeModel", name := "allGood", desc := "(I)Z" } : Jvm.MethodName)) ∈ TB := tb_5 27 rfl rfl
theorem tw_5_29 : (Jvm.Cond.instanceMethod ({ cls := "CodeJudgeModel", name := "allGood", desc := "(I)Z" } : Jvm.MethodName)) ∈ TB := tb_5 29 rfl rfl
theorem tw_5_30 : (Jvm.Cond.code ({ cls := "CodeJudgeModel", name := "allGood", desc := "(I)Z" } : Jvm.MethodName) prog_11_method_23_code (6 : Nat) (Option.some Jvm.ClassFile.FieldType.boolean)) ∈ TB := tb_5 30 rfl rfl
theorem tw_5_31 : (Jvm.Cond.methodLink "CodeJudgeModel" (176 : Nat) ({ cls := "CodeJudgeModel", name := "open", desc := "(I)V" } : Jvm.MethodName)) ∈ TB := tb_5 31 rfl rfl
theorem tw_5_33 : (Jvm.Cond.instanceMethod ({ cls := "CodeJudgeModel", name := "open", desc := "(I)V" } : Jvm.MethodName)) ∈ TB := tb_5 33 rfl rfl
theorem tw_5_34 : (Jvm.Cond.code ({ cls := "CodeJudgeModel", name := "open", desc := "(I)V" } : Jvm.MethodName) prog_11_method_25_code (3 : Nat) (Option.none : Option Jvm.ClassFile.FieldType)) ∈ TB := tb_5 34 rfl rfl
theorem tw_5_35 : (Jvm.Cond.methodLink "CodeJudgeModel" (179 : Nat) ({ cls := "CodeJudgeModel", name := "make", desc := "(I)I" } : Jvm.MethodName)) ∈ TB := tb_5 35 rfl rfl
theorem tw_5_37 : (Jvm.Cond.instanceMethod ({ cls := "CodeJudgeModel", name := "make", desc := "(I)I" } : Jvm.MethodName)) ∈ TB := tb_5 37 rfl rfl
theorem tw_5_38 : (Jvm.Cond.code ({ cls := "CodeJudgeModel", name := "make", desc := "(I)I" } : Jvm.MethodName) prog_11_method_24_code (3 : Nat) (Option.some Jvm.ClassFile.FieldType.int)) ∈ TB := tb_5 38 rfl rfl
theorem tw_5_39 : (Jvm.Cond.methodLink "CodeJudgeLaw" (106 : Nat) ({ cls := "CodeJudgeModel", name := "run", desc := "(I)I" } : Jvm.MethodName)) ∈ TB := tb_5 39 rfl rfl
theorem tw_5_40 : (Jvm.Cond.instanceMethod ({ cls := "CodeJudgeModel", name := "run", desc := "(I)I" } : Jvm.MethodName)) ∈ TB := tb_5 40 rfl rfl
theorem tw_5_41 : (Jvm.Cond.selects "CodeJudgeModel" ({ cls := "CodeJudgeModel", name := "run", desc := "(I)I" } : Jvm.MethodName) ({ cls := "CodeJudgeModel", name := "run", desc := "(I)I" } : Jvm.MethodName)) ∈ TB := tb_5 41 rfl rfl
theorem tw_5_42 : (Jvm.Cond.code ({ cls := "CodeJudgeModel", name := "run", desc := "(I)I" } : Jvm.MethodName) prog_11_method_38_code (4 : Nat) (Option.some Jvm.ClassFile.FieldType.int)) ∈ TB := tb_5 42 rfl rfl
theorem tw_5_43 : (Jvm.Cond.methodLink "CodeJudgeModel" (208 : Nat) ({ cls := "CodeJudgeModel", name := "troubleOf", desc := "(I)I" } : Jvm.MethodName)) ∈ TB := tb_5 43 rfl rfl
theorem tw_5_45 : (Jvm.Cond.instanceMethod ({ cls := "CodeJudgeModel", name := "troubleOf", desc := "(I)I" } : Jvm.MethodName)) ∈ TB := tb_5 45 rfl rfl
theorem tw_5_46 : (Jvm.Cond.code ({ cls := "CodeJudgeModel", name := "troubleOf", desc := "(I)I" } : Jvm.MethodName) prog_11_method_31_code (2 : Nat) (Option.some Jvm.ClassFile.FieldType.int)) ∈ TB := tb_5 46 rfl rfl
theorem tw_5_47 : (Jvm.Cond.methodLink "CodeJudgeModel" (182 : Nat) ({ cls := "CodeJudgeModel", name := "peek", desc := "(I)I" } : Jvm.MethodName)) ∈ TB := tb_5 47 rfl rfl
theorem tw_5_49 : (Jvm.Cond.instanceMethod ({ cls := "CodeJudgeModel", name := "peek", desc := "(I)I" } : Jvm.MethodName)) ∈ TB := tb_5 49 rfl rfl
theorem tw_5_50 : (Jvm.Cond.code ({ cls := "CodeJudgeModel", name := "peek", desc := "(I)I" } : Jvm.MethodName) prog_11_method_30_code (2 : Nat) (Option.some Jvm.ClassFile.FieldType.int)) ∈ TB := tb_5 50 rfl rfl
theorem tw_5_51 : (Jvm.Cond.methodLink "CodeJudgeModel" (211 : Nat) ({ cls := "CodeJudgeModel", name := "step", desc := "(II)V" } : Jvm.MethodName)) ∈ TB := tb_5 51 rfl rfl
theorem tw_5_53 : (Jvm.Cond.instanceMethod ({ cls := "CodeJudgeModel", name := "step", desc := "(II)V" } : Jvm.MethodName)) ∈ TB := tb_5 53 rfl rfl
theorem tw_5_54 : (Jvm.Cond.code ({ cls := "CodeJudgeModel", name := "step", desc := "(II)V" } : Jvm.MethodName) prog_11_method_37_code (4 : Nat) (Option.none : Option Jvm.ClassFile.FieldType)) ∈ TB := tb_5 54 rfl rfl
theorem tw_5_55 : (Jvm.Cond.methodLink "CodeJudgeModel" (189 : Nat) ({ cls := "CodeJudgeModel", name := "pushValue", desc := "(I)V" } : Jvm.MethodName)) ∈ TB := tb_5 55 rfl rfl
theorem tw_5_57 : (Jvm.Cond.instanceMethod ({ cls := "CodeJudgeModel", name := "pushValue", desc := "(I)V" } : Jvm.MethodName)) ∈ TB := tb_5 57 rfl rfl
theorem tw_5_58 : (Jvm.Cond.code ({ cls := "CodeJudgeModel", name := "pushValue", desc := "(I)V" } : Jvm.MethodName) prog_11_method_29_code (2 : Nat) (Option.none : Option Jvm.ClassFile.FieldType)) ∈ TB := tb_5 58 rfl rfl
theorem tw_5_59 : (Jvm.Cond.methodLink "CodeJudgeModel" (185 : Nat) ({ cls := "CodeJudgeModel", name := "popValue", desc := "()I" } : Jvm.MethodName)) ∈ TB := tb_5 59 rfl rfl
theorem tw_5_61 : (Jvm.Cond.instanceMethod ({ cls := "CodeJudgeModel", name := "popValue", desc := "()I" } : Jvm.MethodName)) ∈ TB := tb_5 61 rfl rfl
theorem tw_5_62 : (Jvm.Cond.code ({ cls := "CodeJudgeModel", name := "popValue", desc := "()I" } : Jvm.MethodName) prog_11_method_28_code (1 : Nat) (Option.some Jvm.ClassFile.FieldType.int)) ∈ TB := tb_5 62 rfl rfl
theorem tw_5_63 : (Jvm.Cond.methodLink "CodeJudgeModel" (192 : Nat) ({ cls := "CodeJudgeModel", name := "worked", desc := "(III)I" } : Jvm.MethodName)) ∈ TB := tb_5 63 rfl rfl
theorem tw_5_64 : (Jvm.Cond.static ({ cls := "CodeJudgeModel", name := "worked", desc := "(III)I" } : Jvm.MethodName)) ∈ TB := tb_5 64 rfl rfl
theorem tw_5_65 : (Jvm.Cond.code ({ cls := "CodeJudgeModel", name := "worked", desc := "(III)I" } : Jvm.MethodName) prog_11_method_32_code (3 : Nat) (Option.some Jvm.ClassFile.FieldType.int)) ∈ TB := tb_5 65 rfl rfl
theorem tw_5_66 : (Jvm.Cond.methodLink "CodeJudgeModel" (196 : Nat) ({ cls := "CodeJudgeModel", name := "jumps", desc := "(I)Z" } : Jvm.MethodName)) ∈ TB := tb_5 66 rfl rfl
theorem tw_5_68 : (Jvm.Cond.instanceMethod ({ cls := "CodeJudgeModel", name := "jumps", desc := "(I)Z" } : Jvm.MethodName)) ∈ TB := tb_5 68 rfl rfl
theorem tw_5_69 : (Jvm.Cond.code ({ cls := "CodeJudgeModel", name := "jumps", desc := "(I)Z" } : Jvm.MethodName) prog_11_method_35_code (4 : Nat) (Option.some Jvm.ClassFile.FieldType.boolean)) ∈ TB := tb_5 69 rfl rfl
theorem tw_5_70 : (Jvm.Cond.methodLink "CodeJudgeModel" (199 : Nat) ({ cls := "CodeJudgeModel", name := "into", desc := "(I)V" } : Jvm.MethodName)) ∈ TB := tb_5 70 rfl rfl
theorem tw_5_72 : (Jvm.Cond.instanceMethod ({ cls := "CodeJudgeModel", name := "into", desc := "(I)V" } : Jvm.MethodName)) ∈ TB := tb_5 72 rfl rfl
theorem tw_5_73 : (Jvm.Cond.code ({ cls := "CodeJudgeModel", name := "into", desc := "(I)V" } : Jvm.MethodName) prog_11_method_34_code (4 : Nat) (Option.none : Option Jvm.ClassFile.FieldType)) ∈ TB := tb_5 73 rfl rfl
theorem tw_5_74 : (Jvm.Cond.methodLink "CodeJudgeModel" (202 : Nat) ({ cls := "CodeJudgeModel", name := "back", desc := "()V" } : Jvm.MethodName)) ∈ TB := tb_5 74 rfl rfl
theorem tw_5_76 : (Jvm.Cond.instanceMethod ({ cls := "CodeJudgeModel", name := "back", desc := "()V" } : Jvm.MethodName)) ∈ TB := tb_5 76 rfl rfl
theorem tw_5_77 : (Jvm.Cond.code ({ cls := "CodeJudgeModel", name := "back", desc := "()V" } : Jvm.MethodName) prog_11_method_33_code (3 : Nat) (Option.none : Option Jvm.ClassFile.FieldType)) ∈ TB := tb_5 77 rfl rfl
theorem tw_5_78 : (Jvm.Cond.methodLink "CodeJudgeModel" (205 : Nat) ({ cls := "CodeJudgeModel", name := "handle", desc := "(I)V" } : Jvm.MethodName)) ∈ TB := tb_5 78 rfl rfl
theorem tw_5_80 : (Jvm.Cond.instanceMethod ({ cls := "CodeJudgeModel", name := "handle", desc := "(I)V" } : Jvm.MethodName)) ∈ TB := tb_5 80 rfl rfl
theorem tw_5_81 : (Jvm.Cond.code ({ cls := "CodeJudgeModel", name := "handle", desc := "(I)V" } : Jvm.MethodName) prog_11_method_36_code (4 : Nat) (Option.none : Option Jvm.ClassFile.FieldType)) ∈ TB := tb_5 81 rfl rfl
theorem tw_5_82 : (Jvm.Cond.methodLink "CodeJudgeLaw" (109 : Nat) ({ cls := "CodeJudgeModel", name := "state", desc := "(I)I" } : Jvm.MethodName)) ∈ TB := tb_5 82 rfl rfl
theorem tw_5_83 : (Jvm.Cond.instanceMethod ({ cls := "CodeJudgeModel", name := "state", desc := "(I)I" } : Jvm.MethodName)) ∈ TB := tb_5 83 rfl rfl
theorem tw_5_84 : (Jvm.Cond.selects "CodeJudgeModel" ({ cls := "CodeJudgeModel", name := "state", desc := "(I)I" } : Jvm.MethodName) ({ cls := "CodeJudgeModel", name := "state", desc := "(I)I" } : Jvm.MethodName)) ∈ TB := tb_5 84 rfl rfl
theorem tw_5_85 : (Jvm.Cond.code ({ cls := "CodeJudgeModel", name := "state", desc := "(I)I" } : Jvm.MethodName) prog_11_method_39_code (2 : Nat) (Option.some Jvm.ClassFile.FieldType.int)) ∈ TB := tb_5 85 rfl rfl
theorem tw_5_86 : (Jvm.Cond.methodLink "CodeJudgeLaw" (112 : Nat) ({ cls := "CodeJudgeModel", name := "value", desc := "(II)I" } : Jvm.MethodName)) ∈ TB := tb_5 86 rfl rfl
theorem tw_5_87 : (Jvm.Cond.instanceMethod ({ cls := "CodeJudgeModel", name := "value", desc := "(II)I" } : Jvm.MethodName)) ∈ TB := tb_5 87 rfl rfl
theorem tw_5_88 : (Jvm.Cond.selects "CodeJudgeModel" ({ cls := "CodeJudgeModel", name := "value", desc := "(II)I" } : Jvm.MethodName) ({ cls := "CodeJudgeModel", name := "value", desc := "(II)I" } : Jvm.MethodName)) ∈ TB := tb_5 88 rfl rfl
theorem tw_5_89 : (Jvm.Cond.code ({ cls := "CodeJudgeModel", name := "value", desc := "(II)I" } : Jvm.MethodName) prog_11_method_40_code (4 : Nat) (Option.some Jvm.ClassFile.FieldType.int)) ∈ TB := tb_5 89 rfl rfl
theorem tw_5_90 : (Jvm.Cond.methodLink "CodeJudgeLaw" (115 : Nat) ({ cls := "CodeJudgeModel", name := "cell", desc := "(II)I" } : Jvm.MethodName)) ∈ TB := tb_5 90 rfl rfl
theorem tw_5_91 : (Jvm.Cond.instanceMethod ({ cls := "CodeJudgeModel", name := "cell", desc := "(II)I" } : Jvm.MethodName)) ∈ TB := tb_5 91 rfl rfl
theorem tw_5_92 : (Jvm.Cond.selects "CodeJudgeModel" ({ cls := "CodeJudgeModel", name := "cell", desc := "(II)I" } : Jvm.MethodName) ({ cls := "CodeJudgeModel", name := "cell", desc := "(II)I" } : Jvm.MethodName)) ∈ TB := tb_5 92 rfl rfl
theorem tw_5_93 : (Jvm.Cond.code ({ cls := "CodeJudgeModel", name := "cell", desc := "(II)I" } : Jvm.MethodName) prog_11_method_41_code (4 : Nat) (Option.some Jvm.ClassFile.FieldType.int)) ∈ TB := tb_5 93 rfl rfl
theorem tw_5_94 : (Jvm.Cond.methodLink "CodeJudgeLaw" (118 : Nat) ({ cls := "CodeJudgeModel", name := "output", desc := "(I)I" } : Jvm.MethodName)) ∈ TB := tb_5 94 rfl rfl
theorem tw_5_95 : (Jvm.Cond.instanceMethod ({ cls := "CodeJudgeModel", name := "output", desc := "(I)I" } : Jvm.MethodName)) ∈ TB := tb_5 95 rfl rfl
theorem tw_5_96 : (Jvm.Cond.selects "CodeJudgeModel" ({ cls := "CodeJudgeModel", name := "output", desc := "(I)I" } : Jvm.MethodName) ({ cls := "CodeJudgeModel", name := "output", desc := "(I)I" } : Jvm.MethodName)) ∈ TB := tb_5 96 rfl rfl
theorem tw_5_97 : (Jvm.Cond.code ({ cls := "CodeJudgeModel", name := "output", desc := "(I)I" } : Jvm.MethodName) prog_11_method_42_code (2 : Nat) (Option.some Jvm.ClassFile.FieldType.int)) ∈ TB := tb_5 97 rfl rfl
theorem tw_5_98 : (Jvm.Cond.methodLink "CodeJudgeLaw" (121 : Nat) ({ cls := "CodeJudgeModel", name := "count", desc := "(I)I" } : Jvm.MethodName)) ∈ TB := tb_5 98 rfl rfl
theorem tw_5_99 : (Jvm.Cond.instanceMethod ({ cls := "CodeJudgeModel", name := "count", desc := "(I)I" } : Jvm.MethodName)) ∈ TB := tb_5 99 rfl rfl
theorem tw_5_100 : (Jvm.Cond.selects "CodeJudgeModel" ({ cls := "CodeJudgeModel", name := "count", desc := "(I)I" } : Jvm.MethodName) ({ cls := "CodeJudgeModel", name := "count", desc := "(I)I" } : Jvm.MethodName)) ∈ TB := tb_5 100 rfl rfl
theorem tw_5_101 : (Jvm.Cond.code ({ cls := "CodeJudgeModel", name := "count", desc := "(I)I" } : Jvm.MethodName) prog_11_method_43_code (5 : Nat) (Option.some Jvm.ClassFile.FieldType.int)) ∈ TB := tb_5 101 rfl rfl
theorem tw_5_102 : (Jvm.Cond.arrayClass Jvm.ClassFile.FieldType.long) ∈ TB := tb_5 102 rfl rfl
theorem tw_5_103 : (Jvm.Cond.sameMethod "java/lang/Throwable" "java/lang/Throwable" "fillInStackTrace" "(I)Ljava/lang/Throwable;") ∈ TB := tb_5 103 rfl rfl
