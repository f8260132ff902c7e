theorem wk_0 : (Jvm.Cond.initialized "DigestTreesLaw") ∈ wsG := in_tables1 (List.mem_of_getElem? (i := 0) rfl) rfl
theorem wk_1 : (Jvm.Cond.initialized "DigestTrees") ∈ wsG := in_tables1 (List.mem_of_getElem? (i := 1) rfl) rfl
theorem wk_2 : (Jvm.Cond.initialized "DigestTrees$Bytes") ∈ wsG := in_tables1 (List.mem_of_getElem? (i := 2) rfl) rfl
theorem wk_3 : (Jvm.Cond.initialized "DigestTrees$Mill") ∈ wsG := in_tables1 (List.mem_of_getElem? (i := 3) rfl) rfl
theorem wk_4 : (Jvm.Cond.initialized "DigestTrees$Message") ∈ wsG := in_tables1 (List.mem_of_getElem? (i := 4) rfl) rfl
theorem wk_5 : (Jvm.Cond.initialized "DigestTrees$Shelf") ∈ wsG := in_tables1 (List.mem_of_getElem? (i := 5) rfl) rfl
theorem wk_6 : (Jvm.Cond.initialized "DigestTrees$Proof") ∈ wsG := in_tables1 (List.mem_of_getElem? (i := 6) rfl) rfl
theorem wk_7 : (Jvm.Cond.initialized "DigestTrees$Store") ∈ wsG := in_tables1 (List.mem_of_getElem? (i := 7) rfl) rfl
theorem wk_8 : (Jvm.Cond.initialized "DigestTrees$Tree") ∈ wsG := in_tables1 (List.mem_of_getElem? (i := 8) rfl) rfl
theorem wk_9 : (Jvm.Cond.initialized "DigestTreesModel") ∈ wsG := in_tables1 (List.mem_of_getElem? (i := 9) rfl) rfl
theorem wk_10 : (Jvm.Cond.initialized "java/lang/System") ∈ wsG := in_tables1 (List.mem_of_getElem? (i := 10) rfl) rfl
theorem wk_11 : (Jvm.Cond.initialized "java/util/Arrays") ∈ wsG := in_tables1 (List.mem_of_getElem? (i := 11) rfl) rfl
theorem wk_12 : (Jvm.Cond.initialized "java/lang/Integer") ∈ wsG := in_tables1 (List.mem_of_getElem? (i := 12) rfl) rfl
theorem wk_13 : (Jvm.Cond.initialized "java/lang/Throwable") ∈ wsG := in_tables1 (List.mem_of_getElem? (i := 13) rfl) rfl
theorem wk_14 : (Jvm.Cond.initialized "java/lang/Exception") ∈ wsG := in_tables1 (List.mem_of_getElem? (i := 14) rfl) rfl
theorem wk_15 : (Jvm.Cond.initialized "java/lang/RuntimeException") ∈ wsG := in_tables1 (List.mem_of_getElem? (i := 15) rfl) rfl
theorem wk_16 : (Jvm.Cond.initialized "java/lang/IndexOutOfBoundsException") ∈ wsG := in_tables1 (List.mem_of_getElem? (i := 16) rfl) rfl
theorem wk_17 : (Jvm.Cond.initialized "java/lang/ArrayIndexOutOfBoundsException") ∈ wsG := in_tables1 (List.mem_of_getElem? (i := 17) rfl) rfl
theorem wk_18 : (Jvm.Cond.initialized "java/lang/String") ∈ wsG := in_tables1 (List.mem_of_getElem? (i := 18) rfl) rfl
theorem wk_19 : (Jvm.Cond.initialized "java/lang/NullPointerException") ∈ wsG := in_tables1 (List.mem_of_getElem? (i := 19) rfl) rfl
theorem wk_20 : (Jvm.Cond.classLink "DigestTreesLaw" (8 : Nat) "DigestTrees") ∈ wsG := in_tables1 (List.mem_of_getElem? (i := 20) rfl) rfl
theorem wk_21 : (Jvm.Cond.instantiable "DigestTrees" (10 : Nat)) ∈ wsG := in_tables1 (List.mem_of_getElem? (i := 21) rfl) rfl
theorem wk_22 : (Jvm.Cond.methodLink "DigestTreesLaw" (29 : Nat) ({ cls := "DigestTrees", name := "<init>", desc := "()V" } : Jvm.MethodName)) ∈ wsG := in_tables1 (List.mem_of_getElem? (i := 22) rfl) rfl
theorem wk_23 : (Jvm.Cond.instanceMethod ({ cls := "DigestTrees", name := "<init>", desc := "()V" } : Jvm.MethodName)) ∈ wsG := in_tables1 (List.mem_of_getElem? (i := 23) rfl) rfl
theorem wk_24 : (Jvm.Cond.code ({ cls := "DigestTrees", name := "<init>", desc := "()V" } : Jvm.MethodName) prog_1_method_1_code (2 : Nat) (Option.none : Option Jvm.ClassFile.FieldType)) ∈ wsG := in_tables1 (List.mem_of_getElem? (i := 24) rfl) rfl
theorem wk_25 : (Jvm.Cond.methodLink "DigestTrees" (1 : Nat) ({ cls := "java/lang/Object", name := "<init>", desc := "()V" } : Jvm.MethodName)) ∈ wsG := in_tables1 (List.mem_of_getElem? (i := 25) rfl) rfl
theorem wk_26 : (Jvm.Cond.instanceMethod ({ cls := "java/lang/Object", name := "<init>", desc := "()V" } : Jvm.MethodName)) ∈ wsG := in_tables1 (List.mem_of_getElem? (i := 26) rfl) rfl
theorem wk_27 : (Jvm.Cond.code ({ cls := "java/lang/Object", name := "<init>", desc := "()V" } : Jvm.MethodName) object_method_1_code (1 : Nat) (Option.none : Option Jvm.ClassFile.FieldType)) ∈ wsG := in_tables1 (List.mem_of_getElem? (i := 27) rfl) rfl
theorem wk_28 : (Jvm.Cond.classLink "DigestTrees" (7 : Nat) "DigestTrees$Bytes") ∈ wsG := in_tables1 (List.mem_of_getElem? (i := 28) rfl) rfl
theorem wk_29 : (Jvm.Cond.instantiable "DigestTrees$Bytes" (2 : Nat)) ∈ wsG := in_tables1 (List.mem_of_getElem? (i := 29) rfl) rfl
theorem wk_31 : (Jvm.Cond.instanceMethod ({ cls := "DigestTrees$Bytes", name := "<init>", desc := "()V" } : Jvm.MethodName)) ∈ wsG := in_tables1 (List.mem_of_getElem? (i := 31) rfl) rfl
theorem wk_32 : (Jvm.Cond.code ({ cls := "DigestTrees$Bytes", name := "<init>", desc := "()V" } : Jvm.MethodName) prog_2_method_1_code (1 : Nat) (Option.none : Option Jvm.ClassFile.FieldType)) ∈ wsG := in_tables1 (List.mem_of_getElem? (i := 32) rfl) rfl
theorem wk_33 : (Jvm.Cond.methodLink "DigestTrees$Bytes" (3 : Nat) ({ cls := "java/lang/Object", name := "<init>", desc := "()V" } : Jvm.MethodName)) ∈ wsG := in_tables1 (List.mem_of_getElem? (i := 33) rfl) rfl
theorem wk_34 : (Jvm.Cond.fieldLink "DigestTrees$Bytes" (9 : Nat) "DigestTrees$Bytes" "room" "[B") ∈ wsG := in_tables1 (List.mem_of_getElem? (i := 34) rfl) rfl
theorem wk_35 : (Jvm.Cond.fieldLink "DigestTrees" (75 : Nat) "DigestTrees$Bytes" "room" "[B") ∈ wsG := in_tables1 (List.mem_of_getElem? (i := 35) rfl) rfl
theorem wk_36 : (Jvm.Cond.fieldLink "DigestTrees$Store" (35 : Nat) "DigestTrees$Bytes" "room" "[B") ∈ wsG := in_tables1 (List.mem_of_getElem? (i := 36) rfl) rfl
theorem wk_37 : (Jvm.Cond.fieldLink "DigestTrees$Message" (53 : Nat) "DigestTrees$Bytes" "room" "[B") ∈ wsG := in_tables1 (List.mem_of_getElem? (i := 37) rfl) rfl
theorem wk_38 : (Jvm.Cond.fieldLink "DigestTrees" (71 : Nat) "DigestTrees$Bytes" "size" "I") ∈ wsG := in_tables1 (List.mem_of_getElem? (i := 38) rfl) rfl
theorem wk_39 : (Jvm.Cond.fieldLink "DigestTrees$Store" (30 : Nat) "DigestTrees$Bytes" "size" "I") ∈ wsG := in_tables1 (List.mem_of_getElem? (i := 39) rfl) rfl
theorem wk_40 : (Jvm.Cond.fieldLink "DigestTrees$Message" (58 : Nat) "DigestTrees$Bytes" "size" "I") ∈ wsG := in_tables1 (List.mem_of_getElem? (i := 40) rfl) rfl
theorem wk_41 : (Jvm.Cond.laysFinal "DigestTrees$Bytes" "DigestTrees$Bytes" "room" "[B") ∈ wsG := in_tables1 (List.mem_of_getElem? (i := 41) rfl) rfl
theorem wk_43 : (Jvm.Cond.lays "DigestTrees$Bytes" "DigestTrees$Bytes" "size" "I") ∈ wsG := in_tables1 (List.mem_of_getElem? (i := 43) rfl) rfl
theorem wk_45 : (Jvm.Cond.superclass "DigestTrees$Bytes" "java/lang/Object") ∈ wsG := in_tables1 (List.mem_of_getElem? (i := 45) rfl) rfl
theorem wk_46 : (Jvm.Cond.arrayClass Jvm.ClassFile.FieldType.byte) ∈ wsG := in_tables1 (List.mem_of_getElem? (i := 46) rfl) rfl
theorem wk_47 : (Jvm.Cond.classLink "DigestTrees" (19 : Nat) "DigestTrees$Mill") ∈ wsG := in_tables1 (List.mem_of_getElem? (i := 47) rfl) rfl
theorem wk_48 : (Jvm.Cond.instantiable "DigestTrees$Mill" (5 : Nat)) ∈ wsG := in_tables1 (List.mem_of_getElem? (i := 48) rfl) rfl
theorem wk_50 : (Jvm.Cond.instanceMethod ({ cls := "DigestTrees$Mill", name := "<init>", desc := "()V" } : Jvm.MethodName)) ∈ wsG := in_tables1 (List.mem_of_getElem? (i := 50) rfl) rfl
theorem wk_51 : (Jvm.Cond.code ({ cls := "DigestTrees$Mill", name := "<init>", desc := "()V" } : Jvm.MethodName) prog_4_method_1_code (1 : Nat) (Option.none : Option Jvm.ClassFile.FieldType)) ∈ wsG := in_tables1 (List.mem_of_getElem? (i := 51) rfl) rfl
theorem wk_52 : (Jvm.Cond.methodLink "DigestTrees$Mill" (3 : Nat) ({ cls := "java/lang/Object", name := "<init>", desc := "()V" } : Jvm.MethodName)) ∈ wsG := in_tables1 (List.mem_of_getElem? (i := 52) rfl) rfl
theorem wk_53 : (Jvm.Cond.fieldLink "DigestTrees$Mill" (9 : Nat) "DigestTrees$Mill" "h" "[I") ∈ wsG := in_tables1 (List.mem_of_getElem? (i := 53) rfl) rfl
theorem wk_54 : (Jvm.Cond.fieldLink "DigestTrees$Mill" (15 : Nat) "DigestTrees$Mill" "w" "[I") ∈ wsG := in_tables1 (List.mem_of_getElem? (i := 54) rfl) rfl
theorem wk_55 : (Jvm.Cond.fieldLink "DigestTrees$Shelf" (45 : Nat) "DigestTrees$Mill" "w" "[I") ∈ wsG := in_tables1 (List.mem_of_getElem? (i := 55) rfl) rfl
theorem wk_56 : (Jvm.Cond.fieldLink "DigestTrees$Mill" (24 : Nat) "DigestTrees$Mill" "filled" "I") ∈ wsG := in_tables1 (List.mem_of_getElem? (i := 56) rfl) rfl
theorem wk_57 : (Jvm.Cond.fieldLink "DigestTrees$Mill" (28 : Nat) "DigestTrees$Mill" "came" "I") ∈ wsG := in_tables1 (List.mem_of_getElem? (i := 57) rfl) rfl
theorem wk_58 : (Jvm.Cond.fieldLink "DigestTrees$Mill" (31 : Nat) "DigestTrees$Mill" "blocks" "I") ∈ wsG := in_tables1 (List.mem_of_getElem? (i := 58) rfl) rfl
theorem wk_59 : (Jvm.Cond.fieldLink "DigestTrees$Message" (68 : Nat) "DigestTrees$Mill" "blocks" "I") ∈ wsG := in_tables1 (List.mem_of_getElem? (i := 59) rfl) rfl
theorem wk_60 : (Jvm.Cond.fieldLink "DigestTrees" (190 : Nat) "DigestTrees$Mill" "blocks" "I") ∈ wsG := in_tables1 (List.mem_of_getElem? (i := 60) rfl) rfl
theorem wk_61 : (Jvm.Cond.laysFinal "DigestTrees$Mill" "DigestTrees$Mill" "h" "[I") ∈ wsG := in_tables1 (List.mem_of_getElem? (i := 61) rfl) rfl
theorem wk_63 : (Jvm.Cond.laysFinal "DigestTrees$Mill" "DigestTrees$Mill" "w" "[I") ∈ wsG := in_tables1 (List.mem_of_getElem? (i := 63) rfl) rfl
theorem wk_65 : (Jvm.Cond.lays "DigestTrees$Mill" "DigestTrees$Mill" "filled" "I") ∈ wsG := in_tables1 (List.mem_of_getElem? (i := 65) rfl) rfl
theorem wk_67 : (Jvm.Cond.lays "DigestTrees$Mill" "DigestTrees$Mill" "came" "I") ∈ wsG := in_tables1 (List.mem_of_getElem? (i := 67) rfl) rfl
theorem wk_69 : (Jvm.Cond.lays "DigestTrees$Mill" "DigestTrees$Mill" "blocks" "I") ∈ wsG := in_tables1 (List.mem_of_getElem? (i := 69) rfl) rfl
theorem wk_71 : (Jvm.Cond.superclass "DigestTrees$Mill" "java/lang/Object") ∈ wsG := in_tables1 (List.mem_of_getElem? (i := 71) rfl) rfl
theorem wk_72 : (Jvm.Cond.arrayClass Jvm.ClassFile.FieldType.int) ∈ wsG := in_tables1 (List.mem_of_getElem? (i := 72) rfl) rfl
theorem wk_73 : (Jvm.Cond.classLink "DigestTrees" (26 : Nat) "DigestTrees$Message") ∈ wsG := in_tables1 (List.mem_of_getElem? (i := 73) rfl) rfl
theorem wk_74 : (Jvm.Cond.instantiable "DigestTrees$Message" (7 : Nat)) ∈ wsG := in_tables1 (List.mem_of_getElem? (i := 74) rfl) rfl
theorem wk_75 : (Jvm.Cond.methodLink "DigestTrees" (28 : Nat) ({ cls := "DigestTrees$Message", name := "<init>", desc := "(LDigestTrees$Mill;)V" } : Jvm.MethodName)) ∈ wsG := in_tables1 (List.mem_of_getElem? (i := 75) rfl) rfl
theorem wk_76 : (Jvm.Cond.instanceMethod ({ cls := "DigestTrees$Message", name := "<init>", desc := "(LDigestTrees$Mill;)V" } : Jvm.MethodName)) ∈ wsG := in_tables1 (List.mem_of_getElem? (i := 76) rfl) rfl
theorem wk_77 : (Jvm.Cond.code ({ cls := "DigestTrees$Message", name := "<init>", desc := "(LDigestTrees$Mill;)V" } : Jvm.MethodName) prog_3_method_1_code (2 : Nat) (Option.none : Option Jvm.ClassFile.FieldType)) ∈ wsG := in_tables1 (List.mem_of_getElem? (i := 77) rfl) rfl
theorem wk_78 : (Jvm.Cond.methodLink "DigestTrees$Message" (3 : Nat) ({ cls := "java/lang/Object", name := "<init>", desc := "()V" } : Jvm.MethodName)) ∈ wsG := in_tables1 (List.mem_of_getElem? (i := 78) rfl) rfl
theorem wk_79 : (Jvm.Cond.fieldLink "DigestTrees$Message" (18 : Nat) "DigestTrees$Message" "mill" "LDigestTrees$Mill;") ∈ wsG := in_tables1 (List.mem_of_getElem? (i := 79) rfl) rfl
theorem wk_80 : (Jvm.Cond.fieldLink "DigestTrees$Message" (9 : Nat) "DigestTrees$Message" "lock" "[B") ∈ wsG := in_tables1 (List.mem_of_getElem? (i := 80) rfl) rfl
theorem wk_81 : (Jvm.Cond.fieldLink "DigestTrees$Message" (15 : Nat) "DigestTrees$Message" "inner" "[B") ∈ wsG := in_tables1 (List.mem_of_getElem? (i := 81) rfl) rfl
theorem wk_82 : (Jvm.Cond.fieldLink "DigestTrees" (107 : Nat) "DigestTrees$Message" "isOpen" "Z") ∈ wsG := in_tables1 (List.mem_of_getElem? (i := 82) rfl) rfl
theorem wk_83 : (Jvm.Cond.fieldLink "DigestTrees$Message" (22 : Nat) "DigestTrees$Message" "sort" "I") ∈ wsG := in_tables1 (List.mem_of_getElem? (i := 83) rfl) rfl
theorem wk_84 : (Jvm.Cond.fieldLink "DigestTrees$Message" (26 : Nat) "DigestTrees$Message" "came" "I") ∈ wsG := in_tables1 (List.mem_of_getElem? (i := 84) rfl) rfl
theorem wk_85 : (Jvm.Cond.fieldLink "DigestTrees" (111 : Nat) "DigestTrees$Message" "came" "I") ∈ wsG := in_tables1 (List.mem_of_getElem? (i := 85) rfl) rfl
theorem wk_86 : (Jvm.Cond.fieldLink "DigestTrees$Message" (29 : Nat) "DigestTrees$Message" "blocks" "I") ∈ wsG := in_tables1 (List.mem_of_getElem? (i := 86) rfl) rfl
theorem wk_87 : (Jvm.Cond.laysFinal "DigestTrees$Message" "DigestTrees$Message" "mill" "LDigestTrees$Mill;") ∈ wsG := in_tables1 (List.mem_of_getElem? (i := 87) rfl) rfl
theorem wk_89 : (Jvm.Cond.laysFinal "DigestTrees$Message" "DigestTrees$Message" "lock" "[B") ∈ wsG := in_tables1 (List.mem_of_getElem? (i := 89) rfl) rfl
theorem wk_91 : (Jvm.Cond.laysFinal "DigestTrees$Message" "DigestTrees$Message" "inner" "[B") ∈ wsG := in_tables1 (List.mem_of_getElem? (i := 91) rfl) rfl
theorem wk_93 : (Jvm.Cond.lays "DigestTrees$Message" "DigestTrees$Message" "isOpen" "Z") ∈ wsG := in_tables1 (List.mem_of_getElem? (i := 93) rfl) rfl
theorem wk_95 : (Jvm.Cond.lays "DigestTrees$Message" "DigestTrees$Message" "sort" "I") ∈ wsG := in_tables1 (List.mem_of_getElem? (i := 95) rfl) rfl
theorem wk_97 : (Jvm.Cond.lays "DigestTrees$Message" "DigestTrees$Message" "came" "I") ∈ wsG := in_tables1 (List.mem_of_getElem? (i := 97) rfl) rfl
theorem wk_99 : (Jvm.Cond.lays "DigestTrees$Message" "DigestTrees$Message" "blocks" "I") ∈ wsG := in_tables1 (List.mem_of_getElem? (i := 99) rfl) rfl
theorem wk_101 : (Jvm.Cond.superclass "DigestTrees$Message" "java/lang/Object") ∈ wsG := in_tables1 (List.mem_of_getElem? (i := 101) rfl) rfl
theorem wk_103 : (Jvm.Cond.classLink "DigestTrees" (39 : Nat) "DigestTrees$Shelf") ∈ wsG := in_tables1 (List.mem_of_getElem? (i := 103) rfl) rfl
theorem wk_104 : (Jvm.Cond.instantiable "DigestTrees$Shelf" (6 : Nat)) ∈ wsG := in_tables1 (List.mem_of_getElem? (i := 104) rfl) rfl
theorem wk_106 : (Jvm.Cond.instanceMethod ({ cls := "DigestTrees$Shelf", name := "<init>", desc := "()V" } : Jvm.MethodName)) ∈ wsG := in_tables1 (List.mem_of_getElem? (i := 106) rfl) rfl
theorem wk_107 : (Jvm.Cond.code ({ cls := "DigestTrees$Shelf", name := "<init>", desc := "()V" } : Jvm.MethodName) prog_6_method_1_code (1 : Nat) (Option.none : Option Jvm.ClassFile.FieldType)) ∈ wsG := in_tables1 (List.mem_of_getElem? (i := 107) rfl) rfl
theorem wk_108 : (Jvm.Cond.methodLink "DigestTrees$Shelf" (3 : Nat) ({ cls := "java/lang/Object", name := "<init>", desc := "()V" } : Jvm.MethodName)) ∈ wsG := in_tables1 (List.mem_of_getElem? (i := 108) rfl) rfl
theorem wk_109 : (Jvm.Cond.classLink "DigestTrees$Shelf" (9 : Nat) "[[B") ∈ wsG := in_tables1 (List.mem_of_getElem? (i := 109) rfl) rfl
theorem wk_111 : (Jvm.Cond.classLink "DigestTrees$Shelf" (16 : Nat) "[[I") ∈ wsG := in_tables1 (List.mem_of_getElem? (i := 111) rfl) rfl
theorem wk_113 : (Jvm.Cond.fieldLink "DigestTrees$Shelf" (11 : Nat) "DigestTrees$Shelf" "bytes" "[[B") ∈ wsG := in_tables1 (List.mem_of_getElem? (i := 113) rfl) rfl
theorem wk_114 : (Jvm.Cond.fieldLink "DigestTrees" (142 : Nat) "DigestTrees$Shelf" "bytes" "[[B") ∈ wsG := in_tables1 (List.mem_of_getElem? (i := 114) rfl) rfl
theorem wk_115 : (Jvm.Cond.fieldLink "DigestTrees$Shelf" (18 : Nat) "DigestTrees$Shelf" "lasts" "[[I") ∈ wsG := in_tables1 (List.mem_of_getElem? (i := 115) rfl) rfl
theorem wk_116 : (Jvm.Cond.fieldLink "DigestTrees$Shelf" (21 : Nat) "DigestTrees$Shelf" "sorts" "[I") ∈ wsG := in_tables1 (List.mem_of_getElem? (i := 116) rfl) rfl
theorem wk_117 : (Jvm.Cond.fieldLink "DigestTrees" (117 : Nat) "DigestTrees$Shelf" "sorts" "[I") ∈ wsG := in_tables1 (List.mem_of_getElem? (i := 117) rfl) rfl
theorem wk_118 : (Jvm.Cond.fieldLink "DigestTrees$Shelf" (25 : Nat) "DigestTrees$Shelf" "blocks" "[I") ∈ wsG := in_tables1 (List.mem_of_getElem? (i := 118) rfl) rfl
theorem wk_119 : (Jvm.Cond.fieldLink "DigestTrees" (125 : Nat) "DigestTrees$Shelf" "blocks" "[I") ∈ wsG := in_tables1 (List.mem_of_getElem? (i := 119) rfl) rfl
theorem wk_120 : (Jvm.Cond.fieldLink "DigestTrees$Shelf" (28 : Nat) "DigestTrees$Shelf" "words" "[I") ∈ wsG := in_tables1 (List.mem_of_getElem? (i := 120) rfl) rfl
theorem wk_121 : (Jvm.Cond.fieldLink "DigestTrees$Shelf" (31 : Nat) "DigestTrees$Shelf" "count" "I") ∈ wsG := in_tables1 (List.mem_of_getElem? (i := 121) rfl) rfl
theorem wk_122 : (Jvm.Cond.fieldLink "DigestTrees" (251 : Nat) "DigestTrees$Shelf" "count" "I") ∈ wsG := in_tables1 (List.mem_of_getElem? (i := 122) rfl) rfl
theorem wk_123 : (Jvm.Cond.laysFinal "DigestTrees$Shelf" "DigestTrees$Shelf" "bytes" "[[B") ∈ wsG := in_tables1 (List.mem_of_getElem? (i := 123) rfl) rfl
theorem wk_125 : (Jvm.Cond.laysFinal "DigestTrees$Shelf" "DigestTrees$Shelf" "lasts" "[[I") ∈ wsG := in_tables1 (List.mem_of_getElem? (i := 125) rfl) rfl
theorem wk_127 : (Jvm.Cond.laysFinal "DigestTrees$Shelf" "DigestTrees$Shelf" "sorts" "[I") ∈ wsG := in_tables1 (List.mem_of_getElem? (i := 127) rfl) rfl
theorem wk_129 : (Jvm.Cond.laysFinal "DigestTrees$Shelf" "DigestTrees$Shelf" "blocks" "[I") ∈ wsG := in_tables1 (List.mem_of_getElem? (i := 129) rfl) rfl
theorem wk_131 : (Jvm.Cond.laysFinal "DigestTrees$Shelf" "DigestTrees$Shelf" "words" "[I") ∈ wsG := in_tables1 (List.mem_of_getElem? (i := 131) rfl) rfl
theorem wk_133 : (Jvm.Cond.lays "DigestTrees$Shelf" "DigestTrees$Shelf" "count" "I") ∈ wsG := in_tables1 (List.mem_of_getElem? (i := 133) rfl) rfl
theorem wk_135 : (Jvm.Cond.superclass "DigestTrees$Shelf" "java/lang/Object") ∈ wsG := in_tables1 (List.mem_of_getElem? (i := 135) rfl) rfl
theorem wk_136 : (Jvm.Cond.classLink "DigestTrees" (46 : Nat) "DigestTrees$Tree") ∈ wsG := in_tables1 (List.mem_of_getElem? (i := 136) rfl) rfl
theorem wk_138 : (Jvm.Cond.classLink "DigestTrees" (52 : Nat) "DigestTrees$Proof") ∈ wsG := in_tables1 (List.mem_of_getElem? (i := 138) rfl) rfl
theorem wk_139 : (Jvm.Cond.instantiable "DigestTrees$Proof" (2 : Nat)) ∈ wsG := in_tables1 (List.mem_of_getElem? (i := 139) rfl) rfl
theorem wk_141 : (Jvm.Cond.instanceMethod ({ cls := "DigestTrees$Proof", name := "<init>", desc := "()V" } : Jvm.MethodName)) ∈ wsG := in_tables1 (List.mem_of_getElem? (i := 141) rfl) rfl
theorem wk_142 : (Jvm.Cond.code ({ cls := "DigestTrees$Proof", name := "<init>", desc := "()V" } : Jvm.MethodName) prog_5_method_1_code (1 : Nat) (Option.none : Option Jvm.ClassFile.FieldType)) ∈ wsG := in_tables1 (List.mem_of_getElem? (i := 142) rfl) rfl
theorem wk_143 : (Jvm.Cond.methodLink "DigestTrees$Proof" (3 : Nat) ({ cls := "java/lang/Object", name := "<init>", desc := "()V" } : Jvm.MethodName)) ∈ wsG := in_tables1 (List.mem_of_getElem? (i := 143) rfl) rfl
theorem wk_144 : (Jvm.Cond.classLink "DigestTrees$Proof" (9 : Nat) "[[B") ∈ wsG := in_tables1 (List.mem_of_getElem? (i := 144) rfl) rfl
theorem wk_145 : (Jvm.Cond.fieldLink "DigestTrees$Proof" (11 : Nat) "DigestTrees$Proof" "beside" "[[B") ∈ wsG := in_tables1 (List.mem_of_getElem? (i := 145) rfl) rfl
theorem wk_146 : (Jvm.Cond.fieldLink "DigestTrees" (201 : Nat) "DigestTrees$Proof" "beside" "[[B") ∈ wsG := in_tables1 (List.mem_of_getElem? (i := 146) rfl) rfl
theorem wk_147 : (Jvm.Cond.fieldLink "DigestTrees$Proof" (16 : Nat) "DigestTrees$Proof" "count" "I") ∈ wsG := in_tables1 (List.mem_of_getElem? (i := 147) rfl) rfl
theorem wk_148 : (Jvm.Cond.fieldLink "DigestTrees" (200 : Nat) "DigestTrees$Proof" "count" "I") ∈ wsG := in_tables1 (List.mem_of_getElem? (i := 148) rfl) rfl
theorem wk_149 : (Jvm.Cond.laysFinal "DigestTrees$Proof" "DigestTrees$Proof" "beside" "[[B") ∈ wsG := in_tables1 (List.mem_of_getElem? (i := 149) rfl) rfl
theorem wk_151 : (Jvm.Cond.lays "DigestTrees$Proof" "DigestTrees$Proof" "count" "I") ∈ wsG := in_tables1 (List.mem_of_getElem? (i := 151) rfl) rfl
theorem wk_153 : (Jvm.Cond.superclass "DigestTrees$Proof" "java/lang/Object") ∈ wsG := in_tables1 (List.mem_of_getElem? (i := 153) rfl) rfl
theorem wk_154 : (Jvm.Cond.classLink "DigestTrees" (59 : Nat) "DigestTrees$Store") ∈ wsG := in_tables1 (List.mem_of_getElem? (i := 154) rfl) rfl
theorem wk_155 : (Jvm.Cond.instantiable "DigestTrees$Store" (6 : Nat)) ∈ wsG := in_tables1 (List.mem_of_getElem? (i := 155) rfl) rfl
theorem wk_157 : (Jvm.Cond.instanceMethod ({ cls := "DigestTrees$Store", name := "<init>", desc := "()V" } : Jvm.MethodName)) ∈ wsG := in_tables1 (List.mem_of_getElem? (i := 157) rfl) rfl
theorem wk_158 : (Jvm.Cond.code ({ cls := "DigestTrees$Store", name := "<init>", desc := "()V" } : Jvm.MethodName) prog_7_method_1_code (1 : Nat) (Option.none : Option Jvm.ClassFile.FieldType)) ∈ wsG := in_tables1 (List.mem_of_getElem? (i := 158) rfl) rfl
theorem wk_159 : (Jvm.Cond.methodLink "DigestTrees$Store" (3 : Nat) ({ cls := "java/lang/Object", name := "<init>", desc := "()V" } : Jvm.MethodName)) ∈ wsG := in_tables1 (List.mem_of_getElem? (i := 159) rfl) rfl
theorem wk_160 : (Jvm.Cond.classLink "DigestTrees$Store" (9 : Nat) "[[B") ∈ wsG := in_tables1 (List.mem_of_getElem? (i := 160) rfl) rfl
theorem wk_161 : (Jvm.Cond.fieldLink "DigestTrees$Store" (11 : Nat) "DigestTrees$Store" "rows" "[[B") ∈ wsG := in_tables1 (List.mem_of_getElem? (i := 161) rfl) rfl
theorem wk_162 : (Jvm.Cond.fieldLink "DigestTrees" (248 : Nat) "DigestTrees$Store" "rows" "[[B") ∈ wsG := in_tables1 (List.mem_of_getElem? (i := 162) rfl) rfl
theorem wk_163 : (Jvm.Cond.fieldLink "DigestTrees$Store" (16 : Nat) "DigestTrees$Store" "sizes" "[I") ∈ wsG := in_tables1 (List.mem_of_getElem? (i := 163) rfl) rfl
theorem wk_164 : (Jvm.Cond.fieldLink "DigestTrees" (243 : Nat) "DigestTrees$Store" "sizes" "[I") ∈ wsG := in_tables1 (List.mem_of_getElem? (i := 164) rfl) rfl
theorem wk_165 : (Jvm.Cond.fieldLink "DigestTrees$Store" (20 : Nat) "DigestTrees$Store" "spots" "[I") ∈ wsG := in_tables1 (List.mem_of_getElem? (i := 165) rfl) rfl
theorem wk_166 : (Jvm.Cond.fieldLink "DigestTrees$Store" (27 : Nat) "DigestTrees$Store" "count" "I") ∈ wsG := in_tables1 (List.mem_of_getElem? (i := 166) rfl) rfl
theorem wk_167 : (Jvm.Cond.fieldLink "DigestTrees" (227 : Nat) "DigestTrees$Store" "count" "I") ∈ wsG := in_tables1 (List.mem_of_getElem? (i := 167) rfl) rfl
theorem wk_168 : (Jvm.Cond.fieldLink "DigestTrees" (231 : Nat) "DigestTrees$Store" "compared" "I") ∈ wsG := in_tables1 (List.mem_of_getElem? (i := 168) rfl) rfl
theorem wk_169 : (Jvm.Cond.fieldLink "DigestTrees$Store" (23 : Nat) "DigestTrees$Store" "looked" "I") ∈ wsG := in_tables1 (List.mem_of_getElem? (i := 169) rfl) rfl
theorem wk_170 : (Jvm.Cond.fieldLink "DigestTrees" (228 : Nat) "DigestTrees$Store" "looked" "I") ∈ wsG := in_tables1 (List.mem_of_getElem? (i := 170) rfl) rfl
theorem wk_171 : (Jvm.Cond.laysFinal "DigestTrees$Store" "DigestTrees$Store" "rows" "[[B") ∈ wsG := in_tables1 (List.mem_of_getElem? (i := 171) rfl) rfl
theorem wk_173 : (Jvm.Cond.laysFinal "DigestTrees$Store" "DigestTrees$Store" "sizes" "[I") ∈ wsG := in_tables1 (List.mem_of_getElem? (i := 173) rfl) rfl
theorem wk_175 : (Jvm.Cond.laysFinal "DigestTrees$Store" "DigestTrees$Store" "spots" "[I") ∈ wsG := in_tables1 (List.mem_of_getElem? (i := 175) rfl) rfl
theorem wk_177 : (Jvm.Cond.lays "DigestTrees$Store" "DigestTrees$Store" "count" "I") ∈ wsG := in_tables1 (List.mem_of_getElem? (i := 177) rfl) rfl
theorem wk_179 : (Jvm.Cond.lays "DigestTrees$Store" "DigestTrees$Store" "compared" "I") ∈ wsG := in_tables1 (List.mem_of_getElem? (i := 179) rfl) rfl
theorem wk_181 : (Jvm.Cond.lays "DigestTrees$Store" "DigestTrees$Store" "looked" "I") ∈ wsG := in_tables1 (List.mem_of_getElem? (i := 181) rfl) rfl
theorem wk_183 : (Jvm.Cond.superclass "DigestTrees$Store" "java/lang/Object") ∈ wsG := in_tables1 (List.mem_of_getElem? (i := 183) rfl) rfl
theorem wk_184 : (Jvm.Cond.instantiable "DigestTrees$Tree" (3 : Nat)) ∈ wsG := in_tables1 (List.mem_of_getElem? (i := 184) rfl) rfl
theorem wk_186 : (Jvm.Cond.instanceMethod ({ cls := "DigestTrees$Tree", name := "<init>", desc := "()V" } : Jvm.MethodName)) ∈ wsG := in_tables1 (List.mem_of_getElem? (i := 186) rfl) rfl
theorem wk_187 : (Jvm.Cond.code ({ cls := "DigestTrees$Tree", name := "<init>", desc := "()V" } : Jvm.MethodName) prog_8_method_1_code (1 : Nat) (Option.none : Option Jvm.ClassFile.FieldType)) ∈ wsG := in_tables1 (List.mem_of_getElem? (i := 187) rfl) rfl
theorem wk_188 : (Jvm.Cond.methodLink "DigestTrees$Tree" (3 : Nat) ({ cls := "java/lang/Object", name := "<init>", desc := "()V" } : Jvm.MethodName)) ∈ wsG := in_tables1 (List.mem_of_getElem? (i := 188) rfl) rfl
theorem wk_189 : (Jvm.Cond.classLink "DigestTrees$Tree" (15 : Nat) "[[B") ∈ wsG := in_tables1 (List.mem_of_getElem? (i := 189) rfl) rfl
theorem wk_190 : (Jvm.Cond.fieldLink "DigestTrees$Tree" (9 : Nat) "DigestTrees$Tree" "kinds" "[I") ∈ wsG := in_tables1 (List.mem_of_getElem? (i := 190) rfl) rfl
theorem wk_191 : (Jvm.Cond.fieldLink "DigestTrees" (179 : Nat) "DigestTrees$Tree" "kinds" "[I") ∈ wsG := in_tables1 (List.mem_of_getElem? (i := 191) rfl) rfl
theorem wk_192 : (Jvm.Cond.fieldLink "DigestTrees$Tree" (17 : Nat) "DigestTrees$Tree" "nodes" "[[B") ∈ wsG := in_tables1 (List.mem_of_getElem? (i := 192) rfl) rfl
theorem wk_193 : (Jvm.Cond.fieldLink "DigestTrees$Proof" (23 : Nat) "DigestTrees$Tree" "nodes" "[[B") ∈ wsG := in_tables1 (List.mem_of_getElem? (i := 193) rfl) rfl
theorem wk_194 : (Jvm.Cond.fieldLink "DigestTrees" (256 : Nat) "DigestTrees$Tree" "nodes" "[[B") ∈ wsG := in_tables1 (List.mem_of_getElem? (i := 194) rfl) rfl
theorem wk_195 : (Jvm.Cond.fieldLink "DigestTrees$Tree" (20 : Nat) "DigestTrees$Tree" "count" "I") ∈ wsG := in_tables1 (List.mem_of_getElem? (i := 195) rfl) rfl
theorem wk_196 : (Jvm.Cond.fieldLink "DigestTrees$Proof" (20 : Nat) "DigestTrees$Tree" "count" "I") ∈ wsG := in_tables1 (List.mem_of_getElem? (i := 196) rfl) rfl
theorem wk_197 : (Jvm.Cond.fieldLink "DigestTrees" (171 : Nat) "DigestTrees$Tree" "count" "I") ∈ wsG := in_tables1 (List.mem_of_getElem? (i := 197) rfl) rfl
theorem wk_198 : (Jvm.Cond.laysFinal "DigestTrees$Tree" "DigestTrees$Tree" "kinds" "[I") ∈ wsG := in_tables1 (List.mem_of_getElem? (i := 198) rfl) rfl
theorem wk_200 : (Jvm.Cond.laysFinal "DigestTrees$Tree" "DigestTrees$Tree" "nodes" "[[B") ∈ wsG := in_tables1 (List.mem_of_getElem? (i := 200) rfl) rfl
theorem wk_202 : (Jvm.Cond.lays "DigestTrees$Tree" "DigestTrees$Tree" "count" "I") ∈ wsG := in_tables1 (List.mem_of_getElem? (i := 202) rfl) rfl
theorem wk_204 : (Jvm.Cond.superclass "DigestTrees$Tree" "java/lang/Object") ∈ wsG := in_tables1 (List.mem_of_getElem? (i := 204) rfl) rfl
theorem wk_205 : (Jvm.Cond.fieldLink "DigestTrees" (10 : Nat) "DigestTrees" "tape" "LDigestTrees$Bytes;") ∈ wsG := in_tables1 (List.mem_of_getElem? (i := 205) rfl) rfl
theorem wk_206 : (Jvm.Cond.fieldLink "DigestTrees" (16 : Nat) "DigestTrees" "secret" "LDigestTrees$Bytes;") ∈ wsG := in_tables1 (List.mem_of_getElem? (i := 206) rfl) rfl
theorem wk_207 : (Jvm.Cond.fieldLink "DigestTrees" (22 : Nat) "DigestTrees" "mill" "LDigestTrees$Mill;") ∈ wsG := in_tables1 (List.mem_of_getElem? (i := 207) rfl) rfl
theorem wk_208 : (Jvm.Cond.fieldLink "DigestTrees" (31 : Nat) "DigestTrees" "whole" "LDigestTrees$Message;") ∈ wsG := in_tables1 (List.mem_of_getElem? (i := 208) rfl) rfl
theorem wk_209 : (Jvm.Cond.fieldLink "DigestTrees" (35 : Nat) "DigestTrees" "streams" "[LDigestTrees$Message;") ∈ wsG := in_tables1 (List.mem_of_getElem? (i := 209) rfl) rfl
theorem wk_210 : (Jvm.Cond.fieldLink "DigestTrees" (42 : Nat) "DigestTrees" "shelf" "LDigestTrees$Shelf;") ∈ wsG := in_tables1 (List.mem_of_getElem? (i := 210) rfl) rfl
theorem wk_211 : (Jvm.Cond.fieldLink "DigestTrees" (48 : Nat) "DigestTrees" "trees" "[LDigestTrees$Tree;") ∈ wsG := in_tables1 (List.mem_of_getElem? (i := 211) rfl) rfl
theorem wk_212 : (Jvm.Cond.fieldLink "DigestTrees" (55 : Nat) "DigestTrees" "proof" "LDigestTrees$Proof;") ∈ wsG := in_tables1 (List.mem_of_getElem? (i := 212) rfl) rfl
theorem wk_213 : (Jvm.Cond.fieldLink "DigestTrees" (62 : Nat) "DigestTrees" "store" "LDigestTrees$Store;") ∈ wsG := in_tables1 (List.mem_of_getElem? (i := 213) rfl) rfl
theorem wk_214 : (Jvm.Cond.fieldLink "DigestTrees" (66 : Nat) "DigestTrees" "node" "[B") ∈ wsG := in_tables1 (List.mem_of_getElem? (i := 214) rfl) rfl
theorem wk_215 : (Jvm.Cond.laysFinal "DigestTrees" "DigestTrees" "tape" "LDigestTrees$Bytes;") ∈ wsG := in_tables1 (List.mem_of_getElem? (i := 215) rfl) rfl
theorem wk_217 : (Jvm.Cond.laysFinal "DigestTrees" "DigestTrees" "secret" "LDigestTrees$Bytes;") ∈ wsG := in_tables1 (List.mem_of_getElem? (i := 217) rfl) rfl
theorem wk_219 : (Jvm.Cond.laysFinal "DigestTrees" "DigestTrees" "mill" "LDigestTrees$Mill;") ∈ wsG := in_tables1 (List.mem_of_getElem? (i := 219) rfl) rfl
theorem wk_221 : (Jvm.Cond.laysFinal "DigestTrees" "DigestTrees" "whole" "LDigestTrees$Message;") ∈ wsG := in_tables1 (List.mem_of_getElem? (i := 221) rfl) rfl
theorem wk_223 : (Jvm.Cond.laysFinal "DigestTrees" "DigestTrees" "streams" "[LDigestTrees$Message;") ∈ wsG := in_tables1 (List.mem_of_getElem? (i := 223) rfl) rfl
theorem wk_225 : (Jvm.Cond.laysFinal "DigestTrees" "DigestTrees" "shelf" "LDigestTrees$Shelf;") ∈ wsG := in_tables1 (List.mem_of_getElem? (i := 225) rfl) rfl
theorem wk_227 : (Jvm.Cond.laysFinal "DigestTrees" "DigestTrees" "trees" "[LDigestTrees$Tree;") ∈ wsG := in_tables1 (List.mem_of_getElem? (i := 227) rfl) rfl
theorem wk_229 : (Jvm.Cond.laysFinal "DigestTrees" "DigestTrees" "proof" "LDigestTrees$Proof;") ∈ wsG := in_tables1 (List.mem_of_getElem? (i := 229) rfl) rfl
theorem wk_231 : (Jvm.Cond.laysFinal "DigestTrees" "DigestTrees" "store" "LDigestTrees$Store;") ∈ wsG := in_tables1 (List.mem_of_getElem? (i := 231) rfl) rfl
theorem wk_233 : (Jvm.Cond.laysFinal "DigestTrees" "DigestTrees" "node" "[B") ∈ wsG := in_tables1 (List.mem_of_getElem? (i := 233) rfl) rfl
theorem wk_235 : (Jvm.Cond.superclass "DigestTrees" "java/lang/Object") ∈ wsG := in_tables1 (List.mem_of_getElem? (i := 235) rfl) rfl
theorem wk_236 : (Jvm.Cond.methodLink "DigestTreesLaw" (35 : Nat) ({ cls := "DigestTrees", name := "feed", desc := "(IJ)I" } : Jvm.MethodName)) ∈ wsG := in_tables1 (List.mem_of_getElem? (i := 236) rfl) rfl
theorem wk_237 : (Jvm.Cond.instanceMethod ({ cls := "DigestTrees", name := "feed", desc := "(IJ)I" } : Jvm.MethodName)) ∈ wsG := in_tables1 (List.mem_of_getElem? (i := 237) rfl) rfl
theorem wk_238 : (Jvm.Cond.selects "DigestTrees" ({ cls := "DigestTrees", name := "feed", desc := "(IJ)I" } : Jvm.MethodName) ({ cls := "DigestTrees", name := "feed", desc := "(IJ)I" } : Jvm.MethodName)) ∈ wsG := in_tables1 (List.mem_of_getElem? (i := 238) rfl) rfl
theorem wk_239 : (Jvm.Cond.code ({ cls := "DigestTrees", name := "feed", desc := "(IJ)I" } : Jvm.MethodName) prog_1_method_2_code (5 : Nat) (Option.some Jvm.ClassFile.FieldType.int)) ∈ wsG := in_tables1 (List.mem_of_getElem? (i := 239) rfl) rfl
theorem wk_240 : (Jvm.Cond.methodLink "DigestTreesLaw" (40 : Nat) ({ cls := "DigestTrees", name := "key", desc := "()I" } : Jvm.MethodName)) ∈ wsG := in_tables2 (List.mem_of_getElem? (i := 0) rfl) rfl
theorem wk_241 : (Jvm.Cond.instanceMethod ({ cls := "DigestTrees", name := "key", desc := "()I" } : Jvm.MethodName)) ∈ wsG := in_tables2 (List.mem_of_getElem? (i := 1) rfl) rfl
theorem wk_242 : (Jvm.Cond.selects "DigestTrees" ({ cls := "DigestTrees", name := "key", desc := "()I" } : Jvm.MethodName) ({ cls := "DigestTrees", name := "key", desc := "()I" } : Jvm.MethodName)) ∈ wsG := in_tables2 (List.mem_of_getElem? (i := 2) rfl) rfl
theorem wk_243 : (Jvm.Cond.code ({ cls := "DigestTrees", name := "key", desc := "()I" } : Jvm.MethodName) prog_1_method_3_code (1 : Nat) (Option.some Jvm.ClassFile.FieldType.int)) ∈ wsG := in_tables2 (List.mem_of_getElem? (i := 3) rfl) rfl
theorem wk_244 : (Jvm.Cond.methodLink "DigestTrees" (78 : Nat) ({ cls := "java/lang/System", name := "arraycopy", desc := "(Ljava/lang/Object;ILjava/lang/Object;II)V" } : Jvm.MethodName)) ∈ wsG := in_tables2 (List.mem_of_getElem? (i := 4) rfl) rfl
theorem wk_245 : (Jvm.Cond.static ({ cls := "java/lang/System", name := "arraycopy", desc := "(Ljava/lang/Object;ILjava/lang/Object;II)V" } : Jvm.MethodName)) ∈ wsG := in_tables2 (List.mem_of_getElem? (i := 5) rfl) rfl
theorem wk_246 : (Jvm.Cond.native ({ cls := "java/lang/System", name := "arraycopy", desc := "(Ljava/lang/Object;ILjava/lang/Object;II)V" } : Jvm.MethodName)) ∈ wsG := in_tables2 (List.mem_of_getElem? (i := 6) rfl) rfl
theorem wk_247 : (Jvm.Cond.methodLink "DigestTreesLaw" (45 : Nat) ({ cls := "DigestTrees", name := "digest", desc := "(I)I" } : Jvm.MethodName)) ∈ wsG := in_tables2 (List.mem_of_getElem? (i := 7) rfl) rfl
theorem wk_248 : (Jvm.Cond.instanceMethod ({ cls := "DigestTrees", name := "digest", desc := "(I)I" } : Jvm.MethodName)) ∈ wsG := in_tables2 (List.mem_of_getElem? (i := 8) rfl) rfl
theorem wk_249 : (Jvm.Cond.selects "DigestTrees" ({ cls := "DigestTrees", name := "digest", desc := "(I)I" } : Jvm.MethodName) ({ cls := "DigestTrees", name := "digest", desc := "(I)I" } : Jvm.MethodName)) ∈ wsG := in_tables2 (List.mem_of_getElem? (i := 9) rfl) rfl
theorem wk_250 : (Jvm.Cond.code ({ cls := "DigestTrees", name := "digest", desc := "(I)I" } : Jvm.MethodName) prog_1_method_4_code (2 : Nat) (Option.some Jvm.ClassFile.FieldType.int)) ∈ wsG := in_tables2 (List.mem_of_getElem? (i := 10) rfl) rfl
theorem wk_251 : (Jvm.Cond.methodLink "DigestTrees" (84 : Nat) ({ cls := "DigestTrees", name := "isSort", desc := "(I)Z" } : Jvm.MethodName)) ∈ wsG := in_tables2 (List.mem_of_getElem? (i := 11) rfl) rfl
theorem wk_252 : (Jvm.Cond.static ({ cls := "DigestTrees", name := "isSort", desc := "(I)Z" } : Jvm.MethodName)) ∈ wsG := in_tables2 (List.mem_of_getElem? (i := 12) rfl) rfl
theorem wk_253 : (Jvm.Cond.code ({ cls := "DigestTrees", name := "isSort", desc := "(I)Z" } : Jvm.MethodName) prog_1_method_25_code (1 : Nat) (Option.some Jvm.ClassFile.FieldType.boolean)) ∈ wsG := in_tables2 (List.mem_of_getElem? (i := 13) rfl) rfl
theorem wk_254 : (Jvm.Cond.methodLink "DigestTrees" (88 : Nat) ({ cls := "DigestTrees$Shelf", name := "isFull", desc := "()Z" } : Jvm.MethodName)) ∈ wsG := in_tables2 (List.mem_of_getElem? (i := 14) rfl) rfl
theorem wk_255 : (Jvm.Cond.instanceMethod ({ cls := "DigestTrees$Shelf", name := "isFull", desc := "()Z" } : Jvm.MethodName)) ∈ wsG := in_tables2 (List.mem_of_getElem? (i := 15) rfl) rfl
theorem wk_256 : (Jvm.Cond.selects "DigestTrees$Shelf" ({ cls := "DigestTrees$Shelf", name := "isFull", desc := "()Z" } : Jvm.MethodName) ({ cls := "DigestTrees$Shelf", name := "isFull", desc := "()Z" } : Jvm.MethodName)) ∈ wsG := in_tables2 (List.mem_of_getElem? (i := 16) rfl) rfl
theorem wk_257 : (Jvm.Cond.code ({ cls := "DigestTrees$Shelf", name := "isFull", desc := "()Z" } : Jvm.MethodName) prog_6_method_3_code (1 : Nat) (Option.some Jvm.ClassFile.FieldType.boolean)) ∈ wsG := in_tables2 (List.mem_of_getElem? (i := 17) rfl) rfl
theorem wk_258 : (Jvm.Cond.methodLink "DigestTrees" (92 : Nat) ({ cls := "DigestTrees$Message", name := "begin", desc := "(ILDigestTrees$Bytes;)V" } : Jvm.MethodName)) ∈ wsG := in_tables2 (List.mem_of_getElem? (i := 18) rfl) rfl
theorem wk_259 : (Jvm.Cond.instanceMethod ({ cls := "DigestTrees$Message", name := "begin", desc := "(ILDigestTrees$Bytes;)V" } : Jvm.MethodName)) ∈ wsG := in_tables2 (List.mem_of_getElem? (i := 19) rfl) rfl
theorem wk_260 : (Jvm.Cond.selects "DigestTrees$Message" ({ cls := "DigestTrees$Message", name := "begin", desc := "(ILDigestTrees$Bytes;)V" } : Jvm.MethodName) ({ cls := "DigestTrees$Message", name := "begin", desc := "(ILDigestTrees$Bytes;)V" } : Jvm.MethodName)) ∈ wsG := in_tables2 (List.mem_of_getElem? (i := 20) rfl) rfl
theorem wk_261 : (Jvm.Cond.code ({ cls := "DigestTrees$Message", name := "begin", desc := "(ILDigestTrees$Bytes;)V" } : Jvm.MethodName) prog_3_method_2_code (3 : Nat) (Option.none : Option Jvm.ClassFile.FieldType)) ∈ wsG := in_tables2 (List.mem_of_getElem? (i := 21) rfl) rfl
theorem wk_262 : (Jvm.Cond.methodLink "DigestTrees$Message" (32 : Nat) ({ cls := "DigestTrees$Message", name := "makeLock", desc := "(LDigestTrees$Bytes;)V" } : Jvm.MethodName)) ∈ wsG := in_tables2 (List.mem_of_getElem? (i := 22) rfl) rfl
theorem wk_264 : (Jvm.Cond.instanceMethod ({ cls := "DigestTrees$Message", name := "makeLock", desc := "(LDigestTrees$Bytes;)V" } : Jvm.MethodName)) ∈ wsG := in_tables2 (List.mem_of_getElem? (i := 24) rfl) rfl
theorem wk_265 : (Jvm.Cond.code ({ cls := "DigestTrees$Message", name := "makeLock", desc := "(LDigestTrees$Bytes;)V" } : Jvm.MethodName) prog_3_method_5_code (2 : Nat) (Option.none : Option Jvm.ClassFile.FieldType)) ∈ wsG := in_tables2 (List.mem_of_getElem? (i := 25) rfl) rfl
theorem wk_266 : (Jvm.Cond.methodLink "DigestTrees$Message" (78 : Nat) ({ cls := "java/util/Arrays", name := "fill", desc := "([BB)V" } : Jvm.MethodName)) ∈ wsG := in_tables2 (List.mem_of_getElem? (i := 26) rfl) rfl
theorem wk_267 : (Jvm.Cond.static ({ cls := "java/util/Arrays", name := "fill", desc := "([BB)V" } : Jvm.MethodName)) ∈ wsG := in_tables2 (List.mem_of_getElem? (i := 27) rfl) rfl
theorem wk_268 : (Jvm.Cond.code ({ cls := "java/util/Arrays", name := "fill", desc := "([BB)V" } : Jvm.MethodName) prog_20_method_109_code (4 : Nat) (Option.none : Option Jvm.ClassFile.FieldType)) ∈ wsG := in_tables2 (List.mem_of_getElem? (i := 28) rfl) rfl
theorem wk_269 : (Jvm.Cond.methodLink "DigestTrees$Message" (84 : Nat) ({ cls := "java/lang/System", name := "arraycopy", desc := "(Ljava/lang/Object;ILjava/lang/Object;II)V" } : Jvm.MethodName)) ∈ wsG := in_tables2 (List.mem_of_getElem? (i := 29) rfl) rfl
theorem wk_272 : (Jvm.Cond.methodLink "DigestTrees$Message" (47 : Nat) ({ cls := "DigestTrees$Mill", name := "begin", desc := "([I)V" } : Jvm.MethodName)) ∈ wsG := in_tables2 (List.mem_of_getElem? (i := 32) rfl) rfl
theorem wk_273 : (Jvm.Cond.instanceMethod ({ cls := "DigestTrees$Mill", name := "begin", desc := "([I)V" } : Jvm.MethodName)) ∈ wsG := in_tables2 (List.mem_of_getElem? (i := 33) rfl) rfl
theorem wk_274 : (Jvm.Cond.selects "DigestTrees$Mill" ({ cls := "DigestTrees$Mill", name := "begin", desc := "([I)V" } : Jvm.MethodName) ({ cls := "DigestTrees$Mill", name := "begin", desc := "([I)V" } : Jvm.MethodName)) ∈ wsG := in_tables2 (List.mem_of_getElem? (i := 34) rfl) rfl
theorem wk_275 : (Jvm.Cond.code ({ cls := "DigestTrees$Mill", name := "begin", desc := "([I)V" } : Jvm.MethodName) prog_4_method_2_code (2 : Nat) (Option.none : Option Jvm.ClassFile.FieldType)) ∈ wsG := in_tables2 (List.mem_of_getElem? (i := 35) rfl) rfl
theorem wk_276 : (Jvm.Cond.methodLink "DigestTrees$Mill" (18 : Nat) ({ cls := "java/lang/System", name := "arraycopy", desc := "(Ljava/lang/Object;ILjava/lang/Object;II)V" } : Jvm.MethodName)) ∈ wsG := in_tables2 (List.mem_of_getElem? (i := 36) rfl) rfl
theorem wk_277 : (Jvm.Cond.methodLink "DigestTrees$Message" (61 : Nat) ({ cls := "DigestTrees$Mill", name := "take", desc := "([BI)V" } : Jvm.MethodName)) ∈ wsG := in_tables2 (List.mem_of_getElem? (i := 37) rfl) rfl
theorem wk_278 : (Jvm.Cond.instanceMethod ({ cls := "DigestTrees$Mill", name := "take", desc := "([BI)V" } : Jvm.MethodName)) ∈ wsG := in_tables2 (List.mem_of_getElem? (i := 38) rfl) rfl
theorem wk_279 : (Jvm.Cond.selects "DigestTrees$Mill" ({ cls := "DigestTrees$Mill", name := "take", desc := "([BI)V" } : Jvm.MethodName) ({ cls := "DigestTrees$Mill", name := "take", desc := "([BI)V" } : Jvm.MethodName)) ∈ wsG := in_tables2 (List.mem_of_getElem? (i := 39) rfl) rfl
theorem wk_280 : (Jvm.Cond.code ({ cls := "DigestTrees$Mill", name := "take", desc := "([BI)V" } : Jvm.MethodName) prog_4_method_3_code (4 : Nat) (Option.none : Option Jvm.ClassFile.FieldType)) ∈ wsG := in_tables2 (List.mem_of_getElem? (i := 40) rfl) rfl
theorem wk_281 : (Jvm.Cond.methodLink "DigestTrees$Mill" (34 : Nat) ({ cls := "DigestTrees$Mill", name := "put", desc := "(I)V" } : Jvm.MethodName)) ∈ wsG := in_tables2 (List.mem_of_getElem? (i := 41) rfl) rfl
theorem wk_283 : (Jvm.Cond.instanceMethod ({ cls := "DigestTrees$Mill", name := "put", desc := "(I)V" } : Jvm.MethodName)) ∈ wsG := in_tables2 (List.mem_of_getElem? (i := 43) rfl) rfl
theorem wk_284 : (Jvm.Cond.code ({ cls := "DigestTrees$Mill", name := "put", desc := "(I)V" } : Jvm.MethodName) prog_4_method_7_code (2 : Nat) (Option.none : Option Jvm.ClassFile.FieldType)) ∈ wsG := in_tables2 (List.mem_of_getElem? (i := 44) rfl) rfl
theorem wk_285 : (Jvm.Cond.methodLink "DigestTrees$Mill" (40 : Nat) ({ cls := "DigestTrees$Mill", name := "work", desc := "()V" } : Jvm.MethodName)) ∈ wsG := in_tables2 (List.mem_of_getElem? (i := 45) rfl) rfl
theorem wk_287 : (Jvm.Cond.instanceMethod ({ cls := "DigestTrees$Mill", name := "work", desc := "()V" } : Jvm.MethodName)) ∈ wsG := in_tables2 (List.mem_of_getElem? (i := 47) rfl) rfl
theorem wk_288 : (Jvm.Cond.code ({ cls := "DigestTrees$Mill", name := "work", desc := "()V" } : Jvm.MethodName) prog_4_method_8_code (12 : Nat) (Option.none : Option Jvm.ClassFile.FieldType)) ∈ wsG := in_tables2 (List.mem_of_getElem? (i := 48) rfl) rfl
theorem wk_290 : (Jvm.Cond.static ({ cls := "DigestTrees", name := "spread", desc := "([I)V" } : Jvm.MethodName)) ∈ wsG := in_tables2 (List.mem_of_getElem? (i := 50) rfl) rfl
theorem wk_291 : (Jvm.Cond.code ({ cls := "DigestTrees", name := "spread", desc := "([I)V" } : Jvm.MethodName) prog_1_method_37_code (6 : Nat) (Option.none : Option Jvm.ClassFile.FieldType)) ∈ wsG := in_tables2 (List.mem_of_getElem? (i := 51) rfl) rfl
theorem wk_292 : (Jvm.Cond.methodLink "DigestTrees" (273 : Nat) ({ cls := "java/lang/Integer", name := "rotateRight", desc := "(II)I" } : Jvm.MethodName)) ∈ wsG := in_tables2 (List.mem_of_getElem? (i := 52) rfl) rfl
theorem wk_293 : (Jvm.Cond.static ({ cls := "java/lang/Integer", name := "rotateRight", desc := "(II)I" } : Jvm.MethodName)) ∈ wsG := in_tables2 (List.mem_of_getElem? (i := 53) rfl) rfl
theorem wk_294 : (Jvm.Cond.code ({ cls := "java/lang/Integer", name := "rotateRight", desc := "(II)I" } : Jvm.MethodName) prog_14_method_51_code (2 : Nat) (Option.some Jvm.ClassFile.FieldType.int)) ∈ wsG := in_tables2 (List.mem_of_getElem? (i := 54) rfl) rfl
theorem wk_295 : (Jvm.Cond.methodLink "DigestTrees$Mill" (47 : Nat) ({ cls := "java/lang/Integer", name := "rotateRight", desc := "(II)I" } : Jvm.MethodName)) ∈ wsG := in_tables2 (List.mem_of_getElem? (i := 55) rfl) rfl
theorem wk_298 : (Jvm.Cond.methodLink "DigestTrees$Message" (65 : Nat) ({ cls := "DigestTrees$Mill", name := "finish", desc := "()V" } : Jvm.MethodName)) ∈ wsG := in_tables2 (List.mem_of_getElem? (i := 58) rfl) rfl
theorem wk_299 : (Jvm.Cond.instanceMethod ({ cls := "DigestTrees$Mill", name := "finish", desc := "()V" } : Jvm.MethodName)) ∈ wsG := in_tables2 (List.mem_of_getElem? (i := 59) rfl) rfl
theorem wk_300 : (Jvm.Cond.selects "DigestTrees$Mill" ({ cls := "DigestTrees$Mill", name := "finish", desc := "()V" } : Jvm.MethodName) ({ cls := "DigestTrees$Mill", name := "finish", desc := "()V" } : Jvm.MethodName)) ∈ wsG := in_tables2 (List.mem_of_getElem? (i := 60) rfl) rfl
theorem wk_301 : (Jvm.Cond.code ({ cls := "DigestTrees$Mill", name := "finish", desc := "()V" } : Jvm.MethodName) prog_4_method_5_code (5 : Nat) (Option.none : Option Jvm.ClassFile.FieldType)) ∈ wsG := in_tables2 (List.mem_of_getElem? (i := 61) rfl) rfl
theorem wk_302 : (Jvm.Cond.constantLong "DigestTrees$Mill" (38 : Nat) (8 : Int64)) ∈ wsG := in_tables2 (List.mem_of_getElem? (i := 62) rfl) rfl
theorem wk_303 : (Jvm.Cond.methodLink "DigestTrees$Message" (69 : Nat) ({ cls := "DigestTrees$Mill", name := "write", desc := "([BI)V" } : Jvm.MethodName)) ∈ wsG := in_tables2 (List.mem_of_getElem? (i := 63) rfl) rfl
theorem wk_304 : (Jvm.Cond.instanceMethod ({ cls := "DigestTrees$Mill", name := "write", desc := "([BI)V" } : Jvm.MethodName)) ∈ wsG := in_tables2 (List.mem_of_getElem? (i := 64) rfl) rfl
theorem wk_305 : (Jvm.Cond.selects "DigestTrees$Mill" ({ cls := "DigestTrees$Mill", name := "write", desc := "([BI)V" } : Jvm.MethodName) ({ cls := "DigestTrees$Mill", name := "write", desc := "([BI)V" } : Jvm.MethodName)) ∈ wsG := in_tables2 (List.mem_of_getElem? (i := 65) rfl) rfl
theorem wk_306 : (Jvm.Cond.code ({ cls := "DigestTrees$Mill", name := "write", desc := "([BI)V" } : Jvm.MethodName) prog_4_method_6_code (4 : Nat) (Option.none : Option Jvm.ClassFile.FieldType)) ∈ wsG := in_tables2 (List.mem_of_getElem? (i := 66) rfl) rfl
theorem wk_307 : (Jvm.Cond.methodLink "DigestTrees$Message" (36 : Nat) ({ cls := "DigestTrees$Message", name := "beginLocked", desc := "(I)V" } : Jvm.MethodName)) ∈ wsG := in_tables2 (List.mem_of_getElem? (i := 67) rfl) rfl
theorem wk_309 : (Jvm.Cond.instanceMethod ({ cls := "DigestTrees$Message", name := "beginLocked", desc := "(I)V" } : Jvm.MethodName)) ∈ wsG := in_tables2 (List.mem_of_getElem? (i := 69) rfl) rfl
theorem wk_310 : (Jvm.Cond.code ({ cls := "DigestTrees$Message", name := "beginLocked", desc := "(I)V" } : Jvm.MethodName) prog_3_method_6_code (3 : Nat) (Option.none : Option Jvm.ClassFile.FieldType)) ∈ wsG := in_tables2 (List.mem_of_getElem? (i := 70) rfl) rfl
theorem wk_311 : (Jvm.Cond.methodLink "DigestTrees$Message" (90 : Nat) ({ cls := "DigestTrees$Mill", name := "takeByte", desc := "(I)V" } : Jvm.MethodName)) ∈ wsG := in_tables2 (List.mem_of_getElem? (i := 71) rfl) rfl
theorem wk_312 : (Jvm.Cond.instanceMethod ({ cls := "DigestTrees$Mill", name := "takeByte", desc := "(I)V" } : Jvm.MethodName)) ∈ wsG := in_tables2 (List.mem_of_getElem? (i := 72) rfl) rfl
theorem wk_313 : (Jvm.Cond.selects "DigestTrees$Mill" ({ cls := "DigestTrees$Mill", name := "takeByte", desc := "(I)V" } : Jvm.MethodName) ({ cls := "DigestTrees$Mill", name := "takeByte", desc := "(I)V" } : Jvm.MethodName)) ∈ wsG := in_tables2 (List.mem_of_getElem? (i := 73) rfl) rfl
theorem wk_314 : (Jvm.Cond.code ({ cls := "DigestTrees$Mill", name := "takeByte", desc := "(I)V" } : Jvm.MethodName) prog_4_method_4_code (2 : Nat) (Option.none : Option Jvm.ClassFile.FieldType)) ∈ wsG := in_tables2 (List.mem_of_getElem? (i := 74) rfl) rfl
theorem wk_317 : (Jvm.Cond.methodLink "DigestTrees" (96 : Nat) ({ cls := "DigestTrees$Message", name := "take", desc := "(LDigestTrees$Bytes;)V" } : Jvm.MethodName)) ∈ wsG := in_tables2 (List.mem_of_getElem? (i := 77) rfl) rfl
theorem wk_318 : (Jvm.Cond.instanceMethod ({ cls := "DigestTrees$Message", name := "take", desc := "(LDigestTrees$Bytes;)V" } : Jvm.MethodName)) ∈ wsG := in_tables2 (List.mem_of_getElem? (i := 78) rfl) rfl
theorem wk_319 : (Jvm.Cond.selects "DigestTrees$Message" ({ cls := "DigestTrees$Message", name := "take", desc := "(LDigestTrees$Bytes;)V" } : Jvm.MethodName) ({ cls := "DigestTrees$Message", name := "take", desc := "(LDigestTrees$Bytes;)V" } : Jvm.MethodName)) ∈ wsG := in_tables2 (List.mem_of_getElem? (i := 79) rfl) rfl
theorem wk_320 : (Jvm.Cond.code ({ cls := "DigestTrees$Message", name := "take", desc := "(LDigestTrees$Bytes;)V" } : Jvm.MethodName) prog_3_method_3_code (2 : Nat) (Option.none : Option Jvm.ClassFile.FieldType)) ∈ wsG := in_tables2 (List.mem_of_getElem? (i := 80) rfl) rfl
theorem wk_321 : (Jvm.Cond.methodLink "DigestTrees" (100 : Nat) ({ cls := "DigestTrees$Message", name := "finish", desc := "(LDigestTrees$Shelf;)I" } : Jvm.MethodName)) ∈ wsG := in_tables2 (List.mem_of_getElem? (i := 81) rfl) rfl
theorem wk_322 : (Jvm.Cond.instanceMethod ({ cls := "DigestTrees$Message", name := "finish", desc := "(LDigestTrees$Shelf;)I" } : Jvm.MethodName)) ∈ wsG := in_tables2 (List.mem_of_getElem? (i := 82) rfl) rfl
theorem wk_323 : (Jvm.Cond.selects "DigestTrees$Message" ({ cls := "DigestTrees$Message", name := "finish", desc := "(LDigestTrees$Shelf;)I" } : Jvm.MethodName) ({ cls := "DigestTrees$Message", name := "finish", desc := "(LDigestTrees$Shelf;)I" } : Jvm.MethodName)) ∈ wsG := in_tables2 (List.mem_of_getElem? (i := 83) rfl) rfl
theorem wk_324 : (Jvm.Cond.code ({ cls := "DigestTrees$Message", name := "finish", desc := "(LDigestTrees$Shelf;)I" } : Jvm.MethodName) prog_3_method_4_code (2 : Nat) (Option.some Jvm.ClassFile.FieldType.int)) ∈ wsG := in_tables2 (List.mem_of_getElem? (i := 84) rfl) rfl
theorem wk_325 : (Jvm.Cond.methodLink "DigestTrees$Message" (72 : Nat) ({ cls := "DigestTrees$Shelf", name := "add", desc := "(IILDigestTrees$Mill;)I" } : Jvm.MethodName)) ∈ wsG := in_tables2 (List.mem_of_getElem? (i := 85) rfl) rfl
theorem wk_326 : (Jvm.Cond.instanceMethod ({ cls := "DigestTrees$Shelf", name := "add", desc := "(IILDigestTrees$Mill;)I" } : Jvm.MethodName)) ∈ wsG := in_tables2 (List.mem_of_getElem? (i := 86) rfl) rfl
theorem wk_327 : (Jvm.Cond.selects "DigestTrees$Shelf" ({ cls := "DigestTrees$Shelf", name := "add", desc := "(IILDigestTrees$Mill;)I" } : Jvm.MethodName) ({ cls := "DigestTrees$Shelf", name := "add", desc := "(IILDigestTrees$Mill;)I" } : Jvm.MethodName)) ∈ wsG := in_tables2 (List.mem_of_getElem? (i := 87) rfl) rfl
theorem wk_328 : (Jvm.Cond.code ({ cls := "DigestTrees$Shelf", name := "add", desc := "(IILDigestTrees$Mill;)I" } : Jvm.MethodName) prog_6_method_4_code (5 : Nat) (Option.some Jvm.ClassFile.FieldType.int)) ∈ wsG := in_tables2 (List.mem_of_getElem? (i := 88) rfl) rfl
theorem wk_330 : (Jvm.Cond.static ({ cls := "DigestTrees", name := "bytesOf", desc := "(I)I" } : Jvm.MethodName)) ∈ wsG := in_tables2 (List.mem_of_getElem? (i := 90) rfl) rfl
theorem wk_331 : (Jvm.Cond.code ({ cls := "DigestTrees", name := "bytesOf", desc := "(I)I" } : Jvm.MethodName) prog_1_method_29_code (1 : Nat) (Option.some Jvm.ClassFile.FieldType.int)) ∈ wsG := in_tables2 (List.mem_of_getElem? (i := 91) rfl) rfl
theorem wk_332 : (Jvm.Cond.methodLink "DigestTrees$Shelf" (39 : Nat) ({ cls := "DigestTrees$Mill", name := "write", desc := "([BI)V" } : Jvm.MethodName)) ∈ wsG := in_tables2 (List.mem_of_getElem? (i := 92) rfl) rfl
theorem wk_333 : (Jvm.Cond.methodLink "DigestTrees$Shelf" (48 : Nat) ({ cls := "java/lang/System", name := "arraycopy", desc := "(Ljava/lang/Object;ILjava/lang/Object;II)V" } : Jvm.MethodName)) ∈ wsG := in_tables2 (List.mem_of_getElem? (i := 93) rfl) rfl
theorem wk_334 : (Jvm.Cond.methodLink "DigestTreesLaw" (49 : Nat) ({ cls := "DigestTrees", name := "open", desc := "(II)I" } : Jvm.MethodName)) ∈ wsG := in_tables2 (List.mem_of_getElem? (i := 94) rfl) rfl
theorem wk_335 : (Jvm.Cond.instanceMethod ({ cls := "DigestTrees", name := "open", desc := "(II)I" } : Jvm.MethodName)) ∈ wsG := in_tables2 (List.mem_of_getElem? (i := 95) rfl) rfl
theorem wk_336 : (Jvm.Cond.selects "DigestTrees" ({ cls := "DigestTrees", name := "open", desc := "(II)I" } : Jvm.MethodName) ({ cls := "DigestTrees", name := "open", desc := "(II)I" } : Jvm.MethodName)) ∈ wsG := in_tables2 (List.mem_of_getElem? (i := 96) rfl) rfl
theorem wk_337 : (Jvm.Cond.code ({ cls := "DigestTrees", name := "open", desc := "(II)I" } : Jvm.MethodName) prog_1_method_5_code (3 : Nat) (Option.some Jvm.ClassFile.FieldType.int)) ∈ wsG := in_tables2 (List.mem_of_getElem? (i := 97) rfl) rfl
theorem wk_338 : (Jvm.Cond.methodLink "DigestTrees" (104 : Nat) ({ cls := "DigestTrees", name := "isStream", desc := "(I)Z" } : Jvm.MethodName)) ∈ wsG := in_tables2 (List.mem_of_getElem? (i := 98) rfl) rfl
theorem wk_339 : (Jvm.Cond.static ({ cls := "DigestTrees", name := "isStream", desc := "(I)Z" } : Jvm.MethodName)) ∈ wsG := in_tables2 (List.mem_of_getElem? (i := 99) rfl) rfl
theorem wk_340 : (Jvm.Cond.code ({ cls := "DigestTrees", name := "isStream", desc := "(I)Z" } : Jvm.MethodName) prog_1_method_26_code (1 : Nat) (Option.some Jvm.ClassFile.FieldType.boolean)) ∈ wsG := in_tables2 (List.mem_of_getElem? (i := 100) rfl) rfl
theorem wk_341 : (Jvm.Cond.methodLink "DigestTreesLaw" (54 : Nat) ({ cls := "DigestTrees", name := "more", desc := "(I)I" } : Jvm.MethodName)) ∈ wsG := in_tables2 (List.mem_of_getElem? (i := 101) rfl) rfl
theorem wk_342 : (Jvm.Cond.instanceMethod ({ cls := "DigestTrees", name := "more", desc := "(I)I" } : Jvm.MethodName)) ∈ wsG := in_tables2 (List.mem_of_getElem? (i := 102) rfl) rfl
theorem wk_343 : (Jvm.Cond.selects "DigestTrees" ({ cls := "DigestTrees", name := "more", desc := "(I)I" } : Jvm.MethodName) ({ cls := "DigestTrees", name := "more", desc := "(I)I" } : Jvm.MethodName)) ∈ wsG := in_tables2 (List.mem_of_getElem? (i := 103) rfl) rfl
theorem wk_344 : (Jvm.Cond.code ({ cls := "DigestTrees", name := "more", desc := "(I)I" } : Jvm.MethodName) prog_1_method_6_code (3 : Nat) (Option.some Jvm.ClassFile.FieldType.int)) ∈ wsG := in_tables2 (List.mem_of_getElem? (i := 104) rfl) rfl
theorem wk_345 : (Jvm.Cond.methodLink "DigestTreesLaw" (58 : Nat) ({ cls := "DigestTrees", name := "end", desc := "(I)I" } : Jvm.MethodName)) ∈ wsG := in_tables2 (List.mem_of_getElem? (i := 105) rfl) rfl
theorem wk_346 : (Jvm.Cond.instanceMethod ({ cls := "DigestTrees", name := "end", desc := "(I)I" } : Jvm.MethodName)) ∈ wsG := in_tables2 (List.mem_of_getElem? (i := 106) rfl) rfl
theorem wk_347 : (Jvm.Cond.selects "DigestTrees" ({ cls := "DigestTrees", name := "end", desc := "(I)I" } : Jvm.MethodName) ({ cls := "DigestTrees", name := "end", desc := "(I)I" } : Jvm.MethodName)) ∈ wsG := in_tables2 (List.mem_of_getElem? (i := 107) rfl) rfl
theorem wk_348 : (Jvm.Cond.code ({ cls := "DigestTrees", name := "end", desc := "(I)I" } : Jvm.MethodName) prog_1_method_7_code (2 : Nat) (Option.some Jvm.ClassFile.FieldType.int)) ∈ wsG := in_tables2 (List.mem_of_getElem? (i := 108) rfl) rfl
theorem wk_349 : (Jvm.Cond.methodLink "DigestTreesLaw" (62 : Nat) ({ cls := "DigestTrees", name := "told", desc := "(II)I" } : Jvm.MethodName)) ∈ wsG := in_tables2 (List.mem_of_getElem? (i := 109) rfl) rfl
theorem wk_350 : (Jvm.Cond.instanceMethod ({ cls := "DigestTrees", name := "told", desc := "(II)I" } : Jvm.MethodName)) ∈ wsG := in_tables2 (List.mem_of_getElem? (i := 110) rfl) rfl
theorem wk_351 : (Jvm.Cond.selects "DigestTrees" ({ cls := "DigestTrees", name := "told", desc := "(II)I" } : Jvm.MethodName) ({ cls := "DigestTrees", name := "told", desc := "(II)I" } : Jvm.MethodName)) ∈ wsG := in_tables2 (List.mem_of_getElem? (i := 111) rfl) rfl
theorem wk_352 : (Jvm.Cond.code ({ cls := "DigestTrees", name := "told", desc := "(II)I" } : Jvm.MethodName) prog_1_method_8_code (3 : Nat) (Option.some Jvm.ClassFile.FieldType.int)) ∈ wsG := in_tables2 (List.mem_of_getElem? (i := 112) rfl) rfl
theorem wk_353 : (Jvm.Cond.methodLink "DigestTrees" (114 : Nat) ({ cls := "DigestTrees$Shelf", name := "has", desc := "(I)Z" } : Jvm.MethodName)) ∈ wsG := in_tables2 (List.mem_of_getElem? (i := 113) rfl) rfl
theorem wk_354 : (Jvm.Cond.instanceMethod ({ cls := "DigestTrees$Shelf", name := "has", desc := "(I)Z" } : Jvm.MethodName)) ∈ wsG := in_tables2 (List.mem_of_getElem? (i := 114) rfl) rfl
theorem wk_355 : (Jvm.Cond.selects "DigestTrees$Shelf" ({ cls := "DigestTrees$Shelf", name := "has", desc := "(I)Z" } : Jvm.MethodName) ({ cls := "DigestTrees$Shelf", name := "has", desc := "(I)Z" } : Jvm.MethodName)) ∈ wsG := in_tables2 (List.mem_of_getElem? (i := 115) rfl) rfl
theorem wk_356 : (Jvm.Cond.code ({ cls := "DigestTrees$Shelf", name := "has", desc := "(I)Z" } : Jvm.MethodName) prog_6_method_2_code (2 : Nat) (Option.some Jvm.ClassFile.FieldType.boolean)) ∈ wsG := in_tables2 (List.mem_of_getElem? (i := 116) rfl) rfl
theorem wk_357 : (Jvm.Cond.methodLink "DigestTrees" (121 : Nat) ({ cls := "DigestTrees", name := "bytesOf", desc := "(I)I" } : Jvm.MethodName)) ∈ wsG := in_tables2 (List.mem_of_getElem? (i := 117) rfl) rfl
theorem wk_358 : (Jvm.Cond.methodLink "DigestTreesLaw" (79 : Nat) ({ cls := "DigestTrees", name := "same", desc := "(II)I" } : Jvm.MethodName)) ∈ wsG := in_tables2 (List.mem_of_getElem? (i := 118) rfl) rfl
theorem wk_359 : (Jvm.Cond.instanceMethod ({ cls := "DigestTrees", name := "same", desc := "(II)I" } : Jvm.MethodName)) ∈ wsG := in_tables2 (List.mem_of_getElem? (i := 119) rfl) rfl
theorem wk_360 : (Jvm.Cond.selects "DigestTrees" ({ cls := "DigestTrees", name := "same", desc := "(II)I" } : Jvm.MethodName) ({ cls := "DigestTrees", name := "same", desc := "(II)I" } : Jvm.MethodName)) ∈ wsG := in_tables2 (List.mem_of_getElem? (i := 120) rfl) rfl
theorem wk_361 : (Jvm.Cond.code ({ cls := "DigestTrees", name := "same", desc := "(II)I" } : Jvm.MethodName) prog_1_method_11_code (4 : Nat) (Option.some Jvm.ClassFile.FieldType.int)) ∈ wsG := in_tables2 (List.mem_of_getElem? (i := 121) rfl) rfl
theorem wk_362 : (Jvm.Cond.methodLink "DigestTrees" (156 : Nat) ({ cls := "DigestTrees", name := "alike", desc := "([B[BI)Z" } : Jvm.MethodName)) ∈ wsG := in_tables2 (List.mem_of_getElem? (i := 122) rfl) rfl
theorem wk_363 : (Jvm.Cond.static ({ cls := "DigestTrees", name := "alike", desc := "([B[BI)Z" } : Jvm.MethodName)) ∈ wsG := in_tables2 (List.mem_of_getElem? (i := 123) rfl) rfl
theorem wk_364 : (Jvm.Cond.code ({ cls := "DigestTrees", name := "alike", desc := "([B[BI)Z" } : Jvm.MethodName) prog_1_method_31_code (4 : Nat) (Option.some Jvm.ClassFile.FieldType.boolean)) ∈ wsG := in_tables2 (List.mem_of_getElem? (i := 124) rfl) rfl
theorem wk_365 : (Jvm.Cond.methodLink "DigestTreesLaw" (87 : Nat) ({ cls := "DigestTrees", name := "leaf", desc := "(II)I" } : Jvm.MethodName)) ∈ wsG := in_tables2 (List.mem_of_getElem? (i := 125) rfl) rfl
theorem wk_366 : (Jvm.Cond.instanceMethod ({ cls := "DigestTrees", name := "leaf", desc := "(II)I" } : Jvm.MethodName)) ∈ wsG := in_tables2 (List.mem_of_getElem? (i := 126) rfl) rfl
theorem wk_367 : (Jvm.Cond.selects "DigestTrees" ({ cls := "DigestTrees", name := "leaf", desc := "(II)I" } : Jvm.MethodName) ({ cls := "DigestTrees", name := "leaf", desc := "(II)I" } : Jvm.MethodName)) ∈ wsG := in_tables2 (List.mem_of_getElem? (i := 127) rfl) rfl
theorem wk_368 : (Jvm.Cond.code ({ cls := "DigestTrees", name := "leaf", desc := "(II)I" } : Jvm.MethodName) prog_1_method_13_code (4 : Nat) (Option.some Jvm.ClassFile.FieldType.int)) ∈ wsG := in_tables2 (List.mem_of_getElem? (i := 128) rfl) rfl
theorem wk_369 : (Jvm.Cond.methodLink "DigestTrees" (165 : Nat) ({ cls := "DigestTrees", name := "isTree", desc := "(I)Z" } : Jvm.MethodName)) ∈ wsG := in_tables2 (List.mem_of_getElem? (i := 129) rfl) rfl
theorem wk_370 : (Jvm.Cond.static ({ cls := "DigestTrees", name := "isTree", desc := "(I)Z" } : Jvm.MethodName)) ∈ wsG := in_tables2 (List.mem_of_getElem? (i := 130) rfl) rfl
theorem wk_371 : (Jvm.Cond.code ({ cls := "DigestTrees", name := "isTree", desc := "(I)Z" } : Jvm.MethodName) prog_1_method_27_code (1 : Nat) (Option.some Jvm.ClassFile.FieldType.boolean)) ∈ wsG := in_tables2 (List.mem_of_getElem? (i := 131) rfl) rfl
theorem wk_372 : (Jvm.Cond.methodLink "DigestTrees" (168 : Nat) ({ cls := "DigestTrees", name := "isLeaf", desc := "(I)Z" } : Jvm.MethodName)) ∈ wsG := in_tables2 (List.mem_of_getElem? (i := 132) rfl) rfl
theorem wk_374 : (Jvm.Cond.instanceMethod ({ cls := "DigestTrees", name := "isLeaf", desc := "(I)Z" } : Jvm.MethodName)) ∈ wsG := in_tables2 (List.mem_of_getElem? (i := 134) rfl) rfl
theorem wk_375 : (Jvm.Cond.code ({ cls := "DigestTrees", name := "isLeaf", desc := "(I)Z" } : Jvm.MethodName) prog_1_method_28_code (2 : Nat) (Option.some Jvm.ClassFile.FieldType.boolean)) ∈ wsG := in_tables2 (List.mem_of_getElem? (i := 135) rfl) rfl
theorem wk_376 : (Jvm.Cond.methodLink "DigestTrees" (174 : Nat) ({ cls := "DigestTrees", name := "setLeaf", desc := "(LDigestTrees$Tree;II)V" } : Jvm.MethodName)) ∈ wsG := in_tables2 (List.mem_of_getElem? (i := 136) rfl) rfl
theorem wk_378 : (Jvm.Cond.instanceMethod ({ cls := "DigestTrees", name := "setLeaf", desc := "(LDigestTrees$Tree;II)V" } : Jvm.MethodName)) ∈ wsG := in_tables2 (List.mem_of_getElem? (i := 138) rfl) rfl
theorem wk_379 : (Jvm.Cond.code ({ cls := "DigestTrees", name := "setLeaf", desc := "(LDigestTrees$Tree;II)V" } : Jvm.MethodName) prog_1_method_32_code (4 : Nat) (Option.none : Option Jvm.ClassFile.FieldType)) ∈ wsG := in_tables2 (List.mem_of_getElem? (i := 139) rfl) rfl
theorem wk_380 : (Jvm.Cond.methodLink "DigestTrees" (207 : Nat) ({ cls := "DigestTrees", name := "digestLeaf", desc := "(LDigestTrees$Mill;ILDigestTrees$Bytes;[B)V" } : Jvm.MethodName)) ∈ wsG := in_tables2 (List.mem_of_getElem? (i := 140) rfl) rfl
theorem wk_381 : (Jvm.Cond.static ({ cls := "DigestTrees", name := "digestLeaf", desc := "(LDigestTrees$Mill;ILDigestTrees$Bytes;[B)V" } : Jvm.MethodName)) ∈ wsG := in_tables2 (List.mem_of_getElem? (i := 141) rfl) rfl
theorem wk_382 : (Jvm.Cond.code ({ cls := "DigestTrees", name := "digestLeaf", desc := "(LDigestTrees$Mill;ILDigestTrees$Bytes;[B)V" } : Jvm.MethodName) prog_1_method_34_code (4 : Nat) (Option.none : Option Jvm.ClassFile.FieldType)) ∈ wsG := in_tables2 (List.mem_of_getElem? (i := 142) rfl) rfl
theorem wk_383 : (Jvm.Cond.fieldLink "DigestTrees" (259 : Nat) "DigestTrees" "WIDE_START" "[I") ∈ wsG := in_tables2 (List.mem_of_getElem? (i := 143) rfl) rfl
theorem wk_384 : (Jvm.Cond.methodLink "DigestTrees" (262 : Nat) ({ cls := "DigestTrees$Mill", name := "begin", desc := "([I)V" } : Jvm.MethodName)) ∈ wsG := in_tables2 (List.mem_of_getElem? (i := 144) rfl) rfl
theorem wk_385 : (Jvm.Cond.methodLink "DigestTrees" (269 : Nat) ({ cls := "DigestTrees$Mill", name := "takeByte", desc := "(I)V" } : Jvm.MethodName)) ∈ wsG := in_tables2 (List.mem_of_getElem? (i := 145) rfl) rfl
theorem wk_386 : (Jvm.Cond.methodLink "DigestTrees" (265 : Nat) ({ cls := "DigestTrees$Mill", name := "take", desc := "([BI)V" } : Jvm.MethodName)) ∈ wsG := in_tables2 (List.mem_of_getElem? (i := 146) rfl) rfl
theorem wk_387 : (Jvm.Cond.methodLink "DigestTrees" (267 : Nat) ({ cls := "DigestTrees$Mill", name := "finish", desc := "()V" } : Jvm.MethodName)) ∈ wsG := in_tables2 (List.mem_of_getElem? (i := 147) rfl) rfl
theorem wk_388 : (Jvm.Cond.methodLink "DigestTrees" (215 : Nat) ({ cls := "DigestTrees$Mill", name := "write", desc := "([BI)V" } : Jvm.MethodName)) ∈ wsG := in_tables2 (List.mem_of_getElem? (i := 148) rfl) rfl
theorem wk_389 : (Jvm.Cond.methodLink "DigestTreesLaw" (91 : Nat) ({ cls := "DigestTrees", name := "change", desc := "(III)I" } : Jvm.MethodName)) ∈ wsG := in_tables2 (List.mem_of_getElem? (i := 149) rfl) rfl
theorem wk_390 : (Jvm.Cond.instanceMethod ({ cls := "DigestTrees", name := "change", desc := "(III)I" } : Jvm.MethodName)) ∈ wsG := in_tables2 (List.mem_of_getElem? (i := 150) rfl) rfl
theorem wk_391 : (Jvm.Cond.selects "DigestTrees" ({ cls := "DigestTrees", name := "change", desc := "(III)I" } : Jvm.MethodName) ({ cls := "DigestTrees", name := "change", desc := "(III)I" } : Jvm.MethodName)) ∈ wsG := in_tables2 (List.mem_of_getElem? (i := 151) rfl) rfl
theorem wk_392 : (Jvm.Cond.code ({ cls := "DigestTrees", name := "change", desc := "(III)I" } : Jvm.MethodName) prog_1_method_14_code (5 : Nat) (Option.some Jvm.ClassFile.FieldType.int)) ∈ wsG := in_tables2 (List.mem_of_getElem? (i := 152) rfl) rfl
theorem wk_393 : (Jvm.Cond.methodLink "DigestTrees" (178 : Nat) ({ cls := "DigestTrees$Tree", name := "has", desc := "(I)Z" } : Jvm.MethodName)) ∈ wsG := in_tables2 (List.mem_of_getElem? (i := 153) rfl) rfl
theorem wk_394 : (Jvm.Cond.instanceMethod ({ cls := "DigestTrees$Tree", name := "has", desc := "(I)Z" } : Jvm.MethodName)) ∈ wsG := in_tables2 (List.mem_of_getElem? (i := 154) rfl) rfl
theorem wk_395 : (Jvm.Cond.selects "DigestTrees$Tree" ({ cls := "DigestTrees$Tree", name := "has", desc := "(I)Z" } : Jvm.MethodName) ({ cls := "DigestTrees$Tree", name := "has", desc := "(I)Z" } : Jvm.MethodName)) ∈ wsG := in_tables2 (List.mem_of_getElem? (i := 155) rfl) rfl
theorem wk_396 : (Jvm.Cond.code ({ cls := "DigestTrees$Tree", name := "has", desc := "(I)Z" } : Jvm.MethodName) prog_8_method_2_code (2 : Nat) (Option.some Jvm.ClassFile.FieldType.boolean)) ∈ wsG := in_tables2 (List.mem_of_getElem? (i := 156) rfl) rfl
theorem wk_397 : (Jvm.Cond.methodLink "DigestTreesLaw" (96 : Nat) ({ cls := "DigestTrees", name := "root", desc := "(I)I" } : Jvm.MethodName)) ∈ wsG := in_tables2 (List.mem_of_getElem? (i := 157) rfl) rfl
theorem wk_398 : (Jvm.Cond.instanceMethod ({ cls := "DigestTrees", name := "root", desc := "(I)I" } : Jvm.MethodName)) ∈ wsG := in_tables2 (List.mem_of_getElem? (i := 158) rfl) rfl
theorem wk_399 : (Jvm.Cond.selects "DigestTrees" ({ cls := "DigestTrees", name := "root", desc := "(I)I" } : Jvm.MethodName) ({ cls := "DigestTrees", name := "root", desc := "(I)I" } : Jvm.MethodName)) ∈ wsG := in_tables2 (List.mem_of_getElem? (i := 159) rfl) rfl
theorem wk_400 : (Jvm.Cond.code ({ cls := "DigestTrees", name := "root", desc := "(I)I" } : Jvm.MethodName) prog_1_method_15_code (3 : Nat) (Option.some Jvm.ClassFile.FieldType.int)) ∈ wsG := in_tables2 (List.mem_of_getElem? (i := 160) rfl) rfl
theorem wk_401 : (Jvm.Cond.methodLink "DigestTrees" (182 : Nat) ({ cls := "DigestTrees$Tree", name := "climb", desc := "(LDigestTrees$Mill;)[B" } : Jvm.MethodName)) ∈ wsG := in_tables2 (List.mem_of_getElem? (i := 161) rfl) rfl
theorem wk_402 : (Jvm.Cond.instanceMethod ({ cls := "DigestTrees$Tree", name := "climb", desc := "(LDigestTrees$Mill;)[B" } : Jvm.MethodName)) ∈ wsG := in_tables2 (List.mem_of_getElem? (i := 162) rfl) rfl
theorem wk_403 : (Jvm.Cond.selects "DigestTrees$Tree" ({ cls := "DigestTrees$Tree", name := "climb", desc := "(LDigestTrees$Mill;)[B" } : Jvm.MethodName) ({ cls := "DigestTrees$Tree", name := "climb", desc := "(LDigestTrees$Mill;)[B" } : Jvm.MethodName)) ∈ wsG := in_tables2 (List.mem_of_getElem? (i := 163) rfl) rfl
theorem wk_404 : (Jvm.Cond.code ({ cls := "DigestTrees$Tree", name := "climb", desc := "(LDigestTrees$Mill;)[B" } : Jvm.MethodName) prog_8_method_3_code (6 : Nat) (Option.some (Jvm.ClassFile.FieldType.array Jvm.ClassFile.FieldType.byte))) ∈ wsG := in_tables2 (List.mem_of_getElem? (i := 164) rfl) rfl
theorem wk_405 : (Jvm.Cond.methodLink "DigestTrees$Tree" (24 : Nat) ({ cls := "java/util/Arrays", name := "fill", desc := "([BB)V" } : Jvm.MethodName)) ∈ wsG := in_tables2 (List.mem_of_getElem? (i := 165) rfl) rfl
theorem wk_407 : (Jvm.Cond.static ({ cls := "DigestTrees", name := "digestPair", desc := "(LDigestTrees$Mill;[B[B[B)V" } : Jvm.MethodName)) ∈ wsG := in_tables2 (List.mem_of_getElem? (i := 167) rfl) rfl
theorem wk_408 : (Jvm.Cond.code ({ cls := "DigestTrees", name := "digestPair", desc := "(LDigestTrees$Mill;[B[B[B)V" } : Jvm.MethodName) prog_1_method_35_code (4 : Nat) (Option.none : Option Jvm.ClassFile.FieldType)) ∈ wsG := in_tables2 (List.mem_of_getElem? (i := 168) rfl) rfl
theorem wk_409 : (Jvm.Cond.methodLink "DigestTrees$Tree" (34 : Nat) ({ cls := "java/lang/System", name := "arraycopy", desc := "(Ljava/lang/Object;ILjava/lang/Object;II)V" } : Jvm.MethodName)) ∈ wsG := in_tables2 (List.mem_of_getElem? (i := 169) rfl) rfl
theorem wk_410 : (Jvm.Cond.methodLink "DigestTrees" (186 : Nat) ({ cls := "DigestTrees", name := "digestRoot", desc := "(LDigestTrees$Mill;I[B)V" } : Jvm.MethodName)) ∈ wsG := in_tables2 (List.mem_of_getElem? (i := 170) rfl) rfl
theorem wk_411 : (Jvm.Cond.static ({ cls := "DigestTrees", name := "digestRoot", desc := "(LDigestTrees$Mill;I[B)V" } : Jvm.MethodName)) ∈ wsG := in_tables2 (List.mem_of_getElem? (i := 171) rfl) rfl
theorem wk_412 : (Jvm.Cond.code ({ cls := "DigestTrees", name := "digestRoot", desc := "(LDigestTrees$Mill;I[B)V" } : Jvm.MethodName) prog_1_method_36_code (3 : Nat) (Option.none : Option Jvm.ClassFile.FieldType)) ∈ wsG := in_tables2 (List.mem_of_getElem? (i := 172) rfl) rfl
theorem wk_413 : (Jvm.Cond.methodLink "DigestTrees" (192 : Nat) ({ cls := "DigestTrees$Shelf", name := "add", desc := "(IILDigestTrees$Mill;)I" } : Jvm.MethodName)) ∈ wsG := in_tables2 (List.mem_of_getElem? (i := 173) rfl) rfl
theorem wk_414 : (Jvm.Cond.methodLink "DigestTreesLaw" (100 : Nat) ({ cls := "DigestTrees", name := "drop", desc := "(I)I" } : Jvm.MethodName)) ∈ wsG := in_tables2 (List.mem_of_getElem? (i := 174) rfl) rfl
theorem wk_415 : (Jvm.Cond.instanceMethod ({ cls := "DigestTrees", name := "drop", desc := "(I)I" } : Jvm.MethodName)) ∈ wsG := in_tables2 (List.mem_of_getElem? (i := 175) rfl) rfl
theorem wk_416 : (Jvm.Cond.selects "DigestTrees" ({ cls := "DigestTrees", name := "drop", desc := "(I)I" } : Jvm.MethodName) ({ cls := "DigestTrees", name := "drop", desc := "(I)I" } : Jvm.MethodName)) ∈ wsG := in_tables2 (List.mem_of_getElem? (i := 176) rfl) rfl
theorem wk_417 : (Jvm.Cond.code ({ cls := "DigestTrees", name := "drop", desc := "(I)I" } : Jvm.MethodName) prog_1_method_16_code (3 : Nat) (Option.some Jvm.ClassFile.FieldType.int)) ∈ wsG := in_tables2 (List.mem_of_getElem? (i := 177) rfl) rfl
theorem wk_418 : (Jvm.Cond.methodLink "DigestTreesLaw" (104 : Nat) ({ cls := "DigestTrees", name := "prove", desc := "(II)I" } : Jvm.MethodName)) ∈ wsG := in_tables2 (List.mem_of_getElem? (i := 178) rfl) rfl
theorem wk_419 : (Jvm.Cond.instanceMethod ({ cls := "DigestTrees", name := "prove", desc := "(II)I" } : Jvm.MethodName)) ∈ wsG := in_tables2 (List.mem_of_getElem? (i := 179) rfl) rfl
theorem wk_420 : (Jvm.Cond.selects "DigestTrees" ({ cls := "DigestTrees", name := "prove", desc := "(II)I" } : Jvm.MethodName) ({ cls := "DigestTrees", name := "prove", desc := "(II)I" } : Jvm.MethodName)) ∈ wsG := in_tables2 (List.mem_of_getElem? (i := 180) rfl) rfl
theorem wk_421 : (Jvm.Cond.code ({ cls := "DigestTrees", name := "prove", desc := "(II)I" } : Jvm.MethodName) prog_1_method_17_code (3 : Nat) (Option.some Jvm.ClassFile.FieldType.int)) ∈ wsG := in_tables2 (List.mem_of_getElem? (i := 181) rfl) rfl
theorem wk_422 : (Jvm.Cond.methodLink "DigestTrees" (196 : Nat) ({ cls := "DigestTrees$Proof", name := "gather", desc := "(LDigestTrees$Tree;I)V" } : Jvm.MethodName)) ∈ wsG := in_tables2 (List.mem_of_getElem? (i := 182) rfl) rfl
theorem wk_423 : (Jvm.Cond.instanceMethod ({ cls := "DigestTrees$Proof", name := "gather", desc := "(LDigestTrees$Tree;I)V" } : Jvm.MethodName)) ∈ wsG := in_tables2 (List.mem_of_getElem? (i := 183) rfl) rfl
theorem wk_424 : (Jvm.Cond.selects "DigestTrees$Proof" ({ cls := "DigestTrees$Proof", name := "gather", desc := "(LDigestTrees$Tree;I)V" } : Jvm.MethodName) ({ cls := "DigestTrees$Proof", name := "gather", desc := "(LDigestTrees$Tree;I)V" } : Jvm.MethodName)) ∈ wsG := in_tables2 (List.mem_of_getElem? (i := 184) rfl) rfl
theorem wk_425 : (Jvm.Cond.code ({ cls := "DigestTrees$Proof", name := "gather", desc := "(LDigestTrees$Tree;I)V" } : Jvm.MethodName) prog_5_method_3_code (7 : Nat) (Option.none : Option Jvm.ClassFile.FieldType)) ∈ wsG := in_tables2 (List.mem_of_getElem? (i := 185) rfl) rfl
theorem wk_426 : (Jvm.Cond.methodLink "DigestTrees$Proof" (26 : Nat) ({ cls := "java/lang/System", name := "arraycopy", desc := "(Ljava/lang/Object;ILjava/lang/Object;II)V" } : Jvm.MethodName)) ∈ wsG := in_tables2 (List.mem_of_getElem? (i := 186) rfl) rfl
theorem wk_427 : (Jvm.Cond.methodLink "DigestTreesLaw" (108 : Nat) ({ cls := "DigestTrees", name := "alter", desc := "(III)I" } : Jvm.MethodName)) ∈ wsG := in_tables2 (List.mem_of_getElem? (i := 187) rfl) rfl
theorem wk_428 : (Jvm.Cond.instanceMethod ({ cls := "DigestTrees", name := "alter", desc := "(III)I" } : Jvm.MethodName)) ∈ wsG := in_tables2 (List.mem_of_getElem? (i := 188) rfl) rfl
theorem wk_429 : (Jvm.Cond.selects "DigestTrees" ({ cls := "DigestTrees", name := "alter", desc := "(III)I" } : Jvm.MethodName) ({ cls := "DigestTrees", name := "alter", desc := "(III)I" } : Jvm.MethodName)) ∈ wsG := in_tables2 (List.mem_of_getElem? (i := 189) rfl) rfl
theorem wk_430 : (Jvm.Cond.code ({ cls := "DigestTrees", name := "alter", desc := "(III)I" } : Jvm.MethodName) prog_1_method_18_code (5 : Nat) (Option.some Jvm.ClassFile.FieldType.int)) ∈ wsG := in_tables2 (List.mem_of_getElem? (i := 190) rfl) rfl
theorem wk_431 : (Jvm.Cond.methodLink "DigestTreesLaw" (112 : Nat) ({ cls := "DigestTrees", name := "check", desc := "(IIII)I" } : Jvm.MethodName)) ∈ wsG := in_tables2 (List.mem_of_getElem? (i := 191) rfl) rfl
theorem wk_432 : (Jvm.Cond.instanceMethod ({ cls := "DigestTrees", name := "check", desc := "(IIII)I" } : Jvm.MethodName)) ∈ wsG := in_tables2 (List.mem_of_getElem? (i := 192) rfl) rfl
theorem wk_433 : (Jvm.Cond.selects "DigestTrees" ({ cls := "DigestTrees", name := "check", desc := "(IIII)I" } : Jvm.MethodName) ({ cls := "DigestTrees", name := "check", desc := "(IIII)I" } : Jvm.MethodName)) ∈ wsG := in_tables2 (List.mem_of_getElem? (i := 193) rfl) rfl
theorem wk_434 : (Jvm.Cond.code ({ cls := "DigestTrees", name := "check", desc := "(IIII)I" } : Jvm.MethodName) prog_1_method_19_code (5 : Nat) (Option.some Jvm.ClassFile.FieldType.int)) ∈ wsG := in_tables2 (List.mem_of_getElem? (i := 194) rfl) rfl
theorem wk_435 : (Jvm.Cond.methodLink "DigestTrees" (204 : Nat) ({ cls := "DigestTrees$Proof", name := "due", desc := "(II)I" } : Jvm.MethodName)) ∈ wsG := in_tables2 (List.mem_of_getElem? (i := 195) rfl) rfl
theorem wk_436 : (Jvm.Cond.static ({ cls := "DigestTrees$Proof", name := "due", desc := "(II)I" } : Jvm.MethodName)) ∈ wsG := in_tables2 (List.mem_of_getElem? (i := 196) rfl) rfl
theorem wk_437 : (Jvm.Cond.code ({ cls := "DigestTrees$Proof", name := "due", desc := "(II)I" } : Jvm.MethodName) prog_5_method_2_code (5 : Nat) (Option.some Jvm.ClassFile.FieldType.int)) ∈ wsG := in_tables2 (List.mem_of_getElem? (i := 197) rfl) rfl
theorem wk_438 : (Jvm.Cond.methodLink "DigestTrees" (211 : Nat) ({ cls := "DigestTrees$Proof", name := "follow", desc := "(LDigestTrees$Mill;II[B)V" } : Jvm.MethodName)) ∈ wsG := in_tables2 (List.mem_of_getElem? (i := 198) rfl) rfl
theorem wk_439 : (Jvm.Cond.instanceMethod ({ cls := "DigestTrees$Proof", name := "follow", desc := "(LDigestTrees$Mill;II[B)V" } : Jvm.MethodName)) ∈ wsG := in_tables2 (List.mem_of_getElem? (i := 199) rfl) rfl
theorem wk_440 : (Jvm.Cond.selects "DigestTrees$Proof" ({ cls := "DigestTrees$Proof", name := "follow", desc := "(LDigestTrees$Mill;II[B)V" } : Jvm.MethodName) ({ cls := "DigestTrees$Proof", name := "follow", desc := "(LDigestTrees$Mill;II[B)V" } : Jvm.MethodName)) ∈ wsG := in_tables2 (List.mem_of_getElem? (i := 200) rfl) rfl
theorem wk_441 : (Jvm.Cond.code ({ cls := "DigestTrees$Proof", name := "follow", desc := "(LDigestTrees$Mill;II[B)V" } : Jvm.MethodName) prog_5_method_4_code (9 : Nat) (Option.none : Option Jvm.ClassFile.FieldType)) ∈ wsG := in_tables2 (List.mem_of_getElem? (i := 201) rfl) rfl
theorem wk_443 : (Jvm.Cond.methodLink "DigestTreesLaw" (117 : Nat) ({ cls := "DigestTrees", name := "keep", desc := "()I" } : Jvm.MethodName)) ∈ wsG := in_tables2 (List.mem_of_getElem? (i := 203) rfl) rfl
theorem wk_444 : (Jvm.Cond.instanceMethod ({ cls := "DigestTrees", name := "keep", desc := "()I" } : Jvm.MethodName)) ∈ wsG := in_tables2 (List.mem_of_getElem? (i := 204) rfl) rfl
theorem wk_445 : (Jvm.Cond.selects "DigestTrees" ({ cls := "DigestTrees", name := "keep", desc := "()I" } : Jvm.MethodName) ({ cls := "DigestTrees", name := "keep", desc := "()I" } : Jvm.MethodName)) ∈ wsG := in_tables2 (List.mem_of_getElem? (i := 205) rfl) rfl
theorem wk_446 : (Jvm.Cond.code ({ cls := "DigestTrees", name := "keep", desc := "()I" } : Jvm.MethodName) prog_1_method_20_code (3 : Nat) (Option.some Jvm.ClassFile.FieldType.int)) ∈ wsG := in_tables2 (List.mem_of_getElem? (i := 206) rfl) rfl
theorem wk_447 : (Jvm.Cond.methodLink "DigestTrees" (219 : Nat) ({ cls := "DigestTrees", name := "spotOf", desc := "(LDigestTrees$Bytes;)I" } : Jvm.MethodName)) ∈ wsG := in_tables2 (List.mem_of_getElem? (i := 207) rfl) rfl
theorem wk_449 : (Jvm.Cond.instanceMethod ({ cls := "DigestTrees", name := "spotOf", desc := "(LDigestTrees$Bytes;)I" } : Jvm.MethodName)) ∈ wsG := in_tables2 (List.mem_of_getElem? (i := 209) rfl) rfl
theorem wk_450 : (Jvm.Cond.code ({ cls := "DigestTrees", name := "spotOf", desc := "(LDigestTrees$Bytes;)I" } : Jvm.MethodName) prog_1_method_33_code (2 : Nat) (Option.some Jvm.ClassFile.FieldType.int)) ∈ wsG := in_tables2 (List.mem_of_getElem? (i := 210) rfl) rfl
theorem wk_451 : (Jvm.Cond.methodLink "DigestTrees" (223 : Nat) ({ cls := "DigestTrees$Store", name := "seek", desc := "(LDigestTrees$Bytes;I)I" } : Jvm.MethodName)) ∈ wsG := in_tables2 (List.mem_of_getElem? (i := 211) rfl) rfl
theorem wk_452 : (Jvm.Cond.instanceMethod ({ cls := "DigestTrees$Store", name := "seek", desc := "(LDigestTrees$Bytes;I)I" } : Jvm.MethodName)) ∈ wsG := in_tables2 (List.mem_of_getElem? (i := 212) rfl) rfl
theorem wk_453 : (Jvm.Cond.selects "DigestTrees$Store" ({ cls := "DigestTrees$Store", name := "seek", desc := "(LDigestTrees$Bytes;I)I" } : Jvm.MethodName) ({ cls := "DigestTrees$Store", name := "seek", desc := "(LDigestTrees$Bytes;I)I" } : Jvm.MethodName)) ∈ wsG := in_tables2 (List.mem_of_getElem? (i := 213) rfl) rfl
theorem wk_454 : (Jvm.Cond.code ({ cls := "DigestTrees$Store", name := "seek", desc := "(LDigestTrees$Bytes;I)I" } : Jvm.MethodName) prog_7_method_2_code (4 : Nat) (Option.some Jvm.ClassFile.FieldType.int)) ∈ wsG := in_tables2 (List.mem_of_getElem? (i := 214) rfl) rfl
theorem wk_456 : (Jvm.Cond.methodLink "DigestTrees" (234 : Nat) ({ cls := "DigestTrees$Store", name := "add", desc := "(LDigestTrees$Bytes;I)I" } : Jvm.MethodName)) ∈ wsG := in_tables2 (List.mem_of_getElem? (i := 216) rfl) rfl
theorem wk_457 : (Jvm.Cond.instanceMethod ({ cls := "DigestTrees$Store", name := "add", desc := "(LDigestTrees$Bytes;I)I" } : Jvm.MethodName)) ∈ wsG := in_tables2 (List.mem_of_getElem? (i := 217) rfl) rfl
theorem wk_458 : (Jvm.Cond.selects "DigestTrees$Store" ({ cls := "DigestTrees$Store", name := "add", desc := "(LDigestTrees$Bytes;I)I" } : Jvm.MethodName) ({ cls := "DigestTrees$Store", name := "add", desc := "(LDigestTrees$Bytes;I)I" } : Jvm.MethodName)) ∈ wsG := in_tables2 (List.mem_of_getElem? (i := 218) rfl) rfl
theorem wk_459 : (Jvm.Cond.code ({ cls := "DigestTrees$Store", name := "add", desc := "(LDigestTrees$Bytes;I)I" } : Jvm.MethodName) prog_7_method_3_code (4 : Nat) (Option.some Jvm.ClassFile.FieldType.int)) ∈ wsG := in_tables2 (List.mem_of_getElem? (i := 219) rfl) rfl
theorem wk_460 : (Jvm.Cond.methodLink "DigestTrees$Store" (43 : Nat) ({ cls := "java/lang/System", name := "arraycopy", desc := "(Ljava/lang/Object;ILjava/lang/Object;II)V" } : Jvm.MethodName)) ∈ wsG := in_tables2 (List.mem_of_getElem? (i := 220) rfl) rfl
theorem wk_461 : (Jvm.Cond.methodLink "DigestTreesLaw" (121 : Nat) ({ cls := "DigestTrees", name := "find", desc := "()I" } : Jvm.MethodName)) ∈ wsG := in_tables2 (List.mem_of_getElem? (i := 221) rfl) rfl
theorem wk_462 : (Jvm.Cond.instanceMethod ({ cls := "DigestTrees", name := "find", desc := "()I" } : Jvm.MethodName)) ∈ wsG := in_tables2 (List.mem_of_getElem? (i := 222) rfl) rfl
theorem wk_463 : (Jvm.Cond.selects "DigestTrees" ({ cls := "DigestTrees", name := "find", desc := "()I" } : Jvm.MethodName) ({ cls := "DigestTrees", name := "find", desc := "()I" } : Jvm.MethodName)) ∈ wsG := in_tables2 (List.mem_of_getElem? (i := 223) rfl) rfl
theorem wk_464 : (Jvm.Cond.code ({ cls := "DigestTrees", name := "find", desc := "()I" } : Jvm.MethodName) prog_1_method_21_code (2 : Nat) (Option.some Jvm.ClassFile.FieldType.int)) ∈ wsG := in_tables2 (List.mem_of_getElem? (i := 224) rfl) rfl
theorem wk_465 : (Jvm.Cond.methodLink "DigestTreesLaw" (128 : Nat) ({ cls := "DigestTrees", name := "about", desc := "(I)I" } : Jvm.MethodName)) ∈ wsG := in_tables2 (List.mem_of_getElem? (i := 225) rfl) rfl
theorem wk_466 : (Jvm.Cond.instanceMethod ({ cls := "DigestTrees", name := "about", desc := "(I)I" } : Jvm.MethodName)) ∈ wsG := in_tables2 (List.mem_of_getElem? (i := 226) rfl) rfl
theorem wk_467 : (Jvm.Cond.selects "DigestTrees" ({ cls := "DigestTrees", name := "about", desc := "(I)I" } : Jvm.MethodName) ({ cls := "DigestTrees", name := "about", desc := "(I)I" } : Jvm.MethodName)) ∈ wsG := in_tables2 (List.mem_of_getElem? (i := 227) rfl) rfl
theorem wk_468 : (Jvm.Cond.code ({ cls := "DigestTrees", name := "about", desc := "(I)I" } : Jvm.MethodName) prog_1_method_23_code (2 : Nat) (Option.some Jvm.ClassFile.FieldType.int)) ∈ wsG := in_tables2 (List.mem_of_getElem? (i := 228) rfl) rfl
theorem wk_469 : (Jvm.Cond.methodLink "DigestTrees" (252 : Nat) ({ cls := "DigestTrees$Store", name := "pairsThatMeet", desc := "()I" } : Jvm.MethodName)) ∈ wsG := in_tables2 (List.mem_of_getElem? (i := 229) rfl) rfl
theorem wk_470 : (Jvm.Cond.instanceMethod ({ cls := "DigestTrees$Store", name := "pairsThatMeet", desc := "()I" } : Jvm.MethodName)) ∈ wsG := in_tables2 (List.mem_of_getElem? (i := 230) rfl) rfl
theorem wk_471 : (Jvm.Cond.selects "DigestTrees$Store" ({ cls := "DigestTrees$Store", name := "pairsThatMeet", desc := "()I" } : Jvm.MethodName) ({ cls := "DigestTrees$Store", name := "pairsThatMeet", desc := "()I" } : Jvm.MethodName)) ∈ wsG := in_tables2 (List.mem_of_getElem? (i := 231) rfl) rfl
theorem wk_472 : (Jvm.Cond.code ({ cls := "DigestTrees$Store", name := "pairsThatMeet", desc := "()I" } : Jvm.MethodName) prog_7_method_4_code (4 : Nat) (Option.some Jvm.ClassFile.FieldType.int)) ∈ wsG := in_tables2 (List.mem_of_getElem? (i := 232) rfl) rfl
theorem wk_473 : (Jvm.Cond.methodLink "DigestTreesLaw" (132 : Nat) ({ cls := "DigestTrees", name := "clear", desc := "()I" } : Jvm.MethodName)) ∈ wsG := in_tables2 (List.mem_of_getElem? (i := 233) rfl) rfl
theorem wk_474 : (Jvm.Cond.instanceMethod ({ cls := "DigestTrees", name := "clear", desc := "()I" } : Jvm.MethodName)) ∈ wsG := in_tables2 (List.mem_of_getElem? (i := 234) rfl) rfl
theorem wk_475 : (Jvm.Cond.selects "DigestTrees" ({ cls := "DigestTrees", name := "clear", desc := "()I" } : Jvm.MethodName) ({ cls := "DigestTrees", name := "clear", desc := "()I" } : Jvm.MethodName)) ∈ wsG := in_tables2 (List.mem_of_getElem? (i := 235) rfl) rfl
theorem wk_476 : (Jvm.Cond.code ({ cls := "DigestTrees", name := "clear", desc := "()I" } : Jvm.MethodName) prog_1_method_24_code (3 : Nat) (Option.some Jvm.ClassFile.FieldType.int)) ∈ wsG := in_tables2 (List.mem_of_getElem? (i := 236) rfl) rfl
theorem wk_477 : (Jvm.Cond.methodLink "DigestTreesLaw" (66 : Nat) ({ cls := "DigestTreesLaw", name := "read", desc := "(LDigestTrees;III[J)I" } : Jvm.MethodName)) ∈ wsG := in_tables2 (List.mem_of_getElem? (i := 237) rfl) rfl
theorem wk_478 : (Jvm.Cond.static ({ cls := "DigestTreesLaw", name := "read", desc := "(LDigestTrees;III[J)I" } : Jvm.MethodName)) ∈ wsG := in_tables2 (List.mem_of_getElem? (i := 238) rfl) rfl
theorem wk_479 : (Jvm.Cond.codeWith ({ cls := "DigestTreesLaw", name := "read", desc := "(LDigestTrees;III[J)I" } : Jvm.MethodName) method_3_code (6 : Nat) (Option.some Jvm.ClassFile.FieldType.int) [((0 : Nat), (11 : Nat), (14 : Nat), (13 : Nat))]) ∈ wsG := in_tables2 (List.mem_of_getElem? (i := 239) rfl) rfl
theorem wk_480 : (Jvm.Cond.classLink "DigestTreesLaw" (13 : Nat) "java/lang/ArrayIndexOutOfBoundsException") ∈ wsG := in_tables3 (List.mem_of_getElem? (i := 0) rfl) rfl
theorem wk_481 : (Jvm.Cond.instantiable "java/lang/ArrayIndexOutOfBoundsException" (6 : Nat)) ∈ wsG := in_tables3 (List.mem_of_getElem? (i := 1) rfl) rfl
theorem wk_482 : (Jvm.Cond.instanceMethod ({ cls := "java/lang/ArrayIndexOutOfBoundsException", name := "<init>", desc := "(Ljava/lang/String;)V" } : Jvm.MethodName)) ∈ wsG := in_tables3 (List.mem_of_getElem? (i := 2) rfl) rfl
theorem wk_483 : (Jvm.Cond.code ({ cls := "java/lang/ArrayIndexOutOfBoundsException", name := "<init>", desc := "(Ljava/lang/String;)V" } : Jvm.MethodName) prog_11_method_2_code (2 : Nat) (Option.none : Option Jvm.ClassFile.FieldType)) ∈ wsG := in_tables3 (List.mem_of_getElem? (i := 3) rfl) rfl
theorem wk_484 : (Jvm.Cond.methodLink "java/lang/ArrayIndexOutOfBoundsException" (7 : Nat) ({ cls := "java/lang/IndexOutOfBoundsException", name := "<init>", desc := "(Ljava/lang/String;)V" } : Jvm.MethodName)) ∈ wsG := in_tables3 (List.mem_of_getElem? (i := 4) rfl) rfl
theorem wk_485 : (Jvm.Cond.instanceMethod ({ cls := "java/lang/IndexOutOfBoundsException", name := "<init>", desc := "(Ljava/lang/String;)V" } : Jvm.MethodName)) ∈ wsG := in_tables3 (List.mem_of_getElem? (i := 5) rfl) rfl
theorem wk_486 : (Jvm.Cond.code ({ cls := "java/lang/IndexOutOfBoundsException", name := "<init>", desc := "(Ljava/lang/String;)V" } : Jvm.MethodName) prog_13_method_2_code (2 : Nat) (Option.none : Option Jvm.ClassFile.FieldType)) ∈ wsG := in_tables3 (List.mem_of_getElem? (i := 6) rfl) rfl
theorem wk_487 : (Jvm.Cond.methodLink "java/lang/IndexOutOfBoundsException" (7 : Nat) ({ cls := "java/lang/RuntimeException", name := "<init>", desc := "(Ljava/lang/String;)V" } : Jvm.MethodName)) ∈ wsG := in_tables3 (List.mem_of_getElem? (i := 7) rfl) rfl
theorem wk_488 : (Jvm.Cond.instanceMethod ({ cls := "java/lang/RuntimeException", name := "<init>", desc := "(Ljava/lang/String;)V" } : Jvm.MethodName)) ∈ wsG := in_tables3 (List.mem_of_getElem? (i := 8) rfl) rfl
theorem wk_489 : (Jvm.Cond.code ({ cls := "java/lang/RuntimeException", name := "<init>", desc := "(Ljava/lang/String;)V" } : Jvm.MethodName) prog_16_method_2_code (2 : Nat) (Option.none : Option Jvm.ClassFile.FieldType)) ∈ wsG := in_tables3 (List.mem_of_getElem? (i := 9) rfl) rfl
theorem wk_490 : (Jvm.Cond.methodLink "java/lang/RuntimeException" (7 : Nat) ({ cls := "java/lang/Exception", name := "<init>", desc := "(Ljava/lang/String;)V" } : Jvm.MethodName)) ∈ wsG := in_tables3 (List.mem_of_getElem? (i := 10) rfl) rfl
theorem wk_491 : (Jvm.Cond.instanceMethod ({ cls := "java/lang/Exception", name := "<init>", desc := "(Ljava/lang/String;)V" } : Jvm.MethodName)) ∈ wsG := in_tables3 (List.mem_of_getElem? (i := 11) rfl) rfl
theorem wk_492 : (Jvm.Cond.code ({ cls := "java/lang/Exception", name := "<init>", desc := "(Ljava/lang/String;)V" } : Jvm.MethodName) prog_12_method_2_code (2 : Nat) (Option.none : Option Jvm.ClassFile.FieldType)) ∈ wsG := in_tables3 (List.mem_of_getElem? (i := 12) rfl) rfl
theorem wk_493 : (Jvm.Cond.methodLink "java/lang/Exception" (7 : Nat) ({ cls := "java/lang/Throwable", name := "<init>", desc := "(Ljava/lang/String;)V" } : Jvm.MethodName)) ∈ wsG := in_tables3 (List.mem_of_getElem? (i := 13) rfl) rfl
theorem wk_494 : (Jvm.Cond.instanceMethod ({ cls := "java/lang/Throwable", name := "<init>", desc := "(Ljava/lang/String;)V" } : Jvm.MethodName)) ∈ wsG := in_tables3 (List.mem_of_getElem? (i := 14) rfl) rfl
theorem wk_495 : (Jvm.Cond.code ({ cls := "java/lang/Throwable", name := "<init>", desc := "(Ljava/lang/String;)V" } : Jvm.MethodName) prog_19_method_2_code (2 : Nat) (Option.none : Option Jvm.ClassFile.FieldType)) ∈ wsG := in_tables3 (List.mem_of_getElem? (i := 15) rfl) rfl
theorem wk_496 : (Jvm.Cond.methodLink "java/lang/Throwable" (1 : Nat) ({ cls := "java/lang/Object", name := "<init>", desc := "()V" } : Jvm.MethodName)) ∈ wsG := in_tables3 (List.mem_of_getElem? (i := 16) rfl) rfl
theorem wk_497 : (Jvm.Cond.fieldLink "java/lang/Throwable" (13 : Nat) "java/lang/Throwable" "UNASSIGNED_STACK" "[Ljava/lang/StackTraceElement;") ∈ wsG := in_tables3 (List.mem_of_getElem? (i := 17) rfl) rfl
theorem wk_499 : (Jvm.Cond.fieldLink "java/lang/Throwable" (20 : Nat) "java/lang/Throwable" "SUPPRESSED_SENTINEL" "Ljava/util/List;") ∈ wsG := in_tables3 (List.mem_of_getElem? (i := 19) rfl) rfl
theorem wk_501 : (Jvm.Cond.methodLink "java/lang/Throwable" (27 : Nat) ({ cls := "java/lang/Throwable", name := "fillInStackTrace", desc := "()Ljava/lang/Throwable;" } : Jvm.MethodName)) ∈ wsG := in_tables3 (List.mem_of_getElem? (i := 21) rfl) rfl
theorem wk_502 : (Jvm.Cond.instanceMethod ({ cls := "java/lang/Throwable", name := "fillInStackTrace", desc := "()Ljava/lang/Throwable;" } : Jvm.MethodName)) ∈ wsG := in_tables3 (List.mem_of_getElem? (i := 22) rfl) rfl
theorem wk_503 : (Jvm.Cond.sameMethod "java/lang/Throwable" "java/lang/Throwable" "fillInStackTrace" "()Ljava/lang/Throwable;") ∈ wsG := in_tables3 (List.mem_of_getElem? (i := 23) rfl) rfl
theorem wk_504 : (Jvm.Cond.selects "java/lang/ArrayIndexOutOfBoundsException" ({ cls := "java/lang/Throwable", name := "fillInStackTrace", desc := "()Ljava/lang/Throwable;" } : Jvm.MethodName) ({ cls := "java/lang/Throwable", name := "fillInStackTrace", desc := "()Ljava/lang/Throwable;" } : Jvm.MethodName)) ∈ wsG := in_tables3 (List.mem_of_getElem? (i := 24) rfl) rfl
theorem wk_505 : (Jvm.Cond.selects "java/lang/NullPointerException" ({ cls := "java/lang/Throwable", name := "fillInStackTrace", desc := "()Ljava/lang/Throwable;" } : Jvm.MethodName) ({ cls := "java/lang/NullPointerException", name := "fillInStackTrace", desc := "()Ljava/lang/Throwable;" } : Jvm.MethodName)) ∈ wsG := in_tables3 (List.mem_of_getElem? (i := 25) rfl) rfl
theorem wk_506 : (Jvm.Cond.instanceMethod ({ cls := "java/lang/NullPointerException", name := "fillInStackTrace", desc := "()Ljava/lang/Throwable;" } : Jvm.MethodName)) ∈ wsG := in_tables3 (List.mem_of_getElem? (i := 26) rfl) rfl
theorem wk_507 : (Jvm.Cond.codeSync ({ cls := "java/lang/NullPointerException", name := "fillInStackTrace", desc := "()Ljava/lang/Throwable;" } : Jvm.MethodName) prog_15_method_3_code (1 : Nat) (Option.some (Jvm.ClassFile.FieldType.object "java/lang/Throwable"))) ∈ wsG := in_tables3 (List.mem_of_getElem? (i := 27) rfl) rfl
theorem wk_508 : (Jvm.Cond.methodLink "java/lang/NullPointerException" (16 : Nat) ({ cls := "java/lang/NullPointerException", name := "getExtendedNPEMessage", desc := "()Ljava/lang/String;" } : Jvm.MethodName)) ∈ wsG := in_tables3 (List.mem_of_getElem? (i := 28) rfl) rfl
theorem wk_510 : (Jvm.Cond.instanceMethod ({ cls := "java/lang/NullPointerException", name := "getExtendedNPEMessage", desc := "()Ljava/lang/String;" } : Jvm.MethodName)) ∈ wsG := in_tables3 (List.mem_of_getElem? (i := 30) rfl) rfl
theorem wk_511 : (Jvm.Cond.instantiable "java/lang/NullPointerException" (8 : Nat)) ∈ wsG := in_tables3 (List.mem_of_getElem? (i := 31) rfl) rfl
theorem wk_512 : (Jvm.Cond.native ({ cls := "java/lang/NullPointerException", name := "getExtendedNPEMessage", desc := "()Ljava/lang/String;" } : Jvm.MethodName)) ∈ wsG := in_tables3 (List.mem_of_getElem? (i := 32) rfl) rfl
theorem wk_513 : (Jvm.Cond.methodLink "java/lang/NullPointerException" (24 : Nat) ({ cls := "java/lang/RuntimeException", name := "fillInStackTrace", desc := "()Ljava/lang/Throwable;" } : Jvm.MethodName)) ∈ wsG := in_tables3 (List.mem_of_getElem? (i := 33) rfl) rfl
theorem wk_514 : (Jvm.Cond.sameMethod "java/lang/RuntimeException" "java/lang/Throwable" "fillInStackTrace" "()Ljava/lang/Throwable;") ∈ wsG := in_tables3 (List.mem_of_getElem? (i := 34) rfl) rfl
theorem wk_516 : (Jvm.Cond.codeSync ({ cls := "java/lang/Throwable", name := "fillInStackTrace", desc := "()Ljava/lang/Throwable;" } : Jvm.MethodName) prog_19_method_18_code (1 : Nat) (Option.some (Jvm.ClassFile.FieldType.object "java/lang/Throwable"))) ∈ wsG := in_tables3 (List.mem_of_getElem? (i := 36) rfl) rfl
theorem wk_517 : (Jvm.Cond.methodLink "java/lang/Throwable" (202 : Nat) ({ cls := "java/lang/Throwable", name := "fillInStackTrace", desc := "(I)Ljava/lang/Throwable;" } : Jvm.MethodName)) ∈ wsG := in_tables3 (List.mem_of_getElem? (i := 37) rfl) rfl
theorem wk_519 : (Jvm.Cond.instanceMethod ({ cls := "java/lang/Throwable", name := "fillInStackTrace", desc := "(I)Ljava/lang/Throwable;" } : Jvm.MethodName)) ∈ wsG := in_tables3 (List.mem_of_getElem? (i := 39) rfl) rfl
theorem wk_520 : (Jvm.Cond.instantiable "java/lang/Throwable" (6 : Nat)) ∈ wsG := in_tables3 (List.mem_of_getElem? (i := 40) rfl) rfl
theorem wk_521 : (Jvm.Cond.native ({ cls := "java/lang/Throwable", name := "fillInStackTrace", desc := "(I)Ljava/lang/Throwable;" } : Jvm.MethodName)) ∈ wsG := in_tables3 (List.mem_of_getElem? (i := 41) rfl) rfl
theorem wk_522 : (Jvm.Cond.fieldLink "java/lang/Throwable" (198 : Nat) "java/lang/Throwable" "backtrace" "Ljava/lang/Object;") ∈ wsG := in_tables3 (List.mem_of_getElem? (i := 42) rfl) rfl
theorem wk_523 : (Jvm.Cond.fieldLink "java/lang/Throwable" (31 : Nat) "java/lang/Throwable" "detailMessage" "Ljava/lang/String;") ∈ wsG := in_tables3 (List.mem_of_getElem? (i := 43) rfl) rfl
theorem wk_524 : (Jvm.Cond.fieldLink "java/lang/Throwable" (7 : Nat) "java/lang/Throwable" "cause" "Ljava/lang/Throwable;") ∈ wsG := in_tables3 (List.mem_of_getElem? (i := 44) rfl) rfl
theorem wk_525 : (Jvm.Cond.fieldLink "java/lang/Throwable" (17 : Nat) "java/lang/Throwable" "stackTrace" "[Ljava/lang/StackTraceElement;") ∈ wsG := in_tables3 (List.mem_of_getElem? (i := 45) rfl) rfl
theorem wk_526 : (Jvm.Cond.fieldLink "java/lang/Throwable" (24 : Nat) "java/lang/Throwable" "suppressedExceptions" "Ljava/util/List;") ∈ wsG := in_tables3 (List.mem_of_getElem? (i := 46) rfl) rfl
theorem wk_527 : (Jvm.Cond.lays "java/lang/ArrayIndexOutOfBoundsException" "java/lang/Throwable" "backtrace" "Ljava/lang/Object;") ∈ wsG := in_tables3 (List.mem_of_getElem? (i := 47) rfl) rfl
theorem wk_529 : (Jvm.Cond.lays "java/lang/ArrayIndexOutOfBoundsException" "java/lang/Throwable" "detailMessage" "Ljava/lang/String;") ∈ wsG := in_tables3 (List.mem_of_getElem? (i := 49) rfl) rfl
theorem wk_531 : (Jvm.Cond.lays "java/lang/ArrayIndexOutOfBoundsException" "java/lang/Throwable" "cause" "Ljava/lang/Throwable;") ∈ wsG := in_tables3 (List.mem_of_getElem? (i := 51) rfl) rfl
theorem wk_533 : (Jvm.Cond.lays "java/lang/ArrayIndexOutOfBoundsException" "java/lang/Throwable" "stackTrace" "[Ljava/lang/StackTraceElement;") ∈ wsG := in_tables3 (List.mem_of_getElem? (i := 53) rfl) rfl
theorem wk_535 : (Jvm.Cond.lays "java/lang/ArrayIndexOutOfBoundsException" "java/lang/Throwable" "depth" "I") ∈ wsG := in_tables3 (List.mem_of_getElem? (i := 55) rfl) rfl
theorem wk_537 : (Jvm.Cond.lays "java/lang/ArrayIndexOutOfBoundsException" "java/lang/Throwable" "suppressedExceptions" "Ljava/util/List;") ∈ wsG := in_tables3 (List.mem_of_getElem? (i := 57) rfl) rfl
theorem wk_539 : (Jvm.Cond.superclass "java/lang/ArrayIndexOutOfBoundsException" "java/lang/IndexOutOfBoundsException") ∈ wsG := in_tables3 (List.mem_of_getElem? (i := 59) rfl) rfl
theorem wk_549 : (Jvm.Cond.selects "java/lang/ArrayIndexOutOfBoundsException" ({ cls := "java/lang/Throwable", name := "fillInStackTrace", desc := "(I)Ljava/lang/Throwable;" } : Jvm.MethodName) ({ cls := "java/lang/Throwable", name := "fillInStackTrace", desc := "(I)Ljava/lang/Throwable;" } : Jvm.MethodName)) ∈ wsG := in_tables3 (List.mem_of_getElem? (i := 69) rfl) rfl
theorem wk_550 : (Jvm.Cond.lays "java/lang/Throwable" "java/lang/Throwable" "cause" "Ljava/lang/Throwable;") ∈ wsG := in_tables3 (List.mem_of_getElem? (i := 70) rfl) rfl
theorem wk_551 : (Jvm.Cond.lays "java/lang/Throwable" "java/lang/Throwable" "stackTrace" "[Ljava/lang/StackTraceElement;") ∈ wsG := in_tables3 (List.mem_of_getElem? (i := 71) rfl) rfl
theorem wk_552 : (Jvm.Cond.lays "java/lang/Throwable" "java/lang/Throwable" "suppressedExceptions" "Ljava/util/List;") ∈ wsG := in_tables3 (List.mem_of_getElem? (i := 72) rfl) rfl
theorem wk_553 : (Jvm.Cond.lays "java/lang/Throwable" "java/lang/Throwable" "detailMessage" "Ljava/lang/String;") ∈ wsG := in_tables3 (List.mem_of_getElem? (i := 73) rfl) rfl
theorem wk_554 : (Jvm.Cond.lays "java/lang/Throwable" "java/lang/Throwable" "backtrace" "Ljava/lang/Object;") ∈ wsG := in_tables3 (List.mem_of_getElem? (i := 74) rfl) rfl
theorem wk_555 : (Jvm.Cond.fieldLink "java/lang/Throwable" (198 : Nat) "java/lang/Throwable" "backtrace" "Ljava/lang/Object;") ∈ wsG := in_tables3 (List.mem_of_getElem? (i := 75) rfl) rfl
theorem wk_556 : (Jvm.Cond.superclass "java/lang/Throwable" "java/lang/Object") ∈ wsG := in_tables3 (List.mem_of_getElem? (i := 76) rfl) rfl
theorem wk_557 : (Jvm.Cond.instanceMethod ({ cls := "java/lang/Throwable", name := "<init>", desc := "()V" } : Jvm.MethodName)) ∈ wsG := in_tables3 (List.mem_of_getElem? (i := 77) rfl) rfl
theorem wk_558 : (Jvm.Cond.code ({ cls := "java/lang/Throwable", name := "<init>", desc := "()V" } : Jvm.MethodName) prog_19_method_1_code (1 : Nat) (Option.none : Option Jvm.ClassFile.FieldType)) ∈ wsG := in_tables3 (List.mem_of_getElem? (i := 78) rfl) rfl
theorem wk_559 : (Jvm.Cond.instantiable "java/lang/String" (4 : Nat)) ∈ wsG := in_tables3 (List.mem_of_getElem? (i := 79) rfl) rfl
theorem wk_560 : (Jvm.Cond.laysFinal "java/lang/String" "java/lang/String" "value" "[B") ∈ wsG := in_tables3 (List.mem_of_getElem? (i := 80) rfl) rfl
theorem wk_562 : (Jvm.Cond.laysFinal "java/lang/String" "java/lang/String" "coder" "B") ∈ wsG := in_tables3 (List.mem_of_getElem? (i := 82) rfl) rfl
theorem wk_564 : (Jvm.Cond.methodLink "DigestTreesLaw" (7 : Nat) ({ cls := "DigestTrees", name := "read", desc := "(III)J" } : Jvm.MethodName)) ∈ wsG := in_tables3 (List.mem_of_getElem? (i := 84) rfl) rfl
theorem wk_565 : (Jvm.Cond.instanceMethod ({ cls := "DigestTrees", name := "read", desc := "(III)J" } : Jvm.MethodName)) ∈ wsG := in_tables3 (List.mem_of_getElem? (i := 85) rfl) rfl
theorem wk_566 : (Jvm.Cond.selects "DigestTrees" ({ cls := "DigestTrees", name := "read", desc := "(III)J" } : Jvm.MethodName) ({ cls := "DigestTrees", name := "read", desc := "(III)J" } : Jvm.MethodName)) ∈ wsG := in_tables3 (List.mem_of_getElem? (i := 86) rfl) rfl
theorem wk_567 : (Jvm.Cond.code ({ cls := "DigestTrees", name := "read", desc := "(III)J" } : Jvm.MethodName) prog_1_method_9_code (8 : Nat) (Option.some Jvm.ClassFile.FieldType.long)) ∈ wsG := in_tables3 (List.mem_of_getElem? (i := 87) rfl) rfl
theorem wk_568 : (Jvm.Cond.constantLong "DigestTrees" (128 : Nat) (-101 : Int64)) ∈ wsG := in_tables3 (List.mem_of_getElem? (i := 88) rfl) rfl
theorem wk_569 : (Jvm.Cond.fieldLink "DigestTrees" (130 : Nat) "DigestTrees" "WIDTH_BYTES" "[I") ∈ wsG := in_tables3 (List.mem_of_getElem? (i := 89) rfl) rfl
theorem wk_571 : (Jvm.Cond.constantLong "DigestTrees" (133 : Nat) (-102 : Int64)) ∈ wsG := in_tables3 (List.mem_of_getElem? (i := 91) rfl) rfl
theorem wk_572 : (Jvm.Cond.classLink "DigestTrees" (135 : Nat) "java/lang/ArrayIndexOutOfBoundsException") ∈ wsG := in_tables3 (List.mem_of_getElem? (i := 92) rfl) rfl
theorem wk_574 : (Jvm.Cond.methodLink "DigestTrees" (139 : Nat) ({ cls := "java/lang/ArrayIndexOutOfBoundsException", name := "<init>", desc := "(Ljava/lang/String;)V" } : Jvm.MethodName)) ∈ wsG := in_tables3 (List.mem_of_getElem? (i := 94) rfl) rfl
theorem wk_575 : (Jvm.Cond.methodLink "DigestTrees" (146 : Nat) ({ cls := "DigestTrees", name := "ofWidth", desc := "(IJ)J" } : Jvm.MethodName)) ∈ wsG := in_tables3 (List.mem_of_getElem? (i := 95) rfl) rfl
theorem wk_576 : (Jvm.Cond.static ({ cls := "DigestTrees", name := "ofWidth", desc := "(IJ)J" } : Jvm.MethodName)) ∈ wsG := in_tables3 (List.mem_of_getElem? (i := 96) rfl) rfl
theorem wk_577 : (Jvm.Cond.code ({ cls := "DigestTrees", name := "ofWidth", desc := "(IJ)J" } : Jvm.MethodName) prog_1_method_30_code (3 : Nat) (Option.some Jvm.ClassFile.FieldType.long)) ∈ wsG := in_tables3 (List.mem_of_getElem? (i := 97) rfl) rfl
theorem wk_578 : (Jvm.Cond.methodLink "DigestTreesLaw" (75 : Nat) ({ cls := "DigestTreesLaw", name := "plan", desc := "(LDigestTrees;II[J)I" } : Jvm.MethodName)) ∈ wsG := in_tables3 (List.mem_of_getElem? (i := 98) rfl) rfl
theorem wk_579 : (Jvm.Cond.static ({ cls := "DigestTreesLaw", name := "plan", desc := "(LDigestTrees;II[J)I" } : Jvm.MethodName)) ∈ wsG := in_tables3 (List.mem_of_getElem? (i := 99) rfl) rfl
theorem wk_580 : (Jvm.Cond.codeWith ({ cls := "DigestTreesLaw", name := "plan", desc := "(LDigestTrees;II[J)I" } : Jvm.MethodName) method_4_code (5 : Nat) (Option.some Jvm.ClassFile.FieldType.int) [((0 : Nat), (9 : Nat), (12 : Nat), (13 : Nat))]) ∈ wsG := in_tables3 (List.mem_of_getElem? (i := 100) rfl) rfl
theorem wk_581 : (Jvm.Cond.methodLink "DigestTreesLaw" (15 : Nat) ({ cls := "DigestTrees", name := "plan", desc := "(II)J" } : Jvm.MethodName)) ∈ wsG := in_tables3 (List.mem_of_getElem? (i := 101) rfl) rfl
theorem wk_582 : (Jvm.Cond.instanceMethod ({ cls := "DigestTrees", name := "plan", desc := "(II)J" } : Jvm.MethodName)) ∈ wsG := in_tables3 (List.mem_of_getElem? (i := 102) rfl) rfl
theorem wk_583 : (Jvm.Cond.selects "DigestTrees" ({ cls := "DigestTrees", name := "plan", desc := "(II)J" } : Jvm.MethodName) ({ cls := "DigestTrees", name := "plan", desc := "(II)J" } : Jvm.MethodName)) ∈ wsG := in_tables3 (List.mem_of_getElem? (i := 103) rfl) rfl
theorem wk_584 : (Jvm.Cond.code ({ cls := "DigestTrees", name := "plan", desc := "(II)J" } : Jvm.MethodName) prog_1_method_10_code (3 : Nat) (Option.some Jvm.ClassFile.FieldType.long)) ∈ wsG := in_tables3 (List.mem_of_getElem? (i := 104) rfl) rfl
theorem wk_586 : (Jvm.Cond.methodLink "DigestTrees" (152 : Nat) ({ cls := "DigestTrees$Shelf", name := "wordOfLast", desc := "(II)I" } : Jvm.MethodName)) ∈ wsG := in_tables3 (List.mem_of_getElem? (i := 106) rfl) rfl
theorem wk_587 : (Jvm.Cond.instanceMethod ({ cls := "DigestTrees$Shelf", name := "wordOfLast", desc := "(II)I" } : Jvm.MethodName)) ∈ wsG := in_tables3 (List.mem_of_getElem? (i := 107) rfl) rfl
theorem wk_588 : (Jvm.Cond.selects "DigestTrees$Shelf" ({ cls := "DigestTrees$Shelf", name := "wordOfLast", desc := "(II)I" } : Jvm.MethodName) ({ cls := "DigestTrees$Shelf", name := "wordOfLast", desc := "(II)I" } : Jvm.MethodName)) ∈ wsG := in_tables3 (List.mem_of_getElem? (i := 108) rfl) rfl
theorem wk_589 : (Jvm.Cond.code ({ cls := "DigestTrees$Shelf", name := "wordOfLast", desc := "(II)I" } : Jvm.MethodName) prog_6_method_5_code (3 : Nat) (Option.some Jvm.ClassFile.FieldType.int)) ∈ wsG := in_tables3 (List.mem_of_getElem? (i := 109) rfl) rfl
theorem wk_591 : (Jvm.Cond.methodLink "DigestTreesLaw" (83 : Nat) ({ cls := "DigestTreesLaw", name := "table", desc := "(LDigestTrees;I[J)I" } : Jvm.MethodName)) ∈ wsG := in_tables3 (List.mem_of_getElem? (i := 111) rfl) rfl
theorem wk_592 : (Jvm.Cond.static ({ cls := "DigestTreesLaw", name := "table", desc := "(LDigestTrees;I[J)I" } : Jvm.MethodName)) ∈ wsG := in_tables3 (List.mem_of_getElem? (i := 112) rfl) rfl
theorem wk_593 : (Jvm.Cond.codeWith ({ cls := "DigestTreesLaw", name := "table", desc := "(LDigestTrees;I[J)I" } : Jvm.MethodName) method_5_code (4 : Nat) (Option.some Jvm.ClassFile.FieldType.int) [((0 : Nat), (9 : Nat), (12 : Nat), (13 : Nat))]) ∈ wsG := in_tables3 (List.mem_of_getElem? (i := 113) rfl) rfl
theorem wk_594 : (Jvm.Cond.methodLink "DigestTreesLaw" (19 : Nat) ({ cls := "DigestTrees", name := "table", desc := "(I)I" } : Jvm.MethodName)) ∈ wsG := in_tables3 (List.mem_of_getElem? (i := 114) rfl) rfl
theorem wk_595 : (Jvm.Cond.instanceMethod ({ cls := "DigestTrees", name := "table", desc := "(I)I" } : Jvm.MethodName)) ∈ wsG := in_tables3 (List.mem_of_getElem? (i := 115) rfl) rfl
theorem wk_596 : (Jvm.Cond.selects "DigestTrees" ({ cls := "DigestTrees", name := "table", desc := "(I)I" } : Jvm.MethodName) ({ cls := "DigestTrees", name := "table", desc := "(I)I" } : Jvm.MethodName)) ∈ wsG := in_tables3 (List.mem_of_getElem? (i := 116) rfl) rfl
theorem wk_597 : (Jvm.Cond.code ({ cls := "DigestTrees", name := "table", desc := "(I)I" } : Jvm.MethodName) prog_1_method_12_code (2 : Nat) (Option.some Jvm.ClassFile.FieldType.int)) ∈ wsG := in_tables3 (List.mem_of_getElem? (i := 117) rfl) rfl
theorem wk_599 : (Jvm.Cond.fieldLink "DigestTrees" (162 : Nat) "DigestTrees" "K" "[I") ∈ wsG := in_tables3 (List.mem_of_getElem? (i := 119) rfl) rfl
theorem wk_600 : (Jvm.Cond.methodLink "DigestTreesLaw" (125 : Nat) ({ cls := "DigestTreesLaw", name := "row", desc := "(LDigestTrees;II[J)I" } : Jvm.MethodName)) ∈ wsG := in_tables3 (List.mem_of_getElem? (i := 120) rfl) rfl
theorem wk_601 : (Jvm.Cond.static ({ cls := "DigestTreesLaw", name := "row", desc := "(LDigestTrees;II[J)I" } : Jvm.MethodName)) ∈ wsG := in_tables3 (List.mem_of_getElem? (i := 121) rfl) rfl
theorem wk_602 : (Jvm.Cond.codeWith ({ cls := "DigestTreesLaw", name := "row", desc := "(LDigestTrees;II[J)I" } : Jvm.MethodName) method_6_code (5 : Nat) (Option.some Jvm.ClassFile.FieldType.int) [((0 : Nat), (10 : Nat), (13 : Nat), (27 : Nat)), ((0 : Nat), (10 : Nat), (17 : Nat), (13 : Nat))]) ∈ wsG := in_tables3 (List.mem_of_getElem? (i := 122) rfl) rfl
theorem wk_603 : (Jvm.Cond.classLink "DigestTreesLaw" (27 : Nat) "java/lang/NullPointerException") ∈ wsG := in_tables3 (List.mem_of_getElem? (i := 123) rfl) rfl
theorem wk_604 : (Jvm.Cond.instanceMethod ({ cls := "java/lang/NullPointerException", name := "<init>", desc := "()V" } : Jvm.MethodName)) ∈ wsG := in_tables3 (List.mem_of_getElem? (i := 124) rfl) rfl
theorem wk_605 : (Jvm.Cond.code ({ cls := "java/lang/NullPointerException", name := "<init>", desc := "()V" } : Jvm.MethodName) prog_15_method_1_code (1 : Nat) (Option.none : Option Jvm.ClassFile.FieldType)) ∈ wsG := in_tables3 (List.mem_of_getElem? (i := 125) rfl) rfl
theorem wk_606 : (Jvm.Cond.methodLink "java/lang/NullPointerException" (1 : Nat) ({ cls := "java/lang/RuntimeException", name := "<init>", desc := "()V" } : Jvm.MethodName)) ∈ wsG := in_tables3 (List.mem_of_getElem? (i := 126) rfl) rfl
theorem wk_607 : (Jvm.Cond.instanceMethod ({ cls := "java/lang/RuntimeException", name := "<init>", desc := "()V" } : Jvm.MethodName)) ∈ wsG := in_tables3 (List.mem_of_getElem? (i := 127) rfl) rfl
theorem wk_608 : (Jvm.Cond.code ({ cls := "java/lang/RuntimeException", name := "<init>", desc := "()V" } : Jvm.MethodName) prog_16_method_1_code (1 : Nat) (Option.none : Option Jvm.ClassFile.FieldType)) ∈ wsG := in_tables3 (List.mem_of_getElem? (i := 128) rfl) rfl
theorem wk_609 : (Jvm.Cond.methodLink "java/lang/RuntimeException" (1 : Nat) ({ cls := "java/lang/Exception", name := "<init>", desc := "()V" } : Jvm.MethodName)) ∈ wsG := in_tables3 (List.mem_of_getElem? (i := 129) rfl) rfl
theorem wk_610 : (Jvm.Cond.instanceMethod ({ cls := "java/lang/Exception", name := "<init>", desc := "()V" } : Jvm.MethodName)) ∈ wsG := in_tables3 (List.mem_of_getElem? (i := 130) rfl) rfl
theorem wk_611 : (Jvm.Cond.code ({ cls := "java/lang/Exception", name := "<init>", desc := "()V" } : Jvm.MethodName) prog_12_method_1_code (1 : Nat) (Option.none : Option Jvm.ClassFile.FieldType)) ∈ wsG := in_tables3 (List.mem_of_getElem? (i := 131) rfl) rfl
theorem wk_612 : (Jvm.Cond.methodLink "java/lang/Exception" (1 : Nat) ({ cls := "java/lang/Throwable", name := "<init>", desc := "()V" } : Jvm.MethodName)) ∈ wsG := in_tables3 (List.mem_of_getElem? (i := 132) rfl) rfl
theorem wk_613 : (Jvm.Cond.fieldLink "java/lang/NullPointerException" (10 : Nat) "java/lang/NullPointerException" "extendedMessageState" "I") ∈ wsG := in_tables3 (List.mem_of_getElem? (i := 133) rfl) rfl
theorem wk_614 : (Jvm.Cond.fieldLink "java/lang/NullPointerException" (20 : Nat) "java/lang/NullPointerException" "extendedMessage" "Ljava/lang/String;") ∈ wsG := in_tables3 (List.mem_of_getElem? (i := 134) rfl) rfl
theorem wk_615 : (Jvm.Cond.lays "java/lang/NullPointerException" "java/lang/NullPointerException" "extendedMessageState" "I") ∈ wsG := in_tables3 (List.mem_of_getElem? (i := 135) rfl) rfl
theorem wk_617 : (Jvm.Cond.lays "java/lang/NullPointerException" "java/lang/NullPointerException" "extendedMessage" "Ljava/lang/String;") ∈ wsG := in_tables3 (List.mem_of_getElem? (i := 137) rfl) rfl
theorem wk_619 : (Jvm.Cond.lays "java/lang/NullPointerException" "java/lang/Throwable" "backtrace" "Ljava/lang/Object;") ∈ wsG := in_tables3 (List.mem_of_getElem? (i := 139) rfl) rfl
theorem wk_620 : (Jvm.Cond.lays "java/lang/NullPointerException" "java/lang/Throwable" "detailMessage" "Ljava/lang/String;") ∈ wsG := in_tables3 (List.mem_of_getElem? (i := 140) rfl) rfl
theorem wk_621 : (Jvm.Cond.lays "java/lang/NullPointerException" "java/lang/Throwable" "cause" "Ljava/lang/Throwable;") ∈ wsG := in_tables3 (List.mem_of_getElem? (i := 141) rfl) rfl
theorem wk_622 : (Jvm.Cond.lays "java/lang/NullPointerException" "java/lang/Throwable" "stackTrace" "[Ljava/lang/StackTraceElement;") ∈ wsG := in_tables3 (List.mem_of_getElem? (i := 142) rfl) rfl
theorem wk_623 : (Jvm.Cond.lays "java/lang/NullPointerException" "java/lang/Throwable" "depth" "I") ∈ wsG := in_tables3 (List.mem_of_getElem? (i := 143) rfl) rfl
theorem wk_624 : (Jvm.Cond.lays "java/lang/NullPointerException" "java/lang/Throwable" "suppressedExceptions" "Ljava/util/List;") ∈ wsG := in_tables3 (List.mem_of_getElem? (i := 144) rfl) rfl
theorem wk_625 : (Jvm.Cond.superclass "java/lang/NullPointerException" "java/lang/RuntimeException") ∈ wsG := in_tables3 (List.mem_of_getElem? (i := 145) rfl) rfl
theorem wk_627 : (Jvm.Cond.selects "java/lang/NullPointerException" ({ cls := "java/lang/Throwable", name := "fillInStackTrace", desc := "(I)Ljava/lang/Throwable;" } : Jvm.MethodName) ({ cls := "java/lang/Throwable", name := "fillInStackTrace", desc := "(I)Ljava/lang/Throwable;" } : Jvm.MethodName)) ∈ wsG := in_tables3 (List.mem_of_getElem? (i := 147) rfl) rfl
theorem wk_629 : (Jvm.Cond.methodLink "DigestTreesLaw" (23 : Nat) ({ cls := "DigestTrees", name := "row", desc := "(II)B" } : Jvm.MethodName)) ∈ wsG := in_tables3 (List.mem_of_getElem? (i := 149) rfl) rfl
theorem wk_630 : (Jvm.Cond.instanceMethod ({ cls := "DigestTrees", name := "row", desc := "(II)B" } : Jvm.MethodName)) ∈ wsG := in_tables3 (List.mem_of_getElem? (i := 150) rfl) rfl
theorem wk_631 : (Jvm.Cond.selects "DigestTrees" ({ cls := "DigestTrees", name := "row", desc := "(II)B" } : Jvm.MethodName) ({ cls := "DigestTrees", name := "row", desc := "(II)B" } : Jvm.MethodName)) ∈ wsG := in_tables3 (List.mem_of_getElem? (i := 151) rfl) rfl
theorem wk_632 : (Jvm.Cond.code ({ cls := "DigestTrees", name := "row", desc := "(II)B" } : Jvm.MethodName) prog_1_method_22_code (3 : Nat) (Option.some Jvm.ClassFile.FieldType.byte)) ∈ wsG := in_tables3 (List.mem_of_getElem? (i := 152) rfl) rfl
theorem wk_634 : (Jvm.Cond.classLink "DigestTrees" (238 : Nat) "java/lang/NullPointerException") ∈ wsG := in_tables3 (List.mem_of_getElem? (i := 154) rfl) rfl
theorem wk_636 : (Jvm.Cond.methodLink "DigestTrees" (242 : Nat) ({ cls := "java/lang/NullPointerException", name := "<init>", desc := "(Ljava/lang/String;)V" } : Jvm.MethodName)) ∈ wsG := in_tables3 (List.mem_of_getElem? (i := 156) rfl) rfl
theorem wk_637 : (Jvm.Cond.instanceMethod ({ cls := "java/lang/NullPointerException", name := "<init>", desc := "(Ljava/lang/String;)V" } : Jvm.MethodName)) ∈ wsG := in_tables3 (List.mem_of_getElem? (i := 157) rfl) rfl
theorem wk_638 : (Jvm.Cond.code ({ cls := "java/lang/NullPointerException", name := "<init>", desc := "(Ljava/lang/String;)V" } : Jvm.MethodName) prog_15_method_2_code (2 : Nat) (Option.none : Option Jvm.ClassFile.FieldType)) ∈ wsG := in_tables3 (List.mem_of_getElem? (i := 158) rfl) rfl
theorem wk_639 : (Jvm.Cond.methodLink "java/lang/NullPointerException" (7 : Nat) ({ cls := "java/lang/RuntimeException", name := "<init>", desc := "(Ljava/lang/String;)V" } : Jvm.MethodName)) ∈ wsG := in_tables3 (List.mem_of_getElem? (i := 159) rfl) rfl
theorem wk_641 : (Jvm.Cond.classLink "DigestTreesLaw" (30 : Nat) "DigestTreesModel") ∈ wsG := in_tables3 (List.mem_of_getElem? (i := 161) rfl) rfl
theorem wk_642 : (Jvm.Cond.instantiable "DigestTreesModel" (40 : Nat)) ∈ wsG := in_tables3 (List.mem_of_getElem? (i := 162) rfl) rfl
theorem wk_643 : (Jvm.Cond.methodLink "DigestTreesLaw" (32 : Nat) ({ cls := "DigestTreesModel", name := "<init>", desc := "()V" } : Jvm.MethodName)) ∈ wsG := in_tables3 (List.mem_of_getElem? (i := 163) rfl) rfl
theorem wk_644 : (Jvm.Cond.instanceMethod ({ cls := "DigestTreesModel", name := "<init>", desc := "()V" } : Jvm.MethodName)) ∈ wsG := in_tables3 (List.mem_of_getElem? (i := 164) rfl) rfl
theorem wk_645 : (Jvm.Cond.code ({ cls := "DigestTreesModel", name := "<init>", desc := "()V" } : Jvm.MethodName) prog_10_method_1_code (5 : Nat) (Option.none : Option Jvm.ClassFile.FieldType)) ∈ wsG := in_tables3 (List.mem_of_getElem? (i := 165) rfl) rfl
theorem wk_646 : (Jvm.Cond.methodLink "DigestTreesModel" (1 : Nat) ({ cls := "java/lang/Object", name := "<init>", desc := "()V" } : Jvm.MethodName)) ∈ wsG := in_tables3 (List.mem_of_getElem? (i := 166) rfl) rfl
theorem wk_647 : (Jvm.Cond.methodLink "DigestTreesModel" (101 : Nat) ({ cls := "DigestTreesModel", name := "cubeBits", desc := "(I)I" } : Jvm.MethodName)) ∈ wsG := in_tables3 (List.mem_of_getElem? (i := 167) rfl) rfl
theorem wk_649 : (Jvm.Cond.instanceMethod ({ cls := "DigestTreesModel", name := "cubeBits", desc := "(I)I" } : Jvm.MethodName)) ∈ wsG := in_tables3 (List.mem_of_getElem? (i := 169) rfl) rfl
theorem wk_650 : (Jvm.Cond.code ({ cls := "DigestTreesModel", name := "cubeBits", desc := "(I)I" } : Jvm.MethodName) prog_10_method_4_code (4 : Nat) (Option.some Jvm.ClassFile.FieldType.int)) ∈ wsG := in_tables3 (List.mem_of_getElem? (i := 170) rfl) rfl
theorem wk_651 : (Jvm.Cond.methodLink "DigestTreesModel" (114 : Nat) ({ cls := "DigestTreesModel", name := "multiply", desc := "([J[JII)V" } : Jvm.MethodName)) ∈ wsG := in_tables3 (List.mem_of_getElem? (i := 171) rfl) rfl
theorem wk_653 : (Jvm.Cond.instanceMethod ({ cls := "DigestTreesModel", name := "multiply", desc := "([J[JII)V" } : Jvm.MethodName)) ∈ wsG := in_tables3 (List.mem_of_getElem? (i := 173) rfl) rfl
theorem wk_654 : (Jvm.Cond.code ({ cls := "DigestTreesModel", name := "multiply", desc := "([J[JII)V" } : Jvm.MethodName) prog_10_method_2_code (7 : Nat) (Option.none : Option Jvm.ClassFile.FieldType)) ∈ wsG := in_tables3 (List.mem_of_getElem? (i := 174) rfl) rfl
theorem wk_655 : (Jvm.Cond.constantLong "DigestTreesModel" (112 : Nat) (65535 : Int64)) ∈ wsG := in_tables3 (List.mem_of_getElem? (i := 175) rfl) rfl
theorem wk_656 : (Jvm.Cond.methodLink "DigestTreesModel" (118 : Nat) ({ cls := "DigestTreesModel", name := "isUpTo", desc := "([JII)Z" } : Jvm.MethodName)) ∈ wsG := in_tables3 (List.mem_of_getElem? (i := 176) rfl) rfl
theorem wk_657 : (Jvm.Cond.static ({ cls := "DigestTreesModel", name := "isUpTo", desc := "([JII)Z" } : Jvm.MethodName)) ∈ wsG := in_tables3 (List.mem_of_getElem? (i := 177) rfl) rfl
theorem wk_658 : (Jvm.Cond.code ({ cls := "DigestTreesModel", name := "isUpTo", desc := "([JII)Z" } : Jvm.MethodName) prog_10_method_5_code (7 : Nat) (Option.some Jvm.ClassFile.FieldType.boolean)) ∈ wsG := in_tables3 (List.mem_of_getElem? (i := 178) rfl) rfl
theorem wk_659 : (Jvm.Cond.methodLink "DigestTreesModel" (105 : Nat) ({ cls := "DigestTreesModel", name := "squareBits", desc := "(II)I" } : Jvm.MethodName)) ∈ wsG := in_tables3 (List.mem_of_getElem? (i := 179) rfl) rfl
theorem wk_661 : (Jvm.Cond.instanceMethod ({ cls := "DigestTreesModel", name := "squareBits", desc := "(II)I" } : Jvm.MethodName)) ∈ wsG := in_tables3 (List.mem_of_getElem? (i := 181) rfl) rfl
theorem wk_662 : (Jvm.Cond.code ({ cls := "DigestTreesModel", name := "squareBits", desc := "(II)I" } : Jvm.MethodName) prog_10_method_3_code (4 : Nat) (Option.some Jvm.ClassFile.FieldType.int)) ∈ wsG := in_tables3 (List.mem_of_getElem? (i := 182) rfl) rfl
theorem wk_663 : (Jvm.Cond.methodLink "DigestTreesModel" (109 : Nat) ({ cls := "DigestTreesModel", name := "rowsBegin", desc := "()V" } : Jvm.MethodName)) ∈ wsG := in_tables3 (List.mem_of_getElem? (i := 183) rfl) rfl
theorem wk_665 : (Jvm.Cond.instanceMethod ({ cls := "DigestTreesModel", name := "rowsBegin", desc := "()V" } : Jvm.MethodName)) ∈ wsG := in_tables3 (List.mem_of_getElem? (i := 185) rfl) rfl
theorem wk_666 : (Jvm.Cond.code ({ cls := "DigestTreesModel", name := "rowsBegin", desc := "()V" } : Jvm.MethodName) prog_10_method_44_code (2 : Nat) (Option.none : Option Jvm.ClassFile.FieldType)) ∈ wsG := in_tables3 (List.mem_of_getElem? (i := 186) rfl) rfl
theorem wk_667 : (Jvm.Cond.fieldLink "DigestTreesModel" (143 : Nat) "DigestTreesModel" "thrown" "I") ∈ wsG := in_tables3 (List.mem_of_getElem? (i := 187) rfl) rfl
theorem wk_668 : (Jvm.Cond.fieldLink "DigestTreesModel" (7 : Nat) "DigestTreesModel" "table" "[I") ∈ wsG := in_tables3 (List.mem_of_getElem? (i := 188) rfl) rfl
theorem wk_669 : (Jvm.Cond.fieldLink "DigestTreesModel" (13 : Nat) "DigestTreesModel" "wideBegin" "[I") ∈ wsG := in_tables3 (List.mem_of_getElem? (i := 189) rfl) rfl
theorem wk_670 : (Jvm.Cond.fieldLink "DigestTreesModel" (16 : Nat) "DigestTreesModel" "narrowBegin" "[I") ∈ wsG := in_tables3 (List.mem_of_getElem? (i := 190) rfl) rfl
theorem wk_671 : (Jvm.Cond.fieldLink "DigestTreesModel" (19 : Nat) "DigestTreesModel" "places" "[J") ∈ wsG := in_tables3 (List.mem_of_getElem? (i := 191) rfl) rfl
theorem wk_672 : (Jvm.Cond.fieldLink "DigestTreesModel" (23 : Nat) "DigestTreesModel" "product" "[J") ∈ wsG := in_tables3 (List.mem_of_getElem? (i := 192) rfl) rfl
theorem wk_673 : (Jvm.Cond.fieldLink "DigestTreesModel" (26 : Nat) "DigestTreesModel" "square" "[J") ∈ wsG := in_tables3 (List.mem_of_getElem? (i := 193) rfl) rfl
theorem wk_674 : (Jvm.Cond.fieldLink "DigestTreesModel" (29 : Nat) "DigestTreesModel" "message" "[I") ∈ wsG := in_tables3 (List.mem_of_getElem? (i := 194) rfl) rfl
theorem wk_675 : (Jvm.Cond.fieldLink "DigestTreesModel" (122 : Nat) "DigestTreesModel" "size" "I") ∈ wsG := in_tables3 (List.mem_of_getElem? (i := 195) rfl) rfl
theorem wk_676 : (Jvm.Cond.fieldLink "DigestTreesModel" (32 : Nat) "DigestTreesModel" "h" "[I") ∈ wsG := in_tables3 (List.mem_of_getElem? (i := 196) rfl) rfl
theorem wk_677 : (Jvm.Cond.fieldLink "DigestTreesModel" (35 : Nat) "DigestTreesModel" "w" "[I") ∈ wsG := in_tables3 (List.mem_of_getElem? (i := 197) rfl) rfl
theorem wk_678 : (Jvm.Cond.fieldLink "DigestTreesModel" (137 : Nat) "DigestTreesModel" "gone" "I") ∈ wsG := in_tables3 (List.mem_of_getElem? (i := 198) rfl) rfl
theorem wk_679 : (Jvm.Cond.fieldLink "DigestTreesModel" (150 : Nat) "DigestTreesModel" "taped" "I") ∈ wsG := in_tables3 (List.mem_of_getElem? (i := 199) rfl) rfl
theorem wk_680 : (Jvm.Cond.fieldLink "DigestTreesModel" (38 : Nat) "DigestTreesModel" "tape" "[I") ∈ wsG := in_tables3 (List.mem_of_getElem? (i := 200) rfl) rfl
theorem wk_681 : (Jvm.Cond.fieldLink "DigestTreesModel" (153 : Nat) "DigestTreesModel" "keySize" "I") ∈ wsG := in_tables3 (List.mem_of_getElem? (i := 201) rfl) rfl
theorem wk_682 : (Jvm.Cond.fieldLink "DigestTreesModel" (41 : Nat) "DigestTreesModel" "key" "[I") ∈ wsG := in_tables3 (List.mem_of_getElem? (i := 202) rfl) rfl
theorem wk_683 : (Jvm.Cond.fieldLink "DigestTreesModel" (156 : Nat) "DigestTreesModel" "digests" "I") ∈ wsG := in_tables3 (List.mem_of_getElem? (i := 203) rfl) rfl
theorem wk_684 : (Jvm.Cond.fieldLink "DigestTreesModel" (44 : Nat) "DigestTreesModel" "sortOf" "[I") ∈ wsG := in_tables3 (List.mem_of_getElem? (i := 204) rfl) rfl
theorem wk_685 : (Jvm.Cond.fieldLink "DigestTreesModel" (47 : Nat) "DigestTreesModel" "blocksOf" "[I") ∈ wsG := in_tables3 (List.mem_of_getElem? (i := 205) rfl) rfl
theorem wk_686 : (Jvm.Cond.fieldLink "DigestTreesModel" (50 : Nat) "DigestTreesModel" "bytesOf" "[I") ∈ wsG := in_tables3 (List.mem_of_getElem? (i := 206) rfl) rfl
theorem wk_687 : (Jvm.Cond.fieldLink "DigestTreesModel" (53 : Nat) "DigestTreesModel" "plans" "[I") ∈ wsG := in_tables3 (List.mem_of_getElem? (i := 207) rfl) rfl
theorem wk_688 : (Jvm.Cond.fieldLink "DigestTreesModel" (56 : Nat) "DigestTreesModel" "padded" "[I") ∈ wsG := in_tables3 (List.mem_of_getElem? (i := 208) rfl) rfl
theorem wk_689 : (Jvm.Cond.fieldLink "DigestTreesModel" (59 : Nat) "DigestTreesModel" "keyBlocks" "[I") ∈ wsG := in_tables3 (List.mem_of_getElem? (i := 209) rfl) rfl
theorem wk_690 : (Jvm.Cond.fieldLink "DigestTreesModel" (62 : Nat) "DigestTreesModel" "streamBytes" "[I") ∈ wsG := in_tables3 (List.mem_of_getElem? (i := 210) rfl) rfl
theorem wk_691 : (Jvm.Cond.fieldLink "DigestTreesModel" (65 : Nat) "DigestTreesModel" "streamMany" "[I") ∈ wsG := in_tables3 (List.mem_of_getElem? (i := 211) rfl) rfl
theorem wk_692 : (Jvm.Cond.fieldLink "DigestTreesModel" (68 : Nat) "DigestTreesModel" "streamSort" "[I") ∈ wsG := in_tables3 (List.mem_of_getElem? (i := 212) rfl) rfl
theorem wk_693 : (Jvm.Cond.fieldLink "DigestTreesModel" (71 : Nat) "DigestTreesModel" "inner" "[I") ∈ wsG := in_tables3 (List.mem_of_getElem? (i := 213) rfl) rfl
theorem wk_694 : (Jvm.Cond.fieldLink "DigestTreesModel" (74 : Nat) "DigestTreesModel" "leaves" "[I") ∈ wsG := in_tables3 (List.mem_of_getElem? (i := 214) rfl) rfl
theorem wk_695 : (Jvm.Cond.fieldLink "DigestTreesModel" (77 : Nat) "DigestTreesModel" "leafKind" "[I") ∈ wsG := in_tables3 (List.mem_of_getElem? (i := 215) rfl) rfl
theorem wk_696 : (Jvm.Cond.fieldLink "DigestTreesModel" (80 : Nat) "DigestTreesModel" "leafSize" "[I") ∈ wsG := in_tables3 (List.mem_of_getElem? (i := 216) rfl) rfl
theorem wk_697 : (Jvm.Cond.fieldLink "DigestTreesModel" (83 : Nat) "DigestTreesModel" "leafBytes" "[I") ∈ wsG := in_tables3 (List.mem_of_getElem? (i := 217) rfl) rfl
theorem wk_698 : (Jvm.Cond.fieldLink "DigestTreesModel" (86 : Nat) "DigestTreesModel" "level" "[I") ∈ wsG := in_tables3 (List.mem_of_getElem? (i := 218) rfl) rfl
theorem wk_699 : (Jvm.Cond.fieldLink "DigestTreesModel" (208 : Nat) "DigestTreesModel" "proved" "I") ∈ wsG := in_tables3 (List.mem_of_getElem? (i := 219) rfl) rfl
theorem wk_700 : (Jvm.Cond.fieldLink "DigestTreesModel" (89 : Nat) "DigestTreesModel" "proof" "[I") ∈ wsG := in_tables3 (List.mem_of_getElem? (i := 220) rfl) rfl
theorem wk_701 : (Jvm.Cond.fieldLink "DigestTreesModel" (218 : Nat) "DigestTreesModel" "rows" "I") ∈ wsG := in_tables3 (List.mem_of_getElem? (i := 221) rfl) rfl
theorem wk_702 : (Jvm.Cond.fieldLink "DigestTreesModel" (92 : Nat) "DigestTreesModel" "rowSize" "[I") ∈ wsG := in_tables3 (List.mem_of_getElem? (i := 222) rfl) rfl
theorem wk_703 : (Jvm.Cond.fieldLink "DigestTreesModel" (95 : Nat) "DigestTreesModel" "rowBytes" "[I") ∈ wsG := in_tables3 (List.mem_of_getElem? (i := 223) rfl) rfl
theorem wk_704 : (Jvm.Cond.fieldLink "DigestTreesModel" (98 : Nat) "DigestTreesModel" "spots" "[I") ∈ wsG := in_tables3 (List.mem_of_getElem? (i := 224) rfl) rfl
theorem wk_705 : (Jvm.Cond.fieldLink "DigestTreesModel" (231 : Nat) "DigestTreesModel" "compared" "I") ∈ wsG := in_tables3 (List.mem_of_getElem? (i := 225) rfl) rfl
theorem wk_706 : (Jvm.Cond.fieldLink "DigestTreesModel" (215 : Nat) "DigestTreesModel" "looked" "I") ∈ wsG := in_tables3 (List.mem_of_getElem? (i := 226) rfl) rfl
theorem wk_707 : (Jvm.Cond.lays "DigestTreesModel" "DigestTreesModel" "thrown" "I") ∈ wsG := in_tables3 (List.mem_of_getElem? (i := 227) rfl) rfl
theorem wk_709 : (Jvm.Cond.laysFinal "DigestTreesModel" "DigestTreesModel" "table" "[I") ∈ wsG := in_tables3 (List.mem_of_getElem? (i := 229) rfl) rfl
theorem wk_711 : (Jvm.Cond.laysFinal "DigestTreesModel" "DigestTreesModel" "wideBegin" "[I") ∈ wsG := in_tables3 (List.mem_of_getElem? (i := 231) rfl) rfl
theorem wk_713 : (Jvm.Cond.laysFinal "DigestTreesModel" "DigestTreesModel" "narrowBegin" "[I") ∈ wsG := in_tables3 (List.mem_of_getElem? (i := 233) rfl) rfl
theorem wk_715 : (Jvm.Cond.laysFinal "DigestTreesModel" "DigestTreesModel" "places" "[J") ∈ wsG := in_tables3 (List.mem_of_getElem? (i := 235) rfl) rfl
theorem wk_717 : (Jvm.Cond.laysFinal "DigestTreesModel" "DigestTreesModel" "product" "[J") ∈ wsG := in_tables3 (List.mem_of_getElem? (i := 237) rfl) rfl
theorem wk_719 : (Jvm.Cond.laysFinal "DigestTreesModel" "DigestTreesModel" "square" "[J") ∈ wsG := in_tables3 (List.mem_of_getElem? (i := 239) rfl) rfl
theorem wk_721 : (Jvm.Cond.laysFinal "DigestTreesModel" "DigestTreesModel" "message" "[I") ∈ wsG := in_tables4 (List.mem_of_getElem? (i := 1) rfl) rfl
theorem wk_723 : (Jvm.Cond.lays "DigestTreesModel" "DigestTreesModel" "size" "I") ∈ wsG := in_tables4 (List.mem_of_getElem? (i := 3) rfl) rfl
theorem wk_725 : (Jvm.Cond.laysFinal "DigestTreesModel" "DigestTreesModel" "h" "[I") ∈ wsG := in_tables4 (List.mem_of_getElem? (i := 5) rfl) rfl
theorem wk_727 : (Jvm.Cond.laysFinal "DigestTreesModel" "DigestTreesModel" "w" "[I") ∈ wsG := in_tables4 (List.mem_of_getElem? (i := 7) rfl) rfl
theorem wk_729 : (Jvm.Cond.lays "DigestTreesModel" "DigestTreesModel" "gone" "I") ∈ wsG := in_tables4 (List.mem_of_getElem? (i := 9) rfl) rfl
theorem wk_731 : (Jvm.Cond.lays "DigestTreesModel" "DigestTreesModel" "taped" "I") ∈ wsG := in_tables4 (List.mem_of_getElem? (i := 11) rfl) rfl
theorem wk_733 : (Jvm.Cond.laysFinal "DigestTreesModel" "DigestTreesModel" "tape" "[I") ∈ wsG := in_tables4 (List.mem_of_getElem? (i := 13) rfl) rfl
theorem wk_735 : (Jvm.Cond.lays "DigestTreesModel" "DigestTreesModel" "keySize" "I") ∈ wsG := in_tables4 (List.mem_of_getElem? (i := 15) rfl) rfl
theorem wk_737 : (Jvm.Cond.laysFinal "DigestTreesModel" "DigestTreesModel" "key" "[I") ∈ wsG := in_tables4 (List.mem_of_getElem? (i := 17) rfl) rfl
theorem wk_739 : (Jvm.Cond.lays "DigestTreesModel" "DigestTreesModel" "digests" "I") ∈ wsG := in_tables4 (List.mem_of_getElem? (i := 19) rfl) rfl
theorem wk_741 : (Jvm.Cond.laysFinal "DigestTreesModel" "DigestTreesModel" "sortOf" "[I") ∈ wsG := in_tables4 (List.mem_of_getElem? (i := 21) rfl) rfl
theorem wk_743 : (Jvm.Cond.laysFinal "DigestTreesModel" "DigestTreesModel" "blocksOf" "[I") ∈ wsG := in_tables4 (List.mem_of_getElem? (i := 23) rfl) rfl
theorem wk_745 : (Jvm.Cond.laysFinal "DigestTreesModel" "DigestTreesModel" "bytesOf" "[I") ∈ wsG := in_tables4 (List.mem_of_getElem? (i := 25) rfl) rfl
theorem wk_747 : (Jvm.Cond.laysFinal "DigestTreesModel" "DigestTreesModel" "plans" "[I") ∈ wsG := in_tables4 (List.mem_of_getElem? (i := 27) rfl) rfl
theorem wk_749 : (Jvm.Cond.laysFinal "DigestTreesModel" "DigestTreesModel" "padded" "[I") ∈ wsG := in_tables4 (List.mem_of_getElem? (i := 29) rfl) rfl
theorem wk_751 : (Jvm.Cond.laysFinal "DigestTreesModel" "DigestTreesModel" "keyBlocks" "[I") ∈ wsG := in_tables4 (List.mem_of_getElem? (i := 31) rfl) rfl
theorem wk_753 : (Jvm.Cond.laysFinal "DigestTreesModel" "DigestTreesModel" "streamBytes" "[I") ∈ wsG := in_tables4 (List.mem_of_getElem? (i := 33) rfl) rfl
theorem wk_755 : (Jvm.Cond.laysFinal "DigestTreesModel" "DigestTreesModel" "streamMany" "[I") ∈ wsG := in_tables4 (List.mem_of_getElem? (i := 35) rfl) rfl
theorem wk_757 : (Jvm.Cond.laysFinal "DigestTreesModel" "DigestTreesModel" "streamSort" "[I") ∈ wsG := in_tables4 (List.mem_of_getElem? (i := 37) rfl) rfl
theorem wk_759 : (Jvm.Cond.laysFinal "DigestTreesModel" "DigestTreesModel" "inner" "[I") ∈ wsG := in_tables4 (List.mem_of_getElem? (i := 39) rfl) rfl
theorem wk_761 : (Jvm.Cond.laysFinal "DigestTreesModel" "DigestTreesModel" "leaves" "[I") ∈ wsG := in_tables4 (List.mem_of_getElem? (i := 41) rfl) rfl
theorem wk_763 : (Jvm.Cond.laysFinal "DigestTreesModel" "DigestTreesModel" "leafKind" "[I") ∈ wsG := in_tables4 (List.mem_of_getElem? (i := 43) rfl) rfl
theorem wk_765 : (Jvm.Cond.laysFinal "DigestTreesModel" "DigestTreesModel" "leafSize" "[I") ∈ wsG := in_tables4 (List.mem_of_getElem? (i := 45) rfl) rfl
theorem wk_767 : (Jvm.Cond.laysFinal "DigestTreesModel" "DigestTreesModel" "leafBytes" "[I") ∈ wsG := in_tables4 (List.mem_of_getElem? (i := 47) rfl) rfl
theorem wk_769 : (Jvm.Cond.laysFinal "DigestTreesModel" "DigestTreesModel" "level" "[I") ∈ wsG := in_tables4 (List.mem_of_getElem? (i := 49) rfl) rfl
theorem wk_771 : (Jvm.Cond.lays "DigestTreesModel" "DigestTreesModel" "proved" "I") ∈ wsG := in_tables4 (List.mem_of_getElem? (i := 51) rfl) rfl
theorem wk_773 : (Jvm.Cond.laysFinal "DigestTreesModel" "DigestTreesModel" "proof" "[I") ∈ wsG := in_tables4 (List.mem_of_getElem? (i := 53) rfl) rfl
theorem wk_775 : (Jvm.Cond.lays "DigestTreesModel" "DigestTreesModel" "rows" "I") ∈ wsG := in_tables4 (List.mem_of_getElem? (i := 55) rfl) rfl
theorem wk_777 : (Jvm.Cond.laysFinal "DigestTreesModel" "DigestTreesModel" "rowSize" "[I") ∈ wsG := in_tables4 (List.mem_of_getElem? (i := 57) rfl) rfl
theorem wk_779 : (Jvm.Cond.laysFinal "DigestTreesModel" "DigestTreesModel" "rowBytes" "[I") ∈ wsG := in_tables4 (List.mem_of_getElem? (i := 59) rfl) rfl
theorem wk_781 : (Jvm.Cond.laysFinal "DigestTreesModel" "DigestTreesModel" "spots" "[I") ∈ wsG := in_tables4 (List.mem_of_getElem? (i := 61) rfl) rfl
theorem wk_783 : (Jvm.Cond.lays "DigestTreesModel" "DigestTreesModel" "compared" "I") ∈ wsG := in_tables4 (List.mem_of_getElem? (i := 63) rfl) rfl
theorem wk_785 : (Jvm.Cond.lays "DigestTreesModel" "DigestTreesModel" "looked" "I") ∈ wsG := in_tables4 (List.mem_of_getElem? (i := 65) rfl) rfl
theorem wk_787 : (Jvm.Cond.superclass "DigestTreesModel" "java/lang/Object") ∈ wsG := in_tables4 (List.mem_of_getElem? (i := 67) rfl) rfl
theorem wk_788 : (Jvm.Cond.arrayClass Jvm.ClassFile.FieldType.long) ∈ wsG := in_tables4 (List.mem_of_getElem? (i := 68) rfl) rfl
theorem wk_789 : (Jvm.Cond.methodLink "DigestTreesLaw" (72 : Nat) ({ cls := "DigestTreesModel", name := "thrown", desc := "()I" } : Jvm.MethodName)) ∈ wsG := in_tables4 (List.mem_of_getElem? (i := 69) rfl) rfl
theorem wk_790 : (Jvm.Cond.instanceMethod ({ cls := "DigestTreesModel", name := "thrown", desc := "()I" } : Jvm.MethodName)) ∈ wsG := in_tables4 (List.mem_of_getElem? (i := 70) rfl) rfl
theorem wk_791 : (Jvm.Cond.selects "DigestTreesModel" ({ cls := "DigestTreesModel", name := "thrown", desc := "()I" } : Jvm.MethodName) ({ cls := "DigestTreesModel", name := "thrown", desc := "()I" } : Jvm.MethodName)) ∈ wsG := in_tables4 (List.mem_of_getElem? (i := 71) rfl) rfl
theorem wk_792 : (Jvm.Cond.code ({ cls := "DigestTreesModel", name := "thrown", desc := "()I" } : Jvm.MethodName) prog_10_method_11_code (1 : Nat) (Option.some Jvm.ClassFile.FieldType.int)) ∈ wsG := in_tables4 (List.mem_of_getElem? (i := 72) rfl) rfl
theorem wk_793 : (Jvm.Cond.methodLink "DigestTreesLaw" (39 : Nat) ({ cls := "DigestTreesModel", name := "feed", desc := "(IJ)I" } : Jvm.MethodName)) ∈ wsG := in_tables4 (List.mem_of_getElem? (i := 73) rfl) rfl
theorem wk_794 : (Jvm.Cond.instanceMethod ({ cls := "DigestTreesModel", name := "feed", desc := "(IJ)I" } : Jvm.MethodName)) ∈ wsG := in_tables4 (List.mem_of_getElem? (i := 74) rfl) rfl
theorem wk_795 : (Jvm.Cond.selects "DigestTreesModel" ({ cls := "DigestTreesModel", name := "feed", desc := "(IJ)I" } : Jvm.MethodName) ({ cls := "DigestTreesModel", name := "feed", desc := "(IJ)I" } : Jvm.MethodName)) ∈ wsG := in_tables4 (List.mem_of_getElem? (i := 75) rfl) rfl
theorem wk_796 : (Jvm.Cond.code ({ cls := "DigestTreesModel", name := "feed", desc := "(IJ)I" } : Jvm.MethodName) prog_10_method_13_code (5 : Nat) (Option.some Jvm.ClassFile.FieldType.int)) ∈ wsG := in_tables4 (List.mem_of_getElem? (i := 76) rfl) rfl
theorem wk_797 : (Jvm.Cond.methodLink "DigestTreesModel" (146 : Nat) ({ cls := "DigestTreesModel", name := "in", desc := "(III)Z" } : Jvm.MethodName)) ∈ wsG := in_tables4 (List.mem_of_getElem? (i := 77) rfl) rfl
theorem wk_798 : (Jvm.Cond.static ({ cls := "DigestTreesModel", name := "in", desc := "(III)Z" } : Jvm.MethodName)) ∈ wsG := in_tables4 (List.mem_of_getElem? (i := 78) rfl) rfl
theorem wk_799 : (Jvm.Cond.code ({ cls := "DigestTreesModel", name := "in", desc := "(III)Z" } : Jvm.MethodName) prog_10_method_12_code (3 : Nat) (Option.some Jvm.ClassFile.FieldType.boolean)) ∈ wsG := in_tables4 (List.mem_of_getElem? (i := 79) rfl) rfl
theorem wk_800 : (Jvm.Cond.constantLong "DigestTreesModel" (132 : Nat) (255 : Int64)) ∈ wsG := in_tables4 (List.mem_of_getElem? (i := 80) rfl) rfl
theorem wk_801 : (Jvm.Cond.methodLink "DigestTreesLaw" (44 : Nat) ({ cls := "DigestTreesModel", name := "key", desc := "()I" } : Jvm.MethodName)) ∈ wsG := in_tables4 (List.mem_of_getElem? (i := 81) rfl) rfl
theorem wk_802 : (Jvm.Cond.instanceMethod ({ cls := "DigestTreesModel", name := "key", desc := "()I" } : Jvm.MethodName)) ∈ wsG := in_tables4 (List.mem_of_getElem? (i := 82) rfl) rfl
theorem wk_803 : (Jvm.Cond.selects "DigestTreesModel" ({ cls := "DigestTreesModel", name := "key", desc := "()I" } : Jvm.MethodName) ({ cls := "DigestTreesModel", name := "key", desc := "()I" } : Jvm.MethodName)) ∈ wsG := in_tables4 (List.mem_of_getElem? (i := 83) rfl) rfl
theorem wk_804 : (Jvm.Cond.code ({ cls := "DigestTreesModel", name := "key", desc := "()I" } : Jvm.MethodName) prog_10_method_14_code (2 : Nat) (Option.some Jvm.ClassFile.FieldType.int)) ∈ wsG := in_tables4 (List.mem_of_getElem? (i := 84) rfl) rfl
theorem wk_805 : (Jvm.Cond.methodLink "DigestTreesLaw" (48 : Nat) ({ cls := "DigestTreesModel", name := "digest", desc := "(I)I" } : Jvm.MethodName)) ∈ wsG := in_tables4 (List.mem_of_getElem? (i := 85) rfl) rfl
theorem wk_806 : (Jvm.Cond.instanceMethod ({ cls := "DigestTreesModel", name := "digest", desc := "(I)I" } : Jvm.MethodName)) ∈ wsG := in_tables4 (List.mem_of_getElem? (i := 86) rfl) rfl
theorem wk_807 : (Jvm.Cond.selects "DigestTreesModel" ({ cls := "DigestTreesModel", name := "digest", desc := "(I)I" } : Jvm.MethodName) ({ cls := "DigestTreesModel", name := "digest", desc := "(I)I" } : Jvm.MethodName)) ∈ wsG := in_tables4 (List.mem_of_getElem? (i := 87) rfl) rfl
theorem wk_808 : (Jvm.Cond.code ({ cls := "DigestTreesModel", name := "digest", desc := "(I)I" } : Jvm.MethodName) prog_10_method_19_code (3 : Nat) (Option.some Jvm.ClassFile.FieldType.int)) ∈ wsG := in_tables4 (List.mem_of_getElem? (i := 88) rfl) rfl
theorem wk_809 : (Jvm.Cond.methodLink "DigestTreesModel" (169 : Nat) ({ cls := "DigestTreesModel", name := "padKey", desc := "(I)V" } : Jvm.MethodName)) ∈ wsG := in_tables4 (List.mem_of_getElem? (i := 89) rfl) rfl
theorem wk_811 : (Jvm.Cond.instanceMethod ({ cls := "DigestTreesModel", name := "padKey", desc := "(I)V" } : Jvm.MethodName)) ∈ wsG := in_tables4 (List.mem_of_getElem? (i := 91) rfl) rfl
theorem wk_812 : (Jvm.Cond.code ({ cls := "DigestTreesModel", name := "padKey", desc := "(I)V" } : Jvm.MethodName) prog_10_method_17_code (3 : Nat) (Option.none : Option Jvm.ClassFile.FieldType)) ∈ wsG := in_tables4 (List.mem_of_getElem? (i := 92) rfl) rfl
theorem wk_813 : (Jvm.Cond.methodLink "DigestTreesModel" (128 : Nat) ({ cls := "DigestTreesModel", name := "put", desc := "(I)V" } : Jvm.MethodName)) ∈ wsG := in_tables4 (List.mem_of_getElem? (i := 93) rfl) rfl
theorem wk_815 : (Jvm.Cond.instanceMethod ({ cls := "DigestTreesModel", name := "put", desc := "(I)V" } : Jvm.MethodName)) ∈ wsG := in_tables4 (List.mem_of_getElem? (i := 95) rfl) rfl
theorem wk_816 : (Jvm.Cond.code ({ cls := "DigestTreesModel", name := "put", desc := "(I)V" } : Jvm.MethodName) prog_10_method_7_code (2 : Nat) (Option.none : Option Jvm.ClassFile.FieldType)) ∈ wsG := in_tables4 (List.mem_of_getElem? (i := 96) rfl) rfl
theorem wk_817 : (Jvm.Cond.methodLink "DigestTreesModel" (162 : Nat) ({ cls := "DigestTreesModel", name := "work", desc := "(Z)V" } : Jvm.MethodName)) ∈ wsG := in_tables4 (List.mem_of_getElem? (i := 97) rfl) rfl
theorem wk_819 : (Jvm.Cond.instanceMethod ({ cls := "DigestTreesModel", name := "work", desc := "(Z)V" } : Jvm.MethodName)) ∈ wsG := in_tables4 (List.mem_of_getElem? (i := 99) rfl) rfl
theorem wk_820 : (Jvm.Cond.code ({ cls := "DigestTreesModel", name := "work", desc := "(Z)V" } : Jvm.MethodName) prog_10_method_8_code (5 : Nat) (Option.none : Option Jvm.ClassFile.FieldType)) ∈ wsG := in_tables4 (List.mem_of_getElem? (i := 100) rfl) rfl
theorem wk_821 : (Jvm.Cond.constantLong "DigestTreesModel" (126 : Nat) (8 : Int64)) ∈ wsG := in_tables4 (List.mem_of_getElem? (i := 101) rfl) rfl
theorem wk_822 : (Jvm.Cond.methodLink "DigestTreesModel" (134 : Nat) ({ cls := "DigestTreesModel", name := "block", desc := "(I)V" } : Jvm.MethodName)) ∈ wsG := in_tables4 (List.mem_of_getElem? (i := 102) rfl) rfl
theorem wk_824 : (Jvm.Cond.instanceMethod ({ cls := "DigestTreesModel", name := "block", desc := "(I)V" } : Jvm.MethodName)) ∈ wsG := in_tables4 (List.mem_of_getElem? (i := 104) rfl) rfl
theorem wk_825 : (Jvm.Cond.code ({ cls := "DigestTreesModel", name := "block", desc := "(I)V" } : Jvm.MethodName) prog_10_method_9_code (13 : Nat) (Option.none : Option Jvm.ClassFile.FieldType)) ∈ wsG := in_tables4 (List.mem_of_getElem? (i := 105) rfl) rfl
theorem wk_826 : (Jvm.Cond.methodLink "DigestTreesModel" (140 : Nat) ({ cls := "DigestTreesModel", name := "right", desc := "(II)I" } : Jvm.MethodName)) ∈ wsG := in_tables4 (List.mem_of_getElem? (i := 106) rfl) rfl
theorem wk_827 : (Jvm.Cond.static ({ cls := "DigestTreesModel", name := "right", desc := "(II)I" } : Jvm.MethodName)) ∈ wsG := in_tables4 (List.mem_of_getElem? (i := 107) rfl) rfl
theorem wk_828 : (Jvm.Cond.code ({ cls := "DigestTreesModel", name := "right", desc := "(II)I" } : Jvm.MethodName) prog_10_method_6_code (2 : Nat) (Option.some Jvm.ClassFile.FieldType.int)) ∈ wsG := in_tables4 (List.mem_of_getElem? (i := 108) rfl) rfl
theorem wk_829 : (Jvm.Cond.methodLink "DigestTreesModel" (159 : Nat) ({ cls := "DigestTreesModel", name := "byteOfH", desc := "(I)I" } : Jvm.MethodName)) ∈ wsG := in_tables4 (List.mem_of_getElem? (i := 109) rfl) rfl
theorem wk_831 : (Jvm.Cond.instanceMethod ({ cls := "DigestTreesModel", name := "byteOfH", desc := "(I)I" } : Jvm.MethodName)) ∈ wsG := in_tables4 (List.mem_of_getElem? (i := 111) rfl) rfl
theorem wk_832 : (Jvm.Cond.code ({ cls := "DigestTreesModel", name := "byteOfH", desc := "(I)I" } : Jvm.MethodName) prog_10_method_10_code (2 : Nat) (Option.some Jvm.ClassFile.FieldType.int)) ∈ wsG := in_tables4 (List.mem_of_getElem? (i := 112) rfl) rfl
theorem wk_833 : (Jvm.Cond.methodLink "DigestTreesModel" (172 : Nat) ({ cls := "DigestTreesModel", name := "made", desc := "(II)I" } : Jvm.MethodName)) ∈ wsG := in_tables4 (List.mem_of_getElem? (i := 113) rfl) rfl
theorem wk_835 : (Jvm.Cond.instanceMethod ({ cls := "DigestTreesModel", name := "made", desc := "(II)I" } : Jvm.MethodName)) ∈ wsG := in_tables4 (List.mem_of_getElem? (i := 115) rfl) rfl
theorem wk_836 : (Jvm.Cond.code ({ cls := "DigestTreesModel", name := "made", desc := "(II)I" } : Jvm.MethodName) prog_10_method_18_code (6 : Nat) (Option.some Jvm.ClassFile.FieldType.int)) ∈ wsG := in_tables4 (List.mem_of_getElem? (i := 116) rfl) rfl
theorem wk_837 : (Jvm.Cond.methodLink "DigestTreesModel" (166 : Nat) ({ cls := "DigestTreesModel", name := "keepDigest", desc := "(I)I" } : Jvm.MethodName)) ∈ wsG := in_tables4 (List.mem_of_getElem? (i := 117) rfl) rfl
theorem wk_839 : (Jvm.Cond.instanceMethod ({ cls := "DigestTreesModel", name := "keepDigest", desc := "(I)I" } : Jvm.MethodName)) ∈ wsG := in_tables4 (List.mem_of_getElem? (i := 119) rfl) rfl
theorem wk_840 : (Jvm.Cond.code ({ cls := "DigestTreesModel", name := "keepDigest", desc := "(I)I" } : Jvm.MethodName) prog_10_method_16_code (3 : Nat) (Option.some Jvm.ClassFile.FieldType.int)) ∈ wsG := in_tables4 (List.mem_of_getElem? (i := 120) rfl) rfl
theorem wk_841 : (Jvm.Cond.methodLink "DigestTreesLaw" (53 : Nat) ({ cls := "DigestTreesModel", name := "open", desc := "(II)I" } : Jvm.MethodName)) ∈ wsG := in_tables4 (List.mem_of_getElem? (i := 121) rfl) rfl
theorem wk_842 : (Jvm.Cond.instanceMethod ({ cls := "DigestTreesModel", name := "open", desc := "(II)I" } : Jvm.MethodName)) ∈ wsG := in_tables4 (List.mem_of_getElem? (i := 122) rfl) rfl
theorem wk_843 : (Jvm.Cond.selects "DigestTreesModel" ({ cls := "DigestTreesModel", name := "open", desc := "(II)I" } : Jvm.MethodName) ({ cls := "DigestTreesModel", name := "open", desc := "(II)I" } : Jvm.MethodName)) ∈ wsG := in_tables4 (List.mem_of_getElem? (i := 123) rfl) rfl
theorem wk_844 : (Jvm.Cond.code ({ cls := "DigestTreesModel", name := "open", desc := "(II)I" } : Jvm.MethodName) prog_10_method_20_code (3 : Nat) (Option.some Jvm.ClassFile.FieldType.int)) ∈ wsG := in_tables4 (List.mem_of_getElem? (i := 124) rfl) rfl
theorem wk_845 : (Jvm.Cond.methodLink "DigestTreesLaw" (57 : Nat) ({ cls := "DigestTreesModel", name := "more", desc := "(I)I" } : Jvm.MethodName)) ∈ wsG := in_tables4 (List.mem_of_getElem? (i := 125) rfl) rfl
theorem wk_846 : (Jvm.Cond.instanceMethod ({ cls := "DigestTreesModel", name := "more", desc := "(I)I" } : Jvm.MethodName)) ∈ wsG := in_tables4 (List.mem_of_getElem? (i := 126) rfl) rfl
theorem wk_847 : (Jvm.Cond.selects "DigestTreesModel" ({ cls := "DigestTreesModel", name := "more", desc := "(I)I" } : Jvm.MethodName) ({ cls := "DigestTreesModel", name := "more", desc := "(I)I" } : Jvm.MethodName)) ∈ wsG := in_tables4 (List.mem_of_getElem? (i := 127) rfl) rfl
theorem wk_848 : (Jvm.Cond.code ({ cls := "DigestTreesModel", name := "more", desc := "(I)I" } : Jvm.MethodName) prog_10_method_21_code (3 : Nat) (Option.some Jvm.ClassFile.FieldType.int)) ∈ wsG := in_tables4 (List.mem_of_getElem? (i := 128) rfl) rfl
theorem wk_849 : (Jvm.Cond.methodLink "DigestTreesLaw" (61 : Nat) ({ cls := "DigestTreesModel", name := "end", desc := "(I)I" } : Jvm.MethodName)) ∈ wsG := in_tables4 (List.mem_of_getElem? (i := 129) rfl) rfl
theorem wk_850 : (Jvm.Cond.instanceMethod ({ cls := "DigestTreesModel", name := "end", desc := "(I)I" } : Jvm.MethodName)) ∈ wsG := in_tables4 (List.mem_of_getElem? (i := 130) rfl) rfl
theorem wk_851 : (Jvm.Cond.selects "DigestTreesModel" ({ cls := "DigestTreesModel", name := "end", desc := "(I)I" } : Jvm.MethodName) ({ cls := "DigestTreesModel", name := "end", desc := "(I)I" } : Jvm.MethodName)) ∈ wsG := in_tables4 (List.mem_of_getElem? (i := 131) rfl) rfl
theorem wk_852 : (Jvm.Cond.code ({ cls := "DigestTreesModel", name := "end", desc := "(I)I" } : Jvm.MethodName) prog_10_method_22_code (3 : Nat) (Option.some Jvm.ClassFile.FieldType.int)) ∈ wsG := in_tables4 (List.mem_of_getElem? (i := 132) rfl) rfl
theorem wk_853 : (Jvm.Cond.methodLink "DigestTreesLaw" (65 : Nat) ({ cls := "DigestTreesModel", name := "told", desc := "(II)I" } : Jvm.MethodName)) ∈ wsG := in_tables4 (List.mem_of_getElem? (i := 133) rfl) rfl
theorem wk_854 : (Jvm.Cond.instanceMethod ({ cls := "DigestTreesModel", name := "told", desc := "(II)I" } : Jvm.MethodName)) ∈ wsG := in_tables4 (List.mem_of_getElem? (i := 134) rfl) rfl
theorem wk_855 : (Jvm.Cond.selects "DigestTreesModel" ({ cls := "DigestTreesModel", name := "told", desc := "(II)I" } : Jvm.MethodName) ({ cls := "DigestTreesModel", name := "told", desc := "(II)I" } : Jvm.MethodName)) ∈ wsG := in_tables4 (List.mem_of_getElem? (i := 135) rfl) rfl
theorem wk_856 : (Jvm.Cond.code ({ cls := "DigestTreesModel", name := "told", desc := "(II)I" } : Jvm.MethodName) prog_10_method_24_code (3 : Nat) (Option.some Jvm.ClassFile.FieldType.int)) ∈ wsG := in_tables4 (List.mem_of_getElem? (i := 136) rfl) rfl
theorem wk_857 : (Jvm.Cond.methodLink "DigestTreesModel" (175 : Nat) ({ cls := "DigestTreesModel", name := "isDigest", desc := "(I)Z" } : Jvm.MethodName)) ∈ wsG := in_tables4 (List.mem_of_getElem? (i := 137) rfl) rfl
theorem wk_859 : (Jvm.Cond.instanceMethod ({ cls := "DigestTreesModel", name := "isDigest", desc := "(I)Z" } : Jvm.MethodName)) ∈ wsG := in_tables4 (List.mem_of_getElem? (i := 139) rfl) rfl
theorem wk_860 : (Jvm.Cond.code ({ cls := "DigestTreesModel", name := "isDigest", desc := "(I)Z" } : Jvm.MethodName) prog_10_method_23_code (2 : Nat) (Option.some Jvm.ClassFile.FieldType.boolean)) ∈ wsG := in_tables4 (List.mem_of_getElem? (i := 140) rfl) rfl
theorem wk_861 : (Jvm.Cond.methodLink "DigestTreesModel" (179 : Nat) ({ cls := "DigestTreesModel", name := "long32", desc := "(I)I" } : Jvm.MethodName)) ∈ wsG := in_tables4 (List.mem_of_getElem? (i := 141) rfl) rfl
theorem wk_862 : (Jvm.Cond.static ({ cls := "DigestTreesModel", name := "long32", desc := "(I)I" } : Jvm.MethodName)) ∈ wsG := in_tables4 (List.mem_of_getElem? (i := 142) rfl) rfl
theorem wk_863 : (Jvm.Cond.code ({ cls := "DigestTreesModel", name := "long32", desc := "(I)I" } : Jvm.MethodName) prog_10_method_15_code (1 : Nat) (Option.some Jvm.ClassFile.FieldType.int)) ∈ wsG := in_tables4 (List.mem_of_getElem? (i := 143) rfl) rfl
theorem wk_864 : (Jvm.Cond.methodLink "DigestTreesLaw" (71 : Nat) ({ cls := "DigestTreesModel", name := "read", desc := "(III)J" } : Jvm.MethodName)) ∈ wsG := in_tables4 (List.mem_of_getElem? (i := 144) rfl) rfl
theorem wk_865 : (Jvm.Cond.instanceMethod ({ cls := "DigestTreesModel", name := "read", desc := "(III)J" } : Jvm.MethodName)) ∈ wsG := in_tables4 (List.mem_of_getElem? (i := 145) rfl) rfl
theorem wk_866 : (Jvm.Cond.selects "DigestTreesModel" ({ cls := "DigestTreesModel", name := "read", desc := "(III)J" } : Jvm.MethodName) ({ cls := "DigestTreesModel", name := "read", desc := "(III)J" } : Jvm.MethodName)) ∈ wsG := in_tables4 (List.mem_of_getElem? (i := 146) rfl) rfl
theorem wk_867 : (Jvm.Cond.code ({ cls := "DigestTreesModel", name := "read", desc := "(III)J" } : Jvm.MethodName) prog_10_method_25_code (8 : Nat) (Option.some Jvm.ClassFile.FieldType.long)) ∈ wsG := in_tables4 (List.mem_of_getElem? (i := 147) rfl) rfl
theorem wk_868 : (Jvm.Cond.constantLong "DigestTreesModel" (182 : Nat) (-101 : Int64)) ∈ wsG := in_tables4 (List.mem_of_getElem? (i := 148) rfl) rfl
theorem wk_869 : (Jvm.Cond.constantLong "DigestTreesModel" (184 : Nat) (-102 : Int64)) ∈ wsG := in_tables4 (List.mem_of_getElem? (i := 149) rfl) rfl
theorem wk_870 : (Jvm.Cond.methodLink "DigestTreesLaw" (78 : Nat) ({ cls := "DigestTreesModel", name := "plan", desc := "(II)J" } : Jvm.MethodName)) ∈ wsG := in_tables4 (List.mem_of_getElem? (i := 150) rfl) rfl
theorem wk_871 : (Jvm.Cond.instanceMethod ({ cls := "DigestTreesModel", name := "plan", desc := "(II)J" } : Jvm.MethodName)) ∈ wsG := in_tables4 (List.mem_of_getElem? (i := 151) rfl) rfl
theorem wk_872 : (Jvm.Cond.selects "DigestTreesModel" ({ cls := "DigestTreesModel", name := "plan", desc := "(II)J" } : Jvm.MethodName) ({ cls := "DigestTreesModel", name := "plan", desc := "(II)J" } : Jvm.MethodName)) ∈ wsG := in_tables4 (List.mem_of_getElem? (i := 152) rfl) rfl
theorem wk_873 : (Jvm.Cond.code ({ cls := "DigestTreesModel", name := "plan", desc := "(II)J" } : Jvm.MethodName) prog_10_method_26_code (3 : Nat) (Option.some Jvm.ClassFile.FieldType.long)) ∈ wsG := in_tables4 (List.mem_of_getElem? (i := 153) rfl) rfl
theorem wk_874 : (Jvm.Cond.methodLink "DigestTreesLaw" (82 : Nat) ({ cls := "DigestTreesModel", name := "same", desc := "(II)I" } : Jvm.MethodName)) ∈ wsG := in_tables4 (List.mem_of_getElem? (i := 154) rfl) rfl
theorem wk_875 : (Jvm.Cond.instanceMethod ({ cls := "DigestTreesModel", name := "same", desc := "(II)I" } : Jvm.MethodName)) ∈ wsG := in_tables4 (List.mem_of_getElem? (i := 155) rfl) rfl
theorem wk_876 : (Jvm.Cond.selects "DigestTreesModel" ({ cls := "DigestTreesModel", name := "same", desc := "(II)I" } : Jvm.MethodName) ({ cls := "DigestTreesModel", name := "same", desc := "(II)I" } : Jvm.MethodName)) ∈ wsG := in_tables4 (List.mem_of_getElem? (i := 156) rfl) rfl
theorem wk_877 : (Jvm.Cond.code ({ cls := "DigestTreesModel", name := "same", desc := "(II)I" } : Jvm.MethodName) prog_10_method_27_code (5 : Nat) (Option.some Jvm.ClassFile.FieldType.int)) ∈ wsG := in_tables4 (List.mem_of_getElem? (i := 157) rfl) rfl
theorem wk_878 : (Jvm.Cond.methodLink "DigestTreesLaw" (86 : Nat) ({ cls := "DigestTreesModel", name := "table", desc := "(I)I" } : Jvm.MethodName)) ∈ wsG := in_tables4 (List.mem_of_getElem? (i := 158) rfl) rfl
theorem wk_879 : (Jvm.Cond.instanceMethod ({ cls := "DigestTreesModel", name := "table", desc := "(I)I" } : Jvm.MethodName)) ∈ wsG := in_tables4 (List.mem_of_getElem? (i := 159) rfl) rfl
theorem wk_880 : (Jvm.Cond.selects "DigestTreesModel" ({ cls := "DigestTreesModel", name := "table", desc := "(I)I" } : Jvm.MethodName) ({ cls := "DigestTreesModel", name := "table", desc := "(I)I" } : Jvm.MethodName)) ∈ wsG := in_tables4 (List.mem_of_getElem? (i := 160) rfl) rfl
theorem wk_881 : (Jvm.Cond.code ({ cls := "DigestTreesModel", name := "table", desc := "(I)I" } : Jvm.MethodName) prog_10_method_28_code (2 : Nat) (Option.some Jvm.ClassFile.FieldType.int)) ∈ wsG := in_tables4 (List.mem_of_getElem? (i := 161) rfl) rfl
theorem wk_882 : (Jvm.Cond.methodLink "DigestTreesLaw" (90 : Nat) ({ cls := "DigestTreesModel", name := "leaf", desc := "(II)I" } : Jvm.MethodName)) ∈ wsG := in_tables4 (List.mem_of_getElem? (i := 162) rfl) rfl
theorem wk_883 : (Jvm.Cond.instanceMethod ({ cls := "DigestTreesModel", name := "leaf", desc := "(II)I" } : Jvm.MethodName)) ∈ wsG := in_tables4 (List.mem_of_getElem? (i := 163) rfl) rfl
theorem wk_884 : (Jvm.Cond.selects "DigestTreesModel" ({ cls := "DigestTreesModel", name := "leaf", desc := "(II)I" } : Jvm.MethodName) ({ cls := "DigestTreesModel", name := "leaf", desc := "(II)I" } : Jvm.MethodName)) ∈ wsG := in_tables4 (List.mem_of_getElem? (i := 164) rfl) rfl
theorem wk_885 : (Jvm.Cond.code ({ cls := "DigestTreesModel", name := "leaf", desc := "(II)I" } : Jvm.MethodName) prog_10_method_31_code (3 : Nat) (Option.some Jvm.ClassFile.FieldType.int)) ∈ wsG := in_tables4 (List.mem_of_getElem? (i := 165) rfl) rfl
theorem wk_886 : (Jvm.Cond.methodLink "DigestTreesModel" (186 : Nat) ({ cls := "DigestTreesModel", name := "isTree", desc := "(I)Z" } : Jvm.MethodName)) ∈ wsG := in_tables4 (List.mem_of_getElem? (i := 166) rfl) rfl
theorem wk_887 : (Jvm.Cond.static ({ cls := "DigestTreesModel", name := "isTree", desc := "(I)Z" } : Jvm.MethodName)) ∈ wsG := in_tables4 (List.mem_of_getElem? (i := 167) rfl) rfl
theorem wk_888 : (Jvm.Cond.code ({ cls := "DigestTreesModel", name := "isTree", desc := "(I)Z" } : Jvm.MethodName) prog_10_method_29_code (1 : Nat) (Option.some Jvm.ClassFile.FieldType.boolean)) ∈ wsG := in_tables4 (List.mem_of_getElem? (i := 168) rfl) rfl
theorem wk_889 : (Jvm.Cond.methodLink "DigestTreesModel" (189 : Nat) ({ cls := "DigestTreesModel", name := "layLeaf", desc := "(III)V" } : Jvm.MethodName)) ∈ wsG := in_tables4 (List.mem_of_getElem? (i := 169) rfl) rfl
theorem wk_891 : (Jvm.Cond.instanceMethod ({ cls := "DigestTreesModel", name := "layLeaf", desc := "(III)V" } : Jvm.MethodName)) ∈ wsG := in_tables4 (List.mem_of_getElem? (i := 171) rfl) rfl
theorem wk_892 : (Jvm.Cond.code ({ cls := "DigestTreesModel", name := "layLeaf", desc := "(III)V" } : Jvm.MethodName) prog_10_method_30_code (6 : Nat) (Option.none : Option Jvm.ClassFile.FieldType)) ∈ wsG := in_tables4 (List.mem_of_getElem? (i := 172) rfl) rfl
theorem wk_893 : (Jvm.Cond.methodLink "DigestTreesLaw" (95 : Nat) ({ cls := "DigestTreesModel", name := "change", desc := "(III)I" } : Jvm.MethodName)) ∈ wsG := in_tables4 (List.mem_of_getElem? (i := 173) rfl) rfl
theorem wk_894 : (Jvm.Cond.instanceMethod ({ cls := "DigestTreesModel", name := "change", desc := "(III)I" } : Jvm.MethodName)) ∈ wsG := in_tables4 (List.mem_of_getElem? (i := 174) rfl) rfl
theorem wk_895 : (Jvm.Cond.selects "DigestTreesModel" ({ cls := "DigestTreesModel", name := "change", desc := "(III)I" } : Jvm.MethodName) ({ cls := "DigestTreesModel", name := "change", desc := "(III)I" } : Jvm.MethodName)) ∈ wsG := in_tables4 (List.mem_of_getElem? (i := 175) rfl) rfl
theorem wk_896 : (Jvm.Cond.code ({ cls := "DigestTreesModel", name := "change", desc := "(III)I" } : Jvm.MethodName) prog_10_method_32_code (5 : Nat) (Option.some Jvm.ClassFile.FieldType.int)) ∈ wsG := in_tables4 (List.mem_of_getElem? (i := 176) rfl) rfl
theorem wk_897 : (Jvm.Cond.methodLink "DigestTreesLaw" (99 : Nat) ({ cls := "DigestTreesModel", name := "root", desc := "(I)I" } : Jvm.MethodName)) ∈ wsG := in_tables4 (List.mem_of_getElem? (i := 177) rfl) rfl
theorem wk_898 : (Jvm.Cond.instanceMethod ({ cls := "DigestTreesModel", name := "root", desc := "(I)I" } : Jvm.MethodName)) ∈ wsG := in_tables4 (List.mem_of_getElem? (i := 178) rfl) rfl
theorem wk_899 : (Jvm.Cond.selects "DigestTreesModel" ({ cls := "DigestTreesModel", name := "root", desc := "(I)I" } : Jvm.MethodName) ({ cls := "DigestTreesModel", name := "root", desc := "(I)I" } : Jvm.MethodName)) ∈ wsG := in_tables4 (List.mem_of_getElem? (i := 179) rfl) rfl
theorem wk_900 : (Jvm.Cond.code ({ cls := "DigestTreesModel", name := "root", desc := "(I)I" } : Jvm.MethodName) prog_10_method_38_code (3 : Nat) (Option.some Jvm.ClassFile.FieldType.int)) ∈ wsG := in_tables4 (List.mem_of_getElem? (i := 180) rfl) rfl
theorem wk_901 : (Jvm.Cond.methodLink "DigestTreesModel" (199 : Nat) ({ cls := "DigestTreesModel", name := "layLevel", desc := "(I)V" } : Jvm.MethodName)) ∈ wsG := in_tables4 (List.mem_of_getElem? (i := 181) rfl) rfl
theorem wk_903 : (Jvm.Cond.instanceMethod ({ cls := "DigestTreesModel", name := "layLevel", desc := "(I)V" } : Jvm.MethodName)) ∈ wsG := in_tables4 (List.mem_of_getElem? (i := 183) rfl) rfl
theorem wk_904 : (Jvm.Cond.code ({ cls := "DigestTreesModel", name := "layLevel", desc := "(I)V" } : Jvm.MethodName) prog_10_method_35_code (5 : Nat) (Option.none : Option Jvm.ClassFile.FieldType)) ∈ wsG := in_tables4 (List.mem_of_getElem? (i := 184) rfl) rfl
theorem wk_905 : (Jvm.Cond.methodLink "DigestTreesModel" (193 : Nat) ({ cls := "DigestTreesModel", name := "toLevel", desc := "(I)V" } : Jvm.MethodName)) ∈ wsG := in_tables4 (List.mem_of_getElem? (i := 185) rfl) rfl
theorem wk_907 : (Jvm.Cond.instanceMethod ({ cls := "DigestTreesModel", name := "toLevel", desc := "(I)V" } : Jvm.MethodName)) ∈ wsG := in_tables4 (List.mem_of_getElem? (i := 187) rfl) rfl
theorem wk_908 : (Jvm.Cond.code ({ cls := "DigestTreesModel", name := "toLevel", desc := "(I)V" } : Jvm.MethodName) prog_10_method_34_code (3 : Nat) (Option.none : Option Jvm.ClassFile.FieldType)) ∈ wsG := in_tables4 (List.mem_of_getElem? (i := 188) rfl) rfl
theorem wk_909 : (Jvm.Cond.methodLink "DigestTreesModel" (202 : Nat) ({ cls := "DigestTreesModel", name := "rise", desc := "(I)I" } : Jvm.MethodName)) ∈ wsG := in_tables4 (List.mem_of_getElem? (i := 189) rfl) rfl
theorem wk_911 : (Jvm.Cond.instanceMethod ({ cls := "DigestTreesModel", name := "rise", desc := "(I)I" } : Jvm.MethodName)) ∈ wsG := in_tables4 (List.mem_of_getElem? (i := 191) rfl) rfl
theorem wk_912 : (Jvm.Cond.code ({ cls := "DigestTreesModel", name := "rise", desc := "(I)I" } : Jvm.MethodName) prog_10_method_36_code (4 : Nat) (Option.some Jvm.ClassFile.FieldType.int)) ∈ wsG := in_tables4 (List.mem_of_getElem? (i := 192) rfl) rfl
theorem wk_913 : (Jvm.Cond.methodLink "DigestTreesModel" (196 : Nat) ({ cls := "DigestTreesModel", name := "putWord", desc := "(I)V" } : Jvm.MethodName)) ∈ wsG := in_tables4 (List.mem_of_getElem? (i := 193) rfl) rfl
theorem wk_915 : (Jvm.Cond.instanceMethod ({ cls := "DigestTreesModel", name := "putWord", desc := "(I)V" } : Jvm.MethodName)) ∈ wsG := in_tables4 (List.mem_of_getElem? (i := 195) rfl) rfl
theorem wk_916 : (Jvm.Cond.code ({ cls := "DigestTreesModel", name := "putWord", desc := "(I)V" } : Jvm.MethodName) prog_10_method_33_code (2 : Nat) (Option.none : Option Jvm.ClassFile.FieldType)) ∈ wsG := in_tables4 (List.mem_of_getElem? (i := 196) rfl) rfl
theorem wk_917 : (Jvm.Cond.methodLink "DigestTreesModel" (205 : Nat) ({ cls := "DigestTreesModel", name := "workRoot", desc := "(I)V" } : Jvm.MethodName)) ∈ wsG := in_tables4 (List.mem_of_getElem? (i := 197) rfl) rfl
theorem wk_919 : (Jvm.Cond.instanceMethod ({ cls := "DigestTreesModel", name := "workRoot", desc := "(I)V" } : Jvm.MethodName)) ∈ wsG := in_tables4 (List.mem_of_getElem? (i := 199) rfl) rfl
theorem wk_920 : (Jvm.Cond.code ({ cls := "DigestTreesModel", name := "workRoot", desc := "(I)V" } : Jvm.MethodName) prog_10_method_37_code (3 : Nat) (Option.none : Option Jvm.ClassFile.FieldType)) ∈ wsG := in_tables4 (List.mem_of_getElem? (i := 200) rfl) rfl
theorem wk_921 : (Jvm.Cond.methodLink "DigestTreesLaw" (103 : Nat) ({ cls := "DigestTreesModel", name := "drop", desc := "(I)I" } : Jvm.MethodName)) ∈ wsG := in_tables4 (List.mem_of_getElem? (i := 201) rfl) rfl
theorem wk_922 : (Jvm.Cond.instanceMethod ({ cls := "DigestTreesModel", name := "drop", desc := "(I)I" } : Jvm.MethodName)) ∈ wsG := in_tables4 (List.mem_of_getElem? (i := 202) rfl) rfl
theorem wk_923 : (Jvm.Cond.selects "DigestTreesModel" ({ cls := "DigestTreesModel", name := "drop", desc := "(I)I" } : Jvm.MethodName) ({ cls := "DigestTreesModel", name := "drop", desc := "(I)I" } : Jvm.MethodName)) ∈ wsG := in_tables4 (List.mem_of_getElem? (i := 203) rfl) rfl
theorem wk_924 : (Jvm.Cond.code ({ cls := "DigestTreesModel", name := "drop", desc := "(I)I" } : Jvm.MethodName) prog_10_method_39_code (3 : Nat) (Option.some Jvm.ClassFile.FieldType.int)) ∈ wsG := in_tables4 (List.mem_of_getElem? (i := 204) rfl) rfl
theorem wk_925 : (Jvm.Cond.methodLink "DigestTreesLaw" (107 : Nat) ({ cls := "DigestTreesModel", name := "prove", desc := "(II)I" } : Jvm.MethodName)) ∈ wsG := in_tables4 (List.mem_of_getElem? (i := 205) rfl) rfl
theorem wk_926 : (Jvm.Cond.instanceMethod ({ cls := "DigestTreesModel", name := "prove", desc := "(II)I" } : Jvm.MethodName)) ∈ wsG := in_tables4 (List.mem_of_getElem? (i := 206) rfl) rfl
theorem wk_927 : (Jvm.Cond.selects "DigestTreesModel" ({ cls := "DigestTreesModel", name := "prove", desc := "(II)I" } : Jvm.MethodName) ({ cls := "DigestTreesModel", name := "prove", desc := "(II)I" } : Jvm.MethodName)) ∈ wsG := in_tables4 (List.mem_of_getElem? (i := 207) rfl) rfl
theorem wk_928 : (Jvm.Cond.code ({ cls := "DigestTreesModel", name := "prove", desc := "(II)I" } : Jvm.MethodName) prog_10_method_40_code (7 : Nat) (Option.some Jvm.ClassFile.FieldType.int)) ∈ wsG := in_tables4 (List.mem_of_getElem? (i := 208) rfl) rfl
theorem wk_929 : (Jvm.Cond.methodLink "DigestTreesLaw" (111 : Nat) ({ cls := "DigestTreesModel", name := "alter", desc := "(III)I" } : Jvm.MethodName)) ∈ wsG := in_tables4 (List.mem_of_getElem? (i := 209) rfl) rfl
theorem wk_930 : (Jvm.Cond.instanceMethod ({ cls := "DigestTreesModel", name := "alter", desc := "(III)I" } : Jvm.MethodName)) ∈ wsG := in_tables4 (List.mem_of_getElem? (i := 210) rfl) rfl
theorem wk_931 : (Jvm.Cond.selects "DigestTreesModel" ({ cls := "DigestTreesModel", name := "alter", desc := "(III)I" } : Jvm.MethodName) ({ cls := "DigestTreesModel", name := "alter", desc := "(III)I" } : Jvm.MethodName)) ∈ wsG := in_tables4 (List.mem_of_getElem? (i := 211) rfl) rfl
theorem wk_932 : (Jvm.Cond.code ({ cls := "DigestTreesModel", name := "alter", desc := "(III)I" } : Jvm.MethodName) prog_10_method_41_code (6 : Nat) (Option.some Jvm.ClassFile.FieldType.int)) ∈ wsG := in_tables4 (List.mem_of_getElem? (i := 212) rfl) rfl
theorem wk_933 : (Jvm.Cond.methodLink "DigestTreesLaw" (116 : Nat) ({ cls := "DigestTreesModel", name := "check", desc := "(IIII)I" } : Jvm.MethodName)) ∈ wsG := in_tables4 (List.mem_of_getElem? (i := 213) rfl) rfl
theorem wk_934 : (Jvm.Cond.instanceMethod ({ cls := "DigestTreesModel", name := "check", desc := "(IIII)I" } : Jvm.MethodName)) ∈ wsG := in_tables4 (List.mem_of_getElem? (i := 214) rfl) rfl
theorem wk_935 : (Jvm.Cond.selects "DigestTreesModel" ({ cls := "DigestTreesModel", name := "check", desc := "(IIII)I" } : Jvm.MethodName) ({ cls := "DigestTreesModel", name := "check", desc := "(IIII)I" } : Jvm.MethodName)) ∈ wsG := in_tables4 (List.mem_of_getElem? (i := 215) rfl) rfl
theorem wk_936 : (Jvm.Cond.code ({ cls := "DigestTreesModel", name := "check", desc := "(IIII)I" } : Jvm.MethodName) prog_10_method_42_code (10 : Nat) (Option.some Jvm.ClassFile.FieldType.int)) ∈ wsG := in_tables4 (List.mem_of_getElem? (i := 216) rfl) rfl
theorem wk_937 : (Jvm.Cond.methodLink "DigestTreesModel" (211 : Nat) ({ cls := "DigestTreesModel", name := "join", desc := "(IZ)V" } : Jvm.MethodName)) ∈ wsG := in_tables4 (List.mem_of_getElem? (i := 217) rfl) rfl
theorem wk_939 : (Jvm.Cond.instanceMethod ({ cls := "DigestTreesModel", name := "join", desc := "(IZ)V" } : Jvm.MethodName)) ∈ wsG := in_tables4 (List.mem_of_getElem? (i := 219) rfl) rfl
theorem wk_940 : (Jvm.Cond.code ({ cls := "DigestTreesModel", name := "join", desc := "(IZ)V" } : Jvm.MethodName) prog_10_method_43_code (5 : Nat) (Option.none : Option Jvm.ClassFile.FieldType)) ∈ wsG := in_tables4 (List.mem_of_getElem? (i := 220) rfl) rfl
theorem wk_941 : (Jvm.Cond.methodLink "DigestTreesLaw" (120 : Nat) ({ cls := "DigestTreesModel", name := "keep", desc := "()I" } : Jvm.MethodName)) ∈ wsG := in_tables4 (List.mem_of_getElem? (i := 221) rfl) rfl
theorem wk_942 : (Jvm.Cond.instanceMethod ({ cls := "DigestTreesModel", name := "keep", desc := "()I" } : Jvm.MethodName)) ∈ wsG := in_tables4 (List.mem_of_getElem? (i := 222) rfl) rfl
theorem wk_943 : (Jvm.Cond.selects "DigestTreesModel" ({ cls := "DigestTreesModel", name := "keep", desc := "()I" } : Jvm.MethodName) ({ cls := "DigestTreesModel", name := "keep", desc := "()I" } : Jvm.MethodName)) ∈ wsG := in_tables4 (List.mem_of_getElem? (i := 223) rfl) rfl
theorem wk_944 : (Jvm.Cond.code ({ cls := "DigestTreesModel", name := "keep", desc := "()I" } : Jvm.MethodName) prog_10_method_48_code (4 : Nat) (Option.some Jvm.ClassFile.FieldType.int)) ∈ wsG := in_tables4 (List.mem_of_getElem? (i := 224) rfl) rfl
theorem wk_945 : (Jvm.Cond.methodLink "DigestTreesModel" (224 : Nat) ({ cls := "DigestTreesModel", name := "spotOfTape", desc := "()I" } : Jvm.MethodName)) ∈ wsG := in_tables4 (List.mem_of_getElem? (i := 225) rfl) rfl
theorem wk_947 : (Jvm.Cond.instanceMethod ({ cls := "DigestTreesModel", name := "spotOfTape", desc := "()I" } : Jvm.MethodName)) ∈ wsG := in_tables4 (List.mem_of_getElem? (i := 227) rfl) rfl
theorem wk_948 : (Jvm.Cond.code ({ cls := "DigestTreesModel", name := "spotOfTape", desc := "()I" } : Jvm.MethodName) prog_10_method_46_code (2 : Nat) (Option.some Jvm.ClassFile.FieldType.int)) ∈ wsG := in_tables4 (List.mem_of_getElem? (i := 228) rfl) rfl
theorem wk_949 : (Jvm.Cond.methodLink "DigestTreesModel" (228 : Nat) ({ cls := "DigestTreesModel", name := "look", desc := "(I)I" } : Jvm.MethodName)) ∈ wsG := in_tables4 (List.mem_of_getElem? (i := 229) rfl) rfl
theorem wk_951 : (Jvm.Cond.instanceMethod ({ cls := "DigestTreesModel", name := "look", desc := "(I)I" } : Jvm.MethodName)) ∈ wsG := in_tables4 (List.mem_of_getElem? (i := 231) rfl) rfl
theorem wk_952 : (Jvm.Cond.code ({ cls := "DigestTreesModel", name := "look", desc := "(I)I" } : Jvm.MethodName) prog_10_method_47_code (3 : Nat) (Option.some Jvm.ClassFile.FieldType.int)) ∈ wsG := in_tables4 (List.mem_of_getElem? (i := 232) rfl) rfl
theorem wk_953 : (Jvm.Cond.methodLink "DigestTreesModel" (221 : Nat) ({ cls := "DigestTreesModel", name := "isRow", desc := "(I)Z" } : Jvm.MethodName)) ∈ wsG := in_tables4 (List.mem_of_getElem? (i := 233) rfl) rfl
theorem wk_955 : (Jvm.Cond.instanceMethod ({ cls := "DigestTreesModel", name := "isRow", desc := "(I)Z" } : Jvm.MethodName)) ∈ wsG := in_tables4 (List.mem_of_getElem? (i := 235) rfl) rfl
theorem wk_956 : (Jvm.Cond.code ({ cls := "DigestTreesModel", name := "isRow", desc := "(I)Z" } : Jvm.MethodName) prog_10_method_45_code (4 : Nat) (Option.some Jvm.ClassFile.FieldType.boolean)) ∈ wsG := in_tables4 (List.mem_of_getElem? (i := 236) rfl) rfl
theorem wk_957 : (Jvm.Cond.methodLink "DigestTreesLaw" (124 : Nat) ({ cls := "DigestTreesModel", name := "find", desc := "()I" } : Jvm.MethodName)) ∈ wsG := in_tables4 (List.mem_of_getElem? (i := 237) rfl) rfl
theorem wk_958 : (Jvm.Cond.instanceMethod ({ cls := "DigestTreesModel", name := "find", desc := "()I" } : Jvm.MethodName)) ∈ wsG := in_tables4 (List.mem_of_getElem? (i := 238) rfl) rfl
theorem wk_959 : (Jvm.Cond.selects "DigestTreesModel" ({ cls := "DigestTreesModel", name := "find", desc := "()I" } : Jvm.MethodName) ({ cls := "DigestTreesModel", name := "find", desc := "()I" } : Jvm.MethodName)) ∈ wsG := in_tables4 (List.mem_of_getElem? (i := 239) rfl) rfl
theorem wk_960 : (Jvm.Cond.code ({ cls := "DigestTreesModel", name := "find", desc := "()I" } : Jvm.MethodName) prog_10_method_49_code (2 : Nat) (Option.some Jvm.ClassFile.FieldType.int)) ∈ wsG := in_tables5 (List.mem_of_getElem? (i := 0) rfl) rfl
theorem wk_961 : (Jvm.Cond.methodLink "DigestTreesLaw" (127 : Nat) ({ cls := "DigestTreesModel", name := "row", desc := "(II)B" } : Jvm.MethodName)) ∈ wsG := in_tables5 (List.mem_of_getElem? (i := 1) rfl) rfl
theorem wk_962 : (Jvm.Cond.instanceMethod ({ cls := "DigestTreesModel", name := "row", desc := "(II)B" } : Jvm.MethodName)) ∈ wsG := in_tables5 (List.mem_of_getElem? (i := 2) rfl) rfl
theorem wk_963 : (Jvm.Cond.selects "DigestTreesModel" ({ cls := "DigestTreesModel", name := "row", desc := "(II)B" } : Jvm.MethodName) ({ cls := "DigestTreesModel", name := "row", desc := "(II)B" } : Jvm.MethodName)) ∈ wsG := in_tables5 (List.mem_of_getElem? (i := 3) rfl) rfl
theorem wk_964 : (Jvm.Cond.code ({ cls := "DigestTreesModel", name := "row", desc := "(II)B" } : Jvm.MethodName) prog_10_method_50_code (3 : Nat) (Option.some Jvm.ClassFile.FieldType.byte)) ∈ wsG := in_tables5 (List.mem_of_getElem? (i := 4) rfl) rfl
theorem wk_965 : (Jvm.Cond.methodLink "DigestTreesLaw" (131 : Nat) ({ cls := "DigestTreesModel", name := "about", desc := "(I)I" } : Jvm.MethodName)) ∈ wsG := in_tables5 (List.mem_of_getElem? (i := 5) rfl) rfl
theorem wk_966 : (Jvm.Cond.instanceMethod ({ cls := "DigestTreesModel", name := "about", desc := "(I)I" } : Jvm.MethodName)) ∈ wsG := in_tables5 (List.mem_of_getElem? (i := 6) rfl) rfl
theorem wk_967 : (Jvm.Cond.selects "DigestTreesModel" ({ cls := "DigestTreesModel", name := "about", desc := "(I)I" } : Jvm.MethodName) ({ cls := "DigestTreesModel", name := "about", desc := "(I)I" } : Jvm.MethodName)) ∈ wsG := in_tables5 (List.mem_of_getElem? (i := 7) rfl) rfl
theorem wk_968 : (Jvm.Cond.code ({ cls := "DigestTreesModel", name := "about", desc := "(I)I" } : Jvm.MethodName) prog_10_method_51_code (2 : Nat) (Option.some Jvm.ClassFile.FieldType.int)) ∈ wsG := in_tables5 (List.mem_of_getElem? (i := 8) rfl) rfl
theorem wk_969 : (Jvm.Cond.methodLink "DigestTreesModel" (234 : Nat) ({ cls := "DigestTreesModel", name := "pairs", desc := "()I" } : Jvm.MethodName)) ∈ wsG := in_tables5 (List.mem_of_getElem? (i := 9) rfl) rfl
theorem wk_971 : (Jvm.Cond.instanceMethod ({ cls := "DigestTreesModel", name := "pairs", desc := "()I" } : Jvm.MethodName)) ∈ wsG := in_tables5 (List.mem_of_getElem? (i := 11) rfl) rfl
theorem wk_972 : (Jvm.Cond.code ({ cls := "DigestTreesModel", name := "pairs", desc := "()I" } : Jvm.MethodName) prog_10_method_52_code (4 : Nat) (Option.some Jvm.ClassFile.FieldType.int)) ∈ wsG := in_tables5 (List.mem_of_getElem? (i := 12) rfl) rfl
theorem wk_973 : (Jvm.Cond.methodLink "DigestTreesLaw" (135 : Nat) ({ cls := "DigestTreesModel", name := "clear", desc := "()I" } : Jvm.MethodName)) ∈ wsG := in_tables5 (List.mem_of_getElem? (i := 13) rfl) rfl
theorem wk_974 : (Jvm.Cond.instanceMethod ({ cls := "DigestTreesModel", name := "clear", desc := "()I" } : Jvm.MethodName)) ∈ wsG := in_tables5 (List.mem_of_getElem? (i := 14) rfl) rfl
theorem wk_975 : (Jvm.Cond.selects "DigestTreesModel" ({ cls := "DigestTreesModel", name := "clear", desc := "()I" } : Jvm.MethodName) ({ cls := "DigestTreesModel", name := "clear", desc := "()I" } : Jvm.MethodName)) ∈ wsG := in_tables5 (List.mem_of_getElem? (i := 15) rfl) rfl
theorem wk_976 : (Jvm.Cond.code ({ cls := "DigestTreesModel", name := "clear", desc := "()I" } : Jvm.MethodName) prog_10_method_53_code (3 : Nat) (Option.some Jvm.ClassFile.FieldType.int)) ∈ wsG := in_tables5 (List.mem_of_getElem? (i := 16) rfl) rfl
theorem wk_977 : (Jvm.Cond.constantLong "DigestTreesLaw" (33 : Nat) (4294967295 : Int64)) ∈ wsG := in_tables5 (List.mem_of_getElem? (i := 17) rfl) rfl
theorem wk_978 : (Jvm.Cond.sameMethod "java/lang/Throwable" "java/lang/Throwable" "fillInStackTrace" "(I)Ljava/lang/Throwable;") ∈ wsG := in_tables5 (List.mem_of_getElem? (i := 18) rfl) rfl
theorem ws_0 : Cond.selects "DigestTrees$Message" ⟨"DigestTrees$Message", "makeLock", "(LDigestTrees$Bytes;)V"⟩ ⟨"DigestTrees$Message", "makeLock", "(LDigestTrees$Bytes;)V"⟩ ∈ wsG := in_sels (q := (⟨"DigestTrees$Message", "makeLock", "(LDigestTrees$Bytes;)V"⟩, 7)) (List.mem_of_getElem? (i := 0) rfl) rfl
theorem ws_1 : Cond.selects "DigestTrees$Mill" ⟨"DigestTrees$Mill", "put", "(I)V"⟩ ⟨"DigestTrees$Mill", "put", "(I)V"⟩ ∈ wsG := in_sels (q := (⟨"DigestTrees$Mill", "put", "(I)V"⟩, 5)) (List.mem_of_getElem? (i := 1) rfl) rfl
theorem ws_2 : Cond.selects "DigestTrees$Mill" ⟨"DigestTrees$Mill", "work", "()V"⟩ ⟨"DigestTrees$Mill", "work", "()V"⟩ ∈ wsG := in_sels (q := (⟨"DigestTrees$Mill", "work", "()V"⟩, 5)) (List.mem_of_getElem? (i := 2) rfl) rfl
theorem ws_3 : Cond.selects "DigestTrees$Message" ⟨"DigestTrees$Message", "beginLocked", "(I)V"⟩ ⟨"DigestTrees$Message", "beginLocked", "(I)V"⟩ ∈ wsG := in_sels (q := (⟨"DigestTrees$Message", "beginLocked", "(I)V"⟩, 7)) (List.mem_of_getElem? (i := 3) rfl) rfl
theorem ws_4 : Cond.selects "DigestTrees" ⟨"DigestTrees", "isLeaf", "(I)Z"⟩ ⟨"DigestTrees", "isLeaf", "(I)Z"⟩ ∈ wsG := in_sels (q := (⟨"DigestTrees", "isLeaf", "(I)Z"⟩, 10)) (List.mem_of_getElem? (i := 4) rfl) rfl
theorem ws_5 : Cond.selects "DigestTrees" ⟨"DigestTrees", "setLeaf", "(LDigestTrees$Tree;II)V"⟩ ⟨"DigestTrees", "setLeaf", "(LDigestTrees$Tree;II)V"⟩ ∈ wsG := in_sels (q := (⟨"DigestTrees", "setLeaf", "(LDigestTrees$Tree;II)V"⟩, 10)) (List.mem_of_getElem? (i := 5) rfl) rfl
theorem ws_6 : Cond.selects "DigestTrees" ⟨"DigestTrees", "spotOf", "(LDigestTrees$Bytes;)I"⟩ ⟨"DigestTrees", "spotOf", "(LDigestTrees$Bytes;)I"⟩ ∈ wsG := in_sels (q := (⟨"DigestTrees", "spotOf", "(LDigestTrees$Bytes;)I"⟩, 10)) (List.mem_of_getElem? (i := 6) rfl) rfl
theorem ws_7 : Cond.selects "java/lang/NullPointerException" ⟨"java/lang/NullPointerException", "getExtendedNPEMessage", "()Ljava/lang/String;"⟩ ⟨"java/lang/NullPointerException", "getExtendedNPEMessage", "()Ljava/lang/String;"⟩ ∈ wsG := in_sels (q := (⟨"java/lang/NullPointerException", "getExtendedNPEMessage", "()Ljava/lang/String;"⟩, 8)) (List.mem_of_getElem? (i := 7) rfl) rfl
theorem ws_8 : Cond.selects "java/lang/Throwable" ⟨"java/lang/Throwable", "fillInStackTrace", "(I)Ljava/lang/Throwable;"⟩ ⟨"java/lang/Throwable", "fillInStackTrace", "(I)Ljava/lang/Throwable;"⟩ ∈ wsG := in_sels (q := (⟨"java/lang/Throwable", "fillInStackTrace", "(I)Ljava/lang/Throwable;"⟩, 6)) (List.mem_of_getElem? (i := 8) rfl) rfl
theorem ws_9 : Cond.selects "DigestTreesModel" ⟨"DigestTreesModel", "cubeBits", "(I)I"⟩ ⟨"DigestTreesModel", "cubeBits", "(I)I"⟩ ∈ wsG := in_sels (q := (⟨"DigestTreesModel", "cubeBits", "(I)I"⟩, 40)) (List.mem_of_getElem? (i := 9) rfl) rfl
theorem ws_10 : Cond.selects "DigestTreesModel" ⟨"DigestTreesModel", "multiply", "([J[JII)V"⟩ ⟨"DigestTreesModel", "multiply", "([J[JII)V"⟩ ∈ wsG := in_sels (q := (⟨"DigestTreesModel", "multiply", "([J[JII)V"⟩, 40)) (List.mem_of_getElem? (i := 10) rfl) rfl
theorem ws_11 : Cond.selects "DigestTreesModel" ⟨"DigestTreesModel", "squareBits", "(II)I"⟩ ⟨"DigestTreesModel", "squareBits", "(II)I"⟩ ∈ wsG := in_sels (q := (⟨"DigestTreesModel", "squareBits", "(II)I"⟩, 40)) (List.mem_of_getElem? (i := 11) rfl) rfl
theorem ws_12 : Cond.selects "DigestTreesModel" ⟨"DigestTreesModel", "rowsBegin", "()V"⟩ ⟨"DigestTreesModel", "rowsBegin", "()V"⟩ ∈ wsG := in_sels (q := (⟨"DigestTreesModel", "rowsBegin", "()V"⟩, 40)) (List.mem_of_getElem? (i := 12) rfl) rfl
theorem ws_13 : Cond.selects "DigestTreesModel" ⟨"DigestTreesModel", "padKey", "(I)V"⟩ ⟨"DigestTreesModel", "padKey", "(I)V"⟩ ∈ wsG := in_sels (q := (⟨"DigestTreesModel", "padKey", "(I)V"⟩, 40)) (List.mem_of_getElem? (i := 13) rfl) rfl
theorem ws_14 : Cond.selects "DigestTreesModel" ⟨"DigestTreesModel", "put", "(I)V"⟩ ⟨"DigestTreesModel", "put", "(I)V"⟩ ∈ wsG := in_sels (q := (⟨"DigestTreesModel", "put", "(I)V"⟩, 40)) (List.mem_of_getElem? (i := 14) rfl) rfl
theorem ws_15 : Cond.selects "DigestTreesModel" ⟨"DigestTreesModel", "work", "(Z)V"⟩ ⟨"DigestTreesModel", "work", "(Z)V"⟩ ∈ wsG := in_sels (q := (⟨"DigestTreesModel", "work", "(Z)V"⟩, 40)) (List.mem_of_getElem? (i := 15) rfl) rfl
theorem ws_16 : Cond.selects "DigestTreesModel" ⟨"DigestTreesModel", "block", "(I)V"⟩ ⟨"DigestTreesModel", "block", "(I)V"⟩ ∈ wsG := in_sels (q := (⟨"DigestTreesModel", "block", "(I)V"⟩, 40)) (List.mem_of_getElem? (i := 16) rfl) rfl
theorem ws_17 : Cond.selects "DigestTreesModel" ⟨"DigestTreesModel", "byteOfH", "(I)I"⟩ ⟨"DigestTreesModel", "byteOfH", "(I)I"⟩ ∈ wsG := in_sels (q := (⟨"DigestTreesModel", "byteOfH", "(I)I"⟩, 40)) (List.mem_of_getElem? (i := 17) rfl) rfl
theorem ws_18 : Cond.selects "DigestTreesModel" ⟨"DigestTreesModel", "made", "(II)I"⟩ ⟨"DigestTreesModel", "made", "(II)I"⟩ ∈ wsG := in_sels (q := (⟨"DigestTreesModel", "made", "(II)I"⟩, 40)) (List.mem_of_getElem? (i := 18) rfl) rfl
theorem ws_19 : Cond.selects "DigestTreesModel" ⟨"DigestTreesModel", "keepDigest", "(I)I"⟩ ⟨"DigestTreesModel", "keepDigest", "(I)I"⟩ ∈ wsG := in_sels (q := (⟨"DigestTreesModel", "keepDigest", "(I)I"⟩, 40)) (List.mem_of_getElem? (i := 19) rfl) rfl
theorem ws_20 : Cond.selects "DigestTreesModel" ⟨"DigestTreesModel", "isDigest", "(I)Z"⟩ ⟨"DigestTreesModel", "isDigest", "(I)Z"⟩ ∈ wsG := in_sels (q := (⟨"DigestTreesModel", "isDigest", "(I)Z"⟩, 40)) (List.mem_of_getElem? (i := 20) rfl) rfl
theorem ws_21 : Cond.selects "DigestTreesModel" ⟨"DigestTreesModel", "layLeaf", "(III)V"⟩ ⟨"DigestTreesModel", "layLeaf", "(III)V"⟩ ∈ wsG := in_sels (q := (⟨"DigestTreesModel", "layLeaf", "(III)V"⟩, 40)) (List.mem_of_getElem? (i := 21) rfl) rfl
theorem ws_22 : Cond.selects "DigestTreesModel" ⟨"DigestTreesModel", "layLevel", "(I)V"⟩ ⟨"DigestTreesModel", "layLevel", "(I)V"⟩ ∈ wsG := in_sels (q := (⟨"DigestTreesModel", "layLevel", "(I)V"⟩, 40)) (List.mem_of_getElem? (i := 22) rfl) rfl
theorem ws_23 : Cond.selects "DigestTreesModel" ⟨"DigestTreesModel", "toLevel", "(I)V"⟩ ⟨"DigestTreesModel", "toLevel", "(I)V"⟩ ∈ wsG := in_sels (q := (⟨"DigestTreesModel", "toLevel", "(I)V"⟩, 40)) (List.mem_of_getElem? (i := 23) rfl) rfl
theorem ws_24 : Cond.selects "DigestTreesModel" ⟨"DigestTreesModel", "rise", "(I)I"⟩ ⟨"DigestTreesModel", "rise", "(I)I"⟩ ∈ wsG := in_sels (q := (⟨"DigestTreesModel", "rise", "(I)I"⟩, 40)) (List.mem_of_getElem? (i := 24) rfl) rfl
theorem ws_25 : Cond.selects "DigestTreesModel" ⟨"DigestTreesModel", "putWord", "(I)V"⟩ ⟨"DigestTreesModel", "putWord", "(I)V"⟩ ∈ wsG := in_sels (q := (⟨"DigestTreesModel", "putWord", "(I)V"⟩, 40)) (List.mem_of_getElem? (i := 25) rfl) rfl
theorem ws_26 : Cond.selects "DigestTreesModel" ⟨"DigestTreesModel", "workRoot", "(I)V"⟩ ⟨"DigestTreesModel", "workRoot", "(I)V"⟩ ∈ wsG := in_sels (q := (⟨"DigestTreesModel", "workRoot", "(I)V"⟩, 40)) (List.mem_of_getElem? (i := 26) rfl) rfl
theorem ws_27 : Cond.selects "DigestTreesModel" ⟨"DigestTreesModel", "join", "(IZ)V"⟩ ⟨"DigestTreesModel", "join", "(IZ)V"⟩ ∈ wsG := in_sels (q := (⟨"DigestTreesModel", "join", "(IZ)V"⟩, 40)) (List.mem_of_getElem? (i := 27) rfl) rfl
theorem ws_28 : Cond.selects "DigestTreesModel" ⟨"DigestTreesModel", "spotOfTape", "()I"⟩ ⟨"DigestTreesModel", "spotOfTape", "()I"⟩ ∈ wsG := in_sels (q := (⟨"DigestTreesModel", "spotOfTape", "()I"⟩, 40)) (List.mem_of_getElem? (i := 28) rfl) rfl
theorem ws_29 : Cond.selects "DigestTreesModel" ⟨"DigestTreesModel", "look", "(I)I"⟩ ⟨"DigestTreesModel", "look", "(I)I"⟩ ∈ wsG := in_sels (q := (⟨"DigestTreesModel", "look", "(I)I"⟩, 40)) (List.mem_of_getElem? (i := 29) rfl) rfl
theorem ws_30 : Cond.selects "DigestTreesModel" ⟨"DigestTreesModel", "isRow", "(I)Z"⟩ ⟨"DigestTreesModel", "isRow", "(I)Z"⟩ ∈ wsG := in_sels (q := (⟨"DigestTreesModel", "isRow", "(I)Z"⟩, 40)) (List.mem_of_getElem? (i := 30) rfl) rfl
theorem ws_31 : Cond.selects "DigestTreesModel" ⟨"DigestTreesModel", "pairs", "()I"⟩ ⟨"DigestTreesModel", "pairs", "()I"⟩ ∈ wsG := in_sels (q := (⟨"DigestTreesModel", "pairs", "()I"⟩, 40)) (List.mem_of_getElem? (i := 31) rfl) rfl
theorem inG_X0 : ∀ w ∈ u_ws RX0 TX0 2, w ∈ wsG := by
  intro w h
  obtain ⟨k, hk, rfl⟩ := List.mem_map.mp h
  have hk := List.mem_range.mp hk
  match k, hk with
  | 0, _ => exact wk_41
  | 1, _ => exact wk_43
theorem inG_X1 : ∀ w ∈ u_ws RX1 TX1 7, w ∈ wsG := by
  intro w h
  obtain ⟨k, hk, rfl⟩ := List.mem_map.mp h
  have hk := List.mem_range.mp hk
  match k, hk with
  | 0, _ => exact wk_87
  | 1, _ => exact wk_89
  | 2, _ => exact wk_91
  | 3, _ => exact wk_93
  | 4, _ => exact wk_95
  | 5, _ => exact wk_97
  | 6, _ => exact wk_99
theorem inG_X2 : ∀ w ∈ u_ws RX2 TX2 5, w ∈ wsG := by
  intro w h
  obtain ⟨k, hk, rfl⟩ := List.mem_map.mp h
  have hk := List.mem_range.mp hk
  match k, hk with
  | 0, _ => exact wk_61
  | 1, _ => exact wk_63
  | 2, _ => exact wk_65
  | 3, _ => exact wk_67
  | 4, _ => exact wk_69
theorem inG_X3 : ∀ w ∈ u_ws RX3 TX3 2, w ∈ wsG := by
  intro w h
  obtain ⟨k, hk, rfl⟩ := List.mem_map.mp h
  have hk := List.mem_range.mp hk
  match k, hk with
  | 0, _ => exact wk_149
  | 1, _ => exact wk_151
theorem inG_X4 : ∀ w ∈ u_ws RX4 TX4 6, w ∈ wsG := by
  intro w h
  obtain ⟨k, hk, rfl⟩ := List.mem_map.mp h
  have hk := List.mem_range.mp hk
  match k, hk with
  | 0, _ => exact wk_123
  | 1, _ => exact wk_125
  | 2, _ => exact wk_127
  | 3, _ => exact wk_129
  | 4, _ => exact wk_131
  | 5, _ => exact wk_133
theorem inG_X5 : ∀ w ∈ u_ws RX5 TX5 6, w ∈ wsG := by
  intro w h
  obtain ⟨k, hk, rfl⟩ := List.mem_map.mp h
  have hk := List.mem_range.mp hk
  match k, hk with
  | 0, _ => exact wk_171
  | 1, _ => exact wk_173
  | 2, _ => exact wk_175
  | 3, _ => exact wk_177
  | 4, _ => exact wk_179
  | 5, _ => exact wk_181
theorem inG_X6 : ∀ w ∈ u_ws RX6 TX6 3, w ∈ wsG := by
  intro w h
  obtain ⟨k, hk, rfl⟩ := List.mem_map.mp h
  have hk := List.mem_range.mp hk
  match k, hk with
  | 0, _ => exact wk_198
  | 1, _ => exact wk_200
  | 2, _ => exact wk_202
theorem inG_X7 : ∀ w ∈ u_ws RX7 TX7 10, w ∈ wsG := by
  intro w h
  obtain ⟨k, hk, rfl⟩ := List.mem_map.mp h
  have hk := List.mem_range.mp hk
  match k, hk with
  | 0, _ => exact wk_215
  | 1, _ => exact wk_217
  | 2, _ => exact wk_219
  | 3, _ => exact wk_221
  | 4, _ => exact wk_223
  | 5, _ => exact wk_225
  | 6, _ => exact wk_227
  | 7, _ => exact wk_229
  | 8, _ => exact wk_231
  | 9, _ => exact wk_233
theorem inG_X8 : ∀ w ∈ u_ws RX8 TX8 40, w ∈ wsG := by
  intro w h
  obtain ⟨k, hk, rfl⟩ := List.mem_map.mp h
  have hk := List.mem_range.mp hk
  match k, hk with
  | 0, _ => exact wk_707
  | 1, _ => exact wk_709
  | 2, _ => exact wk_711
  | 3, _ => exact wk_713
  | 4, _ => exact wk_715
  | 5, _ => exact wk_717
  | 6, _ => exact wk_719
  | 7, _ => exact wk_721
  | 8, _ => exact wk_723
  | 9, _ => exact wk_725
  | 10, _ => exact wk_727
  | 11, _ => exact wk_729
  | 12, _ => exact wk_731
  | 13, _ => exact wk_733
  | 14, _ => exact wk_735
  | 15, _ => exact wk_737
  | 16, _ => exact wk_739
  | 17, _ => exact wk_741
  | 18, _ => exact wk_743
  | 19, _ => exact wk_745
  | 20, _ => exact wk_747
  | 21, _ => exact wk_749
  | 22, _ => exact wk_751
  | 23, _ => exact wk_753
  | 24, _ => exact wk_755
  | 25, _ => exact wk_757
  | 26, _ => exact wk_759
  | 27, _ => exact wk_761
  | 28, _ => exact wk_763
  | 29, _ => exact wk_765
  | 30, _ => exact wk_767
  | 31, _ => exact wk_769
  | 32, _ => exact wk_771
  | 33, _ => exact wk_773
  | 34, _ => exact wk_775
  | 35, _ => exact wk_777
  | 36, _ => exact wk_779
  | 37, _ => exact wk_781
  | 38, _ => exact wk_783
  | 39, _ => exact wk_785
  | k + 40, hk => exact absurd hk (by omega)
