theorem kt0 : (Cond.initialized "BlockdutyLaw") ∈ gtbl := gtbl_tab (i := 0) rfl rfl
theorem kt1 : (Cond.initialized "Blockduty") ∈ gtbl := gtbl_tab (i := 1) rfl rfl
theorem kt2 : (Cond.initialized "java/util/AbstractCollection") ∈ gtbl := gtbl_tab (i := 2) rfl rfl
theorem kt3 : (Cond.initialized "java/util/AbstractList") ∈ gtbl := gtbl_tab (i := 3) rfl rfl
theorem kt4 : (Cond.initialized "java/util/ArrayList") ∈ gtbl := gtbl_tab (i := 4) rfl rfl
theorem kt5 : (Cond.initialized "Blockduty$WorkRules") ∈ gtbl := gtbl_tab (i := 5) rfl rfl
theorem kt6 : (Cond.initialized "Blockduty$Row") ∈ gtbl := gtbl_tab (i := 6) rfl rfl
theorem kt7 : (Cond.initialized "Blockduty$Followers") ∈ gtbl := gtbl_tab (i := 7) rfl rfl
theorem kt8 : (Cond.initialized "Blockduty$Place") ∈ gtbl := gtbl_tab (i := 8) rfl rfl
theorem kt9 : (Cond.initialized "jdk/internal/util/ArraysSupport") ∈ gtbl := gtbl_tab (i := 9) rfl rfl
theorem kt10 : (Cond.initialized "java/lang/Math") ∈ gtbl := gtbl_tab (i := 10) rfl rfl
theorem kt11 : (Cond.initialized "java/util/Arrays") ∈ gtbl := gtbl_tab (i := 11) rfl rfl
theorem kt12 : (Cond.initialized "java/lang/System") ∈ gtbl := gtbl_tab (i := 12) rfl rfl
theorem kt13 : (Cond.initialized "Blockduty$Line") ∈ gtbl := gtbl_tab (i := 13) rfl rfl
theorem kt14 : (Cond.initialized "java/util/Objects") ∈ gtbl := gtbl_tab (i := 14) rfl rfl
theorem kt15 : (Cond.initialized "jdk/internal/util/Preconditions") ∈ gtbl := gtbl_tab (i := 15) rfl rfl
theorem kt22 : (Cond.initialized "Blockduty$Trip") ∈ gtbl := gtbl_tab (i := 22) rfl rfl
theorem kt23 : (Cond.initialized "Blockduty$Driver") ∈ gtbl := gtbl_tab (i := 23) rfl rfl
theorem kt24 : (Cond.initialized "Blockduty$Block") ∈ gtbl := gtbl_tab (i := 24) rfl rfl
theorem kt25 : (Cond.initialized "Blockduty$Piece") ∈ gtbl := gtbl_tab (i := 25) rfl rfl
theorem kt30 : (Cond.code ({ cls := "Blockduty", name := "<init>", desc := "()V" } : Jvm.MethodName) prog_1_method_1_code 2 (Option.none : Option Jvm.ClassFile.FieldType)) ∈ gtbl := gtbl_tab (i := 30) rfl rfl
theorem kt31 : (Cond.methodLink "Blockduty" 1 ({ cls := "java/lang/Object", name := "<init>", desc := "()V" } : Jvm.MethodName)) ∈ gtbl := gtbl_tab (i := 31) rfl rfl
theorem kt32 : (Cond.instanceMethod ({ cls := "java/lang/Object", name := "<init>", desc := "()V" } : Jvm.MethodName)) ∈ gtbl := gtbl_tab (i := 32) rfl rfl
theorem kt33 : (Cond.code ({ cls := "java/lang/Object", name := "<init>", desc := "()V" } : Jvm.MethodName) object_method_1_code 1 (Option.none : Option Jvm.ClassFile.FieldType)) ∈ gtbl := gtbl_tab (i := 33) rfl rfl
theorem kt34 : (Cond.classLink "Blockduty" 7 "java/util/ArrayList") ∈ gtbl := gtbl_tab (i := 34) rfl rfl
theorem kt35 : (Cond.instantiable "java/util/ArrayList" 3) ∈ gtbl := gtbl_tab (i := 35) rfl rfl
theorem kt36 : (Cond.methodLink "Blockduty" 9 ({ cls := "java/util/ArrayList", name := "<init>", desc := "()V" } : Jvm.MethodName)) ∈ gtbl := gtbl_tab (i := 36) rfl rfl
theorem kt37 : (Cond.instanceMethod ({ cls := "java/util/ArrayList", name := "<init>", desc := "()V" } : Jvm.MethodName)) ∈ gtbl := gtbl_tab (i := 37) rfl rfl
theorem kt38 : (Cond.code ({ cls := "java/util/ArrayList", name := "<init>", desc := "()V" } : Jvm.MethodName) prog_30_method_2_code 1 (Option.none : Option Jvm.ClassFile.FieldType)) ∈ gtbl := gtbl_tab (i := 38) rfl rfl
theorem kt39 : (Cond.methodLink "java/util/ArrayList" 1 ({ cls := "java/util/AbstractList", name := "<init>", desc := "()V" } : Jvm.MethodName)) ∈ gtbl := gtbl_tab (i := 39) rfl rfl
theorem kt40 : (Cond.instanceMethod ({ cls := "java/util/AbstractList", name := "<init>", desc := "()V" } : Jvm.MethodName)) ∈ gtbl := gtbl_tab (i := 40) rfl rfl
theorem kt41 : (Cond.code ({ cls := "java/util/AbstractList", name := "<init>", desc := "()V" } : Jvm.MethodName) prog_29_method_1_code 1 (Option.none : Option Jvm.ClassFile.FieldType)) ∈ gtbl := gtbl_tab (i := 41) rfl rfl
theorem kt42 : (Cond.methodLink "java/util/AbstractList" 1 ({ cls := "java/util/AbstractCollection", name := "<init>", desc := "()V" } : Jvm.MethodName)) ∈ gtbl := gtbl_tab (i := 42) rfl rfl
theorem kt43 : (Cond.instanceMethod ({ cls := "java/util/AbstractCollection", name := "<init>", desc := "()V" } : Jvm.MethodName)) ∈ gtbl := gtbl_tab (i := 43) rfl rfl
theorem kt44 : (Cond.code ({ cls := "java/util/AbstractCollection", name := "<init>", desc := "()V" } : Jvm.MethodName) prog_28_method_1_code 1 (Option.none : Option Jvm.ClassFile.FieldType)) ∈ gtbl := gtbl_tab (i := 44) rfl rfl
theorem kt45 : (Cond.methodLink "java/util/AbstractCollection" 1 ({ cls := "java/lang/Object", name := "<init>", desc := "()V" } : Jvm.MethodName)) ∈ gtbl := gtbl_tab (i := 45) rfl rfl
theorem kt46 : (Cond.fieldLink "java/util/ArrayList" 39 "java/util/ArrayList" "DEFAULTCAPACITY_EMPTY_ELEMENTDATA" "[Ljava/lang/Object;") ∈ gtbl := gtbl_tab (i := 46) rfl rfl
theorem kt48 : (Cond.fieldLink "java/util/ArrayList" 9 "java/util/ArrayList" "elementData" "[Ljava/lang/Object;") ∈ gtbl := gtbl_tab (i := 48) rfl rfl
theorem kt49 : (Cond.fieldLink "java/util/ArrayList" 48 "java/util/ArrayList" "size" "I") ∈ gtbl := gtbl_tab (i := 49) rfl rfl
theorem kt50 : (Cond.fieldLink "java/util/AbstractList" 7 "java/util/AbstractList" "modCount" "I") ∈ gtbl := gtbl_tab (i := 50) rfl rfl
theorem kt51 : (Cond.fieldLink "java/util/ArrayList" 63 "java/util/ArrayList" "modCount" "I") ∈ gtbl := gtbl_tab (i := 51) rfl rfl
theorem kt52 : (Cond.sameField "java/util/ArrayList" "java/util/AbstractList" "modCount" "I") ∈ gtbl := gtbl_tab (i := 52) rfl rfl
theorem kt53 : (Cond.lays "java/util/ArrayList" "java/util/ArrayList" "elementData" "[Ljava/lang/Object;") ∈ gtbl := gtbl_tab (i := 53) rfl rfl
theorem kt55 : (Cond.lays "java/util/ArrayList" "java/util/ArrayList" "size" "I") ∈ gtbl := gtbl_tab (i := 55) rfl rfl
theorem kt57 : (Cond.lays "java/util/ArrayList" "java/util/AbstractList" "modCount" "I") ∈ gtbl := gtbl_tab (i := 57) rfl rfl
theorem kt60 : (Cond.classLink "Blockduty" 31 "Blockduty$WorkRules") ∈ gtbl := gtbl_tab (i := 60) rfl rfl
theorem kt61 : (Cond.instantiable "Blockduty$WorkRules" 2) ∈ gtbl := gtbl_tab (i := 61) rfl rfl
theorem kt63 : (Cond.instanceMethod ({ cls := "Blockduty$WorkRules", name := "<init>", desc := "()V" } : Jvm.MethodName)) ∈ gtbl := gtbl_tab (i := 63) rfl rfl
theorem kt64 : (Cond.code ({ cls := "Blockduty$WorkRules", name := "<init>", desc := "()V" } : Jvm.MethodName) prog_10_method_1_code 1 (Option.none : Option Jvm.ClassFile.FieldType)) ∈ gtbl := gtbl_tab (i := 64) rfl rfl
theorem kt65 : (Cond.methodLink "Blockduty$WorkRules" 3 ({ cls := "java/lang/Object", name := "<init>", desc := "()V" } : Jvm.MethodName)) ∈ gtbl := gtbl_tab (i := 65) rfl rfl
theorem kt66 : (Cond.fieldLink "Blockduty$WorkRules" 9 "Blockduty$WorkRules" "spread" "I") ∈ gtbl := gtbl_tab (i := 66) rfl rfl
theorem kt67 : (Cond.fieldLink "Blockduty$WorkRules" 15 "Blockduty$WorkRules" "drive" "I") ∈ gtbl := gtbl_tab (i := 67) rfl rfl
theorem kt68 : (Cond.lays "Blockduty$WorkRules" "Blockduty$WorkRules" "spread" "I") ∈ gtbl := gtbl_tab (i := 68) rfl rfl
theorem kt70 : (Cond.lays "Blockduty$WorkRules" "Blockduty$WorkRules" "drive" "I") ∈ gtbl := gtbl_tab (i := 70) rfl rfl
theorem kt73 : (Cond.classLink "Blockduty" 42 "Blockduty$Row") ∈ gtbl := gtbl_tab (i := 73) rfl rfl
theorem kt74 : (Cond.instantiable "Blockduty$Row" 1) ∈ gtbl := gtbl_tab (i := 74) rfl rfl
theorem kt76 : (Cond.instanceMethod ({ cls := "Blockduty$Row", name := "<init>", desc := "()V" } : Jvm.MethodName)) ∈ gtbl := gtbl_tab (i := 76) rfl rfl
theorem kt77 : (Cond.code ({ cls := "Blockduty$Row", name := "<init>", desc := "()V" } : Jvm.MethodName) prog_8_method_1_code 1 (Option.none : Option Jvm.ClassFile.FieldType)) ∈ gtbl := gtbl_tab (i := 77) rfl rfl
theorem kt78 : (Cond.methodLink "Blockduty$Row" 3 ({ cls := "java/lang/Object", name := "<init>", desc := "()V" } : Jvm.MethodName)) ∈ gtbl := gtbl_tab (i := 78) rfl rfl
theorem kt79 : (Cond.classLink "Blockduty$Row" 9 "java/util/ArrayList") ∈ gtbl := gtbl_tab (i := 79) rfl rfl
theorem kt80 : (Cond.methodLink "Blockduty$Row" 11 ({ cls := "java/util/ArrayList", name := "<init>", desc := "()V" } : Jvm.MethodName)) ∈ gtbl := gtbl_tab (i := 80) rfl rfl
theorem kt81 : (Cond.fieldLink "Blockduty$Row" 12 "Blockduty$Row" "trips" "Ljava/util/ArrayList;") ∈ gtbl := gtbl_tab (i := 81) rfl rfl
theorem kt82 : (Cond.fieldLink "Blockduty$Block" 48 "Blockduty$Row" "trips" "Ljava/util/ArrayList;") ∈ gtbl := gtbl_tab (i := 82) rfl rfl
theorem kt83 : (Cond.fieldLink "Blockduty$WorkRules" 32 "Blockduty$Row" "trips" "Ljava/util/ArrayList;") ∈ gtbl := gtbl_tab (i := 83) rfl rfl
theorem kt84 : (Cond.fieldLink "Blockduty$Piece" 58 "Blockduty$Row" "trips" "Ljava/util/ArrayList;") ∈ gtbl := gtbl_tab (i := 84) rfl rfl
theorem kt85 : (Cond.fieldLink "Blockduty" 483 "Blockduty$Row" "trips" "Ljava/util/ArrayList;") ∈ gtbl := gtbl_tab (i := 85) rfl rfl
theorem kt86 : (Cond.laysFinal "Blockduty$Row" "Blockduty$Row" "trips" "Ljava/util/ArrayList;") ∈ gtbl := gtbl_tab (i := 86) rfl rfl
theorem kt89 : (Cond.classLink "Blockduty" 56 "Blockduty$Followers") ∈ gtbl := gtbl_tab (i := 89) rfl rfl
theorem kt90 : (Cond.instantiable "Blockduty$Followers" 2) ∈ gtbl := gtbl_tab (i := 90) rfl rfl
theorem kt92 : (Cond.instanceMethod ({ cls := "Blockduty$Followers", name := "<init>", desc := "()V" } : Jvm.MethodName)) ∈ gtbl := gtbl_tab (i := 92) rfl rfl
theorem kt93 : (Cond.code ({ cls := "Blockduty$Followers", name := "<init>", desc := "()V" } : Jvm.MethodName) prog_4_method_1_code 1 (Option.none : Option Jvm.ClassFile.FieldType)) ∈ gtbl := gtbl_tab (i := 93) rfl rfl
theorem kt94 : (Cond.methodLink "Blockduty$Followers" 3 ({ cls := "java/lang/Object", name := "<init>", desc := "()V" } : Jvm.MethodName)) ∈ gtbl := gtbl_tab (i := 94) rfl rfl
theorem kt95 : (Cond.fieldLink "Blockduty$Followers" 9 "Blockduty$Followers" "aheadOf" "[I") ∈ gtbl := gtbl_tab (i := 95) rfl rfl
theorem kt96 : (Cond.fieldLink "Blockduty$Followers" 15 "Blockduty$Followers" "isTried" "[Z") ∈ gtbl := gtbl_tab (i := 96) rfl rfl
theorem kt97 : (Cond.laysFinal "Blockduty$Followers" "Blockduty$Followers" "aheadOf" "[I") ∈ gtbl := gtbl_tab (i := 97) rfl rfl
theorem kt99 : (Cond.laysFinal "Blockduty$Followers" "Blockduty$Followers" "isTried" "[Z") ∈ gtbl := gtbl_tab (i := 99) rfl rfl
theorem kt102 : (Cond.arrayClass Jvm.ClassFile.FieldType.int) ∈ gtbl := gtbl_tab (i := 102) rfl rfl
theorem kt103 : (Cond.arrayClass Jvm.ClassFile.FieldType.boolean) ∈ gtbl := gtbl_tab (i := 103) rfl rfl
theorem kt104 : (Cond.classLink "Blockduty" 63 "Blockduty$Place") ∈ gtbl := gtbl_tab (i := 104) rfl rfl
theorem kt105 : (Cond.instantiable "Blockduty$Place" 4) ∈ gtbl := gtbl_tab (i := 105) rfl rfl
theorem kt106 : (Cond.methodLink "Blockduty" 65 ({ cls := "Blockduty$Place", name := "<init>", desc := "(I)V" } : Jvm.MethodName)) ∈ gtbl := gtbl_tab (i := 106) rfl rfl
theorem kt107 : (Cond.instanceMethod ({ cls := "Blockduty$Place", name := "<init>", desc := "(I)V" } : Jvm.MethodName)) ∈ gtbl := gtbl_tab (i := 107) rfl rfl
theorem kt108 : (Cond.code ({ cls := "Blockduty$Place", name := "<init>", desc := "(I)V" } : Jvm.MethodName) prog_7_method_1_code 2 (Option.none : Option Jvm.ClassFile.FieldType)) ∈ gtbl := gtbl_tab (i := 108) rfl rfl
theorem kt109 : (Cond.methodLink "Blockduty$Place" 3 ({ cls := "java/lang/Object", name := "<init>", desc := "()V" } : Jvm.MethodName)) ∈ gtbl := gtbl_tab (i := 109) rfl rfl
theorem kt110 : (Cond.fieldLink "Blockduty$Place" 9 "Blockduty$Place" "number" "I") ∈ gtbl := gtbl_tab (i := 110) rfl rfl
theorem kt111 : (Cond.fieldLink "Blockduty" 322 "Blockduty$Place" "number" "I") ∈ gtbl := gtbl_tab (i := 111) rfl rfl
theorem kt112 : (Cond.fieldLink "Blockduty$Place" 19 "Blockduty$Place" "x" "I") ∈ gtbl := gtbl_tab (i := 112) rfl rfl
theorem kt113 : (Cond.fieldLink "Blockduty" 108 "Blockduty$Place" "x" "I") ∈ gtbl := gtbl_tab (i := 113) rfl rfl
theorem kt114 : (Cond.fieldLink "Blockduty" 111 "Blockduty$Place" "power" "I") ∈ gtbl := gtbl_tab (i := 114) rfl rfl
theorem kt115 : (Cond.fieldLink "Blockduty$Row" 74 "Blockduty$Place" "power" "I") ∈ gtbl := gtbl_tab (i := 115) rfl rfl
theorem kt116 : (Cond.fieldLink "Blockduty$Place" 15 "Blockduty$Place" "isRelief" "Z") ∈ gtbl := gtbl_tab (i := 116) rfl rfl
theorem kt117 : (Cond.fieldLink "Blockduty" 114 "Blockduty$Place" "isRelief" "Z") ∈ gtbl := gtbl_tab (i := 117) rfl rfl
theorem kt118 : (Cond.fieldLink "Blockduty$WorkRules" 63 "Blockduty$Place" "isRelief" "Z") ∈ gtbl := gtbl_tab (i := 118) rfl rfl
theorem kt119 : (Cond.laysFinal "Blockduty$Place" "Blockduty$Place" "number" "I") ∈ gtbl := gtbl_tab (i := 119) rfl rfl
theorem kt121 : (Cond.lays "Blockduty$Place" "Blockduty$Place" "x" "I") ∈ gtbl := gtbl_tab (i := 121) rfl rfl
theorem kt123 : (Cond.lays "Blockduty$Place" "Blockduty$Place" "power" "I") ∈ gtbl := gtbl_tab (i := 123) rfl rfl
theorem kt125 : (Cond.lays "Blockduty$Place" "Blockduty$Place" "isRelief" "Z") ∈ gtbl := gtbl_tab (i := 125) rfl rfl
theorem kt128 : (Cond.methodLink "Blockduty" 72 ({ cls := "java/util/ArrayList", name := "add", desc := "(Ljava/lang/Object;)Z" } : Jvm.MethodName)) ∈ gtbl := gtbl_tab (i := 128) rfl rfl
theorem kt129 : (Cond.instanceMethod ({ cls := "java/util/ArrayList", name := "add", desc := "(Ljava/lang/Object;)Z" } : Jvm.MethodName)) ∈ gtbl := gtbl_tab (i := 129) rfl rfl
theorem kt130 : (Cond.selects "java/util/ArrayList" ({ cls := "java/util/ArrayList", name := "add", desc := "(Ljava/lang/Object;)Z" } : Jvm.MethodName) ({ cls := "java/util/ArrayList", name := "add", desc := "(Ljava/lang/Object;)Z" } : Jvm.MethodName)) ∈ gtbl := gtbl_tab (i := 130) rfl rfl
theorem kt131 : (Cond.code ({ cls := "java/util/ArrayList", name := "add", desc := "(Ljava/lang/Object;)Z" } : Jvm.MethodName) prog_30_method_25_code 2 (Option.some Jvm.ClassFile.FieldType.boolean)) ∈ gtbl := gtbl_tab (i := 131) rfl rfl
theorem kt132 : (Cond.methodLink "java/util/ArrayList" 131 ({ cls := "java/util/ArrayList", name := "add", desc := "(Ljava/lang/Object;[Ljava/lang/Object;I)V" } : Jvm.MethodName)) ∈ gtbl := gtbl_tab (i := 132) rfl rfl
theorem kt134 : (Cond.instanceMethod ({ cls := "java/util/ArrayList", name := "add", desc := "(Ljava/lang/Object;[Ljava/lang/Object;I)V" } : Jvm.MethodName)) ∈ gtbl := gtbl_tab (i := 134) rfl rfl
theorem kt135 : (Cond.code ({ cls := "java/util/ArrayList", name := "add", desc := "(Ljava/lang/Object;[Ljava/lang/Object;I)V" } : Jvm.MethodName) prog_30_method_24_code 4 (Option.none : Option Jvm.ClassFile.FieldType)) ∈ gtbl := gtbl_tab (i := 135) rfl rfl
theorem kt136 : (Cond.methodLink "java/util/ArrayList" 129 ({ cls := "java/util/ArrayList", name := "grow", desc := "()[Ljava/lang/Object;" } : Jvm.MethodName)) ∈ gtbl := gtbl_tab (i := 136) rfl rfl
theorem kt138 : (Cond.instanceMethod ({ cls := "java/util/ArrayList", name := "grow", desc := "()[Ljava/lang/Object;" } : Jvm.MethodName)) ∈ gtbl := gtbl_tab (i := 138) rfl rfl
theorem kt139 : (Cond.code ({ cls := "java/util/ArrayList", name := "grow", desc := "()[Ljava/lang/Object;" } : Jvm.MethodName) prog_30_method_7_code 1 (Option.some (Jvm.ClassFile.FieldType.array (Jvm.ClassFile.FieldType.object "java/lang/Object")))) ∈ gtbl := gtbl_tab (i := 139) rfl rfl
theorem kt140 : (Cond.methodLink "java/util/ArrayList" 69 ({ cls := "java/util/ArrayList", name := "grow", desc := "(I)[Ljava/lang/Object;" } : Jvm.MethodName)) ∈ gtbl := gtbl_tab (i := 140) rfl rfl
theorem kt142 : (Cond.instanceMethod ({ cls := "java/util/ArrayList", name := "grow", desc := "(I)[Ljava/lang/Object;" } : Jvm.MethodName)) ∈ gtbl := gtbl_tab (i := 142) rfl rfl
theorem kt143 : (Cond.code ({ cls := "java/util/ArrayList", name := "grow", desc := "(I)[Ljava/lang/Object;" } : Jvm.MethodName) prog_30_method_6_code 4 (Option.some (Jvm.ClassFile.FieldType.array (Jvm.ClassFile.FieldType.object "java/lang/Object")))) ∈ gtbl := gtbl_tab (i := 143) rfl rfl
theorem kt144 : (Cond.methodLink "java/util/ArrayList" 73 ({ cls := "jdk/internal/util/ArraysSupport", name := "newLength", desc := "(III)I" } : Jvm.MethodName)) ∈ gtbl := gtbl_tab (i := 144) rfl rfl
theorem kt145 : (Cond.static ({ cls := "jdk/internal/util/ArraysSupport", name := "newLength", desc := "(III)I" } : Jvm.MethodName)) ∈ gtbl := gtbl_tab (i := 145) rfl rfl
theorem kt146 : (Cond.code ({ cls := "jdk/internal/util/ArraysSupport", name := "newLength", desc := "(III)I" } : Jvm.MethodName) prog_37_method_27_code 4 (Option.some Jvm.ClassFile.FieldType.int)) ∈ gtbl := gtbl_tab (i := 146) rfl rfl
theorem kt147 : (Cond.methodLink "jdk/internal/util/ArraysSupport" 194 ({ cls := "java/lang/Math", name := "max", desc := "(II)I" } : Jvm.MethodName)) ∈ gtbl := gtbl_tab (i := 147) rfl rfl
theorem kt148 : (Cond.static ({ cls := "java/lang/Math", name := "max", desc := "(II)I" } : Jvm.MethodName)) ∈ gtbl := gtbl_tab (i := 148) rfl rfl
theorem kt149 : (Cond.code ({ cls := "java/lang/Math", name := "max", desc := "(II)I" } : Jvm.MethodName) prog_23_method_65_code 2 (Option.some Jvm.ClassFile.FieldType.int)) ∈ gtbl := gtbl_tab (i := 149) rfl rfl
theorem kt150 : (Cond.constant "jdk/internal/util/ArraysSupport" 200 (2147483639 : Int32)) ∈ gtbl := gtbl_tab (i := 150) rfl rfl
theorem kt154 : (Cond.methodLink "java/util/ArrayList" 66 ({ cls := "java/util/Arrays", name := "copyOf", desc := "([Ljava/lang/Object;I)[Ljava/lang/Object;" } : Jvm.MethodName)) ∈ gtbl := gtbl_tab (i := 154) rfl rfl
theorem kt155 : (Cond.static ({ cls := "java/util/Arrays", name := "copyOf", desc := "([Ljava/lang/Object;I)[Ljava/lang/Object;" } : Jvm.MethodName)) ∈ gtbl := gtbl_tab (i := 155) rfl rfl
theorem kt156 : (Cond.code ({ cls := "java/util/Arrays", name := "copyOf", desc := "([Ljava/lang/Object;I)[Ljava/lang/Object;" } : Jvm.MethodName) prog_31_method_119_code 2 (Option.some (Jvm.ClassFile.FieldType.array (Jvm.ClassFile.FieldType.object "java/lang/Object")))) ∈ gtbl := gtbl_tab (i := 156) rfl rfl
theorem kt157 : (Cond.methodLink "java/util/Arrays" 86 ({ cls := "java/lang/Object", name := "getClass", desc := "()Ljava/lang/Class;" } : Jvm.MethodName)) ∈ gtbl := gtbl_tab (i := 157) rfl rfl
theorem kt158 : (Cond.instanceMethod ({ cls := "java/lang/Object", name := "getClass", desc := "()Ljava/lang/Class;" } : Jvm.MethodName)) ∈ gtbl := gtbl_tab (i := 158) rfl rfl
theorem kt174 : (Cond.native ({ cls := "java/lang/Object", name := "getClass", desc := "()Ljava/lang/Class;" } : Jvm.MethodName)) ∈ gtbl := gtbl_tab (i := 174) rfl rfl
theorem kt175 : (Cond.methodLink "java/util/Arrays" 300 ({ cls := "java/util/Arrays", name := "copyOf", desc := "([Ljava/lang/Object;ILjava/lang/Class;)[Ljava/lang/Object;" } : Jvm.MethodName)) ∈ gtbl := gtbl_tab (i := 175) rfl rfl
theorem kt176 : (Cond.static ({ cls := "java/util/Arrays", name := "copyOf", desc := "([Ljava/lang/Object;ILjava/lang/Class;)[Ljava/lang/Object;" } : Jvm.MethodName)) ∈ gtbl := gtbl_tab (i := 176) rfl rfl
theorem kt177 : (Cond.code ({ cls := "java/util/Arrays", name := "copyOf", desc := "([Ljava/lang/Object;ILjava/lang/Class;)[Ljava/lang/Object;" } : Jvm.MethodName) prog_31_method_120_code 4 (Option.some (Jvm.ClassFile.FieldType.array (Jvm.ClassFile.FieldType.object "java/lang/Object")))) ∈ gtbl := gtbl_tab (i := 177) rfl rfl
theorem kt178 : (Cond.classLink "java/util/Arrays" 110 "[Ljava/lang/Object;") ∈ gtbl := gtbl_tab (i := 178) rfl rfl
theorem kt180 : (Cond.classLink "java/util/Arrays" 2 "java/lang/Object") ∈ gtbl := gtbl_tab (i := 180) rfl rfl
theorem kt181 : (Cond.methodLink "java/util/Arrays" 304 ({ cls := "java/lang/Math", name := "min", desc := "(II)I" } : Jvm.MethodName)) ∈ gtbl := gtbl_tab (i := 181) rfl rfl
theorem kt182 : (Cond.static ({ cls := "java/lang/Math", name := "min", desc := "(II)I" } : Jvm.MethodName)) ∈ gtbl := gtbl_tab (i := 182) rfl rfl
theorem kt183 : (Cond.code ({ cls := "java/lang/Math", name := "min", desc := "(II)I" } : Jvm.MethodName) prog_23_method_69_code 2 (Option.some Jvm.ClassFile.FieldType.int)) ∈ gtbl := gtbl_tab (i := 183) rfl rfl
theorem kt184 : (Cond.methodLink "java/util/Arrays" 150 ({ cls := "java/lang/System", name := "arraycopy", desc := "(Ljava/lang/Object;ILjava/lang/Object;II)V" } : Jvm.MethodName)) ∈ gtbl := gtbl_tab (i := 184) rfl rfl
theorem kt185 : (Cond.static ({ cls := "java/lang/System", name := "arraycopy", desc := "(Ljava/lang/Object;ILjava/lang/Object;II)V" } : Jvm.MethodName)) ∈ gtbl := gtbl_tab (i := 185) rfl rfl
theorem kt186 : (Cond.native ({ cls := "java/lang/System", name := "arraycopy", desc := "(Ljava/lang/Object;ILjava/lang/Object;II)V" } : Jvm.MethodName)) ∈ gtbl := gtbl_tab (i := 186) rfl rfl
theorem kt187 : (Cond.methodLink "java/util/ArrayList" 79 ({ cls := "java/lang/Math", name := "max", desc := "(II)I" } : Jvm.MethodName)) ∈ gtbl := gtbl_tab (i := 187) rfl rfl
theorem kt188 : (Cond.classLink "java/util/ArrayList" 7 "java/lang/Object") ∈ gtbl := gtbl_tab (i := 188) rfl rfl
theorem kt189 : (Cond.classLink "Blockduty" 76 "Blockduty$Line") ∈ gtbl := gtbl_tab (i := 189) rfl rfl
theorem kt190 : (Cond.instantiable "Blockduty$Line" 3) ∈ gtbl := gtbl_tab (i := 190) rfl rfl
theorem kt191 : (Cond.methodLink "Blockduty" 78 ({ cls := "Blockduty$Line", name := "<init>", desc := "(I)V" } : Jvm.MethodName)) ∈ gtbl := gtbl_tab (i := 191) rfl rfl
theorem kt192 : (Cond.instanceMethod ({ cls := "Blockduty$Line", name := "<init>", desc := "(I)V" } : Jvm.MethodName)) ∈ gtbl := gtbl_tab (i := 192) rfl rfl
theorem kt193 : (Cond.code ({ cls := "Blockduty$Line", name := "<init>", desc := "(I)V" } : Jvm.MethodName) prog_5_method_1_code 2 (Option.none : Option Jvm.ClassFile.FieldType)) ∈ gtbl := gtbl_tab (i := 193) rfl rfl
theorem kt194 : (Cond.methodLink "Blockduty$Line" 3 ({ cls := "java/lang/Object", name := "<init>", desc := "()V" } : Jvm.MethodName)) ∈ gtbl := gtbl_tab (i := 194) rfl rfl
theorem kt195 : (Cond.fieldLink "Blockduty$Line" 15 "Blockduty$Line" "number" "I") ∈ gtbl := gtbl_tab (i := 195) rfl rfl
theorem kt196 : (Cond.fieldLink "Blockduty" 318 "Blockduty$Line" "number" "I") ∈ gtbl := gtbl_tab (i := 196) rfl rfl
theorem kt197 : (Cond.fieldLink "Blockduty$Line" 9 "Blockduty$Line" "fee" "I") ∈ gtbl := gtbl_tab (i := 197) rfl rfl
theorem kt198 : (Cond.fieldLink "Blockduty" 126 "Blockduty$Line" "fee" "I") ∈ gtbl := gtbl_tab (i := 198) rfl rfl
theorem kt199 : (Cond.fieldLink "Blockduty$Trip" 84 "Blockduty$Line" "fee" "I") ∈ gtbl := gtbl_tab (i := 199) rfl rfl
theorem kt200 : (Cond.fieldLink "Blockduty" 129 "Blockduty$Line" "isClosed" "Z") ∈ gtbl := gtbl_tab (i := 200) rfl rfl
theorem kt201 : (Cond.fieldLink "Blockduty$Trip" 62 "Blockduty$Line" "isClosed" "Z") ∈ gtbl := gtbl_tab (i := 201) rfl rfl
theorem kt202 : (Cond.laysFinal "Blockduty$Line" "Blockduty$Line" "number" "I") ∈ gtbl := gtbl_tab (i := 202) rfl rfl
theorem kt204 : (Cond.lays "Blockduty$Line" "Blockduty$Line" "fee" "I") ∈ gtbl := gtbl_tab (i := 204) rfl rfl
theorem kt206 : (Cond.lays "Blockduty$Line" "Blockduty$Line" "isClosed" "Z") ∈ gtbl := gtbl_tab (i := 206) rfl rfl
theorem kt209 : (Cond.fieldLink "Blockduty" 10 "Blockduty" "places" "Ljava/util/ArrayList;") ∈ gtbl := gtbl_tab (i := 209) rfl rfl
theorem kt210 : (Cond.fieldLink "Blockduty" 16 "Blockduty" "lines" "Ljava/util/ArrayList;") ∈ gtbl := gtbl_tab (i := 210) rfl rfl
theorem kt211 : (Cond.fieldLink "Blockduty" 19 "Blockduty" "trips" "Ljava/util/ArrayList;") ∈ gtbl := gtbl_tab (i := 211) rfl rfl
theorem kt212 : (Cond.fieldLink "Blockduty" 22 "Blockduty" "tripsByStart" "Ljava/util/ArrayList;") ∈ gtbl := gtbl_tab (i := 212) rfl rfl
theorem kt213 : (Cond.fieldLink "Blockduty" 25 "Blockduty" "blocks" "Ljava/util/ArrayList;") ∈ gtbl := gtbl_tab (i := 213) rfl rfl
theorem kt214 : (Cond.fieldLink "Blockduty" 28 "Blockduty" "drivers" "Ljava/util/ArrayList;") ∈ gtbl := gtbl_tab (i := 214) rfl rfl
theorem kt215 : (Cond.fieldLink "Blockduty" 68 "Blockduty" "depot" "LBlockduty$Place;") ∈ gtbl := gtbl_tab (i := 215) rfl rfl
theorem kt216 : (Cond.fieldLink "Blockduty" 34 "Blockduty" "workRules" "LBlockduty$WorkRules;") ∈ gtbl := gtbl_tab (i := 216) rfl rfl
theorem kt217 : (Cond.fieldLink "Blockduty" 161 "Blockduty" "coldness" "I") ∈ gtbl := gtbl_tab (i := 217) rfl rfl
theorem kt218 : (Cond.fieldLink "Blockduty" 38 "Blockduty" "finePerLost" "I") ∈ gtbl := gtbl_tab (i := 218) rfl rfl
theorem kt219 : (Cond.fieldLink "Blockduty" 45 "Blockduty" "oneTrial" "LBlockduty$Row;") ∈ gtbl := gtbl_tab (i := 219) rfl rfl
theorem kt220 : (Cond.fieldLink "Blockduty" 49 "Blockduty" "otherTrial" "LBlockduty$Row;") ∈ gtbl := gtbl_tab (i := 220) rfl rfl
theorem kt221 : (Cond.fieldLink "Blockduty" 52 "Blockduty" "pieceEnds" "[I") ∈ gtbl := gtbl_tab (i := 221) rfl rfl
theorem kt222 : (Cond.fieldLink "Blockduty" 59 "Blockduty" "followers" "LBlockduty$Followers;") ∈ gtbl := gtbl_tab (i := 222) rfl rfl
theorem kt223 : (Cond.laysFinal "Blockduty" "Blockduty" "places" "Ljava/util/ArrayList;") ∈ gtbl := gtbl_tab (i := 223) rfl rfl
theorem kt225 : (Cond.laysFinal "Blockduty" "Blockduty" "lines" "Ljava/util/ArrayList;") ∈ gtbl := gtbl_tab (i := 225) rfl rfl
theorem kt227 : (Cond.laysFinal "Blockduty" "Blockduty" "trips" "Ljava/util/ArrayList;") ∈ gtbl := gtbl_tab (i := 227) rfl rfl
theorem kt229 : (Cond.laysFinal "Blockduty" "Blockduty" "tripsByStart" "Ljava/util/ArrayList;") ∈ gtbl := gtbl_tab (i := 229) rfl rfl
theorem kt231 : (Cond.laysFinal "Blockduty" "Blockduty" "blocks" "Ljava/util/ArrayList;") ∈ gtbl := gtbl_tab (i := 231) rfl rfl
theorem kt233 : (Cond.laysFinal "Blockduty" "Blockduty" "drivers" "Ljava/util/ArrayList;") ∈ gtbl := gtbl_tab (i := 233) rfl rfl
theorem kt235 : (Cond.laysFinal "Blockduty" "Blockduty" "depot" "LBlockduty$Place;") ∈ gtbl := gtbl_tab (i := 235) rfl rfl
theorem kt237 : (Cond.laysFinal "Blockduty" "Blockduty" "workRules" "LBlockduty$WorkRules;") ∈ gtbl := gtbl_tab (i := 237) rfl rfl
theorem kt239 : (Cond.lays "Blockduty" "Blockduty" "coldness" "I") ∈ gtbl := gtbl_tab (i := 239) rfl rfl
theorem kt241 : (Cond.lays "Blockduty" "Blockduty" "finePerLost" "I") ∈ gtbl := gtbl_tab (i := 241) rfl rfl
theorem kt243 : (Cond.laysFinal "Blockduty" "Blockduty" "oneTrial" "LBlockduty$Row;") ∈ gtbl := gtbl_tab (i := 243) rfl rfl
theorem kt245 : (Cond.laysFinal "Blockduty" "Blockduty" "otherTrial" "LBlockduty$Row;") ∈ gtbl := gtbl_tab (i := 245) rfl rfl
theorem kt247 : (Cond.laysFinal "Blockduty" "Blockduty" "pieceEnds" "[I") ∈ gtbl := gtbl_tab (i := 247) rfl rfl
theorem kt249 : (Cond.laysFinal "Blockduty" "Blockduty" "followers" "LBlockduty$Followers;") ∈ gtbl := gtbl_tab (i := 249) rfl rfl
theorem kt255 : (Cond.code ({ cls := "Blockduty", name := "place", desc := "(IIIZ)I" } : Jvm.MethodName) prog_1_method_2_code 7 (Option.some Jvm.ClassFile.FieldType.int)) ∈ gtbl := gtbl_tab (i := 255) rfl rfl
theorem kt256 : (Cond.methodLink "Blockduty" 79 ({ cls := "Blockduty", name := "placeNumbered", desc := "(I)LBlockduty$Place;" } : Jvm.MethodName)) ∈ gtbl := gtbl_tab (i := 256) rfl rfl
theorem kt258 : (Cond.instanceMethod ({ cls := "Blockduty", name := "placeNumbered", desc := "(I)LBlockduty$Place;" } : Jvm.MethodName)) ∈ gtbl := gtbl_tab (i := 258) rfl rfl
theorem kt259 : (Cond.code ({ cls := "Blockduty", name := "placeNumbered", desc := "(I)LBlockduty$Place;" } : Jvm.MethodName) prog_1_method_37_code 2 (Option.some (Jvm.ClassFile.FieldType.object "Blockduty$Place"))) ∈ gtbl := gtbl_tab (i := 259) rfl rfl
theorem kt260 : (Cond.methodLink "Blockduty" 136 ({ cls := "java/util/ArrayList", name := "size", desc := "()I" } : Jvm.MethodName)) ∈ gtbl := gtbl_tab (i := 260) rfl rfl
theorem kt261 : (Cond.instanceMethod ({ cls := "java/util/ArrayList", name := "size", desc := "()I" } : Jvm.MethodName)) ∈ gtbl := gtbl_tab (i := 261) rfl rfl
theorem kt262 : (Cond.selects "java/util/ArrayList" ({ cls := "java/util/ArrayList", name := "size", desc := "()I" } : Jvm.MethodName) ({ cls := "java/util/ArrayList", name := "size", desc := "()I" } : Jvm.MethodName)) ∈ gtbl := gtbl_tab (i := 262) rfl rfl
theorem kt263 : (Cond.code ({ cls := "java/util/ArrayList", name := "size", desc := "()I" } : Jvm.MethodName) prog_30_method_8_code 1 (Option.some Jvm.ClassFile.FieldType.int)) ∈ gtbl := gtbl_tab (i := 263) rfl rfl
theorem kt264 : (Cond.methodLink "Blockduty" 222 ({ cls := "java/util/ArrayList", name := "get", desc := "(I)Ljava/lang/Object;" } : Jvm.MethodName)) ∈ gtbl := gtbl_tab (i := 264) rfl rfl
theorem kt265 : (Cond.instanceMethod ({ cls := "java/util/ArrayList", name := "get", desc := "(I)Ljava/lang/Object;" } : Jvm.MethodName)) ∈ gtbl := gtbl_tab (i := 265) rfl rfl
theorem kt266 : (Cond.selects "java/util/ArrayList" ({ cls := "java/util/ArrayList", name := "get", desc := "(I)Ljava/lang/Object;" } : Jvm.MethodName) ({ cls := "java/util/ArrayList", name := "get", desc := "(I)Ljava/lang/Object;" } : Jvm.MethodName)) ∈ gtbl := gtbl_tab (i := 266) rfl rfl
theorem kt267 : (Cond.code ({ cls := "java/util/ArrayList", name := "get", desc := "(I)Ljava/lang/Object;" } : Jvm.MethodName) prog_30_method_20_code 2 (Option.some (Jvm.ClassFile.FieldType.object "java/lang/Object"))) ∈ gtbl := gtbl_tab (i := 267) rfl rfl
theorem kt268 : (Cond.methodLink "java/util/ArrayList" 118 ({ cls := "java/util/Objects", name := "checkIndex", desc := "(II)I" } : Jvm.MethodName)) ∈ gtbl := gtbl_tab (i := 268) rfl rfl
theorem kt269 : (Cond.static ({ cls := "java/util/Objects", name := "checkIndex", desc := "(II)I" } : Jvm.MethodName)) ∈ gtbl := gtbl_tab (i := 269) rfl rfl
theorem kt270 : (Cond.code ({ cls := "java/util/Objects", name := "checkIndex", desc := "(II)I" } : Jvm.MethodName) prog_34_method_17_code 2 (Option.some Jvm.ClassFile.FieldType.int)) ∈ gtbl := gtbl_tab (i := 270) rfl rfl
theorem kt271 : (Cond.methodLink "java/util/Objects" 105 ({ cls := "jdk/internal/util/Preconditions", name := "checkIndex", desc := "(IILjava/util/function/BiFunction;)I" } : Jvm.MethodName)) ∈ gtbl := gtbl_tab (i := 271) rfl rfl
theorem kt272 : (Cond.static ({ cls := "jdk/internal/util/Preconditions", name := "checkIndex", desc := "(IILjava/util/function/BiFunction;)I" } : Jvm.MethodName)) ∈ gtbl := gtbl_tab (i := 272) rfl rfl
theorem kt273 : (Cond.code ({ cls := "jdk/internal/util/Preconditions", name := "checkIndex", desc := "(IILjava/util/function/BiFunction;)I" } : Jvm.MethodName) prog_38_method_11_code 3 (Option.some Jvm.ClassFile.FieldType.int)) ∈ gtbl := gtbl_tab (i := 273) rfl rfl
theorem kt274 : (Cond.methodLink "java/util/ArrayList" 123 ({ cls := "java/util/ArrayList", name := "elementData", desc := "(I)Ljava/lang/Object;" } : Jvm.MethodName)) ∈ gtbl := gtbl_tab (i := 274) rfl rfl
theorem kt275 : (Cond.instanceMethod ({ cls := "java/util/ArrayList", name := "elementData", desc := "(I)Ljava/lang/Object;" } : Jvm.MethodName)) ∈ gtbl := gtbl_tab (i := 275) rfl rfl
theorem kt276 : (Cond.selects "java/util/ArrayList" ({ cls := "java/util/ArrayList", name := "elementData", desc := "(I)Ljava/lang/Object;" } : Jvm.MethodName) ({ cls := "java/util/ArrayList", name := "elementData", desc := "(I)Ljava/lang/Object;" } : Jvm.MethodName)) ∈ gtbl := gtbl_tab (i := 276) rfl rfl
theorem kt277 : (Cond.code ({ cls := "java/util/ArrayList", name := "elementData", desc := "(I)Ljava/lang/Object;" } : Jvm.MethodName) prog_30_method_18_code 2 (Option.some (Jvm.ClassFile.FieldType.object "java/lang/Object"))) ∈ gtbl := gtbl_tab (i := 277) rfl rfl
theorem kt346 : (Cond.methodLink "Blockduty" 90 ({ cls := "Blockduty", name := "isOutside", desc := "(III)Z" } : Jvm.MethodName)) ∈ gtbl := gtbl_tab (i := 346) rfl rfl
theorem kt347 : (Cond.static ({ cls := "Blockduty", name := "isOutside", desc := "(III)Z" } : Jvm.MethodName)) ∈ gtbl := gtbl_tab (i := 347) rfl rfl
theorem kt348 : (Cond.code ({ cls := "Blockduty", name := "isOutside", desc := "(III)Z" } : Jvm.MethodName) prog_1_method_36_code 3 (Option.some Jvm.ClassFile.FieldType.boolean)) ∈ gtbl := gtbl_tab (i := 348) rfl rfl
theorem kt365 : (Cond.methodLink "Blockduty" 99 ({ cls := "java/util/ArrayList", name := "isEmpty", desc := "()Z" } : Jvm.MethodName)) ∈ gtbl := gtbl_tab (i := 365) rfl rfl
theorem kt366 : (Cond.instanceMethod ({ cls := "java/util/ArrayList", name := "isEmpty", desc := "()Z" } : Jvm.MethodName)) ∈ gtbl := gtbl_tab (i := 366) rfl rfl
theorem kt367 : (Cond.selects "java/util/ArrayList" ({ cls := "java/util/ArrayList", name := "isEmpty", desc := "()Z" } : Jvm.MethodName) ({ cls := "java/util/ArrayList", name := "isEmpty", desc := "()Z" } : Jvm.MethodName)) ∈ gtbl := gtbl_tab (i := 367) rfl rfl
theorem kt368 : (Cond.code ({ cls := "java/util/ArrayList", name := "isEmpty", desc := "()Z" } : Jvm.MethodName) prog_30_method_9_code 1 (Option.some Jvm.ClassFile.FieldType.boolean)) ∈ gtbl := gtbl_tab (i := 368) rfl rfl
theorem kt388 : (Cond.code ({ cls := "Blockduty", name := "line", desc := "(IIZ)I" } : Jvm.MethodName) prog_1_method_3_code 6 (Option.some Jvm.ClassFile.FieldType.int)) ∈ gtbl := gtbl_tab (i := 388) rfl rfl
theorem kt389 : (Cond.methodLink "Blockduty" 118 ({ cls := "Blockduty", name := "lineNumbered", desc := "(I)LBlockduty$Line;" } : Jvm.MethodName)) ∈ gtbl := gtbl_tab (i := 389) rfl rfl
theorem kt391 : (Cond.instanceMethod ({ cls := "Blockduty", name := "lineNumbered", desc := "(I)LBlockduty$Line;" } : Jvm.MethodName)) ∈ gtbl := gtbl_tab (i := 391) rfl rfl
theorem kt392 : (Cond.code ({ cls := "Blockduty", name := "lineNumbered", desc := "(I)LBlockduty$Line;" } : Jvm.MethodName) prog_1_method_38_code 2 (Option.some (Jvm.ClassFile.FieldType.object "Blockduty$Line"))) ∈ gtbl := gtbl_tab (i := 392) rfl rfl
theorem kt398 : (Cond.code ({ cls := "Blockduty", name := "trip", desc := "(IIIII)I" } : Jvm.MethodName) prog_1_method_4_code 11 (Option.some Jvm.ClassFile.FieldType.int)) ∈ gtbl := gtbl_tab (i := 398) rfl rfl
set_option maxRecDepth 20000 in
theorem kt402 : (Cond.classLink "Blockduty" 142 "Blockduty$Trip") ∈ gtbl := gtbl_tab (i := 402) rfl rfl
set_option maxRecDepth 20000 in
theorem kt403 : (Cond.instantiable "Blockduty$Trip" 12) ∈ gtbl := gtbl_tab (i := 403) rfl rfl
set_option maxRecDepth 20000 in
theorem kt404 : (Cond.methodLink "Blockduty" 144 ({ cls := "Blockduty$Trip", name := "<init>", desc := "(ILBlockduty$Line;LBlockduty$Place;LBlockduty$Place;II)V" } : Jvm.MethodName)) ∈ gtbl := gtbl_tab (i := 404) rfl rfl
set_option maxRecDepth 20000 in
theorem kt405 : (Cond.instanceMethod ({ cls := "Blockduty$Trip", name := "<init>", desc := "(ILBlockduty$Line;LBlockduty$Place;LBlockduty$Place;II)V" } : Jvm.MethodName)) ∈ gtbl := gtbl_tab (i := 405) rfl rfl
set_option maxRecDepth 20000 in
theorem kt406 : (Cond.code ({ cls := "Blockduty$Trip", name := "<init>", desc := "(ILBlockduty$Line;LBlockduty$Place;LBlockduty$Place;II)V" } : Jvm.MethodName) prog_9_method_1_code 7 (Option.none : Option Jvm.ClassFile.FieldType)) ∈ gtbl := gtbl_tab (i := 406) rfl rfl
set_option maxRecDepth 20000 in
theorem kt407 : (Cond.methodLink "Blockduty$Trip" 3 ({ cls := "java/lang/Object", name := "<init>", desc := "()V" } : Jvm.MethodName)) ∈ gtbl := gtbl_tab (i := 407) rfl rfl
set_option maxRecDepth 20000 in
theorem kt408 : (Cond.fieldLink "Blockduty$Trip" 9 "Blockduty$Trip" "number" "I") ∈ gtbl := gtbl_tab (i := 408) rfl rfl
set_option maxRecDepth 20000 in
theorem kt409 : (Cond.fieldLink "Blockduty" 221 "Blockduty$Trip" "number" "I") ∈ gtbl := gtbl_tab (i := 409) rfl rfl
set_option maxRecDepth 20000 in
theorem kt410 : (Cond.fieldLink "Blockduty$Trip" 15 "Blockduty$Trip" "line" "LBlockduty$Line;") ∈ gtbl := gtbl_tab (i := 410) rfl rfl
set_option maxRecDepth 20000 in
theorem kt411 : (Cond.fieldLink "Blockduty" 314 "Blockduty$Trip" "line" "LBlockduty$Line;") ∈ gtbl := gtbl_tab (i := 411) rfl rfl
set_option maxRecDepth 20000 in
theorem kt412 : (Cond.fieldLink "Blockduty$Trip" 19 "Blockduty$Trip" "from" "LBlockduty$Place;") ∈ gtbl := gtbl_tab (i := 412) rfl rfl
set_option maxRecDepth 20000 in
theorem kt413 : (Cond.fieldLink "Blockduty$Row" 51 "Blockduty$Trip" "from" "LBlockduty$Place;") ∈ gtbl := gtbl_tab (i := 413) rfl rfl
set_option maxRecDepth 20000 in
theorem kt414 : (Cond.fieldLink "Blockduty" 319 "Blockduty$Trip" "from" "LBlockduty$Place;") ∈ gtbl := gtbl_tab (i := 414) rfl rfl
set_option maxRecDepth 20000 in
theorem kt415 : (Cond.fieldLink "Blockduty$Trip" 23 "Blockduty$Trip" "to" "LBlockduty$Place;") ∈ gtbl := gtbl_tab (i := 415) rfl rfl
set_option maxRecDepth 20000 in
theorem kt416 : (Cond.fieldLink "Blockduty$WorkRules" 59 "Blockduty$Trip" "to" "LBlockduty$Place;") ∈ gtbl := gtbl_tab (i := 416) rfl rfl
set_option maxRecDepth 20000 in
theorem kt417 : (Cond.fieldLink "Blockduty$Row" 61 "Blockduty$Trip" "to" "LBlockduty$Place;") ∈ gtbl := gtbl_tab (i := 417) rfl rfl
set_option maxRecDepth 20000 in
theorem kt418 : (Cond.fieldLink "Blockduty" 323 "Blockduty$Trip" "to" "LBlockduty$Place;") ∈ gtbl := gtbl_tab (i := 418) rfl rfl
set_option maxRecDepth 20000 in
theorem kt419 : (Cond.fieldLink "Blockduty$Trip" 26 "Blockduty$Trip" "start" "I") ∈ gtbl := gtbl_tab (i := 419) rfl rfl
set_option maxRecDepth 20000 in
theorem kt420 : (Cond.fieldLink "Blockduty$Piece" 35 "Blockduty$Trip" "start" "I") ∈ gtbl := gtbl_tab (i := 420) rfl rfl
set_option maxRecDepth 20000 in
theorem kt421 : (Cond.fieldLink "Blockduty$WorkRules" 56 "Blockduty$Trip" "start" "I") ∈ gtbl := gtbl_tab (i := 421) rfl rfl
set_option maxRecDepth 20000 in
theorem kt422 : (Cond.fieldLink "Blockduty$Row" 67 "Blockduty$Trip" "start" "I") ∈ gtbl := gtbl_tab (i := 422) rfl rfl
set_option maxRecDepth 20000 in
theorem kt423 : (Cond.fieldLink "Blockduty$Block" 106 "Blockduty$Trip" "start" "I") ∈ gtbl := gtbl_tab (i := 423) rfl rfl
set_option maxRecDepth 20000 in
theorem kt424 : (Cond.fieldLink "Blockduty" 326 "Blockduty$Trip" "start" "I") ∈ gtbl := gtbl_tab (i := 424) rfl rfl
set_option maxRecDepth 20000 in
theorem kt425 : (Cond.fieldLink "Blockduty$Trip" 29 "Blockduty$Trip" "minutes" "I") ∈ gtbl := gtbl_tab (i := 425) rfl rfl
set_option maxRecDepth 20000 in
theorem kt426 : (Cond.fieldLink "Blockduty$WorkRules" 50 "Blockduty$Trip" "minutes" "I") ∈ gtbl := gtbl_tab (i := 426) rfl rfl
set_option maxRecDepth 20000 in
theorem kt427 : (Cond.fieldLink "Blockduty$Row" 77 "Blockduty$Trip" "minutes" "I") ∈ gtbl := gtbl_tab (i := 427) rfl rfl
set_option maxRecDepth 20000 in
theorem kt428 : (Cond.fieldLink "Blockduty$Block" 132 "Blockduty$Trip" "minutes" "I") ∈ gtbl := gtbl_tab (i := 428) rfl rfl
set_option maxRecDepth 20000 in
theorem kt429 : (Cond.fieldLink "Blockduty$Block" 129 "Blockduty$Trip" "delay" "I") ∈ gtbl := gtbl_tab (i := 429) rfl rfl
set_option maxRecDepth 20000 in
theorem kt430 : (Cond.fieldLink "Blockduty" 296 "Blockduty$Trip" "delay" "I") ∈ gtbl := gtbl_tab (i := 430) rfl rfl
set_option maxRecDepth 20000 in
theorem kt431 : (Cond.fieldLink "Blockduty$Block" 55 "Blockduty$Trip" "block" "LBlockduty$Block;") ∈ gtbl := gtbl_tab (i := 431) rfl rfl
set_option maxRecDepth 20000 in
theorem kt432 : (Cond.fieldLink "Blockduty$Trip" 42 "Blockduty$Trip" "block" "LBlockduty$Block;") ∈ gtbl := gtbl_tab (i := 432) rfl rfl
set_option maxRecDepth 20000 in
theorem kt433 : (Cond.fieldLink "Blockduty" 198 "Blockduty$Trip" "block" "LBlockduty$Block;") ∈ gtbl := gtbl_tab (i := 433) rfl rfl
set_option maxRecDepth 20000 in
theorem kt434 : (Cond.fieldLink "Blockduty$Piece" 68 "Blockduty$Trip" "piece" "LBlockduty$Piece;") ∈ gtbl := gtbl_tab (i := 434) rfl rfl
set_option maxRecDepth 20000 in
theorem kt435 : (Cond.fieldLink "Blockduty$Block" 81 "Blockduty$Trip" "piece" "LBlockduty$Piece;") ∈ gtbl := gtbl_tab (i := 435) rfl rfl
set_option maxRecDepth 20000 in
theorem kt436 : (Cond.fieldLink "Blockduty$Trip" 49 "Blockduty$Trip" "piece" "LBlockduty$Piece;") ∈ gtbl := gtbl_tab (i := 436) rfl rfl
set_option maxRecDepth 20000 in
theorem kt437 : (Cond.fieldLink "Blockduty$Trip" 56 "Blockduty$Trip" "cause" "I") ∈ gtbl := gtbl_tab (i := 437) rfl rfl
set_option maxRecDepth 20000 in
theorem kt438 : (Cond.fieldLink "Blockduty$Block" 122 "Blockduty$Trip" "cause" "I") ∈ gtbl := gtbl_tab (i := 438) rfl rfl
set_option maxRecDepth 20000 in
theorem kt439 : (Cond.fieldLink "Blockduty" 338 "Blockduty$Trip" "cause" "I") ∈ gtbl := gtbl_tab (i := 439) rfl rfl
set_option maxRecDepth 20000 in
theorem kt440 : (Cond.fieldLink "Blockduty$Trip" 59 "Blockduty$Trip" "realStart" "I") ∈ gtbl := gtbl_tab (i := 440) rfl rfl
set_option maxRecDepth 20000 in
theorem kt441 : (Cond.fieldLink "Blockduty$Block" 115 "Blockduty$Trip" "realStart" "I") ∈ gtbl := gtbl_tab (i := 441) rfl rfl
set_option maxRecDepth 20000 in
theorem kt442 : (Cond.fieldLink "Blockduty$Piece" 76 "Blockduty$Trip" "realEnd" "I") ∈ gtbl := gtbl_tab (i := 442) rfl rfl
set_option maxRecDepth 20000 in
theorem kt443 : (Cond.fieldLink "Blockduty$Block" 99 "Blockduty$Trip" "realEnd" "I") ∈ gtbl := gtbl_tab (i := 443) rfl rfl
set_option maxRecDepth 20000 in
theorem kt444 : (Cond.fieldLink "Blockduty" 347 "Blockduty$Trip" "realEnd" "I") ∈ gtbl := gtbl_tab (i := 444) rfl rfl
set_option maxRecDepth 20000 in
theorem kt445 : (Cond.laysFinal "Blockduty$Trip" "Blockduty$Trip" "number" "I") ∈ gtbl := gtbl_tab (i := 445) rfl rfl
set_option maxRecDepth 20000 in
theorem kt447 : (Cond.laysFinal "Blockduty$Trip" "Blockduty$Trip" "line" "LBlockduty$Line;") ∈ gtbl := gtbl_tab (i := 447) rfl rfl
set_option maxRecDepth 20000 in
theorem kt449 : (Cond.laysFinal "Blockduty$Trip" "Blockduty$Trip" "from" "LBlockduty$Place;") ∈ gtbl := gtbl_tab (i := 449) rfl rfl
set_option maxRecDepth 20000 in
theorem kt451 : (Cond.laysFinal "Blockduty$Trip" "Blockduty$Trip" "to" "LBlockduty$Place;") ∈ gtbl := gtbl_tab (i := 451) rfl rfl
set_option maxRecDepth 20000 in
theorem kt453 : (Cond.laysFinal "Blockduty$Trip" "Blockduty$Trip" "start" "I") ∈ gtbl := gtbl_tab (i := 453) rfl rfl
set_option maxRecDepth 20000 in
theorem kt455 : (Cond.laysFinal "Blockduty$Trip" "Blockduty$Trip" "minutes" "I") ∈ gtbl := gtbl_tab (i := 455) rfl rfl
set_option maxRecDepth 20000 in
theorem kt457 : (Cond.lays "Blockduty$Trip" "Blockduty$Trip" "delay" "I") ∈ gtbl := gtbl_tab (i := 457) rfl rfl
set_option maxRecDepth 20000 in
theorem kt459 : (Cond.lays "Blockduty$Trip" "Blockduty$Trip" "block" "LBlockduty$Block;") ∈ gtbl := gtbl_tab (i := 459) rfl rfl
set_option maxRecDepth 20000 in
theorem kt461 : (Cond.lays "Blockduty$Trip" "Blockduty$Trip" "piece" "LBlockduty$Piece;") ∈ gtbl := gtbl_tab (i := 461) rfl rfl
set_option maxRecDepth 20000 in
theorem kt463 : (Cond.lays "Blockduty$Trip" "Blockduty$Trip" "cause" "I") ∈ gtbl := gtbl_tab (i := 463) rfl rfl
set_option maxRecDepth 20000 in
theorem kt465 : (Cond.lays "Blockduty$Trip" "Blockduty$Trip" "realStart" "I") ∈ gtbl := gtbl_tab (i := 465) rfl rfl
set_option maxRecDepth 20000 in
theorem kt467 : (Cond.lays "Blockduty$Trip" "Blockduty$Trip" "realEnd" "I") ∈ gtbl := gtbl_tab (i := 467) rfl rfl
set_option maxRecDepth 20000 in
theorem kt470 : (Cond.methodLink "Blockduty" 147 ({ cls := "Blockduty", name := "addByStart", desc := "(LBlockduty$Trip;)V" } : Jvm.MethodName)) ∈ gtbl := gtbl_tab (i := 470) rfl rfl
set_option maxRecDepth 20000 in
theorem kt472 : (Cond.instanceMethod ({ cls := "Blockduty", name := "addByStart", desc := "(LBlockduty$Trip;)V" } : Jvm.MethodName)) ∈ gtbl := gtbl_tab (i := 472) rfl rfl
set_option maxRecDepth 20000 in
theorem kt473 : (Cond.code ({ cls := "Blockduty", name := "addByStart", desc := "(LBlockduty$Trip;)V" } : Jvm.MethodName) prog_1_method_43_code 3 (Option.none : Option Jvm.ClassFile.FieldType)) ∈ gtbl := gtbl_tab (i := 473) rfl rfl
set_option maxRecDepth 20000 in
theorem kt474 : (Cond.methodLink "Blockduty" 474 ({ cls := "java/util/ArrayList", name := "add", desc := "(ILjava/lang/Object;)V" } : Jvm.MethodName)) ∈ gtbl := gtbl_tab (i := 474) rfl rfl
set_option maxRecDepth 20000 in
theorem kt475 : (Cond.instanceMethod ({ cls := "java/util/ArrayList", name := "add", desc := "(ILjava/lang/Object;)V" } : Jvm.MethodName)) ∈ gtbl := gtbl_tab (i := 475) rfl rfl
set_option maxRecDepth 20000 in
theorem kt476 : (Cond.selects "java/util/ArrayList" ({ cls := "java/util/ArrayList", name := "add", desc := "(ILjava/lang/Object;)V" } : Jvm.MethodName) ({ cls := "java/util/ArrayList", name := "add", desc := "(ILjava/lang/Object;)V" } : Jvm.MethodName)) ∈ gtbl := gtbl_tab (i := 476) rfl rfl
set_option maxRecDepth 20000 in
theorem kt477 : (Cond.code ({ cls := "java/util/ArrayList", name := "add", desc := "(ILjava/lang/Object;)V" } : Jvm.MethodName) prog_30_method_26_code 5 (Option.none : Option Jvm.ClassFile.FieldType)) ∈ gtbl := gtbl_tab (i := 477) rfl rfl
set_option maxRecDepth 20000 in
theorem kt478 : (Cond.methodLink "java/util/ArrayList" 135 ({ cls := "java/util/ArrayList", name := "rangeCheckForAdd", desc := "(I)V" } : Jvm.MethodName)) ∈ gtbl := gtbl_tab (i := 478) rfl rfl
set_option maxRecDepth 20000 in
theorem kt480 : (Cond.instanceMethod ({ cls := "java/util/ArrayList", name := "rangeCheckForAdd", desc := "(I)V" } : Jvm.MethodName)) ∈ gtbl := gtbl_tab (i := 480) rfl rfl
set_option maxRecDepth 20000 in
theorem kt481 : (Cond.code ({ cls := "java/util/ArrayList", name := "rangeCheckForAdd", desc := "(I)V" } : Jvm.MethodName) prog_30_method_45_code 2 (Option.none : Option Jvm.ClassFile.FieldType)) ∈ gtbl := gtbl_tab (i := 481) rfl rfl
set_option maxRecDepth 20000 in
theorem kt482 : (Cond.methodLink "java/util/ArrayList" 112 ({ cls := "java/lang/System", name := "arraycopy", desc := "(Ljava/lang/Object;ILjava/lang/Object;II)V" } : Jvm.MethodName)) ∈ gtbl := gtbl_tab (i := 482) rfl rfl
set_option maxRecDepth 20000 in
theorem kt486 : (Cond.code ({ cls := "Blockduty", name := "driver", desc := "()I" } : Jvm.MethodName) prog_1_method_7_code 2 (Option.some Jvm.ClassFile.FieldType.int)) ∈ gtbl := gtbl_tab (i := 486) rfl rfl
set_option maxRecDepth 20000 in
theorem kt488 : (Cond.classLink "Blockduty" 166 "Blockduty$Driver") ∈ gtbl := gtbl_tab (i := 488) rfl rfl
set_option maxRecDepth 20000 in
theorem kt489 : (Cond.instantiable "Blockduty$Driver" 3) ∈ gtbl := gtbl_tab (i := 489) rfl rfl
set_option maxRecDepth 20000 in
theorem kt490 : (Cond.methodLink "Blockduty" 168 ({ cls := "Blockduty$Driver", name := "<init>", desc := "(I)V" } : Jvm.MethodName)) ∈ gtbl := gtbl_tab (i := 490) rfl rfl
set_option maxRecDepth 20000 in
theorem kt491 : (Cond.instanceMethod ({ cls := "Blockduty$Driver", name := "<init>", desc := "(I)V" } : Jvm.MethodName)) ∈ gtbl := gtbl_tab (i := 491) rfl rfl
set_option maxRecDepth 20000 in
theorem kt492 : (Cond.code ({ cls := "Blockduty$Driver", name := "<init>", desc := "(I)V" } : Jvm.MethodName) prog_3_method_1_code 2 (Option.none : Option Jvm.ClassFile.FieldType)) ∈ gtbl := gtbl_tab (i := 492) rfl rfl
set_option maxRecDepth 20000 in
theorem kt493 : (Cond.methodLink "Blockduty$Driver" 3 ({ cls := "java/lang/Object", name := "<init>", desc := "()V" } : Jvm.MethodName)) ∈ gtbl := gtbl_tab (i := 493) rfl rfl
set_option maxRecDepth 20000 in
theorem kt494 : (Cond.classLink "Blockduty$Driver" 9 "java/util/ArrayList") ∈ gtbl := gtbl_tab (i := 494) rfl rfl
set_option maxRecDepth 20000 in
theorem kt495 : (Cond.methodLink "Blockduty$Driver" 11 ({ cls := "java/util/ArrayList", name := "<init>", desc := "()V" } : Jvm.MethodName)) ∈ gtbl := gtbl_tab (i := 495) rfl rfl
set_option maxRecDepth 20000 in
theorem kt496 : (Cond.fieldLink "Blockduty$Driver" 18 "Blockduty$Driver" "number" "I") ∈ gtbl := gtbl_tab (i := 496) rfl rfl
set_option maxRecDepth 20000 in
theorem kt497 : (Cond.fieldLink "Blockduty$Piece" 42 "Blockduty$Driver" "number" "I") ∈ gtbl := gtbl_tab (i := 497) rfl rfl
set_option maxRecDepth 20000 in
theorem kt498 : (Cond.fieldLink "Blockduty$Piece" 49 "Blockduty$Driver" "isSick" "Z") ∈ gtbl := gtbl_tab (i := 498) rfl rfl
set_option maxRecDepth 20000 in
theorem kt499 : (Cond.fieldLink "Blockduty$Trip" 72 "Blockduty$Driver" "isSick" "Z") ∈ gtbl := gtbl_tab (i := 499) rfl rfl
set_option maxRecDepth 20000 in
theorem kt500 : (Cond.fieldLink "Blockduty" 306 "Blockduty$Driver" "isSick" "Z") ∈ gtbl := gtbl_tab (i := 500) rfl rfl
set_option maxRecDepth 20000 in
theorem kt501 : (Cond.fieldLink "Blockduty$Driver" 12 "Blockduty$Driver" "pieces" "Ljava/util/ArrayList;") ∈ gtbl := gtbl_tab (i := 501) rfl rfl
set_option maxRecDepth 20000 in
theorem kt502 : (Cond.fieldLink "Blockduty" 278 "Blockduty$Driver" "pieces" "Ljava/util/ArrayList;") ∈ gtbl := gtbl_tab (i := 502) rfl rfl
set_option maxRecDepth 20000 in
theorem kt503 : (Cond.laysFinal "Blockduty$Driver" "Blockduty$Driver" "number" "I") ∈ gtbl := gtbl_tab (i := 503) rfl rfl
set_option maxRecDepth 20000 in
theorem kt505 : (Cond.lays "Blockduty$Driver" "Blockduty$Driver" "isSick" "Z") ∈ gtbl := gtbl_tab (i := 505) rfl rfl
set_option maxRecDepth 20000 in
theorem kt507 : (Cond.laysFinal "Blockduty$Driver" "Blockduty$Driver" "pieces" "Ljava/util/ArrayList;") ∈ gtbl := gtbl_tab (i := 507) rfl rfl
set_option maxRecDepth 20000 in
theorem kt513 : (Cond.code ({ cls := "Blockduty", name := "block", desc := "(I)I" } : Jvm.MethodName) prog_1_method_8_code 2 (Option.some Jvm.ClassFile.FieldType.int)) ∈ gtbl := gtbl_tab (i := 513) rfl rfl
set_option maxRecDepth 20000 in
theorem kt516 : (Cond.methodLink "Blockduty" 173 ({ cls := "Blockduty", name := "newBlock", desc := "(I)LBlockduty$Block;" } : Jvm.MethodName)) ∈ gtbl := gtbl_tab (i := 516) rfl rfl
set_option maxRecDepth 20000 in
theorem kt518 : (Cond.instanceMethod ({ cls := "Blockduty", name := "newBlock", desc := "(I)LBlockduty$Block;" } : Jvm.MethodName)) ∈ gtbl := gtbl_tab (i := 518) rfl rfl
set_option maxRecDepth 20000 in
theorem kt519 : (Cond.code ({ cls := "Blockduty", name := "newBlock", desc := "(I)LBlockduty$Block;" } : Jvm.MethodName) prog_1_method_44_code 3 (Option.some (Jvm.ClassFile.FieldType.object "Blockduty$Block"))) ∈ gtbl := gtbl_tab (i := 519) rfl rfl
set_option maxRecDepth 20000 in
theorem kt520 : (Cond.classLink "Blockduty" 178 "Blockduty$Block") ∈ gtbl := gtbl_tab (i := 520) rfl rfl
set_option maxRecDepth 20000 in
theorem kt521 : (Cond.instantiable "Blockduty$Block" 5) ∈ gtbl := gtbl_tab (i := 521) rfl rfl
set_option maxRecDepth 20000 in
theorem kt522 : (Cond.methodLink "Blockduty" 477 ({ cls := "Blockduty$Block", name := "<init>", desc := "(II)V" } : Jvm.MethodName)) ∈ gtbl := gtbl_tab (i := 522) rfl rfl
set_option maxRecDepth 20000 in
theorem kt523 : (Cond.instanceMethod ({ cls := "Blockduty$Block", name := "<init>", desc := "(II)V" } : Jvm.MethodName)) ∈ gtbl := gtbl_tab (i := 523) rfl rfl
set_option maxRecDepth 20000 in
theorem kt524 : (Cond.code ({ cls := "Blockduty$Block", name := "<init>", desc := "(II)V" } : Jvm.MethodName) prog_2_method_1_code 3 (Option.none : Option Jvm.ClassFile.FieldType)) ∈ gtbl := gtbl_tab (i := 524) rfl rfl
set_option maxRecDepth 20000 in
theorem kt525 : (Cond.methodLink "Blockduty$Block" 3 ({ cls := "java/lang/Object", name := "<init>", desc := "()V" } : Jvm.MethodName)) ∈ gtbl := gtbl_tab (i := 525) rfl rfl
set_option maxRecDepth 20000 in
theorem kt526 : (Cond.classLink "Blockduty$Block" 15 "Blockduty$Row") ∈ gtbl := gtbl_tab (i := 526) rfl rfl
set_option maxRecDepth 20000 in
theorem kt528 : (Cond.classLink "Blockduty$Block" 22 "java/util/ArrayList") ∈ gtbl := gtbl_tab (i := 528) rfl rfl
set_option maxRecDepth 20000 in
theorem kt529 : (Cond.methodLink "Blockduty$Block" 24 ({ cls := "java/util/ArrayList", name := "<init>", desc := "()V" } : Jvm.MethodName)) ∈ gtbl := gtbl_tab (i := 529) rfl rfl
set_option maxRecDepth 20000 in
theorem kt530 : (Cond.fieldLink "Blockduty$Block" 29 "Blockduty$Block" "number" "I") ∈ gtbl := gtbl_tab (i := 530) rfl rfl
set_option maxRecDepth 20000 in
theorem kt531 : (Cond.fieldLink "Blockduty$Trip" 46 "Blockduty$Block" "number" "I") ∈ gtbl := gtbl_tab (i := 531) rfl rfl
set_option maxRecDepth 20000 in
theorem kt532 : (Cond.fieldLink "Blockduty" 177 "Blockduty$Block" "number" "I") ∈ gtbl := gtbl_tab (i := 532) rfl rfl
set_option maxRecDepth 20000 in
theorem kt533 : (Cond.fieldLink "Blockduty$Block" 32 "Blockduty$Block" "capacity" "I") ∈ gtbl := gtbl_tab (i := 533) rfl rfl
set_option maxRecDepth 20000 in
theorem kt534 : (Cond.fieldLink "Blockduty" 350 "Blockduty$Block" "capacity" "I") ∈ gtbl := gtbl_tab (i := 534) rfl rfl
set_option maxRecDepth 20000 in
theorem kt535 : (Cond.fieldLink "Blockduty$Block" 9 "Blockduty$Block" "breakdown" "I") ∈ gtbl := gtbl_tab (i := 535) rfl rfl
set_option maxRecDepth 20000 in
theorem kt536 : (Cond.fieldLink "Blockduty" 301 "Blockduty$Block" "breakdown" "I") ∈ gtbl := gtbl_tab (i := 536) rfl rfl
set_option maxRecDepth 20000 in
theorem kt537 : (Cond.fieldLink "Blockduty$Block" 18 "Blockduty$Block" "row" "LBlockduty$Row;") ∈ gtbl := gtbl_tab (i := 537) rfl rfl
set_option maxRecDepth 20000 in
theorem kt538 : (Cond.fieldLink "Blockduty" 191 "Blockduty$Block" "row" "LBlockduty$Row;") ∈ gtbl := gtbl_tab (i := 538) rfl rfl
set_option maxRecDepth 20000 in
theorem kt539 : (Cond.fieldLink "Blockduty$Block" 25 "Blockduty$Block" "pieces" "Ljava/util/ArrayList;") ∈ gtbl := gtbl_tab (i := 539) rfl rfl
set_option maxRecDepth 20000 in
theorem kt540 : (Cond.fieldLink "Blockduty" 353 "Blockduty$Block" "pieces" "Ljava/util/ArrayList;") ∈ gtbl := gtbl_tab (i := 540) rfl rfl
set_option maxRecDepth 20000 in
theorem kt541 : (Cond.laysFinal "Blockduty$Block" "Blockduty$Block" "number" "I") ∈ gtbl := gtbl_tab (i := 541) rfl rfl
set_option maxRecDepth 20000 in
theorem kt543 : (Cond.laysFinal "Blockduty$Block" "Blockduty$Block" "capacity" "I") ∈ gtbl := gtbl_tab (i := 543) rfl rfl
set_option maxRecDepth 20000 in
theorem kt545 : (Cond.lays "Blockduty$Block" "Blockduty$Block" "breakdown" "I") ∈ gtbl := gtbl_tab (i := 545) rfl rfl
set_option maxRecDepth 20000 in
theorem kt547 : (Cond.laysFinal "Blockduty$Block" "Blockduty$Block" "row" "LBlockduty$Row;") ∈ gtbl := gtbl_tab (i := 547) rfl rfl
set_option maxRecDepth 20000 in
theorem kt549 : (Cond.laysFinal "Blockduty$Block" "Blockduty$Block" "pieces" "Ljava/util/ArrayList;") ∈ gtbl := gtbl_tab (i := 549) rfl rfl
set_option maxRecDepth 20000 in
theorem kt555 : (Cond.code ({ cls := "Blockduty", name := "takeOff", desc := "(I)I" } : Jvm.MethodName) prog_1_method_10_code 4 (Option.some Jvm.ClassFile.FieldType.int)) ∈ gtbl := gtbl_tab (i := 555) rfl rfl
set_option maxRecDepth 20000 in
theorem kt556 : (Cond.methodLink "Blockduty" 182 ({ cls := "Blockduty", name := "blockNumbered", desc := "(I)LBlockduty$Block;" } : Jvm.MethodName)) ∈ gtbl := gtbl_tab (i := 556) rfl rfl
set_option maxRecDepth 20000 in
theorem kt558 : (Cond.instanceMethod ({ cls := "Blockduty", name := "blockNumbered", desc := "(I)LBlockduty$Block;" } : Jvm.MethodName)) ∈ gtbl := gtbl_tab (i := 558) rfl rfl
set_option maxRecDepth 20000 in
theorem kt559 : (Cond.code ({ cls := "Blockduty", name := "blockNumbered", desc := "(I)LBlockduty$Block;" } : Jvm.MethodName) prog_1_method_40_code 2 (Option.some (Jvm.ClassFile.FieldType.object "Blockduty$Block"))) ∈ gtbl := gtbl_tab (i := 559) rfl rfl
set_option maxRecDepth 20000 in
theorem kt561 : (Cond.methodLink "Blockduty" 216 ({ cls := "Blockduty$Block", name := "removeLastTrip", desc := "()LBlockduty$Trip;" } : Jvm.MethodName)) ∈ gtbl := gtbl_tab (i := 561) rfl rfl
set_option maxRecDepth 20000 in
theorem kt562 : (Cond.instanceMethod ({ cls := "Blockduty$Block", name := "removeLastTrip", desc := "()LBlockduty$Trip;" } : Jvm.MethodName)) ∈ gtbl := gtbl_tab (i := 562) rfl rfl
set_option maxRecDepth 20000 in
theorem kt563 : (Cond.selects "Blockduty$Block" ({ cls := "Blockduty$Block", name := "removeLastTrip", desc := "()LBlockduty$Trip;" } : Jvm.MethodName) ({ cls := "Blockduty$Block", name := "removeLastTrip", desc := "()LBlockduty$Trip;" } : Jvm.MethodName)) ∈ gtbl := gtbl_tab (i := 563) rfl rfl
set_option maxRecDepth 20000 in
theorem kt564 : (Cond.code ({ cls := "Blockduty$Block", name := "removeLastTrip", desc := "()LBlockduty$Trip;" } : Jvm.MethodName) prog_2_method_4_code 2 (Option.some (Jvm.ClassFile.FieldType.object "Blockduty$Trip"))) ∈ gtbl := gtbl_tab (i := 564) rfl rfl
set_option maxRecDepth 20000 in
theorem kt565 : (Cond.methodLink "Blockduty$Block" 61 ({ cls := "Blockduty$Row", name := "last", desc := "()LBlockduty$Trip;" } : Jvm.MethodName)) ∈ gtbl := gtbl_tab (i := 565) rfl rfl
set_option maxRecDepth 20000 in
theorem kt566 : (Cond.instanceMethod ({ cls := "Blockduty$Row", name := "last", desc := "()LBlockduty$Trip;" } : Jvm.MethodName)) ∈ gtbl := gtbl_tab (i := 566) rfl rfl
set_option maxRecDepth 20000 in
theorem kt567 : (Cond.selects "Blockduty$Row" ({ cls := "Blockduty$Row", name := "last", desc := "()LBlockduty$Trip;" } : Jvm.MethodName) ({ cls := "Blockduty$Row", name := "last", desc := "()LBlockduty$Trip;" } : Jvm.MethodName)) ∈ gtbl := gtbl_tab (i := 567) rfl rfl
set_option maxRecDepth 20000 in
theorem kt568 : (Cond.code ({ cls := "Blockduty$Row", name := "last", desc := "()LBlockduty$Trip;" } : Jvm.MethodName) prog_8_method_4_code 1 (Option.some (Jvm.ClassFile.FieldType.object "Blockduty$Trip"))) ∈ gtbl := gtbl_tab (i := 568) rfl rfl
set_option maxRecDepth 20000 in
theorem kt569 : (Cond.methodLink "Blockduty$Row" 18 ({ cls := "java/util/ArrayList", name := "size", desc := "()I" } : Jvm.MethodName)) ∈ gtbl := gtbl_tab (i := 569) rfl rfl
set_option maxRecDepth 20000 in
theorem kt570 : (Cond.methodLink "Blockduty$Row" 28 ({ cls := "Blockduty$Row", name := "get", desc := "(I)LBlockduty$Trip;" } : Jvm.MethodName)) ∈ gtbl := gtbl_tab (i := 570) rfl rfl
set_option maxRecDepth 20000 in
theorem kt571 : (Cond.instanceMethod ({ cls := "Blockduty$Row", name := "get", desc := "(I)LBlockduty$Trip;" } : Jvm.MethodName)) ∈ gtbl := gtbl_tab (i := 571) rfl rfl
set_option maxRecDepth 20000 in
theorem kt572 : (Cond.selects "Blockduty$Row" ({ cls := "Blockduty$Row", name := "get", desc := "(I)LBlockduty$Trip;" } : Jvm.MethodName) ({ cls := "Blockduty$Row", name := "get", desc := "(I)LBlockduty$Trip;" } : Jvm.MethodName)) ∈ gtbl := gtbl_tab (i := 572) rfl rfl
set_option maxRecDepth 20000 in
theorem kt573 : (Cond.code ({ cls := "Blockduty$Row", name := "get", desc := "(I)LBlockduty$Trip;" } : Jvm.MethodName) prog_8_method_3_code 2 (Option.some (Jvm.ClassFile.FieldType.object "Blockduty$Trip"))) ∈ gtbl := gtbl_tab (i := 573) rfl rfl
set_option maxRecDepth 20000 in
theorem kt574 : (Cond.methodLink "Blockduty$Row" 22 ({ cls := "java/util/ArrayList", name := "get", desc := "(I)Ljava/lang/Object;" } : Jvm.MethodName)) ∈ gtbl := gtbl_tab (i := 574) rfl rfl
set_option maxRecDepth 20000 in
theorem kt575 : (Cond.classLink "Blockduty$Row" 26 "Blockduty$Trip") ∈ gtbl := gtbl_tab (i := 575) rfl rfl
set_option maxRecDepth 20000 in
theorem kt576 : (Cond.methodLink "Blockduty$Block" 45 ({ cls := "Blockduty$Block", name := "forgetPieces", desc := "()V" } : Jvm.MethodName)) ∈ gtbl := gtbl_tab (i := 576) rfl rfl
set_option maxRecDepth 20000 in
theorem kt578 : (Cond.instanceMethod ({ cls := "Blockduty$Block", name := "forgetPieces", desc := "()V" } : Jvm.MethodName)) ∈ gtbl := gtbl_tab (i := 578) rfl rfl
set_option maxRecDepth 20000 in
theorem kt579 : (Cond.code ({ cls := "Blockduty$Block", name := "forgetPieces", desc := "()V" } : Jvm.MethodName) prog_2_method_6_code 2 (Option.none : Option Jvm.ClassFile.FieldType)) ∈ gtbl := gtbl_tab (i := 579) rfl rfl
set_option maxRecDepth 20000 in
theorem kt580 : (Cond.methodLink "Blockduty$Block" 35 ({ cls := "java/util/ArrayList", name := "size", desc := "()I" } : Jvm.MethodName)) ∈ gtbl := gtbl_tab (i := 580) rfl rfl
set_option maxRecDepth 20000 in
theorem kt581 : (Cond.methodLink "Blockduty$Block" 39 ({ cls := "java/util/ArrayList", name := "get", desc := "(I)Ljava/lang/Object;" } : Jvm.MethodName)) ∈ gtbl := gtbl_tab (i := 581) rfl rfl
set_option maxRecDepth 20000 in
theorem kt582 : (Cond.classLink "Blockduty$Block" 43 "Blockduty$Piece") ∈ gtbl := gtbl_tab (i := 582) rfl rfl
set_option maxRecDepth 20000 in
theorem kt583 : (Cond.methodLink "Blockduty$Block" 75 ({ cls := "Blockduty$Piece", name := "release", desc := "()V" } : Jvm.MethodName)) ∈ gtbl := gtbl_tab (i := 583) rfl rfl
set_option maxRecDepth 20000 in
theorem kt584 : (Cond.instanceMethod ({ cls := "Blockduty$Piece", name := "release", desc := "()V" } : Jvm.MethodName)) ∈ gtbl := gtbl_tab (i := 584) rfl rfl
set_option maxRecDepth 20000 in
theorem kt585 : (Cond.selects "Blockduty$Piece" ({ cls := "Blockduty$Piece", name := "release", desc := "()V" } : Jvm.MethodName) ({ cls := "Blockduty$Piece", name := "release", desc := "()V" } : Jvm.MethodName)) ∈ gtbl := gtbl_tab (i := 585) rfl rfl
set_option maxRecDepth 20000 in
theorem kt586 : (Cond.code ({ cls := "Blockduty$Piece", name := "release", desc := "()V" } : Jvm.MethodName) prog_6_method_5_code 1 (Option.none : Option Jvm.ClassFile.FieldType)) ∈ gtbl := gtbl_tab (i := 586) rfl rfl
set_option maxRecDepth 20000 in
theorem kt587 : (Cond.methodLink "Blockduty$Piece" 45 ({ cls := "Blockduty$Driver", name := "drop", desc := "(LBlockduty$Piece;)V" } : Jvm.MethodName)) ∈ gtbl := gtbl_tab (i := 587) rfl rfl
set_option maxRecDepth 20000 in
theorem kt588 : (Cond.instanceMethod ({ cls := "Blockduty$Driver", name := "drop", desc := "(LBlockduty$Piece;)V" } : Jvm.MethodName)) ∈ gtbl := gtbl_tab (i := 588) rfl rfl
set_option maxRecDepth 20000 in
theorem kt589 : (Cond.selects "Blockduty$Driver" ({ cls := "Blockduty$Driver", name := "drop", desc := "(LBlockduty$Piece;)V" } : Jvm.MethodName) ({ cls := "Blockduty$Driver", name := "drop", desc := "(LBlockduty$Piece;)V" } : Jvm.MethodName)) ∈ gtbl := gtbl_tab (i := 589) rfl rfl
set_option maxRecDepth 20000 in
theorem kt590 : (Cond.code ({ cls := "Blockduty$Driver", name := "drop", desc := "(LBlockduty$Piece;)V" } : Jvm.MethodName) prog_3_method_3_code 3 (Option.none : Option Jvm.ClassFile.FieldType)) ∈ gtbl := gtbl_tab (i := 590) rfl rfl
set_option maxRecDepth 20000 in
theorem kt591 : (Cond.methodLink "Blockduty$Driver" 22 ({ cls := "java/util/ArrayList", name := "size", desc := "()I" } : Jvm.MethodName)) ∈ gtbl := gtbl_tab (i := 591) rfl rfl
set_option maxRecDepth 20000 in
theorem kt592 : (Cond.methodLink "Blockduty$Driver" 26 ({ cls := "java/util/ArrayList", name := "get", desc := "(I)Ljava/lang/Object;" } : Jvm.MethodName)) ∈ gtbl := gtbl_tab (i := 592) rfl rfl
set_option maxRecDepth 20000 in
theorem kt593 : (Cond.methodLink "Blockduty$Driver" 40 ({ cls := "java/util/ArrayList", name := "remove", desc := "(I)Ljava/lang/Object;" } : Jvm.MethodName)) ∈ gtbl := gtbl_tab (i := 593) rfl rfl
set_option maxRecDepth 20000 in
theorem kt594 : (Cond.instanceMethod ({ cls := "java/util/ArrayList", name := "remove", desc := "(I)Ljava/lang/Object;" } : Jvm.MethodName)) ∈ gtbl := gtbl_tab (i := 594) rfl rfl
set_option maxRecDepth 20000 in
theorem kt595 : (Cond.selects "java/util/ArrayList" ({ cls := "java/util/ArrayList", name := "remove", desc := "(I)Ljava/lang/Object;" } : Jvm.MethodName) ({ cls := "java/util/ArrayList", name := "remove", desc := "(I)Ljava/lang/Object;" } : Jvm.MethodName)) ∈ gtbl := gtbl_tab (i := 595) rfl rfl
set_option maxRecDepth 20000 in
theorem kt596 : (Cond.code ({ cls := "java/util/ArrayList", name := "remove", desc := "(I)Ljava/lang/Object;" } : Jvm.MethodName) prog_30_method_29_code 4 (Option.some (Jvm.ClassFile.FieldType.object "java/lang/Object"))) ∈ gtbl := gtbl_tab (i := 596) rfl rfl
set_option maxRecDepth 20000 in
theorem kt597 : (Cond.methodLink "java/util/ArrayList" 144 ({ cls := "java/util/ArrayList", name := "fastRemove", desc := "([Ljava/lang/Object;I)V" } : Jvm.MethodName)) ∈ gtbl := gtbl_tab (i := 597) rfl rfl
set_option maxRecDepth 20000 in
theorem kt599 : (Cond.instanceMethod ({ cls := "java/util/ArrayList", name := "fastRemove", desc := "([Ljava/lang/Object;I)V" } : Jvm.MethodName)) ∈ gtbl := gtbl_tab (i := 599) rfl rfl
set_option maxRecDepth 20000 in
theorem kt600 : (Cond.code ({ cls := "java/util/ArrayList", name := "fastRemove", desc := "([Ljava/lang/Object;I)V" } : Jvm.MethodName) prog_30_method_39_code 4 (Option.none : Option Jvm.ClassFile.FieldType)) ∈ gtbl := gtbl_tab (i := 600) rfl rfl
set_option maxRecDepth 20000 in
theorem kt601 : (Cond.methodLink "Blockduty$Block" 78 ({ cls := "java/util/ArrayList", name := "clear", desc := "()V" } : Jvm.MethodName)) ∈ gtbl := gtbl_tab (i := 601) rfl rfl
set_option maxRecDepth 20000 in
theorem kt602 : (Cond.instanceMethod ({ cls := "java/util/ArrayList", name := "clear", desc := "()V" } : Jvm.MethodName)) ∈ gtbl := gtbl_tab (i := 602) rfl rfl
set_option maxRecDepth 20000 in
theorem kt603 : (Cond.selects "java/util/ArrayList" ({ cls := "java/util/ArrayList", name := "clear", desc := "()V" } : Jvm.MethodName) ({ cls := "java/util/ArrayList", name := "clear", desc := "()V" } : Jvm.MethodName)) ∈ gtbl := gtbl_tab (i := 603) rfl rfl
set_option maxRecDepth 20000 in
theorem kt604 : (Cond.code ({ cls := "java/util/ArrayList", name := "clear", desc := "()V" } : Jvm.MethodName) prog_30_method_40_code 4 (Option.none : Option Jvm.ClassFile.FieldType)) ∈ gtbl := gtbl_tab (i := 604) rfl rfl
set_option maxRecDepth 20000 in
theorem kt605 : (Cond.methodLink "Blockduty$Block" 65 ({ cls := "Blockduty$Row", name := "count", desc := "()I" } : Jvm.MethodName)) ∈ gtbl := gtbl_tab (i := 605) rfl rfl
set_option maxRecDepth 20000 in
theorem kt606 : (Cond.instanceMethod ({ cls := "Blockduty$Row", name := "count", desc := "()I" } : Jvm.MethodName)) ∈ gtbl := gtbl_tab (i := 606) rfl rfl
set_option maxRecDepth 20000 in
theorem kt607 : (Cond.selects "Blockduty$Row" ({ cls := "Blockduty$Row", name := "count", desc := "()I" } : Jvm.MethodName) ({ cls := "Blockduty$Row", name := "count", desc := "()I" } : Jvm.MethodName)) ∈ gtbl := gtbl_tab (i := 607) rfl rfl
set_option maxRecDepth 20000 in
theorem kt608 : (Cond.code ({ cls := "Blockduty$Row", name := "count", desc := "()I" } : Jvm.MethodName) prog_8_method_2_code 1 (Option.some Jvm.ClassFile.FieldType.int)) ∈ gtbl := gtbl_tab (i := 608) rfl rfl
set_option maxRecDepth 20000 in
theorem kt609 : (Cond.classLink "Blockduty$Block" 56 "Blockduty$Trip") ∈ gtbl := gtbl_tab (i := 609) rfl rfl
set_option maxRecDepth 20000 in
theorem kt610 : (Cond.methodLink "Blockduty$Block" 68 ({ cls := "java/util/ArrayList", name := "remove", desc := "(I)Ljava/lang/Object;" } : Jvm.MethodName)) ∈ gtbl := gtbl_tab (i := 610) rfl rfl
set_option maxRecDepth 20000 in
theorem kt615 : (Cond.code ({ cls := "Blockduty", name := "delay", desc := "(II)I" } : Jvm.MethodName) prog_1_method_16_code 5 (Option.some Jvm.ClassFile.FieldType.int)) ∈ gtbl := gtbl_tab (i := 615) rfl rfl
set_option maxRecDepth 20000 in
theorem kt616 : (Cond.methodLink "Blockduty" 185 ({ cls := "Blockduty", name := "tripNumbered", desc := "(I)LBlockduty$Trip;" } : Jvm.MethodName)) ∈ gtbl := gtbl_tab (i := 616) rfl rfl
set_option maxRecDepth 20000 in
theorem kt618 : (Cond.instanceMethod ({ cls := "Blockduty", name := "tripNumbered", desc := "(I)LBlockduty$Trip;" } : Jvm.MethodName)) ∈ gtbl := gtbl_tab (i := 618) rfl rfl
set_option maxRecDepth 20000 in
theorem kt619 : (Cond.code ({ cls := "Blockduty", name := "tripNumbered", desc := "(I)LBlockduty$Trip;" } : Jvm.MethodName) prog_1_method_39_code 2 (Option.some (Jvm.ClassFile.FieldType.object "Blockduty$Trip"))) ∈ gtbl := gtbl_tab (i := 619) rfl rfl
set_option maxRecDepth 20000 in
theorem kt625 : (Cond.code ({ cls := "Blockduty", name := "sick", desc := "(IZ)Z" } : Jvm.MethodName) prog_1_method_18_code 5 (Option.some Jvm.ClassFile.FieldType.boolean)) ∈ gtbl := gtbl_tab (i := 625) rfl rfl
set_option maxRecDepth 20000 in
theorem kt626 : (Cond.methodLink "Blockduty" 260 ({ cls := "Blockduty", name := "driverNumbered", desc := "(I)LBlockduty$Driver;" } : Jvm.MethodName)) ∈ gtbl := gtbl_tab (i := 626) rfl rfl
set_option maxRecDepth 20000 in
theorem kt628 : (Cond.instanceMethod ({ cls := "Blockduty", name := "driverNumbered", desc := "(I)LBlockduty$Driver;" } : Jvm.MethodName)) ∈ gtbl := gtbl_tab (i := 628) rfl rfl
set_option maxRecDepth 20000 in
theorem kt629 : (Cond.code ({ cls := "Blockduty", name := "driverNumbered", desc := "(I)LBlockduty$Driver;" } : Jvm.MethodName) prog_1_method_42_code 2 (Option.some (Jvm.ClassFile.FieldType.object "Blockduty$Driver"))) ∈ gtbl := gtbl_tab (i := 629) rfl rfl
set_option maxRecDepth 20000 in
theorem kt631 : (Cond.methodLink "BlockdutyLaw" 84 ({ cls := "Blockduty", name := "ofTrip", desc := "(II)I" } : Jvm.MethodName)) ∈ gtbl := gtbl_tab (i := 631) rfl rfl
set_option maxRecDepth 20000 in
theorem kt632 : (Cond.instanceMethod ({ cls := "Blockduty", name := "ofTrip", desc := "(II)I" } : Jvm.MethodName)) ∈ gtbl := gtbl_tab (i := 632) rfl rfl
set_option maxRecDepth 20000 in
theorem kt633 : (Cond.selects "Blockduty" ({ cls := "Blockduty", name := "ofTrip", desc := "(II)I" } : Jvm.MethodName) ({ cls := "Blockduty", name := "ofTrip", desc := "(II)I" } : Jvm.MethodName)) ∈ gtbl := gtbl_tab (i := 633) rfl rfl
set_option maxRecDepth 20000 in
theorem kt634 : (Cond.code ({ cls := "Blockduty", name := "ofTrip", desc := "(II)I" } : Jvm.MethodName) prog_1_method_19_code 4 (Option.some Jvm.ClassFile.FieldType.int)) ∈ gtbl := gtbl_tab (i := 634) rfl rfl
set_option maxRecDepth 20000 in
theorem kt636 : (Cond.methodLink "Blockduty" 311 ({ cls := "Blockduty", name := "runDay", desc := "()V" } : Jvm.MethodName)) ∈ gtbl := gtbl_tab (i := 636) rfl rfl
set_option maxRecDepth 20000 in
theorem kt638 : (Cond.instanceMethod ({ cls := "Blockduty", name := "runDay", desc := "()V" } : Jvm.MethodName)) ∈ gtbl := gtbl_tab (i := 638) rfl rfl
set_option maxRecDepth 20000 in
theorem kt639 : (Cond.code ({ cls := "Blockduty", name := "runDay", desc := "()V" } : Jvm.MethodName) prog_1_method_54_code 3 (Option.none : Option Jvm.ClassFile.FieldType)) ∈ gtbl := gtbl_tab (i := 639) rfl rfl
set_option maxRecDepth 20000 in
theorem kt640 : (Cond.methodLink "Blockduty" 412 ({ cls := "Blockduty$Block", name := "lostIf", desc := "(ILBlockduty$Trip;I)I" } : Jvm.MethodName)) ∈ gtbl := gtbl_tab (i := 640) rfl rfl
set_option maxRecDepth 20000 in
theorem kt641 : (Cond.instanceMethod ({ cls := "Blockduty$Block", name := "lostIf", desc := "(ILBlockduty$Trip;I)I" } : Jvm.MethodName)) ∈ gtbl := gtbl_tab (i := 641) rfl rfl
set_option maxRecDepth 20000 in
theorem kt642 : (Cond.selects "Blockduty$Block" ({ cls := "Blockduty$Block", name := "lostIf", desc := "(ILBlockduty$Trip;I)I" } : Jvm.MethodName) ({ cls := "Blockduty$Block", name := "lostIf", desc := "(ILBlockduty$Trip;I)I" } : Jvm.MethodName)) ∈ gtbl := gtbl_tab (i := 642) rfl rfl
set_option maxRecDepth 20000 in
theorem kt643 : (Cond.code ({ cls := "Blockduty$Block", name := "lostIf", desc := "(ILBlockduty$Trip;I)I" } : Jvm.MethodName) prog_2_method_10_code 10 (Option.some Jvm.ClassFile.FieldType.int)) ∈ gtbl := gtbl_tab (i := 643) rfl rfl
set_option maxRecDepth 20000 in
theorem kt644 : (Cond.methodLink "Blockduty$Block" 102 ({ cls := "Blockduty$Trip", name := "emptyTo", desc := "(LBlockduty$Trip;)I" } : Jvm.MethodName)) ∈ gtbl := gtbl_tab (i := 644) rfl rfl
set_option maxRecDepth 20000 in
theorem kt645 : (Cond.instanceMethod ({ cls := "Blockduty$Trip", name := "emptyTo", desc := "(LBlockduty$Trip;)I" } : Jvm.MethodName)) ∈ gtbl := gtbl_tab (i := 645) rfl rfl
set_option maxRecDepth 20000 in
theorem kt646 : (Cond.selects "Blockduty$Trip" ({ cls := "Blockduty$Trip", name := "emptyTo", desc := "(LBlockduty$Trip;)I" } : Jvm.MethodName) ({ cls := "Blockduty$Trip", name := "emptyTo", desc := "(LBlockduty$Trip;)I" } : Jvm.MethodName)) ∈ gtbl := gtbl_tab (i := 646) rfl rfl
set_option maxRecDepth 20000 in
theorem kt647 : (Cond.code ({ cls := "Blockduty$Trip", name := "emptyTo", desc := "(LBlockduty$Trip;)I" } : Jvm.MethodName) prog_9_method_3_code 2 (Option.some Jvm.ClassFile.FieldType.int)) ∈ gtbl := gtbl_tab (i := 647) rfl rfl
set_option maxRecDepth 20000 in
theorem kt648 : (Cond.methodLink "Blockduty$Trip" 32 ({ cls := "Blockduty$Place", name := "emptyTo", desc := "(LBlockduty$Place;)I" } : Jvm.MethodName)) ∈ gtbl := gtbl_tab (i := 648) rfl rfl
set_option maxRecDepth 20000 in
theorem kt649 : (Cond.instanceMethod ({ cls := "Blockduty$Place", name := "emptyTo", desc := "(LBlockduty$Place;)I" } : Jvm.MethodName)) ∈ gtbl := gtbl_tab (i := 649) rfl rfl
set_option maxRecDepth 20000 in
theorem kt650 : (Cond.selects "Blockduty$Place" ({ cls := "Blockduty$Place", name := "emptyTo", desc := "(LBlockduty$Place;)I" } : Jvm.MethodName) ({ cls := "Blockduty$Place", name := "emptyTo", desc := "(LBlockduty$Place;)I" } : Jvm.MethodName)) ∈ gtbl := gtbl_tab (i := 650) rfl rfl
set_option maxRecDepth 20000 in
theorem kt651 : (Cond.code ({ cls := "Blockduty$Place", name := "emptyTo", desc := "(LBlockduty$Place;)I" } : Jvm.MethodName) prog_7_method_2_code 2 (Option.some Jvm.ClassFile.FieldType.int)) ∈ gtbl := gtbl_tab (i := 651) rfl rfl
set_option maxRecDepth 20000 in
theorem kt652 : (Cond.methodLink "Blockduty$Block" 109 ({ cls := "java/lang/Math", name := "max", desc := "(II)I" } : Jvm.MethodName)) ∈ gtbl := gtbl_tab (i := 652) rfl rfl
set_option maxRecDepth 20000 in
theorem kt653 : (Cond.methodLink "Blockduty$Block" 118 ({ cls := "Blockduty$Trip", name := "causeIf", desc := "(I)I" } : Jvm.MethodName)) ∈ gtbl := gtbl_tab (i := 653) rfl rfl
set_option maxRecDepth 20000 in
theorem kt654 : (Cond.instanceMethod ({ cls := "Blockduty$Trip", name := "causeIf", desc := "(I)I" } : Jvm.MethodName)) ∈ gtbl := gtbl_tab (i := 654) rfl rfl
set_option maxRecDepth 20000 in
theorem kt655 : (Cond.selects "Blockduty$Trip" ({ cls := "Blockduty$Trip", name := "causeIf", desc := "(I)I" } : Jvm.MethodName) ({ cls := "Blockduty$Trip", name := "causeIf", desc := "(I)I" } : Jvm.MethodName)) ∈ gtbl := gtbl_tab (i := 655) rfl rfl
set_option maxRecDepth 20000 in
theorem kt656 : (Cond.code ({ cls := "Blockduty$Trip", name := "causeIf", desc := "(I)I" } : Jvm.MethodName) prog_9_method_10_code 3 (Option.some Jvm.ClassFile.FieldType.int)) ∈ gtbl := gtbl_tab (i := 656) rfl rfl
set_option maxRecDepth 20000 in
theorem kt657 : (Cond.methodLink "Blockduty$Trip" 77 ({ cls := "Blockduty$Trip", name := "late", desc := "()I" } : Jvm.MethodName)) ∈ gtbl := gtbl_tab (i := 657) rfl rfl
set_option maxRecDepth 20000 in
theorem kt658 : (Cond.instanceMethod ({ cls := "Blockduty$Trip", name := "late", desc := "()I" } : Jvm.MethodName)) ∈ gtbl := gtbl_tab (i := 658) rfl rfl
set_option maxRecDepth 20000 in
theorem kt659 : (Cond.selects "Blockduty$Trip" ({ cls := "Blockduty$Trip", name := "late", desc := "()I" } : Jvm.MethodName) ({ cls := "Blockduty$Trip", name := "late", desc := "()I" } : Jvm.MethodName)) ∈ gtbl := gtbl_tab (i := 659) rfl rfl
set_option maxRecDepth 20000 in
theorem kt660 : (Cond.code ({ cls := "Blockduty$Trip", name := "late", desc := "()I" } : Jvm.MethodName) prog_9_method_9_code 1 (Option.some Jvm.ClassFile.FieldType.int)) ∈ gtbl := gtbl_tab (i := 660) rfl rfl
set_option maxRecDepth 20000 in
theorem kt661 : (Cond.methodLink "Blockduty$Block" 125 ({ cls := "Blockduty$Trip", name := "runs", desc := "()Z" } : Jvm.MethodName)) ∈ gtbl := gtbl_tab (i := 661) rfl rfl
set_option maxRecDepth 20000 in
theorem kt662 : (Cond.instanceMethod ({ cls := "Blockduty$Trip", name := "runs", desc := "()Z" } : Jvm.MethodName)) ∈ gtbl := gtbl_tab (i := 662) rfl rfl
set_option maxRecDepth 20000 in
theorem kt663 : (Cond.selects "Blockduty$Trip" ({ cls := "Blockduty$Trip", name := "runs", desc := "()Z" } : Jvm.MethodName) ({ cls := "Blockduty$Trip", name := "runs", desc := "()Z" } : Jvm.MethodName)) ∈ gtbl := gtbl_tab (i := 663) rfl rfl
set_option maxRecDepth 20000 in
theorem kt664 : (Cond.code ({ cls := "Blockduty$Trip", name := "runs", desc := "()Z" } : Jvm.MethodName) prog_9_method_8_code 1 (Option.some Jvm.ClassFile.FieldType.boolean)) ∈ gtbl := gtbl_tab (i := 664) rfl rfl
set_option maxRecDepth 20000 in
theorem kt665 : (Cond.methodLink "Blockduty" 329 ({ cls := "Blockduty$Trip", name := "end", desc := "()I" } : Jvm.MethodName)) ∈ gtbl := gtbl_tab (i := 665) rfl rfl
set_option maxRecDepth 20000 in
theorem kt666 : (Cond.instanceMethod ({ cls := "Blockduty$Trip", name := "end", desc := "()I" } : Jvm.MethodName)) ∈ gtbl := gtbl_tab (i := 666) rfl rfl
set_option maxRecDepth 20000 in
theorem kt667 : (Cond.selects "Blockduty$Trip" ({ cls := "Blockduty$Trip", name := "end", desc := "()I" } : Jvm.MethodName) ({ cls := "Blockduty$Trip", name := "end", desc := "()I" } : Jvm.MethodName)) ∈ gtbl := gtbl_tab (i := 667) rfl rfl
set_option maxRecDepth 20000 in
theorem kt668 : (Cond.code ({ cls := "Blockduty$Trip", name := "end", desc := "()I" } : Jvm.MethodName) prog_9_method_2_code 1 (Option.some Jvm.ClassFile.FieldType.int)) ∈ gtbl := gtbl_tab (i := 668) rfl rfl
set_option maxRecDepth 20000 in
theorem kt669 : (Cond.methodLink "Blockduty" 332 ({ cls := "Blockduty$Trip", name := "blockNumber", desc := "()I" } : Jvm.MethodName)) ∈ gtbl := gtbl_tab (i := 669) rfl rfl
set_option maxRecDepth 20000 in
theorem kt670 : (Cond.instanceMethod ({ cls := "Blockduty$Trip", name := "blockNumber", desc := "()I" } : Jvm.MethodName)) ∈ gtbl := gtbl_tab (i := 670) rfl rfl
set_option maxRecDepth 20000 in
theorem kt671 : (Cond.selects "Blockduty$Trip" ({ cls := "Blockduty$Trip", name := "blockNumber", desc := "()I" } : Jvm.MethodName) ({ cls := "Blockduty$Trip", name := "blockNumber", desc := "()I" } : Jvm.MethodName)) ∈ gtbl := gtbl_tab (i := 671) rfl rfl
set_option maxRecDepth 20000 in
theorem kt672 : (Cond.code ({ cls := "Blockduty$Trip", name := "blockNumber", desc := "()I" } : Jvm.MethodName) prog_9_method_6_code 1 (Option.some Jvm.ClassFile.FieldType.int)) ∈ gtbl := gtbl_tab (i := 672) rfl rfl
set_option maxRecDepth 20000 in
theorem kt673 : (Cond.methodLink "Blockduty" 335 ({ cls := "Blockduty$Trip", name := "pieceNumber", desc := "()I" } : Jvm.MethodName)) ∈ gtbl := gtbl_tab (i := 673) rfl rfl
set_option maxRecDepth 20000 in
theorem kt674 : (Cond.instanceMethod ({ cls := "Blockduty$Trip", name := "pieceNumber", desc := "()I" } : Jvm.MethodName)) ∈ gtbl := gtbl_tab (i := 674) rfl rfl
set_option maxRecDepth 20000 in
theorem kt675 : (Cond.selects "Blockduty$Trip" ({ cls := "Blockduty$Trip", name := "pieceNumber", desc := "()I" } : Jvm.MethodName) ({ cls := "Blockduty$Trip", name := "pieceNumber", desc := "()I" } : Jvm.MethodName)) ∈ gtbl := gtbl_tab (i := 675) rfl rfl
set_option maxRecDepth 20000 in
theorem kt676 : (Cond.code ({ cls := "Blockduty$Trip", name := "pieceNumber", desc := "()I" } : Jvm.MethodName) prog_9_method_7_code 1 (Option.some Jvm.ClassFile.FieldType.int)) ∈ gtbl := gtbl_tab (i := 676) rfl rfl
set_option maxRecDepth 20000 in
theorem kt677 : (Cond.methodLink "Blockduty" 341 ({ cls := "Blockduty$Trip", name := "runs", desc := "()Z" } : Jvm.MethodName)) ∈ gtbl := gtbl_tab (i := 677) rfl rfl
set_option maxRecDepth 20000 in
theorem kt678 : (Cond.methodLink "Blockduty" 344 ({ cls := "Blockduty$Trip", name := "late", desc := "()I" } : Jvm.MethodName)) ∈ gtbl := gtbl_tab (i := 678) rfl rfl
set_option maxRecDepth 20000 in
theorem kt679 : (Cond.methodLink "BlockdutyLaw" 49 ({ cls := "Blockduty", name := "ofBlock", desc := "(II)I" } : Jvm.MethodName)) ∈ gtbl := gtbl_tab (i := 679) rfl rfl
set_option maxRecDepth 20000 in
theorem kt680 : (Cond.instanceMethod ({ cls := "Blockduty", name := "ofBlock", desc := "(II)I" } : Jvm.MethodName)) ∈ gtbl := gtbl_tab (i := 680) rfl rfl
set_option maxRecDepth 20000 in
theorem kt681 : (Cond.selects "Blockduty" ({ cls := "Blockduty", name := "ofBlock", desc := "(II)I" } : Jvm.MethodName) ({ cls := "Blockduty", name := "ofBlock", desc := "(II)I" } : Jvm.MethodName)) ∈ gtbl := gtbl_tab (i := 681) rfl rfl
set_option maxRecDepth 20000 in
theorem kt682 : (Cond.code ({ cls := "Blockduty", name := "ofBlock", desc := "(II)I" } : Jvm.MethodName) prog_1_method_20_code 4 (Option.some Jvm.ClassFile.FieldType.int)) ∈ gtbl := gtbl_tab (i := 682) rfl rfl
set_option maxRecDepth 20000 in
theorem kt683 : (Cond.methodLink "Blockduty" 211 ({ cls := "Blockduty$Row", name := "count", desc := "()I" } : Jvm.MethodName)) ∈ gtbl := gtbl_tab (i := 683) rfl rfl
set_option maxRecDepth 20000 in
theorem kt684 : (Cond.methodLink "Blockduty" 354 ({ cls := "Blockduty", name := "isFlat", desc := "(LBlockduty$Row;I)Z" } : Jvm.MethodName)) ∈ gtbl := gtbl_tab (i := 684) rfl rfl
set_option maxRecDepth 20000 in
theorem kt686 : (Cond.instanceMethod ({ cls := "Blockduty", name := "isFlat", desc := "(LBlockduty$Row;I)Z" } : Jvm.MethodName)) ∈ gtbl := gtbl_tab (i := 686) rfl rfl
set_option maxRecDepth 20000 in
theorem kt687 : (Cond.code ({ cls := "Blockduty", name := "isFlat", desc := "(LBlockduty$Row;I)Z" } : Jvm.MethodName) prog_1_method_45_code 3 (Option.some Jvm.ClassFile.FieldType.boolean)) ∈ gtbl := gtbl_tab (i := 687) rfl rfl
set_option maxRecDepth 20000 in
theorem kt688 : (Cond.methodLink "Blockduty" 358 ({ cls := "Blockduty$Row", name := "leastCharge", desc := "(LBlockduty$Place;II)I" } : Jvm.MethodName)) ∈ gtbl := gtbl_tab (i := 688) rfl rfl
set_option maxRecDepth 20000 in
theorem kt689 : (Cond.instanceMethod ({ cls := "Blockduty$Row", name := "leastCharge", desc := "(LBlockduty$Place;II)I" } : Jvm.MethodName)) ∈ gtbl := gtbl_tab (i := 689) rfl rfl
set_option maxRecDepth 20000 in
theorem kt690 : (Cond.selects "Blockduty$Row" ({ cls := "Blockduty$Row", name := "leastCharge", desc := "(LBlockduty$Place;II)I" } : Jvm.MethodName) ({ cls := "Blockduty$Row", name := "leastCharge", desc := "(LBlockduty$Place;II)I" } : Jvm.MethodName)) ∈ gtbl := gtbl_tab (i := 690) rfl rfl
set_option maxRecDepth 20000 in
theorem kt691 : (Cond.code ({ cls := "Blockduty$Row", name := "leastCharge", desc := "(LBlockduty$Place;II)I" } : Jvm.MethodName) prog_8_method_9_code 12 (Option.some Jvm.ClassFile.FieldType.int)) ∈ gtbl := gtbl_tab (i := 691) rfl rfl
set_option maxRecDepth 20000 in
theorem kt692 : (Cond.methodLink "Blockduty$Row" 55 ({ cls := "Blockduty$Place", name := "emptyTo", desc := "(LBlockduty$Place;)I" } : Jvm.MethodName)) ∈ gtbl := gtbl_tab (i := 692) rfl rfl
set_option maxRecDepth 20000 in
theorem kt693 : (Cond.methodLink "Blockduty$Row" 64 ({ cls := "java/lang/Math", name := "min", desc := "(II)I" } : Jvm.MethodName)) ∈ gtbl := gtbl_tab (i := 693) rfl rfl
set_option maxRecDepth 20000 in
theorem kt694 : (Cond.methodLink "Blockduty$Row" 71 ({ cls := "Blockduty$Trip", name := "end", desc := "()I" } : Jvm.MethodName)) ∈ gtbl := gtbl_tab (i := 694) rfl rfl
set_option maxRecDepth 20000 in
theorem kt695 : (Cond.methodLink "Blockduty" 362 ({ cls := "Blockduty$Row", name := "empty", desc := "(LBlockduty$Place;)I" } : Jvm.MethodName)) ∈ gtbl := gtbl_tab (i := 695) rfl rfl
set_option maxRecDepth 20000 in
theorem kt696 : (Cond.instanceMethod ({ cls := "Blockduty$Row", name := "empty", desc := "(LBlockduty$Place;)I" } : Jvm.MethodName)) ∈ gtbl := gtbl_tab (i := 696) rfl rfl
set_option maxRecDepth 20000 in
theorem kt697 : (Cond.selects "Blockduty$Row" ({ cls := "Blockduty$Row", name := "empty", desc := "(LBlockduty$Place;)I" } : Jvm.MethodName) ({ cls := "Blockduty$Row", name := "empty", desc := "(LBlockduty$Place;)I" } : Jvm.MethodName)) ∈ gtbl := gtbl_tab (i := 697) rfl rfl
set_option maxRecDepth 20000 in
theorem kt698 : (Cond.code ({ cls := "Blockduty$Row", name := "empty", desc := "(LBlockduty$Place;)I" } : Jvm.MethodName) prog_8_method_8_code 6 (Option.some Jvm.ClassFile.FieldType.int)) ∈ gtbl := gtbl_tab (i := 698) rfl rfl
set_option maxRecDepth 20000 in
theorem kt699 : (Cond.methodLink "Blockduty" 366 ({ cls := "Blockduty$Block", name := "lostNow", desc := "()I" } : Jvm.MethodName)) ∈ gtbl := gtbl_tab (i := 699) rfl rfl
set_option maxRecDepth 20000 in
theorem kt700 : (Cond.instanceMethod ({ cls := "Blockduty$Block", name := "lostNow", desc := "()I" } : Jvm.MethodName)) ∈ gtbl := gtbl_tab (i := 700) rfl rfl
set_option maxRecDepth 20000 in
theorem kt701 : (Cond.selects "Blockduty$Block" ({ cls := "Blockduty$Block", name := "lostNow", desc := "()I" } : Jvm.MethodName) ({ cls := "Blockduty$Block", name := "lostNow", desc := "()I" } : Jvm.MethodName)) ∈ gtbl := gtbl_tab (i := 701) rfl rfl
set_option maxRecDepth 20000 in
theorem kt702 : (Cond.code ({ cls := "Blockduty$Block", name := "lostNow", desc := "()I" } : Jvm.MethodName) prog_2_method_9_code 1 (Option.some Jvm.ClassFile.FieldType.int)) ∈ gtbl := gtbl_tab (i := 702) rfl rfl
set_option maxRecDepth 20000 in
theorem kt703 : (Cond.methodLink "Blockduty$Block" 95 ({ cls := "Blockduty$Block", name := "lostIf", desc := "(ILBlockduty$Trip;I)I" } : Jvm.MethodName)) ∈ gtbl := gtbl_tab (i := 703) rfl rfl
set_option maxRecDepth 20000 in
theorem kt704 : (Cond.methodLink "BlockdutyLaw" 69 ({ cls := "Blockduty", name := "ofDriver", desc := "(II)I" } : Jvm.MethodName)) ∈ gtbl := gtbl_tab (i := 704) rfl rfl
set_option maxRecDepth 20000 in
theorem kt705 : (Cond.instanceMethod ({ cls := "Blockduty", name := "ofDriver", desc := "(II)I" } : Jvm.MethodName)) ∈ gtbl := gtbl_tab (i := 705) rfl rfl
set_option maxRecDepth 20000 in
theorem kt706 : (Cond.selects "Blockduty" ({ cls := "Blockduty", name := "ofDriver", desc := "(II)I" } : Jvm.MethodName) ({ cls := "Blockduty", name := "ofDriver", desc := "(II)I" } : Jvm.MethodName)) ∈ gtbl := gtbl_tab (i := 706) rfl rfl
set_option maxRecDepth 20000 in
theorem kt707 : (Cond.code ({ cls := "Blockduty", name := "ofDriver", desc := "(II)I" } : Jvm.MethodName) prog_1_method_23_code 4 (Option.some Jvm.ClassFile.FieldType.int)) ∈ gtbl := gtbl_tab (i := 707) rfl rfl
set_option maxRecDepth 20000 in
theorem kt708 : (Cond.methodLink "Blockduty" 281 ({ cls := "Blockduty$Driver", name := "minutes", desc := "()I" } : Jvm.MethodName)) ∈ gtbl := gtbl_tab (i := 708) rfl rfl
set_option maxRecDepth 20000 in
theorem kt709 : (Cond.instanceMethod ({ cls := "Blockduty$Driver", name := "minutes", desc := "()I" } : Jvm.MethodName)) ∈ gtbl := gtbl_tab (i := 709) rfl rfl
set_option maxRecDepth 20000 in
theorem kt710 : (Cond.selects "Blockduty$Driver" ({ cls := "Blockduty$Driver", name := "minutes", desc := "()I" } : Jvm.MethodName) ({ cls := "Blockduty$Driver", name := "minutes", desc := "()I" } : Jvm.MethodName)) ∈ gtbl := gtbl_tab (i := 710) rfl rfl
set_option maxRecDepth 20000 in
theorem kt711 : (Cond.code ({ cls := "Blockduty$Driver", name := "minutes", desc := "()I" } : Jvm.MethodName) prog_3_method_4_code 3 (Option.some Jvm.ClassFile.FieldType.int)) ∈ gtbl := gtbl_tab (i := 711) rfl rfl
set_option maxRecDepth 20000 in
theorem kt712 : (Cond.classLink "Blockduty$Driver" 30 "Blockduty$Piece") ∈ gtbl := gtbl_tab (i := 712) rfl rfl
set_option maxRecDepth 20000 in
theorem kt713 : (Cond.methodLink "Blockduty$Driver" 39 ({ cls := "Blockduty$Piece", name := "minutes", desc := "()I" } : Jvm.MethodName)) ∈ gtbl := gtbl_tab (i := 713) rfl rfl
set_option maxRecDepth 20000 in
theorem kt714 : (Cond.instanceMethod ({ cls := "Blockduty$Piece", name := "minutes", desc := "()I" } : Jvm.MethodName)) ∈ gtbl := gtbl_tab (i := 714) rfl rfl
set_option maxRecDepth 20000 in
theorem kt715 : (Cond.selects "Blockduty$Piece" ({ cls := "Blockduty$Piece", name := "minutes", desc := "()I" } : Jvm.MethodName) ({ cls := "Blockduty$Piece", name := "minutes", desc := "()I" } : Jvm.MethodName)) ∈ gtbl := gtbl_tab (i := 715) rfl rfl
set_option maxRecDepth 20000 in
theorem kt716 : (Cond.code ({ cls := "Blockduty$Piece", name := "minutes", desc := "()I" } : Jvm.MethodName) prog_6_method_2_code 1 (Option.some Jvm.ClassFile.FieldType.int)) ∈ gtbl := gtbl_tab (i := 716) rfl rfl
set_option maxRecDepth 20000 in
theorem kt717 : (Cond.methodLink "Blockduty$Piece" 29 ({ cls := "Blockduty$Trip", name := "end", desc := "()I" } : Jvm.MethodName)) ∈ gtbl := gtbl_tab (i := 717) rfl rfl
set_option maxRecDepth 20000 in
theorem kt718 : (Cond.methodLink "Blockduty" 386 ({ cls := "Blockduty$Driver", name := "worked", desc := "()I" } : Jvm.MethodName)) ∈ gtbl := gtbl_tab (i := 718) rfl rfl
set_option maxRecDepth 20000 in
theorem kt719 : (Cond.instanceMethod ({ cls := "Blockduty$Driver", name := "worked", desc := "()I" } : Jvm.MethodName)) ∈ gtbl := gtbl_tab (i := 719) rfl rfl
set_option maxRecDepth 20000 in
theorem kt720 : (Cond.selects "Blockduty$Driver" ({ cls := "Blockduty$Driver", name := "worked", desc := "()I" } : Jvm.MethodName) ({ cls := "Blockduty$Driver", name := "worked", desc := "()I" } : Jvm.MethodName)) ∈ gtbl := gtbl_tab (i := 720) rfl rfl
set_option maxRecDepth 20000 in
theorem kt721 : (Cond.code ({ cls := "Blockduty$Driver", name := "worked", desc := "()I" } : Jvm.MethodName) prog_3_method_5_code 3 (Option.some Jvm.ClassFile.FieldType.int)) ∈ gtbl := gtbl_tab (i := 721) rfl rfl
set_option maxRecDepth 20000 in
theorem kt722 : (Cond.methodLink "Blockduty$Driver" 43 ({ cls := "Blockduty$Piece", name := "worked", desc := "()I" } : Jvm.MethodName)) ∈ gtbl := gtbl_tab (i := 722) rfl rfl
set_option maxRecDepth 20000 in
theorem kt723 : (Cond.instanceMethod ({ cls := "Blockduty$Piece", name := "worked", desc := "()I" } : Jvm.MethodName)) ∈ gtbl := gtbl_tab (i := 723) rfl rfl
set_option maxRecDepth 20000 in
theorem kt724 : (Cond.selects "Blockduty$Piece" ({ cls := "Blockduty$Piece", name := "worked", desc := "()I" } : Jvm.MethodName) ({ cls := "Blockduty$Piece", name := "worked", desc := "()I" } : Jvm.MethodName)) ∈ gtbl := gtbl_tab (i := 724) rfl rfl
set_option maxRecDepth 20000 in
theorem kt725 : (Cond.code ({ cls := "Blockduty$Piece", name := "worked", desc := "()I" } : Jvm.MethodName) prog_6_method_6_code 4 (Option.some Jvm.ClassFile.FieldType.int)) ∈ gtbl := gtbl_tab (i := 725) rfl rfl
set_option maxRecDepth 20000 in
theorem kt726 : (Cond.methodLink "Blockduty$Piece" 53 ({ cls := "Blockduty$Row", name := "count", desc := "()I" } : Jvm.MethodName)) ∈ gtbl := gtbl_tab (i := 726) rfl rfl
set_option maxRecDepth 20000 in
theorem kt727 : (Cond.methodLink "Blockduty$Piece" 62 ({ cls := "java/util/ArrayList", name := "get", desc := "(I)Ljava/lang/Object;" } : Jvm.MethodName)) ∈ gtbl := gtbl_tab (i := 727) rfl rfl
set_option maxRecDepth 20000 in
theorem kt728 : (Cond.classLink "Blockduty$Piece" 30 "Blockduty$Trip") ∈ gtbl := gtbl_tab (i := 728) rfl rfl
set_option maxRecDepth 20000 in
theorem kt729 : (Cond.methodLink "Blockduty$Piece" 72 ({ cls := "Blockduty$Trip", name := "runs", desc := "()Z" } : Jvm.MethodName)) ∈ gtbl := gtbl_tab (i := 729) rfl rfl
set_option maxRecDepth 20000 in
theorem kt730 : (Cond.methodLink "Blockduty" 387 ({ cls := "Blockduty$Driver", name := "pay", desc := "()I" } : Jvm.MethodName)) ∈ gtbl := gtbl_tab (i := 730) rfl rfl
set_option maxRecDepth 20000 in
theorem kt731 : (Cond.instanceMethod ({ cls := "Blockduty$Driver", name := "pay", desc := "()I" } : Jvm.MethodName)) ∈ gtbl := gtbl_tab (i := 731) rfl rfl
set_option maxRecDepth 20000 in
theorem kt732 : (Cond.selects "Blockduty$Driver" ({ cls := "Blockduty$Driver", name := "pay", desc := "()I" } : Jvm.MethodName) ({ cls := "Blockduty$Driver", name := "pay", desc := "()I" } : Jvm.MethodName)) ∈ gtbl := gtbl_tab (i := 732) rfl rfl
set_option maxRecDepth 20000 in
theorem kt733 : (Cond.code ({ cls := "Blockduty$Driver", name := "pay", desc := "()I" } : Jvm.MethodName) prog_3_method_6_code 3 (Option.some Jvm.ClassFile.FieldType.int)) ∈ gtbl := gtbl_tab (i := 733) rfl rfl
set_option maxRecDepth 20000 in
theorem kt734 : (Cond.methodLink "Blockduty$Driver" 46 ({ cls := "Blockduty$Driver", name := "worked", desc := "()I" } : Jvm.MethodName)) ∈ gtbl := gtbl_tab (i := 734) rfl rfl
set_option maxRecDepth 20000 in
theorem kt735 : (Cond.methodLink "Blockduty$Driver" 47 ({ cls := "java/lang/Math", name := "max", desc := "(II)I" } : Jvm.MethodName)) ∈ gtbl := gtbl_tab (i := 735) rfl rfl
set_option maxRecDepth 20000 in
theorem kt736 : (Cond.methodLink "BlockdutyLaw" 34 ({ cls := "Blockduty", name := "many", desc := "(I)I" } : Jvm.MethodName)) ∈ gtbl := gtbl_tab (i := 736) rfl rfl
set_option maxRecDepth 20000 in
theorem kt737 : (Cond.instanceMethod ({ cls := "Blockduty", name := "many", desc := "(I)I" } : Jvm.MethodName)) ∈ gtbl := gtbl_tab (i := 737) rfl rfl
set_option maxRecDepth 20000 in
theorem kt738 : (Cond.selects "Blockduty" ({ cls := "Blockduty", name := "many", desc := "(I)I" } : Jvm.MethodName) ({ cls := "Blockduty", name := "many", desc := "(I)I" } : Jvm.MethodName)) ∈ gtbl := gtbl_tab (i := 738) rfl rfl
set_option maxRecDepth 20000 in
theorem kt739 : (Cond.code ({ cls := "Blockduty", name := "many", desc := "(I)I" } : Jvm.MethodName) prog_1_method_24_code 2 (Option.some Jvm.ClassFile.FieldType.int)) ∈ gtbl := gtbl_tab (i := 739) rfl rfl
set_option maxRecDepth 20000 in
theorem kt740 : (Cond.methodLink "Blockduty" 390 ({ cls := "Blockduty", name := "countOfCause", desc := "(I)I" } : Jvm.MethodName)) ∈ gtbl := gtbl_tab (i := 740) rfl rfl
set_option maxRecDepth 20000 in
theorem kt742 : (Cond.instanceMethod ({ cls := "Blockduty", name := "countOfCause", desc := "(I)I" } : Jvm.MethodName)) ∈ gtbl := gtbl_tab (i := 742) rfl rfl
set_option maxRecDepth 20000 in
theorem kt743 : (Cond.code ({ cls := "Blockduty", name := "countOfCause", desc := "(I)I" } : Jvm.MethodName) prog_1_method_55_code 4 (Option.some Jvm.ClassFile.FieldType.int)) ∈ gtbl := gtbl_tab (i := 743) rfl rfl
set_option maxRecDepth 20000 in
theorem kt744 : (Cond.methodLink "Blockduty" 394 ({ cls := "Blockduty", name := "countyPays", desc := "()I" } : Jvm.MethodName)) ∈ gtbl := gtbl_tab (i := 744) rfl rfl
set_option maxRecDepth 20000 in
theorem kt746 : (Cond.instanceMethod ({ cls := "Blockduty", name := "countyPays", desc := "()I" } : Jvm.MethodName)) ∈ gtbl := gtbl_tab (i := 746) rfl rfl
set_option maxRecDepth 20000 in
theorem kt747 : (Cond.code ({ cls := "Blockduty", name := "countyPays", desc := "()I" } : Jvm.MethodName) prog_1_method_56_code 3 (Option.some Jvm.ClassFile.FieldType.int)) ∈ gtbl := gtbl_tab (i := 747) rfl rfl
set_option maxRecDepth 20000 in
theorem kt748 : (Cond.methodLink "Blockduty" 508 ({ cls := "Blockduty$Trip", name := "pay", desc := "(I)I" } : Jvm.MethodName)) ∈ gtbl := gtbl_tab (i := 748) rfl rfl
set_option maxRecDepth 20000 in
theorem kt749 : (Cond.instanceMethod ({ cls := "Blockduty$Trip", name := "pay", desc := "(I)I" } : Jvm.MethodName)) ∈ gtbl := gtbl_tab (i := 749) rfl rfl
set_option maxRecDepth 20000 in
theorem kt750 : (Cond.selects "Blockduty$Trip" ({ cls := "Blockduty$Trip", name := "pay", desc := "(I)I" } : Jvm.MethodName) ({ cls := "Blockduty$Trip", name := "pay", desc := "(I)I" } : Jvm.MethodName)) ∈ gtbl := gtbl_tab (i := 750) rfl rfl
set_option maxRecDepth 20000 in
theorem kt751 : (Cond.code ({ cls := "Blockduty$Trip", name := "pay", desc := "(I)I" } : Jvm.MethodName) prog_9_method_11_code 2 (Option.some Jvm.ClassFile.FieldType.int)) ∈ gtbl := gtbl_tab (i := 751) rfl rfl
set_option maxRecDepth 20000 in
theorem kt752 : (Cond.methodLink "Blockduty$Trip" 80 ({ cls := "Blockduty$Trip", name := "runs", desc := "()Z" } : Jvm.MethodName)) ∈ gtbl := gtbl_tab (i := 752) rfl rfl
set_option maxRecDepth 20000 in
theorem kt753 : (Cond.methodLink "Blockduty" 397 ({ cls := "Blockduty", name := "driversArePaid", desc := "()I" } : Jvm.MethodName)) ∈ gtbl := gtbl_tab (i := 753) rfl rfl
set_option maxRecDepth 20000 in
theorem kt755 : (Cond.instanceMethod ({ cls := "Blockduty", name := "driversArePaid", desc := "()I" } : Jvm.MethodName)) ∈ gtbl := gtbl_tab (i := 755) rfl rfl
set_option maxRecDepth 20000 in
theorem kt756 : (Cond.code ({ cls := "Blockduty", name := "driversArePaid", desc := "()I" } : Jvm.MethodName) prog_1_method_57_code 3 (Option.some Jvm.ClassFile.FieldType.int)) ∈ gtbl := gtbl_tab (i := 756) rfl rfl
set_option maxRecDepth 20000 in
theorem kt757 : (Cond.methodLink "Blockduty" 400 ({ cls := "Blockduty", name := "allEmpty", desc := "()I" } : Jvm.MethodName)) ∈ gtbl := gtbl_tab (i := 757) rfl rfl
set_option maxRecDepth 20000 in
theorem kt759 : (Cond.instanceMethod ({ cls := "Blockduty", name := "allEmpty", desc := "()I" } : Jvm.MethodName)) ∈ gtbl := gtbl_tab (i := 759) rfl rfl
set_option maxRecDepth 20000 in
theorem kt760 : (Cond.code ({ cls := "Blockduty", name := "allEmpty", desc := "()I" } : Jvm.MethodName) prog_1_method_58_code 3 (Option.some Jvm.ClassFile.FieldType.int)) ∈ gtbl := gtbl_tab (i := 760) rfl rfl
set_option maxRecDepth 20000 in
theorem kt761 : (Cond.methodLink "Blockduty" 403 ({ cls := "Blockduty", name := "greatestLate", desc := "()I" } : Jvm.MethodName)) ∈ gtbl := gtbl_tab (i := 761) rfl rfl
set_option maxRecDepth 20000 in
theorem kt763 : (Cond.instanceMethod ({ cls := "Blockduty", name := "greatestLate", desc := "()I" } : Jvm.MethodName)) ∈ gtbl := gtbl_tab (i := 763) rfl rfl
set_option maxRecDepth 20000 in
theorem kt764 : (Cond.code ({ cls := "Blockduty", name := "greatestLate", desc := "()I" } : Jvm.MethodName) prog_1_method_59_code 4 (Option.some Jvm.ClassFile.FieldType.int)) ∈ gtbl := gtbl_tab (i := 764) rfl rfl
set_option maxRecDepth 20000 in
theorem kt765 : (Cond.methodLink "Blockduty" 510 ({ cls := "java/lang/Math", name := "max", desc := "(II)I" } : Jvm.MethodName)) ∈ gtbl := gtbl_tab (i := 765) rfl rfl
set_option maxRecDepth 20000 in
theorem kt769 : (Cond.code ({ cls := "Blockduty", name := "meanLate", desc := "()D" } : Jvm.MethodName) prog_1_method_26_code 5 (Option.some Jvm.ClassFile.FieldType.double)) ∈ gtbl := gtbl_tab (i := 769) rfl rfl
set_option maxRecDepth 20000 in
theorem kt770 : (Cond.methodLink "BlockdutyLaw" 98 ({ cls := "Blockduty", name := "leastBlocks", desc := "()I" } : Jvm.MethodName)) ∈ gtbl := gtbl_tab (i := 770) rfl rfl
set_option maxRecDepth 20000 in
theorem kt771 : (Cond.instanceMethod ({ cls := "Blockduty", name := "leastBlocks", desc := "()I" } : Jvm.MethodName)) ∈ gtbl := gtbl_tab (i := 771) rfl rfl
set_option maxRecDepth 20000 in
theorem kt772 : (Cond.selects "Blockduty" ({ cls := "Blockduty", name := "leastBlocks", desc := "()I" } : Jvm.MethodName) ({ cls := "Blockduty", name := "leastBlocks", desc := "()I" } : Jvm.MethodName)) ∈ gtbl := gtbl_tab (i := 772) rfl rfl
set_option maxRecDepth 20000 in
theorem kt773 : (Cond.code ({ cls := "Blockduty", name := "leastBlocks", desc := "()I" } : Jvm.MethodName) prog_1_method_27_code 1 (Option.some Jvm.ClassFile.FieldType.int)) ∈ gtbl := gtbl_tab (i := 773) rfl rfl
set_option maxRecDepth 20000 in
theorem kt774 : (Cond.methodLink "Blockduty" 408 ({ cls := "Blockduty$Followers", name := "mostPairs", desc := "(Ljava/util/ArrayList;)I" } : Jvm.MethodName)) ∈ gtbl := gtbl_tab (i := 774) rfl rfl
set_option maxRecDepth 20000 in
theorem kt775 : (Cond.instanceMethod ({ cls := "Blockduty$Followers", name := "mostPairs", desc := "(Ljava/util/ArrayList;)I" } : Jvm.MethodName)) ∈ gtbl := gtbl_tab (i := 775) rfl rfl
set_option maxRecDepth 20000 in
theorem kt776 : (Cond.selects "Blockduty$Followers" ({ cls := "Blockduty$Followers", name := "mostPairs", desc := "(Ljava/util/ArrayList;)I" } : Jvm.MethodName) ({ cls := "Blockduty$Followers", name := "mostPairs", desc := "(Ljava/util/ArrayList;)I" } : Jvm.MethodName)) ∈ gtbl := gtbl_tab (i := 776) rfl rfl
set_option maxRecDepth 20000 in
theorem kt777 : (Cond.code ({ cls := "Blockduty$Followers", name := "mostPairs", desc := "(Ljava/util/ArrayList;)I" } : Jvm.MethodName) prog_4_method_2_code 5 (Option.some Jvm.ClassFile.FieldType.int)) ∈ gtbl := gtbl_tab (i := 777) rfl rfl
set_option maxRecDepth 20000 in
theorem kt778 : (Cond.methodLink "Blockduty$Followers" 19 ({ cls := "java/util/ArrayList", name := "size", desc := "()I" } : Jvm.MethodName)) ∈ gtbl := gtbl_tab (i := 778) rfl rfl
set_option maxRecDepth 20000 in
theorem kt779 : (Cond.methodLink "Blockduty$Followers" 25 ({ cls := "Blockduty$Followers", name := "findsFollower", desc := "(Ljava/util/ArrayList;I[I[ZI)Z" } : Jvm.MethodName)) ∈ gtbl := gtbl_tab (i := 779) rfl rfl
set_option maxRecDepth 20000 in
theorem kt780 : (Cond.static ({ cls := "Blockduty$Followers", name := "findsFollower", desc := "(Ljava/util/ArrayList;I[I[ZI)Z" } : Jvm.MethodName)) ∈ gtbl := gtbl_tab (i := 780) rfl rfl
set_option maxRecDepth 20000 in
theorem kt781 : (Cond.code ({ cls := "Blockduty$Followers", name := "findsFollower", desc := "(Ljava/util/ArrayList;I[I[ZI)Z" } : Jvm.MethodName) prog_4_method_3_code 8 (Option.some Jvm.ClassFile.FieldType.boolean)) ∈ gtbl := gtbl_tab (i := 781) rfl rfl
set_option maxRecDepth 20000 in
theorem kt782 : (Cond.methodLink "Blockduty$Followers" 29 ({ cls := "java/util/ArrayList", name := "get", desc := "(I)Ljava/lang/Object;" } : Jvm.MethodName)) ∈ gtbl := gtbl_tab (i := 782) rfl rfl
set_option maxRecDepth 20000 in
theorem kt783 : (Cond.classLink "Blockduty$Followers" 33 "Blockduty$Trip") ∈ gtbl := gtbl_tab (i := 783) rfl rfl
set_option maxRecDepth 20000 in
theorem kt784 : (Cond.methodLink "Blockduty$Followers" 35 ({ cls := "java/lang/Math", name := "min", desc := "(II)I" } : Jvm.MethodName)) ∈ gtbl := gtbl_tab (i := 784) rfl rfl
set_option maxRecDepth 20000 in
theorem kt785 : (Cond.methodLink "Blockduty$Followers" 41 ({ cls := "Blockduty$Trip", name := "canFollow", desc := "(LBlockduty$Trip;)Z" } : Jvm.MethodName)) ∈ gtbl := gtbl_tab (i := 785) rfl rfl
set_option maxRecDepth 20000 in
theorem kt786 : (Cond.instanceMethod ({ cls := "Blockduty$Trip", name := "canFollow", desc := "(LBlockduty$Trip;)Z" } : Jvm.MethodName)) ∈ gtbl := gtbl_tab (i := 786) rfl rfl
set_option maxRecDepth 20000 in
theorem kt787 : (Cond.selects "Blockduty$Trip" ({ cls := "Blockduty$Trip", name := "canFollow", desc := "(LBlockduty$Trip;)Z" } : Jvm.MethodName) ({ cls := "Blockduty$Trip", name := "canFollow", desc := "(LBlockduty$Trip;)Z" } : Jvm.MethodName)) ∈ gtbl := gtbl_tab (i := 787) rfl rfl
set_option maxRecDepth 20000 in
theorem kt788 : (Cond.code ({ cls := "Blockduty$Trip", name := "canFollow", desc := "(LBlockduty$Trip;)Z" } : Jvm.MethodName) prog_9_method_5_code 2 (Option.some Jvm.ClassFile.FieldType.boolean)) ∈ gtbl := gtbl_tab (i := 788) rfl rfl
set_option maxRecDepth 20000 in
theorem kt789 : (Cond.methodLink "Blockduty$Trip" 38 ({ cls := "Blockduty$Trip", name := "end", desc := "()I" } : Jvm.MethodName)) ∈ gtbl := gtbl_tab (i := 789) rfl rfl
set_option maxRecDepth 20000 in
theorem kt791 : (Cond.instanceMethod ({ cls := "Blockduty", name := "mayDelay", desc := "(I)I" } : Jvm.MethodName)) ∈ gtbl := gtbl_tab (i := 791) rfl rfl
set_option maxRecDepth 20000 in
theorem kt792 : (Cond.selects "Blockduty" ({ cls := "Blockduty", name := "mayDelay", desc := "(I)I" } : Jvm.MethodName) ({ cls := "Blockduty", name := "mayDelay", desc := "(I)I" } : Jvm.MethodName)) ∈ gtbl := gtbl_tab (i := 792) rfl rfl
set_option maxRecDepth 20000 in
theorem kt793 : (Cond.code ({ cls := "Blockduty", name := "mayDelay", desc := "(I)I" } : Jvm.MethodName) prog_1_method_29_code 7 (Option.some Jvm.ClassFile.FieldType.int)) ∈ gtbl := gtbl_tab (i := 793) rfl rfl
set_option maxRecDepth 20000 in
theorem kt797 : (Cond.code ({ cls := "Blockduty", name := "digest", desc := "()J" } : Jvm.MethodName) prog_1_method_31_code 4 (Option.some Jvm.ClassFile.FieldType.long)) ∈ gtbl := gtbl_tab (i := 797) rfl rfl
set_option maxRecDepth 20000 in
theorem kt798 : (Cond.constantLong "Blockduty" 422 (58195 : Int64)) ∈ gtbl := gtbl_tab (i := 798) rfl rfl
set_option maxRecDepth 20000 in
theorem kt799 : (Cond.methodLink "Blockduty" 424 ({ cls := "Blockduty", name := "many", desc := "(I)I" } : Jvm.MethodName)) ∈ gtbl := gtbl_tab (i := 799) rfl rfl
set_option maxRecDepth 20000 in
theorem kt800 : (Cond.methodLink "Blockduty" 427 ({ cls := "Blockduty", name := "mix", desc := "(JI)J" } : Jvm.MethodName)) ∈ gtbl := gtbl_tab (i := 800) rfl rfl
set_option maxRecDepth 20000 in
theorem kt801 : (Cond.static ({ cls := "Blockduty", name := "mix", desc := "(JI)J" } : Jvm.MethodName)) ∈ gtbl := gtbl_tab (i := 801) rfl rfl
set_option maxRecDepth 20000 in
theorem kt802 : (Cond.code ({ cls := "Blockduty", name := "mix", desc := "(JI)J" } : Jvm.MethodName) prog_1_method_32_code 3 (Option.some Jvm.ClassFile.FieldType.long)) ∈ gtbl := gtbl_tab (i := 802) rfl rfl
set_option maxRecDepth 20000 in
theorem kt803 : (Cond.constantLong "Blockduty" 450 (31 : Int64)) ∈ gtbl := gtbl_tab (i := 803) rfl rfl
set_option maxRecDepth 20000 in
theorem kt804 : (Cond.methodLink "Blockduty" 431 ({ cls := "Blockduty", name := "lost", desc := "(I)I" } : Jvm.MethodName)) ∈ gtbl := gtbl_tab (i := 804) rfl rfl
set_option maxRecDepth 20000 in
theorem kt805 : (Cond.instanceMethod ({ cls := "Blockduty", name := "lost", desc := "(I)I" } : Jvm.MethodName)) ∈ gtbl := gtbl_tab (i := 805) rfl rfl
set_option maxRecDepth 20000 in
theorem kt806 : (Cond.selects "Blockduty" ({ cls := "Blockduty", name := "lost", desc := "(I)I" } : Jvm.MethodName) ({ cls := "Blockduty", name := "lost", desc := "(I)I" } : Jvm.MethodName)) ∈ gtbl := gtbl_tab (i := 806) rfl rfl
set_option maxRecDepth 20000 in
theorem kt807 : (Cond.code ({ cls := "Blockduty", name := "lost", desc := "(I)I" } : Jvm.MethodName) prog_1_method_25_code 2 (Option.some Jvm.ClassFile.FieldType.int)) ∈ gtbl := gtbl_tab (i := 807) rfl rfl
set_option maxRecDepth 20000 in
theorem kt809 : (Cond.methodLink "Blockduty" 434 ({ cls := "Blockduty", name := "mixTrip", desc := "(JI)J" } : Jvm.MethodName)) ∈ gtbl := gtbl_tab (i := 809) rfl rfl
set_option maxRecDepth 20000 in
theorem kt811 : (Cond.instanceMethod ({ cls := "Blockduty", name := "mixTrip", desc := "(JI)J" } : Jvm.MethodName)) ∈ gtbl := gtbl_tab (i := 811) rfl rfl
set_option maxRecDepth 20000 in
theorem kt812 : (Cond.code ({ cls := "Blockduty", name := "mixTrip", desc := "(JI)J" } : Jvm.MethodName) prog_1_method_33_code 7 (Option.some Jvm.ClassFile.FieldType.long)) ∈ gtbl := gtbl_tab (i := 812) rfl rfl
set_option maxRecDepth 20000 in
theorem kt813 : (Cond.methodLink "Blockduty" 452 ({ cls := "Blockduty", name := "ofTrip", desc := "(II)I" } : Jvm.MethodName)) ∈ gtbl := gtbl_tab (i := 813) rfl rfl
set_option maxRecDepth 20000 in
theorem kt814 : (Cond.methodLink "Blockduty" 455 ({ cls := "Blockduty", name := "mayDelay", desc := "(I)I" } : Jvm.MethodName)) ∈ gtbl := gtbl_tab (i := 814) rfl rfl
set_option maxRecDepth 20000 in
theorem kt815 : (Cond.methodLink "Blockduty" 437 ({ cls := "Blockduty", name := "mixBlock", desc := "(JI)J" } : Jvm.MethodName)) ∈ gtbl := gtbl_tab (i := 815) rfl rfl
set_option maxRecDepth 20000 in
theorem kt817 : (Cond.instanceMethod ({ cls := "Blockduty", name := "mixBlock", desc := "(JI)J" } : Jvm.MethodName)) ∈ gtbl := gtbl_tab (i := 817) rfl rfl
set_option maxRecDepth 20000 in
theorem kt818 : (Cond.code ({ cls := "Blockduty", name := "mixBlock", desc := "(JI)J" } : Jvm.MethodName) prog_1_method_34_code 9 (Option.some Jvm.ClassFile.FieldType.long)) ∈ gtbl := gtbl_tab (i := 818) rfl rfl
set_option maxRecDepth 20000 in
theorem kt819 : (Cond.methodLink "Blockduty" 458 ({ cls := "Blockduty", name := "ofBlock", desc := "(II)I" } : Jvm.MethodName)) ∈ gtbl := gtbl_tab (i := 819) rfl rfl
set_option maxRecDepth 20000 in
theorem kt820 : (Cond.methodLink "Blockduty" 461 ({ cls := "Blockduty", name := "ofPiece", desc := "(III)I" } : Jvm.MethodName)) ∈ gtbl := gtbl_tab (i := 820) rfl rfl
set_option maxRecDepth 20000 in
theorem kt821 : (Cond.instanceMethod ({ cls := "Blockduty", name := "ofPiece", desc := "(III)I" } : Jvm.MethodName)) ∈ gtbl := gtbl_tab (i := 821) rfl rfl
set_option maxRecDepth 20000 in
theorem kt822 : (Cond.selects "Blockduty" ({ cls := "Blockduty", name := "ofPiece", desc := "(III)I" } : Jvm.MethodName) ({ cls := "Blockduty", name := "ofPiece", desc := "(III)I" } : Jvm.MethodName)) ∈ gtbl := gtbl_tab (i := 822) rfl rfl
set_option maxRecDepth 20000 in
theorem kt823 : (Cond.code ({ cls := "Blockduty", name := "ofPiece", desc := "(III)I" } : Jvm.MethodName) prog_1_method_22_code 5 (Option.some Jvm.ClassFile.FieldType.int)) ∈ gtbl := gtbl_tab (i := 823) rfl rfl
set_option maxRecDepth 20000 in
theorem kt824 : (Cond.methodLink "Blockduty" 256 ({ cls := "Blockduty", name := "pieceNumbered", desc := "(II)LBlockduty$Piece;" } : Jvm.MethodName)) ∈ gtbl := gtbl_tab (i := 824) rfl rfl
set_option maxRecDepth 20000 in
theorem kt826 : (Cond.instanceMethod ({ cls := "Blockduty", name := "pieceNumbered", desc := "(II)LBlockduty$Piece;" } : Jvm.MethodName)) ∈ gtbl := gtbl_tab (i := 826) rfl rfl
set_option maxRecDepth 20000 in
theorem kt827 : (Cond.code ({ cls := "Blockduty", name := "pieceNumbered", desc := "(II)LBlockduty$Piece;" } : Jvm.MethodName) prog_1_method_41_code 4 (Option.some (Jvm.ClassFile.FieldType.object "Blockduty$Piece"))) ∈ gtbl := gtbl_tab (i := 827) rfl rfl
set_option maxRecDepth 20000 in
theorem kt828 : (Cond.methodLink "Blockduty" 471 ({ cls := "Blockduty$Block", name := "pieceNumbered", desc := "(I)LBlockduty$Piece;" } : Jvm.MethodName)) ∈ gtbl := gtbl_tab (i := 828) rfl rfl
set_option maxRecDepth 20000 in
theorem kt829 : (Cond.instanceMethod ({ cls := "Blockduty$Block", name := "pieceNumbered", desc := "(I)LBlockduty$Piece;" } : Jvm.MethodName)) ∈ gtbl := gtbl_tab (i := 829) rfl rfl
set_option maxRecDepth 20000 in
theorem kt830 : (Cond.selects "Blockduty$Block" ({ cls := "Blockduty$Block", name := "pieceNumbered", desc := "(I)LBlockduty$Piece;" } : Jvm.MethodName) ({ cls := "Blockduty$Block", name := "pieceNumbered", desc := "(I)LBlockduty$Piece;" } : Jvm.MethodName)) ∈ gtbl := gtbl_tab (i := 830) rfl rfl
set_option maxRecDepth 20000 in
theorem kt831 : (Cond.code ({ cls := "Blockduty$Block", name := "pieceNumbered", desc := "(I)LBlockduty$Piece;" } : Jvm.MethodName) prog_2_method_2_code 2 (Option.some (Jvm.ClassFile.FieldType.object "Blockduty$Piece"))) ∈ gtbl := gtbl_tab (i := 831) rfl rfl
set_option maxRecDepth 20000 in
theorem kt833 : (Cond.methodLink "Blockduty" 382 ({ cls := "Blockduty$Piece", name := "minutes", desc := "()I" } : Jvm.MethodName)) ∈ gtbl := gtbl_tab (i := 833) rfl rfl
set_option maxRecDepth 20000 in
theorem kt834 : (Cond.methodLink "Blockduty" 286 ({ cls := "Blockduty$Piece", name := "driverNumber", desc := "()I" } : Jvm.MethodName)) ∈ gtbl := gtbl_tab (i := 834) rfl rfl
set_option maxRecDepth 20000 in
theorem kt835 : (Cond.instanceMethod ({ cls := "Blockduty$Piece", name := "driverNumber", desc := "()I" } : Jvm.MethodName)) ∈ gtbl := gtbl_tab (i := 835) rfl rfl
set_option maxRecDepth 20000 in
theorem kt836 : (Cond.selects "Blockduty$Piece" ({ cls := "Blockduty$Piece", name := "driverNumber", desc := "()I" } : Jvm.MethodName) ({ cls := "Blockduty$Piece", name := "driverNumber", desc := "()I" } : Jvm.MethodName)) ∈ gtbl := gtbl_tab (i := 836) rfl rfl
set_option maxRecDepth 20000 in
theorem kt837 : (Cond.code ({ cls := "Blockduty$Piece", name := "driverNumber", desc := "()I" } : Jvm.MethodName) prog_6_method_4_code 1 (Option.some Jvm.ClassFile.FieldType.int)) ∈ gtbl := gtbl_tab (i := 837) rfl rfl
set_option maxRecDepth 20000 in
theorem kt838 : (Cond.methodLink "Blockduty" 383 ({ cls := "Blockduty$Piece", name := "worked", desc := "()I" } : Jvm.MethodName)) ∈ gtbl := gtbl_tab (i := 838) rfl rfl
set_option maxRecDepth 20000 in
theorem kt839 : (Cond.methodLink "Blockduty" 465 ({ cls := "Blockduty", name := "wouldLose", desc := "(II)I" } : Jvm.MethodName)) ∈ gtbl := gtbl_tab (i := 839) rfl rfl
set_option maxRecDepth 20000 in
theorem kt840 : (Cond.instanceMethod ({ cls := "Blockduty", name := "wouldLose", desc := "(II)I" } : Jvm.MethodName)) ∈ gtbl := gtbl_tab (i := 840) rfl rfl
set_option maxRecDepth 20000 in
theorem kt841 : (Cond.selects "Blockduty" ({ cls := "Blockduty", name := "wouldLose", desc := "(II)I" } : Jvm.MethodName) ({ cls := "Blockduty", name := "wouldLose", desc := "(II)I" } : Jvm.MethodName)) ∈ gtbl := gtbl_tab (i := 841) rfl rfl
set_option maxRecDepth 20000 in
theorem kt842 : (Cond.code ({ cls := "Blockduty", name := "wouldLose", desc := "(II)I" } : Jvm.MethodName) prog_1_method_28_code 4 (Option.some Jvm.ClassFile.FieldType.int)) ∈ gtbl := gtbl_tab (i := 842) rfl rfl
set_option maxRecDepth 20000 in
theorem kt844 : (Cond.methodLink "Blockduty" 440 ({ cls := "Blockduty", name := "mixDriver", desc := "(JI)J" } : Jvm.MethodName)) ∈ gtbl := gtbl_tab (i := 844) rfl rfl
set_option maxRecDepth 20000 in
theorem kt846 : (Cond.instanceMethod ({ cls := "Blockduty", name := "mixDriver", desc := "(JI)J" } : Jvm.MethodName)) ∈ gtbl := gtbl_tab (i := 846) rfl rfl
set_option maxRecDepth 20000 in
theorem kt847 : (Cond.code ({ cls := "Blockduty", name := "mixDriver", desc := "(JI)J" } : Jvm.MethodName) prog_1_method_35_code 7 (Option.some Jvm.ClassFile.FieldType.long)) ∈ gtbl := gtbl_tab (i := 847) rfl rfl
set_option maxRecDepth 20000 in
theorem kt848 : (Cond.methodLink "Blockduty" 468 ({ cls := "Blockduty", name := "ofDriver", desc := "(II)I" } : Jvm.MethodName)) ∈ gtbl := gtbl_tab (i := 848) rfl rfl
set_option maxRecDepth 20000 in
theorem kt849 : (Cond.methodLink "Blockduty" 443 ({ cls := "Blockduty", name := "leastBlocks", desc := "()I" } : Jvm.MethodName)) ∈ gtbl := gtbl_tab (i := 849) rfl rfl
set_option maxRecDepth 20000 in
theorem kt850 : (Cond.methodLink "Blockduty" 446 ({ cls := "Blockduty", name := "bestSwap", desc := "(II)I" } : Jvm.MethodName)) ∈ gtbl := gtbl_tab (i := 850) rfl rfl
set_option maxRecDepth 20000 in
theorem kt851 : (Cond.instanceMethod ({ cls := "Blockduty", name := "bestSwap", desc := "(II)I" } : Jvm.MethodName)) ∈ gtbl := gtbl_tab (i := 851) rfl rfl
set_option maxRecDepth 20000 in
theorem kt852 : (Cond.selects "Blockduty" ({ cls := "Blockduty", name := "bestSwap", desc := "(II)I" } : Jvm.MethodName) ({ cls := "Blockduty", name := "bestSwap", desc := "(II)I" } : Jvm.MethodName)) ∈ gtbl := gtbl_tab (i := 852) rfl rfl
set_option maxRecDepth 20000 in
theorem kt853 : (Cond.code ({ cls := "Blockduty", name := "bestSwap", desc := "(II)I" } : Jvm.MethodName) prog_1_method_30_code 10 (Option.some Jvm.ClassFile.FieldType.int)) ∈ gtbl := gtbl_tab (i := 853) rfl rfl
set_option maxRecDepth 20000 in
theorem kt855 : (Cond.methodLink "Blockduty" 418 ({ cls := "Blockduty", name := "emptyOfSwap", desc := "(LBlockduty$Block;ILBlockduty$Block;I)I" } : Jvm.MethodName)) ∈ gtbl := gtbl_tab (i := 855) rfl rfl
set_option maxRecDepth 20000 in
theorem kt857 : (Cond.instanceMethod ({ cls := "Blockduty", name := "emptyOfSwap", desc := "(LBlockduty$Block;ILBlockduty$Block;I)I" } : Jvm.MethodName)) ∈ gtbl := gtbl_tab (i := 857) rfl rfl
set_option maxRecDepth 20000 in
theorem kt858 : (Cond.code ({ cls := "Blockduty", name := "emptyOfSwap", desc := "(LBlockduty$Block;ILBlockduty$Block;I)I" } : Jvm.MethodName) prog_1_method_53_code 5 (Option.some Jvm.ClassFile.FieldType.int)) ∈ gtbl := gtbl_tab (i := 858) rfl rfl
set_option maxRecDepth 20000 in
theorem kt859 : (Cond.methodLink "Blockduty" 232 ({ cls := "Blockduty", name := "canSwap", desc := "(LBlockduty$Row;ILBlockduty$Row;I)Z" } : Jvm.MethodName)) ∈ gtbl := gtbl_tab (i := 859) rfl rfl
set_option maxRecDepth 20000 in
theorem kt860 : (Cond.static ({ cls := "Blockduty", name := "canSwap", desc := "(LBlockduty$Row;ILBlockduty$Row;I)Z" } : Jvm.MethodName)) ∈ gtbl := gtbl_tab (i := 860) rfl rfl
set_option maxRecDepth 20000 in
theorem kt861 : (Cond.code ({ cls := "Blockduty", name := "canSwap", desc := "(LBlockduty$Row;ILBlockduty$Row;I)Z" } : Jvm.MethodName) prog_1_method_50_code 4 (Option.some Jvm.ClassFile.FieldType.boolean)) ∈ gtbl := gtbl_tab (i := 861) rfl rfl
set_option maxRecDepth 20000 in
theorem kt862 : (Cond.methodLink "Blockduty" 502 ({ cls := "Blockduty", name := "canJoin", desc := "(LBlockduty$Row;ILBlockduty$Row;I)Z" } : Jvm.MethodName)) ∈ gtbl := gtbl_tab (i := 862) rfl rfl
set_option maxRecDepth 20000 in
theorem kt863 : (Cond.static ({ cls := "Blockduty", name := "canJoin", desc := "(LBlockduty$Row;ILBlockduty$Row;I)Z" } : Jvm.MethodName)) ∈ gtbl := gtbl_tab (i := 863) rfl rfl
set_option maxRecDepth 20000 in
theorem kt864 : (Cond.code ({ cls := "Blockduty", name := "canJoin", desc := "(LBlockduty$Row;ILBlockduty$Row;I)Z" } : Jvm.MethodName) prog_1_method_51_code 6 (Option.some Jvm.ClassFile.FieldType.boolean)) ∈ gtbl := gtbl_tab (i := 864) rfl rfl
set_option maxRecDepth 20000 in
theorem kt865 : (Cond.methodLink "Blockduty" 371 ({ cls := "Blockduty$Row", name := "get", desc := "(I)LBlockduty$Trip;" } : Jvm.MethodName)) ∈ gtbl := gtbl_tab (i := 865) rfl rfl
set_option maxRecDepth 20000 in
theorem kt866 : (Cond.methodLink "Blockduty" 202 ({ cls := "Blockduty$Trip", name := "canFollow", desc := "(LBlockduty$Trip;)Z" } : Jvm.MethodName)) ∈ gtbl := gtbl_tab (i := 866) rfl rfl
set_option maxRecDepth 20000 in
theorem kt867 : (Cond.methodLink "Blockduty" 238 ({ cls := "Blockduty", name := "trySwap", desc := "(LBlockduty$Row;ILBlockduty$Row;I)V" } : Jvm.MethodName)) ∈ gtbl := gtbl_tab (i := 867) rfl rfl
set_option maxRecDepth 20000 in
theorem kt869 : (Cond.instanceMethod ({ cls := "Blockduty", name := "trySwap", desc := "(LBlockduty$Row;ILBlockduty$Row;I)V" } : Jvm.MethodName)) ∈ gtbl := gtbl_tab (i := 869) rfl rfl
set_option maxRecDepth 20000 in
theorem kt870 : (Cond.code ({ cls := "Blockduty", name := "trySwap", desc := "(LBlockduty$Row;ILBlockduty$Row;I)V" } : Jvm.MethodName) prog_1_method_52_code 5 (Option.none : Option Jvm.ClassFile.FieldType)) ∈ gtbl := gtbl_tab (i := 870) rfl rfl
set_option maxRecDepth 20000 in
theorem kt871 : (Cond.methodLink "Blockduty" 505 ({ cls := "Blockduty$Row", name := "join", desc := "(LBlockduty$Row;ILBlockduty$Row;I)V" } : Jvm.MethodName)) ∈ gtbl := gtbl_tab (i := 871) rfl rfl
set_option maxRecDepth 20000 in
theorem kt872 : (Cond.instanceMethod ({ cls := "Blockduty$Row", name := "join", desc := "(LBlockduty$Row;ILBlockduty$Row;I)V" } : Jvm.MethodName)) ∈ gtbl := gtbl_tab (i := 872) rfl rfl
set_option maxRecDepth 20000 in
theorem kt873 : (Cond.selects "Blockduty$Row" ({ cls := "Blockduty$Row", name := "join", desc := "(LBlockduty$Row;ILBlockduty$Row;I)V" } : Jvm.MethodName) ({ cls := "Blockduty$Row", name := "join", desc := "(LBlockduty$Row;ILBlockduty$Row;I)V" } : Jvm.MethodName)) ∈ gtbl := gtbl_tab (i := 873) rfl rfl
set_option maxRecDepth 20000 in
theorem kt874 : (Cond.code ({ cls := "Blockduty$Row", name := "join", desc := "(LBlockduty$Row;ILBlockduty$Row;I)V" } : Jvm.MethodName) prog_8_method_5_code 5 (Option.none : Option Jvm.ClassFile.FieldType)) ∈ gtbl := gtbl_tab (i := 874) rfl rfl
set_option maxRecDepth 20000 in
theorem kt875 : (Cond.methodLink "Blockduty$Row" 31 ({ cls := "java/util/ArrayList", name := "clear", desc := "()V" } : Jvm.MethodName)) ∈ gtbl := gtbl_tab (i := 875) rfl rfl
set_option maxRecDepth 20000 in
theorem kt876 : (Cond.methodLink "Blockduty$Row" 34 ({ cls := "Blockduty$Row", name := "addPart", desc := "(LBlockduty$Row;II)V" } : Jvm.MethodName)) ∈ gtbl := gtbl_tab (i := 876) rfl rfl
set_option maxRecDepth 20000 in
theorem kt878 : (Cond.instanceMethod ({ cls := "Blockduty$Row", name := "addPart", desc := "(LBlockduty$Row;II)V" } : Jvm.MethodName)) ∈ gtbl := gtbl_tab (i := 878) rfl rfl
set_option maxRecDepth 20000 in
theorem kt879 : (Cond.code ({ cls := "Blockduty$Row", name := "addPart", desc := "(LBlockduty$Row;II)V" } : Jvm.MethodName) prog_8_method_7_code 5 (Option.none : Option Jvm.ClassFile.FieldType)) ∈ gtbl := gtbl_tab (i := 879) rfl rfl
set_option maxRecDepth 20000 in
theorem kt880 : (Cond.methodLink "Blockduty$Row" 41 ({ cls := "java/lang/Math", name := "max", desc := "(II)I" } : Jvm.MethodName)) ∈ gtbl := gtbl_tab (i := 880) rfl rfl
set_option maxRecDepth 20000 in
theorem kt881 : (Cond.methodLink "Blockduty$Row" 47 ({ cls := "java/util/ArrayList", name := "add", desc := "(Ljava/lang/Object;)Z" } : Jvm.MethodName)) ∈ gtbl := gtbl_tab (i := 881) rfl rfl
set_option maxRecDepth 20000 in
theorem kt882 : (Cond.methodLink "Blockduty$Row" 38 ({ cls := "Blockduty$Row", name := "count", desc := "()I" } : Jvm.MethodName)) ∈ gtbl := gtbl_tab (i := 882) rfl rfl
set_option maxRecDepth 20000 in
theorem kt885 : (Cond.code ({ cls := "BlockdutyLaw", name := "below", desc := "(II)I" } : Jvm.MethodName) method_2_code 2 (Option.some Jvm.ClassFile.FieldType.int)) ∈ gtbl := gtbl_tab (i := 885) rfl rfl
set_option maxRecDepth 20000 in
theorem kt886 : (Cond.constant "BlockdutyLaw" 7 (2147483647 : Int32)) ∈ gtbl := gtbl_tab (i := 886) rfl rfl
set_option maxRecDepth 20000 in
theorem kt889 : (Cond.code ({ cls := "BlockdutyLaw", name := "cell", desc := "([II)I" } : Jvm.MethodName) method_3_code 2 (Option.some Jvm.ClassFile.FieldType.int)) ∈ gtbl := gtbl_tab (i := 889) rfl rfl
set_option maxRecDepth 20000 in
theorem kt890 : (Cond.constant "BlockdutyLaw" 8 (790386105 : Int32)) ∈ gtbl := gtbl_tab (i := 890) rfl rfl
set_option maxRecDepth 20000 in
theorem kt893 : (Cond.code ({ cls := "BlockdutyLaw", name := "isBuilt", desc := "(LBlockduty;I)Z" } : Jvm.MethodName) method_5_code 5 (Option.some Jvm.ClassFile.FieldType.boolean)) ∈ gtbl := gtbl_tab (i := 893) rfl rfl
set_option maxRecDepth 20000 in
theorem kt894 : (Cond.methodLink "BlockdutyLaw" 107 ({ cls := "Blockduty", name := "build", desc := "(I)I" } : Jvm.MethodName)) ∈ gtbl := gtbl_tab (i := 894) rfl rfl
set_option maxRecDepth 20000 in
theorem kt895 : (Cond.instanceMethod ({ cls := "Blockduty", name := "build", desc := "(I)I" } : Jvm.MethodName)) ∈ gtbl := gtbl_tab (i := 895) rfl rfl
set_option maxRecDepth 20000 in
theorem kt896 : (Cond.selects "Blockduty" ({ cls := "Blockduty", name := "build", desc := "(I)I" } : Jvm.MethodName) ({ cls := "Blockduty", name := "build", desc := "(I)I" } : Jvm.MethodName)) ∈ gtbl := gtbl_tab (i := 896) rfl rfl
set_option maxRecDepth 20000 in
theorem kt897 : (Cond.code ({ cls := "Blockduty", name := "build", desc := "(I)I" } : Jvm.MethodName) prog_1_method_11_code 5 (Option.some Jvm.ClassFile.FieldType.int)) ∈ gtbl := gtbl_tab (i := 897) rfl rfl
set_option maxRecDepth 20000 in
theorem kt898 : (Cond.methodLink "Blockduty" 226 ({ cls := "Blockduty", name := "putIntoSomeBlock", desc := "(LBlockduty$Trip;I)Z" } : Jvm.MethodName)) ∈ gtbl := gtbl_tab (i := 898) rfl rfl
set_option maxRecDepth 20000 in
theorem kt900 : (Cond.instanceMethod ({ cls := "Blockduty", name := "putIntoSomeBlock", desc := "(LBlockduty$Trip;I)Z" } : Jvm.MethodName)) ∈ gtbl := gtbl_tab (i := 900) rfl rfl
set_option maxRecDepth 20000 in
theorem kt901 : (Cond.code ({ cls := "Blockduty", name := "putIntoSomeBlock", desc := "(LBlockduty$Trip;I)Z" } : Jvm.MethodName) prog_1_method_48_code 4 (Option.some Jvm.ClassFile.FieldType.boolean)) ∈ gtbl := gtbl_tab (i := 901) rfl rfl
set_option maxRecDepth 20000 in
theorem kt902 : (Cond.methodLink "Blockduty" 487 ({ cls := "Blockduty", name := "nearestBlock", desc := "(LBlockduty$Trip;)LBlockduty$Block;" } : Jvm.MethodName)) ∈ gtbl := gtbl_tab (i := 902) rfl rfl
set_option maxRecDepth 20000 in
theorem kt904 : (Cond.instanceMethod ({ cls := "Blockduty", name := "nearestBlock", desc := "(LBlockduty$Trip;)LBlockduty$Block;" } : Jvm.MethodName)) ∈ gtbl := gtbl_tab (i := 904) rfl rfl
set_option maxRecDepth 20000 in
theorem kt905 : (Cond.code ({ cls := "Blockduty", name := "nearestBlock", desc := "(LBlockduty$Trip;)LBlockduty$Block;" } : Jvm.MethodName) prog_1_method_49_code 7 (Option.some (Jvm.ClassFile.FieldType.object "Blockduty$Block"))) ∈ gtbl := gtbl_tab (i := 905) rfl rfl
set_option maxRecDepth 20000 in
theorem kt906 : (Cond.methodLink "Blockduty" 194 ({ cls := "Blockduty$Row", name := "last", desc := "()LBlockduty$Trip;" } : Jvm.MethodName)) ∈ gtbl := gtbl_tab (i := 906) rfl rfl
set_option maxRecDepth 20000 in
theorem kt907 : (Cond.methodLink "Blockduty" 494 ({ cls := "Blockduty$Trip", name := "emptyTo", desc := "(LBlockduty$Trip;)I" } : Jvm.MethodName)) ∈ gtbl := gtbl_tab (i := 907) rfl rfl
set_option maxRecDepth 20000 in
theorem kt908 : (Cond.methodLink "Blockduty" 498 ({ cls := "Blockduty", name := "wouldBeFlat", desc := "(LBlockduty$Row;LBlockduty$Trip;I)Z" } : Jvm.MethodName)) ∈ gtbl := gtbl_tab (i := 908) rfl rfl
set_option maxRecDepth 20000 in
theorem kt910 : (Cond.instanceMethod ({ cls := "Blockduty", name := "wouldBeFlat", desc := "(LBlockduty$Row;LBlockduty$Trip;I)Z" } : Jvm.MethodName)) ∈ gtbl := gtbl_tab (i := 910) rfl rfl
set_option maxRecDepth 20000 in
theorem kt911 : (Cond.code ({ cls := "Blockduty", name := "wouldBeFlat", desc := "(LBlockduty$Row;LBlockduty$Trip;I)Z" } : Jvm.MethodName) prog_1_method_46_code 4 (Option.some Jvm.ClassFile.FieldType.boolean)) ∈ gtbl := gtbl_tab (i := 911) rfl rfl
set_option maxRecDepth 20000 in
theorem kt912 : (Cond.methodLink "Blockduty" 480 ({ cls := "Blockduty$Row", name := "copy", desc := "(LBlockduty$Row;)V" } : Jvm.MethodName)) ∈ gtbl := gtbl_tab (i := 912) rfl rfl
set_option maxRecDepth 20000 in
theorem kt913 : (Cond.instanceMethod ({ cls := "Blockduty$Row", name := "copy", desc := "(LBlockduty$Row;)V" } : Jvm.MethodName)) ∈ gtbl := gtbl_tab (i := 913) rfl rfl
set_option maxRecDepth 20000 in
theorem kt914 : (Cond.selects "Blockduty$Row" ({ cls := "Blockduty$Row", name := "copy", desc := "(LBlockduty$Row;)V" } : Jvm.MethodName) ({ cls := "Blockduty$Row", name := "copy", desc := "(LBlockduty$Row;)V" } : Jvm.MethodName)) ∈ gtbl := gtbl_tab (i := 914) rfl rfl
set_option maxRecDepth 20000 in
theorem kt915 : (Cond.code ({ cls := "Blockduty$Row", name := "copy", desc := "(LBlockduty$Row;)V" } : Jvm.MethodName) prog_8_method_6_code 2 (Option.none : Option Jvm.ClassFile.FieldType)) ∈ gtbl := gtbl_tab (i := 915) rfl rfl
set_option maxRecDepth 20000 in
theorem kt916 : (Cond.methodLink "Blockduty" 208 ({ cls := "Blockduty$Block", name := "addTrip", desc := "(LBlockduty$Trip;)V" } : Jvm.MethodName)) ∈ gtbl := gtbl_tab (i := 916) rfl rfl
set_option maxRecDepth 20000 in
theorem kt917 : (Cond.instanceMethod ({ cls := "Blockduty$Block", name := "addTrip", desc := "(LBlockduty$Trip;)V" } : Jvm.MethodName)) ∈ gtbl := gtbl_tab (i := 917) rfl rfl
set_option maxRecDepth 20000 in
theorem kt918 : (Cond.selects "Blockduty$Block" ({ cls := "Blockduty$Block", name := "addTrip", desc := "(LBlockduty$Trip;)V" } : Jvm.MethodName) ({ cls := "Blockduty$Block", name := "addTrip", desc := "(LBlockduty$Trip;)V" } : Jvm.MethodName)) ∈ gtbl := gtbl_tab (i := 918) rfl rfl
set_option maxRecDepth 20000 in
theorem kt919 : (Cond.code ({ cls := "Blockduty$Block", name := "addTrip", desc := "(LBlockduty$Trip;)V" } : Jvm.MethodName) prog_2_method_3_code 2 (Option.none : Option Jvm.ClassFile.FieldType)) ∈ gtbl := gtbl_tab (i := 919) rfl rfl
set_option maxRecDepth 20000 in
theorem kt920 : (Cond.methodLink "Blockduty$Block" 51 ({ cls := "java/util/ArrayList", name := "add", desc := "(Ljava/lang/Object;)Z" } : Jvm.MethodName)) ∈ gtbl := gtbl_tab (i := 920) rfl rfl
set_option maxRecDepth 20000 in
theorem kt921 : (Cond.methodLink "Blockduty" 491 ({ cls := "Blockduty", name := "wouldBeFlatAlone", desc := "(LBlockduty$Trip;I)Z" } : Jvm.MethodName)) ∈ gtbl := gtbl_tab (i := 921) rfl rfl
set_option maxRecDepth 20000 in
theorem kt923 : (Cond.instanceMethod ({ cls := "Blockduty", name := "wouldBeFlatAlone", desc := "(LBlockduty$Trip;I)Z" } : Jvm.MethodName)) ∈ gtbl := gtbl_tab (i := 923) rfl rfl
set_option maxRecDepth 20000 in
theorem kt924 : (Cond.code ({ cls := "Blockduty", name := "wouldBeFlatAlone", desc := "(LBlockduty$Trip;I)Z" } : Jvm.MethodName) prog_1_method_47_code 3 (Option.some Jvm.ClassFile.FieldType.boolean)) ∈ gtbl := gtbl_tab (i := 924) rfl rfl
set_option maxRecDepth 20000 in
theorem kt925 : (Cond.methodLink "Blockduty" 484 ({ cls := "java/util/ArrayList", name := "clear", desc := "()V" } : Jvm.MethodName)) ∈ gtbl := gtbl_tab (i := 925) rfl rfl
set_option maxRecDepth 20000 in
theorem kt930 : (Cond.methodLink "BlockdutyLaw" 115 ({ cls := "Blockduty", name := "at", desc := "(II)I" } : Jvm.MethodName)) ∈ gtbl := gtbl_tab (i := 930) rfl rfl
set_option maxRecDepth 20000 in
theorem kt931 : (Cond.instanceMethod ({ cls := "Blockduty", name := "at", desc := "(II)I" } : Jvm.MethodName)) ∈ gtbl := gtbl_tab (i := 931) rfl rfl
set_option maxRecDepth 20000 in
theorem kt932 : (Cond.selects "Blockduty" ({ cls := "Blockduty", name := "at", desc := "(II)I" } : Jvm.MethodName) ({ cls := "Blockduty", name := "at", desc := "(II)I" } : Jvm.MethodName)) ∈ gtbl := gtbl_tab (i := 932) rfl rfl
set_option maxRecDepth 20000 in
theorem kt933 : (Cond.code ({ cls := "Blockduty", name := "at", desc := "(II)I" } : Jvm.MethodName) prog_1_method_21_code 5 (Option.some Jvm.ClassFile.FieldType.int)) ∈ gtbl := gtbl_tab (i := 933) rfl rfl
set_option maxRecDepth 20000 in
theorem kt935 : (Cond.methodLink "BlockdutyLaw" 118 ({ cls := "BlockdutyLaw", name := "follows", desc := "(LBlockduty;[III)Z" } : Jvm.MethodName)) ∈ gtbl := gtbl_tab (i := 935) rfl rfl
set_option maxRecDepth 20000 in
theorem kt936 : (Cond.static ({ cls := "BlockdutyLaw", name := "follows", desc := "(LBlockduty;[III)Z" } : Jvm.MethodName)) ∈ gtbl := gtbl_tab (i := 936) rfl rfl
set_option maxRecDepth 20000 in
theorem kt937 : (Cond.code ({ cls := "BlockdutyLaw", name := "follows", desc := "(LBlockduty;[III)Z" } : Jvm.MethodName) method_6_code 4 (Option.some Jvm.ClassFile.FieldType.boolean)) ∈ gtbl := gtbl_tab (i := 937) rfl rfl
set_option maxRecDepth 20000 in
theorem kt938 : (Cond.methodLink "BlockdutyLaw" 110 ({ cls := "java/lang/Math", name := "abs", desc := "(I)I" } : Jvm.MethodName)) ∈ gtbl := gtbl_tab (i := 938) rfl rfl
set_option maxRecDepth 20000 in
theorem kt939 : (Cond.static ({ cls := "java/lang/Math", name := "abs", desc := "(I)I" } : Jvm.MethodName)) ∈ gtbl := gtbl_tab (i := 939) rfl rfl
set_option maxRecDepth 20000 in
theorem kt940 : (Cond.code ({ cls := "java/lang/Math", name := "abs", desc := "(I)I" } : Jvm.MethodName) prog_23_method_59_code 1 (Option.some Jvm.ClassFile.FieldType.int)) ∈ gtbl := gtbl_tab (i := 940) rfl rfl
set_option maxRecDepth 20000 in
theorem kt944 : (Cond.code ({ cls := "Blockduty", name := "append", desc := "(II)I" } : Jvm.MethodName) prog_1_method_9_code 6 (Option.some Jvm.ClassFile.FieldType.int)) ∈ gtbl := gtbl_tab (i := 944) rfl rfl
set_option maxRecDepth 20000 in
theorem kt953 : (Cond.code ({ cls := "Blockduty", name := "swap", desc := "(IIII)I" } : Jvm.MethodName) prog_1_method_12_code 10 (Option.some Jvm.ClassFile.FieldType.int)) ∈ gtbl := gtbl_tab (i := 953) rfl rfl
set_option maxRecDepth 20000 in
theorem kt956 : (Cond.methodLink "Blockduty" 242 ({ cls := "Blockduty$Block", name := "takeOver", desc := "(LBlockduty$Row;)V" } : Jvm.MethodName)) ∈ gtbl := gtbl_tab (i := 956) rfl rfl
set_option maxRecDepth 20000 in
theorem kt957 : (Cond.instanceMethod ({ cls := "Blockduty$Block", name := "takeOver", desc := "(LBlockduty$Row;)V" } : Jvm.MethodName)) ∈ gtbl := gtbl_tab (i := 957) rfl rfl
set_option maxRecDepth 20000 in
theorem kt958 : (Cond.selects "Blockduty$Block" ({ cls := "Blockduty$Block", name := "takeOver", desc := "(LBlockduty$Row;)V" } : Jvm.MethodName) ({ cls := "Blockduty$Block", name := "takeOver", desc := "(LBlockduty$Row;)V" } : Jvm.MethodName)) ∈ gtbl := gtbl_tab (i := 958) rfl rfl
set_option maxRecDepth 20000 in
theorem kt959 : (Cond.code ({ cls := "Blockduty$Block", name := "takeOver", desc := "(LBlockduty$Row;)V" } : Jvm.MethodName) prog_2_method_5_code 3 (Option.none : Option Jvm.ClassFile.FieldType)) ∈ gtbl := gtbl_tab (i := 959) rfl rfl
set_option maxRecDepth 20000 in
theorem kt960 : (Cond.methodLink "Blockduty$Block" 71 ({ cls := "Blockduty$Row", name := "copy", desc := "(LBlockduty$Row;)V" } : Jvm.MethodName)) ∈ gtbl := gtbl_tab (i := 960) rfl rfl
set_option maxRecDepth 20000 in
theorem kt967 : (Cond.code ({ cls := "Blockduty", name := "cut", desc := "(I)I" } : Jvm.MethodName) prog_1_method_13_code 4 (Option.some Jvm.ClassFile.FieldType.int)) ∈ gtbl := gtbl_tab (i := 967) rfl rfl
set_option maxRecDepth 20000 in
theorem kt968 : (Cond.methodLink "Blockduty" 246 ({ cls := "Blockduty$WorkRules", name := "planPieces", desc := "(LBlockduty$Row;[I)I" } : Jvm.MethodName)) ∈ gtbl := gtbl_tab (i := 968) rfl rfl
set_option maxRecDepth 20000 in
theorem kt969 : (Cond.instanceMethod ({ cls := "Blockduty$WorkRules", name := "planPieces", desc := "(LBlockduty$Row;[I)I" } : Jvm.MethodName)) ∈ gtbl := gtbl_tab (i := 969) rfl rfl
set_option maxRecDepth 20000 in
theorem kt970 : (Cond.selects "Blockduty$WorkRules" ({ cls := "Blockduty$WorkRules", name := "planPieces", desc := "(LBlockduty$Row;[I)I" } : Jvm.MethodName) ({ cls := "Blockduty$WorkRules", name := "planPieces", desc := "(LBlockduty$Row;[I)I" } : Jvm.MethodName)) ∈ gtbl := gtbl_tab (i := 970) rfl rfl
set_option maxRecDepth 20000 in
theorem kt971 : (Cond.code ({ cls := "Blockduty$WorkRules", name := "planPieces", desc := "(LBlockduty$Row;[I)I" } : Jvm.MethodName) prog_10_method_2_code 6 (Option.some Jvm.ClassFile.FieldType.int)) ∈ gtbl := gtbl_tab (i := 971) rfl rfl
set_option maxRecDepth 20000 in
theorem kt972 : (Cond.methodLink "Blockduty$WorkRules" 18 ({ cls := "Blockduty$Row", name := "count", desc := "()I" } : Jvm.MethodName)) ∈ gtbl := gtbl_tab (i := 972) rfl rfl
set_option maxRecDepth 20000 in
theorem kt973 : (Cond.methodLink "Blockduty$WorkRules" 24 ({ cls := "Blockduty$WorkRules", name := "endOfLongest", desc := "(LBlockduty$Row;I)I" } : Jvm.MethodName)) ∈ gtbl := gtbl_tab (i := 973) rfl rfl
set_option maxRecDepth 20000 in
theorem kt975 : (Cond.instanceMethod ({ cls := "Blockduty$WorkRules", name := "endOfLongest", desc := "(LBlockduty$Row;I)I" } : Jvm.MethodName)) ∈ gtbl := gtbl_tab (i := 975) rfl rfl
set_option maxRecDepth 20000 in
theorem kt976 : (Cond.code ({ cls := "Blockduty$WorkRules", name := "endOfLongest", desc := "(LBlockduty$Row;I)I" } : Jvm.MethodName) prog_10_method_3_code 9 (Option.some Jvm.ClassFile.FieldType.int)) ∈ gtbl := gtbl_tab (i := 976) rfl rfl
set_option maxRecDepth 20000 in
theorem kt977 : (Cond.methodLink "Blockduty$WorkRules" 28 ({ cls := "Blockduty$Row", name := "get", desc := "(I)LBlockduty$Trip;" } : Jvm.MethodName)) ∈ gtbl := gtbl_tab (i := 977) rfl rfl
set_option maxRecDepth 20000 in
theorem kt978 : (Cond.methodLink "Blockduty$WorkRules" 36 ({ cls := "java/util/ArrayList", name := "get", desc := "(I)Ljava/lang/Object;" } : Jvm.MethodName)) ∈ gtbl := gtbl_tab (i := 978) rfl rfl
set_option maxRecDepth 20000 in
theorem kt979 : (Cond.classLink "Blockduty$WorkRules" 41 "Blockduty$Trip") ∈ gtbl := gtbl_tab (i := 979) rfl rfl
set_option maxRecDepth 20000 in
theorem kt980 : (Cond.methodLink "Blockduty$WorkRules" 43 ({ cls := "Blockduty$Trip", name := "emptyTo", desc := "(LBlockduty$Trip;)I" } : Jvm.MethodName)) ∈ gtbl := gtbl_tab (i := 980) rfl rfl
set_option maxRecDepth 20000 in
theorem kt981 : (Cond.methodLink "Blockduty$WorkRules" 47 ({ cls := "Blockduty$Trip", name := "waitBehind", desc := "(LBlockduty$Trip;)I" } : Jvm.MethodName)) ∈ gtbl := gtbl_tab (i := 981) rfl rfl
set_option maxRecDepth 20000 in
theorem kt982 : (Cond.instanceMethod ({ cls := "Blockduty$Trip", name := "waitBehind", desc := "(LBlockduty$Trip;)I" } : Jvm.MethodName)) ∈ gtbl := gtbl_tab (i := 982) rfl rfl
set_option maxRecDepth 20000 in
theorem kt983 : (Cond.selects "Blockduty$Trip" ({ cls := "Blockduty$Trip", name := "waitBehind", desc := "(LBlockduty$Trip;)I" } : Jvm.MethodName) ({ cls := "Blockduty$Trip", name := "waitBehind", desc := "(LBlockduty$Trip;)I" } : Jvm.MethodName)) ∈ gtbl := gtbl_tab (i := 983) rfl rfl
set_option maxRecDepth 20000 in
theorem kt984 : (Cond.code ({ cls := "Blockduty$Trip", name := "waitBehind", desc := "(LBlockduty$Trip;)I" } : Jvm.MethodName) prog_9_method_4_code 2 (Option.some Jvm.ClassFile.FieldType.int)) ∈ gtbl := gtbl_tab (i := 984) rfl rfl
set_option maxRecDepth 20000 in
theorem kt985 : (Cond.methodLink "Blockduty$WorkRules" 53 ({ cls := "Blockduty$Trip", name := "end", desc := "()I" } : Jvm.MethodName)) ∈ gtbl := gtbl_tab (i := 985) rfl rfl
set_option maxRecDepth 20000 in
theorem kt987 : (Cond.methodLink "Blockduty" 252 ({ cls := "Blockduty$Block", name := "cutAt", desc := "([II)V" } : Jvm.MethodName)) ∈ gtbl := gtbl_tab (i := 987) rfl rfl
set_option maxRecDepth 20000 in
theorem kt988 : (Cond.instanceMethod ({ cls := "Blockduty$Block", name := "cutAt", desc := "([II)V" } : Jvm.MethodName)) ∈ gtbl := gtbl_tab (i := 988) rfl rfl
set_option maxRecDepth 20000 in
theorem kt989 : (Cond.selects "Blockduty$Block" ({ cls := "Blockduty$Block", name := "cutAt", desc := "([II)V" } : Jvm.MethodName) ({ cls := "Blockduty$Block", name := "cutAt", desc := "([II)V" } : Jvm.MethodName)) ∈ gtbl := gtbl_tab (i := 989) rfl rfl
set_option maxRecDepth 20000 in
theorem kt990 : (Cond.code ({ cls := "Blockduty$Block", name := "cutAt", desc := "([II)V" } : Jvm.MethodName) prog_2_method_7_code 5 (Option.none : Option Jvm.ClassFile.FieldType)) ∈ gtbl := gtbl_tab (i := 990) rfl rfl
set_option maxRecDepth 20000 in
theorem kt991 : (Cond.methodLink "Blockduty$Block" 85 ({ cls := "Blockduty$Block", name := "addPiece", desc := "(II)V" } : Jvm.MethodName)) ∈ gtbl := gtbl_tab (i := 991) rfl rfl
set_option maxRecDepth 20000 in
theorem kt993 : (Cond.instanceMethod ({ cls := "Blockduty$Block", name := "addPiece", desc := "(II)V" } : Jvm.MethodName)) ∈ gtbl := gtbl_tab (i := 993) rfl rfl
set_option maxRecDepth 20000 in
theorem kt994 : (Cond.code ({ cls := "Blockduty$Block", name := "addPiece", desc := "(II)V" } : Jvm.MethodName) prog_2_method_8_code 7 (Option.none : Option Jvm.ClassFile.FieldType)) ∈ gtbl := gtbl_tab (i := 994) rfl rfl
set_option maxRecDepth 20000 in
theorem kt995 : (Cond.methodLink "Blockduty$Block" 89 ({ cls := "Blockduty$Row", name := "get", desc := "(I)LBlockduty$Trip;" } : Jvm.MethodName)) ∈ gtbl := gtbl_tab (i := 995) rfl rfl
set_option maxRecDepth 20000 in
theorem kt996 : (Cond.instantiable "Blockduty$Piece" 6) ∈ gtbl := gtbl_tab (i := 996) rfl rfl
set_option maxRecDepth 20000 in
theorem kt997 : (Cond.methodLink "Blockduty$Block" 92 ({ cls := "Blockduty$Piece", name := "<init>", desc := "(ILBlockduty$Row;LBlockduty$Trip;LBlockduty$Trip;I)V" } : Jvm.MethodName)) ∈ gtbl := gtbl_tab (i := 997) rfl rfl
set_option maxRecDepth 20000 in
theorem kt998 : (Cond.instanceMethod ({ cls := "Blockduty$Piece", name := "<init>", desc := "(ILBlockduty$Row;LBlockduty$Trip;LBlockduty$Trip;I)V" } : Jvm.MethodName)) ∈ gtbl := gtbl_tab (i := 998) rfl rfl
set_option maxRecDepth 20000 in
theorem kt999 : (Cond.code ({ cls := "Blockduty$Piece", name := "<init>", desc := "(ILBlockduty$Row;LBlockduty$Trip;LBlockduty$Trip;I)V" } : Jvm.MethodName) prog_6_method_1_code 6 (Option.none : Option Jvm.ClassFile.FieldType)) ∈ gtbl := gtbl_tab (i := 999) rfl rfl
set_option maxRecDepth 20000 in
theorem kt1000 : (Cond.methodLink "Blockduty$Piece" 3 ({ cls := "java/lang/Object", name := "<init>", desc := "()V" } : Jvm.MethodName)) ∈ gtbl := gtbl_tab (i := 1000) rfl rfl
set_option maxRecDepth 20000 in
theorem kt1001 : (Cond.fieldLink "Blockduty$Piece" 9 "Blockduty$Piece" "number" "I") ∈ gtbl := gtbl_tab (i := 1001) rfl rfl
set_option maxRecDepth 20000 in
theorem kt1002 : (Cond.fieldLink "Blockduty$Trip" 53 "Blockduty$Piece" "number" "I") ∈ gtbl := gtbl_tab (i := 1002) rfl rfl
set_option maxRecDepth 20000 in
theorem kt1003 : (Cond.fieldLink "Blockduty$Piece" 15 "Blockduty$Piece" "row" "LBlockduty$Row;") ∈ gtbl := gtbl_tab (i := 1003) rfl rfl
set_option maxRecDepth 20000 in
theorem kt1004 : (Cond.fieldLink "Blockduty$Piece" 19 "Blockduty$Piece" "first" "LBlockduty$Trip;") ∈ gtbl := gtbl_tab (i := 1004) rfl rfl
set_option maxRecDepth 20000 in
theorem kt1005 : (Cond.fieldLink "Blockduty" 373 "Blockduty$Piece" "first" "LBlockduty$Trip;") ∈ gtbl := gtbl_tab (i := 1005) rfl rfl
set_option maxRecDepth 20000 in
theorem kt1006 : (Cond.fieldLink "Blockduty$Piece" 23 "Blockduty$Piece" "last" "LBlockduty$Trip;") ∈ gtbl := gtbl_tab (i := 1006) rfl rfl
set_option maxRecDepth 20000 in
theorem kt1007 : (Cond.fieldLink "Blockduty" 377 "Blockduty$Piece" "last" "LBlockduty$Trip;") ∈ gtbl := gtbl_tab (i := 1007) rfl rfl
set_option maxRecDepth 20000 in
theorem kt1008 : (Cond.fieldLink "Blockduty$Piece" 26 "Blockduty$Piece" "tripCount" "I") ∈ gtbl := gtbl_tab (i := 1008) rfl rfl
set_option maxRecDepth 20000 in
theorem kt1009 : (Cond.fieldLink "Blockduty" 379 "Blockduty$Piece" "tripCount" "I") ∈ gtbl := gtbl_tab (i := 1009) rfl rfl
set_option maxRecDepth 20000 in
theorem kt1010 : (Cond.fieldLink "Blockduty$Piece" 38 "Blockduty$Piece" "driver" "LBlockduty$Driver;") ∈ gtbl := gtbl_tab (i := 1010) rfl rfl
set_option maxRecDepth 20000 in
theorem kt1011 : (Cond.fieldLink "Blockduty$Trip" 68 "Blockduty$Piece" "driver" "LBlockduty$Driver;") ∈ gtbl := gtbl_tab (i := 1011) rfl rfl
set_option maxRecDepth 20000 in
theorem kt1012 : (Cond.fieldLink "Blockduty" 266 "Blockduty$Piece" "driver" "LBlockduty$Driver;") ∈ gtbl := gtbl_tab (i := 1012) rfl rfl
set_option maxRecDepth 20000 in
theorem kt1013 : (Cond.laysFinal "Blockduty$Piece" "Blockduty$Piece" "number" "I") ∈ gtbl := gtbl_tab (i := 1013) rfl rfl
set_option maxRecDepth 20000 in
theorem kt1015 : (Cond.laysFinal "Blockduty$Piece" "Blockduty$Piece" "row" "LBlockduty$Row;") ∈ gtbl := gtbl_tab (i := 1015) rfl rfl
set_option maxRecDepth 20000 in
theorem kt1017 : (Cond.laysFinal "Blockduty$Piece" "Blockduty$Piece" "first" "LBlockduty$Trip;") ∈ gtbl := gtbl_tab (i := 1017) rfl rfl
set_option maxRecDepth 20000 in
theorem kt1019 : (Cond.laysFinal "Blockduty$Piece" "Blockduty$Piece" "last" "LBlockduty$Trip;") ∈ gtbl := gtbl_tab (i := 1019) rfl rfl
set_option maxRecDepth 20000 in
theorem kt1021 : (Cond.laysFinal "Blockduty$Piece" "Blockduty$Piece" "tripCount" "I") ∈ gtbl := gtbl_tab (i := 1021) rfl rfl
set_option maxRecDepth 20000 in
theorem kt1023 : (Cond.lays "Blockduty$Piece" "Blockduty$Piece" "driver" "LBlockduty$Driver;") ∈ gtbl := gtbl_tab (i := 1023) rfl rfl
set_option maxRecDepth 20000 in
theorem kt1026 : (Cond.methodLink "BlockdutyLaw" 133 ({ cls := "Blockduty", name := "ofPiece", desc := "(III)I" } : Jvm.MethodName)) ∈ gtbl := gtbl_tab (i := 1026) rfl rfl
set_option maxRecDepth 20000 in
theorem kt1033 : (Cond.code ({ cls := "Blockduty", name := "give", desc := "(III)I" } : Jvm.MethodName) prog_1_method_14_code 6 (Option.some Jvm.ClassFile.FieldType.int)) ∈ gtbl := gtbl_tab (i := 1033) rfl rfl
set_option maxRecDepth 20000 in
theorem kt1035 : (Cond.methodLink "Blockduty" 272 ({ cls := "Blockduty$Driver", name := "canGet", desc := "(LBlockduty$Piece;)Z" } : Jvm.MethodName)) ∈ gtbl := gtbl_tab (i := 1035) rfl rfl
set_option maxRecDepth 20000 in
theorem kt1036 : (Cond.instanceMethod ({ cls := "Blockduty$Driver", name := "canGet", desc := "(LBlockduty$Piece;)Z" } : Jvm.MethodName)) ∈ gtbl := gtbl_tab (i := 1036) rfl rfl
set_option maxRecDepth 20000 in
theorem kt1037 : (Cond.selects "Blockduty$Driver" ({ cls := "Blockduty$Driver", name := "canGet", desc := "(LBlockduty$Piece;)Z" } : Jvm.MethodName) ({ cls := "Blockduty$Driver", name := "canGet", desc := "(LBlockduty$Piece;)Z" } : Jvm.MethodName)) ∈ gtbl := gtbl_tab (i := 1037) rfl rfl
set_option maxRecDepth 20000 in
theorem kt1038 : (Cond.code ({ cls := "Blockduty$Driver", name := "canGet", desc := "(LBlockduty$Piece;)Z" } : Jvm.MethodName) prog_3_method_2_code 3 (Option.some Jvm.ClassFile.FieldType.boolean)) ∈ gtbl := gtbl_tab (i := 1038) rfl rfl
set_option maxRecDepth 20000 in
theorem kt1039 : (Cond.methodLink "Blockduty$Driver" 32 ({ cls := "Blockduty$Piece", name := "isNear", desc := "(LBlockduty$Piece;)Z" } : Jvm.MethodName)) ∈ gtbl := gtbl_tab (i := 1039) rfl rfl
set_option maxRecDepth 20000 in
theorem kt1040 : (Cond.instanceMethod ({ cls := "Blockduty$Piece", name := "isNear", desc := "(LBlockduty$Piece;)Z" } : Jvm.MethodName)) ∈ gtbl := gtbl_tab (i := 1040) rfl rfl
set_option maxRecDepth 20000 in
theorem kt1041 : (Cond.selects "Blockduty$Piece" ({ cls := "Blockduty$Piece", name := "isNear", desc := "(LBlockduty$Piece;)Z" } : Jvm.MethodName) ({ cls := "Blockduty$Piece", name := "isNear", desc := "(LBlockduty$Piece;)Z" } : Jvm.MethodName)) ∈ gtbl := gtbl_tab (i := 1041) rfl rfl
set_option maxRecDepth 20000 in
theorem kt1042 : (Cond.code ({ cls := "Blockduty$Piece", name := "isNear", desc := "(LBlockduty$Piece;)Z" } : Jvm.MethodName) prog_6_method_3_code 2 (Option.some Jvm.ClassFile.FieldType.boolean)) ∈ gtbl := gtbl_tab (i := 1042) rfl rfl
set_option maxRecDepth 20000 in
theorem kt1043 : (Cond.methodLink "Blockduty$Driver" 36 ({ cls := "Blockduty$Driver", name := "minutes", desc := "()I" } : Jvm.MethodName)) ∈ gtbl := gtbl_tab (i := 1043) rfl rfl
set_option maxRecDepth 20000 in
theorem kt1047 : (Cond.code ({ cls := "BlockdutyLaw", name := "isBroken", desc := "(LBlockduty;II)Z" } : Jvm.MethodName) method_11_code 6 (Option.some Jvm.ClassFile.FieldType.boolean)) ∈ gtbl := gtbl_tab (i := 1047) rfl rfl
set_option maxRecDepth 20000 in
theorem kt1048 : (Cond.methodLink "BlockdutyLaw" 140 ({ cls := "Blockduty", name := "wouldLose", desc := "(II)I" } : Jvm.MethodName)) ∈ gtbl := gtbl_tab (i := 1048) rfl rfl
set_option maxRecDepth 20000 in
theorem kt1049 : (Cond.methodLink "BlockdutyLaw" 143 ({ cls := "Blockduty", name := "breakdown", desc := "(II)I" } : Jvm.MethodName)) ∈ gtbl := gtbl_tab (i := 1049) rfl rfl
set_option maxRecDepth 20000 in
theorem kt1050 : (Cond.instanceMethod ({ cls := "Blockduty", name := "breakdown", desc := "(II)I" } : Jvm.MethodName)) ∈ gtbl := gtbl_tab (i := 1050) rfl rfl
set_option maxRecDepth 20000 in
theorem kt1051 : (Cond.selects "Blockduty" ({ cls := "Blockduty", name := "breakdown", desc := "(II)I" } : Jvm.MethodName) ({ cls := "Blockduty", name := "breakdown", desc := "(II)I" } : Jvm.MethodName)) ∈ gtbl := gtbl_tab (i := 1051) rfl rfl
set_option maxRecDepth 20000 in
theorem kt1052 : (Cond.code ({ cls := "Blockduty", name := "breakdown", desc := "(II)I" } : Jvm.MethodName) prog_1_method_17_code 5 (Option.some Jvm.ClassFile.FieldType.int)) ∈ gtbl := gtbl_tab (i := 1052) rfl rfl
set_option maxRecDepth 20000 in
theorem kt1055 : (Cond.code ({ cls := "BlockdutyLaw", name := "isSound", desc := "(LBlockduty;[I[ZI[II)Z" } : Jvm.MethodName) method_12_code 22 (Option.some Jvm.ClassFile.FieldType.boolean)) ∈ gtbl := gtbl_tab (i := 1055) rfl rfl
set_option maxRecDepth 20000 in
theorem kt1056 : (Cond.methodLink "BlockdutyLaw" 146 ({ cls := "Blockduty", name := "lost", desc := "(I)I" } : Jvm.MethodName)) ∈ gtbl := gtbl_tab (i := 1056) rfl rfl
set_option maxRecDepth 20000 in
theorem kt1057 : (Cond.classLink "BlockdutyLaw" 149 "[I") ∈ gtbl := gtbl_tab (i := 1057) rfl rfl
set_option maxRecDepth 20000 in
theorem kt1078 : (Cond.selects "[Ljava/lang/Object;" ({ cls := "java/lang/Object", name := "getClass", desc := "()Ljava/lang/Class;" } : Jvm.MethodName) ({ cls := "java/lang/Object", name := "getClass", desc := "()Ljava/lang/Class;" } : Jvm.MethodName)) ∈ gtbl := gtbl_tab (i := 1078) rfl rfl
