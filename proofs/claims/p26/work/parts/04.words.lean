/-! words of the tables by their places -/
theorem qw_0 : Cond.selects "java/lang/Throwable" (⟨"java/lang/Throwable", "fillInStackTrace", "(I)Ljava/lang/Throwable;"⟩ : MethodName) (⟨"java/lang/Throwable", "fillInStackTrace", "(I)Ljava/lang/Throwable;"⟩ : MethodName) ∈ lw_G := List.mem_filter.mpr ⟨List.mem_of_getElem? (i := 0) (by decide +kernel), by decide +kernel⟩
theorem qw_1 : Cond.selects RX4 yX4_loadOf yX4_loadOf ∈ lw_G := List.mem_filter.mpr ⟨List.mem_of_getElem? (i := 1) (by decide +kernel), by decide +kernel⟩
theorem qw_2 : Cond.selects RX4 yX4_reckonDues yX4_reckonDues ∈ lw_G := List.mem_filter.mpr ⟨List.mem_of_getElem? (i := 2) (by decide +kernel), by decide +kernel⟩
theorem qw_3 : Cond.selects RX4 yX4_reckonPenalties yX4_reckonPenalties ∈ lw_G := List.mem_filter.mpr ⟨List.mem_of_getElem? (i := 3) (by decide +kernel), by decide +kernel⟩
theorem qw_4 : Cond.selects RX0 yX0_lineUp yX0_lineUp ∈ lw_G := List.mem_filter.mpr ⟨List.mem_of_getElem? (i := 4) (by decide +kernel), by decide +kernel⟩
theorem qw_5 : Cond.selects RX0 yX0_serve yX0_serve ∈ lw_G := List.mem_filter.mpr ⟨List.mem_of_getElem? (i := 5) (by decide +kernel), by decide +kernel⟩
theorem qw_6 : Cond.selects RX4 yX4_sumOfDues yX4_sumOfDues ∈ lw_G := List.mem_filter.mpr ⟨List.mem_of_getElem? (i := 6) (by decide +kernel), by decide +kernel⟩
theorem qw_7 : Cond.selects RJx4a65c yJx4a65c_add_72be8 yJx4a65c_add_72be8 ∈ lw_G := List.mem_filter.mpr ⟨List.mem_of_getElem? (i := 7) (by decide +kernel), by decide +kernel⟩
theorem qw_8 : Cond.selects RJx4a65c yJx4a65c_grow_d5877 yJx4a65c_grow_d5877 ∈ lw_G := List.mem_filter.mpr ⟨List.mem_of_getElem? (i := 8) (by decide +kernel), by decide +kernel⟩
theorem qw_9 : Cond.selects RJx4a65c yJx4a65c_grow_92f84 yJx4a65c_grow_92f84 ∈ lw_G := List.mem_filter.mpr ⟨List.mem_of_getElem? (i := 9) (by decide +kernel), by decide +kernel⟩
theorem qw_10 : Cond.selects RX4 yX4_flightAt yX4_flightAt ∈ lw_G := List.mem_filter.mpr ⟨List.mem_of_getElem? (i := 10) (by decide +kernel), by decide +kernel⟩
theorem qw_11 : Cond.selects RX4 yX4_regulationAt yX4_regulationAt ∈ lw_G := List.mem_filter.mpr ⟨List.mem_of_getElem? (i := 11) (by decide +kernel), by decide +kernel⟩
theorem qw_12 : Cond.selects RX4 yX4_chargedToRegulation yX4_chargedToRegulation ∈ lw_G := List.mem_filter.mpr ⟨List.mem_of_getElem? (i := 12) (by decide +kernel), by decide +kernel⟩
theorem qw_13 : Cond.selects RX4 yX4_lineUpEntering yX4_lineUpEntering ∈ lw_G := List.mem_filter.mpr ⟨List.mem_of_getElem? (i := 13) (by decide +kernel), by decide +kernel⟩
theorem qw_14 : Cond.initialized "SkyloadBureauLaw" ∈ lw_G := List.mem_filter.mpr ⟨List.mem_of_getElem? (i := 14) (by decide +kernel), by decide +kernel⟩
theorem qw_15 : Cond.initialized "SkyloadBureau" ∈ lw_G := List.mem_filter.mpr ⟨List.mem_of_getElem? (i := 15) (by decide +kernel), by decide +kernel⟩
theorem qw_16 : Cond.initialized "java/util/AbstractCollection" ∈ lw_G := List.mem_filter.mpr ⟨List.mem_of_getElem? (i := 16) (by decide +kernel), by decide +kernel⟩
theorem qw_17 : Cond.initialized "java/util/AbstractList" ∈ lw_G := List.mem_filter.mpr ⟨List.mem_of_getElem? (i := 17) (by decide +kernel), by decide +kernel⟩
theorem qw_18 : Cond.initialized "java/util/ArrayList" ∈ lw_G := List.mem_filter.mpr ⟨List.mem_of_getElem? (i := 18) (by decide +kernel), by decide +kernel⟩
theorem qw_19 : Cond.initialized "SkyloadBureau$Dealing" ∈ lw_G := List.mem_filter.mpr ⟨List.mem_of_getElem? (i := 19) (by decide +kernel), by decide +kernel⟩
theorem qw_20 : Cond.initialized "SkyloadBureau$Line" ∈ lw_G := List.mem_filter.mpr ⟨List.mem_of_getElem? (i := 20) (by decide +kernel), by decide +kernel⟩
theorem qw_21 : Cond.initialized "java/util/Objects" ∈ lw_G := List.mem_filter.mpr ⟨List.mem_of_getElem? (i := 21) (by decide +kernel), by decide +kernel⟩
theorem qw_22 : Cond.initialized "jdk/internal/util/Preconditions" ∈ lw_G := List.mem_filter.mpr ⟨List.mem_of_getElem? (i := 22) (by decide +kernel), by decide +kernel⟩
theorem qw_23 : Cond.initialized "java/lang/Math" ∈ lw_G := List.mem_filter.mpr ⟨List.mem_of_getElem? (i := 23) (by decide +kernel), by decide +kernel⟩
theorem qw_24 : Cond.initialized "java/lang/Throwable" ∈ lw_G := List.mem_filter.mpr ⟨List.mem_of_getElem? (i := 24) (by decide +kernel), by decide +kernel⟩
theorem qw_25 : Cond.initialized "java/lang/Exception" ∈ lw_G := List.mem_filter.mpr ⟨List.mem_of_getElem? (i := 25) (by decide +kernel), by decide +kernel⟩
theorem qw_26 : Cond.initialized "java/lang/RuntimeException" ∈ lw_G := List.mem_filter.mpr ⟨List.mem_of_getElem? (i := 26) (by decide +kernel), by decide +kernel⟩
theorem qw_27 : Cond.initialized "java/lang/IndexOutOfBoundsException" ∈ lw_G := List.mem_filter.mpr ⟨List.mem_of_getElem? (i := 27) (by decide +kernel), by decide +kernel⟩
theorem qw_28 : Cond.initialized "java/lang/IllegalArgumentException" ∈ lw_G := List.mem_filter.mpr ⟨List.mem_of_getElem? (i := 28) (by decide +kernel), by decide +kernel⟩
theorem qw_29 : Cond.initialized "java/lang/IllegalStateException" ∈ lw_G := List.mem_filter.mpr ⟨List.mem_of_getElem? (i := 29) (by decide +kernel), by decide +kernel⟩
theorem qw_30 : Cond.initialized "SkyloadBureau$Flight" ∈ lw_G := List.mem_filter.mpr ⟨List.mem_of_getElem? (i := 30) (by decide +kernel), by decide +kernel⟩
theorem qw_31 : Cond.initialized "jdk/internal/util/ArraysSupport" ∈ lw_G := List.mem_filter.mpr ⟨List.mem_of_getElem? (i := 31) (by decide +kernel), by decide +kernel⟩
theorem qw_32 : Cond.initialized "java/util/Arrays" ∈ lw_G := List.mem_filter.mpr ⟨List.mem_of_getElem? (i := 32) (by decide +kernel), by decide +kernel⟩
theorem qw_33 : Cond.initialized "java/lang/System" ∈ lw_G := List.mem_filter.mpr ⟨List.mem_of_getElem? (i := 33) (by decide +kernel), by decide +kernel⟩
theorem qw_34 : Cond.initialized "SkyloadBureau$Regulation" ∈ lw_G := List.mem_filter.mpr ⟨List.mem_of_getElem? (i := 34) (by decide +kernel), by decide +kernel⟩
theorem qw_35 : Cond.classLink "SkyloadBureauLaw" 11 "SkyloadBureau" ∈ lw_G := List.mem_filter.mpr ⟨List.mem_of_getElem? (i := 35) (by decide +kernel), by decide +kernel⟩
theorem qw_36 : Cond.instantiable "SkyloadBureau" 4 ∈ lw_G := List.mem_filter.mpr ⟨List.mem_of_getElem? (i := 36) (by decide +kernel), by decide +kernel⟩
theorem qw_37 : Cond.methodLink "SkyloadBureauLaw" 127 yX4_init ∈ lw_G := List.mem_filter.mpr ⟨List.mem_of_getElem? (i := 37) (by decide +kernel), by decide +kernel⟩
theorem qw_38 : Cond.instanceMethod yX4_init ∈ lw_G := List.mem_filter.mpr ⟨List.mem_of_getElem? (i := 38) (by decide +kernel), by decide +kernel⟩
theorem qw_39 : Cond.code yX4_init prog_1_method_1_code 1 (Option.none : Option Jvm.ClassFile.FieldType) ∈ lw_G := List.mem_filter.mpr ⟨List.mem_of_getElem? (i := 39) (by decide +kernel), by decide +kernel⟩
theorem qw_40 : Cond.methodLink "SkyloadBureau" 1 (⟨"java/lang/Object", "<init>", "()V"⟩ : MethodName) ∈ lw_G := List.mem_filter.mpr ⟨List.mem_of_getElem? (i := 40) (by decide +kernel), by decide +kernel⟩
theorem qw_41 : Cond.instanceMethod (⟨"java/lang/Object", "<init>", "()V"⟩ : MethodName) ∈ lw_G := List.mem_filter.mpr ⟨List.mem_of_getElem? (i := 41) (by decide +kernel), by decide +kernel⟩
theorem qw_42 : Cond.code (⟨"java/lang/Object", "<init>", "()V"⟩ : MethodName) object_method_1_code 1 (Option.none : Option Jvm.ClassFile.FieldType) ∈ lw_G := List.mem_filter.mpr ⟨List.mem_of_getElem? (i := 42) (by decide +kernel), by decide +kernel⟩
theorem qw_43 : Cond.classLink "SkyloadBureau" 7 "java/util/ArrayList" ∈ lw_G := List.mem_filter.mpr ⟨List.mem_of_getElem? (i := 43) (by decide +kernel), by decide +kernel⟩
theorem qw_44 : Cond.instantiable "java/util/ArrayList" 3 ∈ lw_G := List.mem_filter.mpr ⟨List.mem_of_getElem? (i := 44) (by decide +kernel), by decide +kernel⟩
theorem qw_45 : Cond.methodLink "SkyloadBureau" 9 yJx4a65c_init_da8c8 ∈ lw_G := List.mem_filter.mpr ⟨List.mem_of_getElem? (i := 45) (by decide +kernel), by decide +kernel⟩
theorem qw_46 : Cond.instanceMethod yJx4a65c_init_da8c8 ∈ lw_G := List.mem_filter.mpr ⟨List.mem_of_getElem? (i := 46) (by decide +kernel), by decide +kernel⟩
theorem qw_47 : Cond.code yJx4a65c_init_da8c8 prog_22_method_2_code 1 (Option.none : Option Jvm.ClassFile.FieldType) ∈ lw_G := List.mem_filter.mpr ⟨List.mem_of_getElem? (i := 47) (by decide +kernel), by decide +kernel⟩
theorem qw_48 : Cond.methodLink "java/util/ArrayList" 1 yJxc12de_init_da8c8 ∈ lw_G := List.mem_filter.mpr ⟨List.mem_of_getElem? (i := 48) (by decide +kernel), by decide +kernel⟩
theorem qw_49 : Cond.instanceMethod yJxc12de_init_da8c8 ∈ lw_G := List.mem_filter.mpr ⟨List.mem_of_getElem? (i := 49) (by decide +kernel), by decide +kernel⟩
theorem qw_50 : Cond.code yJxc12de_init_da8c8 prog_21_method_1_code 1 (Option.none : Option Jvm.ClassFile.FieldType) ∈ lw_G := List.mem_filter.mpr ⟨List.mem_of_getElem? (i := 50) (by decide +kernel), by decide +kernel⟩
theorem qw_51 : Cond.methodLink "java/util/AbstractList" 1 yJxa1e45_init_da8c8 ∈ lw_G := List.mem_filter.mpr ⟨List.mem_of_getElem? (i := 51) (by decide +kernel), by decide +kernel⟩
theorem qw_52 : Cond.instanceMethod yJxa1e45_init_da8c8 ∈ lw_G := List.mem_filter.mpr ⟨List.mem_of_getElem? (i := 52) (by decide +kernel), by decide +kernel⟩
theorem qw_53 : Cond.code yJxa1e45_init_da8c8 prog_20_method_1_code 1 (Option.none : Option Jvm.ClassFile.FieldType) ∈ lw_G := List.mem_filter.mpr ⟨List.mem_of_getElem? (i := 53) (by decide +kernel), by decide +kernel⟩
theorem qw_54 : Cond.methodLink "java/util/AbstractCollection" 1 (⟨"java/lang/Object", "<init>", "()V"⟩ : MethodName) ∈ lw_G := List.mem_filter.mpr ⟨List.mem_of_getElem? (i := 54) (by decide +kernel), by decide +kernel⟩
theorem qw_55 : Cond.fieldLink "java/util/ArrayList" 39 "java/util/ArrayList" "DEFAULTCAPACITY_EMPTY_ELEMENTDATA" "[Ljava/lang/Object;" ∈ lw_G := List.mem_filter.mpr ⟨List.mem_of_getElem? (i := 55) (by decide +kernel), by decide +kernel⟩
theorem qw_57 : Cond.fieldLink "java/util/ArrayList" 9 "java/util/ArrayList" "elementData" "[Ljava/lang/Object;" ∈ lw_G := List.mem_filter.mpr ⟨List.mem_of_getElem? (i := 57) (by decide +kernel), by decide +kernel⟩
theorem qw_58 : Cond.fieldLink "java/util/ArrayList" 48 "java/util/ArrayList" "size" "I" ∈ lw_G := List.mem_filter.mpr ⟨List.mem_of_getElem? (i := 58) (by decide +kernel), by decide +kernel⟩
theorem qw_59 : Cond.fieldLink "java/util/AbstractList" 7 "java/util/AbstractList" "modCount" "I" ∈ lw_G := List.mem_filter.mpr ⟨List.mem_of_getElem? (i := 59) (by decide +kernel), by decide +kernel⟩
theorem qw_60 : Cond.fieldLink "java/util/ArrayList" 63 "java/util/ArrayList" "modCount" "I" ∈ lw_G := List.mem_filter.mpr ⟨List.mem_of_getElem? (i := 60) (by decide +kernel), by decide +kernel⟩
theorem qw_61 : Cond.sameField "java/util/ArrayList" "java/util/AbstractList" "modCount" "I" ∈ lw_G := List.mem_filter.mpr ⟨List.mem_of_getElem? (i := 61) (by decide +kernel), by decide +kernel⟩
theorem qw_62 : Cond.lays "java/util/ArrayList" "java/util/ArrayList" "elementData" "[Ljava/lang/Object;" ∈ lw_G := List.mem_filter.mpr ⟨List.mem_of_getElem? (i := 62) (by decide +kernel), by decide +kernel⟩
theorem qw_64 : Cond.lays "java/util/ArrayList" "java/util/ArrayList" "size" "I" ∈ lw_G := List.mem_filter.mpr ⟨List.mem_of_getElem? (i := 64) (by decide +kernel), by decide +kernel⟩
theorem qw_66 : Cond.lays "java/util/ArrayList" "java/util/AbstractList" "modCount" "I" ∈ lw_G := List.mem_filter.mpr ⟨List.mem_of_getElem? (i := 66) (by decide +kernel), by decide +kernel⟩
theorem qw_68 : Cond.superclass "java/util/ArrayList" "java/util/AbstractList" ∈ lw_G := List.mem_filter.mpr ⟨List.mem_of_getElem? (i := 68) (by decide +kernel), by decide +kernel⟩
theorem qw_69 : Cond.classLink "SkyloadBureau" 19 "SkyloadBureau$Dealing" ∈ lw_G := List.mem_filter.mpr ⟨List.mem_of_getElem? (i := 69) (by decide +kernel), by decide +kernel⟩
theorem qw_70 : Cond.instantiable "SkyloadBureau$Dealing" 5 ∈ lw_G := List.mem_filter.mpr ⟨List.mem_of_getElem? (i := 70) (by decide +kernel), by decide +kernel⟩
theorem qw_72 : Cond.instanceMethod yX0_init ∈ lw_G := List.mem_filter.mpr ⟨List.mem_of_getElem? (i := 72) (by decide +kernel), by decide +kernel⟩
theorem qw_73 : Cond.code yX0_init prog_2_method_1_code 1 (Option.none : Option Jvm.ClassFile.FieldType) ∈ lw_G := List.mem_filter.mpr ⟨List.mem_of_getElem? (i := 73) (by decide +kernel), by decide +kernel⟩
theorem qw_74 : Cond.methodLink "SkyloadBureau$Dealing" 3 (⟨"java/lang/Object", "<init>", "()V"⟩ : MethodName) ∈ lw_G := List.mem_filter.mpr ⟨List.mem_of_getElem? (i := 74) (by decide +kernel), by decide +kernel⟩
theorem qw_75 : Cond.classLink "SkyloadBureau$Dealing" 9 "SkyloadBureau$Line" ∈ lw_G := List.mem_filter.mpr ⟨List.mem_of_getElem? (i := 75) (by decide +kernel), by decide +kernel⟩
theorem qw_76 : Cond.instantiable "SkyloadBureau$Line" 5 ∈ lw_G := List.mem_filter.mpr ⟨List.mem_of_getElem? (i := 76) (by decide +kernel), by decide +kernel⟩
theorem qw_78 : Cond.instanceMethod yX2_init ∈ lw_G := List.mem_filter.mpr ⟨List.mem_of_getElem? (i := 78) (by decide +kernel), by decide +kernel⟩
theorem qw_79 : Cond.code yX2_init prog_4_method_1_code 1 (Option.none : Option Jvm.ClassFile.FieldType) ∈ lw_G := List.mem_filter.mpr ⟨List.mem_of_getElem? (i := 79) (by decide +kernel), by decide +kernel⟩
theorem qw_80 : Cond.methodLink "SkyloadBureau$Line" 3 (⟨"java/lang/Object", "<init>", "()V"⟩ : MethodName) ∈ lw_G := List.mem_filter.mpr ⟨List.mem_of_getElem? (i := 80) (by decide +kernel), by decide +kernel⟩
theorem qw_81 : Cond.fieldLink "SkyloadBureau$Line" 9 "SkyloadBureau$Line" "numbers" "[I" ∈ lw_G := List.mem_filter.mpr ⟨List.mem_of_getElem? (i := 81) (by decide +kernel), by decide +kernel⟩
theorem qw_82 : Cond.fieldLink "SkyloadBureau$Line" 15 "SkyloadBureau$Line" "times" "[I" ∈ lw_G := List.mem_filter.mpr ⟨List.mem_of_getElem? (i := 82) (by decide +kernel), by decide +kernel⟩
theorem qw_83 : Cond.fieldLink "SkyloadBureau$Line" 18 "SkyloadBureau$Line" "slots" "[I" ∈ lw_G := List.mem_filter.mpr ⟨List.mem_of_getElem? (i := 83) (by decide +kernel), by decide +kernel⟩
theorem qw_84 : Cond.fieldLink "SkyloadBureau$Line" 21 "SkyloadBureau$Line" "targets" "[I" ∈ lw_G := List.mem_filter.mpr ⟨List.mem_of_getElem? (i := 84) (by decide +kernel), by decide +kernel⟩
theorem qw_85 : Cond.fieldLink "SkyloadBureau$Line" 24 "SkyloadBureau$Line" "count" "I" ∈ lw_G := List.mem_filter.mpr ⟨List.mem_of_getElem? (i := 85) (by decide +kernel), by decide +kernel⟩
theorem qw_86 : Cond.fieldLink "SkyloadBureau$Dealing" 39 "SkyloadBureau$Line" "count" "I" ∈ lw_G := List.mem_filter.mpr ⟨List.mem_of_getElem? (i := 86) (by decide +kernel), by decide +kernel⟩
theorem qw_87 : Cond.fieldLink "SkyloadBureau" 176 "SkyloadBureau$Line" "count" "I" ∈ lw_G := List.mem_filter.mpr ⟨List.mem_of_getElem? (i := 87) (by decide +kernel), by decide +kernel⟩
theorem qw_88 : Cond.laysFinal "SkyloadBureau$Line" "SkyloadBureau$Line" "numbers" "[I" ∈ lw_G := List.mem_filter.mpr ⟨List.mem_of_getElem? (i := 88) (by decide +kernel), by decide +kernel⟩
theorem qw_90 : Cond.laysFinal "SkyloadBureau$Line" "SkyloadBureau$Line" "times" "[I" ∈ lw_G := List.mem_filter.mpr ⟨List.mem_of_getElem? (i := 90) (by decide +kernel), by decide +kernel⟩
theorem qw_92 : Cond.laysFinal "SkyloadBureau$Line" "SkyloadBureau$Line" "slots" "[I" ∈ lw_G := List.mem_filter.mpr ⟨List.mem_of_getElem? (i := 92) (by decide +kernel), by decide +kernel⟩
theorem qw_94 : Cond.laysFinal "SkyloadBureau$Line" "SkyloadBureau$Line" "targets" "[I" ∈ lw_G := List.mem_filter.mpr ⟨List.mem_of_getElem? (i := 94) (by decide +kernel), by decide +kernel⟩
theorem qw_96 : Cond.lays "SkyloadBureau$Line" "SkyloadBureau$Line" "count" "I" ∈ lw_G := List.mem_filter.mpr ⟨List.mem_of_getElem? (i := 96) (by decide +kernel), by decide +kernel⟩
theorem qw_98 : Cond.superclass "SkyloadBureau$Line" "java/lang/Object" ∈ lw_G := List.mem_filter.mpr ⟨List.mem_of_getElem? (i := 98) (by decide +kernel), by decide +kernel⟩
theorem qw_99 : Cond.arrayClass FieldType.int ∈ lw_G := List.mem_filter.mpr ⟨List.mem_of_getElem? (i := 99) (by decide +kernel), by decide +kernel⟩
theorem qw_100 : Cond.fieldLink "SkyloadBureau$Dealing" 12 "SkyloadBureau$Dealing" "fixed" "LSkyloadBureau$Line;" ∈ lw_G := List.mem_filter.mpr ⟨List.mem_of_getElem? (i := 100) (by decide +kernel), by decide +kernel⟩
theorem qw_101 : Cond.fieldLink "SkyloadBureau" 173 "SkyloadBureau$Dealing" "fixed" "LSkyloadBureau$Line;" ∈ lw_G := List.mem_filter.mpr ⟨List.mem_of_getElem? (i := 101) (by decide +kernel), by decide +kernel⟩
theorem qw_102 : Cond.fieldLink "SkyloadBureau$Dealing" 18 "SkyloadBureau$Dealing" "listed" "LSkyloadBureau$Line;" ∈ lw_G := List.mem_filter.mpr ⟨List.mem_of_getElem? (i := 102) (by decide +kernel), by decide +kernel⟩
theorem qw_103 : Cond.fieldLink "SkyloadBureau" 179 "SkyloadBureau$Dealing" "listed" "LSkyloadBureau$Line;" ∈ lw_G := List.mem_filter.mpr ⟨List.mem_of_getElem? (i := 103) (by decide +kernel), by decide +kernel⟩
theorem qw_104 : Cond.fieldLink "SkyloadBureau$Dealing" 21 "SkyloadBureau$Dealing" "slotCount" "I" ∈ lw_G := List.mem_filter.mpr ⟨List.mem_of_getElem? (i := 104) (by decide +kernel), by decide +kernel⟩
theorem qw_105 : Cond.fieldLink "SkyloadBureau" 167 "SkyloadBureau$Dealing" "slotCount" "I" ∈ lw_G := List.mem_filter.mpr ⟨List.mem_of_getElem? (i := 105) (by decide +kernel), by decide +kernel⟩
theorem qw_106 : Cond.fieldLink "SkyloadBureau$Dealing" 25 "SkyloadBureau$Dealing" "freeCount" "I" ∈ lw_G := List.mem_filter.mpr ⟨List.mem_of_getElem? (i := 106) (by decide +kernel), by decide +kernel⟩
theorem qw_107 : Cond.fieldLink "SkyloadBureau" 170 "SkyloadBureau$Dealing" "freeCount" "I" ∈ lw_G := List.mem_filter.mpr ⟨List.mem_of_getElem? (i := 107) (by decide +kernel), by decide +kernel⟩
theorem qw_108 : Cond.fieldLink "SkyloadBureau$Dealing" 28 "SkyloadBureau$Dealing" "listedWithout" "I" ∈ lw_G := List.mem_filter.mpr ⟨List.mem_of_getElem? (i := 108) (by decide +kernel), by decide +kernel⟩
theorem qw_109 : Cond.fieldLink "SkyloadBureau" 182 "SkyloadBureau$Dealing" "listedWithout" "I" ∈ lw_G := List.mem_filter.mpr ⟨List.mem_of_getElem? (i := 109) (by decide +kernel), by decide +kernel⟩
theorem qw_110 : Cond.laysFinal "SkyloadBureau$Dealing" "SkyloadBureau$Dealing" "fixed" "LSkyloadBureau$Line;" ∈ lw_G := List.mem_filter.mpr ⟨List.mem_of_getElem? (i := 110) (by decide +kernel), by decide +kernel⟩
theorem qw_112 : Cond.laysFinal "SkyloadBureau$Dealing" "SkyloadBureau$Dealing" "listed" "LSkyloadBureau$Line;" ∈ lw_G := List.mem_filter.mpr ⟨List.mem_of_getElem? (i := 112) (by decide +kernel), by decide +kernel⟩
theorem qw_114 : Cond.lays "SkyloadBureau$Dealing" "SkyloadBureau$Dealing" "slotCount" "I" ∈ lw_G := List.mem_filter.mpr ⟨List.mem_of_getElem? (i := 114) (by decide +kernel), by decide +kernel⟩
theorem qw_116 : Cond.lays "SkyloadBureau$Dealing" "SkyloadBureau$Dealing" "freeCount" "I" ∈ lw_G := List.mem_filter.mpr ⟨List.mem_of_getElem? (i := 116) (by decide +kernel), by decide +kernel⟩
theorem qw_118 : Cond.lays "SkyloadBureau$Dealing" "SkyloadBureau$Dealing" "listedWithout" "I" ∈ lw_G := List.mem_filter.mpr ⟨List.mem_of_getElem? (i := 118) (by decide +kernel), by decide +kernel⟩
theorem qw_120 : Cond.superclass "SkyloadBureau$Dealing" "java/lang/Object" ∈ lw_G := List.mem_filter.mpr ⟨List.mem_of_getElem? (i := 120) (by decide +kernel), by decide +kernel⟩
theorem qw_121 : Cond.classLink "SkyloadBureau" 26 "SkyloadBureau$Line" ∈ lw_G := List.mem_filter.mpr ⟨List.mem_of_getElem? (i := 121) (by decide +kernel), by decide +kernel⟩
theorem qw_123 : Cond.fieldLink "SkyloadBureau" 10 "SkyloadBureau" "flights" "Ljava/util/ArrayList;" ∈ lw_G := List.mem_filter.mpr ⟨List.mem_of_getElem? (i := 123) (by decide +kernel), by decide +kernel⟩
theorem qw_124 : Cond.fieldLink "SkyloadBureau" 16 "SkyloadBureau" "regulations" "Ljava/util/ArrayList;" ∈ lw_G := List.mem_filter.mpr ⟨List.mem_of_getElem? (i := 124) (by decide +kernel), by decide +kernel⟩
theorem qw_125 : Cond.fieldLink "SkyloadBureau" 22 "SkyloadBureau" "dealing" "LSkyloadBureau$Dealing;" ∈ lw_G := List.mem_filter.mpr ⟨List.mem_of_getElem? (i := 125) (by decide +kernel), by decide +kernel⟩
theorem qw_126 : Cond.fieldLink "SkyloadBureau" 29 "SkyloadBureau" "entering" "LSkyloadBureau$Line;" ∈ lw_G := List.mem_filter.mpr ⟨List.mem_of_getElem? (i := 126) (by decide +kernel), by decide +kernel⟩
theorem qw_127 : Cond.laysFinal "SkyloadBureau" "SkyloadBureau" "flights" "Ljava/util/ArrayList;" ∈ lw_G := List.mem_filter.mpr ⟨List.mem_of_getElem? (i := 127) (by decide +kernel), by decide +kernel⟩
theorem qw_129 : Cond.laysFinal "SkyloadBureau" "SkyloadBureau" "regulations" "Ljava/util/ArrayList;" ∈ lw_G := List.mem_filter.mpr ⟨List.mem_of_getElem? (i := 129) (by decide +kernel), by decide +kernel⟩
theorem qw_131 : Cond.laysFinal "SkyloadBureau" "SkyloadBureau" "dealing" "LSkyloadBureau$Dealing;" ∈ lw_G := List.mem_filter.mpr ⟨List.mem_of_getElem? (i := 131) (by decide +kernel), by decide +kernel⟩
theorem qw_133 : Cond.laysFinal "SkyloadBureau" "SkyloadBureau" "entering" "LSkyloadBureau$Line;" ∈ lw_G := List.mem_filter.mpr ⟨List.mem_of_getElem? (i := 133) (by decide +kernel), by decide +kernel⟩
theorem qw_135 : Cond.superclass "SkyloadBureau" "java/lang/Object" ∈ lw_G := List.mem_filter.mpr ⟨List.mem_of_getElem? (i := 135) (by decide +kernel), by decide +kernel⟩
theorem qw_136 : Cond.methodLink "SkyloadBureauLaw" 95 yX4_load ∈ lw_G := List.mem_filter.mpr ⟨List.mem_of_getElem? (i := 136) (by decide +kernel), by decide +kernel⟩
theorem qw_137 : Cond.instanceMethod yX4_load ∈ lw_G := List.mem_filter.mpr ⟨List.mem_of_getElem? (i := 137) (by decide +kernel), by decide +kernel⟩
theorem qw_138 : Cond.selects "SkyloadBureau" yX4_load yX4_load ∈ lw_G := List.mem_filter.mpr ⟨List.mem_of_getElem? (i := 138) (by decide +kernel), by decide +kernel⟩
theorem qw_139 : Cond.code yX4_load prog_1_method_7_code 4 (some FieldType.int) ∈ lw_G := List.mem_filter.mpr ⟨List.mem_of_getElem? (i := 139) (by decide +kernel), by decide +kernel⟩
theorem qw_140 : Cond.methodLink "SkyloadBureau" 65 yX4_checkSector ∈ lw_G := List.mem_filter.mpr ⟨List.mem_of_getElem? (i := 140) (by decide +kernel), by decide +kernel⟩
theorem qw_141 : Cond.static yX4_checkSector ∈ lw_G := List.mem_filter.mpr ⟨List.mem_of_getElem? (i := 141) (by decide +kernel), by decide +kernel⟩
theorem qw_142 : Cond.code yX4_checkSector prog_1_method_27_code 1 (Option.none : Option Jvm.ClassFile.FieldType) ∈ lw_G := List.mem_filter.mpr ⟨List.mem_of_getElem? (i := 142) (by decide +kernel), by decide +kernel⟩
theorem qw_143 : Cond.classLink "SkyloadBureau" 188 "java/lang/IndexOutOfBoundsException" ∈ lw_G := List.mem_filter.mpr ⟨List.mem_of_getElem? (i := 143) (by decide +kernel), by decide +kernel⟩
theorem qw_144 : Cond.instantiable "java/lang/IndexOutOfBoundsException" 6 ∈ lw_G := List.mem_filter.mpr ⟨List.mem_of_getElem? (i := 144) (by decide +kernel), by decide +kernel⟩
theorem qw_152 : Cond.selects "java/lang/IndexOutOfBoundsException" (⟨"java/lang/Throwable", "fillInStackTrace", "(I)Ljava/lang/Throwable;"⟩ : MethodName) (⟨"java/lang/Throwable", "fillInStackTrace", "(I)Ljava/lang/Throwable;"⟩ : MethodName) ∈ lw_G := List.mem_filter.mpr ⟨List.mem_of_getElem? (i := 152) (by decide +kernel), by decide +kernel⟩
theorem qw_153 : Cond.selects "java/lang/IndexOutOfBoundsException" (⟨"java/lang/Throwable", "fillInStackTrace", "()Ljava/lang/Throwable;"⟩ : MethodName) (⟨"java/lang/Throwable", "fillInStackTrace", "()Ljava/lang/Throwable;"⟩ : MethodName) ∈ lw_G := List.mem_filter.mpr ⟨List.mem_of_getElem? (i := 153) (by decide +kernel), by decide +kernel⟩
theorem qw_154 : Cond.lays "java/lang/IndexOutOfBoundsException" "java/lang/Throwable" "cause" "Ljava/lang/Throwable;" ∈ lw_G := List.mem_filter.mpr ⟨List.mem_of_getElem? (i := 154) (by decide +kernel), by decide +kernel⟩
theorem qw_155 : Cond.lays "java/lang/Throwable" "java/lang/Throwable" "cause" "Ljava/lang/Throwable;" ∈ lw_G := List.mem_filter.mpr ⟨List.mem_of_getElem? (i := 155) (by decide +kernel), by decide +kernel⟩
theorem qw_156 : Cond.lays "java/lang/IndexOutOfBoundsException" "java/lang/Throwable" "stackTrace" "[Ljava/lang/StackTraceElement;" ∈ lw_G := List.mem_filter.mpr ⟨List.mem_of_getElem? (i := 156) (by decide +kernel), by decide +kernel⟩
theorem qw_157 : Cond.lays "java/lang/Throwable" "java/lang/Throwable" "stackTrace" "[Ljava/lang/StackTraceElement;" ∈ lw_G := List.mem_filter.mpr ⟨List.mem_of_getElem? (i := 157) (by decide +kernel), by decide +kernel⟩
theorem qw_158 : Cond.lays "java/lang/IndexOutOfBoundsException" "java/lang/Throwable" "suppressedExceptions" "Ljava/util/List;" ∈ lw_G := List.mem_filter.mpr ⟨List.mem_of_getElem? (i := 158) (by decide +kernel), by decide +kernel⟩
theorem qw_159 : Cond.lays "java/lang/Throwable" "java/lang/Throwable" "suppressedExceptions" "Ljava/util/List;" ∈ lw_G := List.mem_filter.mpr ⟨List.mem_of_getElem? (i := 159) (by decide +kernel), by decide +kernel⟩
theorem qw_160 : Cond.lays "java/lang/IndexOutOfBoundsException" "java/lang/Throwable" "detailMessage" "Ljava/lang/String;" ∈ lw_G := List.mem_filter.mpr ⟨List.mem_of_getElem? (i := 160) (by decide +kernel), by decide +kernel⟩
theorem qw_161 : Cond.lays "java/lang/Throwable" "java/lang/Throwable" "detailMessage" "Ljava/lang/String;" ∈ lw_G := List.mem_filter.mpr ⟨List.mem_of_getElem? (i := 161) (by decide +kernel), by decide +kernel⟩
theorem qw_162 : Cond.lays "java/lang/IndexOutOfBoundsException" "java/lang/Throwable" "backtrace" "Ljava/lang/Object;" ∈ lw_G := List.mem_filter.mpr ⟨List.mem_of_getElem? (i := 162) (by decide +kernel), by decide +kernel⟩
theorem qw_163 : Cond.lays "java/lang/Throwable" "java/lang/Throwable" "backtrace" "Ljava/lang/Object;" ∈ lw_G := List.mem_filter.mpr ⟨List.mem_of_getElem? (i := 163) (by decide +kernel), by decide +kernel⟩
theorem qw_164 : Cond.fieldLink "java/lang/Throwable" 198 "java/lang/Throwable" "backtrace" "Ljava/lang/Object;" ∈ lw_G := List.mem_filter.mpr ⟨List.mem_of_getElem? (i := 164) (by decide +kernel), by decide +kernel⟩
theorem qw_165 : Cond.superclass "java/lang/Throwable" "java/lang/Object" ∈ lw_G := List.mem_filter.mpr ⟨List.mem_of_getElem? (i := 165) (by decide +kernel), by decide +kernel⟩
theorem qw_166 : Cond.instanceMethod (⟨"java/lang/Throwable", "<init>", "()V"⟩ : MethodName) ∈ lw_G := List.mem_filter.mpr ⟨List.mem_of_getElem? (i := 166) (by decide +kernel), by decide +kernel⟩
theorem qw_167 : Cond.code (⟨"java/lang/Throwable", "<init>", "()V"⟩ : MethodName) prog_19_method_1_code 1 (Option.none : Option Jvm.ClassFile.FieldType) ∈ lw_G := List.mem_filter.mpr ⟨List.mem_of_getElem? (i := 167) (by decide +kernel), by decide +kernel⟩
theorem qw_168 : Cond.methodLink "java/lang/Throwable" 1 (⟨"java/lang/Object", "<init>", "()V"⟩ : MethodName) ∈ lw_G := List.mem_filter.mpr ⟨List.mem_of_getElem? (i := 168) (by decide +kernel), by decide +kernel⟩
theorem qw_169 : Cond.fieldLink "java/lang/Throwable" 13 "java/lang/Throwable" "UNASSIGNED_STACK" "[Ljava/lang/StackTraceElement;" ∈ lw_G := List.mem_filter.mpr ⟨List.mem_of_getElem? (i := 169) (by decide +kernel), by decide +kernel⟩
theorem qw_171 : Cond.fieldLink "java/lang/Throwable" 20 "java/lang/Throwable" "SUPPRESSED_SENTINEL" "Ljava/util/List;" ∈ lw_G := List.mem_filter.mpr ⟨List.mem_of_getElem? (i := 171) (by decide +kernel), by decide +kernel⟩
theorem qw_173 : Cond.methodLink "java/lang/Throwable" 27 (⟨"java/lang/Throwable", "fillInStackTrace", "()Ljava/lang/Throwable;"⟩ : MethodName) ∈ lw_G := List.mem_filter.mpr ⟨List.mem_of_getElem? (i := 173) (by decide +kernel), by decide +kernel⟩
theorem qw_174 : Cond.instanceMethod (⟨"java/lang/Throwable", "fillInStackTrace", "()Ljava/lang/Throwable;"⟩ : MethodName) ∈ lw_G := List.mem_filter.mpr ⟨List.mem_of_getElem? (i := 174) (by decide +kernel), by decide +kernel⟩
theorem qw_175 : Cond.sameMethod "java/lang/Throwable" "java/lang/Throwable" "fillInStackTrace" "()Ljava/lang/Throwable;" ∈ lw_G := List.mem_filter.mpr ⟨List.mem_of_getElem? (i := 175) (by decide +kernel), by decide +kernel⟩
theorem qw_176 : Cond.selects "java/lang/IllegalArgumentException" (⟨"java/lang/Throwable", "fillInStackTrace", "()Ljava/lang/Throwable;"⟩ : MethodName) (⟨"java/lang/Throwable", "fillInStackTrace", "()Ljava/lang/Throwable;"⟩ : MethodName) ∈ lw_G := List.mem_filter.mpr ⟨List.mem_of_getElem? (i := 176) (by decide +kernel), by decide +kernel⟩
theorem qw_177 : Cond.selects "java/lang/IllegalStateException" (⟨"java/lang/Throwable", "fillInStackTrace", "()Ljava/lang/Throwable;"⟩ : MethodName) (⟨"java/lang/Throwable", "fillInStackTrace", "()Ljava/lang/Throwable;"⟩ : MethodName) ∈ lw_G := List.mem_filter.mpr ⟨List.mem_of_getElem? (i := 177) (by decide +kernel), by decide +kernel⟩
theorem qw_178 : Cond.codeSync (⟨"java/lang/Throwable", "fillInStackTrace", "()Ljava/lang/Throwable;"⟩ : MethodName) prog_19_method_18_code 1 (some (FieldType.object "java/lang/Throwable")) ∈ lw_G := List.mem_filter.mpr ⟨List.mem_of_getElem? (i := 178) (by decide +kernel), by decide +kernel⟩
theorem qw_179 : Cond.methodLink "java/lang/Throwable" 202 (⟨"java/lang/Throwable", "fillInStackTrace", "(I)Ljava/lang/Throwable;"⟩ : MethodName) ∈ lw_G := List.mem_filter.mpr ⟨List.mem_of_getElem? (i := 179) (by decide +kernel), by decide +kernel⟩
theorem qw_181 : Cond.instanceMethod (⟨"java/lang/Throwable", "fillInStackTrace", "(I)Ljava/lang/Throwable;"⟩ : MethodName) ∈ lw_G := List.mem_filter.mpr ⟨List.mem_of_getElem? (i := 181) (by decide +kernel), by decide +kernel⟩
theorem qw_182 : Cond.instantiable "java/lang/Throwable" 6 ∈ lw_G := List.mem_filter.mpr ⟨List.mem_of_getElem? (i := 182) (by decide +kernel), by decide +kernel⟩
theorem qw_183 : Cond.native (⟨"java/lang/Throwable", "fillInStackTrace", "(I)Ljava/lang/Throwable;"⟩ : MethodName) ∈ lw_G := List.mem_filter.mpr ⟨List.mem_of_getElem? (i := 183) (by decide +kernel), by decide +kernel⟩
theorem qw_185 : Cond.methodLink "SkyloadBureau" 192 (⟨"java/lang/IndexOutOfBoundsException", "<init>", "(Ljava/lang/String;)V"⟩ : MethodName) ∈ lw_G := List.mem_filter.mpr ⟨List.mem_of_getElem? (i := 185) (by decide +kernel), by decide +kernel⟩
theorem qw_186 : Cond.instanceMethod (⟨"java/lang/IndexOutOfBoundsException", "<init>", "(Ljava/lang/String;)V"⟩ : MethodName) ∈ lw_G := List.mem_filter.mpr ⟨List.mem_of_getElem? (i := 186) (by decide +kernel), by decide +kernel⟩
theorem qw_187 : Cond.code (⟨"java/lang/IndexOutOfBoundsException", "<init>", "(Ljava/lang/String;)V"⟩ : MethodName) prog_13_method_2_code 2 (Option.none : Option Jvm.ClassFile.FieldType) ∈ lw_G := List.mem_filter.mpr ⟨List.mem_of_getElem? (i := 187) (by decide +kernel), by decide +kernel⟩
theorem qw_188 : Cond.methodLink "java/lang/IndexOutOfBoundsException" 7 (⟨"java/lang/RuntimeException", "<init>", "(Ljava/lang/String;)V"⟩ : MethodName) ∈ lw_G := List.mem_filter.mpr ⟨List.mem_of_getElem? (i := 188) (by decide +kernel), by decide +kernel⟩
theorem qw_189 : Cond.instanceMethod (⟨"java/lang/RuntimeException", "<init>", "(Ljava/lang/String;)V"⟩ : MethodName) ∈ lw_G := List.mem_filter.mpr ⟨List.mem_of_getElem? (i := 189) (by decide +kernel), by decide +kernel⟩
theorem qw_190 : Cond.code (⟨"java/lang/RuntimeException", "<init>", "(Ljava/lang/String;)V"⟩ : MethodName) prog_16_method_2_code 2 (Option.none : Option Jvm.ClassFile.FieldType) ∈ lw_G := List.mem_filter.mpr ⟨List.mem_of_getElem? (i := 190) (by decide +kernel), by decide +kernel⟩
theorem qw_191 : Cond.methodLink "java/lang/RuntimeException" 7 (⟨"java/lang/Exception", "<init>", "(Ljava/lang/String;)V"⟩ : MethodName) ∈ lw_G := List.mem_filter.mpr ⟨List.mem_of_getElem? (i := 191) (by decide +kernel), by decide +kernel⟩
theorem qw_192 : Cond.instanceMethod (⟨"java/lang/Exception", "<init>", "(Ljava/lang/String;)V"⟩ : MethodName) ∈ lw_G := List.mem_filter.mpr ⟨List.mem_of_getElem? (i := 192) (by decide +kernel), by decide +kernel⟩
theorem qw_193 : Cond.code (⟨"java/lang/Exception", "<init>", "(Ljava/lang/String;)V"⟩ : MethodName) prog_10_method_2_code 2 (Option.none : Option Jvm.ClassFile.FieldType) ∈ lw_G := List.mem_filter.mpr ⟨List.mem_of_getElem? (i := 193) (by decide +kernel), by decide +kernel⟩
theorem qw_194 : Cond.methodLink "java/lang/Exception" 7 (⟨"java/lang/Throwable", "<init>", "(Ljava/lang/String;)V"⟩ : MethodName) ∈ lw_G := List.mem_filter.mpr ⟨List.mem_of_getElem? (i := 194) (by decide +kernel), by decide +kernel⟩
theorem qw_195 : Cond.instanceMethod (⟨"java/lang/Throwable", "<init>", "(Ljava/lang/String;)V"⟩ : MethodName) ∈ lw_G := List.mem_filter.mpr ⟨List.mem_of_getElem? (i := 195) (by decide +kernel), by decide +kernel⟩
theorem qw_196 : Cond.code (⟨"java/lang/Throwable", "<init>", "(Ljava/lang/String;)V"⟩ : MethodName) prog_19_method_2_code 2 (Option.none : Option Jvm.ClassFile.FieldType) ∈ lw_G := List.mem_filter.mpr ⟨List.mem_of_getElem? (i := 196) (by decide +kernel), by decide +kernel⟩
theorem qw_198 : Cond.fieldLink "java/lang/Throwable" 31 "java/lang/Throwable" "detailMessage" "Ljava/lang/String;" ∈ lw_G := List.mem_filter.mpr ⟨List.mem_of_getElem? (i := 198) (by decide +kernel), by decide +kernel⟩
theorem qw_199 : Cond.fieldLink "java/lang/Throwable" 7 "java/lang/Throwable" "cause" "Ljava/lang/Throwable;" ∈ lw_G := List.mem_filter.mpr ⟨List.mem_of_getElem? (i := 199) (by decide +kernel), by decide +kernel⟩
theorem qw_200 : Cond.fieldLink "java/lang/Throwable" 17 "java/lang/Throwable" "stackTrace" "[Ljava/lang/StackTraceElement;" ∈ lw_G := List.mem_filter.mpr ⟨List.mem_of_getElem? (i := 200) (by decide +kernel), by decide +kernel⟩
theorem qw_201 : Cond.fieldLink "java/lang/Throwable" 24 "java/lang/Throwable" "suppressedExceptions" "Ljava/util/List;" ∈ lw_G := List.mem_filter.mpr ⟨List.mem_of_getElem? (i := 201) (by decide +kernel), by decide +kernel⟩
theorem qw_206 : Cond.lays "java/lang/IndexOutOfBoundsException" "java/lang/Throwable" "depth" "I" ∈ lw_G := List.mem_filter.mpr ⟨List.mem_of_getElem? (i := 206) (by decide +kernel), by decide +kernel⟩
theorem qw_209 : Cond.superclass "java/lang/IndexOutOfBoundsException" "java/lang/RuntimeException" ∈ lw_G := List.mem_filter.mpr ⟨List.mem_of_getElem? (i := 209) (by decide +kernel), by decide +kernel⟩
theorem qw_210 : Cond.arrayClass FieldType.byte ∈ lw_G := List.mem_filter.mpr ⟨List.mem_of_getElem? (i := 210) (by decide +kernel), by decide +kernel⟩
theorem qw_211 : Cond.methodLink "SkyloadBureau" 37 yX4_checkRange ∈ lw_G := List.mem_filter.mpr ⟨List.mem_of_getElem? (i := 211) (by decide +kernel), by decide +kernel⟩
theorem qw_212 : Cond.static yX4_checkRange ∈ lw_G := List.mem_filter.mpr ⟨List.mem_of_getElem? (i := 212) (by decide +kernel), by decide +kernel⟩
theorem qw_213 : Cond.code yX4_checkRange prog_1_method_29_code 3 (Option.none : Option Jvm.ClassFile.FieldType) ∈ lw_G := List.mem_filter.mpr ⟨List.mem_of_getElem? (i := 213) (by decide +kernel), by decide +kernel⟩
theorem qw_214 : Cond.classLink "SkyloadBureau" 225 "java/lang/IllegalArgumentException" ∈ lw_G := List.mem_filter.mpr ⟨List.mem_of_getElem? (i := 214) (by decide +kernel), by decide +kernel⟩
theorem qw_215 : Cond.instantiable "java/lang/IllegalArgumentException" 6 ∈ lw_G := List.mem_filter.mpr ⟨List.mem_of_getElem? (i := 215) (by decide +kernel), by decide +kernel⟩
theorem qw_217 : Cond.selects "java/lang/IllegalArgumentException" (⟨"java/lang/Throwable", "fillInStackTrace", "(I)Ljava/lang/Throwable;"⟩ : MethodName) (⟨"java/lang/Throwable", "fillInStackTrace", "(I)Ljava/lang/Throwable;"⟩ : MethodName) ∈ lw_G := List.mem_filter.mpr ⟨List.mem_of_getElem? (i := 217) (by decide +kernel), by decide +kernel⟩
theorem qw_218 : Cond.lays "java/lang/IllegalArgumentException" "java/lang/Throwable" "cause" "Ljava/lang/Throwable;" ∈ lw_G := List.mem_filter.mpr ⟨List.mem_of_getElem? (i := 218) (by decide +kernel), by decide +kernel⟩
theorem qw_219 : Cond.lays "java/lang/IllegalArgumentException" "java/lang/Throwable" "stackTrace" "[Ljava/lang/StackTraceElement;" ∈ lw_G := List.mem_filter.mpr ⟨List.mem_of_getElem? (i := 219) (by decide +kernel), by decide +kernel⟩
theorem qw_220 : Cond.lays "java/lang/IllegalArgumentException" "java/lang/Throwable" "suppressedExceptions" "Ljava/util/List;" ∈ lw_G := List.mem_filter.mpr ⟨List.mem_of_getElem? (i := 220) (by decide +kernel), by decide +kernel⟩
theorem qw_221 : Cond.lays "java/lang/IllegalArgumentException" "java/lang/Throwable" "detailMessage" "Ljava/lang/String;" ∈ lw_G := List.mem_filter.mpr ⟨List.mem_of_getElem? (i := 221) (by decide +kernel), by decide +kernel⟩
theorem qw_222 : Cond.lays "java/lang/IllegalArgumentException" "java/lang/Throwable" "backtrace" "Ljava/lang/Object;" ∈ lw_G := List.mem_filter.mpr ⟨List.mem_of_getElem? (i := 222) (by decide +kernel), by decide +kernel⟩
theorem qw_224 : Cond.methodLink "SkyloadBureau" 229 (⟨"java/lang/IllegalArgumentException", "<init>", "(Ljava/lang/String;)V"⟩ : MethodName) ∈ lw_G := List.mem_filter.mpr ⟨List.mem_of_getElem? (i := 224) (by decide +kernel), by decide +kernel⟩
theorem qw_225 : Cond.instanceMethod (⟨"java/lang/IllegalArgumentException", "<init>", "(Ljava/lang/String;)V"⟩ : MethodName) ∈ lw_G := List.mem_filter.mpr ⟨List.mem_of_getElem? (i := 225) (by decide +kernel), by decide +kernel⟩
theorem qw_226 : Cond.code (⟨"java/lang/IllegalArgumentException", "<init>", "(Ljava/lang/String;)V"⟩ : MethodName) prog_11_method_2_code 2 (Option.none : Option Jvm.ClassFile.FieldType) ∈ lw_G := List.mem_filter.mpr ⟨List.mem_of_getElem? (i := 226) (by decide +kernel), by decide +kernel⟩
theorem qw_227 : Cond.methodLink "java/lang/IllegalArgumentException" 7 (⟨"java/lang/RuntimeException", "<init>", "(Ljava/lang/String;)V"⟩ : MethodName) ∈ lw_G := List.mem_filter.mpr ⟨List.mem_of_getElem? (i := 227) (by decide +kernel), by decide +kernel⟩
theorem qw_228 : Cond.lays "java/lang/IllegalArgumentException" "java/lang/Throwable" "depth" "I" ∈ lw_G := List.mem_filter.mpr ⟨List.mem_of_getElem? (i := 228) (by decide +kernel), by decide +kernel⟩
theorem qw_229 : Cond.superclass "java/lang/IllegalArgumentException" "java/lang/RuntimeException" ∈ lw_G := List.mem_filter.mpr ⟨List.mem_of_getElem? (i := 229) (by decide +kernel), by decide +kernel⟩
theorem qw_230 : Cond.methodLink "SkyloadBureau" 112 yX4_loadOf ∈ lw_G := List.mem_filter.mpr ⟨List.mem_of_getElem? (i := 230) (by decide +kernel), by decide +kernel⟩
theorem qw_232 : Cond.instanceMethod yX4_loadOf ∈ lw_G := List.mem_filter.mpr ⟨List.mem_of_getElem? (i := 232) (by decide +kernel), by decide +kernel⟩
theorem qw_233 : Cond.code yX4_loadOf prog_1_method_32_code 8 (some FieldType.int) ∈ lw_G := List.mem_filter.mpr ⟨List.mem_of_getElem? (i := 233) (by decide +kernel), by decide +kernel⟩
theorem qw_234 : Cond.methodLink "SkyloadBureau" 41 yJx4a65c_size_8abf5 ∈ lw_G := List.mem_filter.mpr ⟨List.mem_of_getElem? (i := 234) (by decide +kernel), by decide +kernel⟩
theorem qw_235 : Cond.instanceMethod yJx4a65c_size_8abf5 ∈ lw_G := List.mem_filter.mpr ⟨List.mem_of_getElem? (i := 235) (by decide +kernel), by decide +kernel⟩
theorem qw_236 : Cond.selects "java/util/ArrayList" yJx4a65c_size_8abf5 yJx4a65c_size_8abf5 ∈ lw_G := List.mem_filter.mpr ⟨List.mem_of_getElem? (i := 236) (by decide +kernel), by decide +kernel⟩
theorem qw_237 : Cond.code yJx4a65c_size_8abf5 prog_22_method_8_code 1 (some FieldType.int) ∈ lw_G := List.mem_filter.mpr ⟨List.mem_of_getElem? (i := 237) (by decide +kernel), by decide +kernel⟩
theorem qw_238 : Cond.methodLink "SkyloadBureau" 116 yJx4a65c_get_915e3 ∈ lw_G := List.mem_filter.mpr ⟨List.mem_of_getElem? (i := 238) (by decide +kernel), by decide +kernel⟩
theorem qw_239 : Cond.instanceMethod yJx4a65c_get_915e3 ∈ lw_G := List.mem_filter.mpr ⟨List.mem_of_getElem? (i := 239) (by decide +kernel), by decide +kernel⟩
theorem qw_240 : Cond.selects "java/util/ArrayList" yJx4a65c_get_915e3 yJx4a65c_get_915e3 ∈ lw_G := List.mem_filter.mpr ⟨List.mem_of_getElem? (i := 240) (by decide +kernel), by decide +kernel⟩
theorem qw_241 : Cond.code yJx4a65c_get_915e3 prog_22_method_20_code 2 (some (FieldType.object "java/lang/Object")) ∈ lw_G := List.mem_filter.mpr ⟨List.mem_of_getElem? (i := 241) (by decide +kernel), by decide +kernel⟩
theorem qw_242 : Cond.methodLink "java/util/ArrayList" 118 yJ15_checkIndex_7cf53 ∈ lw_G := List.mem_filter.mpr ⟨List.mem_of_getElem? (i := 242) (by decide +kernel), by decide +kernel⟩
theorem qw_243 : Cond.static yJ15_checkIndex_7cf53 ∈ lw_G := List.mem_filter.mpr ⟨List.mem_of_getElem? (i := 243) (by decide +kernel), by decide +kernel⟩
theorem qw_244 : Cond.code yJ15_checkIndex_7cf53 prog_26_method_17_code 2 (some FieldType.int) ∈ lw_G := List.mem_filter.mpr ⟨List.mem_of_getElem? (i := 244) (by decide +kernel), by decide +kernel⟩
theorem qw_245 : Cond.methodLink "java/util/Objects" 105 yJ3_checkIndex_8e157 ∈ lw_G := List.mem_filter.mpr ⟨List.mem_of_getElem? (i := 245) (by decide +kernel), by decide +kernel⟩
theorem qw_246 : Cond.static yJ3_checkIndex_8e157 ∈ lw_G := List.mem_filter.mpr ⟨List.mem_of_getElem? (i := 246) (by decide +kernel), by decide +kernel⟩
theorem qw_247 : Cond.code yJ3_checkIndex_8e157 prog_30_method_11_code 3 (some FieldType.int) ∈ lw_G := List.mem_filter.mpr ⟨List.mem_of_getElem? (i := 247) (by decide +kernel), by decide +kernel⟩
theorem qw_248 : Cond.methodLink "java/util/ArrayList" 123 yJx4a65c_elementData_915e3 ∈ lw_G := List.mem_filter.mpr ⟨List.mem_of_getElem? (i := 248) (by decide +kernel), by decide +kernel⟩
theorem qw_249 : Cond.instanceMethod yJx4a65c_elementData_915e3 ∈ lw_G := List.mem_filter.mpr ⟨List.mem_of_getElem? (i := 249) (by decide +kernel), by decide +kernel⟩
theorem qw_250 : Cond.selects "java/util/ArrayList" yJx4a65c_elementData_915e3 yJx4a65c_elementData_915e3 ∈ lw_G := List.mem_filter.mpr ⟨List.mem_of_getElem? (i := 250) (by decide +kernel), by decide +kernel⟩
theorem qw_251 : Cond.code yJx4a65c_elementData_915e3 prog_22_method_18_code 2 (some (FieldType.object "java/lang/Object")) ∈ lw_G := List.mem_filter.mpr ⟨List.mem_of_getElem? (i := 251) (by decide +kernel), by decide +kernel⟩
theorem qw_252 : Cond.classLink "SkyloadBureau" 52 "SkyloadBureau$Flight" ∈ lw_G := List.mem_filter.mpr ⟨List.mem_of_getElem? (i := 252) (by decide +kernel), by decide +kernel⟩
theorem qw_253 : Cond.methodLink "SkyloadBureau" 108 yX1_timeOver ∈ lw_G := List.mem_filter.mpr ⟨List.mem_of_getElem? (i := 253) (by decide +kernel), by decide +kernel⟩
theorem qw_254 : Cond.instanceMethod yX1_timeOver ∈ lw_G := List.mem_filter.mpr ⟨List.mem_of_getElem? (i := 254) (by decide +kernel), by decide +kernel⟩
theorem qw_255 : Cond.selects "SkyloadBureau$Flight" yX1_timeOver yX1_timeOver ∈ lw_G := List.mem_filter.mpr ⟨List.mem_of_getElem? (i := 255) (by decide +kernel), by decide +kernel⟩
theorem qw_256 : Cond.code yX1_timeOver prog_3_method_8_code 3 (some FieldType.int) ∈ lw_G := List.mem_filter.mpr ⟨List.mem_of_getElem? (i := 256) (by decide +kernel), by decide +kernel⟩
theorem qw_257 : Cond.methodLink "SkyloadBureau$Flight" 60 yX1_behindAt ∈ lw_G := List.mem_filter.mpr ⟨List.mem_of_getElem? (i := 257) (by decide +kernel), by decide +kernel⟩
theorem qw_258 : Cond.instanceMethod yX1_behindAt ∈ lw_G := List.mem_filter.mpr ⟨List.mem_of_getElem? (i := 258) (by decide +kernel), by decide +kernel⟩
theorem qw_259 : Cond.selects "SkyloadBureau$Flight" yX1_behindAt yX1_behindAt ∈ lw_G := List.mem_filter.mpr ⟨List.mem_of_getElem? (i := 259) (by decide +kernel), by decide +kernel⟩
theorem qw_260 : Cond.code yX1_behindAt prog_3_method_4_code 2 (some FieldType.int) ∈ lw_G := List.mem_filter.mpr ⟨List.mem_of_getElem? (i := 260) (by decide +kernel), by decide +kernel⟩
theorem qw_261 : Cond.methodLink "SkyloadBureau$Flight" 64 yX1_departure ∈ lw_G := List.mem_filter.mpr ⟨List.mem_of_getElem? (i := 261) (by decide +kernel), by decide +kernel⟩
theorem qw_262 : Cond.instanceMethod yX1_departure ∈ lw_G := List.mem_filter.mpr ⟨List.mem_of_getElem? (i := 262) (by decide +kernel), by decide +kernel⟩
theorem qw_263 : Cond.selects "SkyloadBureau$Flight" yX1_departure yX1_departure ∈ lw_G := List.mem_filter.mpr ⟨List.mem_of_getElem? (i := 263) (by decide +kernel), by decide +kernel⟩
theorem qw_264 : Cond.code yX1_departure prog_3_method_7_code 1 (some FieldType.int) ∈ lw_G := List.mem_filter.mpr ⟨List.mem_of_getElem? (i := 264) (by decide +kernel), by decide +kernel⟩
theorem qw_265 : Cond.methodLink "SkyloadBureau" 135 yX1_loads ∈ lw_G := List.mem_filter.mpr ⟨List.mem_of_getElem? (i := 265) (by decide +kernel), by decide +kernel⟩
theorem qw_266 : Cond.instanceMethod yX1_loads ∈ lw_G := List.mem_filter.mpr ⟨List.mem_of_getElem? (i := 266) (by decide +kernel), by decide +kernel⟩
theorem qw_267 : Cond.selects "SkyloadBureau$Flight" yX1_loads yX1_loads ∈ lw_G := List.mem_filter.mpr ⟨List.mem_of_getElem? (i := 267) (by decide +kernel), by decide +kernel⟩
theorem qw_268 : Cond.code yX1_loads prog_3_method_9_code 2 (some FieldType.boolean) ∈ lw_G := List.mem_filter.mpr ⟨List.mem_of_getElem? (i := 268) (by decide +kernel), by decide +kernel⟩
theorem qw_269 : Cond.methodLink "SkyloadBureau$Flight" 56 yX1_enters ∈ lw_G := List.mem_filter.mpr ⟨List.mem_of_getElem? (i := 269) (by decide +kernel), by decide +kernel⟩
theorem qw_270 : Cond.instanceMethod yX1_enters ∈ lw_G := List.mem_filter.mpr ⟨List.mem_of_getElem? (i := 270) (by decide +kernel), by decide +kernel⟩
theorem qw_271 : Cond.selects "SkyloadBureau$Flight" yX1_enters yX1_enters ∈ lw_G := List.mem_filter.mpr ⟨List.mem_of_getElem? (i := 271) (by decide +kernel), by decide +kernel⟩
theorem qw_272 : Cond.code yX1_enters prog_3_method_6_code 2 (some FieldType.boolean) ∈ lw_G := List.mem_filter.mpr ⟨List.mem_of_getElem? (i := 272) (by decide +kernel), by decide +kernel⟩
theorem qw_273 : Cond.methodLink "SkyloadBureauLaw" 92 yX4_peakAnew ∈ lw_G := List.mem_filter.mpr ⟨List.mem_of_getElem? (i := 273) (by decide +kernel), by decide +kernel⟩
theorem qw_274 : Cond.instanceMethod yX4_peakAnew ∈ lw_G := List.mem_filter.mpr ⟨List.mem_of_getElem? (i := 274) (by decide +kernel), by decide +kernel⟩
theorem qw_275 : Cond.selects "SkyloadBureau" yX4_peakAnew yX4_peakAnew ∈ lw_G := List.mem_filter.mpr ⟨List.mem_of_getElem? (i := 275) (by decide +kernel), by decide +kernel⟩
theorem qw_276 : Cond.code yX4_peakAnew prog_1_method_10_code 6 (some FieldType.int) ∈ lw_G := List.mem_filter.mpr ⟨List.mem_of_getElem? (i := 276) (by decide +kernel), by decide +kernel⟩
theorem qw_277 : Cond.methodLink "SkyloadBureau" 130 yJ9_max_7cf53 ∈ lw_G := List.mem_filter.mpr ⟨List.mem_of_getElem? (i := 277) (by decide +kernel), by decide +kernel⟩
theorem qw_278 : Cond.static yJ9_max_7cf53 ∈ lw_G := List.mem_filter.mpr ⟨List.mem_of_getElem? (i := 278) (by decide +kernel), by decide +kernel⟩
theorem qw_279 : Cond.code yJ9_max_7cf53 prog_15_method_65_code 2 (some FieldType.int) ∈ lw_G := List.mem_filter.mpr ⟨List.mem_of_getElem? (i := 279) (by decide +kernel), by decide +kernel⟩
theorem qw_280 : Cond.methodLink "SkyloadBureauLaw" 99 yX4_allDue ∈ lw_G := List.mem_filter.mpr ⟨List.mem_of_getElem? (i := 280) (by decide +kernel), by decide +kernel⟩
theorem qw_281 : Cond.instanceMethod yX4_allDue ∈ lw_G := List.mem_filter.mpr ⟨List.mem_of_getElem? (i := 281) (by decide +kernel), by decide +kernel⟩
theorem qw_282 : Cond.selects "SkyloadBureau" yX4_allDue yX4_allDue ∈ lw_G := List.mem_filter.mpr ⟨List.mem_of_getElem? (i := 282) (by decide +kernel), by decide +kernel⟩
theorem qw_283 : Cond.code yX4_allDue prog_1_method_19_code 1 (some FieldType.int) ∈ lw_G := List.mem_filter.mpr ⟨List.mem_of_getElem? (i := 283) (by decide +kernel), by decide +kernel⟩
theorem qw_284 : Cond.methodLink "SkyloadBureau" 201 yX4_reckonDues ∈ lw_G := List.mem_filter.mpr ⟨List.mem_of_getElem? (i := 284) (by decide +kernel), by decide +kernel⟩
theorem qw_286 : Cond.instanceMethod yX4_reckonDues ∈ lw_G := List.mem_filter.mpr ⟨List.mem_of_getElem? (i := 286) (by decide +kernel), by decide +kernel⟩
theorem qw_287 : Cond.code yX4_reckonDues prog_1_method_34_code 2 (Option.none : Option Jvm.ClassFile.FieldType) ∈ lw_G := List.mem_filter.mpr ⟨List.mem_of_getElem? (i := 287) (by decide +kernel), by decide +kernel⟩
theorem qw_288 : Cond.methodLink "SkyloadBureau" 270 yX1_forgetReckoned ∈ lw_G := List.mem_filter.mpr ⟨List.mem_of_getElem? (i := 288) (by decide +kernel), by decide +kernel⟩
theorem qw_289 : Cond.instanceMethod yX1_forgetReckoned ∈ lw_G := List.mem_filter.mpr ⟨List.mem_of_getElem? (i := 289) (by decide +kernel), by decide +kernel⟩
theorem qw_290 : Cond.selects "SkyloadBureau$Flight" yX1_forgetReckoned yX1_forgetReckoned ∈ lw_G := List.mem_filter.mpr ⟨List.mem_of_getElem? (i := 290) (by decide +kernel), by decide +kernel⟩
theorem qw_291 : Cond.code yX1_forgetReckoned prog_3_method_19_code 1 (Option.none : Option Jvm.ClassFile.FieldType) ∈ lw_G := List.mem_filter.mpr ⟨List.mem_of_getElem? (i := 291) (by decide +kernel), by decide +kernel⟩
theorem qw_292 : Cond.classLink "SkyloadBureau" 144 "SkyloadBureau$Regulation" ∈ lw_G := List.mem_filter.mpr ⟨List.mem_of_getElem? (i := 292) (by decide +kernel), by decide +kernel⟩
theorem qw_293 : Cond.methodLink "SkyloadBureau" 214 yX4_reckonPenalties ∈ lw_G := List.mem_filter.mpr ⟨List.mem_of_getElem? (i := 293) (by decide +kernel), by decide +kernel⟩
theorem qw_295 : Cond.instanceMethod yX4_reckonPenalties ∈ lw_G := List.mem_filter.mpr ⟨List.mem_of_getElem? (i := 295) (by decide +kernel), by decide +kernel⟩
theorem qw_296 : Cond.code yX4_reckonPenalties prog_1_method_35_code 4 (Option.none : Option Jvm.ClassFile.FieldType) ∈ lw_G := List.mem_filter.mpr ⟨List.mem_of_getElem? (i := 296) (by decide +kernel), by decide +kernel⟩
theorem qw_297 : Cond.methodLink "SkyloadBureau" 163 yX0_dealOut ∈ lw_G := List.mem_filter.mpr ⟨List.mem_of_getElem? (i := 297) (by decide +kernel), by decide +kernel⟩
theorem qw_298 : Cond.instanceMethod yX0_dealOut ∈ lw_G := List.mem_filter.mpr ⟨List.mem_of_getElem? (i := 298) (by decide +kernel), by decide +kernel⟩
theorem qw_299 : Cond.selects "SkyloadBureau$Dealing" yX0_dealOut yX0_dealOut ∈ lw_G := List.mem_filter.mpr ⟨List.mem_of_getElem? (i := 299) (by decide +kernel), by decide +kernel⟩
theorem qw_300 : Cond.code yX0_dealOut prog_2_method_2_code 4 (Option.none : Option Jvm.ClassFile.FieldType) ∈ lw_G := List.mem_filter.mpr ⟨List.mem_of_getElem? (i := 300) (by decide +kernel), by decide +kernel⟩
theorem qw_301 : Cond.methodLink "SkyloadBureau$Dealing" 31 yX0_lineUp ∈ lw_G := List.mem_filter.mpr ⟨List.mem_of_getElem? (i := 301) (by decide +kernel), by decide +kernel⟩
theorem qw_303 : Cond.instanceMethod yX0_lineUp ∈ lw_G := List.mem_filter.mpr ⟨List.mem_of_getElem? (i := 303) (by decide +kernel), by decide +kernel⟩
theorem qw_304 : Cond.code yX0_lineUp prog_2_method_3_code 6 (Option.none : Option Jvm.ClassFile.FieldType) ∈ lw_G := List.mem_filter.mpr ⟨List.mem_of_getElem? (i := 304) (by decide +kernel), by decide +kernel⟩
theorem qw_305 : Cond.methodLink "SkyloadBureau$Dealing" 42 yX2_clear ∈ lw_G := List.mem_filter.mpr ⟨List.mem_of_getElem? (i := 305) (by decide +kernel), by decide +kernel⟩
theorem qw_306 : Cond.instanceMethod yX2_clear ∈ lw_G := List.mem_filter.mpr ⟨List.mem_of_getElem? (i := 306) (by decide +kernel), by decide +kernel⟩
theorem qw_307 : Cond.selects "SkyloadBureau$Line" yX2_clear yX2_clear ∈ lw_G := List.mem_filter.mpr ⟨List.mem_of_getElem? (i := 307) (by decide +kernel), by decide +kernel⟩
theorem qw_308 : Cond.code yX2_clear prog_4_method_2_code 1 (Option.none : Option Jvm.ClassFile.FieldType) ∈ lw_G := List.mem_filter.mpr ⟨List.mem_of_getElem? (i := 308) (by decide +kernel), by decide +kernel⟩
theorem qw_309 : Cond.methodLink "SkyloadBureau$Dealing" 45 yX3_slotCount ∈ lw_G := List.mem_filter.mpr ⟨List.mem_of_getElem? (i := 309) (by decide +kernel), by decide +kernel⟩
theorem qw_310 : Cond.instanceMethod yX3_slotCount ∈ lw_G := List.mem_filter.mpr ⟨List.mem_of_getElem? (i := 310) (by decide +kernel), by decide +kernel⟩
theorem qw_311 : Cond.selects "SkyloadBureau$Regulation" yX3_slotCount yX3_slotCount ∈ lw_G := List.mem_filter.mpr ⟨List.mem_of_getElem? (i := 311) (by decide +kernel), by decide +kernel⟩
theorem qw_312 : Cond.code yX3_slotCount prog_5_method_3_code 1 (some FieldType.int) ∈ lw_G := List.mem_filter.mpr ⟨List.mem_of_getElem? (i := 312) (by decide +kernel), by decide +kernel⟩
theorem qw_313 : Cond.methodLink "SkyloadBureau$Dealing" 54 yJx4a65c_size_8abf5 ∈ lw_G := List.mem_filter.mpr ⟨List.mem_of_getElem? (i := 313) (by decide +kernel), by decide +kernel⟩
theorem qw_314 : Cond.methodLink "SkyloadBureau$Dealing" 59 yJx4a65c_get_915e3 ∈ lw_G := List.mem_filter.mpr ⟨List.mem_of_getElem? (i := 314) (by decide +kernel), by decide +kernel⟩
theorem qw_315 : Cond.classLink "SkyloadBureau$Dealing" 63 "SkyloadBureau$Flight" ∈ lw_G := List.mem_filter.mpr ⟨List.mem_of_getElem? (i := 315) (by decide +kernel), by decide +kernel⟩
theorem qw_316 : Cond.methodLink "SkyloadBureau$Dealing" 68 yX1_lineTime ∈ lw_G := List.mem_filter.mpr ⟨List.mem_of_getElem? (i := 316) (by decide +kernel), by decide +kernel⟩
theorem qw_317 : Cond.instanceMethod yX1_lineTime ∈ lw_G := List.mem_filter.mpr ⟨List.mem_of_getElem? (i := 317) (by decide +kernel), by decide +kernel⟩
theorem qw_318 : Cond.selects "SkyloadBureau$Flight" yX1_lineTime yX1_lineTime ∈ lw_G := List.mem_filter.mpr ⟨List.mem_of_getElem? (i := 318) (by decide +kernel), by decide +kernel⟩
theorem qw_319 : Cond.code yX1_lineTime prog_3_method_13_code 3 (some FieldType.int) ∈ lw_G := List.mem_filter.mpr ⟨List.mem_of_getElem? (i := 319) (by decide +kernel), by decide +kernel⟩
theorem qw_320 : Cond.methodLink "SkyloadBureau$Dealing" 72 yX3_holdsAt ∈ lw_G := List.mem_filter.mpr ⟨List.mem_of_getElem? (i := 320) (by decide +kernel), by decide +kernel⟩
theorem qw_321 : Cond.instanceMethod yX3_holdsAt ∈ lw_G := List.mem_filter.mpr ⟨List.mem_of_getElem? (i := 321) (by decide +kernel), by decide +kernel⟩
theorem qw_322 : Cond.selects "SkyloadBureau$Regulation" yX3_holdsAt yX3_holdsAt ∈ lw_G := List.mem_filter.mpr ⟨List.mem_of_getElem? (i := 322) (by decide +kernel), by decide +kernel⟩
theorem qw_323 : Cond.code yX3_holdsAt prog_5_method_2_code 2 (some FieldType.boolean) ∈ lw_G := List.mem_filter.mpr ⟨List.mem_of_getElem? (i := 323) (by decide +kernel), by decide +kernel⟩
theorem qw_324 : Cond.methodLink "SkyloadBureau$Dealing" 76 yX1_isFixed ∈ lw_G := List.mem_filter.mpr ⟨List.mem_of_getElem? (i := 324) (by decide +kernel), by decide +kernel⟩
theorem qw_325 : Cond.instanceMethod yX1_isFixed ∈ lw_G := List.mem_filter.mpr ⟨List.mem_of_getElem? (i := 325) (by decide +kernel), by decide +kernel⟩
theorem qw_326 : Cond.selects "SkyloadBureau$Flight" yX1_isFixed yX1_isFixed ∈ lw_G := List.mem_filter.mpr ⟨List.mem_of_getElem? (i := 326) (by decide +kernel), by decide +kernel⟩
theorem qw_327 : Cond.code yX1_isFixed prog_3_method_11_code 1 (some FieldType.boolean) ∈ lw_G := List.mem_filter.mpr ⟨List.mem_of_getElem? (i := 327) (by decide +kernel), by decide +kernel⟩
theorem qw_328 : Cond.methodLink "SkyloadBureau$Dealing" 80 yX2_add ∈ lw_G := List.mem_filter.mpr ⟨List.mem_of_getElem? (i := 328) (by decide +kernel), by decide +kernel⟩
theorem qw_329 : Cond.instanceMethod yX2_add ∈ lw_G := List.mem_filter.mpr ⟨List.mem_of_getElem? (i := 329) (by decide +kernel), by decide +kernel⟩
theorem qw_330 : Cond.selects "SkyloadBureau$Line" yX2_add yX2_add ∈ lw_G := List.mem_filter.mpr ⟨List.mem_of_getElem? (i := 330) (by decide +kernel), by decide +kernel⟩
theorem qw_331 : Cond.code yX2_add prog_4_method_3_code 4 (Option.none : Option Jvm.ClassFile.FieldType) ∈ lw_G := List.mem_filter.mpr ⟨List.mem_of_getElem? (i := 331) (by decide +kernel), by decide +kernel⟩
theorem qw_332 : Cond.methodLink "SkyloadBureau$Dealing" 84 yX1_isListed ∈ lw_G := List.mem_filter.mpr ⟨List.mem_of_getElem? (i := 332) (by decide +kernel), by decide +kernel⟩
theorem qw_333 : Cond.instanceMethod yX1_isListed ∈ lw_G := List.mem_filter.mpr ⟨List.mem_of_getElem? (i := 333) (by decide +kernel), by decide +kernel⟩
theorem qw_334 : Cond.selects "SkyloadBureau$Flight" yX1_isListed yX1_isListed ∈ lw_G := List.mem_filter.mpr ⟨List.mem_of_getElem? (i := 334) (by decide +kernel), by decide +kernel⟩
theorem qw_335 : Cond.code yX1_isListed prog_3_method_12_code 1 (some FieldType.boolean) ∈ lw_G := List.mem_filter.mpr ⟨List.mem_of_getElem? (i := 335) (by decide +kernel), by decide +kernel⟩
theorem qw_336 : Cond.methodLink "SkyloadBureau$Dealing" 35 yX0_serve ∈ lw_G := List.mem_filter.mpr ⟨List.mem_of_getElem? (i := 336) (by decide +kernel), by decide +kernel⟩
theorem qw_338 : Cond.instanceMethod yX0_serve ∈ lw_G := List.mem_filter.mpr ⟨List.mem_of_getElem? (i := 338) (by decide +kernel), by decide +kernel⟩
theorem qw_339 : Cond.code yX0_serve prog_2_method_4_code 7 (some FieldType.int) ∈ lw_G := List.mem_filter.mpr ⟨List.mem_of_getElem? (i := 339) (by decide +kernel), by decide +kernel⟩
theorem qw_340 : Cond.methodLink "SkyloadBureau$Dealing" 87 yX2_timeAt ∈ lw_G := List.mem_filter.mpr ⟨List.mem_of_getElem? (i := 340) (by decide +kernel), by decide +kernel⟩
theorem qw_341 : Cond.instanceMethod yX2_timeAt ∈ lw_G := List.mem_filter.mpr ⟨List.mem_of_getElem? (i := 341) (by decide +kernel), by decide +kernel⟩
theorem qw_342 : Cond.selects "SkyloadBureau$Line" yX2_timeAt yX2_timeAt ∈ lw_G := List.mem_filter.mpr ⟨List.mem_of_getElem? (i := 342) (by decide +kernel), by decide +kernel⟩
theorem qw_343 : Cond.code yX2_timeAt prog_4_method_5_code 2 (some FieldType.int) ∈ lw_G := List.mem_filter.mpr ⟨List.mem_of_getElem? (i := 343) (by decide +kernel), by decide +kernel⟩
theorem qw_344 : Cond.methodLink "SkyloadBureau$Line" 28 yX2_has ∈ lw_G := List.mem_filter.mpr ⟨List.mem_of_getElem? (i := 344) (by decide +kernel), by decide +kernel⟩
theorem qw_345 : Cond.instanceMethod yX2_has ∈ lw_G := List.mem_filter.mpr ⟨List.mem_of_getElem? (i := 345) (by decide +kernel), by decide +kernel⟩
theorem qw_346 : Cond.selects "SkyloadBureau$Line" yX2_has yX2_has ∈ lw_G := List.mem_filter.mpr ⟨List.mem_of_getElem? (i := 346) (by decide +kernel), by decide +kernel⟩
theorem qw_347 : Cond.code yX2_has prog_4_method_4_code 2 (some FieldType.boolean) ∈ lw_G := List.mem_filter.mpr ⟨List.mem_of_getElem? (i := 347) (by decide +kernel), by decide +kernel⟩
theorem qw_348 : Cond.methodLink "SkyloadBureau$Dealing" 90 yX3_slotEnd ∈ lw_G := List.mem_filter.mpr ⟨List.mem_of_getElem? (i := 348) (by decide +kernel), by decide +kernel⟩
theorem qw_349 : Cond.instanceMethod yX3_slotEnd ∈ lw_G := List.mem_filter.mpr ⟨List.mem_of_getElem? (i := 349) (by decide +kernel), by decide +kernel⟩
theorem qw_350 : Cond.selects "SkyloadBureau$Regulation" yX3_slotEnd yX3_slotEnd ∈ lw_G := List.mem_filter.mpr ⟨List.mem_of_getElem? (i := 350) (by decide +kernel), by decide +kernel⟩
theorem qw_351 : Cond.code yX3_slotEnd prog_5_method_5_code 2 (some FieldType.int) ∈ lw_G := List.mem_filter.mpr ⟨List.mem_of_getElem? (i := 351) (by decide +kernel), by decide +kernel⟩
theorem qw_352 : Cond.methodLink "SkyloadBureau$Regulation" 28 yX3_slotBegin ∈ lw_G := List.mem_filter.mpr ⟨List.mem_of_getElem? (i := 352) (by decide +kernel), by decide +kernel⟩
theorem qw_353 : Cond.instanceMethod yX3_slotBegin ∈ lw_G := List.mem_filter.mpr ⟨List.mem_of_getElem? (i := 353) (by decide +kernel), by decide +kernel⟩
theorem qw_354 : Cond.selects "SkyloadBureau$Regulation" yX3_slotBegin yX3_slotBegin ∈ lw_G := List.mem_filter.mpr ⟨List.mem_of_getElem? (i := 354) (by decide +kernel), by decide +kernel⟩
theorem qw_355 : Cond.code yX3_slotBegin prog_5_method_4_code 2 (some FieldType.int) ∈ lw_G := List.mem_filter.mpr ⟨List.mem_of_getElem? (i := 355) (by decide +kernel), by decide +kernel⟩
theorem qw_356 : Cond.methodLink "SkyloadBureau$Regulation" 32 yJ9_min_7cf53 ∈ lw_G := List.mem_filter.mpr ⟨List.mem_of_getElem? (i := 356) (by decide +kernel), by decide +kernel⟩
theorem qw_357 : Cond.static yJ9_min_7cf53 ∈ lw_G := List.mem_filter.mpr ⟨List.mem_of_getElem? (i := 357) (by decide +kernel), by decide +kernel⟩
theorem qw_358 : Cond.code yJ9_min_7cf53 prog_15_method_69_code 2 (some FieldType.int) ∈ lw_G := List.mem_filter.mpr ⟨List.mem_of_getElem? (i := 358) (by decide +kernel), by decide +kernel⟩
theorem qw_359 : Cond.methodLink "SkyloadBureau$Dealing" 93 yX2_hasGiven ∈ lw_G := List.mem_filter.mpr ⟨List.mem_of_getElem? (i := 359) (by decide +kernel), by decide +kernel⟩
theorem qw_360 : Cond.instanceMethod yX2_hasGiven ∈ lw_G := List.mem_filter.mpr ⟨List.mem_of_getElem? (i := 360) (by decide +kernel), by decide +kernel⟩
theorem qw_361 : Cond.selects "SkyloadBureau$Line" yX2_hasGiven yX2_hasGiven ∈ lw_G := List.mem_filter.mpr ⟨List.mem_of_getElem? (i := 361) (by decide +kernel), by decide +kernel⟩
theorem qw_362 : Cond.code yX2_hasGiven prog_4_method_7_code 3 (some FieldType.boolean) ∈ lw_G := List.mem_filter.mpr ⟨List.mem_of_getElem? (i := 362) (by decide +kernel), by decide +kernel⟩
theorem qw_363 : Cond.methodLink "SkyloadBureau$Dealing" 96 yX3_slotBegin ∈ lw_G := List.mem_filter.mpr ⟨List.mem_of_getElem? (i := 363) (by decide +kernel), by decide +kernel⟩
theorem qw_364 : Cond.methodLink "SkyloadBureau$Dealing" 99 yJ9_max_7cf53 ∈ lw_G := List.mem_filter.mpr ⟨List.mem_of_getElem? (i := 364) (by decide +kernel), by decide +kernel⟩
theorem qw_365 : Cond.methodLink "SkyloadBureau$Dealing" 105 yX2_give ∈ lw_G := List.mem_filter.mpr ⟨List.mem_of_getElem? (i := 365) (by decide +kernel), by decide +kernel⟩
theorem qw_366 : Cond.instanceMethod yX2_give ∈ lw_G := List.mem_filter.mpr ⟨List.mem_of_getElem? (i := 366) (by decide +kernel), by decide +kernel⟩
theorem qw_367 : Cond.selects "SkyloadBureau$Line" yX2_give yX2_give ∈ lw_G := List.mem_filter.mpr ⟨List.mem_of_getElem? (i := 367) (by decide +kernel), by decide +kernel⟩
theorem qw_368 : Cond.code yX2_give prog_4_method_6_code 4 (Option.none : Option Jvm.ClassFile.FieldType) ∈ lw_G := List.mem_filter.mpr ⟨List.mem_of_getElem? (i := 368) (by decide +kernel), by decide +kernel⟩
theorem qw_369 : Cond.methodLink "SkyloadBureau" 198 yX2_penaltyOf ∈ lw_G := List.mem_filter.mpr ⟨List.mem_of_getElem? (i := 369) (by decide +kernel), by decide +kernel⟩
theorem qw_370 : Cond.instanceMethod yX2_penaltyOf ∈ lw_G := List.mem_filter.mpr ⟨List.mem_of_getElem? (i := 370) (by decide +kernel), by decide +kernel⟩
theorem qw_371 : Cond.selects "SkyloadBureau$Line" yX2_penaltyOf yX2_penaltyOf ∈ lw_G := List.mem_filter.mpr ⟨List.mem_of_getElem? (i := 371) (by decide +kernel), by decide +kernel⟩
theorem qw_372 : Cond.code yX2_penaltyOf prog_4_method_9_code 3 (some FieldType.int) ∈ lw_G := List.mem_filter.mpr ⟨List.mem_of_getElem? (i := 372) (by decide +kernel), by decide +kernel⟩
theorem qw_373 : Cond.methodLink "SkyloadBureau$Line" 32 yX2_placeOf ∈ lw_G := List.mem_filter.mpr ⟨List.mem_of_getElem? (i := 373) (by decide +kernel), by decide +kernel⟩
theorem qw_374 : Cond.instanceMethod yX2_placeOf ∈ lw_G := List.mem_filter.mpr ⟨List.mem_of_getElem? (i := 374) (by decide +kernel), by decide +kernel⟩
theorem qw_375 : Cond.selects "SkyloadBureau$Line" yX2_placeOf yX2_placeOf ∈ lw_G := List.mem_filter.mpr ⟨List.mem_of_getElem? (i := 375) (by decide +kernel), by decide +kernel⟩
theorem qw_376 : Cond.code yX2_placeOf prog_4_method_8_code 3 (some FieldType.int) ∈ lw_G := List.mem_filter.mpr ⟨List.mem_of_getElem? (i := 376) (by decide +kernel), by decide +kernel⟩
theorem qw_377 : Cond.methodLink "SkyloadBureau" 273 yX1_reckon ∈ lw_G := List.mem_filter.mpr ⟨List.mem_of_getElem? (i := 377) (by decide +kernel), by decide +kernel⟩
theorem qw_378 : Cond.instanceMethod yX1_reckon ∈ lw_G := List.mem_filter.mpr ⟨List.mem_of_getElem? (i := 378) (by decide +kernel), by decide +kernel⟩
theorem qw_379 : Cond.selects "SkyloadBureau$Flight" yX1_reckon yX1_reckon ∈ lw_G := List.mem_filter.mpr ⟨List.mem_of_getElem? (i := 379) (by decide +kernel), by decide +kernel⟩
theorem qw_380 : Cond.code yX1_reckon prog_3_method_20_code 3 (Option.none : Option Jvm.ClassFile.FieldType) ∈ lw_G := List.mem_filter.mpr ⟨List.mem_of_getElem? (i := 380) (by decide +kernel), by decide +kernel⟩
theorem qw_381 : Cond.methodLink "SkyloadBureau" 211 yX4_sumOfDues ∈ lw_G := List.mem_filter.mpr ⟨List.mem_of_getElem? (i := 381) (by decide +kernel), by decide +kernel⟩
theorem qw_383 : Cond.instanceMethod yX4_sumOfDues ∈ lw_G := List.mem_filter.mpr ⟨List.mem_of_getElem? (i := 383) (by decide +kernel), by decide +kernel⟩
theorem qw_384 : Cond.code yX4_sumOfDues prog_1_method_36_code 3 (some FieldType.int) ∈ lw_G := List.mem_filter.mpr ⟨List.mem_of_getElem? (i := 384) (by decide +kernel), by decide +kernel⟩
theorem qw_385 : Cond.methodLink "SkyloadBureauLaw" 110 yX4_deal ∈ lw_G := List.mem_filter.mpr ⟨List.mem_of_getElem? (i := 385) (by decide +kernel), by decide +kernel⟩
theorem qw_386 : Cond.instanceMethod yX4_deal ∈ lw_G := List.mem_filter.mpr ⟨List.mem_of_getElem? (i := 386) (by decide +kernel), by decide +kernel⟩
theorem qw_387 : Cond.selects "SkyloadBureau" yX4_deal yX4_deal ∈ lw_G := List.mem_filter.mpr ⟨List.mem_of_getElem? (i := 387) (by decide +kernel), by decide +kernel⟩
theorem qw_388 : Cond.code yX4_deal prog_1_method_21_code 5 (some FieldType.int) ∈ lw_G := List.mem_filter.mpr ⟨List.mem_of_getElem? (i := 388) (by decide +kernel), by decide +kernel⟩
theorem qw_389 : Cond.methodLink "SkyloadBureau" 218 yX1_takeReckoned ∈ lw_G := List.mem_filter.mpr ⟨List.mem_of_getElem? (i := 389) (by decide +kernel), by decide +kernel⟩
theorem qw_390 : Cond.instanceMethod yX1_takeReckoned ∈ lw_G := List.mem_filter.mpr ⟨List.mem_of_getElem? (i := 390) (by decide +kernel), by decide +kernel⟩
theorem qw_391 : Cond.selects "SkyloadBureau$Flight" yX1_takeReckoned yX1_takeReckoned ∈ lw_G := List.mem_filter.mpr ⟨List.mem_of_getElem? (i := 391) (by decide +kernel), by decide +kernel⟩
theorem qw_392 : Cond.code yX1_takeReckoned prog_3_method_21_code 3 (Option.none : Option Jvm.ClassFile.FieldType) ∈ lw_G := List.mem_filter.mpr ⟨List.mem_of_getElem? (i := 392) (by decide +kernel), by decide +kernel⟩
theorem qw_393 : Cond.methodLink "SkyloadBureau$Flight" 87 yX1_isListed ∈ lw_G := List.mem_filter.mpr ⟨List.mem_of_getElem? (i := 393) (by decide +kernel), by decide +kernel⟩
theorem qw_394 : Cond.methodLink "SkyloadBureau$Flight" 90 yX1_loseSlotTime ∈ lw_G := List.mem_filter.mpr ⟨List.mem_of_getElem? (i := 394) (by decide +kernel), by decide +kernel⟩
theorem qw_395 : Cond.instanceMethod yX1_loseSlotTime ∈ lw_G := List.mem_filter.mpr ⟨List.mem_of_getElem? (i := 395) (by decide +kernel), by decide +kernel⟩
theorem qw_396 : Cond.selects "SkyloadBureau$Flight" yX1_loseSlotTime yX1_loseSlotTime ∈ lw_G := List.mem_filter.mpr ⟨List.mem_of_getElem? (i := 396) (by decide +kernel), by decide +kernel⟩
theorem qw_397 : Cond.code yX1_loseSlotTime prog_3_method_14_code 1 (Option.none : Option Jvm.ClassFile.FieldType) ∈ lw_G := List.mem_filter.mpr ⟨List.mem_of_getElem? (i := 397) (by decide +kernel), by decide +kernel⟩
theorem qw_398 : Cond.methodLink "SkyloadBureau" 222 yX1_delay ∈ lw_G := List.mem_filter.mpr ⟨List.mem_of_getElem? (i := 398) (by decide +kernel), by decide +kernel⟩
theorem qw_399 : Cond.instanceMethod yX1_delay ∈ lw_G := List.mem_filter.mpr ⟨List.mem_of_getElem? (i := 399) (by decide +kernel), by decide +kernel⟩
theorem qw_400 : Cond.selects "SkyloadBureau$Flight" yX1_delay yX1_delay ∈ lw_G := List.mem_filter.mpr ⟨List.mem_of_getElem? (i := 400) (by decide +kernel), by decide +kernel⟩
theorem qw_401 : Cond.code yX1_delay prog_3_method_15_code 1 (some FieldType.int) ∈ lw_G := List.mem_filter.mpr ⟨List.mem_of_getElem? (i := 401) (by decide +kernel), by decide +kernel⟩
theorem qw_402 : Cond.methodLink "SkyloadBureauLaw" 124 yX4_companyIs ∈ lw_G := List.mem_filter.mpr ⟨List.mem_of_getElem? (i := 402) (by decide +kernel), by decide +kernel⟩
theorem qw_403 : Cond.instanceMethod yX4_companyIs ∈ lw_G := List.mem_filter.mpr ⟨List.mem_of_getElem? (i := 403) (by decide +kernel), by decide +kernel⟩
theorem qw_404 : Cond.selects "SkyloadBureau" yX4_companyIs yX4_companyIs ∈ lw_G := List.mem_filter.mpr ⟨List.mem_of_getElem? (i := 404) (by decide +kernel), by decide +kernel⟩
theorem qw_405 : Cond.code yX4_companyIs prog_1_method_24_code 6 (some FieldType.int) ∈ lw_G := List.mem_filter.mpr ⟨List.mem_of_getElem? (i := 405) (by decide +kernel), by decide +kernel⟩
theorem qw_406 : Cond.methodLink "SkyloadBureau" 33 yX4_checkCompany ∈ lw_G := List.mem_filter.mpr ⟨List.mem_of_getElem? (i := 406) (by decide +kernel), by decide +kernel⟩
theorem qw_407 : Cond.static yX4_checkCompany ∈ lw_G := List.mem_filter.mpr ⟨List.mem_of_getElem? (i := 407) (by decide +kernel), by decide +kernel⟩
theorem qw_408 : Cond.code yX4_checkCompany prog_1_method_28_code 1 (Option.none : Option Jvm.ClassFile.FieldType) ∈ lw_G := List.mem_filter.mpr ⟨List.mem_of_getElem? (i := 408) (by decide +kernel), by decide +kernel⟩
theorem qw_410 : Cond.methodLink "SkyloadBureau" 250 yX1_ledgerLine ∈ lw_G := List.mem_filter.mpr ⟨List.mem_of_getElem? (i := 410) (by decide +kernel), by decide +kernel⟩
theorem qw_411 : Cond.instanceMethod yX1_ledgerLine ∈ lw_G := List.mem_filter.mpr ⟨List.mem_of_getElem? (i := 411) (by decide +kernel), by decide +kernel⟩
theorem qw_412 : Cond.selects "SkyloadBureau$Flight" yX1_ledgerLine yX1_ledgerLine ∈ lw_G := List.mem_filter.mpr ⟨List.mem_of_getElem? (i := 412) (by decide +kernel), by decide +kernel⟩
theorem qw_413 : Cond.code yX1_ledgerLine prog_3_method_18_code 2 (some FieldType.int) ∈ lw_G := List.mem_filter.mpr ⟨List.mem_of_getElem? (i := 413) (by decide +kernel), by decide +kernel⟩
theorem qw_414 : Cond.methodLink "SkyloadBureau$Flight" 80 yX1_charge ∈ lw_G := List.mem_filter.mpr ⟨List.mem_of_getElem? (i := 414) (by decide +kernel), by decide +kernel⟩
theorem qw_415 : Cond.instanceMethod yX1_charge ∈ lw_G := List.mem_filter.mpr ⟨List.mem_of_getElem? (i := 415) (by decide +kernel), by decide +kernel⟩
theorem qw_416 : Cond.selects "SkyloadBureau$Flight" yX1_charge yX1_charge ∈ lw_G := List.mem_filter.mpr ⟨List.mem_of_getElem? (i := 416) (by decide +kernel), by decide +kernel⟩
theorem qw_417 : Cond.code yX1_charge prog_3_method_16_code 1 (some FieldType.int) ∈ lw_G := List.mem_filter.mpr ⟨List.mem_of_getElem? (i := 417) (by decide +kernel), by decide +kernel⟩
theorem qw_418 : Cond.methodLink "SkyloadBureau$Flight" 77 yX1_delay ∈ lw_G := List.mem_filter.mpr ⟨List.mem_of_getElem? (i := 418) (by decide +kernel), by decide +kernel⟩
theorem qw_419 : Cond.methodLink "SkyloadBureau$Flight" 83 yX1_wentOutOfWindow ∈ lw_G := List.mem_filter.mpr ⟨List.mem_of_getElem? (i := 419) (by decide +kernel), by decide +kernel⟩
theorem qw_420 : Cond.instanceMethod yX1_wentOutOfWindow ∈ lw_G := List.mem_filter.mpr ⟨List.mem_of_getElem? (i := 420) (by decide +kernel), by decide +kernel⟩
theorem qw_421 : Cond.selects "SkyloadBureau$Flight" yX1_wentOutOfWindow yX1_wentOutOfWindow ∈ lw_G := List.mem_filter.mpr ⟨List.mem_of_getElem? (i := 421) (by decide +kernel), by decide +kernel⟩
theorem qw_422 : Cond.code yX1_wentOutOfWindow prog_3_method_17_code 1 (some FieldType.boolean) ∈ lw_G := List.mem_filter.mpr ⟨List.mem_of_getElem? (i := 422) (by decide +kernel), by decide +kernel⟩
theorem qw_423 : Cond.methodLink "SkyloadBureauLaw" 128 yL_draw ∈ lw_G := List.mem_filter.mpr ⟨List.mem_of_getElem? (i := 423) (by decide +kernel), by decide +kernel⟩
theorem qw_424 : Cond.static yL_draw ∈ lw_G := List.mem_filter.mpr ⟨List.mem_of_getElem? (i := 424) (by decide +kernel), by decide +kernel⟩
theorem qw_426 : Cond.constant "SkyloadBureauLaw" 7 (2147483647 : Int32) ∈ lw_G := List.mem_filter.mpr ⟨List.mem_of_getElem? (i := 426) (by decide +kernel), by decide +kernel⟩
theorem qw_427 : Cond.constant "SkyloadBureauLaw" 8 (104729 : Int32) ∈ lw_G := List.mem_filter.mpr ⟨List.mem_of_getElem? (i := 427) (by decide +kernel), by decide +kernel⟩
theorem qw_428 : Cond.constant "SkyloadBureauLaw" 9 (65521 : Int32) ∈ lw_G := List.mem_filter.mpr ⟨List.mem_of_getElem? (i := 428) (by decide +kernel), by decide +kernel⟩
theorem qw_429 : Cond.methodLink "SkyloadBureauLaw" 132 yL_step ∈ lw_G := List.mem_filter.mpr ⟨List.mem_of_getElem? (i := 429) (by decide +kernel), by decide +kernel⟩
theorem qw_430 : Cond.static yL_step ∈ lw_G := List.mem_filter.mpr ⟨List.mem_of_getElem? (i := 430) (by decide +kernel), by decide +kernel⟩
theorem qw_432 : Cond.methodLink "SkyloadBureauLaw" 42 yL_acts ∈ lw_G := List.mem_filter.mpr ⟨List.mem_of_getElem? (i := 432) (by decide +kernel), by decide +kernel⟩
theorem qw_433 : Cond.static yL_acts ∈ lw_G := List.mem_filter.mpr ⟨List.mem_of_getElem? (i := 433) (by decide +kernel), by decide +kernel⟩
theorem qw_435 : Cond.classLink "SkyloadBureauLaw" 16 "java/lang/IllegalStateException" ∈ lw_G := List.mem_filter.mpr ⟨List.mem_of_getElem? (i := 435) (by decide +kernel), by decide +kernel⟩
theorem qw_436 : Cond.methodLink "SkyloadBureauLaw" 20 yX4_flight ∈ lw_G := List.mem_filter.mpr ⟨List.mem_of_getElem? (i := 436) (by decide +kernel), by decide +kernel⟩
theorem qw_437 : Cond.instanceMethod yX4_flight ∈ lw_G := List.mem_filter.mpr ⟨List.mem_of_getElem? (i := 437) (by decide +kernel), by decide +kernel⟩
theorem qw_438 : Cond.selects "SkyloadBureau" yX4_flight yX4_flight ∈ lw_G := List.mem_filter.mpr ⟨List.mem_of_getElem? (i := 438) (by decide +kernel), by decide +kernel⟩
theorem qw_439 : Cond.code yX4_flight prog_1_method_2_code 3 (some FieldType.int) ∈ lw_G := List.mem_filter.mpr ⟨List.mem_of_getElem? (i := 439) (by decide +kernel), by decide +kernel⟩
theorem qw_440 : Cond.classLink "SkyloadBureau" 45 "java/lang/IllegalStateException" ∈ lw_G := List.mem_filter.mpr ⟨List.mem_of_getElem? (i := 440) (by decide +kernel), by decide +kernel⟩
theorem qw_441 : Cond.instantiable "java/lang/IllegalStateException" 6 ∈ lw_G := List.mem_filter.mpr ⟨List.mem_of_getElem? (i := 441) (by decide +kernel), by decide +kernel⟩
theorem qw_443 : Cond.selects "java/lang/IllegalStateException" (⟨"java/lang/Throwable", "fillInStackTrace", "(I)Ljava/lang/Throwable;"⟩ : MethodName) (⟨"java/lang/Throwable", "fillInStackTrace", "(I)Ljava/lang/Throwable;"⟩ : MethodName) ∈ lw_G := List.mem_filter.mpr ⟨List.mem_of_getElem? (i := 443) (by decide +kernel), by decide +kernel⟩
theorem qw_444 : Cond.lays "java/lang/IllegalStateException" "java/lang/Throwable" "cause" "Ljava/lang/Throwable;" ∈ lw_G := List.mem_filter.mpr ⟨List.mem_of_getElem? (i := 444) (by decide +kernel), by decide +kernel⟩
theorem qw_445 : Cond.lays "java/lang/IllegalStateException" "java/lang/Throwable" "stackTrace" "[Ljava/lang/StackTraceElement;" ∈ lw_G := List.mem_filter.mpr ⟨List.mem_of_getElem? (i := 445) (by decide +kernel), by decide +kernel⟩
theorem qw_446 : Cond.lays "java/lang/IllegalStateException" "java/lang/Throwable" "suppressedExceptions" "Ljava/util/List;" ∈ lw_G := List.mem_filter.mpr ⟨List.mem_of_getElem? (i := 446) (by decide +kernel), by decide +kernel⟩
theorem qw_447 : Cond.lays "java/lang/IllegalStateException" "java/lang/Throwable" "detailMessage" "Ljava/lang/String;" ∈ lw_G := List.mem_filter.mpr ⟨List.mem_of_getElem? (i := 447) (by decide +kernel), by decide +kernel⟩
theorem qw_448 : Cond.lays "java/lang/IllegalStateException" "java/lang/Throwable" "backtrace" "Ljava/lang/Object;" ∈ lw_G := List.mem_filter.mpr ⟨List.mem_of_getElem? (i := 448) (by decide +kernel), by decide +kernel⟩
theorem qw_450 : Cond.methodLink "SkyloadBureau" 49 (⟨"java/lang/IllegalStateException", "<init>", "(Ljava/lang/String;)V"⟩ : MethodName) ∈ lw_G := List.mem_filter.mpr ⟨List.mem_of_getElem? (i := 450) (by decide +kernel), by decide +kernel⟩
theorem qw_451 : Cond.instanceMethod (⟨"java/lang/IllegalStateException", "<init>", "(Ljava/lang/String;)V"⟩ : MethodName) ∈ lw_G := List.mem_filter.mpr ⟨List.mem_of_getElem? (i := 451) (by decide +kernel), by decide +kernel⟩
theorem qw_452 : Cond.code (⟨"java/lang/IllegalStateException", "<init>", "(Ljava/lang/String;)V"⟩ : MethodName) prog_12_method_2_code 2 (Option.none : Option Jvm.ClassFile.FieldType) ∈ lw_G := List.mem_filter.mpr ⟨List.mem_of_getElem? (i := 452) (by decide +kernel), by decide +kernel⟩
theorem qw_453 : Cond.methodLink "java/lang/IllegalStateException" 7 (⟨"java/lang/RuntimeException", "<init>", "(Ljava/lang/String;)V"⟩ : MethodName) ∈ lw_G := List.mem_filter.mpr ⟨List.mem_of_getElem? (i := 453) (by decide +kernel), by decide +kernel⟩
theorem qw_454 : Cond.lays "java/lang/IllegalStateException" "java/lang/Throwable" "depth" "I" ∈ lw_G := List.mem_filter.mpr ⟨List.mem_of_getElem? (i := 454) (by decide +kernel), by decide +kernel⟩
theorem qw_455 : Cond.superclass "java/lang/IllegalStateException" "java/lang/RuntimeException" ∈ lw_G := List.mem_filter.mpr ⟨List.mem_of_getElem? (i := 455) (by decide +kernel), by decide +kernel⟩
theorem qw_456 : Cond.instantiable "SkyloadBureau$Flight" 14 ∈ lw_G := List.mem_filter.mpr ⟨List.mem_of_getElem? (i := 456) (by decide +kernel), by decide +kernel⟩
theorem qw_457 : Cond.methodLink "SkyloadBureau" 54 yX1_init ∈ lw_G := List.mem_filter.mpr ⟨List.mem_of_getElem? (i := 457) (by decide +kernel), by decide +kernel⟩
theorem qw_458 : Cond.instanceMethod yX1_init ∈ lw_G := List.mem_filter.mpr ⟨List.mem_of_getElem? (i := 458) (by decide +kernel), by decide +kernel⟩
theorem qw_459 : Cond.code yX1_init prog_3_method_1_code 4 (Option.none : Option Jvm.ClassFile.FieldType) ∈ lw_G := List.mem_filter.mpr ⟨List.mem_of_getElem? (i := 459) (by decide +kernel), by decide +kernel⟩
theorem qw_460 : Cond.methodLink "SkyloadBureau$Flight" 3 (⟨"java/lang/Object", "<init>", "()V"⟩ : MethodName) ∈ lw_G := List.mem_filter.mpr ⟨List.mem_of_getElem? (i := 460) (by decide +kernel), by decide +kernel⟩
theorem qw_461 : Cond.fieldLink "SkyloadBureau$Flight" 50 "SkyloadBureau$Flight" "company" "I" ∈ lw_G := List.mem_filter.mpr ⟨List.mem_of_getElem? (i := 461) (by decide +kernel), by decide +kernel⟩
theorem qw_462 : Cond.fieldLink "SkyloadBureau" 247 "SkyloadBureau$Flight" "company" "I" ∈ lw_G := List.mem_filter.mpr ⟨List.mem_of_getElem? (i := 462) (by decide +kernel), by decide +kernel⟩
theorem qw_463 : Cond.fieldLink "SkyloadBureau$Flight" 53 "SkyloadBureau$Flight" "planned" "I" ∈ lw_G := List.mem_filter.mpr ⟨List.mem_of_getElem? (i := 463) (by decide +kernel), by decide +kernel⟩
theorem qw_464 : Cond.fieldLink "SkyloadBureau" 93 "SkyloadBureau$Flight" "planned" "I" ∈ lw_G := List.mem_filter.mpr ⟨List.mem_of_getElem? (i := 464) (by decide +kernel), by decide +kernel⟩
theorem qw_465 : Cond.fieldLink "SkyloadBureau$Flight" 9 "SkyloadBureau$Flight" "state" "I" ∈ lw_G := List.mem_filter.mpr ⟨List.mem_of_getElem? (i := 465) (by decide +kernel), by decide +kernel⟩
theorem qw_466 : Cond.fieldLink "SkyloadBureau" 81 "SkyloadBureau$Flight" "state" "I" ∈ lw_G := List.mem_filter.mpr ⟨List.mem_of_getElem? (i := 466) (by decide +kernel), by decide +kernel⟩
theorem qw_467 : Cond.fieldLink "SkyloadBureau$Flight" 15 "SkyloadBureau$Flight" "isExempt" "Z" ∈ lw_G := List.mem_filter.mpr ⟨List.mem_of_getElem? (i := 467) (by decide +kernel), by decide +kernel⟩
theorem qw_468 : Cond.fieldLink "SkyloadBureau" 86 "SkyloadBureau$Flight" "isExempt" "Z" ∈ lw_G := List.mem_filter.mpr ⟨List.mem_of_getElem? (i := 468) (by decide +kernel), by decide +kernel⟩
theorem qw_469 : Cond.fieldLink "SkyloadBureau$Flight" 19 "SkyloadBureau$Flight" "slotTime" "I" ∈ lw_G := List.mem_filter.mpr ⟨List.mem_of_getElem? (i := 469) (by decide +kernel), by decide +kernel⟩
theorem qw_470 : Cond.fieldLink "SkyloadBureau" 96 "SkyloadBureau$Flight" "slotTime" "I" ∈ lw_G := List.mem_filter.mpr ⟨List.mem_of_getElem? (i := 470) (by decide +kernel), by decide +kernel⟩
theorem qw_471 : Cond.fieldLink "SkyloadBureau$Flight" 22 "SkyloadBureau$Flight" "ruling" "I" ∈ lw_G := List.mem_filter.mpr ⟨List.mem_of_getElem? (i := 471) (by decide +kernel), by decide +kernel⟩
theorem qw_472 : Cond.fieldLink "SkyloadBureau" 99 "SkyloadBureau$Flight" "ruling" "I" ∈ lw_G := List.mem_filter.mpr ⟨List.mem_of_getElem? (i := 472) (by decide +kernel), by decide +kernel⟩
theorem qw_473 : Cond.fieldLink "SkyloadBureau$Flight" 25 "SkyloadBureau$Flight" "wentAt" "I" ∈ lw_G := List.mem_filter.mpr ⟨List.mem_of_getElem? (i := 473) (by decide +kernel), by decide +kernel⟩
theorem qw_474 : Cond.fieldLink "SkyloadBureau$Flight" 28 "SkyloadBureau$Flight" "latestMessage" "I" ∈ lw_G := List.mem_filter.mpr ⟨List.mem_of_getElem? (i := 474) (by decide +kernel), by decide +kernel⟩
theorem qw_475 : Cond.fieldLink "SkyloadBureau" 105 "SkyloadBureau$Flight" "latestMessage" "I" ∈ lw_G := List.mem_filter.mpr ⟨List.mem_of_getElem? (i := 475) (by decide +kernel), by decide +kernel⟩
theorem qw_476 : Cond.fieldLink "SkyloadBureau$Flight" 31 "SkyloadBureau$Flight" "entryCount" "I" ∈ lw_G := List.mem_filter.mpr ⟨List.mem_of_getElem? (i := 476) (by decide +kernel), by decide +kernel⟩
theorem qw_477 : Cond.fieldLink "SkyloadBureau" 77 "SkyloadBureau$Flight" "entryCount" "I" ∈ lw_G := List.mem_filter.mpr ⟨List.mem_of_getElem? (i := 477) (by decide +kernel), by decide +kernel⟩
theorem qw_478 : Cond.fieldLink "SkyloadBureau$Flight" 34 "SkyloadBureau$Flight" "latestBehind" "I" ∈ lw_G := List.mem_filter.mpr ⟨List.mem_of_getElem? (i := 478) (by decide +kernel), by decide +kernel⟩
theorem qw_479 : Cond.fieldLink "SkyloadBureau$Flight" 37 "SkyloadBureau$Flight" "behinds" "[I" ∈ lw_G := List.mem_filter.mpr ⟨List.mem_of_getElem? (i := 479) (by decide +kernel), by decide +kernel⟩
theorem qw_480 : Cond.fieldLink "SkyloadBureau$Flight" 41 "SkyloadBureau$Flight" "stays" "[I" ∈ lw_G := List.mem_filter.mpr ⟨List.mem_of_getElem? (i := 480) (by decide +kernel), by decide +kernel⟩
theorem qw_481 : Cond.fieldLink "SkyloadBureau$Flight" 44 "SkyloadBureau$Flight" "reckonedDue" "I" ∈ lw_G := List.mem_filter.mpr ⟨List.mem_of_getElem? (i := 481) (by decide +kernel), by decide +kernel⟩
theorem qw_482 : Cond.fieldLink "SkyloadBureau" 204 "SkyloadBureau$Flight" "reckonedDue" "I" ∈ lw_G := List.mem_filter.mpr ⟨List.mem_of_getElem? (i := 482) (by decide +kernel), by decide +kernel⟩
theorem qw_483 : Cond.fieldLink "SkyloadBureau$Flight" 47 "SkyloadBureau$Flight" "reckonedRuling" "I" ∈ lw_G := List.mem_filter.mpr ⟨List.mem_of_getElem? (i := 483) (by decide +kernel), by decide +kernel⟩
theorem qw_484 : Cond.laysFinal "SkyloadBureau$Flight" "SkyloadBureau$Flight" "company" "I" ∈ lw_G := List.mem_filter.mpr ⟨List.mem_of_getElem? (i := 484) (by decide +kernel), by decide +kernel⟩
theorem qw_486 : Cond.lays "SkyloadBureau$Flight" "SkyloadBureau$Flight" "planned" "I" ∈ lw_G := List.mem_filter.mpr ⟨List.mem_of_getElem? (i := 486) (by decide +kernel), by decide +kernel⟩
theorem qw_488 : Cond.lays "SkyloadBureau$Flight" "SkyloadBureau$Flight" "state" "I" ∈ lw_G := List.mem_filter.mpr ⟨List.mem_of_getElem? (i := 488) (by decide +kernel), by decide +kernel⟩
theorem qw_490 : Cond.lays "SkyloadBureau$Flight" "SkyloadBureau$Flight" "isExempt" "Z" ∈ lw_G := List.mem_filter.mpr ⟨List.mem_of_getElem? (i := 490) (by decide +kernel), by decide +kernel⟩
theorem qw_492 : Cond.lays "SkyloadBureau$Flight" "SkyloadBureau$Flight" "slotTime" "I" ∈ lw_G := List.mem_filter.mpr ⟨List.mem_of_getElem? (i := 492) (by decide +kernel), by decide +kernel⟩
theorem qw_494 : Cond.lays "SkyloadBureau$Flight" "SkyloadBureau$Flight" "ruling" "I" ∈ lw_G := List.mem_filter.mpr ⟨List.mem_of_getElem? (i := 494) (by decide +kernel), by decide +kernel⟩
theorem qw_496 : Cond.lays "SkyloadBureau$Flight" "SkyloadBureau$Flight" "wentAt" "I" ∈ lw_G := List.mem_filter.mpr ⟨List.mem_of_getElem? (i := 496) (by decide +kernel), by decide +kernel⟩
theorem qw_498 : Cond.lays "SkyloadBureau$Flight" "SkyloadBureau$Flight" "latestMessage" "I" ∈ lw_G := List.mem_filter.mpr ⟨List.mem_of_getElem? (i := 498) (by decide +kernel), by decide +kernel⟩
theorem qw_500 : Cond.lays "SkyloadBureau$Flight" "SkyloadBureau$Flight" "entryCount" "I" ∈ lw_G := List.mem_filter.mpr ⟨List.mem_of_getElem? (i := 500) (by decide +kernel), by decide +kernel⟩
theorem qw_502 : Cond.lays "SkyloadBureau$Flight" "SkyloadBureau$Flight" "latestBehind" "I" ∈ lw_G := List.mem_filter.mpr ⟨List.mem_of_getElem? (i := 502) (by decide +kernel), by decide +kernel⟩
theorem qw_504 : Cond.laysFinal "SkyloadBureau$Flight" "SkyloadBureau$Flight" "behinds" "[I" ∈ lw_G := List.mem_filter.mpr ⟨List.mem_of_getElem? (i := 504) (by decide +kernel), by decide +kernel⟩
theorem qw_506 : Cond.laysFinal "SkyloadBureau$Flight" "SkyloadBureau$Flight" "stays" "[I" ∈ lw_G := List.mem_filter.mpr ⟨List.mem_of_getElem? (i := 506) (by decide +kernel), by decide +kernel⟩
theorem qw_508 : Cond.lays "SkyloadBureau$Flight" "SkyloadBureau$Flight" "reckonedDue" "I" ∈ lw_G := List.mem_filter.mpr ⟨List.mem_of_getElem? (i := 508) (by decide +kernel), by decide +kernel⟩
theorem qw_510 : Cond.lays "SkyloadBureau$Flight" "SkyloadBureau$Flight" "reckonedRuling" "I" ∈ lw_G := List.mem_filter.mpr ⟨List.mem_of_getElem? (i := 510) (by decide +kernel), by decide +kernel⟩
theorem qw_512 : Cond.superclass "SkyloadBureau$Flight" "java/lang/Object" ∈ lw_G := List.mem_filter.mpr ⟨List.mem_of_getElem? (i := 512) (by decide +kernel), by decide +kernel⟩
theorem qw_513 : Cond.methodLink "SkyloadBureau" 57 yJx4a65c_add_9ea2d ∈ lw_G := List.mem_filter.mpr ⟨List.mem_of_getElem? (i := 513) (by decide +kernel), by decide +kernel⟩
theorem qw_514 : Cond.instanceMethod yJx4a65c_add_9ea2d ∈ lw_G := List.mem_filter.mpr ⟨List.mem_of_getElem? (i := 514) (by decide +kernel), by decide +kernel⟩
theorem qw_515 : Cond.selects "java/util/ArrayList" yJx4a65c_add_9ea2d yJx4a65c_add_9ea2d ∈ lw_G := List.mem_filter.mpr ⟨List.mem_of_getElem? (i := 515) (by decide +kernel), by decide +kernel⟩
theorem qw_516 : Cond.code yJx4a65c_add_9ea2d prog_22_method_25_code 2 (some FieldType.boolean) ∈ lw_G := List.mem_filter.mpr ⟨List.mem_of_getElem? (i := 516) (by decide +kernel), by decide +kernel⟩
theorem qw_517 : Cond.methodLink "java/util/ArrayList" 131 yJx4a65c_add_72be8 ∈ lw_G := List.mem_filter.mpr ⟨List.mem_of_getElem? (i := 517) (by decide +kernel), by decide +kernel⟩
theorem qw_519 : Cond.instanceMethod yJx4a65c_add_72be8 ∈ lw_G := List.mem_filter.mpr ⟨List.mem_of_getElem? (i := 519) (by decide +kernel), by decide +kernel⟩
theorem qw_520 : Cond.code yJx4a65c_add_72be8 prog_22_method_24_code 4 (Option.none : Option Jvm.ClassFile.FieldType) ∈ lw_G := List.mem_filter.mpr ⟨List.mem_of_getElem? (i := 520) (by decide +kernel), by decide +kernel⟩
theorem qw_521 : Cond.methodLink "java/util/ArrayList" 129 yJx4a65c_grow_d5877 ∈ lw_G := List.mem_filter.mpr ⟨List.mem_of_getElem? (i := 521) (by decide +kernel), by decide +kernel⟩
theorem qw_523 : Cond.instanceMethod yJx4a65c_grow_d5877 ∈ lw_G := List.mem_filter.mpr ⟨List.mem_of_getElem? (i := 523) (by decide +kernel), by decide +kernel⟩
theorem qw_524 : Cond.code yJx4a65c_grow_d5877 prog_22_method_7_code 1 (some (FieldType.array (FieldType.object "java/lang/Object"))) ∈ lw_G := List.mem_filter.mpr ⟨List.mem_of_getElem? (i := 524) (by decide +kernel), by decide +kernel⟩
theorem qw_525 : Cond.methodLink "java/util/ArrayList" 69 yJx4a65c_grow_92f84 ∈ lw_G := List.mem_filter.mpr ⟨List.mem_of_getElem? (i := 525) (by decide +kernel), by decide +kernel⟩
theorem qw_527 : Cond.instanceMethod yJx4a65c_grow_92f84 ∈ lw_G := List.mem_filter.mpr ⟨List.mem_of_getElem? (i := 527) (by decide +kernel), by decide +kernel⟩
theorem qw_528 : Cond.code yJx4a65c_grow_92f84 prog_22_method_6_code 4 (some (FieldType.array (FieldType.object "java/lang/Object"))) ∈ lw_G := List.mem_filter.mpr ⟨List.mem_of_getElem? (i := 528) (by decide +kernel), by decide +kernel⟩
theorem qw_529 : Cond.methodLink "java/util/ArrayList" 73 yJ8_newLength_cabcc ∈ lw_G := List.mem_filter.mpr ⟨List.mem_of_getElem? (i := 529) (by decide +kernel), by decide +kernel⟩
theorem qw_530 : Cond.static yJ8_newLength_cabcc ∈ lw_G := List.mem_filter.mpr ⟨List.mem_of_getElem? (i := 530) (by decide +kernel), by decide +kernel⟩
theorem qw_531 : Cond.code yJ8_newLength_cabcc prog_29_method_27_code 4 (some FieldType.int) ∈ lw_G := List.mem_filter.mpr ⟨List.mem_of_getElem? (i := 531) (by decide +kernel), by decide +kernel⟩
theorem qw_532 : Cond.methodLink "jdk/internal/util/ArraysSupport" 194 yJ9_max_7cf53 ∈ lw_G := List.mem_filter.mpr ⟨List.mem_of_getElem? (i := 532) (by decide +kernel), by decide +kernel⟩
theorem qw_533 : Cond.constant "jdk/internal/util/ArraysSupport" 200 (2147483639 : Int32) ∈ lw_G := List.mem_filter.mpr ⟨List.mem_of_getElem? (i := 533) (by decide +kernel), by decide +kernel⟩
theorem qw_534 : Cond.methodLink "jdk/internal/util/ArraysSupport" 201 yJ8_hugeLength_7cf53 ∈ lw_G := List.mem_filter.mpr ⟨List.mem_of_getElem? (i := 534) (by decide +kernel), by decide +kernel⟩
theorem qw_535 : Cond.static yJ8_hugeLength_7cf53 ∈ lw_G := List.mem_filter.mpr ⟨List.mem_of_getElem? (i := 535) (by decide +kernel), by decide +kernel⟩
theorem qw_536 : Cond.code yJ8_hugeLength_7cf53 prog_29_method_28_code 3 (some FieldType.int) ∈ lw_G := List.mem_filter.mpr ⟨List.mem_of_getElem? (i := 536) (by decide +kernel), by decide +kernel⟩
theorem qw_537 : Cond.methodLink "java/util/ArrayList" 66 yJ7_copyOf_1904c ∈ lw_G := List.mem_filter.mpr ⟨List.mem_of_getElem? (i := 537) (by decide +kernel), by decide +kernel⟩
theorem qw_538 : Cond.static yJ7_copyOf_1904c ∈ lw_G := List.mem_filter.mpr ⟨List.mem_of_getElem? (i := 538) (by decide +kernel), by decide +kernel⟩
theorem qw_539 : Cond.code yJ7_copyOf_1904c prog_23_method_119_code 2 (some (FieldType.array (FieldType.object "java/lang/Object"))) ∈ lw_G := List.mem_filter.mpr ⟨List.mem_of_getElem? (i := 539) (by decide +kernel), by decide +kernel⟩
theorem qw_540 : Cond.methodLink "java/util/Arrays" 86 (⟨"java/lang/Object", "getClass", "()Ljava/lang/Class;"⟩ : MethodName) ∈ lw_G := List.mem_filter.mpr ⟨List.mem_of_getElem? (i := 540) (by decide +kernel), by decide +kernel⟩
theorem qw_541 : Cond.instanceMethod (⟨"java/lang/Object", "getClass", "()Ljava/lang/Class;"⟩ : MethodName) ∈ lw_G := List.mem_filter.mpr ⟨List.mem_of_getElem? (i := 541) (by decide +kernel), by decide +kernel⟩
theorem qw_542 : Cond.sameMethod "java/lang/Object" "java/lang/Object" "getClass" "()Ljava/lang/Class;" ∈ lw_G := List.mem_filter.mpr ⟨List.mem_of_getElem? (i := 542) (by decide +kernel), by decide +kernel⟩
theorem qw_543 : Cond.selects "SkyloadBureau" (⟨"java/lang/Object", "getClass", "()Ljava/lang/Class;"⟩ : MethodName) (⟨"java/lang/Object", "getClass", "()Ljava/lang/Class;"⟩ : MethodName) ∈ lw_G := List.mem_filter.mpr ⟨List.mem_of_getElem? (i := 543) (by decide +kernel), by decide +kernel⟩
theorem qw_544 : Cond.selects "SkyloadBureau$Dealing" (⟨"java/lang/Object", "getClass", "()Ljava/lang/Class;"⟩ : MethodName) (⟨"java/lang/Object", "getClass", "()Ljava/lang/Class;"⟩ : MethodName) ∈ lw_G := List.mem_filter.mpr ⟨List.mem_of_getElem? (i := 544) (by decide +kernel), by decide +kernel⟩
theorem qw_545 : Cond.selects "SkyloadBureau$Flight" (⟨"java/lang/Object", "getClass", "()Ljava/lang/Class;"⟩ : MethodName) (⟨"java/lang/Object", "getClass", "()Ljava/lang/Class;"⟩ : MethodName) ∈ lw_G := List.mem_filter.mpr ⟨List.mem_of_getElem? (i := 545) (by decide +kernel), by decide +kernel⟩
theorem qw_546 : Cond.selects "SkyloadBureau$Line" (⟨"java/lang/Object", "getClass", "()Ljava/lang/Class;"⟩ : MethodName) (⟨"java/lang/Object", "getClass", "()Ljava/lang/Class;"⟩ : MethodName) ∈ lw_G := List.mem_filter.mpr ⟨List.mem_of_getElem? (i := 546) (by decide +kernel), by decide +kernel⟩
theorem qw_547 : Cond.selects "SkyloadBureau$Regulation" (⟨"java/lang/Object", "getClass", "()Ljava/lang/Class;"⟩ : MethodName) (⟨"java/lang/Object", "getClass", "()Ljava/lang/Class;"⟩ : MethodName) ∈ lw_G := List.mem_filter.mpr ⟨List.mem_of_getElem? (i := 547) (by decide +kernel), by decide +kernel⟩
theorem qw_548 : Cond.selects "java/lang/IllegalArgumentException" (⟨"java/lang/Object", "getClass", "()Ljava/lang/Class;"⟩ : MethodName) (⟨"java/lang/Object", "getClass", "()Ljava/lang/Class;"⟩ : MethodName) ∈ lw_G := List.mem_filter.mpr ⟨List.mem_of_getElem? (i := 548) (by decide +kernel), by decide +kernel⟩
theorem qw_549 : Cond.selects "java/lang/IllegalStateException" (⟨"java/lang/Object", "getClass", "()Ljava/lang/Class;"⟩ : MethodName) (⟨"java/lang/Object", "getClass", "()Ljava/lang/Class;"⟩ : MethodName) ∈ lw_G := List.mem_filter.mpr ⟨List.mem_of_getElem? (i := 549) (by decide +kernel), by decide +kernel⟩
theorem qw_550 : Cond.selects "java/lang/IndexOutOfBoundsException" (⟨"java/lang/Object", "getClass", "()Ljava/lang/Class;"⟩ : MethodName) (⟨"java/lang/Object", "getClass", "()Ljava/lang/Class;"⟩ : MethodName) ∈ lw_G := List.mem_filter.mpr ⟨List.mem_of_getElem? (i := 550) (by decide +kernel), by decide +kernel⟩
theorem qw_551 : Cond.selects "java/util/ArrayList" (⟨"java/lang/Object", "getClass", "()Ljava/lang/Class;"⟩ : MethodName) (⟨"java/lang/Object", "getClass", "()Ljava/lang/Class;"⟩ : MethodName) ∈ lw_G := List.mem_filter.mpr ⟨List.mem_of_getElem? (i := 551) (by decide +kernel), by decide +kernel⟩
theorem qw_552 : Cond.native (⟨"java/lang/Object", "getClass", "()Ljava/lang/Class;"⟩ : MethodName) ∈ lw_G := List.mem_filter.mpr ⟨List.mem_of_getElem? (i := 552) (by decide +kernel), by decide +kernel⟩
theorem qw_553 : Cond.methodLink "java/util/Arrays" 300 yJ7_copyOf_6403c ∈ lw_G := List.mem_filter.mpr ⟨List.mem_of_getElem? (i := 553) (by decide +kernel), by decide +kernel⟩
theorem qw_554 : Cond.static yJ7_copyOf_6403c ∈ lw_G := List.mem_filter.mpr ⟨List.mem_of_getElem? (i := 554) (by decide +kernel), by decide +kernel⟩
theorem qw_555 : Cond.code yJ7_copyOf_6403c prog_23_method_120_code 4 (some (FieldType.array (FieldType.object "java/lang/Object"))) ∈ lw_G := List.mem_filter.mpr ⟨List.mem_of_getElem? (i := 555) (by decide +kernel), by decide +kernel⟩
theorem qw_556 : Cond.classLink "java/util/Arrays" 110 "[Ljava/lang/Object;" ∈ lw_G := List.mem_filter.mpr ⟨List.mem_of_getElem? (i := 556) (by decide +kernel), by decide +kernel⟩
theorem qw_558 : Cond.classLink "java/util/Arrays" 2 "java/lang/Object" ∈ lw_G := List.mem_filter.mpr ⟨List.mem_of_getElem? (i := 558) (by decide +kernel), by decide +kernel⟩
theorem qw_559 : Cond.methodLink "java/util/Arrays" 304 yJ9_min_7cf53 ∈ lw_G := List.mem_filter.mpr ⟨List.mem_of_getElem? (i := 559) (by decide +kernel), by decide +kernel⟩
theorem qw_560 : Cond.methodLink "java/util/Arrays" 150 (⟨RJ10, "arraycopy", "(Ljava/lang/Object;ILjava/lang/Object;II)V"⟩ : MethodName) ∈ lw_G := List.mem_filter.mpr ⟨List.mem_of_getElem? (i := 560) (by decide +kernel), by decide +kernel⟩
theorem qw_561 : Cond.static (⟨RJ10, "arraycopy", "(Ljava/lang/Object;ILjava/lang/Object;II)V"⟩ : MethodName) ∈ lw_G := List.mem_filter.mpr ⟨List.mem_of_getElem? (i := 561) (by decide +kernel), by decide +kernel⟩
theorem qw_562 : Cond.native (⟨RJ10, "arraycopy", "(Ljava/lang/Object;ILjava/lang/Object;II)V"⟩ : MethodName) ∈ lw_G := List.mem_filter.mpr ⟨List.mem_of_getElem? (i := 562) (by decide +kernel), by decide +kernel⟩
theorem qw_563 : Cond.methodLink "java/util/ArrayList" 79 yJ9_max_7cf53 ∈ lw_G := List.mem_filter.mpr ⟨List.mem_of_getElem? (i := 563) (by decide +kernel), by decide +kernel⟩
theorem qw_564 : Cond.classLink "java/util/ArrayList" 7 "java/lang/Object" ∈ lw_G := List.mem_filter.mpr ⟨List.mem_of_getElem? (i := 564) (by decide +kernel), by decide +kernel⟩
theorem qw_565 : Cond.methodLink "SkyloadBureauLaw" 24 yX4_entry ∈ lw_G := List.mem_filter.mpr ⟨List.mem_of_getElem? (i := 565) (by decide +kernel), by decide +kernel⟩
theorem qw_566 : Cond.instanceMethod yX4_entry ∈ lw_G := List.mem_filter.mpr ⟨List.mem_of_getElem? (i := 566) (by decide +kernel), by decide +kernel⟩
theorem qw_567 : Cond.selects "SkyloadBureau" yX4_entry yX4_entry ∈ lw_G := List.mem_filter.mpr ⟨List.mem_of_getElem? (i := 567) (by decide +kernel), by decide +kernel⟩
theorem qw_568 : Cond.code yX4_entry prog_1_method_3_code 6 (some FieldType.int) ∈ lw_G := List.mem_filter.mpr ⟨List.mem_of_getElem? (i := 568) (by decide +kernel), by decide +kernel⟩
theorem qw_569 : Cond.methodLink "SkyloadBureau" 61 yX4_flightAt ∈ lw_G := List.mem_filter.mpr ⟨List.mem_of_getElem? (i := 569) (by decide +kernel), by decide +kernel⟩
theorem qw_571 : Cond.instanceMethod yX4_flightAt ∈ lw_G := List.mem_filter.mpr ⟨List.mem_of_getElem? (i := 571) (by decide +kernel), by decide +kernel⟩
theorem qw_572 : Cond.code yX4_flightAt prog_1_method_25_code 2 (some (FieldType.object "SkyloadBureau$Flight")) ∈ lw_G := List.mem_filter.mpr ⟨List.mem_of_getElem? (i := 572) (by decide +kernel), by decide +kernel⟩
theorem qw_574 : Cond.methodLink "SkyloadBureau" 68 yX1_canEnterNext ∈ lw_G := List.mem_filter.mpr ⟨List.mem_of_getElem? (i := 574) (by decide +kernel), by decide +kernel⟩
theorem qw_575 : Cond.instanceMethod yX1_canEnterNext ∈ lw_G := List.mem_filter.mpr ⟨List.mem_of_getElem? (i := 575) (by decide +kernel), by decide +kernel⟩
theorem qw_576 : Cond.selects "SkyloadBureau$Flight" yX1_canEnterNext yX1_canEnterNext ∈ lw_G := List.mem_filter.mpr ⟨List.mem_of_getElem? (i := 576) (by decide +kernel), by decide +kernel⟩
theorem qw_577 : Cond.code yX1_canEnterNext prog_3_method_2_code 3 (some FieldType.boolean) ∈ lw_G := List.mem_filter.mpr ⟨List.mem_of_getElem? (i := 577) (by decide +kernel), by decide +kernel⟩
theorem qw_579 : Cond.methodLink "SkyloadBureau" 74 yX1_addEntry ∈ lw_G := List.mem_filter.mpr ⟨List.mem_of_getElem? (i := 579) (by decide +kernel), by decide +kernel⟩
theorem qw_580 : Cond.instanceMethod yX1_addEntry ∈ lw_G := List.mem_filter.mpr ⟨List.mem_of_getElem? (i := 580) (by decide +kernel), by decide +kernel⟩
theorem qw_581 : Cond.selects "SkyloadBureau$Flight" yX1_addEntry yX1_addEntry ∈ lw_G := List.mem_filter.mpr ⟨List.mem_of_getElem? (i := 581) (by decide +kernel), by decide +kernel⟩
theorem qw_582 : Cond.code yX1_addEntry prog_3_method_3_code 4 (Option.none : Option Jvm.ClassFile.FieldType) ∈ lw_G := List.mem_filter.mpr ⟨List.mem_of_getElem? (i := 582) (by decide +kernel), by decide +kernel⟩
theorem qw_583 : Cond.methodLink "SkyloadBureauLaw" 28 yX4_regulation ∈ lw_G := List.mem_filter.mpr ⟨List.mem_of_getElem? (i := 583) (by decide +kernel), by decide +kernel⟩
theorem qw_584 : Cond.instanceMethod yX4_regulation ∈ lw_G := List.mem_filter.mpr ⟨List.mem_of_getElem? (i := 584) (by decide +kernel), by decide +kernel⟩
theorem qw_585 : Cond.selects "SkyloadBureau" yX4_regulation yX4_regulation ∈ lw_G := List.mem_filter.mpr ⟨List.mem_of_getElem? (i := 585) (by decide +kernel), by decide +kernel⟩
theorem qw_586 : Cond.code yX4_regulation prog_1_method_11_code 5 (some FieldType.int) ∈ lw_G := List.mem_filter.mpr ⟨List.mem_of_getElem? (i := 586) (by decide +kernel), by decide +kernel⟩
theorem qw_587 : Cond.methodLink "SkyloadBureau" 139 yX4_checkTerm ∈ lw_G := List.mem_filter.mpr ⟨List.mem_of_getElem? (i := 587) (by decide +kernel), by decide +kernel⟩
theorem qw_588 : Cond.static yX4_checkTerm ∈ lw_G := List.mem_filter.mpr ⟨List.mem_of_getElem? (i := 588) (by decide +kernel), by decide +kernel⟩
theorem qw_589 : Cond.code yX4_checkTerm prog_1_method_30_code 3 (Option.none : Option Jvm.ClassFile.FieldType) ∈ lw_G := List.mem_filter.mpr ⟨List.mem_of_getElem? (i := 589) (by decide +kernel), by decide +kernel⟩
theorem qw_591 : Cond.instantiable "SkyloadBureau$Regulation" 5 ∈ lw_G := List.mem_filter.mpr ⟨List.mem_of_getElem? (i := 591) (by decide +kernel), by decide +kernel⟩
theorem qw_592 : Cond.methodLink "SkyloadBureau" 146 yX3_init ∈ lw_G := List.mem_filter.mpr ⟨List.mem_of_getElem? (i := 592) (by decide +kernel), by decide +kernel⟩
theorem qw_593 : Cond.instanceMethod yX3_init ∈ lw_G := List.mem_filter.mpr ⟨List.mem_of_getElem? (i := 593) (by decide +kernel), by decide +kernel⟩
theorem qw_594 : Cond.code yX3_init prog_5_method_1_code 5 (Option.none : Option Jvm.ClassFile.FieldType) ∈ lw_G := List.mem_filter.mpr ⟨List.mem_of_getElem? (i := 594) (by decide +kernel), by decide +kernel⟩
theorem qw_595 : Cond.methodLink "SkyloadBureau$Regulation" 3 (⟨"java/lang/Object", "<init>", "()V"⟩ : MethodName) ∈ lw_G := List.mem_filter.mpr ⟨List.mem_of_getElem? (i := 595) (by decide +kernel), by decide +kernel⟩
theorem qw_596 : Cond.fieldLink "SkyloadBureau$Regulation" 15 "SkyloadBureau$Regulation" "sector" "I" ∈ lw_G := List.mem_filter.mpr ⟨List.mem_of_getElem? (i := 596) (by decide +kernel), by decide +kernel⟩
theorem qw_597 : Cond.fieldLink "SkyloadBureau$Dealing" 65 "SkyloadBureau$Regulation" "sector" "I" ∈ lw_G := List.mem_filter.mpr ⟨List.mem_of_getElem? (i := 597) (by decide +kernel), by decide +kernel⟩
theorem qw_598 : Cond.fieldLink "SkyloadBureau" 236 "SkyloadBureau$Regulation" "sector" "I" ∈ lw_G := List.mem_filter.mpr ⟨List.mem_of_getElem? (i := 598) (by decide +kernel), by decide +kernel⟩
theorem qw_599 : Cond.fieldLink "SkyloadBureau$Regulation" 19 "SkyloadBureau$Regulation" "from" "I" ∈ lw_G := List.mem_filter.mpr ⟨List.mem_of_getElem? (i := 599) (by decide +kernel), by decide +kernel⟩
theorem qw_600 : Cond.fieldLink "SkyloadBureau$Regulation" 22 "SkyloadBureau$Regulation" "to" "I" ∈ lw_G := List.mem_filter.mpr ⟨List.mem_of_getElem? (i := 600) (by decide +kernel), by decide +kernel⟩
theorem qw_601 : Cond.fieldLink "SkyloadBureau$Dealing" 109 "SkyloadBureau$Regulation" "to" "I" ∈ lw_G := List.mem_filter.mpr ⟨List.mem_of_getElem? (i := 601) (by decide +kernel), by decide +kernel⟩
theorem qw_602 : Cond.fieldLink "SkyloadBureau$Regulation" 25 "SkyloadBureau$Regulation" "rate" "I" ∈ lw_G := List.mem_filter.mpr ⟨List.mem_of_getElem? (i := 602) (by decide +kernel), by decide +kernel⟩
theorem qw_603 : Cond.fieldLink "SkyloadBureau" 157 "SkyloadBureau$Regulation" "rate" "I" ∈ lw_G := List.mem_filter.mpr ⟨List.mem_of_getElem? (i := 603) (by decide +kernel), by decide +kernel⟩
theorem qw_604 : Cond.fieldLink "SkyloadBureau$Regulation" 9 "SkyloadBureau$Regulation" "isEnded" "Z" ∈ lw_G := List.mem_filter.mpr ⟨List.mem_of_getElem? (i := 604) (by decide +kernel), by decide +kernel⟩
theorem qw_605 : Cond.fieldLink "SkyloadBureau$Dealing" 50 "SkyloadBureau$Regulation" "isEnded" "Z" ∈ lw_G := List.mem_filter.mpr ⟨List.mem_of_getElem? (i := 605) (by decide +kernel), by decide +kernel⟩
theorem qw_606 : Cond.fieldLink "SkyloadBureau" 160 "SkyloadBureau$Regulation" "isEnded" "Z" ∈ lw_G := List.mem_filter.mpr ⟨List.mem_of_getElem? (i := 606) (by decide +kernel), by decide +kernel⟩
theorem qw_607 : Cond.laysFinal "SkyloadBureau$Regulation" "SkyloadBureau$Regulation" "sector" "I" ∈ lw_G := List.mem_filter.mpr ⟨List.mem_of_getElem? (i := 607) (by decide +kernel), by decide +kernel⟩
theorem qw_609 : Cond.laysFinal "SkyloadBureau$Regulation" "SkyloadBureau$Regulation" "from" "I" ∈ lw_G := List.mem_filter.mpr ⟨List.mem_of_getElem? (i := 609) (by decide +kernel), by decide +kernel⟩
theorem qw_611 : Cond.laysFinal "SkyloadBureau$Regulation" "SkyloadBureau$Regulation" "to" "I" ∈ lw_G := List.mem_filter.mpr ⟨List.mem_of_getElem? (i := 611) (by decide +kernel), by decide +kernel⟩
theorem qw_613 : Cond.lays "SkyloadBureau$Regulation" "SkyloadBureau$Regulation" "rate" "I" ∈ lw_G := List.mem_filter.mpr ⟨List.mem_of_getElem? (i := 613) (by decide +kernel), by decide +kernel⟩
theorem qw_615 : Cond.lays "SkyloadBureau$Regulation" "SkyloadBureau$Regulation" "isEnded" "Z" ∈ lw_G := List.mem_filter.mpr ⟨List.mem_of_getElem? (i := 615) (by decide +kernel), by decide +kernel⟩
theorem qw_617 : Cond.superclass "SkyloadBureau$Regulation" "java/lang/Object" ∈ lw_G := List.mem_filter.mpr ⟨List.mem_of_getElem? (i := 617) (by decide +kernel), by decide +kernel⟩
theorem qw_618 : Cond.methodLink "SkyloadBureauLaw" 31 yX4_rate ∈ lw_G := List.mem_filter.mpr ⟨List.mem_of_getElem? (i := 618) (by decide +kernel), by decide +kernel⟩
theorem qw_619 : Cond.instanceMethod yX4_rate ∈ lw_G := List.mem_filter.mpr ⟨List.mem_of_getElem? (i := 619) (by decide +kernel), by decide +kernel⟩
theorem qw_620 : Cond.selects "SkyloadBureau" yX4_rate yX4_rate ∈ lw_G := List.mem_filter.mpr ⟨List.mem_of_getElem? (i := 620) (by decide +kernel), by decide +kernel⟩
theorem qw_621 : Cond.code yX4_rate prog_1_method_12_code 5 (some FieldType.int) ∈ lw_G := List.mem_filter.mpr ⟨List.mem_of_getElem? (i := 621) (by decide +kernel), by decide +kernel⟩
theorem qw_622 : Cond.methodLink "SkyloadBureau" 149 yX4_regulationAt ∈ lw_G := List.mem_filter.mpr ⟨List.mem_of_getElem? (i := 622) (by decide +kernel), by decide +kernel⟩
theorem qw_624 : Cond.instanceMethod yX4_regulationAt ∈ lw_G := List.mem_filter.mpr ⟨List.mem_of_getElem? (i := 624) (by decide +kernel), by decide +kernel⟩
theorem qw_625 : Cond.code yX4_regulationAt prog_1_method_26_code 2 (some (FieldType.object "SkyloadBureau$Regulation")) ∈ lw_G := List.mem_filter.mpr ⟨List.mem_of_getElem? (i := 625) (by decide +kernel), by decide +kernel⟩
theorem qw_627 : Cond.methodLink "SkyloadBureau" 153 yX4_checkNotEnded ∈ lw_G := List.mem_filter.mpr ⟨List.mem_of_getElem? (i := 627) (by decide +kernel), by decide +kernel⟩
theorem qw_628 : Cond.static yX4_checkNotEnded ∈ lw_G := List.mem_filter.mpr ⟨List.mem_of_getElem? (i := 628) (by decide +kernel), by decide +kernel⟩
theorem qw_629 : Cond.code yX4_checkNotEnded prog_1_method_31_code 1 (Option.none : Option Jvm.ClassFile.FieldType) ∈ lw_G := List.mem_filter.mpr ⟨List.mem_of_getElem? (i := 629) (by decide +kernel), by decide +kernel⟩
theorem qw_631 : Cond.methodLink "SkyloadBureauLaw" 48 yX4_flightIs ∈ lw_G := List.mem_filter.mpr ⟨List.mem_of_getElem? (i := 631) (by decide +kernel), by decide +kernel⟩
theorem qw_632 : Cond.instanceMethod yX4_flightIs ∈ lw_G := List.mem_filter.mpr ⟨List.mem_of_getElem? (i := 632) (by decide +kernel), by decide +kernel⟩
theorem qw_633 : Cond.selects "SkyloadBureau" yX4_flightIs yX4_flightIs ∈ lw_G := List.mem_filter.mpr ⟨List.mem_of_getElem? (i := 633) (by decide +kernel), by decide +kernel⟩
theorem qw_634 : Cond.code yX4_flightIs prog_1_method_5_code 4 (some FieldType.int) ∈ lw_G := List.mem_filter.mpr ⟨List.mem_of_getElem? (i := 634) (by decide +kernel), by decide +kernel⟩
theorem qw_635 : Cond.methodLink "SkyloadBureau" 102 yX1_departure ∈ lw_G := List.mem_filter.mpr ⟨List.mem_of_getElem? (i := 635) (by decide +kernel), by decide +kernel⟩
theorem qw_636 : Cond.methodLink "SkyloadBureauLaw" 51 yX4_due ∈ lw_G := List.mem_filter.mpr ⟨List.mem_of_getElem? (i := 636) (by decide +kernel), by decide +kernel⟩
theorem qw_637 : Cond.instanceMethod yX4_due ∈ lw_G := List.mem_filter.mpr ⟨List.mem_of_getElem? (i := 637) (by decide +kernel), by decide +kernel⟩
theorem qw_638 : Cond.selects "SkyloadBureau" yX4_due yX4_due ∈ lw_G := List.mem_filter.mpr ⟨List.mem_of_getElem? (i := 638) (by decide +kernel), by decide +kernel⟩
theorem qw_639 : Cond.code yX4_due prog_1_method_17_code 3 (some FieldType.int) ∈ lw_G := List.mem_filter.mpr ⟨List.mem_of_getElem? (i := 639) (by decide +kernel), by decide +kernel⟩
theorem qw_640 : Cond.methodLink "SkyloadBureauLaw" 55 yX4_over ∈ lw_G := List.mem_filter.mpr ⟨List.mem_of_getElem? (i := 640) (by decide +kernel), by decide +kernel⟩
theorem qw_641 : Cond.instanceMethod yX4_over ∈ lw_G := List.mem_filter.mpr ⟨List.mem_of_getElem? (i := 641) (by decide +kernel), by decide +kernel⟩
theorem qw_642 : Cond.selects "SkyloadBureau" yX4_over yX4_over ∈ lw_G := List.mem_filter.mpr ⟨List.mem_of_getElem? (i := 642) (by decide +kernel), by decide +kernel⟩
theorem qw_643 : Cond.code yX4_over prog_1_method_6_code 4 (some FieldType.int) ∈ lw_G := List.mem_filter.mpr ⟨List.mem_of_getElem? (i := 643) (by decide +kernel), by decide +kernel⟩
theorem qw_644 : Cond.methodLink "SkyloadBureauLaw" 58 yX4_inside ∈ lw_G := List.mem_filter.mpr ⟨List.mem_of_getElem? (i := 644) (by decide +kernel), by decide +kernel⟩
theorem qw_645 : Cond.instanceMethod yX4_inside ∈ lw_G := List.mem_filter.mpr ⟨List.mem_of_getElem? (i := 645) (by decide +kernel), by decide +kernel⟩
theorem qw_646 : Cond.selects "SkyloadBureau" yX4_inside yX4_inside ∈ lw_G := List.mem_filter.mpr ⟨List.mem_of_getElem? (i := 646) (by decide +kernel), by decide +kernel⟩
theorem qw_647 : Cond.code yX4_inside prog_1_method_8_code 5 (some FieldType.int) ∈ lw_G := List.mem_filter.mpr ⟨List.mem_of_getElem? (i := 647) (by decide +kernel), by decide +kernel⟩
theorem qw_648 : Cond.methodLink "SkyloadBureau" 120 yX1_isInside ∈ lw_G := List.mem_filter.mpr ⟨List.mem_of_getElem? (i := 648) (by decide +kernel), by decide +kernel⟩
theorem qw_649 : Cond.instanceMethod yX1_isInside ∈ lw_G := List.mem_filter.mpr ⟨List.mem_of_getElem? (i := 649) (by decide +kernel), by decide +kernel⟩
theorem qw_650 : Cond.selects "SkyloadBureau$Flight" yX1_isInside yX1_isInside ∈ lw_G := List.mem_filter.mpr ⟨List.mem_of_getElem? (i := 650) (by decide +kernel), by decide +kernel⟩
theorem qw_651 : Cond.code yX1_isInside prog_3_method_10_code 4 (some FieldType.boolean) ∈ lw_G := List.mem_filter.mpr ⟨List.mem_of_getElem? (i := 651) (by decide +kernel), by decide +kernel⟩
theorem qw_652 : Cond.methodLink "SkyloadBureau$Flight" 68 yX1_timeOver ∈ lw_G := List.mem_filter.mpr ⟨List.mem_of_getElem? (i := 652) (by decide +kernel), by decide +kernel⟩
theorem qw_653 : Cond.methodLink "SkyloadBureau$Flight" 71 yX1_loads ∈ lw_G := List.mem_filter.mpr ⟨List.mem_of_getElem? (i := 653) (by decide +kernel), by decide +kernel⟩
theorem qw_654 : Cond.methodLink "SkyloadBureau$Flight" 74 yX1_stayAt ∈ lw_G := List.mem_filter.mpr ⟨List.mem_of_getElem? (i := 654) (by decide +kernel), by decide +kernel⟩
theorem qw_655 : Cond.instanceMethod yX1_stayAt ∈ lw_G := List.mem_filter.mpr ⟨List.mem_of_getElem? (i := 655) (by decide +kernel), by decide +kernel⟩
theorem qw_656 : Cond.selects "SkyloadBureau$Flight" yX1_stayAt yX1_stayAt ∈ lw_G := List.mem_filter.mpr ⟨List.mem_of_getElem? (i := 656) (by decide +kernel), by decide +kernel⟩
theorem qw_657 : Cond.code yX1_stayAt prog_3_method_5_code 2 (some FieldType.int) ∈ lw_G := List.mem_filter.mpr ⟨List.mem_of_getElem? (i := 657) (by decide +kernel), by decide +kernel⟩
theorem qw_658 : Cond.methodLink "SkyloadBureauLaw" 61 yX4_regulationIs ∈ lw_G := List.mem_filter.mpr ⟨List.mem_of_getElem? (i := 658) (by decide +kernel), by decide +kernel⟩
theorem qw_659 : Cond.instanceMethod yX4_regulationIs ∈ lw_G := List.mem_filter.mpr ⟨List.mem_of_getElem? (i := 659) (by decide +kernel), by decide +kernel⟩
theorem qw_660 : Cond.selects "SkyloadBureau" yX4_regulationIs yX4_regulationIs ∈ lw_G := List.mem_filter.mpr ⟨List.mem_of_getElem? (i := 660) (by decide +kernel), by decide +kernel⟩
theorem qw_661 : Cond.code yX4_regulationIs prog_1_method_14_code 4 (some FieldType.int) ∈ lw_G := List.mem_filter.mpr ⟨List.mem_of_getElem? (i := 661) (by decide +kernel), by decide +kernel⟩
theorem qw_662 : Cond.methodLink "SkyloadBureau" 185 yX4_chargedToRegulation ∈ lw_G := List.mem_filter.mpr ⟨List.mem_of_getElem? (i := 662) (by decide +kernel), by decide +kernel⟩
theorem qw_664 : Cond.instanceMethod yX4_chargedToRegulation ∈ lw_G := List.mem_filter.mpr ⟨List.mem_of_getElem? (i := 664) (by decide +kernel), by decide +kernel⟩
theorem qw_665 : Cond.code yX4_chargedToRegulation prog_1_method_37_code 5 (some FieldType.int) ∈ lw_G := List.mem_filter.mpr ⟨List.mem_of_getElem? (i := 665) (by decide +kernel), by decide +kernel⟩
theorem qw_666 : Cond.methodLink "SkyloadBureau" 276 yX1_charge ∈ lw_G := List.mem_filter.mpr ⟨List.mem_of_getElem? (i := 666) (by decide +kernel), by decide +kernel⟩
theorem qw_667 : Cond.methodLink "SkyloadBureauLaw" 64 yX4_slot ∈ lw_G := List.mem_filter.mpr ⟨List.mem_of_getElem? (i := 667) (by decide +kernel), by decide +kernel⟩
theorem qw_668 : Cond.instanceMethod yX4_slot ∈ lw_G := List.mem_filter.mpr ⟨List.mem_of_getElem? (i := 668) (by decide +kernel), by decide +kernel⟩
theorem qw_669 : Cond.selects "SkyloadBureau" yX4_slot yX4_slot ∈ lw_G := List.mem_filter.mpr ⟨List.mem_of_getElem? (i := 669) (by decide +kernel), by decide +kernel⟩
theorem qw_670 : Cond.code yX4_slot prog_1_method_15_code 4 (some FieldType.int) ∈ lw_G := List.mem_filter.mpr ⟨List.mem_of_getElem? (i := 670) (by decide +kernel), by decide +kernel⟩
theorem qw_672 : Cond.methodLink "SkyloadBureau" 193 yX3_slotCount ∈ lw_G := List.mem_filter.mpr ⟨List.mem_of_getElem? (i := 672) (by decide +kernel), by decide +kernel⟩
theorem qw_673 : Cond.methodLink "SkyloadBureau" 195 yX3_slotBegin ∈ lw_G := List.mem_filter.mpr ⟨List.mem_of_getElem? (i := 673) (by decide +kernel), by decide +kernel⟩
theorem qw_674 : Cond.methodLink "SkyloadBureauLaw" 67 yL_areSlots ∈ lw_G := List.mem_filter.mpr ⟨List.mem_of_getElem? (i := 674) (by decide +kernel), by decide +kernel⟩
theorem qw_675 : Cond.static yL_areSlots ∈ lw_G := List.mem_filter.mpr ⟨List.mem_of_getElem? (i := 675) (by decide +kernel), by decide +kernel⟩
theorem qw_677 : Cond.methodLink "SkyloadBureauLaw" 71 yL_exempts ∈ lw_G := List.mem_filter.mpr ⟨List.mem_of_getElem? (i := 677) (by decide +kernel), by decide +kernel⟩
theorem qw_678 : Cond.static yL_exempts ∈ lw_G := List.mem_filter.mpr ⟨List.mem_of_getElem? (i := 678) (by decide +kernel), by decide +kernel⟩
theorem qw_680 : Cond.methodLink "SkyloadBureauLaw" 38 yX4_exempt ∈ lw_G := List.mem_filter.mpr ⟨List.mem_of_getElem? (i := 680) (by decide +kernel), by decide +kernel⟩
theorem qw_681 : Cond.instanceMethod yX4_exempt ∈ lw_G := List.mem_filter.mpr ⟨List.mem_of_getElem? (i := 681) (by decide +kernel), by decide +kernel⟩
theorem qw_682 : Cond.selects "SkyloadBureau" yX4_exempt yX4_exempt ∈ lw_G := List.mem_filter.mpr ⟨List.mem_of_getElem? (i := 682) (by decide +kernel), by decide +kernel⟩
theorem qw_683 : Cond.code yX4_exempt prog_1_method_4_code 5 (some FieldType.boolean) ∈ lw_G := List.mem_filter.mpr ⟨List.mem_of_getElem? (i := 683) (by decide +kernel), by decide +kernel⟩
theorem qw_685 : Cond.methodLink "SkyloadBureau" 90 yX1_loseSlotTime ∈ lw_G := List.mem_filter.mpr ⟨List.mem_of_getElem? (i := 685) (by decide +kernel), by decide +kernel⟩
theorem qw_686 : Cond.methodLink "SkyloadBureauLaw" 75 yL_ends ∈ lw_G := List.mem_filter.mpr ⟨List.mem_of_getElem? (i := 686) (by decide +kernel), by decide +kernel⟩
theorem qw_687 : Cond.static yL_ends ∈ lw_G := List.mem_filter.mpr ⟨List.mem_of_getElem? (i := 687) (by decide +kernel), by decide +kernel⟩
theorem qw_689 : Cond.methodLink "SkyloadBureauLaw" 34 yX4_end ∈ lw_G := List.mem_filter.mpr ⟨List.mem_of_getElem? (i := 689) (by decide +kernel), by decide +kernel⟩
theorem qw_690 : Cond.instanceMethod yX4_end ∈ lw_G := List.mem_filter.mpr ⟨List.mem_of_getElem? (i := 690) (by decide +kernel), by decide +kernel⟩
theorem qw_691 : Cond.selects "SkyloadBureau" yX4_end yX4_end ∈ lw_G := List.mem_filter.mpr ⟨List.mem_of_getElem? (i := 691) (by decide +kernel), by decide +kernel⟩
theorem qw_692 : Cond.code yX4_end prog_1_method_13_code 3 (Option.none : Option Jvm.ClassFile.FieldType) ∈ lw_G := List.mem_filter.mpr ⟨List.mem_of_getElem? (i := 692) (by decide +kernel), by decide +kernel⟩
theorem qw_693 : Cond.methodLink "SkyloadBureauLaw" 78 yX4_penalty ∈ lw_G := List.mem_filter.mpr ⟨List.mem_of_getElem? (i := 693) (by decide +kernel), by decide +kernel⟩
theorem qw_694 : Cond.instanceMethod yX4_penalty ∈ lw_G := List.mem_filter.mpr ⟨List.mem_of_getElem? (i := 694) (by decide +kernel), by decide +kernel⟩
theorem qw_695 : Cond.selects "SkyloadBureau" yX4_penalty yX4_penalty ∈ lw_G := List.mem_filter.mpr ⟨List.mem_of_getElem? (i := 695) (by decide +kernel), by decide +kernel⟩
theorem qw_696 : Cond.code yX4_penalty prog_1_method_16_code 4 (some FieldType.int) ∈ lw_G := List.mem_filter.mpr ⟨List.mem_of_getElem? (i := 696) (by decide +kernel), by decide +kernel⟩
theorem qw_697 : Cond.methodLink "SkyloadBureauLaw" 81 yL_isDealt ∈ lw_G := List.mem_filter.mpr ⟨List.mem_of_getElem? (i := 697) (by decide +kernel), by decide +kernel⟩
theorem qw_698 : Cond.static yL_isDealt ∈ lw_G := List.mem_filter.mpr ⟨List.mem_of_getElem? (i := 698) (by decide +kernel), by decide +kernel⟩
theorem qw_700 : Cond.methodLink "SkyloadBureauLaw" 114 yX4_dueAnew ∈ lw_G := List.mem_filter.mpr ⟨List.mem_of_getElem? (i := 700) (by decide +kernel), by decide +kernel⟩
theorem qw_701 : Cond.instanceMethod yX4_dueAnew ∈ lw_G := List.mem_filter.mpr ⟨List.mem_of_getElem? (i := 701) (by decide +kernel), by decide +kernel⟩
theorem qw_702 : Cond.selects "SkyloadBureau" yX4_dueAnew yX4_dueAnew ∈ lw_G := List.mem_filter.mpr ⟨List.mem_of_getElem? (i := 702) (by decide +kernel), by decide +kernel⟩
theorem qw_703 : Cond.code yX4_dueAnew prog_1_method_18_code 4 (some FieldType.int) ∈ lw_G := List.mem_filter.mpr ⟨List.mem_of_getElem? (i := 703) (by decide +kernel), by decide +kernel⟩
theorem qw_704 : Cond.methodLink "SkyloadBureau" 207 yX0_penaltyBySlots ∈ lw_G := List.mem_filter.mpr ⟨List.mem_of_getElem? (i := 704) (by decide +kernel), by decide +kernel⟩
theorem qw_705 : Cond.instanceMethod yX0_penaltyBySlots ∈ lw_G := List.mem_filter.mpr ⟨List.mem_of_getElem? (i := 705) (by decide +kernel), by decide +kernel⟩
theorem qw_706 : Cond.selects "SkyloadBureau$Dealing" yX0_penaltyBySlots yX0_penaltyBySlots ∈ lw_G := List.mem_filter.mpr ⟨List.mem_of_getElem? (i := 706) (by decide +kernel), by decide +kernel⟩
theorem qw_707 : Cond.code yX0_penaltyBySlots prog_2_method_5_code 10 (some FieldType.int) ∈ lw_G := List.mem_filter.mpr ⟨List.mem_of_getElem? (i := 707) (by decide +kernel), by decide +kernel⟩
theorem qw_708 : Cond.methodLink "SkyloadBureau$Dealing" 112 yX2_placeOf ∈ lw_G := List.mem_filter.mpr ⟨List.mem_of_getElem? (i := 708) (by decide +kernel), by decide +kernel⟩
theorem qw_709 : Cond.methodLink "SkyloadBureau$Dealing" 115 yX2_canTake ∈ lw_G := List.mem_filter.mpr ⟨List.mem_of_getElem? (i := 709) (by decide +kernel), by decide +kernel⟩
theorem qw_710 : Cond.instanceMethod yX2_canTake ∈ lw_G := List.mem_filter.mpr ⟨List.mem_of_getElem? (i := 710) (by decide +kernel), by decide +kernel⟩
theorem qw_711 : Cond.selects "SkyloadBureau$Line" yX2_canTake yX2_canTake ∈ lw_G := List.mem_filter.mpr ⟨List.mem_of_getElem? (i := 711) (by decide +kernel), by decide +kernel⟩
theorem qw_712 : Cond.code yX2_canTake prog_4_method_11_code 3 (some FieldType.boolean) ∈ lw_G := List.mem_filter.mpr ⟨List.mem_of_getElem? (i := 712) (by decide +kernel), by decide +kernel⟩
theorem qw_713 : Cond.methodLink "SkyloadBureauLaw" 85 yL_isSwapped ∈ lw_G := List.mem_filter.mpr ⟨List.mem_of_getElem? (i := 713) (by decide +kernel), by decide +kernel⟩
theorem qw_714 : Cond.static yL_isSwapped ∈ lw_G := List.mem_filter.mpr ⟨List.mem_of_getElem? (i := 714) (by decide +kernel), by decide +kernel⟩
theorem qw_716 : Cond.methodLink "SkyloadBureauLaw" 117 yL_swaps ∈ lw_G := List.mem_filter.mpr ⟨List.mem_of_getElem? (i := 716) (by decide +kernel), by decide +kernel⟩
theorem qw_717 : Cond.static yL_swaps ∈ lw_G := List.mem_filter.mpr ⟨List.mem_of_getElem? (i := 717) (by decide +kernel), by decide +kernel⟩
theorem qw_719 : Cond.classLink "SkyloadBureauLaw" 18 "java/lang/IllegalArgumentException" ∈ lw_G := List.mem_filter.mpr ⟨List.mem_of_getElem? (i := 719) (by decide +kernel), by decide +kernel⟩
theorem qw_720 : Cond.methodLink "SkyloadBureauLaw" 10 yX4_swap ∈ lw_G := List.mem_filter.mpr ⟨List.mem_of_getElem? (i := 720) (by decide +kernel), by decide +kernel⟩
theorem qw_721 : Cond.instanceMethod yX4_swap ∈ lw_G := List.mem_filter.mpr ⟨List.mem_of_getElem? (i := 721) (by decide +kernel), by decide +kernel⟩
theorem qw_722 : Cond.selects "SkyloadBureau" yX4_swap yX4_swap ∈ lw_G := List.mem_filter.mpr ⟨List.mem_of_getElem? (i := 722) (by decide +kernel), by decide +kernel⟩
theorem qw_723 : Cond.code yX4_swap prog_1_method_22_code 8 (Option.none : Option Jvm.ClassFile.FieldType) ∈ lw_G := List.mem_filter.mpr ⟨List.mem_of_getElem? (i := 723) (by decide +kernel), by decide +kernel⟩
theorem qw_725 : Cond.methodLink "SkyloadBureau" 230 yX1_sharesRuling ∈ lw_G := List.mem_filter.mpr ⟨List.mem_of_getElem? (i := 725) (by decide +kernel), by decide +kernel⟩
theorem qw_726 : Cond.instanceMethod yX1_sharesRuling ∈ lw_G := List.mem_filter.mpr ⟨List.mem_of_getElem? (i := 726) (by decide +kernel), by decide +kernel⟩
theorem qw_727 : Cond.selects "SkyloadBureau$Flight" yX1_sharesRuling yX1_sharesRuling ∈ lw_G := List.mem_filter.mpr ⟨List.mem_of_getElem? (i := 727) (by decide +kernel), by decide +kernel⟩
theorem qw_728 : Cond.code yX1_sharesRuling prog_3_method_22_code 2 (some FieldType.boolean) ∈ lw_G := List.mem_filter.mpr ⟨List.mem_of_getElem? (i := 728) (by decide +kernel), by decide +kernel⟩
theorem qw_730 : Cond.methodLink "SkyloadBureau" 239 yX1_behindAt ∈ lw_G := List.mem_filter.mpr ⟨List.mem_of_getElem? (i := 730) (by decide +kernel), by decide +kernel⟩
theorem qw_732 : Cond.methodLink "SkyloadBureauLaw" 89 yX4_peak ∈ lw_G := List.mem_filter.mpr ⟨List.mem_of_getElem? (i := 732) (by decide +kernel), by decide +kernel⟩
theorem qw_733 : Cond.instanceMethod yX4_peak ∈ lw_G := List.mem_filter.mpr ⟨List.mem_of_getElem? (i := 733) (by decide +kernel), by decide +kernel⟩
theorem qw_734 : Cond.selects "SkyloadBureau" yX4_peak yX4_peak ∈ lw_G := List.mem_filter.mpr ⟨List.mem_of_getElem? (i := 734) (by decide +kernel), by decide +kernel⟩
theorem qw_735 : Cond.code yX4_peak prog_1_method_9_code 7 (some FieldType.int) ∈ lw_G := List.mem_filter.mpr ⟨List.mem_of_getElem? (i := 735) (by decide +kernel), by decide +kernel⟩
theorem qw_736 : Cond.methodLink "SkyloadBureau" 123 yX4_lineUpEntering ∈ lw_G := List.mem_filter.mpr ⟨List.mem_of_getElem? (i := 736) (by decide +kernel), by decide +kernel⟩
theorem qw_738 : Cond.instanceMethod yX4_lineUpEntering ∈ lw_G := List.mem_filter.mpr ⟨List.mem_of_getElem? (i := 738) (by decide +kernel), by decide +kernel⟩
theorem qw_739 : Cond.code yX4_lineUpEntering prog_1_method_33_code 4 (Option.none : Option Jvm.ClassFile.FieldType) ∈ lw_G := List.mem_filter.mpr ⟨List.mem_of_getElem? (i := 739) (by decide +kernel), by decide +kernel⟩
theorem qw_740 : Cond.methodLink "SkyloadBureau" 265 yX2_clear ∈ lw_G := List.mem_filter.mpr ⟨List.mem_of_getElem? (i := 740) (by decide +kernel), by decide +kernel⟩
theorem qw_741 : Cond.methodLink "SkyloadBureau" 268 yX2_add ∈ lw_G := List.mem_filter.mpr ⟨List.mem_of_getElem? (i := 741) (by decide +kernel), by decide +kernel⟩
theorem qw_742 : Cond.methodLink "SkyloadBureau" 126 yX2_countAheadOf ∈ lw_G := List.mem_filter.mpr ⟨List.mem_of_getElem? (i := 742) (by decide +kernel), by decide +kernel⟩
theorem qw_743 : Cond.instanceMethod yX2_countAheadOf ∈ lw_G := List.mem_filter.mpr ⟨List.mem_of_getElem? (i := 743) (by decide +kernel), by decide +kernel⟩
theorem qw_744 : Cond.selects "SkyloadBureau$Line" yX2_countAheadOf yX2_countAheadOf ∈ lw_G := List.mem_filter.mpr ⟨List.mem_of_getElem? (i := 744) (by decide +kernel), by decide +kernel⟩
theorem qw_745 : Cond.code yX2_countAheadOf prog_4_method_10_code 4 (some FieldType.int) ∈ lw_G := List.mem_filter.mpr ⟨List.mem_of_getElem? (i := 745) (by decide +kernel), by decide +kernel⟩
theorem qw_746 : Cond.methodLink "SkyloadBureau$Line" 36 yX2_timeAt ∈ lw_G := List.mem_filter.mpr ⟨List.mem_of_getElem? (i := 746) (by decide +kernel), by decide +kernel⟩
theorem qw_747 : Cond.methodLink "SkyloadBureauLaw" 103 yX4_would ∈ lw_G := List.mem_filter.mpr ⟨List.mem_of_getElem? (i := 747) (by decide +kernel), by decide +kernel⟩
theorem qw_748 : Cond.instanceMethod yX4_would ∈ lw_G := List.mem_filter.mpr ⟨List.mem_of_getElem? (i := 748) (by decide +kernel), by decide +kernel⟩
theorem qw_749 : Cond.selects "SkyloadBureau" yX4_would yX4_would ∈ lw_G := List.mem_filter.mpr ⟨List.mem_of_getElem? (i := 749) (by decide +kernel), by decide +kernel⟩
theorem qw_750 : Cond.code yX4_would prog_1_method_20_code 5 (some FieldType.int) ∈ lw_G := List.mem_filter.mpr ⟨List.mem_of_getElem? (i := 750) (by decide +kernel), by decide +kernel⟩
theorem qw_751 : Cond.methodLink "SkyloadBureauLaw" 106 yL_isTold ∈ lw_G := List.mem_filter.mpr ⟨List.mem_of_getElem? (i := 751) (by decide +kernel), by decide +kernel⟩
theorem qw_752 : Cond.static yL_isTold ∈ lw_G := List.mem_filter.mpr ⟨List.mem_of_getElem? (i := 752) (by decide +kernel), by decide +kernel⟩
theorem qw_754 : Cond.methodLink "SkyloadBureauLaw" 120 yX4_message ∈ lw_G := List.mem_filter.mpr ⟨List.mem_of_getElem? (i := 754) (by decide +kernel), by decide +kernel⟩
theorem qw_755 : Cond.instanceMethod yX4_message ∈ lw_G := List.mem_filter.mpr ⟨List.mem_of_getElem? (i := 755) (by decide +kernel), by decide +kernel⟩
theorem qw_756 : Cond.selects "SkyloadBureau" yX4_message yX4_message ∈ lw_G := List.mem_filter.mpr ⟨List.mem_of_getElem? (i := 756) (by decide +kernel), by decide +kernel⟩
theorem qw_757 : Cond.code yX4_message prog_1_method_23_code 6 (some FieldType.boolean) ∈ lw_G := List.mem_filter.mpr ⟨List.mem_of_getElem? (i := 757) (by decide +kernel), by decide +kernel⟩
theorem qw_758 : Cond.methodLink "SkyloadBureau" 244 yX1_follow ∈ lw_G := List.mem_filter.mpr ⟨List.mem_of_getElem? (i := 758) (by decide +kernel), by decide +kernel⟩
theorem qw_759 : Cond.instanceMethod yX1_follow ∈ lw_G := List.mem_filter.mpr ⟨List.mem_of_getElem? (i := 759) (by decide +kernel), by decide +kernel⟩
theorem qw_760 : Cond.selects "SkyloadBureau$Flight" yX1_follow yX1_follow ∈ lw_G := List.mem_filter.mpr ⟨List.mem_of_getElem? (i := 760) (by decide +kernel), by decide +kernel⟩
theorem qw_761 : Cond.code yX1_follow prog_3_method_23_code 3 (Option.none : Option Jvm.ClassFile.FieldType) ∈ lw_G := List.mem_filter.mpr ⟨List.mem_of_getElem? (i := 761) (by decide +kernel), by decide +kernel⟩
theorem qw_762 : Cond.methodLink "SkyloadBureauLaw" 136 yL_isDay ∈ lw_G := List.mem_filter.mpr ⟨List.mem_of_getElem? (i := 762) (by decide +kernel), by decide +kernel⟩
theorem qw_763 : Cond.static yL_isDay ∈ lw_G := List.mem_filter.mpr ⟨List.mem_of_getElem? (i := 763) (by decide +kernel), by decide +kernel⟩
theorem qw_765 : Cond.sameMethod "java/lang/Throwable" "java/lang/Throwable" "fillInStackTrace" "(I)Ljava/lang/Throwable;" ∈ lw_G := List.mem_filter.mpr ⟨List.mem_of_getElem? (i := 765) (by decide +kernel), by decide +kernel⟩
theorem qw_777 : Cond.sameMethod "[Ljava/lang/Object;" "java/lang/Object" "getClass" "()Ljava/lang/Class;" ∈ lw_G := List.mem_filter.mpr ⟨List.mem_of_getElem? (i := 777) (by decide +kernel), by decide +kernel⟩
theorem qw_778 : Cond.selects "[Ljava/lang/Object;" (⟨"java/lang/Object", "getClass", "()Ljava/lang/Class;"⟩ : MethodName) (⟨"java/lang/Object", "getClass", "()Ljava/lang/Class;"⟩ : MethodName) ∈ lw_G := List.mem_filter.mpr ⟨List.mem_of_getElem? (i := 778) (by decide +kernel), by decide +kernel⟩
theorem qr_56 : Cond.laysStatic "java/util/ArrayList" "DEFAULTCAPACITY_EMPTY_ELEMENTDATA" "[Ljava/lang/Object;" ∈ lw_tbl := List.mem_of_getElem? (i := 56) (by decide +kernel)
theorem qr_61 : Cond.sameField "java/util/ArrayList" "java/util/AbstractList" "modCount" "I" ∈ lw_tbl := List.mem_of_getElem? (i := 61) (by decide +kernel)
theorem qr_71 : Cond.methodLinkNest "SkyloadBureau" 21 yX0_init "SkyloadBureau" ∈ lw_tbl := List.mem_of_getElem? (i := 71) (by decide +kernel)
theorem qr_77 : Cond.methodLinkNest "SkyloadBureau$Dealing" 11 yX2_init "SkyloadBureau" ∈ lw_tbl := List.mem_of_getElem? (i := 77) (by decide +kernel)
theorem qr_122 : Cond.methodLinkNest "SkyloadBureau" 28 yX2_init "SkyloadBureau" ∈ lw_tbl := List.mem_of_getElem? (i := 122) (by decide +kernel)
theorem qr_145 : Cond.castable "java/lang/IndexOutOfBoundsException" "java/lang/IndexOutOfBoundsException" ∈ lw_tbl := List.mem_of_getElem? (i := 145) (by decide +kernel)
theorem qr_146 : Cond.declares (⟨"java/lang/RuntimeException", "<init>", "()V"⟩ : MethodName) ∈ lw_tbl := List.mem_of_getElem? (i := 146) (by decide +kernel)
theorem qr_147 : Cond.declares (⟨"java/lang/RuntimeException", "<init>", "(Ljava/lang/String;)V"⟩ : MethodName) ∈ lw_tbl := List.mem_of_getElem? (i := 147) (by decide +kernel)
theorem qr_148 : Cond.declares (⟨"java/lang/Exception", "<init>", "()V"⟩ : MethodName) ∈ lw_tbl := List.mem_of_getElem? (i := 148) (by decide +kernel)
theorem qr_149 : Cond.declares (⟨"java/lang/Exception", "<init>", "(Ljava/lang/String;)V"⟩ : MethodName) ∈ lw_tbl := List.mem_of_getElem? (i := 149) (by decide +kernel)
theorem qr_150 : Cond.declares (⟨"java/lang/Throwable", "<init>", "()V"⟩ : MethodName) ∈ lw_tbl := List.mem_of_getElem? (i := 150) (by decide +kernel)
theorem qr_151 : Cond.declares (⟨"java/lang/Throwable", "<init>", "(Ljava/lang/String;)V"⟩ : MethodName) ∈ lw_tbl := List.mem_of_getElem? (i := 151) (by decide +kernel)
theorem qr_170 : Cond.laysStatic "java/lang/Throwable" "UNASSIGNED_STACK" "[Ljava/lang/StackTraceElement;" ∈ lw_tbl := List.mem_of_getElem? (i := 170) (by decide +kernel)
theorem qr_172 : Cond.laysStatic "java/lang/Throwable" "SUPPRESSED_SENTINEL" "Ljava/util/List;" ∈ lw_tbl := List.mem_of_getElem? (i := 172) (by decide +kernel)
theorem qr_184 : Cond.stringRef "SkyloadBureau" 257 "no such sector" ∈ lw_tbl := List.mem_of_getElem? (i := 184) (by decide +kernel)
theorem qr_216 : Cond.castable "java/lang/IllegalArgumentException" "java/lang/IllegalArgumentException" ∈ lw_tbl := List.mem_of_getElem? (i := 216) (by decide +kernel)
theorem qr_223 : Cond.stringRef "SkyloadBureau" 261 "an argument is out of range" ∈ lw_tbl := List.mem_of_getElem? (i := 223) (by decide +kernel)
theorem qr_409 : Cond.stringRef "SkyloadBureau" 259 "no such company" ∈ lw_tbl := List.mem_of_getElem? (i := 409) (by decide +kernel)
theorem qr_442 : Cond.castable "java/lang/IllegalStateException" "java/lang/IllegalStateException" ∈ lw_tbl := List.mem_of_getElem? (i := 442) (by decide +kernel)
theorem qr_449 : Cond.stringRef "SkyloadBureau" 47 "no more flights can be told" ∈ lw_tbl := List.mem_of_getElem? (i := 449) (by decide +kernel)
theorem qr_557 : Cond.arrayOver (FieldType.object "java/lang/Object") ∈ lw_tbl := List.mem_of_getElem? (i := 557) (by decide +kernel)
theorem qr_573 : Cond.stringRef "SkyloadBureau" 253 "no such flight" ∈ lw_tbl := List.mem_of_getElem? (i := 573) (by decide +kernel)
theorem qr_578 : Cond.stringRef "SkyloadBureau" 72 "the flight cannot have this entry" ∈ lw_tbl := List.mem_of_getElem? (i := 578) (by decide +kernel)
theorem qr_590 : Cond.stringRef "SkyloadBureau" 142 "no more regulations can be told" ∈ lw_tbl := List.mem_of_getElem? (i := 590) (by decide +kernel)
theorem qr_626 : Cond.stringRef "SkyloadBureau" 255 "no such regulation" ∈ lw_tbl := List.mem_of_getElem? (i := 626) (by decide +kernel)
theorem qr_630 : Cond.stringRef "SkyloadBureau" 263 "the regulation is ended" ∈ lw_tbl := List.mem_of_getElem? (i := 630) (by decide +kernel)
theorem qr_671 : Cond.stringRef "SkyloadBureau" 190 "slots are numbered from 0" ∈ lw_tbl := List.mem_of_getElem? (i := 671) (by decide +kernel)
theorem qr_684 : Cond.stringRef "SkyloadBureau" 84 "the flight is not waiting" ∈ lw_tbl := List.mem_of_getElem? (i := 684) (by decide +kernel)
theorem qr_724 : Cond.stringRef "SkyloadBureau" 227 "a flight is not swapped with itself" ∈ lw_tbl := List.mem_of_getElem? (i := 724) (by decide +kernel)
theorem qr_729 : Cond.stringRef "SkyloadBureau" 234 "the flights cannot be swapped" ∈ lw_tbl := List.mem_of_getElem? (i := 729) (by decide +kernel)
theorem qr_731 : Cond.stringRef "SkyloadBureau" 242 "a slot time would be ahead of the planned time" ∈ lw_tbl := List.mem_of_getElem? (i := 731) (by decide +kernel)
theorem qr_766 : Cond.castable "SkyloadBureau" "java/lang/Object" ∈ lw_tbl := List.mem_of_getElem? (i := 766) (by decide +kernel)
theorem qr_767 : Cond.castable "java/util/ArrayList" "java/lang/Object" ∈ lw_tbl := List.mem_of_getElem? (i := 767) (by decide +kernel)
theorem qr_768 : Cond.castable "SkyloadBureau$Dealing" "java/lang/Object" ∈ lw_tbl := List.mem_of_getElem? (i := 768) (by decide +kernel)
theorem qr_769 : Cond.castable "SkyloadBureau$Line" "java/lang/Object" ∈ lw_tbl := List.mem_of_getElem? (i := 769) (by decide +kernel)
theorem qr_770 : Cond.castable "java/lang/IndexOutOfBoundsException" "java/lang/Object" ∈ lw_tbl := List.mem_of_getElem? (i := 770) (by decide +kernel)
theorem qr_771 : Cond.castable "java/lang/IllegalArgumentException" "java/lang/Object" ∈ lw_tbl := List.mem_of_getElem? (i := 771) (by decide +kernel)
theorem qr_772 : Cond.castable "java/lang/IllegalStateException" "java/lang/Object" ∈ lw_tbl := List.mem_of_getElem? (i := 772) (by decide +kernel)
theorem qr_773 : Cond.castable "SkyloadBureau$Flight" "java/lang/Object" ∈ lw_tbl := List.mem_of_getElem? (i := 773) (by decide +kernel)
theorem qr_774 : Cond.castable "SkyloadBureau$Regulation" "java/lang/Object" ∈ lw_tbl := List.mem_of_getElem? (i := 774) (by decide +kernel)
theorem qr_775 : Cond.castable "java/lang/Throwable" "java/lang/Object" ∈ lw_tbl := List.mem_of_getElem? (i := 775) (by decide +kernel)
theorem qr_776 : Cond.castable "java/lang/String" "java/lang/Object" ∈ lw_tbl := List.mem_of_getElem? (i := 776) (by decide +kernel)
theorem qr_779 : Cond.declares (⟨"java/lang/Object", "getClass", "()Ljava/lang/Class;"⟩ : MethodName) ∈ lw_tbl := List.mem_of_getElem? (i := 779) (by decide +kernel)
theorem qr_780 : Cond.castable "[I" "java/lang/Object" ∈ lw_tbl := List.mem_of_getElem? (i := 780) (by decide +kernel)
theorem qr_781 : Cond.castable "[B" "java/lang/Object" ∈ lw_tbl := List.mem_of_getElem? (i := 781) (by decide +kernel)
theorem qr_782 : Cond.castable "[Ljava/lang/Object;" "java/lang/Object" ∈ lw_tbl := List.mem_of_getElem? (i := 782) (by decide +kernel)
