/-! words of the tables by their places -/
theorem qw_0 : Cond.selects RX4 yX4_reckonDues yX4_reckonDues ∈ lw_G := List.mem_filter.mpr ⟨List.mem_of_getElem? (i := 0) (by decide +kernel), by decide +kernel⟩
theorem qw_1 : Cond.selects RX4 yX4_reckonPenalties yX4_reckonPenalties ∈ lw_G := List.mem_filter.mpr ⟨List.mem_of_getElem? (i := 1) (by decide +kernel), by decide +kernel⟩
theorem qw_2 : Cond.selects RX0 yX0_lineUp yX0_lineUp ∈ lw_G := List.mem_filter.mpr ⟨List.mem_of_getElem? (i := 2) (by decide +kernel), by decide +kernel⟩
theorem qw_3 : Cond.selects RX0 yX0_serve yX0_serve ∈ lw_G := List.mem_filter.mpr ⟨List.mem_of_getElem? (i := 3) (by decide +kernel), by decide +kernel⟩
theorem qw_4 : Cond.selects RX4 yX4_sumOfDues yX4_sumOfDues ∈ lw_G := List.mem_filter.mpr ⟨List.mem_of_getElem? (i := 4) (by decide +kernel), by decide +kernel⟩
theorem qw_5 : Cond.selects "java/lang/Throwable" (⟨"java/lang/Throwable", "fillInStackTrace", "(I)Ljava/lang/Throwable;"⟩ : MethodName) (⟨"java/lang/Throwable", "fillInStackTrace", "(I)Ljava/lang/Throwable;"⟩ : MethodName) ∈ lw_G := List.mem_filter.mpr ⟨List.mem_of_getElem? (i := 5) (by decide +kernel), by decide +kernel⟩
theorem qw_6 : Cond.selects RJx4a65c yJx4a65c_add_72be8 yJx4a65c_add_72be8 ∈ lw_G := List.mem_filter.mpr ⟨List.mem_of_getElem? (i := 6) (by decide +kernel), by decide +kernel⟩
theorem qw_7 : Cond.selects RJx4a65c yJx4a65c_grow_d5877 yJx4a65c_grow_d5877 ∈ lw_G := List.mem_filter.mpr ⟨List.mem_of_getElem? (i := 7) (by decide +kernel), by decide +kernel⟩
theorem qw_8 : Cond.selects RJx4a65c yJx4a65c_grow_92f84 yJx4a65c_grow_92f84 ∈ lw_G := List.mem_filter.mpr ⟨List.mem_of_getElem? (i := 8) (by decide +kernel), by decide +kernel⟩
theorem qw_9 : Cond.selects RX4 yX4_flightAt yX4_flightAt ∈ lw_G := List.mem_filter.mpr ⟨List.mem_of_getElem? (i := 9) (by decide +kernel), by decide +kernel⟩
theorem qw_10 : Cond.selects RX4 yX4_loadOf yX4_loadOf ∈ lw_G := List.mem_filter.mpr ⟨List.mem_of_getElem? (i := 10) (by decide +kernel), by decide +kernel⟩
theorem qw_11 : Cond.selects RX4 yX4_lineUpEntering yX4_lineUpEntering ∈ lw_G := List.mem_filter.mpr ⟨List.mem_of_getElem? (i := 11) (by decide +kernel), by decide +kernel⟩
theorem qw_12 : Cond.selects RX4 yX4_regulationAt yX4_regulationAt ∈ lw_G := List.mem_filter.mpr ⟨List.mem_of_getElem? (i := 12) (by decide +kernel), by decide +kernel⟩
theorem qw_13 : Cond.selects RX4 yX4_chargedToRegulation yX4_chargedToRegulation ∈ lw_G := List.mem_filter.mpr ⟨List.mem_of_getElem? (i := 13) (by decide +kernel), by decide +kernel⟩
theorem qw_14 : Cond.selects RX5 yX5_holds yX5_holds ∈ lw_G := List.mem_filter.mpr ⟨List.mem_of_getElem? (i := 14) (by decide +kernel), by decide +kernel⟩
theorem qw_15 : Cond.selects RX5 yX5_isFlight yX5_isFlight ∈ lw_G := List.mem_filter.mpr ⟨List.mem_of_getElem? (i := 15) (by decide +kernel), by decide +kernel⟩
theorem qw_16 : Cond.selects RX5 yX5_departure yX5_departure ∈ lw_G := List.mem_filter.mpr ⟨List.mem_of_getElem? (i := 16) (by decide +kernel), by decide +kernel⟩
theorem qw_17 : Cond.selects RX5 yX5_enters yX5_enters ∈ lw_G := List.mem_filter.mpr ⟨List.mem_of_getElem? (i := 17) (by decide +kernel), by decide +kernel⟩
theorem qw_18 : Cond.selects RX5 yX5_overOf yX5_overOf ∈ lw_G := List.mem_filter.mpr ⟨List.mem_of_getElem? (i := 18) (by decide +kernel), by decide +kernel⟩
theorem qw_19 : Cond.selects RX5 yX5_loadOf yX5_loadOf ∈ lw_G := List.mem_filter.mpr ⟨List.mem_of_getElem? (i := 19) (by decide +kernel), by decide +kernel⟩
theorem qw_20 : Cond.selects RX5 yX5_lays yX5_lays ∈ lw_G := List.mem_filter.mpr ⟨List.mem_of_getElem? (i := 20) (by decide +kernel), by decide +kernel⟩
theorem qw_21 : Cond.selects RX5 yX5_isRegulation yX5_isRegulation ∈ lw_G := List.mem_filter.mpr ⟨List.mem_of_getElem? (i := 21) (by decide +kernel), by decide +kernel⟩
theorem qw_22 : Cond.selects RX5 yX5_dealt yX5_dealt ∈ lw_G := List.mem_filter.mpr ⟨List.mem_of_getElem? (i := 22) (by decide +kernel), by decide +kernel⟩
theorem qw_23 : Cond.selects RX5 yX5_begin yX5_begin ∈ lw_G := List.mem_filter.mpr ⟨List.mem_of_getElem? (i := 23) (by decide +kernel), by decide +kernel⟩
theorem qw_24 : Cond.selects RX5 yX5_nextOf yX5_nextOf ∈ lw_G := List.mem_filter.mpr ⟨List.mem_of_getElem? (i := 24) (by decide +kernel), by decide +kernel⟩
theorem qw_25 : Cond.selects RX5 yX5_timeOf yX5_timeOf ∈ lw_G := List.mem_filter.mpr ⟨List.mem_of_getElem? (i := 25) (by decide +kernel), by decide +kernel⟩
theorem qw_26 : Cond.selects RX5 yX5_plannedOver yX5_plannedOver ∈ lw_G := List.mem_filter.mpr ⟨List.mem_of_getElem? (i := 26) (by decide +kernel), by decide +kernel⟩
theorem qw_27 : Cond.selects RX5 yX5_takes yX5_takes ∈ lw_G := List.mem_filter.mpr ⟨List.mem_of_getElem? (i := 27) (by decide +kernel), by decide +kernel⟩
theorem qw_28 : Cond.selects RX5 yX5_ending yX5_ending ∈ lw_G := List.mem_filter.mpr ⟨List.mem_of_getElem? (i := 28) (by decide +kernel), by decide +kernel⟩
theorem qw_29 : Cond.selects RX5 yX5_dealAll yX5_dealAll ∈ lw_G := List.mem_filter.mpr ⟨List.mem_of_getElem? (i := 29) (by decide +kernel), by decide +kernel⟩
theorem qw_30 : Cond.selects RX5 yX5_dueOf yX5_dueOf ∈ lw_G := List.mem_filter.mpr ⟨List.mem_of_getElem? (i := 30) (by decide +kernel), by decide +kernel⟩
theorem qw_31 : Cond.selects RX5 yX5_dueBy yX5_dueBy ∈ lw_G := List.mem_filter.mpr ⟨List.mem_of_getElem? (i := 31) (by decide +kernel), by decide +kernel⟩
theorem qw_32 : Cond.selects RX5 yX5_sumBy yX5_sumBy ∈ lw_G := List.mem_filter.mpr ⟨List.mem_of_getElem? (i := 32) (by decide +kernel), by decide +kernel⟩
theorem qw_33 : Cond.selects RX5 yX5_deals yX5_deals ∈ lw_G := List.mem_filter.mpr ⟨List.mem_of_getElem? (i := 33) (by decide +kernel), by decide +kernel⟩
theorem qw_34 : Cond.selects RX5 yX5_goes yX5_goes ∈ lw_G := List.mem_filter.mpr ⟨List.mem_of_getElem? (i := 34) (by decide +kernel), by decide +kernel⟩
theorem qw_35 : Cond.initialized "SkyloadBureauLaw" ∈ lw_G := List.mem_filter.mpr ⟨List.mem_of_getElem? (i := 35) (by decide +kernel), by decide +kernel⟩
theorem qw_36 : Cond.initialized "SkyloadBureau" ∈ lw_G := List.mem_filter.mpr ⟨List.mem_of_getElem? (i := 36) (by decide +kernel), by decide +kernel⟩
theorem qw_37 : Cond.initialized "java/util/AbstractCollection" ∈ lw_G := List.mem_filter.mpr ⟨List.mem_of_getElem? (i := 37) (by decide +kernel), by decide +kernel⟩
theorem qw_38 : Cond.initialized "java/util/AbstractList" ∈ lw_G := List.mem_filter.mpr ⟨List.mem_of_getElem? (i := 38) (by decide +kernel), by decide +kernel⟩
theorem qw_39 : Cond.initialized "java/util/ArrayList" ∈ lw_G := List.mem_filter.mpr ⟨List.mem_of_getElem? (i := 39) (by decide +kernel), by decide +kernel⟩
theorem qw_40 : Cond.initialized "SkyloadBureau$Dealing" ∈ lw_G := List.mem_filter.mpr ⟨List.mem_of_getElem? (i := 40) (by decide +kernel), by decide +kernel⟩
theorem qw_41 : Cond.initialized "SkyloadBureau$Line" ∈ lw_G := List.mem_filter.mpr ⟨List.mem_of_getElem? (i := 41) (by decide +kernel), by decide +kernel⟩
theorem qw_42 : Cond.initialized "SkyloadBureauModel" ∈ lw_G := List.mem_filter.mpr ⟨List.mem_of_getElem? (i := 42) (by decide +kernel), by decide +kernel⟩
theorem qw_43 : Cond.initialized "java/lang/Throwable" ∈ lw_G := List.mem_filter.mpr ⟨List.mem_of_getElem? (i := 43) (by decide +kernel), by decide +kernel⟩
theorem qw_44 : Cond.initialized "java/lang/Exception" ∈ lw_G := List.mem_filter.mpr ⟨List.mem_of_getElem? (i := 44) (by decide +kernel), by decide +kernel⟩
theorem qw_45 : Cond.initialized "java/lang/RuntimeException" ∈ lw_G := List.mem_filter.mpr ⟨List.mem_of_getElem? (i := 45) (by decide +kernel), by decide +kernel⟩
theorem qw_46 : Cond.initialized "java/lang/IndexOutOfBoundsException" ∈ lw_G := List.mem_filter.mpr ⟨List.mem_of_getElem? (i := 46) (by decide +kernel), by decide +kernel⟩
theorem qw_47 : Cond.initialized "java/lang/IllegalArgumentException" ∈ lw_G := List.mem_filter.mpr ⟨List.mem_of_getElem? (i := 47) (by decide +kernel), by decide +kernel⟩
theorem qw_48 : Cond.initialized "java/lang/IllegalStateException" ∈ lw_G := List.mem_filter.mpr ⟨List.mem_of_getElem? (i := 48) (by decide +kernel), by decide +kernel⟩
theorem qw_49 : Cond.initialized "SkyloadBureau$Flight" ∈ lw_G := List.mem_filter.mpr ⟨List.mem_of_getElem? (i := 49) (by decide +kernel), by decide +kernel⟩
theorem qw_50 : Cond.initialized "jdk/internal/util/ArraysSupport" ∈ lw_G := List.mem_filter.mpr ⟨List.mem_of_getElem? (i := 50) (by decide +kernel), by decide +kernel⟩
theorem qw_51 : Cond.initialized "java/lang/Math" ∈ lw_G := List.mem_filter.mpr ⟨List.mem_of_getElem? (i := 51) (by decide +kernel), by decide +kernel⟩
theorem qw_52 : Cond.initialized "java/util/Arrays" ∈ lw_G := List.mem_filter.mpr ⟨List.mem_of_getElem? (i := 52) (by decide +kernel), by decide +kernel⟩
theorem qw_53 : Cond.initialized "java/lang/System" ∈ lw_G := List.mem_filter.mpr ⟨List.mem_of_getElem? (i := 53) (by decide +kernel), by decide +kernel⟩
theorem qw_54 : Cond.initialized "java/util/Objects" ∈ lw_G := List.mem_filter.mpr ⟨List.mem_of_getElem? (i := 54) (by decide +kernel), by decide +kernel⟩
theorem qw_55 : Cond.initialized "jdk/internal/util/Preconditions" ∈ lw_G := List.mem_filter.mpr ⟨List.mem_of_getElem? (i := 55) (by decide +kernel), by decide +kernel⟩
theorem qw_56 : Cond.initialized "SkyloadBureau$Regulation" ∈ lw_G := List.mem_filter.mpr ⟨List.mem_of_getElem? (i := 56) (by decide +kernel), by decide +kernel⟩
theorem qw_57 : Cond.classLink "SkyloadBureauLaw" 8 "SkyloadBureau" ∈ lw_G := List.mem_filter.mpr ⟨List.mem_of_getElem? (i := 57) (by decide +kernel), by decide +kernel⟩
theorem qw_58 : Cond.instantiable "SkyloadBureau" 4 ∈ lw_G := List.mem_filter.mpr ⟨List.mem_of_getElem? (i := 58) (by decide +kernel), by decide +kernel⟩
theorem qw_59 : Cond.methodLink "SkyloadBureauLaw" 86 yX4_init ∈ lw_G := List.mem_filter.mpr ⟨List.mem_of_getElem? (i := 59) (by decide +kernel), by decide +kernel⟩
theorem qw_60 : Cond.instanceMethod yX4_init ∈ lw_G := List.mem_filter.mpr ⟨List.mem_of_getElem? (i := 60) (by decide +kernel), by decide +kernel⟩
theorem qw_61 : Cond.code yX4_init prog_1_method_1_code 1 (Option.none : Option Jvm.ClassFile.FieldType) ∈ lw_G := List.mem_filter.mpr ⟨List.mem_of_getElem? (i := 61) (by decide +kernel), by decide +kernel⟩
theorem qw_62 : Cond.methodLink "SkyloadBureau" 1 (⟨"java/lang/Object", "<init>", "()V"⟩ : MethodName) ∈ lw_G := List.mem_filter.mpr ⟨List.mem_of_getElem? (i := 62) (by decide +kernel), by decide +kernel⟩
theorem qw_63 : Cond.instanceMethod (⟨"java/lang/Object", "<init>", "()V"⟩ : MethodName) ∈ lw_G := List.mem_filter.mpr ⟨List.mem_of_getElem? (i := 63) (by decide +kernel), by decide +kernel⟩
theorem qw_64 : Cond.code (⟨"java/lang/Object", "<init>", "()V"⟩ : MethodName) object_method_1_code 1 (Option.none : Option Jvm.ClassFile.FieldType) ∈ lw_G := List.mem_filter.mpr ⟨List.mem_of_getElem? (i := 64) (by decide +kernel), by decide +kernel⟩
theorem qw_65 : Cond.classLink "SkyloadBureau" 7 "java/util/ArrayList" ∈ lw_G := List.mem_filter.mpr ⟨List.mem_of_getElem? (i := 65) (by decide +kernel), by decide +kernel⟩
theorem qw_66 : Cond.instantiable "java/util/ArrayList" 3 ∈ lw_G := List.mem_filter.mpr ⟨List.mem_of_getElem? (i := 66) (by decide +kernel), by decide +kernel⟩
theorem qw_67 : Cond.methodLink "SkyloadBureau" 9 yJx4a65c_init_da8c8 ∈ lw_G := List.mem_filter.mpr ⟨List.mem_of_getElem? (i := 67) (by decide +kernel), by decide +kernel⟩
theorem qw_68 : Cond.instanceMethod yJx4a65c_init_da8c8 ∈ lw_G := List.mem_filter.mpr ⟨List.mem_of_getElem? (i := 68) (by decide +kernel), by decide +kernel⟩
theorem qw_69 : Cond.code yJx4a65c_init_da8c8 prog_22_method_2_code 1 (Option.none : Option Jvm.ClassFile.FieldType) ∈ lw_G := List.mem_filter.mpr ⟨List.mem_of_getElem? (i := 69) (by decide +kernel), by decide +kernel⟩
theorem qw_70 : Cond.methodLink "java/util/ArrayList" 1 yJxc12de_init_da8c8 ∈ lw_G := List.mem_filter.mpr ⟨List.mem_of_getElem? (i := 70) (by decide +kernel), by decide +kernel⟩
theorem qw_71 : Cond.instanceMethod yJxc12de_init_da8c8 ∈ lw_G := List.mem_filter.mpr ⟨List.mem_of_getElem? (i := 71) (by decide +kernel), by decide +kernel⟩
theorem qw_72 : Cond.code yJxc12de_init_da8c8 prog_21_method_1_code 1 (Option.none : Option Jvm.ClassFile.FieldType) ∈ lw_G := List.mem_filter.mpr ⟨List.mem_of_getElem? (i := 72) (by decide +kernel), by decide +kernel⟩
theorem qw_73 : Cond.methodLink "java/util/AbstractList" 1 yJxa1e45_init_da8c8 ∈ lw_G := List.mem_filter.mpr ⟨List.mem_of_getElem? (i := 73) (by decide +kernel), by decide +kernel⟩
theorem qw_74 : Cond.instanceMethod yJxa1e45_init_da8c8 ∈ lw_G := List.mem_filter.mpr ⟨List.mem_of_getElem? (i := 74) (by decide +kernel), by decide +kernel⟩
theorem qw_75 : Cond.code yJxa1e45_init_da8c8 prog_20_method_1_code 1 (Option.none : Option Jvm.ClassFile.FieldType) ∈ lw_G := List.mem_filter.mpr ⟨List.mem_of_getElem? (i := 75) (by decide +kernel), by decide +kernel⟩
theorem qw_76 : Cond.methodLink "java/util/AbstractCollection" 1 (⟨"java/lang/Object", "<init>", "()V"⟩ : MethodName) ∈ lw_G := List.mem_filter.mpr ⟨List.mem_of_getElem? (i := 76) (by decide +kernel), by decide +kernel⟩
theorem qw_77 : Cond.fieldLink "java/util/ArrayList" 39 "java/util/ArrayList" "DEFAULTCAPACITY_EMPTY_ELEMENTDATA" "[Ljava/lang/Object;" ∈ lw_G := List.mem_filter.mpr ⟨List.mem_of_getElem? (i := 77) (by decide +kernel), by decide +kernel⟩
theorem qw_79 : Cond.fieldLink "java/util/ArrayList" 9 "java/util/ArrayList" "elementData" "[Ljava/lang/Object;" ∈ lw_G := List.mem_filter.mpr ⟨List.mem_of_getElem? (i := 79) (by decide +kernel), by decide +kernel⟩
theorem qw_80 : Cond.fieldLink "java/util/ArrayList" 48 "java/util/ArrayList" "size" "I" ∈ lw_G := List.mem_filter.mpr ⟨List.mem_of_getElem? (i := 80) (by decide +kernel), by decide +kernel⟩
theorem qw_81 : Cond.fieldLink "java/util/AbstractList" 7 "java/util/AbstractList" "modCount" "I" ∈ lw_G := List.mem_filter.mpr ⟨List.mem_of_getElem? (i := 81) (by decide +kernel), by decide +kernel⟩
theorem qw_82 : Cond.fieldLink "java/util/ArrayList" 63 "java/util/ArrayList" "modCount" "I" ∈ lw_G := List.mem_filter.mpr ⟨List.mem_of_getElem? (i := 82) (by decide +kernel), by decide +kernel⟩
theorem qw_83 : Cond.sameField "java/util/ArrayList" "java/util/AbstractList" "modCount" "I" ∈ lw_G := List.mem_filter.mpr ⟨List.mem_of_getElem? (i := 83) (by decide +kernel), by decide +kernel⟩
theorem qw_84 : Cond.lays "java/util/ArrayList" "java/util/ArrayList" "elementData" "[Ljava/lang/Object;" ∈ lw_G := List.mem_filter.mpr ⟨List.mem_of_getElem? (i := 84) (by decide +kernel), by decide +kernel⟩
theorem qw_86 : Cond.lays "java/util/ArrayList" "java/util/ArrayList" "size" "I" ∈ lw_G := List.mem_filter.mpr ⟨List.mem_of_getElem? (i := 86) (by decide +kernel), by decide +kernel⟩
theorem qw_88 : Cond.lays "java/util/ArrayList" "java/util/AbstractList" "modCount" "I" ∈ lw_G := List.mem_filter.mpr ⟨List.mem_of_getElem? (i := 88) (by decide +kernel), by decide +kernel⟩
theorem qw_90 : Cond.superclass "java/util/ArrayList" "java/util/AbstractList" ∈ lw_G := List.mem_filter.mpr ⟨List.mem_of_getElem? (i := 90) (by decide +kernel), by decide +kernel⟩
theorem qw_91 : Cond.classLink "SkyloadBureau" 19 "SkyloadBureau$Dealing" ∈ lw_G := List.mem_filter.mpr ⟨List.mem_of_getElem? (i := 91) (by decide +kernel), by decide +kernel⟩
theorem qw_92 : Cond.instantiable "SkyloadBureau$Dealing" 5 ∈ lw_G := List.mem_filter.mpr ⟨List.mem_of_getElem? (i := 92) (by decide +kernel), by decide +kernel⟩
theorem qw_94 : Cond.instanceMethod yX0_init ∈ lw_G := List.mem_filter.mpr ⟨List.mem_of_getElem? (i := 94) (by decide +kernel), by decide +kernel⟩
theorem qw_95 : Cond.code yX0_init prog_2_method_1_code 1 (Option.none : Option Jvm.ClassFile.FieldType) ∈ lw_G := List.mem_filter.mpr ⟨List.mem_of_getElem? (i := 95) (by decide +kernel), by decide +kernel⟩
theorem qw_96 : Cond.methodLink "SkyloadBureau$Dealing" 3 (⟨"java/lang/Object", "<init>", "()V"⟩ : MethodName) ∈ lw_G := List.mem_filter.mpr ⟨List.mem_of_getElem? (i := 96) (by decide +kernel), by decide +kernel⟩
theorem qw_97 : Cond.classLink "SkyloadBureau$Dealing" 9 "SkyloadBureau$Line" ∈ lw_G := List.mem_filter.mpr ⟨List.mem_of_getElem? (i := 97) (by decide +kernel), by decide +kernel⟩
theorem qw_98 : Cond.instantiable "SkyloadBureau$Line" 5 ∈ lw_G := List.mem_filter.mpr ⟨List.mem_of_getElem? (i := 98) (by decide +kernel), by decide +kernel⟩
theorem qw_100 : Cond.instanceMethod yX2_init ∈ lw_G := List.mem_filter.mpr ⟨List.mem_of_getElem? (i := 100) (by decide +kernel), by decide +kernel⟩
theorem qw_101 : Cond.code yX2_init prog_4_method_1_code 1 (Option.none : Option Jvm.ClassFile.FieldType) ∈ lw_G := List.mem_filter.mpr ⟨List.mem_of_getElem? (i := 101) (by decide +kernel), by decide +kernel⟩
theorem qw_102 : Cond.methodLink "SkyloadBureau$Line" 3 (⟨"java/lang/Object", "<init>", "()V"⟩ : MethodName) ∈ lw_G := List.mem_filter.mpr ⟨List.mem_of_getElem? (i := 102) (by decide +kernel), by decide +kernel⟩
theorem qw_103 : Cond.fieldLink "SkyloadBureau$Line" 9 "SkyloadBureau$Line" "numbers" "[I" ∈ lw_G := List.mem_filter.mpr ⟨List.mem_of_getElem? (i := 103) (by decide +kernel), by decide +kernel⟩
theorem qw_104 : Cond.fieldLink "SkyloadBureau$Line" 15 "SkyloadBureau$Line" "times" "[I" ∈ lw_G := List.mem_filter.mpr ⟨List.mem_of_getElem? (i := 104) (by decide +kernel), by decide +kernel⟩
theorem qw_105 : Cond.fieldLink "SkyloadBureau$Line" 18 "SkyloadBureau$Line" "slots" "[I" ∈ lw_G := List.mem_filter.mpr ⟨List.mem_of_getElem? (i := 105) (by decide +kernel), by decide +kernel⟩
theorem qw_106 : Cond.fieldLink "SkyloadBureau$Line" 21 "SkyloadBureau$Line" "targets" "[I" ∈ lw_G := List.mem_filter.mpr ⟨List.mem_of_getElem? (i := 106) (by decide +kernel), by decide +kernel⟩
theorem qw_107 : Cond.fieldLink "SkyloadBureau$Line" 24 "SkyloadBureau$Line" "count" "I" ∈ lw_G := List.mem_filter.mpr ⟨List.mem_of_getElem? (i := 107) (by decide +kernel), by decide +kernel⟩
theorem qw_108 : Cond.fieldLink "SkyloadBureau$Dealing" 39 "SkyloadBureau$Line" "count" "I" ∈ lw_G := List.mem_filter.mpr ⟨List.mem_of_getElem? (i := 108) (by decide +kernel), by decide +kernel⟩
theorem qw_109 : Cond.fieldLink "SkyloadBureau" 176 "SkyloadBureau$Line" "count" "I" ∈ lw_G := List.mem_filter.mpr ⟨List.mem_of_getElem? (i := 109) (by decide +kernel), by decide +kernel⟩
theorem qw_110 : Cond.laysFinal "SkyloadBureau$Line" "SkyloadBureau$Line" "numbers" "[I" ∈ lw_G := List.mem_filter.mpr ⟨List.mem_of_getElem? (i := 110) (by decide +kernel), by decide +kernel⟩
theorem qw_112 : Cond.laysFinal "SkyloadBureau$Line" "SkyloadBureau$Line" "times" "[I" ∈ lw_G := List.mem_filter.mpr ⟨List.mem_of_getElem? (i := 112) (by decide +kernel), by decide +kernel⟩
theorem qw_114 : Cond.laysFinal "SkyloadBureau$Line" "SkyloadBureau$Line" "slots" "[I" ∈ lw_G := List.mem_filter.mpr ⟨List.mem_of_getElem? (i := 114) (by decide +kernel), by decide +kernel⟩
theorem qw_116 : Cond.laysFinal "SkyloadBureau$Line" "SkyloadBureau$Line" "targets" "[I" ∈ lw_G := List.mem_filter.mpr ⟨List.mem_of_getElem? (i := 116) (by decide +kernel), by decide +kernel⟩
theorem qw_118 : Cond.lays "SkyloadBureau$Line" "SkyloadBureau$Line" "count" "I" ∈ lw_G := List.mem_filter.mpr ⟨List.mem_of_getElem? (i := 118) (by decide +kernel), by decide +kernel⟩
theorem qw_120 : Cond.superclass "SkyloadBureau$Line" "java/lang/Object" ∈ lw_G := List.mem_filter.mpr ⟨List.mem_of_getElem? (i := 120) (by decide +kernel), by decide +kernel⟩
theorem qw_121 : Cond.arrayClass FieldType.int ∈ lw_G := List.mem_filter.mpr ⟨List.mem_of_getElem? (i := 121) (by decide +kernel), by decide +kernel⟩
theorem qw_122 : Cond.fieldLink "SkyloadBureau$Dealing" 12 "SkyloadBureau$Dealing" "fixed" "LSkyloadBureau$Line;" ∈ lw_G := List.mem_filter.mpr ⟨List.mem_of_getElem? (i := 122) (by decide +kernel), by decide +kernel⟩
theorem qw_123 : Cond.fieldLink "SkyloadBureau" 173 "SkyloadBureau$Dealing" "fixed" "LSkyloadBureau$Line;" ∈ lw_G := List.mem_filter.mpr ⟨List.mem_of_getElem? (i := 123) (by decide +kernel), by decide +kernel⟩
theorem qw_124 : Cond.fieldLink "SkyloadBureau$Dealing" 18 "SkyloadBureau$Dealing" "listed" "LSkyloadBureau$Line;" ∈ lw_G := List.mem_filter.mpr ⟨List.mem_of_getElem? (i := 124) (by decide +kernel), by decide +kernel⟩
theorem qw_125 : Cond.fieldLink "SkyloadBureau" 179 "SkyloadBureau$Dealing" "listed" "LSkyloadBureau$Line;" ∈ lw_G := List.mem_filter.mpr ⟨List.mem_of_getElem? (i := 125) (by decide +kernel), by decide +kernel⟩
theorem qw_126 : Cond.fieldLink "SkyloadBureau$Dealing" 21 "SkyloadBureau$Dealing" "slotCount" "I" ∈ lw_G := List.mem_filter.mpr ⟨List.mem_of_getElem? (i := 126) (by decide +kernel), by decide +kernel⟩
theorem qw_127 : Cond.fieldLink "SkyloadBureau" 167 "SkyloadBureau$Dealing" "slotCount" "I" ∈ lw_G := List.mem_filter.mpr ⟨List.mem_of_getElem? (i := 127) (by decide +kernel), by decide +kernel⟩
theorem qw_128 : Cond.fieldLink "SkyloadBureau$Dealing" 25 "SkyloadBureau$Dealing" "freeCount" "I" ∈ lw_G := List.mem_filter.mpr ⟨List.mem_of_getElem? (i := 128) (by decide +kernel), by decide +kernel⟩
theorem qw_129 : Cond.fieldLink "SkyloadBureau" 170 "SkyloadBureau$Dealing" "freeCount" "I" ∈ lw_G := List.mem_filter.mpr ⟨List.mem_of_getElem? (i := 129) (by decide +kernel), by decide +kernel⟩
theorem qw_130 : Cond.fieldLink "SkyloadBureau$Dealing" 28 "SkyloadBureau$Dealing" "listedWithout" "I" ∈ lw_G := List.mem_filter.mpr ⟨List.mem_of_getElem? (i := 130) (by decide +kernel), by decide +kernel⟩
theorem qw_131 : Cond.fieldLink "SkyloadBureau" 182 "SkyloadBureau$Dealing" "listedWithout" "I" ∈ lw_G := List.mem_filter.mpr ⟨List.mem_of_getElem? (i := 131) (by decide +kernel), by decide +kernel⟩
theorem qw_132 : Cond.laysFinal "SkyloadBureau$Dealing" "SkyloadBureau$Dealing" "fixed" "LSkyloadBureau$Line;" ∈ lw_G := List.mem_filter.mpr ⟨List.mem_of_getElem? (i := 132) (by decide +kernel), by decide +kernel⟩
theorem qw_134 : Cond.laysFinal "SkyloadBureau$Dealing" "SkyloadBureau$Dealing" "listed" "LSkyloadBureau$Line;" ∈ lw_G := List.mem_filter.mpr ⟨List.mem_of_getElem? (i := 134) (by decide +kernel), by decide +kernel⟩
theorem qw_136 : Cond.lays "SkyloadBureau$Dealing" "SkyloadBureau$Dealing" "slotCount" "I" ∈ lw_G := List.mem_filter.mpr ⟨List.mem_of_getElem? (i := 136) (by decide +kernel), by decide +kernel⟩
theorem qw_138 : Cond.lays "SkyloadBureau$Dealing" "SkyloadBureau$Dealing" "freeCount" "I" ∈ lw_G := List.mem_filter.mpr ⟨List.mem_of_getElem? (i := 138) (by decide +kernel), by decide +kernel⟩
theorem qw_140 : Cond.lays "SkyloadBureau$Dealing" "SkyloadBureau$Dealing" "listedWithout" "I" ∈ lw_G := List.mem_filter.mpr ⟨List.mem_of_getElem? (i := 140) (by decide +kernel), by decide +kernel⟩
theorem qw_142 : Cond.superclass "SkyloadBureau$Dealing" "java/lang/Object" ∈ lw_G := List.mem_filter.mpr ⟨List.mem_of_getElem? (i := 142) (by decide +kernel), by decide +kernel⟩
theorem qw_143 : Cond.classLink "SkyloadBureau" 26 "SkyloadBureau$Line" ∈ lw_G := List.mem_filter.mpr ⟨List.mem_of_getElem? (i := 143) (by decide +kernel), by decide +kernel⟩
theorem qw_145 : Cond.fieldLink "SkyloadBureau" 10 "SkyloadBureau" "flights" "Ljava/util/ArrayList;" ∈ lw_G := List.mem_filter.mpr ⟨List.mem_of_getElem? (i := 145) (by decide +kernel), by decide +kernel⟩
theorem qw_146 : Cond.fieldLink "SkyloadBureau" 16 "SkyloadBureau" "regulations" "Ljava/util/ArrayList;" ∈ lw_G := List.mem_filter.mpr ⟨List.mem_of_getElem? (i := 146) (by decide +kernel), by decide +kernel⟩
theorem qw_147 : Cond.fieldLink "SkyloadBureau" 22 "SkyloadBureau" "dealing" "LSkyloadBureau$Dealing;" ∈ lw_G := List.mem_filter.mpr ⟨List.mem_of_getElem? (i := 147) (by decide +kernel), by decide +kernel⟩
theorem qw_148 : Cond.fieldLink "SkyloadBureau" 29 "SkyloadBureau" "entering" "LSkyloadBureau$Line;" ∈ lw_G := List.mem_filter.mpr ⟨List.mem_of_getElem? (i := 148) (by decide +kernel), by decide +kernel⟩
theorem qw_149 : Cond.laysFinal "SkyloadBureau" "SkyloadBureau" "flights" "Ljava/util/ArrayList;" ∈ lw_G := List.mem_filter.mpr ⟨List.mem_of_getElem? (i := 149) (by decide +kernel), by decide +kernel⟩
theorem qw_151 : Cond.laysFinal "SkyloadBureau" "SkyloadBureau" "regulations" "Ljava/util/ArrayList;" ∈ lw_G := List.mem_filter.mpr ⟨List.mem_of_getElem? (i := 151) (by decide +kernel), by decide +kernel⟩
theorem qw_153 : Cond.laysFinal "SkyloadBureau" "SkyloadBureau" "dealing" "LSkyloadBureau$Dealing;" ∈ lw_G := List.mem_filter.mpr ⟨List.mem_of_getElem? (i := 153) (by decide +kernel), by decide +kernel⟩
theorem qw_155 : Cond.laysFinal "SkyloadBureau" "SkyloadBureau" "entering" "LSkyloadBureau$Line;" ∈ lw_G := List.mem_filter.mpr ⟨List.mem_of_getElem? (i := 155) (by decide +kernel), by decide +kernel⟩
theorem qw_157 : Cond.superclass "SkyloadBureau" "java/lang/Object" ∈ lw_G := List.mem_filter.mpr ⟨List.mem_of_getElem? (i := 157) (by decide +kernel), by decide +kernel⟩
theorem qw_158 : Cond.methodLink "SkyloadBureauLaw" 153 yX4_allDue ∈ lw_G := List.mem_filter.mpr ⟨List.mem_of_getElem? (i := 158) (by decide +kernel), by decide +kernel⟩
theorem qw_159 : Cond.instanceMethod yX4_allDue ∈ lw_G := List.mem_filter.mpr ⟨List.mem_of_getElem? (i := 159) (by decide +kernel), by decide +kernel⟩
theorem qw_160 : Cond.selects "SkyloadBureau" yX4_allDue yX4_allDue ∈ lw_G := List.mem_filter.mpr ⟨List.mem_of_getElem? (i := 160) (by decide +kernel), by decide +kernel⟩
theorem qw_161 : Cond.code yX4_allDue prog_1_method_19_code 1 (some FieldType.int) ∈ lw_G := List.mem_filter.mpr ⟨List.mem_of_getElem? (i := 161) (by decide +kernel), by decide +kernel⟩
theorem qw_162 : Cond.methodLink "SkyloadBureau" 201 yX4_reckonDues ∈ lw_G := List.mem_filter.mpr ⟨List.mem_of_getElem? (i := 162) (by decide +kernel), by decide +kernel⟩
theorem qw_164 : Cond.instanceMethod yX4_reckonDues ∈ lw_G := List.mem_filter.mpr ⟨List.mem_of_getElem? (i := 164) (by decide +kernel), by decide +kernel⟩
theorem qw_165 : Cond.code yX4_reckonDues prog_1_method_34_code 2 (Option.none : Option Jvm.ClassFile.FieldType) ∈ lw_G := List.mem_filter.mpr ⟨List.mem_of_getElem? (i := 165) (by decide +kernel), by decide +kernel⟩
theorem qw_166 : Cond.methodLink "SkyloadBureau" 41 yJx4a65c_size_8abf5 ∈ lw_G := List.mem_filter.mpr ⟨List.mem_of_getElem? (i := 166) (by decide +kernel), by decide +kernel⟩
theorem qw_167 : Cond.instanceMethod yJx4a65c_size_8abf5 ∈ lw_G := List.mem_filter.mpr ⟨List.mem_of_getElem? (i := 167) (by decide +kernel), by decide +kernel⟩
theorem qw_168 : Cond.selects "java/util/ArrayList" yJx4a65c_size_8abf5 yJx4a65c_size_8abf5 ∈ lw_G := List.mem_filter.mpr ⟨List.mem_of_getElem? (i := 168) (by decide +kernel), by decide +kernel⟩
theorem qw_169 : Cond.code yJx4a65c_size_8abf5 prog_22_method_8_code 1 (some FieldType.int) ∈ lw_G := List.mem_filter.mpr ⟨List.mem_of_getElem? (i := 169) (by decide +kernel), by decide +kernel⟩
theorem qw_170 : Cond.methodLink "SkyloadBureau" 116 yJx4a65c_get_915e3 ∈ lw_G := List.mem_filter.mpr ⟨List.mem_of_getElem? (i := 170) (by decide +kernel), by decide +kernel⟩
theorem qw_171 : Cond.instanceMethod yJx4a65c_get_915e3 ∈ lw_G := List.mem_filter.mpr ⟨List.mem_of_getElem? (i := 171) (by decide +kernel), by decide +kernel⟩
theorem qw_172 : Cond.selects "java/util/ArrayList" yJx4a65c_get_915e3 yJx4a65c_get_915e3 ∈ lw_G := List.mem_filter.mpr ⟨List.mem_of_getElem? (i := 172) (by decide +kernel), by decide +kernel⟩
theorem qw_173 : Cond.code yJx4a65c_get_915e3 prog_22_method_20_code 2 (some (FieldType.object "java/lang/Object")) ∈ lw_G := List.mem_filter.mpr ⟨List.mem_of_getElem? (i := 173) (by decide +kernel), by decide +kernel⟩
theorem qw_174 : Cond.methodLink "java/util/ArrayList" 118 yJ15_checkIndex_7cf53 ∈ lw_G := List.mem_filter.mpr ⟨List.mem_of_getElem? (i := 174) (by decide +kernel), by decide +kernel⟩
theorem qw_175 : Cond.static yJ15_checkIndex_7cf53 ∈ lw_G := List.mem_filter.mpr ⟨List.mem_of_getElem? (i := 175) (by decide +kernel), by decide +kernel⟩
theorem qw_176 : Cond.code yJ15_checkIndex_7cf53 prog_26_method_17_code 2 (some FieldType.int) ∈ lw_G := List.mem_filter.mpr ⟨List.mem_of_getElem? (i := 176) (by decide +kernel), by decide +kernel⟩
theorem qw_177 : Cond.methodLink "java/util/Objects" 105 yJ3_checkIndex_8e157 ∈ lw_G := List.mem_filter.mpr ⟨List.mem_of_getElem? (i := 177) (by decide +kernel), by decide +kernel⟩
theorem qw_178 : Cond.static yJ3_checkIndex_8e157 ∈ lw_G := List.mem_filter.mpr ⟨List.mem_of_getElem? (i := 178) (by decide +kernel), by decide +kernel⟩
theorem qw_179 : Cond.code yJ3_checkIndex_8e157 prog_30_method_11_code 3 (some FieldType.int) ∈ lw_G := List.mem_filter.mpr ⟨List.mem_of_getElem? (i := 179) (by decide +kernel), by decide +kernel⟩
theorem qw_180 : Cond.methodLink "java/util/ArrayList" 123 yJx4a65c_elementData_915e3 ∈ lw_G := List.mem_filter.mpr ⟨List.mem_of_getElem? (i := 180) (by decide +kernel), by decide +kernel⟩
theorem qw_181 : Cond.instanceMethod yJx4a65c_elementData_915e3 ∈ lw_G := List.mem_filter.mpr ⟨List.mem_of_getElem? (i := 181) (by decide +kernel), by decide +kernel⟩
theorem qw_182 : Cond.selects "java/util/ArrayList" yJx4a65c_elementData_915e3 yJx4a65c_elementData_915e3 ∈ lw_G := List.mem_filter.mpr ⟨List.mem_of_getElem? (i := 182) (by decide +kernel), by decide +kernel⟩
theorem qw_183 : Cond.code yJx4a65c_elementData_915e3 prog_22_method_18_code 2 (some (FieldType.object "java/lang/Object")) ∈ lw_G := List.mem_filter.mpr ⟨List.mem_of_getElem? (i := 183) (by decide +kernel), by decide +kernel⟩
theorem qw_184 : Cond.classLink "SkyloadBureau" 52 "SkyloadBureau$Flight" ∈ lw_G := List.mem_filter.mpr ⟨List.mem_of_getElem? (i := 184) (by decide +kernel), by decide +kernel⟩
theorem qw_185 : Cond.methodLink "SkyloadBureau" 270 yX1_forgetReckoned ∈ lw_G := List.mem_filter.mpr ⟨List.mem_of_getElem? (i := 185) (by decide +kernel), by decide +kernel⟩
theorem qw_186 : Cond.instanceMethod yX1_forgetReckoned ∈ lw_G := List.mem_filter.mpr ⟨List.mem_of_getElem? (i := 186) (by decide +kernel), by decide +kernel⟩
theorem qw_187 : Cond.selects "SkyloadBureau$Flight" yX1_forgetReckoned yX1_forgetReckoned ∈ lw_G := List.mem_filter.mpr ⟨List.mem_of_getElem? (i := 187) (by decide +kernel), by decide +kernel⟩
theorem qw_188 : Cond.code yX1_forgetReckoned prog_3_method_19_code 1 (Option.none : Option Jvm.ClassFile.FieldType) ∈ lw_G := List.mem_filter.mpr ⟨List.mem_of_getElem? (i := 188) (by decide +kernel), by decide +kernel⟩
theorem qw_189 : Cond.classLink "SkyloadBureau" 144 "SkyloadBureau$Regulation" ∈ lw_G := List.mem_filter.mpr ⟨List.mem_of_getElem? (i := 189) (by decide +kernel), by decide +kernel⟩
theorem qw_190 : Cond.methodLink "SkyloadBureau" 214 yX4_reckonPenalties ∈ lw_G := List.mem_filter.mpr ⟨List.mem_of_getElem? (i := 190) (by decide +kernel), by decide +kernel⟩
theorem qw_192 : Cond.instanceMethod yX4_reckonPenalties ∈ lw_G := List.mem_filter.mpr ⟨List.mem_of_getElem? (i := 192) (by decide +kernel), by decide +kernel⟩
theorem qw_193 : Cond.code yX4_reckonPenalties prog_1_method_35_code 4 (Option.none : Option Jvm.ClassFile.FieldType) ∈ lw_G := List.mem_filter.mpr ⟨List.mem_of_getElem? (i := 193) (by decide +kernel), by decide +kernel⟩
theorem qw_194 : Cond.methodLink "SkyloadBureau" 163 yX0_dealOut ∈ lw_G := List.mem_filter.mpr ⟨List.mem_of_getElem? (i := 194) (by decide +kernel), by decide +kernel⟩
theorem qw_195 : Cond.instanceMethod yX0_dealOut ∈ lw_G := List.mem_filter.mpr ⟨List.mem_of_getElem? (i := 195) (by decide +kernel), by decide +kernel⟩
theorem qw_196 : Cond.selects "SkyloadBureau$Dealing" yX0_dealOut yX0_dealOut ∈ lw_G := List.mem_filter.mpr ⟨List.mem_of_getElem? (i := 196) (by decide +kernel), by decide +kernel⟩
theorem qw_197 : Cond.code yX0_dealOut prog_2_method_2_code 4 (Option.none : Option Jvm.ClassFile.FieldType) ∈ lw_G := List.mem_filter.mpr ⟨List.mem_of_getElem? (i := 197) (by decide +kernel), by decide +kernel⟩
theorem qw_198 : Cond.methodLink "SkyloadBureau$Dealing" 31 yX0_lineUp ∈ lw_G := List.mem_filter.mpr ⟨List.mem_of_getElem? (i := 198) (by decide +kernel), by decide +kernel⟩
theorem qw_200 : Cond.instanceMethod yX0_lineUp ∈ lw_G := List.mem_filter.mpr ⟨List.mem_of_getElem? (i := 200) (by decide +kernel), by decide +kernel⟩
theorem qw_201 : Cond.code yX0_lineUp prog_2_method_3_code 6 (Option.none : Option Jvm.ClassFile.FieldType) ∈ lw_G := List.mem_filter.mpr ⟨List.mem_of_getElem? (i := 201) (by decide +kernel), by decide +kernel⟩
theorem qw_202 : Cond.methodLink "SkyloadBureau$Dealing" 42 yX2_clear ∈ lw_G := List.mem_filter.mpr ⟨List.mem_of_getElem? (i := 202) (by decide +kernel), by decide +kernel⟩
theorem qw_203 : Cond.instanceMethod yX2_clear ∈ lw_G := List.mem_filter.mpr ⟨List.mem_of_getElem? (i := 203) (by decide +kernel), by decide +kernel⟩
theorem qw_204 : Cond.selects "SkyloadBureau$Line" yX2_clear yX2_clear ∈ lw_G := List.mem_filter.mpr ⟨List.mem_of_getElem? (i := 204) (by decide +kernel), by decide +kernel⟩
theorem qw_205 : Cond.code yX2_clear prog_4_method_2_code 1 (Option.none : Option Jvm.ClassFile.FieldType) ∈ lw_G := List.mem_filter.mpr ⟨List.mem_of_getElem? (i := 205) (by decide +kernel), by decide +kernel⟩
theorem qw_206 : Cond.methodLink "SkyloadBureau$Dealing" 45 yX3_slotCount ∈ lw_G := List.mem_filter.mpr ⟨List.mem_of_getElem? (i := 206) (by decide +kernel), by decide +kernel⟩
theorem qw_207 : Cond.instanceMethod yX3_slotCount ∈ lw_G := List.mem_filter.mpr ⟨List.mem_of_getElem? (i := 207) (by decide +kernel), by decide +kernel⟩
theorem qw_208 : Cond.selects "SkyloadBureau$Regulation" yX3_slotCount yX3_slotCount ∈ lw_G := List.mem_filter.mpr ⟨List.mem_of_getElem? (i := 208) (by decide +kernel), by decide +kernel⟩
theorem qw_209 : Cond.code yX3_slotCount prog_5_method_3_code 1 (some FieldType.int) ∈ lw_G := List.mem_filter.mpr ⟨List.mem_of_getElem? (i := 209) (by decide +kernel), by decide +kernel⟩
theorem qw_210 : Cond.methodLink "SkyloadBureau$Dealing" 54 yJx4a65c_size_8abf5 ∈ lw_G := List.mem_filter.mpr ⟨List.mem_of_getElem? (i := 210) (by decide +kernel), by decide +kernel⟩
theorem qw_211 : Cond.methodLink "SkyloadBureau$Dealing" 59 yJx4a65c_get_915e3 ∈ lw_G := List.mem_filter.mpr ⟨List.mem_of_getElem? (i := 211) (by decide +kernel), by decide +kernel⟩
theorem qw_212 : Cond.classLink "SkyloadBureau$Dealing" 63 "SkyloadBureau$Flight" ∈ lw_G := List.mem_filter.mpr ⟨List.mem_of_getElem? (i := 212) (by decide +kernel), by decide +kernel⟩
theorem qw_213 : Cond.methodLink "SkyloadBureau$Dealing" 68 yX1_lineTime ∈ lw_G := List.mem_filter.mpr ⟨List.mem_of_getElem? (i := 213) (by decide +kernel), by decide +kernel⟩
theorem qw_214 : Cond.instanceMethod yX1_lineTime ∈ lw_G := List.mem_filter.mpr ⟨List.mem_of_getElem? (i := 214) (by decide +kernel), by decide +kernel⟩
theorem qw_215 : Cond.selects "SkyloadBureau$Flight" yX1_lineTime yX1_lineTime ∈ lw_G := List.mem_filter.mpr ⟨List.mem_of_getElem? (i := 215) (by decide +kernel), by decide +kernel⟩
theorem qw_216 : Cond.code yX1_lineTime prog_3_method_13_code 3 (some FieldType.int) ∈ lw_G := List.mem_filter.mpr ⟨List.mem_of_getElem? (i := 216) (by decide +kernel), by decide +kernel⟩
theorem qw_217 : Cond.methodLink "SkyloadBureau$Flight" 60 yX1_behindAt ∈ lw_G := List.mem_filter.mpr ⟨List.mem_of_getElem? (i := 217) (by decide +kernel), by decide +kernel⟩
theorem qw_218 : Cond.instanceMethod yX1_behindAt ∈ lw_G := List.mem_filter.mpr ⟨List.mem_of_getElem? (i := 218) (by decide +kernel), by decide +kernel⟩
theorem qw_219 : Cond.selects "SkyloadBureau$Flight" yX1_behindAt yX1_behindAt ∈ lw_G := List.mem_filter.mpr ⟨List.mem_of_getElem? (i := 219) (by decide +kernel), by decide +kernel⟩
theorem qw_220 : Cond.code yX1_behindAt prog_3_method_4_code 2 (some FieldType.int) ∈ lw_G := List.mem_filter.mpr ⟨List.mem_of_getElem? (i := 220) (by decide +kernel), by decide +kernel⟩
theorem qw_221 : Cond.methodLink "SkyloadBureau$Dealing" 72 yX3_holdsAt ∈ lw_G := List.mem_filter.mpr ⟨List.mem_of_getElem? (i := 221) (by decide +kernel), by decide +kernel⟩
theorem qw_222 : Cond.instanceMethod yX3_holdsAt ∈ lw_G := List.mem_filter.mpr ⟨List.mem_of_getElem? (i := 222) (by decide +kernel), by decide +kernel⟩
theorem qw_223 : Cond.selects "SkyloadBureau$Regulation" yX3_holdsAt yX3_holdsAt ∈ lw_G := List.mem_filter.mpr ⟨List.mem_of_getElem? (i := 223) (by decide +kernel), by decide +kernel⟩
theorem qw_224 : Cond.code yX3_holdsAt prog_5_method_2_code 2 (some FieldType.boolean) ∈ lw_G := List.mem_filter.mpr ⟨List.mem_of_getElem? (i := 224) (by decide +kernel), by decide +kernel⟩
theorem qw_225 : Cond.methodLink "SkyloadBureau$Dealing" 76 yX1_isFixed ∈ lw_G := List.mem_filter.mpr ⟨List.mem_of_getElem? (i := 225) (by decide +kernel), by decide +kernel⟩
theorem qw_226 : Cond.instanceMethod yX1_isFixed ∈ lw_G := List.mem_filter.mpr ⟨List.mem_of_getElem? (i := 226) (by decide +kernel), by decide +kernel⟩
theorem qw_227 : Cond.selects "SkyloadBureau$Flight" yX1_isFixed yX1_isFixed ∈ lw_G := List.mem_filter.mpr ⟨List.mem_of_getElem? (i := 227) (by decide +kernel), by decide +kernel⟩
theorem qw_228 : Cond.code yX1_isFixed prog_3_method_11_code 1 (some FieldType.boolean) ∈ lw_G := List.mem_filter.mpr ⟨List.mem_of_getElem? (i := 228) (by decide +kernel), by decide +kernel⟩
theorem qw_229 : Cond.methodLink "SkyloadBureau$Dealing" 80 yX2_add ∈ lw_G := List.mem_filter.mpr ⟨List.mem_of_getElem? (i := 229) (by decide +kernel), by decide +kernel⟩
theorem qw_230 : Cond.instanceMethod yX2_add ∈ lw_G := List.mem_filter.mpr ⟨List.mem_of_getElem? (i := 230) (by decide +kernel), by decide +kernel⟩
theorem qw_231 : Cond.selects "SkyloadBureau$Line" yX2_add yX2_add ∈ lw_G := List.mem_filter.mpr ⟨List.mem_of_getElem? (i := 231) (by decide +kernel), by decide +kernel⟩
theorem qw_232 : Cond.code yX2_add prog_4_method_3_code 4 (Option.none : Option Jvm.ClassFile.FieldType) ∈ lw_G := List.mem_filter.mpr ⟨List.mem_of_getElem? (i := 232) (by decide +kernel), by decide +kernel⟩
theorem qw_233 : Cond.methodLink "SkyloadBureau$Dealing" 84 yX1_isListed ∈ lw_G := List.mem_filter.mpr ⟨List.mem_of_getElem? (i := 233) (by decide +kernel), by decide +kernel⟩
theorem qw_234 : Cond.instanceMethod yX1_isListed ∈ lw_G := List.mem_filter.mpr ⟨List.mem_of_getElem? (i := 234) (by decide +kernel), by decide +kernel⟩
theorem qw_235 : Cond.selects "SkyloadBureau$Flight" yX1_isListed yX1_isListed ∈ lw_G := List.mem_filter.mpr ⟨List.mem_of_getElem? (i := 235) (by decide +kernel), by decide +kernel⟩
theorem qw_236 : Cond.code yX1_isListed prog_3_method_12_code 1 (some FieldType.boolean) ∈ lw_G := List.mem_filter.mpr ⟨List.mem_of_getElem? (i := 236) (by decide +kernel), by decide +kernel⟩
theorem qw_237 : Cond.methodLink "SkyloadBureau$Dealing" 35 yX0_serve ∈ lw_G := List.mem_filter.mpr ⟨List.mem_of_getElem? (i := 237) (by decide +kernel), by decide +kernel⟩
theorem qw_239 : Cond.instanceMethod yX0_serve ∈ lw_G := List.mem_filter.mpr ⟨List.mem_of_getElem? (i := 239) (by decide +kernel), by decide +kernel⟩
theorem qw_240 : Cond.code yX0_serve prog_2_method_4_code 7 (some FieldType.int) ∈ lw_G := List.mem_filter.mpr ⟨List.mem_of_getElem? (i := 240) (by decide +kernel), by decide +kernel⟩
theorem qw_241 : Cond.methodLink "SkyloadBureau$Dealing" 87 yX2_timeAt ∈ lw_G := List.mem_filter.mpr ⟨List.mem_of_getElem? (i := 241) (by decide +kernel), by decide +kernel⟩
theorem qw_242 : Cond.instanceMethod yX2_timeAt ∈ lw_G := List.mem_filter.mpr ⟨List.mem_of_getElem? (i := 242) (by decide +kernel), by decide +kernel⟩
theorem qw_243 : Cond.selects "SkyloadBureau$Line" yX2_timeAt yX2_timeAt ∈ lw_G := List.mem_filter.mpr ⟨List.mem_of_getElem? (i := 243) (by decide +kernel), by decide +kernel⟩
theorem qw_244 : Cond.code yX2_timeAt prog_4_method_5_code 2 (some FieldType.int) ∈ lw_G := List.mem_filter.mpr ⟨List.mem_of_getElem? (i := 244) (by decide +kernel), by decide +kernel⟩
theorem qw_245 : Cond.methodLink "SkyloadBureau$Line" 28 yX2_has ∈ lw_G := List.mem_filter.mpr ⟨List.mem_of_getElem? (i := 245) (by decide +kernel), by decide +kernel⟩
theorem qw_246 : Cond.instanceMethod yX2_has ∈ lw_G := List.mem_filter.mpr ⟨List.mem_of_getElem? (i := 246) (by decide +kernel), by decide +kernel⟩
theorem qw_247 : Cond.selects "SkyloadBureau$Line" yX2_has yX2_has ∈ lw_G := List.mem_filter.mpr ⟨List.mem_of_getElem? (i := 247) (by decide +kernel), by decide +kernel⟩
theorem qw_248 : Cond.code yX2_has prog_4_method_4_code 2 (some FieldType.boolean) ∈ lw_G := List.mem_filter.mpr ⟨List.mem_of_getElem? (i := 248) (by decide +kernel), by decide +kernel⟩
theorem qw_249 : Cond.methodLink "SkyloadBureau$Dealing" 90 yX3_slotEnd ∈ lw_G := List.mem_filter.mpr ⟨List.mem_of_getElem? (i := 249) (by decide +kernel), by decide +kernel⟩
theorem qw_250 : Cond.instanceMethod yX3_slotEnd ∈ lw_G := List.mem_filter.mpr ⟨List.mem_of_getElem? (i := 250) (by decide +kernel), by decide +kernel⟩
theorem qw_251 : Cond.selects "SkyloadBureau$Regulation" yX3_slotEnd yX3_slotEnd ∈ lw_G := List.mem_filter.mpr ⟨List.mem_of_getElem? (i := 251) (by decide +kernel), by decide +kernel⟩
theorem qw_252 : Cond.code yX3_slotEnd prog_5_method_5_code 2 (some FieldType.int) ∈ lw_G := List.mem_filter.mpr ⟨List.mem_of_getElem? (i := 252) (by decide +kernel), by decide +kernel⟩
theorem qw_253 : Cond.methodLink "SkyloadBureau$Regulation" 28 yX3_slotBegin ∈ lw_G := List.mem_filter.mpr ⟨List.mem_of_getElem? (i := 253) (by decide +kernel), by decide +kernel⟩
theorem qw_254 : Cond.instanceMethod yX3_slotBegin ∈ lw_G := List.mem_filter.mpr ⟨List.mem_of_getElem? (i := 254) (by decide +kernel), by decide +kernel⟩
theorem qw_255 : Cond.selects "SkyloadBureau$Regulation" yX3_slotBegin yX3_slotBegin ∈ lw_G := List.mem_filter.mpr ⟨List.mem_of_getElem? (i := 255) (by decide +kernel), by decide +kernel⟩
theorem qw_256 : Cond.code yX3_slotBegin prog_5_method_4_code 2 (some FieldType.int) ∈ lw_G := List.mem_filter.mpr ⟨List.mem_of_getElem? (i := 256) (by decide +kernel), by decide +kernel⟩
theorem qw_257 : Cond.methodLink "SkyloadBureau$Regulation" 32 yJ9_min_7cf53 ∈ lw_G := List.mem_filter.mpr ⟨List.mem_of_getElem? (i := 257) (by decide +kernel), by decide +kernel⟩
theorem qw_258 : Cond.static yJ9_min_7cf53 ∈ lw_G := List.mem_filter.mpr ⟨List.mem_of_getElem? (i := 258) (by decide +kernel), by decide +kernel⟩
theorem qw_259 : Cond.code yJ9_min_7cf53 prog_15_method_69_code 2 (some FieldType.int) ∈ lw_G := List.mem_filter.mpr ⟨List.mem_of_getElem? (i := 259) (by decide +kernel), by decide +kernel⟩
theorem qw_260 : Cond.methodLink "SkyloadBureau$Dealing" 93 yX2_hasGiven ∈ lw_G := List.mem_filter.mpr ⟨List.mem_of_getElem? (i := 260) (by decide +kernel), by decide +kernel⟩
theorem qw_261 : Cond.instanceMethod yX2_hasGiven ∈ lw_G := List.mem_filter.mpr ⟨List.mem_of_getElem? (i := 261) (by decide +kernel), by decide +kernel⟩
theorem qw_262 : Cond.selects "SkyloadBureau$Line" yX2_hasGiven yX2_hasGiven ∈ lw_G := List.mem_filter.mpr ⟨List.mem_of_getElem? (i := 262) (by decide +kernel), by decide +kernel⟩
theorem qw_263 : Cond.code yX2_hasGiven prog_4_method_7_code 3 (some FieldType.boolean) ∈ lw_G := List.mem_filter.mpr ⟨List.mem_of_getElem? (i := 263) (by decide +kernel), by decide +kernel⟩
theorem qw_264 : Cond.methodLink "SkyloadBureau$Dealing" 96 yX3_slotBegin ∈ lw_G := List.mem_filter.mpr ⟨List.mem_of_getElem? (i := 264) (by decide +kernel), by decide +kernel⟩
theorem qw_265 : Cond.methodLink "SkyloadBureau$Dealing" 99 yJ9_max_7cf53 ∈ lw_G := List.mem_filter.mpr ⟨List.mem_of_getElem? (i := 265) (by decide +kernel), by decide +kernel⟩
theorem qw_266 : Cond.static yJ9_max_7cf53 ∈ lw_G := List.mem_filter.mpr ⟨List.mem_of_getElem? (i := 266) (by decide +kernel), by decide +kernel⟩
theorem qw_267 : Cond.code yJ9_max_7cf53 prog_15_method_65_code 2 (some FieldType.int) ∈ lw_G := List.mem_filter.mpr ⟨List.mem_of_getElem? (i := 267) (by decide +kernel), by decide +kernel⟩
theorem qw_268 : Cond.methodLink "SkyloadBureau$Dealing" 105 yX2_give ∈ lw_G := List.mem_filter.mpr ⟨List.mem_of_getElem? (i := 268) (by decide +kernel), by decide +kernel⟩
theorem qw_269 : Cond.instanceMethod yX2_give ∈ lw_G := List.mem_filter.mpr ⟨List.mem_of_getElem? (i := 269) (by decide +kernel), by decide +kernel⟩
theorem qw_270 : Cond.selects "SkyloadBureau$Line" yX2_give yX2_give ∈ lw_G := List.mem_filter.mpr ⟨List.mem_of_getElem? (i := 270) (by decide +kernel), by decide +kernel⟩
theorem qw_271 : Cond.code yX2_give prog_4_method_6_code 4 (Option.none : Option Jvm.ClassFile.FieldType) ∈ lw_G := List.mem_filter.mpr ⟨List.mem_of_getElem? (i := 271) (by decide +kernel), by decide +kernel⟩
theorem qw_272 : Cond.methodLink "SkyloadBureau" 198 yX2_penaltyOf ∈ lw_G := List.mem_filter.mpr ⟨List.mem_of_getElem? (i := 272) (by decide +kernel), by decide +kernel⟩
theorem qw_273 : Cond.instanceMethod yX2_penaltyOf ∈ lw_G := List.mem_filter.mpr ⟨List.mem_of_getElem? (i := 273) (by decide +kernel), by decide +kernel⟩
theorem qw_274 : Cond.selects "SkyloadBureau$Line" yX2_penaltyOf yX2_penaltyOf ∈ lw_G := List.mem_filter.mpr ⟨List.mem_of_getElem? (i := 274) (by decide +kernel), by decide +kernel⟩
theorem qw_275 : Cond.code yX2_penaltyOf prog_4_method_9_code 3 (some FieldType.int) ∈ lw_G := List.mem_filter.mpr ⟨List.mem_of_getElem? (i := 275) (by decide +kernel), by decide +kernel⟩
theorem qw_276 : Cond.methodLink "SkyloadBureau$Line" 32 yX2_placeOf ∈ lw_G := List.mem_filter.mpr ⟨List.mem_of_getElem? (i := 276) (by decide +kernel), by decide +kernel⟩
theorem qw_277 : Cond.instanceMethod yX2_placeOf ∈ lw_G := List.mem_filter.mpr ⟨List.mem_of_getElem? (i := 277) (by decide +kernel), by decide +kernel⟩
theorem qw_278 : Cond.selects "SkyloadBureau$Line" yX2_placeOf yX2_placeOf ∈ lw_G := List.mem_filter.mpr ⟨List.mem_of_getElem? (i := 278) (by decide +kernel), by decide +kernel⟩
theorem qw_279 : Cond.code yX2_placeOf prog_4_method_8_code 3 (some FieldType.int) ∈ lw_G := List.mem_filter.mpr ⟨List.mem_of_getElem? (i := 279) (by decide +kernel), by decide +kernel⟩
theorem qw_280 : Cond.methodLink "SkyloadBureau" 273 yX1_reckon ∈ lw_G := List.mem_filter.mpr ⟨List.mem_of_getElem? (i := 280) (by decide +kernel), by decide +kernel⟩
theorem qw_281 : Cond.instanceMethod yX1_reckon ∈ lw_G := List.mem_filter.mpr ⟨List.mem_of_getElem? (i := 281) (by decide +kernel), by decide +kernel⟩
theorem qw_282 : Cond.selects "SkyloadBureau$Flight" yX1_reckon yX1_reckon ∈ lw_G := List.mem_filter.mpr ⟨List.mem_of_getElem? (i := 282) (by decide +kernel), by decide +kernel⟩
theorem qw_283 : Cond.code yX1_reckon prog_3_method_20_code 3 (Option.none : Option Jvm.ClassFile.FieldType) ∈ lw_G := List.mem_filter.mpr ⟨List.mem_of_getElem? (i := 283) (by decide +kernel), by decide +kernel⟩
theorem qw_284 : Cond.methodLink "SkyloadBureau" 211 yX4_sumOfDues ∈ lw_G := List.mem_filter.mpr ⟨List.mem_of_getElem? (i := 284) (by decide +kernel), by decide +kernel⟩
theorem qw_286 : Cond.instanceMethod yX4_sumOfDues ∈ lw_G := List.mem_filter.mpr ⟨List.mem_of_getElem? (i := 286) (by decide +kernel), by decide +kernel⟩
theorem qw_287 : Cond.code yX4_sumOfDues prog_1_method_36_code 3 (some FieldType.int) ∈ lw_G := List.mem_filter.mpr ⟨List.mem_of_getElem? (i := 287) (by decide +kernel), by decide +kernel⟩
theorem qw_288 : Cond.methodLink "SkyloadBureauLaw" 160 yX4_deal ∈ lw_G := List.mem_filter.mpr ⟨List.mem_of_getElem? (i := 288) (by decide +kernel), by decide +kernel⟩
theorem qw_289 : Cond.instanceMethod yX4_deal ∈ lw_G := List.mem_filter.mpr ⟨List.mem_of_getElem? (i := 289) (by decide +kernel), by decide +kernel⟩
theorem qw_290 : Cond.selects "SkyloadBureau" yX4_deal yX4_deal ∈ lw_G := List.mem_filter.mpr ⟨List.mem_of_getElem? (i := 290) (by decide +kernel), by decide +kernel⟩
theorem qw_291 : Cond.code yX4_deal prog_1_method_21_code 5 (some FieldType.int) ∈ lw_G := List.mem_filter.mpr ⟨List.mem_of_getElem? (i := 291) (by decide +kernel), by decide +kernel⟩
theorem qw_292 : Cond.methodLink "SkyloadBureau" 218 yX1_takeReckoned ∈ lw_G := List.mem_filter.mpr ⟨List.mem_of_getElem? (i := 292) (by decide +kernel), by decide +kernel⟩
theorem qw_293 : Cond.instanceMethod yX1_takeReckoned ∈ lw_G := List.mem_filter.mpr ⟨List.mem_of_getElem? (i := 293) (by decide +kernel), by decide +kernel⟩
theorem qw_294 : Cond.selects "SkyloadBureau$Flight" yX1_takeReckoned yX1_takeReckoned ∈ lw_G := List.mem_filter.mpr ⟨List.mem_of_getElem? (i := 294) (by decide +kernel), by decide +kernel⟩
theorem qw_295 : Cond.code yX1_takeReckoned prog_3_method_21_code 3 (Option.none : Option Jvm.ClassFile.FieldType) ∈ lw_G := List.mem_filter.mpr ⟨List.mem_of_getElem? (i := 295) (by decide +kernel), by decide +kernel⟩
theorem qw_296 : Cond.methodLink "SkyloadBureau$Flight" 87 yX1_isListed ∈ lw_G := List.mem_filter.mpr ⟨List.mem_of_getElem? (i := 296) (by decide +kernel), by decide +kernel⟩
theorem qw_297 : Cond.methodLink "SkyloadBureau$Flight" 90 yX1_loseSlotTime ∈ lw_G := List.mem_filter.mpr ⟨List.mem_of_getElem? (i := 297) (by decide +kernel), by decide +kernel⟩
theorem qw_298 : Cond.instanceMethod yX1_loseSlotTime ∈ lw_G := List.mem_filter.mpr ⟨List.mem_of_getElem? (i := 298) (by decide +kernel), by decide +kernel⟩
theorem qw_299 : Cond.selects "SkyloadBureau$Flight" yX1_loseSlotTime yX1_loseSlotTime ∈ lw_G := List.mem_filter.mpr ⟨List.mem_of_getElem? (i := 299) (by decide +kernel), by decide +kernel⟩
theorem qw_300 : Cond.code yX1_loseSlotTime prog_3_method_14_code 1 (Option.none : Option Jvm.ClassFile.FieldType) ∈ lw_G := List.mem_filter.mpr ⟨List.mem_of_getElem? (i := 300) (by decide +kernel), by decide +kernel⟩
theorem qw_301 : Cond.methodLink "SkyloadBureau" 222 yX1_delay ∈ lw_G := List.mem_filter.mpr ⟨List.mem_of_getElem? (i := 301) (by decide +kernel), by decide +kernel⟩
theorem qw_302 : Cond.instanceMethod yX1_delay ∈ lw_G := List.mem_filter.mpr ⟨List.mem_of_getElem? (i := 302) (by decide +kernel), by decide +kernel⟩
theorem qw_303 : Cond.selects "SkyloadBureau$Flight" yX1_delay yX1_delay ∈ lw_G := List.mem_filter.mpr ⟨List.mem_of_getElem? (i := 303) (by decide +kernel), by decide +kernel⟩
theorem qw_304 : Cond.code yX1_delay prog_3_method_15_code 1 (some FieldType.int) ∈ lw_G := List.mem_filter.mpr ⟨List.mem_of_getElem? (i := 304) (by decide +kernel), by decide +kernel⟩
theorem qw_305 : Cond.methodLink "SkyloadBureauLaw" 90 yL_flight ∈ lw_G := List.mem_filter.mpr ⟨List.mem_of_getElem? (i := 305) (by decide +kernel), by decide +kernel⟩
theorem qw_306 : Cond.static yL_flight ∈ lw_G := List.mem_filter.mpr ⟨List.mem_of_getElem? (i := 306) (by decide +kernel), by decide +kernel⟩
theorem qw_307 : Cond.codeWith yL_flight method_3_code 5 (some FieldType.int) [(0, 10, 13, 13), (0, 10, 17, 15), (0, 10, 21, 17)] ∈ lw_G := List.mem_filter.mpr ⟨List.mem_of_getElem? (i := 307) (by decide +kernel), by decide +kernel⟩
theorem qw_308 : Cond.classLink "SkyloadBureauLaw" 13 "java/lang/IndexOutOfBoundsException" ∈ lw_G := List.mem_filter.mpr ⟨List.mem_of_getElem? (i := 308) (by decide +kernel), by decide +kernel⟩
theorem qw_309 : Cond.classLink "SkyloadBureauLaw" 15 "java/lang/IllegalArgumentException" ∈ lw_G := List.mem_filter.mpr ⟨List.mem_of_getElem? (i := 309) (by decide +kernel), by decide +kernel⟩
theorem qw_310 : Cond.classLink "SkyloadBureauLaw" 17 "java/lang/IllegalStateException" ∈ lw_G := List.mem_filter.mpr ⟨List.mem_of_getElem? (i := 310) (by decide +kernel), by decide +kernel⟩
theorem qw_311 : Cond.methodLink "SkyloadBureauLaw" 7 yX4_flight ∈ lw_G := List.mem_filter.mpr ⟨List.mem_of_getElem? (i := 311) (by decide +kernel), by decide +kernel⟩
theorem qw_312 : Cond.instanceMethod yX4_flight ∈ lw_G := List.mem_filter.mpr ⟨List.mem_of_getElem? (i := 312) (by decide +kernel), by decide +kernel⟩
theorem qw_313 : Cond.selects "SkyloadBureau" yX4_flight yX4_flight ∈ lw_G := List.mem_filter.mpr ⟨List.mem_of_getElem? (i := 313) (by decide +kernel), by decide +kernel⟩
theorem qw_314 : Cond.code yX4_flight prog_1_method_2_code 3 (some FieldType.int) ∈ lw_G := List.mem_filter.mpr ⟨List.mem_of_getElem? (i := 314) (by decide +kernel), by decide +kernel⟩
theorem qw_315 : Cond.methodLink "SkyloadBureau" 33 yX4_checkCompany ∈ lw_G := List.mem_filter.mpr ⟨List.mem_of_getElem? (i := 315) (by decide +kernel), by decide +kernel⟩
theorem qw_316 : Cond.static yX4_checkCompany ∈ lw_G := List.mem_filter.mpr ⟨List.mem_of_getElem? (i := 316) (by decide +kernel), by decide +kernel⟩
theorem qw_317 : Cond.code yX4_checkCompany prog_1_method_28_code 1 (Option.none : Option Jvm.ClassFile.FieldType) ∈ lw_G := List.mem_filter.mpr ⟨List.mem_of_getElem? (i := 317) (by decide +kernel), by decide +kernel⟩
theorem qw_318 : Cond.classLink "SkyloadBureau" 188 "java/lang/IndexOutOfBoundsException" ∈ lw_G := List.mem_filter.mpr ⟨List.mem_of_getElem? (i := 318) (by decide +kernel), by decide +kernel⟩
theorem qw_319 : Cond.instantiable "java/lang/IndexOutOfBoundsException" 6 ∈ lw_G := List.mem_filter.mpr ⟨List.mem_of_getElem? (i := 319) (by decide +kernel), by decide +kernel⟩
theorem qw_327 : Cond.selects "java/lang/IndexOutOfBoundsException" (⟨"java/lang/Throwable", "fillInStackTrace", "(I)Ljava/lang/Throwable;"⟩ : MethodName) (⟨"java/lang/Throwable", "fillInStackTrace", "(I)Ljava/lang/Throwable;"⟩ : MethodName) ∈ lw_G := List.mem_filter.mpr ⟨List.mem_of_getElem? (i := 327) (by decide +kernel), by decide +kernel⟩
theorem qw_328 : Cond.selects "java/lang/IndexOutOfBoundsException" (⟨"java/lang/Throwable", "fillInStackTrace", "()Ljava/lang/Throwable;"⟩ : MethodName) (⟨"java/lang/Throwable", "fillInStackTrace", "()Ljava/lang/Throwable;"⟩ : MethodName) ∈ lw_G := List.mem_filter.mpr ⟨List.mem_of_getElem? (i := 328) (by decide +kernel), by decide +kernel⟩
theorem qw_329 : Cond.lays "java/lang/IndexOutOfBoundsException" "java/lang/Throwable" "cause" "Ljava/lang/Throwable;" ∈ lw_G := List.mem_filter.mpr ⟨List.mem_of_getElem? (i := 329) (by decide +kernel), by decide +kernel⟩
theorem qw_330 : Cond.lays "java/lang/Throwable" "java/lang/Throwable" "cause" "Ljava/lang/Throwable;" ∈ lw_G := List.mem_filter.mpr ⟨List.mem_of_getElem? (i := 330) (by decide +kernel), by decide +kernel⟩
theorem qw_331 : Cond.lays "java/lang/IndexOutOfBoundsException" "java/lang/Throwable" "stackTrace" "[Ljava/lang/StackTraceElement;" ∈ lw_G := List.mem_filter.mpr ⟨List.mem_of_getElem? (i := 331) (by decide +kernel), by decide +kernel⟩
theorem qw_332 : Cond.lays "java/lang/Throwable" "java/lang/Throwable" "stackTrace" "[Ljava/lang/StackTraceElement;" ∈ lw_G := List.mem_filter.mpr ⟨List.mem_of_getElem? (i := 332) (by decide +kernel), by decide +kernel⟩
theorem qw_333 : Cond.lays "java/lang/IndexOutOfBoundsException" "java/lang/Throwable" "suppressedExceptions" "Ljava/util/List;" ∈ lw_G := List.mem_filter.mpr ⟨List.mem_of_getElem? (i := 333) (by decide +kernel), by decide +kernel⟩
theorem qw_334 : Cond.lays "java/lang/Throwable" "java/lang/Throwable" "suppressedExceptions" "Ljava/util/List;" ∈ lw_G := List.mem_filter.mpr ⟨List.mem_of_getElem? (i := 334) (by decide +kernel), by decide +kernel⟩
theorem qw_335 : Cond.lays "java/lang/IndexOutOfBoundsException" "java/lang/Throwable" "detailMessage" "Ljava/lang/String;" ∈ lw_G := List.mem_filter.mpr ⟨List.mem_of_getElem? (i := 335) (by decide +kernel), by decide +kernel⟩
theorem qw_336 : Cond.lays "java/lang/Throwable" "java/lang/Throwable" "detailMessage" "Ljava/lang/String;" ∈ lw_G := List.mem_filter.mpr ⟨List.mem_of_getElem? (i := 336) (by decide +kernel), by decide +kernel⟩
theorem qw_337 : Cond.lays "java/lang/IndexOutOfBoundsException" "java/lang/Throwable" "backtrace" "Ljava/lang/Object;" ∈ lw_G := List.mem_filter.mpr ⟨List.mem_of_getElem? (i := 337) (by decide +kernel), by decide +kernel⟩
theorem qw_338 : Cond.lays "java/lang/Throwable" "java/lang/Throwable" "backtrace" "Ljava/lang/Object;" ∈ lw_G := List.mem_filter.mpr ⟨List.mem_of_getElem? (i := 338) (by decide +kernel), by decide +kernel⟩
theorem qw_339 : Cond.fieldLink "java/lang/Throwable" 198 "java/lang/Throwable" "backtrace" "Ljava/lang/Object;" ∈ lw_G := List.mem_filter.mpr ⟨List.mem_of_getElem? (i := 339) (by decide +kernel), by decide +kernel⟩
theorem qw_340 : Cond.superclass "java/lang/Throwable" "java/lang/Object" ∈ lw_G := List.mem_filter.mpr ⟨List.mem_of_getElem? (i := 340) (by decide +kernel), by decide +kernel⟩
theorem qw_341 : Cond.instanceMethod (⟨"java/lang/Throwable", "<init>", "()V"⟩ : MethodName) ∈ lw_G := List.mem_filter.mpr ⟨List.mem_of_getElem? (i := 341) (by decide +kernel), by decide +kernel⟩
theorem qw_342 : Cond.code (⟨"java/lang/Throwable", "<init>", "()V"⟩ : MethodName) prog_19_method_1_code 1 (Option.none : Option Jvm.ClassFile.FieldType) ∈ lw_G := List.mem_filter.mpr ⟨List.mem_of_getElem? (i := 342) (by decide +kernel), by decide +kernel⟩
theorem qw_343 : Cond.methodLink "java/lang/Throwable" 1 (⟨"java/lang/Object", "<init>", "()V"⟩ : MethodName) ∈ lw_G := List.mem_filter.mpr ⟨List.mem_of_getElem? (i := 343) (by decide +kernel), by decide +kernel⟩
theorem qw_344 : Cond.fieldLink "java/lang/Throwable" 13 "java/lang/Throwable" "UNASSIGNED_STACK" "[Ljava/lang/StackTraceElement;" ∈ lw_G := List.mem_filter.mpr ⟨List.mem_of_getElem? (i := 344) (by decide +kernel), by decide +kernel⟩
theorem qw_346 : Cond.fieldLink "java/lang/Throwable" 20 "java/lang/Throwable" "SUPPRESSED_SENTINEL" "Ljava/util/List;" ∈ lw_G := List.mem_filter.mpr ⟨List.mem_of_getElem? (i := 346) (by decide +kernel), by decide +kernel⟩
theorem qw_348 : Cond.methodLink "java/lang/Throwable" 27 (⟨"java/lang/Throwable", "fillInStackTrace", "()Ljava/lang/Throwable;"⟩ : MethodName) ∈ lw_G := List.mem_filter.mpr ⟨List.mem_of_getElem? (i := 348) (by decide +kernel), by decide +kernel⟩
theorem qw_349 : Cond.instanceMethod (⟨"java/lang/Throwable", "fillInStackTrace", "()Ljava/lang/Throwable;"⟩ : MethodName) ∈ lw_G := List.mem_filter.mpr ⟨List.mem_of_getElem? (i := 349) (by decide +kernel), by decide +kernel⟩
theorem qw_350 : Cond.sameMethod "java/lang/Throwable" "java/lang/Throwable" "fillInStackTrace" "()Ljava/lang/Throwable;" ∈ lw_G := List.mem_filter.mpr ⟨List.mem_of_getElem? (i := 350) (by decide +kernel), by decide +kernel⟩
theorem qw_351 : Cond.selects "java/lang/IllegalArgumentException" (⟨"java/lang/Throwable", "fillInStackTrace", "()Ljava/lang/Throwable;"⟩ : MethodName) (⟨"java/lang/Throwable", "fillInStackTrace", "()Ljava/lang/Throwable;"⟩ : MethodName) ∈ lw_G := List.mem_filter.mpr ⟨List.mem_of_getElem? (i := 351) (by decide +kernel), by decide +kernel⟩
theorem qw_352 : Cond.selects "java/lang/IllegalStateException" (⟨"java/lang/Throwable", "fillInStackTrace", "()Ljava/lang/Throwable;"⟩ : MethodName) (⟨"java/lang/Throwable", "fillInStackTrace", "()Ljava/lang/Throwable;"⟩ : MethodName) ∈ lw_G := List.mem_filter.mpr ⟨List.mem_of_getElem? (i := 352) (by decide +kernel), by decide +kernel⟩
theorem qw_353 : Cond.codeSync (⟨"java/lang/Throwable", "fillInStackTrace", "()Ljava/lang/Throwable;"⟩ : MethodName) prog_19_method_18_code 1 (some (FieldType.object "java/lang/Throwable")) ∈ lw_G := List.mem_filter.mpr ⟨List.mem_of_getElem? (i := 353) (by decide +kernel), by decide +kernel⟩
theorem qw_354 : Cond.methodLink "java/lang/Throwable" 202 (⟨"java/lang/Throwable", "fillInStackTrace", "(I)Ljava/lang/Throwable;"⟩ : MethodName) ∈ lw_G := List.mem_filter.mpr ⟨List.mem_of_getElem? (i := 354) (by decide +kernel), by decide +kernel⟩
theorem qw_356 : Cond.instanceMethod (⟨"java/lang/Throwable", "fillInStackTrace", "(I)Ljava/lang/Throwable;"⟩ : MethodName) ∈ lw_G := List.mem_filter.mpr ⟨List.mem_of_getElem? (i := 356) (by decide +kernel), by decide +kernel⟩
theorem qw_357 : Cond.instantiable "java/lang/Throwable" 6 ∈ lw_G := List.mem_filter.mpr ⟨List.mem_of_getElem? (i := 357) (by decide +kernel), by decide +kernel⟩
theorem qw_358 : Cond.native (⟨"java/lang/Throwable", "fillInStackTrace", "(I)Ljava/lang/Throwable;"⟩ : MethodName) ∈ lw_G := List.mem_filter.mpr ⟨List.mem_of_getElem? (i := 358) (by decide +kernel), by decide +kernel⟩
theorem qw_360 : Cond.methodLink "SkyloadBureau" 192 (⟨"java/lang/IndexOutOfBoundsException", "<init>", "(Ljava/lang/String;)V"⟩ : MethodName) ∈ lw_G := List.mem_filter.mpr ⟨List.mem_of_getElem? (i := 360) (by decide +kernel), by decide +kernel⟩
theorem qw_361 : Cond.instanceMethod (⟨"java/lang/IndexOutOfBoundsException", "<init>", "(Ljava/lang/String;)V"⟩ : MethodName) ∈ lw_G := List.mem_filter.mpr ⟨List.mem_of_getElem? (i := 361) (by decide +kernel), by decide +kernel⟩
theorem qw_362 : Cond.code (⟨"java/lang/IndexOutOfBoundsException", "<init>", "(Ljava/lang/String;)V"⟩ : MethodName) prog_13_method_2_code 2 (Option.none : Option Jvm.ClassFile.FieldType) ∈ lw_G := List.mem_filter.mpr ⟨List.mem_of_getElem? (i := 362) (by decide +kernel), by decide +kernel⟩
theorem qw_363 : Cond.methodLink "java/lang/IndexOutOfBoundsException" 7 (⟨"java/lang/RuntimeException", "<init>", "(Ljava/lang/String;)V"⟩ : MethodName) ∈ lw_G := List.mem_filter.mpr ⟨List.mem_of_getElem? (i := 363) (by decide +kernel), by decide +kernel⟩
theorem qw_364 : Cond.instanceMethod (⟨"java/lang/RuntimeException", "<init>", "(Ljava/lang/String;)V"⟩ : MethodName) ∈ lw_G := List.mem_filter.mpr ⟨List.mem_of_getElem? (i := 364) (by decide +kernel), by decide +kernel⟩
theorem qw_365 : Cond.code (⟨"java/lang/RuntimeException", "<init>", "(Ljava/lang/String;)V"⟩ : MethodName) prog_16_method_2_code 2 (Option.none : Option Jvm.ClassFile.FieldType) ∈ lw_G := List.mem_filter.mpr ⟨List.mem_of_getElem? (i := 365) (by decide +kernel), by decide +kernel⟩
theorem qw_366 : Cond.methodLink "java/lang/RuntimeException" 7 (⟨"java/lang/Exception", "<init>", "(Ljava/lang/String;)V"⟩ : MethodName) ∈ lw_G := List.mem_filter.mpr ⟨List.mem_of_getElem? (i := 366) (by decide +kernel), by decide +kernel⟩
theorem qw_367 : Cond.instanceMethod (⟨"java/lang/Exception", "<init>", "(Ljava/lang/String;)V"⟩ : MethodName) ∈ lw_G := List.mem_filter.mpr ⟨List.mem_of_getElem? (i := 367) (by decide +kernel), by decide +kernel⟩
theorem qw_368 : Cond.code (⟨"java/lang/Exception", "<init>", "(Ljava/lang/String;)V"⟩ : MethodName) prog_10_method_2_code 2 (Option.none : Option Jvm.ClassFile.FieldType) ∈ lw_G := List.mem_filter.mpr ⟨List.mem_of_getElem? (i := 368) (by decide +kernel), by decide +kernel⟩
theorem qw_369 : Cond.methodLink "java/lang/Exception" 7 (⟨"java/lang/Throwable", "<init>", "(Ljava/lang/String;)V"⟩ : MethodName) ∈ lw_G := List.mem_filter.mpr ⟨List.mem_of_getElem? (i := 369) (by decide +kernel), by decide +kernel⟩
theorem qw_370 : Cond.instanceMethod (⟨"java/lang/Throwable", "<init>", "(Ljava/lang/String;)V"⟩ : MethodName) ∈ lw_G := List.mem_filter.mpr ⟨List.mem_of_getElem? (i := 370) (by decide +kernel), by decide +kernel⟩
theorem qw_371 : Cond.code (⟨"java/lang/Throwable", "<init>", "(Ljava/lang/String;)V"⟩ : MethodName) prog_19_method_2_code 2 (Option.none : Option Jvm.ClassFile.FieldType) ∈ lw_G := List.mem_filter.mpr ⟨List.mem_of_getElem? (i := 371) (by decide +kernel), by decide +kernel⟩
theorem qw_373 : Cond.fieldLink "java/lang/Throwable" 31 "java/lang/Throwable" "detailMessage" "Ljava/lang/String;" ∈ lw_G := List.mem_filter.mpr ⟨List.mem_of_getElem? (i := 373) (by decide +kernel), by decide +kernel⟩
theorem qw_374 : Cond.fieldLink "java/lang/Throwable" 7 "java/lang/Throwable" "cause" "Ljava/lang/Throwable;" ∈ lw_G := List.mem_filter.mpr ⟨List.mem_of_getElem? (i := 374) (by decide +kernel), by decide +kernel⟩
theorem qw_375 : Cond.fieldLink "java/lang/Throwable" 17 "java/lang/Throwable" "stackTrace" "[Ljava/lang/StackTraceElement;" ∈ lw_G := List.mem_filter.mpr ⟨List.mem_of_getElem? (i := 375) (by decide +kernel), by decide +kernel⟩
theorem qw_376 : Cond.fieldLink "java/lang/Throwable" 24 "java/lang/Throwable" "suppressedExceptions" "Ljava/util/List;" ∈ lw_G := List.mem_filter.mpr ⟨List.mem_of_getElem? (i := 376) (by decide +kernel), by decide +kernel⟩
theorem qw_381 : Cond.lays "java/lang/IndexOutOfBoundsException" "java/lang/Throwable" "depth" "I" ∈ lw_G := List.mem_filter.mpr ⟨List.mem_of_getElem? (i := 381) (by decide +kernel), by decide +kernel⟩
theorem qw_384 : Cond.superclass "java/lang/IndexOutOfBoundsException" "java/lang/RuntimeException" ∈ lw_G := List.mem_filter.mpr ⟨List.mem_of_getElem? (i := 384) (by decide +kernel), by decide +kernel⟩
theorem qw_385 : Cond.arrayClass FieldType.byte ∈ lw_G := List.mem_filter.mpr ⟨List.mem_of_getElem? (i := 385) (by decide +kernel), by decide +kernel⟩
theorem qw_386 : Cond.methodLink "SkyloadBureau" 37 yX4_checkRange ∈ lw_G := List.mem_filter.mpr ⟨List.mem_of_getElem? (i := 386) (by decide +kernel), by decide +kernel⟩
theorem qw_387 : Cond.static yX4_checkRange ∈ lw_G := List.mem_filter.mpr ⟨List.mem_of_getElem? (i := 387) (by decide +kernel), by decide +kernel⟩
theorem qw_388 : Cond.code yX4_checkRange prog_1_method_29_code 3 (Option.none : Option Jvm.ClassFile.FieldType) ∈ lw_G := List.mem_filter.mpr ⟨List.mem_of_getElem? (i := 388) (by decide +kernel), by decide +kernel⟩
theorem qw_389 : Cond.classLink "SkyloadBureau" 225 "java/lang/IllegalArgumentException" ∈ lw_G := List.mem_filter.mpr ⟨List.mem_of_getElem? (i := 389) (by decide +kernel), by decide +kernel⟩
theorem qw_390 : Cond.instantiable "java/lang/IllegalArgumentException" 6 ∈ lw_G := List.mem_filter.mpr ⟨List.mem_of_getElem? (i := 390) (by decide +kernel), by decide +kernel⟩
theorem qw_392 : Cond.selects "java/lang/IllegalArgumentException" (⟨"java/lang/Throwable", "fillInStackTrace", "(I)Ljava/lang/Throwable;"⟩ : MethodName) (⟨"java/lang/Throwable", "fillInStackTrace", "(I)Ljava/lang/Throwable;"⟩ : MethodName) ∈ lw_G := List.mem_filter.mpr ⟨List.mem_of_getElem? (i := 392) (by decide +kernel), by decide +kernel⟩
theorem qw_393 : Cond.lays "java/lang/IllegalArgumentException" "java/lang/Throwable" "cause" "Ljava/lang/Throwable;" ∈ lw_G := List.mem_filter.mpr ⟨List.mem_of_getElem? (i := 393) (by decide +kernel), by decide +kernel⟩
theorem qw_394 : Cond.lays "java/lang/IllegalArgumentException" "java/lang/Throwable" "stackTrace" "[Ljava/lang/StackTraceElement;" ∈ lw_G := List.mem_filter.mpr ⟨List.mem_of_getElem? (i := 394) (by decide +kernel), by decide +kernel⟩
theorem qw_395 : Cond.lays "java/lang/IllegalArgumentException" "java/lang/Throwable" "suppressedExceptions" "Ljava/util/List;" ∈ lw_G := List.mem_filter.mpr ⟨List.mem_of_getElem? (i := 395) (by decide +kernel), by decide +kernel⟩
theorem qw_396 : Cond.lays "java/lang/IllegalArgumentException" "java/lang/Throwable" "detailMessage" "Ljava/lang/String;" ∈ lw_G := List.mem_filter.mpr ⟨List.mem_of_getElem? (i := 396) (by decide +kernel), by decide +kernel⟩
theorem qw_397 : Cond.lays "java/lang/IllegalArgumentException" "java/lang/Throwable" "backtrace" "Ljava/lang/Object;" ∈ lw_G := List.mem_filter.mpr ⟨List.mem_of_getElem? (i := 397) (by decide +kernel), by decide +kernel⟩
theorem qw_399 : Cond.methodLink "SkyloadBureau" 229 (⟨"java/lang/IllegalArgumentException", "<init>", "(Ljava/lang/String;)V"⟩ : MethodName) ∈ lw_G := List.mem_filter.mpr ⟨List.mem_of_getElem? (i := 399) (by decide +kernel), by decide +kernel⟩
theorem qw_400 : Cond.instanceMethod (⟨"java/lang/IllegalArgumentException", "<init>", "(Ljava/lang/String;)V"⟩ : MethodName) ∈ lw_G := List.mem_filter.mpr ⟨List.mem_of_getElem? (i := 400) (by decide +kernel), by decide +kernel⟩
theorem qw_401 : Cond.code (⟨"java/lang/IllegalArgumentException", "<init>", "(Ljava/lang/String;)V"⟩ : MethodName) prog_11_method_2_code 2 (Option.none : Option Jvm.ClassFile.FieldType) ∈ lw_G := List.mem_filter.mpr ⟨List.mem_of_getElem? (i := 401) (by decide +kernel), by decide +kernel⟩
theorem qw_402 : Cond.methodLink "java/lang/IllegalArgumentException" 7 (⟨"java/lang/RuntimeException", "<init>", "(Ljava/lang/String;)V"⟩ : MethodName) ∈ lw_G := List.mem_filter.mpr ⟨List.mem_of_getElem? (i := 402) (by decide +kernel), by decide +kernel⟩
theorem qw_403 : Cond.lays "java/lang/IllegalArgumentException" "java/lang/Throwable" "depth" "I" ∈ lw_G := List.mem_filter.mpr ⟨List.mem_of_getElem? (i := 403) (by decide +kernel), by decide +kernel⟩
theorem qw_404 : Cond.superclass "java/lang/IllegalArgumentException" "java/lang/RuntimeException" ∈ lw_G := List.mem_filter.mpr ⟨List.mem_of_getElem? (i := 404) (by decide +kernel), by decide +kernel⟩
theorem qw_405 : Cond.classLink "SkyloadBureau" 45 "java/lang/IllegalStateException" ∈ lw_G := List.mem_filter.mpr ⟨List.mem_of_getElem? (i := 405) (by decide +kernel), by decide +kernel⟩
theorem qw_406 : Cond.instantiable "java/lang/IllegalStateException" 6 ∈ lw_G := List.mem_filter.mpr ⟨List.mem_of_getElem? (i := 406) (by decide +kernel), by decide +kernel⟩
theorem qw_408 : Cond.selects "java/lang/IllegalStateException" (⟨"java/lang/Throwable", "fillInStackTrace", "(I)Ljava/lang/Throwable;"⟩ : MethodName) (⟨"java/lang/Throwable", "fillInStackTrace", "(I)Ljava/lang/Throwable;"⟩ : MethodName) ∈ lw_G := List.mem_filter.mpr ⟨List.mem_of_getElem? (i := 408) (by decide +kernel), by decide +kernel⟩
theorem qw_409 : Cond.lays "java/lang/IllegalStateException" "java/lang/Throwable" "cause" "Ljava/lang/Throwable;" ∈ lw_G := List.mem_filter.mpr ⟨List.mem_of_getElem? (i := 409) (by decide +kernel), by decide +kernel⟩
theorem qw_410 : Cond.lays "java/lang/IllegalStateException" "java/lang/Throwable" "stackTrace" "[Ljava/lang/StackTraceElement;" ∈ lw_G := List.mem_filter.mpr ⟨List.mem_of_getElem? (i := 410) (by decide +kernel), by decide +kernel⟩
theorem qw_411 : Cond.lays "java/lang/IllegalStateException" "java/lang/Throwable" "suppressedExceptions" "Ljava/util/List;" ∈ lw_G := List.mem_filter.mpr ⟨List.mem_of_getElem? (i := 411) (by decide +kernel), by decide +kernel⟩
theorem qw_412 : Cond.lays "java/lang/IllegalStateException" "java/lang/Throwable" "detailMessage" "Ljava/lang/String;" ∈ lw_G := List.mem_filter.mpr ⟨List.mem_of_getElem? (i := 412) (by decide +kernel), by decide +kernel⟩
theorem qw_413 : Cond.lays "java/lang/IllegalStateException" "java/lang/Throwable" "backtrace" "Ljava/lang/Object;" ∈ lw_G := List.mem_filter.mpr ⟨List.mem_of_getElem? (i := 413) (by decide +kernel), by decide +kernel⟩
theorem qw_415 : Cond.methodLink "SkyloadBureau" 49 (⟨"java/lang/IllegalStateException", "<init>", "(Ljava/lang/String;)V"⟩ : MethodName) ∈ lw_G := List.mem_filter.mpr ⟨List.mem_of_getElem? (i := 415) (by decide +kernel), by decide +kernel⟩
theorem qw_416 : Cond.instanceMethod (⟨"java/lang/IllegalStateException", "<init>", "(Ljava/lang/String;)V"⟩ : MethodName) ∈ lw_G := List.mem_filter.mpr ⟨List.mem_of_getElem? (i := 416) (by decide +kernel), by decide +kernel⟩
theorem qw_417 : Cond.code (⟨"java/lang/IllegalStateException", "<init>", "(Ljava/lang/String;)V"⟩ : MethodName) prog_12_method_2_code 2 (Option.none : Option Jvm.ClassFile.FieldType) ∈ lw_G := List.mem_filter.mpr ⟨List.mem_of_getElem? (i := 417) (by decide +kernel), by decide +kernel⟩
theorem qw_418 : Cond.methodLink "java/lang/IllegalStateException" 7 (⟨"java/lang/RuntimeException", "<init>", "(Ljava/lang/String;)V"⟩ : MethodName) ∈ lw_G := List.mem_filter.mpr ⟨List.mem_of_getElem? (i := 418) (by decide +kernel), by decide +kernel⟩
theorem qw_419 : Cond.lays "java/lang/IllegalStateException" "java/lang/Throwable" "depth" "I" ∈ lw_G := List.mem_filter.mpr ⟨List.mem_of_getElem? (i := 419) (by decide +kernel), by decide +kernel⟩
theorem qw_420 : Cond.superclass "java/lang/IllegalStateException" "java/lang/RuntimeException" ∈ lw_G := List.mem_filter.mpr ⟨List.mem_of_getElem? (i := 420) (by decide +kernel), by decide +kernel⟩
theorem qw_421 : Cond.instantiable "SkyloadBureau$Flight" 14 ∈ lw_G := List.mem_filter.mpr ⟨List.mem_of_getElem? (i := 421) (by decide +kernel), by decide +kernel⟩
theorem qw_422 : Cond.methodLink "SkyloadBureau" 54 yX1_init ∈ lw_G := List.mem_filter.mpr ⟨List.mem_of_getElem? (i := 422) (by decide +kernel), by decide +kernel⟩
theorem qw_423 : Cond.instanceMethod yX1_init ∈ lw_G := List.mem_filter.mpr ⟨List.mem_of_getElem? (i := 423) (by decide +kernel), by decide +kernel⟩
theorem qw_424 : Cond.code yX1_init prog_3_method_1_code 4 (Option.none : Option Jvm.ClassFile.FieldType) ∈ lw_G := List.mem_filter.mpr ⟨List.mem_of_getElem? (i := 424) (by decide +kernel), by decide +kernel⟩
theorem qw_425 : Cond.methodLink "SkyloadBureau$Flight" 3 (⟨"java/lang/Object", "<init>", "()V"⟩ : MethodName) ∈ lw_G := List.mem_filter.mpr ⟨List.mem_of_getElem? (i := 425) (by decide +kernel), by decide +kernel⟩
theorem qw_426 : Cond.fieldLink "SkyloadBureau$Flight" 50 "SkyloadBureau$Flight" "company" "I" ∈ lw_G := List.mem_filter.mpr ⟨List.mem_of_getElem? (i := 426) (by decide +kernel), by decide +kernel⟩
theorem qw_427 : Cond.fieldLink "SkyloadBureau" 247 "SkyloadBureau$Flight" "company" "I" ∈ lw_G := List.mem_filter.mpr ⟨List.mem_of_getElem? (i := 427) (by decide +kernel), by decide +kernel⟩
theorem qw_428 : Cond.fieldLink "SkyloadBureau$Flight" 53 "SkyloadBureau$Flight" "planned" "I" ∈ lw_G := List.mem_filter.mpr ⟨List.mem_of_getElem? (i := 428) (by decide +kernel), by decide +kernel⟩
theorem qw_429 : Cond.fieldLink "SkyloadBureau" 93 "SkyloadBureau$Flight" "planned" "I" ∈ lw_G := List.mem_filter.mpr ⟨List.mem_of_getElem? (i := 429) (by decide +kernel), by decide +kernel⟩
theorem qw_430 : Cond.fieldLink "SkyloadBureau$Flight" 9 "SkyloadBureau$Flight" "state" "I" ∈ lw_G := List.mem_filter.mpr ⟨List.mem_of_getElem? (i := 430) (by decide +kernel), by decide +kernel⟩
theorem qw_431 : Cond.fieldLink "SkyloadBureau" 81 "SkyloadBureau$Flight" "state" "I" ∈ lw_G := List.mem_filter.mpr ⟨List.mem_of_getElem? (i := 431) (by decide +kernel), by decide +kernel⟩
theorem qw_432 : Cond.fieldLink "SkyloadBureau$Flight" 15 "SkyloadBureau$Flight" "isExempt" "Z" ∈ lw_G := List.mem_filter.mpr ⟨List.mem_of_getElem? (i := 432) (by decide +kernel), by decide +kernel⟩
theorem qw_433 : Cond.fieldLink "SkyloadBureau" 86 "SkyloadBureau$Flight" "isExempt" "Z" ∈ lw_G := List.mem_filter.mpr ⟨List.mem_of_getElem? (i := 433) (by decide +kernel), by decide +kernel⟩
theorem qw_434 : Cond.fieldLink "SkyloadBureau$Flight" 19 "SkyloadBureau$Flight" "slotTime" "I" ∈ lw_G := List.mem_filter.mpr ⟨List.mem_of_getElem? (i := 434) (by decide +kernel), by decide +kernel⟩
theorem qw_435 : Cond.fieldLink "SkyloadBureau" 96 "SkyloadBureau$Flight" "slotTime" "I" ∈ lw_G := List.mem_filter.mpr ⟨List.mem_of_getElem? (i := 435) (by decide +kernel), by decide +kernel⟩
theorem qw_436 : Cond.fieldLink "SkyloadBureau$Flight" 22 "SkyloadBureau$Flight" "ruling" "I" ∈ lw_G := List.mem_filter.mpr ⟨List.mem_of_getElem? (i := 436) (by decide +kernel), by decide +kernel⟩
theorem qw_437 : Cond.fieldLink "SkyloadBureau" 99 "SkyloadBureau$Flight" "ruling" "I" ∈ lw_G := List.mem_filter.mpr ⟨List.mem_of_getElem? (i := 437) (by decide +kernel), by decide +kernel⟩
theorem qw_438 : Cond.fieldLink "SkyloadBureau$Flight" 25 "SkyloadBureau$Flight" "wentAt" "I" ∈ lw_G := List.mem_filter.mpr ⟨List.mem_of_getElem? (i := 438) (by decide +kernel), by decide +kernel⟩
theorem qw_439 : Cond.fieldLink "SkyloadBureau$Flight" 28 "SkyloadBureau$Flight" "latestMessage" "I" ∈ lw_G := List.mem_filter.mpr ⟨List.mem_of_getElem? (i := 439) (by decide +kernel), by decide +kernel⟩
theorem qw_440 : Cond.fieldLink "SkyloadBureau" 105 "SkyloadBureau$Flight" "latestMessage" "I" ∈ lw_G := List.mem_filter.mpr ⟨List.mem_of_getElem? (i := 440) (by decide +kernel), by decide +kernel⟩
theorem qw_441 : Cond.fieldLink "SkyloadBureau$Flight" 31 "SkyloadBureau$Flight" "entryCount" "I" ∈ lw_G := List.mem_filter.mpr ⟨List.mem_of_getElem? (i := 441) (by decide +kernel), by decide +kernel⟩
theorem qw_442 : Cond.fieldLink "SkyloadBureau" 77 "SkyloadBureau$Flight" "entryCount" "I" ∈ lw_G := List.mem_filter.mpr ⟨List.mem_of_getElem? (i := 442) (by decide +kernel), by decide +kernel⟩
theorem qw_443 : Cond.fieldLink "SkyloadBureau$Flight" 34 "SkyloadBureau$Flight" "latestBehind" "I" ∈ lw_G := List.mem_filter.mpr ⟨List.mem_of_getElem? (i := 443) (by decide +kernel), by decide +kernel⟩
theorem qw_444 : Cond.fieldLink "SkyloadBureau$Flight" 37 "SkyloadBureau$Flight" "behinds" "[I" ∈ lw_G := List.mem_filter.mpr ⟨List.mem_of_getElem? (i := 444) (by decide +kernel), by decide +kernel⟩
theorem qw_445 : Cond.fieldLink "SkyloadBureau$Flight" 41 "SkyloadBureau$Flight" "stays" "[I" ∈ lw_G := List.mem_filter.mpr ⟨List.mem_of_getElem? (i := 445) (by decide +kernel), by decide +kernel⟩
theorem qw_446 : Cond.fieldLink "SkyloadBureau$Flight" 44 "SkyloadBureau$Flight" "reckonedDue" "I" ∈ lw_G := List.mem_filter.mpr ⟨List.mem_of_getElem? (i := 446) (by decide +kernel), by decide +kernel⟩
theorem qw_447 : Cond.fieldLink "SkyloadBureau" 204 "SkyloadBureau$Flight" "reckonedDue" "I" ∈ lw_G := List.mem_filter.mpr ⟨List.mem_of_getElem? (i := 447) (by decide +kernel), by decide +kernel⟩
theorem qw_448 : Cond.fieldLink "SkyloadBureau$Flight" 47 "SkyloadBureau$Flight" "reckonedRuling" "I" ∈ lw_G := List.mem_filter.mpr ⟨List.mem_of_getElem? (i := 448) (by decide +kernel), by decide +kernel⟩
theorem qw_449 : Cond.laysFinal "SkyloadBureau$Flight" "SkyloadBureau$Flight" "company" "I" ∈ lw_G := List.mem_filter.mpr ⟨List.mem_of_getElem? (i := 449) (by decide +kernel), by decide +kernel⟩
theorem qw_451 : Cond.lays "SkyloadBureau$Flight" "SkyloadBureau$Flight" "planned" "I" ∈ lw_G := List.mem_filter.mpr ⟨List.mem_of_getElem? (i := 451) (by decide +kernel), by decide +kernel⟩
theorem qw_453 : Cond.lays "SkyloadBureau$Flight" "SkyloadBureau$Flight" "state" "I" ∈ lw_G := List.mem_filter.mpr ⟨List.mem_of_getElem? (i := 453) (by decide +kernel), by decide +kernel⟩
theorem qw_455 : Cond.lays "SkyloadBureau$Flight" "SkyloadBureau$Flight" "isExempt" "Z" ∈ lw_G := List.mem_filter.mpr ⟨List.mem_of_getElem? (i := 455) (by decide +kernel), by decide +kernel⟩
theorem qw_457 : Cond.lays "SkyloadBureau$Flight" "SkyloadBureau$Flight" "slotTime" "I" ∈ lw_G := List.mem_filter.mpr ⟨List.mem_of_getElem? (i := 457) (by decide +kernel), by decide +kernel⟩
theorem qw_459 : Cond.lays "SkyloadBureau$Flight" "SkyloadBureau$Flight" "ruling" "I" ∈ lw_G := List.mem_filter.mpr ⟨List.mem_of_getElem? (i := 459) (by decide +kernel), by decide +kernel⟩
theorem qw_461 : Cond.lays "SkyloadBureau$Flight" "SkyloadBureau$Flight" "wentAt" "I" ∈ lw_G := List.mem_filter.mpr ⟨List.mem_of_getElem? (i := 461) (by decide +kernel), by decide +kernel⟩
theorem qw_463 : Cond.lays "SkyloadBureau$Flight" "SkyloadBureau$Flight" "latestMessage" "I" ∈ lw_G := List.mem_filter.mpr ⟨List.mem_of_getElem? (i := 463) (by decide +kernel), by decide +kernel⟩
theorem qw_465 : Cond.lays "SkyloadBureau$Flight" "SkyloadBureau$Flight" "entryCount" "I" ∈ lw_G := List.mem_filter.mpr ⟨List.mem_of_getElem? (i := 465) (by decide +kernel), by decide +kernel⟩
theorem qw_467 : Cond.lays "SkyloadBureau$Flight" "SkyloadBureau$Flight" "latestBehind" "I" ∈ lw_G := List.mem_filter.mpr ⟨List.mem_of_getElem? (i := 467) (by decide +kernel), by decide +kernel⟩
theorem qw_469 : Cond.laysFinal "SkyloadBureau$Flight" "SkyloadBureau$Flight" "behinds" "[I" ∈ lw_G := List.mem_filter.mpr ⟨List.mem_of_getElem? (i := 469) (by decide +kernel), by decide +kernel⟩
theorem qw_471 : Cond.laysFinal "SkyloadBureau$Flight" "SkyloadBureau$Flight" "stays" "[I" ∈ lw_G := List.mem_filter.mpr ⟨List.mem_of_getElem? (i := 471) (by decide +kernel), by decide +kernel⟩
theorem qw_473 : Cond.lays "SkyloadBureau$Flight" "SkyloadBureau$Flight" "reckonedDue" "I" ∈ lw_G := List.mem_filter.mpr ⟨List.mem_of_getElem? (i := 473) (by decide +kernel), by decide +kernel⟩
theorem qw_475 : Cond.lays "SkyloadBureau$Flight" "SkyloadBureau$Flight" "reckonedRuling" "I" ∈ lw_G := List.mem_filter.mpr ⟨List.mem_of_getElem? (i := 475) (by decide +kernel), by decide +kernel⟩
theorem qw_477 : Cond.superclass "SkyloadBureau$Flight" "java/lang/Object" ∈ lw_G := List.mem_filter.mpr ⟨List.mem_of_getElem? (i := 477) (by decide +kernel), by decide +kernel⟩
theorem qw_478 : Cond.methodLink "SkyloadBureau" 57 yJx4a65c_add_9ea2d ∈ lw_G := List.mem_filter.mpr ⟨List.mem_of_getElem? (i := 478) (by decide +kernel), by decide +kernel⟩
theorem qw_479 : Cond.instanceMethod yJx4a65c_add_9ea2d ∈ lw_G := List.mem_filter.mpr ⟨List.mem_of_getElem? (i := 479) (by decide +kernel), by decide +kernel⟩
theorem qw_480 : Cond.selects "java/util/ArrayList" yJx4a65c_add_9ea2d yJx4a65c_add_9ea2d ∈ lw_G := List.mem_filter.mpr ⟨List.mem_of_getElem? (i := 480) (by decide +kernel), by decide +kernel⟩
theorem qw_481 : Cond.code yJx4a65c_add_9ea2d prog_22_method_25_code 2 (some FieldType.boolean) ∈ lw_G := List.mem_filter.mpr ⟨List.mem_of_getElem? (i := 481) (by decide +kernel), by decide +kernel⟩
theorem qw_482 : Cond.methodLink "java/util/ArrayList" 131 yJx4a65c_add_72be8 ∈ lw_G := List.mem_filter.mpr ⟨List.mem_of_getElem? (i := 482) (by decide +kernel), by decide +kernel⟩
theorem qw_484 : Cond.instanceMethod yJx4a65c_add_72be8 ∈ lw_G := List.mem_filter.mpr ⟨List.mem_of_getElem? (i := 484) (by decide +kernel), by decide +kernel⟩
theorem qw_485 : Cond.code yJx4a65c_add_72be8 prog_22_method_24_code 4 (Option.none : Option Jvm.ClassFile.FieldType) ∈ lw_G := List.mem_filter.mpr ⟨List.mem_of_getElem? (i := 485) (by decide +kernel), by decide +kernel⟩
theorem qw_486 : Cond.methodLink "java/util/ArrayList" 129 yJx4a65c_grow_d5877 ∈ lw_G := List.mem_filter.mpr ⟨List.mem_of_getElem? (i := 486) (by decide +kernel), by decide +kernel⟩
theorem qw_488 : Cond.instanceMethod yJx4a65c_grow_d5877 ∈ lw_G := List.mem_filter.mpr ⟨List.mem_of_getElem? (i := 488) (by decide +kernel), by decide +kernel⟩
theorem qw_489 : Cond.code yJx4a65c_grow_d5877 prog_22_method_7_code 1 (some (FieldType.array (FieldType.object "java/lang/Object"))) ∈ lw_G := List.mem_filter.mpr ⟨List.mem_of_getElem? (i := 489) (by decide +kernel), by decide +kernel⟩
theorem qw_490 : Cond.methodLink "java/util/ArrayList" 69 yJx4a65c_grow_92f84 ∈ lw_G := List.mem_filter.mpr ⟨List.mem_of_getElem? (i := 490) (by decide +kernel), by decide +kernel⟩
theorem qw_492 : Cond.instanceMethod yJx4a65c_grow_92f84 ∈ lw_G := List.mem_filter.mpr ⟨List.mem_of_getElem? (i := 492) (by decide +kernel), by decide +kernel⟩
theorem qw_493 : Cond.code yJx4a65c_grow_92f84 prog_22_method_6_code 4 (some (FieldType.array (FieldType.object "java/lang/Object"))) ∈ lw_G := List.mem_filter.mpr ⟨List.mem_of_getElem? (i := 493) (by decide +kernel), by decide +kernel⟩
theorem qw_494 : Cond.methodLink "java/util/ArrayList" 73 yJ8_newLength_cabcc ∈ lw_G := List.mem_filter.mpr ⟨List.mem_of_getElem? (i := 494) (by decide +kernel), by decide +kernel⟩
theorem qw_495 : Cond.static yJ8_newLength_cabcc ∈ lw_G := List.mem_filter.mpr ⟨List.mem_of_getElem? (i := 495) (by decide +kernel), by decide +kernel⟩
theorem qw_496 : Cond.code yJ8_newLength_cabcc prog_29_method_27_code 4 (some FieldType.int) ∈ lw_G := List.mem_filter.mpr ⟨List.mem_of_getElem? (i := 496) (by decide +kernel), by decide +kernel⟩
theorem qw_497 : Cond.methodLink "jdk/internal/util/ArraysSupport" 194 yJ9_max_7cf53 ∈ lw_G := List.mem_filter.mpr ⟨List.mem_of_getElem? (i := 497) (by decide +kernel), by decide +kernel⟩
theorem qw_498 : Cond.constant "jdk/internal/util/ArraysSupport" 200 (2147483639 : Int32) ∈ lw_G := List.mem_filter.mpr ⟨List.mem_of_getElem? (i := 498) (by decide +kernel), by decide +kernel⟩
theorem qw_499 : Cond.methodLink "jdk/internal/util/ArraysSupport" 201 yJ8_hugeLength_7cf53 ∈ lw_G := List.mem_filter.mpr ⟨List.mem_of_getElem? (i := 499) (by decide +kernel), by decide +kernel⟩
theorem qw_500 : Cond.static yJ8_hugeLength_7cf53 ∈ lw_G := List.mem_filter.mpr ⟨List.mem_of_getElem? (i := 500) (by decide +kernel), by decide +kernel⟩
theorem qw_501 : Cond.code yJ8_hugeLength_7cf53 prog_29_method_28_code 3 (some FieldType.int) ∈ lw_G := List.mem_filter.mpr ⟨List.mem_of_getElem? (i := 501) (by decide +kernel), by decide +kernel⟩
theorem qw_502 : Cond.methodLink "java/util/ArrayList" 66 yJ7_copyOf_1904c ∈ lw_G := List.mem_filter.mpr ⟨List.mem_of_getElem? (i := 502) (by decide +kernel), by decide +kernel⟩
theorem qw_503 : Cond.static yJ7_copyOf_1904c ∈ lw_G := List.mem_filter.mpr ⟨List.mem_of_getElem? (i := 503) (by decide +kernel), by decide +kernel⟩
theorem qw_504 : Cond.code yJ7_copyOf_1904c prog_23_method_119_code 2 (some (FieldType.array (FieldType.object "java/lang/Object"))) ∈ lw_G := List.mem_filter.mpr ⟨List.mem_of_getElem? (i := 504) (by decide +kernel), by decide +kernel⟩
theorem qw_505 : Cond.methodLink "java/util/Arrays" 86 (⟨"java/lang/Object", "getClass", "()Ljava/lang/Class;"⟩ : MethodName) ∈ lw_G := List.mem_filter.mpr ⟨List.mem_of_getElem? (i := 505) (by decide +kernel), by decide +kernel⟩
theorem qw_506 : Cond.instanceMethod (⟨"java/lang/Object", "getClass", "()Ljava/lang/Class;"⟩ : MethodName) ∈ lw_G := List.mem_filter.mpr ⟨List.mem_of_getElem? (i := 506) (by decide +kernel), by decide +kernel⟩
theorem qw_507 : Cond.sameMethod "java/lang/Object" "java/lang/Object" "getClass" "()Ljava/lang/Class;" ∈ lw_G := List.mem_filter.mpr ⟨List.mem_of_getElem? (i := 507) (by decide +kernel), by decide +kernel⟩
theorem qw_508 : Cond.selects "SkyloadBureau" (⟨"java/lang/Object", "getClass", "()Ljava/lang/Class;"⟩ : MethodName) (⟨"java/lang/Object", "getClass", "()Ljava/lang/Class;"⟩ : MethodName) ∈ lw_G := List.mem_filter.mpr ⟨List.mem_of_getElem? (i := 508) (by decide +kernel), by decide +kernel⟩
theorem qw_509 : Cond.selects "SkyloadBureau$Dealing" (⟨"java/lang/Object", "getClass", "()Ljava/lang/Class;"⟩ : MethodName) (⟨"java/lang/Object", "getClass", "()Ljava/lang/Class;"⟩ : MethodName) ∈ lw_G := List.mem_filter.mpr ⟨List.mem_of_getElem? (i := 509) (by decide +kernel), by decide +kernel⟩
theorem qw_510 : Cond.selects "SkyloadBureau$Flight" (⟨"java/lang/Object", "getClass", "()Ljava/lang/Class;"⟩ : MethodName) (⟨"java/lang/Object", "getClass", "()Ljava/lang/Class;"⟩ : MethodName) ∈ lw_G := List.mem_filter.mpr ⟨List.mem_of_getElem? (i := 510) (by decide +kernel), by decide +kernel⟩
theorem qw_511 : Cond.selects "SkyloadBureau$Line" (⟨"java/lang/Object", "getClass", "()Ljava/lang/Class;"⟩ : MethodName) (⟨"java/lang/Object", "getClass", "()Ljava/lang/Class;"⟩ : MethodName) ∈ lw_G := List.mem_filter.mpr ⟨List.mem_of_getElem? (i := 511) (by decide +kernel), by decide +kernel⟩
theorem qw_512 : Cond.selects "SkyloadBureau$Regulation" (⟨"java/lang/Object", "getClass", "()Ljava/lang/Class;"⟩ : MethodName) (⟨"java/lang/Object", "getClass", "()Ljava/lang/Class;"⟩ : MethodName) ∈ lw_G := List.mem_filter.mpr ⟨List.mem_of_getElem? (i := 512) (by decide +kernel), by decide +kernel⟩
theorem qw_513 : Cond.selects "SkyloadBureauModel" (⟨"java/lang/Object", "getClass", "()Ljava/lang/Class;"⟩ : MethodName) (⟨"java/lang/Object", "getClass", "()Ljava/lang/Class;"⟩ : MethodName) ∈ lw_G := List.mem_filter.mpr ⟨List.mem_of_getElem? (i := 513) (by decide +kernel), by decide +kernel⟩
theorem qw_514 : Cond.selects "java/lang/IllegalArgumentException" (⟨"java/lang/Object", "getClass", "()Ljava/lang/Class;"⟩ : MethodName) (⟨"java/lang/Object", "getClass", "()Ljava/lang/Class;"⟩ : MethodName) ∈ lw_G := List.mem_filter.mpr ⟨List.mem_of_getElem? (i := 514) (by decide +kernel), by decide +kernel⟩
theorem qw_515 : Cond.selects "java/lang/IllegalStateException" (⟨"java/lang/Object", "getClass", "()Ljava/lang/Class;"⟩ : MethodName) (⟨"java/lang/Object", "getClass", "()Ljava/lang/Class;"⟩ : MethodName) ∈ lw_G := List.mem_filter.mpr ⟨List.mem_of_getElem? (i := 515) (by decide +kernel), by decide +kernel⟩
theorem qw_516 : Cond.selects "java/lang/IndexOutOfBoundsException" (⟨"java/lang/Object", "getClass", "()Ljava/lang/Class;"⟩ : MethodName) (⟨"java/lang/Object", "getClass", "()Ljava/lang/Class;"⟩ : MethodName) ∈ lw_G := List.mem_filter.mpr ⟨List.mem_of_getElem? (i := 516) (by decide +kernel), by decide +kernel⟩
theorem qw_517 : Cond.selects "java/util/ArrayList" (⟨"java/lang/Object", "getClass", "()Ljava/lang/Class;"⟩ : MethodName) (⟨"java/lang/Object", "getClass", "()Ljava/lang/Class;"⟩ : MethodName) ∈ lw_G := List.mem_filter.mpr ⟨List.mem_of_getElem? (i := 517) (by decide +kernel), by decide +kernel⟩
theorem qw_518 : Cond.native (⟨"java/lang/Object", "getClass", "()Ljava/lang/Class;"⟩ : MethodName) ∈ lw_G := List.mem_filter.mpr ⟨List.mem_of_getElem? (i := 518) (by decide +kernel), by decide +kernel⟩
theorem qw_519 : Cond.methodLink "java/util/Arrays" 300 yJ7_copyOf_6403c ∈ lw_G := List.mem_filter.mpr ⟨List.mem_of_getElem? (i := 519) (by decide +kernel), by decide +kernel⟩
theorem qw_520 : Cond.static yJ7_copyOf_6403c ∈ lw_G := List.mem_filter.mpr ⟨List.mem_of_getElem? (i := 520) (by decide +kernel), by decide +kernel⟩
theorem qw_521 : Cond.code yJ7_copyOf_6403c prog_23_method_120_code 4 (some (FieldType.array (FieldType.object "java/lang/Object"))) ∈ lw_G := List.mem_filter.mpr ⟨List.mem_of_getElem? (i := 521) (by decide +kernel), by decide +kernel⟩
theorem qw_522 : Cond.classLink "java/util/Arrays" 110 "[Ljava/lang/Object;" ∈ lw_G := List.mem_filter.mpr ⟨List.mem_of_getElem? (i := 522) (by decide +kernel), by decide +kernel⟩
theorem qw_524 : Cond.classLink "java/util/Arrays" 2 "java/lang/Object" ∈ lw_G := List.mem_filter.mpr ⟨List.mem_of_getElem? (i := 524) (by decide +kernel), by decide +kernel⟩
theorem qw_525 : Cond.methodLink "java/util/Arrays" 304 yJ9_min_7cf53 ∈ lw_G := List.mem_filter.mpr ⟨List.mem_of_getElem? (i := 525) (by decide +kernel), by decide +kernel⟩
theorem qw_526 : Cond.methodLink "java/util/Arrays" 150 (⟨RJ10, "arraycopy", "(Ljava/lang/Object;ILjava/lang/Object;II)V"⟩ : MethodName) ∈ lw_G := List.mem_filter.mpr ⟨List.mem_of_getElem? (i := 526) (by decide +kernel), by decide +kernel⟩
theorem qw_527 : Cond.static (⟨RJ10, "arraycopy", "(Ljava/lang/Object;ILjava/lang/Object;II)V"⟩ : MethodName) ∈ lw_G := List.mem_filter.mpr ⟨List.mem_of_getElem? (i := 527) (by decide +kernel), by decide +kernel⟩
theorem qw_528 : Cond.native (⟨RJ10, "arraycopy", "(Ljava/lang/Object;ILjava/lang/Object;II)V"⟩ : MethodName) ∈ lw_G := List.mem_filter.mpr ⟨List.mem_of_getElem? (i := 528) (by decide +kernel), by decide +kernel⟩
theorem qw_529 : Cond.methodLink "java/util/ArrayList" 79 yJ9_max_7cf53 ∈ lw_G := List.mem_filter.mpr ⟨List.mem_of_getElem? (i := 529) (by decide +kernel), by decide +kernel⟩
theorem qw_530 : Cond.classLink "java/util/ArrayList" 7 "java/lang/Object" ∈ lw_G := List.mem_filter.mpr ⟨List.mem_of_getElem? (i := 530) (by decide +kernel), by decide +kernel⟩
theorem qw_531 : Cond.methodLink "SkyloadBureauLaw" 100 yL_entry ∈ lw_G := List.mem_filter.mpr ⟨List.mem_of_getElem? (i := 531) (by decide +kernel), by decide +kernel⟩
theorem qw_532 : Cond.static yL_entry ∈ lw_G := List.mem_filter.mpr ⟨List.mem_of_getElem? (i := 532) (by decide +kernel), by decide +kernel⟩
theorem qw_533 : Cond.codeWith yL_entry method_4_code 7 (some FieldType.int) [(0, 14, 17, 13), (0, 14, 21, 15), (0, 14, 25, 17)] ∈ lw_G := List.mem_filter.mpr ⟨List.mem_of_getElem? (i := 533) (by decide +kernel), by decide +kernel⟩
theorem qw_534 : Cond.methodLink "SkyloadBureauLaw" 19 yX4_entry ∈ lw_G := List.mem_filter.mpr ⟨List.mem_of_getElem? (i := 534) (by decide +kernel), by decide +kernel⟩
theorem qw_535 : Cond.instanceMethod yX4_entry ∈ lw_G := List.mem_filter.mpr ⟨List.mem_of_getElem? (i := 535) (by decide +kernel), by decide +kernel⟩
theorem qw_536 : Cond.selects "SkyloadBureau" yX4_entry yX4_entry ∈ lw_G := List.mem_filter.mpr ⟨List.mem_of_getElem? (i := 536) (by decide +kernel), by decide +kernel⟩
theorem qw_537 : Cond.code yX4_entry prog_1_method_3_code 6 (some FieldType.int) ∈ lw_G := List.mem_filter.mpr ⟨List.mem_of_getElem? (i := 537) (by decide +kernel), by decide +kernel⟩
theorem qw_538 : Cond.methodLink "SkyloadBureau" 61 yX4_flightAt ∈ lw_G := List.mem_filter.mpr ⟨List.mem_of_getElem? (i := 538) (by decide +kernel), by decide +kernel⟩
theorem qw_540 : Cond.instanceMethod yX4_flightAt ∈ lw_G := List.mem_filter.mpr ⟨List.mem_of_getElem? (i := 540) (by decide +kernel), by decide +kernel⟩
theorem qw_541 : Cond.code yX4_flightAt prog_1_method_25_code 2 (some (FieldType.object "SkyloadBureau$Flight")) ∈ lw_G := List.mem_filter.mpr ⟨List.mem_of_getElem? (i := 541) (by decide +kernel), by decide +kernel⟩
theorem qw_543 : Cond.methodLink "SkyloadBureau" 65 yX4_checkSector ∈ lw_G := List.mem_filter.mpr ⟨List.mem_of_getElem? (i := 543) (by decide +kernel), by decide +kernel⟩
theorem qw_544 : Cond.static yX4_checkSector ∈ lw_G := List.mem_filter.mpr ⟨List.mem_of_getElem? (i := 544) (by decide +kernel), by decide +kernel⟩
theorem qw_545 : Cond.code yX4_checkSector prog_1_method_27_code 1 (Option.none : Option Jvm.ClassFile.FieldType) ∈ lw_G := List.mem_filter.mpr ⟨List.mem_of_getElem? (i := 545) (by decide +kernel), by decide +kernel⟩
theorem qw_547 : Cond.methodLink "SkyloadBureau" 68 yX1_canEnterNext ∈ lw_G := List.mem_filter.mpr ⟨List.mem_of_getElem? (i := 547) (by decide +kernel), by decide +kernel⟩
theorem qw_548 : Cond.instanceMethod yX1_canEnterNext ∈ lw_G := List.mem_filter.mpr ⟨List.mem_of_getElem? (i := 548) (by decide +kernel), by decide +kernel⟩
theorem qw_549 : Cond.selects "SkyloadBureau$Flight" yX1_canEnterNext yX1_canEnterNext ∈ lw_G := List.mem_filter.mpr ⟨List.mem_of_getElem? (i := 549) (by decide +kernel), by decide +kernel⟩
theorem qw_550 : Cond.code yX1_canEnterNext prog_3_method_2_code 3 (some FieldType.boolean) ∈ lw_G := List.mem_filter.mpr ⟨List.mem_of_getElem? (i := 550) (by decide +kernel), by decide +kernel⟩
theorem qw_551 : Cond.methodLink "SkyloadBureau$Flight" 56 yX1_enters ∈ lw_G := List.mem_filter.mpr ⟨List.mem_of_getElem? (i := 551) (by decide +kernel), by decide +kernel⟩
theorem qw_552 : Cond.instanceMethod yX1_enters ∈ lw_G := List.mem_filter.mpr ⟨List.mem_of_getElem? (i := 552) (by decide +kernel), by decide +kernel⟩
theorem qw_553 : Cond.selects "SkyloadBureau$Flight" yX1_enters yX1_enters ∈ lw_G := List.mem_filter.mpr ⟨List.mem_of_getElem? (i := 553) (by decide +kernel), by decide +kernel⟩
theorem qw_554 : Cond.code yX1_enters prog_3_method_6_code 2 (some FieldType.boolean) ∈ lw_G := List.mem_filter.mpr ⟨List.mem_of_getElem? (i := 554) (by decide +kernel), by decide +kernel⟩
theorem qw_556 : Cond.methodLink "SkyloadBureau" 74 yX1_addEntry ∈ lw_G := List.mem_filter.mpr ⟨List.mem_of_getElem? (i := 556) (by decide +kernel), by decide +kernel⟩
theorem qw_557 : Cond.instanceMethod yX1_addEntry ∈ lw_G := List.mem_filter.mpr ⟨List.mem_of_getElem? (i := 557) (by decide +kernel), by decide +kernel⟩
theorem qw_558 : Cond.selects "SkyloadBureau$Flight" yX1_addEntry yX1_addEntry ∈ lw_G := List.mem_filter.mpr ⟨List.mem_of_getElem? (i := 558) (by decide +kernel), by decide +kernel⟩
theorem qw_559 : Cond.code yX1_addEntry prog_3_method_3_code 4 (Option.none : Option Jvm.ClassFile.FieldType) ∈ lw_G := List.mem_filter.mpr ⟨List.mem_of_getElem? (i := 559) (by decide +kernel), by decide +kernel⟩
theorem qw_560 : Cond.methodLink "SkyloadBureauLaw" 104 yL_exempt ∈ lw_G := List.mem_filter.mpr ⟨List.mem_of_getElem? (i := 560) (by decide +kernel), by decide +kernel⟩
theorem qw_561 : Cond.static yL_exempt ∈ lw_G := List.mem_filter.mpr ⟨List.mem_of_getElem? (i := 561) (by decide +kernel), by decide +kernel⟩
theorem qw_562 : Cond.codeWith yL_exempt method_5_code 5 (some FieldType.int) [(0, 17, 20, 13), (0, 17, 24, 17)] ∈ lw_G := List.mem_filter.mpr ⟨List.mem_of_getElem? (i := 562) (by decide +kernel), by decide +kernel⟩
theorem qw_563 : Cond.methodLink "SkyloadBureauLaw" 23 yX4_exempt ∈ lw_G := List.mem_filter.mpr ⟨List.mem_of_getElem? (i := 563) (by decide +kernel), by decide +kernel⟩
theorem qw_564 : Cond.instanceMethod yX4_exempt ∈ lw_G := List.mem_filter.mpr ⟨List.mem_of_getElem? (i := 564) (by decide +kernel), by decide +kernel⟩
theorem qw_565 : Cond.selects "SkyloadBureau" yX4_exempt yX4_exempt ∈ lw_G := List.mem_filter.mpr ⟨List.mem_of_getElem? (i := 565) (by decide +kernel), by decide +kernel⟩
theorem qw_566 : Cond.code yX4_exempt prog_1_method_4_code 5 (some FieldType.boolean) ∈ lw_G := List.mem_filter.mpr ⟨List.mem_of_getElem? (i := 566) (by decide +kernel), by decide +kernel⟩
theorem qw_568 : Cond.methodLink "SkyloadBureau" 90 yX1_loseSlotTime ∈ lw_G := List.mem_filter.mpr ⟨List.mem_of_getElem? (i := 568) (by decide +kernel), by decide +kernel⟩
theorem qw_569 : Cond.methodLink "SkyloadBureauLaw" 108 yL_flightIs ∈ lw_G := List.mem_filter.mpr ⟨List.mem_of_getElem? (i := 569) (by decide +kernel), by decide +kernel⟩
theorem qw_570 : Cond.static yL_flightIs ∈ lw_G := List.mem_filter.mpr ⟨List.mem_of_getElem? (i := 570) (by decide +kernel), by decide +kernel⟩
theorem qw_571 : Cond.codeWith yL_flightIs method_6_code 5 (some FieldType.int) [(0, 10, 13, 13), (0, 10, 17, 15)] ∈ lw_G := List.mem_filter.mpr ⟨List.mem_of_getElem? (i := 571) (by decide +kernel), by decide +kernel⟩
theorem qw_572 : Cond.methodLink "SkyloadBureauLaw" 27 yX4_flightIs ∈ lw_G := List.mem_filter.mpr ⟨List.mem_of_getElem? (i := 572) (by decide +kernel), by decide +kernel⟩
theorem qw_573 : Cond.instanceMethod yX4_flightIs ∈ lw_G := List.mem_filter.mpr ⟨List.mem_of_getElem? (i := 573) (by decide +kernel), by decide +kernel⟩
theorem qw_574 : Cond.selects "SkyloadBureau" yX4_flightIs yX4_flightIs ∈ lw_G := List.mem_filter.mpr ⟨List.mem_of_getElem? (i := 574) (by decide +kernel), by decide +kernel⟩
theorem qw_575 : Cond.code yX4_flightIs prog_1_method_5_code 4 (some FieldType.int) ∈ lw_G := List.mem_filter.mpr ⟨List.mem_of_getElem? (i := 575) (by decide +kernel), by decide +kernel⟩
theorem qw_576 : Cond.methodLink "SkyloadBureau" 102 yX1_departure ∈ lw_G := List.mem_filter.mpr ⟨List.mem_of_getElem? (i := 576) (by decide +kernel), by decide +kernel⟩
theorem qw_577 : Cond.instanceMethod yX1_departure ∈ lw_G := List.mem_filter.mpr ⟨List.mem_of_getElem? (i := 577) (by decide +kernel), by decide +kernel⟩
theorem qw_578 : Cond.selects "SkyloadBureau$Flight" yX1_departure yX1_departure ∈ lw_G := List.mem_filter.mpr ⟨List.mem_of_getElem? (i := 578) (by decide +kernel), by decide +kernel⟩
theorem qw_579 : Cond.code yX1_departure prog_3_method_7_code 1 (some FieldType.int) ∈ lw_G := List.mem_filter.mpr ⟨List.mem_of_getElem? (i := 579) (by decide +kernel), by decide +kernel⟩
theorem qw_580 : Cond.methodLink "SkyloadBureauLaw" 111 yL_over ∈ lw_G := List.mem_filter.mpr ⟨List.mem_of_getElem? (i := 580) (by decide +kernel), by decide +kernel⟩
theorem qw_581 : Cond.static yL_over ∈ lw_G := List.mem_filter.mpr ⟨List.mem_of_getElem? (i := 581) (by decide +kernel), by decide +kernel⟩
theorem qw_582 : Cond.codeWith yL_over method_7_code 5 (some FieldType.int) [(0, 10, 13, 13)] ∈ lw_G := List.mem_filter.mpr ⟨List.mem_of_getElem? (i := 582) (by decide +kernel), by decide +kernel⟩
theorem qw_583 : Cond.methodLink "SkyloadBureauLaw" 30 yX4_over ∈ lw_G := List.mem_filter.mpr ⟨List.mem_of_getElem? (i := 583) (by decide +kernel), by decide +kernel⟩
theorem qw_584 : Cond.instanceMethod yX4_over ∈ lw_G := List.mem_filter.mpr ⟨List.mem_of_getElem? (i := 584) (by decide +kernel), by decide +kernel⟩
theorem qw_585 : Cond.selects "SkyloadBureau" yX4_over yX4_over ∈ lw_G := List.mem_filter.mpr ⟨List.mem_of_getElem? (i := 585) (by decide +kernel), by decide +kernel⟩
theorem qw_586 : Cond.code yX4_over prog_1_method_6_code 4 (some FieldType.int) ∈ lw_G := List.mem_filter.mpr ⟨List.mem_of_getElem? (i := 586) (by decide +kernel), by decide +kernel⟩
theorem qw_587 : Cond.methodLink "SkyloadBureau" 108 yX1_timeOver ∈ lw_G := List.mem_filter.mpr ⟨List.mem_of_getElem? (i := 587) (by decide +kernel), by decide +kernel⟩
theorem qw_588 : Cond.instanceMethod yX1_timeOver ∈ lw_G := List.mem_filter.mpr ⟨List.mem_of_getElem? (i := 588) (by decide +kernel), by decide +kernel⟩
theorem qw_589 : Cond.selects "SkyloadBureau$Flight" yX1_timeOver yX1_timeOver ∈ lw_G := List.mem_filter.mpr ⟨List.mem_of_getElem? (i := 589) (by decide +kernel), by decide +kernel⟩
theorem qw_590 : Cond.code yX1_timeOver prog_3_method_8_code 3 (some FieldType.int) ∈ lw_G := List.mem_filter.mpr ⟨List.mem_of_getElem? (i := 590) (by decide +kernel), by decide +kernel⟩
theorem qw_591 : Cond.methodLink "SkyloadBureau$Flight" 64 yX1_departure ∈ lw_G := List.mem_filter.mpr ⟨List.mem_of_getElem? (i := 591) (by decide +kernel), by decide +kernel⟩
theorem qw_592 : Cond.methodLink "SkyloadBureauLaw" 114 yL_load ∈ lw_G := List.mem_filter.mpr ⟨List.mem_of_getElem? (i := 592) (by decide +kernel), by decide +kernel⟩
theorem qw_593 : Cond.static yL_load ∈ lw_G := List.mem_filter.mpr ⟨List.mem_of_getElem? (i := 593) (by decide +kernel), by decide +kernel⟩
theorem qw_594 : Cond.codeWith yL_load method_8_code 6 (some FieldType.int) [(0, 12, 15, 13), (0, 12, 19, 15)] ∈ lw_G := List.mem_filter.mpr ⟨List.mem_of_getElem? (i := 594) (by decide +kernel), by decide +kernel⟩
theorem qw_595 : Cond.methodLink "SkyloadBureauLaw" 33 yX4_load ∈ lw_G := List.mem_filter.mpr ⟨List.mem_of_getElem? (i := 595) (by decide +kernel), by decide +kernel⟩
theorem qw_596 : Cond.instanceMethod yX4_load ∈ lw_G := List.mem_filter.mpr ⟨List.mem_of_getElem? (i := 596) (by decide +kernel), by decide +kernel⟩
theorem qw_597 : Cond.selects "SkyloadBureau" yX4_load yX4_load ∈ lw_G := List.mem_filter.mpr ⟨List.mem_of_getElem? (i := 597) (by decide +kernel), by decide +kernel⟩
theorem qw_598 : Cond.code yX4_load prog_1_method_7_code 4 (some FieldType.int) ∈ lw_G := List.mem_filter.mpr ⟨List.mem_of_getElem? (i := 598) (by decide +kernel), by decide +kernel⟩
theorem qw_599 : Cond.methodLink "SkyloadBureau" 112 yX4_loadOf ∈ lw_G := List.mem_filter.mpr ⟨List.mem_of_getElem? (i := 599) (by decide +kernel), by decide +kernel⟩
theorem qw_601 : Cond.instanceMethod yX4_loadOf ∈ lw_G := List.mem_filter.mpr ⟨List.mem_of_getElem? (i := 601) (by decide +kernel), by decide +kernel⟩
theorem qw_602 : Cond.code yX4_loadOf prog_1_method_32_code 8 (some FieldType.int) ∈ lw_G := List.mem_filter.mpr ⟨List.mem_of_getElem? (i := 602) (by decide +kernel), by decide +kernel⟩
theorem qw_603 : Cond.methodLink "SkyloadBureau" 135 yX1_loads ∈ lw_G := List.mem_filter.mpr ⟨List.mem_of_getElem? (i := 603) (by decide +kernel), by decide +kernel⟩
theorem qw_604 : Cond.instanceMethod yX1_loads ∈ lw_G := List.mem_filter.mpr ⟨List.mem_of_getElem? (i := 604) (by decide +kernel), by decide +kernel⟩
theorem qw_605 : Cond.selects "SkyloadBureau$Flight" yX1_loads yX1_loads ∈ lw_G := List.mem_filter.mpr ⟨List.mem_of_getElem? (i := 605) (by decide +kernel), by decide +kernel⟩
theorem qw_606 : Cond.code yX1_loads prog_3_method_9_code 2 (some FieldType.boolean) ∈ lw_G := List.mem_filter.mpr ⟨List.mem_of_getElem? (i := 606) (by decide +kernel), by decide +kernel⟩
theorem qw_607 : Cond.methodLink "SkyloadBureauLaw" 118 yL_inside ∈ lw_G := List.mem_filter.mpr ⟨List.mem_of_getElem? (i := 607) (by decide +kernel), by decide +kernel⟩
theorem qw_608 : Cond.static yL_inside ∈ lw_G := List.mem_filter.mpr ⟨List.mem_of_getElem? (i := 608) (by decide +kernel), by decide +kernel⟩
theorem qw_609 : Cond.codeWith yL_inside method_9_code 5 (some FieldType.int) [(0, 10, 13, 13), (0, 10, 17, 15)] ∈ lw_G := List.mem_filter.mpr ⟨List.mem_of_getElem? (i := 609) (by decide +kernel), by decide +kernel⟩
theorem qw_610 : Cond.methodLink "SkyloadBureauLaw" 37 yX4_inside ∈ lw_G := List.mem_filter.mpr ⟨List.mem_of_getElem? (i := 610) (by decide +kernel), by decide +kernel⟩
theorem qw_611 : Cond.instanceMethod yX4_inside ∈ lw_G := List.mem_filter.mpr ⟨List.mem_of_getElem? (i := 611) (by decide +kernel), by decide +kernel⟩
theorem qw_612 : Cond.selects "SkyloadBureau" yX4_inside yX4_inside ∈ lw_G := List.mem_filter.mpr ⟨List.mem_of_getElem? (i := 612) (by decide +kernel), by decide +kernel⟩
theorem qw_613 : Cond.code yX4_inside prog_1_method_8_code 5 (some FieldType.int) ∈ lw_G := List.mem_filter.mpr ⟨List.mem_of_getElem? (i := 613) (by decide +kernel), by decide +kernel⟩
theorem qw_614 : Cond.methodLink "SkyloadBureau" 120 yX1_isInside ∈ lw_G := List.mem_filter.mpr ⟨List.mem_of_getElem? (i := 614) (by decide +kernel), by decide +kernel⟩
theorem qw_615 : Cond.instanceMethod yX1_isInside ∈ lw_G := List.mem_filter.mpr ⟨List.mem_of_getElem? (i := 615) (by decide +kernel), by decide +kernel⟩
theorem qw_616 : Cond.selects "SkyloadBureau$Flight" yX1_isInside yX1_isInside ∈ lw_G := List.mem_filter.mpr ⟨List.mem_of_getElem? (i := 616) (by decide +kernel), by decide +kernel⟩
theorem qw_617 : Cond.code yX1_isInside prog_3_method_10_code 4 (some FieldType.boolean) ∈ lw_G := List.mem_filter.mpr ⟨List.mem_of_getElem? (i := 617) (by decide +kernel), by decide +kernel⟩
theorem qw_618 : Cond.methodLink "SkyloadBureau$Flight" 68 yX1_timeOver ∈ lw_G := List.mem_filter.mpr ⟨List.mem_of_getElem? (i := 618) (by decide +kernel), by decide +kernel⟩
theorem qw_619 : Cond.methodLink "SkyloadBureau$Flight" 71 yX1_loads ∈ lw_G := List.mem_filter.mpr ⟨List.mem_of_getElem? (i := 619) (by decide +kernel), by decide +kernel⟩
theorem qw_620 : Cond.methodLink "SkyloadBureau$Flight" 74 yX1_stayAt ∈ lw_G := List.mem_filter.mpr ⟨List.mem_of_getElem? (i := 620) (by decide +kernel), by decide +kernel⟩
theorem qw_621 : Cond.instanceMethod yX1_stayAt ∈ lw_G := List.mem_filter.mpr ⟨List.mem_of_getElem? (i := 621) (by decide +kernel), by decide +kernel⟩
theorem qw_622 : Cond.selects "SkyloadBureau$Flight" yX1_stayAt yX1_stayAt ∈ lw_G := List.mem_filter.mpr ⟨List.mem_of_getElem? (i := 622) (by decide +kernel), by decide +kernel⟩
theorem qw_623 : Cond.code yX1_stayAt prog_3_method_5_code 2 (some FieldType.int) ∈ lw_G := List.mem_filter.mpr ⟨List.mem_of_getElem? (i := 623) (by decide +kernel), by decide +kernel⟩
theorem qw_624 : Cond.methodLink "SkyloadBureauLaw" 121 yL_peak ∈ lw_G := List.mem_filter.mpr ⟨List.mem_of_getElem? (i := 624) (by decide +kernel), by decide +kernel⟩
theorem qw_625 : Cond.static yL_peak ∈ lw_G := List.mem_filter.mpr ⟨List.mem_of_getElem? (i := 625) (by decide +kernel), by decide +kernel⟩
theorem qw_626 : Cond.codeWith yL_peak method_10_code 5 (some FieldType.int) [(0, 10, 13, 13), (0, 10, 17, 15)] ∈ lw_G := List.mem_filter.mpr ⟨List.mem_of_getElem? (i := 626) (by decide +kernel), by decide +kernel⟩
theorem qw_627 : Cond.methodLink "SkyloadBureauLaw" 40 yX4_peak ∈ lw_G := List.mem_filter.mpr ⟨List.mem_of_getElem? (i := 627) (by decide +kernel), by decide +kernel⟩
theorem qw_628 : Cond.instanceMethod yX4_peak ∈ lw_G := List.mem_filter.mpr ⟨List.mem_of_getElem? (i := 628) (by decide +kernel), by decide +kernel⟩
theorem qw_629 : Cond.selects "SkyloadBureau" yX4_peak yX4_peak ∈ lw_G := List.mem_filter.mpr ⟨List.mem_of_getElem? (i := 629) (by decide +kernel), by decide +kernel⟩
theorem qw_630 : Cond.code yX4_peak prog_1_method_9_code 7 (some FieldType.int) ∈ lw_G := List.mem_filter.mpr ⟨List.mem_of_getElem? (i := 630) (by decide +kernel), by decide +kernel⟩
theorem qw_631 : Cond.methodLink "SkyloadBureau" 123 yX4_lineUpEntering ∈ lw_G := List.mem_filter.mpr ⟨List.mem_of_getElem? (i := 631) (by decide +kernel), by decide +kernel⟩
theorem qw_633 : Cond.instanceMethod yX4_lineUpEntering ∈ lw_G := List.mem_filter.mpr ⟨List.mem_of_getElem? (i := 633) (by decide +kernel), by decide +kernel⟩
theorem qw_634 : Cond.code yX4_lineUpEntering prog_1_method_33_code 4 (Option.none : Option Jvm.ClassFile.FieldType) ∈ lw_G := List.mem_filter.mpr ⟨List.mem_of_getElem? (i := 634) (by decide +kernel), by decide +kernel⟩
theorem qw_635 : Cond.methodLink "SkyloadBureau" 265 yX2_clear ∈ lw_G := List.mem_filter.mpr ⟨List.mem_of_getElem? (i := 635) (by decide +kernel), by decide +kernel⟩
theorem qw_636 : Cond.methodLink "SkyloadBureau" 268 yX2_add ∈ lw_G := List.mem_filter.mpr ⟨List.mem_of_getElem? (i := 636) (by decide +kernel), by decide +kernel⟩
theorem qw_637 : Cond.methodLink "SkyloadBureau" 126 yX2_countAheadOf ∈ lw_G := List.mem_filter.mpr ⟨List.mem_of_getElem? (i := 637) (by decide +kernel), by decide +kernel⟩
theorem qw_638 : Cond.instanceMethod yX2_countAheadOf ∈ lw_G := List.mem_filter.mpr ⟨List.mem_of_getElem? (i := 638) (by decide +kernel), by decide +kernel⟩
theorem qw_639 : Cond.selects "SkyloadBureau$Line" yX2_countAheadOf yX2_countAheadOf ∈ lw_G := List.mem_filter.mpr ⟨List.mem_of_getElem? (i := 639) (by decide +kernel), by decide +kernel⟩
theorem qw_640 : Cond.code yX2_countAheadOf prog_4_method_10_code 4 (some FieldType.int) ∈ lw_G := List.mem_filter.mpr ⟨List.mem_of_getElem? (i := 640) (by decide +kernel), by decide +kernel⟩
theorem qw_641 : Cond.methodLink "SkyloadBureau$Line" 36 yX2_timeAt ∈ lw_G := List.mem_filter.mpr ⟨List.mem_of_getElem? (i := 641) (by decide +kernel), by decide +kernel⟩
theorem qw_642 : Cond.methodLink "SkyloadBureau" 130 yJ9_max_7cf53 ∈ lw_G := List.mem_filter.mpr ⟨List.mem_of_getElem? (i := 642) (by decide +kernel), by decide +kernel⟩
theorem qw_643 : Cond.methodLink "SkyloadBureauLaw" 124 yL_peakAnew ∈ lw_G := List.mem_filter.mpr ⟨List.mem_of_getElem? (i := 643) (by decide +kernel), by decide +kernel⟩
theorem qw_644 : Cond.static yL_peakAnew ∈ lw_G := List.mem_filter.mpr ⟨List.mem_of_getElem? (i := 644) (by decide +kernel), by decide +kernel⟩
theorem qw_645 : Cond.codeWith yL_peakAnew method_11_code 5 (some FieldType.int) [(0, 10, 13, 13), (0, 10, 17, 15)] ∈ lw_G := List.mem_filter.mpr ⟨List.mem_of_getElem? (i := 645) (by decide +kernel), by decide +kernel⟩
theorem qw_646 : Cond.methodLink "SkyloadBureauLaw" 43 yX4_peakAnew ∈ lw_G := List.mem_filter.mpr ⟨List.mem_of_getElem? (i := 646) (by decide +kernel), by decide +kernel⟩
theorem qw_647 : Cond.instanceMethod yX4_peakAnew ∈ lw_G := List.mem_filter.mpr ⟨List.mem_of_getElem? (i := 647) (by decide +kernel), by decide +kernel⟩
theorem qw_648 : Cond.selects "SkyloadBureau" yX4_peakAnew yX4_peakAnew ∈ lw_G := List.mem_filter.mpr ⟨List.mem_of_getElem? (i := 648) (by decide +kernel), by decide +kernel⟩
theorem qw_649 : Cond.code yX4_peakAnew prog_1_method_10_code 6 (some FieldType.int) ∈ lw_G := List.mem_filter.mpr ⟨List.mem_of_getElem? (i := 649) (by decide +kernel), by decide +kernel⟩
theorem qw_650 : Cond.methodLink "SkyloadBureauLaw" 127 yL_regulation ∈ lw_G := List.mem_filter.mpr ⟨List.mem_of_getElem? (i := 650) (by decide +kernel), by decide +kernel⟩
theorem qw_651 : Cond.static yL_regulation ∈ lw_G := List.mem_filter.mpr ⟨List.mem_of_getElem? (i := 651) (by decide +kernel), by decide +kernel⟩
theorem qw_652 : Cond.codeWith yL_regulation method_12_code 7 (some FieldType.int) [(0, 14, 17, 13), (0, 14, 21, 15), (0, 14, 25, 17)] ∈ lw_G := List.mem_filter.mpr ⟨List.mem_of_getElem? (i := 652) (by decide +kernel), by decide +kernel⟩
theorem qw_653 : Cond.methodLink "SkyloadBureauLaw" 46 yX4_regulation ∈ lw_G := List.mem_filter.mpr ⟨List.mem_of_getElem? (i := 653) (by decide +kernel), by decide +kernel⟩
theorem qw_654 : Cond.instanceMethod yX4_regulation ∈ lw_G := List.mem_filter.mpr ⟨List.mem_of_getElem? (i := 654) (by decide +kernel), by decide +kernel⟩
theorem qw_655 : Cond.selects "SkyloadBureau" yX4_regulation yX4_regulation ∈ lw_G := List.mem_filter.mpr ⟨List.mem_of_getElem? (i := 655) (by decide +kernel), by decide +kernel⟩
theorem qw_656 : Cond.code yX4_regulation prog_1_method_11_code 5 (some FieldType.int) ∈ lw_G := List.mem_filter.mpr ⟨List.mem_of_getElem? (i := 656) (by decide +kernel), by decide +kernel⟩
theorem qw_657 : Cond.methodLink "SkyloadBureau" 139 yX4_checkTerm ∈ lw_G := List.mem_filter.mpr ⟨List.mem_of_getElem? (i := 657) (by decide +kernel), by decide +kernel⟩
theorem qw_658 : Cond.static yX4_checkTerm ∈ lw_G := List.mem_filter.mpr ⟨List.mem_of_getElem? (i := 658) (by decide +kernel), by decide +kernel⟩
theorem qw_659 : Cond.code yX4_checkTerm prog_1_method_30_code 3 (Option.none : Option Jvm.ClassFile.FieldType) ∈ lw_G := List.mem_filter.mpr ⟨List.mem_of_getElem? (i := 659) (by decide +kernel), by decide +kernel⟩
theorem qw_661 : Cond.instantiable "SkyloadBureau$Regulation" 5 ∈ lw_G := List.mem_filter.mpr ⟨List.mem_of_getElem? (i := 661) (by decide +kernel), by decide +kernel⟩
theorem qw_662 : Cond.methodLink "SkyloadBureau" 146 yX3_init ∈ lw_G := List.mem_filter.mpr ⟨List.mem_of_getElem? (i := 662) (by decide +kernel), by decide +kernel⟩
theorem qw_663 : Cond.instanceMethod yX3_init ∈ lw_G := List.mem_filter.mpr ⟨List.mem_of_getElem? (i := 663) (by decide +kernel), by decide +kernel⟩
theorem qw_664 : Cond.code yX3_init prog_5_method_1_code 5 (Option.none : Option Jvm.ClassFile.FieldType) ∈ lw_G := List.mem_filter.mpr ⟨List.mem_of_getElem? (i := 664) (by decide +kernel), by decide +kernel⟩
theorem qw_665 : Cond.methodLink "SkyloadBureau$Regulation" 3 (⟨"java/lang/Object", "<init>", "()V"⟩ : MethodName) ∈ lw_G := List.mem_filter.mpr ⟨List.mem_of_getElem? (i := 665) (by decide +kernel), by decide +kernel⟩
theorem qw_666 : Cond.fieldLink "SkyloadBureau$Regulation" 15 "SkyloadBureau$Regulation" "sector" "I" ∈ lw_G := List.mem_filter.mpr ⟨List.mem_of_getElem? (i := 666) (by decide +kernel), by decide +kernel⟩
theorem qw_667 : Cond.fieldLink "SkyloadBureau$Dealing" 65 "SkyloadBureau$Regulation" "sector" "I" ∈ lw_G := List.mem_filter.mpr ⟨List.mem_of_getElem? (i := 667) (by decide +kernel), by decide +kernel⟩
theorem qw_668 : Cond.fieldLink "SkyloadBureau" 236 "SkyloadBureau$Regulation" "sector" "I" ∈ lw_G := List.mem_filter.mpr ⟨List.mem_of_getElem? (i := 668) (by decide +kernel), by decide +kernel⟩
theorem qw_669 : Cond.fieldLink "SkyloadBureau$Regulation" 19 "SkyloadBureau$Regulation" "from" "I" ∈ lw_G := List.mem_filter.mpr ⟨List.mem_of_getElem? (i := 669) (by decide +kernel), by decide +kernel⟩
theorem qw_670 : Cond.fieldLink "SkyloadBureau$Regulation" 22 "SkyloadBureau$Regulation" "to" "I" ∈ lw_G := List.mem_filter.mpr ⟨List.mem_of_getElem? (i := 670) (by decide +kernel), by decide +kernel⟩
theorem qw_671 : Cond.fieldLink "SkyloadBureau$Dealing" 109 "SkyloadBureau$Regulation" "to" "I" ∈ lw_G := List.mem_filter.mpr ⟨List.mem_of_getElem? (i := 671) (by decide +kernel), by decide +kernel⟩
theorem qw_672 : Cond.fieldLink "SkyloadBureau$Regulation" 25 "SkyloadBureau$Regulation" "rate" "I" ∈ lw_G := List.mem_filter.mpr ⟨List.mem_of_getElem? (i := 672) (by decide +kernel), by decide +kernel⟩
theorem qw_673 : Cond.fieldLink "SkyloadBureau" 157 "SkyloadBureau$Regulation" "rate" "I" ∈ lw_G := List.mem_filter.mpr ⟨List.mem_of_getElem? (i := 673) (by decide +kernel), by decide +kernel⟩
theorem qw_674 : Cond.fieldLink "SkyloadBureau$Regulation" 9 "SkyloadBureau$Regulation" "isEnded" "Z" ∈ lw_G := List.mem_filter.mpr ⟨List.mem_of_getElem? (i := 674) (by decide +kernel), by decide +kernel⟩
theorem qw_675 : Cond.fieldLink "SkyloadBureau$Dealing" 50 "SkyloadBureau$Regulation" "isEnded" "Z" ∈ lw_G := List.mem_filter.mpr ⟨List.mem_of_getElem? (i := 675) (by decide +kernel), by decide +kernel⟩
theorem qw_676 : Cond.fieldLink "SkyloadBureau" 160 "SkyloadBureau$Regulation" "isEnded" "Z" ∈ lw_G := List.mem_filter.mpr ⟨List.mem_of_getElem? (i := 676) (by decide +kernel), by decide +kernel⟩
theorem qw_677 : Cond.laysFinal "SkyloadBureau$Regulation" "SkyloadBureau$Regulation" "sector" "I" ∈ lw_G := List.mem_filter.mpr ⟨List.mem_of_getElem? (i := 677) (by decide +kernel), by decide +kernel⟩
theorem qw_679 : Cond.laysFinal "SkyloadBureau$Regulation" "SkyloadBureau$Regulation" "from" "I" ∈ lw_G := List.mem_filter.mpr ⟨List.mem_of_getElem? (i := 679) (by decide +kernel), by decide +kernel⟩
theorem qw_681 : Cond.laysFinal "SkyloadBureau$Regulation" "SkyloadBureau$Regulation" "to" "I" ∈ lw_G := List.mem_filter.mpr ⟨List.mem_of_getElem? (i := 681) (by decide +kernel), by decide +kernel⟩
theorem qw_683 : Cond.lays "SkyloadBureau$Regulation" "SkyloadBureau$Regulation" "rate" "I" ∈ lw_G := List.mem_filter.mpr ⟨List.mem_of_getElem? (i := 683) (by decide +kernel), by decide +kernel⟩
theorem qw_685 : Cond.lays "SkyloadBureau$Regulation" "SkyloadBureau$Regulation" "isEnded" "Z" ∈ lw_G := List.mem_filter.mpr ⟨List.mem_of_getElem? (i := 685) (by decide +kernel), by decide +kernel⟩
theorem qw_687 : Cond.superclass "SkyloadBureau$Regulation" "java/lang/Object" ∈ lw_G := List.mem_filter.mpr ⟨List.mem_of_getElem? (i := 687) (by decide +kernel), by decide +kernel⟩
theorem qw_688 : Cond.methodLink "SkyloadBureauLaw" 130 yL_rate ∈ lw_G := List.mem_filter.mpr ⟨List.mem_of_getElem? (i := 688) (by decide +kernel), by decide +kernel⟩
theorem qw_689 : Cond.static yL_rate ∈ lw_G := List.mem_filter.mpr ⟨List.mem_of_getElem? (i := 689) (by decide +kernel), by decide +kernel⟩
theorem qw_690 : Cond.codeWith yL_rate method_13_code 5 (some FieldType.int) [(0, 10, 13, 13), (0, 10, 17, 15), (0, 10, 21, 17)] ∈ lw_G := List.mem_filter.mpr ⟨List.mem_of_getElem? (i := 690) (by decide +kernel), by decide +kernel⟩
theorem qw_691 : Cond.methodLink "SkyloadBureauLaw" 49 yX4_rate ∈ lw_G := List.mem_filter.mpr ⟨List.mem_of_getElem? (i := 691) (by decide +kernel), by decide +kernel⟩
theorem qw_692 : Cond.instanceMethod yX4_rate ∈ lw_G := List.mem_filter.mpr ⟨List.mem_of_getElem? (i := 692) (by decide +kernel), by decide +kernel⟩
theorem qw_693 : Cond.selects "SkyloadBureau" yX4_rate yX4_rate ∈ lw_G := List.mem_filter.mpr ⟨List.mem_of_getElem? (i := 693) (by decide +kernel), by decide +kernel⟩
theorem qw_694 : Cond.code yX4_rate prog_1_method_12_code 5 (some FieldType.int) ∈ lw_G := List.mem_filter.mpr ⟨List.mem_of_getElem? (i := 694) (by decide +kernel), by decide +kernel⟩
theorem qw_695 : Cond.methodLink "SkyloadBureau" 149 yX4_regulationAt ∈ lw_G := List.mem_filter.mpr ⟨List.mem_of_getElem? (i := 695) (by decide +kernel), by decide +kernel⟩
theorem qw_697 : Cond.instanceMethod yX4_regulationAt ∈ lw_G := List.mem_filter.mpr ⟨List.mem_of_getElem? (i := 697) (by decide +kernel), by decide +kernel⟩
theorem qw_698 : Cond.code yX4_regulationAt prog_1_method_26_code 2 (some (FieldType.object "SkyloadBureau$Regulation")) ∈ lw_G := List.mem_filter.mpr ⟨List.mem_of_getElem? (i := 698) (by decide +kernel), by decide +kernel⟩
theorem qw_700 : Cond.methodLink "SkyloadBureau" 153 yX4_checkNotEnded ∈ lw_G := List.mem_filter.mpr ⟨List.mem_of_getElem? (i := 700) (by decide +kernel), by decide +kernel⟩
theorem qw_701 : Cond.static yX4_checkNotEnded ∈ lw_G := List.mem_filter.mpr ⟨List.mem_of_getElem? (i := 701) (by decide +kernel), by decide +kernel⟩
theorem qw_702 : Cond.code yX4_checkNotEnded prog_1_method_31_code 1 (Option.none : Option Jvm.ClassFile.FieldType) ∈ lw_G := List.mem_filter.mpr ⟨List.mem_of_getElem? (i := 702) (by decide +kernel), by decide +kernel⟩
theorem qw_704 : Cond.methodLink "SkyloadBureauLaw" 133 yL_end ∈ lw_G := List.mem_filter.mpr ⟨List.mem_of_getElem? (i := 704) (by decide +kernel), by decide +kernel⟩
theorem qw_705 : Cond.static yL_end ∈ lw_G := List.mem_filter.mpr ⟨List.mem_of_getElem? (i := 705) (by decide +kernel), by decide +kernel⟩
theorem qw_706 : Cond.codeWith yL_end method_14_code 3 (some FieldType.int) [(0, 5, 8, 13), (0, 5, 11, 17)] ∈ lw_G := List.mem_filter.mpr ⟨List.mem_of_getElem? (i := 706) (by decide +kernel), by decide +kernel⟩
theorem qw_707 : Cond.methodLink "SkyloadBureauLaw" 52 yX4_end ∈ lw_G := List.mem_filter.mpr ⟨List.mem_of_getElem? (i := 707) (by decide +kernel), by decide +kernel⟩
theorem qw_708 : Cond.instanceMethod yX4_end ∈ lw_G := List.mem_filter.mpr ⟨List.mem_of_getElem? (i := 708) (by decide +kernel), by decide +kernel⟩
theorem qw_709 : Cond.selects "SkyloadBureau" yX4_end yX4_end ∈ lw_G := List.mem_filter.mpr ⟨List.mem_of_getElem? (i := 709) (by decide +kernel), by decide +kernel⟩
theorem qw_710 : Cond.code yX4_end prog_1_method_13_code 3 (Option.none : Option Jvm.ClassFile.FieldType) ∈ lw_G := List.mem_filter.mpr ⟨List.mem_of_getElem? (i := 710) (by decide +kernel), by decide +kernel⟩
theorem qw_711 : Cond.methodLink "SkyloadBureauLaw" 137 yL_regulationIs ∈ lw_G := List.mem_filter.mpr ⟨List.mem_of_getElem? (i := 711) (by decide +kernel), by decide +kernel⟩
theorem qw_712 : Cond.static yL_regulationIs ∈ lw_G := List.mem_filter.mpr ⟨List.mem_of_getElem? (i := 712) (by decide +kernel), by decide +kernel⟩
theorem qw_713 : Cond.codeWith yL_regulationIs method_15_code 5 (some FieldType.int) [(0, 10, 13, 13), (0, 10, 17, 15)] ∈ lw_G := List.mem_filter.mpr ⟨List.mem_of_getElem? (i := 713) (by decide +kernel), by decide +kernel⟩
theorem qw_714 : Cond.methodLink "SkyloadBureauLaw" 56 yX4_regulationIs ∈ lw_G := List.mem_filter.mpr ⟨List.mem_of_getElem? (i := 714) (by decide +kernel), by decide +kernel⟩
theorem qw_715 : Cond.instanceMethod yX4_regulationIs ∈ lw_G := List.mem_filter.mpr ⟨List.mem_of_getElem? (i := 715) (by decide +kernel), by decide +kernel⟩
theorem qw_716 : Cond.selects "SkyloadBureau" yX4_regulationIs yX4_regulationIs ∈ lw_G := List.mem_filter.mpr ⟨List.mem_of_getElem? (i := 716) (by decide +kernel), by decide +kernel⟩
theorem qw_717 : Cond.code yX4_regulationIs prog_1_method_14_code 4 (some FieldType.int) ∈ lw_G := List.mem_filter.mpr ⟨List.mem_of_getElem? (i := 717) (by decide +kernel), by decide +kernel⟩
theorem qw_718 : Cond.methodLink "SkyloadBureau" 185 yX4_chargedToRegulation ∈ lw_G := List.mem_filter.mpr ⟨List.mem_of_getElem? (i := 718) (by decide +kernel), by decide +kernel⟩
theorem qw_720 : Cond.instanceMethod yX4_chargedToRegulation ∈ lw_G := List.mem_filter.mpr ⟨List.mem_of_getElem? (i := 720) (by decide +kernel), by decide +kernel⟩
theorem qw_721 : Cond.code yX4_chargedToRegulation prog_1_method_37_code 5 (some FieldType.int) ∈ lw_G := List.mem_filter.mpr ⟨List.mem_of_getElem? (i := 721) (by decide +kernel), by decide +kernel⟩
theorem qw_722 : Cond.methodLink "SkyloadBureau" 276 yX1_charge ∈ lw_G := List.mem_filter.mpr ⟨List.mem_of_getElem? (i := 722) (by decide +kernel), by decide +kernel⟩
theorem qw_723 : Cond.instanceMethod yX1_charge ∈ lw_G := List.mem_filter.mpr ⟨List.mem_of_getElem? (i := 723) (by decide +kernel), by decide +kernel⟩
theorem qw_724 : Cond.selects "SkyloadBureau$Flight" yX1_charge yX1_charge ∈ lw_G := List.mem_filter.mpr ⟨List.mem_of_getElem? (i := 724) (by decide +kernel), by decide +kernel⟩
theorem qw_725 : Cond.code yX1_charge prog_3_method_16_code 1 (some FieldType.int) ∈ lw_G := List.mem_filter.mpr ⟨List.mem_of_getElem? (i := 725) (by decide +kernel), by decide +kernel⟩
theorem qw_726 : Cond.methodLink "SkyloadBureau$Flight" 77 yX1_delay ∈ lw_G := List.mem_filter.mpr ⟨List.mem_of_getElem? (i := 726) (by decide +kernel), by decide +kernel⟩
theorem qw_727 : Cond.methodLink "SkyloadBureauLaw" 140 yL_slot ∈ lw_G := List.mem_filter.mpr ⟨List.mem_of_getElem? (i := 727) (by decide +kernel), by decide +kernel⟩
theorem qw_728 : Cond.static yL_slot ∈ lw_G := List.mem_filter.mpr ⟨List.mem_of_getElem? (i := 728) (by decide +kernel), by decide +kernel⟩
theorem qw_729 : Cond.codeWith yL_slot method_16_code 5 (some FieldType.int) [(0, 10, 13, 13)] ∈ lw_G := List.mem_filter.mpr ⟨List.mem_of_getElem? (i := 729) (by decide +kernel), by decide +kernel⟩
theorem qw_730 : Cond.methodLink "SkyloadBureauLaw" 59 yX4_slot ∈ lw_G := List.mem_filter.mpr ⟨List.mem_of_getElem? (i := 730) (by decide +kernel), by decide +kernel⟩
theorem qw_731 : Cond.instanceMethod yX4_slot ∈ lw_G := List.mem_filter.mpr ⟨List.mem_of_getElem? (i := 731) (by decide +kernel), by decide +kernel⟩
theorem qw_732 : Cond.selects "SkyloadBureau" yX4_slot yX4_slot ∈ lw_G := List.mem_filter.mpr ⟨List.mem_of_getElem? (i := 732) (by decide +kernel), by decide +kernel⟩
theorem qw_733 : Cond.code yX4_slot prog_1_method_15_code 4 (some FieldType.int) ∈ lw_G := List.mem_filter.mpr ⟨List.mem_of_getElem? (i := 733) (by decide +kernel), by decide +kernel⟩
theorem qw_735 : Cond.methodLink "SkyloadBureau" 193 yX3_slotCount ∈ lw_G := List.mem_filter.mpr ⟨List.mem_of_getElem? (i := 735) (by decide +kernel), by decide +kernel⟩
theorem qw_736 : Cond.methodLink "SkyloadBureau" 195 yX3_slotBegin ∈ lw_G := List.mem_filter.mpr ⟨List.mem_of_getElem? (i := 736) (by decide +kernel), by decide +kernel⟩
theorem qw_737 : Cond.methodLink "SkyloadBureauLaw" 143 yL_penalty ∈ lw_G := List.mem_filter.mpr ⟨List.mem_of_getElem? (i := 737) (by decide +kernel), by decide +kernel⟩
theorem qw_738 : Cond.static yL_penalty ∈ lw_G := List.mem_filter.mpr ⟨List.mem_of_getElem? (i := 738) (by decide +kernel), by decide +kernel⟩
theorem qw_739 : Cond.codeWith yL_penalty method_17_code 5 (some FieldType.int) [(0, 10, 13, 13)] ∈ lw_G := List.mem_filter.mpr ⟨List.mem_of_getElem? (i := 739) (by decide +kernel), by decide +kernel⟩
theorem qw_740 : Cond.methodLink "SkyloadBureauLaw" 62 yX4_penalty ∈ lw_G := List.mem_filter.mpr ⟨List.mem_of_getElem? (i := 740) (by decide +kernel), by decide +kernel⟩
theorem qw_741 : Cond.instanceMethod yX4_penalty ∈ lw_G := List.mem_filter.mpr ⟨List.mem_of_getElem? (i := 741) (by decide +kernel), by decide +kernel⟩
theorem qw_742 : Cond.selects "SkyloadBureau" yX4_penalty yX4_penalty ∈ lw_G := List.mem_filter.mpr ⟨List.mem_of_getElem? (i := 742) (by decide +kernel), by decide +kernel⟩
theorem qw_743 : Cond.code yX4_penalty prog_1_method_16_code 4 (some FieldType.int) ∈ lw_G := List.mem_filter.mpr ⟨List.mem_of_getElem? (i := 743) (by decide +kernel), by decide +kernel⟩
theorem qw_744 : Cond.methodLink "SkyloadBureauLaw" 146 yL_due ∈ lw_G := List.mem_filter.mpr ⟨List.mem_of_getElem? (i := 744) (by decide +kernel), by decide +kernel⟩
theorem qw_745 : Cond.static yL_due ∈ lw_G := List.mem_filter.mpr ⟨List.mem_of_getElem? (i := 745) (by decide +kernel), by decide +kernel⟩
theorem qw_746 : Cond.codeWith yL_due method_18_code 4 (some FieldType.int) [(0, 9, 12, 13)] ∈ lw_G := List.mem_filter.mpr ⟨List.mem_of_getElem? (i := 746) (by decide +kernel), by decide +kernel⟩
theorem qw_747 : Cond.methodLink "SkyloadBureauLaw" 65 yX4_due ∈ lw_G := List.mem_filter.mpr ⟨List.mem_of_getElem? (i := 747) (by decide +kernel), by decide +kernel⟩
theorem qw_748 : Cond.instanceMethod yX4_due ∈ lw_G := List.mem_filter.mpr ⟨List.mem_of_getElem? (i := 748) (by decide +kernel), by decide +kernel⟩
theorem qw_749 : Cond.selects "SkyloadBureau" yX4_due yX4_due ∈ lw_G := List.mem_filter.mpr ⟨List.mem_of_getElem? (i := 749) (by decide +kernel), by decide +kernel⟩
theorem qw_750 : Cond.code yX4_due prog_1_method_17_code 3 (some FieldType.int) ∈ lw_G := List.mem_filter.mpr ⟨List.mem_of_getElem? (i := 750) (by decide +kernel), by decide +kernel⟩
theorem qw_751 : Cond.methodLink "SkyloadBureauLaw" 150 yL_dueAnew ∈ lw_G := List.mem_filter.mpr ⟨List.mem_of_getElem? (i := 751) (by decide +kernel), by decide +kernel⟩
theorem qw_752 : Cond.static yL_dueAnew ∈ lw_G := List.mem_filter.mpr ⟨List.mem_of_getElem? (i := 752) (by decide +kernel), by decide +kernel⟩
theorem qw_753 : Cond.codeWith yL_dueAnew method_19_code 4 (some FieldType.int) [(0, 9, 12, 13)] ∈ lw_G := List.mem_filter.mpr ⟨List.mem_of_getElem? (i := 753) (by decide +kernel), by decide +kernel⟩
theorem qw_754 : Cond.methodLink "SkyloadBureauLaw" 69 yX4_dueAnew ∈ lw_G := List.mem_filter.mpr ⟨List.mem_of_getElem? (i := 754) (by decide +kernel), by decide +kernel⟩
theorem qw_755 : Cond.instanceMethod yX4_dueAnew ∈ lw_G := List.mem_filter.mpr ⟨List.mem_of_getElem? (i := 755) (by decide +kernel), by decide +kernel⟩
theorem qw_756 : Cond.selects "SkyloadBureau" yX4_dueAnew yX4_dueAnew ∈ lw_G := List.mem_filter.mpr ⟨List.mem_of_getElem? (i := 756) (by decide +kernel), by decide +kernel⟩
theorem qw_757 : Cond.code yX4_dueAnew prog_1_method_18_code 4 (some FieldType.int) ∈ lw_G := List.mem_filter.mpr ⟨List.mem_of_getElem? (i := 757) (by decide +kernel), by decide +kernel⟩
theorem qw_758 : Cond.methodLink "SkyloadBureau" 207 yX0_penaltyBySlots ∈ lw_G := List.mem_filter.mpr ⟨List.mem_of_getElem? (i := 758) (by decide +kernel), by decide +kernel⟩
theorem qw_759 : Cond.instanceMethod yX0_penaltyBySlots ∈ lw_G := List.mem_filter.mpr ⟨List.mem_of_getElem? (i := 759) (by decide +kernel), by decide +kernel⟩
theorem qw_760 : Cond.selects "SkyloadBureau$Dealing" yX0_penaltyBySlots yX0_penaltyBySlots ∈ lw_G := List.mem_filter.mpr ⟨List.mem_of_getElem? (i := 760) (by decide +kernel), by decide +kernel⟩
theorem qw_761 : Cond.code yX0_penaltyBySlots prog_2_method_5_code 10 (some FieldType.int) ∈ lw_G := List.mem_filter.mpr ⟨List.mem_of_getElem? (i := 761) (by decide +kernel), by decide +kernel⟩
theorem qw_762 : Cond.methodLink "SkyloadBureau$Dealing" 112 yX2_placeOf ∈ lw_G := List.mem_filter.mpr ⟨List.mem_of_getElem? (i := 762) (by decide +kernel), by decide +kernel⟩
theorem qw_763 : Cond.methodLink "SkyloadBureau$Dealing" 115 yX2_canTake ∈ lw_G := List.mem_filter.mpr ⟨List.mem_of_getElem? (i := 763) (by decide +kernel), by decide +kernel⟩
theorem qw_764 : Cond.instanceMethod yX2_canTake ∈ lw_G := List.mem_filter.mpr ⟨List.mem_of_getElem? (i := 764) (by decide +kernel), by decide +kernel⟩
theorem qw_765 : Cond.selects "SkyloadBureau$Line" yX2_canTake yX2_canTake ∈ lw_G := List.mem_filter.mpr ⟨List.mem_of_getElem? (i := 765) (by decide +kernel), by decide +kernel⟩
theorem qw_766 : Cond.code yX2_canTake prog_4_method_11_code 3 (some FieldType.boolean) ∈ lw_G := List.mem_filter.mpr ⟨List.mem_of_getElem? (i := 766) (by decide +kernel), by decide +kernel⟩
theorem qw_767 : Cond.methodLink "SkyloadBureauLaw" 157 yL_would ∈ lw_G := List.mem_filter.mpr ⟨List.mem_of_getElem? (i := 767) (by decide +kernel), by decide +kernel⟩
theorem qw_768 : Cond.static yL_would ∈ lw_G := List.mem_filter.mpr ⟨List.mem_of_getElem? (i := 768) (by decide +kernel), by decide +kernel⟩
theorem qw_769 : Cond.codeWith yL_would method_20_code 7 (some FieldType.int) [(0, 14, 17, 13), (0, 14, 21, 15)] ∈ lw_G := List.mem_filter.mpr ⟨List.mem_of_getElem? (i := 769) (by decide +kernel), by decide +kernel⟩
theorem qw_770 : Cond.methodLink "SkyloadBureauLaw" 72 yX4_would ∈ lw_G := List.mem_filter.mpr ⟨List.mem_of_getElem? (i := 770) (by decide +kernel), by decide +kernel⟩
theorem qw_771 : Cond.instanceMethod yX4_would ∈ lw_G := List.mem_filter.mpr ⟨List.mem_of_getElem? (i := 771) (by decide +kernel), by decide +kernel⟩
theorem qw_772 : Cond.selects "SkyloadBureau" yX4_would yX4_would ∈ lw_G := List.mem_filter.mpr ⟨List.mem_of_getElem? (i := 772) (by decide +kernel), by decide +kernel⟩
theorem qw_773 : Cond.code yX4_would prog_1_method_20_code 5 (some FieldType.int) ∈ lw_G := List.mem_filter.mpr ⟨List.mem_of_getElem? (i := 773) (by decide +kernel), by decide +kernel⟩
theorem qw_774 : Cond.methodLink "SkyloadBureauLaw" 165 yL_swap ∈ lw_G := List.mem_filter.mpr ⟨List.mem_of_getElem? (i := 774) (by decide +kernel), by decide +kernel⟩
theorem qw_775 : Cond.static yL_swap ∈ lw_G := List.mem_filter.mpr ⟨List.mem_of_getElem? (i := 775) (by decide +kernel), by decide +kernel⟩
theorem qw_776 : Cond.codeWith yL_swap method_21_code 4 (some FieldType.int) [(0, 6, 9, 13), (0, 6, 12, 15), (0, 6, 15, 17)] ∈ lw_G := List.mem_filter.mpr ⟨List.mem_of_getElem? (i := 776) (by decide +kernel), by decide +kernel⟩
theorem qw_777 : Cond.methodLink "SkyloadBureauLaw" 75 yX4_swap ∈ lw_G := List.mem_filter.mpr ⟨List.mem_of_getElem? (i := 777) (by decide +kernel), by decide +kernel⟩
theorem qw_778 : Cond.instanceMethod yX4_swap ∈ lw_G := List.mem_filter.mpr ⟨List.mem_of_getElem? (i := 778) (by decide +kernel), by decide +kernel⟩
theorem qw_779 : Cond.selects "SkyloadBureau" yX4_swap yX4_swap ∈ lw_G := List.mem_filter.mpr ⟨List.mem_of_getElem? (i := 779) (by decide +kernel), by decide +kernel⟩
theorem qw_780 : Cond.code yX4_swap prog_1_method_22_code 8 (Option.none : Option Jvm.ClassFile.FieldType) ∈ lw_G := List.mem_filter.mpr ⟨List.mem_of_getElem? (i := 780) (by decide +kernel), by decide +kernel⟩
theorem qw_782 : Cond.methodLink "SkyloadBureau" 230 yX1_sharesRuling ∈ lw_G := List.mem_filter.mpr ⟨List.mem_of_getElem? (i := 782) (by decide +kernel), by decide +kernel⟩
theorem qw_783 : Cond.instanceMethod yX1_sharesRuling ∈ lw_G := List.mem_filter.mpr ⟨List.mem_of_getElem? (i := 783) (by decide +kernel), by decide +kernel⟩
theorem qw_784 : Cond.selects "SkyloadBureau$Flight" yX1_sharesRuling yX1_sharesRuling ∈ lw_G := List.mem_filter.mpr ⟨List.mem_of_getElem? (i := 784) (by decide +kernel), by decide +kernel⟩
theorem qw_785 : Cond.code yX1_sharesRuling prog_3_method_22_code 2 (some FieldType.boolean) ∈ lw_G := List.mem_filter.mpr ⟨List.mem_of_getElem? (i := 785) (by decide +kernel), by decide +kernel⟩
theorem qw_787 : Cond.methodLink "SkyloadBureau" 239 yX1_behindAt ∈ lw_G := List.mem_filter.mpr ⟨List.mem_of_getElem? (i := 787) (by decide +kernel), by decide +kernel⟩
theorem qw_789 : Cond.methodLink "SkyloadBureauLaw" 169 yL_message ∈ lw_G := List.mem_filter.mpr ⟨List.mem_of_getElem? (i := 789) (by decide +kernel), by decide +kernel⟩
theorem qw_790 : Cond.static yL_message ∈ lw_G := List.mem_filter.mpr ⟨List.mem_of_getElem? (i := 790) (by decide +kernel), by decide +kernel⟩
theorem qw_791 : Cond.codeWith yL_message method_22_code 7 (some FieldType.int) [(0, 21, 24, 13), (0, 21, 28, 15)] ∈ lw_G := List.mem_filter.mpr ⟨List.mem_of_getElem? (i := 791) (by decide +kernel), by decide +kernel⟩
theorem qw_792 : Cond.methodLink "SkyloadBureauLaw" 79 yX4_message ∈ lw_G := List.mem_filter.mpr ⟨List.mem_of_getElem? (i := 792) (by decide +kernel), by decide +kernel⟩
theorem qw_793 : Cond.instanceMethod yX4_message ∈ lw_G := List.mem_filter.mpr ⟨List.mem_of_getElem? (i := 793) (by decide +kernel), by decide +kernel⟩
theorem qw_794 : Cond.selects "SkyloadBureau" yX4_message yX4_message ∈ lw_G := List.mem_filter.mpr ⟨List.mem_of_getElem? (i := 794) (by decide +kernel), by decide +kernel⟩
theorem qw_795 : Cond.code yX4_message prog_1_method_23_code 6 (some FieldType.boolean) ∈ lw_G := List.mem_filter.mpr ⟨List.mem_of_getElem? (i := 795) (by decide +kernel), by decide +kernel⟩
theorem qw_796 : Cond.methodLink "SkyloadBureau" 244 yX1_follow ∈ lw_G := List.mem_filter.mpr ⟨List.mem_of_getElem? (i := 796) (by decide +kernel), by decide +kernel⟩
theorem qw_797 : Cond.instanceMethod yX1_follow ∈ lw_G := List.mem_filter.mpr ⟨List.mem_of_getElem? (i := 797) (by decide +kernel), by decide +kernel⟩
theorem qw_798 : Cond.selects "SkyloadBureau$Flight" yX1_follow yX1_follow ∈ lw_G := List.mem_filter.mpr ⟨List.mem_of_getElem? (i := 798) (by decide +kernel), by decide +kernel⟩
theorem qw_799 : Cond.code yX1_follow prog_3_method_23_code 3 (Option.none : Option Jvm.ClassFile.FieldType) ∈ lw_G := List.mem_filter.mpr ⟨List.mem_of_getElem? (i := 799) (by decide +kernel), by decide +kernel⟩
theorem qw_800 : Cond.methodLink "SkyloadBureauLaw" 172 yL_companyIs ∈ lw_G := List.mem_filter.mpr ⟨List.mem_of_getElem? (i := 800) (by decide +kernel), by decide +kernel⟩
theorem qw_801 : Cond.static yL_companyIs ∈ lw_G := List.mem_filter.mpr ⟨List.mem_of_getElem? (i := 801) (by decide +kernel), by decide +kernel⟩
theorem qw_802 : Cond.codeWith yL_companyIs method_23_code 5 (some FieldType.int) [(0, 10, 13, 13), (0, 10, 17, 15)] ∈ lw_G := List.mem_filter.mpr ⟨List.mem_of_getElem? (i := 802) (by decide +kernel), by decide +kernel⟩
theorem qw_803 : Cond.methodLink "SkyloadBureauLaw" 83 yX4_companyIs ∈ lw_G := List.mem_filter.mpr ⟨List.mem_of_getElem? (i := 803) (by decide +kernel), by decide +kernel⟩
theorem qw_804 : Cond.instanceMethod yX4_companyIs ∈ lw_G := List.mem_filter.mpr ⟨List.mem_of_getElem? (i := 804) (by decide +kernel), by decide +kernel⟩
theorem qw_805 : Cond.selects "SkyloadBureau" yX4_companyIs yX4_companyIs ∈ lw_G := List.mem_filter.mpr ⟨List.mem_of_getElem? (i := 805) (by decide +kernel), by decide +kernel⟩
theorem qw_806 : Cond.code yX4_companyIs prog_1_method_24_code 6 (some FieldType.int) ∈ lw_G := List.mem_filter.mpr ⟨List.mem_of_getElem? (i := 806) (by decide +kernel), by decide +kernel⟩
theorem qw_807 : Cond.methodLink "SkyloadBureau" 250 yX1_ledgerLine ∈ lw_G := List.mem_filter.mpr ⟨List.mem_of_getElem? (i := 807) (by decide +kernel), by decide +kernel⟩
theorem qw_808 : Cond.instanceMethod yX1_ledgerLine ∈ lw_G := List.mem_filter.mpr ⟨List.mem_of_getElem? (i := 808) (by decide +kernel), by decide +kernel⟩
theorem qw_809 : Cond.selects "SkyloadBureau$Flight" yX1_ledgerLine yX1_ledgerLine ∈ lw_G := List.mem_filter.mpr ⟨List.mem_of_getElem? (i := 809) (by decide +kernel), by decide +kernel⟩
theorem qw_810 : Cond.code yX1_ledgerLine prog_3_method_18_code 2 (some FieldType.int) ∈ lw_G := List.mem_filter.mpr ⟨List.mem_of_getElem? (i := 810) (by decide +kernel), by decide +kernel⟩
theorem qw_811 : Cond.methodLink "SkyloadBureau$Flight" 80 yX1_charge ∈ lw_G := List.mem_filter.mpr ⟨List.mem_of_getElem? (i := 811) (by decide +kernel), by decide +kernel⟩
theorem qw_812 : Cond.methodLink "SkyloadBureau$Flight" 83 yX1_wentOutOfWindow ∈ lw_G := List.mem_filter.mpr ⟨List.mem_of_getElem? (i := 812) (by decide +kernel), by decide +kernel⟩
theorem qw_813 : Cond.instanceMethod yX1_wentOutOfWindow ∈ lw_G := List.mem_filter.mpr ⟨List.mem_of_getElem? (i := 813) (by decide +kernel), by decide +kernel⟩
theorem qw_814 : Cond.selects "SkyloadBureau$Flight" yX1_wentOutOfWindow yX1_wentOutOfWindow ∈ lw_G := List.mem_filter.mpr ⟨List.mem_of_getElem? (i := 814) (by decide +kernel), by decide +kernel⟩
theorem qw_815 : Cond.code yX1_wentOutOfWindow prog_3_method_17_code 1 (some FieldType.boolean) ∈ lw_G := List.mem_filter.mpr ⟨List.mem_of_getElem? (i := 815) (by decide +kernel), by decide +kernel⟩
theorem qw_816 : Cond.classLink "SkyloadBureauLaw" 87 "SkyloadBureauModel" ∈ lw_G := List.mem_filter.mpr ⟨List.mem_of_getElem? (i := 816) (by decide +kernel), by decide +kernel⟩
theorem qw_817 : Cond.instantiable "SkyloadBureauModel" 30 ∈ lw_G := List.mem_filter.mpr ⟨List.mem_of_getElem? (i := 817) (by decide +kernel), by decide +kernel⟩
theorem qw_818 : Cond.methodLink "SkyloadBureauLaw" 89 yX5_init ∈ lw_G := List.mem_filter.mpr ⟨List.mem_of_getElem? (i := 818) (by decide +kernel), by decide +kernel⟩
theorem qw_819 : Cond.instanceMethod yX5_init ∈ lw_G := List.mem_filter.mpr ⟨List.mem_of_getElem? (i := 819) (by decide +kernel), by decide +kernel⟩
theorem qw_820 : Cond.code yX5_init prog_7_method_1_code 1 (Option.none : Option Jvm.ClassFile.FieldType) ∈ lw_G := List.mem_filter.mpr ⟨List.mem_of_getElem? (i := 820) (by decide +kernel), by decide +kernel⟩
theorem qw_821 : Cond.methodLink "SkyloadBureauModel" 1 (⟨"java/lang/Object", "<init>", "()V"⟩ : MethodName) ∈ lw_G := List.mem_filter.mpr ⟨List.mem_of_getElem? (i := 821) (by decide +kernel), by decide +kernel⟩
theorem qw_822 : Cond.fieldLink "SkyloadBureauModel" 77 "SkyloadBureauModel" "thrown" "I" ∈ lw_G := List.mem_filter.mpr ⟨List.mem_of_getElem? (i := 822) (by decide +kernel), by decide +kernel⟩
theorem qw_823 : Cond.fieldLink "SkyloadBureauModel" 81 "SkyloadBureauModel" "flights" "I" ∈ lw_G := List.mem_filter.mpr ⟨List.mem_of_getElem? (i := 823) (by decide +kernel), by decide +kernel⟩
theorem qw_824 : Cond.fieldLink "SkyloadBureauModel" 7 "SkyloadBureauModel" "company" "[I" ∈ lw_G := List.mem_filter.mpr ⟨List.mem_of_getElem? (i := 824) (by decide +kernel), by decide +kernel⟩
theorem qw_825 : Cond.fieldLink "SkyloadBureauModel" 13 "SkyloadBureauModel" "planned" "[I" ∈ lw_G := List.mem_filter.mpr ⟨List.mem_of_getElem? (i := 825) (by decide +kernel), by decide +kernel⟩
theorem qw_826 : Cond.fieldLink "SkyloadBureauModel" 16 "SkyloadBureauModel" "how" "[I" ∈ lw_G := List.mem_filter.mpr ⟨List.mem_of_getElem? (i := 826) (by decide +kernel), by decide +kernel⟩
theorem qw_827 : Cond.fieldLink "SkyloadBureauModel" 19 "SkyloadBureauModel" "went" "[I" ∈ lw_G := List.mem_filter.mpr ⟨List.mem_of_getElem? (i := 827) (by decide +kernel), by decide +kernel⟩
theorem qw_828 : Cond.fieldLink "SkyloadBureauModel" 22 "SkyloadBureauModel" "slot" "[I" ∈ lw_G := List.mem_filter.mpr ⟨List.mem_of_getElem? (i := 828) (by decide +kernel), by decide +kernel⟩
theorem qw_829 : Cond.fieldLink "SkyloadBureauModel" 25 "SkyloadBureauModel" "ruling" "[I" ∈ lw_G := List.mem_filter.mpr ⟨List.mem_of_getElem? (i := 829) (by decide +kernel), by decide +kernel⟩
theorem qw_830 : Cond.fieldLink "SkyloadBureauModel" 28 "SkyloadBureauModel" "entries" "[I" ∈ lw_G := List.mem_filter.mpr ⟨List.mem_of_getElem? (i := 830) (by decide +kernel), by decide +kernel⟩
theorem qw_831 : Cond.fieldLink "SkyloadBureauModel" 31 "SkyloadBureauModel" "latest" "[I" ∈ lw_G := List.mem_filter.mpr ⟨List.mem_of_getElem? (i := 831) (by decide +kernel), by decide +kernel⟩
theorem qw_832 : Cond.fieldLink "SkyloadBureauModel" 34 "SkyloadBureauModel" "message" "[I" ∈ lw_G := List.mem_filter.mpr ⟨List.mem_of_getElem? (i := 832) (by decide +kernel), by decide +kernel⟩
theorem qw_833 : Cond.fieldLink "SkyloadBureauModel" 37 "SkyloadBureauModel" "isExempt" "[Z" ∈ lw_G := List.mem_filter.mpr ⟨List.mem_of_getElem? (i := 833) (by decide +kernel), by decide +kernel⟩
theorem qw_834 : Cond.fieldLink "SkyloadBureauModel" 41 "SkyloadBureauModel" "behind" "[I" ∈ lw_G := List.mem_filter.mpr ⟨List.mem_of_getElem? (i := 834) (by decide +kernel), by decide +kernel⟩
theorem qw_835 : Cond.fieldLink "SkyloadBureauModel" 44 "SkyloadBureauModel" "stays" "[I" ∈ lw_G := List.mem_filter.mpr ⟨List.mem_of_getElem? (i := 835) (by decide +kernel), by decide +kernel⟩
theorem qw_836 : Cond.fieldLink "SkyloadBureauModel" 88 "SkyloadBureauModel" "regulations" "I" ∈ lw_G := List.mem_filter.mpr ⟨List.mem_of_getElem? (i := 836) (by decide +kernel), by decide +kernel⟩
theorem qw_837 : Cond.fieldLink "SkyloadBureauModel" 47 "SkyloadBureauModel" "sector" "[I" ∈ lw_G := List.mem_filter.mpr ⟨List.mem_of_getElem? (i := 837) (by decide +kernel), by decide +kernel⟩
theorem qw_838 : Cond.fieldLink "SkyloadBureauModel" 50 "SkyloadBureauModel" "from" "[I" ∈ lw_G := List.mem_filter.mpr ⟨List.mem_of_getElem? (i := 838) (by decide +kernel), by decide +kernel⟩
theorem qw_839 : Cond.fieldLink "SkyloadBureauModel" 53 "SkyloadBureauModel" "to" "[I" ∈ lw_G := List.mem_filter.mpr ⟨List.mem_of_getElem? (i := 839) (by decide +kernel), by decide +kernel⟩
theorem qw_840 : Cond.fieldLink "SkyloadBureauModel" 56 "SkyloadBureauModel" "rate" "[I" ∈ lw_G := List.mem_filter.mpr ⟨List.mem_of_getElem? (i := 840) (by decide +kernel), by decide +kernel⟩
theorem qw_841 : Cond.fieldLink "SkyloadBureauModel" 59 "SkyloadBureauModel" "charged" "[I" ∈ lw_G := List.mem_filter.mpr ⟨List.mem_of_getElem? (i := 841) (by decide +kernel), by decide +kernel⟩
theorem qw_842 : Cond.fieldLink "SkyloadBureauModel" 62 "SkyloadBureauModel" "isEnded" "[Z" ∈ lw_G := List.mem_filter.mpr ⟨List.mem_of_getElem? (i := 842) (by decide +kernel), by decide +kernel⟩
theorem qw_843 : Cond.fieldLink "SkyloadBureauModel" 65 "SkyloadBureauModel" "bill" "[I" ∈ lw_G := List.mem_filter.mpr ⟨List.mem_of_getElem? (i := 843) (by decide +kernel), by decide +kernel⟩
theorem qw_844 : Cond.fieldLink "SkyloadBureauModel" 68 "SkyloadBureauModel" "outside" "[I" ∈ lw_G := List.mem_filter.mpr ⟨List.mem_of_getElem? (i := 844) (by decide +kernel), by decide +kernel⟩
theorem qw_845 : Cond.fieldLink "SkyloadBureauModel" 71 "SkyloadBureauModel" "isTaken" "[Z" ∈ lw_G := List.mem_filter.mpr ⟨List.mem_of_getElem? (i := 845) (by decide +kernel), by decide +kernel⟩
theorem qw_846 : Cond.fieldLink "SkyloadBureauModel" 130 "SkyloadBureauModel" "slots" "I" ∈ lw_G := List.mem_filter.mpr ⟨List.mem_of_getElem? (i := 846) (by decide +kernel), by decide +kernel⟩
theorem qw_847 : Cond.fieldLink "SkyloadBureauModel" 146 "SkyloadBureauModel" "free" "I" ∈ lw_G := List.mem_filter.mpr ⟨List.mem_of_getElem? (i := 847) (by decide +kernel), by decide +kernel⟩
theorem qw_848 : Cond.fieldLink "SkyloadBureauModel" 149 "SkyloadBureauModel" "fixed" "I" ∈ lw_G := List.mem_filter.mpr ⟨List.mem_of_getElem? (i := 848) (by decide +kernel), by decide +kernel⟩
theorem qw_849 : Cond.fieldLink "SkyloadBureauModel" 152 "SkyloadBureauModel" "listed" "I" ∈ lw_G := List.mem_filter.mpr ⟨List.mem_of_getElem? (i := 849) (by decide +kernel), by decide +kernel⟩
theorem qw_850 : Cond.fieldLink "SkyloadBureauModel" 155 "SkyloadBureauModel" "without" "I" ∈ lw_G := List.mem_filter.mpr ⟨List.mem_of_getElem? (i := 850) (by decide +kernel), by decide +kernel⟩
theorem qw_851 : Cond.fieldLink "SkyloadBureauModel" 74 "SkyloadBureauModel" "penalty" "[I" ∈ lw_G := List.mem_filter.mpr ⟨List.mem_of_getElem? (i := 851) (by decide +kernel), by decide +kernel⟩
theorem qw_852 : Cond.lays "SkyloadBureauModel" "SkyloadBureauModel" "thrown" "I" ∈ lw_G := List.mem_filter.mpr ⟨List.mem_of_getElem? (i := 852) (by decide +kernel), by decide +kernel⟩
theorem qw_854 : Cond.lays "SkyloadBureauModel" "SkyloadBureauModel" "flights" "I" ∈ lw_G := List.mem_filter.mpr ⟨List.mem_of_getElem? (i := 854) (by decide +kernel), by decide +kernel⟩
theorem qw_856 : Cond.laysFinal "SkyloadBureauModel" "SkyloadBureauModel" "company" "[I" ∈ lw_G := List.mem_filter.mpr ⟨List.mem_of_getElem? (i := 856) (by decide +kernel), by decide +kernel⟩
theorem qw_858 : Cond.laysFinal "SkyloadBureauModel" "SkyloadBureauModel" "planned" "[I" ∈ lw_G := List.mem_filter.mpr ⟨List.mem_of_getElem? (i := 858) (by decide +kernel), by decide +kernel⟩
theorem qw_860 : Cond.laysFinal "SkyloadBureauModel" "SkyloadBureauModel" "how" "[I" ∈ lw_G := List.mem_filter.mpr ⟨List.mem_of_getElem? (i := 860) (by decide +kernel), by decide +kernel⟩
theorem qw_862 : Cond.laysFinal "SkyloadBureauModel" "SkyloadBureauModel" "went" "[I" ∈ lw_G := List.mem_filter.mpr ⟨List.mem_of_getElem? (i := 862) (by decide +kernel), by decide +kernel⟩
theorem qw_864 : Cond.laysFinal "SkyloadBureauModel" "SkyloadBureauModel" "slot" "[I" ∈ lw_G := List.mem_filter.mpr ⟨List.mem_of_getElem? (i := 864) (by decide +kernel), by decide +kernel⟩
theorem qw_866 : Cond.laysFinal "SkyloadBureauModel" "SkyloadBureauModel" "ruling" "[I" ∈ lw_G := List.mem_filter.mpr ⟨List.mem_of_getElem? (i := 866) (by decide +kernel), by decide +kernel⟩
theorem qw_868 : Cond.laysFinal "SkyloadBureauModel" "SkyloadBureauModel" "entries" "[I" ∈ lw_G := List.mem_filter.mpr ⟨List.mem_of_getElem? (i := 868) (by decide +kernel), by decide +kernel⟩
theorem qw_870 : Cond.laysFinal "SkyloadBureauModel" "SkyloadBureauModel" "latest" "[I" ∈ lw_G := List.mem_filter.mpr ⟨List.mem_of_getElem? (i := 870) (by decide +kernel), by decide +kernel⟩
theorem qw_872 : Cond.laysFinal "SkyloadBureauModel" "SkyloadBureauModel" "message" "[I" ∈ lw_G := List.mem_filter.mpr ⟨List.mem_of_getElem? (i := 872) (by decide +kernel), by decide +kernel⟩
theorem qw_874 : Cond.laysFinal "SkyloadBureauModel" "SkyloadBureauModel" "isExempt" "[Z" ∈ lw_G := List.mem_filter.mpr ⟨List.mem_of_getElem? (i := 874) (by decide +kernel), by decide +kernel⟩
theorem qw_876 : Cond.laysFinal "SkyloadBureauModel" "SkyloadBureauModel" "behind" "[I" ∈ lw_G := List.mem_filter.mpr ⟨List.mem_of_getElem? (i := 876) (by decide +kernel), by decide +kernel⟩
theorem qw_878 : Cond.laysFinal "SkyloadBureauModel" "SkyloadBureauModel" "stays" "[I" ∈ lw_G := List.mem_filter.mpr ⟨List.mem_of_getElem? (i := 878) (by decide +kernel), by decide +kernel⟩
theorem qw_880 : Cond.lays "SkyloadBureauModel" "SkyloadBureauModel" "regulations" "I" ∈ lw_G := List.mem_filter.mpr ⟨List.mem_of_getElem? (i := 880) (by decide +kernel), by decide +kernel⟩
theorem qw_882 : Cond.laysFinal "SkyloadBureauModel" "SkyloadBureauModel" "sector" "[I" ∈ lw_G := List.mem_filter.mpr ⟨List.mem_of_getElem? (i := 882) (by decide +kernel), by decide +kernel⟩
theorem qw_884 : Cond.laysFinal "SkyloadBureauModel" "SkyloadBureauModel" "from" "[I" ∈ lw_G := List.mem_filter.mpr ⟨List.mem_of_getElem? (i := 884) (by decide +kernel), by decide +kernel⟩
theorem qw_886 : Cond.laysFinal "SkyloadBureauModel" "SkyloadBureauModel" "to" "[I" ∈ lw_G := List.mem_filter.mpr ⟨List.mem_of_getElem? (i := 886) (by decide +kernel), by decide +kernel⟩
theorem qw_888 : Cond.laysFinal "SkyloadBureauModel" "SkyloadBureauModel" "rate" "[I" ∈ lw_G := List.mem_filter.mpr ⟨List.mem_of_getElem? (i := 888) (by decide +kernel), by decide +kernel⟩
theorem qw_890 : Cond.laysFinal "SkyloadBureauModel" "SkyloadBureauModel" "charged" "[I" ∈ lw_G := List.mem_filter.mpr ⟨List.mem_of_getElem? (i := 890) (by decide +kernel), by decide +kernel⟩
theorem qw_892 : Cond.laysFinal "SkyloadBureauModel" "SkyloadBureauModel" "isEnded" "[Z" ∈ lw_G := List.mem_filter.mpr ⟨List.mem_of_getElem? (i := 892) (by decide +kernel), by decide +kernel⟩
theorem qw_894 : Cond.laysFinal "SkyloadBureauModel" "SkyloadBureauModel" "bill" "[I" ∈ lw_G := List.mem_filter.mpr ⟨List.mem_of_getElem? (i := 894) (by decide +kernel), by decide +kernel⟩
theorem qw_896 : Cond.laysFinal "SkyloadBureauModel" "SkyloadBureauModel" "outside" "[I" ∈ lw_G := List.mem_filter.mpr ⟨List.mem_of_getElem? (i := 896) (by decide +kernel), by decide +kernel⟩
theorem qw_898 : Cond.laysFinal "SkyloadBureauModel" "SkyloadBureauModel" "isTaken" "[Z" ∈ lw_G := List.mem_filter.mpr ⟨List.mem_of_getElem? (i := 898) (by decide +kernel), by decide +kernel⟩
theorem qw_900 : Cond.lays "SkyloadBureauModel" "SkyloadBureauModel" "slots" "I" ∈ lw_G := List.mem_filter.mpr ⟨List.mem_of_getElem? (i := 900) (by decide +kernel), by decide +kernel⟩
theorem qw_902 : Cond.lays "SkyloadBureauModel" "SkyloadBureauModel" "free" "I" ∈ lw_G := List.mem_filter.mpr ⟨List.mem_of_getElem? (i := 902) (by decide +kernel), by decide +kernel⟩
theorem qw_904 : Cond.lays "SkyloadBureauModel" "SkyloadBureauModel" "fixed" "I" ∈ lw_G := List.mem_filter.mpr ⟨List.mem_of_getElem? (i := 904) (by decide +kernel), by decide +kernel⟩
theorem qw_906 : Cond.lays "SkyloadBureauModel" "SkyloadBureauModel" "listed" "I" ∈ lw_G := List.mem_filter.mpr ⟨List.mem_of_getElem? (i := 906) (by decide +kernel), by decide +kernel⟩
theorem qw_908 : Cond.lays "SkyloadBureauModel" "SkyloadBureauModel" "without" "I" ∈ lw_G := List.mem_filter.mpr ⟨List.mem_of_getElem? (i := 908) (by decide +kernel), by decide +kernel⟩
theorem qw_910 : Cond.laysFinal "SkyloadBureauModel" "SkyloadBureauModel" "penalty" "[I" ∈ lw_G := List.mem_filter.mpr ⟨List.mem_of_getElem? (i := 910) (by decide +kernel), by decide +kernel⟩
theorem qw_912 : Cond.superclass "SkyloadBureauModel" "java/lang/Object" ∈ lw_G := List.mem_filter.mpr ⟨List.mem_of_getElem? (i := 912) (by decide +kernel), by decide +kernel⟩
theorem qw_913 : Cond.arrayClass FieldType.boolean ∈ lw_G := List.mem_filter.mpr ⟨List.mem_of_getElem? (i := 913) (by decide +kernel), by decide +kernel⟩
theorem qw_914 : Cond.methodLink "SkyloadBureauLaw" 96 yX5_thrown ∈ lw_G := List.mem_filter.mpr ⟨List.mem_of_getElem? (i := 914) (by decide +kernel), by decide +kernel⟩
theorem qw_915 : Cond.instanceMethod yX5_thrown ∈ lw_G := List.mem_filter.mpr ⟨List.mem_of_getElem? (i := 915) (by decide +kernel), by decide +kernel⟩
theorem qw_916 : Cond.selects "SkyloadBureauModel" yX5_thrown yX5_thrown ∈ lw_G := List.mem_filter.mpr ⟨List.mem_of_getElem? (i := 916) (by decide +kernel), by decide +kernel⟩
theorem qw_917 : Cond.code yX5_thrown prog_7_method_2_code 1 (some FieldType.int) ∈ lw_G := List.mem_filter.mpr ⟨List.mem_of_getElem? (i := 917) (by decide +kernel), by decide +kernel⟩
theorem qw_918 : Cond.methodLink "SkyloadBureauLaw" 95 yX5_flight ∈ lw_G := List.mem_filter.mpr ⟨List.mem_of_getElem? (i := 918) (by decide +kernel), by decide +kernel⟩
theorem qw_919 : Cond.instanceMethod yX5_flight ∈ lw_G := List.mem_filter.mpr ⟨List.mem_of_getElem? (i := 919) (by decide +kernel), by decide +kernel⟩
theorem qw_920 : Cond.selects "SkyloadBureauModel" yX5_flight yX5_flight ∈ lw_G := List.mem_filter.mpr ⟨List.mem_of_getElem? (i := 920) (by decide +kernel), by decide +kernel⟩
theorem qw_921 : Cond.code yX5_flight prog_7_method_8_code 4 (some FieldType.int) ∈ lw_G := List.mem_filter.mpr ⟨List.mem_of_getElem? (i := 921) (by decide +kernel), by decide +kernel⟩
theorem qw_922 : Cond.methodLink "SkyloadBureauModel" 84 yX5_isIn ∈ lw_G := List.mem_filter.mpr ⟨List.mem_of_getElem? (i := 922) (by decide +kernel), by decide +kernel⟩
theorem qw_923 : Cond.static yX5_isIn ∈ lw_G := List.mem_filter.mpr ⟨List.mem_of_getElem? (i := 923) (by decide +kernel), by decide +kernel⟩
theorem qw_924 : Cond.code yX5_isIn prog_7_method_4_code 3 (some FieldType.boolean) ∈ lw_G := List.mem_filter.mpr ⟨List.mem_of_getElem? (i := 924) (by decide +kernel), by decide +kernel⟩
theorem qw_925 : Cond.methodLink "SkyloadBureauModel" 91 yX5_holds ∈ lw_G := List.mem_filter.mpr ⟨List.mem_of_getElem? (i := 925) (by decide +kernel), by decide +kernel⟩
theorem qw_927 : Cond.instanceMethod yX5_holds ∈ lw_G := List.mem_filter.mpr ⟨List.mem_of_getElem? (i := 927) (by decide +kernel), by decide +kernel⟩
theorem qw_928 : Cond.code yX5_holds prog_7_method_3_code 2 (some FieldType.boolean) ∈ lw_G := List.mem_filter.mpr ⟨List.mem_of_getElem? (i := 928) (by decide +kernel), by decide +kernel⟩
theorem qw_929 : Cond.methodLink "SkyloadBureauLaw" 103 yX5_entry ∈ lw_G := List.mem_filter.mpr ⟨List.mem_of_getElem? (i := 929) (by decide +kernel), by decide +kernel⟩
theorem qw_930 : Cond.instanceMethod yX5_entry ∈ lw_G := List.mem_filter.mpr ⟨List.mem_of_getElem? (i := 930) (by decide +kernel), by decide +kernel⟩
theorem qw_931 : Cond.selects "SkyloadBureauModel" yX5_entry yX5_entry ∈ lw_G := List.mem_filter.mpr ⟨List.mem_of_getElem? (i := 931) (by decide +kernel), by decide +kernel⟩
theorem qw_932 : Cond.code yX5_entry prog_7_method_9_code 8 (some FieldType.int) ∈ lw_G := List.mem_filter.mpr ⟨List.mem_of_getElem? (i := 932) (by decide +kernel), by decide +kernel⟩
theorem qw_933 : Cond.methodLink "SkyloadBureauModel" 95 yX5_isFlight ∈ lw_G := List.mem_filter.mpr ⟨List.mem_of_getElem? (i := 933) (by decide +kernel), by decide +kernel⟩
theorem qw_935 : Cond.instanceMethod yX5_isFlight ∈ lw_G := List.mem_filter.mpr ⟨List.mem_of_getElem? (i := 935) (by decide +kernel), by decide +kernel⟩
theorem qw_936 : Cond.code yX5_isFlight prog_7_method_5_code 2 (some FieldType.boolean) ∈ lw_G := List.mem_filter.mpr ⟨List.mem_of_getElem? (i := 936) (by decide +kernel), by decide +kernel⟩
theorem qw_937 : Cond.methodLink "SkyloadBureauModel" 98 yX5_isSector ∈ lw_G := List.mem_filter.mpr ⟨List.mem_of_getElem? (i := 937) (by decide +kernel), by decide +kernel⟩
theorem qw_938 : Cond.static yX5_isSector ∈ lw_G := List.mem_filter.mpr ⟨List.mem_of_getElem? (i := 938) (by decide +kernel), by decide +kernel⟩
theorem qw_939 : Cond.code yX5_isSector prog_7_method_7_code 1 (some FieldType.boolean) ∈ lw_G := List.mem_filter.mpr ⟨List.mem_of_getElem? (i := 939) (by decide +kernel), by decide +kernel⟩
theorem qw_940 : Cond.methodLink "SkyloadBureauLaw" 107 yX5_exempt ∈ lw_G := List.mem_filter.mpr ⟨List.mem_of_getElem? (i := 940) (by decide +kernel), by decide +kernel⟩
theorem qw_941 : Cond.instanceMethod yX5_exempt ∈ lw_G := List.mem_filter.mpr ⟨List.mem_of_getElem? (i := 941) (by decide +kernel), by decide +kernel⟩
theorem qw_942 : Cond.selects "SkyloadBureauModel" yX5_exempt yX5_exempt ∈ lw_G := List.mem_filter.mpr ⟨List.mem_of_getElem? (i := 942) (by decide +kernel), by decide +kernel⟩
theorem qw_943 : Cond.code yX5_exempt prog_7_method_10_code 5 (some FieldType.boolean) ∈ lw_G := List.mem_filter.mpr ⟨List.mem_of_getElem? (i := 943) (by decide +kernel), by decide +kernel⟩
theorem qw_944 : Cond.methodLink "SkyloadBureauLaw" 110 yX5_flightIs ∈ lw_G := List.mem_filter.mpr ⟨List.mem_of_getElem? (i := 944) (by decide +kernel), by decide +kernel⟩
theorem qw_945 : Cond.instanceMethod yX5_flightIs ∈ lw_G := List.mem_filter.mpr ⟨List.mem_of_getElem? (i := 945) (by decide +kernel), by decide +kernel⟩
theorem qw_946 : Cond.selects "SkyloadBureauModel" yX5_flightIs yX5_flightIs ∈ lw_G := List.mem_filter.mpr ⟨List.mem_of_getElem? (i := 946) (by decide +kernel), by decide +kernel⟩
theorem qw_947 : Cond.code yX5_flightIs prog_7_method_12_code 3 (some FieldType.int) ∈ lw_G := List.mem_filter.mpr ⟨List.mem_of_getElem? (i := 947) (by decide +kernel), by decide +kernel⟩
theorem qw_948 : Cond.methodLink "SkyloadBureauModel" 101 yX5_departure ∈ lw_G := List.mem_filter.mpr ⟨List.mem_of_getElem? (i := 948) (by decide +kernel), by decide +kernel⟩
theorem qw_950 : Cond.instanceMethod yX5_departure ∈ lw_G := List.mem_filter.mpr ⟨List.mem_of_getElem? (i := 950) (by decide +kernel), by decide +kernel⟩
theorem qw_951 : Cond.code yX5_departure prog_7_method_11_code 2 (some FieldType.int) ∈ lw_G := List.mem_filter.mpr ⟨List.mem_of_getElem? (i := 951) (by decide +kernel), by decide +kernel⟩
theorem qw_952 : Cond.methodLink "SkyloadBureauLaw" 113 yX5_over ∈ lw_G := List.mem_filter.mpr ⟨List.mem_of_getElem? (i := 952) (by decide +kernel), by decide +kernel⟩
theorem qw_953 : Cond.instanceMethod yX5_over ∈ lw_G := List.mem_filter.mpr ⟨List.mem_of_getElem? (i := 953) (by decide +kernel), by decide +kernel⟩
theorem qw_954 : Cond.selects "SkyloadBureauModel" yX5_over yX5_over ∈ lw_G := List.mem_filter.mpr ⟨List.mem_of_getElem? (i := 954) (by decide +kernel), by decide +kernel⟩
theorem qw_955 : Cond.code yX5_over prog_7_method_16_code 3 (some FieldType.int) ∈ lw_G := List.mem_filter.mpr ⟨List.mem_of_getElem? (i := 955) (by decide +kernel), by decide +kernel⟩
theorem qw_956 : Cond.methodLink "SkyloadBureauModel" 105 yX5_enters ∈ lw_G := List.mem_filter.mpr ⟨List.mem_of_getElem? (i := 956) (by decide +kernel), by decide +kernel⟩
theorem qw_958 : Cond.instanceMethod yX5_enters ∈ lw_G := List.mem_filter.mpr ⟨List.mem_of_getElem? (i := 958) (by decide +kernel), by decide +kernel⟩
theorem qw_959 : Cond.code yX5_enters prog_7_method_13_code 3 (some FieldType.boolean) ∈ lw_G := List.mem_filter.mpr ⟨List.mem_of_getElem? (i := 959) (by decide +kernel), by decide +kernel⟩
theorem qw_960 : Cond.methodLink "SkyloadBureauModel" 109 yX5_overOf ∈ lw_G := List.mem_filter.mpr ⟨List.mem_of_getElem? (i := 960) (by decide +kernel), by decide +kernel⟩
theorem qw_962 : Cond.instanceMethod yX5_overOf ∈ lw_G := List.mem_filter.mpr ⟨List.mem_of_getElem? (i := 962) (by decide +kernel), by decide +kernel⟩
theorem qw_963 : Cond.code yX5_overOf prog_7_method_14_code 3 (some FieldType.int) ∈ lw_G := List.mem_filter.mpr ⟨List.mem_of_getElem? (i := 963) (by decide +kernel), by decide +kernel⟩
theorem qw_964 : Cond.methodLink "SkyloadBureauLaw" 117 yX5_load ∈ lw_G := List.mem_filter.mpr ⟨List.mem_of_getElem? (i := 964) (by decide +kernel), by decide +kernel⟩
theorem qw_965 : Cond.instanceMethod yX5_load ∈ lw_G := List.mem_filter.mpr ⟨List.mem_of_getElem? (i := 965) (by decide +kernel), by decide +kernel⟩
theorem qw_966 : Cond.selects "SkyloadBureauModel" yX5_load yX5_load ∈ lw_G := List.mem_filter.mpr ⟨List.mem_of_getElem? (i := 966) (by decide +kernel), by decide +kernel⟩
theorem qw_967 : Cond.code yX5_load prog_7_method_18_code 4 (some FieldType.int) ∈ lw_G := List.mem_filter.mpr ⟨List.mem_of_getElem? (i := 967) (by decide +kernel), by decide +kernel⟩
theorem qw_968 : Cond.methodLink "SkyloadBureauModel" 113 yX5_loadOf ∈ lw_G := List.mem_filter.mpr ⟨List.mem_of_getElem? (i := 968) (by decide +kernel), by decide +kernel⟩
theorem qw_970 : Cond.instanceMethod yX5_loadOf ∈ lw_G := List.mem_filter.mpr ⟨List.mem_of_getElem? (i := 970) (by decide +kernel), by decide +kernel⟩
theorem qw_971 : Cond.code yX5_loadOf prog_7_method_17_code 6 (some FieldType.int) ∈ lw_G := List.mem_filter.mpr ⟨List.mem_of_getElem? (i := 971) (by decide +kernel), by decide +kernel⟩
theorem qw_972 : Cond.methodLink "SkyloadBureauLaw" 120 yX5_inside ∈ lw_G := List.mem_filter.mpr ⟨List.mem_of_getElem? (i := 972) (by decide +kernel), by decide +kernel⟩
theorem qw_973 : Cond.instanceMethod yX5_inside ∈ lw_G := List.mem_filter.mpr ⟨List.mem_of_getElem? (i := 973) (by decide +kernel), by decide +kernel⟩
theorem qw_974 : Cond.selects "SkyloadBureauModel" yX5_inside yX5_inside ∈ lw_G := List.mem_filter.mpr ⟨List.mem_of_getElem? (i := 974) (by decide +kernel), by decide +kernel⟩
theorem qw_975 : Cond.code yX5_inside prog_7_method_19_code 6 (some FieldType.int) ∈ lw_G := List.mem_filter.mpr ⟨List.mem_of_getElem? (i := 975) (by decide +kernel), by decide +kernel⟩
theorem qw_976 : Cond.methodLink "SkyloadBureauLaw" 123 yX5_peak ∈ lw_G := List.mem_filter.mpr ⟨List.mem_of_getElem? (i := 976) (by decide +kernel), by decide +kernel⟩
theorem qw_977 : Cond.instanceMethod yX5_peak ∈ lw_G := List.mem_filter.mpr ⟨List.mem_of_getElem? (i := 977) (by decide +kernel), by decide +kernel⟩
theorem qw_978 : Cond.selects "SkyloadBureauModel" yX5_peak yX5_peak ∈ lw_G := List.mem_filter.mpr ⟨List.mem_of_getElem? (i := 978) (by decide +kernel), by decide +kernel⟩
theorem qw_979 : Cond.code yX5_peak prog_7_method_20_code 6 (some FieldType.int) ∈ lw_G := List.mem_filter.mpr ⟨List.mem_of_getElem? (i := 979) (by decide +kernel), by decide +kernel⟩
theorem qw_980 : Cond.methodLink "SkyloadBureauLaw" 126 yX5_peakAnew ∈ lw_G := List.mem_filter.mpr ⟨List.mem_of_getElem? (i := 980) (by decide +kernel), by decide +kernel⟩
theorem qw_981 : Cond.instanceMethod yX5_peakAnew ∈ lw_G := List.mem_filter.mpr ⟨List.mem_of_getElem? (i := 981) (by decide +kernel), by decide +kernel⟩
theorem qw_982 : Cond.selects "SkyloadBureauModel" yX5_peakAnew yX5_peakAnew ∈ lw_G := List.mem_filter.mpr ⟨List.mem_of_getElem? (i := 982) (by decide +kernel), by decide +kernel⟩
theorem qw_983 : Cond.code yX5_peakAnew prog_7_method_21_code 3 (some FieldType.int) ∈ lw_G := List.mem_filter.mpr ⟨List.mem_of_getElem? (i := 983) (by decide +kernel), by decide +kernel⟩
theorem qw_984 : Cond.methodLink "SkyloadBureauModel" 117 yX5_peak ∈ lw_G := List.mem_filter.mpr ⟨List.mem_of_getElem? (i := 984) (by decide +kernel), by decide +kernel⟩
theorem qw_985 : Cond.methodLink "SkyloadBureauLaw" 129 yX5_regulation ∈ lw_G := List.mem_filter.mpr ⟨List.mem_of_getElem? (i := 985) (by decide +kernel), by decide +kernel⟩
theorem qw_986 : Cond.instanceMethod yX5_regulation ∈ lw_G := List.mem_filter.mpr ⟨List.mem_of_getElem? (i := 986) (by decide +kernel), by decide +kernel⟩
theorem qw_987 : Cond.selects "SkyloadBureauModel" yX5_regulation yX5_regulation ∈ lw_G := List.mem_filter.mpr ⟨List.mem_of_getElem? (i := 987) (by decide +kernel), by decide +kernel⟩
theorem qw_988 : Cond.code yX5_regulation prog_7_method_24_code 5 (some FieldType.int) ∈ lw_G := List.mem_filter.mpr ⟨List.mem_of_getElem? (i := 988) (by decide +kernel), by decide +kernel⟩
theorem qw_989 : Cond.methodLink "SkyloadBureauModel" 120 yX5_isPart ∈ lw_G := List.mem_filter.mpr ⟨List.mem_of_getElem? (i := 989) (by decide +kernel), by decide +kernel⟩
theorem qw_990 : Cond.static yX5_isPart ∈ lw_G := List.mem_filter.mpr ⟨List.mem_of_getElem? (i := 990) (by decide +kernel), by decide +kernel⟩
theorem qw_991 : Cond.code yX5_isPart prog_7_method_22_code 3 (some FieldType.boolean) ∈ lw_G := List.mem_filter.mpr ⟨List.mem_of_getElem? (i := 991) (by decide +kernel), by decide +kernel⟩
theorem qw_992 : Cond.methodLink "SkyloadBureauModel" 123 yX5_lays ∈ lw_G := List.mem_filter.mpr ⟨List.mem_of_getElem? (i := 992) (by decide +kernel), by decide +kernel⟩
theorem qw_994 : Cond.instanceMethod yX5_lays ∈ lw_G := List.mem_filter.mpr ⟨List.mem_of_getElem? (i := 994) (by decide +kernel), by decide +kernel⟩
theorem qw_995 : Cond.code yX5_lays prog_7_method_23_code 6 (Option.none : Option Jvm.ClassFile.FieldType) ∈ lw_G := List.mem_filter.mpr ⟨List.mem_of_getElem? (i := 995) (by decide +kernel), by decide +kernel⟩
theorem qw_996 : Cond.methodLink "SkyloadBureauLaw" 132 yX5_rate ∈ lw_G := List.mem_filter.mpr ⟨List.mem_of_getElem? (i := 996) (by decide +kernel), by decide +kernel⟩
theorem qw_997 : Cond.instanceMethod yX5_rate ∈ lw_G := List.mem_filter.mpr ⟨List.mem_of_getElem? (i := 997) (by decide +kernel), by decide +kernel⟩
theorem qw_998 : Cond.selects "SkyloadBureauModel" yX5_rate yX5_rate ∈ lw_G := List.mem_filter.mpr ⟨List.mem_of_getElem? (i := 998) (by decide +kernel), by decide +kernel⟩
theorem qw_999 : Cond.code yX5_rate prog_7_method_25_code 5 (some FieldType.int) ∈ lw_G := List.mem_filter.mpr ⟨List.mem_of_getElem? (i := 999) (by decide +kernel), by decide +kernel⟩
theorem qw_1000 : Cond.methodLink "SkyloadBureauModel" 127 yX5_isRegulation ∈ lw_G := List.mem_filter.mpr ⟨List.mem_of_getElem? (i := 1000) (by decide +kernel), by decide +kernel⟩
theorem qw_1002 : Cond.instanceMethod yX5_isRegulation ∈ lw_G := List.mem_filter.mpr ⟨List.mem_of_getElem? (i := 1002) (by decide +kernel), by decide +kernel⟩
theorem qw_1003 : Cond.code yX5_isRegulation prog_7_method_6_code 2 (some FieldType.boolean) ∈ lw_G := List.mem_filter.mpr ⟨List.mem_of_getElem? (i := 1003) (by decide +kernel), by decide +kernel⟩
theorem qw_1004 : Cond.methodLink "SkyloadBureauLaw" 136 yX5_end ∈ lw_G := List.mem_filter.mpr ⟨List.mem_of_getElem? (i := 1004) (by decide +kernel), by decide +kernel⟩
theorem qw_1005 : Cond.instanceMethod yX5_end ∈ lw_G := List.mem_filter.mpr ⟨List.mem_of_getElem? (i := 1005) (by decide +kernel), by decide +kernel⟩
theorem qw_1006 : Cond.selects "SkyloadBureauModel" yX5_end yX5_end ∈ lw_G := List.mem_filter.mpr ⟨List.mem_of_getElem? (i := 1006) (by decide +kernel), by decide +kernel⟩
theorem qw_1007 : Cond.code yX5_end prog_7_method_26_code 3 (Option.none : Option Jvm.ClassFile.FieldType) ∈ lw_G := List.mem_filter.mpr ⟨List.mem_of_getElem? (i := 1007) (by decide +kernel), by decide +kernel⟩
theorem qw_1008 : Cond.methodLink "SkyloadBureauLaw" 139 yX5_regulationIs ∈ lw_G := List.mem_filter.mpr ⟨List.mem_of_getElem? (i := 1008) (by decide +kernel), by decide +kernel⟩
theorem qw_1009 : Cond.instanceMethod yX5_regulationIs ∈ lw_G := List.mem_filter.mpr ⟨List.mem_of_getElem? (i := 1009) (by decide +kernel), by decide +kernel⟩
theorem qw_1010 : Cond.selects "SkyloadBureauModel" yX5_regulationIs yX5_regulationIs ∈ lw_G := List.mem_filter.mpr ⟨List.mem_of_getElem? (i := 1010) (by decide +kernel), by decide +kernel⟩
theorem qw_1011 : Cond.code yX5_regulationIs prog_7_method_33_code 3 (some FieldType.int) ∈ lw_G := List.mem_filter.mpr ⟨List.mem_of_getElem? (i := 1011) (by decide +kernel), by decide +kernel⟩
theorem qw_1012 : Cond.methodLink "SkyloadBureauModel" 164 yX5_dealt ∈ lw_G := List.mem_filter.mpr ⟨List.mem_of_getElem? (i := 1012) (by decide +kernel), by decide +kernel⟩
theorem qw_1014 : Cond.instanceMethod yX5_dealt ∈ lw_G := List.mem_filter.mpr ⟨List.mem_of_getElem? (i := 1014) (by decide +kernel), by decide +kernel⟩
theorem qw_1015 : Cond.code yX5_dealt prog_7_method_32_code 6 (Option.none : Option Jvm.ClassFile.FieldType) ∈ lw_G := List.mem_filter.mpr ⟨List.mem_of_getElem? (i := 1015) (by decide +kernel), by decide +kernel⟩
theorem qw_1016 : Cond.methodLink "SkyloadBureauModel" 133 yX5_begin ∈ lw_G := List.mem_filter.mpr ⟨List.mem_of_getElem? (i := 1016) (by decide +kernel), by decide +kernel⟩
theorem qw_1018 : Cond.instanceMethod yX5_begin ∈ lw_G := List.mem_filter.mpr ⟨List.mem_of_getElem? (i := 1018) (by decide +kernel), by decide +kernel⟩
theorem qw_1019 : Cond.code yX5_begin prog_7_method_27_code 3 (some FieldType.int) ∈ lw_G := List.mem_filter.mpr ⟨List.mem_of_getElem? (i := 1019) (by decide +kernel), by decide +kernel⟩
theorem qw_1020 : Cond.methodLink "SkyloadBureauModel" 158 yX5_nextOf ∈ lw_G := List.mem_filter.mpr ⟨List.mem_of_getElem? (i := 1020) (by decide +kernel), by decide +kernel⟩
theorem qw_1022 : Cond.instanceMethod yX5_nextOf ∈ lw_G := List.mem_filter.mpr ⟨List.mem_of_getElem? (i := 1022) (by decide +kernel), by decide +kernel⟩
theorem qw_1023 : Cond.code yX5_nextOf prog_7_method_30_code 8 (some FieldType.int) ∈ lw_G := List.mem_filter.mpr ⟨List.mem_of_getElem? (i := 1023) (by decide +kernel), by decide +kernel⟩
theorem qw_1024 : Cond.methodLink "SkyloadBureauModel" 139 yX5_timeOf ∈ lw_G := List.mem_filter.mpr ⟨List.mem_of_getElem? (i := 1024) (by decide +kernel), by decide +kernel⟩
theorem qw_1026 : Cond.instanceMethod yX5_timeOf ∈ lw_G := List.mem_filter.mpr ⟨List.mem_of_getElem? (i := 1026) (by decide +kernel), by decide +kernel⟩
theorem qw_1027 : Cond.code yX5_timeOf prog_7_method_29_code 7 (some FieldType.int) ∈ lw_G := List.mem_filter.mpr ⟨List.mem_of_getElem? (i := 1027) (by decide +kernel), by decide +kernel⟩
theorem qw_1028 : Cond.methodLink "SkyloadBureauModel" 136 yX5_plannedOver ∈ lw_G := List.mem_filter.mpr ⟨List.mem_of_getElem? (i := 1028) (by decide +kernel), by decide +kernel⟩
theorem qw_1030 : Cond.instanceMethod yX5_plannedOver ∈ lw_G := List.mem_filter.mpr ⟨List.mem_of_getElem? (i := 1030) (by decide +kernel), by decide +kernel⟩
theorem qw_1031 : Cond.code yX5_plannedOver prog_7_method_15_code 3 (some FieldType.int) ∈ lw_G := List.mem_filter.mpr ⟨List.mem_of_getElem? (i := 1031) (by decide +kernel), by decide +kernel⟩
theorem qw_1032 : Cond.methodLink "SkyloadBureauModel" 161 yX5_takes ∈ lw_G := List.mem_filter.mpr ⟨List.mem_of_getElem? (i := 1032) (by decide +kernel), by decide +kernel⟩
theorem qw_1034 : Cond.instanceMethod yX5_takes ∈ lw_G := List.mem_filter.mpr ⟨List.mem_of_getElem? (i := 1034) (by decide +kernel), by decide +kernel⟩
theorem qw_1035 : Cond.code yX5_takes prog_7_method_31_code 4 (some FieldType.int) ∈ lw_G := List.mem_filter.mpr ⟨List.mem_of_getElem? (i := 1035) (by decide +kernel), by decide +kernel⟩
theorem qw_1036 : Cond.methodLink "SkyloadBureauModel" 143 yX5_ending ∈ lw_G := List.mem_filter.mpr ⟨List.mem_of_getElem? (i := 1036) (by decide +kernel), by decide +kernel⟩
theorem qw_1038 : Cond.instanceMethod yX5_ending ∈ lw_G := List.mem_filter.mpr ⟨List.mem_of_getElem? (i := 1038) (by decide +kernel), by decide +kernel⟩
theorem qw_1039 : Cond.code yX5_ending prog_7_method_28_code 3 (some FieldType.int) ∈ lw_G := List.mem_filter.mpr ⟨List.mem_of_getElem? (i := 1039) (by decide +kernel), by decide +kernel⟩
theorem qw_1040 : Cond.methodLink "SkyloadBureauLaw" 142 yX5_slot ∈ lw_G := List.mem_filter.mpr ⟨List.mem_of_getElem? (i := 1040) (by decide +kernel), by decide +kernel⟩
theorem qw_1041 : Cond.instanceMethod yX5_slot ∈ lw_G := List.mem_filter.mpr ⟨List.mem_of_getElem? (i := 1041) (by decide +kernel), by decide +kernel⟩
theorem qw_1042 : Cond.selects "SkyloadBureauModel" yX5_slot yX5_slot ∈ lw_G := List.mem_filter.mpr ⟨List.mem_of_getElem? (i := 1042) (by decide +kernel), by decide +kernel⟩
theorem qw_1043 : Cond.code yX5_slot prog_7_method_34_code 3 (some FieldType.int) ∈ lw_G := List.mem_filter.mpr ⟨List.mem_of_getElem? (i := 1043) (by decide +kernel), by decide +kernel⟩
theorem qw_1044 : Cond.methodLink "SkyloadBureauLaw" 145 yX5_penalty ∈ lw_G := List.mem_filter.mpr ⟨List.mem_of_getElem? (i := 1044) (by decide +kernel), by decide +kernel⟩
theorem qw_1045 : Cond.instanceMethod yX5_penalty ∈ lw_G := List.mem_filter.mpr ⟨List.mem_of_getElem? (i := 1045) (by decide +kernel), by decide +kernel⟩
theorem qw_1046 : Cond.selects "SkyloadBureauModel" yX5_penalty yX5_penalty ∈ lw_G := List.mem_filter.mpr ⟨List.mem_of_getElem? (i := 1046) (by decide +kernel), by decide +kernel⟩
theorem qw_1047 : Cond.code yX5_penalty prog_7_method_35_code 3 (some FieldType.int) ∈ lw_G := List.mem_filter.mpr ⟨List.mem_of_getElem? (i := 1047) (by decide +kernel), by decide +kernel⟩
theorem qw_1048 : Cond.methodLink "SkyloadBureauLaw" 149 yX5_due ∈ lw_G := List.mem_filter.mpr ⟨List.mem_of_getElem? (i := 1048) (by decide +kernel), by decide +kernel⟩
theorem qw_1049 : Cond.instanceMethod yX5_due ∈ lw_G := List.mem_filter.mpr ⟨List.mem_of_getElem? (i := 1049) (by decide +kernel), by decide +kernel⟩
theorem qw_1050 : Cond.selects "SkyloadBureauModel" yX5_due yX5_due ∈ lw_G := List.mem_filter.mpr ⟨List.mem_of_getElem? (i := 1050) (by decide +kernel), by decide +kernel⟩
theorem qw_1051 : Cond.code yX5_due prog_7_method_39_code 2 (some FieldType.int) ∈ lw_G := List.mem_filter.mpr ⟨List.mem_of_getElem? (i := 1051) (by decide +kernel), by decide +kernel⟩
theorem qw_1052 : Cond.methodLink "SkyloadBureauModel" 171 yX5_dealAll ∈ lw_G := List.mem_filter.mpr ⟨List.mem_of_getElem? (i := 1052) (by decide +kernel), by decide +kernel⟩
theorem qw_1054 : Cond.instanceMethod yX5_dealAll ∈ lw_G := List.mem_filter.mpr ⟨List.mem_of_getElem? (i := 1054) (by decide +kernel), by decide +kernel⟩
theorem qw_1055 : Cond.code yX5_dealAll prog_7_method_36_code 3 (Option.none : Option Jvm.ClassFile.FieldType) ∈ lw_G := List.mem_filter.mpr ⟨List.mem_of_getElem? (i := 1055) (by decide +kernel), by decide +kernel⟩
theorem qw_1056 : Cond.methodLink "SkyloadBureauModel" 174 yX5_dueOf ∈ lw_G := List.mem_filter.mpr ⟨List.mem_of_getElem? (i := 1056) (by decide +kernel), by decide +kernel⟩
theorem qw_1058 : Cond.instanceMethod yX5_dueOf ∈ lw_G := List.mem_filter.mpr ⟨List.mem_of_getElem? (i := 1058) (by decide +kernel), by decide +kernel⟩
theorem qw_1059 : Cond.code yX5_dueOf prog_7_method_38_code 4 (some FieldType.int) ∈ lw_G := List.mem_filter.mpr ⟨List.mem_of_getElem? (i := 1059) (by decide +kernel), by decide +kernel⟩
theorem qw_1060 : Cond.methodLink "SkyloadBureauModel" 168 yX5_dueBy ∈ lw_G := List.mem_filter.mpr ⟨List.mem_of_getElem? (i := 1060) (by decide +kernel), by decide +kernel⟩
theorem qw_1062 : Cond.instanceMethod yX5_dueBy ∈ lw_G := List.mem_filter.mpr ⟨List.mem_of_getElem? (i := 1062) (by decide +kernel), by decide +kernel⟩
theorem qw_1063 : Cond.code yX5_dueBy prog_7_method_37_code 7 (some FieldType.int) ∈ lw_G := List.mem_filter.mpr ⟨List.mem_of_getElem? (i := 1063) (by decide +kernel), by decide +kernel⟩
theorem qw_1064 : Cond.methodLink "SkyloadBureauLaw" 152 yX5_dueAnew ∈ lw_G := List.mem_filter.mpr ⟨List.mem_of_getElem? (i := 1064) (by decide +kernel), by decide +kernel⟩
theorem qw_1065 : Cond.instanceMethod yX5_dueAnew ∈ lw_G := List.mem_filter.mpr ⟨List.mem_of_getElem? (i := 1065) (by decide +kernel), by decide +kernel⟩
theorem qw_1066 : Cond.selects "SkyloadBureauModel" yX5_dueAnew yX5_dueAnew ∈ lw_G := List.mem_filter.mpr ⟨List.mem_of_getElem? (i := 1066) (by decide +kernel), by decide +kernel⟩
theorem qw_1067 : Cond.code yX5_dueAnew prog_7_method_40_code 2 (some FieldType.int) ∈ lw_G := List.mem_filter.mpr ⟨List.mem_of_getElem? (i := 1067) (by decide +kernel), by decide +kernel⟩
theorem qw_1068 : Cond.methodLink "SkyloadBureauModel" 177 yX5_due ∈ lw_G := List.mem_filter.mpr ⟨List.mem_of_getElem? (i := 1068) (by decide +kernel), by decide +kernel⟩
theorem qw_1069 : Cond.methodLink "SkyloadBureauLaw" 156 yX5_allDue ∈ lw_G := List.mem_filter.mpr ⟨List.mem_of_getElem? (i := 1069) (by decide +kernel), by decide +kernel⟩
theorem qw_1070 : Cond.instanceMethod yX5_allDue ∈ lw_G := List.mem_filter.mpr ⟨List.mem_of_getElem? (i := 1070) (by decide +kernel), by decide +kernel⟩
theorem qw_1071 : Cond.selects "SkyloadBureauModel" yX5_allDue yX5_allDue ∈ lw_G := List.mem_filter.mpr ⟨List.mem_of_getElem? (i := 1071) (by decide +kernel), by decide +kernel⟩
theorem qw_1072 : Cond.code yX5_allDue prog_7_method_42_code 1 (some FieldType.int) ∈ lw_G := List.mem_filter.mpr ⟨List.mem_of_getElem? (i := 1072) (by decide +kernel), by decide +kernel⟩
theorem qw_1073 : Cond.methodLink "SkyloadBureauModel" 180 yX5_sumBy ∈ lw_G := List.mem_filter.mpr ⟨List.mem_of_getElem? (i := 1073) (by decide +kernel), by decide +kernel⟩
theorem qw_1075 : Cond.instanceMethod yX5_sumBy ∈ lw_G := List.mem_filter.mpr ⟨List.mem_of_getElem? (i := 1075) (by decide +kernel), by decide +kernel⟩
theorem qw_1076 : Cond.code yX5_sumBy prog_7_method_41_code 4 (some FieldType.int) ∈ lw_G := List.mem_filter.mpr ⟨List.mem_of_getElem? (i := 1076) (by decide +kernel), by decide +kernel⟩
theorem qw_1077 : Cond.methodLink "SkyloadBureauLaw" 159 yX5_would ∈ lw_G := List.mem_filter.mpr ⟨List.mem_of_getElem? (i := 1077) (by decide +kernel), by decide +kernel⟩
theorem qw_1078 : Cond.instanceMethod yX5_would ∈ lw_G := List.mem_filter.mpr ⟨List.mem_of_getElem? (i := 1078) (by decide +kernel), by decide +kernel⟩
theorem qw_1079 : Cond.selects "SkyloadBureauModel" yX5_would yX5_would ∈ lw_G := List.mem_filter.mpr ⟨List.mem_of_getElem? (i := 1079) (by decide +kernel), by decide +kernel⟩
theorem qw_1080 : Cond.code yX5_would prog_7_method_43_code 5 (some FieldType.int) ∈ lw_G := List.mem_filter.mpr ⟨List.mem_of_getElem? (i := 1080) (by decide +kernel), by decide +kernel⟩
theorem qw_1081 : Cond.methodLink "SkyloadBureauLaw" 164 yX5_deal ∈ lw_G := List.mem_filter.mpr ⟨List.mem_of_getElem? (i := 1081) (by decide +kernel), by decide +kernel⟩
theorem qw_1082 : Cond.instanceMethod yX5_deal ∈ lw_G := List.mem_filter.mpr ⟨List.mem_of_getElem? (i := 1082) (by decide +kernel), by decide +kernel⟩
theorem qw_1083 : Cond.selects "SkyloadBureauModel" yX5_deal yX5_deal ∈ lw_G := List.mem_filter.mpr ⟨List.mem_of_getElem? (i := 1083) (by decide +kernel), by decide +kernel⟩
theorem qw_1084 : Cond.code yX5_deal prog_7_method_45_code 4 (some FieldType.int) ∈ lw_G := List.mem_filter.mpr ⟨List.mem_of_getElem? (i := 1084) (by decide +kernel), by decide +kernel⟩
theorem qw_1085 : Cond.methodLink "SkyloadBureauModel" 183 yX5_deals ∈ lw_G := List.mem_filter.mpr ⟨List.mem_of_getElem? (i := 1085) (by decide +kernel), by decide +kernel⟩
theorem qw_1087 : Cond.instanceMethod yX5_deals ∈ lw_G := List.mem_filter.mpr ⟨List.mem_of_getElem? (i := 1087) (by decide +kernel), by decide +kernel⟩
theorem qw_1088 : Cond.code yX5_deals prog_7_method_44_code 6 (Option.none : Option Jvm.ClassFile.FieldType) ∈ lw_G := List.mem_filter.mpr ⟨List.mem_of_getElem? (i := 1088) (by decide +kernel), by decide +kernel⟩
theorem qw_1089 : Cond.methodLink "SkyloadBureauLaw" 168 yX5_swap ∈ lw_G := List.mem_filter.mpr ⟨List.mem_of_getElem? (i := 1089) (by decide +kernel), by decide +kernel⟩
theorem qw_1090 : Cond.instanceMethod yX5_swap ∈ lw_G := List.mem_filter.mpr ⟨List.mem_of_getElem? (i := 1090) (by decide +kernel), by decide +kernel⟩
theorem qw_1091 : Cond.selects "SkyloadBureauModel" yX5_swap yX5_swap ∈ lw_G := List.mem_filter.mpr ⟨List.mem_of_getElem? (i := 1091) (by decide +kernel), by decide +kernel⟩
theorem qw_1092 : Cond.code yX5_swap prog_7_method_46_code 8 (Option.none : Option Jvm.ClassFile.FieldType) ∈ lw_G := List.mem_filter.mpr ⟨List.mem_of_getElem? (i := 1092) (by decide +kernel), by decide +kernel⟩
theorem qw_1093 : Cond.methodLink "SkyloadBureauLaw" 171 yX5_message ∈ lw_G := List.mem_filter.mpr ⟨List.mem_of_getElem? (i := 1093) (by decide +kernel), by decide +kernel⟩
theorem qw_1094 : Cond.instanceMethod yX5_message ∈ lw_G := List.mem_filter.mpr ⟨List.mem_of_getElem? (i := 1094) (by decide +kernel), by decide +kernel⟩
theorem qw_1095 : Cond.selects "SkyloadBureauModel" yX5_message yX5_message ∈ lw_G := List.mem_filter.mpr ⟨List.mem_of_getElem? (i := 1095) (by decide +kernel), by decide +kernel⟩
theorem qw_1096 : Cond.code yX5_message prog_7_method_48_code 8 (some FieldType.boolean) ∈ lw_G := List.mem_filter.mpr ⟨List.mem_of_getElem? (i := 1096) (by decide +kernel), by decide +kernel⟩
theorem qw_1097 : Cond.methodLink "SkyloadBureauModel" 187 yX5_goes ∈ lw_G := List.mem_filter.mpr ⟨List.mem_of_getElem? (i := 1097) (by decide +kernel), by decide +kernel⟩
theorem qw_1099 : Cond.instanceMethod yX5_goes ∈ lw_G := List.mem_filter.mpr ⟨List.mem_of_getElem? (i := 1099) (by decide +kernel), by decide +kernel⟩
theorem qw_1100 : Cond.code yX5_goes prog_7_method_47_code 4 (Option.none : Option Jvm.ClassFile.FieldType) ∈ lw_G := List.mem_filter.mpr ⟨List.mem_of_getElem? (i := 1100) (by decide +kernel), by decide +kernel⟩
theorem qw_1101 : Cond.methodLink "SkyloadBureauLaw" 174 yX5_companyIs ∈ lw_G := List.mem_filter.mpr ⟨List.mem_of_getElem? (i := 1101) (by decide +kernel), by decide +kernel⟩
theorem qw_1102 : Cond.instanceMethod yX5_companyIs ∈ lw_G := List.mem_filter.mpr ⟨List.mem_of_getElem? (i := 1102) (by decide +kernel), by decide +kernel⟩
theorem qw_1103 : Cond.selects "SkyloadBureauModel" yX5_companyIs yX5_companyIs ∈ lw_G := List.mem_filter.mpr ⟨List.mem_of_getElem? (i := 1103) (by decide +kernel), by decide +kernel⟩
theorem qw_1104 : Cond.code yX5_companyIs prog_7_method_49_code 5 (some FieldType.int) ∈ lw_G := List.mem_filter.mpr ⟨List.mem_of_getElem? (i := 1104) (by decide +kernel), by decide +kernel⟩
theorem qw_1105 : Cond.arrayClass FieldType.long ∈ lw_G := List.mem_filter.mpr ⟨List.mem_of_getElem? (i := 1105) (by decide +kernel), by decide +kernel⟩
theorem qw_1106 : Cond.sameMethod "java/lang/Throwable" "java/lang/Throwable" "fillInStackTrace" "(I)Ljava/lang/Throwable;" ∈ lw_G := List.mem_filter.mpr ⟨List.mem_of_getElem? (i := 1106) (by decide +kernel), by decide +kernel⟩
theorem qw_1119 : Cond.sameMethod "[Ljava/lang/Object;" "java/lang/Object" "getClass" "()Ljava/lang/Class;" ∈ lw_G := List.mem_filter.mpr ⟨List.mem_of_getElem? (i := 1119) (by decide +kernel), by decide +kernel⟩
theorem qw_1120 : Cond.selects "[Ljava/lang/Object;" (⟨"java/lang/Object", "getClass", "()Ljava/lang/Class;"⟩ : MethodName) (⟨"java/lang/Object", "getClass", "()Ljava/lang/Class;"⟩ : MethodName) ∈ lw_G := List.mem_filter.mpr ⟨List.mem_of_getElem? (i := 1120) (by decide +kernel), by decide +kernel⟩
theorem qr_78 : Cond.laysStatic "java/util/ArrayList" "DEFAULTCAPACITY_EMPTY_ELEMENTDATA" "[Ljava/lang/Object;" ∈ lw_tbl := List.mem_of_getElem? (i := 78) (by decide +kernel)
theorem qr_83 : Cond.sameField "java/util/ArrayList" "java/util/AbstractList" "modCount" "I" ∈ lw_tbl := List.mem_of_getElem? (i := 83) (by decide +kernel)
theorem qr_93 : Cond.methodLinkNest "SkyloadBureau" 21 yX0_init "SkyloadBureau" ∈ lw_tbl := List.mem_of_getElem? (i := 93) (by decide +kernel)
theorem qr_99 : Cond.methodLinkNest "SkyloadBureau$Dealing" 11 yX2_init "SkyloadBureau" ∈ lw_tbl := List.mem_of_getElem? (i := 99) (by decide +kernel)
theorem qr_144 : Cond.methodLinkNest "SkyloadBureau" 28 yX2_init "SkyloadBureau" ∈ lw_tbl := List.mem_of_getElem? (i := 144) (by decide +kernel)
theorem qr_320 : Cond.castable "java/lang/IndexOutOfBoundsException" "java/lang/IndexOutOfBoundsException" ∈ lw_tbl := List.mem_of_getElem? (i := 320) (by decide +kernel)
theorem qr_321 : Cond.declares (⟨"java/lang/RuntimeException", "<init>", "()V"⟩ : MethodName) ∈ lw_tbl := List.mem_of_getElem? (i := 321) (by decide +kernel)
theorem qr_322 : Cond.declares (⟨"java/lang/RuntimeException", "<init>", "(Ljava/lang/String;)V"⟩ : MethodName) ∈ lw_tbl := List.mem_of_getElem? (i := 322) (by decide +kernel)
theorem qr_323 : Cond.declares (⟨"java/lang/Exception", "<init>", "()V"⟩ : MethodName) ∈ lw_tbl := List.mem_of_getElem? (i := 323) (by decide +kernel)
theorem qr_324 : Cond.declares (⟨"java/lang/Exception", "<init>", "(Ljava/lang/String;)V"⟩ : MethodName) ∈ lw_tbl := List.mem_of_getElem? (i := 324) (by decide +kernel)
theorem qr_325 : Cond.declares (⟨"java/lang/Throwable", "<init>", "()V"⟩ : MethodName) ∈ lw_tbl := List.mem_of_getElem? (i := 325) (by decide +kernel)
theorem qr_326 : Cond.declares (⟨"java/lang/Throwable", "<init>", "(Ljava/lang/String;)V"⟩ : MethodName) ∈ lw_tbl := List.mem_of_getElem? (i := 326) (by decide +kernel)
theorem qr_345 : Cond.laysStatic "java/lang/Throwable" "UNASSIGNED_STACK" "[Ljava/lang/StackTraceElement;" ∈ lw_tbl := List.mem_of_getElem? (i := 345) (by decide +kernel)
theorem qr_347 : Cond.laysStatic "java/lang/Throwable" "SUPPRESSED_SENTINEL" "Ljava/util/List;" ∈ lw_tbl := List.mem_of_getElem? (i := 347) (by decide +kernel)
theorem qr_359 : Cond.stringRef "SkyloadBureau" 259 "no such company" ∈ lw_tbl := List.mem_of_getElem? (i := 359) (by decide +kernel)
theorem qr_391 : Cond.castable "java/lang/IllegalArgumentException" "java/lang/IllegalArgumentException" ∈ lw_tbl := List.mem_of_getElem? (i := 391) (by decide +kernel)
theorem qr_398 : Cond.stringRef "SkyloadBureau" 261 "an argument is out of range" ∈ lw_tbl := List.mem_of_getElem? (i := 398) (by decide +kernel)
theorem qr_407 : Cond.castable "java/lang/IllegalStateException" "java/lang/IllegalStateException" ∈ lw_tbl := List.mem_of_getElem? (i := 407) (by decide +kernel)
theorem qr_414 : Cond.stringRef "SkyloadBureau" 47 "no more flights can be told" ∈ lw_tbl := List.mem_of_getElem? (i := 414) (by decide +kernel)
theorem qr_523 : Cond.arrayOver (FieldType.object "java/lang/Object") ∈ lw_tbl := List.mem_of_getElem? (i := 523) (by decide +kernel)
theorem qr_542 : Cond.stringRef "SkyloadBureau" 253 "no such flight" ∈ lw_tbl := List.mem_of_getElem? (i := 542) (by decide +kernel)
theorem qr_546 : Cond.stringRef "SkyloadBureau" 257 "no such sector" ∈ lw_tbl := List.mem_of_getElem? (i := 546) (by decide +kernel)
theorem qr_555 : Cond.stringRef "SkyloadBureau" 72 "the flight cannot have this entry" ∈ lw_tbl := List.mem_of_getElem? (i := 555) (by decide +kernel)
theorem qr_567 : Cond.stringRef "SkyloadBureau" 84 "the flight is not waiting" ∈ lw_tbl := List.mem_of_getElem? (i := 567) (by decide +kernel)
theorem qr_660 : Cond.stringRef "SkyloadBureau" 142 "no more regulations can be told" ∈ lw_tbl := List.mem_of_getElem? (i := 660) (by decide +kernel)
theorem qr_699 : Cond.stringRef "SkyloadBureau" 255 "no such regulation" ∈ lw_tbl := List.mem_of_getElem? (i := 699) (by decide +kernel)
theorem qr_703 : Cond.stringRef "SkyloadBureau" 263 "the regulation is ended" ∈ lw_tbl := List.mem_of_getElem? (i := 703) (by decide +kernel)
theorem qr_734 : Cond.stringRef "SkyloadBureau" 190 "slots are numbered from 0" ∈ lw_tbl := List.mem_of_getElem? (i := 734) (by decide +kernel)
theorem qr_781 : Cond.stringRef "SkyloadBureau" 227 "a flight is not swapped with itself" ∈ lw_tbl := List.mem_of_getElem? (i := 781) (by decide +kernel)
theorem qr_786 : Cond.stringRef "SkyloadBureau" 234 "the flights cannot be swapped" ∈ lw_tbl := List.mem_of_getElem? (i := 786) (by decide +kernel)
theorem qr_788 : Cond.stringRef "SkyloadBureau" 242 "a slot time would be ahead of the planned time" ∈ lw_tbl := List.mem_of_getElem? (i := 788) (by decide +kernel)
theorem qr_1107 : Cond.castable "SkyloadBureau" "java/lang/Object" ∈ lw_tbl := List.mem_of_getElem? (i := 1107) (by decide +kernel)
theorem qr_1108 : Cond.castable "java/util/ArrayList" "java/lang/Object" ∈ lw_tbl := List.mem_of_getElem? (i := 1108) (by decide +kernel)
theorem qr_1109 : Cond.castable "SkyloadBureau$Dealing" "java/lang/Object" ∈ lw_tbl := List.mem_of_getElem? (i := 1109) (by decide +kernel)
theorem qr_1110 : Cond.castable "SkyloadBureau$Line" "java/lang/Object" ∈ lw_tbl := List.mem_of_getElem? (i := 1110) (by decide +kernel)
theorem qr_1111 : Cond.castable "SkyloadBureauModel" "java/lang/Object" ∈ lw_tbl := List.mem_of_getElem? (i := 1111) (by decide +kernel)
theorem qr_1112 : Cond.castable "java/lang/IndexOutOfBoundsException" "java/lang/Object" ∈ lw_tbl := List.mem_of_getElem? (i := 1112) (by decide +kernel)
theorem qr_1113 : Cond.castable "java/lang/IllegalArgumentException" "java/lang/Object" ∈ lw_tbl := List.mem_of_getElem? (i := 1113) (by decide +kernel)
theorem qr_1114 : Cond.castable "java/lang/IllegalStateException" "java/lang/Object" ∈ lw_tbl := List.mem_of_getElem? (i := 1114) (by decide +kernel)
theorem qr_1115 : Cond.castable "SkyloadBureau$Flight" "java/lang/Object" ∈ lw_tbl := List.mem_of_getElem? (i := 1115) (by decide +kernel)
theorem qr_1116 : Cond.castable "SkyloadBureau$Regulation" "java/lang/Object" ∈ lw_tbl := List.mem_of_getElem? (i := 1116) (by decide +kernel)
theorem qr_1117 : Cond.castable "java/lang/Throwable" "java/lang/Object" ∈ lw_tbl := List.mem_of_getElem? (i := 1117) (by decide +kernel)
theorem qr_1118 : Cond.castable "java/lang/String" "java/lang/Object" ∈ lw_tbl := List.mem_of_getElem? (i := 1118) (by decide +kernel)
theorem qr_1121 : Cond.declares (⟨"java/lang/Object", "getClass", "()Ljava/lang/Class;"⟩ : MethodName) ∈ lw_tbl := List.mem_of_getElem? (i := 1121) (by decide +kernel)
theorem qr_1122 : Cond.castable "[I" "java/lang/Object" ∈ lw_tbl := List.mem_of_getElem? (i := 1122) (by decide +kernel)
theorem qr_1123 : Cond.castable "[B" "java/lang/Object" ∈ lw_tbl := List.mem_of_getElem? (i := 1123) (by decide +kernel)
theorem qr_1124 : Cond.castable "[Ljava/lang/Object;" "java/lang/Object" ∈ lw_tbl := List.mem_of_getElem? (i := 1124) (by decide +kernel)
theorem qr_1125 : Cond.castable "[Z" "java/lang/Object" ∈ lw_tbl := List.mem_of_getElem? (i := 1125) (by decide +kernel)
theorem qr_1126 : Cond.castable "[J" "java/lang/Object" ∈ lw_tbl := List.mem_of_getElem? (i := 1126) (by decide +kernel)
