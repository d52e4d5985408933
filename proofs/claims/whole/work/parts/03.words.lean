/-! THE WORDS, a row each -/
/-- words that are carried in the state, not in the tables -/
def px_nwk : Cond → Bool
  | .fieldLinkNest _ _ _ _ _ _ => true
  | .methodLinkNest _ _ _ _ => true
  | .castable _ _ => true
  | .declares _ => true
  | _ => false
theorem w_0 : (Jvm.Cond.initialized "TroubleMemoryLaw") ∈ px_TB := px_tb1 0 (by decide +kernel) rfl
theorem w_1 : (Jvm.Cond.initialized "TroubleMemory") ∈ px_TB := px_tb1 1 (by decide +kernel) rfl
theorem w_2 : (Jvm.Cond.initialized "java/util/AbstractCollection") ∈ px_TB := px_tb1 2 (by decide +kernel) rfl
theorem w_3 : (Jvm.Cond.initialized "java/util/AbstractList") ∈ px_TB := px_tb1 3 (by decide +kernel) rfl
theorem w_4 : (Jvm.Cond.initialized "java/util/ArrayList") ∈ px_TB := px_tb1 4 (by decide +kernel) rfl
theorem w_5 : (Jvm.Cond.initialized "TroubleMemory$Memory") ∈ px_TB := px_tb1 5 (by decide +kernel) rfl
theorem w_6 : (Jvm.Cond.initialized "TroubleMemoryModel") ∈ px_TB := px_tb1 6 (by decide +kernel) rfl
theorem w_7 : (Jvm.Cond.initialized "TroubleMemory$Code") ∈ px_TB := px_tb1 7 (by decide +kernel) rfl
theorem w_8 : (Jvm.Cond.initialized "TroubleMemory$Standing") ∈ px_TB := px_tb1 8 (by decide +kernel) rfl
theorem w_9 : (Jvm.Cond.initialized "jdk/internal/util/ArraysSupport") ∈ px_TB := px_tb1 9 (by decide +kernel) rfl
theorem w_10 : (Jvm.Cond.initialized "java/lang/Math") ∈ px_TB := px_tb1 10 (by decide +kernel) rfl
theorem w_11 : (Jvm.Cond.initialized "java/util/Arrays") ∈ px_TB := px_tb1 11 (by decide +kernel) rfl
theorem w_12 : (Jvm.Cond.initialized "java/lang/System") ∈ px_TB := px_tb1 12 (by decide +kernel) rfl
theorem w_13 : (Jvm.Cond.initialized "java/util/Objects") ∈ px_TB := px_tb1 13 (by decide +kernel) rfl
theorem w_14 : (Jvm.Cond.initialized "jdk/internal/util/Preconditions") ∈ px_TB := px_tb1 14 (by decide +kernel) rfl
theorem w_15 : (Jvm.Cond.initialized "TroubleMemory$Snapshot") ∈ px_TB := px_tb1 15 (by decide +kernel) rfl
theorem w_16 : (Jvm.Cond.initialized "TroubleMemory$Entry") ∈ px_TB := px_tb1 16 (by decide +kernel) rfl
theorem w_17 : (Jvm.Cond.initialized "java/lang/Integer") ∈ px_TB := px_tb1 17 (by decide +kernel) rfl
theorem w_18 : (Jvm.Cond.classLink "TroubleMemoryLaw" (7 : Nat) "TroubleMemory") ∈ px_TB := px_tb1 18 (by decide +kernel) rfl
theorem w_19 : (Jvm.Cond.instantiable "TroubleMemory" (6 : Nat)) ∈ px_TB := px_tb1 19 (by decide +kernel) rfl
theorem w_20 : (Jvm.Cond.methodLink "TroubleMemoryLaw" (15 : Nat) ({ cls := "TroubleMemory", name := "<init>", desc := "(I)V" } : Jvm.MethodName)) ∈ px_TB := px_tb1 20 (by decide +kernel) rfl
theorem w_21 : (Jvm.Cond.instanceMethod ({ cls := "TroubleMemory", name := "<init>", desc := "(I)V" } : Jvm.MethodName)) ∈ px_TB := px_tb1 21 (by decide +kernel) rfl
theorem w_22 : (Jvm.Cond.code ({ cls := "TroubleMemory", name := "<init>", desc := "(I)V" } : Jvm.MethodName) prog_1_method_1_code (2 : Nat) (Option.none : Option Jvm.ClassFile.FieldType)) ∈ px_TB := px_tb1 22 rfl rfl
theorem w_23 : (Jvm.Cond.methodLink "TroubleMemory" (3 : Nat) ({ cls := "java/lang/Object", name := "<init>", desc := "()V" } : Jvm.MethodName)) ∈ px_TB := px_tb1 23 (by decide +kernel) rfl
theorem w_24 : (Jvm.Cond.instanceMethod ({ cls := "java/lang/Object", name := "<init>", desc := "()V" } : Jvm.MethodName)) ∈ px_TB := px_tb1 24 (by decide +kernel) rfl
theorem w_25 : (Jvm.Cond.code ({ cls := "java/lang/Object", name := "<init>", desc := "()V" } : Jvm.MethodName) object_method_1_code (1 : Nat) (Option.none : Option Jvm.ClassFile.FieldType)) ∈ px_TB := px_tb1 25 rfl rfl
theorem w_26 : (Jvm.Cond.classLink "TroubleMemory" (9 : Nat) "java/util/ArrayList") ∈ px_TB := px_tb1 26 (by decide +kernel) rfl
theorem w_27 : (Jvm.Cond.instantiable "java/util/ArrayList" (3 : Nat)) ∈ px_TB := px_tb1 27 (by decide +kernel) rfl
theorem w_28 : (Jvm.Cond.methodLink "TroubleMemory" (11 : Nat) ({ cls := "java/util/ArrayList", name := "<init>", desc := "()V" } : Jvm.MethodName)) ∈ px_TB := px_tb1 28 (by decide +kernel) rfl
theorem w_29 : (Jvm.Cond.instanceMethod ({ cls := "java/util/ArrayList", name := "<init>", desc := "()V" } : Jvm.MethodName)) ∈ px_TB := px_tb1 29 (by decide +kernel) rfl
theorem w_30 : (Jvm.Cond.code ({ cls := "java/util/ArrayList", name := "<init>", desc := "()V" } : Jvm.MethodName) prog_17_method_2_code (1 : Nat) (Option.none : Option Jvm.ClassFile.FieldType)) ∈ px_TB := px_tb1 30 rfl rfl
theorem w_31 : (Jvm.Cond.methodLink "java/util/ArrayList" (1 : Nat) ({ cls := "java/util/AbstractList", name := "<init>", desc := "()V" } : Jvm.MethodName)) ∈ px_TB := px_tb1 31 (by decide +kernel) rfl
theorem w_32 : (Jvm.Cond.instanceMethod ({ cls := "java/util/AbstractList", name := "<init>", desc := "()V" } : Jvm.MethodName)) ∈ px_TB := px_tb1 32 (by decide +kernel) rfl
theorem w_33 : (Jvm.Cond.code ({ cls := "java/util/AbstractList", name := "<init>", desc := "()V" } : Jvm.MethodName) prog_16_method_1_code (1 : Nat) (Option.none : Option Jvm.ClassFile.FieldType)) ∈ px_TB := px_tb1 33 rfl rfl
theorem w_34 : (Jvm.Cond.methodLink "java/util/AbstractList" (1 : Nat) ({ cls := "java/util/AbstractCollection", name := "<init>", desc := "()V" } : Jvm.MethodName)) ∈ px_TB := px_tb1 34 (by decide +kernel) rfl
theorem w_35 : (Jvm.Cond.instanceMethod ({ cls := "java/util/AbstractCollection", name := "<init>", desc := "()V" } : Jvm.MethodName)) ∈ px_TB := px_tb1 35 (by decide +kernel) rfl
theorem w_36 : (Jvm.Cond.code ({ cls := "java/util/AbstractCollection", name := "<init>", desc := "()V" } : Jvm.MethodName) prog_15_method_1_code (1 : Nat) (Option.none : Option Jvm.ClassFile.FieldType)) ∈ px_TB := px_tb1 36 rfl rfl
theorem w_37 : (Jvm.Cond.methodLink "java/util/AbstractCollection" (1 : Nat) ({ cls := "java/lang/Object", name := "<init>", desc := "()V" } : Jvm.MethodName)) ∈ px_TB := px_tb1 37 (by decide +kernel) rfl
theorem w_38 : (Jvm.Cond.fieldLink "java/util/ArrayList" (39 : Nat) "java/util/ArrayList" "DEFAULTCAPACITY_EMPTY_ELEMENTDATA" "[Ljava/lang/Object;") ∈ px_TB := px_tb1 38 (by decide +kernel) rfl
theorem w_40 : (Jvm.Cond.fieldLink "java/util/ArrayList" (9 : Nat) "java/util/ArrayList" "elementData" "[Ljava/lang/Object;") ∈ px_TB := px_tb1 40 (by decide +kernel) rfl
theorem w_41 : (Jvm.Cond.fieldLink "java/util/ArrayList" (48 : Nat) "java/util/ArrayList" "size" "I") ∈ px_TB := px_tb1 41 (by decide +kernel) rfl
theorem w_42 : (Jvm.Cond.fieldLink "java/util/AbstractList" (7 : Nat) "java/util/AbstractList" "modCount" "I") ∈ px_TB := px_tb1 42 (by decide +kernel) rfl
theorem w_43 : (Jvm.Cond.fieldLink "java/util/ArrayList" (63 : Nat) "java/util/ArrayList" "modCount" "I") ∈ px_TB := px_tb1 43 (by decide +kernel) rfl
theorem w_44 : (Jvm.Cond.sameField "java/util/ArrayList" "java/util/AbstractList" "modCount" "I") ∈ px_TB := px_tb1 44 (by decide +kernel) rfl
theorem w_45 : (Jvm.Cond.lays "java/util/ArrayList" "java/util/ArrayList" "elementData" "[Ljava/lang/Object;") ∈ px_TB := px_tb1 45 (by decide +kernel) rfl
theorem w_46 : (Jvm.Cond.soleField "java/util/ArrayList" "elementData") ∈ px_TB := px_tb1 46 (by decide +kernel) rfl
theorem w_47 : (Jvm.Cond.lays "java/util/ArrayList" "java/util/ArrayList" "size" "I") ∈ px_TB := px_tb1 47 (by decide +kernel) rfl
theorem w_48 : (Jvm.Cond.soleField "java/util/ArrayList" "size") ∈ px_TB := px_tb1 48 (by decide +kernel) rfl
theorem w_49 : (Jvm.Cond.lays "java/util/ArrayList" "java/util/AbstractList" "modCount" "I") ∈ px_TB := px_tb1 49 (by decide +kernel) rfl
theorem w_50 : (Jvm.Cond.soleField "java/util/AbstractList" "modCount") ∈ px_TB := px_tb1 50 (by decide +kernel) rfl
theorem w_51 : (Jvm.Cond.superclass "java/util/ArrayList" "java/util/AbstractList") ∈ px_TB := px_tb1 51 (by decide +kernel) rfl
theorem w_52 : (Jvm.Cond.classLink "TroubleMemory" (30 : Nat) "TroubleMemory$Memory") ∈ px_TB := px_tb1 52 (by decide +kernel) rfl
theorem w_53 : (Jvm.Cond.instantiable "TroubleMemory$Memory" (3 : Nat)) ∈ px_TB := px_tb1 53 (by decide +kernel) rfl
theorem w_54 : (Jvm.Cond.constant "TroubleMemory" (32 : Nat) (65536 : Int32)) ∈ px_TB := px_tb1 54 (by decide +kernel) rfl
theorem w_55 : (Jvm.Cond.methodLink "TroubleMemory" (33 : Nat) ({ cls := "TroubleMemory", name := "isWithin", desc := "(III)Z" } : Jvm.MethodName)) ∈ px_TB := px_tb1 55 (by decide +kernel) rfl
theorem w_56 : (Jvm.Cond.static ({ cls := "TroubleMemory", name := "isWithin", desc := "(III)Z" } : Jvm.MethodName)) ∈ px_TB := px_tb1 56 (by decide +kernel) rfl
theorem w_57 : (Jvm.Cond.code ({ cls := "TroubleMemory", name := "isWithin", desc := "(III)Z" } : Jvm.MethodName) prog_1_method_16_code (3 : Nat) (Option.some Jvm.ClassFile.FieldType.boolean)) ∈ px_TB := px_tb1 57 rfl rfl
theorem w_58 : (Jvm.Cond.methodLink "TroubleMemory" (37 : Nat) ({ cls := "TroubleMemory$Memory", name := "<init>", desc := "(I)V" } : Jvm.MethodName)) ∈ px_TB := px_tb1 58 (by decide +kernel) rfl
theorem w_59 : (Jvm.Cond.instanceMethod ({ cls := "TroubleMemory$Memory", name := "<init>", desc := "(I)V" } : Jvm.MethodName)) ∈ px_TB := px_tb1 59 (by decide +kernel) rfl
theorem w_60 : (Jvm.Cond.code ({ cls := "TroubleMemory$Memory", name := "<init>", desc := "(I)V" } : Jvm.MethodName) prog_4_method_1_code (2 : Nat) (Option.none : Option Jvm.ClassFile.FieldType)) ∈ px_TB := px_tb1 60 rfl rfl
theorem w_61 : (Jvm.Cond.methodLink "TroubleMemory$Memory" (3 : Nat) ({ cls := "java/lang/Object", name := "<init>", desc := "()V" } : Jvm.MethodName)) ∈ px_TB := px_tb1 61 (by decide +kernel) rfl
theorem w_62 : (Jvm.Cond.classLink "TroubleMemory$Memory" (9 : Nat) "java/util/ArrayList") ∈ px_TB := px_tb1 62 (by decide +kernel) rfl
theorem w_63 : (Jvm.Cond.methodLink "TroubleMemory$Memory" (11 : Nat) ({ cls := "java/util/ArrayList", name := "<init>", desc := "()V" } : Jvm.MethodName)) ∈ px_TB := px_tb1 63 (by decide +kernel) rfl
theorem w_64 : (Jvm.Cond.fieldLink "TroubleMemory$Memory" (21 : Nat) "TroubleMemory$Memory" "room" "I") ∈ px_TB := px_tb1 64 (by decide +kernel) rfl
theorem w_65 : (Jvm.Cond.fieldLink "TroubleMemory$Memory" (12 : Nat) "TroubleMemory$Memory" "entries" "Ljava/util/ArrayList;") ∈ px_TB := px_tb1 65 (by decide +kernel) rfl
theorem w_66 : (Jvm.Cond.fieldLink "TroubleMemory" (152 : Nat) "TroubleMemory$Memory" "entries" "Ljava/util/ArrayList;") ∈ px_TB := px_tb1 66 (by decide +kernel) rfl
theorem w_67 : (Jvm.Cond.fieldLink "TroubleMemory$Memory" (18 : Nat) "TroubleMemory$Memory" "displacedCodes" "Ljava/util/ArrayList;") ∈ px_TB := px_tb1 67 (by decide +kernel) rfl
theorem w_68 : (Jvm.Cond.fieldLink "TroubleMemory" (167 : Nat) "TroubleMemory$Memory" "displacedCodes" "Ljava/util/ArrayList;") ∈ px_TB := px_tb1 68 (by decide +kernel) rfl
theorem w_69 : (Jvm.Cond.laysFinal "TroubleMemory$Memory" "TroubleMemory$Memory" "room" "I") ∈ px_TB := px_tb1 69 (by decide +kernel) rfl
theorem w_70 : (Jvm.Cond.soleField "TroubleMemory$Memory" "room") ∈ px_TB := px_tb1 70 (by decide +kernel) rfl
theorem w_71 : (Jvm.Cond.laysFinal "TroubleMemory$Memory" "TroubleMemory$Memory" "entries" "Ljava/util/ArrayList;") ∈ px_TB := px_tb1 71 (by decide +kernel) rfl
theorem w_72 : (Jvm.Cond.soleField "TroubleMemory$Memory" "entries") ∈ px_TB := px_tb1 72 (by decide +kernel) rfl
theorem w_73 : (Jvm.Cond.laysFinal "TroubleMemory$Memory" "TroubleMemory$Memory" "displacedCodes" "Ljava/util/ArrayList;") ∈ px_TB := px_tb1 73 (by decide +kernel) rfl
theorem w_74 : (Jvm.Cond.soleField "TroubleMemory$Memory" "displacedCodes") ∈ px_TB := px_tb1 74 (by decide +kernel) rfl
theorem w_75 : (Jvm.Cond.superclass "TroubleMemory$Memory" "java/lang/Object") ∈ px_TB := px_tb1 75 (by decide +kernel) rfl
theorem w_76 : (Jvm.Cond.fieldLink "TroubleMemory" (12 : Nat) "TroubleMemory" "codes" "Ljava/util/ArrayList;") ∈ px_TB := px_tb1 76 (by decide +kernel) rfl
theorem w_77 : (Jvm.Cond.fieldLink "TroubleMemory" (40 : Nat) "TroubleMemory" "memory" "LTroubleMemory$Memory;") ∈ px_TB := px_tb1 77 (by decide +kernel) rfl
theorem w_78 : (Jvm.Cond.fieldLink "TroubleMemory" (16 : Nat) "TroubleMemory" "conditions" "I") ∈ px_TB := px_tb1 78 (by decide +kernel) rfl
theorem w_79 : (Jvm.Cond.fieldLink "TroubleMemory" (20 : Nat) "TroubleMemory" "powered" "Z") ∈ px_TB := px_tb1 79 (by decide +kernel) rfl
theorem w_80 : (Jvm.Cond.fieldLink "TroubleMemory" (24 : Nat) "TroubleMemory" "cycles" "I") ∈ px_TB := px_tb1 80 (by decide +kernel) rfl
theorem w_81 : (Jvm.Cond.fieldLink "TroubleMemory" (27 : Nat) "TroubleMemory" "events" "I") ∈ px_TB := px_tb1 81 (by decide +kernel) rfl
theorem w_82 : (Jvm.Cond.laysFinal "TroubleMemory" "TroubleMemory" "codes" "Ljava/util/ArrayList;") ∈ px_TB := px_tb1 82 (by decide +kernel) rfl
theorem w_83 : (Jvm.Cond.soleField "TroubleMemory" "codes") ∈ px_TB := px_tb1 83 (by decide +kernel) rfl
theorem w_84 : (Jvm.Cond.laysFinal "TroubleMemory" "TroubleMemory" "memory" "LTroubleMemory$Memory;") ∈ px_TB := px_tb1 84 (by decide +kernel) rfl
theorem w_85 : (Jvm.Cond.soleField "TroubleMemory" "memory") ∈ px_TB := px_tb1 85 (by decide +kernel) rfl
theorem w_86 : (Jvm.Cond.lays "TroubleMemory" "TroubleMemory" "conditions" "I") ∈ px_TB := px_tb1 86 (by decide +kernel) rfl
theorem w_87 : (Jvm.Cond.soleField "TroubleMemory" "conditions") ∈ px_TB := px_tb1 87 (by decide +kernel) rfl
theorem w_88 : (Jvm.Cond.lays "TroubleMemory" "TroubleMemory" "powered" "Z") ∈ px_TB := px_tb1 88 (by decide +kernel) rfl
theorem w_89 : (Jvm.Cond.soleField "TroubleMemory" "powered") ∈ px_TB := px_tb1 89 (by decide +kernel) rfl
theorem w_90 : (Jvm.Cond.lays "TroubleMemory" "TroubleMemory" "cycles" "I") ∈ px_TB := px_tb1 90 (by decide +kernel) rfl
theorem w_91 : (Jvm.Cond.soleField "TroubleMemory" "cycles") ∈ px_TB := px_tb1 91 (by decide +kernel) rfl
theorem w_92 : (Jvm.Cond.lays "TroubleMemory" "TroubleMemory" "events" "I") ∈ px_TB := px_tb1 92 (by decide +kernel) rfl
theorem w_93 : (Jvm.Cond.soleField "TroubleMemory" "events") ∈ px_TB := px_tb1 93 (by decide +kernel) rfl
theorem w_94 : (Jvm.Cond.superclass "TroubleMemory" "java/lang/Object") ∈ px_TB := px_tb1 94 (by decide +kernel) rfl
theorem w_95 : (Jvm.Cond.methodLink "TroubleMemoryLaw" (21 : Nat) ({ cls := "TroubleMemory", name := "code", desc := "(III)I" } : Jvm.MethodName)) ∈ px_TB := px_tb1 95 (by decide +kernel) rfl
theorem w_96 : (Jvm.Cond.instanceMethod ({ cls := "TroubleMemory", name := "code", desc := "(III)I" } : Jvm.MethodName)) ∈ px_TB := px_tb1 96 (by decide +kernel) rfl
theorem w_97 : (Jvm.Cond.selects "TroubleMemory" ({ cls := "TroubleMemory", name := "code", desc := "(III)I" } : Jvm.MethodName) ({ cls := "TroubleMemory", name := "code", desc := "(III)I" } : Jvm.MethodName)) ∈ px_TB := px_tb1 97 (by decide +kernel) rfl
theorem w_98 : (Jvm.Cond.code ({ cls := "TroubleMemory", name := "code", desc := "(III)I" } : Jvm.MethodName) prog_1_method_2_code (5 : Nat) (Option.some Jvm.ClassFile.FieldType.int)) ∈ px_TB := px_tb1 98 rfl rfl
theorem w_99 : (Jvm.Cond.methodLink "TroubleMemory" (44 : Nat) ({ cls := "java/util/ArrayList", name := "size", desc := "()I" } : Jvm.MethodName)) ∈ px_TB := px_tb1 99 (by decide +kernel) rfl
theorem w_100 : (Jvm.Cond.instanceMethod ({ cls := "java/util/ArrayList", name := "size", desc := "()I" } : Jvm.MethodName)) ∈ px_TB := px_tb1 100 (by decide +kernel) rfl
theorem w_101 : (Jvm.Cond.selects "java/util/ArrayList" ({ cls := "java/util/ArrayList", name := "size", desc := "()I" } : Jvm.MethodName) ({ cls := "java/util/ArrayList", name := "size", desc := "()I" } : Jvm.MethodName)) ∈ px_TB := px_tb1 101 (by decide +kernel) rfl
theorem w_102 : (Jvm.Cond.code ({ cls := "java/util/ArrayList", name := "size", desc := "()I" } : Jvm.MethodName) prog_17_method_8_code (1 : Nat) (Option.some Jvm.ClassFile.FieldType.int)) ∈ px_TB := px_tb1 102 rfl rfl
theorem w_103 : (Jvm.Cond.classLink "TroubleMemory" (48 : Nat) "TroubleMemory$Code") ∈ px_TB := px_tb1 103 (by decide +kernel) rfl
theorem w_104 : (Jvm.Cond.instantiable "TroubleMemory$Code" (9 : Nat)) ∈ px_TB := px_tb1 104 (by decide +kernel) rfl
theorem w_105 : (Jvm.Cond.methodLink "TroubleMemory" (50 : Nat) ({ cls := "TroubleMemory$Code", name := "<init>", desc := "(IIII)V" } : Jvm.MethodName)) ∈ px_TB := px_tb1 105 (by decide +kernel) rfl
theorem w_106 : (Jvm.Cond.instanceMethod ({ cls := "TroubleMemory$Code", name := "<init>", desc := "(IIII)V" } : Jvm.MethodName)) ∈ px_TB := px_tb1 106 (by decide +kernel) rfl
theorem w_107 : (Jvm.Cond.code ({ cls := "TroubleMemory$Code", name := "<init>", desc := "(IIII)V" } : Jvm.MethodName) prog_2_method_1_code (5 : Nat) (Option.none : Option Jvm.ClassFile.FieldType)) ∈ px_TB := px_tb1 107 rfl rfl
theorem w_108 : (Jvm.Cond.methodLink "TroubleMemory$Code" (3 : Nat) ({ cls := "java/lang/Object", name := "<init>", desc := "()V" } : Jvm.MethodName)) ∈ px_TB := px_tb1 108 (by decide +kernel) rfl
theorem w_109 : (Jvm.Cond.classLink "TroubleMemory$Code" (9 : Nat) "TroubleMemory$Standing") ∈ px_TB := px_tb1 109 (by decide +kernel) rfl
theorem w_110 : (Jvm.Cond.instantiable "TroubleMemory$Standing" (4 : Nat)) ∈ px_TB := px_tb1 110 (by decide +kernel) rfl
theorem w_111 : (Jvm.Cond.methodLinkNest "TroubleMemory$Code" (11 : Nat) ({ cls := "TroubleMemory$Standing", name := "<init>", desc := "()V" } : Jvm.MethodName) "TroubleMemory") ∈ px_NW := px_nw 0 (by decide +kernel)
theorem w_112 : (Jvm.Cond.instanceMethod ({ cls := "TroubleMemory$Standing", name := "<init>", desc := "()V" } : Jvm.MethodName)) ∈ px_TB := px_tb1 112 (by decide +kernel) rfl
theorem w_113 : (Jvm.Cond.code ({ cls := "TroubleMemory$Standing", name := "<init>", desc := "()V" } : Jvm.MethodName) prog_6_method_1_code (1 : Nat) (Option.none : Option Jvm.ClassFile.FieldType)) ∈ px_TB := px_tb1 113 rfl rfl
theorem w_114 : (Jvm.Cond.methodLink "TroubleMemory$Standing" (3 : Nat) ({ cls := "java/lang/Object", name := "<init>", desc := "()V" } : Jvm.MethodName)) ∈ px_TB := px_tb1 114 (by decide +kernel) rfl
theorem w_115 : (Jvm.Cond.fieldLink "TroubleMemory$Standing" (9 : Nat) "TroubleMemory$Standing" "status" "I") ∈ px_TB := px_tb1 115 (by decide +kernel) rfl
theorem w_116 : (Jvm.Cond.fieldLink "TroubleMemory" (83 : Nat) "TroubleMemory$Standing" "status" "I") ∈ px_TB := px_tb1 116 (by decide +kernel) rfl
theorem w_117 : (Jvm.Cond.fieldLink "TroubleMemory$Standing" (15 : Nat) "TroubleMemory$Standing" "trips" "I") ∈ px_TB := px_tb1 117 (by decide +kernel) rfl
theorem w_118 : (Jvm.Cond.fieldLink "TroubleMemory$Standing" (18 : Nat) "TroubleMemory$Standing" "age" "I") ∈ px_TB := px_tb1 118 (by decide +kernel) rfl
theorem w_119 : (Jvm.Cond.fieldLink "TroubleMemory" (170 : Nat) "TroubleMemory$Standing" "age" "I") ∈ px_TB := px_tb1 119 (by decide +kernel) rfl
theorem w_120 : (Jvm.Cond.fieldLink "TroubleMemory$Standing" (21 : Nat) "TroubleMemory$Standing" "good" "I") ∈ px_TB := px_tb1 120 (by decide +kernel) rfl
theorem w_121 : (Jvm.Cond.lays "TroubleMemory$Standing" "TroubleMemory$Standing" "status" "I") ∈ px_TB := px_tb1 121 (by decide +kernel) rfl
theorem w_122 : (Jvm.Cond.soleField "TroubleMemory$Standing" "status") ∈ px_TB := px_tb1 122 (by decide +kernel) rfl
theorem w_123 : (Jvm.Cond.lays "TroubleMemory$Standing" "TroubleMemory$Standing" "trips" "I") ∈ px_TB := px_tb1 123 (by decide +kernel) rfl
theorem w_124 : (Jvm.Cond.soleField "TroubleMemory$Standing" "trips") ∈ px_TB := px_tb1 124 (by decide +kernel) rfl
theorem w_125 : (Jvm.Cond.lays "TroubleMemory$Standing" "TroubleMemory$Standing" "age" "I") ∈ px_TB := px_tb1 125 (by decide +kernel) rfl
theorem w_126 : (Jvm.Cond.soleField "TroubleMemory$Standing" "age") ∈ px_TB := px_tb1 126 (by decide +kernel) rfl
theorem w_127 : (Jvm.Cond.lays "TroubleMemory$Standing" "TroubleMemory$Standing" "good" "I") ∈ px_TB := px_tb1 127 (by decide +kernel) rfl
theorem w_128 : (Jvm.Cond.soleField "TroubleMemory$Standing" "good") ∈ px_TB := px_tb1 128 (by decide +kernel) rfl
theorem w_129 : (Jvm.Cond.superclass "TroubleMemory$Standing" "java/lang/Object") ∈ px_TB := px_tb1 129 (by decide +kernel) rfl
theorem w_130 : (Jvm.Cond.fieldLink "TroubleMemory$Code" (33 : Nat) "TroubleMemory$Code" "number" "I") ∈ px_TB := px_tb1 130 (by decide +kernel) rfl
theorem w_131 : (Jvm.Cond.fieldLink "TroubleMemory" (57 : Nat) "TroubleMemory$Code" "number" "I") ∈ px_TB := px_tb1 131 (by decide +kernel) rfl
theorem w_132 : (Jvm.Cond.fieldLink "TroubleMemory$Code" (36 : Nat) "TroubleMemory$Code" "priority" "I") ∈ px_TB := px_tb1 132 (by decide +kernel) rfl
theorem w_133 : (Jvm.Cond.fieldLink "TroubleMemory$Entry" (32 : Nat) "TroubleMemory$Code" "priority" "I") ∈ px_TB := px_tb1 133 (by decide +kernel) rfl
theorem w_134 : (Jvm.Cond.fieldLink "TroubleMemory" (161 : Nat) "TroubleMemory$Code" "priority" "I") ∈ px_TB := px_tb1 134 (by decide +kernel) rfl
theorem w_135 : (Jvm.Cond.fieldLink "TroubleMemory$Code" (39 : Nat) "TroubleMemory$Code" "up" "I") ∈ px_TB := px_tb1 135 (by decide +kernel) rfl
theorem w_136 : (Jvm.Cond.fieldLink "TroubleMemory" (194 : Nat) "TroubleMemory$Code" "up" "I") ∈ px_TB := px_tb1 136 (by decide +kernel) rfl
theorem w_137 : (Jvm.Cond.fieldLink "TroubleMemory$Code" (42 : Nat) "TroubleMemory$Code" "down" "I") ∈ px_TB := px_tb1 137 (by decide +kernel) rfl
theorem w_138 : (Jvm.Cond.fieldLink "TroubleMemory$Code" (12 : Nat) "TroubleMemory$Code" "now" "LTroubleMemory$Standing;") ∈ px_TB := px_tb1 138 (by decide +kernel) rfl
theorem w_139 : (Jvm.Cond.fieldLink "TroubleMemory$Entry" (37 : Nat) "TroubleMemory$Code" "now" "LTroubleMemory$Standing;") ∈ px_TB := px_tb1 139 (by decide +kernel) rfl
theorem w_140 : (Jvm.Cond.fieldLink "TroubleMemory" (79 : Nat) "TroubleMemory$Code" "now" "LTroubleMemory$Standing;") ∈ px_TB := px_tb1 140 (by decide +kernel) rfl
theorem w_141 : (Jvm.Cond.fieldLink "TroubleMemory$Code" (18 : Nat) "TroubleMemory$Code" "kept" "LTroubleMemory$Standing;") ∈ px_TB := px_tb1 141 (by decide +kernel) rfl
theorem w_142 : (Jvm.Cond.fieldLink "TroubleMemory" (99 : Nat) "TroubleMemory$Code" "kept" "LTroubleMemory$Standing;") ∈ px_TB := px_tb1 142 (by decide +kernel) rfl
theorem w_143 : (Jvm.Cond.fieldLink "TroubleMemory$Code" (21 : Nat) "TroubleMemory$Code" "counter" "I") ∈ px_TB := px_tb1 143 (by decide +kernel) rfl
theorem w_144 : (Jvm.Cond.fieldLink "TroubleMemory" (164 : Nat) "TroubleMemory$Code" "counter" "I") ∈ px_TB := px_tb1 144 (by decide +kernel) rfl
theorem w_145 : (Jvm.Cond.fieldLink "TroubleMemory$Code" (25 : Nat) "TroubleMemory$Code" "parent" "LTroubleMemory$Code;") ∈ px_TB := px_tb1 145 (by decide +kernel) rfl
theorem w_146 : (Jvm.Cond.fieldLink "TroubleMemory" (137 : Nat) "TroubleMemory$Code" "parent" "LTroubleMemory$Code;") ∈ px_TB := px_tb1 146 (by decide +kernel) rfl
theorem w_147 : (Jvm.Cond.fieldLink "TroubleMemory$Code" (29 : Nat) "TroubleMemory$Code" "entry" "LTroubleMemory$Entry;") ∈ px_TB := px_tb1 147 (by decide +kernel) rfl
theorem w_148 : (Jvm.Cond.fieldLink "TroubleMemory$Memory" (25 : Nat) "TroubleMemory$Code" "entry" "LTroubleMemory$Entry;") ∈ px_TB := px_tb1 148 (by decide +kernel) rfl
theorem w_149 : (Jvm.Cond.fieldLink "TroubleMemory" (106 : Nat) "TroubleMemory$Code" "entry" "LTroubleMemory$Entry;") ∈ px_TB := px_tb1 149 (by decide +kernel) rfl
theorem w_150 : (Jvm.Cond.laysFinal "TroubleMemory$Code" "TroubleMemory$Code" "number" "I") ∈ px_TB := px_tb1 150 (by decide +kernel) rfl
theorem w_151 : (Jvm.Cond.soleField "TroubleMemory$Code" "number") ∈ px_TB := px_tb1 151 (by decide +kernel) rfl
theorem w_152 : (Jvm.Cond.laysFinal "TroubleMemory$Code" "TroubleMemory$Code" "priority" "I") ∈ px_TB := px_tb1 152 (by decide +kernel) rfl
theorem w_153 : (Jvm.Cond.soleField "TroubleMemory$Code" "priority") ∈ px_TB := px_tb1 153 (by decide +kernel) rfl
theorem w_154 : (Jvm.Cond.laysFinal "TroubleMemory$Code" "TroubleMemory$Code" "up" "I") ∈ px_TB := px_tb1 154 (by decide +kernel) rfl
theorem w_155 : (Jvm.Cond.soleField "TroubleMemory$Code" "up") ∈ px_TB := px_tb1 155 (by decide +kernel) rfl
theorem w_156 : (Jvm.Cond.laysFinal "TroubleMemory$Code" "TroubleMemory$Code" "down" "I") ∈ px_TB := px_tb1 156 (by decide +kernel) rfl
theorem w_157 : (Jvm.Cond.soleField "TroubleMemory$Code" "down") ∈ px_TB := px_tb1 157 (by decide +kernel) rfl
theorem w_158 : (Jvm.Cond.laysFinal "TroubleMemory$Code" "TroubleMemory$Code" "now" "LTroubleMemory$Standing;") ∈ px_TB := px_tb1 158 (by decide +kernel) rfl
theorem w_159 : (Jvm.Cond.soleField "TroubleMemory$Code" "now") ∈ px_TB := px_tb1 159 (by decide +kernel) rfl
theorem w_160 : (Jvm.Cond.laysFinal "TroubleMemory$Code" "TroubleMemory$Code" "kept" "LTroubleMemory$Standing;") ∈ px_TB := px_tb1 160 (by decide +kernel) rfl
theorem w_161 : (Jvm.Cond.soleField "TroubleMemory$Code" "kept") ∈ px_TB := px_tb1 161 (by decide +kernel) rfl
theorem w_162 : (Jvm.Cond.lays "TroubleMemory$Code" "TroubleMemory$Code" "counter" "I") ∈ px_TB := px_tb1 162 (by decide +kernel) rfl
theorem w_163 : (Jvm.Cond.soleField "TroubleMemory$Code" "counter") ∈ px_TB := px_tb1 163 (by decide +kernel) rfl
theorem w_164 : (Jvm.Cond.lays "TroubleMemory$Code" "TroubleMemory$Code" "parent" "LTroubleMemory$Code;") ∈ px_TB := px_tb1 164 (by decide +kernel) rfl
theorem w_165 : (Jvm.Cond.soleField "TroubleMemory$Code" "parent") ∈ px_TB := px_tb1 165 (by decide +kernel) rfl
theorem w_166 : (Jvm.Cond.lays "TroubleMemory$Code" "TroubleMemory$Code" "entry" "LTroubleMemory$Entry;") ∈ px_TB := px_tb1 166 (by decide +kernel) rfl
theorem w_167 : (Jvm.Cond.soleField "TroubleMemory$Code" "entry") ∈ px_TB := px_tb1 167 (by decide +kernel) rfl
theorem w_168 : (Jvm.Cond.superclass "TroubleMemory$Code" "java/lang/Object") ∈ px_TB := px_tb1 168 (by decide +kernel) rfl
theorem w_169 : (Jvm.Cond.methodLink "TroubleMemory" (53 : Nat) ({ cls := "java/util/ArrayList", name := "add", desc := "(Ljava/lang/Object;)Z" } : Jvm.MethodName)) ∈ px_TB := px_tb1 169 (by decide +kernel) rfl
theorem w_170 : (Jvm.Cond.instanceMethod ({ cls := "java/util/ArrayList", name := "add", desc := "(Ljava/lang/Object;)Z" } : Jvm.MethodName)) ∈ px_TB := px_tb1 170 (by decide +kernel) rfl
theorem w_171 : (Jvm.Cond.selects "java/util/ArrayList" ({ cls := "java/util/ArrayList", name := "add", desc := "(Ljava/lang/Object;)Z" } : Jvm.MethodName) ({ cls := "java/util/ArrayList", name := "add", desc := "(Ljava/lang/Object;)Z" } : Jvm.MethodName)) ∈ px_TB := px_tb1 171 (by decide +kernel) rfl
theorem w_172 : (Jvm.Cond.code ({ cls := "java/util/ArrayList", name := "add", desc := "(Ljava/lang/Object;)Z" } : Jvm.MethodName) prog_17_method_25_code (2 : Nat) (Option.some Jvm.ClassFile.FieldType.boolean)) ∈ px_TB := px_tb1 172 rfl rfl
theorem w_173 : (Jvm.Cond.methodLink "java/util/ArrayList" (131 : Nat) ({ cls := "java/util/ArrayList", name := "add", desc := "(Ljava/lang/Object;[Ljava/lang/Object;I)V" } : Jvm.MethodName)) ∈ px_TB := px_tb1 173 (by decide +kernel) rfl
theorem w_175 : (Jvm.Cond.instanceMethod ({ cls := "java/util/ArrayList", name := "add", desc := "(Ljava/lang/Object;[Ljava/lang/Object;I)V" } : Jvm.MethodName)) ∈ px_TB := px_tb1 175 (by decide +kernel) rfl
theorem w_176 : (Jvm.Cond.code ({ cls := "java/util/ArrayList", name := "add", desc := "(Ljava/lang/Object;[Ljava/lang/Object;I)V" } : Jvm.MethodName) prog_17_method_24_code (4 : Nat) (Option.none : Option Jvm.ClassFile.FieldType)) ∈ px_TB := px_tb1 176 rfl rfl
theorem w_177 : (Jvm.Cond.methodLink "java/util/ArrayList" (129 : Nat) ({ cls := "java/util/ArrayList", name := "grow", desc := "()[Ljava/lang/Object;" } : Jvm.MethodName)) ∈ px_TB := px_tb1 177 (by decide +kernel) rfl
theorem w_179 : (Jvm.Cond.instanceMethod ({ cls := "java/util/ArrayList", name := "grow", desc := "()[Ljava/lang/Object;" } : Jvm.MethodName)) ∈ px_TB := px_tb1 179 (by decide +kernel) rfl
theorem w_180 : (Jvm.Cond.code ({ cls := "java/util/ArrayList", name := "grow", desc := "()[Ljava/lang/Object;" } : Jvm.MethodName) prog_17_method_7_code (1 : Nat) (Option.some (Jvm.ClassFile.FieldType.array (Jvm.ClassFile.FieldType.object "java/lang/Object")))) ∈ px_TB := px_tb1 180 rfl rfl
theorem w_181 : (Jvm.Cond.methodLink "java/util/ArrayList" (69 : Nat) ({ cls := "java/util/ArrayList", name := "grow", desc := "(I)[Ljava/lang/Object;" } : Jvm.MethodName)) ∈ px_TB := px_tb1 181 (by decide +kernel) rfl
theorem w_183 : (Jvm.Cond.instanceMethod ({ cls := "java/util/ArrayList", name := "grow", desc := "(I)[Ljava/lang/Object;" } : Jvm.MethodName)) ∈ px_TB := px_tb1 183 (by decide +kernel) rfl
theorem w_184 : (Jvm.Cond.code ({ cls := "java/util/ArrayList", name := "grow", desc := "(I)[Ljava/lang/Object;" } : Jvm.MethodName) prog_17_method_6_code (4 : Nat) (Option.some (Jvm.ClassFile.FieldType.array (Jvm.ClassFile.FieldType.object "java/lang/Object")))) ∈ px_TB := px_tb1 184 rfl rfl
theorem w_185 : (Jvm.Cond.methodLink "java/util/ArrayList" (73 : Nat) ({ cls := "jdk/internal/util/ArraysSupport", name := "newLength", desc := "(III)I" } : Jvm.MethodName)) ∈ px_TB := px_tb1 185 (by decide +kernel) rfl
theorem w_186 : (Jvm.Cond.static ({ cls := "jdk/internal/util/ArraysSupport", name := "newLength", desc := "(III)I" } : Jvm.MethodName)) ∈ px_TB := px_tb1 186 (by decide +kernel) rfl
theorem w_187 : (Jvm.Cond.code ({ cls := "jdk/internal/util/ArraysSupport", name := "newLength", desc := "(III)I" } : Jvm.MethodName) prog_24_method_27_code (4 : Nat) (Option.some Jvm.ClassFile.FieldType.int)) ∈ px_TB := px_tb1 187 rfl rfl
theorem w_188 : (Jvm.Cond.methodLink "jdk/internal/util/ArraysSupport" (194 : Nat) ({ cls := "java/lang/Math", name := "max", desc := "(II)I" } : Jvm.MethodName)) ∈ px_TB := px_tb1 188 (by decide +kernel) rfl
theorem w_189 : (Jvm.Cond.static ({ cls := "java/lang/Math", name := "max", desc := "(II)I" } : Jvm.MethodName)) ∈ px_TB := px_tb1 189 (by decide +kernel) rfl
theorem w_190 : (Jvm.Cond.code ({ cls := "java/lang/Math", name := "max", desc := "(II)I" } : Jvm.MethodName) prog_13_method_65_code (2 : Nat) (Option.some Jvm.ClassFile.FieldType.int)) ∈ px_TB := px_tb1 190 rfl rfl
theorem w_191 : (Jvm.Cond.constant "jdk/internal/util/ArraysSupport" (200 : Nat) (2147483639 : Int32)) ∈ px_TB := px_tb1 191 (by decide +kernel) rfl
theorem w_192 : (Jvm.Cond.methodLink "jdk/internal/util/ArraysSupport" (201 : Nat) ({ cls := "jdk/internal/util/ArraysSupport", name := "hugeLength", desc := "(II)I" } : Jvm.MethodName)) ∈ px_TB := px_tb1 192 (by decide +kernel) rfl
theorem w_193 : (Jvm.Cond.static ({ cls := "jdk/internal/util/ArraysSupport", name := "hugeLength", desc := "(II)I" } : Jvm.MethodName)) ∈ px_TB := px_tb1 193 (by decide +kernel) rfl
theorem w_194 : (Jvm.Cond.code ({ cls := "jdk/internal/util/ArraysSupport", name := "hugeLength", desc := "(II)I" } : Jvm.MethodName) prog_24_method_28_code (3 : Nat) (Option.some Jvm.ClassFile.FieldType.int)) ∈ px_TB := px_tb1 194 rfl rfl
theorem w_195 : (Jvm.Cond.methodLink "java/util/ArrayList" (66 : Nat) ({ cls := "java/util/Arrays", name := "copyOf", desc := "([Ljava/lang/Object;I)[Ljava/lang/Object;" } : Jvm.MethodName)) ∈ px_TB := px_tb1 195 (by decide +kernel) rfl
theorem w_196 : (Jvm.Cond.static ({ cls := "java/util/Arrays", name := "copyOf", desc := "([Ljava/lang/Object;I)[Ljava/lang/Object;" } : Jvm.MethodName)) ∈ px_TB := px_tb1 196 (by decide +kernel) rfl
theorem w_197 : (Jvm.Cond.code ({ cls := "java/util/Arrays", name := "copyOf", desc := "([Ljava/lang/Object;I)[Ljava/lang/Object;" } : Jvm.MethodName) prog_18_method_119_code (2 : Nat) (Option.some (Jvm.ClassFile.FieldType.array (Jvm.ClassFile.FieldType.object "java/lang/Object")))) ∈ px_TB := px_tb1 197 rfl rfl
theorem w_198 : (Jvm.Cond.methodLink "java/util/Arrays" (86 : Nat) ({ cls := "java/lang/Object", name := "getClass", desc := "()Ljava/lang/Class;" } : Jvm.MethodName)) ∈ px_TB := px_tb1 198 (by decide +kernel) rfl
theorem w_199 : (Jvm.Cond.instanceMethod ({ cls := "java/lang/Object", name := "getClass", desc := "()Ljava/lang/Class;" } : Jvm.MethodName)) ∈ px_TB := px_tb1 199 (by decide +kernel) rfl
theorem w_200 : (Jvm.Cond.sameMethod "java/lang/Object" "java/lang/Object" "getClass" "()Ljava/lang/Class;") ∈ px_TB := px_tb1 200 (by decide +kernel) rfl
theorem w_201 : (Jvm.Cond.selects "TroubleMemory" ({ cls := "java/lang/Object", name := "getClass", desc := "()Ljava/lang/Class;" } : Jvm.MethodName) ({ cls := "java/lang/Object", name := "getClass", desc := "()Ljava/lang/Class;" } : Jvm.MethodName)) ∈ px_TB := px_tb1 201 (by decide +kernel) rfl
theorem w_202 : (Jvm.Cond.selects "TroubleMemory$Code" ({ cls := "java/lang/Object", name := "getClass", desc := "()Ljava/lang/Class;" } : Jvm.MethodName) ({ cls := "java/lang/Object", name := "getClass", desc := "()Ljava/lang/Class;" } : Jvm.MethodName)) ∈ px_TB := px_tb1 202 (by decide +kernel) rfl
theorem w_203 : (Jvm.Cond.selects "TroubleMemory$Entry" ({ cls := "java/lang/Object", name := "getClass", desc := "()Ljava/lang/Class;" } : Jvm.MethodName) ({ cls := "java/lang/Object", name := "getClass", desc := "()Ljava/lang/Class;" } : Jvm.MethodName)) ∈ px_TB := px_tb1 203 (by decide +kernel) rfl
theorem w_204 : (Jvm.Cond.selects "TroubleMemory$Memory" ({ cls := "java/lang/Object", name := "getClass", desc := "()Ljava/lang/Class;" } : Jvm.MethodName) ({ cls := "java/lang/Object", name := "getClass", desc := "()Ljava/lang/Class;" } : Jvm.MethodName)) ∈ px_TB := px_tb1 204 (by decide +kernel) rfl
theorem w_205 : (Jvm.Cond.selects "TroubleMemory$Snapshot" ({ cls := "java/lang/Object", name := "getClass", desc := "()Ljava/lang/Class;" } : Jvm.MethodName) ({ cls := "java/lang/Object", name := "getClass", desc := "()Ljava/lang/Class;" } : Jvm.MethodName)) ∈ px_TB := px_tb1 205 (by decide +kernel) rfl
theorem w_206 : (Jvm.Cond.selects "TroubleMemory$Standing" ({ cls := "java/lang/Object", name := "getClass", desc := "()Ljava/lang/Class;" } : Jvm.MethodName) ({ cls := "java/lang/Object", name := "getClass", desc := "()Ljava/lang/Class;" } : Jvm.MethodName)) ∈ px_TB := px_tb1 206 (by decide +kernel) rfl
theorem w_207 : (Jvm.Cond.selects "TroubleMemoryModel" ({ cls := "java/lang/Object", name := "getClass", desc := "()Ljava/lang/Class;" } : Jvm.MethodName) ({ cls := "java/lang/Object", name := "getClass", desc := "()Ljava/lang/Class;" } : Jvm.MethodName)) ∈ px_TB := px_tb1 207 (by decide +kernel) rfl
theorem w_208 : (Jvm.Cond.selects "java/util/ArrayList" ({ cls := "java/lang/Object", name := "getClass", desc := "()Ljava/lang/Class;" } : Jvm.MethodName) ({ cls := "java/lang/Object", name := "getClass", desc := "()Ljava/lang/Class;" } : Jvm.MethodName)) ∈ px_TB := px_tb1 208 (by decide +kernel) rfl
theorem w_209 : (Jvm.Cond.native ({ cls := "java/lang/Object", name := "getClass", desc := "()Ljava/lang/Class;" } : Jvm.MethodName)) ∈ px_TB := px_tb1 209 (by decide +kernel) rfl
theorem w_210 : (Jvm.Cond.methodLink "java/util/Arrays" (300 : Nat) ({ cls := "java/util/Arrays", name := "copyOf", desc := "([Ljava/lang/Object;ILjava/lang/Class;)[Ljava/lang/Object;" } : Jvm.MethodName)) ∈ px_TB := px_tb1 210 (by decide +kernel) rfl
theorem w_211 : (Jvm.Cond.static ({ cls := "java/util/Arrays", name := "copyOf", desc := "([Ljava/lang/Object;ILjava/lang/Class;)[Ljava/lang/Object;" } : Jvm.MethodName)) ∈ px_TB := px_tb1 211 (by decide +kernel) rfl
theorem w_212 : (Jvm.Cond.code ({ cls := "java/util/Arrays", name := "copyOf", desc := "([Ljava/lang/Object;ILjava/lang/Class;)[Ljava/lang/Object;" } : Jvm.MethodName) prog_18_method_120_code (4 : Nat) (Option.some (Jvm.ClassFile.FieldType.array (Jvm.ClassFile.FieldType.object "java/lang/Object")))) ∈ px_TB := px_tb1 212 rfl rfl
theorem w_213 : (Jvm.Cond.classLink "java/util/Arrays" (110 : Nat) "[Ljava/lang/Object;") ∈ px_TB := px_tb1 213 (by decide +kernel) rfl
theorem w_215 : (Jvm.Cond.classLink "java/util/Arrays" (2 : Nat) "java/lang/Object") ∈ px_TB := px_tb1 215 (by decide +kernel) rfl
theorem w_216 : (Jvm.Cond.methodLink "java/util/Arrays" (304 : Nat) ({ cls := "java/lang/Math", name := "min", desc := "(II)I" } : Jvm.MethodName)) ∈ px_TB := px_tb1 216 (by decide +kernel) rfl
theorem w_217 : (Jvm.Cond.static ({ cls := "java/lang/Math", name := "min", desc := "(II)I" } : Jvm.MethodName)) ∈ px_TB := px_tb1 217 (by decide +kernel) rfl
theorem w_218 : (Jvm.Cond.code ({ cls := "java/lang/Math", name := "min", desc := "(II)I" } : Jvm.MethodName) prog_13_method_69_code (2 : Nat) (Option.some Jvm.ClassFile.FieldType.int)) ∈ px_TB := px_tb1 218 rfl rfl
theorem w_219 : (Jvm.Cond.methodLink "java/util/Arrays" (150 : Nat) ({ cls := "java/lang/System", name := "arraycopy", desc := "(Ljava/lang/Object;ILjava/lang/Object;II)V" } : Jvm.MethodName)) ∈ px_TB := px_tb1 219 (by decide +kernel) rfl
theorem w_220 : (Jvm.Cond.static ({ cls := "java/lang/System", name := "arraycopy", desc := "(Ljava/lang/Object;ILjava/lang/Object;II)V" } : Jvm.MethodName)) ∈ px_TB := px_tb1 220 (by decide +kernel) rfl
theorem w_221 : (Jvm.Cond.native ({ cls := "java/lang/System", name := "arraycopy", desc := "(Ljava/lang/Object;ILjava/lang/Object;II)V" } : Jvm.MethodName)) ∈ px_TB := px_tb1 221 (by decide +kernel) rfl
theorem w_222 : (Jvm.Cond.methodLink "java/util/ArrayList" (79 : Nat) ({ cls := "java/lang/Math", name := "max", desc := "(II)I" } : Jvm.MethodName)) ∈ px_TB := px_tb1 222 (by decide +kernel) rfl
theorem w_223 : (Jvm.Cond.classLink "java/util/ArrayList" (7 : Nat) "java/lang/Object") ∈ px_TB := px_tb1 223 (by decide +kernel) rfl
theorem w_224 : (Jvm.Cond.methodLink "TroubleMemoryLaw" (26 : Nat) ({ cls := "TroubleMemory", name := "event", desc := "(IZ)I" } : Jvm.MethodName)) ∈ px_TB := px_tb1 224 (by decide +kernel) rfl
theorem w_225 : (Jvm.Cond.instanceMethod ({ cls := "TroubleMemory", name := "event", desc := "(IZ)I" } : Jvm.MethodName)) ∈ px_TB := px_tb1 225 (by decide +kernel) rfl
theorem w_226 : (Jvm.Cond.selects "TroubleMemory" ({ cls := "TroubleMemory", name := "event", desc := "(IZ)I" } : Jvm.MethodName) ({ cls := "TroubleMemory", name := "event", desc := "(IZ)I" } : Jvm.MethodName)) ∈ px_TB := px_tb1 226 (by decide +kernel) rfl
theorem w_227 : (Jvm.Cond.code ({ cls := "TroubleMemory", name := "event", desc := "(IZ)I" } : Jvm.MethodName) prog_1_method_3_code (4 : Nat) (Option.some Jvm.ClassFile.FieldType.int)) ∈ px_TB := px_tb1 227 rfl rfl
theorem w_228 : (Jvm.Cond.methodLink "TroubleMemory" (60 : Nat) ({ cls := "TroubleMemory", name := "find", desc := "(I)LTroubleMemory$Code;" } : Jvm.MethodName)) ∈ px_TB := px_tb1 228 (by decide +kernel) rfl
theorem w_230 : (Jvm.Cond.instanceMethod ({ cls := "TroubleMemory", name := "find", desc := "(I)LTroubleMemory$Code;" } : Jvm.MethodName)) ∈ px_TB := px_tb1 230 (by decide +kernel) rfl
theorem w_231 : (Jvm.Cond.code ({ cls := "TroubleMemory", name := "find", desc := "(I)LTroubleMemory$Code;" } : Jvm.MethodName) prog_1_method_17_code (2 : Nat) (Option.some (Jvm.ClassFile.FieldType.object "TroubleMemory$Code"))) ∈ px_TB := px_tb1 231 rfl rfl
theorem w_232 : (Jvm.Cond.methodLink "TroubleMemory" (88 : Nat) ({ cls := "java/util/ArrayList", name := "get", desc := "(I)Ljava/lang/Object;" } : Jvm.MethodName)) ∈ px_TB := px_tb1 232 (by decide +kernel) rfl
theorem w_233 : (Jvm.Cond.instanceMethod ({ cls := "java/util/ArrayList", name := "get", desc := "(I)Ljava/lang/Object;" } : Jvm.MethodName)) ∈ px_TB := px_tb1 233 (by decide +kernel) rfl
theorem w_234 : (Jvm.Cond.selects "java/util/ArrayList" ({ cls := "java/util/ArrayList", name := "get", desc := "(I)Ljava/lang/Object;" } : Jvm.MethodName) ({ cls := "java/util/ArrayList", name := "get", desc := "(I)Ljava/lang/Object;" } : Jvm.MethodName)) ∈ px_TB := px_tb1 234 (by decide +kernel) rfl
theorem w_235 : (Jvm.Cond.code ({ cls := "java/util/ArrayList", name := "get", desc := "(I)Ljava/lang/Object;" } : Jvm.MethodName) prog_17_method_20_code (2 : Nat) (Option.some (Jvm.ClassFile.FieldType.object "java/lang/Object"))) ∈ px_TB := px_tb1 235 rfl rfl
theorem w_236 : (Jvm.Cond.methodLink "java/util/ArrayList" (118 : Nat) ({ cls := "java/util/Objects", name := "checkIndex", desc := "(II)I" } : Jvm.MethodName)) ∈ px_TB := px_tb1 236 (by decide +kernel) rfl
theorem w_237 : (Jvm.Cond.static ({ cls := "java/util/Objects", name := "checkIndex", desc := "(II)I" } : Jvm.MethodName)) ∈ px_TB := px_tb1 237 (by decide +kernel) rfl
theorem w_238 : (Jvm.Cond.code ({ cls := "java/util/Objects", name := "checkIndex", desc := "(II)I" } : Jvm.MethodName) prog_21_method_17_code (2 : Nat) (Option.some Jvm.ClassFile.FieldType.int)) ∈ px_TB := px_tb1 238 rfl rfl
theorem w_239 : (Jvm.Cond.methodLink "java/util/Objects" (105 : Nat) ({ cls := "jdk/internal/util/Preconditions", name := "checkIndex", desc := "(IILjava/util/function/BiFunction;)I" } : Jvm.MethodName)) ∈ px_TB := px_tb1 239 (by decide +kernel) rfl
theorem w_240 : (Jvm.Cond.static ({ cls := "jdk/internal/util/Preconditions", name := "checkIndex", desc := "(IILjava/util/function/BiFunction;)I" } : Jvm.MethodName)) ∈ px_TB := px_tb2 0 (by decide +kernel) rfl
theorem w_241 : (Jvm.Cond.code ({ cls := "jdk/internal/util/Preconditions", name := "checkIndex", desc := "(IILjava/util/function/BiFunction;)I" } : Jvm.MethodName) prog_25_method_11_code (3 : Nat) (Option.some Jvm.ClassFile.FieldType.int)) ∈ px_TB := px_tb2 1 rfl rfl
theorem w_242 : (Jvm.Cond.methodLink "java/util/ArrayList" (123 : Nat) ({ cls := "java/util/ArrayList", name := "elementData", desc := "(I)Ljava/lang/Object;" } : Jvm.MethodName)) ∈ px_TB := px_tb2 2 (by decide +kernel) rfl
theorem w_243 : (Jvm.Cond.instanceMethod ({ cls := "java/util/ArrayList", name := "elementData", desc := "(I)Ljava/lang/Object;" } : Jvm.MethodName)) ∈ px_TB := px_tb2 3 (by decide +kernel) rfl
theorem w_244 : (Jvm.Cond.selects "java/util/ArrayList" ({ cls := "java/util/ArrayList", name := "elementData", desc := "(I)Ljava/lang/Object;" } : Jvm.MethodName) ({ cls := "java/util/ArrayList", name := "elementData", desc := "(I)Ljava/lang/Object;" } : Jvm.MethodName)) ∈ px_TB := px_tb2 4 (by decide +kernel) rfl
theorem w_245 : (Jvm.Cond.code ({ cls := "java/util/ArrayList", name := "elementData", desc := "(I)Ljava/lang/Object;" } : Jvm.MethodName) prog_17_method_18_code (2 : Nat) (Option.some (Jvm.ClassFile.FieldType.object "java/lang/Object"))) ∈ px_TB := px_tb2 5 rfl rfl
theorem w_246 : (Jvm.Cond.methodLink "TroubleMemory" (64 : Nat) ({ cls := "TroubleMemory$Code", name := "condition", desc := "()I" } : Jvm.MethodName)) ∈ px_TB := px_tb2 6 (by decide +kernel) rfl
theorem w_247 : (Jvm.Cond.instanceMethod ({ cls := "TroubleMemory$Code", name := "condition", desc := "()I" } : Jvm.MethodName)) ∈ px_TB := px_tb2 7 (by decide +kernel) rfl
theorem w_248 : (Jvm.Cond.selects "TroubleMemory$Code" ({ cls := "TroubleMemory$Code", name := "condition", desc := "()I" } : Jvm.MethodName) ({ cls := "TroubleMemory$Code", name := "condition", desc := "()I" } : Jvm.MethodName)) ∈ px_TB := px_tb2 8 (by decide +kernel) rfl
theorem w_249 : (Jvm.Cond.code ({ cls := "TroubleMemory$Code", name := "condition", desc := "()I" } : Jvm.MethodName) prog_2_method_3_code (1 : Nat) (Option.some Jvm.ClassFile.FieldType.int)) ∈ px_TB := px_tb2 9 rfl rfl
theorem w_250 : (Jvm.Cond.methodLink "TroubleMemory" (67 : Nat) ({ cls := "TroubleMemory", name := "isOn", desc := "(I)Z" } : Jvm.MethodName)) ∈ px_TB := px_tb2 10 (by decide +kernel) rfl
theorem w_252 : (Jvm.Cond.instanceMethod ({ cls := "TroubleMemory", name := "isOn", desc := "(I)Z" } : Jvm.MethodName)) ∈ px_TB := px_tb2 12 (by decide +kernel) rfl
theorem w_253 : (Jvm.Cond.code ({ cls := "TroubleMemory", name := "isOn", desc := "(I)Z" } : Jvm.MethodName) prog_1_method_18_code (2 : Nat) (Option.some Jvm.ClassFile.FieldType.boolean)) ∈ px_TB := px_tb2 13 rfl rfl
theorem w_254 : (Jvm.Cond.methodLink "TroubleMemory" (71 : Nat) ({ cls := "TroubleMemory$Code", name := "count", desc := "(Z)V" } : Jvm.MethodName)) ∈ px_TB := px_tb2 14 (by decide +kernel) rfl
theorem w_255 : (Jvm.Cond.instanceMethod ({ cls := "TroubleMemory$Code", name := "count", desc := "(Z)V" } : Jvm.MethodName)) ∈ px_TB := px_tb2 15 (by decide +kernel) rfl
theorem w_256 : (Jvm.Cond.selects "TroubleMemory$Code" ({ cls := "TroubleMemory$Code", name := "count", desc := "(Z)V" } : Jvm.MethodName) ({ cls := "TroubleMemory$Code", name := "count", desc := "(Z)V" } : Jvm.MethodName)) ∈ px_TB := px_tb2 16 (by decide +kernel) rfl
theorem w_257 : (Jvm.Cond.code ({ cls := "TroubleMemory$Code", name := "count", desc := "(Z)V" } : Jvm.MethodName) prog_2_method_4_code (2 : Nat) (Option.none : Option Jvm.ClassFile.FieldType)) ∈ px_TB := px_tb2 17 rfl rfl
theorem w_258 : (Jvm.Cond.methodLink "TroubleMemory$Code" (45 : Nat) ({ cls := "java/lang/Math", name := "max", desc := "(II)I" } : Jvm.MethodName)) ∈ px_TB := px_tb2 18 (by decide +kernel) rfl
theorem w_259 : (Jvm.Cond.methodLink "TroubleMemory$Code" (51 : Nat) ({ cls := "java/lang/Math", name := "min", desc := "(II)I" } : Jvm.MethodName)) ∈ px_TB := px_tb2 19 (by decide +kernel) rfl
theorem w_260 : (Jvm.Cond.methodLink "TroubleMemory" (75 : Nat) ({ cls := "TroubleMemory", name := "judge", desc := "(LTroubleMemory$Code;)V" } : Jvm.MethodName)) ∈ px_TB := px_tb2 20 (by decide +kernel) rfl
theorem w_262 : (Jvm.Cond.instanceMethod ({ cls := "TroubleMemory", name := "judge", desc := "(LTroubleMemory$Code;)V" } : Jvm.MethodName)) ∈ px_TB := px_tb2 22 (by decide +kernel) rfl
theorem w_263 : (Jvm.Cond.code ({ cls := "TroubleMemory", name := "judge", desc := "(LTroubleMemory$Code;)V" } : Jvm.MethodName) prog_1_method_20_code (3 : Nat) (Option.none : Option Jvm.ClassFile.FieldType)) ∈ px_TB := px_tb2 23 rfl rfl
theorem w_264 : (Jvm.Cond.methodLink "TroubleMemory" (176 : Nat) ({ cls := "TroubleMemory$Standing", name := "pass", desc := "()V" } : Jvm.MethodName)) ∈ px_TB := px_tb2 24 (by decide +kernel) rfl
theorem w_265 : (Jvm.Cond.instanceMethod ({ cls := "TroubleMemory$Standing", name := "pass", desc := "()V" } : Jvm.MethodName)) ∈ px_TB := px_tb2 25 (by decide +kernel) rfl
theorem w_266 : (Jvm.Cond.selects "TroubleMemory$Standing" ({ cls := "TroubleMemory$Standing", name := "pass", desc := "()V" } : Jvm.MethodName) ({ cls := "TroubleMemory$Standing", name := "pass", desc := "()V" } : Jvm.MethodName)) ∈ px_TB := px_tb2 26 (by decide +kernel) rfl
theorem w_267 : (Jvm.Cond.code ({ cls := "TroubleMemory$Standing", name := "pass", desc := "()V" } : Jvm.MethodName) prog_6_method_5_code (1 : Nat) (Option.none : Option Jvm.ClassFile.FieldType)) ∈ px_TB := px_tb2 27 rfl rfl
theorem w_268 : (Jvm.Cond.methodLink "TroubleMemory" (173 : Nat) ({ cls := "TroubleMemory$Standing", name := "has", desc := "(I)Z" } : Jvm.MethodName)) ∈ px_TB := px_tb2 28 (by decide +kernel) rfl
theorem w_269 : (Jvm.Cond.instanceMethod ({ cls := "TroubleMemory$Standing", name := "has", desc := "(I)Z" } : Jvm.MethodName)) ∈ px_TB := px_tb2 29 (by decide +kernel) rfl
theorem w_270 : (Jvm.Cond.selects "TroubleMemory$Standing" ({ cls := "TroubleMemory$Standing", name := "has", desc := "(I)Z" } : Jvm.MethodName) ({ cls := "TroubleMemory$Standing", name := "has", desc := "(I)Z" } : Jvm.MethodName)) ∈ px_TB := px_tb2 30 (by decide +kernel) rfl
theorem w_271 : (Jvm.Cond.code ({ cls := "TroubleMemory$Standing", name := "has", desc := "(I)Z" } : Jvm.MethodName) prog_6_method_2_code (2 : Nat) (Option.some Jvm.ClassFile.FieldType.boolean)) ∈ px_TB := px_tb2 31 rfl rfl
theorem w_272 : (Jvm.Cond.methodLink "TroubleMemory" (179 : Nat) ({ cls := "TroubleMemory$Standing", name := "fail", desc := "(Z)V" } : Jvm.MethodName)) ∈ px_TB := px_tb2 32 (by decide +kernel) rfl
theorem w_273 : (Jvm.Cond.instanceMethod ({ cls := "TroubleMemory$Standing", name := "fail", desc := "(Z)V" } : Jvm.MethodName)) ∈ px_TB := px_tb2 33 (by decide +kernel) rfl
theorem w_274 : (Jvm.Cond.selects "TroubleMemory$Standing" ({ cls := "TroubleMemory$Standing", name := "fail", desc := "(Z)V" } : Jvm.MethodName) ({ cls := "TroubleMemory$Standing", name := "fail", desc := "(Z)V" } : Jvm.MethodName)) ∈ px_TB := px_tb2 34 (by decide +kernel) rfl
theorem w_275 : (Jvm.Cond.code ({ cls := "TroubleMemory$Standing", name := "fail", desc := "(Z)V" } : Jvm.MethodName) prog_6_method_6_code (2 : Nat) (Option.none : Option Jvm.ClassFile.FieldType)) ∈ px_TB := px_tb2 35 rfl rfl
theorem w_276 : (Jvm.Cond.methodLink "TroubleMemory$Standing" (24 : Nat) ({ cls := "TroubleMemory$Standing", name := "has", desc := "(I)Z" } : Jvm.MethodName)) ∈ px_TB := px_tb2 36 (by decide +kernel) rfl
theorem w_277 : (Jvm.Cond.methodLink "TroubleMemory$Standing" (28 : Nat) ({ cls := "java/lang/Math", name := "min", desc := "(II)I" } : Jvm.MethodName)) ∈ px_TB := px_tb2 37 (by decide +kernel) rfl
theorem w_278 : (Jvm.Cond.methodLink "TroubleMemory" (182 : Nat) ({ cls := "TroubleMemory$Code", name := "isHidden", desc := "()Z" } : Jvm.MethodName)) ∈ px_TB := px_tb2 38 (by decide +kernel) rfl
theorem w_279 : (Jvm.Cond.instanceMethod ({ cls := "TroubleMemory$Code", name := "isHidden", desc := "()Z" } : Jvm.MethodName)) ∈ px_TB := px_tb2 39 (by decide +kernel) rfl
theorem w_280 : (Jvm.Cond.selects "TroubleMemory$Code" ({ cls := "TroubleMemory$Code", name := "isHidden", desc := "()Z" } : Jvm.MethodName) ({ cls := "TroubleMemory$Code", name := "isHidden", desc := "()Z" } : Jvm.MethodName)) ∈ px_TB := px_tb2 40 (by decide +kernel) rfl
theorem w_281 : (Jvm.Cond.code ({ cls := "TroubleMemory$Code", name := "isHidden", desc := "()Z" } : Jvm.MethodName) prog_2_method_8_code (3 : Nat) (Option.some Jvm.ClassFile.FieldType.boolean)) ∈ px_TB := px_tb2 41 rfl rfl
theorem w_282 : (Jvm.Cond.methodLink "TroubleMemory$Code" (57 : Nat) ({ cls := "TroubleMemory$Standing", name := "has", desc := "(I)Z" } : Jvm.MethodName)) ∈ px_TB := px_tb2 42 (by decide +kernel) rfl
theorem w_283 : (Jvm.Cond.methodLink "TroubleMemory" (186 : Nat) ({ cls := "TroubleMemory", name := "takeSnapshot", desc := "(LTroubleMemory$Code;)LTroubleMemory$Snapshot;" } : Jvm.MethodName)) ∈ px_TB := px_tb2 43 (by decide +kernel) rfl
theorem w_285 : (Jvm.Cond.instanceMethod ({ cls := "TroubleMemory", name := "takeSnapshot", desc := "(LTroubleMemory$Code;)LTroubleMemory$Snapshot;" } : Jvm.MethodName)) ∈ px_TB := px_tb2 45 (by decide +kernel) rfl
theorem w_286 : (Jvm.Cond.code ({ cls := "TroubleMemory", name := "takeSnapshot", desc := "(LTroubleMemory$Code;)LTroubleMemory$Snapshot;" } : Jvm.MethodName) prog_1_method_21_code (2 : Nat) (Option.some (Jvm.ClassFile.FieldType.object "TroubleMemory$Snapshot"))) ∈ px_TB := px_tb2 46 rfl rfl
theorem w_287 : (Jvm.Cond.classLink "TroubleMemory" (120 : Nat) "TroubleMemory$Snapshot") ∈ px_TB := px_tb2 47 (by decide +kernel) rfl
theorem w_288 : (Jvm.Cond.instantiable "TroubleMemory$Snapshot" (4 : Nat)) ∈ px_TB := px_tb2 48 (by decide +kernel) rfl
theorem w_289 : (Jvm.Cond.methodLink "TroubleMemory" (149 : Nat) ({ cls := "TroubleMemory", name := "countCodesWith", desc := "(I)I" } : Jvm.MethodName)) ∈ px_TB := px_tb2 49 (by decide +kernel) rfl
theorem w_291 : (Jvm.Cond.instanceMethod ({ cls := "TroubleMemory", name := "countCodesWith", desc := "(I)I" } : Jvm.MethodName)) ∈ px_TB := px_tb2 51 (by decide +kernel) rfl
theorem w_292 : (Jvm.Cond.code ({ cls := "TroubleMemory", name := "countCodesWith", desc := "(I)I" } : Jvm.MethodName) prog_1_method_19_code (4 : Nat) (Option.some Jvm.ClassFile.FieldType.int)) ∈ px_TB := px_tb2 52 rfl rfl
theorem w_293 : (Jvm.Cond.methodLink "TroubleMemory" (197 : Nat) ({ cls := "TroubleMemory$Snapshot", name := "<init>", desc := "(IIII)V" } : Jvm.MethodName)) ∈ px_TB := px_tb2 53 (by decide +kernel) rfl
theorem w_294 : (Jvm.Cond.instanceMethod ({ cls := "TroubleMemory$Snapshot", name := "<init>", desc := "(IIII)V" } : Jvm.MethodName)) ∈ px_TB := px_tb2 54 (by decide +kernel) rfl
theorem w_295 : (Jvm.Cond.code ({ cls := "TroubleMemory$Snapshot", name := "<init>", desc := "(IIII)V" } : Jvm.MethodName) prog_5_method_1_code (5 : Nat) (Option.none : Option Jvm.ClassFile.FieldType)) ∈ px_TB := px_tb2 55 rfl rfl
theorem w_296 : (Jvm.Cond.methodLink "TroubleMemory$Snapshot" (1 : Nat) ({ cls := "java/lang/Object", name := "<init>", desc := "()V" } : Jvm.MethodName)) ∈ px_TB := px_tb2 56 (by decide +kernel) rfl
theorem w_297 : (Jvm.Cond.fieldLink "TroubleMemory$Snapshot" (7 : Nat) "TroubleMemory$Snapshot" "cycles" "I") ∈ px_TB := px_tb2 57 (by decide +kernel) rfl
theorem w_298 : (Jvm.Cond.fieldLink "TroubleMemory$Snapshot" (13 : Nat) "TroubleMemory$Snapshot" "events" "I") ∈ px_TB := px_tb2 58 (by decide +kernel) rfl
theorem w_299 : (Jvm.Cond.fieldLink "TroubleMemory$Snapshot" (16 : Nat) "TroubleMemory$Snapshot" "failedCodes" "I") ∈ px_TB := px_tb2 59 (by decide +kernel) rfl
theorem w_300 : (Jvm.Cond.fieldLink "TroubleMemory$Snapshot" (19 : Nat) "TroubleMemory$Snapshot" "up" "I") ∈ px_TB := px_tb2 60 (by decide +kernel) rfl
theorem w_301 : (Jvm.Cond.laysFinal "TroubleMemory$Snapshot" "TroubleMemory$Snapshot" "cycles" "I") ∈ px_TB := px_tb2 61 (by decide +kernel) rfl
theorem w_302 : (Jvm.Cond.soleField "TroubleMemory$Snapshot" "cycles") ∈ px_TB := px_tb2 62 (by decide +kernel) rfl
theorem w_303 : (Jvm.Cond.laysFinal "TroubleMemory$Snapshot" "TroubleMemory$Snapshot" "events" "I") ∈ px_TB := px_tb2 63 (by decide +kernel) rfl
theorem w_304 : (Jvm.Cond.soleField "TroubleMemory$Snapshot" "events") ∈ px_TB := px_tb2 64 (by decide +kernel) rfl
theorem w_305 : (Jvm.Cond.laysFinal "TroubleMemory$Snapshot" "TroubleMemory$Snapshot" "failedCodes" "I") ∈ px_TB := px_tb2 65 (by decide +kernel) rfl
theorem w_306 : (Jvm.Cond.soleField "TroubleMemory$Snapshot" "failedCodes") ∈ px_TB := px_tb2 66 (by decide +kernel) rfl
theorem w_307 : (Jvm.Cond.laysFinal "TroubleMemory$Snapshot" "TroubleMemory$Snapshot" "up" "I") ∈ px_TB := px_tb2 67 (by decide +kernel) rfl
theorem w_308 : (Jvm.Cond.soleField "TroubleMemory$Snapshot" "up") ∈ px_TB := px_tb2 68 (by decide +kernel) rfl
theorem w_309 : (Jvm.Cond.superclass "TroubleMemory$Snapshot" "java/lang/Object") ∈ px_TB := px_tb2 69 (by decide +kernel) rfl
theorem w_310 : (Jvm.Cond.methodLink "TroubleMemory" (190 : Nat) ({ cls := "TroubleMemory$Memory", name := "store", desc := "(LTroubleMemory$Code;LTroubleMemory$Snapshot;)V" } : Jvm.MethodName)) ∈ px_TB := px_tb2 70 (by decide +kernel) rfl
theorem w_311 : (Jvm.Cond.instanceMethod ({ cls := "TroubleMemory$Memory", name := "store", desc := "(LTroubleMemory$Code;LTroubleMemory$Snapshot;)V" } : Jvm.MethodName)) ∈ px_TB := px_tb2 71 (by decide +kernel) rfl
theorem w_312 : (Jvm.Cond.selects "TroubleMemory$Memory" ({ cls := "TroubleMemory$Memory", name := "store", desc := "(LTroubleMemory$Code;LTroubleMemory$Snapshot;)V" } : Jvm.MethodName) ({ cls := "TroubleMemory$Memory", name := "store", desc := "(LTroubleMemory$Code;LTroubleMemory$Snapshot;)V" } : Jvm.MethodName)) ∈ px_TB := px_tb2 72 (by decide +kernel) rfl
theorem w_313 : (Jvm.Cond.code ({ cls := "TroubleMemory$Memory", name := "store", desc := "(LTroubleMemory$Code;LTroubleMemory$Snapshot;)V" } : Jvm.MethodName) prog_4_method_2_code (3 : Nat) (Option.none : Option Jvm.ClassFile.FieldType)) ∈ px_TB := px_tb2 73 rfl rfl
theorem w_314 : (Jvm.Cond.methodLink "TroubleMemory$Memory" (31 : Nat) ({ cls := "TroubleMemory$Entry", name := "happenAgain", desc := "(LTroubleMemory$Snapshot;)V" } : Jvm.MethodName)) ∈ px_TB := px_tb2 74 (by decide +kernel) rfl
theorem w_315 : (Jvm.Cond.instanceMethod ({ cls := "TroubleMemory$Entry", name := "happenAgain", desc := "(LTroubleMemory$Snapshot;)V" } : Jvm.MethodName)) ∈ px_TB := px_tb2 75 (by decide +kernel) rfl
theorem w_316 : (Jvm.Cond.selects "TroubleMemory$Entry" ({ cls := "TroubleMemory$Entry", name := "happenAgain", desc := "(LTroubleMemory$Snapshot;)V" } : Jvm.MethodName) ({ cls := "TroubleMemory$Entry", name := "happenAgain", desc := "(LTroubleMemory$Snapshot;)V" } : Jvm.MethodName)) ∈ px_TB := px_tb2 76 (by decide +kernel) rfl
theorem w_317 : (Jvm.Cond.code ({ cls := "TroubleMemory$Entry", name := "happenAgain", desc := "(LTroubleMemory$Snapshot;)V" } : Jvm.MethodName) prog_3_method_2_code (2 : Nat) (Option.none : Option Jvm.ClassFile.FieldType)) ∈ px_TB := px_tb2 77 rfl rfl
theorem w_318 : (Jvm.Cond.methodLink "TroubleMemory$Entry" (26 : Nat) ({ cls := "java/lang/Math", name := "min", desc := "(II)I" } : Jvm.MethodName)) ∈ px_TB := px_tb2 78 (by decide +kernel) rfl
theorem w_319 : (Jvm.Cond.methodLink "TroubleMemory$Memory" (37 : Nat) ({ cls := "java/util/ArrayList", name := "size", desc := "()I" } : Jvm.MethodName)) ∈ px_TB := px_tb2 79 (by decide +kernel) rfl
theorem w_320 : (Jvm.Cond.methodLink "TroubleMemory$Memory" (41 : Nat) ({ cls := "TroubleMemory$Memory", name := "displaceFor", desc := "(LTroubleMemory$Code;)Z" } : Jvm.MethodName)) ∈ px_TB := px_tb2 80 (by decide +kernel) rfl
theorem w_322 : (Jvm.Cond.instanceMethod ({ cls := "TroubleMemory$Memory", name := "displaceFor", desc := "(LTroubleMemory$Code;)Z" } : Jvm.MethodName)) ∈ px_TB := px_tb2 82 (by decide +kernel) rfl
theorem w_323 : (Jvm.Cond.code ({ cls := "TroubleMemory$Memory", name := "displaceFor", desc := "(LTroubleMemory$Code;)Z" } : Jvm.MethodName) prog_4_method_3_code (5 : Nat) (Option.some Jvm.ClassFile.FieldType.boolean)) ∈ px_TB := px_tb2 83 rfl rfl
theorem w_324 : (Jvm.Cond.methodLink "TroubleMemory$Memory" (52 : Nat) ({ cls := "java/util/ArrayList", name := "get", desc := "(I)Ljava/lang/Object;" } : Jvm.MethodName)) ∈ px_TB := px_tb2 84 (by decide +kernel) rfl
theorem w_325 : (Jvm.Cond.classLink "TroubleMemory$Memory" (32 : Nat) "TroubleMemory$Entry") ∈ px_TB := px_tb2 85 (by decide +kernel) rfl
theorem w_326 : (Jvm.Cond.methodLink "TroubleMemory$Memory" (56 : Nat) ({ cls := "TroubleMemory$Entry", name := "mayGoFor", desc := "(LTroubleMemory$Code;)Z" } : Jvm.MethodName)) ∈ px_TB := px_tb2 86 (by decide +kernel) rfl
theorem w_327 : (Jvm.Cond.instanceMethod ({ cls := "TroubleMemory$Entry", name := "mayGoFor", desc := "(LTroubleMemory$Code;)Z" } : Jvm.MethodName)) ∈ px_TB := px_tb2 87 (by decide +kernel) rfl
theorem w_328 : (Jvm.Cond.selects "TroubleMemory$Entry" ({ cls := "TroubleMemory$Entry", name := "mayGoFor", desc := "(LTroubleMemory$Code;)Z" } : Jvm.MethodName) ({ cls := "TroubleMemory$Entry", name := "mayGoFor", desc := "(LTroubleMemory$Code;)Z" } : Jvm.MethodName)) ∈ px_TB := px_tb2 88 (by decide +kernel) rfl
theorem w_329 : (Jvm.Cond.code ({ cls := "TroubleMemory$Entry", name := "mayGoFor", desc := "(LTroubleMemory$Code;)Z" } : Jvm.MethodName) prog_3_method_3_code (2 : Nat) (Option.some Jvm.ClassFile.FieldType.boolean)) ∈ px_TB := px_tb2 89 rfl rfl
theorem w_330 : (Jvm.Cond.methodLink "TroubleMemory$Entry" (41 : Nat) ({ cls := "TroubleMemory$Standing", name := "has", desc := "(I)Z" } : Jvm.MethodName)) ∈ px_TB := px_tb2 90 (by decide +kernel) rfl
theorem w_331 : (Jvm.Cond.methodLink "TroubleMemory$Memory" (59 : Nat) ({ cls := "TroubleMemory$Entry", name := "goesBefore", desc := "(LTroubleMemory$Entry;)Z" } : Jvm.MethodName)) ∈ px_TB := px_tb2 91 (by decide +kernel) rfl
theorem w_332 : (Jvm.Cond.instanceMethod ({ cls := "TroubleMemory$Entry", name := "goesBefore", desc := "(LTroubleMemory$Entry;)Z" } : Jvm.MethodName)) ∈ px_TB := px_tb2 92 (by decide +kernel) rfl
theorem w_333 : (Jvm.Cond.selects "TroubleMemory$Entry" ({ cls := "TroubleMemory$Entry", name := "goesBefore", desc := "(LTroubleMemory$Entry;)Z" } : Jvm.MethodName) ({ cls := "TroubleMemory$Entry", name := "goesBefore", desc := "(LTroubleMemory$Entry;)Z" } : Jvm.MethodName)) ∈ px_TB := px_tb2 93 (by decide +kernel) rfl
theorem w_334 : (Jvm.Cond.code ({ cls := "TroubleMemory$Entry", name := "goesBefore", desc := "(LTroubleMemory$Entry;)Z" } : Jvm.MethodName) prog_3_method_4_code (2 : Nat) (Option.some Jvm.ClassFile.FieldType.boolean)) ∈ px_TB := px_tb2 94 rfl rfl
theorem w_335 : (Jvm.Cond.methodLink "TroubleMemory$Memory" (48 : Nat) ({ cls := "java/util/ArrayList", name := "add", desc := "(Ljava/lang/Object;)Z" } : Jvm.MethodName)) ∈ px_TB := px_tb2 95 (by decide +kernel) rfl
theorem w_336 : (Jvm.Cond.methodLink "TroubleMemory$Memory" (67 : Nat) ({ cls := "TroubleMemory$Memory", name := "drop", desc := "(LTroubleMemory$Code;)V" } : Jvm.MethodName)) ∈ px_TB := px_tb2 96 (by decide +kernel) rfl
theorem w_337 : (Jvm.Cond.instanceMethod ({ cls := "TroubleMemory$Memory", name := "drop", desc := "(LTroubleMemory$Code;)V" } : Jvm.MethodName)) ∈ px_TB := px_tb2 97 (by decide +kernel) rfl
theorem w_338 : (Jvm.Cond.selects "TroubleMemory$Memory" ({ cls := "TroubleMemory$Memory", name := "drop", desc := "(LTroubleMemory$Code;)V" } : Jvm.MethodName) ({ cls := "TroubleMemory$Memory", name := "drop", desc := "(LTroubleMemory$Code;)V" } : Jvm.MethodName)) ∈ px_TB := px_tb2 98 (by decide +kernel) rfl
theorem w_339 : (Jvm.Cond.code ({ cls := "TroubleMemory$Memory", name := "drop", desc := "(LTroubleMemory$Code;)V" } : Jvm.MethodName) prog_4_method_4_code (3 : Nat) (Option.none : Option Jvm.ClassFile.FieldType)) ∈ px_TB := px_tb2 99 rfl rfl
theorem w_340 : (Jvm.Cond.methodLink "TroubleMemory$Memory" (71 : Nat) ({ cls := "java/util/ArrayList", name := "remove", desc := "(I)Ljava/lang/Object;" } : Jvm.MethodName)) ∈ px_TB := px_tb2 100 (by decide +kernel) rfl
theorem w_341 : (Jvm.Cond.instanceMethod ({ cls := "java/util/ArrayList", name := "remove", desc := "(I)Ljava/lang/Object;" } : Jvm.MethodName)) ∈ px_TB := px_tb2 101 (by decide +kernel) rfl
theorem w_342 : (Jvm.Cond.selects "java/util/ArrayList" ({ cls := "java/util/ArrayList", name := "remove", desc := "(I)Ljava/lang/Object;" } : Jvm.MethodName) ({ cls := "java/util/ArrayList", name := "remove", desc := "(I)Ljava/lang/Object;" } : Jvm.MethodName)) ∈ px_TB := px_tb2 102 (by decide +kernel) rfl
theorem w_343 : (Jvm.Cond.code ({ cls := "java/util/ArrayList", name := "remove", desc := "(I)Ljava/lang/Object;" } : Jvm.MethodName) prog_17_method_29_code (4 : Nat) (Option.some (Jvm.ClassFile.FieldType.object "java/lang/Object"))) ∈ px_TB := px_tb2 103 rfl rfl
theorem w_344 : (Jvm.Cond.methodLink "java/util/ArrayList" (144 : Nat) ({ cls := "java/util/ArrayList", name := "fastRemove", desc := "([Ljava/lang/Object;I)V" } : Jvm.MethodName)) ∈ px_TB := px_tb2 104 (by decide +kernel) rfl
theorem w_346 : (Jvm.Cond.instanceMethod ({ cls := "java/util/ArrayList", name := "fastRemove", desc := "([Ljava/lang/Object;I)V" } : Jvm.MethodName)) ∈ px_TB := px_tb2 106 (by decide +kernel) rfl
theorem w_347 : (Jvm.Cond.code ({ cls := "java/util/ArrayList", name := "fastRemove", desc := "([Ljava/lang/Object;I)V" } : Jvm.MethodName) prog_17_method_39_code (4 : Nat) (Option.none : Option Jvm.ClassFile.FieldType)) ∈ px_TB := px_tb2 107 rfl rfl
theorem w_348 : (Jvm.Cond.methodLink "java/util/ArrayList" (112 : Nat) ({ cls := "java/lang/System", name := "arraycopy", desc := "(Ljava/lang/Object;ILjava/lang/Object;II)V" } : Jvm.MethodName)) ∈ px_TB := px_tb2 108 (by decide +kernel) rfl
theorem w_349 : (Jvm.Cond.instantiable "TroubleMemory$Entry" (4 : Nat)) ∈ px_TB := px_tb2 109 (by decide +kernel) rfl
theorem w_350 : (Jvm.Cond.methodLink "TroubleMemory$Memory" (45 : Nat) ({ cls := "TroubleMemory$Entry", name := "<init>", desc := "(LTroubleMemory$Code;LTroubleMemory$Snapshot;)V" } : Jvm.MethodName)) ∈ px_TB := px_tb2 110 (by decide +kernel) rfl
theorem w_351 : (Jvm.Cond.instanceMethod ({ cls := "TroubleMemory$Entry", name := "<init>", desc := "(LTroubleMemory$Code;LTroubleMemory$Snapshot;)V" } : Jvm.MethodName)) ∈ px_TB := px_tb2 111 (by decide +kernel) rfl
theorem w_352 : (Jvm.Cond.code ({ cls := "TroubleMemory$Entry", name := "<init>", desc := "(LTroubleMemory$Code;LTroubleMemory$Snapshot;)V" } : Jvm.MethodName) prog_3_method_1_code (3 : Nat) (Option.none : Option Jvm.ClassFile.FieldType)) ∈ px_TB := px_tb2 112 rfl rfl
theorem w_353 : (Jvm.Cond.methodLink "TroubleMemory$Entry" (3 : Nat) ({ cls := "java/lang/Object", name := "<init>", desc := "()V" } : Jvm.MethodName)) ∈ px_TB := px_tb2 113 (by decide +kernel) rfl
theorem w_354 : (Jvm.Cond.fieldLink "TroubleMemory$Entry" (15 : Nat) "TroubleMemory$Entry" "owner" "LTroubleMemory$Code;") ∈ px_TB := px_tb2 114 (by decide +kernel) rfl
theorem w_355 : (Jvm.Cond.fieldLink "TroubleMemory$Memory" (63 : Nat) "TroubleMemory$Entry" "owner" "LTroubleMemory$Code;") ∈ px_TB := px_tb2 115 (by decide +kernel) rfl
theorem w_356 : (Jvm.Cond.fieldLink "TroubleMemory" (155 : Nat) "TroubleMemory$Entry" "owner" "LTroubleMemory$Code;") ∈ px_TB := px_tb2 116 (by decide +kernel) rfl
theorem w_357 : (Jvm.Cond.fieldLink "TroubleMemory$Entry" (19 : Nat) "TroubleMemory$Entry" "first" "LTroubleMemory$Snapshot;") ∈ px_TB := px_tb2 117 (by decide +kernel) rfl
theorem w_358 : (Jvm.Cond.fieldLink "TroubleMemory" (110 : Nat) "TroubleMemory$Entry" "first" "LTroubleMemory$Snapshot;") ∈ px_TB := px_tb2 118 (by decide +kernel) rfl
theorem w_359 : (Jvm.Cond.fieldLink "TroubleMemory$Entry" (23 : Nat) "TroubleMemory$Entry" "last" "LTroubleMemory$Snapshot;") ∈ px_TB := px_tb2 119 (by decide +kernel) rfl
theorem w_360 : (Jvm.Cond.fieldLink "TroubleMemory" (116 : Nat) "TroubleMemory$Entry" "last" "LTroubleMemory$Snapshot;") ∈ px_TB := px_tb2 120 (by decide +kernel) rfl
theorem w_361 : (Jvm.Cond.fieldLink "TroubleMemory$Entry" (9 : Nat) "TroubleMemory$Entry" "happened" "I") ∈ px_TB := px_tb2 121 (by decide +kernel) rfl
theorem w_362 : (Jvm.Cond.fieldLink "TroubleMemory" (158 : Nat) "TroubleMemory$Entry" "happened" "I") ∈ px_TB := px_tb2 122 (by decide +kernel) rfl
theorem w_363 : (Jvm.Cond.laysFinal "TroubleMemory$Entry" "TroubleMemory$Entry" "owner" "LTroubleMemory$Code;") ∈ px_TB := px_tb2 123 (by decide +kernel) rfl
theorem w_364 : (Jvm.Cond.soleField "TroubleMemory$Entry" "owner") ∈ px_TB := px_tb2 124 (by decide +kernel) rfl
theorem w_365 : (Jvm.Cond.laysFinal "TroubleMemory$Entry" "TroubleMemory$Entry" "first" "LTroubleMemory$Snapshot;") ∈ px_TB := px_tb2 125 (by decide +kernel) rfl
theorem w_366 : (Jvm.Cond.soleField "TroubleMemory$Entry" "first") ∈ px_TB := px_tb2 126 (by decide +kernel) rfl
theorem w_367 : (Jvm.Cond.lays "TroubleMemory$Entry" "TroubleMemory$Entry" "last" "LTroubleMemory$Snapshot;") ∈ px_TB := px_tb2 127 (by decide +kernel) rfl
theorem w_368 : (Jvm.Cond.soleField "TroubleMemory$Entry" "last") ∈ px_TB := px_tb2 128 (by decide +kernel) rfl
theorem w_369 : (Jvm.Cond.lays "TroubleMemory$Entry" "TroubleMemory$Entry" "happened" "I") ∈ px_TB := px_tb2 129 (by decide +kernel) rfl
theorem w_370 : (Jvm.Cond.soleField "TroubleMemory$Entry" "happened") ∈ px_TB := px_tb2 130 (by decide +kernel) rfl
theorem w_371 : (Jvm.Cond.superclass "TroubleMemory$Entry" "java/lang/Object") ∈ px_TB := px_tb2 131 (by decide +kernel) rfl
theorem w_372 : (Jvm.Cond.methodLink "TroubleMemoryLaw" (31 : Nat) ({ cls := "TroubleMemory", name := "cycle", desc := "(Z)I" } : Jvm.MethodName)) ∈ px_TB := px_tb2 132 (by decide +kernel) rfl
theorem w_373 : (Jvm.Cond.instanceMethod ({ cls := "TroubleMemory", name := "cycle", desc := "(Z)I" } : Jvm.MethodName)) ∈ px_TB := px_tb2 133 (by decide +kernel) rfl
theorem w_374 : (Jvm.Cond.selects "TroubleMemory" ({ cls := "TroubleMemory", name := "cycle", desc := "(Z)I" } : Jvm.MethodName) ({ cls := "TroubleMemory", name := "cycle", desc := "(Z)I" } : Jvm.MethodName)) ∈ px_TB := px_tb2 134 (by decide +kernel) rfl
theorem w_375 : (Jvm.Cond.code ({ cls := "TroubleMemory", name := "cycle", desc := "(Z)I" } : Jvm.MethodName) prog_1_method_4_code (4 : Nat) (Option.some Jvm.ClassFile.FieldType.int)) ∈ px_TB := px_tb2 135 rfl rfl
theorem w_376 : (Jvm.Cond.methodLink "TroubleMemory" (92 : Nat) ({ cls := "TroubleMemory", name := "endCycle", desc := "(LTroubleMemory$Code;Z)V" } : Jvm.MethodName)) ∈ px_TB := px_tb2 136 (by decide +kernel) rfl
theorem w_378 : (Jvm.Cond.instanceMethod ({ cls := "TroubleMemory", name := "endCycle", desc := "(LTroubleMemory$Code;Z)V" } : Jvm.MethodName)) ∈ px_TB := px_tb2 138 (by decide +kernel) rfl
theorem w_379 : (Jvm.Cond.code ({ cls := "TroubleMemory", name := "endCycle", desc := "(LTroubleMemory$Code;Z)V" } : Jvm.MethodName) prog_1_method_22_code (3 : Nat) (Option.none : Option Jvm.ClassFile.FieldType)) ∈ px_TB := px_tb2 139 rfl rfl
theorem w_380 : (Jvm.Cond.methodLink "TroubleMemory" (198 : Nat) ({ cls := "TroubleMemory$Standing", name := "wasOnlyGood", desc := "()Z" } : Jvm.MethodName)) ∈ px_TB := px_tb2 140 (by decide +kernel) rfl
theorem w_381 : (Jvm.Cond.instanceMethod ({ cls := "TroubleMemory$Standing", name := "wasOnlyGood", desc := "()Z" } : Jvm.MethodName)) ∈ px_TB := px_tb2 141 (by decide +kernel) rfl
theorem w_382 : (Jvm.Cond.selects "TroubleMemory$Standing" ({ cls := "TroubleMemory$Standing", name := "wasOnlyGood", desc := "()Z" } : Jvm.MethodName) ({ cls := "TroubleMemory$Standing", name := "wasOnlyGood", desc := "()Z" } : Jvm.MethodName)) ∈ px_TB := px_tb2 142 (by decide +kernel) rfl
theorem w_383 : (Jvm.Cond.code ({ cls := "TroubleMemory$Standing", name := "wasOnlyGood", desc := "()Z" } : Jvm.MethodName) prog_6_method_7_code (1 : Nat) (Option.some Jvm.ClassFile.FieldType.boolean)) ∈ px_TB := px_tb2 143 rfl rfl
theorem w_384 : (Jvm.Cond.methodLink "TroubleMemory" (201 : Nat) ({ cls := "TroubleMemory$Standing", name := "addGoodCycle", desc := "()V" } : Jvm.MethodName)) ∈ px_TB := px_tb2 144 (by decide +kernel) rfl
theorem w_385 : (Jvm.Cond.instanceMethod ({ cls := "TroubleMemory$Standing", name := "addGoodCycle", desc := "()V" } : Jvm.MethodName)) ∈ px_TB := px_tb2 145 (by decide +kernel) rfl
theorem w_386 : (Jvm.Cond.selects "TroubleMemory$Standing" ({ cls := "TroubleMemory$Standing", name := "addGoodCycle", desc := "()V" } : Jvm.MethodName) ({ cls := "TroubleMemory$Standing", name := "addGoodCycle", desc := "()V" } : Jvm.MethodName)) ∈ px_TB := px_tb2 146 (by decide +kernel) rfl
theorem w_387 : (Jvm.Cond.code ({ cls := "TroubleMemory$Standing", name := "addGoodCycle", desc := "()V" } : Jvm.MethodName) prog_6_method_8_code (1 : Nat) (Option.none : Option Jvm.ClassFile.FieldType)) ∈ px_TB := px_tb2 147 rfl rfl
theorem w_388 : (Jvm.Cond.methodLink "TroubleMemory" (204 : Nat) ({ cls := "TroubleMemory$Standing", name := "ages", desc := "()Z" } : Jvm.MethodName)) ∈ px_TB := px_tb2 148 (by decide +kernel) rfl
theorem w_389 : (Jvm.Cond.instanceMethod ({ cls := "TroubleMemory$Standing", name := "ages", desc := "()Z" } : Jvm.MethodName)) ∈ px_TB := px_tb2 149 (by decide +kernel) rfl
theorem w_390 : (Jvm.Cond.selects "TroubleMemory$Standing" ({ cls := "TroubleMemory$Standing", name := "ages", desc := "()Z" } : Jvm.MethodName) ({ cls := "TroubleMemory$Standing", name := "ages", desc := "()Z" } : Jvm.MethodName)) ∈ px_TB := px_tb2 150 (by decide +kernel) rfl
theorem w_391 : (Jvm.Cond.code ({ cls := "TroubleMemory$Standing", name := "ages", desc := "()Z" } : Jvm.MethodName) prog_6_method_9_code (1 : Nat) (Option.some Jvm.ClassFile.FieldType.boolean)) ∈ px_TB := px_tb2 151 rfl rfl
theorem w_392 : (Jvm.Cond.methodLink "TroubleMemory" (207 : Nat) ({ cls := "TroubleMemory$Standing", name := "heal", desc := "()V" } : Jvm.MethodName)) ∈ px_TB := px_tb2 152 (by decide +kernel) rfl
theorem w_393 : (Jvm.Cond.instanceMethod ({ cls := "TroubleMemory$Standing", name := "heal", desc := "()V" } : Jvm.MethodName)) ∈ px_TB := px_tb2 153 (by decide +kernel) rfl
theorem w_394 : (Jvm.Cond.selects "TroubleMemory$Standing" ({ cls := "TroubleMemory$Standing", name := "heal", desc := "()V" } : Jvm.MethodName) ({ cls := "TroubleMemory$Standing", name := "heal", desc := "()V" } : Jvm.MethodName)) ∈ px_TB := px_tb2 154 (by decide +kernel) rfl
theorem w_395 : (Jvm.Cond.code ({ cls := "TroubleMemory$Standing", name := "heal", desc := "()V" } : Jvm.MethodName) prog_6_method_10_code (1 : Nat) (Option.none : Option Jvm.ClassFile.FieldType)) ∈ px_TB := px_tb2 155 rfl rfl
theorem w_396 : (Jvm.Cond.methodLink "TroubleMemory" (130 : Nat) ({ cls := "TroubleMemory$Memory", name := "drop", desc := "(LTroubleMemory$Code;)V" } : Jvm.MethodName)) ∈ px_TB := px_tb2 156 (by decide +kernel) rfl
theorem w_397 : (Jvm.Cond.methodLink "TroubleMemory" (96 : Nat) ({ cls := "TroubleMemory$Standing", name := "beginCycle", desc := "()V" } : Jvm.MethodName)) ∈ px_TB := px_tb2 157 (by decide +kernel) rfl
theorem w_398 : (Jvm.Cond.instanceMethod ({ cls := "TroubleMemory$Standing", name := "beginCycle", desc := "()V" } : Jvm.MethodName)) ∈ px_TB := px_tb2 158 (by decide +kernel) rfl
theorem w_399 : (Jvm.Cond.selects "TroubleMemory$Standing" ({ cls := "TroubleMemory$Standing", name := "beginCycle", desc := "()V" } : Jvm.MethodName) ({ cls := "TroubleMemory$Standing", name := "beginCycle", desc := "()V" } : Jvm.MethodName)) ∈ px_TB := px_tb2 159 (by decide +kernel) rfl
theorem w_400 : (Jvm.Cond.code ({ cls := "TroubleMemory$Standing", name := "beginCycle", desc := "()V" } : Jvm.MethodName) prog_6_method_11_code (1 : Nat) (Option.none : Option Jvm.ClassFile.FieldType)) ∈ px_TB := px_tb2 160 rfl rfl
theorem w_401 : (Jvm.Cond.methodLink "TroubleMemory" (102 : Nat) ({ cls := "TroubleMemory$Standing", name := "copyFrom", desc := "(LTroubleMemory$Standing;)V" } : Jvm.MethodName)) ∈ px_TB := px_tb2 161 (by decide +kernel) rfl
theorem w_402 : (Jvm.Cond.instanceMethod ({ cls := "TroubleMemory$Standing", name := "copyFrom", desc := "(LTroubleMemory$Standing;)V" } : Jvm.MethodName)) ∈ px_TB := px_tb2 162 (by decide +kernel) rfl
theorem w_403 : (Jvm.Cond.selects "TroubleMemory$Standing" ({ cls := "TroubleMemory$Standing", name := "copyFrom", desc := "(LTroubleMemory$Standing;)V" } : Jvm.MethodName) ({ cls := "TroubleMemory$Standing", name := "copyFrom", desc := "(LTroubleMemory$Standing;)V" } : Jvm.MethodName)) ∈ px_TB := px_tb2 163 (by decide +kernel) rfl
theorem w_404 : (Jvm.Cond.code ({ cls := "TroubleMemory$Standing", name := "copyFrom", desc := "(LTroubleMemory$Standing;)V" } : Jvm.MethodName) prog_6_method_3_code (2 : Nat) (Option.none : Option Jvm.ClassFile.FieldType)) ∈ px_TB := px_tb2 164 rfl rfl
theorem w_405 : (Jvm.Cond.methodLink "TroubleMemoryLaw" (36 : Nat) ({ cls := "TroubleMemory", name := "status", desc := "(I)I" } : Jvm.MethodName)) ∈ px_TB := px_tb2 165 (by decide +kernel) rfl
theorem w_406 : (Jvm.Cond.instanceMethod ({ cls := "TroubleMemory", name := "status", desc := "(I)I" } : Jvm.MethodName)) ∈ px_TB := px_tb2 166 (by decide +kernel) rfl
theorem w_407 : (Jvm.Cond.selects "TroubleMemory" ({ cls := "TroubleMemory", name := "status", desc := "(I)I" } : Jvm.MethodName) ({ cls := "TroubleMemory", name := "status", desc := "(I)I" } : Jvm.MethodName)) ∈ px_TB := px_tb2 167 (by decide +kernel) rfl
theorem w_408 : (Jvm.Cond.code ({ cls := "TroubleMemory", name := "status", desc := "(I)I" } : Jvm.MethodName) prog_1_method_5_code (3 : Nat) (Option.some Jvm.ClassFile.FieldType.int)) ∈ px_TB := px_tb2 168 rfl rfl
theorem w_409 : (Jvm.Cond.methodLink "TroubleMemoryLaw" (41 : Nat) ({ cls := "TroubleMemory", name := "snapshot", desc := "(III)I" } : Jvm.MethodName)) ∈ px_TB := px_tb2 169 (by decide +kernel) rfl
theorem w_410 : (Jvm.Cond.instanceMethod ({ cls := "TroubleMemory", name := "snapshot", desc := "(III)I" } : Jvm.MethodName)) ∈ px_TB := px_tb2 170 (by decide +kernel) rfl
theorem w_411 : (Jvm.Cond.selects "TroubleMemory" ({ cls := "TroubleMemory", name := "snapshot", desc := "(III)I" } : Jvm.MethodName) ({ cls := "TroubleMemory", name := "snapshot", desc := "(III)I" } : Jvm.MethodName)) ∈ px_TB := px_tb2 171 (by decide +kernel) rfl
theorem w_412 : (Jvm.Cond.code ({ cls := "TroubleMemory", name := "snapshot", desc := "(III)I" } : Jvm.MethodName) prog_1_method_6_code (6 : Nat) (Option.some Jvm.ClassFile.FieldType.int)) ∈ px_TB := px_tb2 172 rfl rfl
theorem w_413 : (Jvm.Cond.methodLink "TroubleMemory" (119 : Nat) ({ cls := "TroubleMemory$Snapshot", name := "number", desc := "(I)I" } : Jvm.MethodName)) ∈ px_TB := px_tb2 173 (by decide +kernel) rfl
theorem w_414 : (Jvm.Cond.instanceMethod ({ cls := "TroubleMemory$Snapshot", name := "number", desc := "(I)I" } : Jvm.MethodName)) ∈ px_TB := px_tb2 174 (by decide +kernel) rfl
theorem w_415 : (Jvm.Cond.selects "TroubleMemory$Snapshot" ({ cls := "TroubleMemory$Snapshot", name := "number", desc := "(I)I" } : Jvm.MethodName) ({ cls := "TroubleMemory$Snapshot", name := "number", desc := "(I)I" } : Jvm.MethodName)) ∈ px_TB := px_tb2 175 (by decide +kernel) rfl
theorem w_416 : (Jvm.Cond.code ({ cls := "TroubleMemory$Snapshot", name := "number", desc := "(I)I" } : Jvm.MethodName) prog_5_method_2_code (2 : Nat) (Option.some Jvm.ClassFile.FieldType.int)) ∈ px_TB := px_tb2 176 rfl rfl
theorem w_417 : (Jvm.Cond.methodLink "TroubleMemoryLaw" (45 : Nat) ({ cls := "TroubleMemory", name := "clear", desc := "(I)I" } : Jvm.MethodName)) ∈ px_TB := px_tb2 177 (by decide +kernel) rfl
theorem w_418 : (Jvm.Cond.instanceMethod ({ cls := "TroubleMemory", name := "clear", desc := "(I)I" } : Jvm.MethodName)) ∈ px_TB := px_tb2 178 (by decide +kernel) rfl
theorem w_419 : (Jvm.Cond.selects "TroubleMemory" ({ cls := "TroubleMemory", name := "clear", desc := "(I)I" } : Jvm.MethodName) ({ cls := "TroubleMemory", name := "clear", desc := "(I)I" } : Jvm.MethodName)) ∈ px_TB := px_tb2 179 (by decide +kernel) rfl
theorem w_420 : (Jvm.Cond.code ({ cls := "TroubleMemory", name := "clear", desc := "(I)I" } : Jvm.MethodName) prog_1_method_7_code (5 : Nat) (Option.some Jvm.ClassFile.FieldType.int)) ∈ px_TB := px_tb2 180 rfl rfl
theorem w_421 : (Jvm.Cond.methodLink "TroubleMemory" (124 : Nat) ({ cls := "TroubleMemory$Code", name := "group", desc := "()I" } : Jvm.MethodName)) ∈ px_TB := px_tb2 181 (by decide +kernel) rfl
theorem w_422 : (Jvm.Cond.instanceMethod ({ cls := "TroubleMemory$Code", name := "group", desc := "()I" } : Jvm.MethodName)) ∈ px_TB := px_tb2 182 (by decide +kernel) rfl
theorem w_423 : (Jvm.Cond.selects "TroubleMemory$Code" ({ cls := "TroubleMemory$Code", name := "group", desc := "()I" } : Jvm.MethodName) ({ cls := "TroubleMemory$Code", name := "group", desc := "()I" } : Jvm.MethodName)) ∈ px_TB := px_tb2 183 (by decide +kernel) rfl
theorem w_424 : (Jvm.Cond.code ({ cls := "TroubleMemory$Code", name := "group", desc := "()I" } : Jvm.MethodName) prog_2_method_2_code (1 : Nat) (Option.some Jvm.ClassFile.FieldType.int)) ∈ px_TB := px_tb2 184 rfl rfl
theorem w_425 : (Jvm.Cond.methodLink "TroubleMemory" (127 : Nat) ({ cls := "TroubleMemory$Code", name := "forget", desc := "()V" } : Jvm.MethodName)) ∈ px_TB := px_tb2 185 (by decide +kernel) rfl
theorem w_426 : (Jvm.Cond.instanceMethod ({ cls := "TroubleMemory$Code", name := "forget", desc := "()V" } : Jvm.MethodName)) ∈ px_TB := px_tb2 186 (by decide +kernel) rfl
theorem w_427 : (Jvm.Cond.selects "TroubleMemory$Code" ({ cls := "TroubleMemory$Code", name := "forget", desc := "()V" } : Jvm.MethodName) ({ cls := "TroubleMemory$Code", name := "forget", desc := "()V" } : Jvm.MethodName)) ∈ px_TB := px_tb2 187 (by decide +kernel) rfl
theorem w_428 : (Jvm.Cond.code ({ cls := "TroubleMemory$Code", name := "forget", desc := "()V" } : Jvm.MethodName) prog_2_method_5_code (1 : Nat) (Option.none : Option Jvm.ClassFile.FieldType)) ∈ px_TB := px_tb2 188 rfl rfl
theorem w_429 : (Jvm.Cond.methodLink "TroubleMemory$Code" (54 : Nat) ({ cls := "TroubleMemory$Standing", name := "reset", desc := "()V" } : Jvm.MethodName)) ∈ px_TB := px_tb2 189 (by decide +kernel) rfl
theorem w_430 : (Jvm.Cond.instanceMethod ({ cls := "TroubleMemory$Standing", name := "reset", desc := "()V" } : Jvm.MethodName)) ∈ px_TB := px_tb2 190 (by decide +kernel) rfl
theorem w_431 : (Jvm.Cond.selects "TroubleMemory$Standing" ({ cls := "TroubleMemory$Standing", name := "reset", desc := "()V" } : Jvm.MethodName) ({ cls := "TroubleMemory$Standing", name := "reset", desc := "()V" } : Jvm.MethodName)) ∈ px_TB := px_tb2 191 (by decide +kernel) rfl
theorem w_432 : (Jvm.Cond.code ({ cls := "TroubleMemory$Standing", name := "reset", desc := "()V" } : Jvm.MethodName) prog_6_method_4_code (1 : Nat) (Option.none : Option Jvm.ClassFile.FieldType)) ∈ px_TB := px_tb2 192 rfl rfl
theorem w_433 : (Jvm.Cond.methodLink "TroubleMemoryLaw" (49 : Nat) ({ cls := "TroubleMemory", name := "parent", desc := "(II)I" } : Jvm.MethodName)) ∈ px_TB := px_tb2 193 (by decide +kernel) rfl
theorem w_434 : (Jvm.Cond.instanceMethod ({ cls := "TroubleMemory", name := "parent", desc := "(II)I" } : Jvm.MethodName)) ∈ px_TB := px_tb2 194 (by decide +kernel) rfl
theorem w_435 : (Jvm.Cond.selects "TroubleMemory" ({ cls := "TroubleMemory", name := "parent", desc := "(II)I" } : Jvm.MethodName) ({ cls := "TroubleMemory", name := "parent", desc := "(II)I" } : Jvm.MethodName)) ∈ px_TB := px_tb2 195 (by decide +kernel) rfl
theorem w_436 : (Jvm.Cond.code ({ cls := "TroubleMemory", name := "parent", desc := "(II)I" } : Jvm.MethodName) prog_1_method_8_code (5 : Nat) (Option.some Jvm.ClassFile.FieldType.int)) ∈ px_TB := px_tb2 196 rfl rfl
theorem w_437 : (Jvm.Cond.methodLink "TroubleMemory" (133 : Nat) ({ cls := "TroubleMemory$Code", name := "isBelow", desc := "(LTroubleMemory$Code;)Z" } : Jvm.MethodName)) ∈ px_TB := px_tb2 197 (by decide +kernel) rfl
theorem w_438 : (Jvm.Cond.instanceMethod ({ cls := "TroubleMemory$Code", name := "isBelow", desc := "(LTroubleMemory$Code;)Z" } : Jvm.MethodName)) ∈ px_TB := px_tb2 198 (by decide +kernel) rfl
theorem w_439 : (Jvm.Cond.selects "TroubleMemory$Code" ({ cls := "TroubleMemory$Code", name := "isBelow", desc := "(LTroubleMemory$Code;)Z" } : Jvm.MethodName) ({ cls := "TroubleMemory$Code", name := "isBelow", desc := "(LTroubleMemory$Code;)Z" } : Jvm.MethodName)) ∈ px_TB := px_tb2 199 (by decide +kernel) rfl
theorem w_440 : (Jvm.Cond.code ({ cls := "TroubleMemory$Code", name := "isBelow", desc := "(LTroubleMemory$Code;)Z" } : Jvm.MethodName) prog_2_method_7_code (4 : Nat) (Option.some Jvm.ClassFile.FieldType.boolean)) ∈ px_TB := px_tb2 200 rfl rfl
theorem w_441 : (Jvm.Cond.methodLink "TroubleMemory" (141 : Nat) ({ cls := "TroubleMemory$Code", name := "countAbove", desc := "()I" } : Jvm.MethodName)) ∈ px_TB := px_tb2 201 (by decide +kernel) rfl
theorem w_442 : (Jvm.Cond.instanceMethod ({ cls := "TroubleMemory$Code", name := "countAbove", desc := "()I" } : Jvm.MethodName)) ∈ px_TB := px_tb2 202 (by decide +kernel) rfl
theorem w_443 : (Jvm.Cond.selects "TroubleMemory$Code" ({ cls := "TroubleMemory$Code", name := "countAbove", desc := "()I" } : Jvm.MethodName) ({ cls := "TroubleMemory$Code", name := "countAbove", desc := "()I" } : Jvm.MethodName)) ∈ px_TB := px_tb2 203 (by decide +kernel) rfl
theorem w_444 : (Jvm.Cond.code ({ cls := "TroubleMemory$Code", name := "countAbove", desc := "()I" } : Jvm.MethodName) prog_2_method_6_code (3 : Nat) (Option.some Jvm.ClassFile.FieldType.int)) ∈ px_TB := px_tb2 204 rfl rfl
theorem w_445 : (Jvm.Cond.methodLink "TroubleMemoryLaw" (54 : Nat) ({ cls := "TroubleMemory", name := "enable", desc := "(IZ)I" } : Jvm.MethodName)) ∈ px_TB := px_tb2 205 (by decide +kernel) rfl
theorem w_446 : (Jvm.Cond.instanceMethod ({ cls := "TroubleMemory", name := "enable", desc := "(IZ)I" } : Jvm.MethodName)) ∈ px_TB := px_tb2 206 (by decide +kernel) rfl
theorem w_447 : (Jvm.Cond.selects "TroubleMemory" ({ cls := "TroubleMemory", name := "enable", desc := "(IZ)I" } : Jvm.MethodName) ({ cls := "TroubleMemory", name := "enable", desc := "(IZ)I" } : Jvm.MethodName)) ∈ px_TB := px_tb2 207 (by decide +kernel) rfl
theorem w_448 : (Jvm.Cond.code ({ cls := "TroubleMemory", name := "enable", desc := "(IZ)I" } : Jvm.MethodName) prog_1_method_9_code (4 : Nat) (Option.some Jvm.ClassFile.FieldType.int)) ∈ px_TB := px_tb2 208 rfl rfl
theorem w_449 : (Jvm.Cond.methodLink "TroubleMemory" (144 : Nat) ({ cls := "java/lang/Integer", name := "bitCount", desc := "(I)I" } : Jvm.MethodName)) ∈ px_TB := px_tb2 209 (by decide +kernel) rfl
theorem w_450 : (Jvm.Cond.static ({ cls := "java/lang/Integer", name := "bitCount", desc := "(I)I" } : Jvm.MethodName)) ∈ px_TB := px_tb2 210 (by decide +kernel) rfl
theorem w_451 : (Jvm.Cond.code ({ cls := "java/lang/Integer", name := "bitCount", desc := "(I)I" } : Jvm.MethodName) prog_11_method_49_code (1 : Nat) (Option.some Jvm.ClassFile.FieldType.int)) ∈ px_TB := px_tb2 211 rfl rfl
theorem w_452 : (Jvm.Cond.constant "java/lang/Integer" (265 : Nat) (1431655765 : Int32)) ∈ px_TB := px_tb2 212 (by decide +kernel) rfl
theorem w_453 : (Jvm.Cond.constant "java/lang/Integer" (266 : Nat) (858993459 : Int32)) ∈ px_TB := px_tb2 213 (by decide +kernel) rfl
theorem w_454 : (Jvm.Cond.constant "java/lang/Integer" (267 : Nat) (252645135 : Int32)) ∈ px_TB := px_tb2 214 (by decide +kernel) rfl
theorem w_455 : (Jvm.Cond.methodLink "TroubleMemoryLaw" (58 : Nat) ({ cls := "TroubleMemory", name := "lamp", desc := "(I)I" } : Jvm.MethodName)) ∈ px_TB := px_tb2 215 (by decide +kernel) rfl
theorem w_456 : (Jvm.Cond.instanceMethod ({ cls := "TroubleMemory", name := "lamp", desc := "(I)I" } : Jvm.MethodName)) ∈ px_TB := px_tb2 216 (by decide +kernel) rfl
theorem w_457 : (Jvm.Cond.selects "TroubleMemory" ({ cls := "TroubleMemory", name := "lamp", desc := "(I)I" } : Jvm.MethodName) ({ cls := "TroubleMemory", name := "lamp", desc := "(I)I" } : Jvm.MethodName)) ∈ px_TB := px_tb2 217 (by decide +kernel) rfl
theorem w_458 : (Jvm.Cond.code ({ cls := "TroubleMemory", name := "lamp", desc := "(I)I" } : Jvm.MethodName) prog_1_method_10_code (2 : Nat) (Option.some Jvm.ClassFile.FieldType.int)) ∈ px_TB := px_tb2 218 rfl rfl
theorem w_459 : (Jvm.Cond.methodLink "TroubleMemoryLaw" (62 : Nat) ({ cls := "TroubleMemory", name := "stored", desc := "(II)I" } : Jvm.MethodName)) ∈ px_TB := px_tb2 219 (by decide +kernel) rfl
theorem w_460 : (Jvm.Cond.instanceMethod ({ cls := "TroubleMemory", name := "stored", desc := "(II)I" } : Jvm.MethodName)) ∈ px_TB := px_tb2 220 (by decide +kernel) rfl
theorem w_461 : (Jvm.Cond.selects "TroubleMemory" ({ cls := "TroubleMemory", name := "stored", desc := "(II)I" } : Jvm.MethodName) ({ cls := "TroubleMemory", name := "stored", desc := "(II)I" } : Jvm.MethodName)) ∈ px_TB := px_tb2 221 (by decide +kernel) rfl
theorem w_462 : (Jvm.Cond.code ({ cls := "TroubleMemory", name := "stored", desc := "(II)I" } : Jvm.MethodName) prog_1_method_11_code (4 : Nat) (Option.some Jvm.ClassFile.FieldType.int)) ∈ px_TB := px_tb2 222 rfl rfl
theorem w_463 : (Jvm.Cond.classLink "TroubleMemory" (111 : Nat) "TroubleMemory$Entry") ∈ px_TB := px_tb2 223 (by decide +kernel) rfl
theorem w_464 : (Jvm.Cond.methodLink "TroubleMemoryLaw" (66 : Nat) ({ cls := "TroubleMemory", name := "cut", desc := "()I" } : Jvm.MethodName)) ∈ px_TB := px_tb2 224 (by decide +kernel) rfl
theorem w_465 : (Jvm.Cond.instanceMethod ({ cls := "TroubleMemory", name := "cut", desc := "()I" } : Jvm.MethodName)) ∈ px_TB := px_tb2 225 (by decide +kernel) rfl
theorem w_466 : (Jvm.Cond.selects "TroubleMemory" ({ cls := "TroubleMemory", name := "cut", desc := "()I" } : Jvm.MethodName) ({ cls := "TroubleMemory", name := "cut", desc := "()I" } : Jvm.MethodName)) ∈ px_TB := px_tb2 226 (by decide +kernel) rfl
theorem w_467 : (Jvm.Cond.code ({ cls := "TroubleMemory", name := "cut", desc := "()I" } : Jvm.MethodName) prog_1_method_12_code (1 : Nat) (Option.some Jvm.ClassFile.FieldType.int)) ∈ px_TB := px_tb2 227 rfl rfl
theorem w_468 : (Jvm.Cond.methodLink "TroubleMemoryLaw" (71 : Nat) ({ cls := "TroubleMemory", name := "start", desc := "()I" } : Jvm.MethodName)) ∈ px_TB := px_tb2 228 (by decide +kernel) rfl
theorem w_469 : (Jvm.Cond.instanceMethod ({ cls := "TroubleMemory", name := "start", desc := "()I" } : Jvm.MethodName)) ∈ px_TB := px_tb2 229 (by decide +kernel) rfl
theorem w_470 : (Jvm.Cond.selects "TroubleMemory" ({ cls := "TroubleMemory", name := "start", desc := "()I" } : Jvm.MethodName) ({ cls := "TroubleMemory", name := "start", desc := "()I" } : Jvm.MethodName)) ∈ px_TB := px_tb2 230 (by decide +kernel) rfl
theorem w_471 : (Jvm.Cond.code ({ cls := "TroubleMemory", name := "start", desc := "()I" } : Jvm.MethodName) prog_1_method_13_code (3 : Nat) (Option.some Jvm.ClassFile.FieldType.int)) ∈ px_TB := px_tb2 231 rfl rfl
theorem w_472 : (Jvm.Cond.methodLink "TroubleMemoryLaw" (75 : Nat) ({ cls := "TroubleMemory", name := "displaced", desc := "(I)I" } : Jvm.MethodName)) ∈ px_TB := px_tb2 232 (by decide +kernel) rfl
theorem w_473 : (Jvm.Cond.instanceMethod ({ cls := "TroubleMemory", name := "displaced", desc := "(I)I" } : Jvm.MethodName)) ∈ px_TB := px_tb2 233 (by decide +kernel) rfl
theorem w_474 : (Jvm.Cond.selects "TroubleMemory" ({ cls := "TroubleMemory", name := "displaced", desc := "(I)I" } : Jvm.MethodName) ({ cls := "TroubleMemory", name := "displaced", desc := "(I)I" } : Jvm.MethodName)) ∈ px_TB := px_tb2 234 (by decide +kernel) rfl
theorem w_475 : (Jvm.Cond.code ({ cls := "TroubleMemory", name := "displaced", desc := "(I)I" } : Jvm.MethodName) prog_1_method_14_code (2 : Nat) (Option.some Jvm.ClassFile.FieldType.int)) ∈ px_TB := px_tb2 235 rfl rfl
theorem w_476 : (Jvm.Cond.methodLink "TroubleMemoryLaw" (79 : Nat) ({ cls := "TroubleMemory", name := "age", desc := "(I)I" } : Jvm.MethodName)) ∈ px_TB := px_tb2 236 (by decide +kernel) rfl
theorem w_477 : (Jvm.Cond.instanceMethod ({ cls := "TroubleMemory", name := "age", desc := "(I)I" } : Jvm.MethodName)) ∈ px_TB := px_tb2 237 (by decide +kernel) rfl
theorem w_478 : (Jvm.Cond.selects "TroubleMemory" ({ cls := "TroubleMemory", name := "age", desc := "(I)I" } : Jvm.MethodName) ({ cls := "TroubleMemory", name := "age", desc := "(I)I" } : Jvm.MethodName)) ∈ px_TB := px_tb2 238 (by decide +kernel) rfl
theorem w_479 : (Jvm.Cond.code ({ cls := "TroubleMemory", name := "age", desc := "(I)I" } : Jvm.MethodName) prog_1_method_15_code (3 : Nat) (Option.some Jvm.ClassFile.FieldType.int)) ∈ px_TB := px_tb2 239 rfl rfl
theorem w_480 : (Jvm.Cond.methodLink "TroubleMemoryLaw" (9 : Nat) ({ cls := "TroubleMemoryLaw", name := "cell", desc := "([II)I" } : Jvm.MethodName)) ∈ px_TB := px_tb3 0 (by decide +kernel) rfl
theorem w_481 : (Jvm.Cond.static ({ cls := "TroubleMemoryLaw", name := "cell", desc := "([II)I" } : Jvm.MethodName)) ∈ px_TB := px_tb3 1 (by decide +kernel) rfl
theorem w_482 : (Jvm.Cond.code ({ cls := "TroubleMemoryLaw", name := "cell", desc := "([II)I" } : Jvm.MethodName) method_2_code (2 : Nat) (Option.some Jvm.ClassFile.FieldType.int)) ∈ px_TB := px_tb3 2 rfl rfl
theorem w_483 : (Jvm.Cond.classLink "TroubleMemoryLaw" (18 : Nat) "TroubleMemoryModel") ∈ px_TB := px_tb3 3 (by decide +kernel) rfl
theorem w_484 : (Jvm.Cond.instantiable "TroubleMemoryModel" (26 : Nat)) ∈ px_TB := px_tb3 4 (by decide +kernel) rfl
theorem w_485 : (Jvm.Cond.methodLink "TroubleMemoryLaw" (20 : Nat) ({ cls := "TroubleMemoryModel", name := "<init>", desc := "(I)V" } : Jvm.MethodName)) ∈ px_TB := px_tb3 5 (by decide +kernel) rfl
theorem w_486 : (Jvm.Cond.instanceMethod ({ cls := "TroubleMemoryModel", name := "<init>", desc := "(I)V" } : Jvm.MethodName)) ∈ px_TB := px_tb3 6 (by decide +kernel) rfl
theorem w_487 : (Jvm.Cond.code ({ cls := "TroubleMemoryModel", name := "<init>", desc := "(I)V" } : Jvm.MethodName) prog_8_method_1_code (2 : Nat) (Option.none : Option Jvm.ClassFile.FieldType)) ∈ px_TB := px_tb3 7 rfl rfl
theorem w_488 : (Jvm.Cond.methodLink "TroubleMemoryModel" (1 : Nat) ({ cls := "java/lang/Object", name := "<init>", desc := "()V" } : Jvm.MethodName)) ∈ px_TB := px_tb3 8 (by decide +kernel) rfl
theorem w_489 : (Jvm.Cond.constant "TroubleMemoryModel" (65 : Nat) (65536 : Int32)) ∈ px_TB := px_tb3 9 (by decide +kernel) rfl
theorem w_490 : (Jvm.Cond.fieldLink "TroubleMemoryModel" (70 : Nat) "TroubleMemoryModel" "code" "I") ∈ px_TB := px_tb3 10 (by decide +kernel) rfl
theorem w_491 : (Jvm.Cond.fieldLink "TroubleMemoryModel" (66 : Nat) "TroubleMemoryModel" "room" "I") ∈ px_TB := px_tb3 11 (by decide +kernel) rfl
theorem w_492 : (Jvm.Cond.fieldLink "TroubleMemoryModel" (73 : Nat) "TroubleMemoryModel" "codes" "I") ∈ px_TB := px_tb3 12 (by decide +kernel) rfl
theorem w_493 : (Jvm.Cond.fieldLink "TroubleMemoryModel" (7 : Nat) "TroubleMemoryModel" "priority" "[I") ∈ px_TB := px_tb3 13 (by decide +kernel) rfl
theorem w_494 : (Jvm.Cond.fieldLink "TroubleMemoryModel" (13 : Nat) "TroubleMemoryModel" "up" "[I") ∈ px_TB := px_tb3 14 (by decide +kernel) rfl
theorem w_495 : (Jvm.Cond.fieldLink "TroubleMemoryModel" (16 : Nat) "TroubleMemoryModel" "down" "[I") ∈ px_TB := px_tb3 15 (by decide +kernel) rfl
theorem w_496 : (Jvm.Cond.fieldLink "TroubleMemoryModel" (19 : Nat) "TroubleMemoryModel" "parent" "[I") ∈ px_TB := px_tb3 16 (by decide +kernel) rfl
theorem w_497 : (Jvm.Cond.fieldLink "TroubleMemoryModel" (22 : Nat) "TroubleMemoryModel" "counter" "[I") ∈ px_TB := px_tb3 17 (by decide +kernel) rfl
theorem w_498 : (Jvm.Cond.fieldLink "TroubleMemoryModel" (25 : Nat) "TroubleMemoryModel" "bit" "[Z") ∈ px_TB := px_tb3 18 (by decide +kernel) rfl
theorem w_499 : (Jvm.Cond.fieldLink "TroubleMemoryModel" (29 : Nat) "TroubleMemoryModel" "trips" "[I") ∈ px_TB := px_tb3 19 (by decide +kernel) rfl
theorem w_500 : (Jvm.Cond.fieldLink "TroubleMemoryModel" (32 : Nat) "TroubleMemoryModel" "age" "[I") ∈ px_TB := px_tb3 20 (by decide +kernel) rfl
theorem w_501 : (Jvm.Cond.fieldLink "TroubleMemoryModel" (35 : Nat) "TroubleMemoryModel" "good" "[I") ∈ px_TB := px_tb3 21 (by decide +kernel) rfl
theorem w_502 : (Jvm.Cond.fieldLink "TroubleMemoryModel" (38 : Nat) "TroubleMemoryModel" "keptBit" "[Z") ∈ px_TB := px_tb3 22 (by decide +kernel) rfl
theorem w_503 : (Jvm.Cond.fieldLink "TroubleMemoryModel" (41 : Nat) "TroubleMemoryModel" "keptTrips" "[I") ∈ px_TB := px_tb3 23 (by decide +kernel) rfl
theorem w_504 : (Jvm.Cond.fieldLink "TroubleMemoryModel" (44 : Nat) "TroubleMemoryModel" "keptAge" "[I") ∈ px_TB := px_tb3 24 (by decide +kernel) rfl
theorem w_505 : (Jvm.Cond.fieldLink "TroubleMemoryModel" (47 : Nat) "TroubleMemoryModel" "keptGood" "[I") ∈ px_TB := px_tb3 25 (by decide +kernel) rfl
theorem w_506 : (Jvm.Cond.fieldLink "TroubleMemoryModel" (50 : Nat) "TroubleMemoryModel" "stored" "[I") ∈ px_TB := px_tb3 26 (by decide +kernel) rfl
theorem w_507 : (Jvm.Cond.fieldLink "TroubleMemoryModel" (53 : Nat) "TroubleMemoryModel" "happened" "[I") ∈ px_TB := px_tb3 27 (by decide +kernel) rfl
theorem w_508 : (Jvm.Cond.fieldLink "TroubleMemoryModel" (56 : Nat) "TroubleMemoryModel" "snapshot" "[I") ∈ px_TB := px_tb3 28 (by decide +kernel) rfl
theorem w_509 : (Jvm.Cond.fieldLink "TroubleMemoryModel" (119 : Nat) "TroubleMemoryModel" "last" "I") ∈ px_TB := px_tb3 29 (by decide +kernel) rfl
theorem w_510 : (Jvm.Cond.fieldLink "TroubleMemoryModel" (116 : Nat) "TroubleMemoryModel" "gone" "I") ∈ px_TB := px_tb3 30 (by decide +kernel) rfl
theorem w_511 : (Jvm.Cond.fieldLink "TroubleMemoryModel" (59 : Nat) "TroubleMemoryModel" "displaced" "[I") ∈ px_TB := px_tb3 31 (by decide +kernel) rfl
theorem w_512 : (Jvm.Cond.fieldLink "TroubleMemoryModel" (62 : Nat) "TroubleMemoryModel" "offCondition" "[Z") ∈ px_TB := px_tb3 32 (by decide +kernel) rfl
theorem w_513 : (Jvm.Cond.fieldLink "TroubleMemoryModel" (84 : Nat) "TroubleMemoryModel" "cut" "Z") ∈ px_TB := px_tb3 33 (by decide +kernel) rfl
theorem w_514 : (Jvm.Cond.fieldLink "TroubleMemoryModel" (95 : Nat) "TroubleMemoryModel" "cycles" "I") ∈ px_TB := px_tb3 34 (by decide +kernel) rfl
theorem w_515 : (Jvm.Cond.fieldLink "TroubleMemoryModel" (98 : Nat) "TroubleMemoryModel" "events" "I") ∈ px_TB := px_tb3 35 (by decide +kernel) rfl
theorem w_516 : (Jvm.Cond.lays "TroubleMemoryModel" "TroubleMemoryModel" "code" "I") ∈ px_TB := px_tb3 36 (by decide +kernel) rfl
theorem w_517 : (Jvm.Cond.soleField "TroubleMemoryModel" "code") ∈ px_TB := px_tb3 37 (by decide +kernel) rfl
theorem w_518 : (Jvm.Cond.laysFinal "TroubleMemoryModel" "TroubleMemoryModel" "room" "I") ∈ px_TB := px_tb3 38 (by decide +kernel) rfl
theorem w_519 : (Jvm.Cond.soleField "TroubleMemoryModel" "room") ∈ px_TB := px_tb3 39 (by decide +kernel) rfl
theorem w_520 : (Jvm.Cond.lays "TroubleMemoryModel" "TroubleMemoryModel" "codes" "I") ∈ px_TB := px_tb3 40 (by decide +kernel) rfl
theorem w_521 : (Jvm.Cond.soleField "TroubleMemoryModel" "codes") ∈ px_TB := px_tb3 41 (by decide +kernel) rfl
theorem w_522 : (Jvm.Cond.laysFinal "TroubleMemoryModel" "TroubleMemoryModel" "priority" "[I") ∈ px_TB := px_tb3 42 (by decide +kernel) rfl
theorem w_523 : (Jvm.Cond.soleField "TroubleMemoryModel" "priority") ∈ px_TB := px_tb3 43 (by decide +kernel) rfl
theorem w_524 : (Jvm.Cond.laysFinal "TroubleMemoryModel" "TroubleMemoryModel" "up" "[I") ∈ px_TB := px_tb3 44 (by decide +kernel) rfl
theorem w_525 : (Jvm.Cond.soleField "TroubleMemoryModel" "up") ∈ px_TB := px_tb3 45 (by decide +kernel) rfl
theorem w_526 : (Jvm.Cond.laysFinal "TroubleMemoryModel" "TroubleMemoryModel" "down" "[I") ∈ px_TB := px_tb3 46 (by decide +kernel) rfl
theorem w_527 : (Jvm.Cond.soleField "TroubleMemoryModel" "down") ∈ px_TB := px_tb3 47 (by decide +kernel) rfl
theorem w_528 : (Jvm.Cond.laysFinal "TroubleMemoryModel" "TroubleMemoryModel" "parent" "[I") ∈ px_TB := px_tb3 48 (by decide +kernel) rfl
theorem w_529 : (Jvm.Cond.soleField "TroubleMemoryModel" "parent") ∈ px_TB := px_tb3 49 (by decide +kernel) rfl
theorem w_530 : (Jvm.Cond.laysFinal "TroubleMemoryModel" "TroubleMemoryModel" "counter" "[I") ∈ px_TB := px_tb3 50 (by decide +kernel) rfl
theorem w_531 : (Jvm.Cond.soleField "TroubleMemoryModel" "counter") ∈ px_TB := px_tb3 51 (by decide +kernel) rfl
theorem w_532 : (Jvm.Cond.laysFinal "TroubleMemoryModel" "TroubleMemoryModel" "bit" "[Z") ∈ px_TB := px_tb3 52 (by decide +kernel) rfl
theorem w_533 : (Jvm.Cond.soleField "TroubleMemoryModel" "bit") ∈ px_TB := px_tb3 53 (by decide +kernel) rfl
theorem w_534 : (Jvm.Cond.laysFinal "TroubleMemoryModel" "TroubleMemoryModel" "trips" "[I") ∈ px_TB := px_tb3 54 (by decide +kernel) rfl
theorem w_535 : (Jvm.Cond.soleField "TroubleMemoryModel" "trips") ∈ px_TB := px_tb3 55 (by decide +kernel) rfl
theorem w_536 : (Jvm.Cond.laysFinal "TroubleMemoryModel" "TroubleMemoryModel" "age" "[I") ∈ px_TB := px_tb3 56 (by decide +kernel) rfl
theorem w_537 : (Jvm.Cond.soleField "TroubleMemoryModel" "age") ∈ px_TB := px_tb3 57 (by decide +kernel) rfl
theorem w_538 : (Jvm.Cond.laysFinal "TroubleMemoryModel" "TroubleMemoryModel" "good" "[I") ∈ px_TB := px_tb3 58 (by decide +kernel) rfl
theorem w_539 : (Jvm.Cond.soleField "TroubleMemoryModel" "good") ∈ px_TB := px_tb3 59 (by decide +kernel) rfl
theorem w_540 : (Jvm.Cond.laysFinal "TroubleMemoryModel" "TroubleMemoryModel" "keptBit" "[Z") ∈ px_TB := px_tb3 60 (by decide +kernel) rfl
theorem w_541 : (Jvm.Cond.soleField "TroubleMemoryModel" "keptBit") ∈ px_TB := px_tb3 61 (by decide +kernel) rfl
theorem w_542 : (Jvm.Cond.laysFinal "TroubleMemoryModel" "TroubleMemoryModel" "keptTrips" "[I") ∈ px_TB := px_tb3 62 (by decide +kernel) rfl
theorem w_543 : (Jvm.Cond.soleField "TroubleMemoryModel" "keptTrips") ∈ px_TB := px_tb3 63 (by decide +kernel) rfl
theorem w_544 : (Jvm.Cond.laysFinal "TroubleMemoryModel" "TroubleMemoryModel" "keptAge" "[I") ∈ px_TB := px_tb3 64 (by decide +kernel) rfl
theorem w_545 : (Jvm.Cond.soleField "TroubleMemoryModel" "keptAge") ∈ px_TB := px_tb3 65 (by decide +kernel) rfl
theorem w_546 : (Jvm.Cond.laysFinal "TroubleMemoryModel" "TroubleMemoryModel" "keptGood" "[I") ∈ px_TB := px_tb3 66 (by decide +kernel) rfl
theorem w_547 : (Jvm.Cond.soleField "TroubleMemoryModel" "keptGood") ∈ px_TB := px_tb3 67 (by decide +kernel) rfl
theorem w_548 : (Jvm.Cond.laysFinal "TroubleMemoryModel" "TroubleMemoryModel" "stored" "[I") ∈ px_TB := px_tb3 68 (by decide +kernel) rfl
theorem w_549 : (Jvm.Cond.soleField "TroubleMemoryModel" "stored") ∈ px_TB := px_tb3 69 (by decide +kernel) rfl
theorem w_550 : (Jvm.Cond.laysFinal "TroubleMemoryModel" "TroubleMemoryModel" "happened" "[I") ∈ px_TB := px_tb3 70 (by decide +kernel) rfl
theorem w_551 : (Jvm.Cond.soleField "TroubleMemoryModel" "happened") ∈ px_TB := px_tb3 71 (by decide +kernel) rfl
theorem w_552 : (Jvm.Cond.laysFinal "TroubleMemoryModel" "TroubleMemoryModel" "snapshot" "[I") ∈ px_TB := px_tb3 72 (by decide +kernel) rfl
theorem w_553 : (Jvm.Cond.soleField "TroubleMemoryModel" "snapshot") ∈ px_TB := px_tb3 73 (by decide +kernel) rfl
theorem w_554 : (Jvm.Cond.lays "TroubleMemoryModel" "TroubleMemoryModel" "last" "I") ∈ px_TB := px_tb3 74 (by decide +kernel) rfl
theorem w_555 : (Jvm.Cond.soleField "TroubleMemoryModel" "last") ∈ px_TB := px_tb3 75 (by decide +kernel) rfl
theorem w_556 : (Jvm.Cond.lays "TroubleMemoryModel" "TroubleMemoryModel" "gone" "I") ∈ px_TB := px_tb3 76 (by decide +kernel) rfl
theorem w_557 : (Jvm.Cond.soleField "TroubleMemoryModel" "gone") ∈ px_TB := px_tb3 77 (by decide +kernel) rfl
theorem w_558 : (Jvm.Cond.laysFinal "TroubleMemoryModel" "TroubleMemoryModel" "displaced" "[I") ∈ px_TB := px_tb3 78 (by decide +kernel) rfl
theorem w_559 : (Jvm.Cond.soleField "TroubleMemoryModel" "displaced") ∈ px_TB := px_tb3 79 (by decide +kernel) rfl
theorem w_560 : (Jvm.Cond.laysFinal "TroubleMemoryModel" "TroubleMemoryModel" "offCondition" "[Z") ∈ px_TB := px_tb3 80 (by decide +kernel) rfl
theorem w_561 : (Jvm.Cond.soleField "TroubleMemoryModel" "offCondition") ∈ px_TB := px_tb3 81 (by decide +kernel) rfl
theorem w_562 : (Jvm.Cond.lays "TroubleMemoryModel" "TroubleMemoryModel" "cut" "Z") ∈ px_TB := px_tb3 82 (by decide +kernel) rfl
theorem w_563 : (Jvm.Cond.soleField "TroubleMemoryModel" "cut") ∈ px_TB := px_tb3 83 (by decide +kernel) rfl
theorem w_564 : (Jvm.Cond.lays "TroubleMemoryModel" "TroubleMemoryModel" "cycles" "I") ∈ px_TB := px_tb3 84 (by decide +kernel) rfl
theorem w_565 : (Jvm.Cond.soleField "TroubleMemoryModel" "cycles") ∈ px_TB := px_tb3 85 (by decide +kernel) rfl
theorem w_566 : (Jvm.Cond.lays "TroubleMemoryModel" "TroubleMemoryModel" "events" "I") ∈ px_TB := px_tb3 86 (by decide +kernel) rfl
theorem w_567 : (Jvm.Cond.soleField "TroubleMemoryModel" "events") ∈ px_TB := px_tb3 87 (by decide +kernel) rfl
theorem w_568 : (Jvm.Cond.superclass "TroubleMemoryModel" "java/lang/Object") ∈ px_TB := px_tb3 88 (by decide +kernel) rfl
theorem w_569 : (Jvm.Cond.arrayClass Jvm.ClassFile.FieldType.int) ∈ px_TB := px_tb3 89 (by decide +kernel) rfl
theorem w_570 : (Jvm.Cond.arrayClass Jvm.ClassFile.FieldType.boolean) ∈ px_TB := px_tb3 90 (by decide +kernel) rfl
theorem w_571 : (Jvm.Cond.methodLink "TroubleMemoryLaw" (25 : Nat) ({ cls := "TroubleMemoryModel", name := "code", desc := "(III)I" } : Jvm.MethodName)) ∈ px_TB := px_tb3 91 (by decide +kernel) rfl
theorem w_572 : (Jvm.Cond.instanceMethod ({ cls := "TroubleMemoryModel", name := "code", desc := "(III)I" } : Jvm.MethodName)) ∈ px_TB := px_tb3 92 (by decide +kernel) rfl
theorem w_573 : (Jvm.Cond.selects "TroubleMemoryModel" ({ cls := "TroubleMemoryModel", name := "code", desc := "(III)I" } : Jvm.MethodName) ({ cls := "TroubleMemoryModel", name := "code", desc := "(III)I" } : Jvm.MethodName)) ∈ px_TB := px_tb3 93 (by decide +kernel) rfl
theorem w_574 : (Jvm.Cond.code ({ cls := "TroubleMemoryModel", name := "code", desc := "(III)I" } : Jvm.MethodName) prog_8_method_9_code (4 : Nat) (Option.some Jvm.ClassFile.FieldType.int)) ∈ px_TB := px_tb3 94 rfl rfl
theorem w_575 : (Jvm.Cond.methodLink "TroubleMemoryModel" (88 : Nat) ({ cls := "TroubleMemoryModel", name := "freshen", desc := "(I)V" } : Jvm.MethodName)) ∈ px_TB := px_tb3 95 (by decide +kernel) rfl
theorem w_577 : (Jvm.Cond.instanceMethod ({ cls := "TroubleMemoryModel", name := "freshen", desc := "(I)V" } : Jvm.MethodName)) ∈ px_TB := px_tb3 97 (by decide +kernel) rfl
theorem w_578 : (Jvm.Cond.code ({ cls := "TroubleMemoryModel", name := "freshen", desc := "(I)V" } : Jvm.MethodName) prog_8_method_7_code (3 : Nat) (Option.none : Option Jvm.ClassFile.FieldType)) ∈ px_TB := px_tb3 98 rfl rfl
theorem w_579 : (Jvm.Cond.methodLink "TroubleMemoryModel" (80 : Nat) ({ cls := "TroubleMemoryModel", name := "set", desc := "(IIZ)V" } : Jvm.MethodName)) ∈ px_TB := px_tb3 99 (by decide +kernel) rfl
theorem w_581 : (Jvm.Cond.instanceMethod ({ cls := "TroubleMemoryModel", name := "set", desc := "(IIZ)V" } : Jvm.MethodName)) ∈ px_TB := px_tb3 101 (by decide +kernel) rfl
theorem w_582 : (Jvm.Cond.code ({ cls := "TroubleMemoryModel", name := "set", desc := "(IIZ)V" } : Jvm.MethodName) prog_8_method_5_code (4 : Nat) (Option.none : Option Jvm.ClassFile.FieldType)) ∈ px_TB := px_tb3 102 rfl rfl
theorem w_583 : (Jvm.Cond.methodLink "TroubleMemoryModel" (92 : Nat) ({ cls := "TroubleMemoryModel", name := "keep", desc := "(I)V" } : Jvm.MethodName)) ∈ px_TB := px_tb3 103 (by decide +kernel) rfl
theorem w_585 : (Jvm.Cond.instanceMethod ({ cls := "TroubleMemoryModel", name := "keep", desc := "(I)V" } : Jvm.MethodName)) ∈ px_TB := px_tb3 105 (by decide +kernel) rfl
theorem w_586 : (Jvm.Cond.code ({ cls := "TroubleMemoryModel", name := "keep", desc := "(I)V" } : Jvm.MethodName) prog_8_method_8_code (3 : Nat) (Option.none : Option Jvm.ClassFile.FieldType)) ∈ px_TB := px_tb3 106 rfl rfl
theorem w_587 : (Jvm.Cond.methodLink "TroubleMemoryModel" (76 : Nat) ({ cls := "TroubleMemoryModel", name := "is", desc := "(II)Z" } : Jvm.MethodName)) ∈ px_TB := px_tb3 107 (by decide +kernel) rfl
theorem w_589 : (Jvm.Cond.instanceMethod ({ cls := "TroubleMemoryModel", name := "is", desc := "(II)Z" } : Jvm.MethodName)) ∈ px_TB := px_tb3 109 (by decide +kernel) rfl
theorem w_590 : (Jvm.Cond.code ({ cls := "TroubleMemoryModel", name := "is", desc := "(II)Z" } : Jvm.MethodName) prog_8_method_4_code (3 : Nat) (Option.some Jvm.ClassFile.FieldType.boolean)) ∈ px_TB := px_tb3 110 rfl rfl
theorem w_591 : (Jvm.Cond.methodLink "TroubleMemoryLaw" (30 : Nat) ({ cls := "TroubleMemoryModel", name := "event", desc := "(IZ)I" } : Jvm.MethodName)) ∈ px_TB := px_tb3 111 (by decide +kernel) rfl
theorem w_592 : (Jvm.Cond.instanceMethod ({ cls := "TroubleMemoryModel", name := "event", desc := "(IZ)I" } : Jvm.MethodName)) ∈ px_TB := px_tb3 112 (by decide +kernel) rfl
theorem w_593 : (Jvm.Cond.selects "TroubleMemoryModel" ({ cls := "TroubleMemoryModel", name := "event", desc := "(IZ)I" } : Jvm.MethodName) ({ cls := "TroubleMemoryModel", name := "event", desc := "(IZ)I" } : Jvm.MethodName)) ∈ px_TB := px_tb3 113 (by decide +kernel) rfl
theorem w_594 : (Jvm.Cond.code ({ cls := "TroubleMemoryModel", name := "event", desc := "(IZ)I" } : Jvm.MethodName) prog_8_method_17_code (3 : Nat) (Option.some Jvm.ClassFile.FieldType.int)) ∈ px_TB := px_tb3 114 rfl rfl
theorem w_595 : (Jvm.Cond.methodLink "TroubleMemoryModel" (129 : Nat) ({ cls := "TroubleMemoryModel", name := "none", desc := "(I)Z" } : Jvm.MethodName)) ∈ px_TB := px_tb3 115 (by decide +kernel) rfl
theorem w_597 : (Jvm.Cond.instanceMethod ({ cls := "TroubleMemoryModel", name := "none", desc := "(I)Z" } : Jvm.MethodName)) ∈ px_TB := px_tb3 117 (by decide +kernel) rfl
theorem w_598 : (Jvm.Cond.code ({ cls := "TroubleMemoryModel", name := "none", desc := "(I)Z" } : Jvm.MethodName) prog_8_method_3_code (2 : Nat) (Option.some Jvm.ClassFile.FieldType.boolean)) ∈ px_TB := px_tb3 118 rfl rfl
theorem w_599 : (Jvm.Cond.methodLink "TroubleMemoryModel" (132 : Nat) ({ cls := "TroubleMemoryModel", name := "statusOf", desc := "(I)I" } : Jvm.MethodName)) ∈ px_TB := px_tb3 119 (by decide +kernel) rfl
theorem w_601 : (Jvm.Cond.instanceMethod ({ cls := "TroubleMemoryModel", name := "statusOf", desc := "(I)I" } : Jvm.MethodName)) ∈ px_TB := px_tb3 121 (by decide +kernel) rfl
theorem w_602 : (Jvm.Cond.code ({ cls := "TroubleMemoryModel", name := "statusOf", desc := "(I)I" } : Jvm.MethodName) prog_8_method_6_code (4 : Nat) (Option.some Jvm.ClassFile.FieldType.int)) ∈ px_TB := px_tb3 122 rfl rfl
theorem w_603 : (Jvm.Cond.methodLink "TroubleMemoryModel" (135 : Nat) ({ cls := "TroubleMemoryModel", name := "fails", desc := "(I)V" } : Jvm.MethodName)) ∈ px_TB := px_tb3 123 (by decide +kernel) rfl
theorem w_605 : (Jvm.Cond.instanceMethod ({ cls := "TroubleMemoryModel", name := "fails", desc := "(I)V" } : Jvm.MethodName)) ∈ px_TB := px_tb3 125 (by decide +kernel) rfl
theorem w_606 : (Jvm.Cond.code ({ cls := "TroubleMemoryModel", name := "fails", desc := "(I)V" } : Jvm.MethodName) prog_8_method_16_code (3 : Nat) (Option.none : Option Jvm.ClassFile.FieldType)) ∈ px_TB := px_tb3 126 rfl rfl
theorem w_607 : (Jvm.Cond.methodLink "TroubleMemoryModel" (122 : Nat) ({ cls := "TroubleMemoryModel", name := "hidden", desc := "(I)Z" } : Jvm.MethodName)) ∈ px_TB := px_tb3 127 (by decide +kernel) rfl
theorem w_609 : (Jvm.Cond.instanceMethod ({ cls := "TroubleMemoryModel", name := "hidden", desc := "(I)Z" } : Jvm.MethodName)) ∈ px_TB := px_tb3 129 (by decide +kernel) rfl
theorem w_610 : (Jvm.Cond.code ({ cls := "TroubleMemoryModel", name := "hidden", desc := "(I)Z" } : Jvm.MethodName) prog_8_method_15_code (3 : Nat) (Option.some Jvm.ClassFile.FieldType.boolean)) ∈ px_TB := px_tb3 130 rfl rfl
theorem w_611 : (Jvm.Cond.methodLink "TroubleMemoryModel" (126 : Nat) ({ cls := "TroubleMemoryModel", name := "store", desc := "(I)V" } : Jvm.MethodName)) ∈ px_TB := px_tb3 131 (by decide +kernel) rfl
theorem w_613 : (Jvm.Cond.instanceMethod ({ cls := "TroubleMemoryModel", name := "store", desc := "(I)V" } : Jvm.MethodName)) ∈ px_TB := px_tb3 133 (by decide +kernel) rfl
theorem w_614 : (Jvm.Cond.code ({ cls := "TroubleMemoryModel", name := "store", desc := "(I)V" } : Jvm.MethodName) prog_8_method_14_code (3 : Nat) (Option.none : Option Jvm.ClassFile.FieldType)) ∈ px_TB := px_tb3 134 rfl rfl
theorem w_615 : (Jvm.Cond.methodLink "TroubleMemoryModel" (105 : Nat) ({ cls := "TroubleMemoryModel", name := "shoot", desc := "(II)V" } : Jvm.MethodName)) ∈ px_TB := px_tb3 135 (by decide +kernel) rfl
theorem w_617 : (Jvm.Cond.instanceMethod ({ cls := "TroubleMemoryModel", name := "shoot", desc := "(II)V" } : Jvm.MethodName)) ∈ px_TB := px_tb3 137 (by decide +kernel) rfl
theorem w_618 : (Jvm.Cond.code ({ cls := "TroubleMemoryModel", name := "shoot", desc := "(II)V" } : Jvm.MethodName) prog_8_method_13_code (4 : Nat) (Option.none : Option Jvm.ClassFile.FieldType)) ∈ px_TB := px_tb3 138 rfl rfl
theorem w_619 : (Jvm.Cond.methodLink "TroubleMemoryModel" (101 : Nat) ({ cls := "TroubleMemoryModel", name := "many", desc := "(I)I" } : Jvm.MethodName)) ∈ px_TB := px_tb3 139 (by decide +kernel) rfl
theorem w_621 : (Jvm.Cond.instanceMethod ({ cls := "TroubleMemoryModel", name := "many", desc := "(I)I" } : Jvm.MethodName)) ∈ px_TB := px_tb3 141 (by decide +kernel) rfl
theorem w_622 : (Jvm.Cond.code ({ cls := "TroubleMemoryModel", name := "many", desc := "(I)I" } : Jvm.MethodName) prog_8_method_10_code (4 : Nat) (Option.some Jvm.ClassFile.FieldType.int)) ∈ px_TB := px_tb3 142 rfl rfl
theorem w_623 : (Jvm.Cond.methodLink "TroubleMemoryModel" (109 : Nat) ({ cls := "TroubleMemoryModel", name := "entries", desc := "()I" } : Jvm.MethodName)) ∈ px_TB := px_tb3 143 (by decide +kernel) rfl
theorem w_625 : (Jvm.Cond.instanceMethod ({ cls := "TroubleMemoryModel", name := "entries", desc := "()I" } : Jvm.MethodName)) ∈ px_TB := px_tb3 145 (by decide +kernel) rfl
theorem w_626 : (Jvm.Cond.code ({ cls := "TroubleMemoryModel", name := "entries", desc := "()I" } : Jvm.MethodName) prog_8_method_11_code (3 : Nat) (Option.some Jvm.ClassFile.FieldType.int)) ∈ px_TB := px_tb3 146 rfl rfl
theorem w_627 : (Jvm.Cond.methodLink "TroubleMemoryModel" (113 : Nat) ({ cls := "TroubleMemoryModel", name := "goes", desc := "(I)I" } : Jvm.MethodName)) ∈ px_TB := px_tb3 147 (by decide +kernel) rfl
theorem w_629 : (Jvm.Cond.instanceMethod ({ cls := "TroubleMemoryModel", name := "goes", desc := "(I)I" } : Jvm.MethodName)) ∈ px_TB := px_tb3 149 (by decide +kernel) rfl
theorem w_630 : (Jvm.Cond.code ({ cls := "TroubleMemoryModel", name := "goes", desc := "(I)I" } : Jvm.MethodName) prog_8_method_12_code (7 : Nat) (Option.some Jvm.ClassFile.FieldType.int)) ∈ px_TB := px_tb3 150 rfl rfl
theorem w_631 : (Jvm.Cond.methodLink "TroubleMemoryLaw" (35 : Nat) ({ cls := "TroubleMemoryModel", name := "cycle", desc := "(Z)I" } : Jvm.MethodName)) ∈ px_TB := px_tb3 151 (by decide +kernel) rfl
theorem w_632 : (Jvm.Cond.instanceMethod ({ cls := "TroubleMemoryModel", name := "cycle", desc := "(Z)I" } : Jvm.MethodName)) ∈ px_TB := px_tb3 152 (by decide +kernel) rfl
theorem w_633 : (Jvm.Cond.selects "TroubleMemoryModel" ({ cls := "TroubleMemoryModel", name := "cycle", desc := "(Z)I" } : Jvm.MethodName) ({ cls := "TroubleMemoryModel", name := "cycle", desc := "(Z)I" } : Jvm.MethodName)) ∈ px_TB := px_tb3 153 (by decide +kernel) rfl
theorem w_634 : (Jvm.Cond.code ({ cls := "TroubleMemoryModel", name := "cycle", desc := "(Z)I" } : Jvm.MethodName) prog_8_method_18_code (3 : Nat) (Option.some Jvm.ClassFile.FieldType.int)) ∈ px_TB := px_tb3 154 rfl rfl
theorem w_635 : (Jvm.Cond.methodLink "TroubleMemoryLaw" (40 : Nat) ({ cls := "TroubleMemoryModel", name := "status", desc := "(I)I" } : Jvm.MethodName)) ∈ px_TB := px_tb3 155 (by decide +kernel) rfl
theorem w_636 : (Jvm.Cond.instanceMethod ({ cls := "TroubleMemoryModel", name := "status", desc := "(I)I" } : Jvm.MethodName)) ∈ px_TB := px_tb3 156 (by decide +kernel) rfl
theorem w_637 : (Jvm.Cond.selects "TroubleMemoryModel" ({ cls := "TroubleMemoryModel", name := "status", desc := "(I)I" } : Jvm.MethodName) ({ cls := "TroubleMemoryModel", name := "status", desc := "(I)I" } : Jvm.MethodName)) ∈ px_TB := px_tb3 157 (by decide +kernel) rfl
theorem w_638 : (Jvm.Cond.code ({ cls := "TroubleMemoryModel", name := "status", desc := "(I)I" } : Jvm.MethodName) prog_8_method_19_code (2 : Nat) (Option.some Jvm.ClassFile.FieldType.int)) ∈ px_TB := px_tb3 158 rfl rfl
theorem w_639 : (Jvm.Cond.methodLink "TroubleMemoryLaw" (44 : Nat) ({ cls := "TroubleMemoryModel", name := "snapshot", desc := "(III)I" } : Jvm.MethodName)) ∈ px_TB := px_tb3 159 (by decide +kernel) rfl
theorem w_640 : (Jvm.Cond.instanceMethod ({ cls := "TroubleMemoryModel", name := "snapshot", desc := "(III)I" } : Jvm.MethodName)) ∈ px_TB := px_tb3 160 (by decide +kernel) rfl
theorem w_641 : (Jvm.Cond.selects "TroubleMemoryModel" ({ cls := "TroubleMemoryModel", name := "snapshot", desc := "(III)I" } : Jvm.MethodName) ({ cls := "TroubleMemoryModel", name := "snapshot", desc := "(III)I" } : Jvm.MethodName)) ∈ px_TB := px_tb3 161 (by decide +kernel) rfl
theorem w_642 : (Jvm.Cond.code ({ cls := "TroubleMemoryModel", name := "snapshot", desc := "(III)I" } : Jvm.MethodName) prog_8_method_20_code (4 : Nat) (Option.some Jvm.ClassFile.FieldType.int)) ∈ px_TB := px_tb3 162 rfl rfl
theorem w_643 : (Jvm.Cond.methodLink "TroubleMemoryLaw" (48 : Nat) ({ cls := "TroubleMemoryModel", name := "clear", desc := "(I)I" } : Jvm.MethodName)) ∈ px_TB := px_tb3 163 (by decide +kernel) rfl
theorem w_644 : (Jvm.Cond.instanceMethod ({ cls := "TroubleMemoryModel", name := "clear", desc := "(I)I" } : Jvm.MethodName)) ∈ px_TB := px_tb3 164 (by decide +kernel) rfl
theorem w_645 : (Jvm.Cond.selects "TroubleMemoryModel" ({ cls := "TroubleMemoryModel", name := "clear", desc := "(I)I" } : Jvm.MethodName) ({ cls := "TroubleMemoryModel", name := "clear", desc := "(I)I" } : Jvm.MethodName)) ∈ px_TB := px_tb3 165 (by decide +kernel) rfl
theorem w_646 : (Jvm.Cond.code ({ cls := "TroubleMemoryModel", name := "clear", desc := "(I)I" } : Jvm.MethodName) prog_8_method_21_code (4 : Nat) (Option.some Jvm.ClassFile.FieldType.int)) ∈ px_TB := px_tb3 166 rfl rfl
theorem w_647 : (Jvm.Cond.methodLink "TroubleMemoryLaw" (53 : Nat) ({ cls := "TroubleMemoryModel", name := "parent", desc := "(II)I" } : Jvm.MethodName)) ∈ px_TB := px_tb3 167 (by decide +kernel) rfl
theorem w_648 : (Jvm.Cond.instanceMethod ({ cls := "TroubleMemoryModel", name := "parent", desc := "(II)I" } : Jvm.MethodName)) ∈ px_TB := px_tb3 168 (by decide +kernel) rfl
theorem w_649 : (Jvm.Cond.selects "TroubleMemoryModel" ({ cls := "TroubleMemoryModel", name := "parent", desc := "(II)I" } : Jvm.MethodName) ({ cls := "TroubleMemoryModel", name := "parent", desc := "(II)I" } : Jvm.MethodName)) ∈ px_TB := px_tb3 169 (by decide +kernel) rfl
theorem w_650 : (Jvm.Cond.code ({ cls := "TroubleMemoryModel", name := "parent", desc := "(II)I" } : Jvm.MethodName) prog_8_method_22_code (5 : Nat) (Option.some Jvm.ClassFile.FieldType.int)) ∈ px_TB := px_tb3 170 rfl rfl
theorem w_651 : (Jvm.Cond.methodLink "TroubleMemoryLaw" (57 : Nat) ({ cls := "TroubleMemoryModel", name := "enable", desc := "(IZ)I" } : Jvm.MethodName)) ∈ px_TB := px_tb3 171 (by decide +kernel) rfl
theorem w_652 : (Jvm.Cond.instanceMethod ({ cls := "TroubleMemoryModel", name := "enable", desc := "(IZ)I" } : Jvm.MethodName)) ∈ px_TB := px_tb3 172 (by decide +kernel) rfl
theorem w_653 : (Jvm.Cond.selects "TroubleMemoryModel" ({ cls := "TroubleMemoryModel", name := "enable", desc := "(IZ)I" } : Jvm.MethodName) ({ cls := "TroubleMemoryModel", name := "enable", desc := "(IZ)I" } : Jvm.MethodName)) ∈ px_TB := px_tb3 173 (by decide +kernel) rfl
theorem w_654 : (Jvm.Cond.code ({ cls := "TroubleMemoryModel", name := "enable", desc := "(IZ)I" } : Jvm.MethodName) prog_8_method_23_code (5 : Nat) (Option.some Jvm.ClassFile.FieldType.int)) ∈ px_TB := px_tb3 174 rfl rfl
theorem w_655 : (Jvm.Cond.methodLink "TroubleMemoryLaw" (61 : Nat) ({ cls := "TroubleMemoryModel", name := "lamp", desc := "(I)I" } : Jvm.MethodName)) ∈ px_TB := px_tb3 175 (by decide +kernel) rfl
theorem w_656 : (Jvm.Cond.instanceMethod ({ cls := "TroubleMemoryModel", name := "lamp", desc := "(I)I" } : Jvm.MethodName)) ∈ px_TB := px_tb3 176 (by decide +kernel) rfl
theorem w_657 : (Jvm.Cond.selects "TroubleMemoryModel" ({ cls := "TroubleMemoryModel", name := "lamp", desc := "(I)I" } : Jvm.MethodName) ({ cls := "TroubleMemoryModel", name := "lamp", desc := "(I)I" } : Jvm.MethodName)) ∈ px_TB := px_tb3 177 (by decide +kernel) rfl
theorem w_658 : (Jvm.Cond.code ({ cls := "TroubleMemoryModel", name := "lamp", desc := "(I)I" } : Jvm.MethodName) prog_8_method_24_code (2 : Nat) (Option.some Jvm.ClassFile.FieldType.int)) ∈ px_TB := px_tb3 178 rfl rfl
theorem w_659 : (Jvm.Cond.methodLink "TroubleMemoryLaw" (65 : Nat) ({ cls := "TroubleMemoryModel", name := "stored", desc := "(II)I" } : Jvm.MethodName)) ∈ px_TB := px_tb3 179 (by decide +kernel) rfl
theorem w_660 : (Jvm.Cond.instanceMethod ({ cls := "TroubleMemoryModel", name := "stored", desc := "(II)I" } : Jvm.MethodName)) ∈ px_TB := px_tb3 180 (by decide +kernel) rfl
theorem w_661 : (Jvm.Cond.selects "TroubleMemoryModel" ({ cls := "TroubleMemoryModel", name := "stored", desc := "(II)I" } : Jvm.MethodName) ({ cls := "TroubleMemoryModel", name := "stored", desc := "(II)I" } : Jvm.MethodName)) ∈ px_TB := px_tb3 181 (by decide +kernel) rfl
theorem w_662 : (Jvm.Cond.code ({ cls := "TroubleMemoryModel", name := "stored", desc := "(II)I" } : Jvm.MethodName) prog_8_method_25_code (6 : Nat) (Option.some Jvm.ClassFile.FieldType.int)) ∈ px_TB := px_tb3 182 rfl rfl
theorem w_663 : (Jvm.Cond.methodLink "TroubleMemoryLaw" (70 : Nat) ({ cls := "TroubleMemoryModel", name := "cut", desc := "()I" } : Jvm.MethodName)) ∈ px_TB := px_tb3 183 (by decide +kernel) rfl
theorem w_664 : (Jvm.Cond.instanceMethod ({ cls := "TroubleMemoryModel", name := "cut", desc := "()I" } : Jvm.MethodName)) ∈ px_TB := px_tb3 184 (by decide +kernel) rfl
theorem w_665 : (Jvm.Cond.selects "TroubleMemoryModel" ({ cls := "TroubleMemoryModel", name := "cut", desc := "()I" } : Jvm.MethodName) ({ cls := "TroubleMemoryModel", name := "cut", desc := "()I" } : Jvm.MethodName)) ∈ px_TB := px_tb3 185 (by decide +kernel) rfl
theorem w_666 : (Jvm.Cond.code ({ cls := "TroubleMemoryModel", name := "cut", desc := "()I" } : Jvm.MethodName) prog_8_method_26_code (1 : Nat) (Option.some Jvm.ClassFile.FieldType.int)) ∈ px_TB := px_tb3 186 rfl rfl
theorem w_667 : (Jvm.Cond.methodLink "TroubleMemoryLaw" (74 : Nat) ({ cls := "TroubleMemoryModel", name := "start", desc := "()I" } : Jvm.MethodName)) ∈ px_TB := px_tb3 187 (by decide +kernel) rfl
theorem w_668 : (Jvm.Cond.instanceMethod ({ cls := "TroubleMemoryModel", name := "start", desc := "()I" } : Jvm.MethodName)) ∈ px_TB := px_tb3 188 (by decide +kernel) rfl
theorem w_669 : (Jvm.Cond.selects "TroubleMemoryModel" ({ cls := "TroubleMemoryModel", name := "start", desc := "()I" } : Jvm.MethodName) ({ cls := "TroubleMemoryModel", name := "start", desc := "()I" } : Jvm.MethodName)) ∈ px_TB := px_tb3 189 (by decide +kernel) rfl
theorem w_670 : (Jvm.Cond.code ({ cls := "TroubleMemoryModel", name := "start", desc := "()I" } : Jvm.MethodName) prog_8_method_27_code (3 : Nat) (Option.some Jvm.ClassFile.FieldType.int)) ∈ px_TB := px_tb3 190 rfl rfl
theorem w_671 : (Jvm.Cond.methodLink "TroubleMemoryLaw" (78 : Nat) ({ cls := "TroubleMemoryModel", name := "displaced", desc := "(I)I" } : Jvm.MethodName)) ∈ px_TB := px_tb3 191 (by decide +kernel) rfl
theorem w_672 : (Jvm.Cond.instanceMethod ({ cls := "TroubleMemoryModel", name := "displaced", desc := "(I)I" } : Jvm.MethodName)) ∈ px_TB := px_tb3 192 (by decide +kernel) rfl
theorem w_673 : (Jvm.Cond.selects "TroubleMemoryModel" ({ cls := "TroubleMemoryModel", name := "displaced", desc := "(I)I" } : Jvm.MethodName) ({ cls := "TroubleMemoryModel", name := "displaced", desc := "(I)I" } : Jvm.MethodName)) ∈ px_TB := px_tb3 193 (by decide +kernel) rfl
theorem w_674 : (Jvm.Cond.code ({ cls := "TroubleMemoryModel", name := "displaced", desc := "(I)I" } : Jvm.MethodName) prog_8_method_28_code (2 : Nat) (Option.some Jvm.ClassFile.FieldType.int)) ∈ px_TB := px_tb3 194 rfl rfl
theorem w_675 : (Jvm.Cond.methodLink "TroubleMemoryLaw" (82 : Nat) ({ cls := "TroubleMemoryModel", name := "age", desc := "(I)I" } : Jvm.MethodName)) ∈ px_TB := px_tb3 195 (by decide +kernel) rfl
theorem w_676 : (Jvm.Cond.instanceMethod ({ cls := "TroubleMemoryModel", name := "age", desc := "(I)I" } : Jvm.MethodName)) ∈ px_TB := px_tb3 196 (by decide +kernel) rfl
theorem w_677 : (Jvm.Cond.selects "TroubleMemoryModel" ({ cls := "TroubleMemoryModel", name := "age", desc := "(I)I" } : Jvm.MethodName) ({ cls := "TroubleMemoryModel", name := "age", desc := "(I)I" } : Jvm.MethodName)) ∈ px_TB := px_tb3 197 (by decide +kernel) rfl
theorem w_678 : (Jvm.Cond.code ({ cls := "TroubleMemoryModel", name := "age", desc := "(I)I" } : Jvm.MethodName) prog_8_method_29_code (2 : Nat) (Option.some Jvm.ClassFile.FieldType.int)) ∈ px_TB := px_tb3 198 rfl rfl
theorem w_679 : (Jvm.Cond.castable "TroubleMemory$Code" "TroubleMemory$Code") ∈ px_NW := px_nw 1 (by decide +kernel)
theorem w_680 : (Jvm.Cond.castable "TroubleMemory$Entry" "TroubleMemory$Entry") ∈ px_NW := px_nw 2 (by decide +kernel)
theorem w_681 : (Jvm.Cond.sameMethod "[Ljava/lang/Object;" "java/lang/Object" "getClass" "()Ljava/lang/Class;") ∈ px_TB := px_tb3 201 (by decide +kernel) rfl
theorem w_682 : (Jvm.Cond.selects "[Ljava/lang/Object;" ({ cls := "java/lang/Object", name := "getClass", desc := "()Ljava/lang/Class;" } : Jvm.MethodName) ({ cls := "java/lang/Object", name := "getClass", desc := "()Ljava/lang/Class;" } : Jvm.MethodName)) ∈ px_TB := px_tb3 202 (by decide +kernel) rfl
theorem w_683 : (Jvm.Cond.declares ({ cls := "java/lang/Object", name := "getClass", desc := "()Ljava/lang/Class;" } : Jvm.MethodName)) ∈ px_NW := px_nw 3 (by decide +kernel)
theorem w_684 : (Jvm.Cond.castable "TroubleMemory" "java/lang/Object") ∈ px_NW := px_nw 4 (by decide +kernel)
theorem w_685 : (Jvm.Cond.castable "TroubleMemory$Memory" "java/lang/Object") ∈ px_NW := px_nw 5 (by decide +kernel)
theorem w_686 : (Jvm.Cond.castable "TroubleMemoryModel" "java/lang/Object") ∈ px_NW := px_nw 6 (by decide +kernel)
theorem w_687 : (Jvm.Cond.castable "TroubleMemory$Code" "java/lang/Object") ∈ px_NW := px_nw 7 (by decide +kernel)
theorem w_688 : (Jvm.Cond.castable "TroubleMemory$Standing" "java/lang/Object") ∈ px_NW := px_nw 8 (by decide +kernel)
theorem w_689 : (Jvm.Cond.castable "TroubleMemory$Snapshot" "java/lang/Object") ∈ px_NW := px_nw 9 (by decide +kernel)
theorem w_690 : (Jvm.Cond.castable "TroubleMemory$Entry" "java/lang/Object") ∈ px_NW := px_nw 10 (by decide +kernel)
theorem wp_0 : Cond.selects "java/util/ArrayList" ⟨"java/util/ArrayList", "add", "(Ljava/lang/Object;[Ljava/lang/Object;I)V"⟩ ⟨"java/util/ArrayList", "add", "(Ljava/lang/Object;[Ljava/lang/Object;I)V"⟩ ∈ px_TB := px_tbs 0 (by decide +kernel) rfl
theorem wp_1 : Cond.selects "java/util/ArrayList" ⟨"java/util/ArrayList", "grow", "()[Ljava/lang/Object;"⟩ ⟨"java/util/ArrayList", "grow", "()[Ljava/lang/Object;"⟩ ∈ px_TB := px_tbs 1 (by decide +kernel) rfl
theorem wp_2 : Cond.selects "java/util/ArrayList" ⟨"java/util/ArrayList", "grow", "(I)[Ljava/lang/Object;"⟩ ⟨"java/util/ArrayList", "grow", "(I)[Ljava/lang/Object;"⟩ ∈ px_TB := px_tbs 2 (by decide +kernel) rfl
theorem wp_3 : Cond.selects "TroubleMemory" ⟨"TroubleMemory", "find", "(I)LTroubleMemory$Code;"⟩ ⟨"TroubleMemory", "find", "(I)LTroubleMemory$Code;"⟩ ∈ px_TB := px_tbs 3 (by decide +kernel) rfl
theorem wp_4 : Cond.selects "TroubleMemory" ⟨"TroubleMemory", "isOn", "(I)Z"⟩ ⟨"TroubleMemory", "isOn", "(I)Z"⟩ ∈ px_TB := px_tbs 4 (by decide +kernel) rfl
theorem wp_5 : Cond.selects "TroubleMemory" ⟨"TroubleMemory", "judge", "(LTroubleMemory$Code;)V"⟩ ⟨"TroubleMemory", "judge", "(LTroubleMemory$Code;)V"⟩ ∈ px_TB := px_tbs 5 (by decide +kernel) rfl
theorem wp_6 : Cond.selects "TroubleMemory" ⟨"TroubleMemory", "takeSnapshot", "(LTroubleMemory$Code;)LTroubleMemory$Snapshot;"⟩ ⟨"TroubleMemory", "takeSnapshot", "(LTroubleMemory$Code;)LTroubleMemory$Snapshot;"⟩ ∈ px_TB := px_tbs 6 (by decide +kernel) rfl
theorem wp_7 : Cond.selects "TroubleMemory" ⟨"TroubleMemory", "countCodesWith", "(I)I"⟩ ⟨"TroubleMemory", "countCodesWith", "(I)I"⟩ ∈ px_TB := px_tbs 7 (by decide +kernel) rfl
theorem wp_8 : Cond.selects "TroubleMemory$Memory" ⟨"TroubleMemory$Memory", "displaceFor", "(LTroubleMemory$Code;)Z"⟩ ⟨"TroubleMemory$Memory", "displaceFor", "(LTroubleMemory$Code;)Z"⟩ ∈ px_TB := px_tbs 8 (by decide +kernel) rfl
theorem wp_9 : Cond.selects "java/util/ArrayList" ⟨"java/util/ArrayList", "fastRemove", "([Ljava/lang/Object;I)V"⟩ ⟨"java/util/ArrayList", "fastRemove", "([Ljava/lang/Object;I)V"⟩ ∈ px_TB := px_tbs 9 (by decide +kernel) rfl
theorem wp_10 : Cond.selects "TroubleMemory" ⟨"TroubleMemory", "endCycle", "(LTroubleMemory$Code;Z)V"⟩ ⟨"TroubleMemory", "endCycle", "(LTroubleMemory$Code;Z)V"⟩ ∈ px_TB := px_tbs 10 (by decide +kernel) rfl
theorem wp_11 : Cond.selects "TroubleMemoryModel" ⟨"TroubleMemoryModel", "freshen", "(I)V"⟩ ⟨"TroubleMemoryModel", "freshen", "(I)V"⟩ ∈ px_TB := px_tbs 11 (by decide +kernel) rfl
theorem wp_12 : Cond.selects "TroubleMemoryModel" ⟨"TroubleMemoryModel", "set", "(IIZ)V"⟩ ⟨"TroubleMemoryModel", "set", "(IIZ)V"⟩ ∈ px_TB := px_tbs 12 (by decide +kernel) rfl
theorem wp_13 : Cond.selects "TroubleMemoryModel" ⟨"TroubleMemoryModel", "keep", "(I)V"⟩ ⟨"TroubleMemoryModel", "keep", "(I)V"⟩ ∈ px_TB := px_tbs 13 (by decide +kernel) rfl
theorem wp_14 : Cond.selects "TroubleMemoryModel" ⟨"TroubleMemoryModel", "is", "(II)Z"⟩ ⟨"TroubleMemoryModel", "is", "(II)Z"⟩ ∈ px_TB := px_tbs 14 (by decide +kernel) rfl
theorem wp_15 : Cond.selects "TroubleMemoryModel" ⟨"TroubleMemoryModel", "none", "(I)Z"⟩ ⟨"TroubleMemoryModel", "none", "(I)Z"⟩ ∈ px_TB := px_tbs 15 (by decide +kernel) rfl
theorem wp_16 : Cond.selects "TroubleMemoryModel" ⟨"TroubleMemoryModel", "statusOf", "(I)I"⟩ ⟨"TroubleMemoryModel", "statusOf", "(I)I"⟩ ∈ px_TB := px_tbs 16 (by decide +kernel) rfl
theorem wp_17 : Cond.selects "TroubleMemoryModel" ⟨"TroubleMemoryModel", "fails", "(I)V"⟩ ⟨"TroubleMemoryModel", "fails", "(I)V"⟩ ∈ px_TB := px_tbs 17 (by decide +kernel) rfl
theorem wp_18 : Cond.selects "TroubleMemoryModel" ⟨"TroubleMemoryModel", "hidden", "(I)Z"⟩ ⟨"TroubleMemoryModel", "hidden", "(I)Z"⟩ ∈ px_TB := px_tbs 18 (by decide +kernel) rfl
theorem wp_19 : Cond.selects "TroubleMemoryModel" ⟨"TroubleMemoryModel", "store", "(I)V"⟩ ⟨"TroubleMemoryModel", "store", "(I)V"⟩ ∈ px_TB := px_tbs 19 (by decide +kernel) rfl
theorem wp_20 : Cond.selects "TroubleMemoryModel" ⟨"TroubleMemoryModel", "shoot", "(II)V"⟩ ⟨"TroubleMemoryModel", "shoot", "(II)V"⟩ ∈ px_TB := px_tbs 20 (by decide +kernel) rfl
theorem wp_21 : Cond.selects "TroubleMemoryModel" ⟨"TroubleMemoryModel", "many", "(I)I"⟩ ⟨"TroubleMemoryModel", "many", "(I)I"⟩ ∈ px_TB := px_tbs 21 (by decide +kernel) rfl
theorem wp_22 : Cond.selects "TroubleMemoryModel" ⟨"TroubleMemoryModel", "entries", "()I"⟩ ⟨"TroubleMemoryModel", "entries", "()I"⟩ ∈ px_TB := px_tbs 22 (by decide +kernel) rfl
theorem wp_23 : Cond.selects "TroubleMemoryModel" ⟨"TroubleMemoryModel", "goes", "(I)I"⟩ ⟨"TroubleMemoryModel", "goes", "(I)I"⟩ ∈ px_TB := px_tbs 23 (by decide +kernel) rfl
theorem px_NW_ok : ∀ w ∈ px_NW, px_nwk w = true := by decide +kernel
theorem px_in_TM : ∀ w ∈ u_ws R_TM F_TM 6, w ∈ px_TB := by
  intro w hw
  obtain ⟨k, hk, rfl⟩ := List.mem_map.mp hw
  have hk := List.mem_range.mp hk
  match k, hk with
  | 0, _ => exact w_82
  | 1, _ => exact w_84
  | 2, _ => exact w_86
  | 3, _ => exact w_88
  | 4, _ => exact w_90
  | 5, _ => exact w_92
  | n + 6, h => exact absurd h (by omega)
theorem px_in_Mem : ∀ w ∈ u_ws R_Mem F_Mem 3, w ∈ px_TB := by
  intro w hw
  obtain ⟨k, hk, rfl⟩ := List.mem_map.mp hw
  have hk := List.mem_range.mp hk
  match k, hk with
  | 0, _ => exact w_69
  | 1, _ => exact w_71
  | 2, _ => exact w_73
  | n + 3, h => exact absurd h (by omega)
theorem px_in_Cd : ∀ w ∈ u_ws R_Cd F_Cd 9, w ∈ px_TB := by
  intro w hw
  obtain ⟨k, hk, rfl⟩ := List.mem_map.mp hw
  have hk := List.mem_range.mp hk
  match k, hk with
  | 0, _ => exact w_150
  | 1, _ => exact w_152
  | 2, _ => exact w_154
  | 3, _ => exact w_156
  | 4, _ => exact w_158
  | 5, _ => exact w_160
  | 6, _ => exact w_162
  | 7, _ => exact w_164
  | 8, _ => exact w_166
  | n + 9, h => exact absurd h (by omega)
theorem px_in_Sg : ∀ w ∈ u_ws R_Sg F_Sg 4, w ∈ px_TB := by
  intro w hw
  obtain ⟨k, hk, rfl⟩ := List.mem_map.mp hw
  have hk := List.mem_range.mp hk
  match k, hk with
  | 0, _ => exact w_121
  | 1, _ => exact w_123
  | 2, _ => exact w_125
  | 3, _ => exact w_127
  | n + 4, h => exact absurd h (by omega)
theorem px_in_En : ∀ w ∈ u_ws R_En F_En 4, w ∈ px_TB := by
  intro w hw
  obtain ⟨k, hk, rfl⟩ := List.mem_map.mp hw
  have hk := List.mem_range.mp hk
  match k, hk with
  | 0, _ => exact w_363
  | 1, _ => exact w_365
  | 2, _ => exact w_367
  | 3, _ => exact w_369
  | n + 4, h => exact absurd h (by omega)
theorem px_in_Sn : ∀ w ∈ u_ws R_Sn F_Sn 4, w ∈ px_TB := by
  intro w hw
  obtain ⟨k, hk, rfl⟩ := List.mem_map.mp hw
  have hk := List.mem_range.mp hk
  match k, hk with
  | 0, _ => exact w_301
  | 1, _ => exact w_303
  | 2, _ => exact w_305
  | 3, _ => exact w_307
  | n + 4, h => exact absurd h (by omega)
theorem px_in_AL : ∀ w ∈ u_ws R_AL F_AL 3, w ∈ px_TB := by
  intro w hw
  obtain ⟨k, hk, rfl⟩ := List.mem_map.mp hw
  have hk := List.mem_range.mp hk
  match k, hk with
  | 0, _ => exact w_45
  | 1, _ => exact w_47
  | 2, _ => exact w_49
  | n + 3, h => exact absurd h (by omega)
theorem px_in_Rf : ∀ w ∈ u_ws R_Rf F_Rf 26, w ∈ px_TB := by
  intro w hw
  obtain ⟨k, hk, rfl⟩ := List.mem_map.mp hw
  have hk := List.mem_range.mp hk
  match k, hk with
  | 0, _ => exact w_516
  | 1, _ => exact w_518
  | 2, _ => exact w_520
  | 3, _ => exact w_522
  | 4, _ => exact w_524
  | 5, _ => exact w_526
  | 6, _ => exact w_528
  | 7, _ => exact w_530
  | 8, _ => exact w_532
  | 9, _ => exact w_534
  | 10, _ => exact w_536
  | 11, _ => exact w_538
  | 12, _ => exact w_540
  | 13, _ => exact w_542
  | 14, _ => exact w_544
  | 15, _ => exact w_546
  | 16, _ => exact w_548
  | 17, _ => exact w_550
  | 18, _ => exact w_552
  | 19, _ => exact w_554
  | 20, _ => exact w_556
  | 21, _ => exact w_558
  | 22, _ => exact w_560
  | 23, _ => exact w_562
  | 24, _ => exact w_564
  | 25, _ => exact w_566
  | n + 26, h => exact absurd h (by omega)
theorem px_clok {ci N : Nat} {K : String} {T : u_T} (h : px_cl[ci]? = some (K, T, N)) : (∀ w ∈ u_ws K T N, w ∈ px_TB) ∧ (∀ k, k < N → parseFieldDescriptor (T k).2.2.1 = some (px_ty ci k)) ∧ (∀ a, a < N → ∀ b, b < N → a ≠ b → (T a).2.1 ≠ (T b).2.1) := by
  match ci, h with
  | 0, h => cases h; exact ⟨px_in_TM, t_TM_ok, n_TM⟩
  | 1, h => cases h; exact ⟨px_in_Mem, t_Mem_ok, n_Mem⟩
  | 2, h => cases h; exact ⟨px_in_Cd, t_Cd_ok, n_Cd⟩
  | 3, h => cases h; exact ⟨px_in_Sg, t_Sg_ok, n_Sg⟩
  | 4, h => cases h; exact ⟨px_in_En, t_En_ok, n_En⟩
  | 5, h => cases h; exact ⟨px_in_Sn, t_Sn_ok, n_Sn⟩
  | 6, h => cases h; exact ⟨px_in_AL, t_AL_ok, n_AL⟩
  | 7, h => cases h; exact ⟨px_in_Rf, t_Rf_ok, n_Rf⟩
  | n + 8, h => simp [px_cl] at h
