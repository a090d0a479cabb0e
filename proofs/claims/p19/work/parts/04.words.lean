/-! each word of the tables that outlives a call -/
theorem hw0 : (Jvm.Cond.initialized "RoundColumnsLaw") ∈ gw := gw_t1 (i := 0) rfl rfl
theorem hw1 : (Jvm.Cond.initialized "RoundColumns") ∈ gw := gw_t1 (i := 1) rfl rfl
theorem hw2 : (Jvm.Cond.initialized "RoundColumns$Town") ∈ gw := gw_t1 (i := 2) rfl rfl
theorem hw3 : (Jvm.Cond.initialized "java/util/Arrays") ∈ gw := gw_t1 (i := 3) rfl rfl
theorem hw4 : (Jvm.Cond.initialized "RoundColumns$Mixtures") ∈ gw := gw_t1 (i := 4) rfl rfl
theorem hw5 : (Jvm.Cond.initialized "RoundColumns$FractionRow") ∈ gw := gw_t1 (i := 5) rfl rfl
theorem hw6 : (Jvm.Cond.initialized "RoundColumns$Tableau") ∈ gw := gw_t1 (i := 6) rfl rfl
theorem hw7 : (Jvm.Cond.initialized "RoundColumns$Rounds") ∈ gw := gw_t1 (i := 7) rfl rfl
theorem hw8 : (Jvm.Cond.initialized "RoundColumnsModel") ∈ gw := gw_t1 (i := 8) rfl rfl
theorem hw9 : (Jvm.Cond.initialized "java/lang/Integer") ∈ gw := gw_t1 (i := 9) rfl rfl
theorem hw10 : (Jvm.Cond.initialized "java/lang/System") ∈ gw := gw_t1 (i := 10) rfl rfl
theorem hw11 : (Jvm.Cond.initialized "java/lang/Throwable") ∈ gw := gw_t1 (i := 11) rfl rfl
theorem hw12 : (Jvm.Cond.initialized "java/lang/Exception") ∈ gw := gw_t1 (i := 12) rfl rfl
theorem hw13 : (Jvm.Cond.initialized "java/lang/RuntimeException") ∈ gw := gw_t1 (i := 13) rfl rfl
theorem hw14 : (Jvm.Cond.initialized "java/lang/IllegalStateException") ∈ gw := gw_t1 (i := 14) rfl rfl
theorem hw15 : (Jvm.Cond.initialized "java/lang/Math") ∈ gw := gw_t1 (i := 15) rfl rfl
theorem hw16 : (Jvm.Cond.classLink "RoundColumnsLaw" (8 : Nat) "RoundColumns") ∈ gw := gw_t1 (i := 16) rfl rfl
theorem hw17 : (Jvm.Cond.instantiable "RoundColumns" (6 : Nat)) ∈ gw := gw_t1 (i := 17) rfl rfl
theorem hw18 : (Jvm.Cond.methodLink "RoundColumnsLaw" (15 : Nat) ({ cls := "RoundColumns", name := "<init>", desc := "()V" } : Jvm.MethodName)) ∈ gw := gw_t1 (i := 18) rfl rfl
theorem hw19 : (Jvm.Cond.instanceMethod ({ cls := "RoundColumns", name := "<init>", desc := "()V" } : Jvm.MethodName)) ∈ gw := gw_t1 (i := 19) rfl rfl
theorem hw20 : (Jvm.Cond.code ({ cls := "RoundColumns", name := "<init>", desc := "()V" } : Jvm.MethodName) prog_1_method_1_code (1 : Nat) (Option.none : Option Jvm.ClassFile.FieldType)) ∈ gw := gw_t1 (i := 20) rfl rfl
theorem hw21 : (Jvm.Cond.methodLink "RoundColumns" (3 : Nat) ({ cls := "java/lang/Object", name := "<init>", desc := "()V" } : Jvm.MethodName)) ∈ gw := gw_t1 (i := 21) rfl rfl
theorem hw22 : (Jvm.Cond.instanceMethod ({ cls := "java/lang/Object", name := "<init>", desc := "()V" } : Jvm.MethodName)) ∈ gw := gw_t1 (i := 22) rfl rfl
theorem hw23 : (Jvm.Cond.code ({ cls := "java/lang/Object", name := "<init>", desc := "()V" } : Jvm.MethodName) object_method_1_code (1 : Nat) (Option.none : Option Jvm.ClassFile.FieldType)) ∈ gw := gw_t1 (i := 23) rfl rfl
theorem hw24 : (Jvm.Cond.classLink "RoundColumns" (9 : Nat) "RoundColumns$Town") ∈ gw := gw_t1 (i := 24) rfl rfl
theorem hw25 : (Jvm.Cond.instantiable "RoundColumns$Town" (10 : Nat)) ∈ gw := gw_t1 (i := 25) rfl rfl
theorem hw26 : (Jvm.Cond.methodLink "RoundColumns" (11 : Nat) ({ cls := "RoundColumns$Town", name := "<init>", desc := "()V" } : Jvm.MethodName)) ∈ gw := gw_t1 (i := 26) rfl rfl
theorem hw27 : (Jvm.Cond.instanceMethod ({ cls := "RoundColumns$Town", name := "<init>", desc := "()V" } : Jvm.MethodName)) ∈ gw := gw_t1 (i := 27) rfl rfl
theorem hw28 : (Jvm.Cond.code ({ cls := "RoundColumns$Town", name := "<init>", desc := "()V" } : Jvm.MethodName) prog_6_method_1_code (2 : Nat) (Option.none : Option Jvm.ClassFile.FieldType)) ∈ gw := gw_t1 (i := 28) rfl rfl
theorem hw29 : (Jvm.Cond.methodLink "RoundColumns$Town" (3 : Nat) ({ cls := "java/lang/Object", name := "<init>", desc := "()V" } : Jvm.MethodName)) ∈ gw := gw_t1 (i := 29) rfl rfl
theorem hw30 : (Jvm.Cond.classLink "RoundColumns$Town" (19 : Nat) "[[I") ∈ gw := gw_t1 (i := 30) rfl rfl
theorem hw32 : (Jvm.Cond.classLink "RoundColumns$Town" (24 : Nat) "[[J") ∈ gw := gw_t1 (i := 32) rfl rfl
theorem hw34 : (Jvm.Cond.methodLink "RoundColumns$Town" (35 : Nat) ({ cls := "java/util/Arrays", name := "fill", desc := "([II)V" } : Jvm.MethodName)) ∈ gw := gw_t1 (i := 34) rfl rfl
theorem hw35 : (Jvm.Cond.static ({ cls := "java/util/Arrays", name := "fill", desc := "([II)V" } : Jvm.MethodName)) ∈ gw := gw_t1 (i := 35) rfl rfl
theorem hw36 : (Jvm.Cond.code ({ cls := "java/util/Arrays", name := "fill", desc := "([II)V" } : Jvm.MethodName) prog_17_method_103_code (4 : Nat) (Option.none : Option Jvm.ClassFile.FieldType)) ∈ gw := gw_t1 (i := 36) rfl rfl
theorem hw37 : (Jvm.Cond.fieldLink "RoundColumns$Town" (41 : Nat) "RoundColumns$Town" "bins" "I") ∈ gw := gw_t1 (i := 37) rfl rfl
theorem hw38 : (Jvm.Cond.fieldLink "RoundColumns" (48 : Nat) "RoundColumns$Town" "bins" "I") ∈ gw := gw_t1 (i := 38) rfl rfl
theorem hw39 : (Jvm.Cond.fieldLink "RoundColumns$Rounds" (42 : Nat) "RoundColumns$Town" "bins" "I") ∈ gw := gw_t1 (i := 39) rfl rfl
theorem hw40 : (Jvm.Cond.fieldLink "RoundColumns$Rounds" (49 : Nat) "RoundColumns$Town" "load" "J") ∈ gw := gw_t1 (i := 40) rfl rfl
theorem hw41 : (Jvm.Cond.fieldLink "RoundColumns" (78 : Nat) "RoundColumns$Town" "load" "J") ∈ gw := gw_t1 (i := 41) rfl rfl
theorem hw42 : (Jvm.Cond.fieldLink "RoundColumns$Town" (54 : Nat) "RoundColumns$Town" "load" "J") ∈ gw := gw_t1 (i := 42) rfl rfl
theorem hw43 : (Jvm.Cond.fieldLink "RoundColumns" (82 : Nat) "RoundColumns$Town" "seconds" "I") ∈ gw := gw_t1 (i := 43) rfl rfl
theorem hw44 : (Jvm.Cond.fieldLink "RoundColumns$Rounds" (104 : Nat) "RoundColumns$Town" "seconds" "I") ∈ gw := gw_t1 (i := 44) rfl rfl
theorem hw45 : (Jvm.Cond.fieldLink "RoundColumns$Town" (58 : Nat) "RoundColumns$Town" "seconds" "I") ∈ gw := gw_t1 (i := 45) rfl rfl
theorem hw46 : (Jvm.Cond.fieldLink "RoundColumns$Rounds" (54 : Nat) "RoundColumns$Town" "vehicles" "I") ∈ gw := gw_t1 (i := 46) rfl rfl
theorem hw47 : (Jvm.Cond.fieldLink "RoundColumns" (85 : Nat) "RoundColumns$Town" "vehicles" "I") ∈ gw := gw_t1 (i := 47) rfl rfl
theorem hw48 : (Jvm.Cond.fieldLink "RoundColumns$Town" (9 : Nat) "RoundColumns$Town" "kilograms" "[J") ∈ gw := gw_t1 (i := 48) rfl rfl
theorem hw49 : (Jvm.Cond.fieldLink "RoundColumns$Rounds" (85 : Nat) "RoundColumns$Town" "kilograms" "[J") ∈ gw := gw_t1 (i := 49) rfl rfl
theorem hw50 : (Jvm.Cond.fieldLink "RoundColumns$Town" (15 : Nat) "RoundColumns$Town" "binSeconds" "[I") ∈ gw := gw_t1 (i := 50) rfl rfl
theorem hw51 : (Jvm.Cond.fieldLink "RoundColumns$Rounds" (101 : Nat) "RoundColumns$Town" "binSeconds" "[I") ∈ gw := gw_t1 (i := 51) rfl rfl
theorem hw52 : (Jvm.Cond.fieldLink "RoundColumns$Town" (21 : Nat) "RoundColumns$Town" "waySeconds" "[[I") ∈ gw := gw_t1 (i := 52) rfl rfl
theorem hw53 : (Jvm.Cond.fieldLink "RoundColumns" (64 : Nat) "RoundColumns$Town" "waySeconds" "[[I") ∈ gw := gw_t1 (i := 53) rfl rfl
theorem hw54 : (Jvm.Cond.fieldLink "RoundColumns$Rounds" (97 : Nat) "RoundColumns$Town" "waySeconds" "[[I") ∈ gw := gw_t1 (i := 54) rfl rfl
theorem hw55 : (Jvm.Cond.fieldLink "RoundColumns$Town" (26 : Nat) "RoundColumns$Town" "wayCost" "[[J") ∈ gw := gw_t1 (i := 55) rfl rfl
theorem hw56 : (Jvm.Cond.fieldLink "RoundColumns" (68 : Nat) "RoundColumns$Town" "wayCost" "[[J") ∈ gw := gw_t1 (i := 56) rfl rfl
theorem hw57 : (Jvm.Cond.fieldLink "RoundColumns$Rounds" (107 : Nat) "RoundColumns$Town" "wayCost" "[[J") ∈ gw := gw_t1 (i := 57) rfl rfl
theorem hw58 : (Jvm.Cond.fieldLink "RoundColumns$Town" (29 : Nat) "RoundColumns$Town" "together" "[I") ∈ gw := gw_t1 (i := 58) rfl rfl
theorem hw59 : (Jvm.Cond.fieldLink "RoundColumns$Town" (32 : Nat) "RoundColumns$Town" "apart" "[I") ∈ gw := gw_t1 (i := 59) rfl rfl
theorem hw60 : (Jvm.Cond.lays "RoundColumns$Town" "RoundColumns$Town" "bins" "I") ∈ gw := gw_t1 (i := 60) rfl rfl
theorem hw61 : (Jvm.Cond.soleField "RoundColumns$Town" "bins") ∈ gw := gw_t1 (i := 61) rfl rfl
theorem hw62 : (Jvm.Cond.lays "RoundColumns$Town" "RoundColumns$Town" "load" "J") ∈ gw := gw_t1 (i := 62) rfl rfl
theorem hw63 : (Jvm.Cond.soleField "RoundColumns$Town" "load") ∈ gw := gw_t1 (i := 63) rfl rfl
theorem hw64 : (Jvm.Cond.lays "RoundColumns$Town" "RoundColumns$Town" "seconds" "I") ∈ gw := gw_t1 (i := 64) rfl rfl
theorem hw65 : (Jvm.Cond.soleField "RoundColumns$Town" "seconds") ∈ gw := gw_t1 (i := 65) rfl rfl
theorem hw66 : (Jvm.Cond.lays "RoundColumns$Town" "RoundColumns$Town" "vehicles" "I") ∈ gw := gw_t1 (i := 66) rfl rfl
theorem hw67 : (Jvm.Cond.soleField "RoundColumns$Town" "vehicles") ∈ gw := gw_t1 (i := 67) rfl rfl
theorem hw68 : (Jvm.Cond.laysFinal "RoundColumns$Town" "RoundColumns$Town" "kilograms" "[J") ∈ gw := gw_t1 (i := 68) rfl rfl
theorem hw69 : (Jvm.Cond.soleField "RoundColumns$Town" "kilograms") ∈ gw := gw_t1 (i := 69) rfl rfl
theorem hw70 : (Jvm.Cond.laysFinal "RoundColumns$Town" "RoundColumns$Town" "binSeconds" "[I") ∈ gw := gw_t1 (i := 70) rfl rfl
theorem hw71 : (Jvm.Cond.soleField "RoundColumns$Town" "binSeconds") ∈ gw := gw_t1 (i := 71) rfl rfl
theorem hw72 : (Jvm.Cond.laysFinal "RoundColumns$Town" "RoundColumns$Town" "waySeconds" "[[I") ∈ gw := gw_t1 (i := 72) rfl rfl
theorem hw73 : (Jvm.Cond.soleField "RoundColumns$Town" "waySeconds") ∈ gw := gw_t1 (i := 73) rfl rfl
theorem hw74 : (Jvm.Cond.laysFinal "RoundColumns$Town" "RoundColumns$Town" "wayCost" "[[J") ∈ gw := gw_t1 (i := 74) rfl rfl
theorem hw75 : (Jvm.Cond.soleField "RoundColumns$Town" "wayCost") ∈ gw := gw_t1 (i := 75) rfl rfl
theorem hw76 : (Jvm.Cond.laysFinal "RoundColumns$Town" "RoundColumns$Town" "together" "[I") ∈ gw := gw_t1 (i := 76) rfl rfl
theorem hw77 : (Jvm.Cond.soleField "RoundColumns$Town" "together") ∈ gw := gw_t1 (i := 77) rfl rfl
theorem hw78 : (Jvm.Cond.laysFinal "RoundColumns$Town" "RoundColumns$Town" "apart" "[I") ∈ gw := gw_t1 (i := 78) rfl rfl
theorem hw79 : (Jvm.Cond.soleField "RoundColumns$Town" "apart") ∈ gw := gw_t1 (i := 79) rfl rfl
theorem hw80 : (Jvm.Cond.superclass "RoundColumns$Town" "java/lang/Object") ∈ gw := gw_t1 (i := 80) rfl rfl
theorem hw81 : (Jvm.Cond.arrayClass Jvm.ClassFile.FieldType.long) ∈ gw := gw_t1 (i := 81) rfl rfl
theorem hw82 : (Jvm.Cond.arrayClass Jvm.ClassFile.FieldType.int) ∈ gw := gw_t1 (i := 82) rfl rfl
theorem hw83 : (Jvm.Cond.classLink "RoundColumns" (16 : Nat) "RoundColumns$Mixtures") ∈ gw := gw_t1 (i := 83) rfl rfl
theorem hw84 : (Jvm.Cond.instantiable "RoundColumns$Mixtures" (6 : Nat)) ∈ gw := gw_t1 (i := 84) rfl rfl
theorem hw86 : (Jvm.Cond.instanceMethod ({ cls := "RoundColumns$Mixtures", name := "<init>", desc := "()V" } : Jvm.MethodName)) ∈ gw := gw_t1 (i := 86) rfl rfl
theorem hw87 : (Jvm.Cond.code ({ cls := "RoundColumns$Mixtures", name := "<init>", desc := "()V" } : Jvm.MethodName) prog_3_method_1_code (1 : Nat) (Option.none : Option Jvm.ClassFile.FieldType)) ∈ gw := gw_t1 (i := 87) rfl rfl
theorem hw88 : (Jvm.Cond.methodLink "RoundColumns$Mixtures" (3 : Nat) ({ cls := "java/lang/Object", name := "<init>", desc := "()V" } : Jvm.MethodName)) ∈ gw := gw_t1 (i := 88) rfl rfl
theorem hw89 : (Jvm.Cond.classLink "RoundColumns$Mixtures" (9 : Nat) "RoundColumns$FractionRow") ∈ gw := gw_t1 (i := 89) rfl rfl
theorem hw90 : (Jvm.Cond.instantiable "RoundColumns$FractionRow" (3 : Nat)) ∈ gw := gw_t1 (i := 90) rfl rfl
theorem hw91 : (Jvm.Cond.methodLink "RoundColumns$Mixtures" (11 : Nat) ({ cls := "RoundColumns$FractionRow", name := "<init>", desc := "(I)V" } : Jvm.MethodName)) ∈ gw := gw_t1 (i := 91) rfl rfl
theorem hw92 : (Jvm.Cond.instanceMethod ({ cls := "RoundColumns$FractionRow", name := "<init>", desc := "(I)V" } : Jvm.MethodName)) ∈ gw := gw_t1 (i := 92) rfl rfl
theorem hw93 : (Jvm.Cond.code ({ cls := "RoundColumns$FractionRow", name := "<init>", desc := "(I)V" } : Jvm.MethodName) prog_2_method_1_code (2 : Nat) (Option.none : Option Jvm.ClassFile.FieldType)) ∈ gw := gw_t1 (i := 93) rfl rfl
theorem hw94 : (Jvm.Cond.methodLink "RoundColumns$FractionRow" (1 : Nat) ({ cls := "java/lang/Object", name := "<init>", desc := "()V" } : Jvm.MethodName)) ∈ gw := gw_t1 (i := 94) rfl rfl
theorem hw95 : (Jvm.Cond.fieldLink "RoundColumns$FractionRow" (7 : Nat) "RoundColumns$FractionRow" "known" "[Z") ∈ gw := gw_t1 (i := 95) rfl rfl
theorem hw96 : (Jvm.Cond.fieldLink "RoundColumns$FractionRow" (13 : Nat) "RoundColumns$FractionRow" "tops" "[J") ∈ gw := gw_t1 (i := 96) rfl rfl
theorem hw97 : (Jvm.Cond.fieldLink "RoundColumns$FractionRow" (17 : Nat) "RoundColumns$FractionRow" "bottoms" "[J") ∈ gw := gw_t1 (i := 97) rfl rfl
theorem hw98 : (Jvm.Cond.laysFinal "RoundColumns$FractionRow" "RoundColumns$FractionRow" "known" "[Z") ∈ gw := gw_t1 (i := 98) rfl rfl
theorem hw99 : (Jvm.Cond.soleField "RoundColumns$FractionRow" "known") ∈ gw := gw_t1 (i := 99) rfl rfl
theorem hw100 : (Jvm.Cond.laysFinal "RoundColumns$FractionRow" "RoundColumns$FractionRow" "tops" "[J") ∈ gw := gw_t1 (i := 100) rfl rfl
theorem hw101 : (Jvm.Cond.soleField "RoundColumns$FractionRow" "tops") ∈ gw := gw_t1 (i := 101) rfl rfl
theorem hw102 : (Jvm.Cond.laysFinal "RoundColumns$FractionRow" "RoundColumns$FractionRow" "bottoms" "[J") ∈ gw := gw_t1 (i := 102) rfl rfl
theorem hw103 : (Jvm.Cond.soleField "RoundColumns$FractionRow" "bottoms") ∈ gw := gw_t1 (i := 103) rfl rfl
theorem hw104 : (Jvm.Cond.superclass "RoundColumns$FractionRow" "java/lang/Object") ∈ gw := gw_t1 (i := 104) rfl rfl
theorem hw105 : (Jvm.Cond.arrayClass Jvm.ClassFile.FieldType.boolean) ∈ gw := gw_t1 (i := 105) rfl rfl
theorem hw106 : (Jvm.Cond.classLink "RoundColumns$Mixtures" (26 : Nat) "RoundColumns$Tableau") ∈ gw := gw_t1 (i := 106) rfl rfl
theorem hw107 : (Jvm.Cond.instantiable "RoundColumns$Tableau" (6 : Nat)) ∈ gw := gw_t1 (i := 107) rfl rfl
theorem hw109 : (Jvm.Cond.instanceMethod ({ cls := "RoundColumns$Tableau", name := "<init>", desc := "()V" } : Jvm.MethodName)) ∈ gw := gw_t1 (i := 109) rfl rfl
theorem hw110 : (Jvm.Cond.code ({ cls := "RoundColumns$Tableau", name := "<init>", desc := "()V" } : Jvm.MethodName) prog_5_method_1_code (1 : Nat) (Option.none : Option Jvm.ClassFile.FieldType)) ∈ gw := gw_t1 (i := 110) rfl rfl
theorem hw111 : (Jvm.Cond.methodLink "RoundColumns$Tableau" (5 : Nat) ({ cls := "java/lang/Object", name := "<init>", desc := "()V" } : Jvm.MethodName)) ∈ gw := gw_t1 (i := 111) rfl rfl
theorem hw112 : (Jvm.Cond.classLink "RoundColumns$Tableau" (26 : Nat) "[[J") ∈ gw := gw_t1 (i := 112) rfl rfl
theorem hw113 : (Jvm.Cond.fieldLink "RoundColumns$Tableau" (11 : Nat) "RoundColumns$Tableau" "variableOfColumn" "[I") ∈ gw := gw_t1 (i := 113) rfl rfl
theorem hw114 : (Jvm.Cond.fieldLink "RoundColumns$Mixtures" (89 : Nat) "RoundColumns$Tableau" "variableOfColumn" "[I") ∈ gw := gw_t1 (i := 114) rfl rfl
theorem hw115 : (Jvm.Cond.fieldLink "RoundColumns$Tableau" (15 : Nat) "RoundColumns$Tableau" "denominator" "J") ∈ gw := gw_t1 (i := 115) rfl rfl
theorem hw116 : (Jvm.Cond.fieldLink "RoundColumns$Mixtures" (104 : Nat) "RoundColumns$Tableau" "denominator" "J") ∈ gw := gw_t1 (i := 116) rfl rfl
theorem hw117 : (Jvm.Cond.fieldLink "RoundColumns$Tableau" (19 : Nat) "RoundColumns$Tableau" "height" "I") ∈ gw := gw_t1 (i := 117) rfl rfl
theorem hw118 : (Jvm.Cond.fieldLink "RoundColumns$Tableau" (23 : Nat) "RoundColumns$Tableau" "width" "I") ∈ gw := gw_t1 (i := 118) rfl rfl
theorem hw119 : (Jvm.Cond.fieldLink "RoundColumns$Tableau" (28 : Nat) "RoundColumns$Tableau" "cells" "[[J") ∈ gw := gw_t1 (i := 119) rfl rfl
theorem hw120 : (Jvm.Cond.fieldLink "RoundColumns$Tableau" (31 : Nat) "RoundColumns$Tableau" "basis" "[I") ∈ gw := gw_t1 (i := 120) rfl rfl
theorem hw121 : (Jvm.Cond.laysFinal "RoundColumns$Tableau" "RoundColumns$Tableau" "variableOfColumn" "[I") ∈ gw := gw_t1 (i := 121) rfl rfl
theorem hw122 : (Jvm.Cond.soleField "RoundColumns$Tableau" "variableOfColumn") ∈ gw := gw_t1 (i := 122) rfl rfl
theorem hw123 : (Jvm.Cond.lays "RoundColumns$Tableau" "RoundColumns$Tableau" "denominator" "J") ∈ gw := gw_t1 (i := 123) rfl rfl
theorem hw124 : (Jvm.Cond.soleField "RoundColumns$Tableau" "denominator") ∈ gw := gw_t1 (i := 124) rfl rfl
theorem hw125 : (Jvm.Cond.lays "RoundColumns$Tableau" "RoundColumns$Tableau" "height" "I") ∈ gw := gw_t1 (i := 125) rfl rfl
theorem hw126 : (Jvm.Cond.soleField "RoundColumns$Tableau" "height") ∈ gw := gw_t1 (i := 126) rfl rfl
theorem hw127 : (Jvm.Cond.lays "RoundColumns$Tableau" "RoundColumns$Tableau" "width" "I") ∈ gw := gw_t1 (i := 127) rfl rfl
theorem hw128 : (Jvm.Cond.soleField "RoundColumns$Tableau" "width") ∈ gw := gw_t1 (i := 128) rfl rfl
theorem hw129 : (Jvm.Cond.laysFinal "RoundColumns$Tableau" "RoundColumns$Tableau" "cells" "[[J") ∈ gw := gw_t1 (i := 129) rfl rfl
theorem hw130 : (Jvm.Cond.soleField "RoundColumns$Tableau" "cells") ∈ gw := gw_t1 (i := 130) rfl rfl
theorem hw131 : (Jvm.Cond.laysFinal "RoundColumns$Tableau" "RoundColumns$Tableau" "basis" "[I") ∈ gw := gw_t1 (i := 131) rfl rfl
theorem hw132 : (Jvm.Cond.soleField "RoundColumns$Tableau" "basis") ∈ gw := gw_t1 (i := 132) rfl rfl
theorem hw133 : (Jvm.Cond.superclass "RoundColumns$Tableau" "java/lang/Object") ∈ gw := gw_t1 (i := 133) rfl rfl
theorem hw134 : (Jvm.Cond.fieldLink "RoundColumns$Mixtures" (56 : Nat) "RoundColumns$Mixtures" "isAny" "Z") ∈ gw := gw_t1 (i := 134) rfl rfl
theorem hw135 : (Jvm.Cond.fieldLink "RoundColumns$Mixtures" (14 : Nat) "RoundColumns$Mixtures" "bound" "LRoundColumns$FractionRow;") ∈ gw := gw_t1 (i := 135) rfl rfl
theorem hw136 : (Jvm.Cond.fieldLink "RoundColumns" (123 : Nat) "RoundColumns$Mixtures" "bound" "LRoundColumns$FractionRow;") ∈ gw := gw_t1 (i := 136) rfl rfl
theorem hw137 : (Jvm.Cond.fieldLink "RoundColumns$Mixtures" (20 : Nat) "RoundColumns$Mixtures" "duals" "LRoundColumns$FractionRow;") ∈ gw := gw_t1 (i := 137) rfl rfl
theorem hw138 : (Jvm.Cond.fieldLink "RoundColumns$Mixtures" (23 : Nat) "RoundColumns$Mixtures" "uses" "LRoundColumns$FractionRow;") ∈ gw := gw_t1 (i := 138) rfl rfl
theorem hw139 : (Jvm.Cond.fieldLink "RoundColumns$Mixtures" (29 : Nat) "RoundColumns$Mixtures" "best" "LRoundColumns$Tableau;") ∈ gw := gw_t1 (i := 139) rfl rfl
theorem hw140 : (Jvm.Cond.fieldLink "RoundColumns$Mixtures" (33 : Nat) "RoundColumns$Mixtures" "trial" "LRoundColumns$Tableau;") ∈ gw := gw_t1 (i := 140) rfl rfl
theorem hw141 : (Jvm.Cond.lays "RoundColumns$Mixtures" "RoundColumns$Mixtures" "isAny" "Z") ∈ gw := gw_t1 (i := 141) rfl rfl
theorem hw142 : (Jvm.Cond.soleField "RoundColumns$Mixtures" "isAny") ∈ gw := gw_t1 (i := 142) rfl rfl
theorem hw143 : (Jvm.Cond.laysFinal "RoundColumns$Mixtures" "RoundColumns$Mixtures" "bound" "LRoundColumns$FractionRow;") ∈ gw := gw_t1 (i := 143) rfl rfl
theorem hw144 : (Jvm.Cond.soleField "RoundColumns$Mixtures" "bound") ∈ gw := gw_t1 (i := 144) rfl rfl
theorem hw145 : (Jvm.Cond.laysFinal "RoundColumns$Mixtures" "RoundColumns$Mixtures" "duals" "LRoundColumns$FractionRow;") ∈ gw := gw_t1 (i := 145) rfl rfl
theorem hw146 : (Jvm.Cond.soleField "RoundColumns$Mixtures" "duals") ∈ gw := gw_t1 (i := 146) rfl rfl
theorem hw147 : (Jvm.Cond.laysFinal "RoundColumns$Mixtures" "RoundColumns$Mixtures" "uses" "LRoundColumns$FractionRow;") ∈ gw := gw_t1 (i := 147) rfl rfl
theorem hw148 : (Jvm.Cond.soleField "RoundColumns$Mixtures" "uses") ∈ gw := gw_t1 (i := 148) rfl rfl
theorem hw149 : (Jvm.Cond.laysFinal "RoundColumns$Mixtures" "RoundColumns$Mixtures" "best" "LRoundColumns$Tableau;") ∈ gw := gw_t1 (i := 149) rfl rfl
theorem hw150 : (Jvm.Cond.soleField "RoundColumns$Mixtures" "best") ∈ gw := gw_t1 (i := 150) rfl rfl
theorem hw151 : (Jvm.Cond.laysFinal "RoundColumns$Mixtures" "RoundColumns$Mixtures" "trial" "LRoundColumns$Tableau;") ∈ gw := gw_t1 (i := 151) rfl rfl
theorem hw152 : (Jvm.Cond.soleField "RoundColumns$Mixtures" "trial") ∈ gw := gw_t1 (i := 152) rfl rfl
theorem hw153 : (Jvm.Cond.superclass "RoundColumns$Mixtures" "java/lang/Object") ∈ gw := gw_t1 (i := 153) rfl rfl
theorem hw154 : (Jvm.Cond.classLink "RoundColumns" (23 : Nat) "RoundColumns$FractionRow") ∈ gw := gw_t1 (i := 154) rfl rfl
theorem hw155 : (Jvm.Cond.methodLink "RoundColumns" (25 : Nat) ({ cls := "RoundColumns$FractionRow", name := "<init>", desc := "(I)V" } : Jvm.MethodName)) ∈ gw := gw_t1 (i := 155) rfl rfl
theorem hw156 : (Jvm.Cond.classLink "RoundColumns" (32 : Nat) "RoundColumns$Rounds") ∈ gw := gw_t1 (i := 156) rfl rfl
theorem hw157 : (Jvm.Cond.instantiable "RoundColumns$Rounds" (14 : Nat)) ∈ gw := gw_t1 (i := 157) rfl rfl
theorem hw158 : (Jvm.Cond.methodLink "RoundColumns" (34 : Nat) ({ cls := "RoundColumns$Rounds", name := "<init>", desc := "(LRoundColumns$Town;)V" } : Jvm.MethodName)) ∈ gw := gw_t1 (i := 158) rfl rfl
theorem hw159 : (Jvm.Cond.instanceMethod ({ cls := "RoundColumns$Rounds", name := "<init>", desc := "(LRoundColumns$Town;)V" } : Jvm.MethodName)) ∈ gw := gw_t1 (i := 159) rfl rfl
theorem hw160 : (Jvm.Cond.code ({ cls := "RoundColumns$Rounds", name := "<init>", desc := "(LRoundColumns$Town;)V" } : Jvm.MethodName) prog_4_method_1_code (2 : Nat) (Option.none : Option Jvm.ClassFile.FieldType)) ∈ gw := gw_t1 (i := 160) rfl rfl
theorem hw161 : (Jvm.Cond.methodLink "RoundColumns$Rounds" (3 : Nat) ({ cls := "java/lang/Object", name := "<init>", desc := "()V" } : Jvm.MethodName)) ∈ gw := gw_t1 (i := 161) rfl rfl
theorem hw162 : (Jvm.Cond.fieldLink "RoundColumns$Rounds" (38 : Nat) "RoundColumns$Rounds" "town" "LRoundColumns$Town;") ∈ gw := gw_t1 (i := 162) rfl rfl
theorem hw163 : (Jvm.Cond.fieldLink "RoundColumns$Tableau" (34 : Nat) "RoundColumns$Rounds" "bins" "I") ∈ gw := gw_t1 (i := 163) rfl rfl
theorem hw164 : (Jvm.Cond.fieldLink "RoundColumns$Rounds" (48 : Nat) "RoundColumns$Rounds" "bins" "I") ∈ gw := gw_t1 (i := 164) rfl rfl
theorem hw165 : (Jvm.Cond.fieldLink "RoundColumns$Mixtures" (39 : Nat) "RoundColumns$Rounds" "bins" "I") ∈ gw := gw_t1 (i := 165) rfl rfl
theorem hw166 : (Jvm.Cond.fieldLink "RoundColumns" (130 : Nat) "RoundColumns$Rounds" "bins" "I") ∈ gw := gw_t1 (i := 166) rfl rfl
theorem hw167 : (Jvm.Cond.fieldLink "RoundColumns$Rounds" (53 : Nat) "RoundColumns$Rounds" "load" "J") ∈ gw := gw_t1 (i := 167) rfl rfl
theorem hw168 : (Jvm.Cond.fieldLink "RoundColumns" (146 : Nat) "RoundColumns$Rounds" "load" "J") ∈ gw := gw_t1 (i := 168) rfl rfl
theorem hw169 : (Jvm.Cond.fieldLink "RoundColumns$Tableau" (39 : Nat) "RoundColumns$Rounds" "vehicles" "I") ∈ gw := gw_t1 (i := 169) rfl rfl
theorem hw170 : (Jvm.Cond.fieldLink "RoundColumns$Rounds" (57 : Nat) "RoundColumns$Rounds" "vehicles" "I") ∈ gw := gw_t1 (i := 170) rfl rfl
theorem hw171 : (Jvm.Cond.fieldLink "RoundColumns" (102 : Nat) "RoundColumns$Rounds" "labelCount" "I") ∈ gw := gw_t1 (i := 171) rfl rfl
theorem hw172 : (Jvm.Cond.fieldLink "RoundColumns$Rounds" (126 : Nat) "RoundColumns$Rounds" "labelCount" "I") ∈ gw := gw_t1 (i := 172) rfl rfl
theorem hw173 : (Jvm.Cond.fieldLink "RoundColumns$Tableau" (46 : Nat) "RoundColumns$Rounds" "columnCount" "I") ∈ gw := gw_t1 (i := 173) rfl rfl
theorem hw174 : (Jvm.Cond.fieldLink "RoundColumns$Rounds" (129 : Nat) "RoundColumns$Rounds" "columnCount" "I") ∈ gw := gw_t1 (i := 174) rfl rfl
theorem hw175 : (Jvm.Cond.fieldLink "RoundColumns" (116 : Nat) "RoundColumns$Rounds" "columnCount" "I") ∈ gw := gw_t1 (i := 175) rfl rfl
theorem hw176 : (Jvm.Cond.fieldLink "RoundColumns$Rounds" (9 : Nat) "RoundColumns$Rounds" "columnSets" "[I") ∈ gw := gw_t1 (i := 176) rfl rfl
theorem hw177 : (Jvm.Cond.fieldLink "RoundColumns$Tableau" (49 : Nat) "RoundColumns$Rounds" "columnSets" "[I") ∈ gw := gw_t1 (i := 177) rfl rfl
theorem hw178 : (Jvm.Cond.fieldLink "RoundColumns" (142 : Nat) "RoundColumns$Rounds" "columnSets" "[I") ∈ gw := gw_t1 (i := 178) rfl rfl
theorem hw179 : (Jvm.Cond.fieldLink "RoundColumns$Rounds" (15 : Nat) "RoundColumns$Rounds" "kilograms" "[J") ∈ gw := gw_t1 (i := 179) rfl rfl
theorem hw180 : (Jvm.Cond.fieldLink "RoundColumns" (138 : Nat) "RoundColumns$Rounds" "kilograms" "[J") ∈ gw := gw_t1 (i := 180) rfl rfl
theorem hw181 : (Jvm.Cond.fieldLink "RoundColumns$Rounds" (19 : Nat) "RoundColumns$Rounds" "rowEnds" "[I") ∈ gw := gw_t1 (i := 181) rfl rfl
theorem hw182 : (Jvm.Cond.fieldLink "RoundColumns$Rounds" (22 : Nat) "RoundColumns$Rounds" "roundEnds" "[I") ∈ gw := gw_t1 (i := 182) rfl rfl
theorem hw183 : (Jvm.Cond.fieldLink "RoundColumns$Rounds" (25 : Nat) "RoundColumns$Rounds" "barred" "[Z") ∈ gw := gw_t1 (i := 183) rfl rfl
theorem hw184 : (Jvm.Cond.fieldLink "RoundColumns$Tableau" (52 : Nat) "RoundColumns$Rounds" "barred" "[Z") ∈ gw := gw_t1 (i := 184) rfl rfl
theorem hw185 : (Jvm.Cond.fieldLink "RoundColumns$Rounds" (29 : Nat) "RoundColumns$Rounds" "cost" "[J") ∈ gw := gw_t1 (i := 185) rfl rfl
theorem hw186 : (Jvm.Cond.fieldLink "RoundColumns$Tableau" (56 : Nat) "RoundColumns$Rounds" "cost" "[J") ∈ gw := gw_t1 (i := 186) rfl rfl
theorem hw187 : (Jvm.Cond.fieldLink "RoundColumns" (178 : Nat) "RoundColumns$Rounds" "cost" "[J") ∈ gw := gw_t1 (i := 187) rfl rfl
theorem hw188 : (Jvm.Cond.fieldLink "RoundColumns$Rounds" (32 : Nat) "RoundColumns$Rounds" "order" "[I") ∈ gw := gw_t1 (i := 188) rfl rfl
theorem hw189 : (Jvm.Cond.fieldLink "RoundColumns" (171 : Nat) "RoundColumns$Rounds" "order" "[I") ∈ gw := gw_t1 (i := 189) rfl rfl
theorem hw190 : (Jvm.Cond.fieldLink "RoundColumns$Rounds" (35 : Nat) "RoundColumns$Rounds" "row" "[I") ∈ gw := gw_t1 (i := 190) rfl rfl
theorem hw191 : (Jvm.Cond.laysFinal "RoundColumns$Rounds" "RoundColumns$Rounds" "town" "LRoundColumns$Town;") ∈ gw := gw_t1 (i := 191) rfl rfl
theorem hw192 : (Jvm.Cond.soleField "RoundColumns$Rounds" "town") ∈ gw := gw_t1 (i := 192) rfl rfl
theorem hw193 : (Jvm.Cond.lays "RoundColumns$Rounds" "RoundColumns$Rounds" "bins" "I") ∈ gw := gw_t1 (i := 193) rfl rfl
theorem hw194 : (Jvm.Cond.soleField "RoundColumns$Rounds" "bins") ∈ gw := gw_t1 (i := 194) rfl rfl
theorem hw195 : (Jvm.Cond.lays "RoundColumns$Rounds" "RoundColumns$Rounds" "load" "J") ∈ gw := gw_t1 (i := 195) rfl rfl
theorem hw196 : (Jvm.Cond.soleField "RoundColumns$Rounds" "load") ∈ gw := gw_t1 (i := 196) rfl rfl
theorem hw197 : (Jvm.Cond.lays "RoundColumns$Rounds" "RoundColumns$Rounds" "vehicles" "I") ∈ gw := gw_t1 (i := 197) rfl rfl
theorem hw198 : (Jvm.Cond.soleField "RoundColumns$Rounds" "vehicles") ∈ gw := gw_t1 (i := 198) rfl rfl
theorem hw199 : (Jvm.Cond.lays "RoundColumns$Rounds" "RoundColumns$Rounds" "labelCount" "I") ∈ gw := gw_t1 (i := 199) rfl rfl
theorem hw200 : (Jvm.Cond.soleField "RoundColumns$Rounds" "labelCount") ∈ gw := gw_t1 (i := 200) rfl rfl
theorem hw201 : (Jvm.Cond.lays "RoundColumns$Rounds" "RoundColumns$Rounds" "columnCount" "I") ∈ gw := gw_t1 (i := 201) rfl rfl
theorem hw202 : (Jvm.Cond.soleField "RoundColumns$Rounds" "columnCount") ∈ gw := gw_t1 (i := 202) rfl rfl
theorem hw203 : (Jvm.Cond.laysFinal "RoundColumns$Rounds" "RoundColumns$Rounds" "columnSets" "[I") ∈ gw := gw_t1 (i := 203) rfl rfl
theorem hw204 : (Jvm.Cond.soleField "RoundColumns$Rounds" "columnSets") ∈ gw := gw_t1 (i := 204) rfl rfl
theorem hw205 : (Jvm.Cond.laysFinal "RoundColumns$Rounds" "RoundColumns$Rounds" "kilograms" "[J") ∈ gw := gw_t1 (i := 205) rfl rfl
theorem hw206 : (Jvm.Cond.soleField "RoundColumns$Rounds" "kilograms") ∈ gw := gw_t1 (i := 206) rfl rfl
theorem hw207 : (Jvm.Cond.laysFinal "RoundColumns$Rounds" "RoundColumns$Rounds" "rowEnds" "[I") ∈ gw := gw_t1 (i := 207) rfl rfl
theorem hw208 : (Jvm.Cond.soleField "RoundColumns$Rounds" "rowEnds") ∈ gw := gw_t1 (i := 208) rfl rfl
theorem hw209 : (Jvm.Cond.laysFinal "RoundColumns$Rounds" "RoundColumns$Rounds" "roundEnds" "[I") ∈ gw := gw_t1 (i := 209) rfl rfl
theorem hw210 : (Jvm.Cond.soleField "RoundColumns$Rounds" "roundEnds") ∈ gw := gw_t1 (i := 210) rfl rfl
theorem hw211 : (Jvm.Cond.laysFinal "RoundColumns$Rounds" "RoundColumns$Rounds" "barred" "[Z") ∈ gw := gw_t1 (i := 211) rfl rfl
theorem hw212 : (Jvm.Cond.soleField "RoundColumns$Rounds" "barred") ∈ gw := gw_t1 (i := 212) rfl rfl
theorem hw213 : (Jvm.Cond.laysFinal "RoundColumns$Rounds" "RoundColumns$Rounds" "cost" "[J") ∈ gw := gw_t1 (i := 213) rfl rfl
theorem hw214 : (Jvm.Cond.soleField "RoundColumns$Rounds" "cost") ∈ gw := gw_t1 (i := 214) rfl rfl
theorem hw215 : (Jvm.Cond.laysFinal "RoundColumns$Rounds" "RoundColumns$Rounds" "order" "[I") ∈ gw := gw_t1 (i := 215) rfl rfl
theorem hw216 : (Jvm.Cond.soleField "RoundColumns$Rounds" "order") ∈ gw := gw_t1 (i := 216) rfl rfl
theorem hw217 : (Jvm.Cond.laysFinal "RoundColumns$Rounds" "RoundColumns$Rounds" "row" "[I") ∈ gw := gw_t1 (i := 217) rfl rfl
theorem hw218 : (Jvm.Cond.soleField "RoundColumns$Rounds" "row") ∈ gw := gw_t1 (i := 218) rfl rfl
theorem hw219 : (Jvm.Cond.superclass "RoundColumns$Rounds" "java/lang/Object") ∈ gw := gw_t1 (i := 219) rfl rfl
theorem hw220 : (Jvm.Cond.fieldLink "RoundColumns" (12 : Nat) "RoundColumns" "town" "LRoundColumns$Town;") ∈ gw := gw_t1 (i := 220) rfl rfl
theorem hw221 : (Jvm.Cond.fieldLink "RoundColumns" (19 : Nat) "RoundColumns" "mixtures" "LRoundColumns$Mixtures;") ∈ gw := gw_t1 (i := 221) rfl rfl
theorem hw222 : (Jvm.Cond.fieldLink "RoundColumns" (28 : Nat) "RoundColumns" "askedShare" "LRoundColumns$FractionRow;") ∈ gw := gw_t1 (i := 222) rfl rfl
theorem hw223 : (Jvm.Cond.fieldLink "RoundColumns" (37 : Nat) "RoundColumns" "found" "LRoundColumns$Rounds;") ∈ gw := gw_t1 (i := 223) rfl rfl
theorem hw224 : (Jvm.Cond.fieldLink "RoundColumns" (41 : Nat) "RoundColumns" "spare" "LRoundColumns$Rounds;") ∈ gw := gw_t1 (i := 224) rfl rfl
theorem hw225 : (Jvm.Cond.fieldLink "RoundColumns" (44 : Nat) "RoundColumns" "wasRun" "Z") ∈ gw := gw_t1 (i := 225) rfl rfl
theorem hw226 : (Jvm.Cond.laysFinal "RoundColumns" "RoundColumns" "town" "LRoundColumns$Town;") ∈ gw := gw_t1 (i := 226) rfl rfl
theorem hw227 : (Jvm.Cond.soleField "RoundColumns" "town") ∈ gw := gw_t1 (i := 227) rfl rfl
theorem hw228 : (Jvm.Cond.laysFinal "RoundColumns" "RoundColumns" "mixtures" "LRoundColumns$Mixtures;") ∈ gw := gw_t1 (i := 228) rfl rfl
theorem hw229 : (Jvm.Cond.soleField "RoundColumns" "mixtures") ∈ gw := gw_t1 (i := 229) rfl rfl
theorem hw230 : (Jvm.Cond.laysFinal "RoundColumns" "RoundColumns" "askedShare" "LRoundColumns$FractionRow;") ∈ gw := gw_t1 (i := 230) rfl rfl
theorem hw231 : (Jvm.Cond.soleField "RoundColumns" "askedShare") ∈ gw := gw_t1 (i := 231) rfl rfl
theorem hw232 : (Jvm.Cond.lays "RoundColumns" "RoundColumns" "found" "LRoundColumns$Rounds;") ∈ gw := gw_t1 (i := 232) rfl rfl
theorem hw233 : (Jvm.Cond.soleField "RoundColumns" "found") ∈ gw := gw_t1 (i := 233) rfl rfl
theorem hw234 : (Jvm.Cond.lays "RoundColumns" "RoundColumns" "spare" "LRoundColumns$Rounds;") ∈ gw := gw_t1 (i := 234) rfl rfl
theorem hw235 : (Jvm.Cond.soleField "RoundColumns" "spare") ∈ gw := gw_t1 (i := 235) rfl rfl
theorem hw236 : (Jvm.Cond.lays "RoundColumns" "RoundColumns" "wasRun" "Z") ∈ gw := gw_t1 (i := 236) rfl rfl
theorem hw237 : (Jvm.Cond.soleField "RoundColumns" "wasRun") ∈ gw := gw_t1 (i := 237) rfl rfl
theorem hw238 : (Jvm.Cond.superclass "RoundColumns" "java/lang/Object") ∈ gw := gw_t1 (i := 238) rfl rfl
theorem hw239 : (Jvm.Cond.methodLink "RoundColumnsLaw" (21 : Nat) ({ cls := "RoundColumns", name := "bin", desc := "(JI)I" } : Jvm.MethodName)) ∈ gw := gw_t1 (i := 239) rfl rfl
theorem hw240 : (Jvm.Cond.instanceMethod ({ cls := "RoundColumns", name := "bin", desc := "(JI)I" } : Jvm.MethodName)) ∈ gw := gw_t2 (i := 0) rfl rfl
theorem hw241 : (Jvm.Cond.selects "RoundColumns" ({ cls := "RoundColumns", name := "bin", desc := "(JI)I" } : Jvm.MethodName) ({ cls := "RoundColumns", name := "bin", desc := "(JI)I" } : Jvm.MethodName)) ∈ gw := gw_t2 (i := 1) rfl rfl
theorem hw242 : (Jvm.Cond.code ({ cls := "RoundColumns", name := "bin", desc := "(JI)I" } : Jvm.MethodName) prog_1_method_2_code (4 : Nat) (Option.some Jvm.ClassFile.FieldType.int)) ∈ gw := gw_t2 (i := 2) rfl rfl
theorem hw243 : (Jvm.Cond.constantLong "RoundColumns" (52 : Nat) (1000 : Int64)) ∈ gw := gw_t2 (i := 3) rfl rfl
theorem hw244 : (Jvm.Cond.methodLink "RoundColumns" (54 : Nat) ({ cls := "RoundColumns", name := "isWithin", desc := "(JJ)Z" } : Jvm.MethodName)) ∈ gw := gw_t2 (i := 4) rfl rfl
theorem hw245 : (Jvm.Cond.static ({ cls := "RoundColumns", name := "isWithin", desc := "(JJ)Z" } : Jvm.MethodName)) ∈ gw := gw_t2 (i := 5) rfl rfl
theorem hw246 : (Jvm.Cond.code ({ cls := "RoundColumns", name := "isWithin", desc := "(JJ)Z" } : Jvm.MethodName) prog_1_method_20_code (4 : Nat) (Option.some Jvm.ClassFile.FieldType.boolean)) ∈ gw := gw_t2 (i := 6) rfl rfl
theorem hw247 : (Jvm.Cond.methodLink "RoundColumns" (58 : Nat) ({ cls := "RoundColumns$Town", name := "addBin", desc := "(JI)I" } : Jvm.MethodName)) ∈ gw := gw_t2 (i := 7) rfl rfl
theorem hw248 : (Jvm.Cond.instanceMethod ({ cls := "RoundColumns$Town", name := "addBin", desc := "(JI)I" } : Jvm.MethodName)) ∈ gw := gw_t2 (i := 8) rfl rfl
theorem hw249 : (Jvm.Cond.selects "RoundColumns$Town" ({ cls := "RoundColumns$Town", name := "addBin", desc := "(JI)I" } : Jvm.MethodName) ({ cls := "RoundColumns$Town", name := "addBin", desc := "(JI)I" } : Jvm.MethodName)) ∈ gw := gw_t2 (i := 9) rfl rfl
theorem hw250 : (Jvm.Cond.code ({ cls := "RoundColumns$Town", name := "addBin", desc := "(JI)I" } : Jvm.MethodName) prog_6_method_2_code (5 : Nat) (Option.some Jvm.ClassFile.FieldType.int)) ∈ gw := gw_t2 (i := 10) rfl rfl
theorem hw251 : (Jvm.Cond.methodLink "RoundColumnsLaw" (26 : Nat) ({ cls := "RoundColumns", name := "way", desc := "(IIIJ)Z" } : Jvm.MethodName)) ∈ gw := gw_t2 (i := 11) rfl rfl
theorem hw252 : (Jvm.Cond.instanceMethod ({ cls := "RoundColumns", name := "way", desc := "(IIIJ)Z" } : Jvm.MethodName)) ∈ gw := gw_t2 (i := 12) rfl rfl
theorem hw253 : (Jvm.Cond.selects "RoundColumns" ({ cls := "RoundColumns", name := "way", desc := "(IIIJ)Z" } : Jvm.MethodName) ({ cls := "RoundColumns", name := "way", desc := "(IIIJ)Z" } : Jvm.MethodName)) ∈ gw := gw_t2 (i := 13) rfl rfl
theorem hw254 : (Jvm.Cond.code ({ cls := "RoundColumns", name := "way", desc := "(IIIJ)Z" } : Jvm.MethodName) prog_1_method_3_code (6 : Nat) (Option.some Jvm.ClassFile.FieldType.boolean)) ∈ gw := gw_t2 (i := 14) rfl rfl
theorem hw255 : (Jvm.Cond.constantLong "RoundColumns" (62 : Nat) (2000 : Int64)) ∈ gw := gw_t2 (i := 15) rfl rfl
theorem hw256 : (Jvm.Cond.methodLink "RoundColumnsLaw" (31 : Nat) ({ cls := "RoundColumns", name := "vehicle", desc := "(JII)Z" } : Jvm.MethodName)) ∈ gw := gw_t2 (i := 16) rfl rfl
theorem hw257 : (Jvm.Cond.instanceMethod ({ cls := "RoundColumns", name := "vehicle", desc := "(JII)Z" } : Jvm.MethodName)) ∈ gw := gw_t2 (i := 17) rfl rfl
theorem hw258 : (Jvm.Cond.selects "RoundColumns" ({ cls := "RoundColumns", name := "vehicle", desc := "(JII)Z" } : Jvm.MethodName) ({ cls := "RoundColumns", name := "vehicle", desc := "(JII)Z" } : Jvm.MethodName)) ∈ gw := gw_t2 (i := 18) rfl rfl
theorem hw259 : (Jvm.Cond.code ({ cls := "RoundColumns", name := "vehicle", desc := "(JII)Z" } : Jvm.MethodName) prog_1_method_4_code (5 : Nat) (Option.some Jvm.ClassFile.FieldType.boolean)) ∈ gw := gw_t2 (i := 19) rfl rfl
theorem hw260 : (Jvm.Cond.constantLong "RoundColumns" (72 : Nat) (6000 : Int64)) ∈ gw := gw_t2 (i := 20) rfl rfl
theorem hw261 : (Jvm.Cond.constantLong "RoundColumns" (74 : Nat) (20000 : Int64)) ∈ gw := gw_t2 (i := 21) rfl rfl
theorem hw262 : (Jvm.Cond.constantLong "RoundColumns" (76 : Nat) (6 : Int64)) ∈ gw := gw_t2 (i := 22) rfl rfl
theorem hw263 : (Jvm.Cond.methodLink "RoundColumnsLaw" (36 : Nat) ({ cls := "RoundColumns", name := "branch", desc := "(IIZ)Z" } : Jvm.MethodName)) ∈ gw := gw_t2 (i := 23) rfl rfl
theorem hw264 : (Jvm.Cond.instanceMethod ({ cls := "RoundColumns", name := "branch", desc := "(IIZ)Z" } : Jvm.MethodName)) ∈ gw := gw_t2 (i := 24) rfl rfl
theorem hw265 : (Jvm.Cond.selects "RoundColumns" ({ cls := "RoundColumns", name := "branch", desc := "(IIZ)Z" } : Jvm.MethodName) ({ cls := "RoundColumns", name := "branch", desc := "(IIZ)Z" } : Jvm.MethodName)) ∈ gw := gw_t2 (i := 25) rfl rfl
theorem hw266 : (Jvm.Cond.code ({ cls := "RoundColumns", name := "branch", desc := "(IIZ)Z" } : Jvm.MethodName) prog_1_method_5_code (4 : Nat) (Option.some Jvm.ClassFile.FieldType.boolean)) ∈ gw := gw_t2 (i := 26) rfl rfl
theorem hw267 : (Jvm.Cond.methodLink "RoundColumns" (88 : Nat) ({ cls := "RoundColumns", name := "isIndex", desc := "(II)Z" } : Jvm.MethodName)) ∈ gw := gw_t2 (i := 27) rfl rfl
theorem hw268 : (Jvm.Cond.static ({ cls := "RoundColumns", name := "isIndex", desc := "(II)Z" } : Jvm.MethodName)) ∈ gw := gw_t2 (i := 28) rfl rfl
theorem hw269 : (Jvm.Cond.code ({ cls := "RoundColumns", name := "isIndex", desc := "(II)Z" } : Jvm.MethodName) prog_1_method_21_code (2 : Nat) (Option.some Jvm.ClassFile.FieldType.boolean)) ∈ gw := gw_t2 (i := 29) rfl rfl
theorem hw270 : (Jvm.Cond.methodLink "RoundColumns" (92 : Nat) ({ cls := "RoundColumns$Town", name := "tellPair", desc := "(IIZ)V" } : Jvm.MethodName)) ∈ gw := gw_t2 (i := 30) rfl rfl
theorem hw271 : (Jvm.Cond.instanceMethod ({ cls := "RoundColumns$Town", name := "tellPair", desc := "(IIZ)V" } : Jvm.MethodName)) ∈ gw := gw_t2 (i := 31) rfl rfl
theorem hw272 : (Jvm.Cond.selects "RoundColumns$Town" ({ cls := "RoundColumns$Town", name := "tellPair", desc := "(IIZ)V" } : Jvm.MethodName) ({ cls := "RoundColumns$Town", name := "tellPair", desc := "(IIZ)V" } : Jvm.MethodName)) ∈ gw := gw_t2 (i := 32) rfl rfl
theorem hw273 : (Jvm.Cond.code ({ cls := "RoundColumns$Town", name := "tellPair", desc := "(IIZ)V" } : Jvm.MethodName) prog_6_method_3_code (7 : Nat) (Option.none : Option Jvm.ClassFile.FieldType)) ∈ gw := gw_t2 (i := 33) rfl rfl
theorem hw274 : (Jvm.Cond.methodLink "RoundColumnsLaw" (41 : Nat) ({ cls := "RoundColumns", name := "clear", desc := "()V" } : Jvm.MethodName)) ∈ gw := gw_t2 (i := 34) rfl rfl
theorem hw275 : (Jvm.Cond.instanceMethod ({ cls := "RoundColumns", name := "clear", desc := "()V" } : Jvm.MethodName)) ∈ gw := gw_t2 (i := 35) rfl rfl
theorem hw276 : (Jvm.Cond.selects "RoundColumns" ({ cls := "RoundColumns", name := "clear", desc := "()V" } : Jvm.MethodName) ({ cls := "RoundColumns", name := "clear", desc := "()V" } : Jvm.MethodName)) ∈ gw := gw_t2 (i := 36) rfl rfl
theorem hw277 : (Jvm.Cond.code ({ cls := "RoundColumns", name := "clear", desc := "()V" } : Jvm.MethodName) prog_1_method_6_code (1 : Nat) (Option.none : Option Jvm.ClassFile.FieldType)) ∈ gw := gw_t2 (i := 37) rfl rfl
theorem hw278 : (Jvm.Cond.methodLink "RoundColumns" (96 : Nat) ({ cls := "RoundColumns$Town", name := "forgetPairs", desc := "()V" } : Jvm.MethodName)) ∈ gw := gw_t2 (i := 38) rfl rfl
theorem hw279 : (Jvm.Cond.instanceMethod ({ cls := "RoundColumns$Town", name := "forgetPairs", desc := "()V" } : Jvm.MethodName)) ∈ gw := gw_t2 (i := 39) rfl rfl
theorem hw280 : (Jvm.Cond.selects "RoundColumns$Town" ({ cls := "RoundColumns$Town", name := "forgetPairs", desc := "()V" } : Jvm.MethodName) ({ cls := "RoundColumns$Town", name := "forgetPairs", desc := "()V" } : Jvm.MethodName)) ∈ gw := gw_t2 (i := 40) rfl rfl
theorem hw281 : (Jvm.Cond.code ({ cls := "RoundColumns$Town", name := "forgetPairs", desc := "()V" } : Jvm.MethodName) prog_6_method_4_code (1 : Nat) (Option.none : Option Jvm.ClassFile.FieldType)) ∈ gw := gw_t2 (i := 41) rfl rfl
theorem hw282 : (Jvm.Cond.methodLink "RoundColumnsLaw" (51 : Nat) ({ cls := "RoundColumns", name := "steps", desc := "()I" } : Jvm.MethodName)) ∈ gw := gw_t2 (i := 42) rfl rfl
theorem hw283 : (Jvm.Cond.instanceMethod ({ cls := "RoundColumns", name := "steps", desc := "()I" } : Jvm.MethodName)) ∈ gw := gw_t2 (i := 43) rfl rfl
theorem hw284 : (Jvm.Cond.selects "RoundColumns" ({ cls := "RoundColumns", name := "steps", desc := "()I" } : Jvm.MethodName) ({ cls := "RoundColumns", name := "steps", desc := "()I" } : Jvm.MethodName)) ∈ gw := gw_t2 (i := 44) rfl rfl
theorem hw285 : (Jvm.Cond.code ({ cls := "RoundColumns", name := "steps", desc := "()I" } : Jvm.MethodName) prog_1_method_8_code (1 : Nat) (Option.some Jvm.ClassFile.FieldType.int)) ∈ gw := gw_t2 (i := 45) rfl rfl
theorem hw286 : (Jvm.Cond.methodLink "RoundColumnsLaw" (56 : Nat) ({ cls := "RoundColumns", name := "columns", desc := "()I" } : Jvm.MethodName)) ∈ gw := gw_t2 (i := 46) rfl rfl
theorem hw287 : (Jvm.Cond.instanceMethod ({ cls := "RoundColumns", name := "columns", desc := "()I" } : Jvm.MethodName)) ∈ gw := gw_t2 (i := 47) rfl rfl
theorem hw288 : (Jvm.Cond.selects "RoundColumns" ({ cls := "RoundColumns", name := "columns", desc := "()I" } : Jvm.MethodName) ({ cls := "RoundColumns", name := "columns", desc := "()I" } : Jvm.MethodName)) ∈ gw := gw_t2 (i := 48) rfl rfl
theorem hw289 : (Jvm.Cond.code ({ cls := "RoundColumns", name := "columns", desc := "()I" } : Jvm.MethodName) prog_1_method_9_code (1 : Nat) (Option.some Jvm.ClassFile.FieldType.int)) ∈ gw := gw_t2 (i := 49) rfl rfl
theorem hw290 : (Jvm.Cond.methodLink "RoundColumnsLaw" (60 : Nat) ({ cls := "RoundColumns", name := "column", desc := "(II)I" } : Jvm.MethodName)) ∈ gw := gw_t2 (i := 50) rfl rfl
theorem hw291 : (Jvm.Cond.instanceMethod ({ cls := "RoundColumns", name := "column", desc := "(II)I" } : Jvm.MethodName)) ∈ gw := gw_t2 (i := 51) rfl rfl
theorem hw292 : (Jvm.Cond.selects "RoundColumns" ({ cls := "RoundColumns", name := "column", desc := "(II)I" } : Jvm.MethodName) ({ cls := "RoundColumns", name := "column", desc := "(II)I" } : Jvm.MethodName)) ∈ gw := gw_t2 (i := 52) rfl rfl
theorem hw293 : (Jvm.Cond.code ({ cls := "RoundColumns", name := "column", desc := "(II)I" } : Jvm.MethodName) prog_1_method_10_code (3 : Nat) (Option.some Jvm.ClassFile.FieldType.int)) ∈ gw := gw_t2 (i := 53) rfl rfl
theorem hw294 : (Jvm.Cond.methodLink "RoundColumns" (119 : Nat) ({ cls := "RoundColumns$Rounds", name := "binOfRound", desc := "(II)I" } : Jvm.MethodName)) ∈ gw := gw_t2 (i := 54) rfl rfl
theorem hw295 : (Jvm.Cond.instanceMethod ({ cls := "RoundColumns$Rounds", name := "binOfRound", desc := "(II)I" } : Jvm.MethodName)) ∈ gw := gw_t2 (i := 55) rfl rfl
theorem hw296 : (Jvm.Cond.selects "RoundColumns$Rounds" ({ cls := "RoundColumns$Rounds", name := "binOfRound", desc := "(II)I" } : Jvm.MethodName) ({ cls := "RoundColumns$Rounds", name := "binOfRound", desc := "(II)I" } : Jvm.MethodName)) ∈ gw := gw_t2 (i := 56) rfl rfl
theorem hw297 : (Jvm.Cond.code ({ cls := "RoundColumns$Rounds", name := "binOfRound", desc := "(II)I" } : Jvm.MethodName) prog_4_method_11_code (4 : Nat) (Option.some Jvm.ClassFile.FieldType.int)) ∈ gw := gw_t2 (i := 57) rfl rfl
theorem hw298 : (Jvm.Cond.methodLink "RoundColumns$Rounds" (114 : Nat) ({ cls := "java/lang/Integer", name := "bitCount", desc := "(I)I" } : Jvm.MethodName)) ∈ gw := gw_t2 (i := 58) rfl rfl
theorem hw299 : (Jvm.Cond.static ({ cls := "java/lang/Integer", name := "bitCount", desc := "(I)I" } : Jvm.MethodName)) ∈ gw := gw_t2 (i := 59) rfl rfl
theorem hw300 : (Jvm.Cond.code ({ cls := "java/lang/Integer", name := "bitCount", desc := "(I)I" } : Jvm.MethodName) prog_11_method_49_code (1 : Nat) (Option.some Jvm.ClassFile.FieldType.int)) ∈ gw := gw_t2 (i := 60) rfl rfl
theorem hw301 : (Jvm.Cond.constant "java/lang/Integer" (265 : Nat) (1431655765 : Int32)) ∈ gw := gw_t2 (i := 61) rfl rfl
theorem hw302 : (Jvm.Cond.constant "java/lang/Integer" (266 : Nat) (858993459 : Int32)) ∈ gw := gw_t2 (i := 62) rfl rfl
theorem hw303 : (Jvm.Cond.constant "java/lang/Integer" (267 : Nat) (252645135 : Int32)) ∈ gw := gw_t2 (i := 63) rfl rfl
theorem hw305 : (Jvm.Cond.methodLink "RoundColumnsLaw" (65 : Nat) ({ cls := "RoundColumns", name := "bound", desc := "(I)J" } : Jvm.MethodName)) ∈ gw := gw_t2 (i := 65) rfl rfl
theorem hw306 : (Jvm.Cond.instanceMethod ({ cls := "RoundColumns", name := "bound", desc := "(I)J" } : Jvm.MethodName)) ∈ gw := gw_t2 (i := 66) rfl rfl
theorem hw307 : (Jvm.Cond.selects "RoundColumns" ({ cls := "RoundColumns", name := "bound", desc := "(I)J" } : Jvm.MethodName) ({ cls := "RoundColumns", name := "bound", desc := "(I)J" } : Jvm.MethodName)) ∈ gw := gw_t2 (i := 67) rfl rfl
theorem hw308 : (Jvm.Cond.code ({ cls := "RoundColumns", name := "bound", desc := "(I)J" } : Jvm.MethodName) prog_1_method_11_code (2 : Nat) (Option.some Jvm.ClassFile.FieldType.long)) ∈ gw := gw_t2 (i := 68) rfl rfl
theorem hw309 : (Jvm.Cond.methodLink "RoundColumns" (126 : Nat) ({ cls := "RoundColumns$FractionRow", name := "tell", desc := "(II)J" } : Jvm.MethodName)) ∈ gw := gw_t2 (i := 69) rfl rfl
theorem hw310 : (Jvm.Cond.instanceMethod ({ cls := "RoundColumns$FractionRow", name := "tell", desc := "(II)J" } : Jvm.MethodName)) ∈ gw := gw_t2 (i := 70) rfl rfl
theorem hw311 : (Jvm.Cond.selects "RoundColumns$FractionRow" ({ cls := "RoundColumns$FractionRow", name := "tell", desc := "(II)J" } : Jvm.MethodName) ({ cls := "RoundColumns$FractionRow", name := "tell", desc := "(II)J" } : Jvm.MethodName)) ∈ gw := gw_t2 (i := 71) rfl rfl
theorem hw312 : (Jvm.Cond.code ({ cls := "RoundColumns$FractionRow", name := "tell", desc := "(II)J" } : Jvm.MethodName) prog_2_method_7_code (3 : Nat) (Option.some Jvm.ClassFile.FieldType.long)) ∈ gw := gw_t2 (i := 72) rfl rfl
theorem hw313 : (Jvm.Cond.methodLink "RoundColumnsLaw" (70 : Nat) ({ cls := "RoundColumns", name := "dual", desc := "(II)J" } : Jvm.MethodName)) ∈ gw := gw_t2 (i := 73) rfl rfl
theorem hw314 : (Jvm.Cond.instanceMethod ({ cls := "RoundColumns", name := "dual", desc := "(II)J" } : Jvm.MethodName)) ∈ gw := gw_t2 (i := 74) rfl rfl
theorem hw315 : (Jvm.Cond.selects "RoundColumns" ({ cls := "RoundColumns", name := "dual", desc := "(II)J" } : Jvm.MethodName) ({ cls := "RoundColumns", name := "dual", desc := "(II)J" } : Jvm.MethodName)) ∈ gw := gw_t2 (i := 75) rfl rfl
theorem hw316 : (Jvm.Cond.code ({ cls := "RoundColumns", name := "dual", desc := "(II)J" } : Jvm.MethodName) prog_1_method_12_code (3 : Nat) (Option.some Jvm.ClassFile.FieldType.long)) ∈ gw := gw_t2 (i := 76) rfl rfl
theorem hw317 : (Jvm.Cond.methodLink "RoundColumns" (131 : Nat) ({ cls := "RoundColumns$Mixtures", name := "tellDual", desc := "(LRoundColumns$Rounds;II)J" } : Jvm.MethodName)) ∈ gw := gw_t2 (i := 77) rfl rfl
theorem hw318 : (Jvm.Cond.instanceMethod ({ cls := "RoundColumns$Mixtures", name := "tellDual", desc := "(LRoundColumns$Rounds;II)J" } : Jvm.MethodName)) ∈ gw := gw_t2 (i := 78) rfl rfl
theorem hw319 : (Jvm.Cond.selects "RoundColumns$Mixtures" ({ cls := "RoundColumns$Mixtures", name := "tellDual", desc := "(LRoundColumns$Rounds;II)J" } : Jvm.MethodName) ({ cls := "RoundColumns$Mixtures", name := "tellDual", desc := "(LRoundColumns$Rounds;II)J" } : Jvm.MethodName)) ∈ gw := gw_t2 (i := 79) rfl rfl
theorem hw320 : (Jvm.Cond.code ({ cls := "RoundColumns$Mixtures", name := "tellDual", desc := "(LRoundColumns$Rounds;II)J" } : Jvm.MethodName) prog_3_method_3_code (4 : Nat) (Option.some Jvm.ClassFile.FieldType.long)) ∈ gw := gw_t2 (i := 80) rfl rfl
theorem hw321 : (Jvm.Cond.methodLink "RoundColumns$Mixtures" (71 : Nat) ({ cls := "RoundColumns$FractionRow", name := "isKnown", desc := "(I)Z" } : Jvm.MethodName)) ∈ gw := gw_t2 (i := 81) rfl rfl
theorem hw322 : (Jvm.Cond.instanceMethod ({ cls := "RoundColumns$FractionRow", name := "isKnown", desc := "(I)Z" } : Jvm.MethodName)) ∈ gw := gw_t2 (i := 82) rfl rfl
theorem hw323 : (Jvm.Cond.selects "RoundColumns$FractionRow" ({ cls := "RoundColumns$FractionRow", name := "isKnown", desc := "(I)Z" } : Jvm.MethodName) ({ cls := "RoundColumns$FractionRow", name := "isKnown", desc := "(I)Z" } : Jvm.MethodName)) ∈ gw := gw_t2 (i := 83) rfl rfl
theorem hw324 : (Jvm.Cond.code ({ cls := "RoundColumns$FractionRow", name := "isKnown", desc := "(I)Z" } : Jvm.MethodName) prog_2_method_3_code (2 : Nat) (Option.some Jvm.ClassFile.FieldType.boolean)) ∈ gw := gw_t2 (i := 84) rfl rfl
theorem hw325 : (Jvm.Cond.methodLink "RoundColumns$Mixtures" (75 : Nat) ({ cls := "RoundColumns$Mixtures", name := "findDual", desc := "(LRoundColumns$Rounds;I)V" } : Jvm.MethodName)) ∈ gw := gw_t2 (i := 85) rfl rfl
theorem hw327 : (Jvm.Cond.instanceMethod ({ cls := "RoundColumns$Mixtures", name := "findDual", desc := "(LRoundColumns$Rounds;I)V" } : Jvm.MethodName)) ∈ gw := gw_t2 (i := 87) rfl rfl
theorem hw328 : (Jvm.Cond.code ({ cls := "RoundColumns$Mixtures", name := "findDual", desc := "(LRoundColumns$Rounds;I)V" } : Jvm.MethodName) prog_3_method_4_code (4 : Nat) (Option.none : Option Jvm.ClassFile.FieldType)) ∈ gw := gw_t2 (i := 88) rfl rfl
theorem hw329 : (Jvm.Cond.methodLink "RoundColumns$Mixtures" (45 : Nat) ({ cls := "RoundColumns$Tableau", name := "lay", desc := "(LRoundColumns$Rounds;I)V" } : Jvm.MethodName)) ∈ gw := gw_t2 (i := 89) rfl rfl
theorem hw330 : (Jvm.Cond.instanceMethod ({ cls := "RoundColumns$Tableau", name := "lay", desc := "(LRoundColumns$Rounds;I)V" } : Jvm.MethodName)) ∈ gw := gw_t2 (i := 90) rfl rfl
theorem hw331 : (Jvm.Cond.selects "RoundColumns$Tableau" ({ cls := "RoundColumns$Tableau", name := "lay", desc := "(LRoundColumns$Rounds;I)V" } : Jvm.MethodName) ({ cls := "RoundColumns$Tableau", name := "lay", desc := "(LRoundColumns$Rounds;I)V" } : Jvm.MethodName)) ∈ gw := gw_t2 (i := 91) rfl rfl
theorem hw332 : (Jvm.Cond.code ({ cls := "RoundColumns$Tableau", name := "lay", desc := "(LRoundColumns$Rounds;I)V" } : Jvm.MethodName) prog_5_method_2_code (6 : Nat) (Option.none : Option Jvm.ClassFile.FieldType)) ∈ gw := gw_t2 (i := 92) rfl rfl
theorem hw333 : (Jvm.Cond.methodLink "RoundColumns$Tableau" (42 : Nat) ({ cls := "RoundColumns$Tableau", name := "layStart", desc := "(II)V" } : Jvm.MethodName)) ∈ gw := gw_t2 (i := 93) rfl rfl
theorem hw335 : (Jvm.Cond.instanceMethod ({ cls := "RoundColumns$Tableau", name := "layStart", desc := "(II)V" } : Jvm.MethodName)) ∈ gw := gw_t2 (i := 95) rfl rfl
theorem hw336 : (Jvm.Cond.code ({ cls := "RoundColumns$Tableau", name := "layStart", desc := "(II)V" } : Jvm.MethodName) prog_5_method_3_code (4 : Nat) (Option.none : Option Jvm.ClassFile.FieldType)) ∈ gw := gw_t2 (i := 96) rfl rfl
theorem hw337 : (Jvm.Cond.constantLong "RoundColumns$Tableau" (64 : Nat) (-10000000000 : Int64)) ∈ gw := gw_t2 (i := 97) rfl rfl
theorem hw338 : (Jvm.Cond.methodLink "RoundColumns$Tableau" (66 : Nat) ({ cls := "java/lang/Integer", name := "bitCount", desc := "(I)I" } : Jvm.MethodName)) ∈ gw := gw_t2 (i := 98) rfl rfl
theorem hw340 : (Jvm.Cond.static ({ cls := "RoundColumns", name := "isIn", desc := "(II)Z" } : Jvm.MethodName)) ∈ gw := gw_t2 (i := 100) rfl rfl
theorem hw341 : (Jvm.Cond.code ({ cls := "RoundColumns", name := "isIn", desc := "(II)Z" } : Jvm.MethodName) prog_1_method_22_code (2 : Nat) (Option.some Jvm.ClassFile.FieldType.boolean)) ∈ gw := gw_t2 (i := 101) rfl rfl
theorem hw342 : (Jvm.Cond.methodLink "RoundColumns$Tableau" (60 : Nat) ({ cls := "RoundColumns$Tableau", name := "addRound", desc := "(IJ)I" } : Jvm.MethodName)) ∈ gw := gw_t2 (i := 102) rfl rfl
theorem hw344 : (Jvm.Cond.instanceMethod ({ cls := "RoundColumns$Tableau", name := "addRound", desc := "(IJ)I" } : Jvm.MethodName)) ∈ gw := gw_t2 (i := 104) rfl rfl
theorem hw345 : (Jvm.Cond.code ({ cls := "RoundColumns$Tableau", name := "addRound", desc := "(IJ)I" } : Jvm.MethodName) prog_5_method_4_code (6 : Nat) (Option.some Jvm.ClassFile.FieldType.int)) ∈ gw := gw_t2 (i := 105) rfl rfl
theorem hw346 : (Jvm.Cond.constantLong "RoundColumns$Tableau" (76 : Nat) (2048 : Int64)) ∈ gw := gw_t2 (i := 106) rfl rfl
theorem hw347 : (Jvm.Cond.constantLong "RoundColumns$Tableau" (78 : Nat) (10000000000 : Int64)) ∈ gw := gw_t2 (i := 107) rfl rfl
theorem hw348 : (Jvm.Cond.methodLink "RoundColumns$Mixtures" (49 : Nat) ({ cls := "RoundColumns$Tableau", name := "minimise", desc := "()V" } : Jvm.MethodName)) ∈ gw := gw_t2 (i := 108) rfl rfl
theorem hw349 : (Jvm.Cond.instanceMethod ({ cls := "RoundColumns$Tableau", name := "minimise", desc := "()V" } : Jvm.MethodName)) ∈ gw := gw_t2 (i := 109) rfl rfl
theorem hw350 : (Jvm.Cond.selects "RoundColumns$Tableau" ({ cls := "RoundColumns$Tableau", name := "minimise", desc := "()V" } : Jvm.MethodName) ({ cls := "RoundColumns$Tableau", name := "minimise", desc := "()V" } : Jvm.MethodName)) ∈ gw := gw_t2 (i := 110) rfl rfl
theorem hw351 : (Jvm.Cond.code ({ cls := "RoundColumns$Tableau", name := "minimise", desc := "()V" } : Jvm.MethodName) prog_5_method_7_code (4 : Nat) (Option.none : Option Jvm.ClassFile.FieldType)) ∈ gw := gw_t2 (i := 111) rfl rfl
theorem hw352 : (Jvm.Cond.constant "RoundColumns$Tableau" (89 : Nat) (1000000 : Int32)) ∈ gw := gw_t2 (i := 112) rfl rfl
theorem hw353 : (Jvm.Cond.methodLink "RoundColumns$Tableau" (90 : Nat) ({ cls := "RoundColumns$Tableau", name := "thatSavesMost", desc := "()I" } : Jvm.MethodName)) ∈ gw := gw_t2 (i := 113) rfl rfl
theorem hw355 : (Jvm.Cond.instanceMethod ({ cls := "RoundColumns$Tableau", name := "thatSavesMost", desc := "()I" } : Jvm.MethodName)) ∈ gw := gw_t2 (i := 115) rfl rfl
theorem hw356 : (Jvm.Cond.code ({ cls := "RoundColumns$Tableau", name := "thatSavesMost", desc := "()I" } : Jvm.MethodName) prog_5_method_8_code (3 : Nat) (Option.some Jvm.ClassFile.FieldType.int)) ∈ gw := gw_t2 (i := 116) rfl rfl
theorem hw357 : (Jvm.Cond.methodLink "RoundColumns$Tableau" (94 : Nat) ({ cls := "RoundColumns$Tableau", name := "firstThatSaves", desc := "()I" } : Jvm.MethodName)) ∈ gw := gw_t2 (i := 117) rfl rfl
theorem hw359 : (Jvm.Cond.instanceMethod ({ cls := "RoundColumns$Tableau", name := "firstThatSaves", desc := "()I" } : Jvm.MethodName)) ∈ gw := gw_t2 (i := 119) rfl rfl
theorem hw360 : (Jvm.Cond.code ({ cls := "RoundColumns$Tableau", name := "firstThatSaves", desc := "()I" } : Jvm.MethodName) prog_5_method_9_code (2 : Nat) (Option.some Jvm.ClassFile.FieldType.int)) ∈ gw := gw_t2 (i := 120) rfl rfl
theorem hw361 : (Jvm.Cond.methodLink "RoundColumns$Tableau" (97 : Nat) ({ cls := "RoundColumns$Tableau", name := "tightestRow", desc := "(I)I" } : Jvm.MethodName)) ∈ gw := gw_t2 (i := 121) rfl rfl
theorem hw363 : (Jvm.Cond.instanceMethod ({ cls := "RoundColumns$Tableau", name := "tightestRow", desc := "(I)I" } : Jvm.MethodName)) ∈ gw := gw_t2 (i := 123) rfl rfl
theorem hw364 : (Jvm.Cond.code ({ cls := "RoundColumns$Tableau", name := "tightestRow", desc := "(I)I" } : Jvm.MethodName) prog_5_method_10_code (4 : Nat) (Option.some Jvm.ClassFile.FieldType.int)) ∈ gw := gw_t2 (i := 124) rfl rfl
theorem hw365 : (Jvm.Cond.methodLink "RoundColumns$Tableau" (103 : Nat) ({ cls := "RoundColumns$Tableau", name := "isTighter", desc := "(III)Z" } : Jvm.MethodName)) ∈ gw := gw_t2 (i := 125) rfl rfl
theorem hw367 : (Jvm.Cond.instanceMethod ({ cls := "RoundColumns$Tableau", name := "isTighter", desc := "(III)Z" } : Jvm.MethodName)) ∈ gw := gw_t2 (i := 127) rfl rfl
theorem hw368 : (Jvm.Cond.code ({ cls := "RoundColumns$Tableau", name := "isTighter", desc := "(III)Z" } : Jvm.MethodName) prog_5_method_11_code (8 : Nat) (Option.some Jvm.ClassFile.FieldType.boolean)) ∈ gw := gw_t2 (i := 128) rfl rfl
theorem hw369 : (Jvm.Cond.methodLink "RoundColumns$Tableau" (100 : Nat) ({ cls := "RoundColumns$Tableau", name := "pivot", desc := "(II)V" } : Jvm.MethodName)) ∈ gw := gw_t2 (i := 129) rfl rfl
theorem hw371 : (Jvm.Cond.instanceMethod ({ cls := "RoundColumns$Tableau", name := "pivot", desc := "(II)V" } : Jvm.MethodName)) ∈ gw := gw_t2 (i := 131) rfl rfl
theorem hw372 : (Jvm.Cond.code ({ cls := "RoundColumns$Tableau", name := "pivot", desc := "(II)V" } : Jvm.MethodName) prog_5_method_12_code (6 : Nat) (Option.none : Option Jvm.ClassFile.FieldType)) ∈ gw := gw_t2 (i := 132) rfl rfl
theorem hw373 : (Jvm.Cond.methodLink "RoundColumns$Tableau" (107 : Nat) ({ cls := "RoundColumns$Tableau", name := "eliminate", desc := "(III)V" } : Jvm.MethodName)) ∈ gw := gw_t2 (i := 133) rfl rfl
theorem hw375 : (Jvm.Cond.instanceMethod ({ cls := "RoundColumns$Tableau", name := "eliminate", desc := "(III)V" } : Jvm.MethodName)) ∈ gw := gw_t2 (i := 135) rfl rfl
theorem hw376 : (Jvm.Cond.code ({ cls := "RoundColumns$Tableau", name := "eliminate", desc := "(III)V" } : Jvm.MethodName) prog_5_method_13_code (11 : Nat) (Option.none : Option Jvm.ClassFile.FieldType)) ∈ gw := gw_t2 (i := 136) rfl rfl
theorem hw377 : (Jvm.Cond.methodLink "RoundColumns$Mixtures" (52 : Nat) ({ cls := "RoundColumns$Tableau", name := "isAllServed", desc := "()Z" } : Jvm.MethodName)) ∈ gw := gw_t2 (i := 137) rfl rfl
theorem hw378 : (Jvm.Cond.instanceMethod ({ cls := "RoundColumns$Tableau", name := "isAllServed", desc := "()Z" } : Jvm.MethodName)) ∈ gw := gw_t2 (i := 138) rfl rfl
theorem hw379 : (Jvm.Cond.selects "RoundColumns$Tableau" ({ cls := "RoundColumns$Tableau", name := "isAllServed", desc := "()Z" } : Jvm.MethodName) ({ cls := "RoundColumns$Tableau", name := "isAllServed", desc := "()Z" } : Jvm.MethodName)) ∈ gw := gw_t2 (i := 139) rfl rfl
theorem hw380 : (Jvm.Cond.code ({ cls := "RoundColumns$Tableau", name := "isAllServed", desc := "()Z" } : Jvm.MethodName) prog_5_method_15_code (2 : Nat) (Option.some Jvm.ClassFile.FieldType.boolean)) ∈ gw := gw_t2 (i := 140) rfl rfl
theorem hw381 : (Jvm.Cond.methodLink "RoundColumns$Mixtures" (60 : Nat) ({ cls := "RoundColumns$Tableau", name := "costTop", desc := "()J" } : Jvm.MethodName)) ∈ gw := gw_t2 (i := 141) rfl rfl
theorem hw382 : (Jvm.Cond.instanceMethod ({ cls := "RoundColumns$Tableau", name := "costTop", desc := "()J" } : Jvm.MethodName)) ∈ gw := gw_t2 (i := 142) rfl rfl
theorem hw383 : (Jvm.Cond.selects "RoundColumns$Tableau" ({ cls := "RoundColumns$Tableau", name := "costTop", desc := "()J" } : Jvm.MethodName) ({ cls := "RoundColumns$Tableau", name := "costTop", desc := "()J" } : Jvm.MethodName)) ∈ gw := gw_t2 (i := 143) rfl rfl
theorem hw384 : (Jvm.Cond.code ({ cls := "RoundColumns$Tableau", name := "costTop", desc := "()J" } : Jvm.MethodName) prog_5_method_16_code (1 : Nat) (Option.some Jvm.ClassFile.FieldType.long)) ∈ gw := gw_t2 (i := 144) rfl rfl
theorem hw385 : (Jvm.Cond.methodLink "RoundColumns$Mixtures" (64 : Nat) ({ cls := "RoundColumns$Tableau", name := "costBottom", desc := "()J" } : Jvm.MethodName)) ∈ gw := gw_t2 (i := 145) rfl rfl
theorem hw386 : (Jvm.Cond.instanceMethod ({ cls := "RoundColumns$Tableau", name := "costBottom", desc := "()J" } : Jvm.MethodName)) ∈ gw := gw_t2 (i := 146) rfl rfl
theorem hw387 : (Jvm.Cond.selects "RoundColumns$Tableau" ({ cls := "RoundColumns$Tableau", name := "costBottom", desc := "()J" } : Jvm.MethodName) ({ cls := "RoundColumns$Tableau", name := "costBottom", desc := "()J" } : Jvm.MethodName)) ∈ gw := gw_t2 (i := 147) rfl rfl
theorem hw388 : (Jvm.Cond.code ({ cls := "RoundColumns$Tableau", name := "costBottom", desc := "()J" } : Jvm.MethodName) prog_5_method_17_code (1 : Nat) (Option.some Jvm.ClassFile.FieldType.long)) ∈ gw := gw_t2 (i := 148) rfl rfl
theorem hw389 : (Jvm.Cond.methodLink "RoundColumns$Mixtures" (82 : Nat) ({ cls := "RoundColumns$FractionRow", name := "putDifference", desc := "(ILRoundColumns$FractionRow;JJ)V" } : Jvm.MethodName)) ∈ gw := gw_t2 (i := 149) rfl rfl
theorem hw390 : (Jvm.Cond.instanceMethod ({ cls := "RoundColumns$FractionRow", name := "putDifference", desc := "(ILRoundColumns$FractionRow;JJ)V" } : Jvm.MethodName)) ∈ gw := gw_t2 (i := 150) rfl rfl
theorem hw391 : (Jvm.Cond.selects "RoundColumns$FractionRow" ({ cls := "RoundColumns$FractionRow", name := "putDifference", desc := "(ILRoundColumns$FractionRow;JJ)V" } : Jvm.MethodName) ({ cls := "RoundColumns$FractionRow", name := "putDifference", desc := "(ILRoundColumns$FractionRow;JJ)V" } : Jvm.MethodName)) ∈ gw := gw_t2 (i := 151) rfl rfl
theorem hw392 : (Jvm.Cond.code ({ cls := "RoundColumns$FractionRow", name := "putDifference", desc := "(ILRoundColumns$FractionRow;JJ)V" } : Jvm.MethodName) prog_2_method_6_code (9 : Nat) (Option.none : Option Jvm.ClassFile.FieldType)) ∈ gw := gw_t2 (i := 152) rfl rfl
theorem hw393 : (Jvm.Cond.methodLink "RoundColumns$FractionRow" (34 : Nat) ({ cls := "RoundColumns$FractionRow", name := "put", desc := "(IJJ)V" } : Jvm.MethodName)) ∈ gw := gw_t2 (i := 153) rfl rfl
theorem hw394 : (Jvm.Cond.instanceMethod ({ cls := "RoundColumns$FractionRow", name := "put", desc := "(IJJ)V" } : Jvm.MethodName)) ∈ gw := gw_t2 (i := 154) rfl rfl
theorem hw395 : (Jvm.Cond.selects "RoundColumns$FractionRow" ({ cls := "RoundColumns$FractionRow", name := "put", desc := "(IJJ)V" } : Jvm.MethodName) ({ cls := "RoundColumns$FractionRow", name := "put", desc := "(IJJ)V" } : Jvm.MethodName)) ∈ gw := gw_t2 (i := 155) rfl rfl
theorem hw396 : (Jvm.Cond.code ({ cls := "RoundColumns$FractionRow", name := "put", desc := "(IJJ)V" } : Jvm.MethodName) prog_2_method_5_code (8 : Nat) (Option.none : Option Jvm.ClassFile.FieldType)) ∈ gw := gw_t2 (i := 156) rfl rfl
theorem hw397 : (Jvm.Cond.methodLink "RoundColumns$FractionRow" (20 : Nat) ({ cls := "java/lang/Math", name := "abs", desc := "(J)J" } : Jvm.MethodName)) ∈ gw := gw_t2 (i := 157) rfl rfl
theorem hw398 : (Jvm.Cond.static ({ cls := "java/lang/Math", name := "abs", desc := "(J)J" } : Jvm.MethodName)) ∈ gw := gw_t2 (i := 158) rfl rfl
theorem hw399 : (Jvm.Cond.code ({ cls := "java/lang/Math", name := "abs", desc := "(J)J" } : Jvm.MethodName) prog_12_method_61_code (2 : Nat) (Option.some Jvm.ClassFile.FieldType.long)) ∈ gw := gw_t2 (i := 159) rfl rfl
theorem hw400 : (Jvm.Cond.methodLink "RoundColumns$FractionRow" (26 : Nat) ({ cls := "RoundColumns$FractionRow", name := "greatestDivisor", desc := "(JJ)J" } : Jvm.MethodName)) ∈ gw := gw_t2 (i := 160) rfl rfl
theorem hw401 : (Jvm.Cond.static ({ cls := "RoundColumns$FractionRow", name := "greatestDivisor", desc := "(JJ)J" } : Jvm.MethodName)) ∈ gw := gw_t2 (i := 161) rfl rfl
theorem hw402 : (Jvm.Cond.code ({ cls := "RoundColumns$FractionRow", name := "greatestDivisor", desc := "(JJ)J" } : Jvm.MethodName) prog_2_method_8_code (11 : Nat) (Option.some Jvm.ClassFile.FieldType.long)) ∈ gw := gw_t2 (i := 162) rfl rfl
theorem hw403 : (Jvm.Cond.methodLink "RoundColumns$FractionRow" (30 : Nat) ({ cls := "RoundColumns$FractionRow", name := "putNone", desc := "(I)V" } : Jvm.MethodName)) ∈ gw := gw_t2 (i := 163) rfl rfl
theorem hw404 : (Jvm.Cond.instanceMethod ({ cls := "RoundColumns$FractionRow", name := "putNone", desc := "(I)V" } : Jvm.MethodName)) ∈ gw := gw_t2 (i := 164) rfl rfl
theorem hw405 : (Jvm.Cond.selects "RoundColumns$FractionRow" ({ cls := "RoundColumns$FractionRow", name := "putNone", desc := "(I)V" } : Jvm.MethodName) ({ cls := "RoundColumns$FractionRow", name := "putNone", desc := "(I)V" } : Jvm.MethodName)) ∈ gw := gw_t2 (i := 165) rfl rfl
theorem hw406 : (Jvm.Cond.code ({ cls := "RoundColumns$FractionRow", name := "putNone", desc := "(I)V" } : Jvm.MethodName) prog_2_method_4_code (2 : Nat) (Option.none : Option Jvm.ClassFile.FieldType)) ∈ gw := gw_t2 (i := 166) rfl rfl
theorem hw407 : (Jvm.Cond.methodLink "RoundColumns$Mixtures" (86 : Nat) ({ cls := "RoundColumns$FractionRow", name := "putNone", desc := "(I)V" } : Jvm.MethodName)) ∈ gw := gw_t2 (i := 167) rfl rfl
theorem hw408 : (Jvm.Cond.methodLink "RoundColumns$Mixtures" (78 : Nat) ({ cls := "RoundColumns$FractionRow", name := "tell", desc := "(II)J" } : Jvm.MethodName)) ∈ gw := gw_t2 (i := 168) rfl rfl
theorem hw409 : (Jvm.Cond.methodLink "RoundColumnsLaw" (75 : Nat) ({ cls := "RoundColumns", name := "used", desc := "(II)J" } : Jvm.MethodName)) ∈ gw := gw_t2 (i := 169) rfl rfl
theorem hw410 : (Jvm.Cond.instanceMethod ({ cls := "RoundColumns", name := "used", desc := "(II)J" } : Jvm.MethodName)) ∈ gw := gw_t2 (i := 170) rfl rfl
theorem hw411 : (Jvm.Cond.selects "RoundColumns" ({ cls := "RoundColumns", name := "used", desc := "(II)J" } : Jvm.MethodName) ({ cls := "RoundColumns", name := "used", desc := "(II)J" } : Jvm.MethodName)) ∈ gw := gw_t2 (i := 171) rfl rfl
theorem hw412 : (Jvm.Cond.code ({ cls := "RoundColumns", name := "used", desc := "(II)J" } : Jvm.MethodName) prog_1_method_13_code (3 : Nat) (Option.some Jvm.ClassFile.FieldType.long)) ∈ gw := gw_t2 (i := 172) rfl rfl
theorem hw413 : (Jvm.Cond.methodLink "RoundColumns" (135 : Nat) ({ cls := "RoundColumns$Mixtures", name := "tellUsed", desc := "(II)J" } : Jvm.MethodName)) ∈ gw := gw_t2 (i := 173) rfl rfl
theorem hw414 : (Jvm.Cond.instanceMethod ({ cls := "RoundColumns$Mixtures", name := "tellUsed", desc := "(II)J" } : Jvm.MethodName)) ∈ gw := gw_t2 (i := 174) rfl rfl
theorem hw415 : (Jvm.Cond.selects "RoundColumns$Mixtures" ({ cls := "RoundColumns$Mixtures", name := "tellUsed", desc := "(II)J" } : Jvm.MethodName) ({ cls := "RoundColumns$Mixtures", name := "tellUsed", desc := "(II)J" } : Jvm.MethodName)) ∈ gw := gw_t2 (i := 175) rfl rfl
theorem hw416 : (Jvm.Cond.code ({ cls := "RoundColumns$Mixtures", name := "tellUsed", desc := "(II)J" } : Jvm.MethodName) prog_3_method_5_code (4 : Nat) (Option.some Jvm.ClassFile.FieldType.long)) ∈ gw := gw_t2 (i := 176) rfl rfl
theorem hw417 : (Jvm.Cond.methodLink "RoundColumns$Mixtures" (93 : Nat) ({ cls := "RoundColumns$Tableau", name := "copy", desc := "(LRoundColumns$Tableau;)V" } : Jvm.MethodName)) ∈ gw := gw_t2 (i := 177) rfl rfl
theorem hw418 : (Jvm.Cond.instanceMethod ({ cls := "RoundColumns$Tableau", name := "copy", desc := "(LRoundColumns$Tableau;)V" } : Jvm.MethodName)) ∈ gw := gw_t2 (i := 178) rfl rfl
theorem hw419 : (Jvm.Cond.selects "RoundColumns$Tableau" ({ cls := "RoundColumns$Tableau", name := "copy", desc := "(LRoundColumns$Tableau;)V" } : Jvm.MethodName) ({ cls := "RoundColumns$Tableau", name := "copy", desc := "(LRoundColumns$Tableau;)V" } : Jvm.MethodName)) ∈ gw := gw_t2 (i := 179) rfl rfl
theorem hw420 : (Jvm.Cond.code ({ cls := "RoundColumns$Tableau", name := "copy", desc := "(LRoundColumns$Tableau;)V" } : Jvm.MethodName) prog_5_method_5_code (3 : Nat) (Option.none : Option Jvm.ClassFile.FieldType)) ∈ gw := gw_t2 (i := 180) rfl rfl
theorem hw421 : (Jvm.Cond.methodLink "RoundColumns$Tableau" (80 : Nat) ({ cls := "java/lang/System", name := "arraycopy", desc := "(Ljava/lang/Object;ILjava/lang/Object;II)V" } : Jvm.MethodName)) ∈ gw := gw_t2 (i := 181) rfl rfl
theorem hw422 : (Jvm.Cond.static ({ cls := "java/lang/System", name := "arraycopy", desc := "(Ljava/lang/Object;ILjava/lang/Object;II)V" } : Jvm.MethodName)) ∈ gw := gw_t2 (i := 182) rfl rfl
theorem hw423 : (Jvm.Cond.native ({ cls := "java/lang/System", name := "arraycopy", desc := "(Ljava/lang/Object;ILjava/lang/Object;II)V" } : Jvm.MethodName)) ∈ gw := gw_t2 (i := 183) rfl rfl
theorem hw424 : (Jvm.Cond.methodLink "RoundColumns$Mixtures" (97 : Nat) ({ cls := "RoundColumns$Tableau", name := "favour", desc := "(I)V" } : Jvm.MethodName)) ∈ gw := gw_t2 (i := 184) rfl rfl
theorem hw425 : (Jvm.Cond.instanceMethod ({ cls := "RoundColumns$Tableau", name := "favour", desc := "(I)V" } : Jvm.MethodName)) ∈ gw := gw_t2 (i := 185) rfl rfl
theorem hw426 : (Jvm.Cond.selects "RoundColumns$Tableau" ({ cls := "RoundColumns$Tableau", name := "favour", desc := "(I)V" } : Jvm.MethodName) ({ cls := "RoundColumns$Tableau", name := "favour", desc := "(I)V" } : Jvm.MethodName)) ∈ gw := gw_t2 (i := 186) rfl rfl
theorem hw427 : (Jvm.Cond.code ({ cls := "RoundColumns$Tableau", name := "favour", desc := "(I)V" } : Jvm.MethodName) prog_5_method_6_code (4 : Nat) (Option.none : Option Jvm.ClassFile.FieldType)) ∈ gw := gw_t2 (i := 187) rfl rfl
theorem hw428 : (Jvm.Cond.methodLink "RoundColumns$Tableau" (86 : Nat) ({ cls := "RoundColumns$Tableau", name := "rowOf", desc := "(I)I" } : Jvm.MethodName)) ∈ gw := gw_t2 (i := 188) rfl rfl
theorem hw430 : (Jvm.Cond.instanceMethod ({ cls := "RoundColumns$Tableau", name := "rowOf", desc := "(I)I" } : Jvm.MethodName)) ∈ gw := gw_t2 (i := 190) rfl rfl
theorem hw431 : (Jvm.Cond.code ({ cls := "RoundColumns$Tableau", name := "rowOf", desc := "(I)I" } : Jvm.MethodName) prog_5_method_14_code (3 : Nat) (Option.some Jvm.ClassFile.FieldType.int)) ∈ gw := gw_t2 (i := 191) rfl rfl
theorem hw432 : (Jvm.Cond.methodLink "RoundColumns$Mixtures" (100 : Nat) ({ cls := "RoundColumns$Tableau", name := "amountTop", desc := "(I)J" } : Jvm.MethodName)) ∈ gw := gw_t2 (i := 192) rfl rfl
theorem hw433 : (Jvm.Cond.instanceMethod ({ cls := "RoundColumns$Tableau", name := "amountTop", desc := "(I)J" } : Jvm.MethodName)) ∈ gw := gw_t2 (i := 193) rfl rfl
theorem hw434 : (Jvm.Cond.selects "RoundColumns$Tableau" ({ cls := "RoundColumns$Tableau", name := "amountTop", desc := "(I)J" } : Jvm.MethodName) ({ cls := "RoundColumns$Tableau", name := "amountTop", desc := "(I)J" } : Jvm.MethodName)) ∈ gw := gw_t2 (i := 194) rfl rfl
theorem hw435 : (Jvm.Cond.code ({ cls := "RoundColumns$Tableau", name := "amountTop", desc := "(I)J" } : Jvm.MethodName) prog_5_method_18_code (3 : Nat) (Option.some Jvm.ClassFile.FieldType.long)) ∈ gw := gw_t2 (i := 195) rfl rfl
theorem hw436 : (Jvm.Cond.methodLink "RoundColumns$Mixtures" (67 : Nat) ({ cls := "RoundColumns$FractionRow", name := "put", desc := "(IJJ)V" } : Jvm.MethodName)) ∈ gw := gw_t2 (i := 196) rfl rfl
theorem hw437 : (Jvm.Cond.methodLink "RoundColumnsLaw" (79 : Nat) ({ cls := "RoundColumns", name := "share", desc := "(II)J" } : Jvm.MethodName)) ∈ gw := gw_t2 (i := 197) rfl rfl
theorem hw438 : (Jvm.Cond.instanceMethod ({ cls := "RoundColumns", name := "share", desc := "(II)J" } : Jvm.MethodName)) ∈ gw := gw_t2 (i := 198) rfl rfl
theorem hw439 : (Jvm.Cond.selects "RoundColumns" ({ cls := "RoundColumns", name := "share", desc := "(II)J" } : Jvm.MethodName) ({ cls := "RoundColumns", name := "share", desc := "(II)J" } : Jvm.MethodName)) ∈ gw := gw_t2 (i := 199) rfl rfl
theorem hw440 : (Jvm.Cond.code ({ cls := "RoundColumns", name := "share", desc := "(II)J" } : Jvm.MethodName) prog_1_method_14_code (3 : Nat) (Option.some Jvm.ClassFile.FieldType.long)) ∈ gw := gw_t2 (i := 200) rfl rfl
theorem hw441 : (Jvm.Cond.methodLink "RoundColumns" (147 : Nat) ({ cls := "RoundColumns$FractionRow", name := "put", desc := "(IJJ)V" } : Jvm.MethodName)) ∈ gw := gw_t2 (i := 201) rfl rfl
theorem hw442 : (Jvm.Cond.methodLink "RoundColumnsLaw" (83 : Nat) ({ cls := "RoundColumns", name := "dropped", desc := "(I)Z" } : Jvm.MethodName)) ∈ gw := gw_t2 (i := 202) rfl rfl
theorem hw443 : (Jvm.Cond.instanceMethod ({ cls := "RoundColumns", name := "dropped", desc := "(I)Z" } : Jvm.MethodName)) ∈ gw := gw_t2 (i := 203) rfl rfl
theorem hw444 : (Jvm.Cond.selects "RoundColumns" ({ cls := "RoundColumns", name := "dropped", desc := "(I)Z" } : Jvm.MethodName) ({ cls := "RoundColumns", name := "dropped", desc := "(I)Z" } : Jvm.MethodName)) ∈ gw := gw_t2 (i := 204) rfl rfl
theorem hw445 : (Jvm.Cond.code ({ cls := "RoundColumns", name := "dropped", desc := "(I)Z" } : Jvm.MethodName) prog_1_method_15_code (2 : Nat) (Option.some Jvm.ClassFile.FieldType.boolean)) ∈ gw := gw_t2 (i := 205) rfl rfl
theorem hw446 : (Jvm.Cond.methodLink "RoundColumns" (151 : Nat) ({ cls := "RoundColumns$Rounds", name := "leadsNowhere", desc := "(I)Z" } : Jvm.MethodName)) ∈ gw := gw_t2 (i := 206) rfl rfl
theorem hw447 : (Jvm.Cond.instanceMethod ({ cls := "RoundColumns$Rounds", name := "leadsNowhere", desc := "(I)Z" } : Jvm.MethodName)) ∈ gw := gw_t2 (i := 207) rfl rfl
theorem hw448 : (Jvm.Cond.selects "RoundColumns$Rounds" ({ cls := "RoundColumns$Rounds", name := "leadsNowhere", desc := "(I)Z" } : Jvm.MethodName) ({ cls := "RoundColumns$Rounds", name := "leadsNowhere", desc := "(I)Z" } : Jvm.MethodName)) ∈ gw := gw_t2 (i := 208) rfl rfl
theorem hw449 : (Jvm.Cond.code ({ cls := "RoundColumns$Rounds", name := "leadsNowhere", desc := "(I)Z" } : Jvm.MethodName) prog_4_method_12_code (5 : Nat) (Option.some Jvm.ClassFile.FieldType.boolean)) ∈ gw := gw_t2 (i := 209) rfl rfl
theorem hw450 : (Jvm.Cond.methodLink "RoundColumns$Rounds" (77 : Nat) ({ cls := "RoundColumns$Rounds", name := "setCount", desc := "()I" } : Jvm.MethodName)) ∈ gw := gw_t2 (i := 210) rfl rfl
theorem hw452 : (Jvm.Cond.instanceMethod ({ cls := "RoundColumns$Rounds", name := "setCount", desc := "()I" } : Jvm.MethodName)) ∈ gw := gw_t2 (i := 212) rfl rfl
theorem hw453 : (Jvm.Cond.code ({ cls := "RoundColumns$Rounds", name := "setCount", desc := "()I" } : Jvm.MethodName) prog_4_method_3_code (1 : Nat) (Option.some Jvm.ClassFile.FieldType.int)) ∈ gw := gw_t2 (i := 213) rfl rfl
theorem hw455 : (Jvm.Cond.static ({ cls := "RoundColumns", name := "nthBin", desc := "(II)I" } : Jvm.MethodName)) ∈ gw := gw_t2 (i := 215) rfl rfl
theorem hw456 : (Jvm.Cond.code ({ cls := "RoundColumns", name := "nthBin", desc := "(II)I" } : Jvm.MethodName) prog_1_method_23_code (4 : Nat) (Option.some Jvm.ClassFile.FieldType.int)) ∈ gw := gw_t2 (i := 216) rfl rfl
theorem hw457 : (Jvm.Cond.methodLink "RoundColumns" (185 : Nat) ({ cls := "RoundColumns", name := "isIn", desc := "(II)Z" } : Jvm.MethodName)) ∈ gw := gw_t2 (i := 217) rfl rfl
theorem hw459 : (Jvm.Cond.methodLink "RoundColumnsLaw" (88 : Nat) ({ cls := "RoundColumns", name := "cuts", desc := "()I" } : Jvm.MethodName)) ∈ gw := gw_t2 (i := 219) rfl rfl
theorem hw460 : (Jvm.Cond.instanceMethod ({ cls := "RoundColumns", name := "cuts", desc := "()I" } : Jvm.MethodName)) ∈ gw := gw_t2 (i := 220) rfl rfl
theorem hw461 : (Jvm.Cond.selects "RoundColumns" ({ cls := "RoundColumns", name := "cuts", desc := "()I" } : Jvm.MethodName) ({ cls := "RoundColumns", name := "cuts", desc := "()I" } : Jvm.MethodName)) ∈ gw := gw_t2 (i := 221) rfl rfl
theorem hw462 : (Jvm.Cond.code ({ cls := "RoundColumns", name := "cuts", desc := "()I" } : Jvm.MethodName) prog_1_method_16_code (1 : Nat) (Option.some Jvm.ClassFile.FieldType.int)) ∈ gw := gw_t2 (i := 222) rfl rfl
theorem hw463 : (Jvm.Cond.methodLink "RoundColumns" (155 : Nat) ({ cls := "RoundColumns$Rounds", name := "countCuts", desc := "()I" } : Jvm.MethodName)) ∈ gw := gw_t2 (i := 223) rfl rfl
theorem hw464 : (Jvm.Cond.instanceMethod ({ cls := "RoundColumns$Rounds", name := "countCuts", desc := "()I" } : Jvm.MethodName)) ∈ gw := gw_t2 (i := 224) rfl rfl
theorem hw465 : (Jvm.Cond.selects "RoundColumns$Rounds" ({ cls := "RoundColumns$Rounds", name := "countCuts", desc := "()I" } : Jvm.MethodName) ({ cls := "RoundColumns$Rounds", name := "countCuts", desc := "()I" } : Jvm.MethodName)) ∈ gw := gw_t2 (i := 225) rfl rfl
theorem hw466 : (Jvm.Cond.code ({ cls := "RoundColumns$Rounds", name := "countCuts", desc := "()I" } : Jvm.MethodName) prog_4_method_14_code (3 : Nat) (Option.some Jvm.ClassFile.FieldType.int)) ∈ gw := gw_t2 (i := 226) rfl rfl
theorem hw467 : (Jvm.Cond.methodLink "RoundColumns$Rounds" (142 : Nat) ({ cls := "RoundColumns$Rounds", name := "isCut", desc := "(I)Z" } : Jvm.MethodName)) ∈ gw := gw_t2 (i := 227) rfl rfl
theorem hw469 : (Jvm.Cond.instanceMethod ({ cls := "RoundColumns$Rounds", name := "isCut", desc := "(I)Z" } : Jvm.MethodName)) ∈ gw := gw_t2 (i := 229) rfl rfl
theorem hw470 : (Jvm.Cond.code ({ cls := "RoundColumns$Rounds", name := "isCut", desc := "(I)Z" } : Jvm.MethodName) prog_4_method_13_code (2 : Nat) (Option.some Jvm.ClassFile.FieldType.boolean)) ∈ gw := gw_t2 (i := 230) rfl rfl
theorem hw471 : (Jvm.Cond.methodLink "RoundColumnsLaw" (92 : Nat) ({ cls := "RoundColumns", name := "cut", desc := "(II)I" } : Jvm.MethodName)) ∈ gw := gw_t2 (i := 231) rfl rfl
theorem hw472 : (Jvm.Cond.instanceMethod ({ cls := "RoundColumns", name := "cut", desc := "(II)I" } : Jvm.MethodName)) ∈ gw := gw_t2 (i := 232) rfl rfl
theorem hw473 : (Jvm.Cond.selects "RoundColumns" ({ cls := "RoundColumns", name := "cut", desc := "(II)I" } : Jvm.MethodName) ({ cls := "RoundColumns", name := "cut", desc := "(II)I" } : Jvm.MethodName)) ∈ gw := gw_t2 (i := 233) rfl rfl
theorem hw474 : (Jvm.Cond.code ({ cls := "RoundColumns", name := "cut", desc := "(II)I" } : Jvm.MethodName) prog_1_method_17_code (3 : Nat) (Option.some Jvm.ClassFile.FieldType.int)) ∈ gw := gw_t2 (i := 234) rfl rfl
theorem hw475 : (Jvm.Cond.methodLink "RoundColumns" (159 : Nat) ({ cls := "RoundColumns$Rounds", name := "cutSet", desc := "(I)I" } : Jvm.MethodName)) ∈ gw := gw_t2 (i := 235) rfl rfl
theorem hw476 : (Jvm.Cond.instanceMethod ({ cls := "RoundColumns$Rounds", name := "cutSet", desc := "(I)I" } : Jvm.MethodName)) ∈ gw := gw_t2 (i := 236) rfl rfl
theorem hw477 : (Jvm.Cond.selects "RoundColumns$Rounds" ({ cls := "RoundColumns$Rounds", name := "cutSet", desc := "(I)I" } : Jvm.MethodName) ({ cls := "RoundColumns$Rounds", name := "cutSet", desc := "(I)I" } : Jvm.MethodName)) ∈ gw := gw_t2 (i := 237) rfl rfl
theorem hw478 : (Jvm.Cond.code ({ cls := "RoundColumns$Rounds", name := "cutSet", desc := "(I)I" } : Jvm.MethodName) prog_4_method_15_code (4 : Nat) (Option.some Jvm.ClassFile.FieldType.int)) ∈ gw := gw_t2 (i := 238) rfl rfl
theorem hw479 : (Jvm.Cond.methodLink "RoundColumns" (163 : Nat) ({ cls := "RoundColumns", name := "nthBin", desc := "(II)I" } : Jvm.MethodName)) ∈ gw := gw_t2 (i := 239) rfl rfl
theorem hw480 : (Jvm.Cond.methodLink "RoundColumnsLaw" (96 : Nat) ({ cls := "RoundColumns", name := "check", desc := "()I" } : Jvm.MethodName)) ∈ gw := gw_t3 (i := 0) rfl rfl
theorem hw481 : (Jvm.Cond.instanceMethod ({ cls := "RoundColumns", name := "check", desc := "()I" } : Jvm.MethodName)) ∈ gw := gw_t3 (i := 1) rfl rfl
theorem hw482 : (Jvm.Cond.selects "RoundColumns" ({ cls := "RoundColumns", name := "check", desc := "()I" } : Jvm.MethodName) ({ cls := "RoundColumns", name := "check", desc := "()I" } : Jvm.MethodName)) ∈ gw := gw_t3 (i := 2) rfl rfl
theorem hw483 : (Jvm.Cond.code ({ cls := "RoundColumns", name := "check", desc := "()I" } : Jvm.MethodName) prog_1_method_18_code (4 : Nat) (Option.some Jvm.ClassFile.FieldType.int)) ∈ gw := gw_t3 (i := 3) rfl rfl
theorem hw484 : (Jvm.Cond.methodLink "RoundColumns" (166 : Nat) ({ cls := "java/lang/Integer", name := "bitCount", desc := "(I)I" } : Jvm.MethodName)) ∈ gw := gw_t3 (i := 4) rfl rfl
theorem hw485 : (Jvm.Cond.methodLink "RoundColumns" (174 : Nat) ({ cls := "RoundColumns$Town", name := "costOfRound", desc := "([III)J" } : Jvm.MethodName)) ∈ gw := gw_t3 (i := 5) rfl rfl
theorem hw486 : (Jvm.Cond.instanceMethod ({ cls := "RoundColumns$Town", name := "costOfRound", desc := "([III)J" } : Jvm.MethodName)) ∈ gw := gw_t3 (i := 6) rfl rfl
theorem hw487 : (Jvm.Cond.selects "RoundColumns$Town" ({ cls := "RoundColumns$Town", name := "costOfRound", desc := "([III)J" } : Jvm.MethodName) ({ cls := "RoundColumns$Town", name := "costOfRound", desc := "([III)J" } : Jvm.MethodName)) ∈ gw := gw_t3 (i := 7) rfl rfl
theorem hw488 : (Jvm.Cond.code ({ cls := "RoundColumns$Town", name := "costOfRound", desc := "([III)J" } : Jvm.MethodName) prog_6_method_7_code (12 : Nat) (Option.some Jvm.ClassFile.FieldType.long)) ∈ gw := gw_t3 (i := 8) rfl rfl
theorem hw489 : (Jvm.Cond.methodLink "RoundColumns$Town" (49 : Nat) ({ cls := "RoundColumns$Town", name := "hasWay", desc := "(II)Z" } : Jvm.MethodName)) ∈ gw := gw_t3 (i := 9) rfl rfl
theorem hw490 : (Jvm.Cond.instanceMethod ({ cls := "RoundColumns$Town", name := "hasWay", desc := "(II)Z" } : Jvm.MethodName)) ∈ gw := gw_t3 (i := 10) rfl rfl
theorem hw491 : (Jvm.Cond.selects "RoundColumns$Town" ({ cls := "RoundColumns$Town", name := "hasWay", desc := "(II)Z" } : Jvm.MethodName) ({ cls := "RoundColumns$Town", name := "hasWay", desc := "(II)Z" } : Jvm.MethodName)) ∈ gw := gw_t3 (i := 11) rfl rfl
theorem hw492 : (Jvm.Cond.code ({ cls := "RoundColumns$Town", name := "hasWay", desc := "(II)Z" } : Jvm.MethodName) prog_6_method_6_code (3 : Nat) (Option.some Jvm.ClassFile.FieldType.boolean)) ∈ gw := gw_t3 (i := 12) rfl rfl
theorem hw493 : (Jvm.Cond.constantLong "RoundColumns$Town" (52 : Nat) (-1 : Int64)) ∈ gw := gw_t3 (i := 13) rfl rfl
theorem hw494 : (Jvm.Cond.methodLink "RoundColumnsLaw" (100 : Nat) ({ cls := "RoundColumns", name := "labelsClosed", desc := "()Z" } : Jvm.MethodName)) ∈ gw := gw_t3 (i := 14) rfl rfl
theorem hw495 : (Jvm.Cond.instanceMethod ({ cls := "RoundColumns", name := "labelsClosed", desc := "()Z" } : Jvm.MethodName)) ∈ gw := gw_t3 (i := 15) rfl rfl
theorem hw496 : (Jvm.Cond.selects "RoundColumns" ({ cls := "RoundColumns", name := "labelsClosed", desc := "()Z" } : Jvm.MethodName) ({ cls := "RoundColumns", name := "labelsClosed", desc := "()Z" } : Jvm.MethodName)) ∈ gw := gw_t3 (i := 16) rfl rfl
theorem hw497 : (Jvm.Cond.code ({ cls := "RoundColumns", name := "labelsClosed", desc := "()Z" } : Jvm.MethodName) prog_1_method_19_code (1 : Nat) (Option.some Jvm.ClassFile.FieldType.boolean)) ∈ gw := gw_t3 (i := 17) rfl rfl
theorem hw498 : (Jvm.Cond.methodLink "RoundColumns" (181 : Nat) ({ cls := "RoundColumns$Rounds", name := "areSubsetsColumns", desc := "()Z" } : Jvm.MethodName)) ∈ gw := gw_t3 (i := 18) rfl rfl
theorem hw499 : (Jvm.Cond.instanceMethod ({ cls := "RoundColumns$Rounds", name := "areSubsetsColumns", desc := "()Z" } : Jvm.MethodName)) ∈ gw := gw_t3 (i := 19) rfl rfl
theorem hw500 : (Jvm.Cond.selects "RoundColumns$Rounds" ({ cls := "RoundColumns$Rounds", name := "areSubsetsColumns", desc := "()Z" } : Jvm.MethodName) ({ cls := "RoundColumns$Rounds", name := "areSubsetsColumns", desc := "()Z" } : Jvm.MethodName)) ∈ gw := gw_t3 (i := 20) rfl rfl
theorem hw501 : (Jvm.Cond.code ({ cls := "RoundColumns$Rounds", name := "areSubsetsColumns", desc := "()Z" } : Jvm.MethodName) prog_4_method_16_code (4 : Nat) (Option.some Jvm.ClassFile.FieldType.boolean)) ∈ gw := gw_t3 (i := 21) rfl rfl
theorem hw502 : (Jvm.Cond.methodLink "RoundColumns$Rounds" (132 : Nat) ({ cls := "RoundColumns$Rounds", name := "isColumn", desc := "(I)Z" } : Jvm.MethodName)) ∈ gw := gw_t3 (i := 22) rfl rfl
theorem hw504 : (Jvm.Cond.instanceMethod ({ cls := "RoundColumns$Rounds", name := "isColumn", desc := "(I)Z" } : Jvm.MethodName)) ∈ gw := gw_t3 (i := 24) rfl rfl
theorem hw505 : (Jvm.Cond.code ({ cls := "RoundColumns$Rounds", name := "isColumn", desc := "(I)Z" } : Jvm.MethodName) prog_4_method_10_code (2 : Nat) (Option.some Jvm.ClassFile.FieldType.boolean)) ∈ gw := gw_t3 (i := 25) rfl rfl
theorem hw506 : (Jvm.Cond.methodLink "RoundColumnsLaw" (45 : Nat) ({ cls := "RoundColumnsLaw", name := "run", desc := "(LRoundColumns;I[J)I" } : Jvm.MethodName)) ∈ gw := gw_t3 (i := 26) rfl rfl
theorem hw507 : (Jvm.Cond.static ({ cls := "RoundColumnsLaw", name := "run", desc := "(LRoundColumns;I[J)I" } : Jvm.MethodName)) ∈ gw := gw_t3 (i := 27) rfl rfl
theorem hw509 : (Jvm.Cond.classLink "RoundColumnsLaw" (13 : Nat) "java/lang/IllegalStateException") ∈ gw := gw_t3 (i := 29) rfl rfl
theorem hw510 : (Jvm.Cond.methodLink "RoundColumnsLaw" (7 : Nat) ({ cls := "RoundColumns", name := "run", desc := "(I)I" } : Jvm.MethodName)) ∈ gw := gw_t3 (i := 30) rfl rfl
theorem hw511 : (Jvm.Cond.instanceMethod ({ cls := "RoundColumns", name := "run", desc := "(I)I" } : Jvm.MethodName)) ∈ gw := gw_t3 (i := 31) rfl rfl
theorem hw512 : (Jvm.Cond.selects "RoundColumns" ({ cls := "RoundColumns", name := "run", desc := "(I)I" } : Jvm.MethodName) ({ cls := "RoundColumns", name := "run", desc := "(I)I" } : Jvm.MethodName)) ∈ gw := gw_t3 (i := 32) rfl rfl
theorem hw513 : (Jvm.Cond.code ({ cls := "RoundColumns", name := "run", desc := "(I)I" } : Jvm.MethodName) prog_1_method_7_code (3 : Nat) (Option.some Jvm.ClassFile.FieldType.int)) ∈ gw := gw_t3 (i := 33) rfl rfl
theorem hw514 : (Jvm.Cond.methodLink "RoundColumns" (99 : Nat) ({ cls := "RoundColumns$Rounds", name := "search", desc := "()V" } : Jvm.MethodName)) ∈ gw := gw_t3 (i := 34) rfl rfl
theorem hw515 : (Jvm.Cond.instanceMethod ({ cls := "RoundColumns$Rounds", name := "search", desc := "()V" } : Jvm.MethodName)) ∈ gw := gw_t3 (i := 35) rfl rfl
theorem hw516 : (Jvm.Cond.selects "RoundColumns$Rounds" ({ cls := "RoundColumns$Rounds", name := "search", desc := "()V" } : Jvm.MethodName) ({ cls := "RoundColumns$Rounds", name := "search", desc := "()V" } : Jvm.MethodName)) ∈ gw := gw_t3 (i := 36) rfl rfl
theorem hw517 : (Jvm.Cond.code ({ cls := "RoundColumns$Rounds", name := "search", desc := "()V" } : Jvm.MethodName) prog_4_method_2_code (1 : Nat) (Option.none : Option Jvm.ClassFile.FieldType)) ∈ gw := gw_t3 (i := 37) rfl rfl
theorem hw518 : (Jvm.Cond.methodLink "RoundColumns$Rounds" (58 : Nat) ({ cls := "java/util/Arrays", name := "fill", desc := "([II)V" } : Jvm.MethodName)) ∈ gw := gw_t3 (i := 38) rfl rfl
theorem hw519 : (Jvm.Cond.methodLink "RoundColumns$Rounds" (64 : Nat) ({ cls := "RoundColumns$Rounds", name := "weighSets", desc := "()V" } : Jvm.MethodName)) ∈ gw := gw_t3 (i := 39) rfl rfl
theorem hw521 : (Jvm.Cond.instanceMethod ({ cls := "RoundColumns$Rounds", name := "weighSets", desc := "()V" } : Jvm.MethodName)) ∈ gw := gw_t3 (i := 41) rfl rfl
theorem hw522 : (Jvm.Cond.code ({ cls := "RoundColumns$Rounds", name := "weighSets", desc := "()V" } : Jvm.MethodName) prog_4_method_4_code (5 : Nat) (Option.none : Option Jvm.ClassFile.FieldType)) ∈ gw := gw_t3 (i := 42) rfl rfl
theorem hw523 : (Jvm.Cond.methodLink "RoundColumns$Rounds" (86 : Nat) ({ cls := "RoundColumns$Town", name := "isBarred", desc := "(I)Z" } : Jvm.MethodName)) ∈ gw := gw_t3 (i := 43) rfl rfl
theorem hw524 : (Jvm.Cond.instanceMethod ({ cls := "RoundColumns$Town", name := "isBarred", desc := "(I)Z" } : Jvm.MethodName)) ∈ gw := gw_t3 (i := 44) rfl rfl
theorem hw525 : (Jvm.Cond.selects "RoundColumns$Town" ({ cls := "RoundColumns$Town", name := "isBarred", desc := "(I)Z" } : Jvm.MethodName) ({ cls := "RoundColumns$Town", name := "isBarred", desc := "(I)Z" } : Jvm.MethodName)) ∈ gw := gw_t3 (i := 45) rfl rfl
theorem hw526 : (Jvm.Cond.code ({ cls := "RoundColumns$Town", name := "isBarred", desc := "(I)Z" } : Jvm.MethodName) prog_6_method_5_code (3 : Nat) (Option.some Jvm.ClassFile.FieldType.boolean)) ∈ gw := gw_t3 (i := 46) rfl rfl
theorem hw528 : (Jvm.Cond.methodLink "RoundColumns$Rounds" (67 : Nat) ({ cls := "RoundColumns$Rounds", name := "extend", desc := "(IIIJ)V" } : Jvm.MethodName)) ∈ gw := gw_t3 (i := 48) rfl rfl
theorem hw530 : (Jvm.Cond.instanceMethod ({ cls := "RoundColumns$Rounds", name := "extend", desc := "(IIIJ)V" } : Jvm.MethodName)) ∈ gw := gw_t3 (i := 50) rfl rfl
theorem hw531 : (Jvm.Cond.code ({ cls := "RoundColumns$Rounds", name := "extend", desc := "(IIIJ)V" } : Jvm.MethodName) prog_4_method_5_code (7 : Nat) (Option.none : Option Jvm.ClassFile.FieldType)) ∈ gw := gw_t3 (i := 51) rfl rfl
theorem hw532 : (Jvm.Cond.methodLink "RoundColumns$Rounds" (90 : Nat) ({ cls := "RoundColumns$Rounds", name := "append", desc := "(IIIIJ)V" } : Jvm.MethodName)) ∈ gw := gw_t3 (i := 52) rfl rfl
theorem hw534 : (Jvm.Cond.instanceMethod ({ cls := "RoundColumns$Rounds", name := "append", desc := "(IIIIJ)V" } : Jvm.MethodName)) ∈ gw := gw_t3 (i := 54) rfl rfl
theorem hw535 : (Jvm.Cond.code ({ cls := "RoundColumns$Rounds", name := "append", desc := "(IIIIJ)V" } : Jvm.MethodName) prog_4_method_6_code (13 : Nat) (Option.none : Option Jvm.ClassFile.FieldType)) ∈ gw := gw_t3 (i := 55) rfl rfl
theorem hw536 : (Jvm.Cond.methodLink "RoundColumns$Rounds" (94 : Nat) ({ cls := "RoundColumns$Town", name := "hasWay", desc := "(II)Z" } : Jvm.MethodName)) ∈ gw := gw_t3 (i := 56) rfl rfl
theorem hw537 : (Jvm.Cond.methodLink "RoundColumns$Rounds" (111 : Nat) ({ cls := "RoundColumns$Rounds", name := "goHome", desc := "(IIIJ)V" } : Jvm.MethodName)) ∈ gw := gw_t3 (i := 57) rfl rfl
theorem hw539 : (Jvm.Cond.instanceMethod ({ cls := "RoundColumns$Rounds", name := "goHome", desc := "(IIIJ)V" } : Jvm.MethodName)) ∈ gw := gw_t3 (i := 59) rfl rfl
theorem hw540 : (Jvm.Cond.code ({ cls := "RoundColumns$Rounds", name := "goHome", desc := "(IIIJ)V" } : Jvm.MethodName) prog_4_method_7_code (9 : Nat) (Option.none : Option Jvm.ClassFile.FieldType)) ∈ gw := gw_t3 (i := 60) rfl rfl
theorem hw541 : (Jvm.Cond.methodLink "RoundColumns$Rounds" (120 : Nat) ({ cls := "java/lang/System", name := "arraycopy", desc := "(Ljava/lang/Object;ILjava/lang/Object;II)V" } : Jvm.MethodName)) ∈ gw := gw_t3 (i := 61) rfl rfl
theorem hw542 : (Jvm.Cond.methodLink "RoundColumns$Rounds" (71 : Nat) ({ cls := "RoundColumns$Rounds", name := "countLabels", desc := "()V" } : Jvm.MethodName)) ∈ gw := gw_t3 (i := 62) rfl rfl
theorem hw544 : (Jvm.Cond.instanceMethod ({ cls := "RoundColumns$Rounds", name := "countLabels", desc := "()V" } : Jvm.MethodName)) ∈ gw := gw_t3 (i := 64) rfl rfl
theorem hw545 : (Jvm.Cond.code ({ cls := "RoundColumns$Rounds", name := "countLabels", desc := "()V" } : Jvm.MethodName) prog_4_method_8_code (2 : Nat) (Option.none : Option Jvm.ClassFile.FieldType)) ∈ gw := gw_t3 (i := 65) rfl rfl
theorem hw546 : (Jvm.Cond.methodLink "RoundColumns$Rounds" (74 : Nat) ({ cls := "RoundColumns$Rounds", name := "listColumns", desc := "()V" } : Jvm.MethodName)) ∈ gw := gw_t3 (i := 66) rfl rfl
theorem hw548 : (Jvm.Cond.instanceMethod ({ cls := "RoundColumns$Rounds", name := "listColumns", desc := "()V" } : Jvm.MethodName)) ∈ gw := gw_t3 (i := 68) rfl rfl
theorem hw549 : (Jvm.Cond.code ({ cls := "RoundColumns$Rounds", name := "listColumns", desc := "()V" } : Jvm.MethodName) prog_4_method_9_code (2 : Nat) (Option.none : Option Jvm.ClassFile.FieldType)) ∈ gw := gw_t3 (i := 69) rfl rfl
theorem hw550 : (Jvm.Cond.classLink "RoundColumns" (105 : Nat) "java/lang/IllegalStateException") ∈ gw := gw_t3 (i := 70) rfl rfl
theorem hw551 : (Jvm.Cond.instantiable "java/lang/IllegalStateException" (6 : Nat)) ∈ gw := gw_t3 (i := 71) rfl rfl
theorem hw559 : (Jvm.Cond.selects "java/lang/IllegalStateException" ({ cls := "java/lang/Throwable", name := "fillInStackTrace", desc := "(I)Ljava/lang/Throwable;" } : Jvm.MethodName) ({ cls := "java/lang/Throwable", name := "fillInStackTrace", desc := "(I)Ljava/lang/Throwable;" } : Jvm.MethodName)) ∈ gw := gw_t3 (i := 79) rfl rfl
theorem hw560 : (Jvm.Cond.selects "java/lang/IllegalStateException" ({ cls := "java/lang/Throwable", name := "fillInStackTrace", desc := "()Ljava/lang/Throwable;" } : Jvm.MethodName) ({ cls := "java/lang/Throwable", name := "fillInStackTrace", desc := "()Ljava/lang/Throwable;" } : Jvm.MethodName)) ∈ gw := gw_t3 (i := 80) rfl rfl
theorem hw561 : (Jvm.Cond.lays "java/lang/IllegalStateException" "java/lang/Throwable" "cause" "Ljava/lang/Throwable;") ∈ gw := gw_t3 (i := 81) rfl rfl
theorem hw562 : (Jvm.Cond.lays "java/lang/Throwable" "java/lang/Throwable" "cause" "Ljava/lang/Throwable;") ∈ gw := gw_t3 (i := 82) rfl rfl
theorem hw563 : (Jvm.Cond.lays "java/lang/IllegalStateException" "java/lang/Throwable" "stackTrace" "[Ljava/lang/StackTraceElement;") ∈ gw := gw_t3 (i := 83) rfl rfl
theorem hw564 : (Jvm.Cond.lays "java/lang/Throwable" "java/lang/Throwable" "stackTrace" "[Ljava/lang/StackTraceElement;") ∈ gw := gw_t3 (i := 84) rfl rfl
theorem hw565 : (Jvm.Cond.lays "java/lang/IllegalStateException" "java/lang/Throwable" "suppressedExceptions" "Ljava/util/List;") ∈ gw := gw_t3 (i := 85) rfl rfl
theorem hw566 : (Jvm.Cond.lays "java/lang/Throwable" "java/lang/Throwable" "suppressedExceptions" "Ljava/util/List;") ∈ gw := gw_t3 (i := 86) rfl rfl
theorem hw567 : (Jvm.Cond.lays "java/lang/IllegalStateException" "java/lang/Throwable" "detailMessage" "Ljava/lang/String;") ∈ gw := gw_t3 (i := 87) rfl rfl
theorem hw568 : (Jvm.Cond.lays "java/lang/Throwable" "java/lang/Throwable" "detailMessage" "Ljava/lang/String;") ∈ gw := gw_t3 (i := 88) rfl rfl
theorem hw569 : (Jvm.Cond.lays "java/lang/IllegalStateException" "java/lang/Throwable" "backtrace" "Ljava/lang/Object;") ∈ gw := gw_t3 (i := 89) rfl rfl
theorem hw570 : (Jvm.Cond.lays "java/lang/Throwable" "java/lang/Throwable" "backtrace" "Ljava/lang/Object;") ∈ gw := gw_t3 (i := 90) rfl rfl
theorem hw571 : (Jvm.Cond.fieldLink "java/lang/Throwable" (198 : Nat) "java/lang/Throwable" "backtrace" "Ljava/lang/Object;") ∈ gw := gw_t3 (i := 91) rfl rfl
theorem hw572 : (Jvm.Cond.superclass "java/lang/Throwable" "java/lang/Object") ∈ gw := gw_t3 (i := 92) rfl rfl
theorem hw573 : (Jvm.Cond.instanceMethod ({ cls := "java/lang/Throwable", name := "<init>", desc := "()V" } : Jvm.MethodName)) ∈ gw := gw_t3 (i := 93) rfl rfl
theorem hw574 : (Jvm.Cond.code ({ cls := "java/lang/Throwable", name := "<init>", desc := "()V" } : Jvm.MethodName) prog_16_method_1_code (1 : Nat) (Option.none : Option Jvm.ClassFile.FieldType)) ∈ gw := gw_t3 (i := 94) rfl rfl
theorem hw575 : (Jvm.Cond.methodLink "java/lang/Throwable" (1 : Nat) ({ cls := "java/lang/Object", name := "<init>", desc := "()V" } : Jvm.MethodName)) ∈ gw := gw_t3 (i := 95) rfl rfl
theorem hw576 : (Jvm.Cond.fieldLink "java/lang/Throwable" (13 : Nat) "java/lang/Throwable" "UNASSIGNED_STACK" "[Ljava/lang/StackTraceElement;") ∈ gw := gw_t3 (i := 96) rfl rfl
theorem hw578 : (Jvm.Cond.fieldLink "java/lang/Throwable" (20 : Nat) "java/lang/Throwable" "SUPPRESSED_SENTINEL" "Ljava/util/List;") ∈ gw := gw_t3 (i := 98) rfl rfl
theorem hw580 : (Jvm.Cond.methodLink "java/lang/Throwable" (27 : Nat) ({ cls := "java/lang/Throwable", name := "fillInStackTrace", desc := "()Ljava/lang/Throwable;" } : Jvm.MethodName)) ∈ gw := gw_t3 (i := 100) rfl rfl
theorem hw581 : (Jvm.Cond.instanceMethod ({ cls := "java/lang/Throwable", name := "fillInStackTrace", desc := "()Ljava/lang/Throwable;" } : Jvm.MethodName)) ∈ gw := gw_t3 (i := 101) rfl rfl
theorem hw582 : (Jvm.Cond.sameMethod "java/lang/Throwable" "java/lang/Throwable" "fillInStackTrace" "()Ljava/lang/Throwable;") ∈ gw := gw_t3 (i := 102) rfl rfl
theorem hw583 : (Jvm.Cond.codeSync ({ cls := "java/lang/Throwable", name := "fillInStackTrace", desc := "()Ljava/lang/Throwable;" } : Jvm.MethodName) prog_16_method_18_code (1 : Nat) (Option.some (Jvm.ClassFile.FieldType.object "java/lang/Throwable"))) ∈ gw := gw_t3 (i := 103) rfl rfl
theorem hw584 : (Jvm.Cond.methodLink "java/lang/Throwable" (202 : Nat) ({ cls := "java/lang/Throwable", name := "fillInStackTrace", desc := "(I)Ljava/lang/Throwable;" } : Jvm.MethodName)) ∈ gw := gw_t3 (i := 104) rfl rfl
theorem hw586 : (Jvm.Cond.instanceMethod ({ cls := "java/lang/Throwable", name := "fillInStackTrace", desc := "(I)Ljava/lang/Throwable;" } : Jvm.MethodName)) ∈ gw := gw_t3 (i := 106) rfl rfl
theorem hw587 : (Jvm.Cond.instantiable "java/lang/Throwable" (6 : Nat)) ∈ gw := gw_t3 (i := 107) rfl rfl
theorem hw588 : (Jvm.Cond.native ({ cls := "java/lang/Throwable", name := "fillInStackTrace", desc := "(I)Ljava/lang/Throwable;" } : Jvm.MethodName)) ∈ gw := gw_t3 (i := 108) rfl rfl
theorem hw590 : (Jvm.Cond.methodLink "RoundColumns" (109 : Nat) ({ cls := "java/lang/IllegalStateException", name := "<init>", desc := "(Ljava/lang/String;)V" } : Jvm.MethodName)) ∈ gw := gw_t3 (i := 110) rfl rfl
theorem hw591 : (Jvm.Cond.instanceMethod ({ cls := "java/lang/IllegalStateException", name := "<init>", desc := "(Ljava/lang/String;)V" } : Jvm.MethodName)) ∈ gw := gw_t3 (i := 111) rfl rfl
theorem hw592 : (Jvm.Cond.code ({ cls := "java/lang/IllegalStateException", name := "<init>", desc := "(Ljava/lang/String;)V" } : Jvm.MethodName) prog_10_method_2_code (2 : Nat) (Option.none : Option Jvm.ClassFile.FieldType)) ∈ gw := gw_t3 (i := 112) rfl rfl
theorem hw593 : (Jvm.Cond.methodLink "java/lang/IllegalStateException" (7 : Nat) ({ cls := "java/lang/RuntimeException", name := "<init>", desc := "(Ljava/lang/String;)V" } : Jvm.MethodName)) ∈ gw := gw_t3 (i := 113) rfl rfl
theorem hw594 : (Jvm.Cond.instanceMethod ({ cls := "java/lang/RuntimeException", name := "<init>", desc := "(Ljava/lang/String;)V" } : Jvm.MethodName)) ∈ gw := gw_t3 (i := 114) rfl rfl
theorem hw595 : (Jvm.Cond.code ({ cls := "java/lang/RuntimeException", name := "<init>", desc := "(Ljava/lang/String;)V" } : Jvm.MethodName) prog_13_method_2_code (2 : Nat) (Option.none : Option Jvm.ClassFile.FieldType)) ∈ gw := gw_t3 (i := 115) rfl rfl
theorem hw596 : (Jvm.Cond.methodLink "java/lang/RuntimeException" (7 : Nat) ({ cls := "java/lang/Exception", name := "<init>", desc := "(Ljava/lang/String;)V" } : Jvm.MethodName)) ∈ gw := gw_t3 (i := 116) rfl rfl
theorem hw597 : (Jvm.Cond.instanceMethod ({ cls := "java/lang/Exception", name := "<init>", desc := "(Ljava/lang/String;)V" } : Jvm.MethodName)) ∈ gw := gw_t3 (i := 117) rfl rfl
theorem hw598 : (Jvm.Cond.code ({ cls := "java/lang/Exception", name := "<init>", desc := "(Ljava/lang/String;)V" } : Jvm.MethodName) prog_9_method_2_code (2 : Nat) (Option.none : Option Jvm.ClassFile.FieldType)) ∈ gw := gw_t3 (i := 118) rfl rfl
theorem hw599 : (Jvm.Cond.methodLink "java/lang/Exception" (7 : Nat) ({ cls := "java/lang/Throwable", name := "<init>", desc := "(Ljava/lang/String;)V" } : Jvm.MethodName)) ∈ gw := gw_t3 (i := 119) rfl rfl
theorem hw600 : (Jvm.Cond.instanceMethod ({ cls := "java/lang/Throwable", name := "<init>", desc := "(Ljava/lang/String;)V" } : Jvm.MethodName)) ∈ gw := gw_t3 (i := 120) rfl rfl
theorem hw601 : (Jvm.Cond.code ({ cls := "java/lang/Throwable", name := "<init>", desc := "(Ljava/lang/String;)V" } : Jvm.MethodName) prog_16_method_2_code (2 : Nat) (Option.none : Option Jvm.ClassFile.FieldType)) ∈ gw := gw_t3 (i := 121) rfl rfl
theorem hw602 : (Jvm.Cond.fieldLink "java/lang/Throwable" (198 : Nat) "java/lang/Throwable" "backtrace" "Ljava/lang/Object;") ∈ gw := gw_t3 (i := 122) rfl rfl
theorem hw603 : (Jvm.Cond.fieldLink "java/lang/Throwable" (31 : Nat) "java/lang/Throwable" "detailMessage" "Ljava/lang/String;") ∈ gw := gw_t3 (i := 123) rfl rfl
theorem hw604 : (Jvm.Cond.fieldLink "java/lang/Throwable" (7 : Nat) "java/lang/Throwable" "cause" "Ljava/lang/Throwable;") ∈ gw := gw_t3 (i := 124) rfl rfl
theorem hw605 : (Jvm.Cond.fieldLink "java/lang/Throwable" (17 : Nat) "java/lang/Throwable" "stackTrace" "[Ljava/lang/StackTraceElement;") ∈ gw := gw_t3 (i := 125) rfl rfl
theorem hw606 : (Jvm.Cond.fieldLink "java/lang/Throwable" (24 : Nat) "java/lang/Throwable" "suppressedExceptions" "Ljava/util/List;") ∈ gw := gw_t3 (i := 126) rfl rfl
theorem hw607 : (Jvm.Cond.soleField "java/lang/Throwable" "backtrace") ∈ gw := gw_t3 (i := 127) rfl rfl
theorem hw608 : (Jvm.Cond.soleField "java/lang/Throwable" "detailMessage") ∈ gw := gw_t3 (i := 128) rfl rfl
theorem hw609 : (Jvm.Cond.soleField "java/lang/Throwable" "cause") ∈ gw := gw_t3 (i := 129) rfl rfl
theorem hw610 : (Jvm.Cond.soleField "java/lang/Throwable" "stackTrace") ∈ gw := gw_t3 (i := 130) rfl rfl
theorem hw611 : (Jvm.Cond.lays "java/lang/IllegalStateException" "java/lang/Throwable" "depth" "I") ∈ gw := gw_t3 (i := 131) rfl rfl
theorem hw612 : (Jvm.Cond.soleField "java/lang/Throwable" "depth") ∈ gw := gw_t3 (i := 132) rfl rfl
theorem hw613 : (Jvm.Cond.soleField "java/lang/Throwable" "suppressedExceptions") ∈ gw := gw_t3 (i := 133) rfl rfl
theorem hw614 : (Jvm.Cond.superclass "java/lang/IllegalStateException" "java/lang/RuntimeException") ∈ gw := gw_t3 (i := 134) rfl rfl
theorem hw615 : (Jvm.Cond.arrayClass Jvm.ClassFile.FieldType.byte) ∈ gw := gw_t3 (i := 135) rfl rfl
theorem hw616 : (Jvm.Cond.methodLink "RoundColumns" (112 : Nat) ({ cls := "RoundColumns$Mixtures", name := "solve", desc := "(LRoundColumns$Rounds;)Z" } : Jvm.MethodName)) ∈ gw := gw_t3 (i := 136) rfl rfl
theorem hw617 : (Jvm.Cond.instanceMethod ({ cls := "RoundColumns$Mixtures", name := "solve", desc := "(LRoundColumns$Rounds;)Z" } : Jvm.MethodName)) ∈ gw := gw_t3 (i := 137) rfl rfl
theorem hw618 : (Jvm.Cond.selects "RoundColumns$Mixtures" ({ cls := "RoundColumns$Mixtures", name := "solve", desc := "(LRoundColumns$Rounds;)Z" } : Jvm.MethodName) ({ cls := "RoundColumns$Mixtures", name := "solve", desc := "(LRoundColumns$Rounds;)Z" } : Jvm.MethodName)) ∈ gw := gw_t3 (i := 138) rfl rfl
theorem hw619 : (Jvm.Cond.code ({ cls := "RoundColumns$Mixtures", name := "solve", desc := "(LRoundColumns$Rounds;)Z" } : Jvm.MethodName) prog_3_method_2_code (2 : Nat) (Option.some Jvm.ClassFile.FieldType.boolean)) ∈ gw := gw_t3 (i := 139) rfl rfl
theorem hw620 : (Jvm.Cond.methodLink "RoundColumns$Mixtures" (36 : Nat) ({ cls := "RoundColumns$FractionRow", name := "forget", desc := "()V" } : Jvm.MethodName)) ∈ gw := gw_t3 (i := 140) rfl rfl
theorem hw621 : (Jvm.Cond.instanceMethod ({ cls := "RoundColumns$FractionRow", name := "forget", desc := "()V" } : Jvm.MethodName)) ∈ gw := gw_t3 (i := 141) rfl rfl
theorem hw622 : (Jvm.Cond.selects "RoundColumns$FractionRow" ({ cls := "RoundColumns$FractionRow", name := "forget", desc := "()V" } : Jvm.MethodName) ({ cls := "RoundColumns$FractionRow", name := "forget", desc := "()V" } : Jvm.MethodName)) ∈ gw := gw_t3 (i := 142) rfl rfl
theorem hw623 : (Jvm.Cond.code ({ cls := "RoundColumns$FractionRow", name := "forget", desc := "()V" } : Jvm.MethodName) prog_2_method_2_code (2 : Nat) (Option.none : Option Jvm.ClassFile.FieldType)) ∈ gw := gw_t3 (i := 143) rfl rfl
theorem hw624 : (Jvm.Cond.classLink "RoundColumnsLaw" (16 : Nat) "RoundColumnsModel") ∈ gw := gw_t3 (i := 144) rfl rfl
theorem hw625 : (Jvm.Cond.instantiable "RoundColumnsModel" (30 : Nat)) ∈ gw := gw_t3 (i := 145) rfl rfl
theorem hw626 : (Jvm.Cond.methodLink "RoundColumnsLaw" (18 : Nat) ({ cls := "RoundColumnsModel", name := "<init>", desc := "()V" } : Jvm.MethodName)) ∈ gw := gw_t3 (i := 146) rfl rfl
theorem hw627 : (Jvm.Cond.instanceMethod ({ cls := "RoundColumnsModel", name := "<init>", desc := "()V" } : Jvm.MethodName)) ∈ gw := gw_t3 (i := 147) rfl rfl
theorem hw628 : (Jvm.Cond.code ({ cls := "RoundColumnsModel", name := "<init>", desc := "()V" } : Jvm.MethodName) prog_8_method_1_code (2 : Nat) (Option.none : Option Jvm.ClassFile.FieldType)) ∈ gw := gw_t3 (i := 148) rfl rfl
theorem hw629 : (Jvm.Cond.methodLink "RoundColumnsModel" (1 : Nat) ({ cls := "java/lang/Object", name := "<init>", desc := "()V" } : Jvm.MethodName)) ∈ gw := gw_t3 (i := 149) rfl rfl
theorem hw630 : (Jvm.Cond.fieldLink "RoundColumnsModel" (76 : Nat) "RoundColumnsModel" "bins" "I") ∈ gw := gw_t3 (i := 150) rfl rfl
theorem hw631 : (Jvm.Cond.fieldLink "RoundColumnsModel" (7 : Nat) "RoundColumnsModel" "kilograms" "[I") ∈ gw := gw_t3 (i := 151) rfl rfl
theorem hw632 : (Jvm.Cond.fieldLink "RoundColumnsModel" (13 : Nat) "RoundColumnsModel" "seconds" "[I") ∈ gw := gw_t3 (i := 152) rfl rfl
theorem hw633 : (Jvm.Cond.fieldLink "RoundColumnsModel" (16 : Nat) "RoundColumnsModel" "waySeconds" "[I") ∈ gw := gw_t3 (i := 153) rfl rfl
theorem hw634 : (Jvm.Cond.fieldLink "RoundColumnsModel" (19 : Nat) "RoundColumnsModel" "wayCosts" "[I") ∈ gw := gw_t3 (i := 154) rfl rfl
theorem hw635 : (Jvm.Cond.fieldLink "RoundColumnsModel" (93 : Nat) "RoundColumnsModel" "load" "I") ∈ gw := gw_t3 (i := 155) rfl rfl
theorem hw636 : (Jvm.Cond.fieldLink "RoundColumnsModel" (96 : Nat) "RoundColumnsModel" "time" "I") ∈ gw := gw_t3 (i := 156) rfl rfl
theorem hw637 : (Jvm.Cond.fieldLink "RoundColumnsModel" (99 : Nat) "RoundColumnsModel" "vehicles" "I") ∈ gw := gw_t3 (i := 157) rfl rfl
theorem hw638 : (Jvm.Cond.fieldLink "RoundColumnsModel" (22 : Nat) "RoundColumnsModel" "pairs" "[I") ∈ gw := gw_t3 (i := 158) rfl rfl
theorem hw639 : (Jvm.Cond.fieldLink "RoundColumnsModel" (133 : Nat) "RoundColumnsModel" "isFound" "Z") ∈ gw := gw_t3 (i := 159) rfl rfl
theorem hw640 : (Jvm.Cond.fieldLink "RoundColumnsModel" (137 : Nat) "RoundColumnsModel" "foundBins" "I") ∈ gw := gw_t3 (i := 160) rfl rfl
theorem hw641 : (Jvm.Cond.fieldLink "RoundColumnsModel" (140 : Nat) "RoundColumnsModel" "foundLoad" "I") ∈ gw := gw_t3 (i := 161) rfl rfl
theorem hw642 : (Jvm.Cond.fieldLink "RoundColumnsModel" (143 : Nat) "RoundColumnsModel" "foundVehicles" "I") ∈ gw := gw_t3 (i := 162) rfl rfl
theorem hw643 : (Jvm.Cond.fieldLink "RoundColumnsModel" (25 : Nat) "RoundColumnsModel" "foundKilograms" "[I") ∈ gw := gw_t3 (i := 163) rfl rfl
theorem hw644 : (Jvm.Cond.fieldLink "RoundColumnsModel" (28 : Nat) "RoundColumnsModel" "rows" "[Z") ∈ gw := gw_t3 (i := 164) rfl rfl
theorem hw645 : (Jvm.Cond.fieldLink "RoundColumnsModel" (32 : Nat) "RoundColumnsModel" "rounds" "[Z") ∈ gw := gw_t3 (i := 165) rfl rfl
theorem hw646 : (Jvm.Cond.fieldLink "RoundColumnsModel" (35 : Nat) "RoundColumnsModel" "costs" "[I") ∈ gw := gw_t3 (i := 166) rfl rfl
theorem hw647 : (Jvm.Cond.fieldLink "RoundColumnsModel" (38 : Nat) "RoundColumnsModel" "lists" "[I") ∈ gw := gw_t3 (i := 167) rfl rfl
theorem hw648 : (Jvm.Cond.fieldLink "RoundColumnsModel" (41 : Nat) "RoundColumnsModel" "barred" "[Z") ∈ gw := gw_t3 (i := 168) rfl rfl
theorem hw649 : (Jvm.Cond.fieldLink "RoundColumnsModel" (72 : Nat) "RoundColumnsModel" "fault" "I") ∈ gw := gw_t3 (i := 169) rfl rfl
theorem hw650 : (Jvm.Cond.fieldLink "RoundColumnsModel" (44 : Nat) "RoundColumnsModel" "row" "[I") ∈ gw := gw_t3 (i := 170) rfl rfl
theorem hw651 : (Jvm.Cond.fieldLink "RoundColumnsModel" (102 : Nat) "RoundColumnsModel" "length" "I") ∈ gw := gw_t3 (i := 171) rfl rfl
theorem hw652 : (Jvm.Cond.fieldLink "RoundColumnsModel" (47 : Nat) "RoundColumnsModel" "newRows" "[Z") ∈ gw := gw_t3 (i := 172) rfl rfl
theorem hw653 : (Jvm.Cond.fieldLink "RoundColumnsModel" (50 : Nat) "RoundColumnsModel" "newRounds" "[Z") ∈ gw := gw_t3 (i := 173) rfl rfl
theorem hw654 : (Jvm.Cond.fieldLink "RoundColumnsModel" (53 : Nat) "RoundColumnsModel" "newCosts" "[I") ∈ gw := gw_t3 (i := 174) rfl rfl
theorem hw655 : (Jvm.Cond.fieldLink "RoundColumnsModel" (56 : Nat) "RoundColumnsModel" "newLists" "[I") ∈ gw := gw_t3 (i := 175) rfl rfl
theorem hw656 : (Jvm.Cond.fieldLink "RoundColumnsModel" (59 : Nat) "RoundColumnsModel" "over" "[J") ∈ gw := gw_t3 (i := 176) rfl rfl
theorem hw657 : (Jvm.Cond.fieldLink "RoundColumnsModel" (63 : Nat) "RoundColumnsModel" "under" "[J") ∈ gw := gw_t3 (i := 177) rfl rfl
theorem hw658 : (Jvm.Cond.fieldLink "RoundColumnsModel" (66 : Nat) "RoundColumnsModel" "based" "[I") ∈ gw := gw_t3 (i := 178) rfl rfl
theorem hw659 : (Jvm.Cond.fieldLink "RoundColumnsModel" (69 : Nat) "RoundColumnsModel" "open" "[Z") ∈ gw := gw_t3 (i := 179) rfl rfl
theorem hw660 : (Jvm.Cond.lays "RoundColumnsModel" "RoundColumnsModel" "bins" "I") ∈ gw := gw_t3 (i := 180) rfl rfl
theorem hw661 : (Jvm.Cond.soleField "RoundColumnsModel" "bins") ∈ gw := gw_t3 (i := 181) rfl rfl
theorem hw662 : (Jvm.Cond.laysFinal "RoundColumnsModel" "RoundColumnsModel" "kilograms" "[I") ∈ gw := gw_t3 (i := 182) rfl rfl
theorem hw663 : (Jvm.Cond.soleField "RoundColumnsModel" "kilograms") ∈ gw := gw_t3 (i := 183) rfl rfl
theorem hw664 : (Jvm.Cond.laysFinal "RoundColumnsModel" "RoundColumnsModel" "seconds" "[I") ∈ gw := gw_t3 (i := 184) rfl rfl
theorem hw665 : (Jvm.Cond.soleField "RoundColumnsModel" "seconds") ∈ gw := gw_t3 (i := 185) rfl rfl
theorem hw666 : (Jvm.Cond.laysFinal "RoundColumnsModel" "RoundColumnsModel" "waySeconds" "[I") ∈ gw := gw_t3 (i := 186) rfl rfl
theorem hw667 : (Jvm.Cond.soleField "RoundColumnsModel" "waySeconds") ∈ gw := gw_t3 (i := 187) rfl rfl
theorem hw668 : (Jvm.Cond.laysFinal "RoundColumnsModel" "RoundColumnsModel" "wayCosts" "[I") ∈ gw := gw_t3 (i := 188) rfl rfl
theorem hw669 : (Jvm.Cond.soleField "RoundColumnsModel" "wayCosts") ∈ gw := gw_t3 (i := 189) rfl rfl
theorem hw670 : (Jvm.Cond.lays "RoundColumnsModel" "RoundColumnsModel" "load" "I") ∈ gw := gw_t3 (i := 190) rfl rfl
theorem hw671 : (Jvm.Cond.soleField "RoundColumnsModel" "load") ∈ gw := gw_t3 (i := 191) rfl rfl
theorem hw672 : (Jvm.Cond.lays "RoundColumnsModel" "RoundColumnsModel" "time" "I") ∈ gw := gw_t3 (i := 192) rfl rfl
theorem hw673 : (Jvm.Cond.soleField "RoundColumnsModel" "time") ∈ gw := gw_t3 (i := 193) rfl rfl
theorem hw674 : (Jvm.Cond.lays "RoundColumnsModel" "RoundColumnsModel" "vehicles" "I") ∈ gw := gw_t3 (i := 194) rfl rfl
theorem hw675 : (Jvm.Cond.soleField "RoundColumnsModel" "vehicles") ∈ gw := gw_t3 (i := 195) rfl rfl
theorem hw676 : (Jvm.Cond.laysFinal "RoundColumnsModel" "RoundColumnsModel" "pairs" "[I") ∈ gw := gw_t3 (i := 196) rfl rfl
theorem hw677 : (Jvm.Cond.soleField "RoundColumnsModel" "pairs") ∈ gw := gw_t3 (i := 197) rfl rfl
theorem hw678 : (Jvm.Cond.lays "RoundColumnsModel" "RoundColumnsModel" "isFound" "Z") ∈ gw := gw_t3 (i := 198) rfl rfl
theorem hw679 : (Jvm.Cond.soleField "RoundColumnsModel" "isFound") ∈ gw := gw_t3 (i := 199) rfl rfl
theorem hw680 : (Jvm.Cond.lays "RoundColumnsModel" "RoundColumnsModel" "foundBins" "I") ∈ gw := gw_t3 (i := 200) rfl rfl
theorem hw681 : (Jvm.Cond.soleField "RoundColumnsModel" "foundBins") ∈ gw := gw_t3 (i := 201) rfl rfl
theorem hw682 : (Jvm.Cond.lays "RoundColumnsModel" "RoundColumnsModel" "foundLoad" "I") ∈ gw := gw_t3 (i := 202) rfl rfl
theorem hw683 : (Jvm.Cond.soleField "RoundColumnsModel" "foundLoad") ∈ gw := gw_t3 (i := 203) rfl rfl
theorem hw684 : (Jvm.Cond.lays "RoundColumnsModel" "RoundColumnsModel" "foundVehicles" "I") ∈ gw := gw_t3 (i := 204) rfl rfl
theorem hw685 : (Jvm.Cond.soleField "RoundColumnsModel" "foundVehicles") ∈ gw := gw_t3 (i := 205) rfl rfl
theorem hw686 : (Jvm.Cond.laysFinal "RoundColumnsModel" "RoundColumnsModel" "foundKilograms" "[I") ∈ gw := gw_t3 (i := 206) rfl rfl
theorem hw687 : (Jvm.Cond.soleField "RoundColumnsModel" "foundKilograms") ∈ gw := gw_t3 (i := 207) rfl rfl
theorem hw688 : (Jvm.Cond.laysFinal "RoundColumnsModel" "RoundColumnsModel" "rows" "[Z") ∈ gw := gw_t3 (i := 208) rfl rfl
theorem hw689 : (Jvm.Cond.soleField "RoundColumnsModel" "rows") ∈ gw := gw_t3 (i := 209) rfl rfl
theorem hw690 : (Jvm.Cond.laysFinal "RoundColumnsModel" "RoundColumnsModel" "rounds" "[Z") ∈ gw := gw_t3 (i := 210) rfl rfl
theorem hw691 : (Jvm.Cond.soleField "RoundColumnsModel" "rounds") ∈ gw := gw_t3 (i := 211) rfl rfl
theorem hw692 : (Jvm.Cond.laysFinal "RoundColumnsModel" "RoundColumnsModel" "costs" "[I") ∈ gw := gw_t3 (i := 212) rfl rfl
theorem hw693 : (Jvm.Cond.soleField "RoundColumnsModel" "costs") ∈ gw := gw_t3 (i := 213) rfl rfl
theorem hw694 : (Jvm.Cond.laysFinal "RoundColumnsModel" "RoundColumnsModel" "lists" "[I") ∈ gw := gw_t3 (i := 214) rfl rfl
theorem hw695 : (Jvm.Cond.soleField "RoundColumnsModel" "lists") ∈ gw := gw_t3 (i := 215) rfl rfl
theorem hw696 : (Jvm.Cond.laysFinal "RoundColumnsModel" "RoundColumnsModel" "barred" "[Z") ∈ gw := gw_t3 (i := 216) rfl rfl
theorem hw697 : (Jvm.Cond.soleField "RoundColumnsModel" "barred") ∈ gw := gw_t3 (i := 217) rfl rfl
theorem hw698 : (Jvm.Cond.lays "RoundColumnsModel" "RoundColumnsModel" "fault" "I") ∈ gw := gw_t3 (i := 218) rfl rfl
theorem hw699 : (Jvm.Cond.soleField "RoundColumnsModel" "fault") ∈ gw := gw_t3 (i := 219) rfl rfl
theorem hw700 : (Jvm.Cond.laysFinal "RoundColumnsModel" "RoundColumnsModel" "row" "[I") ∈ gw := gw_t3 (i := 220) rfl rfl
theorem hw701 : (Jvm.Cond.soleField "RoundColumnsModel" "row") ∈ gw := gw_t3 (i := 221) rfl rfl
theorem hw702 : (Jvm.Cond.lays "RoundColumnsModel" "RoundColumnsModel" "length" "I") ∈ gw := gw_t3 (i := 222) rfl rfl
theorem hw703 : (Jvm.Cond.soleField "RoundColumnsModel" "length") ∈ gw := gw_t3 (i := 223) rfl rfl
theorem hw704 : (Jvm.Cond.laysFinal "RoundColumnsModel" "RoundColumnsModel" "newRows" "[Z") ∈ gw := gw_t3 (i := 224) rfl rfl
theorem hw705 : (Jvm.Cond.soleField "RoundColumnsModel" "newRows") ∈ gw := gw_t3 (i := 225) rfl rfl
theorem hw706 : (Jvm.Cond.laysFinal "RoundColumnsModel" "RoundColumnsModel" "newRounds" "[Z") ∈ gw := gw_t3 (i := 226) rfl rfl
theorem hw707 : (Jvm.Cond.soleField "RoundColumnsModel" "newRounds") ∈ gw := gw_t3 (i := 227) rfl rfl
theorem hw708 : (Jvm.Cond.laysFinal "RoundColumnsModel" "RoundColumnsModel" "newCosts" "[I") ∈ gw := gw_t3 (i := 228) rfl rfl
theorem hw709 : (Jvm.Cond.soleField "RoundColumnsModel" "newCosts") ∈ gw := gw_t3 (i := 229) rfl rfl
theorem hw710 : (Jvm.Cond.laysFinal "RoundColumnsModel" "RoundColumnsModel" "newLists" "[I") ∈ gw := gw_t3 (i := 230) rfl rfl
theorem hw711 : (Jvm.Cond.soleField "RoundColumnsModel" "newLists") ∈ gw := gw_t3 (i := 231) rfl rfl
theorem hw712 : (Jvm.Cond.laysFinal "RoundColumnsModel" "RoundColumnsModel" "over" "[J") ∈ gw := gw_t3 (i := 232) rfl rfl
theorem hw713 : (Jvm.Cond.soleField "RoundColumnsModel" "over") ∈ gw := gw_t3 (i := 233) rfl rfl
theorem hw714 : (Jvm.Cond.laysFinal "RoundColumnsModel" "RoundColumnsModel" "under" "[J") ∈ gw := gw_t3 (i := 234) rfl rfl
theorem hw715 : (Jvm.Cond.soleField "RoundColumnsModel" "under") ∈ gw := gw_t3 (i := 235) rfl rfl
theorem hw716 : (Jvm.Cond.laysFinal "RoundColumnsModel" "RoundColumnsModel" "based" "[I") ∈ gw := gw_t3 (i := 236) rfl rfl
theorem hw717 : (Jvm.Cond.soleField "RoundColumnsModel" "based") ∈ gw := gw_t3 (i := 237) rfl rfl
theorem hw718 : (Jvm.Cond.laysFinal "RoundColumnsModel" "RoundColumnsModel" "open" "[Z") ∈ gw := gw_t3 (i := 238) rfl rfl
theorem hw719 : (Jvm.Cond.soleField "RoundColumnsModel" "open") ∈ gw := gw_t3 (i := 239) rfl rfl
theorem hw720 : (Jvm.Cond.superclass "RoundColumnsModel" "java/lang/Object") ∈ gw := gw_t4 (i := 0) rfl rfl
theorem hw721 : (Jvm.Cond.methodLink "RoundColumnsLaw" (25 : Nat) ({ cls := "RoundColumnsModel", name := "bin", desc := "(JI)I" } : Jvm.MethodName)) ∈ gw := gw_t4 (i := 1) rfl rfl
theorem hw722 : (Jvm.Cond.instanceMethod ({ cls := "RoundColumnsModel", name := "bin", desc := "(JI)I" } : Jvm.MethodName)) ∈ gw := gw_t4 (i := 2) rfl rfl
theorem hw723 : (Jvm.Cond.selects "RoundColumnsModel" ({ cls := "RoundColumnsModel", name := "bin", desc := "(JI)I" } : Jvm.MethodName) ({ cls := "RoundColumnsModel", name := "bin", desc := "(JI)I" } : Jvm.MethodName)) ∈ gw := gw_t4 (i := 3) rfl rfl
theorem hw724 : (Jvm.Cond.code ({ cls := "RoundColumnsModel", name := "bin", desc := "(JI)I" } : Jvm.MethodName) prog_8_method_5_code (4 : Nat) (Option.some Jvm.ClassFile.FieldType.int)) ∈ gw := gw_t4 (i := 4) rfl rfl
theorem hw725 : (Jvm.Cond.constantLong "RoundColumnsModel" (79 : Nat) (1000 : Int64)) ∈ gw := gw_t4 (i := 5) rfl rfl
theorem hw726 : (Jvm.Cond.methodLink "RoundColumnsModel" (81 : Nat) ({ cls := "RoundColumnsModel", name := "isIn", desc := "(JJ)Z" } : Jvm.MethodName)) ∈ gw := gw_t4 (i := 6) rfl rfl
theorem hw727 : (Jvm.Cond.static ({ cls := "RoundColumnsModel", name := "isIn", desc := "(JJ)Z" } : Jvm.MethodName)) ∈ gw := gw_t4 (i := 7) rfl rfl
theorem hw728 : (Jvm.Cond.code ({ cls := "RoundColumnsModel", name := "isIn", desc := "(JJ)Z" } : Jvm.MethodName) prog_8_method_3_code (4 : Nat) (Option.some Jvm.ClassFile.FieldType.boolean)) ∈ gw := gw_t4 (i := 8) rfl rfl
theorem hw729 : (Jvm.Cond.methodLink "RoundColumnsLaw" (30 : Nat) ({ cls := "RoundColumnsModel", name := "way", desc := "(IIIJ)Z" } : Jvm.MethodName)) ∈ gw := gw_t4 (i := 9) rfl rfl
theorem hw730 : (Jvm.Cond.instanceMethod ({ cls := "RoundColumnsModel", name := "way", desc := "(IIIJ)Z" } : Jvm.MethodName)) ∈ gw := gw_t4 (i := 10) rfl rfl
theorem hw731 : (Jvm.Cond.selects "RoundColumnsModel" ({ cls := "RoundColumnsModel", name := "way", desc := "(IIIJ)Z" } : Jvm.MethodName) ({ cls := "RoundColumnsModel", name := "way", desc := "(IIIJ)Z" } : Jvm.MethodName)) ∈ gw := gw_t4 (i := 11) rfl rfl
theorem hw732 : (Jvm.Cond.code ({ cls := "RoundColumnsModel", name := "way", desc := "(IIIJ)Z" } : Jvm.MethodName) prog_8_method_6_code (6 : Nat) (Option.some Jvm.ClassFile.FieldType.boolean)) ∈ gw := gw_t4 (i := 12) rfl rfl
theorem hw733 : (Jvm.Cond.constantLong "RoundColumnsModel" (85 : Nat) (2000 : Int64)) ∈ gw := gw_t4 (i := 13) rfl rfl
theorem hw734 : (Jvm.Cond.methodLink "RoundColumnsLaw" (35 : Nat) ({ cls := "RoundColumnsModel", name := "vehicle", desc := "(JII)Z" } : Jvm.MethodName)) ∈ gw := gw_t4 (i := 14) rfl rfl
theorem hw735 : (Jvm.Cond.instanceMethod ({ cls := "RoundColumnsModel", name := "vehicle", desc := "(JII)Z" } : Jvm.MethodName)) ∈ gw := gw_t4 (i := 15) rfl rfl
theorem hw736 : (Jvm.Cond.selects "RoundColumnsModel" ({ cls := "RoundColumnsModel", name := "vehicle", desc := "(JII)Z" } : Jvm.MethodName) ({ cls := "RoundColumnsModel", name := "vehicle", desc := "(JII)Z" } : Jvm.MethodName)) ∈ gw := gw_t4 (i := 16) rfl rfl
theorem hw737 : (Jvm.Cond.code ({ cls := "RoundColumnsModel", name := "vehicle", desc := "(JII)Z" } : Jvm.MethodName) prog_8_method_7_code (5 : Nat) (Option.some Jvm.ClassFile.FieldType.boolean)) ∈ gw := gw_t4 (i := 17) rfl rfl
theorem hw738 : (Jvm.Cond.constantLong "RoundColumnsModel" (87 : Nat) (6000 : Int64)) ∈ gw := gw_t4 (i := 18) rfl rfl
theorem hw739 : (Jvm.Cond.constantLong "RoundColumnsModel" (89 : Nat) (20000 : Int64)) ∈ gw := gw_t4 (i := 19) rfl rfl
theorem hw740 : (Jvm.Cond.constantLong "RoundColumnsModel" (91 : Nat) (6 : Int64)) ∈ gw := gw_t4 (i := 20) rfl rfl
theorem hw741 : (Jvm.Cond.methodLink "RoundColumnsLaw" (40 : Nat) ({ cls := "RoundColumnsModel", name := "branch", desc := "(IIZ)Z" } : Jvm.MethodName)) ∈ gw := gw_t4 (i := 21) rfl rfl
theorem hw742 : (Jvm.Cond.instanceMethod ({ cls := "RoundColumnsModel", name := "branch", desc := "(IIZ)Z" } : Jvm.MethodName)) ∈ gw := gw_t4 (i := 22) rfl rfl
theorem hw743 : (Jvm.Cond.selects "RoundColumnsModel" ({ cls := "RoundColumnsModel", name := "branch", desc := "(IIZ)Z" } : Jvm.MethodName) ({ cls := "RoundColumnsModel", name := "branch", desc := "(IIZ)Z" } : Jvm.MethodName)) ∈ gw := gw_t4 (i := 23) rfl rfl
theorem hw744 : (Jvm.Cond.code ({ cls := "RoundColumnsModel", name := "branch", desc := "(IIZ)Z" } : Jvm.MethodName) prog_8_method_8_code (4 : Nat) (Option.some Jvm.ClassFile.FieldType.boolean)) ∈ gw := gw_t4 (i := 24) rfl rfl
theorem hw745 : (Jvm.Cond.methodLink "RoundColumnsLaw" (44 : Nat) ({ cls := "RoundColumnsModel", name := "clear", desc := "()V" } : Jvm.MethodName)) ∈ gw := gw_t4 (i := 25) rfl rfl
theorem hw746 : (Jvm.Cond.instanceMethod ({ cls := "RoundColumnsModel", name := "clear", desc := "()V" } : Jvm.MethodName)) ∈ gw := gw_t4 (i := 26) rfl rfl
theorem hw747 : (Jvm.Cond.selects "RoundColumnsModel" ({ cls := "RoundColumnsModel", name := "clear", desc := "()V" } : Jvm.MethodName) ({ cls := "RoundColumnsModel", name := "clear", desc := "()V" } : Jvm.MethodName)) ∈ gw := gw_t4 (i := 27) rfl rfl
theorem hw748 : (Jvm.Cond.code ({ cls := "RoundColumnsModel", name := "clear", desc := "()V" } : Jvm.MethodName) prog_8_method_9_code (2 : Nat) (Option.none : Option Jvm.ClassFile.FieldType)) ∈ gw := gw_t4 (i := 28) rfl rfl
theorem hw749 : (Jvm.Cond.methodLink "RoundColumnsLaw" (50 : Nat) ({ cls := "RoundColumnsModel", name := "run", desc := "(I)I" } : Jvm.MethodName)) ∈ gw := gw_t4 (i := 29) rfl rfl
theorem hw750 : (Jvm.Cond.instanceMethod ({ cls := "RoundColumnsModel", name := "run", desc := "(I)I" } : Jvm.MethodName)) ∈ gw := gw_t4 (i := 30) rfl rfl
theorem hw751 : (Jvm.Cond.selects "RoundColumnsModel" ({ cls := "RoundColumnsModel", name := "run", desc := "(I)I" } : Jvm.MethodName) ({ cls := "RoundColumnsModel", name := "run", desc := "(I)I" } : Jvm.MethodName)) ∈ gw := gw_t4 (i := 31) rfl rfl
theorem hw752 : (Jvm.Cond.code ({ cls := "RoundColumnsModel", name := "run", desc := "(I)I" } : Jvm.MethodName) prog_8_method_18_code (4 : Nat) (Option.some Jvm.ClassFile.FieldType.int)) ∈ gw := gw_t4 (i := 32) rfl rfl
theorem hw753 : (Jvm.Cond.methodLink "RoundColumnsModel" (130 : Nat) ({ cls := "RoundColumnsModel", name := "search", desc := "()I" } : Jvm.MethodName)) ∈ gw := gw_t4 (i := 33) rfl rfl
theorem hw755 : (Jvm.Cond.instanceMethod ({ cls := "RoundColumnsModel", name := "search", desc := "()I" } : Jvm.MethodName)) ∈ gw := gw_t4 (i := 35) rfl rfl
theorem hw756 : (Jvm.Cond.code ({ cls := "RoundColumnsModel", name := "search", desc := "()I" } : Jvm.MethodName) prog_8_method_16_code (7 : Nat) (Option.some Jvm.ClassFile.FieldType.int)) ∈ gw := gw_t4 (i := 36) rfl rfl
theorem hw757 : (Jvm.Cond.methodLink "RoundColumnsModel" (120 : Nat) ({ cls := "RoundColumnsModel", name := "next", desc := "(Z)Z" } : Jvm.MethodName)) ∈ gw := gw_t4 (i := 37) rfl rfl
theorem hw759 : (Jvm.Cond.instanceMethod ({ cls := "RoundColumnsModel", name := "next", desc := "(Z)Z" } : Jvm.MethodName)) ∈ gw := gw_t4 (i := 39) rfl rfl
theorem hw760 : (Jvm.Cond.code ({ cls := "RoundColumnsModel", name := "next", desc := "(Z)Z" } : Jvm.MethodName) prog_8_method_15_code (5 : Nat) (Option.some Jvm.ClassFile.FieldType.boolean)) ∈ gw := gw_t4 (i := 40) rfl rfl
theorem hw761 : (Jvm.Cond.methodLink "RoundColumnsModel" (113 : Nat) ({ cls := "RoundColumnsModel", name := "setOf", desc := "()I" } : Jvm.MethodName)) ∈ gw := gw_t4 (i := 41) rfl rfl
theorem hw763 : (Jvm.Cond.instanceMethod ({ cls := "RoundColumnsModel", name := "setOf", desc := "()I" } : Jvm.MethodName)) ∈ gw := gw_t4 (i := 43) rfl rfl
theorem hw764 : (Jvm.Cond.code ({ cls := "RoundColumnsModel", name := "setOf", desc := "()I" } : Jvm.MethodName) prog_8_method_10_code (3 : Nat) (Option.some Jvm.ClassFile.FieldType.int)) ∈ gw := gw_t4 (i := 44) rfl rfl
theorem hw765 : (Jvm.Cond.methodLink "RoundColumnsModel" (116 : Nat) ({ cls := "RoundColumnsModel", name := "has", desc := "(II)Z" } : Jvm.MethodName)) ∈ gw := gw_t4 (i := 45) rfl rfl
theorem hw766 : (Jvm.Cond.static ({ cls := "RoundColumnsModel", name := "has", desc := "(II)Z" } : Jvm.MethodName)) ∈ gw := gw_t4 (i := 46) rfl rfl
theorem hw767 : (Jvm.Cond.code ({ cls := "RoundColumnsModel", name := "has", desc := "(II)Z" } : Jvm.MethodName) prog_8_method_4_code (2 : Nat) (Option.some Jvm.ClassFile.FieldType.boolean)) ∈ gw := gw_t4 (i := 47) rfl rfl
theorem hw768 : (Jvm.Cond.methodLink "RoundColumnsModel" (109 : Nat) ({ cls := "RoundColumnsModel", name := "isRow", desc := "()Z" } : Jvm.MethodName)) ∈ gw := gw_t4 (i := 48) rfl rfl
theorem hw770 : (Jvm.Cond.instanceMethod ({ cls := "RoundColumnsModel", name := "isRow", desc := "()Z" } : Jvm.MethodName)) ∈ gw := gw_t4 (i := 50) rfl rfl
theorem hw771 : (Jvm.Cond.code ({ cls := "RoundColumnsModel", name := "isRow", desc := "()Z" } : Jvm.MethodName) prog_8_method_12_code (3 : Nat) (Option.some Jvm.ClassFile.FieldType.boolean)) ∈ gw := gw_t4 (i := 51) rfl rfl
theorem hw772 : (Jvm.Cond.methodLink "RoundColumnsModel" (105 : Nat) ({ cls := "RoundColumnsModel", name := "secondsOf", desc := "()I" } : Jvm.MethodName)) ∈ gw := gw_t4 (i := 52) rfl rfl
theorem hw774 : (Jvm.Cond.instanceMethod ({ cls := "RoundColumnsModel", name := "secondsOf", desc := "()I" } : Jvm.MethodName)) ∈ gw := gw_t4 (i := 54) rfl rfl
theorem hw775 : (Jvm.Cond.code ({ cls := "RoundColumnsModel", name := "secondsOf", desc := "()I" } : Jvm.MethodName) prog_8_method_11_code (4 : Nat) (Option.some Jvm.ClassFile.FieldType.int)) ∈ gw := gw_t4 (i := 55) rfl rfl
theorem hw776 : (Jvm.Cond.methodLink "RoundColumnsModel" (124 : Nat) ({ cls := "RoundColumnsModel", name := "isRound", desc := "()Z" } : Jvm.MethodName)) ∈ gw := gw_t4 (i := 56) rfl rfl
theorem hw778 : (Jvm.Cond.instanceMethod ({ cls := "RoundColumnsModel", name := "isRound", desc := "()Z" } : Jvm.MethodName)) ∈ gw := gw_t4 (i := 58) rfl rfl
theorem hw779 : (Jvm.Cond.code ({ cls := "RoundColumnsModel", name := "isRound", desc := "()Z" } : Jvm.MethodName) prog_8_method_13_code (2 : Nat) (Option.some Jvm.ClassFile.FieldType.boolean)) ∈ gw := gw_t4 (i := 59) rfl rfl
theorem hw780 : (Jvm.Cond.methodLink "RoundColumnsModel" (127 : Nat) ({ cls := "RoundColumnsModel", name := "costOf", desc := "()I" } : Jvm.MethodName)) ∈ gw := gw_t4 (i := 60) rfl rfl
theorem hw782 : (Jvm.Cond.instanceMethod ({ cls := "RoundColumnsModel", name := "costOf", desc := "()I" } : Jvm.MethodName)) ∈ gw := gw_t4 (i := 62) rfl rfl
theorem hw783 : (Jvm.Cond.code ({ cls := "RoundColumnsModel", name := "costOf", desc := "()I" } : Jvm.MethodName) prog_8_method_14_code (3 : Nat) (Option.some Jvm.ClassFile.FieldType.int)) ∈ gw := gw_t4 (i := 63) rfl rfl
theorem hw784 : (Jvm.Cond.methodLink "RoundColumnsModel" (146 : Nat) ({ cls := "RoundColumnsModel", name := "isBarred", desc := "(I)Z" } : Jvm.MethodName)) ∈ gw := gw_t4 (i := 64) rfl rfl
theorem hw786 : (Jvm.Cond.instanceMethod ({ cls := "RoundColumnsModel", name := "isBarred", desc := "(I)Z" } : Jvm.MethodName)) ∈ gw := gw_t4 (i := 66) rfl rfl
theorem hw787 : (Jvm.Cond.code ({ cls := "RoundColumnsModel", name := "isBarred", desc := "(I)Z" } : Jvm.MethodName) prog_8_method_17_code (6 : Nat) (Option.some Jvm.ClassFile.FieldType.boolean)) ∈ gw := gw_t4 (i := 67) rfl rfl
theorem hw788 : (Jvm.Cond.methodLink "RoundColumnsModel" (150 : Nat) ({ cls := "RoundColumnsModel", name := "all", desc := "()I" } : Jvm.MethodName)) ∈ gw := gw_t4 (i := 68) rfl rfl
theorem hw790 : (Jvm.Cond.instanceMethod ({ cls := "RoundColumnsModel", name := "all", desc := "()I" } : Jvm.MethodName)) ∈ gw := gw_t4 (i := 70) rfl rfl
theorem hw791 : (Jvm.Cond.code ({ cls := "RoundColumnsModel", name := "all", desc := "()I" } : Jvm.MethodName) prog_8_method_19_code (1 : Nat) (Option.some Jvm.ClassFile.FieldType.int)) ∈ gw := gw_t4 (i := 71) rfl rfl
theorem hw792 : (Jvm.Cond.methodLink "RoundColumnsModel" (153 : Nat) ({ cls := "RoundColumnsModel", name := "solve", desc := "(II)Z" } : Jvm.MethodName)) ∈ gw := gw_t4 (i := 72) rfl rfl
theorem hw794 : (Jvm.Cond.instanceMethod ({ cls := "RoundColumnsModel", name := "solve", desc := "(II)Z" } : Jvm.MethodName)) ∈ gw := gw_t4 (i := 74) rfl rfl
theorem hw795 : (Jvm.Cond.code ({ cls := "RoundColumnsModel", name := "solve", desc := "(II)Z" } : Jvm.MethodName) prog_8_method_30_code (4 : Nat) (Option.some Jvm.ClassFile.FieldType.boolean)) ∈ gw := gw_t4 (i := 75) rfl rfl
theorem hw796 : (Jvm.Cond.methodLink "RoundColumnsModel" (181 : Nat) ({ cls := "RoundColumnsModel", name := "layOut", desc := "(I)V" } : Jvm.MethodName)) ∈ gw := gw_t4 (i := 76) rfl rfl
theorem hw798 : (Jvm.Cond.instanceMethod ({ cls := "RoundColumnsModel", name := "layOut", desc := "(I)V" } : Jvm.MethodName)) ∈ gw := gw_t4 (i := 78) rfl rfl
theorem hw799 : (Jvm.Cond.code ({ cls := "RoundColumnsModel", name := "layOut", desc := "(I)V" } : Jvm.MethodName) prog_8_method_27_code (7 : Nat) (Option.none : Option Jvm.ClassFile.FieldType)) ∈ gw := gw_t4 (i := 79) rfl rfl
theorem hw800 : (Jvm.Cond.methodLink "RoundColumnsModel" (160 : Nat) ({ cls := "RoundColumnsModel", name := "put", desc := "(IJJ)V" } : Jvm.MethodName)) ∈ gw := gw_t4 (i := 80) rfl rfl
theorem hw802 : (Jvm.Cond.instanceMethod ({ cls := "RoundColumnsModel", name := "put", desc := "(IJJ)V" } : Jvm.MethodName)) ∈ gw := gw_t4 (i := 82) rfl rfl
theorem hw803 : (Jvm.Cond.code ({ cls := "RoundColumnsModel", name := "put", desc := "(IJJ)V" } : Jvm.MethodName) prog_8_method_21_code (8 : Nat) (Option.none : Option Jvm.ClassFile.FieldType)) ∈ gw := gw_t4 (i := 83) rfl rfl
theorem hw804 : (Jvm.Cond.methodLink "RoundColumnsModel" (156 : Nat) ({ cls := "RoundColumnsModel", name := "common", desc := "(JJ)J" } : Jvm.MethodName)) ∈ gw := gw_t4 (i := 84) rfl rfl
theorem hw805 : (Jvm.Cond.static ({ cls := "RoundColumnsModel", name := "common", desc := "(JJ)J" } : Jvm.MethodName)) ∈ gw := gw_t4 (i := 85) rfl rfl
theorem hw806 : (Jvm.Cond.code ({ cls := "RoundColumnsModel", name := "common", desc := "(JJ)J" } : Jvm.MethodName) prog_8_method_20_code (10 : Nat) (Option.some Jvm.ClassFile.FieldType.long)) ∈ gw := gw_t4 (i := 86) rfl rfl
theorem hw807 : (Jvm.Cond.methodLink "RoundColumnsModel" (185 : Nat) ({ cls := "RoundColumnsModel", name := "settle", desc := "()V" } : Jvm.MethodName)) ∈ gw := gw_t4 (i := 87) rfl rfl
theorem hw809 : (Jvm.Cond.instanceMethod ({ cls := "RoundColumnsModel", name := "settle", desc := "()V" } : Jvm.MethodName)) ∈ gw := gw_t4 (i := 89) rfl rfl
theorem hw810 : (Jvm.Cond.code ({ cls := "RoundColumnsModel", name := "settle", desc := "()V" } : Jvm.MethodName) prog_8_method_26_code (2 : Nat) (Option.none : Option Jvm.ClassFile.FieldType)) ∈ gw := gw_t4 (i := 90) rfl rfl
theorem hw811 : (Jvm.Cond.methodLink "RoundColumnsModel" (168 : Nat) ({ cls := "RoundColumnsModel", name := "coming", desc := "()I" } : Jvm.MethodName)) ∈ gw := gw_t4 (i := 91) rfl rfl
theorem hw813 : (Jvm.Cond.instanceMethod ({ cls := "RoundColumnsModel", name := "coming", desc := "()I" } : Jvm.MethodName)) ∈ gw := gw_t4 (i := 93) rfl rfl
theorem hw814 : (Jvm.Cond.code ({ cls := "RoundColumnsModel", name := "coming", desc := "()I" } : Jvm.MethodName) prog_8_method_24_code (2 : Nat) (Option.some Jvm.ClassFile.FieldType.int)) ∈ gw := gw_t4 (i := 94) rfl rfl
theorem hw815 : (Jvm.Cond.methodLink "RoundColumnsModel" (171 : Nat) ({ cls := "RoundColumnsModel", name := "leaving", desc := "(I)I" } : Jvm.MethodName)) ∈ gw := gw_t4 (i := 95) rfl rfl
theorem hw817 : (Jvm.Cond.instanceMethod ({ cls := "RoundColumnsModel", name := "leaving", desc := "(I)I" } : Jvm.MethodName)) ∈ gw := gw_t4 (i := 97) rfl rfl
theorem hw818 : (Jvm.Cond.code ({ cls := "RoundColumnsModel", name := "leaving", desc := "(I)I" } : Jvm.MethodName) prog_8_method_25_code (14 : Nat) (Option.some Jvm.ClassFile.FieldType.int)) ∈ gw := gw_t4 (i := 98) rfl rfl
theorem hw819 : (Jvm.Cond.methodLink "RoundColumnsModel" (175 : Nat) ({ cls := "RoundColumnsModel", name := "turn", desc := "(II)V" } : Jvm.MethodName)) ∈ gw := gw_t4 (i := 99) rfl rfl
theorem hw821 : (Jvm.Cond.instanceMethod ({ cls := "RoundColumnsModel", name := "turn", desc := "(II)V" } : Jvm.MethodName)) ∈ gw := gw_t4 (i := 101) rfl rfl
theorem hw822 : (Jvm.Cond.code ({ cls := "RoundColumnsModel", name := "turn", desc := "(II)V" } : Jvm.MethodName) prog_8_method_23_code (11 : Nat) (Option.none : Option Jvm.ClassFile.FieldType)) ∈ gw := gw_t4 (i := 102) rfl rfl
theorem hw823 : (Jvm.Cond.methodLink "RoundColumnsModel" (164 : Nat) ({ cls := "RoundColumnsModel", name := "lessen", desc := "(III)V" } : Jvm.MethodName)) ∈ gw := gw_t4 (i := 103) rfl rfl
theorem hw825 : (Jvm.Cond.instanceMethod ({ cls := "RoundColumnsModel", name := "lessen", desc := "(III)V" } : Jvm.MethodName)) ∈ gw := gw_t4 (i := 105) rfl rfl
theorem hw826 : (Jvm.Cond.code ({ cls := "RoundColumnsModel", name := "lessen", desc := "(III)V" } : Jvm.MethodName) prog_8_method_22_code (12 : Nat) (Option.none : Option Jvm.ClassFile.FieldType)) ∈ gw := gw_t4 (i := 106) rfl rfl
theorem hw827 : (Jvm.Cond.methodLink "RoundColumnsModel" (188 : Nat) ({ cls := "RoundColumnsModel", name := "clean", desc := "()V" } : Jvm.MethodName)) ∈ gw := gw_t4 (i := 107) rfl rfl
theorem hw829 : (Jvm.Cond.instanceMethod ({ cls := "RoundColumnsModel", name := "clean", desc := "()V" } : Jvm.MethodName)) ∈ gw := gw_t4 (i := 109) rfl rfl
theorem hw830 : (Jvm.Cond.code ({ cls := "RoundColumnsModel", name := "clean", desc := "()V" } : Jvm.MethodName) prog_8_method_29_code (3 : Nat) (Option.none : Option Jvm.ClassFile.FieldType)) ∈ gw := gw_t4 (i := 110) rfl rfl
theorem hw831 : (Jvm.Cond.methodLink "RoundColumnsModel" (191 : Nat) ({ cls := "RoundColumnsModel", name := "aim", desc := "(I)V" } : Jvm.MethodName)) ∈ gw := gw_t4 (i := 111) rfl rfl
theorem hw833 : (Jvm.Cond.instanceMethod ({ cls := "RoundColumnsModel", name := "aim", desc := "(I)V" } : Jvm.MethodName)) ∈ gw := gw_t4 (i := 113) rfl rfl
theorem hw834 : (Jvm.Cond.code ({ cls := "RoundColumnsModel", name := "aim", desc := "(I)V" } : Jvm.MethodName) prog_8_method_28_code (9 : Nat) (Option.none : Option Jvm.ClassFile.FieldType)) ∈ gw := gw_t4 (i := 114) rfl rfl
theorem hw835 : (Jvm.Cond.constantLong "RoundColumnsModel" (179 : Nat) (-1 : Int64)) ∈ gw := gw_t4 (i := 115) rfl rfl
theorem hw836 : (Jvm.Cond.methodLink "RoundColumnsLaw" (55 : Nat) ({ cls := "RoundColumnsModel", name := "steps", desc := "()I" } : Jvm.MethodName)) ∈ gw := gw_t4 (i := 116) rfl rfl
theorem hw837 : (Jvm.Cond.instanceMethod ({ cls := "RoundColumnsModel", name := "steps", desc := "()I" } : Jvm.MethodName)) ∈ gw := gw_t4 (i := 117) rfl rfl
theorem hw838 : (Jvm.Cond.selects "RoundColumnsModel" ({ cls := "RoundColumnsModel", name := "steps", desc := "()I" } : Jvm.MethodName) ({ cls := "RoundColumnsModel", name := "steps", desc := "()I" } : Jvm.MethodName)) ∈ gw := gw_t4 (i := 118) rfl rfl
theorem hw839 : (Jvm.Cond.code ({ cls := "RoundColumnsModel", name := "steps", desc := "()I" } : Jvm.MethodName) prog_8_method_32_code (3 : Nat) (Option.some Jvm.ClassFile.FieldType.int)) ∈ gw := gw_t4 (i := 119) rfl rfl
theorem hw840 : (Jvm.Cond.methodLink "RoundColumnsLaw" (59 : Nat) ({ cls := "RoundColumnsModel", name := "columns", desc := "()I" } : Jvm.MethodName)) ∈ gw := gw_t4 (i := 120) rfl rfl
theorem hw841 : (Jvm.Cond.instanceMethod ({ cls := "RoundColumnsModel", name := "columns", desc := "()I" } : Jvm.MethodName)) ∈ gw := gw_t4 (i := 121) rfl rfl
theorem hw842 : (Jvm.Cond.selects "RoundColumnsModel" ({ cls := "RoundColumnsModel", name := "columns", desc := "()I" } : Jvm.MethodName) ({ cls := "RoundColumnsModel", name := "columns", desc := "()I" } : Jvm.MethodName)) ∈ gw := gw_t4 (i := 122) rfl rfl
theorem hw843 : (Jvm.Cond.code ({ cls := "RoundColumnsModel", name := "columns", desc := "()I" } : Jvm.MethodName) prog_8_method_33_code (3 : Nat) (Option.some Jvm.ClassFile.FieldType.int)) ∈ gw := gw_t4 (i := 123) rfl rfl
theorem hw844 : (Jvm.Cond.methodLink "RoundColumnsLaw" (64 : Nat) ({ cls := "RoundColumnsModel", name := "column", desc := "(II)I" } : Jvm.MethodName)) ∈ gw := gw_t4 (i := 124) rfl rfl
theorem hw845 : (Jvm.Cond.instanceMethod ({ cls := "RoundColumnsModel", name := "column", desc := "(II)I" } : Jvm.MethodName)) ∈ gw := gw_t4 (i := 125) rfl rfl
theorem hw846 : (Jvm.Cond.selects "RoundColumnsModel" ({ cls := "RoundColumnsModel", name := "column", desc := "(II)I" } : Jvm.MethodName) ({ cls := "RoundColumnsModel", name := "column", desc := "(II)I" } : Jvm.MethodName)) ∈ gw := gw_t4 (i := 126) rfl rfl
theorem hw847 : (Jvm.Cond.code ({ cls := "RoundColumnsModel", name := "column", desc := "(II)I" } : Jvm.MethodName) prog_8_method_35_code (4 : Nat) (Option.some Jvm.ClassFile.FieldType.int)) ∈ gw := gw_t4 (i := 127) rfl rfl
theorem hw848 : (Jvm.Cond.methodLink "RoundColumnsModel" (194 : Nat) ({ cls := "RoundColumnsModel", name := "columnSet", desc := "(I)I" } : Jvm.MethodName)) ∈ gw := gw_t4 (i := 128) rfl rfl
theorem hw850 : (Jvm.Cond.instanceMethod ({ cls := "RoundColumnsModel", name := "columnSet", desc := "(I)I" } : Jvm.MethodName)) ∈ gw := gw_t4 (i := 130) rfl rfl
theorem hw851 : (Jvm.Cond.code ({ cls := "RoundColumnsModel", name := "columnSet", desc := "(I)I" } : Jvm.MethodName) prog_8_method_34_code (4 : Nat) (Option.some Jvm.ClassFile.FieldType.int)) ∈ gw := gw_t4 (i := 131) rfl rfl
theorem hw852 : (Jvm.Cond.methodLink "RoundColumnsLaw" (69 : Nat) ({ cls := "RoundColumnsModel", name := "bound", desc := "(I)J" } : Jvm.MethodName)) ∈ gw := gw_t4 (i := 132) rfl rfl
theorem hw853 : (Jvm.Cond.instanceMethod ({ cls := "RoundColumnsModel", name := "bound", desc := "(I)J" } : Jvm.MethodName)) ∈ gw := gw_t4 (i := 133) rfl rfl
theorem hw854 : (Jvm.Cond.selects "RoundColumnsModel" ({ cls := "RoundColumnsModel", name := "bound", desc := "(I)J" } : Jvm.MethodName) ({ cls := "RoundColumnsModel", name := "bound", desc := "(I)J" } : Jvm.MethodName)) ∈ gw := gw_t4 (i := 134) rfl rfl
theorem hw855 : (Jvm.Cond.code ({ cls := "RoundColumnsModel", name := "bound", desc := "(I)J" } : Jvm.MethodName) prog_8_method_36_code (2 : Nat) (Option.some Jvm.ClassFile.FieldType.long)) ∈ gw := gw_t4 (i := 135) rfl rfl
theorem hw856 : (Jvm.Cond.methodLink "RoundColumnsModel" (197 : Nat) ({ cls := "RoundColumnsModel", name := "goal", desc := "(I)J" } : Jvm.MethodName)) ∈ gw := gw_t4 (i := 136) rfl rfl
theorem hw858 : (Jvm.Cond.instanceMethod ({ cls := "RoundColumnsModel", name := "goal", desc := "(I)J" } : Jvm.MethodName)) ∈ gw := gw_t4 (i := 138) rfl rfl
theorem hw859 : (Jvm.Cond.code ({ cls := "RoundColumnsModel", name := "goal", desc := "(I)J" } : Jvm.MethodName) prog_8_method_31_code (2 : Nat) (Option.some Jvm.ClassFile.FieldType.long)) ∈ gw := gw_t4 (i := 139) rfl rfl
theorem hw860 : (Jvm.Cond.methodLink "RoundColumnsLaw" (74 : Nat) ({ cls := "RoundColumnsModel", name := "dual", desc := "(II)J" } : Jvm.MethodName)) ∈ gw := gw_t4 (i := 140) rfl rfl
theorem hw861 : (Jvm.Cond.instanceMethod ({ cls := "RoundColumnsModel", name := "dual", desc := "(II)J" } : Jvm.MethodName)) ∈ gw := gw_t4 (i := 141) rfl rfl
theorem hw862 : (Jvm.Cond.selects "RoundColumnsModel" ({ cls := "RoundColumnsModel", name := "dual", desc := "(II)J" } : Jvm.MethodName) ({ cls := "RoundColumnsModel", name := "dual", desc := "(II)J" } : Jvm.MethodName)) ∈ gw := gw_t4 (i := 142) rfl rfl
theorem hw863 : (Jvm.Cond.code ({ cls := "RoundColumnsModel", name := "dual", desc := "(II)J" } : Jvm.MethodName) prog_8_method_37_code (13 : Nat) (Option.some Jvm.ClassFile.FieldType.long)) ∈ gw := gw_t4 (i := 143) rfl rfl
theorem hw864 : (Jvm.Cond.methodLink "RoundColumnsLaw" (78 : Nat) ({ cls := "RoundColumnsModel", name := "used", desc := "(II)J" } : Jvm.MethodName)) ∈ gw := gw_t4 (i := 144) rfl rfl
theorem hw865 : (Jvm.Cond.instanceMethod ({ cls := "RoundColumnsModel", name := "used", desc := "(II)J" } : Jvm.MethodName)) ∈ gw := gw_t4 (i := 145) rfl rfl
theorem hw866 : (Jvm.Cond.selects "RoundColumnsModel" ({ cls := "RoundColumnsModel", name := "used", desc := "(II)J" } : Jvm.MethodName) ({ cls := "RoundColumnsModel", name := "used", desc := "(II)J" } : Jvm.MethodName)) ∈ gw := gw_t4 (i := 146) rfl rfl
theorem hw867 : (Jvm.Cond.code ({ cls := "RoundColumnsModel", name := "used", desc := "(II)J" } : Jvm.MethodName) prog_8_method_38_code (5 : Nat) (Option.some Jvm.ClassFile.FieldType.long)) ∈ gw := gw_t4 (i := 147) rfl rfl
theorem hw868 : (Jvm.Cond.methodLink "RoundColumnsLaw" (82 : Nat) ({ cls := "RoundColumnsModel", name := "share", desc := "(II)J" } : Jvm.MethodName)) ∈ gw := gw_t4 (i := 148) rfl rfl
theorem hw869 : (Jvm.Cond.instanceMethod ({ cls := "RoundColumnsModel", name := "share", desc := "(II)J" } : Jvm.MethodName)) ∈ gw := gw_t4 (i := 149) rfl rfl
theorem hw870 : (Jvm.Cond.selects "RoundColumnsModel" ({ cls := "RoundColumnsModel", name := "share", desc := "(II)J" } : Jvm.MethodName) ({ cls := "RoundColumnsModel", name := "share", desc := "(II)J" } : Jvm.MethodName)) ∈ gw := gw_t4 (i := 150) rfl rfl
theorem hw871 : (Jvm.Cond.code ({ cls := "RoundColumnsModel", name := "share", desc := "(II)J" } : Jvm.MethodName) prog_8_method_39_code (8 : Nat) (Option.some Jvm.ClassFile.FieldType.long)) ∈ gw := gw_t4 (i := 151) rfl rfl
theorem hw872 : (Jvm.Cond.methodLink "RoundColumnsModel" (201 : Nat) ({ cls := "RoundColumnsModel", name := "kilogramsOf", desc := "(I)I" } : Jvm.MethodName)) ∈ gw := gw_t4 (i := 152) rfl rfl
theorem hw874 : (Jvm.Cond.instanceMethod ({ cls := "RoundColumnsModel", name := "kilogramsOf", desc := "(I)I" } : Jvm.MethodName)) ∈ gw := gw_t4 (i := 154) rfl rfl
theorem hw875 : (Jvm.Cond.code ({ cls := "RoundColumnsModel", name := "kilogramsOf", desc := "(I)I" } : Jvm.MethodName) prog_8_method_40_code (4 : Nat) (Option.some Jvm.ClassFile.FieldType.int)) ∈ gw := gw_t4 (i := 155) rfl rfl
theorem hw876 : (Jvm.Cond.methodLink "RoundColumnsLaw" (87 : Nat) ({ cls := "RoundColumnsModel", name := "dropped", desc := "(I)Z" } : Jvm.MethodName)) ∈ gw := gw_t4 (i := 156) rfl rfl
theorem hw877 : (Jvm.Cond.instanceMethod ({ cls := "RoundColumnsModel", name := "dropped", desc := "(I)Z" } : Jvm.MethodName)) ∈ gw := gw_t4 (i := 157) rfl rfl
theorem hw878 : (Jvm.Cond.selects "RoundColumnsModel" ({ cls := "RoundColumnsModel", name := "dropped", desc := "(I)Z" } : Jvm.MethodName) ({ cls := "RoundColumnsModel", name := "dropped", desc := "(I)Z" } : Jvm.MethodName)) ∈ gw := gw_t4 (i := 158) rfl rfl
theorem hw879 : (Jvm.Cond.code ({ cls := "RoundColumnsModel", name := "dropped", desc := "(I)Z" } : Jvm.MethodName) prog_8_method_41_code (4 : Nat) (Option.some Jvm.ClassFile.FieldType.boolean)) ∈ gw := gw_t4 (i := 159) rfl rfl
theorem hw880 : (Jvm.Cond.methodLink "RoundColumnsLaw" (91 : Nat) ({ cls := "RoundColumnsModel", name := "cuts", desc := "()I" } : Jvm.MethodName)) ∈ gw := gw_t4 (i := 160) rfl rfl
theorem hw881 : (Jvm.Cond.instanceMethod ({ cls := "RoundColumnsModel", name := "cuts", desc := "()I" } : Jvm.MethodName)) ∈ gw := gw_t4 (i := 161) rfl rfl
theorem hw882 : (Jvm.Cond.selects "RoundColumnsModel" ({ cls := "RoundColumnsModel", name := "cuts", desc := "()I" } : Jvm.MethodName) ({ cls := "RoundColumnsModel", name := "cuts", desc := "()I" } : Jvm.MethodName)) ∈ gw := gw_t4 (i := 162) rfl rfl
theorem hw883 : (Jvm.Cond.code ({ cls := "RoundColumnsModel", name := "cuts", desc := "()I" } : Jvm.MethodName) prog_8_method_43_code (3 : Nat) (Option.some Jvm.ClassFile.FieldType.int)) ∈ gw := gw_t4 (i := 163) rfl rfl
theorem hw884 : (Jvm.Cond.methodLink "RoundColumnsModel" (204 : Nat) ({ cls := "RoundColumnsModel", name := "isCut", desc := "(I)Z" } : Jvm.MethodName)) ∈ gw := gw_t4 (i := 164) rfl rfl
theorem hw886 : (Jvm.Cond.instanceMethod ({ cls := "RoundColumnsModel", name := "isCut", desc := "(I)Z" } : Jvm.MethodName)) ∈ gw := gw_t4 (i := 166) rfl rfl
theorem hw887 : (Jvm.Cond.code ({ cls := "RoundColumnsModel", name := "isCut", desc := "(I)Z" } : Jvm.MethodName) prog_8_method_42_code (2 : Nat) (Option.some Jvm.ClassFile.FieldType.boolean)) ∈ gw := gw_t4 (i := 167) rfl rfl
theorem hw888 : (Jvm.Cond.methodLink "RoundColumnsLaw" (95 : Nat) ({ cls := "RoundColumnsModel", name := "cut", desc := "(II)I" } : Jvm.MethodName)) ∈ gw := gw_t4 (i := 168) rfl rfl
theorem hw889 : (Jvm.Cond.instanceMethod ({ cls := "RoundColumnsModel", name := "cut", desc := "(II)I" } : Jvm.MethodName)) ∈ gw := gw_t4 (i := 169) rfl rfl
theorem hw890 : (Jvm.Cond.selects "RoundColumnsModel" ({ cls := "RoundColumnsModel", name := "cut", desc := "(II)I" } : Jvm.MethodName) ({ cls := "RoundColumnsModel", name := "cut", desc := "(II)I" } : Jvm.MethodName)) ∈ gw := gw_t4 (i := 170) rfl rfl
theorem hw891 : (Jvm.Cond.code ({ cls := "RoundColumnsModel", name := "cut", desc := "(II)I" } : Jvm.MethodName) prog_8_method_44_code (5 : Nat) (Option.some Jvm.ClassFile.FieldType.int)) ∈ gw := gw_t4 (i := 171) rfl rfl
theorem hw892 : (Jvm.Cond.methodLink "RoundColumnsModel" (207 : Nat) ({ cls := "RoundColumnsModel", name := "bitOf", desc := "(II)I" } : Jvm.MethodName)) ∈ gw := gw_t4 (i := 172) rfl rfl
theorem hw893 : (Jvm.Cond.static ({ cls := "RoundColumnsModel", name := "bitOf", desc := "(II)I" } : Jvm.MethodName)) ∈ gw := gw_t4 (i := 173) rfl rfl
theorem hw894 : (Jvm.Cond.code ({ cls := "RoundColumnsModel", name := "bitOf", desc := "(II)I" } : Jvm.MethodName) prog_8_method_45_code (4 : Nat) (Option.some Jvm.ClassFile.FieldType.int)) ∈ gw := gw_t4 (i := 174) rfl rfl
theorem hw895 : (Jvm.Cond.methodLink "RoundColumnsLaw" (99 : Nat) ({ cls := "RoundColumnsModel", name := "check", desc := "()I" } : Jvm.MethodName)) ∈ gw := gw_t4 (i := 175) rfl rfl
theorem hw896 : (Jvm.Cond.instanceMethod ({ cls := "RoundColumnsModel", name := "check", desc := "()I" } : Jvm.MethodName)) ∈ gw := gw_t4 (i := 176) rfl rfl
theorem hw897 : (Jvm.Cond.selects "RoundColumnsModel" ({ cls := "RoundColumnsModel", name := "check", desc := "()I" } : Jvm.MethodName) ({ cls := "RoundColumnsModel", name := "check", desc := "()I" } : Jvm.MethodName)) ∈ gw := gw_t4 (i := 177) rfl rfl
theorem hw898 : (Jvm.Cond.code ({ cls := "RoundColumnsModel", name := "check", desc := "()I" } : Jvm.MethodName) prog_8_method_46_code (4 : Nat) (Option.some Jvm.ClassFile.FieldType.int)) ∈ gw := gw_t4 (i := 178) rfl rfl
theorem hw899 : (Jvm.Cond.methodLink "RoundColumnsLaw" (104 : Nat) ({ cls := "RoundColumnsModel", name := "labelsClosed", desc := "()Z" } : Jvm.MethodName)) ∈ gw := gw_t4 (i := 179) rfl rfl
theorem hw900 : (Jvm.Cond.instanceMethod ({ cls := "RoundColumnsModel", name := "labelsClosed", desc := "()Z" } : Jvm.MethodName)) ∈ gw := gw_t4 (i := 180) rfl rfl
theorem hw901 : (Jvm.Cond.selects "RoundColumnsModel" ({ cls := "RoundColumnsModel", name := "labelsClosed", desc := "()Z" } : Jvm.MethodName) ({ cls := "RoundColumnsModel", name := "labelsClosed", desc := "()Z" } : Jvm.MethodName)) ∈ gw := gw_t4 (i := 181) rfl rfl
theorem hw902 : (Jvm.Cond.code ({ cls := "RoundColumnsModel", name := "labelsClosed", desc := "()Z" } : Jvm.MethodName) prog_8_method_47_code (4 : Nat) (Option.some Jvm.ClassFile.FieldType.boolean)) ∈ gw := gw_t4 (i := 182) rfl rfl
theorem hw903 : (Jvm.Cond.constantLong "RoundColumnsLaw" (19 : Nat) (4294967295 : Int64)) ∈ gw := gw_t4 (i := 183) rfl rfl
theorem hw904 : (Jvm.Cond.sameMethod "java/lang/Throwable" "java/lang/Throwable" "fillInStackTrace" "(I)Ljava/lang/Throwable;") ∈ gw := gw_t4 (i := 184) rfl rfl
theorem hs0 : Cond.selects "RoundColumns$Mixtures" ⟨"RoundColumns$Mixtures", "findDual", "(LRoundColumns$Rounds;I)V"⟩ ⟨"RoundColumns$Mixtures", "findDual", "(LRoundColumns$Rounds;I)V"⟩ ∈ gw := gw_in (i := 0) rfl rfl
theorem hs1 : Cond.selects "RoundColumns$Tableau" ⟨"RoundColumns$Tableau", "layStart", "(II)V"⟩ ⟨"RoundColumns$Tableau", "layStart", "(II)V"⟩ ∈ gw := gw_in (i := 1) rfl rfl
theorem hs2 : Cond.selects "RoundColumns$Tableau" ⟨"RoundColumns$Tableau", "addRound", "(IJ)I"⟩ ⟨"RoundColumns$Tableau", "addRound", "(IJ)I"⟩ ∈ gw := gw_in (i := 2) rfl rfl
theorem hs3 : Cond.selects "RoundColumns$Tableau" ⟨"RoundColumns$Tableau", "thatSavesMost", "()I"⟩ ⟨"RoundColumns$Tableau", "thatSavesMost", "()I"⟩ ∈ gw := gw_in (i := 3) rfl rfl
theorem hs4 : Cond.selects "RoundColumns$Tableau" ⟨"RoundColumns$Tableau", "firstThatSaves", "()I"⟩ ⟨"RoundColumns$Tableau", "firstThatSaves", "()I"⟩ ∈ gw := gw_in (i := 4) rfl rfl
theorem hs5 : Cond.selects "RoundColumns$Tableau" ⟨"RoundColumns$Tableau", "tightestRow", "(I)I"⟩ ⟨"RoundColumns$Tableau", "tightestRow", "(I)I"⟩ ∈ gw := gw_in (i := 5) rfl rfl
theorem hs6 : Cond.selects "RoundColumns$Tableau" ⟨"RoundColumns$Tableau", "isTighter", "(III)Z"⟩ ⟨"RoundColumns$Tableau", "isTighter", "(III)Z"⟩ ∈ gw := gw_in (i := 6) rfl rfl
theorem hs7 : Cond.selects "RoundColumns$Tableau" ⟨"RoundColumns$Tableau", "pivot", "(II)V"⟩ ⟨"RoundColumns$Tableau", "pivot", "(II)V"⟩ ∈ gw := gw_in (i := 7) rfl rfl
theorem hs8 : Cond.selects "RoundColumns$Tableau" ⟨"RoundColumns$Tableau", "eliminate", "(III)V"⟩ ⟨"RoundColumns$Tableau", "eliminate", "(III)V"⟩ ∈ gw := gw_in (i := 8) rfl rfl
theorem hs9 : Cond.selects "RoundColumns$Tableau" ⟨"RoundColumns$Tableau", "rowOf", "(I)I"⟩ ⟨"RoundColumns$Tableau", "rowOf", "(I)I"⟩ ∈ gw := gw_in (i := 9) rfl rfl
theorem hs10 : Cond.selects "RoundColumns$Rounds" ⟨"RoundColumns$Rounds", "setCount", "()I"⟩ ⟨"RoundColumns$Rounds", "setCount", "()I"⟩ ∈ gw := gw_in (i := 10) rfl rfl
theorem hs11 : Cond.selects "RoundColumns$Rounds" ⟨"RoundColumns$Rounds", "isCut", "(I)Z"⟩ ⟨"RoundColumns$Rounds", "isCut", "(I)Z"⟩ ∈ gw := gw_in (i := 11) rfl rfl
theorem hs12 : Cond.selects "RoundColumns$Rounds" ⟨"RoundColumns$Rounds", "isColumn", "(I)Z"⟩ ⟨"RoundColumns$Rounds", "isColumn", "(I)Z"⟩ ∈ gw := gw_in (i := 12) rfl rfl
theorem hs13 : Cond.selects "RoundColumns$Rounds" ⟨"RoundColumns$Rounds", "weighSets", "()V"⟩ ⟨"RoundColumns$Rounds", "weighSets", "()V"⟩ ∈ gw := gw_in (i := 13) rfl rfl
theorem hs14 : Cond.selects "RoundColumns$Rounds" ⟨"RoundColumns$Rounds", "extend", "(IIIJ)V"⟩ ⟨"RoundColumns$Rounds", "extend", "(IIIJ)V"⟩ ∈ gw := gw_in (i := 14) rfl rfl
theorem hs15 : Cond.selects "RoundColumns$Rounds" ⟨"RoundColumns$Rounds", "append", "(IIIIJ)V"⟩ ⟨"RoundColumns$Rounds", "append", "(IIIIJ)V"⟩ ∈ gw := gw_in (i := 15) rfl rfl
theorem hs16 : Cond.selects "RoundColumns$Rounds" ⟨"RoundColumns$Rounds", "goHome", "(IIIJ)V"⟩ ⟨"RoundColumns$Rounds", "goHome", "(IIIJ)V"⟩ ∈ gw := gw_in (i := 16) rfl rfl
theorem hs17 : Cond.selects "RoundColumns$Rounds" ⟨"RoundColumns$Rounds", "countLabels", "()V"⟩ ⟨"RoundColumns$Rounds", "countLabels", "()V"⟩ ∈ gw := gw_in (i := 17) rfl rfl
theorem hs18 : Cond.selects "RoundColumns$Rounds" ⟨"RoundColumns$Rounds", "listColumns", "()V"⟩ ⟨"RoundColumns$Rounds", "listColumns", "()V"⟩ ∈ gw := gw_in (i := 18) rfl rfl
theorem hs19 : Cond.selects "java/lang/Throwable" ⟨"java/lang/Throwable", "fillInStackTrace", "(I)Ljava/lang/Throwable;"⟩ ⟨"java/lang/Throwable", "fillInStackTrace", "(I)Ljava/lang/Throwable;"⟩ ∈ gw := gw_in (i := 19) rfl rfl
theorem hs20 : Cond.selects "RoundColumnsModel" ⟨"RoundColumnsModel", "search", "()I"⟩ ⟨"RoundColumnsModel", "search", "()I"⟩ ∈ gw := gw_in (i := 20) rfl rfl
theorem hs21 : Cond.selects "RoundColumnsModel" ⟨"RoundColumnsModel", "next", "(Z)Z"⟩ ⟨"RoundColumnsModel", "next", "(Z)Z"⟩ ∈ gw := gw_in (i := 21) rfl rfl
theorem hs22 : Cond.selects "RoundColumnsModel" ⟨"RoundColumnsModel", "setOf", "()I"⟩ ⟨"RoundColumnsModel", "setOf", "()I"⟩ ∈ gw := gw_in (i := 22) rfl rfl
theorem hs23 : Cond.selects "RoundColumnsModel" ⟨"RoundColumnsModel", "isRow", "()Z"⟩ ⟨"RoundColumnsModel", "isRow", "()Z"⟩ ∈ gw := gw_in (i := 23) rfl rfl
theorem hs24 : Cond.selects "RoundColumnsModel" ⟨"RoundColumnsModel", "secondsOf", "()I"⟩ ⟨"RoundColumnsModel", "secondsOf", "()I"⟩ ∈ gw := gw_in (i := 24) rfl rfl
theorem hs25 : Cond.selects "RoundColumnsModel" ⟨"RoundColumnsModel", "isRound", "()Z"⟩ ⟨"RoundColumnsModel", "isRound", "()Z"⟩ ∈ gw := gw_in (i := 25) rfl rfl
theorem hs26 : Cond.selects "RoundColumnsModel" ⟨"RoundColumnsModel", "costOf", "()I"⟩ ⟨"RoundColumnsModel", "costOf", "()I"⟩ ∈ gw := gw_in (i := 26) rfl rfl
theorem hs27 : Cond.selects "RoundColumnsModel" ⟨"RoundColumnsModel", "isBarred", "(I)Z"⟩ ⟨"RoundColumnsModel", "isBarred", "(I)Z"⟩ ∈ gw := gw_in (i := 27) rfl rfl
theorem hs28 : Cond.selects "RoundColumnsModel" ⟨"RoundColumnsModel", "all", "()I"⟩ ⟨"RoundColumnsModel", "all", "()I"⟩ ∈ gw := gw_in (i := 28) rfl rfl
theorem hs29 : Cond.selects "RoundColumnsModel" ⟨"RoundColumnsModel", "solve", "(II)Z"⟩ ⟨"RoundColumnsModel", "solve", "(II)Z"⟩ ∈ gw := gw_in (i := 29) rfl rfl
theorem hs30 : Cond.selects "RoundColumnsModel" ⟨"RoundColumnsModel", "layOut", "(I)V"⟩ ⟨"RoundColumnsModel", "layOut", "(I)V"⟩ ∈ gw := gw_in (i := 30) rfl rfl
theorem hs31 : Cond.selects "RoundColumnsModel" ⟨"RoundColumnsModel", "put", "(IJJ)V"⟩ ⟨"RoundColumnsModel", "put", "(IJJ)V"⟩ ∈ gw := gw_in (i := 31) rfl rfl
theorem hs32 : Cond.selects "RoundColumnsModel" ⟨"RoundColumnsModel", "settle", "()V"⟩ ⟨"RoundColumnsModel", "settle", "()V"⟩ ∈ gw := gw_in (i := 32) rfl rfl
theorem hs33 : Cond.selects "RoundColumnsModel" ⟨"RoundColumnsModel", "coming", "()I"⟩ ⟨"RoundColumnsModel", "coming", "()I"⟩ ∈ gw := gw_in (i := 33) rfl rfl
theorem hs34 : Cond.selects "RoundColumnsModel" ⟨"RoundColumnsModel", "leaving", "(I)I"⟩ ⟨"RoundColumnsModel", "leaving", "(I)I"⟩ ∈ gw := gw_in (i := 34) rfl rfl
theorem hs35 : Cond.selects "RoundColumnsModel" ⟨"RoundColumnsModel", "turn", "(II)V"⟩ ⟨"RoundColumnsModel", "turn", "(II)V"⟩ ∈ gw := gw_in (i := 35) rfl rfl
theorem hs36 : Cond.selects "RoundColumnsModel" ⟨"RoundColumnsModel", "lessen", "(III)V"⟩ ⟨"RoundColumnsModel", "lessen", "(III)V"⟩ ∈ gw := gw_in (i := 36) rfl rfl
theorem hs37 : Cond.selects "RoundColumnsModel" ⟨"RoundColumnsModel", "clean", "()V"⟩ ⟨"RoundColumnsModel", "clean", "()V"⟩ ∈ gw := gw_in (i := 37) rfl rfl
theorem hs38 : Cond.selects "RoundColumnsModel" ⟨"RoundColumnsModel", "aim", "(I)V"⟩ ⟨"RoundColumnsModel", "aim", "(I)V"⟩ ∈ gw := gw_in (i := 38) rfl rfl
theorem hs39 : Cond.selects "RoundColumnsModel" ⟨"RoundColumnsModel", "columnSet", "(I)I"⟩ ⟨"RoundColumnsModel", "columnSet", "(I)I"⟩ ∈ gw := gw_in (i := 39) rfl rfl
theorem hs40 : Cond.selects "RoundColumnsModel" ⟨"RoundColumnsModel", "goal", "(I)J"⟩ ⟨"RoundColumnsModel", "goal", "(I)J"⟩ ∈ gw := gw_in (i := 40) rfl rfl
theorem hs41 : Cond.selects "RoundColumnsModel" ⟨"RoundColumnsModel", "kilogramsOf", "(I)I"⟩ ⟨"RoundColumnsModel", "kilogramsOf", "(I)I"⟩ ∈ gw := gw_in (i := 41) rfl rfl
theorem hs42 : Cond.selects "RoundColumnsModel" ⟨"RoundColumnsModel", "isCut", "(I)Z"⟩ ⟨"RoundColumnsModel", "isCut", "(I)Z"⟩ ∈ gw := gw_in (i := 42) rfl rfl
