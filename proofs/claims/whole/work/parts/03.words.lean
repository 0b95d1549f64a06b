/-- all the tables' words that may be handed on to a callee -/
def Al : List Cond := lw_tbl.filter goodWord
theorem Al_tbl {w : Cond} (h : w ∈ Al) : w ∈ lw_tbl := (List.mem_filter.mp h).1
theorem Al_good : GoodIn lw_tbl Al := fun w h => ⟨(List.mem_filter.mp h).1, good_of_word (List.mem_filter.mp h).2⟩
theorem Al_self : GoodIn Al Al := fun w h => ⟨h, good_of_word (List.mem_filter.mp h).2⟩
theorem in_tab {w : Cond} (h : w ∈ tables_1) (g : goodWord w = true) : w ∈ Al := List.mem_filter.mpr ⟨List.mem_append_right _ h, g⟩
theorem tb1 {w : Cond} (i : Nat) (h : tables_1_1[i]? = some w) : w ∈ tables_1 := List.mem_append_left _ (List.mem_of_getElem? h)
theorem in1 {w : Cond} (i : Nat) (h : tables_1_1[i]? = some w) (g : goodWord w = true) : w ∈ Al := in_tab (tb1 i h) g
theorem tb2 {w : Cond} (i : Nat) (h : tables_1_2[i]? = some w) : w ∈ tables_1 := List.mem_append_right _ (List.mem_append_left _ (List.mem_of_getElem? h))
theorem in2 {w : Cond} (i : Nat) (h : tables_1_2[i]? = some w) (g : goodWord w = true) : w ∈ Al := in_tab (tb2 i h) g
theorem tb3 {w : Cond} (i : Nat) (h : tables_1_3[i]? = some w) : w ∈ tables_1 := List.mem_append_right _ (List.mem_append_right _ (List.mem_append_left _ (List.mem_of_getElem? h)))
theorem in3 {w : Cond} (i : Nat) (h : tables_1_3[i]? = some w) (g : goodWord w = true) : w ∈ Al := in_tab (tb3 i h) g
theorem tb4 {w : Cond} (i : Nat) (h : tables_1_4[i]? = some w) : w ∈ tables_1 := List.mem_append_right _ (List.mem_append_right _ (List.mem_append_right _ (List.mem_of_getElem? h)))
theorem in4 {w : Cond} (i : Nat) (h : tables_1_4[i]? = some w) (g : goodWord w = true) : w ∈ Al := in_tab (tb4 i h) g
theorem wd1_0 : (Jvm.Cond.initialized "ShaftPlayLaw") ∈ Al := in1 0 rfl rfl
theorem wd1_1 : (Jvm.Cond.initialized "ShaftPlay") ∈ Al := in1 1 rfl rfl
theorem wd1_2 : (Jvm.Cond.initialized "ShaftPlay$Play") ∈ Al := in1 2 rfl rfl
theorem wd1_3 : (Jvm.Cond.initialized "ShaftPlay$Figure") ∈ Al := in1 3 rfl rfl
theorem wd1_4 : (Jvm.Cond.initialized "java/util/Arrays") ∈ Al := in1 4 rfl rfl
theorem wd1_5 : (Jvm.Cond.initialized "ShaftPlay$Tape") ∈ Al := in1 5 rfl rfl
theorem wd1_6 : (Jvm.Cond.initialized "ShaftPlay$Sheet") ∈ Al := in1 6 rfl rfl
theorem wd1_7 : (Jvm.Cond.initialized "ShaftPlay$Sharing") ∈ Al := in1 7 rfl rfl
theorem wd1_8 : (Jvm.Cond.initialized "ShaftPlayModel") ∈ Al := in1 8 rfl rfl
theorem wd1_9 : (Jvm.Cond.initialized "java/lang/System") ∈ Al := in1 9 rfl rfl
theorem wd1_10 : (Jvm.Cond.initialized "java/lang/Integer") ∈ Al := in1 10 rfl rfl
theorem wd1_11 : (Jvm.Cond.initialized "java/lang/Math") ∈ Al := in1 11 rfl rfl
theorem wd1_12 : (Jvm.Cond.classLink "ShaftPlayLaw" (7 : Nat) "ShaftPlay") ∈ Al := in1 12 rfl rfl
theorem wd1_13 : (Jvm.Cond.instantiable "ShaftPlay" (7 : Nat)) ∈ Al := in1 13 rfl rfl
theorem wd1_14 : (Jvm.Cond.methodLink "ShaftPlayLaw" (9 : Nat) ({ cls := "ShaftPlay", name := "<init>", desc := "()V" } : Jvm.MethodName)) ∈ Al := in1 14 rfl rfl
theorem wd1_15 : (Jvm.Cond.instanceMethod ({ cls := "ShaftPlay", name := "<init>", desc := "()V" } : Jvm.MethodName)) ∈ Al := in1 15 rfl rfl
theorem wd1_16 : (Jvm.Cond.code ({ cls := "ShaftPlay", name := "<init>", desc := "()V" } : Jvm.MethodName) prog_1_method_1_code (2 : Nat) (Option.none : Option Jvm.ClassFile.FieldType)) ∈ Al := in1 16 rfl rfl
theorem wd1_17 : (Jvm.Cond.methodLink "ShaftPlay" (1 : Nat) ({ cls := "java/lang/Object", name := "<init>", desc := "()V" } : Jvm.MethodName)) ∈ Al := in1 17 rfl rfl
theorem wd1_18 : (Jvm.Cond.instanceMethod ({ cls := "java/lang/Object", name := "<init>", desc := "()V" } : Jvm.MethodName)) ∈ Al := in1 18 rfl rfl
theorem wd1_19 : (Jvm.Cond.code ({ cls := "java/lang/Object", name := "<init>", desc := "()V" } : Jvm.MethodName) object_method_1_code (1 : Nat) (Option.none : Option Jvm.ClassFile.FieldType)) ∈ Al := in1 19 rfl rfl
theorem wd1_20 : (Jvm.Cond.classLink "ShaftPlay" (7 : Nat) "ShaftPlay$Play") ∈ Al := in1 20 rfl rfl
theorem wd1_21 : (Jvm.Cond.instantiable "ShaftPlay$Play" (10 : Nat)) ∈ Al := in1 21 rfl rfl
theorem wd1_22 : (Jvm.Cond.methodLink "ShaftPlay" (9 : Nat) ({ cls := "ShaftPlay$Play", name := "<init>", desc := "()V" } : Jvm.MethodName)) ∈ Al := in1 22 rfl rfl
theorem wd1_23 : (Jvm.Cond.instanceMethod ({ cls := "ShaftPlay$Play", name := "<init>", desc := "()V" } : Jvm.MethodName)) ∈ Al := in1 23 rfl rfl
theorem wd1_24 : (Jvm.Cond.code ({ cls := "ShaftPlay$Play", name := "<init>", desc := "()V" } : Jvm.MethodName) prog_3_method_1_code (2 : Nat) (Option.none : Option Jvm.ClassFile.FieldType)) ∈ Al := in1 24 rfl rfl
theorem wd1_25 : (Jvm.Cond.methodLink "ShaftPlay$Play" (3 : Nat) ({ cls := "java/lang/Object", name := "<init>", desc := "()V" } : Jvm.MethodName)) ∈ Al := in1 25 rfl rfl
theorem wd1_26 : (Jvm.Cond.classLink "ShaftPlay$Play" (9 : Nat) "[[I") ∈ Al := in1 26 rfl rfl
theorem wd1_27 : (Jvm.Cond.arrayOver (Jvm.ClassFile.FieldType.array Jvm.ClassFile.FieldType.int)) ∈ lw_tbl := List.mem_append_right _ (tb1 27 rfl)
theorem wd1_28 : (Jvm.Cond.classLink "ShaftPlay$Play" (16 : Nat) "ShaftPlay$Figure") ∈ Al := in1 28 rfl rfl
theorem wd1_29 : (Jvm.Cond.arrayOver (Jvm.ClassFile.FieldType.object "ShaftPlay$Figure")) ∈ lw_tbl := List.mem_append_right _ (tb1 29 rfl)
theorem wd1_30 : (Jvm.Cond.instantiable "ShaftPlay$Figure" (6 : Nat)) ∈ Al := in1 30 rfl rfl
theorem wd1_31 : (Jvm.Cond.methodLinkNest "ShaftPlay$Play" (22 : Nat) ({ cls := "ShaftPlay$Figure", name := "<init>", desc := "()V" } : Jvm.MethodName) "ShaftPlay") ∈ lw_tbl := List.mem_append_right _ (tb1 31 rfl)
theorem wd1_32 : (Jvm.Cond.instanceMethod ({ cls := "ShaftPlay$Figure", name := "<init>", desc := "()V" } : Jvm.MethodName)) ∈ Al := in1 32 rfl rfl
theorem wd1_33 : (Jvm.Cond.code ({ cls := "ShaftPlay$Figure", name := "<init>", desc := "()V" } : Jvm.MethodName) prog_2_method_1_code (1 : Nat) (Option.none : Option Jvm.ClassFile.FieldType)) ∈ Al := in1 33 rfl rfl
theorem wd1_34 : (Jvm.Cond.methodLink "ShaftPlay$Figure" (3 : Nat) ({ cls := "java/lang/Object", name := "<init>", desc := "()V" } : Jvm.MethodName)) ∈ Al := in1 34 rfl rfl
theorem wd1_35 : (Jvm.Cond.fieldLink "ShaftPlay$Figure" (9 : Nat) "ShaftPlay$Figure" "kind" "I") ∈ Al := in1 35 rfl rfl
theorem wd1_36 : (Jvm.Cond.fieldLink "ShaftPlay$Play" (65 : Nat) "ShaftPlay$Figure" "kind" "I") ∈ Al := in1 36 rfl rfl
theorem wd1_37 : (Jvm.Cond.fieldLink "ShaftPlay$Figure" (15 : Nat) "ShaftPlay$Figure" "cam" "I") ∈ Al := in1 37 rfl rfl
theorem wd1_38 : (Jvm.Cond.fieldLink "ShaftPlay$Play" (68 : Nat) "ShaftPlay$Figure" "cam" "I") ∈ Al := in1 38 rfl rfl
theorem wd1_39 : (Jvm.Cond.fieldLink "ShaftPlay" (136 : Nat) "ShaftPlay$Figure" "cam" "I") ∈ Al := in1 39 rfl rfl
theorem wd1_40 : (Jvm.Cond.fieldLink "ShaftPlay$Figure" (18 : Nat) "ShaftPlay$Figure" "lag" "I") ∈ Al := in1 40 rfl rfl
theorem wd1_41 : (Jvm.Cond.fieldLink "ShaftPlay$Play" (71 : Nat) "ShaftPlay$Figure" "lag" "I") ∈ Al := in1 41 rfl rfl
theorem wd1_42 : (Jvm.Cond.fieldLink "ShaftPlay$Play" (74 : Nat) "ShaftPlay$Figure" "place" "I") ∈ Al := in1 42 rfl rfl
theorem wd1_43 : (Jvm.Cond.fieldLink "ShaftPlay$Figure" (21 : Nat) "ShaftPlay$Figure" "place" "I") ∈ Al := in1 43 rfl rfl
theorem wd1_44 : (Jvm.Cond.fieldLink "ShaftPlay$Sharing" (27 : Nat) "ShaftPlay$Figure" "wishedUp" "I") ∈ Al := in1 44 rfl rfl
theorem wd1_45 : (Jvm.Cond.fieldLink "ShaftPlay$Play" (77 : Nat) "ShaftPlay$Figure" "wishedUp" "I") ∈ Al := in1 45 rfl rfl
theorem wd1_46 : (Jvm.Cond.fieldLink "ShaftPlay$Figure" (24 : Nat) "ShaftPlay$Figure" "wishedUp" "I") ∈ Al := in1 46 rfl rfl
theorem wd1_47 : (Jvm.Cond.fieldLink "ShaftPlay$Sharing" (37 : Nat) "ShaftPlay$Figure" "wishedDown" "I") ∈ Al := in1 47 rfl rfl
theorem wd1_48 : (Jvm.Cond.fieldLink "ShaftPlay$Play" (80 : Nat) "ShaftPlay$Figure" "wishedDown" "I") ∈ Al := in1 48 rfl rfl
theorem wd1_49 : (Jvm.Cond.fieldLink "ShaftPlay$Figure" (27 : Nat) "ShaftPlay$Figure" "wishedDown" "I") ∈ Al := in1 49 rfl rfl
theorem wd1_50 : (Jvm.Cond.lays "ShaftPlay$Figure" "ShaftPlay$Figure" "kind" "I") ∈ Al := in1 50 rfl rfl
theorem wd1_52 : (Jvm.Cond.lays "ShaftPlay$Figure" "ShaftPlay$Figure" "cam" "I") ∈ Al := in1 52 rfl rfl
theorem wd1_54 : (Jvm.Cond.lays "ShaftPlay$Figure" "ShaftPlay$Figure" "lag" "I") ∈ Al := in1 54 rfl rfl
theorem wd1_56 : (Jvm.Cond.lays "ShaftPlay$Figure" "ShaftPlay$Figure" "place" "I") ∈ Al := in1 56 rfl rfl
theorem wd1_58 : (Jvm.Cond.lays "ShaftPlay$Figure" "ShaftPlay$Figure" "wishedUp" "I") ∈ Al := in1 58 rfl rfl
theorem wd1_60 : (Jvm.Cond.lays "ShaftPlay$Figure" "ShaftPlay$Figure" "wishedDown" "I") ∈ Al := in1 60 rfl rfl
theorem wd1_63 : (Jvm.Cond.arrayClass Jvm.ClassFile.FieldType.int) ∈ Al := in1 63 rfl rfl
theorem wd1_64 : (Jvm.Cond.methodLink "ShaftPlay$Play" (31 : Nat) ({ cls := "java/util/Arrays", name := "fill", desc := "([II)V" } : Jvm.MethodName)) ∈ Al := in1 64 rfl rfl
theorem wd1_65 : (Jvm.Cond.static ({ cls := "java/util/Arrays", name := "fill", desc := "([II)V" } : Jvm.MethodName)) ∈ Al := in1 65 rfl rfl
theorem wd1_66 : (Jvm.Cond.code ({ cls := "java/util/Arrays", name := "fill", desc := "([II)V" } : Jvm.MethodName) prog_12_method_103_code (4 : Nat) (Option.none : Option Jvm.ClassFile.FieldType)) ∈ Al := in1 66 rfl rfl
theorem wd1_67 : (Jvm.Cond.fieldLink "ShaftPlay$Play" (11 : Nat) "ShaftPlay$Play" "hairs" "[[I") ∈ Al := in1 67 rfl rfl
theorem wd1_68 : (Jvm.Cond.fieldLink "ShaftPlay" (74 : Nat) "ShaftPlay$Play" "hairs" "[[I") ∈ Al := in1 68 rfl rfl
theorem wd1_69 : (Jvm.Cond.fieldLink "ShaftPlay$Play" (46 : Nat) "ShaftPlay$Play" "camCount" "I") ∈ Al := in1 69 rfl rfl
theorem wd1_70 : (Jvm.Cond.fieldLink "ShaftPlay" (120 : Nat) "ShaftPlay$Play" "camCount" "I") ∈ Al := in1 70 rfl rfl
theorem wd1_71 : (Jvm.Cond.fieldLink "ShaftPlay$Play" (18 : Nat) "ShaftPlay$Play" "figures" "[LShaftPlay$Figure;") ∈ Al := in1 71 rfl rfl
theorem wd1_72 : (Jvm.Cond.fieldLink "ShaftPlay" (91 : Nat) "ShaftPlay$Play" "figures" "[LShaftPlay$Figure;") ∈ Al := in1 72 rfl rfl
theorem wd1_73 : (Jvm.Cond.fieldLink "ShaftPlay$Play" (53 : Nat) "ShaftPlay$Play" "figureCount" "I") ∈ Al := in1 73 rfl rfl
theorem wd1_74 : (Jvm.Cond.fieldLink "ShaftPlay" (123 : Nat) "ShaftPlay$Play" "figureCount" "I") ∈ Al := in1 74 rfl rfl
theorem wd1_75 : (Jvm.Cond.fieldLink "ShaftPlay$Play" (23 : Nat) "ShaftPlay$Play" "upFrom" "I") ∈ Al := in1 75 rfl rfl
theorem wd1_76 : (Jvm.Cond.fieldLink "ShaftPlay" (113 : Nat) "ShaftPlay$Play" "upFrom" "I") ∈ Al := in1 76 rfl rfl
theorem wd1_77 : (Jvm.Cond.fieldLink "ShaftPlay$Play" (56 : Nat) "ShaftPlay$Play" "backwards" "I") ∈ Al := in1 77 rfl rfl
theorem wd1_78 : (Jvm.Cond.fieldLink "ShaftPlay" (117 : Nat) "ShaftPlay$Play" "backwards" "I") ∈ Al := in1 78 rfl rfl
theorem wd1_79 : (Jvm.Cond.fieldLink "ShaftPlay$Play" (59 : Nat) "ShaftPlay$Play" "angle" "I") ∈ Al := in1 79 rfl rfl
theorem wd1_80 : (Jvm.Cond.fieldLink "ShaftPlay" (126 : Nat) "ShaftPlay$Play" "angle" "I") ∈ Al := in1 80 rfl rfl
theorem wd1_81 : (Jvm.Cond.fieldLink "ShaftPlay$Play" (62 : Nat) "ShaftPlay$Play" "passed" "I") ∈ Al := in1 81 rfl rfl
theorem wd1_82 : (Jvm.Cond.fieldLink "ShaftPlay" (129 : Nat) "ShaftPlay$Play" "passed" "I") ∈ Al := in1 82 rfl rfl
theorem wd1_83 : (Jvm.Cond.fieldLink "ShaftPlay$Play" (27 : Nat) "ShaftPlay$Play" "beatsAt" "[I") ∈ Al := in1 83 rfl rfl
theorem wd1_84 : (Jvm.Cond.fieldLink "ShaftPlay" (177 : Nat) "ShaftPlay$Play" "beatsAt" "[I") ∈ Al := in1 84 rfl rfl
theorem wd1_85 : (Jvm.Cond.fieldLink "ShaftPlay$Play" (37 : Nat) "ShaftPlay$Play" "stepsOf" "[I") ∈ Al := in1 85 rfl rfl
theorem wd1_86 : (Jvm.Cond.fieldLink "ShaftPlay" (187 : Nat) "ShaftPlay$Play" "stepsOf" "[I") ∈ Al := in1 86 rfl rfl
theorem wd1_87 : (Jvm.Cond.laysFinal "ShaftPlay$Play" "ShaftPlay$Play" "hairs" "[[I") ∈ Al := in1 87 rfl rfl
theorem wd1_89 : (Jvm.Cond.lays "ShaftPlay$Play" "ShaftPlay$Play" "camCount" "I") ∈ Al := in1 89 rfl rfl
theorem wd1_91 : (Jvm.Cond.laysFinal "ShaftPlay$Play" "ShaftPlay$Play" "figures" "[LShaftPlay$Figure;") ∈ Al := in1 91 rfl rfl
theorem wd1_93 : (Jvm.Cond.lays "ShaftPlay$Play" "ShaftPlay$Play" "figureCount" "I") ∈ Al := in1 93 rfl rfl
theorem wd1_95 : (Jvm.Cond.lays "ShaftPlay$Play" "ShaftPlay$Play" "upFrom" "I") ∈ Al := in1 95 rfl rfl
theorem wd1_97 : (Jvm.Cond.lays "ShaftPlay$Play" "ShaftPlay$Play" "backwards" "I") ∈ Al := in1 97 rfl rfl
theorem wd1_99 : (Jvm.Cond.lays "ShaftPlay$Play" "ShaftPlay$Play" "angle" "I") ∈ Al := in1 99 rfl rfl
theorem wd1_101 : (Jvm.Cond.lays "ShaftPlay$Play" "ShaftPlay$Play" "passed" "I") ∈ Al := in1 101 rfl rfl
theorem wd1_103 : (Jvm.Cond.laysFinal "ShaftPlay$Play" "ShaftPlay$Play" "beatsAt" "[I") ∈ Al := in1 103 rfl rfl
theorem wd1_105 : (Jvm.Cond.laysFinal "ShaftPlay$Play" "ShaftPlay$Play" "stepsOf" "[I") ∈ Al := in1 105 rfl rfl
theorem wd1_108 : (Jvm.Cond.classLink "ShaftPlay" (19 : Nat) "ShaftPlay$Tape") ∈ Al := in1 108 rfl rfl
theorem wd1_109 : (Jvm.Cond.instantiable "ShaftPlay$Tape" (3 : Nat)) ∈ Al := in1 109 rfl rfl
theorem wd1_110 : (Jvm.Cond.methodLink "ShaftPlay" (21 : Nat) ({ cls := "ShaftPlay$Tape", name := "<init>", desc := "()V" } : Jvm.MethodName)) ∈ Al := in1 110 rfl rfl
theorem wd1_111 : (Jvm.Cond.instanceMethod ({ cls := "ShaftPlay$Tape", name := "<init>", desc := "()V" } : Jvm.MethodName)) ∈ Al := in1 111 rfl rfl
theorem wd1_112 : (Jvm.Cond.code ({ cls := "ShaftPlay$Tape", name := "<init>", desc := "()V" } : Jvm.MethodName) prog_6_method_1_code (1 : Nat) (Option.none : Option Jvm.ClassFile.FieldType)) ∈ Al := in1 112 rfl rfl
theorem wd1_113 : (Jvm.Cond.methodLink "ShaftPlay$Tape" (3 : Nat) ({ cls := "java/lang/Object", name := "<init>", desc := "()V" } : Jvm.MethodName)) ∈ Al := in1 113 rfl rfl
theorem wd1_114 : (Jvm.Cond.fieldLink "ShaftPlay$Tape" (9 : Nat) "ShaftPlay$Tape" "bytes" "[I") ∈ Al := in1 114 rfl rfl
theorem wd1_115 : (Jvm.Cond.fieldLink "ShaftPlay$Tape" (15 : Nat) "ShaftPlay$Tape" "signs" "[I") ∈ Al := in1 115 rfl rfl
theorem wd1_116 : (Jvm.Cond.fieldLink "ShaftPlay" (60 : Nat) "ShaftPlay$Tape" "signs" "[I") ∈ Al := in1 116 rfl rfl
theorem wd1_117 : (Jvm.Cond.fieldLink "ShaftPlay$Tape" (18 : Nat) "ShaftPlay$Tape" "length" "I") ∈ Al := in1 117 rfl rfl
theorem wd1_118 : (Jvm.Cond.laysFinal "ShaftPlay$Tape" "ShaftPlay$Tape" "bytes" "[I") ∈ Al := in1 118 rfl rfl
theorem wd1_120 : (Jvm.Cond.laysFinal "ShaftPlay$Tape" "ShaftPlay$Tape" "signs" "[I") ∈ Al := in1 120 rfl rfl
theorem wd1_122 : (Jvm.Cond.lays "ShaftPlay$Tape" "ShaftPlay$Tape" "length" "I") ∈ Al := in1 122 rfl rfl
theorem wd1_125 : (Jvm.Cond.classLink "ShaftPlay" (26 : Nat) "ShaftPlay$Sheet") ∈ Al := in1 125 rfl rfl
theorem wd1_126 : (Jvm.Cond.arrayOver (Jvm.ClassFile.FieldType.object "ShaftPlay$Sheet")) ∈ lw_tbl := List.mem_append_right _ (tb1 126 rfl)
theorem wd1_127 : (Jvm.Cond.instantiable "ShaftPlay$Sheet" (3 : Nat)) ∈ Al := in1 127 rfl rfl
theorem wd1_128 : (Jvm.Cond.methodLink "ShaftPlay" (32 : Nat) ({ cls := "ShaftPlay$Sheet", name := "<init>", desc := "()V" } : Jvm.MethodName)) ∈ Al := in1 128 rfl rfl
theorem wd1_129 : (Jvm.Cond.instanceMethod ({ cls := "ShaftPlay$Sheet", name := "<init>", desc := "()V" } : Jvm.MethodName)) ∈ Al := in1 129 rfl rfl
theorem wd1_130 : (Jvm.Cond.code ({ cls := "ShaftPlay$Sheet", name := "<init>", desc := "()V" } : Jvm.MethodName) prog_5_method_1_code (1 : Nat) (Option.none : Option Jvm.ClassFile.FieldType)) ∈ Al := in1 130 rfl rfl
theorem wd1_131 : (Jvm.Cond.methodLink "ShaftPlay$Sheet" (3 : Nat) ({ cls := "java/lang/Object", name := "<init>", desc := "()V" } : Jvm.MethodName)) ∈ Al := in1 131 rfl rfl
theorem wd1_132 : (Jvm.Cond.fieldLink "ShaftPlay$Sheet" (9 : Nat) "ShaftPlay$Sheet" "items" "[J") ∈ Al := in1 132 rfl rfl
theorem wd1_133 : (Jvm.Cond.fieldLink "ShaftPlay" (240 : Nat) "ShaftPlay$Sheet" "items" "[J") ∈ Al := in1 133 rfl rfl
theorem wd1_134 : (Jvm.Cond.fieldLink "ShaftPlay$Sheet" (15 : Nat) "ShaftPlay$Sheet" "lane" "I") ∈ Al := in1 134 rfl rfl
theorem wd1_135 : (Jvm.Cond.fieldLink "ShaftPlay" (233 : Nat) "ShaftPlay$Sheet" "lane" "I") ∈ Al := in1 135 rfl rfl
theorem wd1_136 : (Jvm.Cond.fieldLink "ShaftPlay$Sheet" (19 : Nat) "ShaftPlay$Sheet" "size" "I") ∈ Al := in1 136 rfl rfl
theorem wd1_137 : (Jvm.Cond.laysFinal "ShaftPlay$Sheet" "ShaftPlay$Sheet" "items" "[J") ∈ Al := in1 137 rfl rfl
theorem wd1_139 : (Jvm.Cond.lays "ShaftPlay$Sheet" "ShaftPlay$Sheet" "lane" "I") ∈ Al := in1 139 rfl rfl
theorem wd1_141 : (Jvm.Cond.lays "ShaftPlay$Sheet" "ShaftPlay$Sheet" "size" "I") ∈ Al := in1 141 rfl rfl
theorem wd1_144 : (Jvm.Cond.arrayClass Jvm.ClassFile.FieldType.long) ∈ Al := in1 144 rfl rfl
theorem wd1_145 : (Jvm.Cond.classLink "ShaftPlay" (33 : Nat) "ShaftPlay$Sharing") ∈ Al := in1 145 rfl rfl
theorem wd1_146 : (Jvm.Cond.instantiable "ShaftPlay$Sharing" (3 : Nat)) ∈ Al := in1 146 rfl rfl
theorem wd1_147 : (Jvm.Cond.methodLink "ShaftPlay" (35 : Nat) ({ cls := "ShaftPlay$Sharing", name := "<init>", desc := "()V" } : Jvm.MethodName)) ∈ Al := in1 147 rfl rfl
theorem wd1_148 : (Jvm.Cond.instanceMethod ({ cls := "ShaftPlay$Sharing", name := "<init>", desc := "()V" } : Jvm.MethodName)) ∈ Al := in1 148 rfl rfl
theorem wd1_149 : (Jvm.Cond.code ({ cls := "ShaftPlay$Sharing", name := "<init>", desc := "()V" } : Jvm.MethodName) prog_4_method_1_code (1 : Nat) (Option.none : Option Jvm.ClassFile.FieldType)) ∈ Al := in1 149 rfl rfl
theorem wd1_150 : (Jvm.Cond.methodLink "ShaftPlay$Sharing" (3 : Nat) ({ cls := "java/lang/Object", name := "<init>", desc := "()V" } : Jvm.MethodName)) ∈ Al := in1 150 rfl rfl
theorem wd1_151 : (Jvm.Cond.classLink "ShaftPlay$Sharing" (18 : Nat) "[[I") ∈ Al := in1 151 rfl rfl
theorem wd1_152 : (Jvm.Cond.fieldLink "ShaftPlay$Sharing" (9 : Nat) "ShaftPlay$Sharing" "cam" "[I") ∈ Al := in1 152 rfl rfl
theorem wd1_153 : (Jvm.Cond.fieldLink "ShaftPlay" (168 : Nat) "ShaftPlay$Sharing" "cam" "[I") ∈ Al := in1 153 rfl rfl
theorem wd1_154 : (Jvm.Cond.fieldLink "ShaftPlay$Sharing" (15 : Nat) "ShaftPlay$Sharing" "lag" "[I") ∈ Al := in1 154 rfl rfl
theorem wd1_155 : (Jvm.Cond.fieldLink "ShaftPlay" (170 : Nat) "ShaftPlay$Sharing" "lag" "[I") ∈ Al := in1 155 rfl rfl
theorem wd1_156 : (Jvm.Cond.fieldLink "ShaftPlay$Sharing" (20 : Nat) "ShaftPlay$Sharing" "lagsTogether" "[[I") ∈ Al := in1 156 rfl rfl
theorem wd1_157 : (Jvm.Cond.laysFinal "ShaftPlay$Sharing" "ShaftPlay$Sharing" "cam" "[I") ∈ Al := in1 157 rfl rfl
theorem wd1_159 : (Jvm.Cond.laysFinal "ShaftPlay$Sharing" "ShaftPlay$Sharing" "lag" "[I") ∈ Al := in1 159 rfl rfl
theorem wd1_161 : (Jvm.Cond.laysFinal "ShaftPlay$Sharing" "ShaftPlay$Sharing" "lagsTogether" "[[I") ∈ Al := in1 161 rfl rfl
theorem wd1_164 : (Jvm.Cond.fieldLink "ShaftPlay" (10 : Nat) "ShaftPlay" "now" "LShaftPlay$Play;") ∈ Al := in1 164 rfl rfl
theorem wd1_165 : (Jvm.Cond.fieldLink "ShaftPlay" (16 : Nat) "ShaftPlay" "imaged" "LShaftPlay$Play;") ∈ Al := in1 165 rfl rfl
theorem wd1_166 : (Jvm.Cond.fieldLink "ShaftPlay" (197 : Nat) "ShaftPlay" "hasImage" "Z") ∈ Al := in1 166 rfl rfl
theorem wd1_167 : (Jvm.Cond.fieldLink "ShaftPlay" (22 : Nat) "ShaftPlay" "tape" "LShaftPlay$Tape;") ∈ Al := in1 167 rfl rfl
theorem wd1_168 : (Jvm.Cond.fieldLink "ShaftPlay" (28 : Nat) "ShaftPlay" "sheets" "[LShaftPlay$Sheet;") ∈ Al := in1 168 rfl rfl
theorem wd1_169 : (Jvm.Cond.fieldLink "ShaftPlay" (36 : Nat) "ShaftPlay" "sharing" "LShaftPlay$Sharing;") ∈ Al := in1 169 rfl rfl
theorem wd1_170 : (Jvm.Cond.fieldLink "ShaftPlay" (40 : Nat) "ShaftPlay" "wornHairs" "[I") ∈ Al := in1 170 rfl rfl
theorem wd1_171 : (Jvm.Cond.laysFinal "ShaftPlay" "ShaftPlay" "now" "LShaftPlay$Play;") ∈ Al := in1 171 rfl rfl
theorem wd1_173 : (Jvm.Cond.laysFinal "ShaftPlay" "ShaftPlay" "imaged" "LShaftPlay$Play;") ∈ Al := in1 173 rfl rfl
theorem wd1_175 : (Jvm.Cond.lays "ShaftPlay" "ShaftPlay" "hasImage" "Z") ∈ Al := in1 175 rfl rfl
theorem wd1_177 : (Jvm.Cond.laysFinal "ShaftPlay" "ShaftPlay" "tape" "LShaftPlay$Tape;") ∈ Al := in1 177 rfl rfl
theorem wd1_179 : (Jvm.Cond.laysFinal "ShaftPlay" "ShaftPlay" "sheets" "[LShaftPlay$Sheet;") ∈ Al := in1 179 rfl rfl
theorem wd1_181 : (Jvm.Cond.laysFinal "ShaftPlay" "ShaftPlay" "sharing" "LShaftPlay$Sharing;") ∈ Al := in1 181 rfl rfl
theorem wd1_183 : (Jvm.Cond.laysFinal "ShaftPlay" "ShaftPlay" "wornHairs" "[I") ∈ Al := in1 183 rfl rfl
theorem wd1_186 : (Jvm.Cond.methodLink "ShaftPlayLaw" (15 : Nat) ({ cls := "ShaftPlay", name := "type", desc := "(JI)I" } : Jvm.MethodName)) ∈ Al := in1 186 rfl rfl
theorem wd1_187 : (Jvm.Cond.instanceMethod ({ cls := "ShaftPlay", name := "type", desc := "(JI)I" } : Jvm.MethodName)) ∈ Al := in1 187 rfl rfl
theorem wd1_188 : (Jvm.Cond.selects "ShaftPlay" ({ cls := "ShaftPlay", name := "type", desc := "(JI)I" } : Jvm.MethodName) ({ cls := "ShaftPlay", name := "type", desc := "(JI)I" } : Jvm.MethodName)) ∈ Al := in1 188 rfl rfl
theorem wd1_189 : (Jvm.Cond.code ({ cls := "ShaftPlay", name := "type", desc := "(JI)I" } : Jvm.MethodName) prog_1_method_2_code (4 : Nat) (Option.some Jvm.ClassFile.FieldType.int)) ∈ Al := in1 189 rfl rfl
theorem wd1_190 : (Jvm.Cond.methodLink "ShaftPlay" (44 : Nat) ({ cls := "ShaftPlay", name := "isWithin", desc := "(III)Z" } : Jvm.MethodName)) ∈ Al := in1 190 rfl rfl
theorem wd1_191 : (Jvm.Cond.static ({ cls := "ShaftPlay", name := "isWithin", desc := "(III)Z" } : Jvm.MethodName)) ∈ Al := in1 191 rfl rfl
theorem wd1_192 : (Jvm.Cond.code ({ cls := "ShaftPlay", name := "isWithin", desc := "(III)Z" } : Jvm.MethodName) prog_1_method_34_code (3 : Nat) (Option.some Jvm.ClassFile.FieldType.boolean)) ∈ Al := in1 192 rfl rfl
theorem wd1_193 : (Jvm.Cond.methodLink "ShaftPlay" (48 : Nat) ({ cls := "ShaftPlay", name := "areBytesOfTape", desc := "(JI)Z" } : Jvm.MethodName)) ∈ Al := in1 193 rfl rfl
theorem wd1_194 : (Jvm.Cond.static ({ cls := "ShaftPlay", name := "areBytesOfTape", desc := "(JI)Z" } : Jvm.MethodName)) ∈ Al := in1 194 rfl rfl
theorem wd1_195 : (Jvm.Cond.code ({ cls := "ShaftPlay", name := "areBytesOfTape", desc := "(JI)Z" } : Jvm.MethodName) prog_1_method_42_code (4 : Nat) (Option.some Jvm.ClassFile.FieldType.boolean)) ∈ Al := in1 195 rfl rfl
theorem wd1_196 : (Jvm.Cond.methodLink "ShaftPlay" (250 : Nat) ({ cls := "ShaftPlay", name := "byteOf", desc := "(JI)I" } : Jvm.MethodName)) ∈ Al := in1 196 rfl rfl
theorem wd1_197 : (Jvm.Cond.static ({ cls := "ShaftPlay", name := "byteOf", desc := "(JI)I" } : Jvm.MethodName)) ∈ Al := in1 197 rfl rfl
theorem wd1_198 : (Jvm.Cond.code ({ cls := "ShaftPlay", name := "byteOf", desc := "(JI)I" } : Jvm.MethodName) prog_1_method_44_code (3 : Nat) (Option.some Jvm.ClassFile.FieldType.int)) ∈ Al := in1 198 rfl rfl
theorem wd1_199 : (Jvm.Cond.methodLink "ShaftPlay" (52 : Nat) ({ cls := "ShaftPlay$Tape", name := "append", desc := "(JI)I" } : Jvm.MethodName)) ∈ Al := in1 199 rfl rfl
theorem wd1_200 : (Jvm.Cond.instanceMethod ({ cls := "ShaftPlay$Tape", name := "append", desc := "(JI)I" } : Jvm.MethodName)) ∈ Al := in1 200 rfl rfl
theorem wd1_201 : (Jvm.Cond.selects "ShaftPlay$Tape" ({ cls := "ShaftPlay$Tape", name := "append", desc := "(JI)I" } : Jvm.MethodName) ({ cls := "ShaftPlay$Tape", name := "append", desc := "(JI)I" } : Jvm.MethodName)) ∈ Al := in1 201 rfl rfl
theorem wd1_202 : (Jvm.Cond.code ({ cls := "ShaftPlay$Tape", name := "append", desc := "(JI)I" } : Jvm.MethodName) prog_6_method_2_code (5 : Nat) (Option.some Jvm.ClassFile.FieldType.int)) ∈ Al := in1 202 rfl rfl
theorem wd1_203 : (Jvm.Cond.methodLinkNest "ShaftPlay$Tape" (22 : Nat) ({ cls := "ShaftPlay", name := "byteOf", desc := "(JI)I" } : Jvm.MethodName) "ShaftPlay") ∈ lw_tbl := List.mem_append_right _ (tb1 203 rfl)
theorem wd1_204 : (Jvm.Cond.methodLink "ShaftPlayLaw" (20 : Nat) ({ cls := "ShaftPlay", name := "cam", desc := "()I" } : Jvm.MethodName)) ∈ Al := in1 204 rfl rfl
theorem wd1_205 : (Jvm.Cond.instanceMethod ({ cls := "ShaftPlay", name := "cam", desc := "()I" } : Jvm.MethodName)) ∈ Al := in1 205 rfl rfl
theorem wd1_206 : (Jvm.Cond.selects "ShaftPlay" ({ cls := "ShaftPlay", name := "cam", desc := "()I" } : Jvm.MethodName) ({ cls := "ShaftPlay", name := "cam", desc := "()I" } : Jvm.MethodName)) ∈ Al := in1 206 rfl rfl
theorem wd1_207 : (Jvm.Cond.code ({ cls := "ShaftPlay", name := "cam", desc := "()I" } : Jvm.MethodName) prog_1_method_3_code (2 : Nat) (Option.some Jvm.ClassFile.FieldType.int)) ∈ Al := in1 207 rfl rfl
theorem wd1_208 : (Jvm.Cond.methodLink "ShaftPlay" (56 : Nat) ({ cls := "ShaftPlay", name := "takeTape", desc := "(Z)I" } : Jvm.MethodName)) ∈ Al := in1 208 rfl rfl
theorem wd1_210 : (Jvm.Cond.instanceMethod ({ cls := "ShaftPlay", name := "takeTape", desc := "(Z)I" } : Jvm.MethodName)) ∈ Al := in1 210 rfl rfl
theorem wd1_211 : (Jvm.Cond.code ({ cls := "ShaftPlay", name := "takeTape", desc := "(Z)I" } : Jvm.MethodName) prog_1_method_47_code (3 : Nat) (Option.some Jvm.ClassFile.FieldType.int)) ∈ Al := in1 211 rfl rfl
theorem wd1_212 : (Jvm.Cond.methodLink "ShaftPlay" (262 : Nat) ({ cls := "ShaftPlay$Tape", name := "read", desc := "(Z)I" } : Jvm.MethodName)) ∈ Al := in1 212 rfl rfl
theorem wd1_213 : (Jvm.Cond.instanceMethod ({ cls := "ShaftPlay$Tape", name := "read", desc := "(Z)I" } : Jvm.MethodName)) ∈ Al := in1 213 rfl rfl
theorem wd1_214 : (Jvm.Cond.selects "ShaftPlay$Tape" ({ cls := "ShaftPlay$Tape", name := "read", desc := "(Z)I" } : Jvm.MethodName) ({ cls := "ShaftPlay$Tape", name := "read", desc := "(Z)I" } : Jvm.MethodName)) ∈ Al := in1 214 rfl rfl
theorem wd1_215 : (Jvm.Cond.code ({ cls := "ShaftPlay$Tape", name := "read", desc := "(Z)I" } : Jvm.MethodName) prog_6_method_4_code (5 : Nat) (Option.some Jvm.ClassFile.FieldType.int)) ∈ Al := in1 215 rfl rfl
theorem wd1_216 : (Jvm.Cond.methodLink "ShaftPlay$Tape" (26 : Nat) ({ cls := "ShaftPlay$Tape", name := "wishSignOf", desc := "(I)I" } : Jvm.MethodName)) ∈ Al := in1 216 rfl rfl
theorem wd1_217 : (Jvm.Cond.static ({ cls := "ShaftPlay$Tape", name := "wishSignOf", desc := "(I)I" } : Jvm.MethodName)) ∈ Al := in1 217 rfl rfl
theorem wd1_218 : (Jvm.Cond.code ({ cls := "ShaftPlay$Tape", name := "wishSignOf", desc := "(I)I" } : Jvm.MethodName) prog_6_method_6_code (1 : Nat) (Option.some Jvm.ClassFile.FieldType.int)) ∈ Al := in1 218 rfl rfl
theorem wd1_219 : (Jvm.Cond.methodLink "ShaftPlay$Tape" (30 : Nat) ({ cls := "ShaftPlay$Tape", name := "digitOf", desc := "(I)I" } : Jvm.MethodName)) ∈ Al := in1 219 rfl rfl
theorem wd1_220 : (Jvm.Cond.static ({ cls := "ShaftPlay$Tape", name := "digitOf", desc := "(I)I" } : Jvm.MethodName)) ∈ Al := in1 220 rfl rfl
theorem wd1_221 : (Jvm.Cond.code ({ cls := "ShaftPlay$Tape", name := "digitOf", desc := "(I)I" } : Jvm.MethodName) prog_6_method_5_code (1 : Nat) (Option.some Jvm.ClassFile.FieldType.int)) ∈ Al := in1 221 rfl rfl
theorem wd1_222 : (Jvm.Cond.methodLinkNest "ShaftPlay$Tape" (33 : Nat) ({ cls := "ShaftPlay", name := "isWithin", desc := "(III)Z" } : Jvm.MethodName) "ShaftPlay") ∈ lw_tbl := List.mem_append_right _ (tb1 222 rfl)
theorem wd1_223 : (Jvm.Cond.methodLink "ShaftPlay" (265 : Nat) ({ cls := "ShaftPlay$Tape", name := "clear", desc := "()V" } : Jvm.MethodName)) ∈ Al := in1 223 rfl rfl
theorem wd1_224 : (Jvm.Cond.instanceMethod ({ cls := "ShaftPlay$Tape", name := "clear", desc := "()V" } : Jvm.MethodName)) ∈ Al := in1 224 rfl rfl
theorem wd1_225 : (Jvm.Cond.selects "ShaftPlay$Tape" ({ cls := "ShaftPlay$Tape", name := "clear", desc := "()V" } : Jvm.MethodName) ({ cls := "ShaftPlay$Tape", name := "clear", desc := "()V" } : Jvm.MethodName)) ∈ Al := in1 225 rfl rfl
theorem wd1_226 : (Jvm.Cond.code ({ cls := "ShaftPlay$Tape", name := "clear", desc := "()V" } : Jvm.MethodName) prog_6_method_3_code (1 : Nat) (Option.none : Option Jvm.ClassFile.FieldType)) ∈ Al := in1 226 rfl rfl
theorem wd1_227 : (Jvm.Cond.methodLink "ShaftPlay" (63 : Nat) ({ cls := "ShaftPlay$Play", name := "addCam", desc := "([I)I" } : Jvm.MethodName)) ∈ Al := in1 227 rfl rfl
theorem wd1_228 : (Jvm.Cond.instanceMethod ({ cls := "ShaftPlay$Play", name := "addCam", desc := "([I)I" } : Jvm.MethodName)) ∈ Al := in1 228 rfl rfl
theorem wd1_229 : (Jvm.Cond.selects "ShaftPlay$Play" ({ cls := "ShaftPlay$Play", name := "addCam", desc := "([I)I" } : Jvm.MethodName) ({ cls := "ShaftPlay$Play", name := "addCam", desc := "([I)I" } : Jvm.MethodName)) ∈ Al := in1 229 rfl rfl
theorem wd1_230 : (Jvm.Cond.code ({ cls := "ShaftPlay$Play", name := "addCam", desc := "([I)I" } : Jvm.MethodName) prog_3_method_3_code (2 : Nat) (Option.some Jvm.ClassFile.FieldType.int)) ∈ Al := in1 230 rfl rfl
theorem wd1_231 : (Jvm.Cond.methodLink "ShaftPlay$Play" (40 : Nat) ({ cls := "java/lang/System", name := "arraycopy", desc := "(Ljava/lang/Object;ILjava/lang/Object;II)V" } : Jvm.MethodName)) ∈ Al := in1 231 rfl rfl
theorem wd1_232 : (Jvm.Cond.static ({ cls := "java/lang/System", name := "arraycopy", desc := "(Ljava/lang/Object;ILjava/lang/Object;II)V" } : Jvm.MethodName)) ∈ Al := in1 232 rfl rfl
theorem wd1_233 : (Jvm.Cond.native ({ cls := "java/lang/System", name := "arraycopy", desc := "(Ljava/lang/Object;ILjava/lang/Object;II)V" } : Jvm.MethodName)) ∈ Al := in1 233 rfl rfl
theorem wd1_234 : (Jvm.Cond.methodLink "ShaftPlayLaw" (25 : Nat) ({ cls := "ShaftPlay", name := "cut", desc := "(III)I" } : Jvm.MethodName)) ∈ Al := in1 234 rfl rfl
theorem wd1_235 : (Jvm.Cond.instanceMethod ({ cls := "ShaftPlay", name := "cut", desc := "(III)I" } : Jvm.MethodName)) ∈ Al := in1 235 rfl rfl
theorem wd1_236 : (Jvm.Cond.selects "ShaftPlay" ({ cls := "ShaftPlay", name := "cut", desc := "(III)I" } : Jvm.MethodName) ({ cls := "ShaftPlay", name := "cut", desc := "(III)I" } : Jvm.MethodName)) ∈ Al := in1 236 rfl rfl
theorem wd1_237 : (Jvm.Cond.code ({ cls := "ShaftPlay", name := "cut", desc := "(III)I" } : Jvm.MethodName) prog_1_method_4_code (5 : Nat) (Option.some Jvm.ClassFile.FieldType.int)) ∈ Al := in1 237 rfl rfl
theorem wd1_238 : (Jvm.Cond.methodLink "ShaftPlay" (67 : Nat) ({ cls := "ShaftPlay", name := "isCam", desc := "(I)Z" } : Jvm.MethodName)) ∈ Al := in1 238 rfl rfl
theorem wd2_0 : (Jvm.Cond.instanceMethod ({ cls := "ShaftPlay", name := "isCam", desc := "(I)Z" } : Jvm.MethodName)) ∈ Al := in2 0 rfl rfl
theorem wd2_1 : (Jvm.Cond.code ({ cls := "ShaftPlay", name := "isCam", desc := "(I)Z" } : Jvm.MethodName) prog_1_method_40_code (2 : Nat) (Option.some Jvm.ClassFile.FieldType.boolean)) ∈ Al := in2 1 rfl rfl
theorem wd2_2 : (Jvm.Cond.methodLink "ShaftPlay" (71 : Nat) ({ cls := "ShaftPlay", name := "isAngle", desc := "(I)Z" } : Jvm.MethodName)) ∈ Al := in2 2 rfl rfl
theorem wd2_3 : (Jvm.Cond.static ({ cls := "ShaftPlay", name := "isAngle", desc := "(I)Z" } : Jvm.MethodName)) ∈ Al := in2 3 rfl rfl
theorem wd2_4 : (Jvm.Cond.code ({ cls := "ShaftPlay", name := "isAngle", desc := "(I)Z" } : Jvm.MethodName) prog_1_method_35_code (1 : Nat) (Option.some Jvm.ClassFile.FieldType.boolean)) ∈ Al := in2 4 rfl rfl
theorem wd2_5 : (Jvm.Cond.methodLink "ShaftPlayLaw" (30 : Nat) ({ cls := "ShaftPlay", name := "told", desc := "(II)I" } : Jvm.MethodName)) ∈ Al := in2 5 rfl rfl
theorem wd2_6 : (Jvm.Cond.instanceMethod ({ cls := "ShaftPlay", name := "told", desc := "(II)I" } : Jvm.MethodName)) ∈ Al := in2 6 rfl rfl
theorem wd2_7 : (Jvm.Cond.selects "ShaftPlay" ({ cls := "ShaftPlay", name := "told", desc := "(II)I" } : Jvm.MethodName) ({ cls := "ShaftPlay", name := "told", desc := "(II)I" } : Jvm.MethodName)) ∈ Al := in2 7 rfl rfl
theorem wd2_8 : (Jvm.Cond.code ({ cls := "ShaftPlay", name := "told", desc := "(II)I" } : Jvm.MethodName) prog_1_method_5_code (3 : Nat) (Option.some Jvm.ClassFile.FieldType.int)) ∈ Al := in2 8 rfl rfl
theorem wd2_9 : (Jvm.Cond.methodLink "ShaftPlayLaw" (35 : Nat) ({ cls := "ShaftPlay", name := "figure", desc := "(IIII)I" } : Jvm.MethodName)) ∈ Al := in2 9 rfl rfl
theorem wd2_10 : (Jvm.Cond.instanceMethod ({ cls := "ShaftPlay", name := "figure", desc := "(IIII)I" } : Jvm.MethodName)) ∈ Al := in2 10 rfl rfl
theorem wd2_11 : (Jvm.Cond.selects "ShaftPlay" ({ cls := "ShaftPlay", name := "figure", desc := "(IIII)I" } : Jvm.MethodName) ({ cls := "ShaftPlay", name := "figure", desc := "(IIII)I" } : Jvm.MethodName)) ∈ Al := in2 11 rfl rfl
theorem wd2_12 : (Jvm.Cond.code ({ cls := "ShaftPlay", name := "figure", desc := "(IIII)I" } : Jvm.MethodName) prog_1_method_6_code (5 : Nat) (Option.some Jvm.ClassFile.FieldType.int)) ∈ Al := in2 12 rfl rfl
theorem wd2_13 : (Jvm.Cond.methodLink "ShaftPlay" (78 : Nat) ({ cls := "ShaftPlay", name := "isKind", desc := "(I)Z" } : Jvm.MethodName)) ∈ Al := in2 13 rfl rfl
theorem wd2_14 : (Jvm.Cond.static ({ cls := "ShaftPlay", name := "isKind", desc := "(I)Z" } : Jvm.MethodName)) ∈ Al := in2 14 rfl rfl
theorem wd2_15 : (Jvm.Cond.code ({ cls := "ShaftPlay", name := "isKind", desc := "(I)Z" } : Jvm.MethodName) prog_1_method_36_code (1 : Nat) (Option.some Jvm.ClassFile.FieldType.boolean)) ∈ Al := in2 15 rfl rfl
theorem wd2_16 : (Jvm.Cond.methodLink "ShaftPlay" (81 : Nat) ({ cls := "ShaftPlay", name := "isPlace", desc := "(I)Z" } : Jvm.MethodName)) ∈ Al := in2 16 rfl rfl
theorem wd2_17 : (Jvm.Cond.static ({ cls := "ShaftPlay", name := "isPlace", desc := "(I)Z" } : Jvm.MethodName)) ∈ Al := in2 17 rfl rfl
theorem wd2_18 : (Jvm.Cond.code ({ cls := "ShaftPlay", name := "isPlace", desc := "(I)Z" } : Jvm.MethodName) prog_1_method_37_code (1 : Nat) (Option.some Jvm.ClassFile.FieldType.boolean)) ∈ Al := in2 18 rfl rfl
theorem wd2_19 : (Jvm.Cond.methodLink "ShaftPlay" (84 : Nat) ({ cls := "ShaftPlay$Play", name := "addFigure", desc := "(IIII)I" } : Jvm.MethodName)) ∈ Al := in2 19 rfl rfl
theorem wd2_20 : (Jvm.Cond.instanceMethod ({ cls := "ShaftPlay$Play", name := "addFigure", desc := "(IIII)I" } : Jvm.MethodName)) ∈ Al := in2 20 rfl rfl
theorem wd2_21 : (Jvm.Cond.selects "ShaftPlay$Play" ({ cls := "ShaftPlay$Play", name := "addFigure", desc := "(IIII)I" } : Jvm.MethodName) ({ cls := "ShaftPlay$Play", name := "addFigure", desc := "(IIII)I" } : Jvm.MethodName)) ∈ Al := in2 21 rfl rfl
theorem wd2_22 : (Jvm.Cond.code ({ cls := "ShaftPlay$Play", name := "addFigure", desc := "(IIII)I" } : Jvm.MethodName) prog_3_method_4_code (6 : Nat) (Option.some Jvm.ClassFile.FieldType.int)) ∈ Al := in2 22 rfl rfl
theorem wd2_23 : (Jvm.Cond.methodLink "ShaftPlayLaw" (40 : Nat) ({ cls := "ShaftPlay", name := "set", desc := "(III)I" } : Jvm.MethodName)) ∈ Al := in2 23 rfl rfl
theorem wd2_24 : (Jvm.Cond.instanceMethod ({ cls := "ShaftPlay", name := "set", desc := "(III)I" } : Jvm.MethodName)) ∈ Al := in2 24 rfl rfl
theorem wd2_25 : (Jvm.Cond.selects "ShaftPlay" ({ cls := "ShaftPlay", name := "set", desc := "(III)I" } : Jvm.MethodName) ({ cls := "ShaftPlay", name := "set", desc := "(III)I" } : Jvm.MethodName)) ∈ Al := in2 25 rfl rfl
theorem wd2_26 : (Jvm.Cond.code ({ cls := "ShaftPlay", name := "set", desc := "(III)I" } : Jvm.MethodName) prog_1_method_7_code (4 : Nat) (Option.some Jvm.ClassFile.FieldType.int)) ∈ Al := in2 26 rfl rfl
theorem wd2_27 : (Jvm.Cond.methodLink "ShaftPlay" (88 : Nat) ({ cls := "ShaftPlay", name := "isFigure", desc := "(I)Z" } : Jvm.MethodName)) ∈ Al := in2 27 rfl rfl
theorem wd2_29 : (Jvm.Cond.instanceMethod ({ cls := "ShaftPlay", name := "isFigure", desc := "(I)Z" } : Jvm.MethodName)) ∈ Al := in2 29 rfl rfl
theorem wd2_30 : (Jvm.Cond.code ({ cls := "ShaftPlay", name := "isFigure", desc := "(I)Z" } : Jvm.MethodName) prog_1_method_41_code (2 : Nat) (Option.some Jvm.ClassFile.FieldType.boolean)) ∈ Al := in2 30 rfl rfl
theorem wd2_31 : (Jvm.Cond.methodLink "ShaftPlay" (95 : Nat) ({ cls := "ShaftPlay$Figure", name := "changeKind", desc := "(I)I" } : Jvm.MethodName)) ∈ Al := in2 31 rfl rfl
theorem wd2_32 : (Jvm.Cond.instanceMethod ({ cls := "ShaftPlay$Figure", name := "changeKind", desc := "(I)I" } : Jvm.MethodName)) ∈ Al := in2 32 rfl rfl
theorem wd2_33 : (Jvm.Cond.selects "ShaftPlay$Figure" ({ cls := "ShaftPlay$Figure", name := "changeKind", desc := "(I)I" } : Jvm.MethodName) ({ cls := "ShaftPlay$Figure", name := "changeKind", desc := "(I)I" } : Jvm.MethodName)) ∈ Al := in2 33 rfl rfl
theorem wd2_34 : (Jvm.Cond.code ({ cls := "ShaftPlay$Figure", name := "changeKind", desc := "(I)I" } : Jvm.MethodName) prog_2_method_2_code (3 : Nat) (Option.some Jvm.ClassFile.FieldType.int)) ∈ Al := in2 34 rfl rfl
theorem wd2_35 : (Jvm.Cond.methodLink "ShaftPlay" (101 : Nat) ({ cls := "ShaftPlay$Figure", name := "changeCam", desc := "(I)I" } : Jvm.MethodName)) ∈ Al := in2 35 rfl rfl
theorem wd2_36 : (Jvm.Cond.instanceMethod ({ cls := "ShaftPlay$Figure", name := "changeCam", desc := "(I)I" } : Jvm.MethodName)) ∈ Al := in2 36 rfl rfl
theorem wd2_37 : (Jvm.Cond.selects "ShaftPlay$Figure" ({ cls := "ShaftPlay$Figure", name := "changeCam", desc := "(I)I" } : Jvm.MethodName) ({ cls := "ShaftPlay$Figure", name := "changeCam", desc := "(I)I" } : Jvm.MethodName)) ∈ Al := in2 37 rfl rfl
theorem wd2_38 : (Jvm.Cond.code ({ cls := "ShaftPlay$Figure", name := "changeCam", desc := "(I)I" } : Jvm.MethodName) prog_2_method_3_code (3 : Nat) (Option.some Jvm.ClassFile.FieldType.int)) ∈ Al := in2 38 rfl rfl
theorem wd2_39 : (Jvm.Cond.methodLink "ShaftPlay" (104 : Nat) ({ cls := "ShaftPlay$Figure", name := "changeLag", desc := "(I)I" } : Jvm.MethodName)) ∈ Al := in2 39 rfl rfl
theorem wd2_40 : (Jvm.Cond.instanceMethod ({ cls := "ShaftPlay$Figure", name := "changeLag", desc := "(I)I" } : Jvm.MethodName)) ∈ Al := in2 40 rfl rfl
theorem wd2_41 : (Jvm.Cond.selects "ShaftPlay$Figure" ({ cls := "ShaftPlay$Figure", name := "changeLag", desc := "(I)I" } : Jvm.MethodName) ({ cls := "ShaftPlay$Figure", name := "changeLag", desc := "(I)I" } : Jvm.MethodName)) ∈ Al := in2 41 rfl rfl
theorem wd2_42 : (Jvm.Cond.code ({ cls := "ShaftPlay$Figure", name := "changeLag", desc := "(I)I" } : Jvm.MethodName) prog_2_method_4_code (3 : Nat) (Option.some Jvm.ClassFile.FieldType.int)) ∈ Al := in2 42 rfl rfl
theorem wd2_43 : (Jvm.Cond.methodLink "ShaftPlay" (107 : Nat) ({ cls := "ShaftPlay$Figure", name := "changePlace", desc := "(I)I" } : Jvm.MethodName)) ∈ Al := in2 43 rfl rfl
theorem wd2_44 : (Jvm.Cond.instanceMethod ({ cls := "ShaftPlay$Figure", name := "changePlace", desc := "(I)I" } : Jvm.MethodName)) ∈ Al := in2 44 rfl rfl
theorem wd2_45 : (Jvm.Cond.selects "ShaftPlay$Figure" ({ cls := "ShaftPlay$Figure", name := "changePlace", desc := "(I)I" } : Jvm.MethodName) ({ cls := "ShaftPlay$Figure", name := "changePlace", desc := "(I)I" } : Jvm.MethodName)) ∈ Al := in2 45 rfl rfl
theorem wd2_46 : (Jvm.Cond.code ({ cls := "ShaftPlay$Figure", name := "changePlace", desc := "(I)I" } : Jvm.MethodName) prog_2_method_5_code (3 : Nat) (Option.some Jvm.ClassFile.FieldType.int)) ∈ Al := in2 46 rfl rfl
theorem wd2_47 : (Jvm.Cond.methodLink "ShaftPlayLaw" (44 : Nat) ({ cls := "ShaftPlay", name := "wish", desc := "(I)I" } : Jvm.MethodName)) ∈ Al := in2 47 rfl rfl
theorem wd2_48 : (Jvm.Cond.instanceMethod ({ cls := "ShaftPlay", name := "wish", desc := "(I)I" } : Jvm.MethodName)) ∈ Al := in2 48 rfl rfl
theorem wd2_49 : (Jvm.Cond.selects "ShaftPlay" ({ cls := "ShaftPlay", name := "wish", desc := "(I)I" } : Jvm.MethodName) ({ cls := "ShaftPlay", name := "wish", desc := "(I)I" } : Jvm.MethodName)) ∈ Al := in2 49 rfl rfl
theorem wd2_50 : (Jvm.Cond.code ({ cls := "ShaftPlay", name := "wish", desc := "(I)I" } : Jvm.MethodName) prog_1_method_8_code (3 : Nat) (Option.some Jvm.ClassFile.FieldType.int)) ∈ Al := in2 50 rfl rfl
theorem wd2_51 : (Jvm.Cond.methodLink "ShaftPlay" (110 : Nat) ({ cls := "ShaftPlay$Figure", name := "wishFor", desc := "([I)I" } : Jvm.MethodName)) ∈ Al := in2 51 rfl rfl
theorem wd2_52 : (Jvm.Cond.instanceMethod ({ cls := "ShaftPlay$Figure", name := "wishFor", desc := "([I)I" } : Jvm.MethodName)) ∈ Al := in2 52 rfl rfl
theorem wd2_53 : (Jvm.Cond.selects "ShaftPlay$Figure" ({ cls := "ShaftPlay$Figure", name := "wishFor", desc := "([I)I" } : Jvm.MethodName) ({ cls := "ShaftPlay$Figure", name := "wishFor", desc := "([I)I" } : Jvm.MethodName)) ∈ Al := in2 53 rfl rfl
theorem wd2_54 : (Jvm.Cond.code ({ cls := "ShaftPlay$Figure", name := "wishFor", desc := "([I)I" } : Jvm.MethodName) prog_2_method_6_code (3 : Nat) (Option.some Jvm.ClassFile.FieldType.int)) ∈ Al := in2 54 rfl rfl
theorem wd2_55 : (Jvm.Cond.methodLink "ShaftPlay$Figure" (30 : Nat) ({ cls := "java/lang/Integer", name := "bitCount", desc := "(I)I" } : Jvm.MethodName)) ∈ Al := in2 55 rfl rfl
theorem wd2_56 : (Jvm.Cond.static ({ cls := "java/lang/Integer", name := "bitCount", desc := "(I)I" } : Jvm.MethodName)) ∈ Al := in2 56 rfl rfl
theorem wd2_57 : (Jvm.Cond.code ({ cls := "java/lang/Integer", name := "bitCount", desc := "(I)I" } : Jvm.MethodName) prog_9_method_49_code (1 : Nat) (Option.some Jvm.ClassFile.FieldType.int)) ∈ Al := in2 57 rfl rfl
theorem wd2_58 : (Jvm.Cond.constant "java/lang/Integer" (265 : Nat) (1431655765 : Int32)) ∈ Al := in2 58 rfl rfl
theorem wd2_59 : (Jvm.Cond.constant "java/lang/Integer" (266 : Nat) (858993459 : Int32)) ∈ Al := in2 59 rfl rfl
theorem wd2_60 : (Jvm.Cond.constant "java/lang/Integer" (267 : Nat) (252645135 : Int32)) ∈ Al := in2 60 rfl rfl
theorem wd2_61 : (Jvm.Cond.methodLink "ShaftPlayLaw" (49 : Nat) ({ cls := "ShaftPlay", name := "line", desc := "(I)I" } : Jvm.MethodName)) ∈ Al := in2 61 rfl rfl
theorem wd2_62 : (Jvm.Cond.instanceMethod ({ cls := "ShaftPlay", name := "line", desc := "(I)I" } : Jvm.MethodName)) ∈ Al := in2 62 rfl rfl
theorem wd2_63 : (Jvm.Cond.selects "ShaftPlay" ({ cls := "ShaftPlay", name := "line", desc := "(I)I" } : Jvm.MethodName) ({ cls := "ShaftPlay", name := "line", desc := "(I)I" } : Jvm.MethodName)) ∈ Al := in2 63 rfl rfl
theorem wd2_64 : (Jvm.Cond.code ({ cls := "ShaftPlay", name := "line", desc := "(I)I" } : Jvm.MethodName) prog_1_method_9_code (3 : Nat) (Option.some Jvm.ClassFile.FieldType.int)) ∈ Al := in2 64 rfl rfl
theorem wd2_65 : (Jvm.Cond.methodLink "ShaftPlayLaw" (53 : Nat) ({ cls := "ShaftPlay", name := "way", desc := "(I)I" } : Jvm.MethodName)) ∈ Al := in2 65 rfl rfl
theorem wd2_66 : (Jvm.Cond.instanceMethod ({ cls := "ShaftPlay", name := "way", desc := "(I)I" } : Jvm.MethodName)) ∈ Al := in2 66 rfl rfl
theorem wd2_67 : (Jvm.Cond.selects "ShaftPlay" ({ cls := "ShaftPlay", name := "way", desc := "(I)I" } : Jvm.MethodName) ({ cls := "ShaftPlay", name := "way", desc := "(I)I" } : Jvm.MethodName)) ∈ Al := in2 67 rfl rfl
theorem wd2_68 : (Jvm.Cond.code ({ cls := "ShaftPlay", name := "way", desc := "(I)I" } : Jvm.MethodName) prog_1_method_10_code (3 : Nat) (Option.some Jvm.ClassFile.FieldType.int)) ∈ Al := in2 68 rfl rfl
theorem wd2_69 : (Jvm.Cond.methodLink "ShaftPlayLaw" (57 : Nat) ({ cls := "ShaftPlay", name := "count", desc := "(I)I" } : Jvm.MethodName)) ∈ Al := in2 69 rfl rfl
theorem wd2_70 : (Jvm.Cond.instanceMethod ({ cls := "ShaftPlay", name := "count", desc := "(I)I" } : Jvm.MethodName)) ∈ Al := in2 70 rfl rfl
theorem wd2_71 : (Jvm.Cond.selects "ShaftPlay" ({ cls := "ShaftPlay", name := "count", desc := "(I)I" } : Jvm.MethodName) ({ cls := "ShaftPlay", name := "count", desc := "(I)I" } : Jvm.MethodName)) ∈ Al := in2 71 rfl rfl
theorem wd2_72 : (Jvm.Cond.code ({ cls := "ShaftPlay", name := "count", desc := "(I)I" } : Jvm.MethodName) prog_1_method_11_code (2 : Nat) (Option.some Jvm.ClassFile.FieldType.int)) ∈ Al := in2 72 rfl rfl
theorem wd2_73 : (Jvm.Cond.methodLink "ShaftPlay" (132 : Nat) ({ cls := "ShaftPlay$Play", name := "figuresUpNow", desc := "()I" } : Jvm.MethodName)) ∈ Al := in2 73 rfl rfl
theorem wd2_74 : (Jvm.Cond.instanceMethod ({ cls := "ShaftPlay$Play", name := "figuresUpNow", desc := "()I" } : Jvm.MethodName)) ∈ Al := in2 74 rfl rfl
theorem wd2_75 : (Jvm.Cond.selects "ShaftPlay$Play" ({ cls := "ShaftPlay$Play", name := "figuresUpNow", desc := "()I" } : Jvm.MethodName) ({ cls := "ShaftPlay$Play", name := "figuresUpNow", desc := "()I" } : Jvm.MethodName)) ∈ Al := in2 75 rfl rfl
theorem wd2_76 : (Jvm.Cond.code ({ cls := "ShaftPlay$Play", name := "figuresUpNow", desc := "()I" } : Jvm.MethodName) prog_3_method_12_code (4 : Nat) (Option.some Jvm.ClassFile.FieldType.int)) ∈ Al := in2 76 rfl rfl
theorem wd2_77 : (Jvm.Cond.methodLink "ShaftPlay$Play" (106 : Nat) ({ cls := "ShaftPlay$Play", name := "heightOn", desc := "([ILShaftPlay$Figure;I)I" } : Jvm.MethodName)) ∈ Al := in2 77 rfl rfl
theorem wd2_78 : (Jvm.Cond.instanceMethod ({ cls := "ShaftPlay$Play", name := "heightOn", desc := "([ILShaftPlay$Figure;I)I" } : Jvm.MethodName)) ∈ Al := in2 78 rfl rfl
theorem wd2_79 : (Jvm.Cond.selects "ShaftPlay$Play" ({ cls := "ShaftPlay$Play", name := "heightOn", desc := "([ILShaftPlay$Figure;I)I" } : Jvm.MethodName) ({ cls := "ShaftPlay$Play", name := "heightOn", desc := "([ILShaftPlay$Figure;I)I" } : Jvm.MethodName)) ∈ Al := in2 79 rfl rfl
theorem wd2_80 : (Jvm.Cond.code ({ cls := "ShaftPlay$Play", name := "heightOn", desc := "([ILShaftPlay$Figure;I)I" } : Jvm.MethodName) prog_3_method_8_code (5 : Nat) (Option.some Jvm.ClassFile.FieldType.int)) ∈ Al := in2 80 rfl rfl
theorem wd2_81 : (Jvm.Cond.methodLink "ShaftPlay$Play" (93 : Nat) ({ cls := "ShaftPlay$Play", name := "hairOf", desc := "([ILShaftPlay$Figure;I)I" } : Jvm.MethodName)) ∈ Al := in2 81 rfl rfl
theorem wd2_82 : (Jvm.Cond.static ({ cls := "ShaftPlay$Play", name := "hairOf", desc := "([ILShaftPlay$Figure;I)I" } : Jvm.MethodName)) ∈ Al := in2 82 rfl rfl
theorem wd2_83 : (Jvm.Cond.code ({ cls := "ShaftPlay$Play", name := "hairOf", desc := "([ILShaftPlay$Figure;I)I" } : Jvm.MethodName) prog_3_method_7_code (3 : Nat) (Option.some Jvm.ClassFile.FieldType.int)) ∈ Al := in2 83 rfl rfl
theorem wd2_84 : (Jvm.Cond.methodLink "ShaftPlay$Play" (87 : Nat) ({ cls := "java/lang/Math", name := "floorMod", desc := "(II)I" } : Jvm.MethodName)) ∈ Al := in2 84 rfl rfl
theorem wd2_85 : (Jvm.Cond.static ({ cls := "java/lang/Math", name := "floorMod", desc := "(II)I" } : Jvm.MethodName)) ∈ Al := in2 85 rfl rfl
theorem wd2_86 : (Jvm.Cond.code ({ cls := "java/lang/Math", name := "floorMod", desc := "(II)I" } : Jvm.MethodName) prog_10_method_50_code (3 : Nat) (Option.some Jvm.ClassFile.FieldType.int)) ∈ Al := in2 86 rfl rfl
theorem wd2_87 : (Jvm.Cond.methodLink "ShaftPlay$Play" (97 : Nat) ({ cls := "ShaftPlay$Play", name := "slowHeight", desc := "([ILShaftPlay$Figure;I)I" } : Jvm.MethodName)) ∈ Al := in2 87 rfl rfl
theorem wd2_88 : (Jvm.Cond.instanceMethod ({ cls := "ShaftPlay$Play", name := "slowHeight", desc := "([ILShaftPlay$Figure;I)I" } : Jvm.MethodName)) ∈ Al := in2 88 rfl rfl
theorem wd2_89 : (Jvm.Cond.selects "ShaftPlay$Play" ({ cls := "ShaftPlay$Play", name := "slowHeight", desc := "([ILShaftPlay$Figure;I)I" } : Jvm.MethodName) ({ cls := "ShaftPlay$Play", name := "slowHeight", desc := "([ILShaftPlay$Figure;I)I" } : Jvm.MethodName)) ∈ Al := in2 89 rfl rfl
theorem wd2_90 : (Jvm.Cond.code ({ cls := "ShaftPlay$Play", name := "slowHeight", desc := "([ILShaftPlay$Figure;I)I" } : Jvm.MethodName) prog_3_method_9_code (6 : Nat) (Option.some Jvm.ClassFile.FieldType.int)) ∈ Al := in2 90 rfl rfl
theorem wd2_91 : (Jvm.Cond.methodLink "ShaftPlay$Play" (100 : Nat) ({ cls := "ShaftPlay$Play", name := "someAhead", desc := "(II)I" } : Jvm.MethodName)) ∈ Al := in2 91 rfl rfl
theorem wd2_92 : (Jvm.Cond.instanceMethod ({ cls := "ShaftPlay$Play", name := "someAhead", desc := "(II)I" } : Jvm.MethodName)) ∈ Al := in2 92 rfl rfl
theorem wd2_93 : (Jvm.Cond.selects "ShaftPlay$Play" ({ cls := "ShaftPlay$Play", name := "someAhead", desc := "(II)I" } : Jvm.MethodName) ({ cls := "ShaftPlay$Play", name := "someAhead", desc := "(II)I" } : Jvm.MethodName)) ∈ Al := in2 93 rfl rfl
theorem wd2_94 : (Jvm.Cond.code ({ cls := "ShaftPlay$Play", name := "someAhead", desc := "(II)I" } : Jvm.MethodName) prog_3_method_6_code (3 : Nat) (Option.some Jvm.ClassFile.FieldType.int)) ∈ Al := in2 94 rfl rfl
theorem wd2_95 : (Jvm.Cond.methodLink "ShaftPlay$Play" (103 : Nat) ({ cls := "java/lang/Math", name := "max", desc := "(II)I" } : Jvm.MethodName)) ∈ Al := in2 95 rfl rfl
theorem wd2_96 : (Jvm.Cond.static ({ cls := "java/lang/Math", name := "max", desc := "(II)I" } : Jvm.MethodName)) ∈ Al := in2 96 rfl rfl
theorem wd2_97 : (Jvm.Cond.code ({ cls := "java/lang/Math", name := "max", desc := "(II)I" } : Jvm.MethodName) prog_10_method_65_code (2 : Nat) (Option.some Jvm.ClassFile.FieldType.int)) ∈ Al := in2 97 rfl rfl
theorem wd2_98 : (Jvm.Cond.methodLink "ShaftPlayLaw" (61 : Nat) ({ cls := "ShaftPlay", name := "height", desc := "(II)I" } : Jvm.MethodName)) ∈ Al := in2 98 rfl rfl
theorem wd2_99 : (Jvm.Cond.instanceMethod ({ cls := "ShaftPlay", name := "height", desc := "(II)I" } : Jvm.MethodName)) ∈ Al := in2 99 rfl rfl
theorem wd2_100 : (Jvm.Cond.selects "ShaftPlay" ({ cls := "ShaftPlay", name := "height", desc := "(II)I" } : Jvm.MethodName) ({ cls := "ShaftPlay", name := "height", desc := "(II)I" } : Jvm.MethodName)) ∈ Al := in2 100 rfl rfl
theorem wd2_101 : (Jvm.Cond.code ({ cls := "ShaftPlay", name := "height", desc := "(II)I" } : Jvm.MethodName) prog_1_method_12_code (4 : Nat) (Option.some Jvm.ClassFile.FieldType.int)) ∈ Al := in2 101 rfl rfl
theorem wd2_102 : (Jvm.Cond.methodLink "ShaftPlay" (139 : Nat) ({ cls := "ShaftPlay$Play", name := "heightOn", desc := "([ILShaftPlay$Figure;I)I" } : Jvm.MethodName)) ∈ Al := in2 102 rfl rfl
theorem wd2_103 : (Jvm.Cond.methodLink "ShaftPlayLaw" (65 : Nat) ({ cls := "ShaftPlay", name := "ups", desc := "(I)I" } : Jvm.MethodName)) ∈ Al := in2 103 rfl rfl
theorem wd2_104 : (Jvm.Cond.instanceMethod ({ cls := "ShaftPlay", name := "ups", desc := "(I)I" } : Jvm.MethodName)) ∈ Al := in2 104 rfl rfl
theorem wd2_105 : (Jvm.Cond.selects "ShaftPlay" ({ cls := "ShaftPlay", name := "ups", desc := "(I)I" } : Jvm.MethodName) ({ cls := "ShaftPlay", name := "ups", desc := "(I)I" } : Jvm.MethodName)) ∈ Al := in2 105 rfl rfl
theorem wd2_106 : (Jvm.Cond.code ({ cls := "ShaftPlay", name := "ups", desc := "(I)I" } : Jvm.MethodName) prog_1_method_13_code (2 : Nat) (Option.some Jvm.ClassFile.FieldType.int)) ∈ Al := in2 106 rfl rfl
theorem wd2_107 : (Jvm.Cond.methodLink "ShaftPlay" (143 : Nat) ({ cls := "ShaftPlay$Play", name := "upsOf", desc := "(LShaftPlay$Figure;)I" } : Jvm.MethodName)) ∈ Al := in2 107 rfl rfl
theorem wd2_108 : (Jvm.Cond.instanceMethod ({ cls := "ShaftPlay$Play", name := "upsOf", desc := "(LShaftPlay$Figure;)I" } : Jvm.MethodName)) ∈ Al := in2 108 rfl rfl
theorem wd2_109 : (Jvm.Cond.selects "ShaftPlay$Play" ({ cls := "ShaftPlay$Play", name := "upsOf", desc := "(LShaftPlay$Figure;)I" } : Jvm.MethodName) ({ cls := "ShaftPlay$Play", name := "upsOf", desc := "(LShaftPlay$Figure;)I" } : Jvm.MethodName)) ∈ Al := in2 109 rfl rfl
theorem wd2_110 : (Jvm.Cond.code ({ cls := "ShaftPlay$Play", name := "upsOf", desc := "(LShaftPlay$Figure;)I" } : Jvm.MethodName) prog_3_method_11_code (2 : Nat) (Option.some Jvm.ClassFile.FieldType.int)) ∈ Al := in2 110 rfl rfl
theorem wd2_111 : (Jvm.Cond.methodLink "ShaftPlay$Play" (109 : Nat) ({ cls := "ShaftPlay$Play", name := "upsOn", desc := "([ILShaftPlay$Figure;)I" } : Jvm.MethodName)) ∈ Al := in2 111 rfl rfl
theorem wd2_112 : (Jvm.Cond.instanceMethod ({ cls := "ShaftPlay$Play", name := "upsOn", desc := "([ILShaftPlay$Figure;)I" } : Jvm.MethodName)) ∈ Al := in2 112 rfl rfl
theorem wd2_113 : (Jvm.Cond.selects "ShaftPlay$Play" ({ cls := "ShaftPlay$Play", name := "upsOn", desc := "([ILShaftPlay$Figure;)I" } : Jvm.MethodName) ({ cls := "ShaftPlay$Play", name := "upsOn", desc := "([ILShaftPlay$Figure;)I" } : Jvm.MethodName)) ∈ Al := in2 113 rfl rfl
theorem wd2_114 : (Jvm.Cond.code ({ cls := "ShaftPlay$Play", name := "upsOn", desc := "([ILShaftPlay$Figure;)I" } : Jvm.MethodName) prog_3_method_10_code (5 : Nat) (Option.some Jvm.ClassFile.FieldType.int)) ∈ Al := in2 114 rfl rfl
theorem wd2_115 : (Jvm.Cond.methodLink "ShaftPlayLaw" (69 : Nat) ({ cls := "ShaftPlay", name := "turn", desc := "(I)I" } : Jvm.MethodName)) ∈ Al := in2 115 rfl rfl
theorem wd2_116 : (Jvm.Cond.instanceMethod ({ cls := "ShaftPlay", name := "turn", desc := "(I)I" } : Jvm.MethodName)) ∈ Al := in2 116 rfl rfl
theorem wd2_117 : (Jvm.Cond.selects "ShaftPlay" ({ cls := "ShaftPlay", name := "turn", desc := "(I)I" } : Jvm.MethodName) ({ cls := "ShaftPlay", name := "turn", desc := "(I)I" } : Jvm.MethodName)) ∈ Al := in2 117 rfl rfl
theorem wd2_118 : (Jvm.Cond.code ({ cls := "ShaftPlay", name := "turn", desc := "(I)I" } : Jvm.MethodName) prog_1_method_14_code (3 : Nat) (Option.some Jvm.ClassFile.FieldType.int)) ∈ Al := in2 118 rfl rfl
theorem wd2_119 : (Jvm.Cond.methodLink "ShaftPlay" (147 : Nat) ({ cls := "ShaftPlay$Play", name := "strikesInTurning", desc := "(I)I" } : Jvm.MethodName)) ∈ Al := in2 119 rfl rfl
theorem wd2_120 : (Jvm.Cond.instanceMethod ({ cls := "ShaftPlay$Play", name := "strikesInTurning", desc := "(I)I" } : Jvm.MethodName)) ∈ Al := in2 120 rfl rfl
theorem wd2_121 : (Jvm.Cond.selects "ShaftPlay$Play" ({ cls := "ShaftPlay$Play", name := "strikesInTurning", desc := "(I)I" } : Jvm.MethodName) ({ cls := "ShaftPlay$Play", name := "strikesInTurning", desc := "(I)I" } : Jvm.MethodName)) ∈ Al := in2 121 rfl rfl
theorem wd2_122 : (Jvm.Cond.code ({ cls := "ShaftPlay$Play", name := "strikesInTurning", desc := "(I)I" } : Jvm.MethodName) prog_3_method_14_code (8 : Nat) (Option.some Jvm.ClassFile.FieldType.int)) ∈ Al := in2 122 rfl rfl
theorem wd2_123 : (Jvm.Cond.methodLink "ShaftPlay$Play" (116 : Nat) ({ cls := "ShaftPlay$Play", name := "anglesToCome", desc := "(I)I" } : Jvm.MethodName)) ∈ Al := in2 123 rfl rfl
theorem wd2_124 : (Jvm.Cond.instanceMethod ({ cls := "ShaftPlay$Play", name := "anglesToCome", desc := "(I)I" } : Jvm.MethodName)) ∈ Al := in2 124 rfl rfl
theorem wd2_125 : (Jvm.Cond.selects "ShaftPlay$Play" ({ cls := "ShaftPlay$Play", name := "anglesToCome", desc := "(I)I" } : Jvm.MethodName) ({ cls := "ShaftPlay$Play", name := "anglesToCome", desc := "(I)I" } : Jvm.MethodName)) ∈ Al := in2 125 rfl rfl
theorem wd2_126 : (Jvm.Cond.code ({ cls := "ShaftPlay$Play", name := "anglesToCome", desc := "(I)I" } : Jvm.MethodName) prog_3_method_15_code (5 : Nat) (Option.some Jvm.ClassFile.FieldType.int)) ∈ Al := in2 126 rfl rfl
theorem wd2_127 : (Jvm.Cond.methodLink "ShaftPlay$Play" (128 : Nat) ({ cls := "ShaftPlay$Play", name := "oneBehind", desc := "(I)I" } : Jvm.MethodName)) ∈ Al := in2 127 rfl rfl
theorem wd2_128 : (Jvm.Cond.instanceMethod ({ cls := "ShaftPlay$Play", name := "oneBehind", desc := "(I)I" } : Jvm.MethodName)) ∈ Al := in2 128 rfl rfl
theorem wd2_129 : (Jvm.Cond.selects "ShaftPlay$Play" ({ cls := "ShaftPlay$Play", name := "oneBehind", desc := "(I)I" } : Jvm.MethodName) ({ cls := "ShaftPlay$Play", name := "oneBehind", desc := "(I)I" } : Jvm.MethodName)) ∈ Al := in2 129 rfl rfl
theorem wd2_130 : (Jvm.Cond.code ({ cls := "ShaftPlay$Play", name := "oneBehind", desc := "(I)I" } : Jvm.MethodName) prog_3_method_5_code (2 : Nat) (Option.some Jvm.ClassFile.FieldType.int)) ∈ Al := in2 130 rfl rfl
theorem wd2_131 : (Jvm.Cond.methodLinkNest "ShaftPlay$Play" (83 : Nat) ({ cls := "ShaftPlay", name := "angleOf", desc := "(I)I" } : Jvm.MethodName) "ShaftPlay") ∈ lw_tbl := List.mem_append_right _ (tb2 131 rfl)
theorem wd2_132 : (Jvm.Cond.static ({ cls := "ShaftPlay", name := "angleOf", desc := "(I)I" } : Jvm.MethodName)) ∈ Al := in2 132 rfl rfl
theorem wd2_133 : (Jvm.Cond.code ({ cls := "ShaftPlay", name := "angleOf", desc := "(I)I" } : Jvm.MethodName) prog_1_method_45_code (1 : Nat) (Option.some Jvm.ClassFile.FieldType.int)) ∈ Al := in2 133 rfl rfl
theorem wd2_134 : (Jvm.Cond.methodLink "ShaftPlay" (253 : Nat) ({ cls := "java/lang/Math", name := "floorMod", desc := "(II)I" } : Jvm.MethodName)) ∈ Al := in2 134 rfl rfl
theorem wd2_135 : (Jvm.Cond.methodLink "ShaftPlay$Play" (119 : Nat) ({ cls := "ShaftPlay$Play", name := "strikesOf", desc := "(LShaftPlay$Figure;LShaftPlay$Figure;)I" } : Jvm.MethodName)) ∈ Al := in2 135 rfl rfl
theorem wd2_136 : (Jvm.Cond.instanceMethod ({ cls := "ShaftPlay$Play", name := "strikesOf", desc := "(LShaftPlay$Figure;LShaftPlay$Figure;)I" } : Jvm.MethodName)) ∈ Al := in2 136 rfl rfl
theorem wd2_137 : (Jvm.Cond.selects "ShaftPlay$Play" ({ cls := "ShaftPlay$Play", name := "strikesOf", desc := "(LShaftPlay$Figure;LShaftPlay$Figure;)I" } : Jvm.MethodName) ({ cls := "ShaftPlay$Play", name := "strikesOf", desc := "(LShaftPlay$Figure;LShaftPlay$Figure;)I" } : Jvm.MethodName)) ∈ Al := in2 137 rfl rfl
theorem wd2_138 : (Jvm.Cond.code ({ cls := "ShaftPlay$Play", name := "strikesOf", desc := "(LShaftPlay$Figure;LShaftPlay$Figure;)I" } : Jvm.MethodName) prog_3_method_13_code (5 : Nat) (Option.some Jvm.ClassFile.FieldType.int)) ∈ Al := in2 138 rfl rfl
theorem wd2_139 : (Jvm.Cond.methodLinkNest "ShaftPlay$Play" (113 : Nat) ({ cls := "ShaftPlay", name := "movedOn", desc := "(II)I" } : Jvm.MethodName) "ShaftPlay") ∈ lw_tbl := List.mem_append_right _ (tb2 139 rfl)
theorem wd2_140 : (Jvm.Cond.static ({ cls := "ShaftPlay", name := "movedOn", desc := "(II)I" } : Jvm.MethodName)) ∈ Al := in2 140 rfl rfl
theorem wd2_141 : (Jvm.Cond.code ({ cls := "ShaftPlay", name := "movedOn", desc := "(II)I" } : Jvm.MethodName) prog_1_method_46_code (3 : Nat) (Option.some Jvm.ClassFile.FieldType.int)) ∈ Al := in2 141 rfl rfl
theorem wd2_142 : (Jvm.Cond.methodLink "ShaftPlay" (259 : Nat) ({ cls := "ShaftPlay", name := "angleOf", desc := "(I)I" } : Jvm.MethodName)) ∈ Al := in2 142 rfl rfl
theorem wd2_143 : (Jvm.Cond.methodLink "ShaftPlay$Play" (123 : Nat) ({ cls := "java/lang/Integer", name := "bitCount", desc := "(I)I" } : Jvm.MethodName)) ∈ Al := in2 143 rfl rfl
theorem wd2_144 : (Jvm.Cond.methodLink "ShaftPlay" (150 : Nat) ({ cls := "ShaftPlay$Play", name := "goOn", desc := "(I)V" } : Jvm.MethodName)) ∈ Al := in2 144 rfl rfl
theorem wd2_145 : (Jvm.Cond.instanceMethod ({ cls := "ShaftPlay$Play", name := "goOn", desc := "(I)V" } : Jvm.MethodName)) ∈ Al := in2 145 rfl rfl
theorem wd2_146 : (Jvm.Cond.selects "ShaftPlay$Play" ({ cls := "ShaftPlay$Play", name := "goOn", desc := "(I)V" } : Jvm.MethodName) ({ cls := "ShaftPlay$Play", name := "goOn", desc := "(I)V" } : Jvm.MethodName)) ∈ Al := in2 146 rfl rfl
theorem wd2_147 : (Jvm.Cond.code ({ cls := "ShaftPlay$Play", name := "goOn", desc := "(I)V" } : Jvm.MethodName) prog_3_method_16_code (2 : Nat) (Option.none : Option Jvm.ClassFile.FieldType)) ∈ Al := in2 147 rfl rfl
theorem wd2_148 : (Jvm.Cond.constant "ShaftPlay$Play" (131 : Nat) (1000000000 : Int32)) ∈ Al := in2 148 rfl rfl
theorem wd2_149 : (Jvm.Cond.methodLink "ShaftPlay$Play" (132 : Nat) ({ cls := "java/lang/Math", name := "min", desc := "(II)I" } : Jvm.MethodName)) ∈ Al := in2 149 rfl rfl
theorem wd2_150 : (Jvm.Cond.static ({ cls := "java/lang/Math", name := "min", desc := "(II)I" } : Jvm.MethodName)) ∈ Al := in2 150 rfl rfl
theorem wd2_151 : (Jvm.Cond.code ({ cls := "java/lang/Math", name := "min", desc := "(II)I" } : Jvm.MethodName) prog_10_method_69_code (2 : Nat) (Option.some Jvm.ClassFile.FieldType.int)) ∈ Al := in2 151 rfl rfl
theorem wd2_152 : (Jvm.Cond.methodLink "ShaftPlayLaw" (73 : Nat) ({ cls := "ShaftPlay", name := "strikes", desc := "(II)I" } : Jvm.MethodName)) ∈ Al := in2 152 rfl rfl
theorem wd2_153 : (Jvm.Cond.instanceMethod ({ cls := "ShaftPlay", name := "strikes", desc := "(II)I" } : Jvm.MethodName)) ∈ Al := in2 153 rfl rfl
theorem wd2_154 : (Jvm.Cond.selects "ShaftPlay" ({ cls := "ShaftPlay", name := "strikes", desc := "(II)I" } : Jvm.MethodName) ({ cls := "ShaftPlay", name := "strikes", desc := "(II)I" } : Jvm.MethodName)) ∈ Al := in2 154 rfl rfl
theorem wd2_155 : (Jvm.Cond.code ({ cls := "ShaftPlay", name := "strikes", desc := "(II)I" } : Jvm.MethodName) prog_1_method_15_code (3 : Nat) (Option.some Jvm.ClassFile.FieldType.int)) ∈ Al := in2 155 rfl rfl
theorem wd2_156 : (Jvm.Cond.methodLink "ShaftPlay" (154 : Nat) ({ cls := "ShaftPlay$Play", name := "strikesOf", desc := "(LShaftPlay$Figure;LShaftPlay$Figure;)I" } : Jvm.MethodName)) ∈ Al := in2 156 rfl rfl
theorem wd2_157 : (Jvm.Cond.methodLink "ShaftPlayLaw" (77 : Nat) ({ cls := "ShaftPlay", name := "wear", desc := "(I)I" } : Jvm.MethodName)) ∈ Al := in2 157 rfl rfl
theorem wd2_158 : (Jvm.Cond.instanceMethod ({ cls := "ShaftPlay", name := "wear", desc := "(I)I" } : Jvm.MethodName)) ∈ Al := in2 158 rfl rfl
theorem wd2_159 : (Jvm.Cond.selects "ShaftPlay" ({ cls := "ShaftPlay", name := "wear", desc := "(I)I" } : Jvm.MethodName) ({ cls := "ShaftPlay", name := "wear", desc := "(I)I" } : Jvm.MethodName)) ∈ Al := in2 159 rfl rfl
theorem wd2_160 : (Jvm.Cond.code ({ cls := "ShaftPlay", name := "wear", desc := "(I)I" } : Jvm.MethodName) prog_1_method_16_code (4 : Nat) (Option.some Jvm.ClassFile.FieldType.int)) ∈ Al := in2 160 rfl rfl
theorem wd2_161 : (Jvm.Cond.methodLink "ShaftPlay" (158 : Nat) ({ cls := "ShaftPlay", name := "wornBy", desc := "([II)I" } : Jvm.MethodName)) ∈ Al := in2 161 rfl rfl
theorem wd2_162 : (Jvm.Cond.static ({ cls := "ShaftPlay", name := "wornBy", desc := "([II)I" } : Jvm.MethodName)) ∈ Al := in2 162 rfl rfl
theorem wd2_163 : (Jvm.Cond.code ({ cls := "ShaftPlay", name := "wornBy", desc := "([II)I" } : Jvm.MethodName) prog_1_method_50_code (4 : Nat) (Option.some Jvm.ClassFile.FieldType.int)) ∈ Al := in2 163 rfl rfl
theorem wd2_164 : (Jvm.Cond.methodLink "ShaftPlay" (274 : Nat) ({ cls := "ShaftPlay", name := "wornByOneTurn", desc := "([I)I" } : Jvm.MethodName)) ∈ Al := in2 164 rfl rfl
theorem wd2_165 : (Jvm.Cond.static ({ cls := "ShaftPlay", name := "wornByOneTurn", desc := "([I)I" } : Jvm.MethodName)) ∈ Al := in2 165 rfl rfl
theorem wd2_166 : (Jvm.Cond.code ({ cls := "ShaftPlay", name := "wornByOneTurn", desc := "([I)I" } : Jvm.MethodName) prog_1_method_51_code (3 : Nat) (Option.some Jvm.ClassFile.FieldType.int)) ∈ Al := in2 166 rfl rfl
theorem wd2_167 : (Jvm.Cond.methodLink "ShaftPlay" (277 : Nat) ({ cls := "java/lang/Integer", name := "bitCount", desc := "(I)I" } : Jvm.MethodName)) ∈ Al := in2 167 rfl rfl
theorem wd2_168 : (Jvm.Cond.methodLink "ShaftPlayLaw" (81 : Nat) ({ cls := "ShaftPlay", name := "missed", desc := "(I)I" } : Jvm.MethodName)) ∈ Al := in2 168 rfl rfl
theorem wd2_169 : (Jvm.Cond.instanceMethod ({ cls := "ShaftPlay", name := "missed", desc := "(I)I" } : Jvm.MethodName)) ∈ Al := in2 169 rfl rfl
theorem wd2_170 : (Jvm.Cond.selects "ShaftPlay" ({ cls := "ShaftPlay", name := "missed", desc := "(I)I" } : Jvm.MethodName) ({ cls := "ShaftPlay", name := "missed", desc := "(I)I" } : Jvm.MethodName)) ∈ Al := in2 170 rfl rfl
theorem wd2_171 : (Jvm.Cond.code ({ cls := "ShaftPlay", name := "missed", desc := "(I)I" } : Jvm.MethodName) prog_1_method_17_code (5 : Nat) (Option.some Jvm.ClassFile.FieldType.int)) ∈ Al := in2 171 rfl rfl
theorem wd2_172 : (Jvm.Cond.methodLink "ShaftPlay" (162 : Nat) ({ cls := "ShaftPlay$Figure", name := "missedWith", desc := "(I)I" } : Jvm.MethodName)) ∈ Al := in2 172 rfl rfl
theorem wd2_173 : (Jvm.Cond.instanceMethod ({ cls := "ShaftPlay$Figure", name := "missedWith", desc := "(I)I" } : Jvm.MethodName)) ∈ Al := in2 173 rfl rfl
theorem wd2_174 : (Jvm.Cond.selects "ShaftPlay$Figure" ({ cls := "ShaftPlay$Figure", name := "missedWith", desc := "(I)I" } : Jvm.MethodName) ({ cls := "ShaftPlay$Figure", name := "missedWith", desc := "(I)I" } : Jvm.MethodName)) ∈ Al := in2 174 rfl rfl
theorem wd2_175 : (Jvm.Cond.code ({ cls := "ShaftPlay$Figure", name := "missedWith", desc := "(I)I" } : Jvm.MethodName) prog_2_method_7_code (2 : Nat) (Option.some Jvm.ClassFile.FieldType.int)) ∈ Al := in2 175 rfl rfl
theorem wd2_176 : (Jvm.Cond.methodLink "ShaftPlayLaw" (85 : Nat) ({ cls := "ShaftPlay", name := "fewest", desc := "()I" } : Jvm.MethodName)) ∈ Al := in2 176 rfl rfl
theorem wd2_177 : (Jvm.Cond.instanceMethod ({ cls := "ShaftPlay", name := "fewest", desc := "()I" } : Jvm.MethodName)) ∈ Al := in2 177 rfl rfl
theorem wd2_178 : (Jvm.Cond.selects "ShaftPlay" ({ cls := "ShaftPlay", name := "fewest", desc := "()I" } : Jvm.MethodName) ({ cls := "ShaftPlay", name := "fewest", desc := "()I" } : Jvm.MethodName)) ∈ Al := in2 178 rfl rfl
theorem wd2_179 : (Jvm.Cond.code ({ cls := "ShaftPlay", name := "fewest", desc := "()I" } : Jvm.MethodName) prog_1_method_18_code (1 : Nat) (Option.some Jvm.ClassFile.FieldType.int)) ∈ Al := in2 179 rfl rfl
theorem wd2_180 : (Jvm.Cond.methodLink "ShaftPlay" (165 : Nat) ({ cls := "ShaftPlay", name := "shareCams", desc := "()I" } : Jvm.MethodName)) ∈ Al := in2 180 rfl rfl
theorem wd2_182 : (Jvm.Cond.instanceMethod ({ cls := "ShaftPlay", name := "shareCams", desc := "()I" } : Jvm.MethodName)) ∈ Al := in2 182 rfl rfl
theorem wd2_183 : (Jvm.Cond.code ({ cls := "ShaftPlay", name := "shareCams", desc := "()I" } : Jvm.MethodName) prog_1_method_53_code (2 : Nat) (Option.some Jvm.ClassFile.FieldType.int)) ∈ Al := in2 183 rfl rfl
theorem wd2_184 : (Jvm.Cond.methodLink "ShaftPlay" (286 : Nat) ({ cls := "ShaftPlay$Sharing", name := "compare", desc := "([LShaftPlay$Figure;I)V" } : Jvm.MethodName)) ∈ Al := in2 184 rfl rfl
theorem wd2_185 : (Jvm.Cond.instanceMethod ({ cls := "ShaftPlay$Sharing", name := "compare", desc := "([LShaftPlay$Figure;I)V" } : Jvm.MethodName)) ∈ Al := in2 185 rfl rfl
theorem wd2_186 : (Jvm.Cond.selects "ShaftPlay$Sharing" ({ cls := "ShaftPlay$Sharing", name := "compare", desc := "([LShaftPlay$Figure;I)V" } : Jvm.MethodName) ({ cls := "ShaftPlay$Sharing", name := "compare", desc := "([LShaftPlay$Figure;I)V" } : Jvm.MethodName)) ∈ Al := in2 186 rfl rfl
theorem wd2_187 : (Jvm.Cond.code ({ cls := "ShaftPlay$Sharing", name := "compare", desc := "([LShaftPlay$Figure;I)V" } : Jvm.MethodName) prog_4_method_2_code (5 : Nat) (Option.none : Option Jvm.ClassFile.FieldType)) ∈ Al := in2 187 rfl rfl
theorem wd2_188 : (Jvm.Cond.methodLink "ShaftPlay$Sharing" (23 : Nat) ({ cls := "ShaftPlay$Sharing", name := "lagsOf", desc := "(LShaftPlay$Figure;LShaftPlay$Figure;)I" } : Jvm.MethodName)) ∈ Al := in2 188 rfl rfl
theorem wd2_189 : (Jvm.Cond.static ({ cls := "ShaftPlay$Sharing", name := "lagsOf", desc := "(LShaftPlay$Figure;LShaftPlay$Figure;)I" } : Jvm.MethodName)) ∈ Al := in2 189 rfl rfl
theorem wd2_190 : (Jvm.Cond.code ({ cls := "ShaftPlay$Sharing", name := "lagsOf", desc := "(LShaftPlay$Figure;LShaftPlay$Figure;)I" } : Jvm.MethodName) prog_4_method_3_code (6 : Nat) (Option.some Jvm.ClassFile.FieldType.int)) ∈ Al := in2 190 rfl rfl
theorem wd2_191 : (Jvm.Cond.methodLinkNest "ShaftPlay$Sharing" (33 : Nat) ({ cls := "ShaftPlay", name := "movedOn", desc := "(II)I" } : Jvm.MethodName) "ShaftPlay") ∈ lw_tbl := List.mem_append_right _ (tb2 191 rfl)
theorem wd2_192 : (Jvm.Cond.methodLink "ShaftPlay" (290 : Nat) ({ cls := "ShaftPlay", name := "isSeated", desc := "(LShaftPlay$Sharing;IIII)Z" } : Jvm.MethodName)) ∈ Al := in2 192 rfl rfl
theorem wd2_193 : (Jvm.Cond.static ({ cls := "ShaftPlay", name := "isSeated", desc := "(LShaftPlay$Sharing;IIII)Z" } : Jvm.MethodName)) ∈ Al := in2 193 rfl rfl
theorem wd2_194 : (Jvm.Cond.code ({ cls := "ShaftPlay", name := "isSeated", desc := "(LShaftPlay$Sharing;IIII)Z" } : Jvm.MethodName) prog_1_method_54_code (8 : Nat) (Option.some Jvm.ClassFile.FieldType.boolean)) ∈ Al := in2 194 rfl rfl
theorem wd2_195 : (Jvm.Cond.methodLink "ShaftPlay" (294 : Nat) ({ cls := "ShaftPlay$Sharing", name := "lagsOn", desc := "(II)I" } : Jvm.MethodName)) ∈ Al := in2 195 rfl rfl
theorem wd2_196 : (Jvm.Cond.instanceMethod ({ cls := "ShaftPlay$Sharing", name := "lagsOn", desc := "(II)I" } : Jvm.MethodName)) ∈ Al := in2 196 rfl rfl
theorem wd2_197 : (Jvm.Cond.selects "ShaftPlay$Sharing" ({ cls := "ShaftPlay$Sharing", name := "lagsOn", desc := "(II)I" } : Jvm.MethodName) ({ cls := "ShaftPlay$Sharing", name := "lagsOn", desc := "(II)I" } : Jvm.MethodName)) ∈ Al := in2 197 rfl rfl
theorem wd2_198 : (Jvm.Cond.code ({ cls := "ShaftPlay$Sharing", name := "lagsOn", desc := "(II)I" } : Jvm.MethodName) prog_4_method_4_code (5 : Nat) (Option.some Jvm.ClassFile.FieldType.int)) ∈ Al := in2 198 rfl rfl
theorem wd2_199 : (Jvm.Cond.methodLink "ShaftPlay" (271 : Nat) ({ cls := "java/lang/Math", name := "max", desc := "(II)I" } : Jvm.MethodName)) ∈ Al := in2 199 rfl rfl
theorem wd2_200 : (Jvm.Cond.methodLink "ShaftPlayLaw" (89 : Nat) ({ cls := "ShaftPlay", name := "share", desc := "(II)I" } : Jvm.MethodName)) ∈ Al := in2 200 rfl rfl
theorem wd2_201 : (Jvm.Cond.instanceMethod ({ cls := "ShaftPlay", name := "share", desc := "(II)I" } : Jvm.MethodName)) ∈ Al := in2 201 rfl rfl
theorem wd2_202 : (Jvm.Cond.selects "ShaftPlay" ({ cls := "ShaftPlay", name := "share", desc := "(II)I" } : Jvm.MethodName) ({ cls := "ShaftPlay", name := "share", desc := "(II)I" } : Jvm.MethodName)) ∈ Al := in2 202 rfl rfl
theorem wd2_203 : (Jvm.Cond.code ({ cls := "ShaftPlay", name := "share", desc := "(II)I" } : Jvm.MethodName) prog_1_method_19_code (3 : Nat) (Option.some Jvm.ClassFile.FieldType.int)) ∈ Al := in2 203 rfl rfl
theorem wd2_204 : (Jvm.Cond.methodLink "ShaftPlayLaw" (93 : Nat) ({ cls := "ShaftPlay", name := "pegs", desc := "(II)I" } : Jvm.MethodName)) ∈ Al := in2 204 rfl rfl
theorem wd2_205 : (Jvm.Cond.instanceMethod ({ cls := "ShaftPlay", name := "pegs", desc := "(II)I" } : Jvm.MethodName)) ∈ Al := in2 205 rfl rfl
theorem wd2_206 : (Jvm.Cond.selects "ShaftPlay" ({ cls := "ShaftPlay", name := "pegs", desc := "(II)I" } : Jvm.MethodName) ({ cls := "ShaftPlay", name := "pegs", desc := "(II)I" } : Jvm.MethodName)) ∈ Al := in2 206 rfl rfl
theorem wd2_207 : (Jvm.Cond.code ({ cls := "ShaftPlay", name := "pegs", desc := "(II)I" } : Jvm.MethodName) prog_1_method_20_code (7 : Nat) (Option.some Jvm.ClassFile.FieldType.int)) ∈ Al := in2 207 rfl rfl
theorem wd2_208 : (Jvm.Cond.methodLink "ShaftPlay" (173 : Nat) ({ cls := "ShaftPlay$Play", name := "pegsBy", desc := "(LShaftPlay$Figure;I)I" } : Jvm.MethodName)) ∈ Al := in2 208 rfl rfl
theorem wd2_209 : (Jvm.Cond.instanceMethod ({ cls := "ShaftPlay$Play", name := "pegsBy", desc := "(LShaftPlay$Figure;I)I" } : Jvm.MethodName)) ∈ Al := in2 209 rfl rfl
theorem wd2_210 : (Jvm.Cond.selects "ShaftPlay$Play" ({ cls := "ShaftPlay$Play", name := "pegsBy", desc := "(LShaftPlay$Figure;I)I" } : Jvm.MethodName) ({ cls := "ShaftPlay$Play", name := "pegsBy", desc := "(LShaftPlay$Figure;I)I" } : Jvm.MethodName)) ∈ Al := in2 210 rfl rfl
theorem wd2_211 : (Jvm.Cond.code ({ cls := "ShaftPlay$Play", name := "pegsBy", desc := "(LShaftPlay$Figure;I)I" } : Jvm.MethodName) prog_3_method_17_code (5 : Nat) (Option.some Jvm.ClassFile.FieldType.int)) ∈ Al := in2 211 rfl rfl
theorem wd2_212 : (Jvm.Cond.methodLink "ShaftPlay$Play" (135 : Nat) ({ cls := "ShaftPlay$Figure", name := "missedWith", desc := "(I)I" } : Jvm.MethodName)) ∈ Al := in2 212 rfl rfl
theorem wd2_213 : (Jvm.Cond.methodLink "ShaftPlayLaw" (97 : Nat) ({ cls := "ShaftPlay", name := "beats", desc := "(II)I" } : Jvm.MethodName)) ∈ Al := in2 213 rfl rfl
theorem wd2_214 : (Jvm.Cond.instanceMethod ({ cls := "ShaftPlay", name := "beats", desc := "(II)I" } : Jvm.MethodName)) ∈ Al := in2 214 rfl rfl
theorem wd2_215 : (Jvm.Cond.selects "ShaftPlay" ({ cls := "ShaftPlay", name := "beats", desc := "(II)I" } : Jvm.MethodName) ({ cls := "ShaftPlay", name := "beats", desc := "(II)I" } : Jvm.MethodName)) ∈ Al := in2 215 rfl rfl
theorem wd2_216 : (Jvm.Cond.code ({ cls := "ShaftPlay", name := "beats", desc := "(II)I" } : Jvm.MethodName) prog_1_method_21_code (4 : Nat) (Option.some Jvm.ClassFile.FieldType.int)) ∈ Al := in2 216 rfl rfl
theorem wd2_217 : (Jvm.Cond.methodLink "ShaftPlayLaw" (101 : Nat) ({ cls := "ShaftPlay", name := "when", desc := "(I)I" } : Jvm.MethodName)) ∈ Al := in2 217 rfl rfl
theorem wd2_218 : (Jvm.Cond.instanceMethod ({ cls := "ShaftPlay", name := "when", desc := "(I)I" } : Jvm.MethodName)) ∈ Al := in2 218 rfl rfl
theorem wd2_219 : (Jvm.Cond.selects "ShaftPlay" ({ cls := "ShaftPlay", name := "when", desc := "(I)I" } : Jvm.MethodName) ({ cls := "ShaftPlay", name := "when", desc := "(I)I" } : Jvm.MethodName)) ∈ Al := in2 219 rfl rfl
theorem wd2_220 : (Jvm.Cond.code ({ cls := "ShaftPlay", name := "when", desc := "(I)I" } : Jvm.MethodName) prog_1_method_22_code (2 : Nat) (Option.some Jvm.ClassFile.FieldType.int)) ∈ Al := in2 220 rfl rfl
theorem wd2_221 : (Jvm.Cond.methodLink "ShaftPlay" (180 : Nat) ({ cls := "ShaftPlay$Play", name := "beatsTill", desc := "(I)I" } : Jvm.MethodName)) ∈ Al := in2 221 rfl rfl
theorem wd2_222 : (Jvm.Cond.instanceMethod ({ cls := "ShaftPlay$Play", name := "beatsTill", desc := "(I)I" } : Jvm.MethodName)) ∈ Al := in2 222 rfl rfl
theorem wd2_223 : (Jvm.Cond.selects "ShaftPlay$Play" ({ cls := "ShaftPlay$Play", name := "beatsTill", desc := "(I)I" } : Jvm.MethodName) ({ cls := "ShaftPlay$Play", name := "beatsTill", desc := "(I)I" } : Jvm.MethodName)) ∈ Al := in2 223 rfl rfl
theorem wd2_224 : (Jvm.Cond.code ({ cls := "ShaftPlay$Play", name := "beatsTill", desc := "(I)I" } : Jvm.MethodName) prog_3_method_18_code (5 : Nat) (Option.some Jvm.ClassFile.FieldType.int)) ∈ Al := in2 224 rfl rfl
theorem wd2_225 : (Jvm.Cond.methodLink "ShaftPlayLaw" (105 : Nat) ({ cls := "ShaftPlay", name := "at", desc := "(I)I" } : Jvm.MethodName)) ∈ Al := in2 225 rfl rfl
theorem wd2_226 : (Jvm.Cond.instanceMethod ({ cls := "ShaftPlay", name := "at", desc := "(I)I" } : Jvm.MethodName)) ∈ Al := in2 226 rfl rfl
theorem wd2_227 : (Jvm.Cond.selects "ShaftPlay" ({ cls := "ShaftPlay", name := "at", desc := "(I)I" } : Jvm.MethodName) ({ cls := "ShaftPlay", name := "at", desc := "(I)I" } : Jvm.MethodName)) ∈ Al := in2 227 rfl rfl
theorem wd2_228 : (Jvm.Cond.code ({ cls := "ShaftPlay", name := "at", desc := "(I)I" } : Jvm.MethodName) prog_1_method_23_code (2 : Nat) (Option.some Jvm.ClassFile.FieldType.int)) ∈ Al := in2 228 rfl rfl
theorem wd2_229 : (Jvm.Cond.constant "ShaftPlay" (183 : Nat) (99999 : Int32)) ∈ Al := in2 229 rfl rfl
theorem wd2_230 : (Jvm.Cond.methodLink "ShaftPlay" (184 : Nat) ({ cls := "ShaftPlay$Play", name := "angleAfter", desc := "(I)I" } : Jvm.MethodName)) ∈ Al := in2 230 rfl rfl
theorem wd2_231 : (Jvm.Cond.instanceMethod ({ cls := "ShaftPlay$Play", name := "angleAfter", desc := "(I)I" } : Jvm.MethodName)) ∈ Al := in2 231 rfl rfl
theorem wd2_232 : (Jvm.Cond.selects "ShaftPlay$Play" ({ cls := "ShaftPlay$Play", name := "angleAfter", desc := "(I)I" } : Jvm.MethodName) ({ cls := "ShaftPlay$Play", name := "angleAfter", desc := "(I)I" } : Jvm.MethodName)) ∈ Al := in2 232 rfl rfl
theorem wd2_233 : (Jvm.Cond.code ({ cls := "ShaftPlay$Play", name := "angleAfter", desc := "(I)I" } : Jvm.MethodName) prog_3_method_19_code (6 : Nat) (Option.some Jvm.ClassFile.FieldType.int)) ∈ Al := in2 233 rfl rfl
theorem wd2_234 : (Jvm.Cond.methodLink "ShaftPlayLaw" (109 : Nat) ({ cls := "ShaftPlay", name := "hand", desc := "(II)I" } : Jvm.MethodName)) ∈ Al := in2 234 rfl rfl
theorem wd2_235 : (Jvm.Cond.instanceMethod ({ cls := "ShaftPlay", name := "hand", desc := "(II)I" } : Jvm.MethodName)) ∈ Al := in2 235 rfl rfl
theorem wd2_236 : (Jvm.Cond.selects "ShaftPlay" ({ cls := "ShaftPlay", name := "hand", desc := "(II)I" } : Jvm.MethodName) ({ cls := "ShaftPlay", name := "hand", desc := "(II)I" } : Jvm.MethodName)) ∈ Al := in2 236 rfl rfl
theorem wd2_237 : (Jvm.Cond.code ({ cls := "ShaftPlay", name := "hand", desc := "(II)I" } : Jvm.MethodName) prog_1_method_24_code (4 : Nat) (Option.some Jvm.ClassFile.FieldType.int)) ∈ Al := in2 237 rfl rfl
theorem wd2_238 : (Jvm.Cond.methodLink "ShaftPlayLaw" (113 : Nat) ({ cls := "ShaftPlay", name := "whose", desc := "(I)I" } : Jvm.MethodName)) ∈ Al := in2 238 rfl rfl
theorem wd2_239 : (Jvm.Cond.instanceMethod ({ cls := "ShaftPlay", name := "whose", desc := "(I)I" } : Jvm.MethodName)) ∈ Al := in2 239 rfl rfl
theorem wd3_0 : (Jvm.Cond.selects "ShaftPlay" ({ cls := "ShaftPlay", name := "whose", desc := "(I)I" } : Jvm.MethodName) ({ cls := "ShaftPlay", name := "whose", desc := "(I)I" } : Jvm.MethodName)) ∈ Al := in3 0 rfl rfl
theorem wd3_1 : (Jvm.Cond.code ({ cls := "ShaftPlay", name := "whose", desc := "(I)I" } : Jvm.MethodName) prog_1_method_25_code (5 : Nat) (Option.some Jvm.ClassFile.FieldType.int)) ∈ Al := in3 1 rfl rfl
theorem wd3_2 : (Jvm.Cond.methodLink "ShaftPlay" (190 : Nat) ({ cls := "ShaftPlay", name := "stepsIn", desc := "([I)I" } : Jvm.MethodName)) ∈ Al := in3 2 rfl rfl
theorem wd3_3 : (Jvm.Cond.static ({ cls := "ShaftPlay", name := "stepsIn", desc := "([I)I" } : Jvm.MethodName)) ∈ Al := in3 3 rfl rfl
theorem wd3_4 : (Jvm.Cond.code ({ cls := "ShaftPlay", name := "stepsIn", desc := "([I)I" } : Jvm.MethodName) prog_1_method_48_code (3 : Nat) (Option.some Jvm.ClassFile.FieldType.int)) ∈ Al := in3 4 rfl rfl
theorem wd3_5 : (Jvm.Cond.methodLink "ShaftPlay" (268 : Nat) ({ cls := "java/lang/Math", name := "abs", desc := "(I)I" } : Jvm.MethodName)) ∈ Al := in3 5 rfl rfl
theorem wd3_6 : (Jvm.Cond.static ({ cls := "java/lang/Math", name := "abs", desc := "(I)I" } : Jvm.MethodName)) ∈ Al := in3 6 rfl rfl
theorem wd3_7 : (Jvm.Cond.code ({ cls := "java/lang/Math", name := "abs", desc := "(I)I" } : Jvm.MethodName) prog_10_method_59_code (1 : Nat) (Option.some Jvm.ClassFile.FieldType.int)) ∈ Al := in3 7 rfl rfl
theorem wd3_8 : (Jvm.Cond.methodLink "ShaftPlayLaw" (117 : Nat) ({ cls := "ShaftPlay", name := "image", desc := "()I" } : Jvm.MethodName)) ∈ Al := in3 8 rfl rfl
theorem wd3_9 : (Jvm.Cond.instanceMethod ({ cls := "ShaftPlay", name := "image", desc := "()I" } : Jvm.MethodName)) ∈ Al := in3 9 rfl rfl
theorem wd3_10 : (Jvm.Cond.selects "ShaftPlay" ({ cls := "ShaftPlay", name := "image", desc := "()I" } : Jvm.MethodName) ({ cls := "ShaftPlay", name := "image", desc := "()I" } : Jvm.MethodName)) ∈ Al := in3 10 rfl rfl
theorem wd3_11 : (Jvm.Cond.code ({ cls := "ShaftPlay", name := "image", desc := "()I" } : Jvm.MethodName) prog_1_method_26_code (1 : Nat) (Option.some Jvm.ClassFile.FieldType.int)) ∈ Al := in3 11 rfl rfl
theorem wd3_12 : (Jvm.Cond.methodLink "ShaftPlay" (193 : Nat) ({ cls := "ShaftPlay$Play", name := "becomeLike", desc := "(LShaftPlay$Play;)V" } : Jvm.MethodName)) ∈ Al := in3 12 rfl rfl
theorem wd3_13 : (Jvm.Cond.instanceMethod ({ cls := "ShaftPlay$Play", name := "becomeLike", desc := "(LShaftPlay$Play;)V" } : Jvm.MethodName)) ∈ Al := in3 13 rfl rfl
theorem wd3_14 : (Jvm.Cond.selects "ShaftPlay$Play" ({ cls := "ShaftPlay$Play", name := "becomeLike", desc := "(LShaftPlay$Play;)V" } : Jvm.MethodName) ({ cls := "ShaftPlay$Play", name := "becomeLike", desc := "(LShaftPlay$Play;)V" } : Jvm.MethodName)) ∈ Al := in3 14 rfl rfl
theorem wd3_15 : (Jvm.Cond.code ({ cls := "ShaftPlay$Play", name := "becomeLike", desc := "(LShaftPlay$Play;)V" } : Jvm.MethodName) prog_3_method_2_code (3 : Nat) (Option.none : Option Jvm.ClassFile.FieldType)) ∈ Al := in3 15 rfl rfl
theorem wd3_16 : (Jvm.Cond.methodLink "ShaftPlay$Play" (49 : Nat) ({ cls := "ShaftPlay$Figure", name := "becomeLike", desc := "(LShaftPlay$Figure;)V" } : Jvm.MethodName)) ∈ Al := in3 16 rfl rfl
theorem wd3_17 : (Jvm.Cond.instanceMethod ({ cls := "ShaftPlay$Figure", name := "becomeLike", desc := "(LShaftPlay$Figure;)V" } : Jvm.MethodName)) ∈ Al := in3 17 rfl rfl
theorem wd3_18 : (Jvm.Cond.selects "ShaftPlay$Figure" ({ cls := "ShaftPlay$Figure", name := "becomeLike", desc := "(LShaftPlay$Figure;)V" } : Jvm.MethodName) ({ cls := "ShaftPlay$Figure", name := "becomeLike", desc := "(LShaftPlay$Figure;)V" } : Jvm.MethodName)) ∈ Al := in3 18 rfl rfl
theorem wd3_19 : (Jvm.Cond.code ({ cls := "ShaftPlay$Figure", name := "becomeLike", desc := "(LShaftPlay$Figure;)V" } : Jvm.MethodName) prog_2_method_8_code (2 : Nat) (Option.none : Option Jvm.ClassFile.FieldType)) ∈ Al := in3 19 rfl rfl
theorem wd3_20 : (Jvm.Cond.methodLink "ShaftPlayLaw" (121 : Nat) ({ cls := "ShaftPlay", name := "restore", desc := "()I" } : Jvm.MethodName)) ∈ Al := in3 20 rfl rfl
theorem wd3_21 : (Jvm.Cond.instanceMethod ({ cls := "ShaftPlay", name := "restore", desc := "()I" } : Jvm.MethodName)) ∈ Al := in3 21 rfl rfl
theorem wd3_22 : (Jvm.Cond.selects "ShaftPlay" ({ cls := "ShaftPlay", name := "restore", desc := "()I" } : Jvm.MethodName) ({ cls := "ShaftPlay", name := "restore", desc := "()I" } : Jvm.MethodName)) ∈ Al := in3 22 rfl rfl
theorem wd3_23 : (Jvm.Cond.code ({ cls := "ShaftPlay", name := "restore", desc := "()I" } : Jvm.MethodName) prog_1_method_27_code (1 : Nat) (Option.some Jvm.ClassFile.FieldType.int)) ∈ Al := in3 23 rfl rfl
theorem wd3_24 : (Jvm.Cond.methodLink "ShaftPlayLaw" (125 : Nat) ({ cls := "ShaftPlay", name := "worn", desc := "(IIII)I" } : Jvm.MethodName)) ∈ Al := in3 24 rfl rfl
theorem wd3_25 : (Jvm.Cond.instanceMethod ({ cls := "ShaftPlay", name := "worn", desc := "(IIII)I" } : Jvm.MethodName)) ∈ Al := in3 25 rfl rfl
theorem wd3_26 : (Jvm.Cond.selects "ShaftPlay" ({ cls := "ShaftPlay", name := "worn", desc := "(IIII)I" } : Jvm.MethodName) ({ cls := "ShaftPlay", name := "worn", desc := "(IIII)I" } : Jvm.MethodName)) ∈ Al := in3 26 rfl rfl
theorem wd3_27 : (Jvm.Cond.code ({ cls := "ShaftPlay", name := "worn", desc := "(IIII)I" } : Jvm.MethodName) prog_1_method_28_code (9 : Nat) (Option.some Jvm.ClassFile.FieldType.int)) ∈ Al := in3 27 rfl rfl
theorem wd3_28 : (Jvm.Cond.methodLink "ShaftPlay" (201 : Nat) ({ cls := "ShaftPlay", name := "refusalOf", desc := "(IIII)I" } : Jvm.MethodName)) ∈ Al := in3 28 rfl rfl
theorem wd3_30 : (Jvm.Cond.instanceMethod ({ cls := "ShaftPlay", name := "refusalOf", desc := "(IIII)I" } : Jvm.MethodName)) ∈ Al := in3 30 rfl rfl
theorem wd3_31 : (Jvm.Cond.code ({ cls := "ShaftPlay", name := "refusalOf", desc := "(IIII)I" } : Jvm.MethodName) prog_1_method_43_code (5 : Nat) (Option.some Jvm.ClassFile.FieldType.int)) ∈ Al := in3 31 rfl rfl
theorem wd3_32 : (Jvm.Cond.methodLink "ShaftPlay" (216 : Nat) ({ cls := "ShaftPlay", name := "isSheet", desc := "(I)Z" } : Jvm.MethodName)) ∈ Al := in3 32 rfl rfl
theorem wd3_33 : (Jvm.Cond.static ({ cls := "ShaftPlay", name := "isSheet", desc := "(I)Z" } : Jvm.MethodName)) ∈ Al := in3 33 rfl rfl
theorem wd3_34 : (Jvm.Cond.code ({ cls := "ShaftPlay", name := "isSheet", desc := "(I)Z" } : Jvm.MethodName) prog_1_method_38_code (1 : Nat) (Option.some Jvm.ClassFile.FieldType.boolean)) ∈ Al := in3 34 rfl rfl
theorem wd3_35 : (Jvm.Cond.methodLink "ShaftPlay" (219 : Nat) ({ cls := "ShaftPlay", name := "isLane", desc := "(I)Z" } : Jvm.MethodName)) ∈ Al := in3 35 rfl rfl
theorem wd3_36 : (Jvm.Cond.static ({ cls := "ShaftPlay", name := "isLane", desc := "(I)Z" } : Jvm.MethodName)) ∈ Al := in3 36 rfl rfl
theorem wd3_37 : (Jvm.Cond.code ({ cls := "ShaftPlay", name := "isLane", desc := "(I)Z" } : Jvm.MethodName) prog_1_method_39_code (1 : Nat) (Option.some Jvm.ClassFile.FieldType.boolean)) ∈ Al := in3 37 rfl rfl
theorem wd3_38 : (Jvm.Cond.methodLink "ShaftPlay" (226 : Nat) ({ cls := "ShaftPlay$Sheet", name := "isNothing", desc := "()Z" } : Jvm.MethodName)) ∈ Al := in3 38 rfl rfl
theorem wd3_39 : (Jvm.Cond.instanceMethod ({ cls := "ShaftPlay$Sheet", name := "isNothing", desc := "()Z" } : Jvm.MethodName)) ∈ Al := in3 39 rfl rfl
theorem wd3_40 : (Jvm.Cond.selects "ShaftPlay$Sheet" ({ cls := "ShaftPlay$Sheet", name := "isNothing", desc := "()Z" } : Jvm.MethodName) ({ cls := "ShaftPlay$Sheet", name := "isNothing", desc := "()Z" } : Jvm.MethodName)) ∈ Al := in3 40 rfl rfl
theorem wd3_41 : (Jvm.Cond.code ({ cls := "ShaftPlay$Sheet", name := "isNothing", desc := "()Z" } : Jvm.MethodName) prog_5_method_2_code (1 : Nat) (Option.some Jvm.ClassFile.FieldType.boolean)) ∈ Al := in3 41 rfl rfl
theorem wd3_42 : (Jvm.Cond.methodLink "ShaftPlay" (236 : Nat) ({ cls := "ShaftPlay$Sheet", name := "hasItems", desc := "(II)Z" } : Jvm.MethodName)) ∈ Al := in3 42 rfl rfl
theorem wd3_43 : (Jvm.Cond.instanceMethod ({ cls := "ShaftPlay$Sheet", name := "hasItems", desc := "(II)Z" } : Jvm.MethodName)) ∈ Al := in3 43 rfl rfl
theorem wd3_44 : (Jvm.Cond.selects "ShaftPlay$Sheet" ({ cls := "ShaftPlay$Sheet", name := "hasItems", desc := "(II)Z" } : Jvm.MethodName) ({ cls := "ShaftPlay$Sheet", name := "hasItems", desc := "(II)Z" } : Jvm.MethodName)) ∈ Al := in3 44 rfl rfl
theorem wd3_45 : (Jvm.Cond.code ({ cls := "ShaftPlay$Sheet", name := "hasItems", desc := "(II)Z" } : Jvm.MethodName) prog_5_method_5_code (3 : Nat) (Option.some Jvm.ClassFile.FieldType.boolean)) ∈ Al := in3 45 rfl rfl
theorem wd3_46 : (Jvm.Cond.methodLink "ShaftPlay" (204 : Nat) ({ cls := "ShaftPlay", name := "isSo", desc := "(LShaftPlay$Sheet;II)Z" } : Jvm.MethodName)) ∈ Al := in3 46 rfl rfl
theorem wd3_48 : (Jvm.Cond.instanceMethod ({ cls := "ShaftPlay", name := "isSo", desc := "(LShaftPlay$Sheet;II)Z" } : Jvm.MethodName)) ∈ Al := in3 48 rfl rfl
theorem wd3_49 : (Jvm.Cond.code ({ cls := "ShaftPlay", name := "isSo", desc := "(LShaftPlay$Sheet;II)Z" } : Jvm.MethodName) prog_1_method_52_code (7 : Nat) (Option.some Jvm.ClassFile.FieldType.boolean)) ∈ Al := in3 49 rfl rfl
theorem wd3_50 : (Jvm.Cond.methodLink "ShaftPlay" (282 : Nat) ({ cls := "ShaftPlay$Play", name := "upsOn", desc := "([ILShaftPlay$Figure;)I" } : Jvm.MethodName)) ∈ Al := in3 50 rfl rfl
theorem wd3_51 : (Jvm.Cond.methodLink "ShaftPlay" (208 : Nat) ({ cls := "ShaftPlay", name := "lessenInto", desc := "([I[II)V" } : Jvm.MethodName)) ∈ Al := in3 51 rfl rfl
theorem wd3_52 : (Jvm.Cond.static ({ cls := "ShaftPlay", name := "lessenInto", desc := "([I[II)V" } : Jvm.MethodName)) ∈ Al := in3 52 rfl rfl
theorem wd3_53 : (Jvm.Cond.code ({ cls := "ShaftPlay", name := "lessenInto", desc := "([I[II)V" } : Jvm.MethodName) prog_1_method_49_code (4 : Nat) (Option.none : Option Jvm.ClassFile.FieldType)) ∈ Al := in3 53 rfl rfl
theorem wd3_54 : (Jvm.Cond.methodLink "ShaftPlayLaw" (129 : Nat) ({ cls := "ShaftPlay", name := "film", desc := "(IIII)I" } : Jvm.MethodName)) ∈ Al := in3 54 rfl rfl
theorem wd3_55 : (Jvm.Cond.instanceMethod ({ cls := "ShaftPlay", name := "film", desc := "(IIII)I" } : Jvm.MethodName)) ∈ Al := in3 55 rfl rfl
theorem wd3_56 : (Jvm.Cond.selects "ShaftPlay" ({ cls := "ShaftPlay", name := "film", desc := "(IIII)I" } : Jvm.MethodName) ({ cls := "ShaftPlay", name := "film", desc := "(IIII)I" } : Jvm.MethodName)) ∈ Al := in3 56 rfl rfl
theorem wd3_57 : (Jvm.Cond.code ({ cls := "ShaftPlay", name := "film", desc := "(IIII)I" } : Jvm.MethodName) prog_1_method_29_code (8 : Nat) (Option.some Jvm.ClassFile.FieldType.int)) ∈ Al := in3 57 rfl rfl
theorem wd3_58 : (Jvm.Cond.methodLink "ShaftPlay" (212 : Nat) ({ cls := "ShaftPlay$Sheet", name := "put", desc := "(IJ)V" } : Jvm.MethodName)) ∈ Al := in3 58 rfl rfl
theorem wd3_59 : (Jvm.Cond.instanceMethod ({ cls := "ShaftPlay$Sheet", name := "put", desc := "(IJ)V" } : Jvm.MethodName)) ∈ Al := in3 59 rfl rfl
theorem wd3_60 : (Jvm.Cond.selects "ShaftPlay$Sheet" ({ cls := "ShaftPlay$Sheet", name := "put", desc := "(IJ)V" } : Jvm.MethodName) ({ cls := "ShaftPlay$Sheet", name := "put", desc := "(IJ)V" } : Jvm.MethodName)) ∈ Al := in3 60 rfl rfl
theorem wd3_61 : (Jvm.Cond.code ({ cls := "ShaftPlay$Sheet", name := "put", desc := "(IJ)V" } : Jvm.MethodName) prog_5_method_6_code (4 : Nat) (Option.none : Option Jvm.ClassFile.FieldType)) ∈ Al := in3 61 rfl rfl
theorem wd3_62 : (Jvm.Cond.methodLink "ShaftPlayLaw" (133 : Nat) ({ cls := "ShaftPlay", name := "sheet", desc := "(III)I" } : Jvm.MethodName)) ∈ Al := in3 62 rfl rfl
theorem wd3_63 : (Jvm.Cond.instanceMethod ({ cls := "ShaftPlay", name := "sheet", desc := "(III)I" } : Jvm.MethodName)) ∈ Al := in3 63 rfl rfl
theorem wd3_64 : (Jvm.Cond.selects "ShaftPlay" ({ cls := "ShaftPlay", name := "sheet", desc := "(III)I" } : Jvm.MethodName) ({ cls := "ShaftPlay", name := "sheet", desc := "(III)I" } : Jvm.MethodName)) ∈ Al := in3 64 rfl rfl
theorem wd3_65 : (Jvm.Cond.code ({ cls := "ShaftPlay", name := "sheet", desc := "(III)I" } : Jvm.MethodName) prog_1_method_30_code (4 : Nat) (Option.some Jvm.ClassFile.FieldType.int)) ∈ Al := in3 65 rfl rfl
theorem wd3_66 : (Jvm.Cond.methodLink "ShaftPlay" (222 : Nat) ({ cls := "ShaftPlay$Sheet", name := "begin", desc := "(II)V" } : Jvm.MethodName)) ∈ Al := in3 66 rfl rfl
theorem wd3_67 : (Jvm.Cond.instanceMethod ({ cls := "ShaftPlay$Sheet", name := "begin", desc := "(II)V" } : Jvm.MethodName)) ∈ Al := in3 67 rfl rfl
theorem wd3_68 : (Jvm.Cond.selects "ShaftPlay$Sheet" ({ cls := "ShaftPlay$Sheet", name := "begin", desc := "(II)V" } : Jvm.MethodName) ({ cls := "ShaftPlay$Sheet", name := "begin", desc := "(II)V" } : Jvm.MethodName)) ∈ Al := in3 68 rfl rfl
theorem wd3_69 : (Jvm.Cond.code ({ cls := "ShaftPlay$Sheet", name := "begin", desc := "(II)V" } : Jvm.MethodName) prog_5_method_3_code (3 : Nat) (Option.none : Option Jvm.ClassFile.FieldType)) ∈ Al := in3 69 rfl rfl
theorem wd3_70 : (Jvm.Cond.methodLink "ShaftPlay$Sheet" (22 : Nat) ({ cls := "java/util/Arrays", name := "fill", desc := "([JJ)V" } : Jvm.MethodName)) ∈ Al := in3 70 rfl rfl
theorem wd3_71 : (Jvm.Cond.static ({ cls := "java/util/Arrays", name := "fill", desc := "([JJ)V" } : Jvm.MethodName)) ∈ Al := in3 71 rfl rfl
theorem wd3_72 : (Jvm.Cond.code ({ cls := "java/util/Arrays", name := "fill", desc := "([JJ)V" } : Jvm.MethodName) prog_12_method_101_code (5 : Nat) (Option.none : Option Jvm.ClassFile.FieldType)) ∈ Al := in3 72 rfl rfl
theorem wd3_73 : (Jvm.Cond.methodLink "ShaftPlayLaw" (137 : Nat) ({ cls := "ShaftPlay", name := "drop", desc := "(I)I" } : Jvm.MethodName)) ∈ Al := in3 73 rfl rfl
theorem wd3_74 : (Jvm.Cond.instanceMethod ({ cls := "ShaftPlay", name := "drop", desc := "(I)I" } : Jvm.MethodName)) ∈ Al := in3 74 rfl rfl
theorem wd3_75 : (Jvm.Cond.selects "ShaftPlay" ({ cls := "ShaftPlay", name := "drop", desc := "(I)I" } : Jvm.MethodName) ({ cls := "ShaftPlay", name := "drop", desc := "(I)I" } : Jvm.MethodName)) ∈ Al := in3 75 rfl rfl
theorem wd3_76 : (Jvm.Cond.code ({ cls := "ShaftPlay", name := "drop", desc := "(I)I" } : Jvm.MethodName) prog_1_method_31_code (2 : Nat) (Option.some Jvm.ClassFile.FieldType.int)) ∈ Al := in3 76 rfl rfl
theorem wd3_77 : (Jvm.Cond.methodLink "ShaftPlay" (230 : Nat) ({ cls := "ShaftPlay$Sheet", name := "end", desc := "()I" } : Jvm.MethodName)) ∈ Al := in3 77 rfl rfl
theorem wd3_78 : (Jvm.Cond.instanceMethod ({ cls := "ShaftPlay$Sheet", name := "end", desc := "()I" } : Jvm.MethodName)) ∈ Al := in3 78 rfl rfl
theorem wd3_79 : (Jvm.Cond.selects "ShaftPlay$Sheet" ({ cls := "ShaftPlay$Sheet", name := "end", desc := "()I" } : Jvm.MethodName) ({ cls := "ShaftPlay$Sheet", name := "end", desc := "()I" } : Jvm.MethodName)) ∈ Al := in3 79 rfl rfl
theorem wd3_80 : (Jvm.Cond.code ({ cls := "ShaftPlay$Sheet", name := "end", desc := "()I" } : Jvm.MethodName) prog_5_method_4_code (1 : Nat) (Option.some Jvm.ClassFile.FieldType.int)) ∈ Al := in3 80 rfl rfl
theorem wd3_81 : (Jvm.Cond.methodLink "ShaftPlayLaw" (141 : Nat) ({ cls := "ShaftPlay", name := "item", desc := "(IIIJ)I" } : Jvm.MethodName)) ∈ Al := in3 81 rfl rfl
theorem wd3_82 : (Jvm.Cond.instanceMethod ({ cls := "ShaftPlay", name := "item", desc := "(IIIJ)I" } : Jvm.MethodName)) ∈ Al := in3 82 rfl rfl
theorem wd3_83 : (Jvm.Cond.selects "ShaftPlay" ({ cls := "ShaftPlay", name := "item", desc := "(IIIJ)I" } : Jvm.MethodName) ({ cls := "ShaftPlay", name := "item", desc := "(IIIJ)I" } : Jvm.MethodName)) ∈ Al := in3 83 rfl rfl
theorem wd3_84 : (Jvm.Cond.code ({ cls := "ShaftPlay", name := "item", desc := "(IIIJ)I" } : Jvm.MethodName) prog_1_method_32_code (7 : Nat) (Option.some Jvm.ClassFile.FieldType.int)) ∈ Al := in3 84 rfl rfl
theorem wd3_85 : (Jvm.Cond.methodLink "ShaftPlayLaw" (146 : Nat) ({ cls := "ShaftPlay", name := "copy", desc := "(IIIII)I" } : Jvm.MethodName)) ∈ Al := in3 85 rfl rfl
theorem wd3_86 : (Jvm.Cond.instanceMethod ({ cls := "ShaftPlay", name := "copy", desc := "(IIIII)I" } : Jvm.MethodName)) ∈ Al := in3 86 rfl rfl
theorem wd3_87 : (Jvm.Cond.selects "ShaftPlay" ({ cls := "ShaftPlay", name := "copy", desc := "(IIIII)I" } : Jvm.MethodName) ({ cls := "ShaftPlay", name := "copy", desc := "(IIIII)I" } : Jvm.MethodName)) ∈ Al := in3 87 rfl rfl
theorem wd3_88 : (Jvm.Cond.code ({ cls := "ShaftPlay", name := "copy", desc := "(IIIII)I" } : Jvm.MethodName) prog_1_method_33_code (8 : Nat) (Option.some Jvm.ClassFile.FieldType.int)) ∈ Al := in3 88 rfl rfl
theorem wd3_89 : (Jvm.Cond.methodLink "ShaftPlay" (244 : Nat) ({ cls := "java/lang/System", name := "arraycopy", desc := "(Ljava/lang/Object;ILjava/lang/Object;II)V" } : Jvm.MethodName)) ∈ Al := in3 89 rfl rfl
theorem wd3_90 : (Jvm.Cond.classLink "ShaftPlayLaw" (10 : Nat) "ShaftPlayModel") ∈ Al := in3 90 rfl rfl
theorem wd3_91 : (Jvm.Cond.instantiable "ShaftPlayModel" (15 : Nat)) ∈ Al := in3 91 rfl rfl
theorem wd3_92 : (Jvm.Cond.methodLink "ShaftPlayLaw" (12 : Nat) ({ cls := "ShaftPlayModel", name := "<init>", desc := "()V" } : Jvm.MethodName)) ∈ Al := in3 92 rfl rfl
theorem wd3_93 : (Jvm.Cond.instanceMethod ({ cls := "ShaftPlayModel", name := "<init>", desc := "()V" } : Jvm.MethodName)) ∈ Al := in3 93 rfl rfl
theorem wd3_94 : (Jvm.Cond.code ({ cls := "ShaftPlayModel", name := "<init>", desc := "()V" } : Jvm.MethodName) prog_8_method_1_code (2 : Nat) (Option.none : Option Jvm.ClassFile.FieldType)) ∈ Al := in3 94 rfl rfl
theorem wd3_95 : (Jvm.Cond.methodLink "ShaftPlayModel" (1 : Nat) ({ cls := "java/lang/Object", name := "<init>", desc := "()V" } : Jvm.MethodName)) ∈ Al := in3 95 rfl rfl
theorem wd3_96 : (Jvm.Cond.fieldLink "ShaftPlayModel" (7 : Nat) "ShaftPlayModel" "w" "[I") ∈ Al := in3 96 rfl rfl
theorem wd3_97 : (Jvm.Cond.fieldLink "ShaftPlayModel" (145 : Nat) "ShaftPlayModel" "isKept" "Z") ∈ Al := in3 97 rfl rfl
theorem wd3_98 : (Jvm.Cond.fieldLink "ShaftPlayModel" (13 : Nat) "ShaftPlayModel" "tape" "[I") ∈ Al := in3 98 rfl rfl
theorem wd3_99 : (Jvm.Cond.fieldLink "ShaftPlayModel" (64 : Nat) "ShaftPlayModel" "taped" "I") ∈ Al := in3 99 rfl rfl
theorem wd3_100 : (Jvm.Cond.fieldLink "ShaftPlayModel" (16 : Nat) "ShaftPlayModel" "signs" "[I") ∈ Al := in3 100 rfl rfl
theorem wd3_101 : (Jvm.Cond.fieldLink "ShaftPlayModel" (19 : Nat) "ShaftPlayModel" "hairs" "[I") ∈ Al := in3 101 rfl rfl
theorem wd3_102 : (Jvm.Cond.fieldLink "ShaftPlayModel" (22 : Nat) "ShaftPlayModel" "first" "[I") ∈ Al := in3 102 rfl rfl
theorem wd3_103 : (Jvm.Cond.fieldLink "ShaftPlayModel" (25 : Nat) "ShaftPlayModel" "cams" "[I") ∈ Al := in3 103 rfl rfl
theorem wd3_104 : (Jvm.Cond.fieldLink "ShaftPlayModel" (28 : Nat) "ShaftPlayModel" "lags" "[I") ∈ Al := in3 104 rfl rfl
theorem wd3_105 : (Jvm.Cond.fieldLink "ShaftPlayModel" (31 : Nat) "ShaftPlayModel" "asksUp" "[I") ∈ Al := in3 105 rfl rfl
theorem wd3_106 : (Jvm.Cond.fieldLink "ShaftPlayModel" (34 : Nat) "ShaftPlayModel" "asksDown" "[I") ∈ Al := in3 106 rfl rfl
theorem wd3_107 : (Jvm.Cond.fieldLink "ShaftPlayModel" (37 : Nat) "ShaftPlayModel" "lanes" "[I") ∈ Al := in3 107 rfl rfl
theorem wd3_108 : (Jvm.Cond.fieldLink "ShaftPlayModel" (40 : Nat) "ShaftPlayModel" "sizes" "[I") ∈ Al := in3 108 rfl rfl
theorem wd3_109 : (Jvm.Cond.fieldLink "ShaftPlayModel" (43 : Nat) "ShaftPlayModel" "items" "[J") ∈ Al := in3 109 rfl rfl
theorem wd3_110 : (Jvm.Cond.fieldLink "ShaftPlayModel" (47 : Nat) "ShaftPlayModel" "taken" "[J") ∈ Al := in3 110 rfl rfl
theorem wd3_111 : (Jvm.Cond.laysFinal "ShaftPlayModel" "ShaftPlayModel" "w" "[I") ∈ Al := in3 111 rfl rfl
theorem wd3_113 : (Jvm.Cond.lays "ShaftPlayModel" "ShaftPlayModel" "isKept" "Z") ∈ Al := in3 113 rfl rfl
theorem wd3_115 : (Jvm.Cond.laysFinal "ShaftPlayModel" "ShaftPlayModel" "tape" "[I") ∈ Al := in3 115 rfl rfl
theorem wd3_117 : (Jvm.Cond.lays "ShaftPlayModel" "ShaftPlayModel" "taped" "I") ∈ Al := in3 117 rfl rfl
theorem wd3_119 : (Jvm.Cond.laysFinal "ShaftPlayModel" "ShaftPlayModel" "signs" "[I") ∈ Al := in3 119 rfl rfl
theorem wd3_121 : (Jvm.Cond.laysFinal "ShaftPlayModel" "ShaftPlayModel" "hairs" "[I") ∈ Al := in3 121 rfl rfl
theorem wd3_123 : (Jvm.Cond.laysFinal "ShaftPlayModel" "ShaftPlayModel" "first" "[I") ∈ Al := in3 123 rfl rfl
theorem wd3_125 : (Jvm.Cond.laysFinal "ShaftPlayModel" "ShaftPlayModel" "cams" "[I") ∈ Al := in3 125 rfl rfl
theorem wd3_127 : (Jvm.Cond.laysFinal "ShaftPlayModel" "ShaftPlayModel" "lags" "[I") ∈ Al := in3 127 rfl rfl
theorem wd3_129 : (Jvm.Cond.laysFinal "ShaftPlayModel" "ShaftPlayModel" "asksUp" "[I") ∈ Al := in3 129 rfl rfl
theorem wd3_131 : (Jvm.Cond.laysFinal "ShaftPlayModel" "ShaftPlayModel" "asksDown" "[I") ∈ Al := in3 131 rfl rfl
theorem wd3_133 : (Jvm.Cond.laysFinal "ShaftPlayModel" "ShaftPlayModel" "lanes" "[I") ∈ Al := in3 133 rfl rfl
theorem wd3_135 : (Jvm.Cond.laysFinal "ShaftPlayModel" "ShaftPlayModel" "sizes" "[I") ∈ Al := in3 135 rfl rfl
theorem wd3_137 : (Jvm.Cond.laysFinal "ShaftPlayModel" "ShaftPlayModel" "items" "[J") ∈ Al := in3 137 rfl rfl
theorem wd3_139 : (Jvm.Cond.laysFinal "ShaftPlayModel" "ShaftPlayModel" "taken" "[J") ∈ Al := in3 139 rfl rfl
theorem wd3_142 : (Jvm.Cond.methodLink "ShaftPlayLaw" (19 : Nat) ({ cls := "ShaftPlayModel", name := "type", desc := "(JI)I" } : Jvm.MethodName)) ∈ Al := in3 142 rfl rfl
theorem wd3_143 : (Jvm.Cond.instanceMethod ({ cls := "ShaftPlayModel", name := "type", desc := "(JI)I" } : Jvm.MethodName)) ∈ Al := in3 143 rfl rfl
theorem wd3_144 : (Jvm.Cond.selects "ShaftPlayModel" ({ cls := "ShaftPlayModel", name := "type", desc := "(JI)I" } : Jvm.MethodName) ({ cls := "ShaftPlayModel", name := "type", desc := "(JI)I" } : Jvm.MethodName)) ∈ Al := in3 144 rfl rfl
theorem wd3_145 : (Jvm.Cond.code ({ cls := "ShaftPlayModel", name := "type", desc := "(JI)I" } : Jvm.MethodName) prog_8_method_9_code (5 : Nat) (Option.some Jvm.ClassFile.FieldType.int)) ∈ Al := in3 145 rfl rfl
theorem wd3_146 : (Jvm.Cond.constantLong "ShaftPlayModel" (56 : Nat) (8 : Int64)) ∈ Al := in3 146 rfl rfl
theorem wd3_147 : (Jvm.Cond.methodLink "ShaftPlayModel" (52 : Nat) ({ cls := "ShaftPlayModel", name := "in", desc := "(JJJ)Z" } : Jvm.MethodName)) ∈ Al := in3 147 rfl rfl
theorem wd3_148 : (Jvm.Cond.static ({ cls := "ShaftPlayModel", name := "in", desc := "(JJJ)Z" } : Jvm.MethodName)) ∈ Al := in3 148 rfl rfl
theorem wd3_149 : (Jvm.Cond.code ({ cls := "ShaftPlayModel", name := "in", desc := "(JJJ)Z" } : Jvm.MethodName) prog_8_method_3_code (6 : Nat) (Option.some Jvm.ClassFile.FieldType.boolean)) ∈ Al := in3 149 rfl rfl
theorem wd3_150 : (Jvm.Cond.constantLong "ShaftPlayModel" (58 : Nat) (255 : Int64)) ∈ Al := in3 150 rfl rfl
theorem wd3_151 : (Jvm.Cond.constantLong "ShaftPlayModel" (60 : Nat) (32 : Int64)) ∈ Al := in3 151 rfl rfl
theorem wd3_152 : (Jvm.Cond.constantLong "ShaftPlayModel" (62 : Nat) (126 : Int64)) ∈ Al := in3 152 rfl rfl
theorem wd3_153 : (Jvm.Cond.methodLink "ShaftPlayLaw" (24 : Nat) ({ cls := "ShaftPlayModel", name := "cam", desc := "()I" } : Jvm.MethodName)) ∈ Al := in3 153 rfl rfl
theorem wd3_154 : (Jvm.Cond.instanceMethod ({ cls := "ShaftPlayModel", name := "cam", desc := "()I" } : Jvm.MethodName)) ∈ Al := in3 154 rfl rfl
theorem wd3_155 : (Jvm.Cond.selects "ShaftPlayModel" ({ cls := "ShaftPlayModel", name := "cam", desc := "()I" } : Jvm.MethodName) ({ cls := "ShaftPlayModel", name := "cam", desc := "()I" } : Jvm.MethodName)) ∈ Al := in3 155 rfl rfl
theorem wd3_156 : (Jvm.Cond.code ({ cls := "ShaftPlayModel", name := "cam", desc := "()I" } : Jvm.MethodName) prog_8_method_12_code (4 : Nat) (Option.some Jvm.ClassFile.FieldType.int)) ∈ Al := in3 156 rfl rfl
theorem wd3_157 : (Jvm.Cond.methodLink "ShaftPlayModel" (76 : Nat) ({ cls := "ShaftPlayModel", name := "takeSigns", desc := "(Z)I" } : Jvm.MethodName)) ∈ Al := in3 157 rfl rfl
theorem wd3_159 : (Jvm.Cond.instanceMethod ({ cls := "ShaftPlayModel", name := "takeSigns", desc := "(Z)I" } : Jvm.MethodName)) ∈ Al := in3 159 rfl rfl
theorem wd3_160 : (Jvm.Cond.code ({ cls := "ShaftPlayModel", name := "takeSigns", desc := "(Z)I" } : Jvm.MethodName) prog_8_method_11_code (5 : Nat) (Option.some Jvm.ClassFile.FieldType.int)) ∈ Al := in3 160 rfl rfl
theorem wd3_161 : (Jvm.Cond.methodLink "ShaftPlayModel" (72 : Nat) ({ cls := "ShaftPlayModel", name := "isSign", desc := "(IZ)Z" } : Jvm.MethodName)) ∈ Al := in3 161 rfl rfl
theorem wd3_162 : (Jvm.Cond.static ({ cls := "ShaftPlayModel", name := "isSign", desc := "(IZ)Z" } : Jvm.MethodName)) ∈ Al := in3 162 rfl rfl
theorem wd3_163 : (Jvm.Cond.code ({ cls := "ShaftPlayModel", name := "isSign", desc := "(IZ)Z" } : Jvm.MethodName) prog_8_method_10_code (2 : Nat) (Option.some Jvm.ClassFile.FieldType.boolean)) ∈ Al := in3 163 rfl rfl
theorem wd3_164 : (Jvm.Cond.constantLong "ShaftPlayModel" (68 : Nat) (48 : Int64)) ∈ Al := in3 164 rfl rfl
theorem wd3_165 : (Jvm.Cond.constantLong "ShaftPlayModel" (70 : Nat) (57 : Int64)) ∈ Al := in3 165 rfl rfl
theorem wd3_166 : (Jvm.Cond.methodLink "ShaftPlayLaw" (29 : Nat) ({ cls := "ShaftPlayModel", name := "cut", desc := "(III)I" } : Jvm.MethodName)) ∈ Al := in3 166 rfl rfl
theorem wd3_167 : (Jvm.Cond.instanceMethod ({ cls := "ShaftPlayModel", name := "cut", desc := "(III)I" } : Jvm.MethodName)) ∈ Al := in3 167 rfl rfl
theorem wd3_168 : (Jvm.Cond.selects "ShaftPlayModel" ({ cls := "ShaftPlayModel", name := "cut", desc := "(III)I" } : Jvm.MethodName) ({ cls := "ShaftPlayModel", name := "cut", desc := "(III)I" } : Jvm.MethodName)) ∈ Al := in3 168 rfl rfl
theorem wd3_169 : (Jvm.Cond.code ({ cls := "ShaftPlayModel", name := "cut", desc := "(III)I" } : Jvm.MethodName) prog_8_method_13_code (6 : Nat) (Option.some Jvm.ClassFile.FieldType.int)) ∈ Al := in3 169 rfl rfl
theorem wd3_170 : (Jvm.Cond.methodLink "ShaftPlayModel" (80 : Nat) ({ cls := "ShaftPlayModel", name := "isCam", desc := "(I)Z" } : Jvm.MethodName)) ∈ Al := in3 170 rfl rfl
theorem wd3_172 : (Jvm.Cond.instanceMethod ({ cls := "ShaftPlayModel", name := "isCam", desc := "(I)Z" } : Jvm.MethodName)) ∈ Al := in3 172 rfl rfl
theorem wd3_173 : (Jvm.Cond.code ({ cls := "ShaftPlayModel", name := "isCam", desc := "(I)Z" } : Jvm.MethodName) prog_8_method_7_code (2 : Nat) (Option.some Jvm.ClassFile.FieldType.boolean)) ∈ Al := in3 173 rfl rfl
theorem wd3_174 : (Jvm.Cond.methodLink "ShaftPlayModel" (84 : Nat) ({ cls := "ShaftPlayModel", name := "isAngle", desc := "(I)Z" } : Jvm.MethodName)) ∈ Al := in3 174 rfl rfl
theorem wd3_175 : (Jvm.Cond.static ({ cls := "ShaftPlayModel", name := "isAngle", desc := "(I)Z" } : Jvm.MethodName)) ∈ Al := in3 175 rfl rfl
theorem wd3_176 : (Jvm.Cond.code ({ cls := "ShaftPlayModel", name := "isAngle", desc := "(I)Z" } : Jvm.MethodName) prog_8_method_6_code (1 : Nat) (Option.some Jvm.ClassFile.FieldType.boolean)) ∈ Al := in3 176 rfl rfl
theorem wd3_177 : (Jvm.Cond.constantLong "ShaftPlayModel" (50 : Nat) (11 : Int64)) ∈ Al := in3 177 rfl rfl
theorem wd3_178 : (Jvm.Cond.constantLong "ShaftPlayModel" (87 : Nat) (9 : Int64)) ∈ Al := in3 178 rfl rfl
theorem wd3_179 : (Jvm.Cond.methodLink "ShaftPlayLaw" (34 : Nat) ({ cls := "ShaftPlayModel", name := "told", desc := "(II)I" } : Jvm.MethodName)) ∈ Al := in3 179 rfl rfl
theorem wd3_180 : (Jvm.Cond.instanceMethod ({ cls := "ShaftPlayModel", name := "told", desc := "(II)I" } : Jvm.MethodName)) ∈ Al := in3 180 rfl rfl
theorem wd3_181 : (Jvm.Cond.selects "ShaftPlayModel" ({ cls := "ShaftPlayModel", name := "told", desc := "(II)I" } : Jvm.MethodName) ({ cls := "ShaftPlayModel", name := "told", desc := "(II)I" } : Jvm.MethodName)) ∈ Al := in3 181 rfl rfl
theorem wd3_182 : (Jvm.Cond.code ({ cls := "ShaftPlayModel", name := "told", desc := "(II)I" } : Jvm.MethodName) prog_8_method_14_code (3 : Nat) (Option.some Jvm.ClassFile.FieldType.int)) ∈ Al := in3 182 rfl rfl
theorem wd3_183 : (Jvm.Cond.methodLink "ShaftPlayLaw" (39 : Nat) ({ cls := "ShaftPlayModel", name := "figure", desc := "(IIII)I" } : Jvm.MethodName)) ∈ Al := in3 183 rfl rfl
theorem wd3_184 : (Jvm.Cond.instanceMethod ({ cls := "ShaftPlayModel", name := "figure", desc := "(IIII)I" } : Jvm.MethodName)) ∈ Al := in3 184 rfl rfl
theorem wd3_185 : (Jvm.Cond.selects "ShaftPlayModel" ({ cls := "ShaftPlayModel", name := "figure", desc := "(IIII)I" } : Jvm.MethodName) ({ cls := "ShaftPlayModel", name := "figure", desc := "(IIII)I" } : Jvm.MethodName)) ∈ Al := in3 185 rfl rfl
theorem wd3_186 : (Jvm.Cond.code ({ cls := "ShaftPlayModel", name := "figure", desc := "(IIII)I" } : Jvm.MethodName) prog_8_method_16_code (6 : Nat) (Option.some Jvm.ClassFile.FieldType.int)) ∈ Al := in3 186 rfl rfl
theorem wd3_187 : (Jvm.Cond.methodLink "ShaftPlayModel" (91 : Nat) ({ cls := "ShaftPlayModel", name := "isGood", desc := "(II)Z" } : Jvm.MethodName)) ∈ Al := in3 187 rfl rfl
theorem wd3_189 : (Jvm.Cond.instanceMethod ({ cls := "ShaftPlayModel", name := "isGood", desc := "(II)Z" } : Jvm.MethodName)) ∈ Al := in3 189 rfl rfl
theorem wd3_190 : (Jvm.Cond.code ({ cls := "ShaftPlayModel", name := "isGood", desc := "(II)Z" } : Jvm.MethodName) prog_8_method_15_code (3 : Nat) (Option.some Jvm.ClassFile.FieldType.boolean)) ∈ Al := in3 190 rfl rfl
theorem wd3_191 : (Jvm.Cond.constantLong "ShaftPlayModel" (89 : Nat) (3 : Int64)) ∈ Al := in3 191 rfl rfl
theorem wd3_192 : (Jvm.Cond.methodLink "ShaftPlayLaw" (43 : Nat) ({ cls := "ShaftPlayModel", name := "set", desc := "(III)I" } : Jvm.MethodName)) ∈ Al := in3 192 rfl rfl
theorem wd3_193 : (Jvm.Cond.instanceMethod ({ cls := "ShaftPlayModel", name := "set", desc := "(III)I" } : Jvm.MethodName)) ∈ Al := in3 193 rfl rfl
theorem wd3_194 : (Jvm.Cond.selects "ShaftPlayModel" ({ cls := "ShaftPlayModel", name := "set", desc := "(III)I" } : Jvm.MethodName) ({ cls := "ShaftPlayModel", name := "set", desc := "(III)I" } : Jvm.MethodName)) ∈ Al := in3 194 rfl rfl
theorem wd3_195 : (Jvm.Cond.code ({ cls := "ShaftPlayModel", name := "set", desc := "(III)I" } : Jvm.MethodName) prog_8_method_17_code (6 : Nat) (Option.some Jvm.ClassFile.FieldType.int)) ∈ Al := in3 195 rfl rfl
theorem wd3_196 : (Jvm.Cond.methodLink "ShaftPlayModel" (95 : Nat) ({ cls := "ShaftPlayModel", name := "isFigure", desc := "(I)Z" } : Jvm.MethodName)) ∈ Al := in3 196 rfl rfl
theorem wd3_198 : (Jvm.Cond.instanceMethod ({ cls := "ShaftPlayModel", name := "isFigure", desc := "(I)Z" } : Jvm.MethodName)) ∈ Al := in3 198 rfl rfl
theorem wd3_199 : (Jvm.Cond.code ({ cls := "ShaftPlayModel", name := "isFigure", desc := "(I)Z" } : Jvm.MethodName) prog_8_method_8_code (2 : Nat) (Option.some Jvm.ClassFile.FieldType.boolean)) ∈ Al := in3 199 rfl rfl
theorem wd3_200 : (Jvm.Cond.methodLink "ShaftPlayLaw" (48 : Nat) ({ cls := "ShaftPlayModel", name := "wish", desc := "(I)I" } : Jvm.MethodName)) ∈ Al := in3 200 rfl rfl
theorem wd3_201 : (Jvm.Cond.instanceMethod ({ cls := "ShaftPlayModel", name := "wish", desc := "(I)I" } : Jvm.MethodName)) ∈ Al := in3 201 rfl rfl
theorem wd3_202 : (Jvm.Cond.selects "ShaftPlayModel" ({ cls := "ShaftPlayModel", name := "wish", desc := "(I)I" } : Jvm.MethodName) ({ cls := "ShaftPlayModel", name := "wish", desc := "(I)I" } : Jvm.MethodName)) ∈ Al := in3 202 rfl rfl
theorem wd3_203 : (Jvm.Cond.code ({ cls := "ShaftPlayModel", name := "wish", desc := "(I)I" } : Jvm.MethodName) prog_8_method_18_code (6 : Nat) (Option.some Jvm.ClassFile.FieldType.int)) ∈ Al := in3 203 rfl rfl
theorem wd3_204 : (Jvm.Cond.methodLink "ShaftPlayModel" (98 : Nat) ({ cls := "ShaftPlayModel", name := "ones", desc := "(I)I" } : Jvm.MethodName)) ∈ Al := in3 204 rfl rfl
theorem wd3_205 : (Jvm.Cond.static ({ cls := "ShaftPlayModel", name := "ones", desc := "(I)I" } : Jvm.MethodName)) ∈ Al := in3 205 rfl rfl
theorem wd3_206 : (Jvm.Cond.code ({ cls := "ShaftPlayModel", name := "ones", desc := "(I)I" } : Jvm.MethodName) prog_8_method_5_code (3 : Nat) (Option.some Jvm.ClassFile.FieldType.int)) ∈ Al := in3 206 rfl rfl
theorem wd3_207 : (Jvm.Cond.methodLink "ShaftPlayLaw" (52 : Nat) ({ cls := "ShaftPlayModel", name := "line", desc := "(I)I" } : Jvm.MethodName)) ∈ Al := in3 207 rfl rfl
theorem wd3_208 : (Jvm.Cond.instanceMethod ({ cls := "ShaftPlayModel", name := "line", desc := "(I)I" } : Jvm.MethodName)) ∈ Al := in3 208 rfl rfl
theorem wd3_209 : (Jvm.Cond.selects "ShaftPlayModel" ({ cls := "ShaftPlayModel", name := "line", desc := "(I)I" } : Jvm.MethodName) ({ cls := "ShaftPlayModel", name := "line", desc := "(I)I" } : Jvm.MethodName)) ∈ Al := in3 209 rfl rfl
theorem wd3_210 : (Jvm.Cond.code ({ cls := "ShaftPlayModel", name := "line", desc := "(I)I" } : Jvm.MethodName) prog_8_method_19_code (3 : Nat) (Option.some Jvm.ClassFile.FieldType.int)) ∈ Al := in3 210 rfl rfl
theorem wd3_211 : (Jvm.Cond.methodLink "ShaftPlayLaw" (56 : Nat) ({ cls := "ShaftPlayModel", name := "way", desc := "(I)I" } : Jvm.MethodName)) ∈ Al := in3 211 rfl rfl
theorem wd3_212 : (Jvm.Cond.instanceMethod ({ cls := "ShaftPlayModel", name := "way", desc := "(I)I" } : Jvm.MethodName)) ∈ Al := in3 212 rfl rfl
theorem wd3_213 : (Jvm.Cond.selects "ShaftPlayModel" ({ cls := "ShaftPlayModel", name := "way", desc := "(I)I" } : Jvm.MethodName) ({ cls := "ShaftPlayModel", name := "way", desc := "(I)I" } : Jvm.MethodName)) ∈ Al := in3 213 rfl rfl
theorem wd3_214 : (Jvm.Cond.code ({ cls := "ShaftPlayModel", name := "way", desc := "(I)I" } : Jvm.MethodName) prog_8_method_20_code (3 : Nat) (Option.some Jvm.ClassFile.FieldType.int)) ∈ Al := in3 214 rfl rfl
theorem wd3_215 : (Jvm.Cond.methodLink "ShaftPlayLaw" (64 : Nat) ({ cls := "ShaftPlayModel", name := "height", desc := "(II)I" } : Jvm.MethodName)) ∈ Al := in3 215 rfl rfl
theorem wd3_216 : (Jvm.Cond.instanceMethod ({ cls := "ShaftPlayModel", name := "height", desc := "(II)I" } : Jvm.MethodName)) ∈ Al := in3 216 rfl rfl
theorem wd3_217 : (Jvm.Cond.selects "ShaftPlayModel" ({ cls := "ShaftPlayModel", name := "height", desc := "(II)I" } : Jvm.MethodName) ({ cls := "ShaftPlayModel", name := "height", desc := "(II)I" } : Jvm.MethodName)) ∈ Al := in3 217 rfl rfl
theorem wd3_218 : (Jvm.Cond.code ({ cls := "ShaftPlayModel", name := "height", desc := "(II)I" } : Jvm.MethodName) prog_8_method_26_code (3 : Nat) (Option.some Jvm.ClassFile.FieldType.int)) ∈ Al := in3 218 rfl rfl
theorem wd3_219 : (Jvm.Cond.methodLink "ShaftPlayModel" (109 : Nat) ({ cls := "ShaftPlayModel", name := "heightOf", desc := "(II)I" } : Jvm.MethodName)) ∈ Al := in3 219 rfl rfl
theorem wd3_221 : (Jvm.Cond.instanceMethod ({ cls := "ShaftPlayModel", name := "heightOf", desc := "(II)I" } : Jvm.MethodName)) ∈ Al := in3 221 rfl rfl
theorem wd3_222 : (Jvm.Cond.code ({ cls := "ShaftPlayModel", name := "heightOf", desc := "(II)I" } : Jvm.MethodName) prog_8_method_24_code (7 : Nat) (Option.some Jvm.ClassFile.FieldType.int)) ∈ Al := in3 222 rfl rfl
theorem wd3_223 : (Jvm.Cond.methodLink "ShaftPlayModel" (102 : Nat) ({ cls := "ShaftPlayModel", name := "hairOf", desc := "(II)I" } : Jvm.MethodName)) ∈ Al := in3 223 rfl rfl
theorem wd3_225 : (Jvm.Cond.instanceMethod ({ cls := "ShaftPlayModel", name := "hairOf", desc := "(II)I" } : Jvm.MethodName)) ∈ Al := in3 225 rfl rfl
theorem wd3_226 : (Jvm.Cond.code ({ cls := "ShaftPlayModel", name := "hairOf", desc := "(II)I" } : Jvm.MethodName) prog_8_method_23_code (3 : Nat) (Option.some Jvm.ClassFile.FieldType.int)) ∈ Al := in3 226 rfl rfl
theorem wd3_227 : (Jvm.Cond.methodLink "ShaftPlayModel" (106 : Nat) ({ cls := "ShaftPlayModel", name := "aheadOf", desc := "(I)I" } : Jvm.MethodName)) ∈ Al := in3 227 rfl rfl
theorem wd3_229 : (Jvm.Cond.instanceMethod ({ cls := "ShaftPlayModel", name := "aheadOf", desc := "(I)I" } : Jvm.MethodName)) ∈ Al := in3 229 rfl rfl
theorem wd3_230 : (Jvm.Cond.code ({ cls := "ShaftPlayModel", name := "aheadOf", desc := "(I)I" } : Jvm.MethodName) prog_8_method_21_code (2 : Nat) (Option.some Jvm.ClassFile.FieldType.int)) ∈ Al := in3 230 rfl rfl
theorem wd3_231 : (Jvm.Cond.methodLink "ShaftPlayLaw" (68 : Nat) ({ cls := "ShaftPlayModel", name := "ups", desc := "(I)I" } : Jvm.MethodName)) ∈ Al := in3 231 rfl rfl
theorem wd3_232 : (Jvm.Cond.instanceMethod ({ cls := "ShaftPlayModel", name := "ups", desc := "(I)I" } : Jvm.MethodName)) ∈ Al := in3 232 rfl rfl
theorem wd3_233 : (Jvm.Cond.selects "ShaftPlayModel" ({ cls := "ShaftPlayModel", name := "ups", desc := "(I)I" } : Jvm.MethodName) ({ cls := "ShaftPlayModel", name := "ups", desc := "(I)I" } : Jvm.MethodName)) ∈ Al := in3 233 rfl rfl
theorem wd3_234 : (Jvm.Cond.code ({ cls := "ShaftPlayModel", name := "ups", desc := "(I)I" } : Jvm.MethodName) prog_8_method_27_code (2 : Nat) (Option.some Jvm.ClassFile.FieldType.int)) ∈ Al := in3 234 rfl rfl
theorem wd3_235 : (Jvm.Cond.methodLink "ShaftPlayModel" (112 : Nat) ({ cls := "ShaftPlayModel", name := "upsOf", desc := "(I)I" } : Jvm.MethodName)) ∈ Al := in3 235 rfl rfl
theorem wd3_237 : (Jvm.Cond.instanceMethod ({ cls := "ShaftPlayModel", name := "upsOf", desc := "(I)I" } : Jvm.MethodName)) ∈ Al := in3 237 rfl rfl
theorem wd3_238 : (Jvm.Cond.code ({ cls := "ShaftPlayModel", name := "upsOf", desc := "(I)I" } : Jvm.MethodName) prog_8_method_25_code (4 : Nat) (Option.some Jvm.ClassFile.FieldType.int)) ∈ Al := in3 238 rfl rfl
theorem wd3_239 : (Jvm.Cond.methodLink "ShaftPlayLaw" (76 : Nat) ({ cls := "ShaftPlayModel", name := "strikes", desc := "(II)I" } : Jvm.MethodName)) ∈ Al := in3 239 rfl rfl
theorem wd4_0 : (Jvm.Cond.instanceMethod ({ cls := "ShaftPlayModel", name := "strikes", desc := "(II)I" } : Jvm.MethodName)) ∈ Al := in4 0 rfl rfl
theorem wd4_1 : (Jvm.Cond.selects "ShaftPlayModel" ({ cls := "ShaftPlayModel", name := "strikes", desc := "(II)I" } : Jvm.MethodName) ({ cls := "ShaftPlayModel", name := "strikes", desc := "(II)I" } : Jvm.MethodName)) ∈ Al := in4 1 rfl rfl
theorem wd4_2 : (Jvm.Cond.code ({ cls := "ShaftPlayModel", name := "strikes", desc := "(II)I" } : Jvm.MethodName) prog_8_method_29_code (3 : Nat) (Option.some Jvm.ClassFile.FieldType.int)) ∈ Al := in4 2 rfl rfl
theorem wd4_3 : (Jvm.Cond.methodLink "ShaftPlayModel" (118 : Nat) ({ cls := "ShaftPlayModel", name := "strikesOf", desc := "(II)I" } : Jvm.MethodName)) ∈ Al := in4 3 rfl rfl
theorem wd4_5 : (Jvm.Cond.instanceMethod ({ cls := "ShaftPlayModel", name := "strikesOf", desc := "(II)I" } : Jvm.MethodName)) ∈ Al := in4 5 rfl rfl
theorem wd4_6 : (Jvm.Cond.code ({ cls := "ShaftPlayModel", name := "strikesOf", desc := "(II)I" } : Jvm.MethodName) prog_8_method_28_code (6 : Nat) (Option.some Jvm.ClassFile.FieldType.int)) ∈ Al := in4 6 rfl rfl
theorem wd4_7 : (Jvm.Cond.methodLink "ShaftPlayModel" (115 : Nat) ({ cls := "ShaftPlayModel", name := "has", desc := "(II)Z" } : Jvm.MethodName)) ∈ Al := in4 7 rfl rfl
theorem wd4_8 : (Jvm.Cond.static ({ cls := "ShaftPlayModel", name := "has", desc := "(II)Z" } : Jvm.MethodName)) ∈ Al := in4 8 rfl rfl
theorem wd4_9 : (Jvm.Cond.code ({ cls := "ShaftPlayModel", name := "has", desc := "(II)Z" } : Jvm.MethodName) prog_8_method_4_code (2 : Nat) (Option.some Jvm.ClassFile.FieldType.boolean)) ∈ Al := in4 9 rfl rfl
theorem wd4_10 : (Jvm.Cond.methodLink "ShaftPlayLaw" (72 : Nat) ({ cls := "ShaftPlayModel", name := "turn", desc := "(I)I" } : Jvm.MethodName)) ∈ Al := in4 10 rfl rfl
theorem wd4_11 : (Jvm.Cond.instanceMethod ({ cls := "ShaftPlayModel", name := "turn", desc := "(I)I" } : Jvm.MethodName)) ∈ Al := in4 11 rfl rfl
theorem wd4_12 : (Jvm.Cond.selects "ShaftPlayModel" ({ cls := "ShaftPlayModel", name := "turn", desc := "(I)I" } : Jvm.MethodName) ({ cls := "ShaftPlayModel", name := "turn", desc := "(I)I" } : Jvm.MethodName)) ∈ Al := in4 12 rfl rfl
theorem wd4_13 : (Jvm.Cond.code ({ cls := "ShaftPlayModel", name := "turn", desc := "(I)I" } : Jvm.MethodName) prog_8_method_30_code (8 : Nat) (Option.some Jvm.ClassFile.FieldType.int)) ∈ Al := in4 13 rfl rfl
theorem wd4_14 : (Jvm.Cond.constantLong "ShaftPlayModel" (121 : Nat) (600 : Int64)) ∈ Al := in4 14 rfl rfl
theorem wd4_15 : (Jvm.Cond.methodLink "ShaftPlayModel" (123 : Nat) ({ cls := "ShaftPlayModel", name := "behind", desc := "(I)I" } : Jvm.MethodName)) ∈ Al := in4 15 rfl rfl
theorem wd4_17 : (Jvm.Cond.instanceMethod ({ cls := "ShaftPlayModel", name := "behind", desc := "(I)I" } : Jvm.MethodName)) ∈ Al := in4 17 rfl rfl
theorem wd4_18 : (Jvm.Cond.code ({ cls := "ShaftPlayModel", name := "behind", desc := "(I)I" } : Jvm.MethodName) prog_8_method_22_code (2 : Nat) (Option.some Jvm.ClassFile.FieldType.int)) ∈ Al := in4 18 rfl rfl
theorem wd4_19 : (Jvm.Cond.constant "ShaftPlayModel" (126 : Nat) (1000000000 : Int32)) ∈ Al := in4 19 rfl rfl
theorem wd4_20 : (Jvm.Cond.methodLink "ShaftPlayLaw" (80 : Nat) ({ cls := "ShaftPlayModel", name := "wear", desc := "(I)I" } : Jvm.MethodName)) ∈ Al := in4 20 rfl rfl
theorem wd4_21 : (Jvm.Cond.instanceMethod ({ cls := "ShaftPlayModel", name := "wear", desc := "(I)I" } : Jvm.MethodName)) ∈ Al := in4 21 rfl rfl
theorem wd4_22 : (Jvm.Cond.selects "ShaftPlayModel" ({ cls := "ShaftPlayModel", name := "wear", desc := "(I)I" } : Jvm.MethodName) ({ cls := "ShaftPlayModel", name := "wear", desc := "(I)I" } : Jvm.MethodName)) ∈ Al := in4 22 rfl rfl
theorem wd4_23 : (Jvm.Cond.code ({ cls := "ShaftPlayModel", name := "wear", desc := "(I)I" } : Jvm.MethodName) prog_8_method_31_code (6 : Nat) (Option.some Jvm.ClassFile.FieldType.int)) ∈ Al := in4 23 rfl rfl
theorem wd4_24 : (Jvm.Cond.methodLink "ShaftPlayLaw" (84 : Nat) ({ cls := "ShaftPlayModel", name := "missed", desc := "(I)I" } : Jvm.MethodName)) ∈ Al := in4 24 rfl rfl
theorem wd4_25 : (Jvm.Cond.instanceMethod ({ cls := "ShaftPlayModel", name := "missed", desc := "(I)I" } : Jvm.MethodName)) ∈ Al := in4 25 rfl rfl
theorem wd4_26 : (Jvm.Cond.selects "ShaftPlayModel" ({ cls := "ShaftPlayModel", name := "missed", desc := "(I)I" } : Jvm.MethodName) ({ cls := "ShaftPlayModel", name := "missed", desc := "(I)I" } : Jvm.MethodName)) ∈ Al := in4 26 rfl rfl
theorem wd4_27 : (Jvm.Cond.code ({ cls := "ShaftPlayModel", name := "missed", desc := "(I)I" } : Jvm.MethodName) prog_8_method_32_code (5 : Nat) (Option.some Jvm.ClassFile.FieldType.int)) ∈ Al := in4 27 rfl rfl
theorem wd4_28 : (Jvm.Cond.methodLink "ShaftPlayLaw" (88 : Nat) ({ cls := "ShaftPlayModel", name := "fewest", desc := "()I" } : Jvm.MethodName)) ∈ Al := in4 28 rfl rfl
theorem wd4_29 : (Jvm.Cond.instanceMethod ({ cls := "ShaftPlayModel", name := "fewest", desc := "()I" } : Jvm.MethodName)) ∈ Al := in4 29 rfl rfl
theorem wd4_30 : (Jvm.Cond.selects "ShaftPlayModel" ({ cls := "ShaftPlayModel", name := "fewest", desc := "()I" } : Jvm.MethodName) ({ cls := "ShaftPlayModel", name := "fewest", desc := "()I" } : Jvm.MethodName)) ∈ Al := in4 30 rfl rfl
theorem wd4_31 : (Jvm.Cond.code ({ cls := "ShaftPlayModel", name := "fewest", desc := "()I" } : Jvm.MethodName) prog_8_method_37_code (2 : Nat) (Option.some Jvm.ClassFile.FieldType.int)) ∈ Al := in4 31 rfl rfl
theorem wd4_32 : (Jvm.Cond.methodLink "ShaftPlayModel" (136 : Nat) ({ cls := "ShaftPlayModel", name := "sharesBy", desc := "(I)Z" } : Jvm.MethodName)) ∈ Al := in4 32 rfl rfl
theorem wd4_34 : (Jvm.Cond.instanceMethod ({ cls := "ShaftPlayModel", name := "sharesBy", desc := "(I)Z" } : Jvm.MethodName)) ∈ Al := in4 34 rfl rfl
theorem wd4_35 : (Jvm.Cond.code ({ cls := "ShaftPlayModel", name := "sharesBy", desc := "(I)Z" } : Jvm.MethodName) prog_8_method_36_code (5 : Nat) (Option.some Jvm.ClassFile.FieldType.boolean)) ∈ Al := in4 35 rfl rfl
theorem wd4_36 : (Jvm.Cond.methodLink "ShaftPlayModel" (130 : Nat) ({ cls := "ShaftPlayModel", name := "camsUsed", desc := "(I)I" } : Jvm.MethodName)) ∈ Al := in4 36 rfl rfl
theorem wd4_38 : (Jvm.Cond.instanceMethod ({ cls := "ShaftPlayModel", name := "camsUsed", desc := "(I)I" } : Jvm.MethodName)) ∈ Al := in4 38 rfl rfl
theorem wd4_39 : (Jvm.Cond.code ({ cls := "ShaftPlayModel", name := "camsUsed", desc := "(I)I" } : Jvm.MethodName) prog_8_method_35_code (4 : Nat) (Option.some Jvm.ClassFile.FieldType.int)) ∈ Al := in4 39 rfl rfl
theorem wd4_40 : (Jvm.Cond.methodLink "ShaftPlayModel" (133 : Nat) ({ cls := "ShaftPlayModel", name := "puts", desc := "(I)Z" } : Jvm.MethodName)) ∈ Al := in4 40 rfl rfl
theorem wd4_42 : (Jvm.Cond.instanceMethod ({ cls := "ShaftPlayModel", name := "puts", desc := "(I)Z" } : Jvm.MethodName)) ∈ Al := in4 42 rfl rfl
theorem wd4_43 : (Jvm.Cond.code ({ cls := "ShaftPlayModel", name := "puts", desc := "(I)Z" } : Jvm.MethodName) prog_8_method_34_code (3 : Nat) (Option.some Jvm.ClassFile.FieldType.boolean)) ∈ Al := in4 43 rfl rfl
theorem wd4_44 : (Jvm.Cond.methodLink "ShaftPlayModel" (127 : Nat) ({ cls := "ShaftPlayModel", name := "turned", desc := "(II)I" } : Jvm.MethodName)) ∈ Al := in4 44 rfl rfl
theorem wd4_45 : (Jvm.Cond.static ({ cls := "ShaftPlayModel", name := "turned", desc := "(II)I" } : Jvm.MethodName)) ∈ Al := in4 45 rfl rfl
theorem wd4_46 : (Jvm.Cond.code ({ cls := "ShaftPlayModel", name := "turned", desc := "(II)I" } : Jvm.MethodName) prog_8_method_33_code (2 : Nat) (Option.some Jvm.ClassFile.FieldType.int)) ∈ Al := in4 46 rfl rfl
theorem wd4_47 : (Jvm.Cond.methodLink "ShaftPlayLaw" (92 : Nat) ({ cls := "ShaftPlayModel", name := "share", desc := "(II)I" } : Jvm.MethodName)) ∈ Al := in4 47 rfl rfl
theorem wd4_48 : (Jvm.Cond.instanceMethod ({ cls := "ShaftPlayModel", name := "share", desc := "(II)I" } : Jvm.MethodName)) ∈ Al := in4 48 rfl rfl
theorem wd4_49 : (Jvm.Cond.selects "ShaftPlayModel" ({ cls := "ShaftPlayModel", name := "share", desc := "(II)I" } : Jvm.MethodName) ({ cls := "ShaftPlayModel", name := "share", desc := "(II)I" } : Jvm.MethodName)) ∈ Al := in4 49 rfl rfl
theorem wd4_50 : (Jvm.Cond.code ({ cls := "ShaftPlayModel", name := "share", desc := "(II)I" } : Jvm.MethodName) prog_8_method_38_code (4 : Nat) (Option.some Jvm.ClassFile.FieldType.int)) ∈ Al := in4 50 rfl rfl
theorem wd4_51 : (Jvm.Cond.methodLink "ShaftPlayLaw" (96 : Nat) ({ cls := "ShaftPlayModel", name := "pegs", desc := "(II)I" } : Jvm.MethodName)) ∈ Al := in4 51 rfl rfl
theorem wd4_52 : (Jvm.Cond.instanceMethod ({ cls := "ShaftPlayModel", name := "pegs", desc := "(II)I" } : Jvm.MethodName)) ∈ Al := in4 52 rfl rfl
theorem wd4_53 : (Jvm.Cond.selects "ShaftPlayModel" ({ cls := "ShaftPlayModel", name := "pegs", desc := "(II)I" } : Jvm.MethodName) ({ cls := "ShaftPlayModel", name := "pegs", desc := "(II)I" } : Jvm.MethodName)) ∈ Al := in4 53 rfl rfl
theorem wd4_54 : (Jvm.Cond.code ({ cls := "ShaftPlayModel", name := "pegs", desc := "(II)I" } : Jvm.MethodName) prog_8_method_39_code (8 : Nat) (Option.some Jvm.ClassFile.FieldType.int)) ∈ Al := in4 54 rfl rfl
theorem wd4_55 : (Jvm.Cond.methodLink "ShaftPlayLaw" (100 : Nat) ({ cls := "ShaftPlayModel", name := "beats", desc := "(II)I" } : Jvm.MethodName)) ∈ Al := in4 55 rfl rfl
theorem wd4_56 : (Jvm.Cond.instanceMethod ({ cls := "ShaftPlayModel", name := "beats", desc := "(II)I" } : Jvm.MethodName)) ∈ Al := in4 56 rfl rfl
theorem wd4_57 : (Jvm.Cond.selects "ShaftPlayModel" ({ cls := "ShaftPlayModel", name := "beats", desc := "(II)I" } : Jvm.MethodName) ({ cls := "ShaftPlayModel", name := "beats", desc := "(II)I" } : Jvm.MethodName)) ∈ Al := in4 57 rfl rfl
theorem wd4_58 : (Jvm.Cond.code ({ cls := "ShaftPlayModel", name := "beats", desc := "(II)I" } : Jvm.MethodName) prog_8_method_40_code (4 : Nat) (Option.some Jvm.ClassFile.FieldType.int)) ∈ Al := in4 58 rfl rfl
theorem wd4_59 : (Jvm.Cond.constantLong "ShaftPlayModel" (139 : Nat) (99 : Int64)) ∈ Al := in4 59 rfl rfl
theorem wd4_60 : (Jvm.Cond.methodLink "ShaftPlayLaw" (104 : Nat) ({ cls := "ShaftPlayModel", name := "when", desc := "(I)I" } : Jvm.MethodName)) ∈ Al := in4 60 rfl rfl
theorem wd4_61 : (Jvm.Cond.instanceMethod ({ cls := "ShaftPlayModel", name := "when", desc := "(I)I" } : Jvm.MethodName)) ∈ Al := in4 61 rfl rfl
theorem wd4_62 : (Jvm.Cond.selects "ShaftPlayModel" ({ cls := "ShaftPlayModel", name := "when", desc := "(I)I" } : Jvm.MethodName) ({ cls := "ShaftPlayModel", name := "when", desc := "(I)I" } : Jvm.MethodName)) ∈ Al := in4 62 rfl rfl
theorem wd4_63 : (Jvm.Cond.code ({ cls := "ShaftPlayModel", name := "when", desc := "(I)I" } : Jvm.MethodName) prog_8_method_41_code (4 : Nat) (Option.some Jvm.ClassFile.FieldType.int)) ∈ Al := in4 63 rfl rfl
theorem wd4_64 : (Jvm.Cond.methodLink "ShaftPlayLaw" (108 : Nat) ({ cls := "ShaftPlayModel", name := "at", desc := "(I)I" } : Jvm.MethodName)) ∈ Al := in4 64 rfl rfl
theorem wd4_65 : (Jvm.Cond.instanceMethod ({ cls := "ShaftPlayModel", name := "at", desc := "(I)I" } : Jvm.MethodName)) ∈ Al := in4 65 rfl rfl
theorem wd4_66 : (Jvm.Cond.selects "ShaftPlayModel" ({ cls := "ShaftPlayModel", name := "at", desc := "(I)I" } : Jvm.MethodName) ({ cls := "ShaftPlayModel", name := "at", desc := "(I)I" } : Jvm.MethodName)) ∈ Al := in4 66 rfl rfl
theorem wd4_67 : (Jvm.Cond.code ({ cls := "ShaftPlayModel", name := "at", desc := "(I)I" } : Jvm.MethodName) prog_8_method_42_code (5 : Nat) (Option.some Jvm.ClassFile.FieldType.int)) ∈ Al := in4 67 rfl rfl
theorem wd4_68 : (Jvm.Cond.constantLong "ShaftPlayModel" (141 : Nat) (99999 : Int64)) ∈ Al := in4 68 rfl rfl
theorem wd4_69 : (Jvm.Cond.methodLink "ShaftPlayLaw" (112 : Nat) ({ cls := "ShaftPlayModel", name := "hand", desc := "(II)I" } : Jvm.MethodName)) ∈ Al := in4 69 rfl rfl
theorem wd4_70 : (Jvm.Cond.instanceMethod ({ cls := "ShaftPlayModel", name := "hand", desc := "(II)I" } : Jvm.MethodName)) ∈ Al := in4 70 rfl rfl
theorem wd4_71 : (Jvm.Cond.selects "ShaftPlayModel" ({ cls := "ShaftPlayModel", name := "hand", desc := "(II)I" } : Jvm.MethodName) ({ cls := "ShaftPlayModel", name := "hand", desc := "(II)I" } : Jvm.MethodName)) ∈ Al := in4 71 rfl rfl
theorem wd4_72 : (Jvm.Cond.code ({ cls := "ShaftPlayModel", name := "hand", desc := "(II)I" } : Jvm.MethodName) prog_8_method_43_code (4 : Nat) (Option.some Jvm.ClassFile.FieldType.int)) ∈ Al := in4 72 rfl rfl
theorem wd4_73 : (Jvm.Cond.constantLong "ShaftPlayModel" (143 : Nat) (1023 : Int64)) ∈ Al := in4 73 rfl rfl
theorem wd4_74 : (Jvm.Cond.methodLink "ShaftPlayLaw" (116 : Nat) ({ cls := "ShaftPlayModel", name := "whose", desc := "(I)I" } : Jvm.MethodName)) ∈ Al := in4 74 rfl rfl
theorem wd4_75 : (Jvm.Cond.instanceMethod ({ cls := "ShaftPlayModel", name := "whose", desc := "(I)I" } : Jvm.MethodName)) ∈ Al := in4 75 rfl rfl
theorem wd4_76 : (Jvm.Cond.selects "ShaftPlayModel" ({ cls := "ShaftPlayModel", name := "whose", desc := "(I)I" } : Jvm.MethodName) ({ cls := "ShaftPlayModel", name := "whose", desc := "(I)I" } : Jvm.MethodName)) ∈ Al := in4 76 rfl rfl
theorem wd4_77 : (Jvm.Cond.code ({ cls := "ShaftPlayModel", name := "whose", desc := "(I)I" } : Jvm.MethodName) prog_8_method_44_code (5 : Nat) (Option.some Jvm.ClassFile.FieldType.int)) ∈ Al := in4 77 rfl rfl
theorem wd4_78 : (Jvm.Cond.methodLink "ShaftPlayLaw" (120 : Nat) ({ cls := "ShaftPlayModel", name := "image", desc := "()I" } : Jvm.MethodName)) ∈ Al := in4 78 rfl rfl
theorem wd4_79 : (Jvm.Cond.instanceMethod ({ cls := "ShaftPlayModel", name := "image", desc := "()I" } : Jvm.MethodName)) ∈ Al := in4 79 rfl rfl
theorem wd4_80 : (Jvm.Cond.selects "ShaftPlayModel" ({ cls := "ShaftPlayModel", name := "image", desc := "()I" } : Jvm.MethodName) ({ cls := "ShaftPlayModel", name := "image", desc := "()I" } : Jvm.MethodName)) ∈ Al := in4 80 rfl rfl
theorem wd4_81 : (Jvm.Cond.code ({ cls := "ShaftPlayModel", name := "image", desc := "()I" } : Jvm.MethodName) prog_8_method_45_code (2 : Nat) (Option.some Jvm.ClassFile.FieldType.int)) ∈ Al := in4 81 rfl rfl
theorem wd4_82 : (Jvm.Cond.methodLink "ShaftPlayLaw" (124 : Nat) ({ cls := "ShaftPlayModel", name := "restore", desc := "()I" } : Jvm.MethodName)) ∈ Al := in4 82 rfl rfl
theorem wd4_83 : (Jvm.Cond.instanceMethod ({ cls := "ShaftPlayModel", name := "restore", desc := "()I" } : Jvm.MethodName)) ∈ Al := in4 83 rfl rfl
theorem wd4_84 : (Jvm.Cond.selects "ShaftPlayModel" ({ cls := "ShaftPlayModel", name := "restore", desc := "()I" } : Jvm.MethodName) ({ cls := "ShaftPlayModel", name := "restore", desc := "()I" } : Jvm.MethodName)) ∈ Al := in4 84 rfl rfl
theorem wd4_85 : (Jvm.Cond.code ({ cls := "ShaftPlayModel", name := "restore", desc := "()I" } : Jvm.MethodName) prog_8_method_46_code (2 : Nat) (Option.some Jvm.ClassFile.FieldType.int)) ∈ Al := in4 85 rfl rfl
theorem wd4_86 : (Jvm.Cond.methodLink "ShaftPlayLaw" (60 : Nat) ({ cls := "ShaftPlayModel", name := "count", desc := "(I)I" } : Jvm.MethodName)) ∈ Al := in4 86 rfl rfl
theorem wd4_87 : (Jvm.Cond.instanceMethod ({ cls := "ShaftPlayModel", name := "count", desc := "(I)I" } : Jvm.MethodName)) ∈ Al := in4 87 rfl rfl
theorem wd4_88 : (Jvm.Cond.selects "ShaftPlayModel" ({ cls := "ShaftPlayModel", name := "count", desc := "(I)I" } : Jvm.MethodName) ({ cls := "ShaftPlayModel", name := "count", desc := "(I)I" } : Jvm.MethodName)) ∈ Al := in4 88 rfl rfl
theorem wd4_89 : (Jvm.Cond.code ({ cls := "ShaftPlayModel", name := "count", desc := "(I)I" } : Jvm.MethodName) prog_8_method_47_code (4 : Nat) (Option.some Jvm.ClassFile.FieldType.int)) ∈ Al := in4 89 rfl rfl
theorem wd4_90 : (Jvm.Cond.methodLink "ShaftPlayLaw" (128 : Nat) ({ cls := "ShaftPlayModel", name := "worn", desc := "(IIII)I" } : Jvm.MethodName)) ∈ Al := in4 90 rfl rfl
theorem wd4_91 : (Jvm.Cond.instanceMethod ({ cls := "ShaftPlayModel", name := "worn", desc := "(IIII)I" } : Jvm.MethodName)) ∈ Al := in4 91 rfl rfl
theorem wd4_92 : (Jvm.Cond.selects "ShaftPlayModel" ({ cls := "ShaftPlayModel", name := "worn", desc := "(IIII)I" } : Jvm.MethodName) ({ cls := "ShaftPlayModel", name := "worn", desc := "(IIII)I" } : Jvm.MethodName)) ∈ Al := in4 92 rfl rfl
theorem wd4_93 : (Jvm.Cond.code ({ cls := "ShaftPlayModel", name := "worn", desc := "(IIII)I" } : Jvm.MethodName) prog_8_method_52_code (10 : Nat) (Option.some Jvm.ClassFile.FieldType.int)) ∈ Al := in4 93 rfl rfl
theorem wd4_94 : (Jvm.Cond.methodLink "ShaftPlayModel" (149 : Nat) ({ cls := "ShaftPlayModel", name := "isSheet", desc := "(I)Z" } : Jvm.MethodName)) ∈ Al := in4 94 rfl rfl
theorem wd4_95 : (Jvm.Cond.static ({ cls := "ShaftPlayModel", name := "isSheet", desc := "(I)Z" } : Jvm.MethodName)) ∈ Al := in4 95 rfl rfl
theorem wd4_96 : (Jvm.Cond.code ({ cls := "ShaftPlayModel", name := "isSheet", desc := "(I)Z" } : Jvm.MethodName) prog_8_method_48_code (1 : Nat) (Option.some Jvm.ClassFile.FieldType.boolean)) ∈ Al := in4 96 rfl rfl
theorem wd4_97 : (Jvm.Cond.constantLong "ShaftPlayModel" (152 : Nat) (2 : Int64)) ∈ Al := in4 97 rfl rfl
theorem wd4_98 : (Jvm.Cond.methodLink "ShaftPlayModel" (154 : Nat) ({ cls := "ShaftPlayModel", name := "bars", desc := "(IIII)I" } : Jvm.MethodName)) ∈ Al := in4 98 rfl rfl
theorem wd4_100 : (Jvm.Cond.instanceMethod ({ cls := "ShaftPlayModel", name := "bars", desc := "(IIII)I" } : Jvm.MethodName)) ∈ Al := in4 100 rfl rfl
theorem wd4_101 : (Jvm.Cond.code ({ cls := "ShaftPlayModel", name := "bars", desc := "(IIII)I" } : Jvm.MethodName) prog_8_method_49_code (5 : Nat) (Option.some Jvm.ClassFile.FieldType.int)) ∈ Al := in4 101 rfl rfl
theorem wd4_102 : (Jvm.Cond.methodLink "ShaftPlayModel" (158 : Nat) ({ cls := "ShaftPlayModel", name := "isSo", desc := "(I)Z" } : Jvm.MethodName)) ∈ Al := in4 102 rfl rfl
theorem wd4_104 : (Jvm.Cond.instanceMethod ({ cls := "ShaftPlayModel", name := "isSo", desc := "(I)Z" } : Jvm.MethodName)) ∈ Al := in4 104 rfl rfl
theorem wd4_105 : (Jvm.Cond.code ({ cls := "ShaftPlayModel", name := "isSo", desc := "(I)Z" } : Jvm.MethodName) prog_8_method_51_code (4 : Nat) (Option.some Jvm.ClassFile.FieldType.boolean)) ∈ Al := in4 105 rfl rfl
theorem wd4_106 : (Jvm.Cond.methodLink "ShaftPlayLaw" (132 : Nat) ({ cls := "ShaftPlayModel", name := "film", desc := "(IIII)I" } : Jvm.MethodName)) ∈ Al := in4 106 rfl rfl
theorem wd4_107 : (Jvm.Cond.instanceMethod ({ cls := "ShaftPlayModel", name := "film", desc := "(IIII)I" } : Jvm.MethodName)) ∈ Al := in4 107 rfl rfl
theorem wd4_108 : (Jvm.Cond.selects "ShaftPlayModel" ({ cls := "ShaftPlayModel", name := "film", desc := "(IIII)I" } : Jvm.MethodName) ({ cls := "ShaftPlayModel", name := "film", desc := "(IIII)I" } : Jvm.MethodName)) ∈ Al := in4 108 rfl rfl
theorem wd4_109 : (Jvm.Cond.code ({ cls := "ShaftPlayModel", name := "film", desc := "(IIII)I" } : Jvm.MethodName) prog_8_method_53_code (7 : Nat) (Option.some Jvm.ClassFile.FieldType.int)) ∈ Al := in4 109 rfl rfl
theorem wd4_110 : (Jvm.Cond.methodLink "ShaftPlayLaw" (136 : Nat) ({ cls := "ShaftPlayModel", name := "sheet", desc := "(III)I" } : Jvm.MethodName)) ∈ Al := in4 110 rfl rfl
theorem wd4_111 : (Jvm.Cond.instanceMethod ({ cls := "ShaftPlayModel", name := "sheet", desc := "(III)I" } : Jvm.MethodName)) ∈ Al := in4 111 rfl rfl
theorem wd4_112 : (Jvm.Cond.selects "ShaftPlayModel" ({ cls := "ShaftPlayModel", name := "sheet", desc := "(III)I" } : Jvm.MethodName) ({ cls := "ShaftPlayModel", name := "sheet", desc := "(III)I" } : Jvm.MethodName)) ∈ Al := in4 112 rfl rfl
theorem wd4_113 : (Jvm.Cond.code ({ cls := "ShaftPlayModel", name := "sheet", desc := "(III)I" } : Jvm.MethodName) prog_8_method_54_code (5 : Nat) (Option.some Jvm.ClassFile.FieldType.int)) ∈ Al := in4 113 rfl rfl
theorem wd4_114 : (Jvm.Cond.methodLink "ShaftPlayLaw" (140 : Nat) ({ cls := "ShaftPlayModel", name := "drop", desc := "(I)I" } : Jvm.MethodName)) ∈ Al := in4 114 rfl rfl
theorem wd4_115 : (Jvm.Cond.instanceMethod ({ cls := "ShaftPlayModel", name := "drop", desc := "(I)I" } : Jvm.MethodName)) ∈ Al := in4 115 rfl rfl
theorem wd4_116 : (Jvm.Cond.selects "ShaftPlayModel" ({ cls := "ShaftPlayModel", name := "drop", desc := "(I)I" } : Jvm.MethodName) ({ cls := "ShaftPlayModel", name := "drop", desc := "(I)I" } : Jvm.MethodName)) ∈ Al := in4 116 rfl rfl
theorem wd4_117 : (Jvm.Cond.code ({ cls := "ShaftPlayModel", name := "drop", desc := "(I)I" } : Jvm.MethodName) prog_8_method_55_code (2 : Nat) (Option.some Jvm.ClassFile.FieldType.int)) ∈ Al := in4 117 rfl rfl
theorem wd4_118 : (Jvm.Cond.methodLink "ShaftPlayLaw" (145 : Nat) ({ cls := "ShaftPlayModel", name := "item", desc := "(IIIJ)I" } : Jvm.MethodName)) ∈ Al := in4 118 rfl rfl
theorem wd4_119 : (Jvm.Cond.instanceMethod ({ cls := "ShaftPlayModel", name := "item", desc := "(IIIJ)I" } : Jvm.MethodName)) ∈ Al := in4 119 rfl rfl
theorem wd4_120 : (Jvm.Cond.selects "ShaftPlayModel" ({ cls := "ShaftPlayModel", name := "item", desc := "(IIIJ)I" } : Jvm.MethodName) ({ cls := "ShaftPlayModel", name := "item", desc := "(IIIJ)I" } : Jvm.MethodName)) ∈ Al := in4 120 rfl rfl
theorem wd4_121 : (Jvm.Cond.code ({ cls := "ShaftPlayModel", name := "item", desc := "(IIIJ)I" } : Jvm.MethodName) prog_8_method_56_code (7 : Nat) (Option.some Jvm.ClassFile.FieldType.int)) ∈ Al := in4 121 rfl rfl
theorem wd4_122 : (Jvm.Cond.methodLink "ShaftPlayModel" (161 : Nat) ({ cls := "ShaftPlayModel", name := "cutTo", desc := "(IJ)J" } : Jvm.MethodName)) ∈ Al := in4 122 rfl rfl
theorem wd4_123 : (Jvm.Cond.static ({ cls := "ShaftPlayModel", name := "cutTo", desc := "(IJ)J" } : Jvm.MethodName)) ∈ Al := in4 123 rfl rfl
theorem wd4_124 : (Jvm.Cond.code ({ cls := "ShaftPlayModel", name := "cutTo", desc := "(IJ)J" } : Jvm.MethodName) prog_8_method_50_code (3 : Nat) (Option.some Jvm.ClassFile.FieldType.long)) ∈ Al := in4 124 rfl rfl
theorem wd4_125 : (Jvm.Cond.methodLink "ShaftPlayLaw" (150 : Nat) ({ cls := "ShaftPlayModel", name := "copy", desc := "(IIIII)I" } : Jvm.MethodName)) ∈ Al := in4 125 rfl rfl
theorem wd4_126 : (Jvm.Cond.instanceMethod ({ cls := "ShaftPlayModel", name := "copy", desc := "(IIIII)I" } : Jvm.MethodName)) ∈ Al := in4 126 rfl rfl
theorem wd4_127 : (Jvm.Cond.selects "ShaftPlayModel" ({ cls := "ShaftPlayModel", name := "copy", desc := "(IIIII)I" } : Jvm.MethodName) ({ cls := "ShaftPlayModel", name := "copy", desc := "(IIIII)I" } : Jvm.MethodName)) ∈ Al := in4 127 rfl rfl
theorem wd4_128 : (Jvm.Cond.code ({ cls := "ShaftPlayModel", name := "copy", desc := "(IIIII)I" } : Jvm.MethodName) prog_8_method_57_code (8 : Nat) (Option.some Jvm.ClassFile.FieldType.int)) ∈ Al := in4 128 rfl rfl
theorem wd4_129 : (Jvm.Cond.constantLong "ShaftPlayLaw" (13 : Nat) (4294967295 : Int64)) ∈ Al := in4 129 rfl rfl
theorem in_sel {q : MethodName × Nat} (i : Nat) (h : lw_privs[i]? = some q) (g : goodWord (Cond.selects q.1.cls q.1 q.1) = true) : Cond.selects q.1.cls q.1 q.1 ∈ Al := List.mem_filter.mpr ⟨List.mem_append_left _ (List.mem_map.mpr ⟨q, List.mem_of_getElem? h, rfl⟩), g⟩
theorem wdp_0 : Cond.selects "ShaftPlay" ⟨"ShaftPlay", "takeTape", "(Z)I"⟩ ⟨"ShaftPlay", "takeTape", "(Z)I"⟩ ∈ Al := in_sel 0 rfl rfl
theorem wdp_1 : Cond.selects "ShaftPlay" ⟨"ShaftPlay", "isCam", "(I)Z"⟩ ⟨"ShaftPlay", "isCam", "(I)Z"⟩ ∈ Al := in_sel 1 rfl rfl
theorem wdp_2 : Cond.selects "ShaftPlay" ⟨"ShaftPlay", "isFigure", "(I)Z"⟩ ⟨"ShaftPlay", "isFigure", "(I)Z"⟩ ∈ Al := in_sel 2 rfl rfl
theorem wdp_3 : Cond.selects "ShaftPlay" ⟨"ShaftPlay", "shareCams", "()I"⟩ ⟨"ShaftPlay", "shareCams", "()I"⟩ ∈ Al := in_sel 3 rfl rfl
theorem wdp_4 : Cond.selects "ShaftPlay" ⟨"ShaftPlay", "refusalOf", "(IIII)I"⟩ ⟨"ShaftPlay", "refusalOf", "(IIII)I"⟩ ∈ Al := in_sel 4 rfl rfl
theorem wdp_5 : Cond.selects "ShaftPlay" ⟨"ShaftPlay", "isSo", "(LShaftPlay$Sheet;II)Z"⟩ ⟨"ShaftPlay", "isSo", "(LShaftPlay$Sheet;II)Z"⟩ ∈ Al := in_sel 5 rfl rfl
theorem wdp_6 : Cond.selects "ShaftPlayModel" ⟨"ShaftPlayModel", "takeSigns", "(Z)I"⟩ ⟨"ShaftPlayModel", "takeSigns", "(Z)I"⟩ ∈ Al := in_sel 6 rfl rfl
theorem wdp_7 : Cond.selects "ShaftPlayModel" ⟨"ShaftPlayModel", "isCam", "(I)Z"⟩ ⟨"ShaftPlayModel", "isCam", "(I)Z"⟩ ∈ Al := in_sel 7 rfl rfl
theorem wdp_8 : Cond.selects "ShaftPlayModel" ⟨"ShaftPlayModel", "isGood", "(II)Z"⟩ ⟨"ShaftPlayModel", "isGood", "(II)Z"⟩ ∈ Al := in_sel 8 rfl rfl
theorem wdp_9 : Cond.selects "ShaftPlayModel" ⟨"ShaftPlayModel", "isFigure", "(I)Z"⟩ ⟨"ShaftPlayModel", "isFigure", "(I)Z"⟩ ∈ Al := in_sel 9 rfl rfl
theorem wdp_10 : Cond.selects "ShaftPlayModel" ⟨"ShaftPlayModel", "heightOf", "(II)I"⟩ ⟨"ShaftPlayModel", "heightOf", "(II)I"⟩ ∈ Al := in_sel 10 rfl rfl
theorem wdp_11 : Cond.selects "ShaftPlayModel" ⟨"ShaftPlayModel", "hairOf", "(II)I"⟩ ⟨"ShaftPlayModel", "hairOf", "(II)I"⟩ ∈ Al := in_sel 11 rfl rfl
theorem wdp_12 : Cond.selects "ShaftPlayModel" ⟨"ShaftPlayModel", "aheadOf", "(I)I"⟩ ⟨"ShaftPlayModel", "aheadOf", "(I)I"⟩ ∈ Al := in_sel 12 rfl rfl
theorem wdp_13 : Cond.selects "ShaftPlayModel" ⟨"ShaftPlayModel", "upsOf", "(I)I"⟩ ⟨"ShaftPlayModel", "upsOf", "(I)I"⟩ ∈ Al := in_sel 13 rfl rfl
theorem wdp_14 : Cond.selects "ShaftPlayModel" ⟨"ShaftPlayModel", "strikesOf", "(II)I"⟩ ⟨"ShaftPlayModel", "strikesOf", "(II)I"⟩ ∈ Al := in_sel 14 rfl rfl
theorem wdp_15 : Cond.selects "ShaftPlayModel" ⟨"ShaftPlayModel", "behind", "(I)I"⟩ ⟨"ShaftPlayModel", "behind", "(I)I"⟩ ∈ Al := in_sel 15 rfl rfl
theorem wdp_16 : Cond.selects "ShaftPlayModel" ⟨"ShaftPlayModel", "sharesBy", "(I)Z"⟩ ⟨"ShaftPlayModel", "sharesBy", "(I)Z"⟩ ∈ Al := in_sel 16 rfl rfl
theorem wdp_17 : Cond.selects "ShaftPlayModel" ⟨"ShaftPlayModel", "camsUsed", "(I)I"⟩ ⟨"ShaftPlayModel", "camsUsed", "(I)I"⟩ ∈ Al := in_sel 17 rfl rfl
theorem wdp_18 : Cond.selects "ShaftPlayModel" ⟨"ShaftPlayModel", "puts", "(I)Z"⟩ ⟨"ShaftPlayModel", "puts", "(I)Z"⟩ ∈ Al := in_sel 18 rfl rfl
theorem wdp_19 : Cond.selects "ShaftPlayModel" ⟨"ShaftPlayModel", "bars", "(IIII)I"⟩ ⟨"ShaftPlayModel", "bars", "(IIII)I"⟩ ∈ Al := in_sel 19 rfl rfl
theorem wdp_20 : Cond.selects "ShaftPlayModel" ⟨"ShaftPlayModel", "isSo", "(I)Z"⟩ ⟨"ShaftPlayModel", "isSo", "(I)Z"⟩ ∈ Al := in_sel 20 rfl rfl
