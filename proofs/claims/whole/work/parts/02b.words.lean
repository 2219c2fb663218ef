def TB : List Cond := lw_tbl.filter goodWord
theorem tb_in {w : Cond} (h : w ∈ TB) : w ∈ lw_tbl := (List.mem_filter.mp h).1
theorem tb_good : GoodIn lw_tbl TB := fun w h => ⟨tb_in h, good_of_word (List.mem_filter.mp h).2⟩
theorem tb0 {w : Cond} (h : w ∈ lw_tbl) (g : goodWord w = true) : w ∈ TB := List.mem_filter.mpr ⟨h, g⟩
theorem tbp {q : MethodName × Nat} (h : q ∈ lw_privs) : Cond.selects q.1.cls q.1 q.1 ∈ TB := tb0 (List.mem_append_left _ (List.mem_map.mpr ⟨q, h, rfl⟩)) rfl
theorem tb1 {w : Cond} (i : Nat) (h : tables_1_1[i]? = some w) (g : goodWord w = true) : w ∈ TB := tb0 (List.mem_append_right _ (List.mem_append_left _ (List.mem_of_getElem? h))) g
theorem tb2 {w : Cond} (i : Nat) (h : tables_1_2[i]? = some w) (g : goodWord w = true) : w ∈ TB := tb0 (List.mem_append_right _ (List.mem_append_right _ (List.mem_append_left _ (List.mem_of_getElem? h)))) g
theorem tb3 {w : Cond} (i : Nat) (h : tables_1_3[i]? = some w) (g : goodWord w = true) : w ∈ TB := tb0 (List.mem_append_right _ (List.mem_append_right _ (List.mem_append_right _ (List.mem_append_left _ (List.mem_of_getElem? h))))) g
theorem tb4 {w : Cond} (i : Nat) (h : tables_1_4[i]? = some w) (g : goodWord w = true) : w ∈ TB := tb0 (List.mem_append_right _ (List.mem_append_right _ (List.mem_append_right _ (List.mem_append_right _ (List.mem_of_getElem? h))))) g
theorem q1_0 : (Jvm.Cond.initialized "NeedleHandsLaw") ∈ TB := tb1 0 rfl rfl
theorem q1_1 : (Jvm.Cond.initialized "NeedleHands") ∈ TB := tb1 1 rfl rfl
theorem q1_2 : (Jvm.Cond.initialized "NeedleHands$Text") ∈ TB := tb1 2 rfl rfl
theorem q1_3 : (Jvm.Cond.initialized "NeedleHands$Plan") ∈ TB := tb1 3 rfl rfl
theorem q1_4 : (Jvm.Cond.initialized "NeedleHands$Past") ∈ TB := tb1 4 rfl rfl
theorem q1_5 : (Jvm.Cond.initialized "NeedleHands$Moment") ∈ TB := tb1 5 rfl rfl
theorem q1_6 : (Jvm.Cond.initialized "NeedleHands$Needle") ∈ TB := tb1 6 rfl rfl
theorem q1_7 : (Jvm.Cond.initialized "NeedleHands$Flow") ∈ TB := tb1 7 rfl rfl
theorem q1_8 : (Jvm.Cond.initialized "NeedleHandsModel") ∈ TB := tb1 8 rfl rfl
theorem q1_9 : (Jvm.Cond.initialized "java/lang/System") ∈ TB := tb1 9 rfl rfl
theorem q1_10 : (Jvm.Cond.initialized "java/lang/Math") ∈ TB := tb1 10 rfl rfl
theorem q1_11 : (Jvm.Cond.initialized "java/lang/Integer") ∈ TB := tb1 11 rfl rfl
theorem q1_12 : (Jvm.Cond.classLink "NeedleHandsLaw" (7 : Nat) "NeedleHands") ∈ TB := tb1 12 rfl rfl
theorem q1_13 : (Jvm.Cond.instantiable "NeedleHands" (14 : Nat)) ∈ TB := tb1 13 rfl rfl
theorem q1_14 : (Jvm.Cond.methodLink "NeedleHandsLaw" (9 : Nat) ({ cls := "NeedleHands", name := "<init>", desc := "()V" } : Jvm.MethodName)) ∈ TB := tb1 14 rfl rfl
theorem q1_15 : (Jvm.Cond.instanceMethod ({ cls := "NeedleHands", name := "<init>", desc := "()V" } : Jvm.MethodName)) ∈ TB := tb1 15 rfl rfl
theorem q1_16 : (Jvm.Cond.code ({ cls := "NeedleHands", name := "<init>", desc := "()V" } : Jvm.MethodName) prog_1_method_1_code (1 : Nat) (Option.none : Option Jvm.ClassFile.FieldType)) ∈ TB := tb1 16 rfl rfl
theorem q1_17 : (Jvm.Cond.methodLink "NeedleHands" (3 : Nat) ({ cls := "java/lang/Object", name := "<init>", desc := "()V" } : Jvm.MethodName)) ∈ TB := tb1 17 rfl rfl
theorem q1_18 : (Jvm.Cond.instanceMethod ({ cls := "java/lang/Object", name := "<init>", desc := "()V" } : Jvm.MethodName)) ∈ TB := tb1 18 rfl rfl
theorem q1_19 : (Jvm.Cond.code ({ cls := "java/lang/Object", name := "<init>", desc := "()V" } : Jvm.MethodName) object_method_1_code (1 : Nat) (Option.none : Option Jvm.ClassFile.FieldType)) ∈ TB := tb1 19 rfl rfl
theorem q1_20 : (Jvm.Cond.classLink "NeedleHands" (9 : Nat) "NeedleHands$Text") ∈ TB := tb1 20 rfl rfl
theorem q1_21 : (Jvm.Cond.instantiable "NeedleHands$Text" (7 : Nat)) ∈ TB := tb1 21 rfl rfl
theorem q1_23 : (Jvm.Cond.instanceMethod ({ cls := "NeedleHands$Text", name := "<init>", desc := "()V" } : Jvm.MethodName)) ∈ TB := tb1 23 rfl rfl
theorem q1_24 : (Jvm.Cond.code ({ cls := "NeedleHands$Text", name := "<init>", desc := "()V" } : Jvm.MethodName) prog_7_method_1_code (1 : Nat) (Option.none : Option Jvm.ClassFile.FieldType)) ∈ TB := tb1 24 rfl rfl
theorem q1_25 : (Jvm.Cond.methodLink "NeedleHands$Text" (3 : Nat) ({ cls := "java/lang/Object", name := "<init>", desc := "()V" } : Jvm.MethodName)) ∈ TB := tb1 25 rfl rfl
theorem q1_26 : (Jvm.Cond.fieldLink "NeedleHands$Text" (9 : Nat) "NeedleHands$Text" "bytes" "[I") ∈ TB := tb1 26 rfl rfl
theorem q1_27 : (Jvm.Cond.fieldLink "NeedleHands$Text" (15 : Nat) "NeedleHands$Text" "length" "I") ∈ TB := tb1 27 rfl rfl
theorem q1_28 : (Jvm.Cond.fieldLink "NeedleHands" (72 : Nat) "NeedleHands$Text" "length" "I") ∈ TB := tb1 28 rfl rfl
theorem q1_29 : (Jvm.Cond.fieldLink "NeedleHands" (83 : Nat) "NeedleHands$Text" "start" "I") ∈ TB := tb1 29 rfl rfl
theorem q1_30 : (Jvm.Cond.fieldLink "NeedleHands$Text" (76 : Nat) "NeedleHands$Text" "start" "I") ∈ TB := tb1 30 rfl rfl
theorem q1_31 : (Jvm.Cond.fieldLink "NeedleHands$Text" (19 : Nat) "NeedleHands$Text" "at" "I") ∈ TB := tb1 31 rfl rfl
theorem q1_32 : (Jvm.Cond.fieldLink "NeedleHands$Text" (29 : Nat) "NeedleHands$Text" "token" "I") ∈ TB := tb1 32 rfl rfl
theorem q1_33 : (Jvm.Cond.fieldLink "NeedleHands$Text" (32 : Nat) "NeedleHands$Text" "worth" "I") ∈ TB := tb1 33 rfl rfl
theorem q1_34 : (Jvm.Cond.fieldLink "NeedleHands$Text" (22 : Nat) "NeedleHands$Text" "priced" "Z") ∈ TB := tb1 34 rfl rfl
theorem q1_50 : (Jvm.Cond.arrayClass Jvm.ClassFile.FieldType.int) ∈ TB := tb1 50 rfl rfl
theorem q1_51 : (Jvm.Cond.classLink "NeedleHands" (16 : Nat) "NeedleHands$Plan") ∈ TB := tb1 51 rfl rfl
theorem q1_52 : (Jvm.Cond.instantiable "NeedleHands$Plan" (7 : Nat)) ∈ TB := tb1 52 rfl rfl
theorem q1_54 : (Jvm.Cond.instanceMethod ({ cls := "NeedleHands$Plan", name := "<init>", desc := "()V" } : Jvm.MethodName)) ∈ TB := tb1 54 rfl rfl
theorem q1_55 : (Jvm.Cond.code ({ cls := "NeedleHands$Plan", name := "<init>", desc := "()V" } : Jvm.MethodName) prog_6_method_1_code (1 : Nat) (Option.none : Option Jvm.ClassFile.FieldType)) ∈ TB := tb1 55 rfl rfl
theorem q1_56 : (Jvm.Cond.methodLink "NeedleHands$Plan" (3 : Nat) ({ cls := "java/lang/Object", name := "<init>", desc := "()V" } : Jvm.MethodName)) ∈ TB := tb1 56 rfl rfl
theorem q1_57 : (Jvm.Cond.fieldLink "NeedleHands$Plan" (31 : Nat) "NeedleHands$Plan" "steps" "I") ∈ TB := tb1 57 rfl rfl
theorem q1_58 : (Jvm.Cond.fieldLink "NeedleHands$Flow" (21 : Nat) "NeedleHands$Plan" "steps" "I") ∈ TB := tb1 58 rfl rfl
theorem q1_59 : (Jvm.Cond.fieldLink "NeedleHands$Needle" (22 : Nat) "NeedleHands$Plan" "steps" "I") ∈ TB := tb1 59 rfl rfl
theorem q1_60 : (Jvm.Cond.fieldLink "NeedleHands$Text" (35 : Nat) "NeedleHands$Plan" "steps" "I") ∈ TB := tb1 60 rfl rfl
theorem q1_61 : (Jvm.Cond.fieldLink "NeedleHands" (120 : Nat) "NeedleHands$Plan" "steps" "I") ∈ TB := tb1 61 rfl rfl
theorem q1_62 : (Jvm.Cond.fieldLink "NeedleHands$Plan" (9 : Nat) "NeedleHands$Plan" "price" "I") ∈ TB := tb1 62 rfl rfl
theorem q1_63 : (Jvm.Cond.fieldLink "NeedleHands$Flow" (56 : Nat) "NeedleHands$Plan" "price" "I") ∈ TB := tb1 63 rfl rfl
theorem q1_64 : (Jvm.Cond.fieldLink "NeedleHands$Text" (73 : Nat) "NeedleHands$Plan" "price" "I") ∈ TB := tb1 64 rfl rfl
theorem q1_65 : (Jvm.Cond.fieldLink "NeedleHands" (146 : Nat) "NeedleHands$Plan" "price" "I") ∈ TB := tb1 65 rfl rfl
theorem q1_66 : (Jvm.Cond.fieldLink "NeedleHands$Plan" (15 : Nat) "NeedleHands$Plan" "seconds" "[I") ∈ TB := tb1 66 rfl rfl
theorem q1_67 : (Jvm.Cond.fieldLink "NeedleHands$Flow" (27 : Nat) "NeedleHands$Plan" "seconds" "[I") ∈ TB := tb1 67 rfl rfl
theorem q1_68 : (Jvm.Cond.fieldLink "NeedleHands$Needle" (33 : Nat) "NeedleHands$Plan" "seconds" "[I") ∈ TB := tb1 68 rfl rfl
theorem q1_69 : (Jvm.Cond.fieldLink "NeedleHands$Text" (58 : Nat) "NeedleHands$Plan" "seconds" "[I") ∈ TB := tb1 69 rfl rfl
theorem q1_70 : (Jvm.Cond.fieldLink "NeedleHands" (100 : Nat) "NeedleHands$Plan" "seconds" "[I") ∈ TB := tb1 70 rfl rfl
theorem q1_71 : (Jvm.Cond.fieldLink "NeedleHands$Plan" (19 : Nat) "NeedleHands$Plan" "fault" "[I") ∈ TB := tb1 71 rfl rfl
theorem q1_72 : (Jvm.Cond.fieldLink "NeedleHands$Moment" (21 : Nat) "NeedleHands$Plan" "fault" "[I") ∈ TB := tb1 72 rfl rfl
theorem q1_73 : (Jvm.Cond.fieldLink "NeedleHands$Text" (61 : Nat) "NeedleHands$Plan" "fault" "[I") ∈ TB := tb1 73 rfl rfl
theorem q1_74 : (Jvm.Cond.fieldLink "NeedleHands$Plan" (22 : Nat) "NeedleHands$Plan" "look" "[I") ∈ TB := tb1 74 rfl rfl
theorem q1_75 : (Jvm.Cond.fieldLink "NeedleHands$Flow" (40 : Nat) "NeedleHands$Plan" "look" "[I") ∈ TB := tb1 75 rfl rfl
theorem q1_76 : (Jvm.Cond.fieldLink "NeedleHands$Needle" (42 : Nat) "NeedleHands$Plan" "look" "[I") ∈ TB := tb1 76 rfl rfl
theorem q1_77 : (Jvm.Cond.fieldLink "NeedleHands$Text" (64 : Nat) "NeedleHands$Plan" "look" "[I") ∈ TB := tb1 77 rfl rfl
theorem q1_78 : (Jvm.Cond.fieldLink "NeedleHands" (108 : Nat) "NeedleHands$Plan" "look" "[I") ∈ TB := tb1 78 rfl rfl
theorem q1_79 : (Jvm.Cond.fieldLink "NeedleHands$Plan" (25 : Nat) "NeedleHands$Plan" "miss" "[I") ∈ TB := tb1 79 rfl rfl
theorem q1_80 : (Jvm.Cond.fieldLink "NeedleHands$Flow" (43 : Nat) "NeedleHands$Plan" "miss" "[I") ∈ TB := tb1 80 rfl rfl
theorem q1_81 : (Jvm.Cond.fieldLink "NeedleHands$Needle" (45 : Nat) "NeedleHands$Plan" "miss" "[I") ∈ TB := tb1 81 rfl rfl
theorem q1_82 : (Jvm.Cond.fieldLink "NeedleHands$Text" (67 : Nat) "NeedleHands$Plan" "miss" "[I") ∈ TB := tb1 82 rfl rfl
theorem q1_83 : (Jvm.Cond.fieldLink "NeedleHands" (111 : Nat) "NeedleHands$Plan" "miss" "[I") ∈ TB := tb1 83 rfl rfl
theorem q1_84 : (Jvm.Cond.fieldLink "NeedleHands$Plan" (28 : Nat) "NeedleHands$Plan" "ahead" "[I") ∈ TB := tb1 84 rfl rfl
theorem q1_85 : (Jvm.Cond.fieldLink "NeedleHands$Text" (70 : Nat) "NeedleHands$Plan" "ahead" "[I") ∈ TB := tb1 85 rfl rfl
theorem q1_86 : (Jvm.Cond.fieldLink "NeedleHands" (127 : Nat) "NeedleHands$Plan" "ahead" "[I") ∈ TB := tb1 86 rfl rfl
theorem q1_102 : (Jvm.Cond.classLink "NeedleHands" (26 : Nat) "NeedleHands$Past") ∈ TB := tb1 102 rfl rfl
theorem q1_103 : (Jvm.Cond.instantiable "NeedleHands$Past" (4 : Nat)) ∈ TB := tb1 103 rfl rfl
theorem q1_104 : (Jvm.Cond.methodLink "NeedleHands" (28 : Nat) ({ cls := "NeedleHands$Past", name := "<init>", desc := "()V" } : Jvm.MethodName)) ∈ TB := tb1 104 rfl rfl
theorem q1_105 : (Jvm.Cond.instanceMethod ({ cls := "NeedleHands$Past", name := "<init>", desc := "()V" } : Jvm.MethodName)) ∈ TB := tb1 105 rfl rfl
theorem q1_106 : (Jvm.Cond.code ({ cls := "NeedleHands$Past", name := "<init>", desc := "()V" } : Jvm.MethodName) prog_5_method_1_code (2 : Nat) (Option.none : Option Jvm.ClassFile.FieldType)) ∈ TB := tb1 106 rfl rfl
theorem q1_107 : (Jvm.Cond.methodLink "NeedleHands$Past" (3 : Nat) ({ cls := "java/lang/Object", name := "<init>", desc := "()V" } : Jvm.MethodName)) ∈ TB := tb1 107 rfl rfl
theorem q1_108 : (Jvm.Cond.classLink "NeedleHands$Past" (9 : Nat) "NeedleHands$Moment") ∈ TB := tb1 108 rfl rfl
theorem q1_109 : (Jvm.Cond.instantiable "NeedleHands$Moment" (8 : Nat)) ∈ TB := tb1 109 rfl rfl
theorem q1_111 : (Jvm.Cond.instanceMethod ({ cls := "NeedleHands$Moment", name := "<init>", desc := "()V" } : Jvm.MethodName)) ∈ TB := tb1 111 rfl rfl
theorem q1_112 : (Jvm.Cond.code ({ cls := "NeedleHands$Moment", name := "<init>", desc := "()V" } : Jvm.MethodName) prog_3_method_1_code (1 : Nat) (Option.none : Option Jvm.ClassFile.FieldType)) ∈ TB := tb1 112 rfl rfl
theorem q1_113 : (Jvm.Cond.methodLink "NeedleHands$Moment" (3 : Nat) ({ cls := "java/lang/Object", name := "<init>", desc := "()V" } : Jvm.MethodName)) ∈ TB := tb1 113 rfl rfl
theorem q1_114 : (Jvm.Cond.fieldLink "NeedleHands$Moment" (9 : Nat) "NeedleHands$Moment" "line" "[I") ∈ TB := tb1 114 rfl rfl
theorem q1_115 : (Jvm.Cond.fieldLink "NeedleHands$Needle" (27 : Nat) "NeedleHands$Moment" "line" "[I") ∈ TB := tb1 115 rfl rfl
theorem q1_116 : (Jvm.Cond.fieldLink "NeedleHands$Flow" (59 : Nat) "NeedleHands$Moment" "line" "[I") ∈ TB := tb1 116 rfl rfl
theorem q1_117 : (Jvm.Cond.fieldLink "NeedleHands" (130 : Nat) "NeedleHands$Moment" "line" "[I") ∈ TB := tb1 117 rfl rfl
theorem q1_118 : (Jvm.Cond.fieldLink "NeedleHands$Moment" (15 : Nat) "NeedleHands$Moment" "fault" "[I") ∈ TB := tb1 118 rfl rfl
theorem q1_119 : (Jvm.Cond.fieldLink "NeedleHands$Flow" (31 : Nat) "NeedleHands$Moment" "fault" "[I") ∈ TB := tb1 119 rfl rfl
theorem q1_120 : (Jvm.Cond.fieldLink "NeedleHands$Needle" (39 : Nat) "NeedleHands$Moment" "fault" "[I") ∈ TB := tb1 120 rfl rfl
theorem q1_121 : (Jvm.Cond.fieldLink "NeedleHands" (103 : Nat) "NeedleHands$Moment" "fault" "[I") ∈ TB := tb1 121 rfl rfl
theorem q1_122 : (Jvm.Cond.fieldLink "NeedleHands$Moment" (18 : Nat) "NeedleHands$Moment" "thrown" "[I") ∈ TB := tb1 122 rfl rfl
theorem q1_123 : (Jvm.Cond.fieldLink "NeedleHands" (117 : Nat) "NeedleHands$Moment" "thrown" "[I") ∈ TB := tb1 123 rfl rfl
theorem q1_124 : (Jvm.Cond.fieldLink "NeedleHands$Moment" (24 : Nat) "NeedleHands$Moment" "looked" "I") ∈ TB := tb1 124 rfl rfl
theorem q1_125 : (Jvm.Cond.fieldLink "NeedleHands$Flow" (62 : Nat) "NeedleHands$Moment" "looked" "I") ∈ TB := tb1 125 rfl rfl
theorem q1_126 : (Jvm.Cond.fieldLink "NeedleHands" (114 : Nat) "NeedleHands$Moment" "looked" "I") ∈ TB := tb1 126 rfl rfl
theorem q1_127 : (Jvm.Cond.fieldLink "NeedleHands$Moment" (28 : Nat) "NeedleHands$Moment" "made" "I") ∈ TB := tb1 127 rfl rfl
theorem q1_128 : (Jvm.Cond.fieldLink "NeedleHands" (136 : Nat) "NeedleHands$Moment" "made" "I") ∈ TB := tb1 128 rfl rfl
theorem q1_129 : (Jvm.Cond.fieldLink "NeedleHands$Moment" (31 : Nat) "NeedleHands$Moment" "sold" "I") ∈ TB := tb1 129 rfl rfl
theorem q1_130 : (Jvm.Cond.fieldLink "NeedleHands" (177 : Nat) "NeedleHands$Moment" "sold" "I") ∈ TB := tb1 130 rfl rfl
theorem q1_131 : (Jvm.Cond.fieldLink "NeedleHands$Moment" (34 : Nat) "NeedleHands$Moment" "dudsSold" "I") ∈ TB := tb1 131 rfl rfl
theorem q1_132 : (Jvm.Cond.fieldLink "NeedleHands" (180 : Nat) "NeedleHands$Moment" "dudsSold" "I") ∈ TB := tb1 132 rfl rfl
theorem q1_133 : (Jvm.Cond.fieldLink "NeedleHands$Moment" (37 : Nat) "NeedleHands$Moment" "cost" "I") ∈ TB := tb1 133 rfl rfl
theorem q1_134 : (Jvm.Cond.fieldLink "NeedleHands" (183 : Nat) "NeedleHands$Moment" "cost" "I") ∈ TB := tb1 134 rfl rfl
theorem q1_153 : (Jvm.Cond.fieldLink "NeedleHands$Past" (12 : Nat) "NeedleHands$Past" "present" "LNeedleHands$Moment;") ∈ TB := tb1 153 rfl rfl
theorem q1_154 : (Jvm.Cond.fieldLink "NeedleHands" (96 : Nat) "NeedleHands$Past" "present" "LNeedleHands$Moment;") ∈ TB := tb1 154 rfl rfl
theorem q1_155 : (Jvm.Cond.fieldLink "NeedleHands$Past" (18 : Nat) "NeedleHands$Past" "earlier" "[LNeedleHands$Moment;") ∈ TB := tb1 155 rfl rfl
theorem q1_156 : (Jvm.Cond.fieldLink "NeedleHands$Past" (26 : Nat) "NeedleHands$Past" "next" "I") ∈ TB := tb1 156 rfl rfl
theorem q1_157 : (Jvm.Cond.fieldLink "NeedleHands$Past" (30 : Nat) "NeedleHands$Past" "known" "I") ∈ TB := tb1 157 rfl rfl
theorem q1_158 : (Jvm.Cond.fieldLink "NeedleHands" (174 : Nat) "NeedleHands$Past" "known" "I") ∈ TB := tb1 158 rfl rfl
theorem q1_169 : (Jvm.Cond.classLink "NeedleHands" (48 : Nat) "NeedleHands$Needle") ∈ TB := tb1 169 rfl rfl
theorem q1_170 : (Jvm.Cond.instantiable "NeedleHands$Needle" (3 : Nat)) ∈ TB := tb1 170 rfl rfl
theorem q1_172 : (Jvm.Cond.instanceMethod ({ cls := "NeedleHands$Needle", name := "<init>", desc := "()V" } : Jvm.MethodName)) ∈ TB := tb1 172 rfl rfl
theorem q1_173 : (Jvm.Cond.code ({ cls := "NeedleHands$Needle", name := "<init>", desc := "()V" } : Jvm.MethodName) prog_4_method_1_code (1 : Nat) (Option.none : Option Jvm.ClassFile.FieldType)) ∈ TB := tb1 173 rfl rfl
theorem q1_174 : (Jvm.Cond.methodLink "NeedleHands$Needle" (3 : Nat) ({ cls := "java/lang/Object", name := "<init>", desc := "()V" } : Jvm.MethodName)) ∈ TB := tb1 174 rfl rfl
theorem q1_175 : (Jvm.Cond.fieldLink "NeedleHands$Needle" (15 : Nat) "NeedleHands$Needle" "seconds" "I") ∈ TB := tb1 175 rfl rfl
theorem q1_176 : (Jvm.Cond.fieldLink "NeedleHands$Moment" (46 : Nat) "NeedleHands$Needle" "seconds" "I") ∈ TB := tb1 176 rfl rfl
theorem q1_177 : (Jvm.Cond.fieldLink "NeedleHands$Needle" (18 : Nat) "NeedleHands$Needle" "isDud" "Z") ∈ TB := tb1 177 rfl rfl
theorem q1_178 : (Jvm.Cond.fieldLink "NeedleHands$Moment" (58 : Nat) "NeedleHands$Needle" "isDud" "Z") ∈ TB := tb1 178 rfl rfl
theorem q1_179 : (Jvm.Cond.fieldLink "NeedleHands$Needle" (9 : Nat) "NeedleHands$Needle" "thrownBehind" "I") ∈ TB := tb1 179 rfl rfl
theorem q1_180 : (Jvm.Cond.fieldLink "NeedleHands$Moment" (55 : Nat) "NeedleHands$Needle" "thrownBehind" "I") ∈ TB := tb1 180 rfl rfl
theorem q1_188 : (Jvm.Cond.arrayClass Jvm.ClassFile.FieldType.boolean) ∈ TB := tb1 188 rfl rfl
theorem q1_189 : (Jvm.Cond.classLink "NeedleHands" (55 : Nat) "NeedleHands$Flow") ∈ TB := tb1 189 rfl rfl
theorem q1_190 : (Jvm.Cond.instantiable "NeedleHands$Flow" (5 : Nat)) ∈ TB := tb1 190 rfl rfl
theorem q1_192 : (Jvm.Cond.instanceMethod ({ cls := "NeedleHands$Flow", name := "<init>", desc := "()V" } : Jvm.MethodName)) ∈ TB := tb1 192 rfl rfl
theorem q1_193 : (Jvm.Cond.code ({ cls := "NeedleHands$Flow", name := "<init>", desc := "()V" } : Jvm.MethodName) prog_2_method_1_code (1 : Nat) (Option.none : Option Jvm.ClassFile.FieldType)) ∈ TB := tb1 193 rfl rfl
theorem q1_194 : (Jvm.Cond.methodLink "NeedleHands$Flow" (3 : Nat) ({ cls := "java/lang/Object", name := "<init>", desc := "()V" } : Jvm.MethodName)) ∈ TB := tb1 194 rfl rfl
theorem q1_195 : (Jvm.Cond.fieldLink "NeedleHands$Flow" (71 : Nat) "NeedleHands$Flow" "good" "J") ∈ TB := tb1 195 rfl rfl
theorem q1_196 : (Jvm.Cond.fieldLink "NeedleHands" (200 : Nat) "NeedleHands$Flow" "good" "J") ∈ TB := tb1 196 rfl rfl
theorem q1_197 : (Jvm.Cond.fieldLink "NeedleHands$Flow" (53 : Nat) "NeedleHands$Flow" "dud" "J") ∈ TB := tb1 197 rfl rfl
theorem q1_198 : (Jvm.Cond.fieldLink "NeedleHands" (203 : Nat) "NeedleHands$Flow" "dud" "J") ∈ TB := tb1 198 rfl rfl
theorem q1_199 : (Jvm.Cond.fieldLink "NeedleHands$Flow" (49 : Nat) "NeedleHands$Flow" "cost" "J") ∈ TB := tb1 199 rfl rfl
theorem q1_200 : (Jvm.Cond.fieldLink "NeedleHands" (191 : Nat) "NeedleHands$Flow" "cost" "J") ∈ TB := tb1 200 rfl rfl
theorem q1_201 : (Jvm.Cond.fieldLink "NeedleHands$Flow" (9 : Nat) "NeedleHands$Flow" "lost" "[J") ∈ TB := tb1 201 rfl rfl
theorem q1_202 : (Jvm.Cond.fieldLink "NeedleHands" (206 : Nat) "NeedleHands$Flow" "lost" "[J") ∈ TB := tb1 202 rfl rfl
theorem q1_203 : (Jvm.Cond.fieldLink "NeedleHands$Flow" (15 : Nat) "NeedleHands$Flow" "share" "[J") ∈ TB := tb1 203 rfl rfl
theorem q1_204 : (Jvm.Cond.fieldLink "NeedleHands" (227 : Nat) "NeedleHands$Flow" "share" "[J") ∈ TB := tb1 204 rfl rfl
theorem q1_216 : (Jvm.Cond.arrayClass Jvm.ClassFile.FieldType.long) ∈ TB := tb1 216 rfl rfl
theorem q1_217 : (Jvm.Cond.fieldLink "NeedleHands" (12 : Nat) "NeedleHands" "text" "LNeedleHands$Text;") ∈ TB := tb1 217 rfl rfl
theorem q1_218 : (Jvm.Cond.fieldLink "NeedleHands" (19 : Nat) "NeedleHands" "plan" "LNeedleHands$Plan;") ∈ TB := tb1 218 rfl rfl
theorem q1_219 : (Jvm.Cond.fieldLink "NeedleHands" (23 : Nat) "NeedleHands" "draft" "LNeedleHands$Plan;") ∈ TB := tb1 219 rfl rfl
theorem q1_220 : (Jvm.Cond.fieldLink "NeedleHands" (29 : Nat) "NeedleHands" "past" "LNeedleHands$Past;") ∈ TB := tb1 220 rfl rfl
theorem q1_221 : (Jvm.Cond.fieldLink "NeedleHands" (33 : Nat) "NeedleHands" "images" "[LNeedleHands$Past;") ∈ TB := tb1 221 rfl rfl
theorem q1_222 : (Jvm.Cond.fieldLink "NeedleHands" (37 : Nat) "NeedleHands" "kept" "[Z") ∈ TB := tb1 222 rfl rfl
theorem q1_223 : (Jvm.Cond.fieldLink "NeedleHands" (41 : Nat) "NeedleHands" "toldDraw" "[I") ∈ TB := tb1 223 rfl rfl
theorem q1_224 : (Jvm.Cond.fieldLink "NeedleHands" (45 : Nat) "NeedleHands" "toldFate" "[I") ∈ TB := tb1 224 rfl rfl
theorem q1_225 : (Jvm.Cond.fieldLink "NeedleHands" (90 : Nat) "NeedleHands" "told" "I") ∈ TB := tb1 225 rfl rfl
theorem q1_226 : (Jvm.Cond.fieldLink "NeedleHands" (51 : Nat) "NeedleHands" "needle" "LNeedleHands$Needle;") ∈ TB := tb1 226 rfl rfl
theorem q1_227 : (Jvm.Cond.fieldLink "NeedleHands" (58 : Nat) "NeedleHands" "flow" "LNeedleHands$Flow;") ∈ TB := tb1 227 rfl rfl
theorem q1_228 : (Jvm.Cond.fieldLink "NeedleHands" (62 : Nat) "NeedleHands" "order" "[I") ∈ TB := tb1 228 rfl rfl
theorem q1_229 : (Jvm.Cond.fieldLink "NeedleHands" (65 : Nat) "NeedleHands" "leastOrder" "[I") ∈ TB := tb1 229 rfl rfl
theorem q1_230 : (Jvm.Cond.fieldLink "NeedleHands" (259 : Nat) "NeedleHands" "traced" "J") ∈ TB := tb1 230 rfl rfl
theorem q2_20 : (Jvm.Cond.methodLink "NeedleHandsLaw" (13 : Nat) ({ cls := "NeedleHands", name := "type", desc := "(I)I" } : Jvm.MethodName)) ∈ TB := tb2 20 rfl rfl
theorem q2_21 : (Jvm.Cond.instanceMethod ({ cls := "NeedleHands", name := "type", desc := "(I)I" } : Jvm.MethodName)) ∈ TB := tb2 21 rfl rfl
theorem q2_22 : (Jvm.Cond.selects "NeedleHands" ({ cls := "NeedleHands", name := "type", desc := "(I)I" } : Jvm.MethodName) ({ cls := "NeedleHands", name := "type", desc := "(I)I" } : Jvm.MethodName)) ∈ TB := tb2 22 rfl rfl
theorem q2_23 : (Jvm.Cond.code ({ cls := "NeedleHands", name := "type", desc := "(I)I" } : Jvm.MethodName) prog_1_method_2_code (2 : Nat) (Option.some Jvm.ClassFile.FieldType.int)) ∈ TB := tb2 23 rfl rfl
theorem q2_24 : (Jvm.Cond.methodLink "NeedleHands" (68 : Nat) ({ cls := "NeedleHands$Text", name := "add", desc := "(I)Z" } : Jvm.MethodName)) ∈ TB := tb2 24 rfl rfl
theorem q2_25 : (Jvm.Cond.instanceMethod ({ cls := "NeedleHands$Text", name := "add", desc := "(I)Z" } : Jvm.MethodName)) ∈ TB := tb2 25 rfl rfl
theorem q2_26 : (Jvm.Cond.selects "NeedleHands$Text" ({ cls := "NeedleHands$Text", name := "add", desc := "(I)Z" } : Jvm.MethodName) ({ cls := "NeedleHands$Text", name := "add", desc := "(I)Z" } : Jvm.MethodName)) ∈ TB := tb2 26 rfl rfl
theorem q2_27 : (Jvm.Cond.code ({ cls := "NeedleHands$Text", name := "add", desc := "(I)Z" } : Jvm.MethodName) prog_7_method_2_code (2 : Nat) (Option.some Jvm.ClassFile.FieldType.boolean)) ∈ TB := tb2 27 rfl rfl
theorem q2_28 : (Jvm.Cond.methodLink "NeedleHandsLaw" (18 : Nat) ({ cls := "NeedleHands", name := "clear", desc := "()I" } : Jvm.MethodName)) ∈ TB := tb2 28 rfl rfl
theorem q2_29 : (Jvm.Cond.instanceMethod ({ cls := "NeedleHands", name := "clear", desc := "()I" } : Jvm.MethodName)) ∈ TB := tb2 29 rfl rfl
theorem q2_30 : (Jvm.Cond.selects "NeedleHands" ({ cls := "NeedleHands", name := "clear", desc := "()I" } : Jvm.MethodName) ({ cls := "NeedleHands", name := "clear", desc := "()I" } : Jvm.MethodName)) ∈ TB := tb2 30 rfl rfl
theorem q2_31 : (Jvm.Cond.code ({ cls := "NeedleHands", name := "clear", desc := "()I" } : Jvm.MethodName) prog_1_method_3_code (2 : Nat) (Option.some Jvm.ClassFile.FieldType.int)) ∈ TB := tb2 31 rfl rfl
theorem q2_32 : (Jvm.Cond.methodLink "NeedleHandsLaw" (23 : Nat) ({ cls := "NeedleHands", name := "shop", desc := "()I" } : Jvm.MethodName)) ∈ TB := tb2 32 rfl rfl
theorem q2_33 : (Jvm.Cond.instanceMethod ({ cls := "NeedleHands", name := "shop", desc := "()I" } : Jvm.MethodName)) ∈ TB := tb2 33 rfl rfl
theorem q2_34 : (Jvm.Cond.selects "NeedleHands" ({ cls := "NeedleHands", name := "shop", desc := "()I" } : Jvm.MethodName) ({ cls := "NeedleHands", name := "shop", desc := "()I" } : Jvm.MethodName)) ∈ TB := tb2 34 rfl rfl
theorem q2_35 : (Jvm.Cond.code ({ cls := "NeedleHands", name := "shop", desc := "()I" } : Jvm.MethodName) prog_1_method_4_code (4 : Nat) (Option.some Jvm.ClassFile.FieldType.int)) ∈ TB := tb2 35 rfl rfl
theorem q2_36 : (Jvm.Cond.methodLink "NeedleHands" (76 : Nat) ({ cls := "NeedleHands$Plan", name := "empty", desc := "()V" } : Jvm.MethodName)) ∈ TB := tb2 36 rfl rfl
theorem q2_37 : (Jvm.Cond.instanceMethod ({ cls := "NeedleHands$Plan", name := "empty", desc := "()V" } : Jvm.MethodName)) ∈ TB := tb2 37 rfl rfl
theorem q2_38 : (Jvm.Cond.selects "NeedleHands$Plan" ({ cls := "NeedleHands$Plan", name := "empty", desc := "()V" } : Jvm.MethodName) ({ cls := "NeedleHands$Plan", name := "empty", desc := "()V" } : Jvm.MethodName)) ∈ TB := tb2 38 rfl rfl
theorem q2_39 : (Jvm.Cond.code ({ cls := "NeedleHands$Plan", name := "empty", desc := "()V" } : Jvm.MethodName) prog_6_method_2_code (1 : Nat) (Option.none : Option Jvm.ClassFile.FieldType)) ∈ TB := tb2 39 rfl rfl
theorem q2_40 : (Jvm.Cond.methodLink "NeedleHands" (79 : Nat) ({ cls := "NeedleHands$Text", name := "readInto", desc := "(LNeedleHands$Plan;)I" } : Jvm.MethodName)) ∈ TB := tb2 40 rfl rfl
theorem q2_41 : (Jvm.Cond.instanceMethod ({ cls := "NeedleHands$Text", name := "readInto", desc := "(LNeedleHands$Plan;)I" } : Jvm.MethodName)) ∈ TB := tb2 41 rfl rfl
theorem q2_42 : (Jvm.Cond.selects "NeedleHands$Text" ({ cls := "NeedleHands$Text", name := "readInto", desc := "(LNeedleHands$Plan;)I" } : Jvm.MethodName) ({ cls := "NeedleHands$Text", name := "readInto", desc := "(LNeedleHands$Plan;)I" } : Jvm.MethodName)) ∈ TB := tb2 42 rfl rfl
theorem q2_43 : (Jvm.Cond.code ({ cls := "NeedleHands$Text", name := "readInto", desc := "(LNeedleHands$Plan;)I" } : Jvm.MethodName) prog_7_method_3_code (4 : Nat) (Option.some Jvm.ClassFile.FieldType.int)) ∈ TB := tb2 43 rfl rfl
theorem q2_44 : (Jvm.Cond.methodLink "NeedleHands$Text" (26 : Nat) ({ cls := "NeedleHands$Text", name := "readToken", desc := "()V" } : Jvm.MethodName)) ∈ TB := tb2 44 rfl rfl
theorem q2_46 : (Jvm.Cond.instanceMethod ({ cls := "NeedleHands$Text", name := "readToken", desc := "()V" } : Jvm.MethodName)) ∈ TB := tb2 46 rfl rfl
theorem q2_47 : (Jvm.Cond.code ({ cls := "NeedleHands$Text", name := "readToken", desc := "()V" } : Jvm.MethodName) prog_7_method_9_code (1 : Nat) (Option.none : Option Jvm.ClassFile.FieldType)) ∈ TB := tb2 47 rfl rfl
theorem q2_48 : (Jvm.Cond.methodLink "NeedleHands$Text" (79 : Nat) ({ cls := "NeedleHands$Text", name := "isLetter", desc := "(I)Z" } : Jvm.MethodName)) ∈ TB := tb2 48 rfl rfl
theorem q2_49 : (Jvm.Cond.static ({ cls := "NeedleHands$Text", name := "isLetter", desc := "(I)Z" } : Jvm.MethodName)) ∈ TB := tb2 49 rfl rfl
theorem q2_50 : (Jvm.Cond.code ({ cls := "NeedleHands$Text", name := "isLetter", desc := "(I)Z" } : Jvm.MethodName) prog_7_method_12_code (1 : Nat) (Option.some Jvm.ClassFile.FieldType.boolean)) ∈ TB := tb2 50 rfl rfl
theorem q2_51 : (Jvm.Cond.methodLink "NeedleHands$Text" (83 : Nat) ({ cls := "NeedleHands$Text", name := "takeLetters", desc := "()V" } : Jvm.MethodName)) ∈ TB := tb2 51 rfl rfl
theorem q2_53 : (Jvm.Cond.instanceMethod ({ cls := "NeedleHands$Text", name := "takeLetters", desc := "()V" } : Jvm.MethodName)) ∈ TB := tb2 53 rfl rfl
theorem q2_54 : (Jvm.Cond.code ({ cls := "NeedleHands$Text", name := "takeLetters", desc := "()V" } : Jvm.MethodName) prog_7_method_10_code (1 : Nat) (Option.none : Option Jvm.ClassFile.FieldType)) ∈ TB := tb2 54 rfl rfl
theorem q2_55 : (Jvm.Cond.methodLink "NeedleHands$Text" (86 : Nat) ({ cls := "NeedleHands$Text", name := "isDigit", desc := "(I)Z" } : Jvm.MethodName)) ∈ TB := tb2 55 rfl rfl
theorem q2_56 : (Jvm.Cond.static ({ cls := "NeedleHands$Text", name := "isDigit", desc := "(I)Z" } : Jvm.MethodName)) ∈ TB := tb2 56 rfl rfl
theorem q2_57 : (Jvm.Cond.code ({ cls := "NeedleHands$Text", name := "isDigit", desc := "(I)Z" } : Jvm.MethodName) prog_7_method_13_code (1 : Nat) (Option.some Jvm.ClassFile.FieldType.boolean)) ∈ TB := tb2 57 rfl rfl
theorem q2_58 : (Jvm.Cond.methodLink "NeedleHands$Text" (89 : Nat) ({ cls := "NeedleHands$Text", name := "takeNumber", desc := "()V" } : Jvm.MethodName)) ∈ TB := tb2 58 rfl rfl
theorem q2_60 : (Jvm.Cond.instanceMethod ({ cls := "NeedleHands$Text", name := "takeNumber", desc := "()V" } : Jvm.MethodName)) ∈ TB := tb2 60 rfl rfl
theorem q2_61 : (Jvm.Cond.code ({ cls := "NeedleHands$Text", name := "takeNumber", desc := "()V" } : Jvm.MethodName) prog_7_method_11_code (3 : Nat) (Option.none : Option Jvm.ClassFile.FieldType)) ∈ TB := tb2 61 rfl rfl
theorem q2_62 : (Jvm.Cond.methodLink "NeedleHands$Text" (40 : Nat) ({ cls := "NeedleHands$Text", name := "readStep", desc := "(LNeedleHands$Plan;)Z" } : Jvm.MethodName)) ∈ TB := tb2 62 rfl rfl
theorem q2_64 : (Jvm.Cond.instanceMethod ({ cls := "NeedleHands$Text", name := "readStep", desc := "(LNeedleHands$Plan;)Z" } : Jvm.MethodName)) ∈ TB := tb2 64 rfl rfl
theorem q2_65 : (Jvm.Cond.code ({ cls := "NeedleHands$Text", name := "readStep", desc := "(LNeedleHands$Plan;)Z" } : Jvm.MethodName) prog_7_method_4_code (3 : Nat) (Option.some Jvm.ClassFile.FieldType.boolean)) ∈ TB := tb2 65 rfl rfl
theorem q2_66 : (Jvm.Cond.methodLink "NeedleHands$Text" (54 : Nat) ({ cls := "NeedleHands$Text", name := "readNumber", desc := "(II)Z" } : Jvm.MethodName)) ∈ TB := tb2 66 rfl rfl
theorem q2_68 : (Jvm.Cond.instanceMethod ({ cls := "NeedleHands$Text", name := "readNumber", desc := "(II)Z" } : Jvm.MethodName)) ∈ TB := tb2 68 rfl rfl
theorem q2_69 : (Jvm.Cond.code ({ cls := "NeedleHands$Text", name := "readNumber", desc := "(II)Z" } : Jvm.MethodName) prog_7_method_8_code (3 : Nat) (Option.some Jvm.ClassFile.FieldType.boolean)) ∈ TB := tb2 69 rfl rfl
theorem q2_70 : (Jvm.Cond.methodLink "NeedleHands$Text" (44 : Nat) ({ cls := "NeedleHands$Text", name := "readAhead", desc := "(LNeedleHands$Plan;)Z" } : Jvm.MethodName)) ∈ TB := tb2 70 rfl rfl
theorem q2_72 : (Jvm.Cond.instanceMethod ({ cls := "NeedleHands$Text", name := "readAhead", desc := "(LNeedleHands$Plan;)Z" } : Jvm.MethodName)) ∈ TB := tb2 72 rfl rfl
theorem q2_73 : (Jvm.Cond.code ({ cls := "NeedleHands$Text", name := "readAhead", desc := "(LNeedleHands$Plan;)Z" } : Jvm.MethodName) prog_7_method_5_code (3 : Nat) (Option.some Jvm.ClassFile.FieldType.boolean)) ∈ TB := tb2 73 rfl rfl
theorem q2_74 : (Jvm.Cond.methodLink "NeedleHands$Text" (47 : Nat) ({ cls := "NeedleHands$Text", name := "readPrice", desc := "(LNeedleHands$Plan;)Z" } : Jvm.MethodName)) ∈ TB := tb2 74 rfl rfl
theorem q2_76 : (Jvm.Cond.instanceMethod ({ cls := "NeedleHands$Text", name := "readPrice", desc := "(LNeedleHands$Plan;)Z" } : Jvm.MethodName)) ∈ TB := tb2 76 rfl rfl
theorem q2_77 : (Jvm.Cond.code ({ cls := "NeedleHands$Text", name := "readPrice", desc := "(LNeedleHands$Plan;)Z" } : Jvm.MethodName) prog_7_method_6_code (2 : Nat) (Option.some Jvm.ClassFile.FieldType.boolean)) ∈ TB := tb2 77 rfl rfl
theorem q2_78 : (Jvm.Cond.methodLink "NeedleHands$Text" (50 : Nat) ({ cls := "NeedleHands$Text", name := "readEnd", desc := "()Z" } : Jvm.MethodName)) ∈ TB := tb2 78 rfl rfl
theorem q2_80 : (Jvm.Cond.instanceMethod ({ cls := "NeedleHands$Text", name := "readEnd", desc := "()Z" } : Jvm.MethodName)) ∈ TB := tb2 80 rfl rfl
theorem q2_81 : (Jvm.Cond.code ({ cls := "NeedleHands$Text", name := "readEnd", desc := "()Z" } : Jvm.MethodName) prog_7_method_7_code (1 : Nat) (Option.some Jvm.ClassFile.FieldType.boolean)) ∈ TB := tb2 81 rfl rfl
theorem q2_82 : (Jvm.Cond.methodLink "NeedleHands" (86 : Nat) ({ cls := "NeedleHands$Past", name := "open", desc := "(LNeedleHands$Plan;)V" } : Jvm.MethodName)) ∈ TB := tb2 82 rfl rfl
theorem q2_83 : (Jvm.Cond.instanceMethod ({ cls := "NeedleHands$Past", name := "open", desc := "(LNeedleHands$Plan;)V" } : Jvm.MethodName)) ∈ TB := tb2 83 rfl rfl
theorem q2_84 : (Jvm.Cond.selects "NeedleHands$Past" ({ cls := "NeedleHands$Past", name := "open", desc := "(LNeedleHands$Plan;)V" } : Jvm.MethodName) ({ cls := "NeedleHands$Past", name := "open", desc := "(LNeedleHands$Plan;)V" } : Jvm.MethodName)) ∈ TB := tb2 84 rfl rfl
theorem q2_85 : (Jvm.Cond.code ({ cls := "NeedleHands$Past", name := "open", desc := "(LNeedleHands$Plan;)V" } : Jvm.MethodName) prog_5_method_2_code (2 : Nat) (Option.none : Option Jvm.ClassFile.FieldType)) ∈ TB := tb2 85 rfl rfl
theorem q2_86 : (Jvm.Cond.methodLink "NeedleHands$Past" (22 : Nat) ({ cls := "NeedleHands$Moment", name := "open", desc := "(LNeedleHands$Plan;)V" } : Jvm.MethodName)) ∈ TB := tb2 86 rfl rfl
theorem q2_87 : (Jvm.Cond.instanceMethod ({ cls := "NeedleHands$Moment", name := "open", desc := "(LNeedleHands$Plan;)V" } : Jvm.MethodName)) ∈ TB := tb2 87 rfl rfl
theorem q2_88 : (Jvm.Cond.selects "NeedleHands$Moment" ({ cls := "NeedleHands$Moment", name := "open", desc := "(LNeedleHands$Plan;)V" } : Jvm.MethodName) ({ cls := "NeedleHands$Moment", name := "open", desc := "(LNeedleHands$Plan;)V" } : Jvm.MethodName)) ∈ TB := tb2 88 rfl rfl
theorem q2_89 : (Jvm.Cond.code ({ cls := "NeedleHands$Moment", name := "open", desc := "(LNeedleHands$Plan;)V" } : Jvm.MethodName) prog_3_method_2_code (3 : Nat) (Option.none : Option Jvm.ClassFile.FieldType)) ∈ TB := tb2 89 rfl rfl
theorem q2_90 : (Jvm.Cond.methodLink "NeedleHandsLaw" (27 : Nat) ({ cls := "NeedleHands", name := "step", desc := "(II)I" } : Jvm.MethodName)) ∈ TB := tb2 90 rfl rfl
theorem q2_91 : (Jvm.Cond.instanceMethod ({ cls := "NeedleHands", name := "step", desc := "(II)I" } : Jvm.MethodName)) ∈ TB := tb2 91 rfl rfl
theorem q2_92 : (Jvm.Cond.selects "NeedleHands" ({ cls := "NeedleHands", name := "step", desc := "(II)I" } : Jvm.MethodName) ({ cls := "NeedleHands", name := "step", desc := "(II)I" } : Jvm.MethodName)) ∈ TB := tb2 92 rfl rfl
theorem q2_93 : (Jvm.Cond.code ({ cls := "NeedleHands", name := "step", desc := "(II)I" } : Jvm.MethodName) prog_1_method_5_code (4 : Nat) (Option.some Jvm.ClassFile.FieldType.int)) ∈ TB := tb2 93 rfl rfl
theorem q2_94 : (Jvm.Cond.methodLink "NeedleHands" (93 : Nat) ({ cls := "NeedleHands", name := "isStep", desc := "(I)Z" } : Jvm.MethodName)) ∈ TB := tb2 94 rfl rfl
theorem q2_96 : (Jvm.Cond.instanceMethod ({ cls := "NeedleHands", name := "isStep", desc := "(I)Z" } : Jvm.MethodName)) ∈ TB := tb2 96 rfl rfl
theorem q2_97 : (Jvm.Cond.code ({ cls := "NeedleHands", name := "isStep", desc := "(I)Z" } : Jvm.MethodName) prog_1_method_29_code (2 : Nat) (Option.some Jvm.ClassFile.FieldType.boolean)) ∈ TB := tb2 97 rfl rfl
theorem q2_98 : (Jvm.Cond.methodLink "NeedleHands" (123 : Nat) ({ cls := "NeedleHands$Moment", name := "placeOf", desc := "(II)I" } : Jvm.MethodName)) ∈ TB := tb2 98 rfl rfl
theorem q2_99 : (Jvm.Cond.instanceMethod ({ cls := "NeedleHands$Moment", name := "placeOf", desc := "(II)I" } : Jvm.MethodName)) ∈ TB := tb2 99 rfl rfl
theorem q2_100 : (Jvm.Cond.selects "NeedleHands$Moment" ({ cls := "NeedleHands$Moment", name := "placeOf", desc := "(II)I" } : Jvm.MethodName) ({ cls := "NeedleHands$Moment", name := "placeOf", desc := "(II)I" } : Jvm.MethodName)) ∈ TB := tb2 100 rfl rfl
theorem q2_101 : (Jvm.Cond.code ({ cls := "NeedleHands$Moment", name := "placeOf", desc := "(II)I" } : Jvm.MethodName) prog_3_method_4_code (4 : Nat) (Option.some Jvm.ClassFile.FieldType.int)) ∈ TB := tb2 101 rfl rfl
theorem q2_102 : (Jvm.Cond.methodLink "NeedleHandsLaw" (32 : Nat) ({ cls := "NeedleHands", name := "line", desc := "(I)I" } : Jvm.MethodName)) ∈ TB := tb2 102 rfl rfl
theorem q2_103 : (Jvm.Cond.instanceMethod ({ cls := "NeedleHands", name := "line", desc := "(I)I" } : Jvm.MethodName)) ∈ TB := tb2 103 rfl rfl
theorem q2_104 : (Jvm.Cond.selects "NeedleHands" ({ cls := "NeedleHands", name := "line", desc := "(I)I" } : Jvm.MethodName) ({ cls := "NeedleHands", name := "line", desc := "(I)I" } : Jvm.MethodName)) ∈ TB := tb2 104 rfl rfl
theorem q2_105 : (Jvm.Cond.code ({ cls := "NeedleHands", name := "line", desc := "(I)I" } : Jvm.MethodName) prog_1_method_6_code (2 : Nat) (Option.some Jvm.ClassFile.FieldType.int)) ∈ TB := tb2 105 rfl rfl
theorem q2_106 : (Jvm.Cond.methodLink "NeedleHandsLaw" (36 : Nat) ({ cls := "NeedleHands", name := "makes", desc := "(I)I" } : Jvm.MethodName)) ∈ TB := tb2 106 rfl rfl
theorem q2_107 : (Jvm.Cond.instanceMethod ({ cls := "NeedleHands", name := "makes", desc := "(I)I" } : Jvm.MethodName)) ∈ TB := tb2 107 rfl rfl
theorem q2_108 : (Jvm.Cond.selects "NeedleHands" ({ cls := "NeedleHands", name := "makes", desc := "(I)I" } : Jvm.MethodName) ({ cls := "NeedleHands", name := "makes", desc := "(I)I" } : Jvm.MethodName)) ∈ TB := tb2 108 rfl rfl
theorem q2_109 : (Jvm.Cond.code ({ cls := "NeedleHands", name := "makes", desc := "(I)I" } : Jvm.MethodName) prog_1_method_7_code (3 : Nat) (Option.some Jvm.ClassFile.FieldType.int)) ∈ TB := tb2 109 rfl rfl
theorem q2_110 : (Jvm.Cond.methodLink "NeedleHands" (133 : Nat) ({ cls := "NeedleHands", name := "isDraw", desc := "(I)Z" } : Jvm.MethodName)) ∈ TB := tb2 110 rfl rfl
theorem q2_111 : (Jvm.Cond.static ({ cls := "NeedleHands", name := "isDraw", desc := "(I)Z" } : Jvm.MethodName)) ∈ TB := tb2 111 rfl rfl
theorem q2_112 : (Jvm.Cond.code ({ cls := "NeedleHands", name := "isDraw", desc := "(I)Z" } : Jvm.MethodName) prog_1_method_31_code (1 : Nat) (Option.some Jvm.ClassFile.FieldType.boolean)) ∈ TB := tb2 112 rfl rfl
theorem q2_113 : (Jvm.Cond.methodLink "NeedleHands" (139 : Nat) ({ cls := "NeedleHands$Past", name := "remember", desc := "()V" } : Jvm.MethodName)) ∈ TB := tb2 113 rfl rfl
theorem q2_114 : (Jvm.Cond.instanceMethod ({ cls := "NeedleHands$Past", name := "remember", desc := "()V" } : Jvm.MethodName)) ∈ TB := tb2 114 rfl rfl
theorem q2_115 : (Jvm.Cond.selects "NeedleHands$Past" ({ cls := "NeedleHands$Past", name := "remember", desc := "()V" } : Jvm.MethodName) ({ cls := "NeedleHands$Past", name := "remember", desc := "()V" } : Jvm.MethodName)) ∈ TB := tb2 115 rfl rfl
theorem q2_116 : (Jvm.Cond.code ({ cls := "NeedleHands$Past", name := "remember", desc := "()V" } : Jvm.MethodName) prog_5_method_3_code (1 : Nat) (Option.none : Option Jvm.ClassFile.FieldType)) ∈ TB := tb2 116 rfl rfl
theorem q2_117 : (Jvm.Cond.methodLink "NeedleHands$Past" (33 : Nat) ({ cls := "NeedleHands$Moment", name := "become", desc := "(LNeedleHands$Moment;)V" } : Jvm.MethodName)) ∈ TB := tb2 117 rfl rfl
theorem q2_118 : (Jvm.Cond.instanceMethod ({ cls := "NeedleHands$Moment", name := "become", desc := "(LNeedleHands$Moment;)V" } : Jvm.MethodName)) ∈ TB := tb2 118 rfl rfl
theorem q2_119 : (Jvm.Cond.selects "NeedleHands$Moment" ({ cls := "NeedleHands$Moment", name := "become", desc := "(LNeedleHands$Moment;)V" } : Jvm.MethodName) ({ cls := "NeedleHands$Moment", name := "become", desc := "(LNeedleHands$Moment;)V" } : Jvm.MethodName)) ∈ TB := tb2 119 rfl rfl
theorem q2_120 : (Jvm.Cond.code ({ cls := "NeedleHands$Moment", name := "become", desc := "(LNeedleHands$Moment;)V" } : Jvm.MethodName) prog_3_method_3_code (2 : Nat) (Option.none : Option Jvm.ClassFile.FieldType)) ∈ TB := tb2 120 rfl rfl
theorem q2_121 : (Jvm.Cond.methodLink "NeedleHands$Moment" (40 : Nat) ({ cls := "java/lang/System", name := "arraycopy", desc := "(Ljava/lang/Object;ILjava/lang/Object;II)V" } : Jvm.MethodName)) ∈ TB := tb2 121 rfl rfl
theorem q2_122 : (Jvm.Cond.static ({ cls := "java/lang/System", name := "arraycopy", desc := "(Ljava/lang/Object;ILjava/lang/Object;II)V" } : Jvm.MethodName)) ∈ TB := tb2 122 rfl rfl
theorem q2_123 : (Jvm.Cond.native ({ cls := "java/lang/System", name := "arraycopy", desc := "(Ljava/lang/Object;ILjava/lang/Object;II)V" } : Jvm.MethodName)) ∈ TB := tb2 123 rfl rfl
theorem q2_124 : (Jvm.Cond.methodLink "NeedleHands$Past" (37 : Nat) ({ cls := "java/lang/Math", name := "min", desc := "(II)I" } : Jvm.MethodName)) ∈ TB := tb2 124 rfl rfl
theorem q2_125 : (Jvm.Cond.static ({ cls := "java/lang/Math", name := "min", desc := "(II)I" } : Jvm.MethodName)) ∈ TB := tb2 125 rfl rfl
theorem q2_126 : (Jvm.Cond.code ({ cls := "java/lang/Math", name := "min", desc := "(II)I" } : Jvm.MethodName) prog_11_method_69_code (2 : Nat) (Option.some Jvm.ClassFile.FieldType.int)) ∈ TB := tb2 126 rfl rfl
theorem q2_127 : (Jvm.Cond.methodLink "NeedleHands" (142 : Nat) ({ cls := "NeedleHands$Needle", name := "go", desc := "(LNeedleHands$Plan;LNeedleHands$Moment;II)V" } : Jvm.MethodName)) ∈ TB := tb2 127 rfl rfl
theorem q2_128 : (Jvm.Cond.instanceMethod ({ cls := "NeedleHands$Needle", name := "go", desc := "(LNeedleHands$Plan;LNeedleHands$Moment;II)V" } : Jvm.MethodName)) ∈ TB := tb2 128 rfl rfl
theorem q2_129 : (Jvm.Cond.selects "NeedleHands$Needle" ({ cls := "NeedleHands$Needle", name := "go", desc := "(LNeedleHands$Plan;LNeedleHands$Moment;II)V" } : Jvm.MethodName) ({ cls := "NeedleHands$Needle", name := "go", desc := "(LNeedleHands$Plan;LNeedleHands$Moment;II)V" } : Jvm.MethodName)) ∈ TB := tb2 129 rfl rfl
theorem q2_130 : (Jvm.Cond.code ({ cls := "NeedleHands$Needle", name := "go", desc := "(LNeedleHands$Plan;LNeedleHands$Moment;II)V" } : Jvm.MethodName) prog_4_method_2_code (7 : Nat) (Option.none : Option Jvm.ClassFile.FieldType)) ∈ TB := tb2 130 rfl rfl
theorem q2_131 : (Jvm.Cond.methodLink "NeedleHands$Needle" (35 : Nat) ({ cls := "NeedleHands$Needle", name := "draw", desc := "(II)I" } : Jvm.MethodName)) ∈ TB := tb2 131 rfl rfl
theorem q2_132 : (Jvm.Cond.static ({ cls := "NeedleHands$Needle", name := "draw", desc := "(II)I" } : Jvm.MethodName)) ∈ TB := tb2 132 rfl rfl
theorem q2_133 : (Jvm.Cond.code ({ cls := "NeedleHands$Needle", name := "draw", desc := "(II)I" } : Jvm.MethodName) prog_4_method_4_code (4 : Nat) (Option.some Jvm.ClassFile.FieldType.int)) ∈ TB := tb2 133 rfl rfl
theorem q2_134 : (Jvm.Cond.constantLong "NeedleHands$Needle" (48 : Nat) (7919 : Int64)) ∈ TB := tb2 134 rfl rfl
theorem q2_135 : (Jvm.Cond.constantLong "NeedleHands$Needle" (50 : Nat) (6151 : Int64)) ∈ TB := tb2 135 rfl rfl
theorem q2_136 : (Jvm.Cond.constantLong "NeedleHands$Needle" (52 : Nat) (65521 : Int64)) ∈ TB := tb2 136 rfl rfl
theorem q2_137 : (Jvm.Cond.constantLong "NeedleHands$Needle" (54 : Nat) (8 : Int64)) ∈ TB := tb2 137 rfl rfl
theorem q2_138 : (Jvm.Cond.constantLong "NeedleHands$Needle" (56 : Nat) (10 : Int64)) ∈ TB := tb2 138 rfl rfl
theorem q2_139 : (Jvm.Cond.methodLink "NeedleHands" (149 : Nat) ({ cls := "NeedleHands$Moment", name := "enter", desc := "(LNeedleHands$Needle;I)V" } : Jvm.MethodName)) ∈ TB := tb2 139 rfl rfl
theorem q2_140 : (Jvm.Cond.instanceMethod ({ cls := "NeedleHands$Moment", name := "enter", desc := "(LNeedleHands$Needle;I)V" } : Jvm.MethodName)) ∈ TB := tb2 140 rfl rfl
theorem q2_141 : (Jvm.Cond.selects "NeedleHands$Moment" ({ cls := "NeedleHands$Moment", name := "enter", desc := "(LNeedleHands$Needle;I)V" } : Jvm.MethodName) ({ cls := "NeedleHands$Moment", name := "enter", desc := "(LNeedleHands$Needle;I)V" } : Jvm.MethodName)) ∈ TB := tb2 141 rfl rfl
theorem q2_142 : (Jvm.Cond.code ({ cls := "NeedleHands$Moment", name := "enter", desc := "(LNeedleHands$Needle;I)V" } : Jvm.MethodName) prog_3_method_5_code (3 : Nat) (Option.none : Option Jvm.ClassFile.FieldType)) ∈ TB := tb2 142 rfl rfl
theorem q2_143 : (Jvm.Cond.methodLink "NeedleHands$Moment" (51 : Nat) ({ cls := "NeedleHands$Needle", name := "fate", desc := "()I" } : Jvm.MethodName)) ∈ TB := tb2 143 rfl rfl
theorem q2_144 : (Jvm.Cond.instanceMethod ({ cls := "NeedleHands$Needle", name := "fate", desc := "()I" } : Jvm.MethodName)) ∈ TB := tb2 144 rfl rfl
theorem q2_145 : (Jvm.Cond.selects "NeedleHands$Needle" ({ cls := "NeedleHands$Needle", name := "fate", desc := "()I" } : Jvm.MethodName) ({ cls := "NeedleHands$Needle", name := "fate", desc := "()I" } : Jvm.MethodName)) ∈ TB := tb2 145 rfl rfl
theorem q2_146 : (Jvm.Cond.code ({ cls := "NeedleHands$Needle", name := "fate", desc := "()I" } : Jvm.MethodName) prog_4_method_3_code (1 : Nat) (Option.some Jvm.ClassFile.FieldType.int)) ∈ TB := tb2 146 rfl rfl
theorem q2_147 : (Jvm.Cond.methodLink "NeedleHands" (153 : Nat) ({ cls := "NeedleHands$Needle", name := "fate", desc := "()I" } : Jvm.MethodName)) ∈ TB := tb2 147 rfl rfl
theorem q2_148 : (Jvm.Cond.methodLink "NeedleHandsLaw" (40 : Nat) ({ cls := "NeedleHands", name := "looks", desc := "(II)I" } : Jvm.MethodName)) ∈ TB := tb2 148 rfl rfl
theorem q2_149 : (Jvm.Cond.instanceMethod ({ cls := "NeedleHands", name := "looks", desc := "(II)I" } : Jvm.MethodName)) ∈ TB := tb2 149 rfl rfl
theorem q2_150 : (Jvm.Cond.selects "NeedleHands" ({ cls := "NeedleHands", name := "looks", desc := "(II)I" } : Jvm.MethodName) ({ cls := "NeedleHands", name := "looks", desc := "(II)I" } : Jvm.MethodName)) ∈ TB := tb2 150 rfl rfl
theorem q2_151 : (Jvm.Cond.code ({ cls := "NeedleHands", name := "looks", desc := "(II)I" } : Jvm.MethodName) prog_1_method_8_code (4 : Nat) (Option.some Jvm.ClassFile.FieldType.int)) ∈ TB := tb2 151 rfl rfl
theorem q2_152 : (Jvm.Cond.methodLink "NeedleHands" (157 : Nat) ({ cls := "NeedleHands", name := "isBit", desc := "(I)Z" } : Jvm.MethodName)) ∈ TB := tb2 152 rfl rfl
theorem q2_153 : (Jvm.Cond.static ({ cls := "NeedleHands", name := "isBit", desc := "(I)Z" } : Jvm.MethodName)) ∈ TB := tb2 153 rfl rfl
theorem q2_154 : (Jvm.Cond.code ({ cls := "NeedleHands", name := "isBit", desc := "(I)Z" } : Jvm.MethodName) prog_1_method_30_code (1 : Nat) (Option.some Jvm.ClassFile.FieldType.boolean)) ∈ TB := tb2 154 rfl rfl
theorem q2_155 : (Jvm.Cond.methodLink "NeedleHands" (160 : Nat) ({ cls := "java/lang/Integer", name := "bitCount", desc := "(I)I" } : Jvm.MethodName)) ∈ TB := tb2 155 rfl rfl
theorem q2_156 : (Jvm.Cond.static ({ cls := "java/lang/Integer", name := "bitCount", desc := "(I)I" } : Jvm.MethodName)) ∈ TB := tb2 156 rfl rfl
theorem q2_157 : (Jvm.Cond.code ({ cls := "java/lang/Integer", name := "bitCount", desc := "(I)I" } : Jvm.MethodName) prog_10_method_49_code (1 : Nat) (Option.some Jvm.ClassFile.FieldType.int)) ∈ TB := tb2 157 rfl rfl
theorem q2_158 : (Jvm.Cond.constant "java/lang/Integer" (265 : Nat) (1431655765 : Int32)) ∈ TB := tb2 158 rfl rfl
theorem q2_159 : (Jvm.Cond.constant "java/lang/Integer" (266 : Nat) (858993459 : Int32)) ∈ TB := tb2 159 rfl rfl
theorem q2_160 : (Jvm.Cond.constant "java/lang/Integer" (267 : Nat) (252645135 : Int32)) ∈ TB := tb2 160 rfl rfl
theorem q2_161 : (Jvm.Cond.methodLink "NeedleHandsLaw" (44 : Nat) ({ cls := "NeedleHands", name := "skill", desc := "(II)I" } : Jvm.MethodName)) ∈ TB := tb2 161 rfl rfl
theorem q2_162 : (Jvm.Cond.instanceMethod ({ cls := "NeedleHands", name := "skill", desc := "(II)I" } : Jvm.MethodName)) ∈ TB := tb2 162 rfl rfl
theorem q2_163 : (Jvm.Cond.selects "NeedleHands" ({ cls := "NeedleHands", name := "skill", desc := "(II)I" } : Jvm.MethodName) ({ cls := "NeedleHands", name := "skill", desc := "(II)I" } : Jvm.MethodName)) ∈ TB := tb2 163 rfl rfl
theorem q2_164 : (Jvm.Cond.code ({ cls := "NeedleHands", name := "skill", desc := "(II)I" } : Jvm.MethodName) prog_1_method_9_code (4 : Nat) (Option.some Jvm.ClassFile.FieldType.int)) ∈ TB := tb2 164 rfl rfl
theorem q2_165 : (Jvm.Cond.methodLink "NeedleHandsLaw" (48 : Nat) ({ cls := "NeedleHands", name := "moves", desc := "(I)I" } : Jvm.MethodName)) ∈ TB := tb2 165 rfl rfl
theorem q2_166 : (Jvm.Cond.instanceMethod ({ cls := "NeedleHands", name := "moves", desc := "(I)I" } : Jvm.MethodName)) ∈ TB := tb2 166 rfl rfl
theorem q2_167 : (Jvm.Cond.selects "NeedleHands" ({ cls := "NeedleHands", name := "moves", desc := "(I)I" } : Jvm.MethodName) ({ cls := "NeedleHands", name := "moves", desc := "(I)I" } : Jvm.MethodName)) ∈ TB := tb2 167 rfl rfl
theorem q2_168 : (Jvm.Cond.code ({ cls := "NeedleHands", name := "moves", desc := "(I)I" } : Jvm.MethodName) prog_1_method_10_code (4 : Nat) (Option.some Jvm.ClassFile.FieldType.int)) ∈ TB := tb2 168 rfl rfl
theorem q2_169 : (Jvm.Cond.methodLink "NeedleHands" (166 : Nat) ({ cls := "NeedleHands$Plan", name := "mustLead", desc := "(II)Z" } : Jvm.MethodName)) ∈ TB := tb2 169 rfl rfl
theorem q2_170 : (Jvm.Cond.instanceMethod ({ cls := "NeedleHands$Plan", name := "mustLead", desc := "(II)Z" } : Jvm.MethodName)) ∈ TB := tb2 170 rfl rfl
theorem q2_171 : (Jvm.Cond.selects "NeedleHands$Plan" ({ cls := "NeedleHands$Plan", name := "mustLead", desc := "(II)Z" } : Jvm.MethodName) ({ cls := "NeedleHands$Plan", name := "mustLead", desc := "(II)Z" } : Jvm.MethodName)) ∈ TB := tb2 171 rfl rfl
theorem q2_172 : (Jvm.Cond.code ({ cls := "NeedleHands$Plan", name := "mustLead", desc := "(II)Z" } : Jvm.MethodName) prog_6_method_3_code (3 : Nat) (Option.some Jvm.ClassFile.FieldType.boolean)) ∈ TB := tb2 172 rfl rfl
theorem q2_173 : (Jvm.Cond.methodLink "NeedleHandsLaw" (52 : Nat) ({ cls := "NeedleHands", name := "undo", desc := "()I" } : Jvm.MethodName)) ∈ TB := tb2 173 rfl rfl
theorem q2_174 : (Jvm.Cond.instanceMethod ({ cls := "NeedleHands", name := "undo", desc := "()I" } : Jvm.MethodName)) ∈ TB := tb2 174 rfl rfl
theorem q2_175 : (Jvm.Cond.selects "NeedleHands" ({ cls := "NeedleHands", name := "undo", desc := "()I" } : Jvm.MethodName) ({ cls := "NeedleHands", name := "undo", desc := "()I" } : Jvm.MethodName)) ∈ TB := tb2 175 rfl rfl
theorem q2_176 : (Jvm.Cond.code ({ cls := "NeedleHands", name := "undo", desc := "()I" } : Jvm.MethodName) prog_1_method_11_code (1 : Nat) (Option.some Jvm.ClassFile.FieldType.int)) ∈ TB := tb2 176 rfl rfl
theorem q2_177 : (Jvm.Cond.methodLink "NeedleHands" (170 : Nat) ({ cls := "NeedleHands$Past", name := "restore", desc := "()Z" } : Jvm.MethodName)) ∈ TB := tb2 177 rfl rfl
theorem q2_178 : (Jvm.Cond.instanceMethod ({ cls := "NeedleHands$Past", name := "restore", desc := "()Z" } : Jvm.MethodName)) ∈ TB := tb2 178 rfl rfl
theorem q2_179 : (Jvm.Cond.selects "NeedleHands$Past" ({ cls := "NeedleHands$Past", name := "restore", desc := "()Z" } : Jvm.MethodName) ({ cls := "NeedleHands$Past", name := "restore", desc := "()Z" } : Jvm.MethodName)) ∈ TB := tb2 179 rfl rfl
theorem q2_180 : (Jvm.Cond.code ({ cls := "NeedleHands$Past", name := "restore", desc := "()Z" } : Jvm.MethodName) prog_5_method_4_code (1 : Nat) (Option.some Jvm.ClassFile.FieldType.boolean)) ∈ TB := tb2 180 rfl rfl
theorem q2_181 : (Jvm.Cond.methodLink "NeedleHandsLaw" (56 : Nat) ({ cls := "NeedleHands", name := "now", desc := "(I)I" } : Jvm.MethodName)) ∈ TB := tb2 181 rfl rfl
theorem q2_182 : (Jvm.Cond.instanceMethod ({ cls := "NeedleHands", name := "now", desc := "(I)I" } : Jvm.MethodName)) ∈ TB := tb2 182 rfl rfl
theorem q2_183 : (Jvm.Cond.selects "NeedleHands" ({ cls := "NeedleHands", name := "now", desc := "(I)I" } : Jvm.MethodName) ({ cls := "NeedleHands", name := "now", desc := "(I)I" } : Jvm.MethodName)) ∈ TB := tb2 183 rfl rfl
theorem q2_184 : (Jvm.Cond.code ({ cls := "NeedleHands", name := "now", desc := "(I)I" } : Jvm.MethodName) prog_1_method_12_code (3 : Nat) (Option.some Jvm.ClassFile.FieldType.int)) ∈ TB := tb2 184 rfl rfl
theorem q2_185 : (Jvm.Cond.methodLink "NeedleHandsLaw" (60 : Nat) ({ cls := "NeedleHands", name := "mean", desc := "(II)J" } : Jvm.MethodName)) ∈ TB := tb2 185 rfl rfl
theorem q2_186 : (Jvm.Cond.instanceMethod ({ cls := "NeedleHands", name := "mean", desc := "(II)J" } : Jvm.MethodName)) ∈ TB := tb2 186 rfl rfl
theorem q2_187 : (Jvm.Cond.selects "NeedleHands" ({ cls := "NeedleHands", name := "mean", desc := "(II)J" } : Jvm.MethodName) ({ cls := "NeedleHands", name := "mean", desc := "(II)J" } : Jvm.MethodName)) ∈ TB := tb2 187 rfl rfl
theorem q2_188 : (Jvm.Cond.code ({ cls := "NeedleHands", name := "mean", desc := "(II)J" } : Jvm.MethodName) prog_1_method_13_code (3 : Nat) (Option.some Jvm.ClassFile.FieldType.long)) ∈ TB := tb2 188 rfl rfl
theorem q2_189 : (Jvm.Cond.constantLong "NeedleHands" (186 : Nat) (-1 : Int64)) ∈ TB := tb2 189 rfl rfl
theorem q2_190 : (Jvm.Cond.methodLink "NeedleHands" (188 : Nat) ({ cls := "NeedleHands", name := "flowNow", desc := "()V" } : Jvm.MethodName)) ∈ TB := tb2 190 rfl rfl
theorem q2_192 : (Jvm.Cond.instanceMethod ({ cls := "NeedleHands", name := "flowNow", desc := "()V" } : Jvm.MethodName)) ∈ TB := tb2 192 rfl rfl
theorem q2_193 : (Jvm.Cond.code ({ cls := "NeedleHands", name := "flowNow", desc := "()V" } : Jvm.MethodName) prog_1_method_35_code (1 : Nat) (Option.none : Option Jvm.ClassFile.FieldType)) ∈ TB := tb2 193 rfl rfl
theorem q2_194 : (Jvm.Cond.methodLink "NeedleHands" (212 : Nat) ({ cls := "NeedleHands$Flow", name := "through", desc := "(LNeedleHands$Plan;LNeedleHands$Moment;[II)V" } : Jvm.MethodName)) ∈ TB := tb2 194 rfl rfl
theorem q2_195 : (Jvm.Cond.instanceMethod ({ cls := "NeedleHands$Flow", name := "through", desc := "(LNeedleHands$Plan;LNeedleHands$Moment;[II)V" } : Jvm.MethodName)) ∈ TB := tb2 195 rfl rfl
theorem q2_196 : (Jvm.Cond.selects "NeedleHands$Flow" ({ cls := "NeedleHands$Flow", name := "through", desc := "(LNeedleHands$Plan;LNeedleHands$Moment;[II)V" } : Jvm.MethodName) ({ cls := "NeedleHands$Flow", name := "through", desc := "(LNeedleHands$Plan;LNeedleHands$Moment;[II)V" } : Jvm.MethodName)) ∈ TB := tb2 196 rfl rfl
theorem q2_197 : (Jvm.Cond.code ({ cls := "NeedleHands$Flow", name := "through", desc := "(LNeedleHands$Plan;LNeedleHands$Moment;[II)V" } : Jvm.MethodName) prog_2_method_2_code (7 : Nat) (Option.none : Option Jvm.ClassFile.FieldType)) ∈ TB := tb2 197 rfl rfl
theorem q2_198 : (Jvm.Cond.methodLink "NeedleHands$Flow" (18 : Nat) ({ cls := "NeedleHands$Flow", name := "begin", desc := "()V" } : Jvm.MethodName)) ∈ TB := tb2 198 rfl rfl
theorem q2_200 : (Jvm.Cond.instanceMethod ({ cls := "NeedleHands$Flow", name := "begin", desc := "()V" } : Jvm.MethodName)) ∈ TB := tb2 200 rfl rfl
theorem q2_201 : (Jvm.Cond.code ({ cls := "NeedleHands$Flow", name := "begin", desc := "()V" } : Jvm.MethodName) prog_2_method_4_code (1 : Nat) (Option.none : Option Jvm.ClassFile.FieldType)) ∈ TB := tb2 201 rfl rfl
theorem q2_202 : (Jvm.Cond.constantLong "NeedleHands$Flow" (69 : Nat) (10000000000 : Int64)) ∈ TB := tb2 202 rfl rfl
theorem q2_203 : (Jvm.Cond.methodLink "NeedleHands$Flow" (36 : Nat) ({ cls := "NeedleHands$Flow", name := "work", desc := "(III)V" } : Jvm.MethodName)) ∈ TB := tb2 203 rfl rfl
theorem q2_205 : (Jvm.Cond.instanceMethod ({ cls := "NeedleHands$Flow", name := "work", desc := "(III)V" } : Jvm.MethodName)) ∈ TB := tb2 205 rfl rfl
theorem q2_206 : (Jvm.Cond.code ({ cls := "NeedleHands$Flow", name := "work", desc := "(III)V" } : Jvm.MethodName) prog_2_method_5_code (4 : Nat) (Option.none : Option Jvm.ClassFile.FieldType)) ∈ TB := tb2 206 rfl rfl
theorem q2_207 : (Jvm.Cond.constantLong "NeedleHands$Flow" (74 : Nat) (10 : Int64)) ∈ TB := tb2 207 rfl rfl
theorem q2_208 : (Jvm.Cond.methodLink "NeedleHands$Flow" (46 : Nat) ({ cls := "NeedleHands$Flow", name := "lookBehind", desc := "(III)V" } : Jvm.MethodName)) ∈ TB := tb2 208 rfl rfl
theorem q2_210 : (Jvm.Cond.instanceMethod ({ cls := "NeedleHands$Flow", name := "lookBehind", desc := "(III)V" } : Jvm.MethodName)) ∈ TB := tb2 210 rfl rfl
theorem q2_211 : (Jvm.Cond.code ({ cls := "NeedleHands$Flow", name := "lookBehind", desc := "(III)V" } : Jvm.MethodName) prog_2_method_6_code (4 : Nat) (Option.none : Option Jvm.ClassFile.FieldType)) ∈ TB := tb2 211 rfl rfl
theorem q2_212 : (Jvm.Cond.constantLong "NeedleHands" (194 : Nat) (10000000000 : Int64)) ∈ TB := tb2 212 rfl rfl
theorem q2_213 : (Jvm.Cond.methodLink "NeedleHands" (196 : Nat) ({ cls := "NeedleHands", name := "part", desc := "(JJI)J" } : Jvm.MethodName)) ∈ TB := tb2 213 rfl rfl
theorem q2_214 : (Jvm.Cond.static ({ cls := "NeedleHands", name := "part", desc := "(JJI)J" } : Jvm.MethodName)) ∈ TB := tb2 214 rfl rfl
theorem q2_215 : (Jvm.Cond.code ({ cls := "NeedleHands", name := "part", desc := "(JJI)J" } : Jvm.MethodName) prog_1_method_33_code (7 : Nat) (Option.some Jvm.ClassFile.FieldType.long)) ∈ TB := tb2 215 rfl rfl
theorem q2_216 : (Jvm.Cond.methodLink "NeedleHands" (262 : Nat) ({ cls := "NeedleHands", name := "commonDivisor", desc := "(JJ)J" } : Jvm.MethodName)) ∈ TB := tb2 216 rfl rfl
theorem q2_217 : (Jvm.Cond.static ({ cls := "NeedleHands", name := "commonDivisor", desc := "(JJ)J" } : Jvm.MethodName)) ∈ TB := tb2 217 rfl rfl
theorem q2_218 : (Jvm.Cond.code ({ cls := "NeedleHands", name := "commonDivisor", desc := "(JJ)J" } : Jvm.MethodName) prog_1_method_34_code (11 : Nat) (Option.some Jvm.ClassFile.FieldType.long)) ∈ TB := tb2 218 rfl rfl
theorem q2_219 : (Jvm.Cond.constantLong "NeedleHands" (225 : Nat) (-9 : Int64)) ∈ TB := tb2 219 rfl rfl
theorem q2_220 : (Jvm.Cond.methodLink "NeedleHandsLaw" (65 : Nat) ({ cls := "NeedleHands", name := "lost", desc := "(II)J" } : Jvm.MethodName)) ∈ TB := tb2 220 rfl rfl
theorem q2_221 : (Jvm.Cond.instanceMethod ({ cls := "NeedleHands", name := "lost", desc := "(II)J" } : Jvm.MethodName)) ∈ TB := tb2 221 rfl rfl
theorem q2_222 : (Jvm.Cond.selects "NeedleHands" ({ cls := "NeedleHands", name := "lost", desc := "(II)J" } : Jvm.MethodName) ({ cls := "NeedleHands", name := "lost", desc := "(II)J" } : Jvm.MethodName)) ∈ TB := tb2 222 rfl rfl
theorem q2_223 : (Jvm.Cond.code ({ cls := "NeedleHands", name := "lost", desc := "(II)J" } : Jvm.MethodName) prog_1_method_14_code (3 : Nat) (Option.some Jvm.ClassFile.FieldType.long)) ∈ TB := tb2 223 rfl rfl
theorem q2_224 : (Jvm.Cond.methodLink "NeedleHandsLaw" (69 : Nat) ({ cls := "NeedleHands", name := "paper", desc := "(II)J" } : Jvm.MethodName)) ∈ TB := tb2 224 rfl rfl
theorem q2_225 : (Jvm.Cond.instanceMethod ({ cls := "NeedleHands", name := "paper", desc := "(II)J" } : Jvm.MethodName)) ∈ TB := tb2 225 rfl rfl
theorem q2_226 : (Jvm.Cond.selects "NeedleHands" ({ cls := "NeedleHands", name := "paper", desc := "(II)J" } : Jvm.MethodName) ({ cls := "NeedleHands", name := "paper", desc := "(II)J" } : Jvm.MethodName)) ∈ TB := tb2 226 rfl rfl
theorem q2_227 : (Jvm.Cond.code ({ cls := "NeedleHands", name := "paper", desc := "(II)J" } : Jvm.MethodName) prog_1_method_15_code (3 : Nat) (Option.some Jvm.ClassFile.FieldType.long)) ∈ TB := tb2 227 rfl rfl
theorem q2_228 : (Jvm.Cond.methodLink "NeedleHandsLaw" (73 : Nat) ({ cls := "NeedleHands", name := "bestLooks", desc := "()I" } : Jvm.MethodName)) ∈ TB := tb2 228 rfl rfl
theorem q2_229 : (Jvm.Cond.instanceMethod ({ cls := "NeedleHands", name := "bestLooks", desc := "()I" } : Jvm.MethodName)) ∈ TB := tb2 229 rfl rfl
theorem q2_230 : (Jvm.Cond.selects "NeedleHands" ({ cls := "NeedleHands", name := "bestLooks", desc := "()I" } : Jvm.MethodName) ({ cls := "NeedleHands", name := "bestLooks", desc := "()I" } : Jvm.MethodName)) ∈ TB := tb2 230 rfl rfl
theorem q2_231 : (Jvm.Cond.code ({ cls := "NeedleHands", name := "bestLooks", desc := "()I" } : Jvm.MethodName) prog_1_method_16_code (5 : Nat) (Option.some Jvm.ClassFile.FieldType.int)) ∈ TB := tb2 231 rfl rfl
theorem q2_232 : (Jvm.Cond.constantLong "NeedleHands" (210 : Nat) (10000000000000 : Int64)) ∈ TB := tb2 232 rfl rfl
theorem q2_233 : (Jvm.Cond.methodLink "NeedleHandsLaw" (77 : Nat) ({ cls := "NeedleHands", name := "bestOrder", desc := "(I)I" } : Jvm.MethodName)) ∈ TB := tb2 233 rfl rfl
theorem q2_234 : (Jvm.Cond.instanceMethod ({ cls := "NeedleHands", name := "bestOrder", desc := "(I)I" } : Jvm.MethodName)) ∈ TB := tb2 234 rfl rfl
theorem q2_235 : (Jvm.Cond.selects "NeedleHands" ({ cls := "NeedleHands", name := "bestOrder", desc := "(I)I" } : Jvm.MethodName) ({ cls := "NeedleHands", name := "bestOrder", desc := "(I)I" } : Jvm.MethodName)) ∈ TB := tb2 235 rfl rfl
theorem q2_236 : (Jvm.Cond.code ({ cls := "NeedleHands", name := "bestOrder", desc := "(I)I" } : Jvm.MethodName) prog_1_method_17_code (2 : Nat) (Option.some Jvm.ClassFile.FieldType.int)) ∈ TB := tb2 236 rfl rfl
theorem q2_237 : (Jvm.Cond.methodLink "NeedleHands" (216 : Nat) ({ cls := "NeedleHands", name := "findLeastOrder", desc := "()V" } : Jvm.MethodName)) ∈ TB := tb2 237 rfl rfl
theorem q2_239 : (Jvm.Cond.instanceMethod ({ cls := "NeedleHands", name := "findLeastOrder", desc := "()V" } : Jvm.MethodName)) ∈ TB := tb2 239 rfl rfl
theorem q3_0 : (Jvm.Cond.code ({ cls := "NeedleHands", name := "findLeastOrder", desc := "()V" } : Jvm.MethodName) prog_1_method_39_code (4 : Nat) (Option.none : Option Jvm.ClassFile.FieldType)) ∈ TB := tb3 0 rfl rfl
theorem q3_1 : (Jvm.Cond.methodLink "NeedleHands" (272 : Nat) ({ cls := "NeedleHands$Plan", name := "allows", desc := "([I)Z" } : Jvm.MethodName)) ∈ TB := tb3 1 rfl rfl
theorem q3_2 : (Jvm.Cond.instanceMethod ({ cls := "NeedleHands$Plan", name := "allows", desc := "([I)Z" } : Jvm.MethodName)) ∈ TB := tb3 2 rfl rfl
theorem q3_3 : (Jvm.Cond.selects "NeedleHands$Plan" ({ cls := "NeedleHands$Plan", name := "allows", desc := "([I)Z" } : Jvm.MethodName) ({ cls := "NeedleHands$Plan", name := "allows", desc := "([I)Z" } : Jvm.MethodName)) ∈ TB := tb3 3 rfl rfl
theorem q3_4 : (Jvm.Cond.code ({ cls := "NeedleHands$Plan", name := "allows", desc := "([I)Z" } : Jvm.MethodName) prog_6_method_4_code (4 : Nat) (Option.some Jvm.ClassFile.FieldType.boolean)) ∈ TB := tb3 4 rfl rfl
theorem q3_5 : (Jvm.Cond.methodLink "NeedleHands" (276 : Nat) ({ cls := "java/lang/System", name := "arraycopy", desc := "(Ljava/lang/Object;ILjava/lang/Object;II)V" } : Jvm.MethodName)) ∈ TB := tb3 5 rfl rfl
theorem q3_6 : (Jvm.Cond.methodLink "NeedleHands" (282 : Nat) ({ cls := "NeedleHands", name := "advance", desc := "([II)Z" } : Jvm.MethodName)) ∈ TB := tb3 6 rfl rfl
theorem q3_7 : (Jvm.Cond.static ({ cls := "NeedleHands", name := "advance", desc := "([II)Z" } : Jvm.MethodName)) ∈ TB := tb3 7 rfl rfl
theorem q3_8 : (Jvm.Cond.code ({ cls := "NeedleHands", name := "advance", desc := "([II)Z" } : Jvm.MethodName) prog_1_method_40_code (6 : Nat) (Option.some Jvm.ClassFile.FieldType.boolean)) ∈ TB := tb3 8 rfl rfl
theorem q3_9 : (Jvm.Cond.methodLink "NeedleHands" (286 : Nat) ({ cls := "NeedleHands", name := "swap", desc := "([III)V" } : Jvm.MethodName)) ∈ TB := tb3 9 rfl rfl
theorem q3_10 : (Jvm.Cond.static ({ cls := "NeedleHands", name := "swap", desc := "([III)V" } : Jvm.MethodName)) ∈ TB := tb3 10 rfl rfl
theorem q3_11 : (Jvm.Cond.code ({ cls := "NeedleHands", name := "swap", desc := "([III)V" } : Jvm.MethodName) prog_1_method_41_code (4 : Nat) (Option.none : Option Jvm.ClassFile.FieldType)) ∈ TB := tb3 11 rfl rfl
theorem q3_12 : (Jvm.Cond.methodLink "NeedleHandsLaw" (81 : Nat) ({ cls := "NeedleHands", name := "few", desc := "(I)I" } : Jvm.MethodName)) ∈ TB := tb3 12 rfl rfl
theorem q3_13 : (Jvm.Cond.instanceMethod ({ cls := "NeedleHands", name := "few", desc := "(I)I" } : Jvm.MethodName)) ∈ TB := tb3 13 rfl rfl
theorem q3_14 : (Jvm.Cond.selects "NeedleHands" ({ cls := "NeedleHands", name := "few", desc := "(I)I" } : Jvm.MethodName) ({ cls := "NeedleHands", name := "few", desc := "(I)I" } : Jvm.MethodName)) ∈ TB := tb3 14 rfl rfl
theorem q3_15 : (Jvm.Cond.code ({ cls := "NeedleHands", name := "few", desc := "(I)I" } : Jvm.MethodName) prog_1_method_18_code (5 : Nat) (Option.some Jvm.ClassFile.FieldType.int)) ∈ TB := tb3 15 rfl rfl
theorem q3_16 : (Jvm.Cond.methodLink "NeedleHands" (219 : Nat) ({ cls := "NeedleHands", name := "hasFewDuds", desc := "(II)Z" } : Jvm.MethodName)) ∈ TB := tb3 16 rfl rfl
theorem q3_18 : (Jvm.Cond.instanceMethod ({ cls := "NeedleHands", name := "hasFewDuds", desc := "(II)Z" } : Jvm.MethodName)) ∈ TB := tb3 18 rfl rfl
theorem q3_19 : (Jvm.Cond.code ({ cls := "NeedleHands", name := "hasFewDuds", desc := "(II)Z" } : Jvm.MethodName) prog_1_method_36_code (5 : Nat) (Option.some Jvm.ClassFile.FieldType.boolean)) ∈ TB := tb3 19 rfl rfl
theorem q3_20 : (Jvm.Cond.constantLong "NeedleHands" (266 : Nat) (250 : Int64)) ∈ TB := tb3 20 rfl rfl
theorem q3_21 : (Jvm.Cond.methodLink "NeedleHandsLaw" (85 : Nat) ({ cls := "NeedleHands", name := "blame", desc := "(III)J" } : Jvm.MethodName)) ∈ TB := tb3 21 rfl rfl
theorem q3_22 : (Jvm.Cond.instanceMethod ({ cls := "NeedleHands", name := "blame", desc := "(III)J" } : Jvm.MethodName)) ∈ TB := tb3 22 rfl rfl
theorem q3_23 : (Jvm.Cond.selects "NeedleHands" ({ cls := "NeedleHands", name := "blame", desc := "(III)J" } : Jvm.MethodName) ({ cls := "NeedleHands", name := "blame", desc := "(III)J" } : Jvm.MethodName)) ∈ TB := tb3 23 rfl rfl
theorem q3_24 : (Jvm.Cond.code ({ cls := "NeedleHands", name := "blame", desc := "(III)J" } : Jvm.MethodName) prog_1_method_19_code (4 : Nat) (Option.some Jvm.ClassFile.FieldType.long)) ∈ TB := tb3 24 rfl rfl
theorem q3_25 : (Jvm.Cond.methodLink "NeedleHands" (222 : Nat) ({ cls := "NeedleHands", name := "isFoundBehind", desc := "(I)Z" } : Jvm.MethodName)) ∈ TB := tb3 25 rfl rfl
theorem q3_27 : (Jvm.Cond.instanceMethod ({ cls := "NeedleHands", name := "isFoundBehind", desc := "(I)Z" } : Jvm.MethodName)) ∈ TB := tb3 27 rfl rfl
theorem q3_28 : (Jvm.Cond.code ({ cls := "NeedleHands", name := "isFoundBehind", desc := "(I)Z" } : Jvm.MethodName) prog_1_method_37_code (3 : Nat) (Option.some Jvm.ClassFile.FieldType.boolean)) ∈ TB := tb3 28 rfl rfl
theorem q3_29 : (Jvm.Cond.methodLink "NeedleHands" (268 : Nat) ({ cls := "NeedleHands$Flow", name := "upTo", desc := "(ILNeedleHands$Plan;LNeedleHands$Moment;)V" } : Jvm.MethodName)) ∈ TB := tb3 29 rfl rfl
theorem q3_30 : (Jvm.Cond.instanceMethod ({ cls := "NeedleHands$Flow", name := "upTo", desc := "(ILNeedleHands$Plan;LNeedleHands$Moment;)V" } : Jvm.MethodName)) ∈ TB := tb3 30 rfl rfl
theorem q3_31 : (Jvm.Cond.selects "NeedleHands$Flow" ({ cls := "NeedleHands$Flow", name := "upTo", desc := "(ILNeedleHands$Plan;LNeedleHands$Moment;)V" } : Jvm.MethodName) ({ cls := "NeedleHands$Flow", name := "upTo", desc := "(ILNeedleHands$Plan;LNeedleHands$Moment;)V" } : Jvm.MethodName)) ∈ TB := tb3 31 rfl rfl
theorem q3_32 : (Jvm.Cond.code ({ cls := "NeedleHands$Flow", name := "upTo", desc := "(ILNeedleHands$Plan;LNeedleHands$Moment;)V" } : Jvm.MethodName) prog_2_method_3_code (6 : Nat) (Option.none : Option Jvm.ClassFile.FieldType)) ∈ TB := tb3 32 rfl rfl
theorem q3_33 : (Jvm.Cond.methodLink "NeedleHands$Flow" (65 : Nat) ({ cls := "NeedleHands$Flow", name := "thinShares", desc := "(II)V" } : Jvm.MethodName)) ∈ TB := tb3 33 rfl rfl
theorem q3_35 : (Jvm.Cond.instanceMethod ({ cls := "NeedleHands$Flow", name := "thinShares", desc := "(II)V" } : Jvm.MethodName)) ∈ TB := tb3 35 rfl rfl
theorem q3_36 : (Jvm.Cond.code ({ cls := "NeedleHands$Flow", name := "thinShares", desc := "(II)V" } : Jvm.MethodName) prog_2_method_7_code (4 : Nat) (Option.none : Option Jvm.ClassFile.FieldType)) ∈ TB := tb3 36 rfl rfl
theorem q3_37 : (Jvm.Cond.methodLink "NeedleHandsLaw" (90 : Nat) ({ cls := "NeedleHands", name := "first", desc := "(I)I" } : Jvm.MethodName)) ∈ TB := tb3 37 rfl rfl
theorem q3_38 : (Jvm.Cond.instanceMethod ({ cls := "NeedleHands", name := "first", desc := "(I)I" } : Jvm.MethodName)) ∈ TB := tb3 38 rfl rfl
theorem q3_39 : (Jvm.Cond.selects "NeedleHands" ({ cls := "NeedleHands", name := "first", desc := "(I)I" } : Jvm.MethodName) ({ cls := "NeedleHands", name := "first", desc := "(I)I" } : Jvm.MethodName)) ∈ TB := tb3 39 rfl rfl
theorem q3_40 : (Jvm.Cond.code ({ cls := "NeedleHands", name := "first", desc := "(I)I" } : Jvm.MethodName) prog_1_method_20_code (4 : Nat) (Option.some Jvm.ClassFile.FieldType.int)) ∈ TB := tb3 40 rfl rfl
theorem q3_41 : (Jvm.Cond.methodLink "NeedleHandsLaw" (94 : Nat) ({ cls := "NeedleHands", name := "tells", desc := "(II)I" } : Jvm.MethodName)) ∈ TB := tb3 41 rfl rfl
theorem q3_42 : (Jvm.Cond.instanceMethod ({ cls := "NeedleHands", name := "tells", desc := "(II)I" } : Jvm.MethodName)) ∈ TB := tb3 42 rfl rfl
theorem q3_43 : (Jvm.Cond.selects "NeedleHands" ({ cls := "NeedleHands", name := "tells", desc := "(II)I" } : Jvm.MethodName) ({ cls := "NeedleHands", name := "tells", desc := "(II)I" } : Jvm.MethodName)) ∈ TB := tb3 43 rfl rfl
theorem q3_44 : (Jvm.Cond.code ({ cls := "NeedleHands", name := "tells", desc := "(II)I" } : Jvm.MethodName) prog_1_method_21_code (3 : Nat) (Option.some Jvm.ClassFile.FieldType.int)) ∈ TB := tb3 44 rfl rfl
theorem q3_45 : (Jvm.Cond.methodLink "NeedleHandsLaw" (98 : Nat) ({ cls := "NeedleHands", name := "forget", desc := "()I" } : Jvm.MethodName)) ∈ TB := tb3 45 rfl rfl
theorem q3_46 : (Jvm.Cond.instanceMethod ({ cls := "NeedleHands", name := "forget", desc := "()I" } : Jvm.MethodName)) ∈ TB := tb3 46 rfl rfl
theorem q3_47 : (Jvm.Cond.selects "NeedleHands" ({ cls := "NeedleHands", name := "forget", desc := "()I" } : Jvm.MethodName) ({ cls := "NeedleHands", name := "forget", desc := "()I" } : Jvm.MethodName)) ∈ TB := tb3 47 rfl rfl
theorem q3_48 : (Jvm.Cond.code ({ cls := "NeedleHands", name := "forget", desc := "()I" } : Jvm.MethodName) prog_1_method_22_code (2 : Nat) (Option.some Jvm.ClassFile.FieldType.int)) ∈ TB := tb3 48 rfl rfl
theorem q3_49 : (Jvm.Cond.methodLink "NeedleHandsLaw" (102 : Nat) ({ cls := "NeedleHands", name := "who", desc := "(I)I" } : Jvm.MethodName)) ∈ TB := tb3 49 rfl rfl
theorem q3_50 : (Jvm.Cond.instanceMethod ({ cls := "NeedleHands", name := "who", desc := "(I)I" } : Jvm.MethodName)) ∈ TB := tb3 50 rfl rfl
theorem q3_51 : (Jvm.Cond.selects "NeedleHands" ({ cls := "NeedleHands", name := "who", desc := "(I)I" } : Jvm.MethodName) ({ cls := "NeedleHands", name := "who", desc := "(I)I" } : Jvm.MethodName)) ∈ TB := tb3 51 rfl rfl
theorem q3_52 : (Jvm.Cond.code ({ cls := "NeedleHands", name := "who", desc := "(I)I" } : Jvm.MethodName) prog_1_method_23_code (6 : Nat) (Option.some Jvm.ClassFile.FieldType.int)) ∈ TB := tb3 52 rfl rfl
theorem q3_53 : (Jvm.Cond.methodLink "NeedleHands" (230 : Nat) ({ cls := "NeedleHands", name := "explainsTold", desc := "(I)Z" } : Jvm.MethodName)) ∈ TB := tb3 53 rfl rfl
theorem q3_55 : (Jvm.Cond.instanceMethod ({ cls := "NeedleHands", name := "explainsTold", desc := "(I)Z" } : Jvm.MethodName)) ∈ TB := tb3 55 rfl rfl
theorem q3_56 : (Jvm.Cond.code ({ cls := "NeedleHands", name := "explainsTold", desc := "(I)Z" } : Jvm.MethodName) prog_1_method_38_code (3 : Nat) (Option.some Jvm.ClassFile.FieldType.boolean)) ∈ TB := tb3 56 rfl rfl
theorem q3_57 : (Jvm.Cond.methodLink "NeedleHandsLaw" (106 : Nat) ({ cls := "NeedleHands", name := "mark", desc := "(II)I" } : Jvm.MethodName)) ∈ TB := tb3 57 rfl rfl
theorem q3_58 : (Jvm.Cond.instanceMethod ({ cls := "NeedleHands", name := "mark", desc := "(II)I" } : Jvm.MethodName)) ∈ TB := tb3 58 rfl rfl
theorem q3_59 : (Jvm.Cond.selects "NeedleHands" ({ cls := "NeedleHands", name := "mark", desc := "(II)I" } : Jvm.MethodName) ({ cls := "NeedleHands", name := "mark", desc := "(II)I" } : Jvm.MethodName)) ∈ TB := tb3 59 rfl rfl
theorem q3_60 : (Jvm.Cond.code ({ cls := "NeedleHands", name := "mark", desc := "(II)I" } : Jvm.MethodName) prog_1_method_24_code (3 : Nat) (Option.some Jvm.ClassFile.FieldType.int)) ∈ TB := tb3 60 rfl rfl
theorem q3_61 : (Jvm.Cond.constant "NeedleHands" (233 : Nat) (-1000000 : Int32)) ∈ TB := tb3 61 rfl rfl
theorem q3_62 : (Jvm.Cond.methodLink "NeedleHands" (234 : Nat) ({ cls := "NeedleHands", name := "markStep", desc := "(I)I" } : Jvm.MethodName)) ∈ TB := tb3 62 rfl rfl
theorem q3_64 : (Jvm.Cond.instanceMethod ({ cls := "NeedleHands", name := "markStep", desc := "(I)I" } : Jvm.MethodName)) ∈ TB := tb3 64 rfl rfl
theorem q3_65 : (Jvm.Cond.code ({ cls := "NeedleHands", name := "markStep", desc := "(I)I" } : Jvm.MethodName) prog_1_method_42_code (2 : Nat) (Option.some Jvm.ClassFile.FieldType.int)) ∈ TB := tb3 65 rfl rfl
theorem q3_66 : (Jvm.Cond.methodLink "NeedleHands" (237 : Nat) ({ cls := "NeedleHands", name := "markPoint", desc := "(I)I" } : Jvm.MethodName)) ∈ TB := tb3 66 rfl rfl
theorem q3_68 : (Jvm.Cond.instanceMethod ({ cls := "NeedleHands", name := "markPoint", desc := "(I)I" } : Jvm.MethodName)) ∈ TB := tb3 68 rfl rfl
theorem q3_69 : (Jvm.Cond.code ({ cls := "NeedleHands", name := "markPoint", desc := "(I)I" } : Jvm.MethodName) prog_1_method_43_code (2 : Nat) (Option.some Jvm.ClassFile.FieldType.int)) ∈ TB := tb3 69 rfl rfl
theorem q3_70 : (Jvm.Cond.constantLong "NeedleHands" (290 : Nat) (10 : Int64)) ∈ TB := tb3 70 rfl rfl
theorem q3_71 : (Jvm.Cond.methodLink "NeedleHands" (240 : Nat) ({ cls := "NeedleHands", name := "markEye", desc := "(I)I" } : Jvm.MethodName)) ∈ TB := tb3 71 rfl rfl
theorem q3_73 : (Jvm.Cond.instanceMethod ({ cls := "NeedleHands", name := "markEye", desc := "(I)I" } : Jvm.MethodName)) ∈ TB := tb3 73 rfl rfl
theorem q3_74 : (Jvm.Cond.code ({ cls := "NeedleHands", name := "markEye", desc := "(I)I" } : Jvm.MethodName) prog_1_method_44_code (2 : Nat) (Option.some Jvm.ClassFile.FieldType.int)) ∈ TB := tb3 74 rfl rfl
theorem q3_75 : (Jvm.Cond.constantLong "NeedleHands" (292 : Nat) (100 : Int64)) ∈ TB := tb3 75 rfl rfl
theorem q3_76 : (Jvm.Cond.methodLink "NeedleHands" (243 : Nat) ({ cls := "NeedleHands", name := "markTrue", desc := "(I)I" } : Jvm.MethodName)) ∈ TB := tb3 76 rfl rfl
theorem q3_78 : (Jvm.Cond.instanceMethod ({ cls := "NeedleHands", name := "markTrue", desc := "(I)I" } : Jvm.MethodName)) ∈ TB := tb3 78 rfl rfl
theorem q3_79 : (Jvm.Cond.code ({ cls := "NeedleHands", name := "markTrue", desc := "(I)I" } : Jvm.MethodName) prog_1_method_45_code (2 : Nat) (Option.some Jvm.ClassFile.FieldType.int)) ∈ TB := tb3 79 rfl rfl
theorem q3_80 : (Jvm.Cond.constantLong "NeedleHands" (294 : Nat) (1000 : Int64)) ∈ TB := tb3 80 rfl rfl
theorem q3_81 : (Jvm.Cond.methodLink "NeedleHands" (246 : Nat) ({ cls := "NeedleHands", name := "markBlue", desc := "(I)I" } : Jvm.MethodName)) ∈ TB := tb3 81 rfl rfl
theorem q3_83 : (Jvm.Cond.instanceMethod ({ cls := "NeedleHands", name := "markBlue", desc := "(I)I" } : Jvm.MethodName)) ∈ TB := tb3 83 rfl rfl
theorem q3_84 : (Jvm.Cond.code ({ cls := "NeedleHands", name := "markBlue", desc := "(I)I" } : Jvm.MethodName) prog_1_method_46_code (2 : Nat) (Option.some Jvm.ClassFile.FieldType.int)) ∈ TB := tb3 84 rfl rfl
theorem q3_85 : (Jvm.Cond.constantLong "NeedleHands" (296 : Nat) (10000 : Int64)) ∈ TB := tb3 85 rfl rfl
theorem q3_86 : (Jvm.Cond.methodLink "NeedleHands" (249 : Nat) ({ cls := "NeedleHands", name := "markSack", desc := "(I)I" } : Jvm.MethodName)) ∈ TB := tb3 86 rfl rfl
theorem q3_88 : (Jvm.Cond.instanceMethod ({ cls := "NeedleHands", name := "markSack", desc := "(I)I" } : Jvm.MethodName)) ∈ TB := tb3 88 rfl rfl
theorem q3_89 : (Jvm.Cond.code ({ cls := "NeedleHands", name := "markSack", desc := "(I)I" } : Jvm.MethodName) prog_1_method_47_code (2 : Nat) (Option.some Jvm.ClassFile.FieldType.int)) ∈ TB := tb3 89 rfl rfl
theorem q3_90 : (Jvm.Cond.constantLong "NeedleHands" (298 : Nat) (100000 : Int64)) ∈ TB := tb3 90 rfl rfl
theorem q3_91 : (Jvm.Cond.methodLink "NeedleHandsLaw" (110 : Nat) ({ cls := "NeedleHands", name := "keep", desc := "(I)I" } : Jvm.MethodName)) ∈ TB := tb3 91 rfl rfl
theorem q3_92 : (Jvm.Cond.instanceMethod ({ cls := "NeedleHands", name := "keep", desc := "(I)I" } : Jvm.MethodName)) ∈ TB := tb3 92 rfl rfl
theorem q3_93 : (Jvm.Cond.selects "NeedleHands" ({ cls := "NeedleHands", name := "keep", desc := "(I)I" } : Jvm.MethodName) ({ cls := "NeedleHands", name := "keep", desc := "(I)I" } : Jvm.MethodName)) ∈ TB := tb3 93 rfl rfl
theorem q3_94 : (Jvm.Cond.code ({ cls := "NeedleHands", name := "keep", desc := "(I)I" } : Jvm.MethodName) prog_1_method_25_code (2 : Nat) (Option.some Jvm.ClassFile.FieldType.int)) ∈ TB := tb3 94 rfl rfl
theorem q3_95 : (Jvm.Cond.methodLink "NeedleHands" (252 : Nat) ({ cls := "NeedleHands", name := "isImage", desc := "(I)Z" } : Jvm.MethodName)) ∈ TB := tb3 95 rfl rfl
theorem q3_96 : (Jvm.Cond.static ({ cls := "NeedleHands", name := "isImage", desc := "(I)Z" } : Jvm.MethodName)) ∈ TB := tb3 96 rfl rfl
theorem q3_97 : (Jvm.Cond.code ({ cls := "NeedleHands", name := "isImage", desc := "(I)Z" } : Jvm.MethodName) prog_1_method_32_code (1 : Nat) (Option.some Jvm.ClassFile.FieldType.boolean)) ∈ TB := tb3 97 rfl rfl
theorem q3_98 : (Jvm.Cond.methodLink "NeedleHands" (255 : Nat) ({ cls := "NeedleHands$Past", name := "become", desc := "(LNeedleHands$Past;)V" } : Jvm.MethodName)) ∈ TB := tb3 98 rfl rfl
theorem q3_99 : (Jvm.Cond.instanceMethod ({ cls := "NeedleHands$Past", name := "become", desc := "(LNeedleHands$Past;)V" } : Jvm.MethodName)) ∈ TB := tb3 99 rfl rfl
theorem q3_100 : (Jvm.Cond.selects "NeedleHands$Past" ({ cls := "NeedleHands$Past", name := "become", desc := "(LNeedleHands$Past;)V" } : Jvm.MethodName) ({ cls := "NeedleHands$Past", name := "become", desc := "(LNeedleHands$Past;)V" } : Jvm.MethodName)) ∈ TB := tb3 100 rfl rfl
theorem q3_101 : (Jvm.Cond.code ({ cls := "NeedleHands$Past", name := "become", desc := "(LNeedleHands$Past;)V" } : Jvm.MethodName) prog_5_method_5_code (3 : Nat) (Option.none : Option Jvm.ClassFile.FieldType)) ∈ TB := tb3 101 rfl rfl
theorem q3_102 : (Jvm.Cond.methodLink "NeedleHandsLaw" (114 : Nat) ({ cls := "NeedleHands", name := "back", desc := "(I)I" } : Jvm.MethodName)) ∈ TB := tb3 102 rfl rfl
theorem q3_103 : (Jvm.Cond.instanceMethod ({ cls := "NeedleHands", name := "back", desc := "(I)I" } : Jvm.MethodName)) ∈ TB := tb3 103 rfl rfl
theorem q3_104 : (Jvm.Cond.selects "NeedleHands" ({ cls := "NeedleHands", name := "back", desc := "(I)I" } : Jvm.MethodName) ({ cls := "NeedleHands", name := "back", desc := "(I)I" } : Jvm.MethodName)) ∈ TB := tb3 104 rfl rfl
theorem q3_105 : (Jvm.Cond.code ({ cls := "NeedleHands", name := "back", desc := "(I)I" } : Jvm.MethodName) prog_1_method_26_code (2 : Nat) (Option.some Jvm.ClassFile.FieldType.int)) ∈ TB := tb3 105 rfl rfl
theorem q3_106 : (Jvm.Cond.methodLink "NeedleHandsLaw" (118 : Nat) ({ cls := "NeedleHands", name := "count", desc := "(I)I" } : Jvm.MethodName)) ∈ TB := tb3 106 rfl rfl
theorem q3_107 : (Jvm.Cond.instanceMethod ({ cls := "NeedleHands", name := "count", desc := "(I)I" } : Jvm.MethodName)) ∈ TB := tb3 107 rfl rfl
theorem q3_108 : (Jvm.Cond.selects "NeedleHands" ({ cls := "NeedleHands", name := "count", desc := "(I)I" } : Jvm.MethodName) ({ cls := "NeedleHands", name := "count", desc := "(I)I" } : Jvm.MethodName)) ∈ TB := tb3 108 rfl rfl
theorem q3_109 : (Jvm.Cond.code ({ cls := "NeedleHands", name := "count", desc := "(I)I" } : Jvm.MethodName) prog_1_method_27_code (2 : Nat) (Option.some Jvm.ClassFile.FieldType.int)) ∈ TB := tb3 109 rfl rfl
theorem q3_110 : (Jvm.Cond.methodLink "NeedleHandsLaw" (122 : Nat) ({ cls := "NeedleHands", name := "trace", desc := "()J" } : Jvm.MethodName)) ∈ TB := tb3 110 rfl rfl
theorem q3_111 : (Jvm.Cond.instanceMethod ({ cls := "NeedleHands", name := "trace", desc := "()J" } : Jvm.MethodName)) ∈ TB := tb3 111 rfl rfl
theorem q3_112 : (Jvm.Cond.selects "NeedleHands" ({ cls := "NeedleHands", name := "trace", desc := "()J" } : Jvm.MethodName) ({ cls := "NeedleHands", name := "trace", desc := "()J" } : Jvm.MethodName)) ∈ TB := tb3 112 rfl rfl
theorem q3_113 : (Jvm.Cond.code ({ cls := "NeedleHands", name := "trace", desc := "()J" } : Jvm.MethodName) prog_1_method_28_code (1 : Nat) (Option.some Jvm.ClassFile.FieldType.long)) ∈ TB := tb3 113 rfl rfl
theorem q3_114 : (Jvm.Cond.classLink "NeedleHandsLaw" (10 : Nat) "NeedleHandsModel") ∈ TB := tb3 114 rfl rfl
theorem q3_115 : (Jvm.Cond.instantiable "NeedleHandsModel" (31 : Nat)) ∈ TB := tb3 115 rfl rfl
theorem q3_116 : (Jvm.Cond.methodLink "NeedleHandsLaw" (12 : Nat) ({ cls := "NeedleHandsModel", name := "<init>", desc := "()V" } : Jvm.MethodName)) ∈ TB := tb3 116 rfl rfl
theorem q3_117 : (Jvm.Cond.instanceMethod ({ cls := "NeedleHandsModel", name := "<init>", desc := "()V" } : Jvm.MethodName)) ∈ TB := tb3 117 rfl rfl
theorem q3_118 : (Jvm.Cond.code ({ cls := "NeedleHandsModel", name := "<init>", desc := "()V" } : Jvm.MethodName) prog_9_method_1_code (1 : Nat) (Option.none : Option Jvm.ClassFile.FieldType)) ∈ TB := tb3 118 rfl rfl
theorem q3_119 : (Jvm.Cond.methodLink "NeedleHandsModel" (1 : Nat) ({ cls := "java/lang/Object", name := "<init>", desc := "()V" } : Jvm.MethodName)) ∈ TB := tb3 119 rfl rfl
theorem q3_120 : (Jvm.Cond.methodLink "NeedleHandsModel" (61 : Nat) ({ cls := "NeedleHandsModel", name := "plain", desc := "()V" } : Jvm.MethodName)) ∈ TB := tb3 120 rfl rfl
theorem q3_122 : (Jvm.Cond.instanceMethod ({ cls := "NeedleHandsModel", name := "plain", desc := "()V" } : Jvm.MethodName)) ∈ TB := tb3 122 rfl rfl
theorem q3_123 : (Jvm.Cond.code ({ cls := "NeedleHandsModel", name := "plain", desc := "()V" } : Jvm.MethodName) prog_9_method_12_code (2 : Nat) (Option.none : Option Jvm.ClassFile.FieldType)) ∈ TB := tb3 123 rfl rfl
theorem q3_124 : (Jvm.Cond.methodLink "NeedleHandsModel" (64 : Nat) ({ cls := "NeedleHandsModel", name := "takeDraft", desc := "()V" } : Jvm.MethodName)) ∈ TB := tb3 124 rfl rfl
theorem q3_126 : (Jvm.Cond.instanceMethod ({ cls := "NeedleHandsModel", name := "takeDraft", desc := "()V" } : Jvm.MethodName)) ∈ TB := tb3 126 rfl rfl
theorem q3_127 : (Jvm.Cond.code ({ cls := "NeedleHandsModel", name := "takeDraft", desc := "()V" } : Jvm.MethodName) prog_9_method_13_code (2 : Nat) (Option.none : Option Jvm.ClassFile.FieldType)) ∈ TB := tb3 127 rfl rfl
theorem q3_128 : (Jvm.Cond.fieldLink "NeedleHandsModel" (213 : Nat) "NeedleHandsModel" "trace" "J") ∈ TB := tb3 128 rfl rfl
theorem q3_129 : (Jvm.Cond.fieldLink "NeedleHandsModel" (7 : Nat) "NeedleHandsModel" "text" "[B") ∈ TB := tb3 129 rfl rfl
theorem q3_130 : (Jvm.Cond.fieldLink "NeedleHandsModel" (71 : Nat) "NeedleHandsModel" "typed" "I") ∈ TB := tb3 130 rfl rfl
theorem q3_131 : (Jvm.Cond.fieldLink "NeedleHandsModel" (13 : Nat) "NeedleHandsModel" "steps" "[I") ∈ TB := tb3 131 rfl rfl
theorem q3_132 : (Jvm.Cond.fieldLink "NeedleHandsModel" (17 : Nat) "NeedleHandsModel" "seconds" "[I") ∈ TB := tb3 132 rfl rfl
theorem q3_133 : (Jvm.Cond.fieldLink "NeedleHandsModel" (20 : Nat) "NeedleHandsModel" "draftFault" "[I") ∈ TB := tb3 133 rfl rfl
theorem q3_134 : (Jvm.Cond.fieldLink "NeedleHandsModel" (23 : Nat) "NeedleHandsModel" "look" "[I") ∈ TB := tb3 134 rfl rfl
theorem q3_135 : (Jvm.Cond.fieldLink "NeedleHandsModel" (26 : Nat) "NeedleHandsModel" "miss" "[I") ∈ TB := tb3 135 rfl rfl
theorem q3_136 : (Jvm.Cond.fieldLink "NeedleHandsModel" (29 : Nat) "NeedleHandsModel" "ahead" "[I") ∈ TB := tb3 136 rfl rfl
theorem q3_137 : (Jvm.Cond.fieldLink "NeedleHandsModel" (32 : Nat) "NeedleHandsModel" "price" "[I") ∈ TB := tb3 137 rfl rfl
theorem q3_138 : (Jvm.Cond.fieldLink "NeedleHandsModel" (101 : Nat) "NeedleHandsModel" "priceTold" "Z") ∈ TB := tb3 138 rfl rfl
theorem q3_139 : (Jvm.Cond.fieldLink "NeedleHandsModel" (75 : Nat) "NeedleHandsModel" "at" "I") ∈ TB := tb3 139 rfl rfl
theorem q3_140 : (Jvm.Cond.fieldLink "NeedleHandsModel" (82 : Nat) "NeedleHandsModel" "start" "I") ∈ TB := tb3 140 rfl rfl
theorem q3_141 : (Jvm.Cond.fieldLink "NeedleHandsModel" (88 : Nat) "NeedleHandsModel" "sort" "I") ∈ TB := tb3 141 rfl rfl
theorem q3_142 : (Jvm.Cond.fieldLink "NeedleHandsModel" (85 : Nat) "NeedleHandsModel" "value" "I") ∈ TB := tb3 142 rfl rfl
theorem q3_143 : (Jvm.Cond.fieldLink "NeedleHandsModel" (91 : Nat) "NeedleHandsModel" "wrong" "I") ∈ TB := tb3 143 rfl rfl
theorem q3_144 : (Jvm.Cond.fieldLink "NeedleHandsModel" (35 : Nat) "NeedleHandsModel" "now" "[I") ∈ TB := tb3 144 rfl rfl
theorem q3_145 : (Jvm.Cond.fieldLink "NeedleHandsModel" (38 : Nat) "NeedleHandsModel" "isKept" "[Z") ∈ TB := tb3 145 rfl rfl
theorem q3_146 : (Jvm.Cond.fieldLink "NeedleHandsModel" (133 : Nat) "NeedleHandsModel" "cost" "I") ∈ TB := tb3 146 rfl rfl
theorem q3_147 : (Jvm.Cond.fieldLink "NeedleHandsModel" (136 : Nat) "NeedleHandsModel" "thrownBehind" "I") ∈ TB := tb3 147 rfl rfl
theorem q3_148 : (Jvm.Cond.fieldLink "NeedleHandsModel" (42 : Nat) "NeedleHandsModel" "row" "[I") ∈ TB := tb3 148 rfl rfl
theorem q3_149 : (Jvm.Cond.fieldLink "NeedleHandsModel" (155 : Nat) "NeedleHandsModel" "all" "J") ∈ TB := tb3 149 rfl rfl
theorem q3_150 : (Jvm.Cond.fieldLink "NeedleHandsModel" (161 : Nat) "NeedleHandsModel" "costs" "J") ∈ TB := tb3 150 rfl rfl
theorem q3_151 : (Jvm.Cond.fieldLink "NeedleHandsModel" (164 : Nat) "NeedleHandsModel" "good" "J") ∈ TB := tb3 151 rfl rfl
theorem q3_152 : (Jvm.Cond.fieldLink "NeedleHandsModel" (167 : Nat) "NeedleHandsModel" "duds" "J") ∈ TB := tb3 152 rfl rfl
theorem q3_153 : (Jvm.Cond.fieldLink "NeedleHandsModel" (45 : Nat) "NeedleHandsModel" "gone" "[J") ∈ TB := tb3 153 rfl rfl
theorem q3_154 : (Jvm.Cond.fieldLink "NeedleHandsModel" (49 : Nat) "NeedleHandsModel" "madeBy" "[J") ∈ TB := tb3 154 rfl rfl
theorem q3_155 : (Jvm.Cond.fieldLink "NeedleHandsModel" (52 : Nat) "NeedleHandsModel" "best" "[I") ∈ TB := tb3 155 rfl rfl
theorem q3_156 : (Jvm.Cond.fieldLink "NeedleHandsModel" (55 : Nat) "NeedleHandsModel" "toldBy" "[I") ∈ TB := tb3 156 rfl rfl
theorem q3_157 : (Jvm.Cond.fieldLink "NeedleHandsModel" (58 : Nat) "NeedleHandsModel" "toldHow" "[I") ∈ TB := tb3 157 rfl rfl
theorem q3_158 : (Jvm.Cond.fieldLink "NeedleHandsModel" (109 : Nat) "NeedleHandsModel" "told" "I") ∈ TB := tb3 158 rfl rfl
theorem q3_222 : (Jvm.Cond.arrayClass Jvm.ClassFile.FieldType.byte) ∈ TB := tb3 222 rfl rfl
theorem q3_223 : (Jvm.Cond.methodLink "NeedleHandsLaw" (17 : Nat) ({ cls := "NeedleHandsModel", name := "type", desc := "(I)I" } : Jvm.MethodName)) ∈ TB := tb3 223 rfl rfl
theorem q3_224 : (Jvm.Cond.instanceMethod ({ cls := "NeedleHandsModel", name := "type", desc := "(I)I" } : Jvm.MethodName)) ∈ TB := tb3 224 rfl rfl
theorem q3_225 : (Jvm.Cond.selects "NeedleHandsModel" ({ cls := "NeedleHandsModel", name := "type", desc := "(I)I" } : Jvm.MethodName) ({ cls := "NeedleHandsModel", name := "type", desc := "(I)I" } : Jvm.MethodName)) ∈ TB := tb3 225 rfl rfl
theorem q3_226 : (Jvm.Cond.code ({ cls := "NeedleHandsModel", name := "type", desc := "(I)I" } : Jvm.MethodName) prog_9_method_4_code (2 : Nat) (Option.some Jvm.ClassFile.FieldType.int)) ∈ TB := tb3 226 rfl rfl
theorem q3_227 : (Jvm.Cond.methodLink "NeedleHandsModel" (67 : Nat) ({ cls := "NeedleHandsModel", name := "in", desc := "(III)Z" } : Jvm.MethodName)) ∈ TB := tb3 227 rfl rfl
theorem q3_228 : (Jvm.Cond.static ({ cls := "NeedleHandsModel", name := "in", desc := "(III)Z" } : Jvm.MethodName)) ∈ TB := tb3 228 rfl rfl
theorem q3_229 : (Jvm.Cond.code ({ cls := "NeedleHandsModel", name := "in", desc := "(III)Z" } : Jvm.MethodName) prog_9_method_3_code (3 : Nat) (Option.some Jvm.ClassFile.FieldType.boolean)) ∈ TB := tb3 229 rfl rfl
theorem q3_230 : (Jvm.Cond.methodLink "NeedleHandsLaw" (22 : Nat) ({ cls := "NeedleHandsModel", name := "clear", desc := "()I" } : Jvm.MethodName)) ∈ TB := tb3 230 rfl rfl
theorem q3_231 : (Jvm.Cond.instanceMethod ({ cls := "NeedleHandsModel", name := "clear", desc := "()I" } : Jvm.MethodName)) ∈ TB := tb3 231 rfl rfl
theorem q3_232 : (Jvm.Cond.selects "NeedleHandsModel" ({ cls := "NeedleHandsModel", name := "clear", desc := "()I" } : Jvm.MethodName) ({ cls := "NeedleHandsModel", name := "clear", desc := "()I" } : Jvm.MethodName)) ∈ TB := tb3 232 rfl rfl
theorem q3_233 : (Jvm.Cond.code ({ cls := "NeedleHandsModel", name := "clear", desc := "()I" } : Jvm.MethodName) prog_9_method_5_code (2 : Nat) (Option.some Jvm.ClassFile.FieldType.int)) ∈ TB := tb3 233 rfl rfl
theorem q3_234 : (Jvm.Cond.methodLink "NeedleHandsLaw" (26 : Nat) ({ cls := "NeedleHandsModel", name := "shop", desc := "()I" } : Jvm.MethodName)) ∈ TB := tb3 234 rfl rfl
theorem q3_235 : (Jvm.Cond.instanceMethod ({ cls := "NeedleHandsModel", name := "shop", desc := "()I" } : Jvm.MethodName)) ∈ TB := tb3 235 rfl rfl
theorem q3_236 : (Jvm.Cond.selects "NeedleHandsModel" ({ cls := "NeedleHandsModel", name := "shop", desc := "()I" } : Jvm.MethodName) ({ cls := "NeedleHandsModel", name := "shop", desc := "()I" } : Jvm.MethodName)) ∈ TB := tb3 236 rfl rfl
theorem q3_237 : (Jvm.Cond.code ({ cls := "NeedleHandsModel", name := "shop", desc := "()I" } : Jvm.MethodName) prog_9_method_14_code (3 : Nat) (Option.some Jvm.ClassFile.FieldType.int)) ∈ TB := tb3 237 rfl rfl
theorem q3_238 : (Jvm.Cond.methodLink "NeedleHandsModel" (94 : Nat) ({ cls := "NeedleHandsModel", name := "read", desc := "()V" } : Jvm.MethodName)) ∈ TB := tb3 238 rfl rfl
theorem q4_0 : (Jvm.Cond.instanceMethod ({ cls := "NeedleHandsModel", name := "read", desc := "()V" } : Jvm.MethodName)) ∈ TB := tb4 0 rfl rfl
theorem q4_1 : (Jvm.Cond.code ({ cls := "NeedleHandsModel", name := "read", desc := "()V" } : Jvm.MethodName) prog_9_method_7_code (2 : Nat) (Option.none : Option Jvm.ClassFile.FieldType)) ∈ TB := tb4 1 rfl rfl
theorem q4_2 : (Jvm.Cond.methodLink "NeedleHandsModel" (78 : Nat) ({ cls := "NeedleHandsModel", name := "here", desc := "()I" } : Jvm.MethodName)) ∈ TB := tb4 2 rfl rfl
theorem q4_4 : (Jvm.Cond.instanceMethod ({ cls := "NeedleHandsModel", name := "here", desc := "()I" } : Jvm.MethodName)) ∈ TB := tb4 4 rfl rfl
theorem q4_5 : (Jvm.Cond.code ({ cls := "NeedleHandsModel", name := "here", desc := "()I" } : Jvm.MethodName) prog_9_method_6_code (1 : Nat) (Option.some Jvm.ClassFile.FieldType.int)) ∈ TB := tb4 5 rfl rfl
theorem q4_6 : (Jvm.Cond.methodLink "NeedleHandsModel" (112 : Nat) ({ cls := "NeedleHandsModel", name := "mayBe", desc := "(I)Z" } : Jvm.MethodName)) ∈ TB := tb4 6 rfl rfl
theorem q4_8 : (Jvm.Cond.instanceMethod ({ cls := "NeedleHandsModel", name := "mayBe", desc := "(I)Z" } : Jvm.MethodName)) ∈ TB := tb4 8 rfl rfl
theorem q4_9 : (Jvm.Cond.code ({ cls := "NeedleHandsModel", name := "mayBe", desc := "(I)Z" } : Jvm.MethodName) prog_9_method_10_code (2 : Nat) (Option.some Jvm.ClassFile.FieldType.boolean)) ∈ TB := tb4 9 rfl rfl
theorem q4_10 : (Jvm.Cond.methodLink "NeedleHandsModel" (97 : Nat) ({ cls := "NeedleHandsModel", name := "due", desc := "(Z)I" } : Jvm.MethodName)) ∈ TB := tb4 10 rfl rfl
theorem q4_12 : (Jvm.Cond.instanceMethod ({ cls := "NeedleHandsModel", name := "due", desc := "(Z)I" } : Jvm.MethodName)) ∈ TB := tb4 12 rfl rfl
theorem q4_13 : (Jvm.Cond.code ({ cls := "NeedleHandsModel", name := "due", desc := "(Z)I" } : Jvm.MethodName) prog_9_method_8_code (3 : Nat) (Option.some Jvm.ClassFile.FieldType.int)) ∈ TB := tb4 13 rfl rfl
theorem q4_14 : (Jvm.Cond.methodLink "NeedleHandsModel" (116 : Nat) ({ cls := "NeedleHandsModel", name := "readRow", desc := "(I)V" } : Jvm.MethodName)) ∈ TB := tb4 14 rfl rfl
theorem q4_16 : (Jvm.Cond.instanceMethod ({ cls := "NeedleHandsModel", name := "readRow", desc := "(I)V" } : Jvm.MethodName)) ∈ TB := tb4 16 rfl rfl
theorem q4_17 : (Jvm.Cond.code ({ cls := "NeedleHandsModel", name := "readRow", desc := "(I)V" } : Jvm.MethodName) prog_9_method_11_code (5 : Nat) (Option.none : Option Jvm.ClassFile.FieldType)) ∈ TB := tb4 17 rfl rfl
theorem q4_18 : (Jvm.Cond.methodLink "NeedleHandsModel" (105 : Nat) ({ cls := "NeedleHandsModel", name := "number", desc := "(II)I" } : Jvm.MethodName)) ∈ TB := tb4 18 rfl rfl
theorem q4_20 : (Jvm.Cond.instanceMethod ({ cls := "NeedleHandsModel", name := "number", desc := "(II)I" } : Jvm.MethodName)) ∈ TB := tb4 20 rfl rfl
theorem q4_21 : (Jvm.Cond.code ({ cls := "NeedleHandsModel", name := "number", desc := "(II)I" } : Jvm.MethodName) prog_9_method_9_code (3 : Nat) (Option.some Jvm.ClassFile.FieldType.int)) ∈ TB := tb4 21 rfl rfl
theorem q4_22 : (Jvm.Cond.methodLink "NeedleHandsLaw" (31 : Nat) ({ cls := "NeedleHandsModel", name := "step", desc := "(II)I" } : Jvm.MethodName)) ∈ TB := tb4 22 rfl rfl
theorem q4_23 : (Jvm.Cond.instanceMethod ({ cls := "NeedleHandsModel", name := "step", desc := "(II)I" } : Jvm.MethodName)) ∈ TB := tb4 23 rfl rfl
theorem q4_24 : (Jvm.Cond.selects "NeedleHandsModel" ({ cls := "NeedleHandsModel", name := "step", desc := "(II)I" } : Jvm.MethodName) ({ cls := "NeedleHandsModel", name := "step", desc := "(II)I" } : Jvm.MethodName)) ∈ TB := tb4 24 rfl rfl
theorem q4_25 : (Jvm.Cond.code ({ cls := "NeedleHandsModel", name := "step", desc := "(II)I" } : Jvm.MethodName) prog_9_method_18_code (3 : Nat) (Option.some Jvm.ClassFile.FieldType.int)) ∈ TB := tb4 25 rfl rfl
theorem q4_26 : (Jvm.Cond.methodLink "NeedleHandsModel" (120 : Nat) ({ cls := "NeedleHandsModel", name := "isStep", desc := "(I)Z" } : Jvm.MethodName)) ∈ TB := tb4 26 rfl rfl
theorem q4_28 : (Jvm.Cond.instanceMethod ({ cls := "NeedleHandsModel", name := "isStep", desc := "(I)Z" } : Jvm.MethodName)) ∈ TB := tb4 28 rfl rfl
theorem q4_29 : (Jvm.Cond.code ({ cls := "NeedleHandsModel", name := "isStep", desc := "(I)Z" } : Jvm.MethodName) prog_9_method_15_code (2 : Nat) (Option.some Jvm.ClassFile.FieldType.boolean)) ∈ TB := tb4 29 rfl rfl
theorem q4_30 : (Jvm.Cond.methodLink "NeedleHandsModel" (123 : Nat) ({ cls := "NeedleHandsModel", name := "placeOf", desc := "(I)I" } : Jvm.MethodName)) ∈ TB := tb4 30 rfl rfl
theorem q4_32 : (Jvm.Cond.instanceMethod ({ cls := "NeedleHandsModel", name := "placeOf", desc := "(I)I" } : Jvm.MethodName)) ∈ TB := tb4 32 rfl rfl
theorem q4_33 : (Jvm.Cond.code ({ cls := "NeedleHandsModel", name := "placeOf", desc := "(I)I" } : Jvm.MethodName) prog_9_method_17_code (3 : Nat) (Option.some Jvm.ClassFile.FieldType.int)) ∈ TB := tb4 33 rfl rfl
theorem q4_34 : (Jvm.Cond.methodLink "NeedleHandsLaw" (35 : Nat) ({ cls := "NeedleHandsModel", name := "line", desc := "(I)I" } : Jvm.MethodName)) ∈ TB := tb4 34 rfl rfl
theorem q4_35 : (Jvm.Cond.instanceMethod ({ cls := "NeedleHandsModel", name := "line", desc := "(I)I" } : Jvm.MethodName)) ∈ TB := tb4 35 rfl rfl
theorem q4_36 : (Jvm.Cond.selects "NeedleHandsModel" ({ cls := "NeedleHandsModel", name := "line", desc := "(I)I" } : Jvm.MethodName) ({ cls := "NeedleHandsModel", name := "line", desc := "(I)I" } : Jvm.MethodName)) ∈ TB := tb4 36 rfl rfl
theorem q4_37 : (Jvm.Cond.code ({ cls := "NeedleHandsModel", name := "line", desc := "(I)I" } : Jvm.MethodName) prog_9_method_19_code (2 : Nat) (Option.some Jvm.ClassFile.FieldType.int)) ∈ TB := tb4 37 rfl rfl
theorem q4_38 : (Jvm.Cond.methodLink "NeedleHandsLaw" (39 : Nat) ({ cls := "NeedleHandsModel", name := "makes", desc := "(I)I" } : Jvm.MethodName)) ∈ TB := tb4 38 rfl rfl
theorem q4_39 : (Jvm.Cond.instanceMethod ({ cls := "NeedleHandsModel", name := "makes", desc := "(I)I" } : Jvm.MethodName)) ∈ TB := tb4 39 rfl rfl
theorem q4_40 : (Jvm.Cond.selects "NeedleHandsModel" ({ cls := "NeedleHandsModel", name := "makes", desc := "(I)I" } : Jvm.MethodName) ({ cls := "NeedleHandsModel", name := "makes", desc := "(I)I" } : Jvm.MethodName)) ∈ TB := tb4 40 rfl rfl
theorem q4_41 : (Jvm.Cond.code ({ cls := "NeedleHandsModel", name := "makes", desc := "(I)I" } : Jvm.MethodName) prog_9_method_24_code (3 : Nat) (Option.some Jvm.ClassFile.FieldType.int)) ∈ TB := tb4 41 rfl rfl
theorem q4_42 : (Jvm.Cond.methodLink "NeedleHandsModel" (142 : Nat) ({ cls := "NeedleHandsModel", name := "isSeed", desc := "(I)Z" } : Jvm.MethodName)) ∈ TB := tb4 42 rfl rfl
theorem q4_43 : (Jvm.Cond.static ({ cls := "NeedleHandsModel", name := "isSeed", desc := "(I)Z" } : Jvm.MethodName)) ∈ TB := tb4 43 rfl rfl
theorem q4_44 : (Jvm.Cond.code ({ cls := "NeedleHandsModel", name := "isSeed", desc := "(I)Z" } : Jvm.MethodName) prog_9_method_23_code (1 : Nat) (Option.some Jvm.ClassFile.FieldType.boolean)) ∈ TB := tb4 44 rfl rfl
theorem q4_45 : (Jvm.Cond.methodLink "NeedleHandsModel" (145 : Nat) ({ cls := "NeedleHandsModel", name := "know", desc := "()V" } : Jvm.MethodName)) ∈ TB := tb4 45 rfl rfl
theorem q4_47 : (Jvm.Cond.instanceMethod ({ cls := "NeedleHandsModel", name := "know", desc := "()V" } : Jvm.MethodName)) ∈ TB := tb4 47 rfl rfl
theorem q4_48 : (Jvm.Cond.code ({ cls := "NeedleHandsModel", name := "know", desc := "()V" } : Jvm.MethodName) prog_9_method_20_code (2 : Nat) (Option.none : Option Jvm.ClassFile.FieldType)) ∈ TB := tb4 48 rfl rfl
theorem q4_49 : (Jvm.Cond.methodLink "NeedleHandsModel" (148 : Nat) ({ cls := "NeedleHandsModel", name := "go", desc := "(II)I" } : Jvm.MethodName)) ∈ TB := tb4 49 rfl rfl
theorem q4_51 : (Jvm.Cond.instanceMethod ({ cls := "NeedleHandsModel", name := "go", desc := "(II)I" } : Jvm.MethodName)) ∈ TB := tb4 51 rfl rfl
theorem q4_52 : (Jvm.Cond.code ({ cls := "NeedleHandsModel", name := "go", desc := "(II)I" } : Jvm.MethodName) prog_9_method_22_code (6 : Nat) (Option.some Jvm.ClassFile.FieldType.int)) ∈ TB := tb4 52 rfl rfl
theorem q4_53 : (Jvm.Cond.methodLink "NeedleHandsModel" (139 : Nat) ({ cls := "NeedleHandsModel", name := "drawOf", desc := "(II)I" } : Jvm.MethodName)) ∈ TB := tb4 53 rfl rfl
theorem q4_54 : (Jvm.Cond.static ({ cls := "NeedleHandsModel", name := "drawOf", desc := "(II)I" } : Jvm.MethodName)) ∈ TB := tb4 54 rfl rfl
theorem q4_55 : (Jvm.Cond.code ({ cls := "NeedleHandsModel", name := "drawOf", desc := "(II)I" } : Jvm.MethodName) prog_9_method_21_code (4 : Nat) (Option.some Jvm.ClassFile.FieldType.int)) ∈ TB := tb4 55 rfl rfl
theorem q4_56 : (Jvm.Cond.constantLong "NeedleHandsModel" (127 : Nat) (7919 : Int64)) ∈ TB := tb4 56 rfl rfl
theorem q4_57 : (Jvm.Cond.constantLong "NeedleHandsModel" (129 : Nat) (6151 : Int64)) ∈ TB := tb4 57 rfl rfl
theorem q4_58 : (Jvm.Cond.constantLong "NeedleHandsModel" (131 : Nat) (65521 : Int64)) ∈ TB := tb4 58 rfl rfl
theorem q4_59 : (Jvm.Cond.constant "NeedleHandsModel" (151 : Nat) (9999999 : Int32)) ∈ TB := tb4 59 rfl rfl
theorem q4_60 : (Jvm.Cond.methodLink "NeedleHandsLaw" (43 : Nat) ({ cls := "NeedleHandsModel", name := "looks", desc := "(II)I" } : Jvm.MethodName)) ∈ TB := tb4 60 rfl rfl
theorem q4_61 : (Jvm.Cond.instanceMethod ({ cls := "NeedleHandsModel", name := "looks", desc := "(II)I" } : Jvm.MethodName)) ∈ TB := tb4 61 rfl rfl
theorem q4_62 : (Jvm.Cond.selects "NeedleHandsModel" ({ cls := "NeedleHandsModel", name := "looks", desc := "(II)I" } : Jvm.MethodName) ({ cls := "NeedleHandsModel", name := "looks", desc := "(II)I" } : Jvm.MethodName)) ∈ TB := tb4 62 rfl rfl
theorem q4_63 : (Jvm.Cond.code ({ cls := "NeedleHandsModel", name := "looks", desc := "(II)I" } : Jvm.MethodName) prog_9_method_25_code (3 : Nat) (Option.some Jvm.ClassFile.FieldType.int)) ∈ TB := tb4 63 rfl rfl
theorem q4_64 : (Jvm.Cond.methodLink "NeedleHandsModel" (152 : Nat) ({ cls := "NeedleHandsModel", name := "manyOf", desc := "(I)I" } : Jvm.MethodName)) ∈ TB := tb4 64 rfl rfl
theorem q4_65 : (Jvm.Cond.static ({ cls := "NeedleHandsModel", name := "manyOf", desc := "(I)I" } : Jvm.MethodName)) ∈ TB := tb4 65 rfl rfl
theorem q4_66 : (Jvm.Cond.code ({ cls := "NeedleHandsModel", name := "manyOf", desc := "(I)I" } : Jvm.MethodName) prog_9_method_16_code (3 : Nat) (Option.some Jvm.ClassFile.FieldType.int)) ∈ TB := tb4 66 rfl rfl
theorem q4_67 : (Jvm.Cond.methodLink "NeedleHandsLaw" (47 : Nat) ({ cls := "NeedleHandsModel", name := "skill", desc := "(II)I" } : Jvm.MethodName)) ∈ TB := tb4 67 rfl rfl
theorem q4_68 : (Jvm.Cond.instanceMethod ({ cls := "NeedleHandsModel", name := "skill", desc := "(II)I" } : Jvm.MethodName)) ∈ TB := tb4 68 rfl rfl
theorem q4_69 : (Jvm.Cond.selects "NeedleHandsModel" ({ cls := "NeedleHandsModel", name := "skill", desc := "(II)I" } : Jvm.MethodName) ({ cls := "NeedleHandsModel", name := "skill", desc := "(II)I" } : Jvm.MethodName)) ∈ TB := tb4 69 rfl rfl
theorem q4_70 : (Jvm.Cond.code ({ cls := "NeedleHandsModel", name := "skill", desc := "(II)I" } : Jvm.MethodName) prog_9_method_26_code (4 : Nat) (Option.some Jvm.ClassFile.FieldType.int)) ∈ TB := tb4 70 rfl rfl
theorem q4_71 : (Jvm.Cond.methodLink "NeedleHandsLaw" (51 : Nat) ({ cls := "NeedleHandsModel", name := "moves", desc := "(I)I" } : Jvm.MethodName)) ∈ TB := tb4 71 rfl rfl
theorem q4_72 : (Jvm.Cond.instanceMethod ({ cls := "NeedleHandsModel", name := "moves", desc := "(I)I" } : Jvm.MethodName)) ∈ TB := tb4 72 rfl rfl
theorem q4_73 : (Jvm.Cond.selects "NeedleHandsModel" ({ cls := "NeedleHandsModel", name := "moves", desc := "(I)I" } : Jvm.MethodName) ({ cls := "NeedleHandsModel", name := "moves", desc := "(I)I" } : Jvm.MethodName)) ∈ TB := tb4 73 rfl rfl
theorem q4_74 : (Jvm.Cond.code ({ cls := "NeedleHandsModel", name := "moves", desc := "(I)I" } : Jvm.MethodName) prog_9_method_27_code (4 : Nat) (Option.some Jvm.ClassFile.FieldType.int)) ∈ TB := tb4 74 rfl rfl
theorem q4_75 : (Jvm.Cond.methodLink "NeedleHandsLaw" (55 : Nat) ({ cls := "NeedleHandsModel", name := "undo", desc := "()I" } : Jvm.MethodName)) ∈ TB := tb4 75 rfl rfl
theorem q4_76 : (Jvm.Cond.instanceMethod ({ cls := "NeedleHandsModel", name := "undo", desc := "()I" } : Jvm.MethodName)) ∈ TB := tb4 76 rfl rfl
theorem q4_77 : (Jvm.Cond.selects "NeedleHandsModel" ({ cls := "NeedleHandsModel", name := "undo", desc := "()I" } : Jvm.MethodName) ({ cls := "NeedleHandsModel", name := "undo", desc := "()I" } : Jvm.MethodName)) ∈ TB := tb4 77 rfl rfl
theorem q4_78 : (Jvm.Cond.code ({ cls := "NeedleHandsModel", name := "undo", desc := "()I" } : Jvm.MethodName) prog_9_method_28_code (2 : Nat) (Option.some Jvm.ClassFile.FieldType.int)) ∈ TB := tb4 78 rfl rfl
theorem q4_79 : (Jvm.Cond.methodLink "NeedleHandsLaw" (59 : Nat) ({ cls := "NeedleHandsModel", name := "now", desc := "(I)I" } : Jvm.MethodName)) ∈ TB := tb4 79 rfl rfl
theorem q4_80 : (Jvm.Cond.instanceMethod ({ cls := "NeedleHandsModel", name := "now", desc := "(I)I" } : Jvm.MethodName)) ∈ TB := tb4 80 rfl rfl
theorem q4_81 : (Jvm.Cond.selects "NeedleHandsModel" ({ cls := "NeedleHandsModel", name := "now", desc := "(I)I" } : Jvm.MethodName) ({ cls := "NeedleHandsModel", name := "now", desc := "(I)I" } : Jvm.MethodName)) ∈ TB := tb4 81 rfl rfl
theorem q4_82 : (Jvm.Cond.code ({ cls := "NeedleHandsModel", name := "now", desc := "(I)I" } : Jvm.MethodName) prog_9_method_29_code (4 : Nat) (Option.some Jvm.ClassFile.FieldType.int)) ∈ TB := tb4 82 rfl rfl
theorem q4_83 : (Jvm.Cond.methodLink "NeedleHandsLaw" (64 : Nat) ({ cls := "NeedleHandsModel", name := "mean", desc := "(II)J" } : Jvm.MethodName)) ∈ TB := tb4 83 rfl rfl
theorem q4_84 : (Jvm.Cond.instanceMethod ({ cls := "NeedleHandsModel", name := "mean", desc := "(II)J" } : Jvm.MethodName)) ∈ TB := tb4 84 rfl rfl
theorem q4_85 : (Jvm.Cond.selects "NeedleHandsModel" ({ cls := "NeedleHandsModel", name := "mean", desc := "(II)J" } : Jvm.MethodName) ({ cls := "NeedleHandsModel", name := "mean", desc := "(II)J" } : Jvm.MethodName)) ∈ TB := tb4 85 rfl rfl
theorem q4_86 : (Jvm.Cond.code ({ cls := "NeedleHandsModel", name := "mean", desc := "(II)J" } : Jvm.MethodName) prog_9_method_37_code (3 : Nat) (Option.some Jvm.ClassFile.FieldType.long)) ∈ TB := tb4 86 rfl rfl
theorem q4_87 : (Jvm.Cond.constantLong "NeedleHandsModel" (183 : Nat) (-1 : Int64)) ∈ TB := tb4 87 rfl rfl
theorem q4_88 : (Jvm.Cond.methodLink "NeedleHandsModel" (185 : Nat) ({ cls := "NeedleHandsModel", name := "takeRow", desc := "()V" } : Jvm.MethodName)) ∈ TB := tb4 88 rfl rfl
theorem q4_90 : (Jvm.Cond.instanceMethod ({ cls := "NeedleHandsModel", name := "takeRow", desc := "()V" } : Jvm.MethodName)) ∈ TB := tb4 90 rfl rfl
theorem q4_91 : (Jvm.Cond.code ({ cls := "NeedleHandsModel", name := "takeRow", desc := "()V" } : Jvm.MethodName) prog_9_method_30_code (2 : Nat) (Option.none : Option Jvm.ClassFile.FieldType)) ∈ TB := tb4 91 rfl rfl
theorem q4_92 : (Jvm.Cond.methodLink "NeedleHandsModel" (188 : Nat) ({ cls := "NeedleHandsModel", name := "measure", desc := "(I)V" } : Jvm.MethodName)) ∈ TB := tb4 92 rfl rfl
theorem q4_94 : (Jvm.Cond.instanceMethod ({ cls := "NeedleHandsModel", name := "measure", desc := "(I)V" } : Jvm.MethodName)) ∈ TB := tb4 94 rfl rfl
theorem q4_95 : (Jvm.Cond.code ({ cls := "NeedleHandsModel", name := "measure", desc := "(I)V" } : Jvm.MethodName) prog_9_method_35_code (3 : Nat) (Option.none : Option Jvm.ClassFile.FieldType)) ∈ TB := tb4 95 rfl rfl
theorem q4_96 : (Jvm.Cond.methodLink "NeedleHandsModel" (173 : Nat) ({ cls := "NeedleHandsModel", name := "begin", desc := "()V" } : Jvm.MethodName)) ∈ TB := tb4 96 rfl rfl
theorem q4_98 : (Jvm.Cond.instanceMethod ({ cls := "NeedleHandsModel", name := "begin", desc := "()V" } : Jvm.MethodName)) ∈ TB := tb4 98 rfl rfl
theorem q4_99 : (Jvm.Cond.code ({ cls := "NeedleHandsModel", name := "begin", desc := "()V" } : Jvm.MethodName) prog_9_method_32_code (2 : Nat) (Option.none : Option Jvm.ClassFile.FieldType)) ∈ TB := tb4 99 rfl rfl
theorem q4_100 : (Jvm.Cond.methodLink "NeedleHandsModel" (176 : Nat) ({ cls := "NeedleHandsModel", name := "work", desc := "(I)V" } : Jvm.MethodName)) ∈ TB := tb4 100 rfl rfl
theorem q4_102 : (Jvm.Cond.instanceMethod ({ cls := "NeedleHandsModel", name := "work", desc := "(I)V" } : Jvm.MethodName)) ∈ TB := tb4 102 rfl rfl
theorem q4_103 : (Jvm.Cond.code ({ cls := "NeedleHandsModel", name := "work", desc := "(I)V" } : Jvm.MethodName) prog_9_method_33_code (5 : Nat) (Option.none : Option Jvm.ClassFile.FieldType)) ∈ TB := tb4 103 rfl rfl
theorem q4_104 : (Jvm.Cond.methodLink "NeedleHandsModel" (170 : Nat) ({ cls := "NeedleHandsModel", name := "grow", desc := "()V" } : Jvm.MethodName)) ∈ TB := tb4 104 rfl rfl
theorem q4_106 : (Jvm.Cond.instanceMethod ({ cls := "NeedleHandsModel", name := "grow", desc := "()V" } : Jvm.MethodName)) ∈ TB := tb4 106 rfl rfl
theorem q4_107 : (Jvm.Cond.code ({ cls := "NeedleHandsModel", name := "grow", desc := "()V" } : Jvm.MethodName) prog_9_method_31_code (2 : Nat) (Option.none : Option Jvm.ClassFile.FieldType)) ∈ TB := tb4 107 rfl rfl
theorem q4_108 : (Jvm.Cond.constantLong "NeedleHandsModel" (159 : Nat) (10 : Int64)) ∈ TB := tb4 108 rfl rfl
theorem q4_109 : (Jvm.Cond.methodLink "NeedleHandsModel" (179 : Nat) ({ cls := "NeedleHandsModel", name := "lookAt", desc := "(IZ)V" } : Jvm.MethodName)) ∈ TB := tb4 109 rfl rfl
theorem q4_111 : (Jvm.Cond.instanceMethod ({ cls := "NeedleHandsModel", name := "lookAt", desc := "(IZ)V" } : Jvm.MethodName)) ∈ TB := tb4 111 rfl rfl
theorem q4_112 : (Jvm.Cond.code ({ cls := "NeedleHandsModel", name := "lookAt", desc := "(IZ)V" } : Jvm.MethodName) prog_9_method_34_code (5 : Nat) (Option.none : Option Jvm.ClassFile.FieldType)) ∈ TB := tb4 112 rfl rfl
theorem q4_113 : (Jvm.Cond.methodLink "NeedleHandsModel" (191 : Nat) ({ cls := "NeedleHandsModel", name := "part", desc := "(JJI)J" } : Jvm.MethodName)) ∈ TB := tb4 113 rfl rfl
theorem q4_114 : (Jvm.Cond.static ({ cls := "NeedleHandsModel", name := "part", desc := "(JJI)J" } : Jvm.MethodName)) ∈ TB := tb4 114 rfl rfl
theorem q4_115 : (Jvm.Cond.code ({ cls := "NeedleHandsModel", name := "part", desc := "(JJI)J" } : Jvm.MethodName) prog_9_method_36_code (11 : Nat) (Option.some Jvm.ClassFile.FieldType.long)) ∈ TB := tb4 115 rfl rfl
theorem q4_116 : (Jvm.Cond.constantLong "NeedleHandsModel" (195 : Nat) (-9 : Int64)) ∈ TB := tb4 116 rfl rfl
theorem q4_117 : (Jvm.Cond.methodLink "NeedleHandsLaw" (68 : Nat) ({ cls := "NeedleHandsModel", name := "lost", desc := "(II)J" } : Jvm.MethodName)) ∈ TB := tb4 117 rfl rfl
theorem q4_118 : (Jvm.Cond.instanceMethod ({ cls := "NeedleHandsModel", name := "lost", desc := "(II)J" } : Jvm.MethodName)) ∈ TB := tb4 118 rfl rfl
theorem q4_119 : (Jvm.Cond.selects "NeedleHandsModel" ({ cls := "NeedleHandsModel", name := "lost", desc := "(II)J" } : Jvm.MethodName) ({ cls := "NeedleHandsModel", name := "lost", desc := "(II)J" } : Jvm.MethodName)) ∈ TB := tb4 119 rfl rfl
theorem q4_120 : (Jvm.Cond.code ({ cls := "NeedleHandsModel", name := "lost", desc := "(II)J" } : Jvm.MethodName) prog_9_method_38_code (3 : Nat) (Option.some Jvm.ClassFile.FieldType.long)) ∈ TB := tb4 120 rfl rfl
theorem q4_121 : (Jvm.Cond.methodLink "NeedleHandsLaw" (72 : Nat) ({ cls := "NeedleHandsModel", name := "paper", desc := "(II)J" } : Jvm.MethodName)) ∈ TB := tb4 121 rfl rfl
theorem q4_122 : (Jvm.Cond.instanceMethod ({ cls := "NeedleHandsModel", name := "paper", desc := "(II)J" } : Jvm.MethodName)) ∈ TB := tb4 122 rfl rfl
theorem q4_123 : (Jvm.Cond.selects "NeedleHandsModel" ({ cls := "NeedleHandsModel", name := "paper", desc := "(II)J" } : Jvm.MethodName) ({ cls := "NeedleHandsModel", name := "paper", desc := "(II)J" } : Jvm.MethodName)) ∈ TB := tb4 123 rfl rfl
theorem q4_124 : (Jvm.Cond.code ({ cls := "NeedleHandsModel", name := "paper", desc := "(II)J" } : Jvm.MethodName) prog_9_method_39_code (3 : Nat) (Option.some Jvm.ClassFile.FieldType.long)) ∈ TB := tb4 124 rfl rfl
theorem q4_125 : (Jvm.Cond.methodLink "NeedleHandsLaw" (76 : Nat) ({ cls := "NeedleHandsModel", name := "bestLooks", desc := "()I" } : Jvm.MethodName)) ∈ TB := tb4 125 rfl rfl
theorem q4_126 : (Jvm.Cond.instanceMethod ({ cls := "NeedleHandsModel", name := "bestLooks", desc := "()I" } : Jvm.MethodName)) ∈ TB := tb4 126 rfl rfl
theorem q4_127 : (Jvm.Cond.selects "NeedleHandsModel" ({ cls := "NeedleHandsModel", name := "bestLooks", desc := "()I" } : Jvm.MethodName) ({ cls := "NeedleHandsModel", name := "bestLooks", desc := "()I" } : Jvm.MethodName)) ∈ TB := tb4 127 rfl rfl
theorem q4_128 : (Jvm.Cond.code ({ cls := "NeedleHandsModel", name := "bestLooks", desc := "()I" } : Jvm.MethodName) prog_9_method_40_code (5 : Nat) (Option.some Jvm.ClassFile.FieldType.int)) ∈ TB := tb4 128 rfl rfl
theorem q4_129 : (Jvm.Cond.methodLink "NeedleHandsLaw" (80 : Nat) ({ cls := "NeedleHandsModel", name := "bestOrder", desc := "(I)I" } : Jvm.MethodName)) ∈ TB := tb4 129 rfl rfl
theorem q4_130 : (Jvm.Cond.instanceMethod ({ cls := "NeedleHandsModel", name := "bestOrder", desc := "(I)I" } : Jvm.MethodName)) ∈ TB := tb4 130 rfl rfl
theorem q4_131 : (Jvm.Cond.selects "NeedleHandsModel" ({ cls := "NeedleHandsModel", name := "bestOrder", desc := "(I)I" } : Jvm.MethodName) ({ cls := "NeedleHandsModel", name := "bestOrder", desc := "(I)I" } : Jvm.MethodName)) ∈ TB := tb4 131 rfl rfl
theorem q4_132 : (Jvm.Cond.code ({ cls := "NeedleHandsModel", name := "bestOrder", desc := "(I)I" } : Jvm.MethodName) prog_9_method_43_code (6 : Nat) (Option.some Jvm.ClassFile.FieldType.int)) ∈ TB := tb4 132 rfl rfl
theorem q4_133 : (Jvm.Cond.methodLink "NeedleHandsModel" (197 : Nat) ({ cls := "NeedleHandsModel", name := "isLawful", desc := "()Z" } : Jvm.MethodName)) ∈ TB := tb4 133 rfl rfl
theorem q4_135 : (Jvm.Cond.instanceMethod ({ cls := "NeedleHandsModel", name := "isLawful", desc := "()Z" } : Jvm.MethodName)) ∈ TB := tb4 135 rfl rfl
theorem q4_136 : (Jvm.Cond.code ({ cls := "NeedleHandsModel", name := "isLawful", desc := "()Z" } : Jvm.MethodName) prog_9_method_42_code (4 : Nat) (Option.some Jvm.ClassFile.FieldType.boolean)) ∈ TB := tb4 136 rfl rfl
theorem q4_137 : (Jvm.Cond.methodLink "NeedleHandsModel" (201 : Nat) ({ cls := "NeedleHandsModel", name := "nextRow", desc := "()Z" } : Jvm.MethodName)) ∈ TB := tb4 137 rfl rfl
theorem q4_139 : (Jvm.Cond.instanceMethod ({ cls := "NeedleHandsModel", name := "nextRow", desc := "()Z" } : Jvm.MethodName)) ∈ TB := tb4 139 rfl rfl
theorem q4_140 : (Jvm.Cond.code ({ cls := "NeedleHandsModel", name := "nextRow", desc := "()Z" } : Jvm.MethodName) prog_9_method_41_code (6 : Nat) (Option.some Jvm.ClassFile.FieldType.boolean)) ∈ TB := tb4 140 rfl rfl
theorem q4_141 : (Jvm.Cond.methodLink "NeedleHandsLaw" (84 : Nat) ({ cls := "NeedleHandsModel", name := "few", desc := "(I)I" } : Jvm.MethodName)) ∈ TB := tb4 141 rfl rfl
theorem q4_142 : (Jvm.Cond.instanceMethod ({ cls := "NeedleHandsModel", name := "few", desc := "(I)I" } : Jvm.MethodName)) ∈ TB := tb4 142 rfl rfl
theorem q4_143 : (Jvm.Cond.selects "NeedleHandsModel" ({ cls := "NeedleHandsModel", name := "few", desc := "(I)I" } : Jvm.MethodName) ({ cls := "NeedleHandsModel", name := "few", desc := "(I)I" } : Jvm.MethodName)) ∈ TB := tb4 143 rfl rfl
theorem q4_144 : (Jvm.Cond.code ({ cls := "NeedleHandsModel", name := "few", desc := "(I)I" } : Jvm.MethodName) prog_9_method_44_code (4 : Nat) (Option.some Jvm.ClassFile.FieldType.int)) ∈ TB := tb4 144 rfl rfl
theorem q4_145 : (Jvm.Cond.constantLong "NeedleHandsModel" (204 : Nat) (250 : Int64)) ∈ TB := tb4 145 rfl rfl
theorem q4_146 : (Jvm.Cond.methodLink "NeedleHandsLaw" (89 : Nat) ({ cls := "NeedleHandsModel", name := "blame", desc := "(III)J" } : Jvm.MethodName)) ∈ TB := tb4 146 rfl rfl
theorem q4_147 : (Jvm.Cond.instanceMethod ({ cls := "NeedleHandsModel", name := "blame", desc := "(III)J" } : Jvm.MethodName)) ∈ TB := tb4 147 rfl rfl
theorem q4_148 : (Jvm.Cond.selects "NeedleHandsModel" ({ cls := "NeedleHandsModel", name := "blame", desc := "(III)J" } : Jvm.MethodName) ({ cls := "NeedleHandsModel", name := "blame", desc := "(III)J" } : Jvm.MethodName)) ∈ TB := tb4 148 rfl rfl
theorem q4_149 : (Jvm.Cond.code ({ cls := "NeedleHandsModel", name := "blame", desc := "(III)J" } : Jvm.MethodName) prog_9_method_47_code (4 : Nat) (Option.some Jvm.ClassFile.FieldType.long)) ∈ TB := tb4 149 rfl rfl
theorem q4_150 : (Jvm.Cond.methodLink "NeedleHandsModel" (206 : Nat) ({ cls := "NeedleHandsModel", name := "blameFor", desc := "(I)V" } : Jvm.MethodName)) ∈ TB := tb4 150 rfl rfl
theorem q4_152 : (Jvm.Cond.instanceMethod ({ cls := "NeedleHandsModel", name := "blameFor", desc := "(I)V" } : Jvm.MethodName)) ∈ TB := tb4 152 rfl rfl
theorem q4_153 : (Jvm.Cond.code ({ cls := "NeedleHandsModel", name := "blameFor", desc := "(I)V" } : Jvm.MethodName) prog_9_method_45_code (3 : Nat) (Option.none : Option Jvm.ClassFile.FieldType)) ∈ TB := tb4 153 rfl rfl
theorem q4_154 : (Jvm.Cond.methodLink "NeedleHandsModel" (209 : Nat) ({ cls := "NeedleHandsModel", name := "isTold", desc := "(I)Z" } : Jvm.MethodName)) ∈ TB := tb4 154 rfl rfl
theorem q4_156 : (Jvm.Cond.instanceMethod ({ cls := "NeedleHandsModel", name := "isTold", desc := "(I)Z" } : Jvm.MethodName)) ∈ TB := tb4 156 rfl rfl
theorem q4_157 : (Jvm.Cond.code ({ cls := "NeedleHandsModel", name := "isTold", desc := "(I)Z" } : Jvm.MethodName) prog_9_method_46_code (2 : Nat) (Option.some Jvm.ClassFile.FieldType.boolean)) ∈ TB := tb4 157 rfl rfl
theorem q4_158 : (Jvm.Cond.methodLink "NeedleHandsLaw" (93 : Nat) ({ cls := "NeedleHandsModel", name := "first", desc := "(I)I" } : Jvm.MethodName)) ∈ TB := tb4 158 rfl rfl
theorem q4_159 : (Jvm.Cond.instanceMethod ({ cls := "NeedleHandsModel", name := "first", desc := "(I)I" } : Jvm.MethodName)) ∈ TB := tb4 159 rfl rfl
theorem q4_160 : (Jvm.Cond.selects "NeedleHandsModel" ({ cls := "NeedleHandsModel", name := "first", desc := "(I)I" } : Jvm.MethodName) ({ cls := "NeedleHandsModel", name := "first", desc := "(I)I" } : Jvm.MethodName)) ∈ TB := tb4 160 rfl rfl
theorem q4_161 : (Jvm.Cond.code ({ cls := "NeedleHandsModel", name := "first", desc := "(I)I" } : Jvm.MethodName) prog_9_method_48_code (4 : Nat) (Option.some Jvm.ClassFile.FieldType.int)) ∈ TB := tb4 161 rfl rfl
theorem q4_162 : (Jvm.Cond.methodLink "NeedleHandsLaw" (97 : Nat) ({ cls := "NeedleHandsModel", name := "tells", desc := "(II)I" } : Jvm.MethodName)) ∈ TB := tb4 162 rfl rfl
theorem q4_163 : (Jvm.Cond.instanceMethod ({ cls := "NeedleHandsModel", name := "tells", desc := "(II)I" } : Jvm.MethodName)) ∈ TB := tb4 163 rfl rfl
theorem q4_164 : (Jvm.Cond.selects "NeedleHandsModel" ({ cls := "NeedleHandsModel", name := "tells", desc := "(II)I" } : Jvm.MethodName) ({ cls := "NeedleHandsModel", name := "tells", desc := "(II)I" } : Jvm.MethodName)) ∈ TB := tb4 164 rfl rfl
theorem q4_165 : (Jvm.Cond.code ({ cls := "NeedleHandsModel", name := "tells", desc := "(II)I" } : Jvm.MethodName) prog_9_method_49_code (3 : Nat) (Option.some Jvm.ClassFile.FieldType.int)) ∈ TB := tb4 165 rfl rfl
theorem q4_166 : (Jvm.Cond.methodLink "NeedleHandsLaw" (101 : Nat) ({ cls := "NeedleHandsModel", name := "forget", desc := "()I" } : Jvm.MethodName)) ∈ TB := tb4 166 rfl rfl
theorem q4_167 : (Jvm.Cond.instanceMethod ({ cls := "NeedleHandsModel", name := "forget", desc := "()I" } : Jvm.MethodName)) ∈ TB := tb4 167 rfl rfl
theorem q4_168 : (Jvm.Cond.selects "NeedleHandsModel" ({ cls := "NeedleHandsModel", name := "forget", desc := "()I" } : Jvm.MethodName) ({ cls := "NeedleHandsModel", name := "forget", desc := "()I" } : Jvm.MethodName)) ∈ TB := tb4 168 rfl rfl
theorem q4_169 : (Jvm.Cond.code ({ cls := "NeedleHandsModel", name := "forget", desc := "()I" } : Jvm.MethodName) prog_9_method_50_code (2 : Nat) (Option.some Jvm.ClassFile.FieldType.int)) ∈ TB := tb4 169 rfl rfl
theorem q4_170 : (Jvm.Cond.methodLink "NeedleHandsLaw" (105 : Nat) ({ cls := "NeedleHandsModel", name := "who", desc := "(I)I" } : Jvm.MethodName)) ∈ TB := tb4 170 rfl rfl
theorem q4_171 : (Jvm.Cond.instanceMethod ({ cls := "NeedleHandsModel", name := "who", desc := "(I)I" } : Jvm.MethodName)) ∈ TB := tb4 171 rfl rfl
theorem q4_172 : (Jvm.Cond.selects "NeedleHandsModel" ({ cls := "NeedleHandsModel", name := "who", desc := "(I)I" } : Jvm.MethodName) ({ cls := "NeedleHandsModel", name := "who", desc := "(I)I" } : Jvm.MethodName)) ∈ TB := tb4 172 rfl rfl
theorem q4_173 : (Jvm.Cond.code ({ cls := "NeedleHandsModel", name := "who", desc := "(I)I" } : Jvm.MethodName) prog_9_method_51_code (8 : Nat) (Option.some Jvm.ClassFile.FieldType.int)) ∈ TB := tb4 173 rfl rfl
theorem q4_174 : (Jvm.Cond.methodLink "NeedleHandsLaw" (109 : Nat) ({ cls := "NeedleHandsModel", name := "mark", desc := "(II)I" } : Jvm.MethodName)) ∈ TB := tb4 174 rfl rfl
theorem q4_175 : (Jvm.Cond.instanceMethod ({ cls := "NeedleHandsModel", name := "mark", desc := "(II)I" } : Jvm.MethodName)) ∈ TB := tb4 175 rfl rfl
theorem q4_176 : (Jvm.Cond.selects "NeedleHandsModel" ({ cls := "NeedleHandsModel", name := "mark", desc := "(II)I" } : Jvm.MethodName) ({ cls := "NeedleHandsModel", name := "mark", desc := "(II)I" } : Jvm.MethodName)) ∈ TB := tb4 176 rfl rfl
theorem q4_177 : (Jvm.Cond.code ({ cls := "NeedleHandsModel", name := "mark", desc := "(II)I" } : Jvm.MethodName) prog_9_method_52_code (5 : Nat) (Option.some Jvm.ClassFile.FieldType.int)) ∈ TB := tb4 177 rfl rfl
theorem q4_178 : (Jvm.Cond.constant "NeedleHandsModel" (212 : Nat) (-1000000 : Int32)) ∈ TB := tb4 178 rfl rfl
theorem q4_179 : (Jvm.Cond.constantLong "NeedleHandsModel" (216 : Nat) (11 : Int64)) ∈ TB := tb4 179 rfl rfl
theorem q4_180 : (Jvm.Cond.constantLong "NeedleHandsModel" (218 : Nat) (101 : Int64)) ∈ TB := tb4 180 rfl rfl
theorem q4_181 : (Jvm.Cond.constantLong "NeedleHandsModel" (220 : Nat) (1011 : Int64)) ∈ TB := tb4 181 rfl rfl
theorem q4_182 : (Jvm.Cond.constantLong "NeedleHandsModel" (222 : Nat) (10101 : Int64)) ∈ TB := tb4 182 rfl rfl
theorem q4_183 : (Jvm.Cond.constantLong "NeedleHandsModel" (224 : Nat) (100001 : Int64)) ∈ TB := tb4 183 rfl rfl
theorem q4_184 : (Jvm.Cond.methodLink "NeedleHandsLaw" (113 : Nat) ({ cls := "NeedleHandsModel", name := "keep", desc := "(I)I" } : Jvm.MethodName)) ∈ TB := tb4 184 rfl rfl
theorem q4_185 : (Jvm.Cond.instanceMethod ({ cls := "NeedleHandsModel", name := "keep", desc := "(I)I" } : Jvm.MethodName)) ∈ TB := tb4 185 rfl rfl
theorem q4_186 : (Jvm.Cond.selects "NeedleHandsModel" ({ cls := "NeedleHandsModel", name := "keep", desc := "(I)I" } : Jvm.MethodName) ({ cls := "NeedleHandsModel", name := "keep", desc := "(I)I" } : Jvm.MethodName)) ∈ TB := tb4 186 rfl rfl
theorem q4_187 : (Jvm.Cond.code ({ cls := "NeedleHandsModel", name := "keep", desc := "(I)I" } : Jvm.MethodName) prog_9_method_53_code (3 : Nat) (Option.some Jvm.ClassFile.FieldType.int)) ∈ TB := tb4 187 rfl rfl
theorem q4_188 : (Jvm.Cond.methodLink "NeedleHandsLaw" (117 : Nat) ({ cls := "NeedleHandsModel", name := "back", desc := "(I)I" } : Jvm.MethodName)) ∈ TB := tb4 188 rfl rfl
theorem q4_189 : (Jvm.Cond.instanceMethod ({ cls := "NeedleHandsModel", name := "back", desc := "(I)I" } : Jvm.MethodName)) ∈ TB := tb4 189 rfl rfl
theorem q4_190 : (Jvm.Cond.selects "NeedleHandsModel" ({ cls := "NeedleHandsModel", name := "back", desc := "(I)I" } : Jvm.MethodName) ({ cls := "NeedleHandsModel", name := "back", desc := "(I)I" } : Jvm.MethodName)) ∈ TB := tb4 190 rfl rfl
theorem q4_191 : (Jvm.Cond.code ({ cls := "NeedleHandsModel", name := "back", desc := "(I)I" } : Jvm.MethodName) prog_9_method_54_code (3 : Nat) (Option.some Jvm.ClassFile.FieldType.int)) ∈ TB := tb4 191 rfl rfl
theorem q4_192 : (Jvm.Cond.methodLink "NeedleHandsLaw" (121 : Nat) ({ cls := "NeedleHandsModel", name := "count", desc := "(I)I" } : Jvm.MethodName)) ∈ TB := tb4 192 rfl rfl
theorem q4_193 : (Jvm.Cond.instanceMethod ({ cls := "NeedleHandsModel", name := "count", desc := "(I)I" } : Jvm.MethodName)) ∈ TB := tb4 193 rfl rfl
theorem q4_194 : (Jvm.Cond.selects "NeedleHandsModel" ({ cls := "NeedleHandsModel", name := "count", desc := "(I)I" } : Jvm.MethodName) ({ cls := "NeedleHandsModel", name := "count", desc := "(I)I" } : Jvm.MethodName)) ∈ TB := tb4 194 rfl rfl
theorem q4_195 : (Jvm.Cond.code ({ cls := "NeedleHandsModel", name := "count", desc := "(I)I" } : Jvm.MethodName) prog_9_method_55_code (2 : Nat) (Option.some Jvm.ClassFile.FieldType.int)) ∈ TB := tb4 195 rfl rfl
theorem q4_196 : (Jvm.Cond.methodLink "NeedleHandsLaw" (126 : Nat) ({ cls := "NeedleHandsModel", name := "trace", desc := "()J" } : Jvm.MethodName)) ∈ TB := tb4 196 rfl rfl
theorem q4_197 : (Jvm.Cond.instanceMethod ({ cls := "NeedleHandsModel", name := "trace", desc := "()J" } : Jvm.MethodName)) ∈ TB := tb4 197 rfl rfl
theorem q4_198 : (Jvm.Cond.selects "NeedleHandsModel" ({ cls := "NeedleHandsModel", name := "trace", desc := "()J" } : Jvm.MethodName) ({ cls := "NeedleHandsModel", name := "trace", desc := "()J" } : Jvm.MethodName)) ∈ TB := tb4 198 rfl rfl
theorem q4_199 : (Jvm.Cond.code ({ cls := "NeedleHandsModel", name := "trace", desc := "()J" } : Jvm.MethodName) prog_9_method_56_code (1 : Nat) (Option.some Jvm.ClassFile.FieldType.long)) ∈ TB := tb4 199 rfl rfl
theorem qs_0 : Cond.selects "NeedleHands$Text" ⟨"NeedleHands$Text", "readToken", "()V"⟩ ⟨"NeedleHands$Text", "readToken", "()V"⟩ ∈ TB := tbp (q := (⟨"NeedleHands$Text", "readToken", "()V"⟩, 7)) (List.mem_append_left _ (List.mem_of_getElem? (i := 0) rfl))
theorem qs_1 : Cond.selects "NeedleHands$Text" ⟨"NeedleHands$Text", "takeLetters", "()V"⟩ ⟨"NeedleHands$Text", "takeLetters", "()V"⟩ ∈ TB := tbp (q := (⟨"NeedleHands$Text", "takeLetters", "()V"⟩, 7)) (List.mem_append_left _ (List.mem_of_getElem? (i := 1) rfl))
theorem qs_2 : Cond.selects "NeedleHands$Text" ⟨"NeedleHands$Text", "takeNumber", "()V"⟩ ⟨"NeedleHands$Text", "takeNumber", "()V"⟩ ∈ TB := tbp (q := (⟨"NeedleHands$Text", "takeNumber", "()V"⟩, 7)) (List.mem_append_left _ (List.mem_of_getElem? (i := 2) rfl))
theorem qs_3 : Cond.selects "NeedleHands$Text" ⟨"NeedleHands$Text", "readStep", "(LNeedleHands$Plan;)Z"⟩ ⟨"NeedleHands$Text", "readStep", "(LNeedleHands$Plan;)Z"⟩ ∈ TB := tbp (q := (⟨"NeedleHands$Text", "readStep", "(LNeedleHands$Plan;)Z"⟩, 7)) (List.mem_append_left _ (List.mem_of_getElem? (i := 3) rfl))
theorem qs_4 : Cond.selects "NeedleHands$Text" ⟨"NeedleHands$Text", "readNumber", "(II)Z"⟩ ⟨"NeedleHands$Text", "readNumber", "(II)Z"⟩ ∈ TB := tbp (q := (⟨"NeedleHands$Text", "readNumber", "(II)Z"⟩, 7)) (List.mem_append_left _ (List.mem_of_getElem? (i := 4) rfl))
theorem qs_5 : Cond.selects "NeedleHands$Text" ⟨"NeedleHands$Text", "readAhead", "(LNeedleHands$Plan;)Z"⟩ ⟨"NeedleHands$Text", "readAhead", "(LNeedleHands$Plan;)Z"⟩ ∈ TB := tbp (q := (⟨"NeedleHands$Text", "readAhead", "(LNeedleHands$Plan;)Z"⟩, 7)) (List.mem_append_left _ (List.mem_of_getElem? (i := 5) rfl))
theorem qs_6 : Cond.selects "NeedleHands$Text" ⟨"NeedleHands$Text", "readPrice", "(LNeedleHands$Plan;)Z"⟩ ⟨"NeedleHands$Text", "readPrice", "(LNeedleHands$Plan;)Z"⟩ ∈ TB := tbp (q := (⟨"NeedleHands$Text", "readPrice", "(LNeedleHands$Plan;)Z"⟩, 7)) (List.mem_append_left _ (List.mem_of_getElem? (i := 6) rfl))
theorem qs_7 : Cond.selects "NeedleHands$Text" ⟨"NeedleHands$Text", "readEnd", "()Z"⟩ ⟨"NeedleHands$Text", "readEnd", "()Z"⟩ ∈ TB := tbp (q := (⟨"NeedleHands$Text", "readEnd", "()Z"⟩, 7)) (List.mem_append_left _ (List.mem_of_getElem? (i := 7) rfl))
theorem qs_8 : Cond.selects "NeedleHands" ⟨"NeedleHands", "isStep", "(I)Z"⟩ ⟨"NeedleHands", "isStep", "(I)Z"⟩ ∈ TB := tbp (q := (⟨"NeedleHands", "isStep", "(I)Z"⟩, 14)) (List.mem_append_left _ (List.mem_of_getElem? (i := 8) rfl))
theorem qs_9 : Cond.selects "NeedleHands" ⟨"NeedleHands", "flowNow", "()V"⟩ ⟨"NeedleHands", "flowNow", "()V"⟩ ∈ TB := tbp (q := (⟨"NeedleHands", "flowNow", "()V"⟩, 14)) (List.mem_append_left _ (List.mem_of_getElem? (i := 9) rfl))
theorem qs_10 : Cond.selects "NeedleHands$Flow" ⟨"NeedleHands$Flow", "begin", "()V"⟩ ⟨"NeedleHands$Flow", "begin", "()V"⟩ ∈ TB := tbp (q := (⟨"NeedleHands$Flow", "begin", "()V"⟩, 5)) (List.mem_append_left _ (List.mem_of_getElem? (i := 10) rfl))
theorem qs_11 : Cond.selects "NeedleHands$Flow" ⟨"NeedleHands$Flow", "work", "(III)V"⟩ ⟨"NeedleHands$Flow", "work", "(III)V"⟩ ∈ TB := tbp (q := (⟨"NeedleHands$Flow", "work", "(III)V"⟩, 5)) (List.mem_append_left _ (List.mem_of_getElem? (i := 11) rfl))
theorem qs_12 : Cond.selects "NeedleHands$Flow" ⟨"NeedleHands$Flow", "lookBehind", "(III)V"⟩ ⟨"NeedleHands$Flow", "lookBehind", "(III)V"⟩ ∈ TB := tbp (q := (⟨"NeedleHands$Flow", "lookBehind", "(III)V"⟩, 5)) (List.mem_append_left _ (List.mem_of_getElem? (i := 12) rfl))
theorem qs_13 : Cond.selects "NeedleHands" ⟨"NeedleHands", "findLeastOrder", "()V"⟩ ⟨"NeedleHands", "findLeastOrder", "()V"⟩ ∈ TB := tbp (q := (⟨"NeedleHands", "findLeastOrder", "()V"⟩, 14)) (List.mem_append_left _ (List.mem_of_getElem? (i := 13) rfl))
theorem qs_14 : Cond.selects "NeedleHands" ⟨"NeedleHands", "hasFewDuds", "(II)Z"⟩ ⟨"NeedleHands", "hasFewDuds", "(II)Z"⟩ ∈ TB := tbp (q := (⟨"NeedleHands", "hasFewDuds", "(II)Z"⟩, 14)) (List.mem_append_left _ (List.mem_of_getElem? (i := 14) rfl))
theorem qs_15 : Cond.selects "NeedleHands" ⟨"NeedleHands", "isFoundBehind", "(I)Z"⟩ ⟨"NeedleHands", "isFoundBehind", "(I)Z"⟩ ∈ TB := tbp (q := (⟨"NeedleHands", "isFoundBehind", "(I)Z"⟩, 14)) (List.mem_append_left _ (List.mem_of_getElem? (i := 15) rfl))
theorem qs_16 : Cond.selects "NeedleHands$Flow" ⟨"NeedleHands$Flow", "thinShares", "(II)V"⟩ ⟨"NeedleHands$Flow", "thinShares", "(II)V"⟩ ∈ TB := tbp (q := (⟨"NeedleHands$Flow", "thinShares", "(II)V"⟩, 5)) (List.mem_append_right _ (List.mem_append_left _ (List.mem_of_getElem? (i := 0) rfl)))
theorem qs_17 : Cond.selects "NeedleHands" ⟨"NeedleHands", "explainsTold", "(I)Z"⟩ ⟨"NeedleHands", "explainsTold", "(I)Z"⟩ ∈ TB := tbp (q := (⟨"NeedleHands", "explainsTold", "(I)Z"⟩, 14)) (List.mem_append_right _ (List.mem_append_left _ (List.mem_of_getElem? (i := 1) rfl)))
theorem qs_18 : Cond.selects "NeedleHands" ⟨"NeedleHands", "markStep", "(I)I"⟩ ⟨"NeedleHands", "markStep", "(I)I"⟩ ∈ TB := tbp (q := (⟨"NeedleHands", "markStep", "(I)I"⟩, 14)) (List.mem_append_right _ (List.mem_append_left _ (List.mem_of_getElem? (i := 2) rfl)))
theorem qs_19 : Cond.selects "NeedleHands" ⟨"NeedleHands", "markPoint", "(I)I"⟩ ⟨"NeedleHands", "markPoint", "(I)I"⟩ ∈ TB := tbp (q := (⟨"NeedleHands", "markPoint", "(I)I"⟩, 14)) (List.mem_append_right _ (List.mem_append_left _ (List.mem_of_getElem? (i := 3) rfl)))
theorem qs_20 : Cond.selects "NeedleHands" ⟨"NeedleHands", "markEye", "(I)I"⟩ ⟨"NeedleHands", "markEye", "(I)I"⟩ ∈ TB := tbp (q := (⟨"NeedleHands", "markEye", "(I)I"⟩, 14)) (List.mem_append_right _ (List.mem_append_left _ (List.mem_of_getElem? (i := 4) rfl)))
theorem qs_21 : Cond.selects "NeedleHands" ⟨"NeedleHands", "markTrue", "(I)I"⟩ ⟨"NeedleHands", "markTrue", "(I)I"⟩ ∈ TB := tbp (q := (⟨"NeedleHands", "markTrue", "(I)I"⟩, 14)) (List.mem_append_right _ (List.mem_append_left _ (List.mem_of_getElem? (i := 5) rfl)))
theorem qs_22 : Cond.selects "NeedleHands" ⟨"NeedleHands", "markBlue", "(I)I"⟩ ⟨"NeedleHands", "markBlue", "(I)I"⟩ ∈ TB := tbp (q := (⟨"NeedleHands", "markBlue", "(I)I"⟩, 14)) (List.mem_append_right _ (List.mem_append_left _ (List.mem_of_getElem? (i := 6) rfl)))
theorem qs_23 : Cond.selects "NeedleHands" ⟨"NeedleHands", "markSack", "(I)I"⟩ ⟨"NeedleHands", "markSack", "(I)I"⟩ ∈ TB := tbp (q := (⟨"NeedleHands", "markSack", "(I)I"⟩, 14)) (List.mem_append_right _ (List.mem_append_left _ (List.mem_of_getElem? (i := 7) rfl)))
theorem qs_24 : Cond.selects "NeedleHandsModel" ⟨"NeedleHandsModel", "plain", "()V"⟩ ⟨"NeedleHandsModel", "plain", "()V"⟩ ∈ TB := tbp (q := (⟨"NeedleHandsModel", "plain", "()V"⟩, 31)) (List.mem_append_right _ (List.mem_append_left _ (List.mem_of_getElem? (i := 8) rfl)))
theorem qs_25 : Cond.selects "NeedleHandsModel" ⟨"NeedleHandsModel", "takeDraft", "()V"⟩ ⟨"NeedleHandsModel", "takeDraft", "()V"⟩ ∈ TB := tbp (q := (⟨"NeedleHandsModel", "takeDraft", "()V"⟩, 31)) (List.mem_append_right _ (List.mem_append_left _ (List.mem_of_getElem? (i := 9) rfl)))
theorem qs_26 : Cond.selects "NeedleHandsModel" ⟨"NeedleHandsModel", "read", "()V"⟩ ⟨"NeedleHandsModel", "read", "()V"⟩ ∈ TB := tbp (q := (⟨"NeedleHandsModel", "read", "()V"⟩, 31)) (List.mem_append_right _ (List.mem_append_left _ (List.mem_of_getElem? (i := 10) rfl)))
theorem qs_27 : Cond.selects "NeedleHandsModel" ⟨"NeedleHandsModel", "here", "()I"⟩ ⟨"NeedleHandsModel", "here", "()I"⟩ ∈ TB := tbp (q := (⟨"NeedleHandsModel", "here", "()I"⟩, 31)) (List.mem_append_right _ (List.mem_append_left _ (List.mem_of_getElem? (i := 11) rfl)))
theorem qs_28 : Cond.selects "NeedleHandsModel" ⟨"NeedleHandsModel", "mayBe", "(I)Z"⟩ ⟨"NeedleHandsModel", "mayBe", "(I)Z"⟩ ∈ TB := tbp (q := (⟨"NeedleHandsModel", "mayBe", "(I)Z"⟩, 31)) (List.mem_append_right _ (List.mem_append_left _ (List.mem_of_getElem? (i := 12) rfl)))
theorem qs_29 : Cond.selects "NeedleHandsModel" ⟨"NeedleHandsModel", "due", "(Z)I"⟩ ⟨"NeedleHandsModel", "due", "(Z)I"⟩ ∈ TB := tbp (q := (⟨"NeedleHandsModel", "due", "(Z)I"⟩, 31)) (List.mem_append_right _ (List.mem_append_left _ (List.mem_of_getElem? (i := 13) rfl)))
theorem qs_30 : Cond.selects "NeedleHandsModel" ⟨"NeedleHandsModel", "readRow", "(I)V"⟩ ⟨"NeedleHandsModel", "readRow", "(I)V"⟩ ∈ TB := tbp (q := (⟨"NeedleHandsModel", "readRow", "(I)V"⟩, 31)) (List.mem_append_right _ (List.mem_append_left _ (List.mem_of_getElem? (i := 14) rfl)))
theorem qs_31 : Cond.selects "NeedleHandsModel" ⟨"NeedleHandsModel", "number", "(II)I"⟩ ⟨"NeedleHandsModel", "number", "(II)I"⟩ ∈ TB := tbp (q := (⟨"NeedleHandsModel", "number", "(II)I"⟩, 31)) (List.mem_append_right _ (List.mem_append_left _ (List.mem_of_getElem? (i := 15) rfl)))
theorem qs_32 : Cond.selects "NeedleHandsModel" ⟨"NeedleHandsModel", "isStep", "(I)Z"⟩ ⟨"NeedleHandsModel", "isStep", "(I)Z"⟩ ∈ TB := tbp (q := (⟨"NeedleHandsModel", "isStep", "(I)Z"⟩, 31)) (List.mem_append_right _ (List.mem_append_right _ (List.mem_of_getElem? (i := 0) rfl)))
theorem qs_33 : Cond.selects "NeedleHandsModel" ⟨"NeedleHandsModel", "placeOf", "(I)I"⟩ ⟨"NeedleHandsModel", "placeOf", "(I)I"⟩ ∈ TB := tbp (q := (⟨"NeedleHandsModel", "placeOf", "(I)I"⟩, 31)) (List.mem_append_right _ (List.mem_append_right _ (List.mem_of_getElem? (i := 1) rfl)))
theorem qs_34 : Cond.selects "NeedleHandsModel" ⟨"NeedleHandsModel", "know", "()V"⟩ ⟨"NeedleHandsModel", "know", "()V"⟩ ∈ TB := tbp (q := (⟨"NeedleHandsModel", "know", "()V"⟩, 31)) (List.mem_append_right _ (List.mem_append_right _ (List.mem_of_getElem? (i := 2) rfl)))
theorem qs_35 : Cond.selects "NeedleHandsModel" ⟨"NeedleHandsModel", "go", "(II)I"⟩ ⟨"NeedleHandsModel", "go", "(II)I"⟩ ∈ TB := tbp (q := (⟨"NeedleHandsModel", "go", "(II)I"⟩, 31)) (List.mem_append_right _ (List.mem_append_right _ (List.mem_of_getElem? (i := 3) rfl)))
theorem qs_36 : Cond.selects "NeedleHandsModel" ⟨"NeedleHandsModel", "takeRow", "()V"⟩ ⟨"NeedleHandsModel", "takeRow", "()V"⟩ ∈ TB := tbp (q := (⟨"NeedleHandsModel", "takeRow", "()V"⟩, 31)) (List.mem_append_right _ (List.mem_append_right _ (List.mem_of_getElem? (i := 4) rfl)))
theorem qs_37 : Cond.selects "NeedleHandsModel" ⟨"NeedleHandsModel", "measure", "(I)V"⟩ ⟨"NeedleHandsModel", "measure", "(I)V"⟩ ∈ TB := tbp (q := (⟨"NeedleHandsModel", "measure", "(I)V"⟩, 31)) (List.mem_append_right _ (List.mem_append_right _ (List.mem_of_getElem? (i := 5) rfl)))
theorem qs_38 : Cond.selects "NeedleHandsModel" ⟨"NeedleHandsModel", "begin", "()V"⟩ ⟨"NeedleHandsModel", "begin", "()V"⟩ ∈ TB := tbp (q := (⟨"NeedleHandsModel", "begin", "()V"⟩, 31)) (List.mem_append_right _ (List.mem_append_right _ (List.mem_of_getElem? (i := 6) rfl)))
theorem qs_39 : Cond.selects "NeedleHandsModel" ⟨"NeedleHandsModel", "work", "(I)V"⟩ ⟨"NeedleHandsModel", "work", "(I)V"⟩ ∈ TB := tbp (q := (⟨"NeedleHandsModel", "work", "(I)V"⟩, 31)) (List.mem_append_right _ (List.mem_append_right _ (List.mem_of_getElem? (i := 7) rfl)))
theorem qs_40 : Cond.selects "NeedleHandsModel" ⟨"NeedleHandsModel", "grow", "()V"⟩ ⟨"NeedleHandsModel", "grow", "()V"⟩ ∈ TB := tbp (q := (⟨"NeedleHandsModel", "grow", "()V"⟩, 31)) (List.mem_append_right _ (List.mem_append_right _ (List.mem_of_getElem? (i := 8) rfl)))
theorem qs_41 : Cond.selects "NeedleHandsModel" ⟨"NeedleHandsModel", "lookAt", "(IZ)V"⟩ ⟨"NeedleHandsModel", "lookAt", "(IZ)V"⟩ ∈ TB := tbp (q := (⟨"NeedleHandsModel", "lookAt", "(IZ)V"⟩, 31)) (List.mem_append_right _ (List.mem_append_right _ (List.mem_of_getElem? (i := 9) rfl)))
theorem qs_42 : Cond.selects "NeedleHandsModel" ⟨"NeedleHandsModel", "isLawful", "()Z"⟩ ⟨"NeedleHandsModel", "isLawful", "()Z"⟩ ∈ TB := tbp (q := (⟨"NeedleHandsModel", "isLawful", "()Z"⟩, 31)) (List.mem_append_right _ (List.mem_append_right _ (List.mem_of_getElem? (i := 10) rfl)))
theorem qs_43 : Cond.selects "NeedleHandsModel" ⟨"NeedleHandsModel", "nextRow", "()Z"⟩ ⟨"NeedleHandsModel", "nextRow", "()Z"⟩ ∈ TB := tbp (q := (⟨"NeedleHandsModel", "nextRow", "()Z"⟩, 31)) (List.mem_append_right _ (List.mem_append_right _ (List.mem_of_getElem? (i := 11) rfl)))
theorem qs_44 : Cond.selects "NeedleHandsModel" ⟨"NeedleHandsModel", "blameFor", "(I)V"⟩ ⟨"NeedleHandsModel", "blameFor", "(I)V"⟩ ∈ TB := tbp (q := (⟨"NeedleHandsModel", "blameFor", "(I)V"⟩, 31)) (List.mem_append_right _ (List.mem_append_right _ (List.mem_of_getElem? (i := 12) rfl)))
theorem qs_45 : Cond.selects "NeedleHandsModel" ⟨"NeedleHandsModel", "isTold", "(I)Z"⟩ ⟨"NeedleHandsModel", "isTold", "(I)Z"⟩ ∈ TB := tbp (q := (⟨"NeedleHandsModel", "isTold", "(I)Z"⟩, 31)) (List.mem_append_right _ (List.mem_append_right _ (List.mem_of_getElem? (i := 13) rfl)))
theorem inX0 : ∀ w ∈ wsX00, w ∈ TB := by decide +kernel
theorem inX1 : ∀ w ∈ wsX10, w ∈ TB := by decide +kernel
theorem inX2 : ∀ w ∈ wsX20, w ∈ TB := by decide +kernel
theorem inX3 : ∀ w ∈ wsX30, w ∈ TB := by decide +kernel
theorem inX4 : ∀ w ∈ wsX40, w ∈ TB := by decide +kernel
theorem inX5 : ∀ w ∈ wsX50, w ∈ TB := by decide +kernel
theorem inX6 : ∀ w ∈ wsX60, w ∈ TB := by decide +kernel
theorem inX7 : ∀ w ∈ wsX70, w ∈ TB := by decide +kernel
