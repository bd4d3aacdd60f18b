def nn_B : List Cond := lw_tbl.filter goodWord
theorem nn_mT {w : Cond} (h : w ∈ tables_1) (g : goodWord w = true) : w ∈ nn_B := List.mem_filter.mpr ⟨List.mem_append_right _ h, g⟩
theorem nn_mS {w : Cond} (h : w ∈ k2_sels lw_privs) (g : goodWord w = true) : w ∈ nn_B := List.mem_filter.mpr ⟨List.mem_append_left _ h, g⟩
theorem nn_m1 {k : Nat} {w : Cond} (h : tables_1_1[k]? = some w) (g : goodWord w = true) : w ∈ nn_B := nn_mT (List.mem_append_left _ (List.mem_of_getElem? h)) g
theorem nn_q1 {k : Nat} {w : Cond} (h : tables_1_1[k]? = some w) : w ∈ lw_tbl := List.mem_append_right _ (List.mem_append_left _ (List.mem_of_getElem? h))
theorem nn_m2 {k : Nat} {w : Cond} (h : tables_1_2[k]? = some w) (g : goodWord w = true) : w ∈ nn_B := nn_mT (List.mem_append_right _ (List.mem_append_left _ (List.mem_of_getElem? h))) g
theorem nn_q2 {k : Nat} {w : Cond} (h : tables_1_2[k]? = some w) : w ∈ lw_tbl := List.mem_append_right _ (List.mem_append_right _ (List.mem_append_left _ (List.mem_of_getElem? h)))
theorem nn_m3 {k : Nat} {w : Cond} (h : tables_1_3[k]? = some w) (g : goodWord w = true) : w ∈ nn_B := nn_mT (List.mem_append_right _ (List.mem_append_right _ (List.mem_append_left _ (List.mem_of_getElem? h)))) g
theorem nn_q3 {k : Nat} {w : Cond} (h : tables_1_3[k]? = some w) : w ∈ lw_tbl := List.mem_append_right _ (List.mem_append_right _ (List.mem_append_right _ (List.mem_append_left _ (List.mem_of_getElem? h))))
theorem nn_m4 {k : Nat} {w : Cond} (h : tables_1_4[k]? = some w) (g : goodWord w = true) : w ∈ nn_B := nn_mT (List.mem_append_right _ (List.mem_append_right _ (List.mem_append_right _ (List.mem_append_left _ (List.mem_of_getElem? h))))) g
theorem nn_q4 {k : Nat} {w : Cond} (h : tables_1_4[k]? = some w) : w ∈ lw_tbl := List.mem_append_right _ (List.mem_append_right _ (List.mem_append_right _ (List.mem_append_right _ (List.mem_append_left _ (List.mem_of_getElem? h)))))
theorem nn_m5 {k : Nat} {w : Cond} (h : tables_1_5[k]? = some w) (g : goodWord w = true) : w ∈ nn_B := nn_mT (List.mem_append_right _ (List.mem_append_right _ (List.mem_append_right _ (List.mem_append_right _ (List.mem_of_getElem? h))))) g
theorem nn_q5 {k : Nat} {w : Cond} (h : tables_1_5[k]? = some w) : w ∈ lw_tbl := List.mem_append_right _ (List.mem_append_right _ (List.mem_append_right _ (List.mem_append_right _ (List.mem_append_right _ (List.mem_of_getElem? h)))))
theorem nn_s1 {k : Nat} {q : MethodName × Nat} (h : lw_privs_1[k]? = some q) : Cond.selects q.1.cls q.1 q.1 ∈ nn_B := nn_mS (List.mem_map.mpr ⟨q, List.mem_append_left _ (List.mem_of_getElem? h), rfl⟩) rfl
theorem nn_s2 {k : Nat} {q : MethodName × Nat} (h : lw_privs_2[k]? = some q) : Cond.selects q.1.cls q.1 q.1 ∈ nn_B := nn_mS (List.mem_map.mpr ⟨q, List.mem_append_right _ (List.mem_append_left _ (List.mem_of_getElem? h)), rfl⟩) rfl
theorem nn_s3 {k : Nat} {q : MethodName × Nat} (h : lw_privs_3[k]? = some q) : Cond.selects q.1.cls q.1 q.1 ∈ nn_B := nn_mS (List.mem_map.mpr ⟨q, List.mem_append_right _ (List.mem_append_right _ (List.mem_append_left _ (List.mem_of_getElem? h))), rfl⟩) rfl
theorem nn_s4 {k : Nat} {q : MethodName × Nat} (h : lw_privs_4[k]? = some q) : Cond.selects q.1.cls q.1 q.1 ∈ nn_B := nn_mS (List.mem_map.mpr ⟨q, List.mem_append_right _ (List.mem_append_right _ (List.mem_append_right _ (List.mem_of_getElem? h))), rfl⟩) rfl
theorem tb_1_0 : (Jvm.Cond.initialized "NineNoonsLaw") ∈ nn_B := nn_m1 (k := 0) rfl rfl
theorem tb_1_1 : (Jvm.Cond.initialized "NineNoons") ∈ nn_B := nn_m1 (k := 1) rfl rfl
theorem tb_1_2 : (Jvm.Cond.initialized "NineNoons$Valley") ∈ nn_B := nn_m1 (k := 2) rfl rfl
theorem tb_1_3 : (Jvm.Cond.initialized "NineNoons$History") ∈ nn_B := nn_m1 (k := 3) rfl rfl
theorem tb_1_4 : (Jvm.Cond.initialized "NineNoons$Setter") ∈ nn_B := nn_m1 (k := 4) rfl rfl
theorem tb_1_5 : (Jvm.Cond.initialized "NineNoons$Carrier") ∈ nn_B := nn_m1 (k := 5) rfl rfl
theorem tb_1_6 : (Jvm.Cond.initialized "NineNoons$Tape") ∈ nn_B := nn_m1 (k := 6) rfl rfl
theorem tb_1_7 : (Jvm.Cond.initialized "NineNoons$Sheet") ∈ nn_B := nn_m1 (k := 7) rfl rfl
theorem tb_1_8 : (Jvm.Cond.initialized "NineNoonsModel") ∈ nn_B := nn_m1 (k := 8) rfl rfl
theorem tb_1_9 : (Jvm.Cond.initialized "java/lang/Math") ∈ nn_B := nn_m1 (k := 9) rfl rfl
theorem tb_1_10 : (Jvm.Cond.initialized "java/lang/System") ∈ nn_B := nn_m1 (k := 10) rfl rfl
theorem tb_1_11 : (Jvm.Cond.initialized "java/lang/Long") ∈ nn_B := nn_m1 (k := 11) rfl rfl
theorem tb_1_12 : (Jvm.Cond.initialized "java/lang/Integer") ∈ nn_B := nn_m1 (k := 12) rfl rfl
theorem tb_1_13 : (Jvm.Cond.classLink "NineNoonsLaw" (7 : Nat) "NineNoons") ∈ nn_B := nn_m1 (k := 13) rfl rfl
theorem tb_1_14 : (Jvm.Cond.instantiable "NineNoons" (10 : Nat)) ∈ nn_B := nn_m1 (k := 14) rfl rfl
theorem tb_1_15 : (Jvm.Cond.methodLink "NineNoonsLaw" (9 : Nat) yX6_init) ∈ nn_B := nn_m1 (k := 15) rfl rfl
theorem tb_1_16 : (Jvm.Cond.instanceMethod yX6_init) ∈ nn_B := nn_m1 (k := 16) rfl rfl
theorem tb_1_17 : (Jvm.Cond.code yX6_init prog_1_method_1_code (1 : Nat) (Option.none : Option Jvm.ClassFile.FieldType)) ∈ nn_B := nn_m1 (k := 17) rfl rfl
theorem tb_1_18 : (Jvm.Cond.methodLink "NineNoons" (3 : Nat) objectInit) ∈ nn_B := nn_m1 (k := 18) rfl rfl
theorem tb_1_19 : (Jvm.Cond.instanceMethod objectInit) ∈ nn_B := nn_m1 (k := 19) rfl rfl
theorem tb_1_20 : (Jvm.Cond.code objectInit object_method_1_code (1 : Nat) (Option.none : Option Jvm.ClassFile.FieldType)) ∈ nn_B := nn_m1 (k := 20) rfl rfl
theorem tb_1_21 : (Jvm.Cond.classLink "NineNoons" (9 : Nat) "NineNoons$Valley") ∈ nn_B := nn_m1 (k := 21) rfl rfl
theorem tb_1_22 : (Jvm.Cond.instantiable "NineNoons$Valley" (8 : Nat)) ∈ nn_B := nn_m1 (k := 22) rfl rfl
theorem tb_1_23 : (Jvm.Cond.methodLinkNest "NineNoons" (11 : Nat) yX5_init "NineNoons") ∈ lw_tbl := nn_q1 (k := 23) rfl
theorem tb_1_24 : (Jvm.Cond.instanceMethod yX5_init) ∈ nn_B := nn_m1 (k := 24) rfl rfl
theorem tb_1_25 : (Jvm.Cond.code yX5_init prog_7_method_1_code (1 : Nat) (Option.none : Option Jvm.ClassFile.FieldType)) ∈ nn_B := nn_m1 (k := 25) rfl rfl
theorem tb_1_26 : (Jvm.Cond.methodLink "NineNoons$Valley" (3 : Nat) objectInit) ∈ nn_B := nn_m1 (k := 26) rfl rfl
theorem tb_1_27 : (Jvm.Cond.fieldLink "NineNoons$Valley" (9 : Nat) "NineNoons$Valley" "kinds" "[I") ∈ nn_B := nn_m1 (k := 27) rfl rfl
theorem tb_1_28 : (Jvm.Cond.fieldLink "NineNoons" (82 : Nat) "NineNoons$Valley" "kinds" "[I") ∈ nn_B := nn_m1 (k := 28) rfl rfl
theorem tb_1_29 : (Jvm.Cond.fieldLink "NineNoons$Valley" (15 : Nat) "NineNoons$Valley" "minutes" "[I") ∈ nn_B := nn_m1 (k := 29) rfl rfl
theorem tb_1_30 : (Jvm.Cond.fieldLink "NineNoons" (86 : Nat) "NineNoons$Valley" "minutes" "[I") ∈ nn_B := nn_m1 (k := 30) rfl rfl
theorem tb_1_31 : (Jvm.Cond.fieldLink "NineNoons$Setter" (49 : Nat) "NineNoons$Valley" "minutes" "[I") ∈ nn_B := nn_m1 (k := 31) rfl rfl
theorem tb_1_32 : (Jvm.Cond.fieldLink "NineNoons$Carrier" (57 : Nat) "NineNoons$Valley" "minutes" "[I") ∈ nn_B := nn_m1 (k := 32) rfl rfl
theorem tb_1_33 : (Jvm.Cond.fieldLink "NineNoons$Valley" (18 : Nat) "NineNoons$Valley" "drifts" "[I") ∈ nn_B := nn_m1 (k := 33) rfl rfl
theorem tb_1_34 : (Jvm.Cond.fieldLink "NineNoons" (89 : Nat) "NineNoons$Valley" "drifts" "[I") ∈ nn_B := nn_m1 (k := 34) rfl rfl
theorem tb_1_35 : (Jvm.Cond.fieldLink "NineNoons$Valley" (21 : Nat) "NineNoons$Valley" "miles" "[I") ∈ nn_B := nn_m1 (k := 35) rfl rfl
theorem tb_1_36 : (Jvm.Cond.fieldLink "NineNoons$Carrier" (26 : Nat) "NineNoons$Valley" "miles" "[I") ∈ nn_B := nn_m1 (k := 36) rfl rfl
theorem tb_1_37 : (Jvm.Cond.fieldLink "NineNoons" (92 : Nat) "NineNoons$Valley" "miles" "[I") ∈ nn_B := nn_m1 (k := 37) rfl rfl
theorem tb_1_38 : (Jvm.Cond.fieldLink "NineNoons$Valley" (24 : Nat) "NineNoons$Valley" "shifts" "[I") ∈ nn_B := nn_m1 (k := 38) rfl rfl
theorem tb_1_39 : (Jvm.Cond.fieldLink "NineNoons$Valley" (27 : Nat) "NineNoons$Valley" "villages" "I") ∈ nn_B := nn_m1 (k := 39) rfl rfl
theorem tb_1_40 : (Jvm.Cond.fieldLink "NineNoons" (68 : Nat) "NineNoons$Valley" "villages" "I") ∈ nn_B := nn_m1 (k := 40) rfl rfl
theorem tb_1_41 : (Jvm.Cond.fieldLink "NineNoons$Setter" (28 : Nat) "NineNoons$Valley" "villages" "I") ∈ nn_B := nn_m1 (k := 41) rfl rfl
theorem tb_1_42 : (Jvm.Cond.fieldLink "NineNoons$Carrier" (35 : Nat) "NineNoons$Valley" "villages" "I") ∈ nn_B := nn_m1 (k := 42) rfl rfl
theorem tb_1_43 : (Jvm.Cond.fieldLink "NineNoons$Valley" (31 : Nat) "NineNoons$Valley" "day" "I") ∈ nn_B := nn_m1 (k := 43) rfl rfl
theorem tb_1_44 : (Jvm.Cond.fieldLink "NineNoons" (125 : Nat) "NineNoons$Valley" "day" "I") ∈ nn_B := nn_m1 (k := 44) rfl rfl
theorem tb_1_45 : (Jvm.Cond.fieldLink "NineNoons$Valley" (34 : Nat) "NineNoons$Valley" "draw" "I") ∈ nn_B := nn_m1 (k := 45) rfl rfl
theorem tb_1_46 : (Jvm.Cond.fieldLink "NineNoons" (153 : Nat) "NineNoons$Valley" "draw" "I") ∈ nn_B := nn_m1 (k := 46) rfl rfl
theorem tb_1_64 : (Jvm.Cond.arrayClass Jvm.ClassFile.FieldType.int) ∈ nn_B := nn_m1 (k := 64) rfl rfl
theorem tb_1_65 : (Jvm.Cond.classLink "NineNoons" (16 : Nat) "NineNoons$History") ∈ nn_B := nn_m1 (k := 65) rfl rfl
theorem tb_1_66 : (Jvm.Cond.instantiable "NineNoons$History" (3 : Nat)) ∈ nn_B := nn_m1 (k := 66) rfl rfl
theorem tb_1_67 : (Jvm.Cond.methodLinkNest "NineNoons" (18 : Nat) yX1_init "NineNoons") ∈ lw_tbl := nn_q1 (k := 67) rfl
theorem tb_1_68 : (Jvm.Cond.instanceMethod yX1_init) ∈ nn_B := nn_m1 (k := 68) rfl rfl
theorem tb_1_69 : (Jvm.Cond.code yX1_init prog_3_method_1_code (1 : Nat) (Option.none : Option Jvm.ClassFile.FieldType)) ∈ nn_B := nn_m1 (k := 69) rfl rfl
theorem tb_1_70 : (Jvm.Cond.methodLink "NineNoons$History" (3 : Nat) objectInit) ∈ nn_B := nn_m1 (k := 70) rfl rfl
theorem tb_1_71 : (Jvm.Cond.classLink "NineNoons$History" (9 : Nat) "NineNoons$Valley") ∈ nn_B := nn_m1 (k := 71) rfl rfl
theorem tb_1_72 : (Jvm.Cond.arrayOver (Jvm.ClassFile.FieldType.object "NineNoons$Valley")) ∈ lw_tbl := nn_q1 (k := 72) rfl
theorem tb_1_73 : (Jvm.Cond.methodLinkNest "NineNoons$History" (11 : Nat) yX5_init "NineNoons") ∈ lw_tbl := nn_q1 (k := 73) rfl
theorem tb_1_74 : (Jvm.Cond.fieldLink "NineNoons$History" (12 : Nat) "NineNoons$History" "past" "[LNineNoons$Valley;") ∈ nn_B := nn_m1 (k := 74) rfl rfl
theorem tb_1_75 : (Jvm.Cond.fieldLink "NineNoons$History" (18 : Nat) "NineNoons$History" "next" "I") ∈ nn_B := nn_m1 (k := 75) rfl rfl
theorem tb_1_76 : (Jvm.Cond.fieldLink "NineNoons$History" (22 : Nat) "NineNoons$History" "known" "I") ∈ nn_B := nn_m1 (k := 76) rfl rfl
theorem tb_1_77 : (Jvm.Cond.fieldLink "NineNoons" (139 : Nat) "NineNoons$History" "known" "I") ∈ nn_B := nn_m1 (k := 77) rfl rfl
theorem tb_1_85 : (Jvm.Cond.classLink "NineNoons" (32 : Nat) "NineNoons$Setter") ∈ nn_B := nn_m1 (k := 85) rfl rfl
theorem tb_1_86 : (Jvm.Cond.instantiable "NineNoons$Setter" (3 : Nat)) ∈ nn_B := nn_m1 (k := 86) rfl rfl
theorem tb_1_87 : (Jvm.Cond.methodLinkNest "NineNoons" (34 : Nat) yX2_init "NineNoons") ∈ lw_tbl := nn_q1 (k := 87) rfl
theorem tb_1_88 : (Jvm.Cond.instanceMethod yX2_init) ∈ nn_B := nn_m1 (k := 88) rfl rfl
theorem tb_1_89 : (Jvm.Cond.code yX2_init prog_4_method_1_code (1 : Nat) (Option.none : Option Jvm.ClassFile.FieldType)) ∈ nn_B := nn_m1 (k := 89) rfl rfl
theorem tb_1_90 : (Jvm.Cond.methodLink "NineNoons$Setter" (3 : Nat) objectInit) ∈ nn_B := nn_m1 (k := 90) rfl rfl
theorem tb_1_91 : (Jvm.Cond.fieldLink "NineNoons$Setter" (9 : Nat) "NineNoons$Setter" "shifts" "[I") ∈ nn_B := nn_m1 (k := 91) rfl rfl
theorem tb_1_92 : (Jvm.Cond.fieldLink "NineNoons$Setter" (15 : Nat) "NineNoons$Setter" "bestShifts" "[I") ∈ nn_B := nn_m1 (k := 92) rfl rfl
theorem tb_1_93 : (Jvm.Cond.fieldLink "NineNoons" (173 : Nat) "NineNoons$Setter" "bestShifts" "[I") ∈ nn_B := nn_m1 (k := 93) rfl rfl
theorem tb_1_94 : (Jvm.Cond.fieldLink "NineNoons$Setter" (18 : Nat) "NineNoons$Setter" "bestTotal" "I") ∈ nn_B := nn_m1 (k := 94) rfl rfl
theorem tb_1_102 : (Jvm.Cond.classLink "NineNoons" (39 : Nat) "NineNoons$Carrier") ∈ nn_B := nn_m1 (k := 102) rfl rfl
theorem tb_1_103 : (Jvm.Cond.instantiable "NineNoons$Carrier" (4 : Nat)) ∈ nn_B := nn_m1 (k := 103) rfl rfl
theorem tb_1_104 : (Jvm.Cond.methodLinkNest "NineNoons" (41 : Nat) yX0_init "NineNoons") ∈ lw_tbl := nn_q1 (k := 104) rfl
theorem tb_1_105 : (Jvm.Cond.instanceMethod yX0_init) ∈ nn_B := nn_m1 (k := 105) rfl rfl
theorem tb_1_106 : (Jvm.Cond.code yX0_init prog_2_method_1_code (1 : Nat) (Option.none : Option Jvm.ClassFile.FieldType)) ∈ nn_B := nn_m1 (k := 106) rfl rfl
theorem tb_1_107 : (Jvm.Cond.methodLink "NineNoons$Carrier" (3 : Nat) objectInit) ∈ nn_B := nn_m1 (k := 107) rfl rfl
theorem tb_1_108 : (Jvm.Cond.constant "NineNoons$Carrier" (18 : Nat) (1000000 : Int32)) ∈ nn_B := nn_m1 (k := 108) rfl rfl
theorem tb_1_109 : (Jvm.Cond.fieldLink "NineNoons$Carrier" (9 : Nat) "NineNoons$Carrier" "order" "[I") ∈ nn_B := nn_m1 (k := 109) rfl rfl
theorem tb_1_110 : (Jvm.Cond.fieldLink "NineNoons$Carrier" (15 : Nat) "NineNoons$Carrier" "bestOrder" "[I") ∈ nn_B := nn_m1 (k := 110) rfl rfl
theorem tb_1_111 : (Jvm.Cond.fieldLink "NineNoons" (197 : Nat) "NineNoons$Carrier" "bestOrder" "[I") ∈ nn_B := nn_m1 (k := 111) rfl rfl
theorem tb_1_112 : (Jvm.Cond.fieldLink "NineNoons$Carrier" (19 : Nat) "NineNoons$Carrier" "bestTime" "I") ∈ nn_B := nn_m1 (k := 112) rfl rfl
theorem tb_1_113 : (Jvm.Cond.fieldLink "NineNoons$Carrier" (23 : Nat) "NineNoons$Carrier" "minutesAMile" "I") ∈ nn_B := nn_m1 (k := 113) rfl rfl
theorem tb_1_123 : (Jvm.Cond.classLink "NineNoons" (46 : Nat) "NineNoons$Tape") ∈ nn_B := nn_m1 (k := 123) rfl rfl
theorem tb_1_124 : (Jvm.Cond.instantiable "NineNoons$Tape" (4 : Nat)) ∈ nn_B := nn_m1 (k := 124) rfl rfl
theorem tb_1_125 : (Jvm.Cond.methodLinkNest "NineNoons" (48 : Nat) yX4_init "NineNoons") ∈ lw_tbl := nn_q1 (k := 125) rfl
theorem tb_1_126 : (Jvm.Cond.instanceMethod yX4_init) ∈ nn_B := nn_m1 (k := 126) rfl rfl
theorem tb_1_127 : (Jvm.Cond.code yX4_init prog_6_method_1_code (1 : Nat) (Option.none : Option Jvm.ClassFile.FieldType)) ∈ nn_B := nn_m1 (k := 127) rfl rfl
theorem tb_1_128 : (Jvm.Cond.methodLink "NineNoons$Tape" (3 : Nat) objectInit) ∈ nn_B := nn_m1 (k := 128) rfl rfl
theorem tb_1_129 : (Jvm.Cond.fieldLink "NineNoons$Tape" (9 : Nat) "NineNoons$Tape" "letters" "[C") ∈ nn_B := nn_m1 (k := 129) rfl rfl
theorem tb_1_130 : (Jvm.Cond.fieldLink "NineNoons$Tape" (15 : Nat) "NineNoons$Tape" "length" "I") ∈ nn_B := nn_m1 (k := 130) rfl rfl
theorem tb_1_131 : (Jvm.Cond.fieldLink "NineNoons" (114 : Nat) "NineNoons$Tape" "length" "I") ∈ nn_B := nn_m1 (k := 131) rfl rfl
theorem tb_1_132 : (Jvm.Cond.fieldLink "NineNoons$Tape" (19 : Nat) "NineNoons$Tape" "place" "I") ∈ nn_B := nn_m1 (k := 132) rfl rfl
theorem tb_1_133 : (Jvm.Cond.fieldLink "NineNoons$Tape" (22 : Nat) "NineNoons$Tape" "fault" "I") ∈ nn_B := nn_m1 (k := 133) rfl rfl
theorem tb_1_143 : (Jvm.Cond.arrayClass Jvm.ClassFile.FieldType.char) ∈ nn_B := nn_m1 (k := 143) rfl rfl
theorem tb_1_144 : (Jvm.Cond.classLink "NineNoons" (53 : Nat) "NineNoons$Sheet") ∈ nn_B := nn_m1 (k := 144) rfl rfl
theorem tb_1_145 : (Jvm.Cond.arrayOver (Jvm.ClassFile.FieldType.object "NineNoons$Sheet")) ∈ lw_tbl := nn_q1 (k := 145) rfl
theorem tb_1_146 : (Jvm.Cond.instantiable "NineNoons$Sheet" (3 : Nat)) ∈ nn_B := nn_m1 (k := 146) rfl rfl
theorem tb_1_147 : (Jvm.Cond.methodLinkNest "NineNoons" (55 : Nat) yX3_init "NineNoons") ∈ lw_tbl := nn_q1 (k := 147) rfl
theorem tb_1_148 : (Jvm.Cond.instanceMethod yX3_init) ∈ nn_B := nn_m1 (k := 148) rfl rfl
theorem tb_1_149 : (Jvm.Cond.code yX3_init prog_5_method_1_code (1 : Nat) (Option.none : Option Jvm.ClassFile.FieldType)) ∈ nn_B := nn_m1 (k := 149) rfl rfl
theorem tb_1_150 : (Jvm.Cond.methodLink "NineNoons$Sheet" (3 : Nat) objectInit) ∈ nn_B := nn_m1 (k := 150) rfl rfl
theorem tb_1_151 : (Jvm.Cond.fieldLink "NineNoons$Sheet" (9 : Nat) "NineNoons$Sheet" "items" "[J") ∈ nn_B := nn_m1 (k := 151) rfl rfl
theorem tb_1_152 : (Jvm.Cond.fieldLink "NineNoons" (265 : Nat) "NineNoons$Sheet" "items" "[J") ∈ nn_B := nn_m1 (k := 152) rfl rfl
theorem tb_1_153 : (Jvm.Cond.fieldLink "NineNoons$Sheet" (15 : Nat) "NineNoons$Sheet" "lane" "I") ∈ nn_B := nn_m1 (k := 153) rfl rfl
theorem tb_1_154 : (Jvm.Cond.fieldLink "NineNoons" (259 : Nat) "NineNoons$Sheet" "lane" "I") ∈ nn_B := nn_m1 (k := 154) rfl rfl
theorem tb_1_155 : (Jvm.Cond.fieldLink "NineNoons$Sheet" (19 : Nat) "NineNoons$Sheet" "length" "I") ∈ nn_B := nn_m1 (k := 155) rfl rfl
theorem tb_1_156 : (Jvm.Cond.fieldLink "NineNoons" (255 : Nat) "NineNoons$Sheet" "length" "I") ∈ nn_B := nn_m1 (k := 156) rfl rfl
theorem tb_1_164 : (Jvm.Cond.arrayClass Jvm.ClassFile.FieldType.long) ∈ nn_B := nn_m1 (k := 164) rfl rfl
theorem tb_1_165 : (Jvm.Cond.fieldLink "NineNoons" (12 : Nat) "NineNoons" "now" "LNineNoons$Valley;") ∈ nn_B := nn_m1 (k := 165) rfl rfl
theorem tb_1_166 : (Jvm.Cond.fieldLink "NineNoons" (19 : Nat) "NineNoons" "history" "LNineNoons$History;") ∈ nn_B := nn_m1 (k := 166) rfl rfl
theorem tb_1_167 : (Jvm.Cond.fieldLink "NineNoons" (23 : Nat) "NineNoons" "keptValley" "LNineNoons$Valley;") ∈ nn_B := nn_m1 (k := 167) rfl rfl
theorem tb_1_168 : (Jvm.Cond.fieldLink "NineNoons" (26 : Nat) "NineNoons" "keptHistory" "LNineNoons$History;") ∈ nn_B := nn_m1 (k := 168) rfl rfl
theorem tb_1_169 : (Jvm.Cond.fieldLink "NineNoons" (220 : Nat) "NineNoons" "imageKept" "Z") ∈ nn_B := nn_m1 (k := 169) rfl rfl
theorem tb_1_170 : (Jvm.Cond.fieldLink "NineNoons" (29 : Nat) "NineNoons" "trial" "LNineNoons$Valley;") ∈ nn_B := nn_m1 (k := 170) rfl rfl
theorem tb_1_171 : (Jvm.Cond.fieldLink "NineNoons" (35 : Nat) "NineNoons" "setter" "LNineNoons$Setter;") ∈ nn_B := nn_m1 (k := 171) rfl rfl
theorem tb_1_172 : (Jvm.Cond.fieldLink "NineNoons" (42 : Nat) "NineNoons" "carrier" "LNineNoons$Carrier;") ∈ nn_B := nn_m1 (k := 172) rfl rfl
theorem tb_1_173 : (Jvm.Cond.fieldLink "NineNoons" (49 : Nat) "NineNoons" "tape" "LNineNoons$Tape;") ∈ nn_B := nn_m1 (k := 173) rfl rfl
theorem tb_1_174 : (Jvm.Cond.fieldLink "NineNoons" (56 : Nat) "NineNoons" "sheets" "[LNineNoons$Sheet;") ∈ nn_B := nn_m1 (k := 174) rfl rfl
theorem tb_1_196 : (Jvm.Cond.methodLink "NineNoonsLaw" (13 : Nat) yX6_village) ∈ nn_B := nn_m1 (k := 196) rfl rfl
theorem tb_1_197 : (Jvm.Cond.instanceMethod yX6_village) ∈ nn_B := nn_m1 (k := 197) rfl rfl
theorem tb_1_198 : (Jvm.Cond.selects "NineNoons" yX6_village yX6_village) ∈ nn_B := nn_m1 (k := 198) rfl rfl
theorem tb_1_199 : (Jvm.Cond.code yX6_village prog_1_method_2_code (4 : Nat) (Option.some Jvm.ClassFile.FieldType.int)) ∈ nn_B := nn_m1 (k := 199) rfl rfl
theorem tb_1_200 : (Jvm.Cond.methodLink "NineNoons" (60 : Nat) yX6_within) ∈ nn_B := nn_m1 (k := 200) rfl rfl
theorem tb_1_201 : (Jvm.Cond.static yX6_within) ∈ nn_B := nn_m1 (k := 201) rfl rfl
theorem tb_1_202 : (Jvm.Cond.code yX6_within prog_1_method_40_code (3 : Nat) (Option.some Jvm.ClassFile.FieldType.boolean)) ∈ nn_B := nn_m1 (k := 202) rfl rfl
theorem tb_1_203 : (Jvm.Cond.methodLink "NineNoons" (64 : Nat) yX6_isMinute) ∈ nn_B := nn_m1 (k := 203) rfl rfl
theorem tb_1_204 : (Jvm.Cond.static yX6_isMinute) ∈ nn_B := nn_m1 (k := 204) rfl rfl
theorem tb_1_205 : (Jvm.Cond.code yX6_isMinute prog_1_method_41_code (1 : Nat) (Option.some Jvm.ClassFile.FieldType.boolean)) ∈ nn_B := nn_m1 (k := 205) rfl rfl
theorem tb_1_206 : (Jvm.Cond.methodLink "NineNoons" (72 : Nat) yX5_build) ∈ nn_B := nn_m1 (k := 206) rfl rfl
theorem tb_1_207 : (Jvm.Cond.instanceMethod yX5_build) ∈ nn_B := nn_m1 (k := 207) rfl rfl
theorem tb_1_208 : (Jvm.Cond.selects "NineNoons$Valley" yX5_build yX5_build) ∈ nn_B := nn_m1 (k := 208) rfl rfl
theorem tb_1_209 : (Jvm.Cond.code yX5_build prog_7_method_4_code (5 : Nat) (Option.none : Option Jvm.ClassFile.FieldType)) ∈ nn_B := nn_m1 (k := 209) rfl rfl
theorem tb_1_210 : (Jvm.Cond.methodLink "NineNoons" (76 : Nat) yX1_forget) ∈ nn_B := nn_m1 (k := 210) rfl rfl
theorem tb_1_211 : (Jvm.Cond.instanceMethod yX1_forget) ∈ nn_B := nn_m1 (k := 211) rfl rfl
theorem tb_1_212 : (Jvm.Cond.selects "NineNoons$History" yX1_forget yX1_forget) ∈ nn_B := nn_m1 (k := 212) rfl rfl
theorem tb_1_213 : (Jvm.Cond.code yX1_forget prog_3_method_2_code (1 : Nat) (Option.none : Option Jvm.ClassFile.FieldType)) ∈ nn_B := nn_m1 (k := 213) rfl rfl
theorem tb_1_214 : (Jvm.Cond.methodLink "NineNoonsLaw" (18 : Nat) yX6_of) ∈ nn_B := nn_m1 (k := 214) rfl rfl
theorem tb_1_215 : (Jvm.Cond.instanceMethod yX6_of) ∈ nn_B := nn_m1 (k := 215) rfl rfl
theorem tb_1_216 : (Jvm.Cond.selects "NineNoons" yX6_of yX6_of) ∈ nn_B := nn_m1 (k := 216) rfl rfl
theorem tb_1_217 : (Jvm.Cond.code yX6_of prog_1_method_3_code (3 : Nat) (Option.some Jvm.ClassFile.FieldType.int)) ∈ nn_B := nn_m1 (k := 217) rfl rfl
theorem tb_1_218 : (Jvm.Cond.methodLink "NineNoons" (79 : Nat) yX5_has) ∈ nn_B := nn_m1 (k := 218) rfl rfl
theorem tb_1_219 : (Jvm.Cond.instanceMethod yX5_has) ∈ nn_B := nn_m1 (k := 219) rfl rfl
theorem tb_1_220 : (Jvm.Cond.selects "NineNoons$Valley" yX5_has yX5_has) ∈ nn_B := nn_m1 (k := 220) rfl rfl
theorem tb_1_221 : (Jvm.Cond.code yX5_has prog_7_method_5_code (2 : Nat) (Option.some Jvm.ClassFile.FieldType.boolean)) ∈ nn_B := nn_m1 (k := 221) rfl rfl
theorem tb_1_222 : (Jvm.Cond.methodLink "NineNoons" (95 : Nat) yX5_laterBy) ∈ nn_B := nn_m1 (k := 222) rfl rfl
theorem tb_1_223 : (Jvm.Cond.instanceMethod yX5_laterBy) ∈ nn_B := nn_m1 (k := 223) rfl rfl
theorem tb_1_224 : (Jvm.Cond.selects "NineNoons$Valley" yX5_laterBy yX5_laterBy) ∈ nn_B := nn_m1 (k := 224) rfl rfl
theorem tb_1_225 : (Jvm.Cond.code yX5_laterBy prog_7_method_15_code (2 : Nat) (Option.some Jvm.ClassFile.FieldType.int)) ∈ nn_B := nn_m1 (k := 225) rfl rfl
theorem tb_1_226 : (Jvm.Cond.methodLink "NineNoons$Valley" (78 : Nat) yX5_slowShift) ∈ nn_B := nn_m1 (k := 226) rfl rfl
theorem tb_1_227 : (Jvm.Cond.instanceMethod yX5_slowShift) ∈ nn_B := nn_m1 (k := 227) rfl rfl
theorem tb_1_228 : (Jvm.Cond.selects "NineNoons$Valley" yX5_slowShift yX5_slowShift) ∈ nn_B := nn_m1 (k := 228) rfl rfl
theorem tb_1_229 : (Jvm.Cond.code yX5_slowShift prog_7_method_16_code (2 : Nat) (Option.some Jvm.ClassFile.FieldType.int)) ∈ nn_B := nn_m1 (k := 229) rfl rfl
theorem tb_1_230 : (Jvm.Cond.methodLink "NineNoons$Valley" (81 : Nat) yX5_hearerShift) ∈ nn_B := nn_m1 (k := 230) rfl rfl
theorem tb_1_231 : (Jvm.Cond.instanceMethod yX5_hearerShift) ∈ nn_B := nn_m1 (k := 231) rfl rfl
theorem tb_1_232 : (Jvm.Cond.selects "NineNoons$Valley" yX5_hearerShift yX5_hearerShift) ∈ nn_B := nn_m1 (k := 232) rfl rfl
theorem tb_1_233 : (Jvm.Cond.code yX5_hearerShift prog_7_method_17_code (3 : Nat) (Option.some Jvm.ClassFile.FieldType.int)) ∈ nn_B := nn_m1 (k := 233) rfl rfl
theorem tb_1_234 : (Jvm.Cond.methodLinkNest "NineNoons$Valley" (47 : Nat) yX6_shorterWay "NineNoons") ∈ lw_tbl := nn_q1 (k := 234) rfl
theorem tb_1_235 : (Jvm.Cond.static yX6_shorterWay) ∈ nn_B := nn_m1 (k := 235) rfl rfl
theorem tb_1_236 : (Jvm.Cond.code yX6_shorterWay prog_1_method_45_code (3 : Nat) (Option.some Jvm.ClassFile.FieldType.int)) ∈ nn_B := nn_m1 (k := 236) rfl rfl
theorem tb_1_237 : (Jvm.Cond.methodLink "NineNoons$Valley" (84 : Nat) yX5_isByTheOneBefore) ∈ nn_B := nn_m1 (k := 237) rfl rfl
theorem tb_1_238 : (Jvm.Cond.instanceMethod yX5_isByTheOneBefore) ∈ nn_B := nn_m1 (k := 238) rfl rfl
theorem tb_1_239 : (Jvm.Cond.selects "NineNoons$Valley" yX5_isByTheOneBefore yX5_isByTheOneBefore) ∈ nn_B := nn_m1 (k := 239) rfl rfl
theorem tb_2_0 : (Jvm.Cond.code yX5_isByTheOneBefore prog_7_method_18_code (3 : Nat) (Option.some Jvm.ClassFile.FieldType.boolean)) ∈ nn_B := nn_m2 (k := 0) rfl rfl
theorem tb_2_1 : (Jvm.Cond.methodLink "NineNoons$Valley" (87 : Nat) yJ9_abs_0f7a4) ∈ nn_B := nn_m2 (k := 1) rfl rfl
theorem tb_2_2 : (Jvm.Cond.static yJ9_abs_0f7a4) ∈ nn_B := nn_m2 (k := 2) rfl rfl
theorem tb_2_3 : (Jvm.Cond.code yJ9_abs_0f7a4 prog_12_method_59_code (1 : Nat) (Option.some Jvm.ClassFile.FieldType.int)) ∈ nn_B := nn_m2 (k := 3) rfl rfl
theorem tb_2_4 : (Jvm.Cond.methodLink "NineNoons" (99 : Nat) yX5_ringersWith) ∈ nn_B := nn_m2 (k := 4) rfl rfl
theorem tb_2_5 : (Jvm.Cond.instanceMethod yX5_ringersWith) ∈ nn_B := nn_m2 (k := 5) rfl rfl
theorem tb_2_6 : (Jvm.Cond.selects "NineNoons$Valley" yX5_ringersWith yX5_ringersWith) ∈ nn_B := nn_m2 (k := 6) rfl rfl
theorem tb_2_7 : (Jvm.Cond.code yX5_ringersWith prog_7_method_9_code (4 : Nat) (Option.some Jvm.ClassFile.FieldType.int)) ∈ nn_B := nn_m2 (k := 7) rfl rfl
theorem tb_2_8 : (Jvm.Cond.methodLink "NineNoonsLaw" (23 : Nat) yX6_gap) ∈ nn_B := nn_m2 (k := 8) rfl rfl
theorem tb_2_9 : (Jvm.Cond.instanceMethod yX6_gap) ∈ nn_B := nn_m2 (k := 9) rfl rfl
theorem tb_2_10 : (Jvm.Cond.selects "NineNoons" yX6_gap yX6_gap) ∈ nn_B := nn_m2 (k := 10) rfl rfl
theorem tb_2_11 : (Jvm.Cond.code yX6_gap prog_1_method_4_code (3 : Nat) (Option.some Jvm.ClassFile.FieldType.int)) ∈ nn_B := nn_m2 (k := 11) rfl rfl
theorem tb_2_12 : (Jvm.Cond.methodLink "NineNoons" (102 : Nat) yX5_hasBoth) ∈ nn_B := nn_m2 (k := 12) rfl rfl
theorem tb_2_13 : (Jvm.Cond.instanceMethod yX5_hasBoth) ∈ nn_B := nn_m2 (k := 13) rfl rfl
theorem tb_2_14 : (Jvm.Cond.selects "NineNoons$Valley" yX5_hasBoth yX5_hasBoth) ∈ nn_B := nn_m2 (k := 14) rfl rfl
theorem tb_2_15 : (Jvm.Cond.code yX5_hasBoth prog_7_method_6_code (3 : Nat) (Option.some Jvm.ClassFile.FieldType.boolean)) ∈ nn_B := nn_m2 (k := 15) rfl rfl
theorem tb_2_16 : (Jvm.Cond.methodLink "NineNoons$Valley" (43 : Nat) yX5_has) ∈ nn_B := nn_m2 (k := 16) rfl rfl
theorem tb_2_17 : (Jvm.Cond.methodLink "NineNoons" (106 : Nat) yX5_gapBetween) ∈ nn_B := nn_m2 (k := 17) rfl rfl
theorem tb_2_18 : (Jvm.Cond.instanceMethod yX5_gapBetween) ∈ nn_B := nn_m2 (k := 18) rfl rfl
theorem tb_2_19 : (Jvm.Cond.selects "NineNoons$Valley" yX5_gapBetween yX5_gapBetween) ∈ nn_B := nn_m2 (k := 19) rfl rfl
theorem tb_2_20 : (Jvm.Cond.code yX5_gapBetween prog_7_method_7_code (3 : Nat) (Option.some Jvm.ClassFile.FieldType.int)) ∈ nn_B := nn_m2 (k := 20) rfl rfl
theorem tb_2_21 : (Jvm.Cond.methodLink "NineNoonsLaw" (27 : Nat) yX6_type) ∈ nn_B := nn_m2 (k := 21) rfl rfl
theorem tb_2_22 : (Jvm.Cond.instanceMethod yX6_type) ∈ nn_B := nn_m2 (k := 22) rfl rfl
theorem tb_2_23 : (Jvm.Cond.selects "NineNoons" yX6_type yX6_type) ∈ nn_B := nn_m2 (k := 23) rfl rfl
theorem tb_2_24 : (Jvm.Cond.code yX6_type prog_1_method_5_code (2 : Nat) (Option.some Jvm.ClassFile.FieldType.int)) ∈ nn_B := nn_m2 (k := 24) rfl rfl
theorem tb_2_25 : (Jvm.Cond.methodLink "NineNoons" (110 : Nat) yX4_put) ∈ nn_B := nn_m2 (k := 25) rfl rfl
theorem tb_2_26 : (Jvm.Cond.instanceMethod yX4_put) ∈ nn_B := nn_m2 (k := 26) rfl rfl
theorem tb_2_27 : (Jvm.Cond.selects "NineNoons$Tape" yX4_put yX4_put) ∈ nn_B := nn_m2 (k := 27) rfl rfl
theorem tb_2_28 : (Jvm.Cond.code yX4_put prog_6_method_2_code (2 : Nat) (Option.some Jvm.ClassFile.FieldType.boolean)) ∈ nn_B := nn_m2 (k := 28) rfl rfl
theorem tb_2_29 : (Jvm.Cond.methodLink "NineNoonsLaw" (32 : Nat) yX6_valley) ∈ nn_B := nn_m2 (k := 29) rfl rfl
theorem tb_2_30 : (Jvm.Cond.instanceMethod yX6_valley) ∈ nn_B := nn_m2 (k := 30) rfl rfl
theorem tb_2_31 : (Jvm.Cond.selects "NineNoons" yX6_valley yX6_valley) ∈ nn_B := nn_m2 (k := 31) rfl rfl
theorem tb_2_32 : (Jvm.Cond.code yX6_valley prog_1_method_6_code (2 : Nat) (Option.some Jvm.ClassFile.FieldType.int)) ∈ nn_B := nn_m2 (k := 32) rfl rfl
theorem tb_2_33 : (Jvm.Cond.methodLink "NineNoons" (117 : Nat) yX5_becomeLike) ∈ nn_B := nn_m2 (k := 33) rfl rfl
theorem tb_2_34 : (Jvm.Cond.instanceMethod yX5_becomeLike) ∈ nn_B := nn_m2 (k := 34) rfl rfl
theorem tb_2_35 : (Jvm.Cond.selects "NineNoons$Valley" yX5_becomeLike yX5_becomeLike) ∈ nn_B := nn_m2 (k := 35) rfl rfl
theorem tb_2_36 : (Jvm.Cond.code yX5_becomeLike prog_7_method_2_code (2 : Nat) (Option.none : Option Jvm.ClassFile.FieldType)) ∈ nn_B := nn_m2 (k := 36) rfl rfl
theorem tb_2_37 : (Jvm.Cond.methodLink "NineNoons$Valley" (37 : Nat) arraycopyName) ∈ nn_B := nn_m2 (k := 37) rfl rfl
theorem tb_2_38 : (Jvm.Cond.static arraycopyName) ∈ nn_B := nn_m2 (k := 38) rfl rfl
theorem tb_2_39 : (Jvm.Cond.native arraycopyName) ∈ nn_B := nn_m2 (k := 39) rfl rfl
theorem tb_2_40 : (Jvm.Cond.methodLink "NineNoons" (121 : Nat) yX4_readInto) ∈ nn_B := nn_m2 (k := 40) rfl rfl
theorem tb_2_41 : (Jvm.Cond.instanceMethod yX4_readInto) ∈ nn_B := nn_m2 (k := 41) rfl rfl
theorem tb_2_42 : (Jvm.Cond.selects "NineNoons$Tape" yX4_readInto yX4_readInto) ∈ nn_B := nn_m2 (k := 42) rfl rfl
theorem tb_2_43 : (Jvm.Cond.code yX4_readInto prog_6_method_3_code (4 : Nat) (Option.some Jvm.ClassFile.FieldType.int)) ∈ nn_B := nn_m2 (k := 43) rfl rfl
theorem tb_2_44 : (Jvm.Cond.methodLink "NineNoons$Tape" (25 : Nat) yX5_clear) ∈ nn_B := nn_m2 (k := 44) rfl rfl
theorem tb_2_45 : (Jvm.Cond.instanceMethod yX5_clear) ∈ nn_B := nn_m2 (k := 45) rfl rfl
theorem tb_2_46 : (Jvm.Cond.selects "NineNoons$Valley" yX5_clear yX5_clear) ∈ nn_B := nn_m2 (k := 46) rfl rfl
theorem tb_2_47 : (Jvm.Cond.code yX5_clear prog_7_method_3_code (1 : Nat) (Option.none : Option Jvm.ClassFile.FieldType)) ∈ nn_B := nn_m2 (k := 47) rfl rfl
theorem tb_2_48 : (Jvm.Cond.methodLink "NineNoons$Tape" (30 : Nat) yX4_readVillage) ∈ nn_B := nn_m2 (k := 48) rfl rfl
theorem tb_2_50 : (Jvm.Cond.instanceMethod yX4_readVillage) ∈ nn_B := nn_m2 (k := 50) rfl rfl
theorem tb_2_51 : (Jvm.Cond.code yX4_readVillage prog_6_method_4_code (6 : Nat) (Option.none : Option Jvm.ClassFile.FieldType)) ∈ nn_B := nn_m2 (k := 51) rfl rfl
theorem tb_2_52 : (Jvm.Cond.methodLink "NineNoons$Tape" (46 : Nat) yX4_readKind) ∈ nn_B := nn_m2 (k := 52) rfl rfl
theorem tb_2_54 : (Jvm.Cond.instanceMethod yX4_readKind) ∈ nn_B := nn_m2 (k := 54) rfl rfl
theorem tb_2_55 : (Jvm.Cond.code yX4_readKind prog_6_method_5_code (1 : Nat) (Option.some Jvm.ClassFile.FieldType.int)) ∈ nn_B := nn_m2 (k := 55) rfl rfl
theorem tb_2_56 : (Jvm.Cond.methodLink "NineNoons$Tape" (34 : Nat) yX4_takes) ∈ nn_B := nn_m2 (k := 56) rfl rfl
theorem tb_2_58 : (Jvm.Cond.instanceMethod yX4_takes) ∈ nn_B := nn_m2 (k := 58) rfl rfl
theorem tb_2_59 : (Jvm.Cond.code yX4_takes prog_6_method_9_code (2 : Nat) (Option.some Jvm.ClassFile.FieldType.boolean)) ∈ nn_B := nn_m2 (k := 59) rfl rfl
theorem tb_2_60 : (Jvm.Cond.methodLink "NineNoons$Tape" (38 : Nat) yX4_comingLetter) ∈ nn_B := nn_m2 (k := 60) rfl rfl
theorem tb_2_62 : (Jvm.Cond.instanceMethod yX4_comingLetter) ∈ nn_B := nn_m2 (k := 62) rfl rfl
theorem tb_2_63 : (Jvm.Cond.code yX4_comingLetter prog_6_method_10_code (1 : Nat) (Option.some Jvm.ClassFile.FieldType.char)) ∈ nn_B := nn_m2 (k := 63) rfl rfl
theorem tb_2_64 : (Jvm.Cond.methodLink "NineNoons$Tape" (42 : Nat) yX4_faultAt) ∈ nn_B := nn_m2 (k := 64) rfl rfl
theorem tb_2_66 : (Jvm.Cond.instanceMethod yX4_faultAt) ∈ nn_B := nn_m2 (k := 66) rfl rfl
theorem tb_2_67 : (Jvm.Cond.code yX4_faultAt prog_6_method_11_code (2 : Nat) (Option.none : Option Jvm.ClassFile.FieldType)) ∈ nn_B := nn_m2 (k := 67) rfl rfl
theorem tb_2_68 : (Jvm.Cond.methodLink "NineNoons$Tape" (50 : Nat) yX4_readNumber) ∈ nn_B := nn_m2 (k := 68) rfl rfl
theorem tb_2_70 : (Jvm.Cond.instanceMethod yX4_readNumber) ∈ nn_B := nn_m2 (k := 70) rfl rfl
theorem tb_2_71 : (Jvm.Cond.code yX4_readNumber prog_6_method_7_code (4 : Nat) (Option.some Jvm.ClassFile.FieldType.int)) ∈ nn_B := nn_m2 (k := 71) rfl rfl
theorem tb_2_72 : (Jvm.Cond.methodLink "NineNoons$Tape" (61 : Nat) yX4_isDigit) ∈ nn_B := nn_m2 (k := 72) rfl rfl
theorem tb_2_73 : (Jvm.Cond.static yX4_isDigit) ∈ nn_B := nn_m2 (k := 73) rfl rfl
theorem tb_2_74 : (Jvm.Cond.code yX4_isDigit prog_6_method_12_code (1 : Nat) (Option.some Jvm.ClassFile.FieldType.boolean)) ∈ nn_B := nn_m2 (k := 74) rfl rfl
theorem tb_2_75 : (Jvm.Cond.methodLink "NineNoons$Tape" (64 : Nat) yX4_takeDigit) ∈ nn_B := nn_m2 (k := 75) rfl rfl
theorem tb_2_77 : (Jvm.Cond.instanceMethod yX4_takeDigit) ∈ nn_B := nn_m2 (k := 77) rfl rfl
theorem tb_2_78 : (Jvm.Cond.code yX4_takeDigit prog_6_method_8_code (2 : Nat) (Option.some Jvm.ClassFile.FieldType.int)) ∈ nn_B := nn_m2 (k := 78) rfl rfl
theorem tb_2_79 : (Jvm.Cond.methodLink "NineNoons$Tape" (54 : Nat) yX4_readDrift) ∈ nn_B := nn_m2 (k := 79) rfl rfl
theorem tb_2_81 : (Jvm.Cond.instanceMethod yX4_readDrift) ∈ nn_B := nn_m2 (k := 81) rfl rfl
theorem tb_2_82 : (Jvm.Cond.code yX4_readDrift prog_6_method_6_code (2 : Nat) (Option.some Jvm.ClassFile.FieldType.int)) ∈ nn_B := nn_m2 (k := 82) rfl rfl
theorem tb_2_83 : (Jvm.Cond.methodLink "NineNoons$Tape" (57 : Nat) yX5_build) ∈ nn_B := nn_m2 (k := 83) rfl rfl
theorem tb_2_84 : (Jvm.Cond.methodLink "NineNoonsLaw" (37 : Nat) yX6_count) ∈ nn_B := nn_m2 (k := 84) rfl rfl
theorem tb_2_85 : (Jvm.Cond.instanceMethod yX6_count) ∈ nn_B := nn_m2 (k := 85) rfl rfl
theorem tb_2_86 : (Jvm.Cond.selects "NineNoons" yX6_count yX6_count) ∈ nn_B := nn_m2 (k := 86) rfl rfl
theorem tb_2_87 : (Jvm.Cond.code yX6_count prog_1_method_7_code (2 : Nat) (Option.some Jvm.ClassFile.FieldType.int)) ∈ nn_B := nn_m2 (k := 87) rfl rfl
theorem tb_2_88 : (Jvm.Cond.methodLink "NineNoons" (128 : Nat) yX5_leastGap) ∈ nn_B := nn_m2 (k := 88) rfl rfl
theorem tb_2_89 : (Jvm.Cond.instanceMethod yX5_leastGap) ∈ nn_B := nn_m2 (k := 89) rfl rfl
theorem tb_2_90 : (Jvm.Cond.selects "NineNoons$Valley" yX5_leastGap yX5_leastGap) ∈ nn_B := nn_m2 (k := 90) rfl rfl
theorem tb_2_91 : (Jvm.Cond.code yX5_leastGap prog_7_method_8_code (4 : Nat) (Option.some Jvm.ClassFile.FieldType.int)) ∈ nn_B := nn_m2 (k := 91) rfl rfl
theorem tb_2_92 : (Jvm.Cond.methodLink "NineNoons$Valley" (51 : Nat) yX5_gapBetween) ∈ nn_B := nn_m2 (k := 92) rfl rfl
theorem tb_2_93 : (Jvm.Cond.methodLink "NineNoons$Valley" (54 : Nat) yJ9_min_7cf53) ∈ nn_B := nn_m2 (k := 93) rfl rfl
theorem tb_2_94 : (Jvm.Cond.static yJ9_min_7cf53) ∈ nn_B := nn_m2 (k := 94) rfl rfl
theorem tb_2_95 : (Jvm.Cond.code yJ9_min_7cf53 prog_12_method_69_code (2 : Nat) (Option.some Jvm.ClassFile.FieldType.int)) ∈ nn_B := nn_m2 (k := 95) rfl rfl
theorem tb_2_96 : (Jvm.Cond.methodLink "NineNoons" (132 : Nat) yX5_ringers) ∈ nn_B := nn_m2 (k := 96) rfl rfl
theorem tb_2_97 : (Jvm.Cond.instanceMethod yX5_ringers) ∈ nn_B := nn_m2 (k := 97) rfl rfl
theorem tb_2_98 : (Jvm.Cond.selects "NineNoons$Valley" yX5_ringers yX5_ringers) ∈ nn_B := nn_m2 (k := 98) rfl rfl
theorem tb_2_99 : (Jvm.Cond.code yX5_ringers prog_7_method_10_code (3 : Nat) (Option.some Jvm.ClassFile.FieldType.int)) ∈ nn_B := nn_m2 (k := 99) rfl rfl
theorem tb_2_100 : (Jvm.Cond.methodLink "NineNoons$Valley" (59 : Nat) yX5_ringersWith) ∈ nn_B := nn_m2 (k := 100) rfl rfl
theorem tb_2_101 : (Jvm.Cond.methodLink "NineNoons" (135 : Nat) yX5_sumOf) ∈ nn_B := nn_m2 (k := 101) rfl rfl
theorem tb_2_102 : (Jvm.Cond.instanceMethod yX5_sumOf) ∈ nn_B := nn_m2 (k := 102) rfl rfl
theorem tb_2_103 : (Jvm.Cond.selects "NineNoons$Valley" yX5_sumOf yX5_sumOf) ∈ nn_B := nn_m2 (k := 103) rfl rfl
theorem tb_2_104 : (Jvm.Cond.code yX5_sumOf prog_7_method_11_code (4 : Nat) (Option.some Jvm.ClassFile.FieldType.int)) ∈ nn_B := nn_m2 (k := 104) rfl rfl
theorem tb_2_105 : (Jvm.Cond.methodLink "NineNoonsLaw" (41 : Nat) yX6_days) ∈ nn_B := nn_m2 (k := 105) rfl rfl
theorem tb_2_106 : (Jvm.Cond.instanceMethod yX6_days) ∈ nn_B := nn_m2 (k := 106) rfl rfl
theorem tb_2_107 : (Jvm.Cond.selects "NineNoons" yX6_days yX6_days) ∈ nn_B := nn_m2 (k := 107) rfl rfl
theorem tb_2_108 : (Jvm.Cond.code yX6_days prog_1_method_8_code (2 : Nat) (Option.some Jvm.ClassFile.FieldType.int)) ∈ nn_B := nn_m2 (k := 108) rfl rfl
theorem tb_2_109 : (Jvm.Cond.methodLink "NineNoons" (142 : Nat) yX6_passDays) ∈ nn_B := nn_m2 (k := 109) rfl rfl
theorem tb_2_111 : (Jvm.Cond.instanceMethod yX6_passDays) ∈ nn_B := nn_m2 (k := 111) rfl rfl
theorem tb_2_112 : (Jvm.Cond.code yX6_passDays prog_1_method_15_code (4 : Nat) (Option.some Jvm.ClassFile.FieldType.int)) ∈ nn_B := nn_m2 (k := 112) rfl rfl
theorem tb_2_113 : (Jvm.Cond.methodLink "NineNoons" (146 : Nat) yX1_remember) ∈ nn_B := nn_m2 (k := 113) rfl rfl
theorem tb_2_114 : (Jvm.Cond.instanceMethod yX1_remember) ∈ nn_B := nn_m2 (k := 114) rfl rfl
theorem tb_2_115 : (Jvm.Cond.selects "NineNoons$History" yX1_remember yX1_remember) ∈ nn_B := nn_m2 (k := 115) rfl rfl
theorem tb_2_116 : (Jvm.Cond.code yX1_remember prog_3_method_3_code (2 : Nat) (Option.none : Option Jvm.ClassFile.FieldType)) ∈ nn_B := nn_m2 (k := 116) rfl rfl
theorem tb_2_117 : (Jvm.Cond.methodLink "NineNoons$History" (25 : Nat) yX5_becomeLike) ∈ nn_B := nn_m2 (k := 117) rfl rfl
theorem tb_2_118 : (Jvm.Cond.methodLink "NineNoons$History" (29 : Nat) yJ9_min_7cf53) ∈ nn_B := nn_m2 (k := 118) rfl rfl
theorem tb_2_119 : (Jvm.Cond.methodLink "NineNoons" (156 : Nat) yX5_drawRinger) ∈ nn_B := nn_m2 (k := 119) rfl rfl
theorem tb_2_120 : (Jvm.Cond.instanceMethod yX5_drawRinger) ∈ nn_B := nn_m2 (k := 120) rfl rfl
theorem tb_2_121 : (Jvm.Cond.selects "NineNoons$Valley" yX5_drawRinger yX5_drawRinger) ∈ nn_B := nn_m2 (k := 121) rfl rfl
theorem tb_2_122 : (Jvm.Cond.code yX5_drawRinger prog_7_method_20_code (2 : Nat) (Option.none : Option Jvm.ClassFile.FieldType)) ∈ nn_B := nn_m2 (k := 122) rfl rfl
theorem tb_2_123 : (Jvm.Cond.constant "NineNoons$Valley" (93 : Nat) (1103515245 : Int32)) ∈ nn_B := nn_m2 (k := 123) rfl rfl
theorem tb_2_124 : (Jvm.Cond.constant "NineNoons$Valley" (94 : Nat) (2147483647 : Int32)) ∈ nn_B := nn_m2 (k := 124) rfl rfl
theorem tb_2_125 : (Jvm.Cond.constant "NineNoons$Valley" (95 : Nat) (65536 : Int32)) ∈ nn_B := nn_m2 (k := 125) rfl rfl
theorem tb_2_126 : (Jvm.Cond.methodLinkNest "NineNoons$Valley" (75 : Nat) yX6_roundTheHour "NineNoons") ∈ lw_tbl := nn_q2 (k := 126) rfl
theorem tb_2_127 : (Jvm.Cond.static yX6_roundTheHour) ∈ nn_B := nn_m2 (k := 127) rfl rfl
theorem tb_2_128 : (Jvm.Cond.code yX6_roundTheHour prog_1_method_44_code (1 : Nat) (Option.some Jvm.ClassFile.FieldType.int)) ∈ nn_B := nn_m2 (k := 128) rfl rfl
theorem tb_2_129 : (Jvm.Cond.methodLink "NineNoons" (279 : Nat) yJ9_floorMod_7cf53) ∈ nn_B := nn_m2 (k := 129) rfl rfl
theorem tb_2_130 : (Jvm.Cond.static yJ9_floorMod_7cf53) ∈ nn_B := nn_m2 (k := 130) rfl rfl
theorem tb_2_131 : (Jvm.Cond.code yJ9_floorMod_7cf53 prog_12_method_50_code (3 : Nat) (Option.some Jvm.ClassFile.FieldType.int)) ∈ nn_B := nn_m2 (k := 131) rfl rfl
theorem tb_2_132 : (Jvm.Cond.methodLink "NineNoons" (159 : Nat) yX5_passDay) ∈ nn_B := nn_m2 (k := 132) rfl rfl
theorem tb_2_133 : (Jvm.Cond.instanceMethod yX5_passDay) ∈ nn_B := nn_m2 (k := 133) rfl rfl
theorem tb_2_134 : (Jvm.Cond.selects "NineNoons$Valley" yX5_passDay yX5_passDay) ∈ nn_B := nn_m2 (k := 134) rfl rfl
theorem tb_2_135 : (Jvm.Cond.code yX5_passDay prog_7_method_19_code (2 : Nat) (Option.none : Option Jvm.ClassFile.FieldType)) ∈ nn_B := nn_m2 (k := 135) rfl rfl
theorem tb_2_136 : (Jvm.Cond.methodLink "NineNoons$Valley" (90 : Nat) yX5_laterBy) ∈ nn_B := nn_m2 (k := 136) rfl rfl
theorem tb_2_137 : (Jvm.Cond.methodLink "NineNoonsLaw" (45 : Nat) yX6_set) ∈ nn_B := nn_m2 (k := 137) rfl rfl
theorem tb_2_138 : (Jvm.Cond.instanceMethod yX6_set) ∈ nn_B := nn_m2 (k := 138) rfl rfl
theorem tb_2_139 : (Jvm.Cond.selects "NineNoons" yX6_set yX6_set) ∈ nn_B := nn_m2 (k := 139) rfl rfl
theorem tb_2_140 : (Jvm.Cond.code yX6_set prog_1_method_9_code (4 : Nat) (Option.some Jvm.ClassFile.FieldType.int)) ∈ nn_B := nn_m2 (k := 140) rfl rfl
theorem tb_2_141 : (Jvm.Cond.methodLink "NineNoonsLaw" (49 : Nat) yX6_move) ∈ nn_B := nn_m2 (k := 141) rfl rfl
theorem tb_2_142 : (Jvm.Cond.instanceMethod yX6_move) ∈ nn_B := nn_m2 (k := 142) rfl rfl
theorem tb_2_143 : (Jvm.Cond.selects "NineNoons" yX6_move yX6_move) ∈ nn_B := nn_m2 (k := 143) rfl rfl
theorem tb_2_144 : (Jvm.Cond.code yX6_move prog_1_method_10_code (4 : Nat) (Option.some Jvm.ClassFile.FieldType.int)) ∈ nn_B := nn_m2 (k := 144) rfl rfl
theorem tb_2_145 : (Jvm.Cond.methodLink "NineNoonsLaw" (53 : Nat) yX6_tune) ∈ nn_B := nn_m2 (k := 145) rfl rfl
theorem tb_2_146 : (Jvm.Cond.instanceMethod yX6_tune) ∈ nn_B := nn_m2 (k := 146) rfl rfl
theorem tb_2_147 : (Jvm.Cond.selects "NineNoons" yX6_tune yX6_tune) ∈ nn_B := nn_m2 (k := 147) rfl rfl
theorem tb_2_148 : (Jvm.Cond.code yX6_tune prog_1_method_11_code (4 : Nat) (Option.some Jvm.ClassFile.FieldType.int)) ∈ nn_B := nn_m2 (k := 148) rfl rfl
theorem tb_2_149 : (Jvm.Cond.methodLink "NineNoonsLaw" (57 : Nat) yX6_storm) ∈ nn_B := nn_m2 (k := 149) rfl rfl
theorem tb_2_150 : (Jvm.Cond.instanceMethod yX6_storm) ∈ nn_B := nn_m2 (k := 150) rfl rfl
theorem tb_2_151 : (Jvm.Cond.selects "NineNoons" yX6_storm yX6_storm) ∈ nn_B := nn_m2 (k := 151) rfl rfl
theorem tb_2_152 : (Jvm.Cond.code yX6_storm prog_1_method_12_code (2 : Nat) (Option.some Jvm.ClassFile.FieldType.int)) ∈ nn_B := nn_m2 (k := 152) rfl rfl
theorem tb_2_153 : (Jvm.Cond.methodLink "NineNoonsLaw" (61 : Nat) yX6_undo) ∈ nn_B := nn_m2 (k := 153) rfl rfl
theorem tb_2_154 : (Jvm.Cond.instanceMethod yX6_undo) ∈ nn_B := nn_m2 (k := 154) rfl rfl
theorem tb_2_155 : (Jvm.Cond.selects "NineNoons" yX6_undo yX6_undo) ∈ nn_B := nn_m2 (k := 155) rfl rfl
theorem tb_2_156 : (Jvm.Cond.code yX6_undo prog_1_method_13_code (1 : Nat) (Option.some Jvm.ClassFile.FieldType.int)) ∈ nn_B := nn_m2 (k := 156) rfl rfl
theorem tb_2_157 : (Jvm.Cond.methodLink "NineNoons" (149 : Nat) yX1_takeBack) ∈ nn_B := nn_m2 (k := 157) rfl rfl
theorem tb_2_158 : (Jvm.Cond.instanceMethod yX1_takeBack) ∈ nn_B := nn_m2 (k := 158) rfl rfl
theorem tb_2_159 : (Jvm.Cond.selects "NineNoons$History" yX1_takeBack yX1_takeBack) ∈ nn_B := nn_m2 (k := 159) rfl rfl
theorem tb_2_160 : (Jvm.Cond.code yX1_takeBack prog_3_method_4_code (2 : Nat) (Option.some Jvm.ClassFile.FieldType.boolean)) ∈ nn_B := nn_m2 (k := 160) rfl rfl
theorem tb_2_161 : (Jvm.Cond.methodLink "NineNoonsLaw" (65 : Nat) yX6_seed) ∈ nn_B := nn_m2 (k := 161) rfl rfl
theorem tb_2_162 : (Jvm.Cond.instanceMethod yX6_seed) ∈ nn_B := nn_m2 (k := 162) rfl rfl
theorem tb_2_163 : (Jvm.Cond.selects "NineNoons" yX6_seed yX6_seed) ∈ nn_B := nn_m2 (k := 163) rfl rfl
theorem tb_2_164 : (Jvm.Cond.code yX6_seed prog_1_method_14_code (3 : Nat) (Option.some Jvm.ClassFile.FieldType.int)) ∈ nn_B := nn_m2 (k := 164) rfl rfl
theorem tb_2_165 : (Jvm.Cond.methodLink "NineNoonsLaw" (69 : Nat) yX6_ahead) ∈ nn_B := nn_m2 (k := 165) rfl rfl
theorem tb_2_166 : (Jvm.Cond.instanceMethod yX6_ahead) ∈ nn_B := nn_m2 (k := 166) rfl rfl
theorem tb_2_167 : (Jvm.Cond.selects "NineNoons" yX6_ahead yX6_ahead) ∈ nn_B := nn_m2 (k := 167) rfl rfl
theorem tb_2_168 : (Jvm.Cond.code yX6_ahead prog_1_method_16_code (3 : Nat) (Option.some Jvm.ClassFile.FieldType.int)) ∈ nn_B := nn_m2 (k := 168) rfl rfl
theorem tb_2_169 : (Jvm.Cond.methodLink "NineNoons" (162 : Nat) yX6_foretell) ∈ nn_B := nn_m2 (k := 169) rfl rfl
theorem tb_2_171 : (Jvm.Cond.instanceMethod yX6_foretell) ∈ nn_B := nn_m2 (k := 171) rfl rfl
theorem tb_2_172 : (Jvm.Cond.code yX6_foretell prog_1_method_28_code (3 : Nat) (Option.none : Option Jvm.ClassFile.FieldType)) ∈ nn_B := nn_m2 (k := 172) rfl rfl
theorem tb_2_173 : (Jvm.Cond.methodLink "NineNoonsLaw" (73 : Nat) yX6_near) ∈ nn_B := nn_m2 (k := 173) rfl rfl
theorem tb_2_174 : (Jvm.Cond.instanceMethod yX6_near) ∈ nn_B := nn_m2 (k := 174) rfl rfl
theorem tb_2_175 : (Jvm.Cond.selects "NineNoons" yX6_near yX6_near) ∈ nn_B := nn_m2 (k := 175) rfl rfl
theorem tb_2_176 : (Jvm.Cond.code yX6_near prog_1_method_17_code (2 : Nat) (Option.some Jvm.ClassFile.FieldType.int)) ∈ nn_B := nn_m2 (k := 176) rfl rfl
theorem tb_2_177 : (Jvm.Cond.methodLink "NineNoonsLaw" (77 : Nat) yX6_meet) ∈ nn_B := nn_m2 (k := 177) rfl rfl
theorem tb_2_178 : (Jvm.Cond.instanceMethod yX6_meet) ∈ nn_B := nn_m2 (k := 178) rfl rfl
theorem tb_2_179 : (Jvm.Cond.selects "NineNoons" yX6_meet yX6_meet) ∈ nn_B := nn_m2 (k := 179) rfl rfl
theorem tb_2_180 : (Jvm.Cond.code yX6_meet prog_1_method_18_code (4 : Nat) (Option.some Jvm.ClassFile.FieldType.int)) ∈ nn_B := nn_m2 (k := 180) rfl rfl
theorem tb_2_181 : (Jvm.Cond.methodLink "NineNoonsLaw" (81 : Nat) yX6_together) ∈ nn_B := nn_m2 (k := 181) rfl rfl
theorem tb_2_182 : (Jvm.Cond.instanceMethod yX6_together) ∈ nn_B := nn_m2 (k := 182) rfl rfl
theorem tb_2_183 : (Jvm.Cond.selects "NineNoons" yX6_together yX6_together) ∈ nn_B := nn_m2 (k := 183) rfl rfl
theorem tb_2_184 : (Jvm.Cond.code yX6_together prog_1_method_19_code (3 : Nat) (Option.some Jvm.ClassFile.FieldType.int)) ∈ nn_B := nn_m2 (k := 184) rfl rfl
theorem tb_2_185 : (Jvm.Cond.methodLink "NineNoons" (166 : Nat) yX5_passDaysUntilTogether) ∈ nn_B := nn_m2 (k := 185) rfl rfl
theorem tb_2_186 : (Jvm.Cond.instanceMethod yX5_passDaysUntilTogether) ∈ nn_B := nn_m2 (k := 186) rfl rfl
theorem tb_2_187 : (Jvm.Cond.selects "NineNoons$Valley" yX5_passDaysUntilTogether yX5_passDaysUntilTogether) ∈ nn_B := nn_m2 (k := 187) rfl rfl
theorem tb_2_188 : (Jvm.Cond.code yX5_passDaysUntilTogether prog_7_method_21_code (2 : Nat) (Option.some Jvm.ClassFile.FieldType.int)) ∈ nn_B := nn_m2 (k := 188) rfl rfl
theorem tb_2_189 : (Jvm.Cond.methodLink "NineNoons$Valley" (96 : Nat) yX5_ringers) ∈ nn_B := nn_m2 (k := 189) rfl rfl
theorem tb_2_190 : (Jvm.Cond.methodLink "NineNoons$Valley" (100 : Nat) yX5_passDay) ∈ nn_B := nn_m2 (k := 190) rfl rfl
theorem tb_2_191 : (Jvm.Cond.methodLink "NineNoonsLaw" (85 : Nat) yX6_fix) ∈ nn_B := nn_m2 (k := 191) rfl rfl
theorem tb_2_192 : (Jvm.Cond.instanceMethod yX6_fix) ∈ nn_B := nn_m2 (k := 192) rfl rfl
theorem tb_2_193 : (Jvm.Cond.selects "NineNoons" yX6_fix yX6_fix) ∈ nn_B := nn_m2 (k := 193) rfl rfl
theorem tb_2_194 : (Jvm.Cond.code yX6_fix prog_1_method_20_code (4 : Nat) (Option.some Jvm.ClassFile.FieldType.int)) ∈ nn_B := nn_m2 (k := 194) rfl rfl
theorem tb_2_195 : (Jvm.Cond.methodLink "NineNoons" (169 : Nat) yX2_leastTotal) ∈ nn_B := nn_m2 (k := 195) rfl rfl
theorem tb_2_196 : (Jvm.Cond.instanceMethod yX2_leastTotal) ∈ nn_B := nn_m2 (k := 196) rfl rfl
theorem tb_2_197 : (Jvm.Cond.selects "NineNoons$Setter" yX2_leastTotal yX2_leastTotal) ∈ nn_B := nn_m2 (k := 197) rfl rfl
theorem tb_2_198 : (Jvm.Cond.code yX2_leastTotal prog_4_method_2_code (3 : Nat) (Option.some Jvm.ClassFile.FieldType.int)) ∈ nn_B := nn_m2 (k := 198) rfl rfl
theorem tb_2_199 : (Jvm.Cond.constantLong "NineNoons$Setter" (22 : Nat) (1152921504606846975 : Int64)) ∈ nn_B := nn_m2 (k := 199) rfl rfl
theorem tb_2_200 : (Jvm.Cond.methodLink "NineNoons$Setter" (24 : Nat) yX2_settleRest) ∈ nn_B := nn_m2 (k := 200) rfl rfl
theorem tb_2_202 : (Jvm.Cond.instanceMethod yX2_settleRest) ∈ nn_B := nn_m2 (k := 202) rfl rfl
theorem tb_2_203 : (Jvm.Cond.code yX2_settleRest prog_4_method_3_code (9 : Nat) (Option.none : Option Jvm.ClassFile.FieldType)) ∈ nn_B := nn_m2 (k := 203) rfl rfl
theorem tb_2_204 : (Jvm.Cond.methodLink "NineNoons$Setter" (33 : Nat) arraycopyName) ∈ nn_B := nn_m2 (k := 204) rfl rfl
theorem tb_2_205 : (Jvm.Cond.methodLink "NineNoons$Setter" (39 : Nat) yJ9_abs_0f7a4) ∈ nn_B := nn_m2 (k := 205) rfl rfl
theorem tb_2_206 : (Jvm.Cond.methodLink "NineNoons$Setter" (45 : Nat) yX2_settleBy) ∈ nn_B := nn_m2 (k := 206) rfl rfl
theorem tb_2_208 : (Jvm.Cond.instanceMethod yX2_settleBy) ∈ nn_B := nn_m2 (k := 208) rfl rfl
theorem tb_2_209 : (Jvm.Cond.code yX2_settleBy prog_4_method_4_code (9 : Nat) (Option.none : Option Jvm.ClassFile.FieldType)) ∈ nn_B := nn_m2 (k := 209) rfl rfl
theorem tb_2_210 : (Jvm.Cond.methodLinkNest "NineNoons$Setter" (52 : Nat) yX6_roundTheHour "NineNoons") ∈ lw_tbl := nn_q2 (k := 210) rfl
theorem tb_2_211 : (Jvm.Cond.methodLinkNest "NineNoons$Setter" (55 : Nat) yX6_minutesNear "NineNoons") ∈ lw_tbl := nn_q2 (k := 211) rfl
theorem tb_2_212 : (Jvm.Cond.static yX6_minutesNear) ∈ nn_B := nn_m2 (k := 212) rfl rfl
theorem tb_2_213 : (Jvm.Cond.code yX6_minutesNear prog_1_method_46_code (5 : Nat) (Option.some Jvm.ClassFile.FieldType.long)) ∈ nn_B := nn_m2 (k := 213) rfl rfl
theorem tb_2_214 : (Jvm.Cond.methodLink "NineNoons" (282 : Nat) yX6_roundTheHour) ∈ nn_B := nn_m2 (k := 214) rfl rfl
theorem tb_2_215 : (Jvm.Cond.constantLong "NineNoons" (285 : Nat) (1152921504606846975 : Int64)) ∈ nn_B := nn_m2 (k := 215) rfl rfl
theorem tb_2_216 : (Jvm.Cond.constantLong "NineNoons$Setter" (59 : Nat) (-1 : Int64)) ∈ nn_B := nn_m2 (k := 216) rfl rfl
theorem tb_2_217 : (Jvm.Cond.methodLink "NineNoonsLaw" (89 : Nat) yX6_free) ∈ nn_B := nn_m2 (k := 217) rfl rfl
theorem tb_2_218 : (Jvm.Cond.instanceMethod yX6_free) ∈ nn_B := nn_m2 (k := 218) rfl rfl
theorem tb_2_219 : (Jvm.Cond.selects "NineNoons" yX6_free yX6_free) ∈ nn_B := nn_m2 (k := 219) rfl rfl
theorem tb_2_220 : (Jvm.Cond.code yX6_free prog_1_method_21_code (5 : Nat) (Option.some Jvm.ClassFile.FieldType.long)) ∈ nn_B := nn_m2 (k := 220) rfl rfl
theorem tb_2_221 : (Jvm.Cond.constantLong "NineNoons" (176 : Nat) (-1 : Int64)) ∈ nn_B := nn_m2 (k := 221) rfl rfl
theorem tb_2_222 : (Jvm.Cond.methodLink "NineNoons" (178 : Nat) yX5_freeMinutes) ∈ nn_B := nn_m2 (k := 222) rfl rfl
theorem tb_2_223 : (Jvm.Cond.instanceMethod yX5_freeMinutes) ∈ nn_B := nn_m2 (k := 223) rfl rfl
theorem tb_2_224 : (Jvm.Cond.selects "NineNoons$Valley" yX5_freeMinutes yX5_freeMinutes) ∈ nn_B := nn_m2 (k := 224) rfl rfl
theorem tb_2_225 : (Jvm.Cond.code yX5_freeMinutes prog_7_method_12_code (5 : Nat) (Option.some Jvm.ClassFile.FieldType.long)) ∈ nn_B := nn_m2 (k := 225) rfl rfl
theorem tb_2_226 : (Jvm.Cond.constantLong "NineNoons$Valley" (63 : Nat) (1152921504606846975 : Int64)) ∈ nn_B := nn_m2 (k := 226) rfl rfl
theorem tb_2_227 : (Jvm.Cond.methodLinkNest "NineNoons$Valley" (65 : Nat) yX6_minutesNear "NineNoons") ∈ lw_tbl := nn_q2 (k := 227) rfl
theorem tb_2_228 : (Jvm.Cond.constantLong "NineNoons$Valley" (69 : Nat) (-1 : Int64)) ∈ nn_B := nn_m2 (k := 228) rfl rfl
theorem tb_2_229 : (Jvm.Cond.methodLink "NineNoons" (182 : Nat) yJ13_bitCount_95d88) ∈ nn_B := nn_m2 (k := 229) rfl rfl
theorem tb_2_230 : (Jvm.Cond.static yJ13_bitCount_95d88) ∈ nn_B := nn_m2 (k := 230) rfl rfl
theorem tb_2_231 : (Jvm.Cond.code yJ13_bitCount_95d88 prog_11_method_50_code (2 : Nat) (Option.some Jvm.ClassFile.FieldType.int)) ∈ nn_B := nn_m2 (k := 231) rfl rfl
theorem tb_2_232 : (Jvm.Cond.constantLong "java/lang/Long" (314 : Nat) (6148914691236517205 : Int64)) ∈ nn_B := nn_m2 (k := 232) rfl rfl
theorem tb_2_233 : (Jvm.Cond.constantLong "java/lang/Long" (316 : Nat) (3689348814741910323 : Int64)) ∈ nn_B := nn_m2 (k := 233) rfl rfl
theorem tb_2_234 : (Jvm.Cond.constantLong "java/lang/Long" (318 : Nat) (1085102592571150095 : Int64)) ∈ nn_B := nn_m2 (k := 234) rfl rfl
theorem tb_2_235 : (Jvm.Cond.constantLong "NineNoons" (188 : Nat) (-4 : Int64)) ∈ nn_B := nn_m2 (k := 235) rfl rfl
theorem tb_2_236 : (Jvm.Cond.methodLink "NineNoons" (190 : Nat) yJ13_numberOfTrailingZeros_95d88) ∈ nn_B := nn_m2 (k := 236) rfl rfl
theorem tb_2_237 : (Jvm.Cond.static yJ13_numberOfTrailingZeros_95d88) ∈ nn_B := nn_m2 (k := 237) rfl rfl
theorem tb_2_238 : (Jvm.Cond.code yJ13_numberOfTrailingZeros_95d88 prog_11_method_49_code (3 : Nat) (Option.some Jvm.ClassFile.FieldType.int)) ∈ nn_B := nn_m2 (k := 238) rfl rfl
theorem tb_2_239 : (Jvm.Cond.methodLink "java/lang/Long" (311 : Nat) yJ6_numberOfTrailingZeros_0f7a4) ∈ nn_B := nn_m2 (k := 239) rfl rfl
theorem tb_3_0 : (Jvm.Cond.static yJ6_numberOfTrailingZeros_0f7a4) ∈ nn_B := nn_m3 (k := 0) rfl rfl
theorem tb_3_1 : (Jvm.Cond.code yJ6_numberOfTrailingZeros_0f7a4 prog_10_method_48_code (2 : Nat) (Option.some Jvm.ClassFile.FieldType.int)) ∈ nn_B := nn_m3 (k := 1) rfl rfl
theorem tb_3_2 : (Jvm.Cond.constant "java/lang/Integer" (264 : Nat) (65536 : Int32)) ∈ nn_B := nn_m3 (k := 2) rfl rfl
theorem tb_3_3 : (Jvm.Cond.methodLink "NineNoonsLaw" (94 : Nat) yX6_hear) ∈ nn_B := nn_m3 (k := 3) rfl rfl
theorem tb_3_4 : (Jvm.Cond.instanceMethod yX6_hear) ∈ nn_B := nn_m3 (k := 4) rfl rfl
theorem tb_3_5 : (Jvm.Cond.selects "NineNoons" yX6_hear yX6_hear) ∈ nn_B := nn_m3 (k := 5) rfl rfl
theorem tb_3_6 : (Jvm.Cond.code yX6_hear prog_1_method_22_code (6 : Nat) (Option.some Jvm.ClassFile.FieldType.int)) ∈ nn_B := nn_m3 (k := 6) rfl rfl
theorem tb_3_7 : (Jvm.Cond.methodLink "NineNoons" (193 : Nat) yX0_soonest) ∈ nn_B := nn_m3 (k := 7) rfl rfl
theorem tb_3_8 : (Jvm.Cond.instanceMethod yX0_soonest) ∈ nn_B := nn_m3 (k := 8) rfl rfl
theorem tb_3_9 : (Jvm.Cond.selects "NineNoons$Carrier" yX0_soonest yX0_soonest) ∈ nn_B := nn_m3 (k := 9) rfl rfl
theorem tb_3_10 : (Jvm.Cond.code yX0_soonest prog_2_method_2_code (5 : Nat) (Option.some Jvm.ClassFile.FieldType.int)) ∈ nn_B := nn_m3 (k := 10) rfl rfl
theorem tb_3_11 : (Jvm.Cond.methodLink "NineNoons$Carrier" (31 : Nat) yX0_hearRest) ∈ nn_B := nn_m3 (k := 11) rfl rfl
theorem tb_3_13 : (Jvm.Cond.instanceMethod yX0_hearRest) ∈ nn_B := nn_m3 (k := 13) rfl rfl
theorem tb_3_14 : (Jvm.Cond.code yX0_hearRest prog_2_method_3_code (8 : Nat) (Option.none : Option Jvm.ClassFile.FieldType)) ∈ nn_B := nn_m3 (k := 14) rfl rfl
theorem tb_3_15 : (Jvm.Cond.methodLink "NineNoons$Carrier" (38 : Nat) arraycopyName) ∈ nn_B := nn_m3 (k := 15) rfl rfl
theorem tb_3_16 : (Jvm.Cond.methodLinkNest "NineNoons$Carrier" (44 : Nat) yX6_isIn "NineNoons") ∈ lw_tbl := nn_q3 (k := 16) rfl
theorem tb_3_17 : (Jvm.Cond.static yX6_isIn) ∈ nn_B := nn_m3 (k := 17) rfl rfl
theorem tb_3_18 : (Jvm.Cond.code yX6_isIn prog_1_method_43_code (2 : Nat) (Option.some Jvm.ClassFile.FieldType.boolean)) ∈ nn_B := nn_m3 (k := 18) rfl rfl
theorem tb_3_19 : (Jvm.Cond.methodLink "NineNoons$Carrier" (48 : Nat) yJ9_abs_0f7a4) ∈ nn_B := nn_m3 (k := 19) rfl rfl
theorem tb_3_20 : (Jvm.Cond.methodLink "NineNoons$Carrier" (54 : Nat) yX0_hearFirst) ∈ nn_B := nn_m3 (k := 20) rfl rfl
theorem tb_3_22 : (Jvm.Cond.instanceMethod yX0_hearFirst) ∈ nn_B := nn_m3 (k := 22) rfl rfl
theorem tb_3_23 : (Jvm.Cond.code yX0_hearFirst prog_2_method_4_code (7 : Nat) (Option.none : Option Jvm.ClassFile.FieldType)) ∈ nn_B := nn_m3 (k := 23) rfl rfl
theorem tb_3_24 : (Jvm.Cond.methodLinkNest "NineNoons$Carrier" (60 : Nat) yX6_roundTheHour "NineNoons") ∈ lw_tbl := nn_q3 (k := 24) rfl
theorem tb_3_25 : (Jvm.Cond.methodLink "NineNoonsLaw" (99 : Nat) yX6_again) ∈ nn_B := nn_m3 (k := 25) rfl rfl
theorem tb_3_26 : (Jvm.Cond.instanceMethod yX6_again) ∈ nn_B := nn_m3 (k := 26) rfl rfl
theorem tb_3_27 : (Jvm.Cond.selects "NineNoons" yX6_again yX6_again) ∈ nn_B := nn_m3 (k := 27) rfl rfl
theorem tb_3_28 : (Jvm.Cond.code yX6_again prog_1_method_23_code (2 : Nat) (Option.some Jvm.ClassFile.FieldType.int)) ∈ nn_B := nn_m3 (k := 28) rfl rfl
theorem tb_3_29 : (Jvm.Cond.methodLink "NineNoons" (200 : Nat) yX5_ringsLike) ∈ nn_B := nn_m3 (k := 29) rfl rfl
theorem tb_3_30 : (Jvm.Cond.instanceMethod yX5_ringsLike) ∈ nn_B := nn_m3 (k := 30) rfl rfl
theorem tb_3_31 : (Jvm.Cond.selects "NineNoons$Valley" yX5_ringsLike yX5_ringsLike) ∈ nn_B := nn_m3 (k := 31) rfl rfl
theorem tb_3_32 : (Jvm.Cond.code yX5_ringsLike prog_7_method_14_code (3 : Nat) (Option.some Jvm.ClassFile.FieldType.boolean)) ∈ nn_B := nn_m3 (k := 32) rfl rfl
theorem tb_3_33 : (Jvm.Cond.methodLink "NineNoonsLaw" (103 : Nat) yX6_worst) ∈ nn_B := nn_m3 (k := 33) rfl rfl
theorem tb_3_34 : (Jvm.Cond.instanceMethod yX6_worst) ∈ nn_B := nn_m3 (k := 34) rfl rfl
theorem tb_3_35 : (Jvm.Cond.selects "NineNoons" yX6_worst yX6_worst) ∈ nn_B := nn_m3 (k := 35) rfl rfl
theorem tb_3_36 : (Jvm.Cond.code yX6_worst prog_1_method_24_code (6 : Nat) (Option.some Jvm.ClassFile.FieldType.int)) ∈ nn_B := nn_m3 (k := 36) rfl rfl
theorem tb_3_37 : (Jvm.Cond.methodLink "NineNoons" (203 : Nat) yX6_togetherWithoutDriftOf) ∈ nn_B := nn_m3 (k := 37) rfl rfl
theorem tb_3_39 : (Jvm.Cond.instanceMethod yX6_togetherWithoutDriftOf) ∈ nn_B := nn_m3 (k := 39) rfl rfl
theorem tb_3_40 : (Jvm.Cond.code yX6_togetherWithoutDriftOf prog_1_method_29_code (2 : Nat) (Option.some Jvm.ClassFile.FieldType.int)) ∈ nn_B := nn_m3 (k := 40) rfl rfl
theorem tb_3_41 : (Jvm.Cond.methodLink "NineNoonsLaw" (107 : Nat) yX6_fog) ∈ nn_B := nn_m3 (k := 41) rfl rfl
theorem tb_3_42 : (Jvm.Cond.instanceMethod yX6_fog) ∈ nn_B := nn_m3 (k := 42) rfl rfl
theorem tb_3_43 : (Jvm.Cond.selects "NineNoons" yX6_fog yX6_fog) ∈ nn_B := nn_m3 (k := 43) rfl rfl
theorem tb_3_44 : (Jvm.Cond.code yX6_fog prog_1_method_25_code (6 : Nat) (Option.some Jvm.ClassFile.FieldType.int)) ∈ nn_B := nn_m3 (k := 44) rfl rfl
theorem tb_3_45 : (Jvm.Cond.methodLink "NineNoons" (206 : Nat) yX6_fogWaysApart) ∈ nn_B := nn_m3 (k := 45) rfl rfl
theorem tb_3_47 : (Jvm.Cond.instanceMethod yX6_fogWaysApart) ∈ nn_B := nn_m3 (k := 47) rfl rfl
theorem tb_3_48 : (Jvm.Cond.code yX6_fogWaysApart prog_1_method_30_code (7 : Nat) (Option.some Jvm.ClassFile.FieldType.int)) ∈ nn_B := nn_m3 (k := 48) rfl rfl
theorem tb_3_49 : (Jvm.Cond.methodLink "NineNoons" (224 : Nat) yX5_isApartWith) ∈ nn_B := nn_m3 (k := 49) rfl rfl
theorem tb_3_50 : (Jvm.Cond.instanceMethod yX5_isApartWith) ∈ nn_B := nn_m3 (k := 50) rfl rfl
theorem tb_3_51 : (Jvm.Cond.selects "NineNoons$Valley" yX5_isApartWith yX5_isApartWith) ∈ nn_B := nn_m3 (k := 51) rfl rfl
theorem tb_3_52 : (Jvm.Cond.code yX5_isApartWith prog_7_method_13_code (6 : Nat) (Option.some Jvm.ClassFile.FieldType.boolean)) ∈ nn_B := nn_m3 (k := 52) rfl rfl
theorem tb_3_53 : (Jvm.Cond.methodLinkNest "NineNoons$Valley" (71 : Nat) yX6_isIn "NineNoons") ∈ lw_tbl := nn_q3 (k := 53) rfl
theorem tb_3_54 : (Jvm.Cond.methodLink "NineNoons" (227 : Nat) yX6_isIn) ∈ nn_B := nn_m3 (k := 54) rfl rfl
theorem tb_3_55 : (Jvm.Cond.methodLink "NineNoons" (209 : Nat) yX6_greatestDivisor) ∈ nn_B := nn_m3 (k := 55) rfl rfl
theorem tb_3_56 : (Jvm.Cond.static yX6_greatestDivisor) ∈ nn_B := nn_m3 (k := 56) rfl rfl
theorem tb_3_57 : (Jvm.Cond.code yX6_greatestDivisor prog_1_method_47_code (6 : Nat) (Option.some Jvm.ClassFile.FieldType.int)) ∈ nn_B := nn_m3 (k := 57) rfl rfl
theorem tb_3_58 : (Jvm.Cond.methodLink "NineNoons" (212 : Nat) yJ9_max_7cf53) ∈ nn_B := nn_m3 (k := 58) rfl rfl
theorem tb_3_59 : (Jvm.Cond.static yJ9_max_7cf53) ∈ nn_B := nn_m3 (k := 59) rfl rfl
theorem tb_3_60 : (Jvm.Cond.code yJ9_max_7cf53 prog_12_method_65_code (2 : Nat) (Option.some Jvm.ClassFile.FieldType.int)) ∈ nn_B := nn_m3 (k := 60) rfl rfl
theorem tb_3_61 : (Jvm.Cond.methodLink "NineNoonsLaw" (111 : Nat) yX6_image) ∈ nn_B := nn_m3 (k := 61) rfl rfl
theorem tb_3_62 : (Jvm.Cond.instanceMethod yX6_image) ∈ nn_B := nn_m3 (k := 62) rfl rfl
theorem tb_3_63 : (Jvm.Cond.selects "NineNoons" yX6_image yX6_image) ∈ nn_B := nn_m3 (k := 63) rfl rfl
theorem tb_3_64 : (Jvm.Cond.code yX6_image prog_1_method_26_code (1 : Nat) (Option.some Jvm.ClassFile.FieldType.int)) ∈ nn_B := nn_m3 (k := 64) rfl rfl
theorem tb_3_65 : (Jvm.Cond.methodLink "NineNoons" (217 : Nat) yX1_becomeLike) ∈ nn_B := nn_m3 (k := 65) rfl rfl
theorem tb_3_66 : (Jvm.Cond.instanceMethod yX1_becomeLike) ∈ nn_B := nn_m3 (k := 66) rfl rfl
theorem tb_3_67 : (Jvm.Cond.selects "NineNoons$History" yX1_becomeLike yX1_becomeLike) ∈ nn_B := nn_m3 (k := 67) rfl rfl
theorem tb_3_68 : (Jvm.Cond.code yX1_becomeLike prog_3_method_5_code (3 : Nat) (Option.none : Option Jvm.ClassFile.FieldType)) ∈ nn_B := nn_m3 (k := 68) rfl rfl
theorem tb_3_69 : (Jvm.Cond.methodLink "NineNoonsLaw" (115 : Nat) yX6_restore) ∈ nn_B := nn_m3 (k := 69) rfl rfl
theorem tb_3_70 : (Jvm.Cond.instanceMethod yX6_restore) ∈ nn_B := nn_m3 (k := 70) rfl rfl
theorem tb_3_71 : (Jvm.Cond.selects "NineNoons" yX6_restore yX6_restore) ∈ nn_B := nn_m3 (k := 71) rfl rfl
theorem tb_3_72 : (Jvm.Cond.code yX6_restore prog_1_method_27_code (1 : Nat) (Option.some Jvm.ClassFile.FieldType.int)) ∈ nn_B := nn_m3 (k := 72) rfl rfl
theorem tb_3_73 : (Jvm.Cond.methodLink "NineNoonsLaw" (119 : Nat) yX6_heard) ∈ nn_B := nn_m3 (k := 73) rfl rfl
theorem tb_3_74 : (Jvm.Cond.instanceMethod yX6_heard) ∈ nn_B := nn_m3 (k := 74) rfl rfl
theorem tb_3_75 : (Jvm.Cond.selects "NineNoons" yX6_heard yX6_heard) ∈ nn_B := nn_m3 (k := 75) rfl rfl
theorem tb_3_76 : (Jvm.Cond.code yX6_heard prog_1_method_31_code (8 : Nat) (Option.some Jvm.ClassFile.FieldType.int)) ∈ nn_B := nn_m3 (k := 76) rfl rfl
theorem tb_3_77 : (Jvm.Cond.methodLink "NineNoons" (230 : Nat) yX6_isSheetAndLane) ∈ nn_B := nn_m3 (k := 77) rfl rfl
theorem tb_3_78 : (Jvm.Cond.static yX6_isSheetAndLane) ∈ nn_B := nn_m3 (k := 78) rfl rfl
theorem tb_3_79 : (Jvm.Cond.code yX6_isSheetAndLane prog_1_method_42_code (2 : Nat) (Option.some Jvm.ClassFile.FieldType.boolean)) ∈ nn_B := nn_m3 (k := 79) rfl rfl
theorem tb_3_80 : (Jvm.Cond.methodLink "NineNoons" (233 : Nat) yX3_refusal) ∈ nn_B := nn_m3 (k := 80) rfl rfl
theorem tb_3_81 : (Jvm.Cond.instanceMethod yX3_refusal) ∈ nn_B := nn_m3 (k := 81) rfl rfl
theorem tb_3_82 : (Jvm.Cond.selects "NineNoons$Sheet" yX3_refusal yX3_refusal) ∈ nn_B := nn_m3 (k := 82) rfl rfl
theorem tb_3_83 : (Jvm.Cond.code yX3_refusal prog_5_method_6_code (4 : Nat) (Option.some Jvm.ClassFile.FieldType.int)) ∈ nn_B := nn_m3 (k := 83) rfl rfl
theorem tb_3_84 : (Jvm.Cond.methodLink "NineNoons$Sheet" (22 : Nat) yX3_isMissing) ∈ nn_B := nn_m3 (k := 84) rfl rfl
theorem tb_3_85 : (Jvm.Cond.instanceMethod yX3_isMissing) ∈ nn_B := nn_m3 (k := 85) rfl rfl
theorem tb_3_86 : (Jvm.Cond.selects "NineNoons$Sheet" yX3_isMissing yX3_isMissing) ∈ nn_B := nn_m3 (k := 86) rfl rfl
theorem tb_3_87 : (Jvm.Cond.code yX3_isMissing prog_5_method_4_code (1 : Nat) (Option.some Jvm.ClassFile.FieldType.boolean)) ∈ nn_B := nn_m3 (k := 87) rfl rfl
theorem tb_3_88 : (Jvm.Cond.methodLink "NineNoons$Sheet" (26 : Nat) yX3_reaches) ∈ nn_B := nn_m3 (k := 88) rfl rfl
theorem tb_3_89 : (Jvm.Cond.instanceMethod yX3_reaches) ∈ nn_B := nn_m3 (k := 89) rfl rfl
theorem tb_3_90 : (Jvm.Cond.selects "NineNoons$Sheet" yX3_reaches yX3_reaches) ∈ nn_B := nn_m3 (k := 90) rfl rfl
theorem tb_3_91 : (Jvm.Cond.code yX3_reaches prog_5_method_5_code (3 : Nat) (Option.some Jvm.ClassFile.FieldType.boolean)) ∈ nn_B := nn_m3 (k := 91) rfl rfl
theorem tb_3_92 : (Jvm.Cond.methodLink "NineNoons" (237 : Nat) yX6_kindsHeard) ∈ nn_B := nn_m3 (k := 92) rfl rfl
theorem tb_3_94 : (Jvm.Cond.instanceMethod yX6_kindsHeard) ∈ nn_B := nn_m3 (k := 94) rfl rfl
theorem tb_3_95 : (Jvm.Cond.code yX6_kindsHeard prog_1_method_37_code (7 : Nat) (Option.some Jvm.ClassFile.FieldType.int)) ∈ nn_B := nn_m3 (k := 95) rfl rfl
theorem tb_3_96 : (Jvm.Cond.methodLink "NineNoons" (275 : Nat) yX6_trialRingsAs) ∈ nn_B := nn_m3 (k := 96) rfl rfl
theorem tb_3_98 : (Jvm.Cond.instanceMethod yX6_trialRingsAs) ∈ nn_B := nn_m3 (k := 98) rfl rfl
theorem tb_3_99 : (Jvm.Cond.code yX6_trialRingsAs prog_1_method_39_code (6 : Nat) (Option.some Jvm.ClassFile.FieldType.boolean)) ∈ nn_B := nn_m3 (k := 99) rfl rfl
theorem tb_3_100 : (Jvm.Cond.methodLink "NineNoons" (241 : Nat) yX6_driftsHeard) ∈ nn_B := nn_m3 (k := 100) rfl rfl
theorem tb_3_102 : (Jvm.Cond.instanceMethod yX6_driftsHeard) ∈ nn_B := nn_m3 (k := 102) rfl rfl
theorem tb_3_103 : (Jvm.Cond.code yX6_driftsHeard prog_1_method_38_code (7 : Nat) (Option.some Jvm.ClassFile.FieldType.int)) ∈ nn_B := nn_m3 (k := 103) rfl rfl
theorem tb_3_104 : (Jvm.Cond.methodLink "NineNoonsLaw" (124 : Nat) yX6_film) ∈ nn_B := nn_m3 (k := 104) rfl rfl
theorem tb_3_105 : (Jvm.Cond.instanceMethod yX6_film) ∈ nn_B := nn_m3 (k := 105) rfl rfl
theorem tb_3_106 : (Jvm.Cond.selects "NineNoons" yX6_film yX6_film) ∈ nn_B := nn_m3 (k := 106) rfl rfl
theorem tb_3_107 : (Jvm.Cond.code yX6_film prog_1_method_32_code (8 : Nat) (Option.some Jvm.ClassFile.FieldType.int)) ∈ nn_B := nn_m3 (k := 107) rfl rfl
theorem tb_3_108 : (Jvm.Cond.methodLink "NineNoons" (244 : Nat) yX3_put) ∈ nn_B := nn_m3 (k := 108) rfl rfl
theorem tb_3_109 : (Jvm.Cond.instanceMethod yX3_put) ∈ nn_B := nn_m3 (k := 109) rfl rfl
theorem tb_3_110 : (Jvm.Cond.selects "NineNoons$Sheet" yX3_put yX3_put) ∈ nn_B := nn_m3 (k := 110) rfl rfl
theorem tb_3_111 : (Jvm.Cond.code yX3_put prog_5_method_7_code (4 : Nat) (Option.none : Option Jvm.ClassFile.FieldType)) ∈ nn_B := nn_m3 (k := 111) rfl rfl
theorem tb_3_112 : (Jvm.Cond.methodLink "NineNoonsLaw" (129 : Nat) yX6_sheet) ∈ nn_B := nn_m3 (k := 112) rfl rfl
theorem tb_3_113 : (Jvm.Cond.instanceMethod yX6_sheet) ∈ nn_B := nn_m3 (k := 113) rfl rfl
theorem tb_3_114 : (Jvm.Cond.selects "NineNoons" yX6_sheet yX6_sheet) ∈ nn_B := nn_m3 (k := 114) rfl rfl
theorem tb_3_115 : (Jvm.Cond.code yX6_sheet prog_1_method_33_code (4 : Nat) (Option.some Jvm.ClassFile.FieldType.int)) ∈ nn_B := nn_m3 (k := 115) rfl rfl
theorem tb_3_116 : (Jvm.Cond.methodLink "NineNoons" (247 : Nat) yX3_renew) ∈ nn_B := nn_m3 (k := 116) rfl rfl
theorem tb_3_117 : (Jvm.Cond.instanceMethod yX3_renew) ∈ nn_B := nn_m3 (k := 117) rfl rfl
theorem tb_3_118 : (Jvm.Cond.selects "NineNoons$Sheet" yX3_renew yX3_renew) ∈ nn_B := nn_m3 (k := 118) rfl rfl
theorem tb_3_119 : (Jvm.Cond.code yX3_renew prog_5_method_2_code (4 : Nat) (Option.none : Option Jvm.ClassFile.FieldType)) ∈ nn_B := nn_m3 (k := 119) rfl rfl
theorem tb_3_120 : (Jvm.Cond.methodLink "NineNoonsLaw" (133 : Nat) yX6_drop) ∈ nn_B := nn_m3 (k := 120) rfl rfl
theorem tb_3_121 : (Jvm.Cond.instanceMethod yX6_drop) ∈ nn_B := nn_m3 (k := 121) rfl rfl
theorem tb_3_122 : (Jvm.Cond.selects "NineNoons" yX6_drop yX6_drop) ∈ nn_B := nn_m3 (k := 122) rfl rfl
theorem tb_3_123 : (Jvm.Cond.code yX6_drop prog_1_method_34_code (3 : Nat) (Option.some Jvm.ClassFile.FieldType.int)) ∈ nn_B := nn_m3 (k := 123) rfl rfl
theorem tb_3_124 : (Jvm.Cond.methodLink "NineNoons" (251 : Nat) yX3_isMissing) ∈ nn_B := nn_m3 (k := 124) rfl rfl
theorem tb_3_125 : (Jvm.Cond.methodLink "NineNoons" (256 : Nat) yX3_remove) ∈ nn_B := nn_m3 (k := 125) rfl rfl
theorem tb_3_126 : (Jvm.Cond.instanceMethod yX3_remove) ∈ nn_B := nn_m3 (k := 126) rfl rfl
theorem tb_3_127 : (Jvm.Cond.selects "NineNoons$Sheet" yX3_remove yX3_remove) ∈ nn_B := nn_m3 (k := 127) rfl rfl
theorem tb_3_128 : (Jvm.Cond.code yX3_remove prog_5_method_3_code (1 : Nat) (Option.none : Option Jvm.ClassFile.FieldType)) ∈ nn_B := nn_m3 (k := 128) rfl rfl
theorem tb_3_129 : (Jvm.Cond.methodLink "NineNoonsLaw" (139 : Nat) yX6_item) ∈ nn_B := nn_m3 (k := 129) rfl rfl
theorem tb_3_130 : (Jvm.Cond.instanceMethod yX6_item) ∈ nn_B := nn_m3 (k := 130) rfl rfl
theorem tb_3_131 : (Jvm.Cond.selects "NineNoons" yX6_item yX6_item) ∈ nn_B := nn_m3 (k := 131) rfl rfl
theorem tb_3_132 : (Jvm.Cond.code yX6_item prog_1_method_35_code (7 : Nat) (Option.some Jvm.ClassFile.FieldType.int)) ∈ nn_B := nn_m3 (k := 132) rfl rfl
theorem tb_3_133 : (Jvm.Cond.methodLink "NineNoonsLaw" (144 : Nat) yX6_copy) ∈ nn_B := nn_m3 (k := 133) rfl rfl
theorem tb_3_134 : (Jvm.Cond.instanceMethod yX6_copy) ∈ nn_B := nn_m3 (k := 134) rfl rfl
theorem tb_3_135 : (Jvm.Cond.selects "NineNoons" yX6_copy yX6_copy) ∈ nn_B := nn_m3 (k := 135) rfl rfl
theorem tb_3_136 : (Jvm.Cond.code yX6_copy prog_1_method_36_code (8 : Nat) (Option.some Jvm.ClassFile.FieldType.int)) ∈ nn_B := nn_m3 (k := 136) rfl rfl
theorem tb_3_137 : (Jvm.Cond.methodLink "NineNoons" (262 : Nat) yX3_reaches) ∈ nn_B := nn_m3 (k := 137) rfl rfl
theorem tb_3_138 : (Jvm.Cond.methodLink "NineNoons" (269 : Nat) arraycopyName) ∈ nn_B := nn_m3 (k := 138) rfl rfl
theorem tb_3_139 : (Jvm.Cond.classLink "NineNoonsLaw" (10 : Nat) "NineNoonsModel") ∈ nn_B := nn_m3 (k := 139) rfl rfl
theorem tb_3_140 : (Jvm.Cond.instantiable "NineNoonsModel" (21 : Nat)) ∈ nn_B := nn_m3 (k := 140) rfl rfl
theorem tb_3_141 : (Jvm.Cond.methodLink "NineNoonsLaw" (12 : Nat) yX7_init) ∈ nn_B := nn_m3 (k := 141) rfl rfl
theorem tb_3_142 : (Jvm.Cond.instanceMethod yX7_init) ∈ nn_B := nn_m3 (k := 142) rfl rfl
theorem tb_3_143 : (Jvm.Cond.code yX7_init prog_9_method_3_code (2 : Nat) (Option.none : Option Jvm.ClassFile.FieldType)) ∈ nn_B := nn_m3 (k := 143) rfl rfl
theorem tb_3_144 : (Jvm.Cond.methodLink "NineNoonsModel" (1 : Nat) objectInit) ∈ nn_B := nn_m3 (k := 144) rfl rfl
theorem tb_3_145 : (Jvm.Cond.fieldLink "NineNoonsModel" (7 : Nat) "NineNoonsModel" "now" "[I") ∈ nn_B := nn_m3 (k := 145) rfl rfl
theorem tb_3_146 : (Jvm.Cond.fieldLink "NineNoonsModel" (13 : Nat) "NineNoonsModel" "later" "[I") ∈ nn_B := nn_m3 (k := 146) rfl rfl
theorem tb_3_147 : (Jvm.Cond.fieldLink "NineNoonsModel" (16 : Nat) "NineNoonsModel" "tape" "[I") ∈ nn_B := nn_m3 (k := 147) rfl rfl
theorem tb_3_148 : (Jvm.Cond.fieldLink "NineNoonsModel" (128 : Nat) "NineNoonsModel" "typed" "I") ∈ nn_B := nn_m3 (k := 148) rfl rfl
theorem tb_3_149 : (Jvm.Cond.fieldLink "NineNoonsModel" (131 : Nat) "NineNoonsModel" "place" "I") ∈ nn_B := nn_m3 (k := 149) rfl rfl
theorem tb_3_150 : (Jvm.Cond.fieldLink "NineNoonsModel" (134 : Nat) "NineNoonsModel" "isFault" "Z") ∈ nn_B := nn_m3 (k := 150) rfl rfl
theorem tb_3_151 : (Jvm.Cond.fieldLink "NineNoonsModel" (19 : Nat) "NineNoonsModel" "read" "[I") ∈ nn_B := nn_m3 (k := 151) rfl rfl
theorem tb_3_152 : (Jvm.Cond.fieldLink "NineNoonsModel" (22 : Nat) "NineNoonsModel" "undone" "[I") ∈ nn_B := nn_m3 (k := 152) rfl rfl
theorem tb_3_153 : (Jvm.Cond.fieldLink "NineNoonsModel" (91 : Nat) "NineNoonsModel" "undos" "I") ∈ nn_B := nn_m3 (k := 153) rfl rfl
theorem tb_3_154 : (Jvm.Cond.fieldLink "NineNoonsModel" (25 : Nat) "NineNoonsModel" "aside" "[I") ∈ nn_B := nn_m3 (k := 154) rfl rfl
theorem tb_3_155 : (Jvm.Cond.fieldLink "NineNoonsModel" (185 : Nat) "NineNoonsModel" "together" "I") ∈ nn_B := nn_m3 (k := 155) rfl rfl
theorem tb_3_156 : (Jvm.Cond.fieldLink "NineNoonsModel" (28 : Nat) "NineNoonsModel" "by" "[I") ∈ nn_B := nn_m3 (k := 156) rfl rfl
theorem tb_3_157 : (Jvm.Cond.fieldLink "NineNoonsModel" (31 : Nat) "NineNoonsModel" "best" "[I") ∈ nn_B := nn_m3 (k := 157) rfl rfl
theorem tb_3_158 : (Jvm.Cond.fieldLink "NineNoonsModel" (34 : Nat) "NineNoonsModel" "order" "[I") ∈ nn_B := nn_m3 (k := 158) rfl rfl
theorem tb_3_159 : (Jvm.Cond.fieldLink "NineNoonsModel" (37 : Nat) "NineNoonsModel" "kept" "[I") ∈ nn_B := nn_m3 (k := 159) rfl rfl
theorem tb_3_160 : (Jvm.Cond.fieldLink "NineNoonsModel" (217 : Nat) "NineNoonsModel" "keptUndos" "I") ∈ nn_B := nn_m3 (k := 160) rfl rfl
theorem tb_3_161 : (Jvm.Cond.fieldLink "NineNoonsModel" (220 : Nat) "NineNoonsModel" "isKept" "Z") ∈ nn_B := nn_m3 (k := 161) rfl rfl
theorem tb_3_162 : (Jvm.Cond.fieldLink "NineNoonsModel" (40 : Nat) "NineNoonsModel" "lanes" "[I") ∈ nn_B := nn_m3 (k := 162) rfl rfl
theorem tb_3_163 : (Jvm.Cond.fieldLink "NineNoonsModel" (43 : Nat) "NineNoonsModel" "sizes" "[I") ∈ nn_B := nn_m3 (k := 163) rfl rfl
theorem tb_3_164 : (Jvm.Cond.fieldLink "NineNoonsModel" (46 : Nat) "NineNoonsModel" "items" "[J") ∈ nn_B := nn_m3 (k := 164) rfl rfl
theorem tb_3_165 : (Jvm.Cond.fieldLink "NineNoonsModel" (50 : Nat) "NineNoonsModel" "moved" "[J") ∈ nn_B := nn_m3 (k := 165) rfl rfl
theorem tb_3_209 : (Jvm.Cond.methodLink "NineNoonsLaw" (17 : Nat) yX7_village) ∈ nn_B := nn_m3 (k := 209) rfl rfl
theorem tb_3_210 : (Jvm.Cond.instanceMethod yX7_village) ∈ nn_B := nn_m3 (k := 210) rfl rfl
theorem tb_3_211 : (Jvm.Cond.selects "NineNoonsModel" yX7_village yX7_village) ∈ nn_B := nn_m3 (k := 211) rfl rfl
theorem tb_3_212 : (Jvm.Cond.code yX7_village prog_9_method_19_code (4 : Nat) (Option.some Jvm.ClassFile.FieldType.int)) ∈ nn_B := nn_m3 (k := 212) rfl rfl
theorem tb_3_213 : (Jvm.Cond.constantLong "NineNoonsModel" (95 : Nat) (4 : Int64)) ∈ nn_B := nn_m3 (k := 213) rfl rfl
theorem tb_3_214 : (Jvm.Cond.methodLink "NineNoonsModel" (53 : Nat) yX7_in) ∈ nn_B := nn_m3 (k := 214) rfl rfl
theorem tb_3_215 : (Jvm.Cond.static yX7_in) ∈ nn_B := nn_m3 (k := 215) rfl rfl
theorem tb_3_216 : (Jvm.Cond.code yX7_in prog_9_method_2_code (6 : Nat) (Option.some Jvm.ClassFile.FieldType.boolean)) ∈ nn_B := nn_m3 (k := 216) rfl rfl
theorem tb_3_217 : (Jvm.Cond.constantLong "NineNoonsModel" (97 : Nat) (59 : Int64)) ∈ nn_B := nn_m3 (k := 217) rfl rfl
theorem tb_3_218 : (Jvm.Cond.constantLong "NineNoonsModel" (99 : Nat) (-9 : Int64)) ∈ nn_B := nn_m3 (k := 218) rfl rfl
theorem tb_3_219 : (Jvm.Cond.constantLong "NineNoonsModel" (101 : Nat) (9 : Int64)) ∈ nn_B := nn_m3 (k := 219) rfl rfl
theorem tb_3_220 : (Jvm.Cond.methodLink "NineNoonsModel" (103 : Nat) yX7_villageComes) ∈ nn_B := nn_m3 (k := 220) rfl rfl
theorem tb_3_222 : (Jvm.Cond.instanceMethod yX7_villageComes) ∈ nn_B := nn_m3 (k := 222) rfl rfl
theorem tb_3_223 : (Jvm.Cond.code yX7_villageComes prog_9_method_18_code (6 : Nat) (Option.none : Option Jvm.ClassFile.FieldType)) ∈ nn_B := nn_m3 (k := 223) rfl rfl
theorem tb_3_224 : (Jvm.Cond.methodLink "NineNoonsModel" (81 : Nat) yX7_tells) ∈ nn_B := nn_m3 (k := 224) rfl rfl
theorem tb_3_226 : (Jvm.Cond.instanceMethod yX7_tells) ∈ nn_B := nn_m3 (k := 226) rfl rfl
theorem tb_3_227 : (Jvm.Cond.code yX7_tells prog_9_method_6_code (4 : Nat) (Option.none : Option Jvm.ClassFile.FieldType)) ∈ nn_B := nn_m3 (k := 227) rfl rfl
theorem tb_3_228 : (Jvm.Cond.methodLink "NineNoonsLaw" (22 : Nat) yX7_of) ∈ nn_B := nn_m3 (k := 228) rfl rfl
theorem tb_3_229 : (Jvm.Cond.instanceMethod yX7_of) ∈ nn_B := nn_m3 (k := 229) rfl rfl
theorem tb_3_230 : (Jvm.Cond.selects "NineNoonsModel" yX7_of yX7_of) ∈ nn_B := nn_m3 (k := 230) rfl rfl
theorem tb_3_231 : (Jvm.Cond.code yX7_of prog_9_method_20_code (3 : Nat) (Option.some Jvm.ClassFile.FieldType.int)) ∈ nn_B := nn_m3 (k := 231) rfl rfl
theorem tb_3_232 : (Jvm.Cond.methodLink "NineNoonsModel" (107 : Nat) yX7_isVillage) ∈ nn_B := nn_m3 (k := 232) rfl rfl
theorem tb_3_234 : (Jvm.Cond.instanceMethod yX7_isVillage) ∈ nn_B := nn_m3 (k := 234) rfl rfl
theorem tb_3_235 : (Jvm.Cond.code yX7_isVillage prog_9_method_4_code (2 : Nat) (Option.some Jvm.ClassFile.FieldType.boolean)) ∈ nn_B := nn_m3 (k := 235) rfl rfl
theorem tb_3_236 : (Jvm.Cond.methodLink "NineNoonsModel" (57 : Nat) yX7_told) ∈ nn_B := nn_m3 (k := 236) rfl rfl
theorem tb_3_238 : (Jvm.Cond.instanceMethod yX7_told) ∈ nn_B := nn_m3 (k := 238) rfl rfl
theorem tb_3_239 : (Jvm.Cond.code yX7_told prog_9_method_5_code (3 : Nat) (Option.some Jvm.ClassFile.FieldType.int)) ∈ nn_B := nn_m3 (k := 239) rfl rfl
theorem tb_4_0 : (Jvm.Cond.methodLink "NineNoonsModel" (78 : Nat) yX7_laterBy) ∈ nn_B := nn_m4 (k := 0) rfl rfl
theorem tb_4_2 : (Jvm.Cond.instanceMethod yX7_laterBy) ∈ nn_B := nn_m4 (k := 2) rfl rfl
theorem tb_4_3 : (Jvm.Cond.code yX7_laterBy prog_9_method_12_code (5 : Nat) (Option.some Jvm.ClassFile.FieldType.int)) ∈ nn_B := nn_m4 (k := 3) rfl rfl
theorem tb_4_4 : (Jvm.Cond.methodLink "NineNoonsModel" (71 : Nat) yX7_hearsAnother) ∈ nn_B := nn_m4 (k := 4) rfl rfl
theorem tb_4_6 : (Jvm.Cond.instanceMethod yX7_hearsAnother) ∈ nn_B := nn_m4 (k := 6) rfl rfl
theorem tb_4_7 : (Jvm.Cond.code yX7_hearsAnother prog_9_method_11_code (4 : Nat) (Option.some Jvm.ClassFile.FieldType.boolean)) ∈ nn_B := nn_m4 (k := 7) rfl rfl
theorem tb_4_8 : (Jvm.Cond.methodLink "NineNoonsModel" (65 : Nat) yX7_minuteOf) ∈ nn_B := nn_m4 (k := 8) rfl rfl
theorem tb_4_10 : (Jvm.Cond.instanceMethod yX7_minuteOf) ∈ nn_B := nn_m4 (k := 10) rfl rfl
theorem tb_4_11 : (Jvm.Cond.code yX7_minuteOf prog_9_method_7_code (2 : Nat) (Option.some Jvm.ClassFile.FieldType.int)) ∈ nn_B := nn_m4 (k := 11) rfl rfl
theorem tb_4_12 : (Jvm.Cond.methodLink "NineNoonsModel" (68 : Nat) yX7_between) ∈ nn_B := nn_m4 (k := 12) rfl rfl
theorem tb_4_13 : (Jvm.Cond.static yX7_between) ∈ nn_B := nn_m4 (k := 13) rfl rfl
theorem tb_4_14 : (Jvm.Cond.code yX7_between prog_9_method_9_code (3 : Nat) (Option.some Jvm.ClassFile.FieldType.int)) ∈ nn_B := nn_m4 (k := 14) rfl rfl
theorem tb_4_15 : (Jvm.Cond.methodLink "NineNoonsModel" (61 : Nat) yX7_round) ∈ nn_B := nn_m4 (k := 15) rfl rfl
theorem tb_4_16 : (Jvm.Cond.static yX7_round) ∈ nn_B := nn_m4 (k := 16) rfl rfl
theorem tb_4_17 : (Jvm.Cond.code yX7_round prog_9_method_8_code (1 : Nat) (Option.some Jvm.ClassFile.FieldType.int)) ∈ nn_B := nn_m4 (k := 17) rfl rfl
theorem tb_4_18 : (Jvm.Cond.methodLink "NineNoonsModel" (75 : Nat) yX7_milesBetween) ∈ nn_B := nn_m4 (k := 18) rfl rfl
theorem tb_4_20 : (Jvm.Cond.instanceMethod yX7_milesBetween) ∈ nn_B := nn_m4 (k := 20) rfl rfl
theorem tb_4_21 : (Jvm.Cond.code yX7_milesBetween prog_9_method_10_code (4 : Nat) (Option.some Jvm.ClassFile.FieldType.int)) ∈ nn_B := nn_m4 (k := 21) rfl rfl
theorem tb_4_22 : (Jvm.Cond.methodLink "NineNoonsModel" (88 : Nat) yX7_alike) ∈ nn_B := nn_m4 (k := 22) rfl rfl
theorem tb_4_24 : (Jvm.Cond.instanceMethod yX7_alike) ∈ nn_B := nn_m4 (k := 24) rfl rfl
theorem tb_4_25 : (Jvm.Cond.code yX7_alike prog_9_method_16_code (4 : Nat) (Option.some Jvm.ClassFile.FieldType.int)) ∈ nn_B := nn_m4 (k := 25) rfl rfl
theorem tb_4_26 : (Jvm.Cond.methodLink "NineNoonsLaw" (26 : Nat) yX7_gap) ∈ nn_B := nn_m4 (k := 26) rfl rfl
theorem tb_4_27 : (Jvm.Cond.instanceMethod yX7_gap) ∈ nn_B := nn_m4 (k := 27) rfl rfl
theorem tb_4_28 : (Jvm.Cond.selects "NineNoonsModel" yX7_gap yX7_gap) ∈ nn_B := nn_m4 (k := 28) rfl rfl
theorem tb_4_29 : (Jvm.Cond.code yX7_gap prog_9_method_22_code (3 : Nat) (Option.some Jvm.ClassFile.FieldType.int)) ∈ nn_B := nn_m4 (k := 29) rfl rfl
theorem tb_4_30 : (Jvm.Cond.methodLink "NineNoonsModel" (110 : Nat) yX7_areTwo) ∈ nn_B := nn_m4 (k := 30) rfl rfl
theorem tb_4_32 : (Jvm.Cond.instanceMethod yX7_areTwo) ∈ nn_B := nn_m4 (k := 32) rfl rfl
theorem tb_4_33 : (Jvm.Cond.code yX7_areTwo prog_9_method_21_code (3 : Nat) (Option.some Jvm.ClassFile.FieldType.boolean)) ∈ nn_B := nn_m4 (k := 33) rfl rfl
theorem tb_4_34 : (Jvm.Cond.methodLink "NineNoonsLaw" (40 : Nat) yX7_count) ∈ nn_B := nn_m4 (k := 34) rfl rfl
theorem tb_4_35 : (Jvm.Cond.instanceMethod yX7_count) ∈ nn_B := nn_m4 (k := 35) rfl rfl
theorem tb_4_36 : (Jvm.Cond.selects "NineNoonsModel" yX7_count yX7_count) ∈ nn_B := nn_m4 (k := 36) rfl rfl
theorem tb_4_37 : (Jvm.Cond.code yX7_count prog_9_method_24_code (2 : Nat) (Option.some Jvm.ClassFile.FieldType.int)) ∈ nn_B := nn_m4 (k := 37) rfl rfl
theorem tb_4_38 : (Jvm.Cond.methodLink "NineNoonsModel" (114 : Nat) yX7_leastGap) ∈ nn_B := nn_m4 (k := 38) rfl rfl
theorem tb_4_40 : (Jvm.Cond.instanceMethod yX7_leastGap) ∈ nn_B := nn_m4 (k := 40) rfl rfl
theorem tb_4_41 : (Jvm.Cond.code yX7_leastGap prog_9_method_15_code (5 : Nat) (Option.some Jvm.ClassFile.FieldType.int)) ∈ nn_B := nn_m4 (k := 41) rfl rfl
theorem tb_4_42 : (Jvm.Cond.methodLink "NineNoonsModel" (118 : Nat) yX7_allAlike) ∈ nn_B := nn_m4 (k := 42) rfl rfl
theorem tb_4_44 : (Jvm.Cond.instanceMethod yX7_allAlike) ∈ nn_B := nn_m4 (k := 44) rfl rfl
theorem tb_4_45 : (Jvm.Cond.code yX7_allAlike prog_9_method_17_code (3 : Nat) (Option.some Jvm.ClassFile.FieldType.int)) ∈ nn_B := nn_m4 (k := 45) rfl rfl
theorem tb_4_46 : (Jvm.Cond.methodLink "NineNoonsModel" (121 : Nat) yX7_sumOf) ∈ nn_B := nn_m4 (k := 46) rfl rfl
theorem tb_4_48 : (Jvm.Cond.instanceMethod yX7_sumOf) ∈ nn_B := nn_m4 (k := 48) rfl rfl
theorem tb_4_49 : (Jvm.Cond.code yX7_sumOf prog_9_method_23_code (4 : Nat) (Option.some Jvm.ClassFile.FieldType.int)) ∈ nn_B := nn_m4 (k := 49) rfl rfl
theorem tb_4_50 : (Jvm.Cond.methodLink "NineNoonsLaw" (31 : Nat) yX7_type) ∈ nn_B := nn_m4 (k := 50) rfl rfl
theorem tb_4_51 : (Jvm.Cond.instanceMethod yX7_type) ∈ nn_B := nn_m4 (k := 51) rfl rfl
theorem tb_4_52 : (Jvm.Cond.selects "NineNoonsModel" yX7_type yX7_type) ∈ nn_B := nn_m4 (k := 52) rfl rfl
theorem tb_4_53 : (Jvm.Cond.code yX7_type prog_9_method_25_code (2 : Nat) (Option.some Jvm.ClassFile.FieldType.int)) ∈ nn_B := nn_m4 (k := 53) rfl rfl
theorem tb_4_54 : (Jvm.Cond.constantLong "NineNoonsModel" (124 : Nat) (32 : Int64)) ∈ nn_B := nn_m4 (k := 54) rfl rfl
theorem tb_4_55 : (Jvm.Cond.constantLong "NineNoonsModel" (126 : Nat) (126 : Int64)) ∈ nn_B := nn_m4 (k := 55) rfl rfl
theorem tb_4_56 : (Jvm.Cond.methodLink "NineNoonsLaw" (36 : Nat) yX7_valley) ∈ nn_B := nn_m4 (k := 56) rfl rfl
theorem tb_4_57 : (Jvm.Cond.instanceMethod yX7_valley) ∈ nn_B := nn_m4 (k := 57) rfl rfl
theorem tb_4_58 : (Jvm.Cond.selects "NineNoonsModel" yX7_valley yX7_valley) ∈ nn_B := nn_m4 (k := 58) rfl rfl
theorem tb_4_59 : (Jvm.Cond.code yX7_valley prog_9_method_30_code (3 : Nat) (Option.some Jvm.ClassFile.FieldType.int)) ∈ nn_B := nn_m4 (k := 59) rfl rfl
theorem tb_4_60 : (Jvm.Cond.methodLink "NineNoonsModel" (152 : Nat) yX7_villagesRead) ∈ nn_B := nn_m4 (k := 60) rfl rfl
theorem tb_4_62 : (Jvm.Cond.instanceMethod yX7_villagesRead) ∈ nn_B := nn_m4 (k := 62) rfl rfl
theorem tb_4_63 : (Jvm.Cond.code yX7_villagesRead prog_9_method_29_code (8 : Nat) (Option.some Jvm.ClassFile.FieldType.int)) ∈ nn_B := nn_m4 (k := 63) rfl rfl
theorem tb_4_64 : (Jvm.Cond.methodLink "NineNoonsModel" (138 : Nat) yX7_here) ∈ nn_B := nn_m4 (k := 64) rfl rfl
theorem tb_4_66 : (Jvm.Cond.instanceMethod yX7_here) ∈ nn_B := nn_m4 (k := 66) rfl rfl
theorem tb_4_67 : (Jvm.Cond.code yX7_here prog_9_method_26_code (1 : Nat) (Option.some Jvm.ClassFile.FieldType.int)) ∈ nn_B := nn_m4 (k := 67) rfl rfl
theorem tb_4_68 : (Jvm.Cond.methodLink "NineNoonsModel" (145 : Nat) yX7_must) ∈ nn_B := nn_m4 (k := 68) rfl rfl
theorem tb_4_70 : (Jvm.Cond.instanceMethod yX7_must) ∈ nn_B := nn_m4 (k := 70) rfl rfl
theorem tb_4_71 : (Jvm.Cond.code yX7_must prog_9_method_27_code (2 : Nat) (Option.none : Option Jvm.ClassFile.FieldType)) ∈ nn_B := nn_m4 (k := 71) rfl rfl
theorem tb_4_72 : (Jvm.Cond.methodLink "NineNoonsModel" (149 : Nat) yX7_number) ∈ nn_B := nn_m4 (k := 72) rfl rfl
theorem tb_4_74 : (Jvm.Cond.instanceMethod yX7_number) ∈ nn_B := nn_m4 (k := 74) rfl rfl
theorem tb_4_75 : (Jvm.Cond.code yX7_number prog_9_method_28_code (5 : Nat) (Option.some Jvm.ClassFile.FieldType.int)) ∈ nn_B := nn_m4 (k := 75) rfl rfl
theorem tb_4_76 : (Jvm.Cond.constantLong "NineNoonsModel" (141 : Nat) (48 : Int64)) ∈ nn_B := nn_m4 (k := 76) rfl rfl
theorem tb_4_77 : (Jvm.Cond.constantLong "NineNoonsModel" (143 : Nat) (57 : Int64)) ∈ nn_B := nn_m4 (k := 77) rfl rfl
theorem tb_4_78 : (Jvm.Cond.methodLink "NineNoonsLaw" (44 : Nat) yX7_days) ∈ nn_B := nn_m4 (k := 78) rfl rfl
theorem tb_4_79 : (Jvm.Cond.instanceMethod yX7_days) ∈ nn_B := nn_m4 (k := 79) rfl rfl
theorem tb_4_80 : (Jvm.Cond.selects "NineNoonsModel" yX7_days yX7_days) ∈ nn_B := nn_m4 (k := 80) rfl rfl
theorem tb_4_81 : (Jvm.Cond.code yX7_days prog_9_method_32_code (3 : Nat) (Option.some Jvm.ClassFile.FieldType.int)) ∈ nn_B := nn_m4 (k := 81) rfl rfl
theorem tb_4_82 : (Jvm.Cond.constantLong "NineNoonsModel" (155 : Nat) (40 : Int64)) ∈ nn_B := nn_m4 (k := 82) rfl rfl
theorem tb_4_83 : (Jvm.Cond.methodLink "NineNoonsModel" (157 : Nat) yX7_notes) ∈ nn_B := nn_m4 (k := 83) rfl rfl
theorem tb_4_85 : (Jvm.Cond.instanceMethod yX7_notes) ∈ nn_B := nn_m4 (k := 85) rfl rfl
theorem tb_4_86 : (Jvm.Cond.code yX7_notes prog_9_method_31_code (2 : Nat) (Option.none : Option Jvm.ClassFile.FieldType)) ∈ nn_B := nn_m4 (k := 86) rfl rfl
theorem tb_4_87 : (Jvm.Cond.methodLink "NineNoonsModel" (85 : Nat) yX7_goesBy) ∈ nn_B := nn_m4 (k := 87) rfl rfl
theorem tb_4_89 : (Jvm.Cond.instanceMethod yX7_goesBy) ∈ nn_B := nn_m4 (k := 89) rfl rfl
theorem tb_4_90 : (Jvm.Cond.code yX7_goesBy prog_9_method_13_code (2 : Nat) (Option.none : Option Jvm.ClassFile.FieldType)) ∈ nn_B := nn_m4 (k := 90) rfl rfl
theorem tb_4_91 : (Jvm.Cond.methodLink "NineNoonsLaw" (48 : Nat) yX7_set) ∈ nn_B := nn_m4 (k := 91) rfl rfl
theorem tb_4_92 : (Jvm.Cond.instanceMethod yX7_set) ∈ nn_B := nn_m4 (k := 92) rfl rfl
theorem tb_4_93 : (Jvm.Cond.selects "NineNoonsModel" yX7_set yX7_set) ∈ nn_B := nn_m4 (k := 93) rfl rfl
theorem tb_4_94 : (Jvm.Cond.code yX7_set prog_9_method_34_code (3 : Nat) (Option.some Jvm.ClassFile.FieldType.int)) ∈ nn_B := nn_m4 (k := 94) rfl rfl
theorem tb_4_95 : (Jvm.Cond.methodLink "NineNoonsModel" (160 : Nat) yX7_becomes) ∈ nn_B := nn_m4 (k := 95) rfl rfl
theorem tb_4_97 : (Jvm.Cond.instanceMethod yX7_becomes) ∈ nn_B := nn_m4 (k := 97) rfl rfl
theorem tb_4_98 : (Jvm.Cond.code yX7_becomes prog_9_method_33_code (7 : Nat) (Option.some Jvm.ClassFile.FieldType.int)) ∈ nn_B := nn_m4 (k := 98) rfl rfl
theorem tb_4_99 : (Jvm.Cond.methodLink "NineNoonsLaw" (52 : Nat) yX7_move) ∈ nn_B := nn_m4 (k := 99) rfl rfl
theorem tb_4_100 : (Jvm.Cond.instanceMethod yX7_move) ∈ nn_B := nn_m4 (k := 100) rfl rfl
theorem tb_4_101 : (Jvm.Cond.selects "NineNoonsModel" yX7_move yX7_move) ∈ nn_B := nn_m4 (k := 101) rfl rfl
theorem tb_4_102 : (Jvm.Cond.code yX7_move prog_9_method_35_code (3 : Nat) (Option.some Jvm.ClassFile.FieldType.int)) ∈ nn_B := nn_m4 (k := 102) rfl rfl
theorem tb_4_103 : (Jvm.Cond.methodLink "NineNoonsLaw" (56 : Nat) yX7_tune) ∈ nn_B := nn_m4 (k := 103) rfl rfl
theorem tb_4_104 : (Jvm.Cond.instanceMethod yX7_tune) ∈ nn_B := nn_m4 (k := 104) rfl rfl
theorem tb_4_105 : (Jvm.Cond.selects "NineNoonsModel" yX7_tune yX7_tune) ∈ nn_B := nn_m4 (k := 105) rfl rfl
theorem tb_4_106 : (Jvm.Cond.code yX7_tune prog_9_method_36_code (4 : Nat) (Option.some Jvm.ClassFile.FieldType.int)) ∈ nn_B := nn_m4 (k := 106) rfl rfl
theorem tb_4_107 : (Jvm.Cond.constantLong "NineNoonsModel" (164 : Nat) (18 : Int64)) ∈ nn_B := nn_m4 (k := 107) rfl rfl
theorem tb_4_108 : (Jvm.Cond.methodLink "NineNoonsLaw" (60 : Nat) yX7_storm) ∈ nn_B := nn_m4 (k := 108) rfl rfl
theorem tb_4_109 : (Jvm.Cond.instanceMethod yX7_storm) ∈ nn_B := nn_m4 (k := 109) rfl rfl
theorem tb_4_110 : (Jvm.Cond.selects "NineNoonsModel" yX7_storm yX7_storm) ∈ nn_B := nn_m4 (k := 110) rfl rfl
theorem tb_4_111 : (Jvm.Cond.code yX7_storm prog_9_method_37_code (4 : Nat) (Option.some Jvm.ClassFile.FieldType.int)) ∈ nn_B := nn_m4 (k := 111) rfl rfl
theorem tb_4_112 : (Jvm.Cond.constantLong "NineNoonsModel" (166 : Nat) (1103515245 : Int64)) ∈ nn_B := nn_m4 (k := 112) rfl rfl
theorem tb_4_113 : (Jvm.Cond.constantLong "NineNoonsModel" (168 : Nat) (12345 : Int64)) ∈ nn_B := nn_m4 (k := 113) rfl rfl
theorem tb_4_114 : (Jvm.Cond.constantLong "NineNoonsModel" (170 : Nat) (2147483647 : Int64)) ∈ nn_B := nn_m4 (k := 114) rfl rfl
theorem tb_4_115 : (Jvm.Cond.constant "NineNoonsModel" (172 : Nat) (65536 : Int32)) ∈ nn_B := nn_m4 (k := 115) rfl rfl
theorem tb_4_116 : (Jvm.Cond.methodLink "NineNoonsLaw" (64 : Nat) yX7_undo) ∈ nn_B := nn_m4 (k := 116) rfl rfl
theorem tb_4_117 : (Jvm.Cond.instanceMethod yX7_undo) ∈ nn_B := nn_m4 (k := 117) rfl rfl
theorem tb_4_118 : (Jvm.Cond.selects "NineNoonsModel" yX7_undo yX7_undo) ∈ nn_B := nn_m4 (k := 118) rfl rfl
theorem tb_4_119 : (Jvm.Cond.code yX7_undo prog_9_method_38_code (2 : Nat) (Option.some Jvm.ClassFile.FieldType.int)) ∈ nn_B := nn_m4 (k := 119) rfl rfl
theorem tb_4_120 : (Jvm.Cond.methodLink "NineNoonsLaw" (68 : Nat) yX7_seed) ∈ nn_B := nn_m4 (k := 120) rfl rfl
theorem tb_4_121 : (Jvm.Cond.instanceMethod yX7_seed) ∈ nn_B := nn_m4 (k := 121) rfl rfl
theorem tb_4_122 : (Jvm.Cond.selects "NineNoonsModel" yX7_seed yX7_seed) ∈ nn_B := nn_m4 (k := 122) rfl rfl
theorem tb_4_123 : (Jvm.Cond.code yX7_seed prog_9_method_39_code (3 : Nat) (Option.some Jvm.ClassFile.FieldType.int)) ∈ nn_B := nn_m4 (k := 123) rfl rfl
theorem tb_4_124 : (Jvm.Cond.methodLink "NineNoonsLaw" (72 : Nat) yX7_ahead) ∈ nn_B := nn_m4 (k := 124) rfl rfl
theorem tb_4_125 : (Jvm.Cond.instanceMethod yX7_ahead) ∈ nn_B := nn_m4 (k := 125) rfl rfl
theorem tb_4_126 : (Jvm.Cond.selects "NineNoonsModel" yX7_ahead yX7_ahead) ∈ nn_B := nn_m4 (k := 126) rfl rfl
theorem tb_4_127 : (Jvm.Cond.code yX7_ahead prog_9_method_42_code (4 : Nat) (Option.some Jvm.ClassFile.FieldType.int)) ∈ nn_B := nn_m4 (k := 127) rfl rfl
theorem tb_4_128 : (Jvm.Cond.constantLong "NineNoonsModel" (173 : Nat) (60 : Int64)) ∈ nn_B := nn_m4 (k := 128) rfl rfl
theorem tb_4_129 : (Jvm.Cond.methodLink "NineNoonsModel" (175 : Nat) yX7_asides) ∈ nn_B := nn_m4 (k := 129) rfl rfl
theorem tb_4_131 : (Jvm.Cond.instanceMethod yX7_asides) ∈ nn_B := nn_m4 (k := 131) rfl rfl
theorem tb_4_132 : (Jvm.Cond.code yX7_asides prog_9_method_40_code (2 : Nat) (Option.none : Option Jvm.ClassFile.FieldType)) ∈ nn_B := nn_m4 (k := 132) rfl rfl
theorem tb_4_133 : (Jvm.Cond.methodLink "NineNoonsModel" (178 : Nat) yX7_goesOn) ∈ nn_B := nn_m4 (k := 133) rfl rfl
theorem tb_4_135 : (Jvm.Cond.instanceMethod yX7_goesOn) ∈ nn_B := nn_m4 (k := 135) rfl rfl
theorem tb_4_136 : (Jvm.Cond.code yX7_goesOn prog_9_method_14_code (3 : Nat) (Option.none : Option Jvm.ClassFile.FieldType)) ∈ nn_B := nn_m4 (k := 136) rfl rfl
theorem tb_4_137 : (Jvm.Cond.methodLink "NineNoonsModel" (182 : Nat) yX7_backs) ∈ nn_B := nn_m4 (k := 137) rfl rfl
theorem tb_4_139 : (Jvm.Cond.instanceMethod yX7_backs) ∈ nn_B := nn_m4 (k := 139) rfl rfl
theorem tb_4_140 : (Jvm.Cond.code yX7_backs prog_9_method_41_code (2 : Nat) (Option.none : Option Jvm.ClassFile.FieldType)) ∈ nn_B := nn_m4 (k := 140) rfl rfl
theorem tb_4_141 : (Jvm.Cond.methodLink "NineNoonsLaw" (76 : Nat) yX7_near) ∈ nn_B := nn_m4 (k := 141) rfl rfl
theorem tb_4_142 : (Jvm.Cond.instanceMethod yX7_near) ∈ nn_B := nn_m4 (k := 142) rfl rfl
theorem tb_4_143 : (Jvm.Cond.selects "NineNoonsModel" yX7_near yX7_near) ∈ nn_B := nn_m4 (k := 143) rfl rfl
theorem tb_4_144 : (Jvm.Cond.code yX7_near prog_9_method_43_code (3 : Nat) (Option.some Jvm.ClassFile.FieldType.int)) ∈ nn_B := nn_m4 (k := 144) rfl rfl
theorem tb_4_145 : (Jvm.Cond.methodLink "NineNoonsLaw" (80 : Nat) yX7_meet) ∈ nn_B := nn_m4 (k := 145) rfl rfl
theorem tb_4_146 : (Jvm.Cond.instanceMethod yX7_meet) ∈ nn_B := nn_m4 (k := 146) rfl rfl
theorem tb_4_147 : (Jvm.Cond.selects "NineNoonsModel" yX7_meet yX7_meet) ∈ nn_B := nn_m4 (k := 147) rfl rfl
theorem tb_4_148 : (Jvm.Cond.code yX7_meet prog_9_method_44_code (4 : Nat) (Option.some Jvm.ClassFile.FieldType.int)) ∈ nn_B := nn_m4 (k := 148) rfl rfl
theorem tb_4_149 : (Jvm.Cond.methodLink "NineNoonsLaw" (84 : Nat) yX7_together) ∈ nn_B := nn_m4 (k := 149) rfl rfl
theorem tb_4_150 : (Jvm.Cond.instanceMethod yX7_together) ∈ nn_B := nn_m4 (k := 150) rfl rfl
theorem tb_4_151 : (Jvm.Cond.selects "NineNoonsModel" yX7_together yX7_together) ∈ nn_B := nn_m4 (k := 151) rfl rfl
theorem tb_4_152 : (Jvm.Cond.code yX7_together prog_9_method_46_code (3 : Nat) (Option.some Jvm.ClassFile.FieldType.int)) ∈ nn_B := nn_m4 (k := 152) rfl rfl
theorem tb_4_153 : (Jvm.Cond.methodLink "NineNoonsModel" (188 : Nat) yX7_whenTogether) ∈ nn_B := nn_m4 (k := 153) rfl rfl
theorem tb_4_155 : (Jvm.Cond.instanceMethod yX7_whenTogether) ∈ nn_B := nn_m4 (k := 155) rfl rfl
theorem tb_4_156 : (Jvm.Cond.code yX7_whenTogether prog_9_method_45_code (2 : Nat) (Option.some Jvm.ClassFile.FieldType.int)) ∈ nn_B := nn_m4 (k := 156) rfl rfl
theorem tb_4_157 : (Jvm.Cond.methodLink "NineNoonsLaw" (88 : Nat) yX7_fix) ∈ nn_B := nn_m4 (k := 157) rfl rfl
theorem tb_4_158 : (Jvm.Cond.instanceMethod yX7_fix) ∈ nn_B := nn_m4 (k := 158) rfl rfl
theorem tb_4_159 : (Jvm.Cond.selects "NineNoonsModel" yX7_fix yX7_fix) ∈ nn_B := nn_m4 (k := 159) rfl rfl
theorem tb_4_160 : (Jvm.Cond.code yX7_fix prog_9_method_48_code (8 : Nat) (Option.some Jvm.ClassFile.FieldType.int)) ∈ nn_B := nn_m4 (k := 160) rfl rfl
theorem tb_4_161 : (Jvm.Cond.constantLong "NineNoonsModel" (191 : Nat) (12 : Int64)) ∈ nn_B := nn_m4 (k := 161) rfl rfl
theorem tb_4_162 : (Jvm.Cond.constantLong "NineNoonsModel" (193 : Nat) (-1 : Int64)) ∈ nn_B := nn_m4 (k := 162) rfl rfl
theorem tb_4_163 : (Jvm.Cond.methodLink "NineNoonsModel" (195 : Nat) yX7_setsIn) ∈ nn_B := nn_m4 (k := 163) rfl rfl
theorem tb_4_165 : (Jvm.Cond.instanceMethod yX7_setsIn) ∈ nn_B := nn_m4 (k := 165) rfl rfl
theorem tb_4_166 : (Jvm.Cond.code yX7_setsIn prog_9_method_47_code (7 : Nat) (Option.some Jvm.ClassFile.FieldType.int)) ∈ nn_B := nn_m4 (k := 166) rfl rfl
theorem tb_4_167 : (Jvm.Cond.methodLink "NineNoonsLaw" (93 : Nat) yX7_free) ∈ nn_B := nn_m4 (k := 167) rfl rfl
theorem tb_4_168 : (Jvm.Cond.instanceMethod yX7_free) ∈ nn_B := nn_m4 (k := 168) rfl rfl
theorem tb_4_169 : (Jvm.Cond.selects "NineNoonsModel" yX7_free yX7_free) ∈ nn_B := nn_m4 (k := 169) rfl rfl
theorem tb_4_170 : (Jvm.Cond.code yX7_free prog_9_method_49_code (12 : Nat) (Option.some Jvm.ClassFile.FieldType.long)) ∈ nn_B := nn_m4 (k := 170) rfl rfl
theorem tb_4_171 : (Jvm.Cond.constantLong "NineNoonsModel" (198 : Nat) (30 : Int64)) ∈ nn_B := nn_m4 (k := 171) rfl rfl
theorem tb_4_172 : (Jvm.Cond.constantLong "NineNoonsModel" (200 : Nat) (2 : Int64)) ∈ nn_B := nn_m4 (k := 172) rfl rfl
theorem tb_4_173 : (Jvm.Cond.constantLong "NineNoonsModel" (202 : Nat) (-4 : Int64)) ∈ nn_B := nn_m4 (k := 173) rfl rfl
theorem tb_4_174 : (Jvm.Cond.methodLink "NineNoonsLaw" (98 : Nat) yX7_hear) ∈ nn_B := nn_m4 (k := 174) rfl rfl
theorem tb_4_175 : (Jvm.Cond.instanceMethod yX7_hear) ∈ nn_B := nn_m4 (k := 175) rfl rfl
theorem tb_4_176 : (Jvm.Cond.selects "NineNoonsModel" yX7_hear yX7_hear) ∈ nn_B := nn_m4 (k := 176) rfl rfl
theorem tb_4_177 : (Jvm.Cond.code yX7_hear prog_9_method_52_code (10 : Nat) (Option.some Jvm.ClassFile.FieldType.int)) ∈ nn_B := nn_m4 (k := 177) rfl rfl
theorem tb_4_178 : (Jvm.Cond.methodLink "NineNoonsModel" (204 : Nat) yX7_isOrder) ∈ nn_B := nn_m4 (k := 178) rfl rfl
theorem tb_4_180 : (Jvm.Cond.instanceMethod yX7_isOrder) ∈ nn_B := nn_m4 (k := 180) rfl rfl
theorem tb_4_181 : (Jvm.Cond.code yX7_isOrder prog_9_method_50_code (5 : Nat) (Option.some Jvm.ClassFile.FieldType.boolean)) ∈ nn_B := nn_m4 (k := 181) rfl rfl
theorem tb_4_182 : (Jvm.Cond.methodLink "NineNoonsModel" (207 : Nat) yX7_hears) ∈ nn_B := nn_m4 (k := 182) rfl rfl
theorem tb_4_184 : (Jvm.Cond.instanceMethod yX7_hears) ∈ nn_B := nn_m4 (k := 184) rfl rfl
theorem tb_4_185 : (Jvm.Cond.code yX7_hears prog_9_method_51_code (8 : Nat) (Option.some Jvm.ClassFile.FieldType.int)) ∈ nn_B := nn_m4 (k := 185) rfl rfl
theorem tb_4_186 : (Jvm.Cond.methodLink "NineNoonsLaw" (102 : Nat) yX7_again) ∈ nn_B := nn_m4 (k := 186) rfl rfl
theorem tb_4_187 : (Jvm.Cond.instanceMethod yX7_again) ∈ nn_B := nn_m4 (k := 187) rfl rfl
theorem tb_4_188 : (Jvm.Cond.selects "NineNoonsModel" yX7_again yX7_again) ∈ nn_B := nn_m4 (k := 188) rfl rfl
theorem tb_4_189 : (Jvm.Cond.code yX7_again prog_9_method_54_code (3 : Nat) (Option.some Jvm.ClassFile.FieldType.int)) ∈ nn_B := nn_m4 (k := 189) rfl rfl
theorem tb_4_190 : (Jvm.Cond.methodLink "NineNoonsModel" (211 : Nat) yX7_isAsAside) ∈ nn_B := nn_m4 (k := 190) rfl rfl
theorem tb_4_192 : (Jvm.Cond.instanceMethod yX7_isAsAside) ∈ nn_B := nn_m4 (k := 192) rfl rfl
theorem tb_4_193 : (Jvm.Cond.code yX7_isAsAside prog_9_method_53_code (3 : Nat) (Option.some Jvm.ClassFile.FieldType.boolean)) ∈ nn_B := nn_m4 (k := 193) rfl rfl
theorem tb_4_194 : (Jvm.Cond.methodLink "NineNoonsLaw" (106 : Nat) yX7_worst) ∈ nn_B := nn_m4 (k := 194) rfl rfl
theorem tb_4_195 : (Jvm.Cond.instanceMethod yX7_worst) ∈ nn_B := nn_m4 (k := 195) rfl rfl
theorem tb_4_196 : (Jvm.Cond.selects "NineNoonsModel" yX7_worst yX7_worst) ∈ nn_B := nn_m4 (k := 196) rfl rfl
theorem tb_4_197 : (Jvm.Cond.code yX7_worst prog_9_method_55_code (6 : Nat) (Option.some Jvm.ClassFile.FieldType.int)) ∈ nn_B := nn_m4 (k := 197) rfl rfl
theorem tb_4_198 : (Jvm.Cond.methodLink "NineNoonsLaw" (110 : Nat) yX7_fog) ∈ nn_B := nn_m4 (k := 198) rfl rfl
theorem tb_4_199 : (Jvm.Cond.instanceMethod yX7_fog) ∈ nn_B := nn_m4 (k := 199) rfl rfl
theorem tb_4_200 : (Jvm.Cond.selects "NineNoonsModel" yX7_fog yX7_fog) ∈ nn_B := nn_m4 (k := 200) rfl rfl
theorem tb_4_201 : (Jvm.Cond.code yX7_fog prog_9_method_56_code (9 : Nat) (Option.some Jvm.ClassFile.FieldType.int)) ∈ nn_B := nn_m4 (k := 201) rfl rfl
theorem tb_4_202 : (Jvm.Cond.constantLong "NineNoonsModel" (215 : Nat) (10 : Int64)) ∈ nn_B := nn_m4 (k := 202) rfl rfl
theorem tb_4_203 : (Jvm.Cond.methodLink "NineNoonsLaw" (114 : Nat) yX7_image) ∈ nn_B := nn_m4 (k := 203) rfl rfl
theorem tb_4_204 : (Jvm.Cond.instanceMethod yX7_image) ∈ nn_B := nn_m4 (k := 204) rfl rfl
theorem tb_4_205 : (Jvm.Cond.selects "NineNoonsModel" yX7_image yX7_image) ∈ nn_B := nn_m4 (k := 205) rfl rfl
theorem tb_4_206 : (Jvm.Cond.code yX7_image prog_9_method_57_code (2 : Nat) (Option.some Jvm.ClassFile.FieldType.int)) ∈ nn_B := nn_m4 (k := 206) rfl rfl
theorem tb_4_207 : (Jvm.Cond.methodLink "NineNoonsLaw" (118 : Nat) yX7_restore) ∈ nn_B := nn_m4 (k := 207) rfl rfl
theorem tb_4_208 : (Jvm.Cond.instanceMethod yX7_restore) ∈ nn_B := nn_m4 (k := 208) rfl rfl
theorem tb_4_209 : (Jvm.Cond.selects "NineNoonsModel" yX7_restore yX7_restore) ∈ nn_B := nn_m4 (k := 209) rfl rfl
theorem tb_4_210 : (Jvm.Cond.code yX7_restore prog_9_method_58_code (2 : Nat) (Option.some Jvm.ClassFile.FieldType.int)) ∈ nn_B := nn_m4 (k := 210) rfl rfl
theorem tb_4_211 : (Jvm.Cond.methodLink "NineNoonsLaw" (123 : Nat) yX7_heard) ∈ nn_B := nn_m4 (k := 211) rfl rfl
theorem tb_4_212 : (Jvm.Cond.instanceMethod yX7_heard) ∈ nn_B := nn_m4 (k := 212) rfl rfl
theorem tb_4_213 : (Jvm.Cond.selects "NineNoonsModel" yX7_heard yX7_heard) ∈ nn_B := nn_m4 (k := 213) rfl rfl
theorem tb_4_214 : (Jvm.Cond.code yX7_heard prog_9_method_63_code (10 : Nat) (Option.some Jvm.ClassFile.FieldType.int)) ∈ nn_B := nn_m4 (k := 214) rfl rfl
theorem tb_4_215 : (Jvm.Cond.methodLink "NineNoonsModel" (225 : Nat) yX7_isSheet) ∈ nn_B := nn_m4 (k := 215) rfl rfl
theorem tb_4_216 : (Jvm.Cond.static yX7_isSheet) ∈ nn_B := nn_m4 (k := 216) rfl rfl
theorem tb_4_217 : (Jvm.Cond.code yX7_isSheet prog_9_method_59_code (1 : Nat) (Option.some Jvm.ClassFile.FieldType.boolean)) ∈ nn_B := nn_m4 (k := 217) rfl rfl
theorem tb_4_218 : (Jvm.Cond.constantLong "NineNoonsModel" (223 : Nat) (3 : Int64)) ∈ nn_B := nn_m4 (k := 218) rfl rfl
theorem tb_4_219 : (Jvm.Cond.methodLink "NineNoonsModel" (228 : Nat) yX7_isLane) ∈ nn_B := nn_m4 (k := 219) rfl rfl
theorem tb_4_220 : (Jvm.Cond.static yX7_isLane) ∈ nn_B := nn_m4 (k := 220) rfl rfl
theorem tb_4_221 : (Jvm.Cond.code yX7_isLane prog_9_method_60_code (1 : Nat) (Option.some Jvm.ClassFile.FieldType.boolean)) ∈ nn_B := nn_m4 (k := 221) rfl rfl
theorem tb_4_222 : (Jvm.Cond.constantLong "NineNoonsModel" (231 : Nat) (8 : Int64)) ∈ nn_B := nn_m4 (k := 222) rfl rfl
theorem tb_4_223 : (Jvm.Cond.methodLink "NineNoonsModel" (233 : Nat) yX7_why) ∈ nn_B := nn_m4 (k := 223) rfl rfl
theorem tb_4_225 : (Jvm.Cond.instanceMethod yX7_why) ∈ nn_B := nn_m4 (k := 225) rfl rfl
theorem tb_4_226 : (Jvm.Cond.code yX7_why prog_9_method_61_code (5 : Nat) (Option.some Jvm.ClassFile.FieldType.int)) ∈ nn_B := nn_m4 (k := 226) rfl rfl
theorem tb_4_227 : (Jvm.Cond.methodLink "NineNoonsModel" (237 : Nat) yX7_isSo) ∈ nn_B := nn_m4 (k := 227) rfl rfl
theorem tb_4_229 : (Jvm.Cond.instanceMethod yX7_isSo) ∈ nn_B := nn_m4 (k := 229) rfl rfl
theorem tb_4_230 : (Jvm.Cond.code yX7_isSo prog_9_method_62_code (6 : Nat) (Option.some Jvm.ClassFile.FieldType.boolean)) ∈ nn_B := nn_m4 (k := 230) rfl rfl
theorem tb_4_231 : (Jvm.Cond.methodLink "NineNoonsLaw" (128 : Nat) yX7_film) ∈ nn_B := nn_m4 (k := 231) rfl rfl
theorem tb_4_232 : (Jvm.Cond.instanceMethod yX7_film) ∈ nn_B := nn_m4 (k := 232) rfl rfl
theorem tb_4_233 : (Jvm.Cond.selects "NineNoonsModel" yX7_film yX7_film) ∈ nn_B := nn_m4 (k := 233) rfl rfl
theorem tb_4_234 : (Jvm.Cond.code yX7_film prog_9_method_64_code (8 : Nat) (Option.some Jvm.ClassFile.FieldType.int)) ∈ nn_B := nn_m4 (k := 234) rfl rfl
theorem tb_4_235 : (Jvm.Cond.constantLong "NineNoonsModel" (241 : Nat) (24 : Int64)) ∈ nn_B := nn_m4 (k := 235) rfl rfl
theorem tb_4_236 : (Jvm.Cond.methodLink "NineNoonsLaw" (132 : Nat) yX7_sheet) ∈ nn_B := nn_m4 (k := 236) rfl rfl
theorem tb_4_237 : (Jvm.Cond.instanceMethod yX7_sheet) ∈ nn_B := nn_m4 (k := 237) rfl rfl
theorem tb_4_238 : (Jvm.Cond.selects "NineNoonsModel" yX7_sheet yX7_sheet) ∈ nn_B := nn_m4 (k := 238) rfl rfl
theorem tb_4_239 : (Jvm.Cond.code yX7_sheet prog_9_method_65_code (5 : Nat) (Option.some Jvm.ClassFile.FieldType.int)) ∈ nn_B := nn_m4 (k := 239) rfl rfl
theorem tb_5_0 : (Jvm.Cond.methodLink "NineNoonsLaw" (136 : Nat) yX7_drop) ∈ nn_B := nn_m5 (k := 0) rfl rfl
theorem tb_5_1 : (Jvm.Cond.instanceMethod yX7_drop) ∈ nn_B := nn_m5 (k := 1) rfl rfl
theorem tb_5_2 : (Jvm.Cond.selects "NineNoonsModel" yX7_drop yX7_drop) ∈ nn_B := nn_m5 (k := 2) rfl rfl
theorem tb_5_3 : (Jvm.Cond.code yX7_drop prog_9_method_66_code (2 : Nat) (Option.some Jvm.ClassFile.FieldType.int)) ∈ nn_B := nn_m5 (k := 3) rfl rfl
theorem tb_5_4 : (Jvm.Cond.methodLink "NineNoonsLaw" (143 : Nat) yX7_item) ∈ nn_B := nn_m5 (k := 4) rfl rfl
theorem tb_5_5 : (Jvm.Cond.instanceMethod yX7_item) ∈ nn_B := nn_m5 (k := 5) rfl rfl
theorem tb_5_6 : (Jvm.Cond.selects "NineNoonsModel" yX7_item yX7_item) ∈ nn_B := nn_m5 (k := 6) rfl rfl
theorem tb_5_7 : (Jvm.Cond.code yX7_item prog_9_method_67_code (7 : Nat) (Option.some Jvm.ClassFile.FieldType.int)) ∈ nn_B := nn_m5 (k := 7) rfl rfl
theorem tb_5_8 : (Jvm.Cond.methodLink "NineNoonsLaw" (147 : Nat) yX7_copy) ∈ nn_B := nn_m5 (k := 8) rfl rfl
theorem tb_5_9 : (Jvm.Cond.instanceMethod yX7_copy) ∈ nn_B := nn_m5 (k := 9) rfl rfl
theorem tb_5_10 : (Jvm.Cond.selects "NineNoonsModel" yX7_copy yX7_copy) ∈ nn_B := nn_m5 (k := 10) rfl rfl
theorem tb_5_11 : (Jvm.Cond.code yX7_copy prog_9_method_68_code (8 : Nat) (Option.some Jvm.ClassFile.FieldType.int)) ∈ nn_B := nn_m5 (k := 11) rfl rfl
theorem tb_5_12 : (Jvm.Cond.constantLong "NineNoonsLaw" (137 : Nat) (4294967295 : Int64)) ∈ nn_B := nn_m5 (k := 12) rfl rfl
theorem ts_1_0 : Cond.selects "NineNoons$Tape" yX4_readVillage yX4_readVillage ∈ nn_B := nn_s1 (k := 0) rfl
theorem ts_1_1 : Cond.selects "NineNoons$Tape" yX4_readKind yX4_readKind ∈ nn_B := nn_s1 (k := 1) rfl
theorem ts_1_2 : Cond.selects "NineNoons$Tape" yX4_takes yX4_takes ∈ nn_B := nn_s1 (k := 2) rfl
theorem ts_1_3 : Cond.selects "NineNoons$Tape" yX4_comingLetter yX4_comingLetter ∈ nn_B := nn_s1 (k := 3) rfl
theorem ts_1_4 : Cond.selects "NineNoons$Tape" yX4_faultAt yX4_faultAt ∈ nn_B := nn_s1 (k := 4) rfl
theorem ts_1_5 : Cond.selects "NineNoons$Tape" yX4_readNumber yX4_readNumber ∈ nn_B := nn_s1 (k := 5) rfl
theorem ts_1_6 : Cond.selects "NineNoons$Tape" yX4_takeDigit yX4_takeDigit ∈ nn_B := nn_s1 (k := 6) rfl
theorem ts_1_7 : Cond.selects "NineNoons$Tape" yX4_readDrift yX4_readDrift ∈ nn_B := nn_s1 (k := 7) rfl
theorem ts_1_8 : Cond.selects "NineNoons" yX6_passDays yX6_passDays ∈ nn_B := nn_s1 (k := 8) rfl
theorem ts_1_9 : Cond.selects "NineNoons" yX6_foretell yX6_foretell ∈ nn_B := nn_s1 (k := 9) rfl
theorem ts_1_10 : Cond.selects "NineNoons$Setter" yX2_settleRest yX2_settleRest ∈ nn_B := nn_s1 (k := 10) rfl
theorem ts_1_11 : Cond.selects "NineNoons$Setter" yX2_settleBy yX2_settleBy ∈ nn_B := nn_s1 (k := 11) rfl
theorem ts_1_12 : Cond.selects "NineNoons$Carrier" yX0_hearRest yX0_hearRest ∈ nn_B := nn_s1 (k := 12) rfl
theorem ts_1_13 : Cond.selects "NineNoons$Carrier" yX0_hearFirst yX0_hearFirst ∈ nn_B := nn_s1 (k := 13) rfl
theorem ts_1_14 : Cond.selects "NineNoons" yX6_togetherWithoutDriftOf yX6_togetherWithoutDriftOf ∈ nn_B := nn_s1 (k := 14) rfl
theorem ts_1_15 : Cond.selects "NineNoons" yX6_fogWaysApart yX6_fogWaysApart ∈ nn_B := nn_s1 (k := 15) rfl
theorem ts_2_0 : Cond.selects "NineNoons" yX6_kindsHeard yX6_kindsHeard ∈ nn_B := nn_s2 (k := 0) rfl
theorem ts_2_1 : Cond.selects "NineNoons" yX6_trialRingsAs yX6_trialRingsAs ∈ nn_B := nn_s2 (k := 1) rfl
theorem ts_2_2 : Cond.selects "NineNoons" yX6_driftsHeard yX6_driftsHeard ∈ nn_B := nn_s2 (k := 2) rfl
theorem ts_2_3 : Cond.selects "NineNoonsModel" yX7_villageComes yX7_villageComes ∈ nn_B := nn_s2 (k := 3) rfl
theorem ts_2_4 : Cond.selects "NineNoonsModel" yX7_tells yX7_tells ∈ nn_B := nn_s2 (k := 4) rfl
theorem ts_2_5 : Cond.selects "NineNoonsModel" yX7_isVillage yX7_isVillage ∈ nn_B := nn_s2 (k := 5) rfl
theorem ts_2_6 : Cond.selects "NineNoonsModel" yX7_told yX7_told ∈ nn_B := nn_s2 (k := 6) rfl
theorem ts_2_7 : Cond.selects "NineNoonsModel" yX7_laterBy yX7_laterBy ∈ nn_B := nn_s2 (k := 7) rfl
theorem ts_2_8 : Cond.selects "NineNoonsModel" yX7_hearsAnother yX7_hearsAnother ∈ nn_B := nn_s2 (k := 8) rfl
theorem ts_2_9 : Cond.selects "NineNoonsModel" yX7_minuteOf yX7_minuteOf ∈ nn_B := nn_s2 (k := 9) rfl
theorem ts_2_10 : Cond.selects "NineNoonsModel" yX7_milesBetween yX7_milesBetween ∈ nn_B := nn_s2 (k := 10) rfl
theorem ts_2_11 : Cond.selects "NineNoonsModel" yX7_alike yX7_alike ∈ nn_B := nn_s2 (k := 11) rfl
theorem ts_2_12 : Cond.selects "NineNoonsModel" yX7_areTwo yX7_areTwo ∈ nn_B := nn_s2 (k := 12) rfl
theorem ts_2_13 : Cond.selects "NineNoonsModel" yX7_leastGap yX7_leastGap ∈ nn_B := nn_s2 (k := 13) rfl
theorem ts_2_14 : Cond.selects "NineNoonsModel" yX7_allAlike yX7_allAlike ∈ nn_B := nn_s2 (k := 14) rfl
theorem ts_2_15 : Cond.selects "NineNoonsModel" yX7_sumOf yX7_sumOf ∈ nn_B := nn_s2 (k := 15) rfl
theorem ts_3_0 : Cond.selects "NineNoonsModel" yX7_villagesRead yX7_villagesRead ∈ nn_B := nn_s3 (k := 0) rfl
theorem ts_3_1 : Cond.selects "NineNoonsModel" yX7_here yX7_here ∈ nn_B := nn_s3 (k := 1) rfl
theorem ts_3_2 : Cond.selects "NineNoonsModel" yX7_must yX7_must ∈ nn_B := nn_s3 (k := 2) rfl
theorem ts_3_3 : Cond.selects "NineNoonsModel" yX7_number yX7_number ∈ nn_B := nn_s3 (k := 3) rfl
theorem ts_3_4 : Cond.selects "NineNoonsModel" yX7_notes yX7_notes ∈ nn_B := nn_s3 (k := 4) rfl
theorem ts_3_5 : Cond.selects "NineNoonsModel" yX7_goesBy yX7_goesBy ∈ nn_B := nn_s3 (k := 5) rfl
theorem ts_3_6 : Cond.selects "NineNoonsModel" yX7_becomes yX7_becomes ∈ nn_B := nn_s3 (k := 6) rfl
theorem ts_3_7 : Cond.selects "NineNoonsModel" yX7_asides yX7_asides ∈ nn_B := nn_s3 (k := 7) rfl
theorem ts_3_8 : Cond.selects "NineNoonsModel" yX7_goesOn yX7_goesOn ∈ nn_B := nn_s3 (k := 8) rfl
theorem ts_3_9 : Cond.selects "NineNoonsModel" yX7_backs yX7_backs ∈ nn_B := nn_s3 (k := 9) rfl
theorem ts_3_10 : Cond.selects "NineNoonsModel" yX7_whenTogether yX7_whenTogether ∈ nn_B := nn_s3 (k := 10) rfl
theorem ts_3_11 : Cond.selects "NineNoonsModel" yX7_setsIn yX7_setsIn ∈ nn_B := nn_s3 (k := 11) rfl
theorem ts_3_12 : Cond.selects "NineNoonsModel" yX7_isOrder yX7_isOrder ∈ nn_B := nn_s3 (k := 12) rfl
theorem ts_3_13 : Cond.selects "NineNoonsModel" yX7_hears yX7_hears ∈ nn_B := nn_s3 (k := 13) rfl
theorem ts_3_14 : Cond.selects "NineNoonsModel" yX7_isAsAside yX7_isAsAside ∈ nn_B := nn_s3 (k := 14) rfl
theorem ts_3_15 : Cond.selects "NineNoonsModel" yX7_why yX7_why ∈ nn_B := nn_s3 (k := 15) rfl
theorem ts_4_0 : Cond.selects "NineNoonsModel" yX7_isSo yX7_isSo ∈ nn_B := nn_s4 (k := 0) rfl
theorem nnin0 : ∀ w ∈ wsX00, w ∈ nn_B := fun w h => List.mem_filter.mpr ((by decide +kernel : ∀ w ∈ wsX00, w ∈ lw_tbl ∧ goodWord w = true) w h)
theorem nnin1 : ∀ w ∈ wsX10, w ∈ nn_B := fun w h => List.mem_filter.mpr ((by decide +kernel : ∀ w ∈ wsX10, w ∈ lw_tbl ∧ goodWord w = true) w h)
theorem nnin2 : ∀ w ∈ wsX20, w ∈ nn_B := fun w h => List.mem_filter.mpr ((by decide +kernel : ∀ w ∈ wsX20, w ∈ lw_tbl ∧ goodWord w = true) w h)
theorem nnin3 : ∀ w ∈ wsX30, w ∈ nn_B := fun w h => List.mem_filter.mpr ((by decide +kernel : ∀ w ∈ wsX30, w ∈ lw_tbl ∧ goodWord w = true) w h)
theorem nnin4 : ∀ w ∈ wsX40, w ∈ nn_B := fun w h => List.mem_filter.mpr ((by decide +kernel : ∀ w ∈ wsX40, w ∈ lw_tbl ∧ goodWord w = true) w h)
theorem nnin5 : ∀ w ∈ wsX50, w ∈ nn_B := fun w h => List.mem_filter.mpr ((by decide +kernel : ∀ w ∈ wsX50, w ∈ lw_tbl ∧ goodWord w = true) w h)
theorem nnin6 : ∀ w ∈ wsX60, w ∈ nn_B := fun w h => List.mem_filter.mpr ((by decide +kernel : ∀ w ∈ wsX60, w ∈ lw_tbl ∧ goodWord w = true) w h)
theorem nnin7 : ∀ w ∈ wsX70, w ∈ nn_B := fun w h => List.mem_filter.mpr ((by decide +kernel : ∀ w ∈ wsX70, w ∈ lw_tbl ∧ goodWord w = true) w h)
