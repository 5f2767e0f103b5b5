/-! ===== the words that the operations use, by their places in the table ===== -/
set_option maxRecDepth 100000 in
theorem tw_1070 : (Cond.constantLong "PathsKept" (318 : Nat) (100 : Int64)) ∈ lw_tbl := ts_5 (ai_nth_mem 110 rfl)
set_option maxRecDepth 100000 in
theorem tw_1071 : (Cond.methodLink "PathsKeptLaw" (130 : Nat) ({ cls := "PathsKept", name := "clear", desc := "(II)J" } : Jvm.MethodName)) ∈ lw_tbl := ts_5 (ai_nth_mem 111 rfl)
set_option maxRecDepth 100000 in
theorem tw_1072 : (Cond.instanceMethod ({ cls := "PathsKept", name := "clear", desc := "(II)J" } : Jvm.MethodName)) ∈ lw_tbl := ts_5 (ai_nth_mem 112 rfl)
set_option maxRecDepth 100000 in
theorem tw_1073 : (Cond.selects "PathsKept" ({ cls := "PathsKept", name := "clear", desc := "(II)J" } : Jvm.MethodName) ({ cls := "PathsKept", name := "clear", desc := "(II)J" } : Jvm.MethodName)) ∈ lw_tbl := ts_5 (ai_nth_mem 113 rfl)
set_option maxRecDepth 100000 in
theorem tw_1074 : (Cond.code ({ cls := "PathsKept", name := "clear", desc := "(II)J" } : Jvm.MethodName) prog_1_method_44_code (9 : Nat) (Option.some Jvm.ClassFile.FieldType.long)) ∈ lw_tbl := ts_5 (ai_nth_mem 114 rfl)
set_option maxRecDepth 100000 in
theorem tw_1075 : (Cond.constantLong "PathsKept" (323 : Nat) (-1 : Int64)) ∈ lw_tbl := ts_5 (ai_nth_mem 115 rfl)
set_option maxRecDepth 100000 in
theorem tw_1076 : (Cond.methodLink "PathsKept" (325 : Nat) ({ cls := "PathsKept", name := "commonDivisor", desc := "(II)I" } : Jvm.MethodName)) ∈ lw_tbl := ts_5 (ai_nth_mem 116 rfl)
set_option maxRecDepth 100000 in
theorem tw_1077 : (Cond.static ({ cls := "PathsKept", name := "commonDivisor", desc := "(II)I" } : Jvm.MethodName)) ∈ lw_tbl := ts_5 (ai_nth_mem 117 rfl)
set_option maxRecDepth 100000 in
theorem tw_1078 : (Cond.code ({ cls := "PathsKept", name := "commonDivisor", desc := "(II)I" } : Jvm.MethodName) prog_1_method_45_code (6 : Nat) (Option.some Jvm.ClassFile.FieldType.int)) ∈ lw_tbl := ts_5 (ai_nth_mem 118 rfl)
set_option maxRecDepth 100000 in
theorem tw_1079 : (Cond.methodLink "PathsKept" (328 : Nat) ({ cls := "java/lang/Math", name := "max", desc := "(II)I" } : Jvm.MethodName)) ∈ lw_tbl := ts_5 (ai_nth_mem 119 rfl)
set_option maxRecDepth 100000 in
theorem tw_1080 : (Cond.static ({ cls := "java/lang/Math", name := "max", desc := "(II)I" } : Jvm.MethodName)) ∈ lw_tbl := ts_5 (ai_nth_mem 120 rfl)
set_option maxRecDepth 100000 in
theorem tw_1081 : (Cond.code ({ cls := "java/lang/Math", name := "max", desc := "(II)I" } : Jvm.MethodName) prog_21_method_65_code (2 : Nat) (Option.some Jvm.ClassFile.FieldType.int)) ∈ lw_tbl := ts_5 (ai_nth_mem 121 rfl)
set_option maxRecDepth 100000 in
theorem tw_1082 : (Cond.methodLink "PathsKeptLaw" (135 : Nat) ({ cls := "PathsKept", name := "see", desc := "(IIIZ)I" } : Jvm.MethodName)) ∈ lw_tbl := ts_5 (ai_nth_mem 122 rfl)
set_option maxRecDepth 100000 in
theorem tw_1083 : (Cond.instanceMethod ({ cls := "PathsKept", name := "see", desc := "(IIIZ)I" } : Jvm.MethodName)) ∈ lw_tbl := ts_5 (ai_nth_mem 123 rfl)
set_option maxRecDepth 100000 in
theorem tw_1084 : (Cond.selects "PathsKept" ({ cls := "PathsKept", name := "see", desc := "(IIIZ)I" } : Jvm.MethodName) ({ cls := "PathsKept", name := "see", desc := "(IIIZ)I" } : Jvm.MethodName)) ∈ lw_tbl := ts_5 (ai_nth_mem 124 rfl)
set_option maxRecDepth 100000 in
theorem tw_1085 : (Cond.code ({ cls := "PathsKept", name := "see", desc := "(IIIZ)I" } : Jvm.MethodName) prog_1_method_46_code (5 : Nat) (Option.some Jvm.ClassFile.FieldType.int)) ∈ lw_tbl := ts_5 (ai_nth_mem 125 rfl)
set_option maxRecDepth 100000 in
theorem tw_1086 : (Cond.methodLink "PathsKept" (333 : Nat) ({ cls := "PathsKept$Seen", name := "add", desc := "(IIII)I" } : Jvm.MethodName)) ∈ lw_tbl := ts_5 (ai_nth_mem 126 rfl)
set_option maxRecDepth 100000 in
theorem tw_1087 : (Cond.instanceMethod ({ cls := "PathsKept$Seen", name := "add", desc := "(IIII)I" } : Jvm.MethodName)) ∈ lw_tbl := ts_5 (ai_nth_mem 127 rfl)
set_option maxRecDepth 100000 in
theorem tw_1088 : (Cond.selects "PathsKept$Seen" ({ cls := "PathsKept$Seen", name := "add", desc := "(IIII)I" } : Jvm.MethodName) ({ cls := "PathsKept$Seen", name := "add", desc := "(IIII)I" } : Jvm.MethodName)) ∈ lw_tbl := ts_5 (ai_nth_mem 128 rfl)
set_option maxRecDepth 100000 in
theorem tw_1089 : (Cond.code ({ cls := "PathsKept$Seen", name := "add", desc := "(IIII)I" } : Jvm.MethodName) prog_6_method_4_code (5 : Nat) (Option.some Jvm.ClassFile.FieldType.int)) ∈ lw_tbl := ts_5 (ai_nth_mem 129 rfl)
set_option maxRecDepth 100000 in
theorem tw_1090 : (Cond.methodLink "PathsKeptLaw" (140 : Nat) ({ cls := "PathsKept", name := "strike", desc := "(I)I" } : Jvm.MethodName)) ∈ lw_tbl := ts_5 (ai_nth_mem 130 rfl)
set_option maxRecDepth 100000 in
theorem tw_1091 : (Cond.instanceMethod ({ cls := "PathsKept", name := "strike", desc := "(I)I" } : Jvm.MethodName)) ∈ lw_tbl := ts_5 (ai_nth_mem 131 rfl)
set_option maxRecDepth 100000 in
theorem tw_1092 : (Cond.selects "PathsKept" ({ cls := "PathsKept", name := "strike", desc := "(I)I" } : Jvm.MethodName) ({ cls := "PathsKept", name := "strike", desc := "(I)I" } : Jvm.MethodName)) ∈ lw_tbl := ts_5 (ai_nth_mem 132 rfl)
set_option maxRecDepth 100000 in
theorem tw_1093 : (Cond.code ({ cls := "PathsKept", name := "strike", desc := "(I)I" } : Jvm.MethodName) prog_1_method_47_code (2 : Nat) (Option.some Jvm.ClassFile.FieldType.int)) ∈ lw_tbl := ts_5 (ai_nth_mem 133 rfl)
set_option maxRecDepth 100000 in
theorem tw_1094 : (Cond.methodLink "PathsKeptLaw" (144 : Nat) ({ cls := "PathsKept", name := "known", desc := "(I)Z" } : Jvm.MethodName)) ∈ lw_tbl := ts_5 (ai_nth_mem 134 rfl)
set_option maxRecDepth 100000 in
theorem tw_1095 : (Cond.instanceMethod ({ cls := "PathsKept", name := "known", desc := "(I)Z" } : Jvm.MethodName)) ∈ lw_tbl := ts_5 (ai_nth_mem 135 rfl)
set_option maxRecDepth 100000 in
theorem tw_1096 : (Cond.selects "PathsKept" ({ cls := "PathsKept", name := "known", desc := "(I)Z" } : Jvm.MethodName) ({ cls := "PathsKept", name := "known", desc := "(I)Z" } : Jvm.MethodName)) ∈ lw_tbl := ts_5 (ai_nth_mem 136 rfl)
set_option maxRecDepth 100000 in
theorem tw_1097 : (Cond.code ({ cls := "PathsKept", name := "known", desc := "(I)Z" } : Jvm.MethodName) prog_1_method_48_code (2 : Nat) (Option.some Jvm.ClassFile.FieldType.boolean)) ∈ lw_tbl := ts_5 (ai_nth_mem 137 rfl)
set_option maxRecDepth 100000 in
theorem tw_1098 : (Cond.methodLink "PathsKeptLaw" (148 : Nat) ({ cls := "PathsKept", name := "legs", desc := "(I)I" } : Jvm.MethodName)) ∈ lw_tbl := ts_5 (ai_nth_mem 138 rfl)
set_option maxRecDepth 100000 in
theorem tw_1099 : (Cond.instanceMethod ({ cls := "PathsKept", name := "legs", desc := "(I)I" } : Jvm.MethodName)) ∈ lw_tbl := ts_5 (ai_nth_mem 139 rfl)
set_option maxRecDepth 100000 in
theorem tw_1100 : (Cond.selects "PathsKept" ({ cls := "PathsKept", name := "legs", desc := "(I)I" } : Jvm.MethodName) ({ cls := "PathsKept", name := "legs", desc := "(I)I" } : Jvm.MethodName)) ∈ lw_tbl := ts_5 (ai_nth_mem 140 rfl)
set_option maxRecDepth 100000 in
theorem tw_1101 : (Cond.code ({ cls := "PathsKept", name := "legs", desc := "(I)I" } : Jvm.MethodName) prog_1_method_49_code (4 : Nat) (Option.some Jvm.ClassFile.FieldType.int)) ∈ lw_tbl := ts_5 (ai_nth_mem 141 rfl)
set_option maxRecDepth 100000 in
theorem tw_1102 : (Cond.methodLink "PathsKept" (340 : Nat) ({ cls := "PathsKept$Seen", name := "sift", desc := "()V" } : Jvm.MethodName)) ∈ lw_tbl := ts_5 (ai_nth_mem 142 rfl)
set_option maxRecDepth 100000 in
theorem tw_1103 : (Cond.instanceMethod ({ cls := "PathsKept$Seen", name := "sift", desc := "()V" } : Jvm.MethodName)) ∈ lw_tbl := ts_5 (ai_nth_mem 143 rfl)
set_option maxRecDepth 100000 in
theorem tw_1104 : (Cond.selects "PathsKept$Seen" ({ cls := "PathsKept$Seen", name := "sift", desc := "()V" } : Jvm.MethodName) ({ cls := "PathsKept$Seen", name := "sift", desc := "()V" } : Jvm.MethodName)) ∈ lw_tbl := ts_5 (ai_nth_mem 144 rfl)
set_option maxRecDepth 100000 in
theorem tw_1105 : (Cond.code ({ cls := "PathsKept$Seen", name := "sift", desc := "()V" } : Jvm.MethodName) prog_6_method_5_code (3 : Nat) (Option.none : Option Jvm.ClassFile.FieldType)) ∈ lw_tbl := ts_5 (ai_nth_mem 145 rfl)
set_option maxRecDepth 100000 in
theorem tw_1106 : (Cond.methodLink "PathsKept$Seen" (38 : Nat) ({ cls := "PathsKept$Seen", name := "knownSize", desc := "()I" } : Jvm.MethodName)) ∈ lw_tbl := ts_5 (ai_nth_mem 146 rfl)
set_option maxRecDepth 100000 in
theorem tw_1107 : (Cond.methodLink "PathsKept$Seen" (45 : Nat) ({ cls := "java/lang/Math", name := "max", desc := "(II)I" } : Jvm.MethodName)) ∈ lw_tbl := ts_5 (ai_nth_mem 147 rfl)
set_option maxRecDepth 100000 in
theorem tw_1108 : (Cond.methodLink "PathsKept" (343 : Nat) ({ cls := "PathsKept", name := "placeIfLegs", desc := "(III)I" } : Jvm.MethodName)) ∈ lw_tbl := ts_5 (ai_nth_mem 148 rfl)
set_option maxRecDepth 100000 in
theorem tw_1110 : (Cond.instanceMethod ({ cls := "PathsKept", name := "placeIfLegs", desc := "(III)I" } : Jvm.MethodName)) ∈ lw_tbl := ts_5 (ai_nth_mem 150 rfl)
set_option maxRecDepth 100000 in
theorem tw_1111 : (Cond.code ({ cls := "PathsKept", name := "placeIfLegs", desc := "(III)I" } : Jvm.MethodName) prog_1_method_52_code (7 : Nat) (Option.some Jvm.ClassFile.FieldType.int)) ∈ lw_tbl := ts_5 (ai_nth_mem 151 rfl)
set_option maxRecDepth 100000 in
theorem tw_1112 : (Cond.methodLink "PathsKept" (364 : Nat) ({ cls := "PathsKept$Seen", name := "isSo", desc := "(I[I)Z" } : Jvm.MethodName)) ∈ lw_tbl := ts_5 (ai_nth_mem 152 rfl)
set_option maxRecDepth 100000 in
theorem tw_1113 : (Cond.instanceMethod ({ cls := "PathsKept$Seen", name := "isSo", desc := "(I[I)Z" } : Jvm.MethodName)) ∈ lw_tbl := ts_5 (ai_nth_mem 153 rfl)
set_option maxRecDepth 100000 in
theorem tw_1114 : (Cond.selects "PathsKept$Seen" ({ cls := "PathsKept$Seen", name := "isSo", desc := "(I[I)Z" } : Jvm.MethodName) ({ cls := "PathsKept$Seen", name := "isSo", desc := "(I[I)Z" } : Jvm.MethodName)) ∈ lw_tbl := ts_5 (ai_nth_mem 154 rfl)
set_option maxRecDepth 100000 in
theorem tw_1115 : (Cond.code ({ cls := "PathsKept$Seen", name := "isSo", desc := "(I[I)Z" } : Jvm.MethodName) prog_6_method_6_code (5 : Nat) (Option.some Jvm.ClassFile.FieldType.boolean)) ∈ lw_tbl := ts_5 (ai_nth_mem 155 rfl)
set_option maxRecDepth 100000 in
theorem tw_1116 : (Cond.methodLink "PathsKeptLaw" (152 : Nat) ({ cls := "PathsKept", name := "sit", desc := "(III)I" } : Jvm.MethodName)) ∈ lw_tbl := ts_5 (ai_nth_mem 156 rfl)
set_option maxRecDepth 100000 in
theorem tw_1117 : (Cond.instanceMethod ({ cls := "PathsKept", name := "sit", desc := "(III)I" } : Jvm.MethodName)) ∈ lw_tbl := ts_5 (ai_nth_mem 157 rfl)
set_option maxRecDepth 100000 in
theorem tw_1118 : (Cond.selects "PathsKept" ({ cls := "PathsKept", name := "sit", desc := "(III)I" } : Jvm.MethodName) ({ cls := "PathsKept", name := "sit", desc := "(III)I" } : Jvm.MethodName)) ∈ lw_tbl := ts_5 (ai_nth_mem 158 rfl)
set_option maxRecDepth 100000 in
theorem tw_1119 : (Cond.code ({ cls := "PathsKept", name := "sit", desc := "(III)I" } : Jvm.MethodName) prog_1_method_50_code (8 : Nat) (Option.some Jvm.ClassFile.FieldType.int)) ∈ lw_tbl := ts_5 (ai_nth_mem 159 rfl)
set_option maxRecDepth 100000 in
theorem tw_1120 : (Cond.methodLink "PathsKept" (349 : Nat) ({ cls := "java/util/Arrays", name := "fill", desc := "([II)V" } : Jvm.MethodName)) ∈ lw_tbl := ts_5 (ai_nth_mem 160 rfl)
set_option maxRecDepth 100000 in
theorem tw_1121 : (Cond.methodLink "PathsKept" (355 : Nat) ({ cls := "PathsKept", name := "leftAtWorst", desc := "(II)I" } : Jvm.MethodName)) ∈ lw_tbl := ts_5 (ai_nth_mem 161 rfl)
set_option maxRecDepth 100000 in
theorem tw_1122 : (Cond.static ({ cls := "PathsKept", name := "leftAtWorst", desc := "(II)I" } : Jvm.MethodName)) ∈ lw_tbl := ts_5 (ai_nth_mem 162 rfl)
set_option maxRecDepth 100000 in
theorem tw_1123 : (Cond.code ({ cls := "PathsKept", name := "leftAtWorst", desc := "(II)I" } : Jvm.MethodName) prog_1_method_51_code (2 : Nat) (Option.some Jvm.ClassFile.FieldType.int)) ∈ lw_tbl := ts_5 (ai_nth_mem 163 rfl)
set_option maxRecDepth 100000 in
theorem tw_1124 : (Cond.methodLink "PathsKeptLaw" (39 : Nat) ({ cls := "PathsKeptLaw", name := "path", desc := "(LPathsKept;II[J)I" } : Jvm.MethodName)) ∈ lw_tbl := ts_5 (ai_nth_mem 164 rfl)
set_option maxRecDepth 100000 in
theorem tw_1125 : (Cond.static ({ cls := "PathsKeptLaw", name := "path", desc := "(LPathsKept;II[J)I" } : Jvm.MethodName)) ∈ lw_tbl := ts_5 (ai_nth_mem 165 rfl)
set_option maxRecDepth 100000 in
theorem tw_1126 : (Cond.codeWith ({ cls := "PathsKeptLaw", name := "path", desc := "(LPathsKept;II[J)I" } : Jvm.MethodName) method_3_code (5 : Nat) (Option.some Jvm.ClassFile.FieldType.int) [((0 : Nat), (10 : Nat), (13 : Nat), (13 : Nat)), ((0 : Nat), (10 : Nat), (17 : Nat), (15 : Nat))]) ∈ lw_tbl := ts_5 (ai_nth_mem 166 rfl)
set_option maxRecDepth 100000 in
theorem tw_1129 : (Cond.methodLink "PathsKeptLaw" (7 : Nat) ({ cls := "PathsKept", name := "path", desc := "(II)I" } : Jvm.MethodName)) ∈ lw_tbl := ts_5 (ai_nth_mem 169 rfl)
set_option maxRecDepth 100000 in
theorem tw_1130 : (Cond.instanceMethod ({ cls := "PathsKept", name := "path", desc := "(II)I" } : Jvm.MethodName)) ∈ lw_tbl := ts_5 (ai_nth_mem 170 rfl)
set_option maxRecDepth 100000 in
theorem tw_1131 : (Cond.selects "PathsKept" ({ cls := "PathsKept", name := "path", desc := "(II)I" } : Jvm.MethodName) ({ cls := "PathsKept", name := "path", desc := "(II)I" } : Jvm.MethodName)) ∈ lw_tbl := ts_5 (ai_nth_mem 171 rfl)
set_option maxRecDepth 100000 in
theorem tw_1132 : (Cond.code ({ cls := "PathsKept", name := "path", desc := "(II)I" } : Jvm.MethodName) prog_1_method_11_code (3 : Nat) (Option.some Jvm.ClassFile.FieldType.int)) ∈ lw_tbl := ts_5 (ai_nth_mem 172 rfl)
set_option maxRecDepth 100000 in
theorem tw_1149 : (Cond.methodLink "PathsKept" (159 : Nat) ({ cls := "PathsKept$Told", name := "isBullOn", desc := "(II)Z" } : Jvm.MethodName)) ∈ lw_tbl := ts_5 (ai_nth_mem 189 rfl)
set_option maxRecDepth 100000 in
theorem tw_1166 : (Cond.classLink "PathsKeptLaw" (18 : Nat) "PathsKeptModel") ∈ lw_tbl := ts_5 (ai_nth_mem 206 rfl)
set_option maxRecDepth 100000 in
theorem tw_1167 : (Cond.instantiable "PathsKeptModel" (96 : Nat)) ∈ lw_tbl := ts_5 (ai_nth_mem 207 rfl)
set_option maxRecDepth 100000 in
theorem tw_1168 : (Cond.methodLink "PathsKeptLaw" (20 : Nat) ({ cls := "PathsKeptModel", name := "<init>", desc := "()V" } : Jvm.MethodName)) ∈ lw_tbl := ts_5 (ai_nth_mem 208 rfl)
set_option maxRecDepth 100000 in
theorem tw_1169 : (Cond.instanceMethod ({ cls := "PathsKeptModel", name := "<init>", desc := "()V" } : Jvm.MethodName)) ∈ lw_tbl := ts_5 (ai_nth_mem 209 rfl)
set_option maxRecDepth 100000 in
theorem tw_1170 : (Cond.code ({ cls := "PathsKeptModel", name := "<init>", desc := "()V" } : Jvm.MethodName) prog_13_method_1_code (1 : Nat) (Option.none : Option Jvm.ClassFile.FieldType)) ∈ lw_tbl := ts_5 (ai_nth_mem 210 rfl)
set_option maxRecDepth 100000 in
theorem tw_1171 : (Cond.methodLink "PathsKeptModel" (1 : Nat) ({ cls := "java/lang/Object", name := "<init>", desc := "()V" } : Jvm.MethodName)) ∈ lw_tbl := ts_5 (ai_nth_mem 211 rfl)
set_option maxRecDepth 100000 in
theorem tw_1172 : (Cond.methodLink "PathsKeptModel" (169 : Nat) ({ cls := "PathsKeptModel", name := "plain", desc := "()V" } : Jvm.MethodName)) ∈ lw_tbl := ts_5 (ai_nth_mem 212 rfl)
set_option maxRecDepth 100000 in
theorem tw_1174 : (Cond.instanceMethod ({ cls := "PathsKeptModel", name := "plain", desc := "()V" } : Jvm.MethodName)) ∈ lw_tbl := ts_5 (ai_nth_mem 214 rfl)
set_option maxRecDepth 100000 in
theorem tw_1175 : (Cond.code ({ cls := "PathsKeptModel", name := "plain", desc := "()V" } : Jvm.MethodName) prog_13_method_17_code (2 : Nat) (Option.none : Option Jvm.ClassFile.FieldType)) ∈ lw_tbl := ts_5 (ai_nth_mem 215 rfl)
set_option maxRecDepth 100000 in
theorem tw_1176 : (Cond.methodLink "PathsKeptModel" (172 : Nat) ({ cls := "PathsKeptModel", name := "keepText", desc := "()V" } : Jvm.MethodName)) ∈ lw_tbl := ts_5 (ai_nth_mem 216 rfl)
set_option maxRecDepth 100000 in
theorem tw_1178 : (Cond.instanceMethod ({ cls := "PathsKeptModel", name := "keepText", desc := "()V" } : Jvm.MethodName)) ∈ lw_tbl := ts_5 (ai_nth_mem 218 rfl)
set_option maxRecDepth 100000 in
theorem tw_1179 : (Cond.code ({ cls := "PathsKeptModel", name := "keepText", desc := "()V" } : Jvm.MethodName) prog_13_method_19_code (2 : Nat) (Option.none : Option Jvm.ClassFile.FieldType)) ∈ lw_tbl := ts_5 (ai_nth_mem 219 rfl)
set_option maxRecDepth 100000 in
theorem tw_1180 : (Cond.methodLink "PathsKeptModel" (276 : Nat) ({ cls := "PathsKeptModel", name := "copies", desc := "([II)V" } : Jvm.MethodName)) ∈ lw_tbl := ts_5 (ai_nth_mem 220 rfl)
set_option maxRecDepth 100000 in
theorem tw_1181 : (Cond.static ({ cls := "PathsKeptModel", name := "copies", desc := "([II)V" } : Jvm.MethodName)) ∈ lw_tbl := ts_5 (ai_nth_mem 221 rfl)
set_option maxRecDepth 100000 in
theorem tw_1182 : (Cond.code ({ cls := "PathsKeptModel", name := "copies", desc := "([II)V" } : Jvm.MethodName) prog_13_method_18_code (3 : Nat) (Option.none : Option Jvm.ClassFile.FieldType)) ∈ lw_tbl := ts_5 (ai_nth_mem 222 rfl)
set_option maxRecDepth 100000 in
theorem tw_1183 : (Cond.methodLink "PathsKeptModel" (280 : Nat) ({ cls := "PathsKeptModel", name := "begin", desc := "()V" } : Jvm.MethodName)) ∈ lw_tbl := ts_5 (ai_nth_mem 223 rfl)
set_option maxRecDepth 100000 in
theorem tw_1185 : (Cond.instanceMethod ({ cls := "PathsKeptModel", name := "begin", desc := "()V" } : Jvm.MethodName)) ∈ lw_tbl := ts_5 (ai_nth_mem 225 rfl)
set_option maxRecDepth 100000 in
theorem tw_1186 : (Cond.code ({ cls := "PathsKeptModel", name := "begin", desc := "()V" } : Jvm.MethodName) prog_13_method_47_code (1 : Nat) (Option.none : Option Jvm.ClassFile.FieldType)) ∈ lw_tbl := ts_5 (ai_nth_mem 226 rfl)
set_option maxRecDepth 100000 in
theorem tw_1187 : (Cond.methodLink "PathsKeptModel" (388 : Nat) ({ cls := "PathsKeptModel", name := "atFirst", desc := "(I)V" } : Jvm.MethodName)) ∈ lw_tbl := ts_5 (ai_nth_mem 227 rfl)
set_option maxRecDepth 100000 in
theorem tw_1189 : (Cond.instanceMethod ({ cls := "PathsKeptModel", name := "atFirst", desc := "(I)V" } : Jvm.MethodName)) ∈ lw_tbl := ts_5 (ai_nth_mem 229 rfl)
set_option maxRecDepth 100000 in
theorem tw_1190 : (Cond.code ({ cls := "PathsKeptModel", name := "atFirst", desc := "(I)V" } : Jvm.MethodName) prog_13_method_48_code (3 : Nat) (Option.none : Option Jvm.ClassFile.FieldType)) ∈ lw_tbl := ts_5 (ai_nth_mem 230 rfl)
set_option maxRecDepth 100000 in
theorem tw_1191 : (Cond.methodLink "PathsKeptModel" (395 : Nat) ({ cls := "PathsKeptModel", name := "plainTried", desc := "()V" } : Jvm.MethodName)) ∈ lw_tbl := ts_5 (ai_nth_mem 231 rfl)
set_option maxRecDepth 100000 in
theorem tw_1193 : (Cond.instanceMethod ({ cls := "PathsKeptModel", name := "plainTried", desc := "()V" } : Jvm.MethodName)) ∈ lw_tbl := ts_5 (ai_nth_mem 233 rfl)
set_option maxRecDepth 100000 in
theorem tw_1194 : (Cond.code ({ cls := "PathsKeptModel", name := "plainTried", desc := "()V" } : Jvm.MethodName) prog_13_method_49_code (1 : Nat) (Option.none : Option Jvm.ClassFile.FieldType)) ∈ lw_tbl := ts_5 (ai_nth_mem 234 rfl)
set_option maxRecDepth 100000 in
theorem tw_1195 : (Cond.fieldLink "PathsKeptModel" (7 : Nat) "PathsKeptModel" "tape" "[I") ∈ lw_tbl := ts_5 (ai_nth_mem 235 rfl)
set_option maxRecDepth 100000 in
theorem tw_1196 : (Cond.fieldLink "PathsKeptModel" (178 : Nat) "PathsKeptModel" "tapeSize" "I") ∈ lw_tbl := ts_5 (ai_nth_mem 236 rfl)
set_option maxRecDepth 100000 in
theorem tw_1197 : (Cond.fieldLink "PathsKeptModel" (175 : Nat) "PathsKeptModel" "thrown" "I") ∈ lw_tbl := ts_5 (ai_nth_mem 237 rfl)
set_option maxRecDepth 100000 in
theorem tw_1198 : (Cond.fieldLink "PathsKeptModel" (13 : Nat) "PathsKeptModel" "words" "[I") ∈ lw_tbl := ts_5 (ai_nth_mem 238 rfl)
set_option maxRecDepth 100000 in
theorem tw_1199 : (Cond.fieldLink "PathsKeptModel" (181 : Nat) "PathsKeptModel" "fault" "I") ∈ lw_tbl := ts_5 (ai_nth_mem 239 rfl)
set_option maxRecDepth 100000 in
theorem tw_1200 : (Cond.fieldLink "PathsKeptModel" (16 : Nat) "PathsKeptModel" "faultPlace" "I") ∈ lw_tbl := ts_6 (ai_nth_mem 0 rfl)
set_option maxRecDepth 100000 in
theorem tw_1201 : (Cond.fieldLink "PathsKeptModel" (187 : Nat) "PathsKeptModel" "stop" "I") ∈ lw_tbl := ts_6 (ai_nth_mem 1 rfl)
set_option maxRecDepth 100000 in
theorem tw_1202 : (Cond.fieldLink "PathsKeptModel" (190 : Nat) "PathsKeptModel" "next" "I") ∈ lw_tbl := ts_6 (ai_nth_mem 2 rfl)
set_option maxRecDepth 100000 in
theorem tw_1203 : (Cond.fieldLink "PathsKeptModel" (193 : Nat) "PathsKeptModel" "kind" "I") ∈ lw_tbl := ts_6 (ai_nth_mem 3 rfl)
set_option maxRecDepth 100000 in
theorem tw_1204 : (Cond.fieldLink "PathsKeptModel" (204 : Nat) "PathsKeptModel" "which" "I") ∈ lw_tbl := ts_6 (ai_nth_mem 4 rfl)
set_option maxRecDepth 100000 in
theorem tw_1205 : (Cond.fieldLink "PathsKeptModel" (184 : Nat) "PathsKeptModel" "at" "I") ∈ lw_tbl := ts_6 (ai_nth_mem 5 rfl)
set_option maxRecDepth 100000 in
theorem tw_1206 : (Cond.fieldLink "PathsKeptModel" (224 : Nat) "PathsKeptModel" "got" "I") ∈ lw_tbl := ts_6 (ai_nth_mem 6 rfl)
set_option maxRecDepth 100000 in
theorem tw_1207 : (Cond.fieldLink "PathsKeptModel" (258 : Nat) "PathsKeptModel" "places" "I") ∈ lw_tbl := ts_6 (ai_nth_mem 7 rfl)
set_option maxRecDepth 100000 in
theorem tw_1208 : (Cond.fieldLink "PathsKeptModel" (261 : Nat) "PathsKeptModel" "paths" "I") ∈ lw_tbl := ts_6 (ai_nth_mem 8 rfl)
set_option maxRecDepth 100000 in
theorem tw_1209 : (Cond.fieldLink "PathsKeptModel" (264 : Nat) "PathsKeptModel" "walkers" "I") ∈ lw_tbl := ts_6 (ai_nth_mem 9 rfl)
set_option maxRecDepth 100000 in
theorem tw_1210 : (Cond.fieldLink "PathsKeptModel" (267 : Nat) "PathsKeptModel" "walks" "I") ∈ lw_tbl := ts_6 (ai_nth_mem 10 rfl)
set_option maxRecDepth 100000 in
theorem tw_1211 : (Cond.fieldLink "PathsKeptModel" (270 : Nat) "PathsKeptModel" "bulls" "I") ∈ lw_tbl := ts_6 (ai_nth_mem 11 rfl)
set_option maxRecDepth 100000 in
theorem tw_1212 : (Cond.fieldLink "PathsKeptModel" (273 : Nat) "PathsKeptModel" "knots" "I") ∈ lw_tbl := ts_6 (ai_nth_mem 12 rfl)
set_option maxRecDepth 100000 in
theorem tw_1213 : (Cond.fieldLink "PathsKeptModel" (237 : Nat) "PathsKeptModel" "placesRead" "I") ∈ lw_tbl := ts_6 (ai_nth_mem 13 rfl)
set_option maxRecDepth 100000 in
theorem tw_1214 : (Cond.fieldLink "PathsKeptModel" (240 : Nat) "PathsKeptModel" "pathsRead" "I") ∈ lw_tbl := ts_6 (ai_nth_mem 14 rfl)
set_option maxRecDepth 100000 in
theorem tw_1215 : (Cond.fieldLink "PathsKeptModel" (243 : Nat) "PathsKeptModel" "walkersRead" "I") ∈ lw_tbl := ts_6 (ai_nth_mem 15 rfl)
set_option maxRecDepth 100000 in
theorem tw_1216 : (Cond.fieldLink "PathsKeptModel" (246 : Nat) "PathsKeptModel" "walksRead" "I") ∈ lw_tbl := ts_6 (ai_nth_mem 16 rfl)
set_option maxRecDepth 100000 in
theorem tw_1217 : (Cond.fieldLink "PathsKeptModel" (249 : Nat) "PathsKeptModel" "bullsRead" "I") ∈ lw_tbl := ts_6 (ai_nth_mem 17 rfl)
set_option maxRecDepth 100000 in
theorem tw_1218 : (Cond.fieldLink "PathsKeptModel" (252 : Nat) "PathsKeptModel" "knotsRead" "I") ∈ lw_tbl := ts_6 (ai_nth_mem 18 rfl)
set_option maxRecDepth 100000 in
theorem tw_1219 : (Cond.fieldLink "PathsKeptModel" (20 : Nat) "PathsKeptModel" "onceTold" "[Z") ∈ lw_tbl := ts_6 (ai_nth_mem 19 rfl)
set_option maxRecDepth 100000 in
theorem tw_1220 : (Cond.fieldLink "PathsKeptModel" (24 : Nat) "PathsKeptModel" "once" "[I") ∈ lw_tbl := ts_6 (ai_nth_mem 20 rfl)
set_option maxRecDepth 100000 in
theorem tw_1221 : (Cond.fieldLink "PathsKeptModel" (27 : Nat) "PathsKeptModel" "placeName" "[I") ∈ lw_tbl := ts_6 (ai_nth_mem 21 rfl)
set_option maxRecDepth 100000 in
theorem tw_1222 : (Cond.fieldLink "PathsKeptModel" (30 : Nat) "PathsKeptModel" "pathName" "[I") ∈ lw_tbl := ts_6 (ai_nth_mem 22 rfl)
set_option maxRecDepth 100000 in
theorem tw_1223 : (Cond.fieldLink "PathsKeptModel" (33 : Nat) "PathsKeptModel" "pathOne" "[I") ∈ lw_tbl := ts_6 (ai_nth_mem 23 rfl)
set_option maxRecDepth 100000 in
theorem tw_1224 : (Cond.fieldLink "PathsKeptModel" (36 : Nat) "PathsKeptModel" "pathOther" "[I") ∈ lw_tbl := ts_6 (ai_nth_mem 24 rfl)
set_option maxRecDepth 100000 in
theorem tw_1225 : (Cond.fieldLink "PathsKeptModel" (39 : Nat) "PathsKeptModel" "pathLength" "[I") ∈ lw_tbl := ts_6 (ai_nth_mem 25 rfl)
set_option maxRecDepth 100000 in
theorem tw_1226 : (Cond.fieldLink "PathsKeptModel" (42 : Nat) "PathsKeptModel" "pathStile" "[I") ∈ lw_tbl := ts_6 (ai_nth_mem 26 rfl)
set_option maxRecDepth 100000 in
theorem tw_1227 : (Cond.fieldLink "PathsKeptModel" (45 : Nat) "PathsKeptModel" "pathAge" "[I") ∈ lw_tbl := ts_6 (ai_nth_mem 27 rfl)
set_option maxRecDepth 100000 in
theorem tw_1228 : (Cond.fieldLink "PathsKeptModel" (48 : Nat) "PathsKeptModel" "walkerName" "[I") ∈ lw_tbl := ts_6 (ai_nth_mem 28 rfl)
set_option maxRecDepth 100000 in
theorem tw_1229 : (Cond.fieldLink "PathsKeptModel" (51 : Nat) "PathsKeptModel" "walkerHome" "[I") ∈ lw_tbl := ts_6 (ai_nth_mem 29 rfl)
set_option maxRecDepth 100000 in
theorem tw_1230 : (Cond.fieldLink "PathsKeptModel" (54 : Nat) "PathsKeptModel" "walkerLegs" "[I") ∈ lw_tbl := ts_6 (ai_nth_mem 30 rfl)
set_option maxRecDepth 100000 in
theorem tw_1231 : (Cond.fieldLink "PathsKeptModel" (57 : Nat) "PathsKeptModel" "walkerPace" "[I") ∈ lw_tbl := ts_6 (ai_nth_mem 31 rfl)
set_option maxRecDepth 100000 in
theorem tw_1232 : (Cond.fieldLink "PathsKeptModel" (60 : Nat) "PathsKeptModel" "walkWho" "[I") ∈ lw_tbl := ts_6 (ai_nth_mem 32 rfl)
set_option maxRecDepth 100000 in
theorem tw_1233 : (Cond.fieldLink "PathsKeptModel" (63 : Nat) "PathsKeptModel" "walkPath" "[I") ∈ lw_tbl := ts_6 (ai_nth_mem 33 rfl)
set_option maxRecDepth 100000 in
theorem tw_1234 : (Cond.fieldLink "PathsKeptModel" (66 : Nat) "PathsKeptModel" "walkDay" "[I") ∈ lw_tbl := ts_6 (ai_nth_mem 34 rfl)
set_option maxRecDepth 100000 in
theorem tw_1235 : (Cond.fieldLink "PathsKeptModel" (69 : Nat) "PathsKeptModel" "bullPath" "[I") ∈ lw_tbl := ts_6 (ai_nth_mem 35 rfl)
set_option maxRecDepth 100000 in
theorem tw_1236 : (Cond.fieldLink "PathsKeptModel" (72 : Nat) "PathsKeptModel" "bullFrom" "[I") ∈ lw_tbl := ts_6 (ai_nth_mem 36 rfl)
set_option maxRecDepth 100000 in
theorem tw_1237 : (Cond.fieldLink "PathsKeptModel" (75 : Nat) "PathsKeptModel" "bullTo" "[I") ∈ lw_tbl := ts_6 (ai_nth_mem 37 rfl)
set_option maxRecDepth 100000 in
theorem tw_1238 : (Cond.fieldLink "PathsKeptModel" (78 : Nat) "PathsKeptModel" "lawTold" "[Z") ∈ lw_tbl := ts_6 (ai_nth_mem 38 rfl)
set_option maxRecDepth 100000 in
theorem tw_1239 : (Cond.fieldLink "PathsKeptModel" (81 : Nat) "PathsKeptModel" "first" "[I") ∈ lw_tbl := ts_6 (ai_nth_mem 39 rfl)
set_option maxRecDepth 100000 in
theorem tw_1240 : (Cond.fieldLink "PathsKeptModel" (84 : Nat) "PathsKeptModel" "last" "[I") ∈ lw_tbl := ts_6 (ai_nth_mem 40 rfl)
set_option maxRecDepth 100000 in
theorem tw_1241 : (Cond.fieldLink "PathsKeptModel" (87 : Nat) "PathsKeptModel" "knot" "[I") ∈ lw_tbl := ts_6 (ai_nth_mem 41 rfl)
set_option maxRecDepth 100000 in
theorem tw_1242 : (Cond.fieldLink "PathsKeptModel" (90 : Nat) "PathsKeptModel" "part" "[I") ∈ lw_tbl := ts_6 (ai_nth_mem 42 rfl)
set_option maxRecDepth 100000 in
theorem tw_1243 : (Cond.fieldLink "PathsKeptModel" (93 : Nat) "PathsKeptModel" "other" "[I") ∈ lw_tbl := ts_6 (ai_nth_mem 43 rfl)
set_option maxRecDepth 100000 in
theorem tw_1244 : (Cond.fieldLink "PathsKeptModel" (96 : Nat) "PathsKeptModel" "wait" "[I") ∈ lw_tbl := ts_6 (ai_nth_mem 44 rfl)
set_option maxRecDepth 100000 in
theorem tw_1245 : (Cond.fieldLink "PathsKeptModel" (99 : Nat) "PathsKeptModel" "held" "[I") ∈ lw_tbl := ts_6 (ai_nth_mem 45 rfl)
set_option maxRecDepth 100000 in
theorem tw_1246 : (Cond.fieldLink "PathsKeptModel" (322 : Nat) "PathsKeptModel" "waits" "I") ∈ lw_tbl := ts_6 (ai_nth_mem 46 rfl)
set_option maxRecDepth 100000 in
theorem tw_1247 : (Cond.fieldLink "PathsKeptModel" (319 : Nat) "PathsKeptModel" "helds" "I") ∈ lw_tbl := ts_6 (ai_nth_mem 47 rfl)
set_option maxRecDepth 100000 in
theorem tw_1248 : (Cond.fieldLink "PathsKeptModel" (337 : Nat) "PathsKeptModel" "brackets" "I") ∈ lw_tbl := ts_6 (ai_nth_mem 48 rfl)
set_option maxRecDepth 100000 in
theorem tw_1249 : (Cond.fieldLink "PathsKeptModel" (255 : Nat) "PathsKeptModel" "counted" "I") ∈ lw_tbl := ts_6 (ai_nth_mem 49 rfl)
set_option maxRecDepth 100000 in
theorem tw_1250 : (Cond.fieldLink "PathsKeptModel" (357 : Nat) "PathsKeptModel" "wants" "Z") ∈ lw_tbl := ts_6 (ai_nth_mem 50 rfl)
set_option maxRecDepth 100000 in
theorem tw_1251 : (Cond.fieldLink "PathsKeptModel" (344 : Nat) "PathsKeptModel" "mayNot" "Z") ∈ lw_tbl := ts_6 (ai_nth_mem 51 rfl)
set_option maxRecDepth 100000 in
theorem tw_1252 : (Cond.fieldLink "PathsKeptModel" (102 : Nat) "PathsKeptModel" "names" "[J") ∈ lw_tbl := ts_6 (ai_nth_mem 52 rfl)
set_option maxRecDepth 100000 in
theorem tw_1253 : (Cond.fieldLink "PathsKeptModel" (106 : Nat) "PathsKeptModel" "value" "[J") ∈ lw_tbl := ts_6 (ai_nth_mem 53 rfl)
set_option maxRecDepth 100000 in
theorem tw_1254 : (Cond.fieldLink "PathsKeptModel" (369 : Nat) "PathsKeptModel" "isError" "Z") ∈ lw_tbl := ts_6 (ai_nth_mem 54 rfl)
set_option maxRecDepth 100000 in
theorem tw_1255 : (Cond.fieldLink "PathsKeptModel" (109 : Nat) "PathsKeptModel" "where" "[I") ∈ lw_tbl := ts_6 (ai_nth_mem 55 rfl)
set_option maxRecDepth 100000 in
theorem tw_1256 : (Cond.fieldLink "PathsKeptModel" (112 : Nat) "PathsKeptModel" "left" "[I") ∈ lw_tbl := ts_6 (ai_nth_mem 56 rfl)
set_option maxRecDepth 100000 in
theorem tw_1257 : (Cond.fieldLink "PathsKeptModel" (115 : Nat) "PathsKeptModel" "age" "[I") ∈ lw_tbl := ts_6 (ai_nth_mem 57 rfl)
set_option maxRecDepth 100000 in
theorem tw_1258 : (Cond.fieldLink "PathsKeptModel" (118 : Nat) "PathsKeptModel" "kept" "[Z") ∈ lw_tbl := ts_6 (ai_nth_mem 58 rfl)
set_option maxRecDepth 100000 in
theorem tw_1259 : (Cond.fieldLink "PathsKeptModel" (121 : Nat) "PathsKeptModel" "gone" "[I") ∈ lw_tbl := ts_6 (ai_nth_mem 59 rfl)
set_option maxRecDepth 100000 in
theorem tw_1260 : (Cond.fieldLink "PathsKeptModel" (124 : Nat) "PathsKeptModel" "done" "[I") ∈ lw_tbl := ts_6 (ai_nth_mem 60 rfl)
set_option maxRecDepth 100000 in
theorem tw_1261 : (Cond.fieldLink "PathsKeptModel" (127 : Nat) "PathsKeptModel" "refused" "[I") ∈ lw_tbl := ts_6 (ai_nth_mem 61 rfl)
set_option maxRecDepth 100000 in
theorem tw_1262 : (Cond.fieldLink "PathsKeptModel" (130 : Nat) "PathsKeptModel" "day" "[I") ∈ lw_tbl := ts_6 (ai_nth_mem 62 rfl)
set_option maxRecDepth 100000 in
theorem tw_1263 : (Cond.fieldLink "PathsKeptModel" (391 : Nat) "PathsKeptModel" "drawn" "J") ∈ lw_tbl := ts_6 (ai_nth_mem 63 rfl)
set_option maxRecDepth 100000 in
theorem tw_1264 : (Cond.fieldLink "PathsKeptModel" (407 : Nat) "PathsKeptModel" "draws" "Z") ∈ lw_tbl := ts_6 (ai_nth_mem 64 rfl)
set_option maxRecDepth 100000 in
theorem tw_1265 : (Cond.fieldLink "PathsKeptModel" (410 : Nat) "PathsKeptModel" "noSnow" "Z") ∈ lw_tbl := ts_6 (ai_nth_mem 65 rfl)
set_option maxRecDepth 100000 in
theorem tw_1266 : (Cond.fieldLink "PathsKeptModel" (413 : Nat) "PathsKeptModel" "noBulls" "Z") ∈ lw_tbl := ts_6 (ai_nth_mem 66 rfl)
set_option maxRecDepth 100000 in
theorem tw_1267 : (Cond.fieldLink "PathsKeptModel" (416 : Nat) "PathsKeptModel" "strong" "Z") ∈ lw_tbl := ts_6 (ai_nth_mem 67 rfl)
set_option maxRecDepth 100000 in
theorem tw_1268 : (Cond.fieldLink "PathsKeptModel" (419 : Nat) "PathsKeptModel" "slow" "Z") ∈ lw_tbl := ts_6 (ai_nth_mem 68 rfl)
set_option maxRecDepth 100000 in
theorem tw_1269 : (Cond.fieldLink "PathsKeptModel" (422 : Nat) "PathsKeptModel" "idle" "I") ∈ lw_tbl := ts_6 (ai_nth_mem 69 rfl)
set_option maxRecDepth 100000 in
theorem tw_1270 : (Cond.fieldLink "PathsKeptModel" (425 : Nat) "PathsKeptModel" "legsOf" "I") ∈ lw_tbl := ts_6 (ai_nth_mem 70 rfl)
set_option maxRecDepth 100000 in
theorem tw_1271 : (Cond.fieldLink "PathsKeptModel" (428 : Nat) "PathsKeptModel" "legsBy" "I") ∈ lw_tbl := ts_6 (ai_nth_mem 71 rfl)
set_option maxRecDepth 100000 in
theorem tw_1272 : (Cond.fieldLink "PathsKeptModel" (133 : Nat) "PathsKeptModel" "takes" "[I") ∈ lw_tbl := ts_6 (ai_nth_mem 72 rfl)
set_option maxRecDepth 100000 in
theorem tw_1273 : (Cond.fieldLink "PathsKeptModel" (136 : Nat) "PathsKeptModel" "settled" "[Z") ∈ lw_tbl := ts_6 (ai_nth_mem 73 rfl)
set_option maxRecDepth 100000 in
theorem tw_1274 : (Cond.fieldLink "PathsKeptModel" (139 : Nat) "PathsKeptModel" "root" "[I") ∈ lw_tbl := ts_6 (ai_nth_mem 74 rfl)
set_option maxRecDepth 100000 in
theorem tw_1275 : (Cond.fieldLink "PathsKeptModel" (142 : Nat) "PathsKeptModel" "row" "[I") ∈ lw_tbl := ts_6 (ai_nth_mem 75 rfl)
set_option maxRecDepth 100000 in
theorem tw_1276 : (Cond.fieldLink "PathsKeptModel" (145 : Nat) "PathsKeptModel" "keptOnes" "[I") ∈ lw_tbl := ts_6 (ai_nth_mem 76 rfl)
set_option maxRecDepth 100000 in
theorem tw_1277 : (Cond.fieldLink "PathsKeptModel" (544 : Nat) "PathsKeptModel" "keptOnesMany" "I") ∈ lw_tbl := ts_6 (ai_nth_mem 77 rfl)
set_option maxRecDepth 100000 in
theorem tw_1278 : (Cond.fieldLink "PathsKeptModel" (148 : Nat) "PathsKeptModel" "parishWins" "[Z") ∈ lw_tbl := ts_6 (ai_nth_mem 78 rfl)
set_option maxRecDepth 100000 in
theorem tw_1279 : (Cond.fieldLink "PathsKeptModel" (398 : Nat) "PathsKeptModel" "seenMany" "I") ∈ lw_tbl := ts_6 (ai_nth_mem 79 rfl)
set_option maxRecDepth 100000 in
theorem tw_1280 : (Cond.fieldLink "PathsKeptModel" (151 : Nat) "PathsKeptModel" "knownTold" "I") ∈ lw_tbl := ts_6 (ai_nth_mem 80 rfl)
set_option maxRecDepth 100000 in
theorem tw_1281 : (Cond.fieldLink "PathsKeptModel" (154 : Nat) "PathsKeptModel" "seen1" "[I") ∈ lw_tbl := ts_6 (ai_nth_mem 81 rfl)
set_option maxRecDepth 100000 in
theorem tw_1282 : (Cond.fieldLink "PathsKeptModel" (157 : Nat) "PathsKeptModel" "counts" "[Z") ∈ lw_tbl := ts_6 (ai_nth_mem 82 rfl)
set_option maxRecDepth 100000 in
theorem tw_1283 : (Cond.fieldLink "PathsKeptModel" (160 : Nat) "PathsKeptModel" "there" "[I") ∈ lw_tbl := ts_6 (ai_nth_mem 83 rfl)
set_option maxRecDepth 100000 in
theorem tw_1284 : (Cond.fieldLink "PathsKeptModel" (401 : Nat) "PathsKeptModel" "undos" "I") ∈ lw_tbl := ts_6 (ai_nth_mem 84 rfl)
set_option maxRecDepth 100000 in
theorem tw_1285 : (Cond.fieldLink "PathsKeptModel" (163 : Nat) "PathsKeptModel" "undo" "[I") ∈ lw_tbl := ts_6 (ai_nth_mem 85 rfl)
set_option maxRecDepth 100000 in
theorem tw_1286 : (Cond.fieldLink "PathsKeptModel" (404 : Nat) "PathsKeptModel" "hasImage" "Z") ∈ lw_tbl := ts_6 (ai_nth_mem 86 rfl)
set_option maxRecDepth 100000 in
theorem tw_1287 : (Cond.fieldLink "PathsKeptModel" (166 : Nat) "PathsKeptModel" "image" "[I") ∈ lw_tbl := ts_6 (ai_nth_mem 87 rfl)
set_option maxRecDepth 100000 in
theorem tw_1288 : (Cond.fieldLink "PathsKeptModel" (603 : Nat) "PathsKeptModel" "imageRefused" "I") ∈ lw_tbl := ts_6 (ai_nth_mem 88 rfl)
set_option maxRecDepth 100000 in
theorem tw_1289 : (Cond.fieldLink "PathsKeptModel" (606 : Nat) "PathsKeptModel" "imageDay" "I") ∈ lw_tbl := ts_6 (ai_nth_mem 89 rfl)
set_option maxRecDepth 100000 in
theorem tw_1290 : (Cond.fieldLink "PathsKeptModel" (609 : Nat) "PathsKeptModel" "imageDrawn" "J") ∈ lw_tbl := ts_6 (ai_nth_mem 90 rfl)
set_option maxRecDepth 100000 in
theorem tw_1484 : (Cond.methodLink "PathsKeptLaw" (45 : Nat) ({ cls := "PathsKeptModel", name := "thrown", desc := "()I" } : Jvm.MethodName)) ∈ lw_tbl := ts_7 (ai_nth_mem 44 rfl)
set_option maxRecDepth 100000 in
theorem tw_1485 : (Cond.instanceMethod ({ cls := "PathsKeptModel", name := "thrown", desc := "()I" } : Jvm.MethodName)) ∈ lw_tbl := ts_7 (ai_nth_mem 45 rfl)
set_option maxRecDepth 100000 in
theorem tw_1486 : (Cond.selects "PathsKeptModel" ({ cls := "PathsKeptModel", name := "thrown", desc := "()I" } : Jvm.MethodName) ({ cls := "PathsKeptModel", name := "thrown", desc := "()I" } : Jvm.MethodName)) ∈ lw_tbl := ts_7 (ai_nth_mem 46 rfl)
set_option maxRecDepth 100000 in
theorem tw_1487 : (Cond.code ({ cls := "PathsKeptModel", name := "thrown", desc := "()I" } : Jvm.MethodName) prog_13_method_2_code (1 : Nat) (Option.some Jvm.ClassFile.FieldType.int)) ∈ lw_tbl := ts_7 (ai_nth_mem 47 rfl)
set_option maxRecDepth 100000 in
theorem tw_1488 : (Cond.methodLink "PathsKeptLaw" (25 : Nat) ({ cls := "PathsKeptModel", name := "feed", desc := "(IIIII)I" } : Jvm.MethodName)) ∈ lw_tbl := ts_7 (ai_nth_mem 48 rfl)
set_option maxRecDepth 100000 in
theorem tw_1489 : (Cond.instanceMethod ({ cls := "PathsKeptModel", name := "feed", desc := "(IIIII)I" } : Jvm.MethodName)) ∈ lw_tbl := ts_7 (ai_nth_mem 49 rfl)
set_option maxRecDepth 100000 in
theorem tw_1490 : (Cond.selects "PathsKeptModel" ({ cls := "PathsKeptModel", name := "feed", desc := "(IIIII)I" } : Jvm.MethodName) ({ cls := "PathsKeptModel", name := "feed", desc := "(IIIII)I" } : Jvm.MethodName)) ∈ lw_tbl := ts_7 (ai_nth_mem 50 rfl)
set_option maxRecDepth 100000 in
theorem tw_1491 : (Cond.code ({ cls := "PathsKeptModel", name := "feed", desc := "(IIIII)I" } : Jvm.MethodName) prog_13_method_3_code (8 : Nat) (Option.some Jvm.ClassFile.FieldType.int)) ∈ lw_tbl := ts_7 (ai_nth_mem 51 rfl)
set_option maxRecDepth 100000 in
theorem tw_1492 : (Cond.methodLink "PathsKeptLaw" (30 : Nat) ({ cls := "PathsKeptModel", name := "text", desc := "(I)I" } : Jvm.MethodName)) ∈ lw_tbl := ts_7 (ai_nth_mem 52 rfl)
set_option maxRecDepth 100000 in
theorem tw_1493 : (Cond.instanceMethod ({ cls := "PathsKeptModel", name := "text", desc := "(I)I" } : Jvm.MethodName)) ∈ lw_tbl := ts_7 (ai_nth_mem 53 rfl)
set_option maxRecDepth 100000 in
theorem tw_1494 : (Cond.selects "PathsKeptModel" ({ cls := "PathsKeptModel", name := "text", desc := "(I)I" } : Jvm.MethodName) ({ cls := "PathsKeptModel", name := "text", desc := "(I)I" } : Jvm.MethodName)) ∈ lw_tbl := ts_7 (ai_nth_mem 54 rfl)
set_option maxRecDepth 100000 in
theorem tw_1495 : (Cond.code ({ cls := "PathsKeptModel", name := "text", desc := "(I)I" } : Jvm.MethodName) prog_13_method_30_code (3 : Nat) (Option.some Jvm.ClassFile.FieldType.int)) ∈ lw_tbl := ts_7 (ai_nth_mem 55 rfl)
set_option maxRecDepth 100000 in
theorem tw_1496 : (Cond.methodLink "PathsKeptModel" (227 : Nat) ({ cls := "PathsKeptModel", name := "token", desc := "()V" } : Jvm.MethodName)) ∈ lw_tbl := ts_7 (ai_nth_mem 56 rfl)
set_option maxRecDepth 100000 in
theorem tw_1498 : (Cond.instanceMethod ({ cls := "PathsKeptModel", name := "token", desc := "()V" } : Jvm.MethodName)) ∈ lw_tbl := ts_7 (ai_nth_mem 58 rfl)
set_option maxRecDepth 100000 in
theorem tw_1499 : (Cond.code ({ cls := "PathsKeptModel", name := "token", desc := "()V" } : Jvm.MethodName) prog_13_method_10_code (1 : Nat) (Option.none : Option Jvm.ClassFile.FieldType)) ∈ lw_tbl := ts_7 (ai_nth_mem 59 rfl)
set_option maxRecDepth 100000 in
theorem tw_1500 : (Cond.methodLink "PathsKeptModel" (196 : Nat) ({ cls := "PathsKeptModel", name := "isSmall", desc := "(I)Z" } : Jvm.MethodName)) ∈ lw_tbl := ts_7 (ai_nth_mem 60 rfl)
set_option maxRecDepth 100000 in
theorem tw_1502 : (Cond.instanceMethod ({ cls := "PathsKeptModel", name := "isSmall", desc := "(I)Z" } : Jvm.MethodName)) ∈ lw_tbl := ts_7 (ai_nth_mem 62 rfl)
set_option maxRecDepth 100000 in
theorem tw_1503 : (Cond.code ({ cls := "PathsKeptModel", name := "isSmall", desc := "(I)Z" } : Jvm.MethodName) prog_13_method_8_code (2 : Nat) (Option.some Jvm.ClassFile.FieldType.boolean)) ∈ lw_tbl := ts_7 (ai_nth_mem 63 rfl)
set_option maxRecDepth 100000 in
theorem tw_1504 : (Cond.methodLink "PathsKeptModel" (200 : Nat) ({ cls := "PathsKeptModel", name := "wordAt", desc := "(II)I" } : Jvm.MethodName)) ∈ lw_tbl := ts_7 (ai_nth_mem 64 rfl)
set_option maxRecDepth 100000 in
theorem tw_1506 : (Cond.instanceMethod ({ cls := "PathsKeptModel", name := "wordAt", desc := "(II)I" } : Jvm.MethodName)) ∈ lw_tbl := ts_7 (ai_nth_mem 66 rfl)
set_option maxRecDepth 100000 in
theorem tw_1507 : (Cond.code ({ cls := "PathsKeptModel", name := "wordAt", desc := "(II)I" } : Jvm.MethodName) prog_13_method_7_code (8 : Nat) (Option.some Jvm.ClassFile.FieldType.int)) ∈ lw_tbl := ts_7 (ai_nth_mem 67 rfl)
set_option maxRecDepth 100000 in
theorem tw_1508 : (Cond.methodLink "PathsKeptModel" (207 : Nat) ({ cls := "PathsKeptModel", name := "packed", desc := "(II)I" } : Jvm.MethodName)) ∈ lw_tbl := ts_7 (ai_nth_mem 68 rfl)
set_option maxRecDepth 100000 in
theorem tw_1510 : (Cond.instanceMethod ({ cls := "PathsKeptModel", name := "packed", desc := "(II)I" } : Jvm.MethodName)) ∈ lw_tbl := ts_7 (ai_nth_mem 70 rfl)
set_option maxRecDepth 100000 in
theorem tw_1511 : (Cond.code ({ cls := "PathsKeptModel", name := "packed", desc := "(II)I" } : Jvm.MethodName) prog_13_method_12_code (5 : Nat) (Option.some Jvm.ClassFile.FieldType.int)) ∈ lw_tbl := ts_7 (ai_nth_mem 71 rfl)
set_option maxRecDepth 100000 in
theorem tw_1512 : (Cond.methodLink "PathsKeptModel" (210 : Nat) ({ cls := "PathsKeptModel", name := "isDigit", desc := "(I)Z" } : Jvm.MethodName)) ∈ lw_tbl := ts_7 (ai_nth_mem 72 rfl)
set_option maxRecDepth 100000 in
theorem tw_1514 : (Cond.instanceMethod ({ cls := "PathsKeptModel", name := "isDigit", desc := "(I)Z" } : Jvm.MethodName)) ∈ lw_tbl := ts_7 (ai_nth_mem 74 rfl)
set_option maxRecDepth 100000 in
theorem tw_1515 : (Cond.code ({ cls := "PathsKeptModel", name := "isDigit", desc := "(I)Z" } : Jvm.MethodName) prog_13_method_9_code (2 : Nat) (Option.some Jvm.ClassFile.FieldType.boolean)) ∈ lw_tbl := ts_7 (ai_nth_mem 75 rfl)
set_option maxRecDepth 100000 in
theorem tw_1516 : (Cond.constant "PathsKeptModel" (213 : Nat) (99999 : Int32)) ∈ lw_tbl := ts_7 (ai_nth_mem 76 rfl)
set_option maxRecDepth 100000 in
theorem tw_1517 : (Cond.methodLink "PathsKeptModel" (214 : Nat) ({ cls := "PathsKeptModel", name := "signToken", desc := "()V" } : Jvm.MethodName)) ∈ lw_tbl := ts_7 (ai_nth_mem 77 rfl)
set_option maxRecDepth 100000 in
theorem tw_1519 : (Cond.instanceMethod ({ cls := "PathsKeptModel", name := "signToken", desc := "()V" } : Jvm.MethodName)) ∈ lw_tbl := ts_7 (ai_nth_mem 79 rfl)
set_option maxRecDepth 100000 in
theorem tw_1520 : (Cond.code ({ cls := "PathsKeptModel", name := "signToken", desc := "()V" } : Jvm.MethodName) prog_13_method_11_code (4 : Nat) (Option.none : Option Jvm.ClassFile.FieldType)) ∈ lw_tbl := ts_7 (ai_nth_mem 80 rfl)
set_option maxRecDepth 100000 in
theorem tw_1521 : (Cond.methodLink "PathsKeptModel" (316 : Nat) ({ cls := "PathsKeptModel", name := "lineRead", desc := "()Z" } : Jvm.MethodName)) ∈ lw_tbl := ts_7 (ai_nth_mem 81 rfl)
set_option maxRecDepth 100000 in
theorem tw_1523 : (Cond.instanceMethod ({ cls := "PathsKeptModel", name := "lineRead", desc := "()Z" } : Jvm.MethodName)) ∈ lw_tbl := ts_7 (ai_nth_mem 83 rfl)
set_option maxRecDepth 100000 in
theorem tw_1524 : (Cond.code ({ cls := "PathsKeptModel", name := "lineRead", desc := "()Z" } : Jvm.MethodName) prog_13_method_29_code (3 : Nat) (Option.some Jvm.ClassFile.FieldType.boolean)) ∈ lw_tbl := ts_7 (ai_nth_mem 84 rfl)
set_option maxRecDepth 100000 in
theorem tw_1525 : (Cond.methodLink "PathsKeptModel" (217 : Nat) ({ cls := "PathsKeptModel", name := "wrong", desc := "(I)Z" } : Jvm.MethodName)) ∈ lw_tbl := ts_7 (ai_nth_mem 85 rfl)
set_option maxRecDepth 100000 in
theorem tw_1527 : (Cond.instanceMethod ({ cls := "PathsKeptModel", name := "wrong", desc := "(I)Z" } : Jvm.MethodName)) ∈ lw_tbl := ts_7 (ai_nth_mem 87 rfl)
set_option maxRecDepth 100000 in
theorem tw_1528 : (Cond.code ({ cls := "PathsKeptModel", name := "wrong", desc := "(I)Z" } : Jvm.MethodName) prog_13_method_6_code (2 : Nat) (Option.some Jvm.ClassFile.FieldType.boolean)) ∈ lw_tbl := ts_7 (ai_nth_mem 88 rfl)
set_option maxRecDepth 100000 in
theorem tw_1529 : (Cond.methodLink "PathsKeptModel" (294 : Nat) ({ cls := "PathsKeptModel", name := "placeLine", desc := "()Z" } : Jvm.MethodName)) ∈ lw_tbl := ts_7 (ai_nth_mem 89 rfl)
set_option maxRecDepth 100000 in
theorem tw_1531 : (Cond.instanceMethod ({ cls := "PathsKeptModel", name := "placeLine", desc := "()Z" } : Jvm.MethodName)) ∈ lw_tbl := ts_7 (ai_nth_mem 91 rfl)
set_option maxRecDepth 100000 in
theorem tw_1532 : (Cond.code ({ cls := "PathsKeptModel", name := "placeLine", desc := "()Z" } : Jvm.MethodName) prog_13_method_23_code (1 : Nat) (Option.some Jvm.ClassFile.FieldType.boolean)) ∈ lw_tbl := ts_7 (ai_nth_mem 92 rfl)
set_option maxRecDepth 100000 in
theorem tw_1533 : (Cond.methodLink "PathsKeptModel" (287 : Nat) ({ cls := "PathsKeptModel", name := "newName", desc := "([III)Z" } : Jvm.MethodName)) ∈ lw_tbl := ts_7 (ai_nth_mem 93 rfl)
set_option maxRecDepth 100000 in
theorem tw_1535 : (Cond.instanceMethod ({ cls := "PathsKeptModel", name := "newName", desc := "([III)Z" } : Jvm.MethodName)) ∈ lw_tbl := ts_7 (ai_nth_mem 95 rfl)
set_option maxRecDepth 100000 in
theorem tw_1536 : (Cond.code ({ cls := "PathsKeptModel", name := "newName", desc := "([III)Z" } : Jvm.MethodName) prog_13_method_21_code (4 : Nat) (Option.some Jvm.ClassFile.FieldType.boolean)) ∈ lw_tbl := ts_7 (ai_nth_mem 96 rfl)
set_option maxRecDepth 100000 in
theorem tw_1537 : (Cond.methodLink "PathsKeptModel" (283 : Nat) ({ cls := "PathsKeptModel", name := "find", desc := "([IIII)I" } : Jvm.MethodName)) ∈ lw_tbl := ts_7 (ai_nth_mem 97 rfl)
set_option maxRecDepth 100000 in
theorem tw_1538 : (Cond.static ({ cls := "PathsKeptModel", name := "find", desc := "([IIII)I" } : Jvm.MethodName)) ∈ lw_tbl := ts_7 (ai_nth_mem 98 rfl)
set_option maxRecDepth 100000 in
theorem tw_1539 : (Cond.code ({ cls := "PathsKeptModel", name := "find", desc := "([IIII)I" } : Jvm.MethodName) prog_13_method_20_code (5 : Nat) (Option.some Jvm.ClassFile.FieldType.int)) ∈ lw_tbl := ts_7 (ai_nth_mem 99 rfl)
set_option maxRecDepth 100000 in
theorem tw_1540 : (Cond.methodLink "PathsKeptModel" (298 : Nat) ({ cls := "PathsKeptModel", name := "pathLine", desc := "()Z" } : Jvm.MethodName)) ∈ lw_tbl := ts_7 (ai_nth_mem 100 rfl)
set_option maxRecDepth 100000 in
theorem tw_1542 : (Cond.instanceMethod ({ cls := "PathsKeptModel", name := "pathLine", desc := "()Z" } : Jvm.MethodName)) ∈ lw_tbl := ts_7 (ai_nth_mem 102 rfl)
set_option maxRecDepth 100000 in
theorem tw_1543 : (Cond.code ({ cls := "PathsKeptModel", name := "pathLine", desc := "()Z" } : Jvm.MethodName) prog_13_method_24_code (3 : Nat) (Option.some Jvm.ClassFile.FieldType.boolean)) ∈ lw_tbl := ts_7 (ai_nth_mem 103 rfl)
set_option maxRecDepth 100000 in
theorem tw_1544 : (Cond.methodLink "PathsKeptModel" (291 : Nat) ({ cls := "PathsKeptModel", name := "thereIn", desc := "([III)Z" } : Jvm.MethodName)) ∈ lw_tbl := ts_7 (ai_nth_mem 104 rfl)
set_option maxRecDepth 100000 in
theorem tw_1546 : (Cond.instanceMethod ({ cls := "PathsKeptModel", name := "thereIn", desc := "([III)Z" } : Jvm.MethodName)) ∈ lw_tbl := ts_7 (ai_nth_mem 106 rfl)
set_option maxRecDepth 100000 in
theorem tw_1547 : (Cond.code ({ cls := "PathsKeptModel", name := "thereIn", desc := "([III)Z" } : Jvm.MethodName) prog_13_method_22_code (5 : Nat) (Option.some Jvm.ClassFile.FieldType.boolean)) ∈ lw_tbl := ts_7 (ai_nth_mem 107 rfl)
set_option maxRecDepth 100000 in
theorem tw_1548 : (Cond.methodLink "PathsKeptModel" (233 : Nat) ({ cls := "PathsKeptModel", name := "number", desc := "(II)Z" } : Jvm.MethodName)) ∈ lw_tbl := ts_7 (ai_nth_mem 108 rfl)
set_option maxRecDepth 100000 in
theorem tw_1550 : (Cond.instanceMethod ({ cls := "PathsKeptModel", name := "number", desc := "(II)Z" } : Jvm.MethodName)) ∈ lw_tbl := ts_7 (ai_nth_mem 110 rfl)
set_option maxRecDepth 100000 in
theorem tw_1551 : (Cond.code ({ cls := "PathsKeptModel", name := "number", desc := "(II)Z" } : Jvm.MethodName) prog_13_method_15_code (3 : Nat) (Option.some Jvm.ClassFile.FieldType.boolean)) ∈ lw_tbl := ts_7 (ai_nth_mem 111 rfl)
set_option maxRecDepth 100000 in
theorem tw_1552 : (Cond.methodLink "PathsKeptModel" (220 : Nat) ({ cls := "PathsKeptModel", name := "isIn", desc := "(III)Z" } : Jvm.MethodName)) ∈ lw_tbl := ts_7 (ai_nth_mem 112 rfl)
set_option maxRecDepth 100000 in
theorem tw_1553 : (Cond.static ({ cls := "PathsKeptModel", name := "isIn", desc := "(III)Z" } : Jvm.MethodName)) ∈ lw_tbl := ts_7 (ai_nth_mem 113 rfl)
set_option maxRecDepth 100000 in
theorem tw_1554 : (Cond.code ({ cls := "PathsKeptModel", name := "isIn", desc := "(III)Z" } : Jvm.MethodName) prog_13_method_4_code (3 : Nat) (Option.some Jvm.ClassFile.FieldType.boolean)) ∈ lw_tbl := ts_7 (ai_nth_mem 114 rfl)
set_option maxRecDepth 100000 in
theorem tw_1555 : (Cond.methodLink "PathsKeptModel" (301 : Nat) ({ cls := "PathsKeptModel", name := "walkerLine", desc := "()Z" } : Jvm.MethodName)) ∈ lw_tbl := ts_7 (ai_nth_mem 115 rfl)
set_option maxRecDepth 100000 in
theorem tw_1557 : (Cond.instanceMethod ({ cls := "PathsKeptModel", name := "walkerLine", desc := "()Z" } : Jvm.MethodName)) ∈ lw_tbl := ts_7 (ai_nth_mem 117 rfl)
set_option maxRecDepth 100000 in
theorem tw_1558 : (Cond.code ({ cls := "PathsKeptModel", name := "walkerLine", desc := "()Z" } : Jvm.MethodName) prog_13_method_25_code (2 : Nat) (Option.some Jvm.ClassFile.FieldType.boolean)) ∈ lw_tbl := ts_7 (ai_nth_mem 118 rfl)
set_option maxRecDepth 100000 in
theorem tw_1559 : (Cond.methodLink "PathsKeptModel" (304 : Nat) ({ cls := "PathsKeptModel", name := "walkLine", desc := "()Z" } : Jvm.MethodName)) ∈ lw_tbl := ts_7 (ai_nth_mem 119 rfl)
set_option maxRecDepth 100000 in
theorem tw_1561 : (Cond.instanceMethod ({ cls := "PathsKeptModel", name := "walkLine", desc := "()Z" } : Jvm.MethodName)) ∈ lw_tbl := ts_7 (ai_nth_mem 121 rfl)
set_option maxRecDepth 100000 in
theorem tw_1562 : (Cond.code ({ cls := "PathsKeptModel", name := "walkLine", desc := "()Z" } : Jvm.MethodName) prog_13_method_26_code (2 : Nat) (Option.some Jvm.ClassFile.FieldType.boolean)) ∈ lw_tbl := ts_7 (ai_nth_mem 122 rfl)
set_option maxRecDepth 100000 in
theorem tw_1563 : (Cond.methodLink "PathsKeptModel" (307 : Nat) ({ cls := "PathsKeptModel", name := "bullLine", desc := "()Z" } : Jvm.MethodName)) ∈ lw_tbl := ts_7 (ai_nth_mem 123 rfl)
set_option maxRecDepth 100000 in
theorem tw_1565 : (Cond.instanceMethod ({ cls := "PathsKeptModel", name := "bullLine", desc := "()Z" } : Jvm.MethodName)) ∈ lw_tbl := ts_7 (ai_nth_mem 125 rfl)
set_option maxRecDepth 100000 in
theorem tw_1566 : (Cond.code ({ cls := "PathsKeptModel", name := "bullLine", desc := "()Z" } : Jvm.MethodName) prog_13_method_27_code (2 : Nat) (Option.some Jvm.ClassFile.FieldType.boolean)) ∈ lw_tbl := ts_7 (ai_nth_mem 126 rfl)
set_option maxRecDepth 100000 in
theorem tw_1567 : (Cond.methodLink "PathsKeptModel" (310 : Nat) ({ cls := "PathsKeptModel", name := "onceLine", desc := "(III)Z" } : Jvm.MethodName)) ∈ lw_tbl := ts_7 (ai_nth_mem 127 rfl)
set_option maxRecDepth 100000 in
theorem tw_1569 : (Cond.instanceMethod ({ cls := "PathsKeptModel", name := "onceLine", desc := "(III)Z" } : Jvm.MethodName)) ∈ lw_tbl := ts_7 (ai_nth_mem 129 rfl)
