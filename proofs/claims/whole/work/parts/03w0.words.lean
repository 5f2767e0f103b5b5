/-! ===== the words that the operations use, by their places in the table ===== -/
theorem ai_in_at {w : Cond} (i : Nat) (h : lw_tbl[i]? = some w) : w ∈ lw_tbl := List.mem_of_getElem? h
set_option maxRecDepth 100000 in
theorem tw_0 : (Cond.initialized "PathsKeptLaw") ∈ lw_tbl := ai_in_at 123 (by decide +kernel)
set_option maxRecDepth 100000 in
theorem tw_1 : (Cond.initialized "PathsKept") ∈ lw_tbl := ai_in_at 124 (by decide +kernel)
set_option maxRecDepth 100000 in
theorem tw_2 : (Cond.initialized "PathsKept$Reader") ∈ lw_tbl := ai_in_at 125 (by decide +kernel)
set_option maxRecDepth 100000 in
theorem tw_3 : (Cond.initialized "PathsKept$Tokens") ∈ lw_tbl := ai_in_at 126 (by decide +kernel)
set_option maxRecDepth 100000 in
theorem tw_8 : (Cond.initialized "PathsKept$Told") ∈ lw_tbl := ai_in_at 131 (by decide +kernel)
set_option maxRecDepth 100000 in
theorem tw_9 : (Cond.initialized "PathsKept$Table") ∈ lw_tbl := ai_in_at 132 (by decide +kernel)
set_option maxRecDepth 100000 in
theorem tw_10 : (Cond.initialized "PathsKept$Laws") ∈ lw_tbl := ai_in_at 133 (by decide +kernel)
set_option maxRecDepth 100000 in
theorem tw_11 : (Cond.initialized "PathsKept$Standing") ∈ lw_tbl := ai_in_at 134 (by decide +kernel)
set_option maxRecDepth 100000 in
theorem tw_12 : (Cond.initialized "PathsKept$Days") ∈ lw_tbl := ai_in_at 135 (by decide +kernel)
set_option maxRecDepth 100000 in
theorem tw_13 : (Cond.initialized "PathsKept$Seen") ∈ lw_tbl := ai_in_at 136 (by decide +kernel)
set_option maxRecDepth 100000 in
theorem tw_14 : (Cond.initialized "PathsKept$Ways") ∈ lw_tbl := ai_in_at 137 (by decide +kernel)
set_option maxRecDepth 100000 in
theorem tw_15 : (Cond.initialized "PathsKeptModel") ∈ lw_tbl := ai_in_at 138 (by decide +kernel)
set_option maxRecDepth 100000 in
theorem tw_16 : (Cond.initialized "java/util/Arrays") ∈ lw_tbl := ai_in_at 139 (by decide +kernel)
set_option maxRecDepth 100000 in
theorem tw_17 : (Cond.initialized "java/lang/Math") ∈ lw_tbl := ai_in_at 140 (by decide +kernel)
set_option maxRecDepth 100000 in
theorem tw_24 : (Cond.initialized "java/lang/System") ∈ lw_tbl := ai_in_at 147 (by decide +kernel)
set_option maxRecDepth 100000 in
theorem tw_25 : (Cond.initialized "java/lang/Integer") ∈ lw_tbl := ai_in_at 148 (by decide +kernel)
set_option maxRecDepth 100000 in
theorem tw_26 : (Cond.initialized "PathsKept$Game") ∈ lw_tbl := ai_in_at 149 (by decide +kernel)
set_option maxRecDepth 100000 in
theorem tw_27 : (Cond.classLink "PathsKeptLaw" (8 : Nat) "PathsKept") ∈ lw_tbl := ai_in_at 150 (by decide +kernel)
set_option maxRecDepth 100000 in
theorem tw_28 : (Cond.instantiable "PathsKept" (15 : Nat)) ∈ lw_tbl := ai_in_at 151 (by decide +kernel)
set_option maxRecDepth 100000 in
theorem tw_29 : (Cond.methodLink "PathsKeptLaw" (17 : Nat) ({ cls := "PathsKept", name := "<init>", desc := "()V" } : Jvm.MethodName)) ∈ lw_tbl := ai_in_at 152 (by decide +kernel)
set_option maxRecDepth 100000 in
theorem tw_30 : (Cond.instanceMethod ({ cls := "PathsKept", name := "<init>", desc := "()V" } : Jvm.MethodName)) ∈ lw_tbl := ai_in_at 153 (by decide +kernel)
set_option maxRecDepth 100000 in
theorem tw_31 : (Cond.code ({ cls := "PathsKept", name := "<init>", desc := "()V" } : Jvm.MethodName) prog_1_method_1_code (2 : Nat) (Option.none : Option Jvm.ClassFile.FieldType)) ∈ lw_tbl := ai_in_at 154 (by decide +kernel)
set_option maxRecDepth 100000 in
theorem tw_32 : (Cond.methodLink "PathsKept" (1 : Nat) ({ cls := "java/lang/Object", name := "<init>", desc := "()V" } : Jvm.MethodName)) ∈ lw_tbl := ai_in_at 155 (by decide +kernel)
set_option maxRecDepth 100000 in
theorem tw_33 : (Cond.instanceMethod ({ cls := "java/lang/Object", name := "<init>", desc := "()V" } : Jvm.MethodName)) ∈ lw_tbl := ai_in_at 156 (by decide +kernel)
set_option maxRecDepth 100000 in
theorem tw_35 : (Cond.classLink "PathsKept" (13 : Nat) "PathsKept$Reader") ∈ lw_tbl := ai_in_at 158 (by decide +kernel)
set_option maxRecDepth 100000 in
theorem tw_36 : (Cond.instantiable "PathsKept$Reader" (5 : Nat)) ∈ lw_tbl := ai_in_at 159 (by decide +kernel)
set_option maxRecDepth 100000 in
theorem tw_37 : (Cond.methodLinkNest "PathsKept" (15 : Nat) ({ cls := "PathsKept$Reader", name := "<init>", desc := "()V" } : Jvm.MethodName) "PathsKept") ∈ lw_tbl := ai_in_at 160 (by decide +kernel)
set_option maxRecDepth 100000 in
theorem tw_38 : (Cond.instanceMethod ({ cls := "PathsKept$Reader", name := "<init>", desc := "()V" } : Jvm.MethodName)) ∈ lw_tbl := ai_in_at 161 (by decide +kernel)
set_option maxRecDepth 100000 in
theorem tw_39 : (Cond.code ({ cls := "PathsKept$Reader", name := "<init>", desc := "()V" } : Jvm.MethodName) prog_5_method_1_code (1 : Nat) (Option.none : Option Jvm.ClassFile.FieldType)) ∈ lw_tbl := ai_in_at 162 (by decide +kernel)
set_option maxRecDepth 100000 in
theorem tw_40 : (Cond.methodLink "PathsKept$Reader" (3 : Nat) ({ cls := "java/lang/Object", name := "<init>", desc := "()V" } : Jvm.MethodName)) ∈ lw_tbl := ai_in_at 163 (by decide +kernel)
set_option maxRecDepth 100000 in
theorem tw_41 : (Cond.classLink "PathsKept$Reader" (9 : Nat) "PathsKept$Tokens") ∈ lw_tbl := ai_in_at 164 (by decide +kernel)
set_option maxRecDepth 100000 in
theorem tw_42 : (Cond.instantiable "PathsKept$Tokens" (7 : Nat)) ∈ lw_tbl := ai_in_at 165 (by decide +kernel)
set_option maxRecDepth 100000 in
theorem tw_43 : (Cond.methodLink "PathsKept$Reader" (11 : Nat) ({ cls := "PathsKept$Tokens", name := "<init>", desc := "()V" } : Jvm.MethodName)) ∈ lw_tbl := ai_in_at 166 (by decide +kernel)
set_option maxRecDepth 100000 in
theorem tw_44 : (Cond.instanceMethod ({ cls := "PathsKept$Tokens", name := "<init>", desc := "()V" } : Jvm.MethodName)) ∈ lw_tbl := ai_in_at 167 (by decide +kernel)
set_option maxRecDepth 100000 in
theorem tw_45 : (Cond.code ({ cls := "PathsKept$Tokens", name := "<init>", desc := "()V" } : Jvm.MethodName) prog_9_method_1_code (4 : Nat) (Option.none : Option Jvm.ClassFile.FieldType)) ∈ lw_tbl := ai_in_at 168 (by decide +kernel)
set_option maxRecDepth 100000 in
theorem tw_96 : (Cond.methodLink "PathsKept$Tokens" (25 : Nat) ({ cls := "PathsKept$Tokens", name := "packed", desc := "(II)I" } : Jvm.MethodName)) ∈ lw_tbl := ai_in_at 219 (by decide +kernel)
set_option maxRecDepth 100000 in
theorem tw_97 : (Cond.static ({ cls := "PathsKept$Tokens", name := "packed", desc := "(II)I" } : Jvm.MethodName)) ∈ lw_tbl := ai_in_at 220 (by decide +kernel)
set_option maxRecDepth 100000 in
theorem tw_98 : (Cond.code ({ cls := "PathsKept$Tokens", name := "packed", desc := "(II)I" } : Jvm.MethodName) prog_9_method_2_code (2 : Nat) (Option.some Jvm.ClassFile.FieldType.int)) ∈ lw_tbl := ai_in_at 221 (by decide +kernel)
set_option maxRecDepth 100000 in
theorem tw_99 : (Cond.fieldLink "PathsKept$Tokens" (9 : Nat) "PathsKept$Tokens" "words" "[I") ∈ lw_tbl := ai_in_at 222 (by decide +kernel)
set_option maxRecDepth 100000 in
theorem tw_100 : (Cond.fieldLink "PathsKept$Tokens" (29 : Nat) "PathsKept$Tokens" "bytes" "[B") ∈ lw_tbl := ai_in_at 223 (by decide +kernel)
set_option maxRecDepth 100000 in
theorem tw_101 : (Cond.fieldLink "PathsKept$Tokens" (38 : Nat) "PathsKept$Tokens" "size" "I") ∈ lw_tbl := ai_in_at 224 (by decide +kernel)
set_option maxRecDepth 100000 in
theorem tw_102 : (Cond.fieldLink "PathsKept$Tokens" (42 : Nat) "PathsKept$Tokens" "next" "I") ∈ lw_tbl := ai_in_at 225 (by decide +kernel)
set_option maxRecDepth 100000 in
theorem tw_103 : (Cond.fieldLinkNest "PathsKept$Reader" (41 : Nat) "PathsKept$Tokens" "kind" "I" "PathsKept") ∈ lw_tbl := ai_in_at 226 (by decide +kernel)
set_option maxRecDepth 100000 in
theorem tw_104 : (Cond.fieldLink "PathsKept$Tokens" (54 : Nat) "PathsKept$Tokens" "kind" "I") ∈ lw_tbl := ai_in_at 227 (by decide +kernel)
set_option maxRecDepth 100000 in
theorem tw_105 : (Cond.fieldLinkNest "PathsKept$Reader" (54 : Nat) "PathsKept$Tokens" "place" "I" "PathsKept") ∈ lw_tbl := ai_in_at 228 (by decide +kernel)
set_option maxRecDepth 100000 in
theorem tw_106 : (Cond.fieldLink "PathsKept$Tokens" (48 : Nat) "PathsKept$Tokens" "place" "I") ∈ lw_tbl := ai_in_at 229 (by decide +kernel)
set_option maxRecDepth 100000 in
theorem tw_107 : (Cond.fieldLink "PathsKept$Tokens" (51 : Nat) "PathsKept$Tokens" "value" "I") ∈ lw_tbl := ai_in_at 230 (by decide +kernel)
set_option maxRecDepth 100000 in
theorem tw_108 : (Cond.fieldLinkNest "PathsKept$Reader" (133 : Nat) "PathsKept$Tokens" "value" "I" "PathsKept") ∈ lw_tbl := ai_in_at 231 (by decide +kernel)
set_option maxRecDepth 100000 in
theorem tw_124 : (Cond.arrayClass Jvm.ClassFile.FieldType.byte) ∈ lw_tbl := ai_in_at 247 (by decide +kernel)
set_option maxRecDepth 100000 in
theorem tw_125 : (Cond.arrayClass Jvm.ClassFile.FieldType.int) ∈ lw_tbl := ai_in_at 248 (by decide +kernel)
set_option maxRecDepth 100000 in
theorem tw_126 : (Cond.fieldLink "PathsKept$Reader" (12 : Nat) "PathsKept$Reader" "tokens" "LPathsKept$Tokens;") ∈ lw_tbl := ai_in_at 249 (by decide +kernel)
set_option maxRecDepth 100000 in
theorem tw_127 : (Cond.fieldLink "PathsKept$Reader" (22 : Nat) "PathsKept$Reader" "told" "LPathsKept$Told;") ∈ lw_tbl := ai_in_at 250 (by decide +kernel)
set_option maxRecDepth 100000 in
theorem tw_128 : (Cond.fieldLink "PathsKept$Reader" (31 : Nat) "PathsKept$Reader" "once" "I") ∈ lw_tbl := ai_in_at 251 (by decide +kernel)
set_option maxRecDepth 100000 in
theorem tw_129 : (Cond.fieldLink "PathsKept$Reader" (34 : Nat) "PathsKept$Reader" "fault" "I") ∈ lw_tbl := ai_in_at 252 (by decide +kernel)
set_option maxRecDepth 100000 in
theorem tw_130 : (Cond.fieldLinkNest "PathsKept" (99 : Nat) "PathsKept$Reader" "fault" "I" "PathsKept") ∈ lw_tbl := ai_in_at 253 (by decide +kernel)
set_option maxRecDepth 100000 in
theorem tw_131 : (Cond.fieldLink "PathsKept$Reader" (18 : Nat) "PathsKept$Reader" "faultPlace" "I") ∈ lw_tbl := ai_in_at 254 (by decide +kernel)
set_option maxRecDepth 100000 in
theorem tw_132 : (Cond.fieldLinkNest "PathsKept" (102 : Nat) "PathsKept$Reader" "faultPlace" "I" "PathsKept") ∈ lw_tbl := ai_in_at 255 (by decide +kernel)
set_option maxRecDepth 100000 in
theorem tw_144 : (Cond.classLink "PathsKept" (20 : Nat) "PathsKept$Told") ∈ lw_tbl := ai_in_at 267 (by decide +kernel)
set_option maxRecDepth 100000 in
theorem tw_145 : (Cond.instantiable "PathsKept$Told" (10 : Nat)) ∈ lw_tbl := ai_in_at 268 (by decide +kernel)
set_option maxRecDepth 100000 in
theorem tw_146 : (Cond.methodLinkNest "PathsKept" (22 : Nat) ({ cls := "PathsKept$Told", name := "<init>", desc := "()V" } : Jvm.MethodName) "PathsKept") ∈ lw_tbl := ai_in_at 269 (by decide +kernel)
set_option maxRecDepth 100000 in
theorem tw_147 : (Cond.instanceMethod ({ cls := "PathsKept$Told", name := "<init>", desc := "()V" } : Jvm.MethodName)) ∈ lw_tbl := ai_in_at 270 (by decide +kernel)
set_option maxRecDepth 100000 in
theorem tw_148 : (Cond.code ({ cls := "PathsKept$Told", name := "<init>", desc := "()V" } : Jvm.MethodName) prog_10_method_1_code (1 : Nat) (Option.none : Option Jvm.ClassFile.FieldType)) ∈ lw_tbl := ai_in_at 271 (by decide +kernel)
set_option maxRecDepth 100000 in
theorem tw_149 : (Cond.methodLink "PathsKept$Told" (3 : Nat) ({ cls := "java/lang/Object", name := "<init>", desc := "()V" } : Jvm.MethodName)) ∈ lw_tbl := ai_in_at 272 (by decide +kernel)
set_option maxRecDepth 100000 in
theorem tw_150 : (Cond.classLink "PathsKept$Told" (9 : Nat) "PathsKept$Table") ∈ lw_tbl := ai_in_at 273 (by decide +kernel)
set_option maxRecDepth 100000 in
theorem tw_151 : (Cond.instantiable "PathsKept$Table" (5 : Nat)) ∈ lw_tbl := ai_in_at 274 (by decide +kernel)
set_option maxRecDepth 100000 in
theorem tw_152 : (Cond.methodLink "PathsKept$Told" (11 : Nat) ({ cls := "PathsKept$Table", name := "<init>", desc := "(II)V" } : Jvm.MethodName)) ∈ lw_tbl := ai_in_at 275 (by decide +kernel)
set_option maxRecDepth 100000 in
theorem tw_153 : (Cond.instanceMethod ({ cls := "PathsKept$Table", name := "<init>", desc := "(II)V" } : Jvm.MethodName)) ∈ lw_tbl := ai_in_at 276 (by decide +kernel)
set_option maxRecDepth 100000 in
theorem tw_154 : (Cond.code ({ cls := "PathsKept$Table", name := "<init>", desc := "(II)V" } : Jvm.MethodName) prog_8_method_1_code (3 : Nat) (Option.none : Option Jvm.ClassFile.FieldType)) ∈ lw_tbl := ai_in_at 277 (by decide +kernel)
set_option maxRecDepth 100000 in
theorem tw_155 : (Cond.methodLink "PathsKept$Table" (3 : Nat) ({ cls := "java/lang/Object", name := "<init>", desc := "()V" } : Jvm.MethodName)) ∈ lw_tbl := ai_in_at 278 (by decide +kernel)
set_option maxRecDepth 100000 in
theorem tw_156 : (Cond.fieldLink "PathsKept$Table" (9 : Nat) "PathsKept$Table" "most" "I") ∈ lw_tbl := ai_in_at 279 (by decide +kernel)
set_option maxRecDepth 100000 in
theorem tw_157 : (Cond.fieldLink "PathsKept$Table" (15 : Nat) "PathsKept$Table" "width" "I") ∈ lw_tbl := ai_in_at 280 (by decide +kernel)
set_option maxRecDepth 100000 in
theorem tw_158 : (Cond.fieldLink "PathsKept$Table" (18 : Nat) "PathsKept$Table" "names" "[I") ∈ lw_tbl := ai_in_at 281 (by decide +kernel)
set_option maxRecDepth 100000 in
theorem tw_159 : (Cond.fieldLink "PathsKept$Table" (22 : Nat) "PathsKept$Table" "cells" "[I") ∈ lw_tbl := ai_in_at 282 (by decide +kernel)
set_option maxRecDepth 100000 in
theorem tw_160 : (Cond.fieldLink "PathsKept$Table" (25 : Nat) "PathsKept$Table" "size" "I") ∈ lw_tbl := ai_in_at 283 (by decide +kernel)
set_option maxRecDepth 100000 in
theorem tw_161 : (Cond.fieldLinkNest "PathsKept$Told" (43 : Nat) "PathsKept$Table" "size" "I" "PathsKept") ∈ lw_tbl := ai_in_at 284 (by decide +kernel)
set_option maxRecDepth 100000 in
theorem tw_162 : (Cond.fieldLinkNest "PathsKept$Ways" (45 : Nat) "PathsKept$Table" "size" "I" "PathsKept") ∈ lw_tbl := ai_in_at 285 (by decide +kernel)
set_option maxRecDepth 100000 in
theorem tw_163 : (Cond.fieldLinkNest "PathsKept$Standing" (46 : Nat) "PathsKept$Table" "size" "I" "PathsKept") ∈ lw_tbl := ai_in_at 286 (by decide +kernel)
set_option maxRecDepth 100000 in
theorem tw_164 : (Cond.fieldLinkNest "PathsKept$Days" (80 : Nat) "PathsKept$Table" "size" "I" "PathsKept") ∈ lw_tbl := ai_in_at 287 (by decide +kernel)
set_option maxRecDepth 100000 in
theorem tw_165 : (Cond.fieldLinkNest "PathsKept" (121 : Nat) "PathsKept$Table" "size" "I" "PathsKept") ∈ lw_tbl := ai_in_at 288 (by decide +kernel)
set_option maxRecDepth 100000 in
theorem tw_177 : (Cond.classLink "PathsKept$Told" (32 : Nat) "PathsKept$Laws") ∈ lw_tbl := ai_in_at 300 (by decide +kernel)
set_option maxRecDepth 100000 in
theorem tw_178 : (Cond.instantiable "PathsKept$Laws" (8 : Nat)) ∈ lw_tbl := ai_in_at 301 (by decide +kernel)
set_option maxRecDepth 100000 in
theorem tw_179 : (Cond.methodLinkNest "PathsKept$Told" (34 : Nat) ({ cls := "PathsKept$Laws", name := "<init>", desc := "()V" } : Jvm.MethodName) "PathsKept") ∈ lw_tbl := ai_in_at 302 (by decide +kernel)
set_option maxRecDepth 100000 in
theorem tw_180 : (Cond.instanceMethod ({ cls := "PathsKept$Laws", name := "<init>", desc := "()V" } : Jvm.MethodName)) ∈ lw_tbl := ai_in_at 303 (by decide +kernel)
set_option maxRecDepth 100000 in
theorem tw_181 : (Cond.code ({ cls := "PathsKept$Laws", name := "<init>", desc := "()V" } : Jvm.MethodName) prog_4_method_1_code (1 : Nat) (Option.none : Option Jvm.ClassFile.FieldType)) ∈ lw_tbl := ai_in_at 304 (by decide +kernel)
set_option maxRecDepth 100000 in
theorem tw_182 : (Cond.methodLink "PathsKept$Laws" (5 : Nat) ({ cls := "java/lang/Object", name := "<init>", desc := "()V" } : Jvm.MethodName)) ∈ lw_tbl := ai_in_at 305 (by decide +kernel)
set_option maxRecDepth 100000 in
theorem tw_183 : (Cond.fieldLink "PathsKept$Laws" (11 : Nat) "PathsKept$Laws" "start" "[I") ∈ lw_tbl := ai_in_at 306 (by decide +kernel)
set_option maxRecDepth 100000 in
theorem tw_184 : (Cond.fieldLinkNest "PathsKept$Reader" (162 : Nat) "PathsKept$Laws" "start" "[I" "PathsKept") ∈ lw_tbl := ai_in_at 307 (by decide +kernel)
set_option maxRecDepth 100000 in
theorem tw_185 : (Cond.fieldLink "PathsKept$Laws" (17 : Nat) "PathsKept$Laws" "end" "[I") ∈ lw_tbl := ai_in_at 308 (by decide +kernel)
set_option maxRecDepth 100000 in
theorem tw_186 : (Cond.fieldLinkNest "PathsKept$Reader" (172 : Nat) "PathsKept$Laws" "end" "[I" "PathsKept") ∈ lw_tbl := ai_in_at 309 (by decide +kernel)
set_option maxRecDepth 100000 in
theorem tw_187 : (Cond.fieldLink "PathsKept$Laws" (20 : Nat) "PathsKept$Laws" "kinds" "[I") ∈ lw_tbl := ai_in_at 310 (by decide +kernel)
set_option maxRecDepth 100000 in
theorem tw_188 : (Cond.fieldLink "PathsKept$Laws" (23 : Nat) "PathsKept$Laws" "numbers" "[I") ∈ lw_tbl := ai_in_at 311 (by decide +kernel)
set_option maxRecDepth 100000 in
theorem tw_189 : (Cond.fieldLink "PathsKept$Laws" (41 : Nat) "PathsKept$Laws" "size" "I") ∈ lw_tbl := ai_in_at 312 (by decide +kernel)
set_option maxRecDepth 100000 in
theorem tw_190 : (Cond.fieldLinkNest "PathsKept$Reader" (166 : Nat) "PathsKept$Laws" "size" "I" "PathsKept") ∈ lw_tbl := ai_in_at 313 (by decide +kernel)
set_option maxRecDepth 100000 in
theorem tw_191 : (Cond.fieldLink "PathsKept$Laws" (45 : Nat) "PathsKept$Laws" "knots" "I") ∈ lw_tbl := ai_in_at 314 (by decide +kernel)
set_option maxRecDepth 100000 in
theorem tw_192 : (Cond.fieldLinkNest "PathsKept" (202 : Nat) "PathsKept$Laws" "knots" "I" "PathsKept") ∈ lw_tbl := ai_in_at 315 (by decide +kernel)
set_option maxRecDepth 100000 in
theorem tw_193 : (Cond.fieldLinkNest "PathsKept$Reader" (192 : Nat) "PathsKept$Laws" "knots" "I" "PathsKept") ∈ lw_tbl := ai_in_at 316 (by decide +kernel)
set_option maxRecDepth 100000 in
theorem tw_194 : (Cond.fieldLink "PathsKept$Laws" (28 : Nat) "PathsKept$Laws" "names" "[J") ∈ lw_tbl := ai_in_at 317 (by decide +kernel)
set_option maxRecDepth 100000 in
theorem tw_195 : (Cond.fieldLinkNest "PathsKept$Days" (147 : Nat) "PathsKept$Laws" "names" "[J" "PathsKept") ∈ lw_tbl := ai_in_at 318 (by decide +kernel)
set_option maxRecDepth 100000 in
theorem tw_196 : (Cond.fieldLink "PathsKept$Laws" (32 : Nat) "PathsKept$Laws" "stack" "[J") ∈ lw_tbl := ai_in_at 319 (by decide +kernel)
set_option maxRecDepth 100000 in
theorem tw_214 : (Cond.arrayClass Jvm.ClassFile.FieldType.long) ∈ lw_tbl := ai_in_at 337 (by decide +kernel)
set_option maxRecDepth 100000 in
theorem tw_215 : (Cond.fieldLink "PathsKept$Told" (14 : Nat) "PathsKept$Told" "places" "LPathsKept$Table;") ∈ lw_tbl := ai_in_at 338 (by decide +kernel)
set_option maxRecDepth 100000 in
theorem tw_216 : (Cond.fieldLinkNest "PathsKept$Ways" (59 : Nat) "PathsKept$Told" "places" "LPathsKept$Table;" "PathsKept") ∈ lw_tbl := ai_in_at 339 (by decide +kernel)
set_option maxRecDepth 100000 in
theorem tw_217 : (Cond.fieldLinkNest "PathsKept$Reader" (70 : Nat) "PathsKept$Told" "places" "LPathsKept$Table;" "PathsKept") ∈ lw_tbl := ai_in_at 340 (by decide +kernel)
set_option maxRecDepth 100000 in
theorem tw_218 : (Cond.fieldLinkNest "PathsKept" (105 : Nat) "PathsKept$Told" "places" "LPathsKept$Table;" "PathsKept") ∈ lw_tbl := ai_in_at 341 (by decide +kernel)
set_option maxRecDepth 100000 in
theorem tw_219 : (Cond.fieldLink "PathsKept$Told" (20 : Nat) "PathsKept$Told" "paths" "LPathsKept$Table;") ∈ lw_tbl := ai_in_at 342 (by decide +kernel)
set_option maxRecDepth 100000 in
theorem tw_220 : (Cond.fieldLinkNest "PathsKept$Ways" (42 : Nat) "PathsKept$Told" "paths" "LPathsKept$Table;" "PathsKept") ∈ lw_tbl := ai_in_at 343 (by decide +kernel)
set_option maxRecDepth 100000 in
theorem tw_221 : (Cond.fieldLinkNest "PathsKept$Standing" (42 : Nat) "PathsKept$Told" "paths" "LPathsKept$Table;" "PathsKept") ∈ lw_tbl := ai_in_at 344 (by decide +kernel)
set_option maxRecDepth 100000 in
theorem tw_222 : (Cond.fieldLinkNest "PathsKept$Days" (77 : Nat) "PathsKept$Told" "paths" "LPathsKept$Table;" "PathsKept") ∈ lw_tbl := ai_in_at 345 (by decide +kernel)
set_option maxRecDepth 100000 in
theorem tw_223 : (Cond.fieldLinkNest "PathsKept" (115 : Nat) "PathsKept$Told" "paths" "LPathsKept$Table;" "PathsKept") ∈ lw_tbl := ai_in_at 346 (by decide +kernel)
set_option maxRecDepth 100000 in
theorem tw_224 : (Cond.fieldLinkNest "PathsKept$Reader" (122 : Nat) "PathsKept$Told" "paths" "LPathsKept$Table;" "PathsKept") ∈ lw_tbl := ai_in_at 347 (by decide +kernel)
set_option maxRecDepth 100000 in
theorem tw_225 : (Cond.fieldLink "PathsKept$Told" (23 : Nat) "PathsKept$Told" "walkers" "LPathsKept$Table;") ∈ lw_tbl := ai_in_at 348 (by decide +kernel)
set_option maxRecDepth 100000 in
theorem tw_226 : (Cond.fieldLinkNest "PathsKept$Ways" (30 : Nat) "PathsKept$Told" "walkers" "LPathsKept$Table;" "PathsKept") ∈ lw_tbl := ai_in_at 349 (by decide +kernel)
set_option maxRecDepth 100000 in
theorem tw_227 : (Cond.fieldLinkNest "PathsKept$Days" (53 : Nat) "PathsKept$Told" "walkers" "LPathsKept$Table;" "PathsKept") ∈ lw_tbl := ai_in_at 350 (by decide +kernel)
set_option maxRecDepth 100000 in
theorem tw_228 : (Cond.fieldLinkNest "PathsKept$Standing" (58 : Nat) "PathsKept$Told" "walkers" "LPathsKept$Table;" "PathsKept") ∈ lw_tbl := ai_in_at 351 (by decide +kernel)
set_option maxRecDepth 100000 in
theorem tw_229 : (Cond.fieldLinkNest "PathsKept" (118 : Nat) "PathsKept$Told" "walkers" "LPathsKept$Table;" "PathsKept") ∈ lw_tbl := ai_in_at 352 (by decide +kernel)
set_option maxRecDepth 100000 in
theorem tw_230 : (Cond.fieldLinkNest "PathsKept$Reader" (140 : Nat) "PathsKept$Told" "walkers" "LPathsKept$Table;" "PathsKept") ∈ lw_tbl := ai_in_at 353 (by decide +kernel)
set_option maxRecDepth 100000 in
theorem tw_231 : (Cond.fieldLink "PathsKept$Told" (26 : Nat) "PathsKept$Told" "walks" "LPathsKept$Table;") ∈ lw_tbl := ai_in_at 354 (by decide +kernel)
set_option maxRecDepth 100000 in
theorem tw_232 : (Cond.fieldLinkNest "PathsKept$Days" (109 : Nat) "PathsKept$Told" "walks" "LPathsKept$Table;" "PathsKept") ∈ lw_tbl := ai_in_at 355 (by decide +kernel)
set_option maxRecDepth 100000 in
theorem tw_233 : (Cond.fieldLinkNest "PathsKept$Reader" (143 : Nat) "PathsKept$Told" "walks" "LPathsKept$Table;" "PathsKept") ∈ lw_tbl := ai_in_at 356 (by decide +kernel)
set_option maxRecDepth 100000 in
theorem tw_234 : (Cond.fieldLinkNest "PathsKept" (199 : Nat) "PathsKept$Told" "walks" "LPathsKept$Table;" "PathsKept") ∈ lw_tbl := ai_in_at 357 (by decide +kernel)
set_option maxRecDepth 100000 in
theorem tw_235 : (Cond.fieldLink "PathsKept$Told" (29 : Nat) "PathsKept$Told" "bulls" "LPathsKept$Table;") ∈ lw_tbl := ai_in_at 358 (by decide +kernel)
set_option maxRecDepth 100000 in
theorem tw_236 : (Cond.fieldLinkNest "PathsKept$Reader" (146 : Nat) "PathsKept$Told" "bulls" "LPathsKept$Table;" "PathsKept") ∈ lw_tbl := ai_in_at 359 (by decide +kernel)
set_option maxRecDepth 100000 in
theorem tw_237 : (Cond.fieldLink "PathsKept$Told" (35 : Nat) "PathsKept$Told" "laws" "LPathsKept$Laws;") ∈ lw_tbl := ai_in_at 360 (by decide +kernel)
set_option maxRecDepth 100000 in
theorem tw_238 : (Cond.fieldLinkNest "PathsKept$Days" (31 : Nat) "PathsKept$Told" "laws" "LPathsKept$Laws;" "PathsKept") ∈ lw_tbl := ai_in_at 361 (by decide +kernel)
set_option maxRecDepth 100000 in
theorem tw_239 : (Cond.fieldLinkNest "PathsKept" (191 : Nat) "PathsKept$Told" "laws" "LPathsKept$Laws;" "PathsKept") ∈ lw_tbl := ai_in_at 362 (by decide +kernel)
set_option maxRecDepth 100000 in
theorem tw_240 : (Cond.fieldLinkNest "PathsKept$Reader" (158 : Nat) "PathsKept$Told" "laws" "LPathsKept$Laws;" "PathsKept") ∈ lw_tbl := ai_in_at 363 (by decide +kernel)
set_option maxRecDepth 100000 in
theorem tw_241 : (Cond.fieldLink "PathsKept$Told" (39 : Nat) "PathsKept$Told" "year" "I") ∈ lw_tbl := ai_in_at 364 (by decide +kernel)
set_option maxRecDepth 100000 in
theorem tw_242 : (Cond.fieldLinkNest "PathsKept$Days" (46 : Nat) "PathsKept$Told" "year" "I" "PathsKept") ∈ lw_tbl := ai_in_at 365 (by decide +kernel)
set_option maxRecDepth 100000 in
theorem tw_243 : (Cond.fieldLinkNest "PathsKept$Reader" (105 : Nat) "PathsKept$Told" "year" "I" "PathsKept") ∈ lw_tbl := ai_in_at 366 (by decide +kernel)
set_option maxRecDepth 100000 in
theorem tw_244 : (Cond.fieldLink "PathsKept$Told" (49 : Nat) "PathsKept$Told" "snow" "I") ∈ lw_tbl := ai_in_at 367 (by decide +kernel)
set_option maxRecDepth 100000 in
theorem tw_245 : (Cond.fieldLinkNest "PathsKept$Days" (98 : Nat) "PathsKept$Told" "snow" "I" "PathsKept") ∈ lw_tbl := ai_in_at 368 (by decide +kernel)
set_option maxRecDepth 100000 in
theorem tw_246 : (Cond.fieldLinkNest "PathsKept$Reader" (108 : Nat) "PathsKept$Told" "snow" "I" "PathsKept") ∈ lw_tbl := ai_in_at 369 (by decide +kernel)
set_option maxRecDepth 100000 in
theorem tw_247 : (Cond.fieldLinkNest "PathsKept" (320 : Nat) "PathsKept$Told" "snow" "I" "PathsKept") ∈ lw_tbl := ai_in_at 370 (by decide +kernel)
set_option maxRecDepth 100000 in
theorem tw_248 : (Cond.fieldLinkNest "PathsKept$Standing" (28 : Nat) "PathsKept$Told" "seed" "I" "PathsKept") ∈ lw_tbl := ai_in_at 371 (by decide +kernel)
set_option maxRecDepth 100000 in
theorem tw_249 : (Cond.fieldLink "PathsKept$Told" (52 : Nat) "PathsKept$Told" "seed" "I") ∈ lw_tbl := ai_in_at 372 (by decide +kernel)
set_option maxRecDepth 100000 in
theorem tw_250 : (Cond.fieldLinkNest "PathsKept$Reader" (112 : Nat) "PathsKept$Told" "seed" "I" "PathsKept") ∈ lw_tbl := ai_in_at 373 (by decide +kernel)
set_option maxRecDepth 100000 in
theorem tw_251 : (Cond.fieldLink "PathsKept$Told" (55 : Nat) "PathsKept$Told" "lines" "I") ∈ lw_tbl := ai_in_at 374 (by decide +kernel)
set_option maxRecDepth 100000 in
theorem tw_252 : (Cond.fieldLinkNest "PathsKept$Reader" (51 : Nat) "PathsKept$Told" "lines" "I" "PathsKept") ∈ lw_tbl := ai_in_at 375 (by decide +kernel)
set_option maxRecDepth 100000 in
theorem tw_253 : (Cond.fieldLinkNest "PathsKept" (96 : Nat) "PathsKept$Told" "lines" "I" "PathsKept") ∈ lw_tbl := ai_in_at 376 (by decide +kernel)
set_option maxRecDepth 100000 in
theorem tw_275 : (Cond.classLink "PathsKept" (30 : Nat) "PathsKept$Standing") ∈ lw_tbl := ai_in_at 398 (by decide +kernel)
set_option maxRecDepth 100000 in
theorem tw_276 : (Cond.instantiable "PathsKept$Standing" (9 : Nat)) ∈ lw_tbl := ai_in_at 399 (by decide +kernel)
set_option maxRecDepth 100000 in
theorem tw_277 : (Cond.methodLinkNest "PathsKept" (32 : Nat) ({ cls := "PathsKept$Standing", name := "<init>", desc := "()V" } : Jvm.MethodName) "PathsKept") ∈ lw_tbl := ai_in_at 400 (by decide +kernel)
set_option maxRecDepth 100000 in
theorem tw_278 : (Cond.instanceMethod ({ cls := "PathsKept$Standing", name := "<init>", desc := "()V" } : Jvm.MethodName)) ∈ lw_tbl := ai_in_at 401 (by decide +kernel)
set_option maxRecDepth 100000 in
theorem tw_279 : (Cond.code ({ cls := "PathsKept$Standing", name := "<init>", desc := "()V" } : Jvm.MethodName) prog_7_method_1_code (1 : Nat) (Option.none : Option Jvm.ClassFile.FieldType)) ∈ lw_tbl := ai_in_at 402 (by decide +kernel)
set_option maxRecDepth 100000 in
theorem tw_280 : (Cond.methodLink "PathsKept$Standing" (3 : Nat) ({ cls := "java/lang/Object", name := "<init>", desc := "()V" } : Jvm.MethodName)) ∈ lw_tbl := ai_in_at 403 (by decide +kernel)
set_option maxRecDepth 100000 in
theorem tw_281 : (Cond.fieldLink "PathsKept$Standing" (24 : Nat) "PathsKept$Standing" "day" "I") ∈ lw_tbl := ai_in_at 404 (by decide +kernel)
set_option maxRecDepth 100000 in
theorem tw_282 : (Cond.fieldLinkNest "PathsKept$Days" (95 : Nat) "PathsKept$Standing" "day" "I" "PathsKept") ∈ lw_tbl := ai_in_at 405 (by decide +kernel)
set_option maxRecDepth 100000 in
theorem tw_283 : (Cond.fieldLinkNest "PathsKept" (149 : Nat) "PathsKept$Standing" "day" "I" "PathsKept") ∈ lw_tbl := ai_in_at 406 (by decide +kernel)
set_option maxRecDepth 100000 in
theorem tw_284 : (Cond.fieldLink "PathsKept$Standing" (33 : Nat) "PathsKept$Standing" "number" "I") ∈ lw_tbl := ai_in_at 407 (by decide +kernel)
set_option maxRecDepth 100000 in
theorem tw_285 : (Cond.fieldLinkNest "PathsKept$Days" (101 : Nat) "PathsKept$Standing" "number" "I" "PathsKept") ∈ lw_tbl := ai_in_at 408 (by decide +kernel)
set_option maxRecDepth 100000 in
theorem tw_286 : (Cond.fieldLinkNest "PathsKept" (254 : Nat) "PathsKept$Standing" "number" "I" "PathsKept") ∈ lw_tbl := ai_in_at 409 (by decide +kernel)
set_option maxRecDepth 100000 in
theorem tw_287 : (Cond.fieldLink "PathsKept$Standing" (36 : Nat) "PathsKept$Standing" "done" "I") ∈ lw_tbl := ai_in_at 410 (by decide +kernel)
set_option maxRecDepth 100000 in
theorem tw_288 : (Cond.fieldLinkNest "PathsKept$Days" (171 : Nat) "PathsKept$Standing" "done" "I" "PathsKept") ∈ lw_tbl := ai_in_at 411 (by decide +kernel)
set_option maxRecDepth 100000 in
theorem tw_289 : (Cond.fieldLinkNest "PathsKept" (213 : Nat) "PathsKept$Standing" "done" "I" "PathsKept") ∈ lw_tbl := ai_in_at 412 (by decide +kernel)
set_option maxRecDepth 100000 in
theorem tw_290 : (Cond.fieldLink "PathsKept$Standing" (39 : Nat) "PathsKept$Standing" "refused" "I") ∈ lw_tbl := ai_in_at 413 (by decide +kernel)
set_option maxRecDepth 100000 in
theorem tw_291 : (Cond.fieldLinkNest "PathsKept$Days" (119 : Nat) "PathsKept$Standing" "refused" "I" "PathsKept") ∈ lw_tbl := ai_in_at 414 (by decide +kernel)
set_option maxRecDepth 100000 in
theorem tw_292 : (Cond.fieldLinkNest "PathsKept" (216 : Nat) "PathsKept$Standing" "refused" "I" "PathsKept") ∈ lw_tbl := ai_in_at 415 (by decide +kernel)
set_option maxRecDepth 100000 in
theorem tw_293 : (Cond.fieldLink "PathsKept$Standing" (51 : Nat) "PathsKept$Standing" "kept" "I") ∈ lw_tbl := ai_in_at 416 (by decide +kernel)
set_option maxRecDepth 100000 in
theorem tw_294 : (Cond.fieldLinkNest "PathsKept$Days" (144 : Nat) "PathsKept$Standing" "kept" "I" "PathsKept") ∈ lw_tbl := ai_in_at 417 (by decide +kernel)
set_option maxRecDepth 100000 in
theorem tw_295 : (Cond.fieldLinkNest "PathsKept" (205 : Nat) "PathsKept$Standing" "kept" "I" "PathsKept") ∈ lw_tbl := ai_in_at 418 (by decide +kernel)
set_option maxRecDepth 100000 in
theorem tw_296 : (Cond.fieldLink "PathsKept$Standing" (9 : Nat) "PathsKept$Standing" "age" "[I") ∈ lw_tbl := ai_in_at 419 (by decide +kernel)
set_option maxRecDepth 100000 in
theorem tw_297 : (Cond.fieldLinkNest "PathsKept$Days" (122 : Nat) "PathsKept$Standing" "age" "[I" "PathsKept") ∈ lw_tbl := ai_in_at 420 (by decide +kernel)
set_option maxRecDepth 100000 in
theorem tw_298 : (Cond.fieldLinkNest "PathsKept" (139 : Nat) "PathsKept$Standing" "age" "[I" "PathsKept") ∈ lw_tbl := ai_in_at 421 (by decide +kernel)
set_option maxRecDepth 100000 in
theorem tw_299 : (Cond.fieldLinkNest "PathsKept$Ways" (110 : Nat) "PathsKept$Standing" "age" "[I" "PathsKept") ∈ lw_tbl := ai_in_at 422 (by decide +kernel)
set_option maxRecDepth 100000 in
theorem tw_300 : (Cond.fieldLink "PathsKept$Standing" (15 : Nat) "PathsKept$Standing" "gone" "[I") ∈ lw_tbl := ai_in_at 423 (by decide +kernel)
set_option maxRecDepth 100000 in
theorem tw_301 : (Cond.fieldLinkNest "PathsKept$Days" (153 : Nat) "PathsKept$Standing" "gone" "[I" "PathsKept") ∈ lw_tbl := ai_in_at 424 (by decide +kernel)
set_option maxRecDepth 100000 in
theorem tw_302 : (Cond.fieldLinkNest "PathsKept" (146 : Nat) "PathsKept$Standing" "gone" "[I" "PathsKept") ∈ lw_tbl := ai_in_at 425 (by decide +kernel)
set_option maxRecDepth 100000 in
theorem tw_303 : (Cond.fieldLink "PathsKept$Standing" (18 : Nat) "PathsKept$Standing" "at" "[I") ∈ lw_tbl := ai_in_at 426 (by decide +kernel)
set_option maxRecDepth 100000 in
theorem tw_304 : (Cond.fieldLinkNest "PathsKept$Days" (160 : Nat) "PathsKept$Standing" "at" "[I" "PathsKept") ∈ lw_tbl := ai_in_at 427 (by decide +kernel)
set_option maxRecDepth 100000 in
theorem tw_305 : (Cond.fieldLinkNest "PathsKept$Ways" (90 : Nat) "PathsKept$Standing" "at" "[I" "PathsKept") ∈ lw_tbl := ai_in_at 428 (by decide +kernel)
set_option maxRecDepth 100000 in
theorem tw_306 : (Cond.fieldLinkNest "PathsKept" (164 : Nat) "PathsKept$Standing" "at" "[I" "PathsKept") ∈ lw_tbl := ai_in_at 429 (by decide +kernel)
set_option maxRecDepth 100000 in
theorem tw_307 : (Cond.fieldLink "PathsKept$Standing" (21 : Nat) "PathsKept$Standing" "left" "[I") ∈ lw_tbl := ai_in_at 430 (by decide +kernel)
set_option maxRecDepth 100000 in
theorem tw_308 : (Cond.fieldLinkNest "PathsKept$Days" (92 : Nat) "PathsKept$Standing" "left" "[I" "PathsKept") ∈ lw_tbl := ai_in_at 431 (by decide +kernel)
set_option maxRecDepth 100000 in
theorem tw_309 : (Cond.fieldLinkNest "PathsKept" (167 : Nat) "PathsKept$Standing" "left" "[I" "PathsKept") ∈ lw_tbl := ai_in_at 432 (by decide +kernel)
set_option maxRecDepth 100000 in
theorem tw_330 : (Cond.classLink "PathsKept" (47 : Nat) "PathsKept$Days") ∈ lw_tbl := ai_in_at 453 (by decide +kernel)
set_option maxRecDepth 100000 in
theorem tw_331 : (Cond.instantiable "PathsKept$Days" (8 : Nat)) ∈ lw_tbl := ai_in_at 454 (by decide +kernel)
set_option maxRecDepth 100000 in
theorem tw_332 : (Cond.methodLinkNest "PathsKept" (49 : Nat) ({ cls := "PathsKept$Days", name := "<init>", desc := "()V" } : Jvm.MethodName) "PathsKept") ∈ lw_tbl := ai_in_at 455 (by decide +kernel)
set_option maxRecDepth 100000 in
theorem tw_333 : (Cond.instanceMethod ({ cls := "PathsKept$Days", name := "<init>", desc := "()V" } : Jvm.MethodName)) ∈ lw_tbl := ai_in_at 456 (by decide +kernel)
set_option maxRecDepth 100000 in
theorem tw_334 : (Cond.code ({ cls := "PathsKept$Days", name := "<init>", desc := "()V" } : Jvm.MethodName) prog_2_method_1_code (1 : Nat) (Option.none : Option Jvm.ClassFile.FieldType)) ∈ lw_tbl := ai_in_at 457 (by decide +kernel)
set_option maxRecDepth 100000 in
theorem tw_335 : (Cond.methodLink "PathsKept$Days" (3 : Nat) ({ cls := "java/lang/Object", name := "<init>", desc := "()V" } : Jvm.MethodName)) ∈ lw_tbl := ai_in_at 458 (by decide +kernel)
set_option maxRecDepth 100000 in
theorem tw_336 : (Cond.fieldLink "PathsKept$Days" (15 : Nat) "PathsKept$Days" "told" "LPathsKept$Told;") ∈ lw_tbl := ai_in_at 459 (by decide +kernel)
set_option maxRecDepth 100000 in
theorem tw_337 : (Cond.fieldLink "PathsKept$Days" (19 : Nat) "PathsKept$Days" "standing" "LPathsKept$Standing;") ∈ lw_tbl := ai_in_at 460 (by decide +kernel)
set_option maxRecDepth 100000 in
theorem tw_338 : (Cond.fieldLink "PathsKept$Days" (23 : Nat) "PathsKept$Days" "snowBy" "I") ∈ lw_tbl := ai_in_at 461 (by decide +kernel)
set_option maxRecDepth 100000 in
theorem tw_339 : (Cond.fieldLink "PathsKept$Days" (27 : Nat) "PathsKept$Days" "bulls" "Z") ∈ lw_tbl := ai_in_at 462 (by decide +kernel)
set_option maxRecDepth 100000 in
theorem tw_340 : (Cond.fieldLink "PathsKept$Days" (43 : Nat) "PathsKept$Days" "termAsked" "Z") ∈ lw_tbl := ai_in_at 463 (by decide +kernel)
set_option maxRecDepth 100000 in
theorem tw_341 : (Cond.fieldLink "PathsKept$Days" (49 : Nat) "PathsKept$Days" "year" "I") ∈ lw_tbl := ai_in_at 464 (by decide +kernel)
set_option maxRecDepth 100000 in
theorem tw_342 : (Cond.fieldLink "PathsKept$Days" (50 : Nat) "PathsKept$Days" "stays" "I") ∈ lw_tbl := ai_in_at 465 (by decide +kernel)
set_option maxRecDepth 100000 in
theorem tw_343 : (Cond.fieldLink "PathsKept$Days" (9 : Nat) "PathsKept$Days" "legs" "[I") ∈ lw_tbl := ai_in_at 466 (by decide +kernel)
set_option maxRecDepth 100000 in
theorem tw_344 : (Cond.fieldLinkNest "PathsKept" (358 : Nat) "PathsKept$Days" "legs" "[I" "PathsKept") ∈ lw_tbl := ai_in_at 467 (by decide +kernel)
set_option maxRecDepth 100000 in
theorem tw_362 : (Cond.classLink "PathsKept" (54 : Nat) "PathsKept$Seen") ∈ lw_tbl := ai_in_at 485 (by decide +kernel)
set_option maxRecDepth 100000 in
theorem tw_363 : (Cond.instantiable "PathsKept$Seen" (9 : Nat)) ∈ lw_tbl := ai_in_at 486 (by decide +kernel)
set_option maxRecDepth 100000 in
theorem tw_364 : (Cond.methodLinkNest "PathsKept" (56 : Nat) ({ cls := "PathsKept$Seen", name := "<init>", desc := "()V" } : Jvm.MethodName) "PathsKept") ∈ lw_tbl := ai_in_at 487 (by decide +kernel)
set_option maxRecDepth 100000 in
theorem tw_365 : (Cond.instanceMethod ({ cls := "PathsKept$Seen", name := "<init>", desc := "()V" } : Jvm.MethodName)) ∈ lw_tbl := ai_in_at 488 (by decide +kernel)
set_option maxRecDepth 100000 in
theorem tw_366 : (Cond.code ({ cls := "PathsKept$Seen", name := "<init>", desc := "()V" } : Jvm.MethodName) prog_6_method_1_code (1 : Nat) (Option.none : Option Jvm.ClassFile.FieldType)) ∈ lw_tbl := ai_in_at 489 (by decide +kernel)
set_option maxRecDepth 100000 in
theorem tw_367 : (Cond.methodLink "PathsKept$Seen" (3 : Nat) ({ cls := "java/lang/Object", name := "<init>", desc := "()V" } : Jvm.MethodName)) ∈ lw_tbl := ai_in_at 490 (by decide +kernel)
set_option maxRecDepth 100000 in
theorem tw_368 : (Cond.fieldLink "PathsKept$Seen" (9 : Nat) "PathsKept$Seen" "kind" "[I") ∈ lw_tbl := ai_in_at 491 (by decide +kernel)
set_option maxRecDepth 100000 in
theorem tw_369 : (Cond.fieldLink "PathsKept$Seen" (15 : Nat) "PathsKept$Seen" "day" "[I") ∈ lw_tbl := ai_in_at 492 (by decide +kernel)
set_option maxRecDepth 100000 in
theorem tw_370 : (Cond.fieldLink "PathsKept$Seen" (18 : Nat) "PathsKept$Seen" "whom" "[I") ∈ lw_tbl := ai_in_at 493 (by decide +kernel)
set_option maxRecDepth 100000 in
theorem tw_371 : (Cond.fieldLink "PathsKept$Seen" (21 : Nat) "PathsKept$Seen" "place" "[I") ∈ lw_tbl := ai_in_at 494 (by decide +kernel)
set_option maxRecDepth 100000 in
theorem tw_372 : (Cond.fieldLink "PathsKept$Seen" (24 : Nat) "PathsKept$Seen" "counts" "[Z") ∈ lw_tbl := ai_in_at 495 (by decide +kernel)
set_option maxRecDepth 100000 in
theorem tw_373 : (Cond.fieldLink "PathsKept$Seen" (35 : Nat) "PathsKept$Seen" "size" "I") ∈ lw_tbl := ai_in_at 496 (by decide +kernel)
set_option maxRecDepth 100000 in
theorem tw_374 : (Cond.fieldLinkNest "PathsKept" (223 : Nat) "PathsKept$Seen" "size" "I" "PathsKept") ∈ lw_tbl := ai_in_at 497 (by decide +kernel)
set_option maxRecDepth 100000 in
theorem tw_375 : (Cond.fieldLink "PathsKept$Seen" (28 : Nat) "PathsKept$Seen" "knownBy" "I") ∈ lw_tbl := ai_in_at 498 (by decide +kernel)
set_option maxRecDepth 100000 in
theorem tw_376 : (Cond.fieldLinkNest "PathsKept" (337 : Nat) "PathsKept$Seen" "knownBy" "I" "PathsKept") ∈ lw_tbl := ai_in_at 499 (by decide +kernel)
set_option maxRecDepth 100000 in
theorem tw_377 : (Cond.fieldLink "PathsKept$Seen" (42 : Nat) "PathsKept$Seen" "lastDay" "I") ∈ lw_tbl := ai_in_at 500 (by decide +kernel)
set_option maxRecDepth 100000 in
theorem tw_378 : (Cond.fieldLinkNest "PathsKept" (361 : Nat) "PathsKept$Seen" "lastDay" "I" "PathsKept") ∈ lw_tbl := ai_in_at 501 (by decide +kernel)
set_option maxRecDepth 100000 in
theorem tw_379 : (Cond.fieldLink "PathsKept$Seen" (32 : Nat) "PathsKept$Seen" "hits" "[I") ∈ lw_tbl := ai_in_at 502 (by decide +kernel)
set_option maxRecDepth 100000 in
theorem tw_380 : (Cond.fieldLinkNest "PathsKept" (346 : Nat) "PathsKept$Seen" "hits" "[I" "PathsKept") ∈ lw_tbl := ai_in_at 503 (by decide +kernel)
set_option maxRecDepth 100000 in
theorem tw_400 : (Cond.arrayClass Jvm.ClassFile.FieldType.boolean) ∈ lw_tbl := ai_in_at 523 (by decide +kernel)
set_option maxRecDepth 100000 in
theorem tw_401 : (Cond.classLink "PathsKept" (61 : Nat) "PathsKept$Ways") ∈ lw_tbl := ai_in_at 524 (by decide +kernel)
set_option maxRecDepth 100000 in
theorem tw_402 : (Cond.instantiable "PathsKept$Ways" (7 : Nat)) ∈ lw_tbl := ai_in_at 525 (by decide +kernel)
set_option maxRecDepth 100000 in
theorem tw_403 : (Cond.methodLinkNest "PathsKept" (63 : Nat) ({ cls := "PathsKept$Ways", name := "<init>", desc := "()V" } : Jvm.MethodName) "PathsKept") ∈ lw_tbl := ai_in_at 526 (by decide +kernel)
set_option maxRecDepth 100000 in
theorem tw_404 : (Cond.instanceMethod ({ cls := "PathsKept$Ways", name := "<init>", desc := "()V" } : Jvm.MethodName)) ∈ lw_tbl := ai_in_at 527 (by decide +kernel)
set_option maxRecDepth 100000 in
theorem tw_405 : (Cond.code ({ cls := "PathsKept$Ways", name := "<init>", desc := "()V" } : Jvm.MethodName) prog_11_method_1_code (1 : Nat) (Option.none : Option Jvm.ClassFile.FieldType)) ∈ lw_tbl := ai_in_at 528 (by decide +kernel)
set_option maxRecDepth 100000 in
theorem tw_406 : (Cond.methodLink "PathsKept$Ways" (3 : Nat) ({ cls := "java/lang/Object", name := "<init>", desc := "()V" } : Jvm.MethodName)) ∈ lw_tbl := ai_in_at 529 (by decide +kernel)
set_option maxRecDepth 100000 in
theorem tw_407 : (Cond.fieldLink "PathsKept$Ways" (9 : Nat) "PathsKept$Ways" "lengths" "[I") ∈ lw_tbl := ai_in_at 530 (by decide +kernel)
set_option maxRecDepth 100000 in
theorem tw_408 : (Cond.fieldLink "PathsKept$Ways" (15 : Nat) "PathsKept$Ways" "least" "[I") ∈ lw_tbl := ai_in_at 531 (by decide +kernel)
set_option maxRecDepth 100000 in
theorem tw_409 : (Cond.fieldLink "PathsKept$Ways" (18 : Nat) "PathsKept$Ways" "choices" "[I") ∈ lw_tbl := ai_in_at 532 (by decide +kernel)
set_option maxRecDepth 100000 in
theorem tw_410 : (Cond.fieldLink "PathsKept$Ways" (21 : Nat) "PathsKept$Ways" "ages" "[I") ∈ lw_tbl := ai_in_at 533 (by decide +kernel)
set_option maxRecDepth 100000 in
theorem tw_411 : (Cond.fieldLink "PathsKept$Ways" (24 : Nat) "PathsKept$Ways" "pick" "[I") ∈ lw_tbl := ai_in_at 534 (by decide +kernel)
set_option maxRecDepth 100000 in
theorem tw_412 : (Cond.fieldLink "PathsKept$Ways" (27 : Nat) "PathsKept$Ways" "bestPick" "[I") ∈ lw_tbl := ai_in_at 535 (by decide +kernel)
set_option maxRecDepth 100000 in
theorem tw_413 : (Cond.fieldLinkNest "PathsKept" (289 : Nat) "PathsKept$Ways" "bestPick" "[I" "PathsKept") ∈ lw_tbl := ai_in_at 536 (by decide +kernel)
set_option maxRecDepth 100000 in
theorem tw_414 : (Cond.fieldLink "PathsKept$Ways" (119 : Nat) "PathsKept$Ways" "bestSum" "I") ∈ lw_tbl := ai_in_at 537 (by decide +kernel)
set_option maxRecDepth 100000 in
theorem tw_415 : (Cond.fieldLinkNest "PathsKept" (286 : Nat) "PathsKept$Ways" "bestSum" "I" "PathsKept") ∈ lw_tbl := ai_in_at 538 (by decide +kernel)
set_option maxRecDepth 100000 in
theorem tw_431 : (Cond.fieldLink "PathsKept" (9 : Nat) "PathsKept" "tape" "[B") ∈ lw_tbl := ai_in_at 554 (by decide +kernel)
set_option maxRecDepth 100000 in
theorem tw_432 : (Cond.fieldLink "PathsKept" (68 : Nat) "PathsKept" "tapeSize" "I") ∈ lw_tbl := ai_in_at 555 (by decide +kernel)
set_option maxRecDepth 100000 in
theorem tw_433 : (Cond.fieldLink "PathsKept" (16 : Nat) "PathsKept" "reader" "LPathsKept$Reader;") ∈ lw_tbl := ai_in_at 556 (by decide +kernel)
set_option maxRecDepth 100000 in
theorem tw_434 : (Cond.fieldLink "PathsKept" (23 : Nat) "PathsKept" "told" "LPathsKept$Told;") ∈ lw_tbl := ai_in_at 557 (by decide +kernel)
set_option maxRecDepth 100000 in
theorem tw_435 : (Cond.fieldLink "PathsKept" (27 : Nat) "PathsKept" "draft" "LPathsKept$Told;") ∈ lw_tbl := ai_in_at 558 (by decide +kernel)
set_option maxRecDepth 100000 in
theorem tw_436 : (Cond.fieldLink "PathsKept" (33 : Nat) "PathsKept" "now" "LPathsKept$Standing;") ∈ lw_tbl := ai_in_at 559 (by decide +kernel)
set_option maxRecDepth 100000 in
theorem tw_437 : (Cond.fieldLink "PathsKept" (37 : Nat) "PathsKept" "scratch" "LPathsKept$Standing;") ∈ lw_tbl := ai_in_at 560 (by decide +kernel)
set_option maxRecDepth 100000 in
theorem tw_438 : (Cond.fieldLink "PathsKept" (40 : Nat) "PathsKept" "image" "LPathsKept$Standing;") ∈ lw_tbl := ai_in_at 561 (by decide +kernel)
set_option maxRecDepth 100000 in
theorem tw_439 : (Cond.fieldLink "PathsKept" (89 : Nat) "PathsKept" "imaged" "Z") ∈ lw_tbl := ai_in_at 562 (by decide +kernel)
set_option maxRecDepth 100000 in
theorem tw_440 : (Cond.fieldLink "PathsKept" (43 : Nat) "PathsKept" "past" "[LPathsKept$Standing;") ∈ lw_tbl := ai_in_at 563 (by decide +kernel)
set_option maxRecDepth 100000 in
theorem tw_441 : (Cond.fieldLink "PathsKept" (93 : Nat) "PathsKept" "pastSize" "I") ∈ lw_tbl := ai_in_at 564 (by decide +kernel)
set_option maxRecDepth 100000 in
theorem tw_442 : (Cond.fieldLink "PathsKept" (50 : Nat) "PathsKept" "days" "LPathsKept$Days;") ∈ lw_tbl := ai_in_at 565 (by decide +kernel)
set_option maxRecDepth 100000 in
theorem tw_443 : (Cond.fieldLink "PathsKept" (57 : Nat) "PathsKept" "seen" "LPathsKept$Seen;") ∈ lw_tbl := ai_in_at 566 (by decide +kernel)
set_option maxRecDepth 100000 in
theorem tw_444 : (Cond.fieldLink "PathsKept" (64 : Nat) "PathsKept" "ways" "LPathsKept$Ways;") ∈ lw_tbl := ai_in_at 567 (by decide +kernel)
set_option maxRecDepth 100000 in
theorem tw_445 : (Cond.fieldLink "PathsKept" (294 : Nat) "PathsKept" "squireGame" "LPathsKept$Game;") ∈ lw_tbl := ai_in_at 568 (by decide +kernel)
set_option maxRecDepth 100000 in
theorem tw_477 : (Cond.methodLink "PathsKeptLaw" (21 : Nat) ({ cls := "PathsKept", name := "feed", desc := "(IIIII)I" } : Jvm.MethodName)) ∈ lw_tbl := ai_in_at 600 (by decide +kernel)
set_option maxRecDepth 100000 in
theorem tw_478 : (Cond.instanceMethod ({ cls := "PathsKept", name := "feed", desc := "(IIIII)I" } : Jvm.MethodName)) ∈ lw_tbl := ai_in_at 601 (by decide +kernel)
set_option maxRecDepth 100000 in
theorem tw_479 : (Cond.selects "PathsKept" ({ cls := "PathsKept", name := "feed", desc := "(IIIII)I" } : Jvm.MethodName) ({ cls := "PathsKept", name := "feed", desc := "(IIIII)I" } : Jvm.MethodName)) ∈ lw_tbl := ai_in_at 602 (by decide +kernel)
set_option maxRecDepth 100000 in
theorem tw_480 : (Cond.code ({ cls := "PathsKept", name := "feed", desc := "(IIIII)I" } : Jvm.MethodName) prog_1_method_2_code (6 : Nat) (Option.some Jvm.ClassFile.FieldType.int)) ∈ lw_tbl := ai_in_at 603 (by decide +kernel)
set_option maxRecDepth 100000 in
theorem tw_481 : (Cond.methodLink "PathsKept" (72 : Nat) ({ cls := "PathsKept", name := "putFour", desc := "(I)V" } : Jvm.MethodName)) ∈ lw_tbl := ai_in_at 604 (by decide +kernel)
set_option maxRecDepth 100000 in
theorem tw_483 : (Cond.instanceMethod ({ cls := "PathsKept", name := "putFour", desc := "(I)V" } : Jvm.MethodName)) ∈ lw_tbl := ai_in_at 606 (by decide +kernel)
set_option maxRecDepth 100000 in
theorem tw_484 : (Cond.code ({ cls := "PathsKept", name := "putFour", desc := "(I)V" } : Jvm.MethodName) prog_1_method_3_code (3 : Nat) (Option.none : Option Jvm.ClassFile.FieldType)) ∈ lw_tbl := ai_in_at 607 (by decide +kernel)
set_option maxRecDepth 100000 in
theorem tw_485 : (Cond.methodLink "PathsKeptLaw" (26 : Nat) ({ cls := "PathsKept", name := "text", desc := "(I)I" } : Jvm.MethodName)) ∈ lw_tbl := ai_in_at 608 (by decide +kernel)
set_option maxRecDepth 100000 in
theorem tw_486 : (Cond.instanceMethod ({ cls := "PathsKept", name := "text", desc := "(I)I" } : Jvm.MethodName)) ∈ lw_tbl := ai_in_at 609 (by decide +kernel)
set_option maxRecDepth 100000 in
theorem tw_487 : (Cond.selects "PathsKept" ({ cls := "PathsKept", name := "text", desc := "(I)I" } : Jvm.MethodName) ({ cls := "PathsKept", name := "text", desc := "(I)I" } : Jvm.MethodName)) ∈ lw_tbl := ai_in_at 610 (by decide +kernel)
set_option maxRecDepth 100000 in
theorem tw_488 : (Cond.codeWith ({ cls := "PathsKept", name := "text", desc := "(I)I" } : Jvm.MethodName) prog_1_method_4_code (3 : Nat) (Option.some Jvm.ClassFile.FieldType.int) [((20 : Nat), (36 : Nat), (39 : Nat), (80 : Nat))]) ∈ lw_tbl := ai_in_at 611 (by decide +kernel)
set_option maxRecDepth 100000 in
theorem tw_490 : (Cond.methodLink "PathsKept" (76 : Nat) ({ cls := "PathsKept$Reader", name := "readText", desc := "([BILPathsKept$Told;)V" } : Jvm.MethodName)) ∈ lw_tbl := ai_in_at 613 (by decide +kernel)
set_option maxRecDepth 100000 in
theorem tw_491 : (Cond.instanceMethod ({ cls := "PathsKept$Reader", name := "readText", desc := "([BILPathsKept$Told;)V" } : Jvm.MethodName)) ∈ lw_tbl := ai_in_at 614 (by decide +kernel)
set_option maxRecDepth 100000 in
theorem tw_492 : (Cond.selects "PathsKept$Reader" ({ cls := "PathsKept$Reader", name := "readText", desc := "([BILPathsKept$Told;)V" } : Jvm.MethodName) ({ cls := "PathsKept$Reader", name := "readText", desc := "([BILPathsKept$Told;)V" } : Jvm.MethodName)) ∈ lw_tbl := ai_in_at 615 (by decide +kernel)
set_option maxRecDepth 100000 in
theorem tw_493 : (Cond.code ({ cls := "PathsKept$Reader", name := "readText", desc := "([BILPathsKept$Told;)V" } : Jvm.MethodName) prog_5_method_2_code (5 : Nat) (Option.none : Option Jvm.ClassFile.FieldType)) ∈ lw_tbl := ai_in_at 616 (by decide +kernel)
set_option maxRecDepth 100000 in
theorem tw_494 : (Cond.methodLink "PathsKept$Reader" (26 : Nat) ({ cls := "PathsKept$Told", name := "empty", desc := "()V" } : Jvm.MethodName)) ∈ lw_tbl := ai_in_at 617 (by decide +kernel)
set_option maxRecDepth 100000 in
theorem tw_495 : (Cond.instanceMethod ({ cls := "PathsKept$Told", name := "empty", desc := "()V" } : Jvm.MethodName)) ∈ lw_tbl := ai_in_at 618 (by decide +kernel)
set_option maxRecDepth 100000 in
theorem tw_496 : (Cond.selects "PathsKept$Told" ({ cls := "PathsKept$Told", name := "empty", desc := "()V" } : Jvm.MethodName) ({ cls := "PathsKept$Told", name := "empty", desc := "()V" } : Jvm.MethodName)) ∈ lw_tbl := ai_in_at 619 (by decide +kernel)
set_option maxRecDepth 100000 in
theorem tw_497 : (Cond.code ({ cls := "PathsKept$Told", name := "empty", desc := "()V" } : Jvm.MethodName) prog_10_method_2_code (1 : Nat) (Option.none : Option Jvm.ClassFile.FieldType)) ∈ lw_tbl := ai_in_at 620 (by decide +kernel)
set_option maxRecDepth 100000 in
theorem tw_498 : (Cond.methodLink "PathsKept$Told" (46 : Nat) ({ cls := "PathsKept$Laws", name := "empty", desc := "()V" } : Jvm.MethodName)) ∈ lw_tbl := ai_in_at 621 (by decide +kernel)
set_option maxRecDepth 100000 in
theorem tw_499 : (Cond.instanceMethod ({ cls := "PathsKept$Laws", name := "empty", desc := "()V" } : Jvm.MethodName)) ∈ lw_tbl := ai_in_at 622 (by decide +kernel)
set_option maxRecDepth 100000 in
theorem tw_500 : (Cond.selects "PathsKept$Laws" ({ cls := "PathsKept$Laws", name := "empty", desc := "()V" } : Jvm.MethodName) ({ cls := "PathsKept$Laws", name := "empty", desc := "()V" } : Jvm.MethodName)) ∈ lw_tbl := ai_in_at 623 (by decide +kernel)
set_option maxRecDepth 100000 in
theorem tw_501 : (Cond.code ({ cls := "PathsKept$Laws", name := "empty", desc := "()V" } : Jvm.MethodName) prog_4_method_2_code (1 : Nat) (Option.none : Option Jvm.ClassFile.FieldType)) ∈ lw_tbl := ai_in_at 624 (by decide +kernel)
set_option maxRecDepth 100000 in
theorem tw_502 : (Cond.methodLink "PathsKept$Laws" (35 : Nat) ({ cls := "java/util/Arrays", name := "fill", desc := "([II)V" } : Jvm.MethodName)) ∈ lw_tbl := ai_in_at 625 (by decide +kernel)
set_option maxRecDepth 100000 in
theorem tw_503 : (Cond.static ({ cls := "java/util/Arrays", name := "fill", desc := "([II)V" } : Jvm.MethodName)) ∈ lw_tbl := ai_in_at 626 (by decide +kernel)
set_option maxRecDepth 100000 in
theorem tw_504 : (Cond.code ({ cls := "java/util/Arrays", name := "fill", desc := "([II)V" } : Jvm.MethodName) prog_30_method_103_code (4 : Nat) (Option.none : Option Jvm.ClassFile.FieldType)) ∈ lw_tbl := ai_in_at 627 (by decide +kernel)
set_option maxRecDepth 100000 in
theorem tw_505 : (Cond.methodLink "PathsKept$Reader" (37 : Nat) ({ cls := "PathsKept$Tokens", name := "begin", desc := "([BI)V" } : Jvm.MethodName)) ∈ lw_tbl := ai_in_at 628 (by decide +kernel)
set_option maxRecDepth 100000 in
theorem tw_506 : (Cond.instanceMethod ({ cls := "PathsKept$Tokens", name := "begin", desc := "([BI)V" } : Jvm.MethodName)) ∈ lw_tbl := ai_in_at 629 (by decide +kernel)
set_option maxRecDepth 100000 in
theorem tw_507 : (Cond.selects "PathsKept$Tokens" ({ cls := "PathsKept$Tokens", name := "begin", desc := "([BI)V" } : Jvm.MethodName) ({ cls := "PathsKept$Tokens", name := "begin", desc := "([BI)V" } : Jvm.MethodName)) ∈ lw_tbl := ai_in_at 630 (by decide +kernel)
set_option maxRecDepth 100000 in
theorem tw_508 : (Cond.code ({ cls := "PathsKept$Tokens", name := "begin", desc := "([BI)V" } : Jvm.MethodName) prog_9_method_4_code (3 : Nat) (Option.none : Option Jvm.ClassFile.FieldType)) ∈ lw_tbl := ai_in_at 631 (by decide +kernel)
set_option maxRecDepth 100000 in
theorem tw_509 : (Cond.methodLink "PathsKept$Tokens" (33 : Nat) ({ cls := "java/lang/Math", name := "min", desc := "(II)I" } : Jvm.MethodName)) ∈ lw_tbl := ai_in_at 632 (by decide +kernel)
set_option maxRecDepth 100000 in
theorem tw_510 : (Cond.static ({ cls := "java/lang/Math", name := "min", desc := "(II)I" } : Jvm.MethodName)) ∈ lw_tbl := ai_in_at 633 (by decide +kernel)
set_option maxRecDepth 100000 in
theorem tw_511 : (Cond.code ({ cls := "java/lang/Math", name := "min", desc := "(II)I" } : Jvm.MethodName) prog_21_method_69_code (2 : Nat) (Option.some Jvm.ClassFile.FieldType.int)) ∈ lw_tbl := ai_in_at 634 (by decide +kernel)
set_option maxRecDepth 100000 in
theorem tw_512 : (Cond.methodLink "PathsKept$Tokens" (45 : Nat) ({ cls := "PathsKept$Tokens", name := "advance", desc := "()V" } : Jvm.MethodName)) ∈ lw_tbl := ai_in_at 635 (by decide +kernel)
set_option maxRecDepth 100000 in
theorem tw_513 : (Cond.instanceMethod ({ cls := "PathsKept$Tokens", name := "advance", desc := "()V" } : Jvm.MethodName)) ∈ lw_tbl := ai_in_at 636 (by decide +kernel)
set_option maxRecDepth 100000 in
theorem tw_514 : (Cond.selects "PathsKept$Tokens" ({ cls := "PathsKept$Tokens", name := "advance", desc := "()V" } : Jvm.MethodName) ({ cls := "PathsKept$Tokens", name := "advance", desc := "()V" } : Jvm.MethodName)) ∈ lw_tbl := ai_in_at 637 (by decide +kernel)
set_option maxRecDepth 100000 in
theorem tw_515 : (Cond.code ({ cls := "PathsKept$Tokens", name := "advance", desc := "()V" } : Jvm.MethodName) prog_9_method_5_code (1 : Nat) (Option.none : Option Jvm.ClassFile.FieldType)) ∈ lw_tbl := ai_in_at 638 (by decide +kernel)
set_option maxRecDepth 100000 in
theorem tw_516 : (Cond.methodLink "PathsKept$Tokens" (57 : Nat) ({ cls := "PathsKept$Tokens", name := "isBetween", desc := "(CC)Z" } : Jvm.MethodName)) ∈ lw_tbl := ai_in_at 639 (by decide +kernel)
set_option maxRecDepth 100000 in
theorem tw_518 : (Cond.instanceMethod ({ cls := "PathsKept$Tokens", name := "isBetween", desc := "(CC)Z" } : Jvm.MethodName)) ∈ lw_tbl := ai_in_at 641 (by decide +kernel)
set_option maxRecDepth 100000 in
theorem tw_519 : (Cond.code ({ cls := "PathsKept$Tokens", name := "isBetween", desc := "(CC)Z" } : Jvm.MethodName) prog_9_method_6_code (3 : Nat) (Option.some Jvm.ClassFile.FieldType.boolean)) ∈ lw_tbl := ai_in_at 642 (by decide +kernel)
set_option maxRecDepth 100000 in
theorem tw_520 : (Cond.methodLink "PathsKept$Tokens" (61 : Nat) ({ cls := "PathsKept$Tokens", name := "readWord", desc := "()V" } : Jvm.MethodName)) ∈ lw_tbl := ai_in_at 643 (by decide +kernel)
set_option maxRecDepth 100000 in
theorem tw_522 : (Cond.instanceMethod ({ cls := "PathsKept$Tokens", name := "readWord", desc := "()V" } : Jvm.MethodName)) ∈ lw_tbl := ai_in_at 645 (by decide +kernel)
set_option maxRecDepth 100000 in
theorem tw_523 : (Cond.code ({ cls := "PathsKept$Tokens", name := "readWord", desc := "()V" } : Jvm.MethodName) prog_9_method_7_code (3 : Nat) (Option.none : Option Jvm.ClassFile.FieldType)) ∈ lw_tbl := ai_in_at 646 (by decide +kernel)
set_option maxRecDepth 100000 in
theorem tw_524 : (Cond.methodLink "PathsKept$Tokens" (64 : Nat) ({ cls := "PathsKept$Tokens", name := "readDigits", desc := "()V" } : Jvm.MethodName)) ∈ lw_tbl := ai_in_at 647 (by decide +kernel)
set_option maxRecDepth 100000 in
theorem tw_526 : (Cond.instanceMethod ({ cls := "PathsKept$Tokens", name := "readDigits", desc := "()V" } : Jvm.MethodName)) ∈ lw_tbl := ai_in_at 649 (by decide +kernel)
set_option maxRecDepth 100000 in
theorem tw_527 : (Cond.code ({ cls := "PathsKept$Tokens", name := "readDigits", desc := "()V" } : Jvm.MethodName) prog_9_method_8_code (1 : Nat) (Option.none : Option Jvm.ClassFile.FieldType)) ∈ lw_tbl := ai_in_at 650 (by decide +kernel)
set_option maxRecDepth 100000 in
theorem tw_528 : (Cond.constant "PathsKept$Tokens" (70 : Nat) (100000 : Int32)) ∈ lw_tbl := ai_in_at 651 (by decide +kernel)
set_option maxRecDepth 100000 in
theorem tw_529 : (Cond.methodLink "PathsKept$Tokens" (67 : Nat) ({ cls := "PathsKept$Tokens", name := "readSign", desc := "()I" } : Jvm.MethodName)) ∈ lw_tbl := ai_in_at 652 (by decide +kernel)
set_option maxRecDepth 100000 in
theorem tw_531 : (Cond.instanceMethod ({ cls := "PathsKept$Tokens", name := "readSign", desc := "()I" } : Jvm.MethodName)) ∈ lw_tbl := ai_in_at 654 (by decide +kernel)
set_option maxRecDepth 100000 in
theorem tw_532 : (Cond.code ({ cls := "PathsKept$Tokens", name := "readSign", desc := "()I" } : Jvm.MethodName) prog_9_method_9_code (2 : Nat) (Option.some Jvm.ClassFile.FieldType.int)) ∈ lw_tbl := ai_in_at 655 (by decide +kernel)
set_option maxRecDepth 100000 in
theorem tw_533 : (Cond.methodLink "PathsKept$Tokens" (71 : Nat) ({ cls := "PathsKept$Tokens", name := "takes", desc := "(C)Z" } : Jvm.MethodName)) ∈ lw_tbl := ai_in_at 656 (by decide +kernel)
set_option maxRecDepth 100000 in
theorem tw_535 : (Cond.instanceMethod ({ cls := "PathsKept$Tokens", name := "takes", desc := "(C)Z" } : Jvm.MethodName)) ∈ lw_tbl := ai_in_at 658 (by decide +kernel)
set_option maxRecDepth 100000 in
theorem tw_536 : (Cond.code ({ cls := "PathsKept$Tokens", name := "takes", desc := "(C)Z" } : Jvm.MethodName) prog_9_method_10_code (2 : Nat) (Option.some Jvm.ClassFile.FieldType.boolean)) ∈ lw_tbl := ai_in_at 659 (by decide +kernel)
set_option maxRecDepth 100000 in
theorem tw_537 : (Cond.methodLink "PathsKept$Reader" (44 : Nat) ({ cls := "PathsKept$Reader", name := "readLine", desc := "()V" } : Jvm.MethodName)) ∈ lw_tbl := ai_in_at 660 (by decide +kernel)
set_option maxRecDepth 100000 in
theorem tw_539 : (Cond.instanceMethod ({ cls := "PathsKept$Reader", name := "readLine", desc := "()V" } : Jvm.MethodName)) ∈ lw_tbl := ai_in_at 662 (by decide +kernel)
set_option maxRecDepth 100000 in
theorem tw_540 : (Cond.code ({ cls := "PathsKept$Reader", name := "readLine", desc := "()V" } : Jvm.MethodName) prog_5_method_5_code (1 : Nat) (Option.none : Option Jvm.ClassFile.FieldType)) ∈ lw_tbl := ai_in_at 663 (by decide +kernel)
set_option maxRecDepth 100000 in
theorem tw_541 : (Cond.methodLink "PathsKept$Reader" (74 : Nat) ({ cls := "PathsKept$Reader", name := "beginRow", desc := "(LPathsKept$Table;)V" } : Jvm.MethodName)) ∈ lw_tbl := ai_in_at 664 (by decide +kernel)
set_option maxRecDepth 100000 in
theorem tw_543 : (Cond.instanceMethod ({ cls := "PathsKept$Reader", name := "beginRow", desc := "(LPathsKept$Table;)V" } : Jvm.MethodName)) ∈ lw_tbl := ai_in_at 666 (by decide +kernel)
set_option maxRecDepth 100000 in
theorem tw_544 : (Cond.code ({ cls := "PathsKept$Reader", name := "beginRow", desc := "(LPathsKept$Table;)V" } : Jvm.MethodName) prog_5_method_6_code (2 : Nat) (Option.none : Option Jvm.ClassFile.FieldType)) ∈ lw_tbl := ai_in_at 667 (by decide +kernel)
set_option maxRecDepth 100000 in
theorem tw_545 : (Cond.methodLink "PathsKept$Reader" (118 : Nat) ({ cls := "PathsKept$Table", name := "isFull", desc := "()Z" } : Jvm.MethodName)) ∈ lw_tbl := ai_in_at 668 (by decide +kernel)
set_option maxRecDepth 100000 in
theorem tw_546 : (Cond.instanceMethod ({ cls := "PathsKept$Table", name := "isFull", desc := "()Z" } : Jvm.MethodName)) ∈ lw_tbl := ai_in_at 669 (by decide +kernel)
set_option maxRecDepth 100000 in
theorem tw_547 : (Cond.selects "PathsKept$Table" ({ cls := "PathsKept$Table", name := "isFull", desc := "()Z" } : Jvm.MethodName) ({ cls := "PathsKept$Table", name := "isFull", desc := "()Z" } : Jvm.MethodName)) ∈ lw_tbl := ai_in_at 670 (by decide +kernel)
set_option maxRecDepth 100000 in
theorem tw_548 : (Cond.code ({ cls := "PathsKept$Table", name := "isFull", desc := "()Z" } : Jvm.MethodName) prog_8_method_2_code (1 : Nat) (Option.some Jvm.ClassFile.FieldType.boolean)) ∈ lw_tbl := ai_in_at 671 (by decide +kernel)
set_option maxRecDepth 100000 in
theorem tw_549 : (Cond.methodLink "PathsKept$Reader" (64 : Nat) ({ cls := "PathsKept$Reader", name := "fail", desc := "(I)V" } : Jvm.MethodName)) ∈ lw_tbl := ai_in_at 672 (by decide +kernel)
set_option maxRecDepth 100000 in
theorem tw_551 : (Cond.instanceMethod ({ cls := "PathsKept$Reader", name := "fail", desc := "(I)V" } : Jvm.MethodName)) ∈ lw_tbl := ai_in_at 674 (by decide +kernel)
set_option maxRecDepth 100000 in
theorem tw_552 : (Cond.code ({ cls := "PathsKept$Reader", name := "fail", desc := "(I)V" } : Jvm.MethodName) prog_5_method_3_code (2 : Nat) (Option.none : Option Jvm.ClassFile.FieldType)) ∈ lw_tbl := ai_in_at 675 (by decide +kernel)
set_option maxRecDepth 100000 in
theorem tw_620 : (Cond.methodLink "PathsKept$Reader" (67 : Nat) ({ cls := "PathsKept$Tokens", name := "advance", desc := "()V" } : Jvm.MethodName)) ∈ lw_tbl := ai_in_at 743 (by decide +kernel)
set_option maxRecDepth 100000 in
theorem tw_621 : (Cond.methodLink "PathsKept$Reader" (78 : Nat) ({ cls := "PathsKept$Reader", name := "readNewName", desc := "(LPathsKept$Table;)V" } : Jvm.MethodName)) ∈ lw_tbl := ai_in_at 744 (by decide +kernel)
set_option maxRecDepth 100000 in
theorem tw_623 : (Cond.instanceMethod ({ cls := "PathsKept$Reader", name := "readNewName", desc := "(LPathsKept$Table;)V" } : Jvm.MethodName)) ∈ lw_tbl := ai_in_at 746 (by decide +kernel)
set_option maxRecDepth 100000 in
theorem tw_624 : (Cond.code ({ cls := "PathsKept$Reader", name := "readNewName", desc := "(LPathsKept$Table;)V" } : Jvm.MethodName) prog_5_method_12_code (2 : Nat) (Option.none : Option Jvm.ClassFile.FieldType)) ∈ lw_tbl := ai_in_at 747 (by decide +kernel)
set_option maxRecDepth 100000 in
theorem tw_625 : (Cond.methodLink "PathsKept$Reader" (136 : Nat) ({ cls := "PathsKept$Table", name := "find", desc := "(I)I" } : Jvm.MethodName)) ∈ lw_tbl := ai_in_at 748 (by decide +kernel)
set_option maxRecDepth 100000 in
theorem tw_626 : (Cond.instanceMethod ({ cls := "PathsKept$Table", name := "find", desc := "(I)I" } : Jvm.MethodName)) ∈ lw_tbl := ai_in_at 749 (by decide +kernel)
set_option maxRecDepth 100000 in
theorem tw_627 : (Cond.selects "PathsKept$Table" ({ cls := "PathsKept$Table", name := "find", desc := "(I)I" } : Jvm.MethodName) ({ cls := "PathsKept$Table", name := "find", desc := "(I)I" } : Jvm.MethodName)) ∈ lw_tbl := ai_in_at 750 (by decide +kernel)
set_option maxRecDepth 100000 in
theorem tw_628 : (Cond.code ({ cls := "PathsKept$Table", name := "find", desc := "(I)I" } : Jvm.MethodName) prog_8_method_3_code (3 : Nat) (Option.some Jvm.ClassFile.FieldType.int)) ∈ lw_tbl := ai_in_at 751 (by decide +kernel)
set_option maxRecDepth 100000 in
theorem tw_629 : (Cond.methodLink "PathsKept$Reader" (149 : Nat) ({ cls := "PathsKept$Table", name := "putName", desc := "(I)V" } : Jvm.MethodName)) ∈ lw_tbl := ai_in_at 752 (by decide +kernel)
set_option maxRecDepth 100000 in
theorem tw_630 : (Cond.instanceMethod ({ cls := "PathsKept$Table", name := "putName", desc := "(I)V" } : Jvm.MethodName)) ∈ lw_tbl := ai_in_at 753 (by decide +kernel)
set_option maxRecDepth 100000 in
theorem tw_631 : (Cond.selects "PathsKept$Table" ({ cls := "PathsKept$Table", name := "putName", desc := "(I)V" } : Jvm.MethodName) ({ cls := "PathsKept$Table", name := "putName", desc := "(I)V" } : Jvm.MethodName)) ∈ lw_tbl := ai_in_at 754 (by decide +kernel)
set_option maxRecDepth 100000 in
theorem tw_632 : (Cond.code ({ cls := "PathsKept$Table", name := "putName", desc := "(I)V" } : Jvm.MethodName) prog_8_method_6_code (2 : Nat) (Option.none : Option Jvm.ClassFile.FieldType)) ∈ lw_tbl := ai_in_at 755 (by decide +kernel)
set_option maxRecDepth 100000 in
theorem tw_633 : (Cond.methodLink "PathsKept$Table" (28 : Nat) ({ cls := "PathsKept$Table", name := "isFull", desc := "()Z" } : Jvm.MethodName)) ∈ lw_tbl := ai_in_at 756 (by decide +kernel)
set_option maxRecDepth 100000 in
theorem tw_634 : (Cond.methodLink "PathsKept$Reader" (47 : Nat) ({ cls := "PathsKept$Reader", name := "expect", desc := "(I)V" } : Jvm.MethodName)) ∈ lw_tbl := ai_in_at 757 (by decide +kernel)
set_option maxRecDepth 100000 in
theorem tw_636 : (Cond.instanceMethod ({ cls := "PathsKept$Reader", name := "expect", desc := "(I)V" } : Jvm.MethodName)) ∈ lw_tbl := ai_in_at 759 (by decide +kernel)
set_option maxRecDepth 100000 in
theorem tw_637 : (Cond.code ({ cls := "PathsKept$Reader", name := "expect", desc := "(I)V" } : Jvm.MethodName) prog_5_method_4_code (2 : Nat) (Option.none : Option Jvm.ClassFile.FieldType)) ∈ lw_tbl := ai_in_at 760 (by decide +kernel)
set_option maxRecDepth 100000 in
theorem tw_638 : (Cond.methodLink "PathsKept$Reader" (81 : Nat) ({ cls := "PathsKept$Table", name := "endRow", desc := "()V" } : Jvm.MethodName)) ∈ lw_tbl := ai_in_at 761 (by decide +kernel)
set_option maxRecDepth 100000 in
theorem tw_639 : (Cond.instanceMethod ({ cls := "PathsKept$Table", name := "endRow", desc := "()V" } : Jvm.MethodName)) ∈ lw_tbl := ai_in_at 762 (by decide +kernel)
set_option maxRecDepth 100000 in
theorem tw_640 : (Cond.selects "PathsKept$Table" ({ cls := "PathsKept$Table", name := "endRow", desc := "()V" } : Jvm.MethodName) ({ cls := "PathsKept$Table", name := "endRow", desc := "()V" } : Jvm.MethodName)) ∈ lw_tbl := ai_in_at 763 (by decide +kernel)
set_option maxRecDepth 100000 in
theorem tw_641 : (Cond.code ({ cls := "PathsKept$Table", name := "endRow", desc := "()V" } : Jvm.MethodName) prog_8_method_7_code (1 : Nat) (Option.none : Option Jvm.ClassFile.FieldType)) ∈ lw_tbl := ai_in_at 764 (by decide +kernel)
set_option maxRecDepth 100000 in
theorem tw_642 : (Cond.methodLink "PathsKept$Reader" (86 : Nat) ({ cls := "PathsKept$Reader", name := "readPath", desc := "()V" } : Jvm.MethodName)) ∈ lw_tbl := ai_in_at 765 (by decide +kernel)
set_option maxRecDepth 100000 in
theorem tw_644 : (Cond.instanceMethod ({ cls := "PathsKept$Reader", name := "readPath", desc := "()V" } : Jvm.MethodName)) ∈ lw_tbl := ai_in_at 767 (by decide +kernel)
set_option maxRecDepth 100000 in
theorem tw_645 : (Cond.code ({ cls := "PathsKept$Reader", name := "readPath", desc := "()V" } : Jvm.MethodName) prog_5_method_8_code (3 : Nat) (Option.none : Option Jvm.ClassFile.FieldType)) ∈ lw_tbl := ai_in_at 768 (by decide +kernel)
set_option maxRecDepth 100000 in
theorem tw_646 : (Cond.methodLink "PathsKept$Reader" (125 : Nat) ({ cls := "PathsKept$Reader", name := "readTold", desc := "(LPathsKept$Table;)I" } : Jvm.MethodName)) ∈ lw_tbl := ai_in_at 769 (by decide +kernel)
set_option maxRecDepth 100000 in
theorem tw_648 : (Cond.instanceMethod ({ cls := "PathsKept$Reader", name := "readTold", desc := "(LPathsKept$Table;)I" } : Jvm.MethodName)) ∈ lw_tbl := ai_in_at 771 (by decide +kernel)
set_option maxRecDepth 100000 in
theorem tw_649 : (Cond.code ({ cls := "PathsKept$Reader", name := "readTold", desc := "(LPathsKept$Table;)I" } : Jvm.MethodName) prog_5_method_13_code (3 : Nat) (Option.some Jvm.ClassFile.FieldType.int)) ∈ lw_tbl := ai_in_at 772 (by decide +kernel)
set_option maxRecDepth 100000 in
theorem tw_650 : (Cond.methodLink "PathsKept$Reader" (129 : Nat) ({ cls := "PathsKept$Table", name := "put", desc := "(II)V" } : Jvm.MethodName)) ∈ lw_tbl := ai_in_at 773 (by decide +kernel)
set_option maxRecDepth 100000 in
theorem tw_651 : (Cond.instanceMethod ({ cls := "PathsKept$Table", name := "put", desc := "(II)V" } : Jvm.MethodName)) ∈ lw_tbl := ai_in_at 774 (by decide +kernel)
set_option maxRecDepth 100000 in
theorem tw_652 : (Cond.selects "PathsKept$Table" ({ cls := "PathsKept$Table", name := "put", desc := "(II)V" } : Jvm.MethodName) ({ cls := "PathsKept$Table", name := "put", desc := "(II)V" } : Jvm.MethodName)) ∈ lw_tbl := ai_in_at 775 (by decide +kernel)
set_option maxRecDepth 100000 in
theorem tw_653 : (Cond.code ({ cls := "PathsKept$Table", name := "put", desc := "(II)V" } : Jvm.MethodName) prog_8_method_5_code (3 : Nat) (Option.none : Option Jvm.ClassFile.FieldType)) ∈ lw_tbl := ai_in_at 776 (by decide +kernel)
set_option maxRecDepth 100000 in
theorem tw_654 : (Cond.methodLink "PathsKept$Reader" (101 : Nat) ({ cls := "PathsKept$Reader", name := "readNumber", desc := "(II)I" } : Jvm.MethodName)) ∈ lw_tbl := ai_in_at 777 (by decide +kernel)
set_option maxRecDepth 100000 in
theorem tw_656 : (Cond.instanceMethod ({ cls := "PathsKept$Reader", name := "readNumber", desc := "(II)I" } : Jvm.MethodName)) ∈ lw_tbl := ai_in_at 779 (by decide +kernel)
set_option maxRecDepth 100000 in
theorem tw_657 : (Cond.code ({ cls := "PathsKept$Reader", name := "readNumber", desc := "(II)I" } : Jvm.MethodName) prog_5_method_14_code (4 : Nat) (Option.some Jvm.ClassFile.FieldType.int)) ∈ lw_tbl := ai_in_at 780 (by decide +kernel)
set_option maxRecDepth 100000 in
theorem tw_658 : (Cond.methodLinkNest "PathsKept$Reader" (152 : Nat) ({ cls := "PathsKept", name := "isWithin", desc := "(III)Z" } : Jvm.MethodName) "PathsKept") ∈ lw_tbl := ai_in_at 781 (by decide +kernel)
set_option maxRecDepth 100000 in
theorem tw_659 : (Cond.static ({ cls := "PathsKept", name := "isWithin", desc := "(III)Z" } : Jvm.MethodName)) ∈ lw_tbl := ai_in_at 782 (by decide +kernel)
set_option maxRecDepth 100000 in
theorem tw_660 : (Cond.code ({ cls := "PathsKept", name := "isWithin", desc := "(III)Z" } : Jvm.MethodName) prog_1_method_10_code (3 : Nat) (Option.some Jvm.ClassFile.FieldType.boolean)) ∈ lw_tbl := ai_in_at 783 (by decide +kernel)
set_option maxRecDepth 100000 in
theorem tw_661 : (Cond.methodLink "PathsKept$Reader" (89 : Nat) ({ cls := "PathsKept$Reader", name := "readWalker", desc := "()V" } : Jvm.MethodName)) ∈ lw_tbl := ai_in_at 784 (by decide +kernel)
set_option maxRecDepth 100000 in
theorem tw_663 : (Cond.instanceMethod ({ cls := "PathsKept$Reader", name := "readWalker", desc := "()V" } : Jvm.MethodName)) ∈ lw_tbl := ai_in_at 786 (by decide +kernel)
set_option maxRecDepth 100000 in
theorem tw_664 : (Cond.code ({ cls := "PathsKept$Reader", name := "readWalker", desc := "()V" } : Jvm.MethodName) prog_5_method_9_code (2 : Nat) (Option.none : Option Jvm.ClassFile.FieldType)) ∈ lw_tbl := ai_in_at 787 (by decide +kernel)
set_option maxRecDepth 100000 in
theorem tw_665 : (Cond.methodLink "PathsKept$Reader" (92 : Nat) ({ cls := "PathsKept$Reader", name := "readWalk", desc := "()V" } : Jvm.MethodName)) ∈ lw_tbl := ai_in_at 788 (by decide +kernel)
set_option maxRecDepth 100000 in
theorem tw_667 : (Cond.instanceMethod ({ cls := "PathsKept$Reader", name := "readWalk", desc := "()V" } : Jvm.MethodName)) ∈ lw_tbl := ai_in_at 790 (by decide +kernel)
set_option maxRecDepth 100000 in
theorem tw_668 : (Cond.code ({ cls := "PathsKept$Reader", name := "readWalk", desc := "()V" } : Jvm.MethodName) prog_5_method_10_code (2 : Nat) (Option.none : Option Jvm.ClassFile.FieldType)) ∈ lw_tbl := ai_in_at 791 (by decide +kernel)
set_option maxRecDepth 100000 in
theorem tw_669 : (Cond.methodLink "PathsKept$Reader" (95 : Nat) ({ cls := "PathsKept$Reader", name := "readBull", desc := "()V" } : Jvm.MethodName)) ∈ lw_tbl := ai_in_at 792 (by decide +kernel)
set_option maxRecDepth 100000 in
theorem tw_671 : (Cond.instanceMethod ({ cls := "PathsKept$Reader", name := "readBull", desc := "()V" } : Jvm.MethodName)) ∈ lw_tbl := ai_in_at 794 (by decide +kernel)
set_option maxRecDepth 100000 in
theorem tw_672 : (Cond.code ({ cls := "PathsKept$Reader", name := "readBull", desc := "()V" } : Jvm.MethodName) prog_5_method_11_code (2 : Nat) (Option.none : Option Jvm.ClassFile.FieldType)) ∈ lw_tbl := ai_in_at 795 (by decide +kernel)
set_option maxRecDepth 100000 in
theorem tw_673 : (Cond.methodLink "PathsKept$Reader" (98 : Nat) ({ cls := "PathsKept$Reader", name := "beginOnce", desc := "()V" } : Jvm.MethodName)) ∈ lw_tbl := ai_in_at 796 (by decide +kernel)
set_option maxRecDepth 100000 in
theorem tw_675 : (Cond.instanceMethod ({ cls := "PathsKept$Reader", name := "beginOnce", desc := "()V" } : Jvm.MethodName)) ∈ lw_tbl := ai_in_at 798 (by decide +kernel)
set_option maxRecDepth 100000 in
theorem tw_676 : (Cond.code ({ cls := "PathsKept$Reader", name := "beginOnce", desc := "()V" } : Jvm.MethodName) prog_5_method_7_code (2 : Nat) (Option.none : Option Jvm.ClassFile.FieldType)) ∈ lw_tbl := ai_in_at 799 (by decide +kernel)
set_option maxRecDepth 100000 in
theorem tw_677 : (Cond.constant "PathsKept$Reader" (111 : Nat) (99999 : Int32)) ∈ lw_tbl := ai_in_at 800 (by decide +kernel)
set_option maxRecDepth 100000 in
theorem tw_678 : (Cond.methodLink "PathsKept$Reader" (115 : Nat) ({ cls := "PathsKept$Reader", name := "readLaw", desc := "()V" } : Jvm.MethodName)) ∈ lw_tbl := ai_in_at 801 (by decide +kernel)
set_option maxRecDepth 100000 in
theorem tw_680 : (Cond.instanceMethod ({ cls := "PathsKept$Reader", name := "readLaw", desc := "()V" } : Jvm.MethodName)) ∈ lw_tbl := ai_in_at 803 (by decide +kernel)
set_option maxRecDepth 100000 in
theorem tw_681 : (Cond.code ({ cls := "PathsKept$Reader", name := "readLaw", desc := "()V" } : Jvm.MethodName) prog_5_method_15_code (2 : Nat) (Option.none : Option Jvm.ClassFile.FieldType)) ∈ lw_tbl := ai_in_at 804 (by decide +kernel)
set_option maxRecDepth 100000 in
theorem tw_682 : (Cond.methodLink "PathsKept$Reader" (169 : Nat) ({ cls := "PathsKept$Reader", name := "readLevel", desc := "(II)V" } : Jvm.MethodName)) ∈ lw_tbl := ai_in_at 805 (by decide +kernel)
set_option maxRecDepth 100000 in
theorem tw_684 : (Cond.instanceMethod ({ cls := "PathsKept$Reader", name := "readLevel", desc := "(II)V" } : Jvm.MethodName)) ∈ lw_tbl := ai_in_at 807 (by decide +kernel)
set_option maxRecDepth 100000 in
theorem tw_685 : (Cond.code ({ cls := "PathsKept$Reader", name := "readLevel", desc := "(II)V" } : Jvm.MethodName) prog_5_method_16_code (6 : Nat) (Option.none : Option Jvm.ClassFile.FieldType)) ∈ lw_tbl := ai_in_at 808 (by decide +kernel)
set_option maxRecDepth 100000 in
theorem tw_686 : (Cond.methodLink "PathsKept$Reader" (175 : Nat) ({ cls := "PathsKept$Reader", name := "readPart", desc := "(I)V" } : Jvm.MethodName)) ∈ lw_tbl := ai_in_at 809 (by decide +kernel)
set_option maxRecDepth 100000 in
theorem tw_688 : (Cond.instanceMethod ({ cls := "PathsKept$Reader", name := "readPart", desc := "(I)V" } : Jvm.MethodName)) ∈ lw_tbl := ai_in_at 811 (by decide +kernel)
set_option maxRecDepth 100000 in
theorem tw_689 : (Cond.code ({ cls := "PathsKept$Reader", name := "readPart", desc := "(I)V" } : Jvm.MethodName) prog_5_method_18_code (4 : Nat) (Option.none : Option Jvm.ClassFile.FieldType)) ∈ lw_tbl := ai_in_at 812 (by decide +kernel)
set_option maxRecDepth 100000 in
theorem tw_690 : (Cond.methodLink "PathsKept$Reader" (188 : Nat) ({ cls := "PathsKept$Tokens", name := "isName", desc := "(I)Z" } : Jvm.MethodName)) ∈ lw_tbl := ai_in_at 813 (by decide +kernel)
set_option maxRecDepth 100000 in
theorem tw_691 : (Cond.static ({ cls := "PathsKept$Tokens", name := "isName", desc := "(I)Z" } : Jvm.MethodName)) ∈ lw_tbl := ai_in_at 814 (by decide +kernel)
set_option maxRecDepth 100000 in
theorem tw_692 : (Cond.code ({ cls := "PathsKept$Tokens", name := "isName", desc := "(I)Z" } : Jvm.MethodName) prog_9_method_3_code (1 : Nat) (Option.some Jvm.ClassFile.FieldType.boolean)) ∈ lw_tbl := ai_in_at 815 (by decide +kernel)
set_option maxRecDepth 100000 in
theorem tw_693 : (Cond.methodLink "PathsKept$Reader" (184 : Nat) ({ cls := "PathsKept$Reader", name := "takeKnot", desc := "()V" } : Jvm.MethodName)) ∈ lw_tbl := ai_in_at 816 (by decide +kernel)
set_option maxRecDepth 100000 in
theorem tw_695 : (Cond.instanceMethod ({ cls := "PathsKept$Reader", name := "takeKnot", desc := "()V" } : Jvm.MethodName)) ∈ lw_tbl := ai_in_at 818 (by decide +kernel)
set_option maxRecDepth 100000 in
theorem tw_696 : (Cond.code ({ cls := "PathsKept$Reader", name := "takeKnot", desc := "()V" } : Jvm.MethodName) prog_5_method_19_code (1 : Nat) (Option.none : Option Jvm.ClassFile.FieldType)) ∈ lw_tbl := ai_in_at 819 (by decide +kernel)
set_option maxRecDepth 100000 in
theorem tw_697 : (Cond.methodLink "PathsKept$Reader" (187 : Nat) ({ cls := "PathsKept$Laws", name := "put", desc := "(II)V" } : Jvm.MethodName)) ∈ lw_tbl := ai_in_at 820 (by decide +kernel)
set_option maxRecDepth 100000 in
theorem tw_698 : (Cond.instanceMethod ({ cls := "PathsKept$Laws", name := "put", desc := "(II)V" } : Jvm.MethodName)) ∈ lw_tbl := ai_in_at 821 (by decide +kernel)
set_option maxRecDepth 100000 in
theorem tw_699 : (Cond.selects "PathsKept$Laws" ({ cls := "PathsKept$Laws", name := "put", desc := "(II)V" } : Jvm.MethodName) ({ cls := "PathsKept$Laws", name := "put", desc := "(II)V" } : Jvm.MethodName)) ∈ lw_tbl := ai_in_at 822 (by decide +kernel)
set_option maxRecDepth 100000 in
theorem tw_700 : (Cond.code ({ cls := "PathsKept$Laws", name := "put", desc := "(II)V" } : Jvm.MethodName) prog_4_method_3_code (3 : Nat) (Option.none : Option Jvm.ClassFile.FieldType)) ∈ lw_tbl := ai_in_at 823 (by decide +kernel)
set_option maxRecDepth 100000 in
theorem tw_701 : (Cond.methodLink "PathsKept$Reader" (178 : Nat) ({ cls := "PathsKept$Reader", name := "readNots", desc := "(I)V" } : Jvm.MethodName)) ∈ lw_tbl := ai_in_at 824 (by decide +kernel)
set_option maxRecDepth 100000 in
theorem tw_703 : (Cond.instanceMethod ({ cls := "PathsKept$Reader", name := "readNots", desc := "(I)V" } : Jvm.MethodName)) ∈ lw_tbl := ai_in_at 826 (by decide +kernel)
set_option maxRecDepth 100000 in
theorem tw_704 : (Cond.code ({ cls := "PathsKept$Reader", name := "readNots", desc := "(I)V" } : Jvm.MethodName) prog_5_method_17_code (4 : Nat) (Option.none : Option Jvm.ClassFile.FieldType)) ∈ lw_tbl := ai_in_at 827 (by decide +kernel)
set_option maxRecDepth 100000 in
theorem tw_705 : (Cond.methodLink "PathsKept$Reader" (181 : Nat) ({ cls := "PathsKept$Reader", name := "levelOf", desc := "(I)I" } : Jvm.MethodName)) ∈ lw_tbl := ai_in_at 828 (by decide +kernel)
set_option maxRecDepth 100000 in
theorem tw_706 : (Cond.static ({ cls := "PathsKept$Reader", name := "levelOf", desc := "(I)I" } : Jvm.MethodName)) ∈ lw_tbl := ai_in_at 829 (by decide +kernel)
set_option maxRecDepth 100000 in
theorem tw_707 : (Cond.code ({ cls := "PathsKept$Reader", name := "levelOf", desc := "(I)I" } : Jvm.MethodName) prog_5_method_20_code (1 : Nat) (Option.some Jvm.ClassFile.FieldType.int)) ∈ lw_tbl := ai_in_at 830 (by decide +kernel)
set_option maxRecDepth 100000 in
theorem tw_708 : (Cond.methodLink "PathsKept" (82 : Nat) ({ cls := "PathsKept$Standing", name := "begin", desc := "(LPathsKept$Told;)V" } : Jvm.MethodName)) ∈ lw_tbl := ai_in_at 831 (by decide +kernel)
set_option maxRecDepth 100000 in
theorem tw_709 : (Cond.instanceMethod ({ cls := "PathsKept$Standing", name := "begin", desc := "(LPathsKept$Told;)V" } : Jvm.MethodName)) ∈ lw_tbl := ai_in_at 832 (by decide +kernel)
set_option maxRecDepth 100000 in
theorem tw_710 : (Cond.selects "PathsKept$Standing" ({ cls := "PathsKept$Standing", name := "begin", desc := "(LPathsKept$Told;)V" } : Jvm.MethodName) ({ cls := "PathsKept$Standing", name := "begin", desc := "(LPathsKept$Told;)V" } : Jvm.MethodName)) ∈ lw_tbl := ai_in_at 833 (by decide +kernel)
set_option maxRecDepth 100000 in
theorem tw_711 : (Cond.code ({ cls := "PathsKept$Standing", name := "begin", desc := "(LPathsKept$Told;)V" } : Jvm.MethodName) prog_7_method_2_code (3 : Nat) (Option.none : Option Jvm.ClassFile.FieldType)) ∈ lw_tbl := ai_in_at 834 (by decide +kernel)
set_option maxRecDepth 100000 in
theorem tw_712 : (Cond.methodLink "PathsKept$Standing" (54 : Nat) ({ cls := "PathsKept$Table", name := "cell", desc := "(II)I" } : Jvm.MethodName)) ∈ lw_tbl := ai_in_at 835 (by decide +kernel)
set_option maxRecDepth 100000 in
theorem tw_713 : (Cond.instanceMethod ({ cls := "PathsKept$Table", name := "cell", desc := "(II)I" } : Jvm.MethodName)) ∈ lw_tbl := ai_in_at 836 (by decide +kernel)
set_option maxRecDepth 100000 in
theorem tw_714 : (Cond.selects "PathsKept$Table" ({ cls := "PathsKept$Table", name := "cell", desc := "(II)I" } : Jvm.MethodName) ({ cls := "PathsKept$Table", name := "cell", desc := "(II)I" } : Jvm.MethodName)) ∈ lw_tbl := ai_in_at 837 (by decide +kernel)
set_option maxRecDepth 100000 in
theorem tw_715 : (Cond.code ({ cls := "PathsKept$Table", name := "cell", desc := "(II)I" } : Jvm.MethodName) prog_8_method_4_code (3 : Nat) (Option.some Jvm.ClassFile.FieldType.int)) ∈ lw_tbl := ai_in_at 838 (by decide +kernel)
set_option maxRecDepth 100000 in
theorem tw_716 : (Cond.methodLink "PathsKept" (86 : Nat) ({ cls := "PathsKept$Seen", name := "empty", desc := "()V" } : Jvm.MethodName)) ∈ lw_tbl := ai_in_at 839 (by decide +kernel)
set_option maxRecDepth 100000 in
theorem tw_717 : (Cond.instanceMethod ({ cls := "PathsKept$Seen", name := "empty", desc := "()V" } : Jvm.MethodName)) ∈ lw_tbl := ai_in_at 840 (by decide +kernel)
set_option maxRecDepth 100000 in
theorem tw_718 : (Cond.selects "PathsKept$Seen" ({ cls := "PathsKept$Seen", name := "empty", desc := "()V" } : Jvm.MethodName) ({ cls := "PathsKept$Seen", name := "empty", desc := "()V" } : Jvm.MethodName)) ∈ lw_tbl := ai_in_at 841 (by decide +kernel)
set_option maxRecDepth 100000 in
theorem tw_719 : (Cond.code ({ cls := "PathsKept$Seen", name := "empty", desc := "()V" } : Jvm.MethodName) prog_6_method_2_code (1 : Nat) (Option.none : Option Jvm.ClassFile.FieldType)) ∈ lw_tbl := ai_in_at 842 (by decide +kernel)
set_option maxRecDepth 100000 in
theorem tw_720 : (Cond.methodLink "PathsKeptLaw" (31 : Nat) ({ cls := "PathsKept", name := "fault", desc := "(I)I" } : Jvm.MethodName)) ∈ lw_tbl := ai_in_at 843 (by decide +kernel)
set_option maxRecDepth 100000 in
theorem tw_721 : (Cond.instanceMethod ({ cls := "PathsKept", name := "fault", desc := "(I)I" } : Jvm.MethodName)) ∈ lw_tbl := ai_in_at 844 (by decide +kernel)
set_option maxRecDepth 100000 in
theorem tw_722 : (Cond.selects "PathsKept" ({ cls := "PathsKept", name := "fault", desc := "(I)I" } : Jvm.MethodName) ({ cls := "PathsKept", name := "fault", desc := "(I)I" } : Jvm.MethodName)) ∈ lw_tbl := ai_in_at 845 (by decide +kernel)
set_option maxRecDepth 100000 in
theorem tw_723 : (Cond.code ({ cls := "PathsKept", name := "fault", desc := "(I)I" } : Jvm.MethodName) prog_1_method_5_code (2 : Nat) (Option.some Jvm.ClassFile.FieldType.int)) ∈ lw_tbl := ai_in_at 846 (by decide +kernel)
set_option maxRecDepth 100000 in
theorem tw_724 : (Cond.methodLink "PathsKeptLaw" (35 : Nat) ({ cls := "PathsKept", name := "named", desc := "(II)I" } : Jvm.MethodName)) ∈ lw_tbl := ai_in_at 847 (by decide +kernel)
set_option maxRecDepth 100000 in
theorem tw_725 : (Cond.instanceMethod ({ cls := "PathsKept", name := "named", desc := "(II)I" } : Jvm.MethodName)) ∈ lw_tbl := ai_in_at 848 (by decide +kernel)
set_option maxRecDepth 100000 in
theorem tw_726 : (Cond.selects "PathsKept" ({ cls := "PathsKept", name := "named", desc := "(II)I" } : Jvm.MethodName) ({ cls := "PathsKept", name := "named", desc := "(II)I" } : Jvm.MethodName)) ∈ lw_tbl := ai_in_at 849 (by decide +kernel)
set_option maxRecDepth 100000 in
theorem tw_727 : (Cond.code ({ cls := "PathsKept", name := "named", desc := "(II)I" } : Jvm.MethodName) prog_1_method_6_code (3 : Nat) (Option.some Jvm.ClassFile.FieldType.int)) ∈ lw_tbl := ai_in_at 850 (by decide +kernel)
set_option maxRecDepth 100000 in
theorem tw_728 : (Cond.methodLink "PathsKept" (109 : Nat) ({ cls := "PathsKept$Table", name := "find", desc := "(I)I" } : Jvm.MethodName)) ∈ lw_tbl := ai_in_at 851 (by decide +kernel)
