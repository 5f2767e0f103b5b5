/-! ===== the words that the operations use, by their places in the table ===== -/
set_option maxRecDepth 100000 in
theorem tw_962 : (Cond.instanceMethod ({ cls := "PathsKept$Ways", name := "goOn", desc := "(LPathsKept$Told;IIII)V" } : Jvm.MethodName)) ∈ lw_tbl := ai_in_at 1085 (by decide +kernel)
set_option maxRecDepth 100000 in
theorem tw_968 : (Cond.methodLink "PathsKept$Ways" (101 : Nat) ({ cls := "java/lang/Math", name := "min", desc := "(II)I" } : Jvm.MethodName)) ∈ lw_tbl := ai_in_at 1091 (by decide +kernel)
set_option maxRecDepth 100000 in
theorem tw_967 : (Cond.code ({ cls := "PathsKept$Ways", name := "lessen", desc := "(IIII)Z" } : Jvm.MethodName) prog_11_method_14_code (6 : Nat) (Option.some Jvm.ClassFile.FieldType.boolean)) ∈ lw_tbl := ai_in_at 1090 (by decide +kernel)
set_option maxRecDepth 100000 in
theorem tw_964 : (Cond.methodLink "PathsKept$Ways" (106 : Nat) ({ cls := "PathsKept$Ways", name := "lessen", desc := "(IIII)Z" } : Jvm.MethodName)) ∈ lw_tbl := ai_in_at 1087 (by decide +kernel)
set_option maxRecDepth 100000 in
theorem tw_966 : (Cond.instanceMethod ({ cls := "PathsKept$Ways", name := "lessen", desc := "(IIII)Z" } : Jvm.MethodName)) ∈ lw_tbl := ai_in_at 1089 (by decide +kernel)
set_option maxRecDepth 100000 in
theorem tw_299 : (Cond.fieldLinkNest "PathsKept$Ways" (110 : Nat) "PathsKept$Standing" "age" "[I" "PathsKept") ∈ lw_tbl := ai_in_at 422 (by decide +kernel)
set_option maxRecDepth 100000 in
theorem tw_1005 : (Cond.methodLink "PathsKept$Ways" (113 : Nat) ({ cls := "java/lang/System", name := "arraycopy", desc := "(Ljava/lang/Object;ILjava/lang/Object;II)V" } : Jvm.MethodName)) ∈ lw_tbl := ai_in_at 1128 (by decide +kernel)
set_option maxRecDepth 100000 in
theorem tw_414 : (Cond.fieldLink "PathsKept$Ways" (119 : Nat) "PathsKept$Ways" "bestSum" "I") ∈ lw_tbl := ai_in_at 537 (by decide +kernel)
set_option maxRecDepth 100000 in
theorem tw_1009 : (Cond.code ({ cls := "PathsKept$Ways", name := "matchFrom", desc := "(IIII)V" } : Jvm.MethodName) prog_11_method_16_code (7 : Nat) (Option.none : Option Jvm.ClassFile.FieldType)) ∈ lw_tbl := ai_in_at 1132 (by decide +kernel)
set_option maxRecDepth 100000 in
theorem tw_1006 : (Cond.methodLink "PathsKept$Ways" (122 : Nat) ({ cls := "PathsKept$Ways", name := "matchFrom", desc := "(IIII)V" } : Jvm.MethodName)) ∈ lw_tbl := ai_in_at 1129 (by decide +kernel)
set_option maxRecDepth 100000 in
theorem tw_1008 : (Cond.instanceMethod ({ cls := "PathsKept$Ways", name := "matchFrom", desc := "(IIII)V" } : Jvm.MethodName)) ∈ lw_tbl := ai_in_at 1131 (by decide +kernel)
set_option maxRecDepth 100000 in
theorem tw_32 : (Cond.methodLink "PathsKept" (1 : Nat) ({ cls := "java/lang/Object", name := "<init>", desc := "()V" } : Jvm.MethodName)) ∈ lw_tbl := ai_in_at 155 (by decide +kernel)
set_option maxRecDepth 100000 in
theorem tw_124 : (Cond.arrayClass Jvm.ClassFile.FieldType.byte) ∈ lw_tbl := ai_in_at 247 (by decide +kernel)
set_option maxRecDepth 100000 in
theorem tw_431 : (Cond.fieldLink "PathsKept" (9 : Nat) "PathsKept" "tape" "[B") ∈ lw_tbl := ai_in_at 554 (by decide +kernel)
set_option maxRecDepth 100000 in
theorem tw_35 : (Cond.classLink "PathsKept" (13 : Nat) "PathsKept$Reader") ∈ lw_tbl := ai_in_at 158 (by decide +kernel)
set_option maxRecDepth 100000 in
theorem tw_36 : (Cond.instantiable "PathsKept$Reader" (5 : Nat)) ∈ lw_tbl := ai_in_at 159 (by decide +kernel)
set_option maxRecDepth 100000 in
theorem tw_39 : (Cond.code ({ cls := "PathsKept$Reader", name := "<init>", desc := "()V" } : Jvm.MethodName) prog_5_method_1_code (1 : Nat) (Option.none : Option Jvm.ClassFile.FieldType)) ∈ lw_tbl := ai_in_at 162 (by decide +kernel)
set_option maxRecDepth 100000 in
theorem tw_37 : (Cond.methodLinkNest "PathsKept" (15 : Nat) ({ cls := "PathsKept$Reader", name := "<init>", desc := "()V" } : Jvm.MethodName) "PathsKept") ∈ lw_tbl := ai_in_at 160 (by decide +kernel)
set_option maxRecDepth 100000 in
theorem tw_38 : (Cond.instanceMethod ({ cls := "PathsKept$Reader", name := "<init>", desc := "()V" } : Jvm.MethodName)) ∈ lw_tbl := ai_in_at 161 (by decide +kernel)
set_option maxRecDepth 100000 in
theorem tw_433 : (Cond.fieldLink "PathsKept" (16 : Nat) "PathsKept" "reader" "LPathsKept$Reader;") ∈ lw_tbl := ai_in_at 556 (by decide +kernel)
set_option maxRecDepth 100000 in
theorem tw_144 : (Cond.classLink "PathsKept" (20 : Nat) "PathsKept$Told") ∈ lw_tbl := ai_in_at 267 (by decide +kernel)
set_option maxRecDepth 100000 in
theorem tw_145 : (Cond.instantiable "PathsKept$Told" (10 : Nat)) ∈ lw_tbl := ai_in_at 268 (by decide +kernel)
set_option maxRecDepth 100000 in
theorem tw_148 : (Cond.code ({ cls := "PathsKept$Told", name := "<init>", desc := "()V" } : Jvm.MethodName) prog_10_method_1_code (1 : Nat) (Option.none : Option Jvm.ClassFile.FieldType)) ∈ lw_tbl := ai_in_at 271 (by decide +kernel)
set_option maxRecDepth 100000 in
theorem tw_146 : (Cond.methodLinkNest "PathsKept" (22 : Nat) ({ cls := "PathsKept$Told", name := "<init>", desc := "()V" } : Jvm.MethodName) "PathsKept") ∈ lw_tbl := ai_in_at 269 (by decide +kernel)
set_option maxRecDepth 100000 in
theorem tw_147 : (Cond.instanceMethod ({ cls := "PathsKept$Told", name := "<init>", desc := "()V" } : Jvm.MethodName)) ∈ lw_tbl := ai_in_at 270 (by decide +kernel)
set_option maxRecDepth 100000 in
theorem tw_434 : (Cond.fieldLink "PathsKept" (23 : Nat) "PathsKept" "told" "LPathsKept$Told;") ∈ lw_tbl := ai_in_at 557 (by decide +kernel)
set_option maxRecDepth 100000 in
theorem tw_435 : (Cond.fieldLink "PathsKept" (27 : Nat) "PathsKept" "draft" "LPathsKept$Told;") ∈ lw_tbl := ai_in_at 558 (by decide +kernel)
set_option maxRecDepth 100000 in
theorem tw_275 : (Cond.classLink "PathsKept" (30 : Nat) "PathsKept$Standing") ∈ lw_tbl := ai_in_at 398 (by decide +kernel)
set_option maxRecDepth 100000 in
theorem tw_276 : (Cond.instantiable "PathsKept$Standing" (9 : Nat)) ∈ lw_tbl := ai_in_at 399 (by decide +kernel)
set_option maxRecDepth 100000 in
theorem tw_279 : (Cond.code ({ cls := "PathsKept$Standing", name := "<init>", desc := "()V" } : Jvm.MethodName) prog_7_method_1_code (1 : Nat) (Option.none : Option Jvm.ClassFile.FieldType)) ∈ lw_tbl := ai_in_at 402 (by decide +kernel)
set_option maxRecDepth 100000 in
theorem tw_277 : (Cond.methodLinkNest "PathsKept" (32 : Nat) ({ cls := "PathsKept$Standing", name := "<init>", desc := "()V" } : Jvm.MethodName) "PathsKept") ∈ lw_tbl := ai_in_at 400 (by decide +kernel)
set_option maxRecDepth 100000 in
theorem tw_278 : (Cond.instanceMethod ({ cls := "PathsKept$Standing", name := "<init>", desc := "()V" } : Jvm.MethodName)) ∈ lw_tbl := ai_in_at 401 (by decide +kernel)
set_option maxRecDepth 100000 in
theorem tw_436 : (Cond.fieldLink "PathsKept" (33 : Nat) "PathsKept" "now" "LPathsKept$Standing;") ∈ lw_tbl := ai_in_at 559 (by decide +kernel)
set_option maxRecDepth 100000 in
theorem tw_437 : (Cond.fieldLink "PathsKept" (37 : Nat) "PathsKept" "scratch" "LPathsKept$Standing;") ∈ lw_tbl := ai_in_at 560 (by decide +kernel)
set_option maxRecDepth 100000 in
theorem tw_438 : (Cond.fieldLink "PathsKept" (40 : Nat) "PathsKept" "image" "LPathsKept$Standing;") ∈ lw_tbl := ai_in_at 561 (by decide +kernel)
set_option maxRecDepth 100000 in
theorem tw_440 : (Cond.fieldLink "PathsKept" (43 : Nat) "PathsKept" "past" "[LPathsKept$Standing;") ∈ lw_tbl := ai_in_at 563 (by decide +kernel)
set_option maxRecDepth 100000 in
theorem tw_330 : (Cond.classLink "PathsKept" (47 : Nat) "PathsKept$Days") ∈ lw_tbl := ai_in_at 453 (by decide +kernel)
set_option maxRecDepth 100000 in
theorem tw_331 : (Cond.instantiable "PathsKept$Days" (8 : Nat)) ∈ lw_tbl := ai_in_at 454 (by decide +kernel)
set_option maxRecDepth 100000 in
theorem tw_334 : (Cond.code ({ cls := "PathsKept$Days", name := "<init>", desc := "()V" } : Jvm.MethodName) prog_2_method_1_code (1 : Nat) (Option.none : Option Jvm.ClassFile.FieldType)) ∈ lw_tbl := ai_in_at 457 (by decide +kernel)
set_option maxRecDepth 100000 in
theorem tw_332 : (Cond.methodLinkNest "PathsKept" (49 : Nat) ({ cls := "PathsKept$Days", name := "<init>", desc := "()V" } : Jvm.MethodName) "PathsKept") ∈ lw_tbl := ai_in_at 455 (by decide +kernel)
set_option maxRecDepth 100000 in
theorem tw_333 : (Cond.instanceMethod ({ cls := "PathsKept$Days", name := "<init>", desc := "()V" } : Jvm.MethodName)) ∈ lw_tbl := ai_in_at 456 (by decide +kernel)
set_option maxRecDepth 100000 in
theorem tw_442 : (Cond.fieldLink "PathsKept" (50 : Nat) "PathsKept" "days" "LPathsKept$Days;") ∈ lw_tbl := ai_in_at 565 (by decide +kernel)
set_option maxRecDepth 100000 in
theorem tw_362 : (Cond.classLink "PathsKept" (54 : Nat) "PathsKept$Seen") ∈ lw_tbl := ai_in_at 485 (by decide +kernel)
set_option maxRecDepth 100000 in
theorem tw_363 : (Cond.instantiable "PathsKept$Seen" (9 : Nat)) ∈ lw_tbl := ai_in_at 486 (by decide +kernel)
set_option maxRecDepth 100000 in
theorem tw_366 : (Cond.code ({ cls := "PathsKept$Seen", name := "<init>", desc := "()V" } : Jvm.MethodName) prog_6_method_1_code (1 : Nat) (Option.none : Option Jvm.ClassFile.FieldType)) ∈ lw_tbl := ai_in_at 489 (by decide +kernel)
set_option maxRecDepth 100000 in
theorem tw_364 : (Cond.methodLinkNest "PathsKept" (56 : Nat) ({ cls := "PathsKept$Seen", name := "<init>", desc := "()V" } : Jvm.MethodName) "PathsKept") ∈ lw_tbl := ai_in_at 487 (by decide +kernel)
set_option maxRecDepth 100000 in
theorem tw_365 : (Cond.instanceMethod ({ cls := "PathsKept$Seen", name := "<init>", desc := "()V" } : Jvm.MethodName)) ∈ lw_tbl := ai_in_at 488 (by decide +kernel)
set_option maxRecDepth 100000 in
theorem tw_443 : (Cond.fieldLink "PathsKept" (57 : Nat) "PathsKept" "seen" "LPathsKept$Seen;") ∈ lw_tbl := ai_in_at 566 (by decide +kernel)
set_option maxRecDepth 100000 in
theorem tw_401 : (Cond.classLink "PathsKept" (61 : Nat) "PathsKept$Ways") ∈ lw_tbl := ai_in_at 524 (by decide +kernel)
set_option maxRecDepth 100000 in
theorem tw_402 : (Cond.instantiable "PathsKept$Ways" (7 : Nat)) ∈ lw_tbl := ai_in_at 525 (by decide +kernel)
set_option maxRecDepth 100000 in
theorem tw_405 : (Cond.code ({ cls := "PathsKept$Ways", name := "<init>", desc := "()V" } : Jvm.MethodName) prog_11_method_1_code (1 : Nat) (Option.none : Option Jvm.ClassFile.FieldType)) ∈ lw_tbl := ai_in_at 528 (by decide +kernel)
set_option maxRecDepth 100000 in
theorem tw_403 : (Cond.methodLinkNest "PathsKept" (63 : Nat) ({ cls := "PathsKept$Ways", name := "<init>", desc := "()V" } : Jvm.MethodName) "PathsKept") ∈ lw_tbl := ai_in_at 526 (by decide +kernel)
set_option maxRecDepth 100000 in
theorem tw_404 : (Cond.instanceMethod ({ cls := "PathsKept$Ways", name := "<init>", desc := "()V" } : Jvm.MethodName)) ∈ lw_tbl := ai_in_at 527 (by decide +kernel)
set_option maxRecDepth 100000 in
theorem tw_444 : (Cond.fieldLink "PathsKept" (64 : Nat) "PathsKept" "ways" "LPathsKept$Ways;") ∈ lw_tbl := ai_in_at 567 (by decide +kernel)
set_option maxRecDepth 100000 in
theorem tw_432 : (Cond.fieldLink "PathsKept" (68 : Nat) "PathsKept" "tapeSize" "I") ∈ lw_tbl := ai_in_at 555 (by decide +kernel)
set_option maxRecDepth 100000 in
theorem tw_484 : (Cond.code ({ cls := "PathsKept", name := "putFour", desc := "(I)V" } : Jvm.MethodName) prog_1_method_3_code (3 : Nat) (Option.none : Option Jvm.ClassFile.FieldType)) ∈ lw_tbl := ai_in_at 607 (by decide +kernel)
set_option maxRecDepth 100000 in
theorem tw_481 : (Cond.methodLink "PathsKept" (72 : Nat) ({ cls := "PathsKept", name := "putFour", desc := "(I)V" } : Jvm.MethodName)) ∈ lw_tbl := ai_in_at 604 (by decide +kernel)
set_option maxRecDepth 100000 in
theorem tw_483 : (Cond.instanceMethod ({ cls := "PathsKept", name := "putFour", desc := "(I)V" } : Jvm.MethodName)) ∈ lw_tbl := ai_in_at 606 (by decide +kernel)
set_option maxRecDepth 100000 in
theorem tw_493 : (Cond.code ({ cls := "PathsKept$Reader", name := "readText", desc := "([BILPathsKept$Told;)V" } : Jvm.MethodName) prog_5_method_2_code (5 : Nat) (Option.none : Option Jvm.ClassFile.FieldType)) ∈ lw_tbl := ai_in_at 616 (by decide +kernel)
set_option maxRecDepth 100000 in
theorem tw_490 : (Cond.methodLink "PathsKept" (76 : Nat) ({ cls := "PathsKept$Reader", name := "readText", desc := "([BILPathsKept$Told;)V" } : Jvm.MethodName)) ∈ lw_tbl := ai_in_at 613 (by decide +kernel)
set_option maxRecDepth 100000 in
theorem tw_492 : (Cond.selects "PathsKept$Reader" ({ cls := "PathsKept$Reader", name := "readText", desc := "([BILPathsKept$Told;)V" } : Jvm.MethodName) ({ cls := "PathsKept$Reader", name := "readText", desc := "([BILPathsKept$Told;)V" } : Jvm.MethodName)) ∈ lw_tbl := ai_in_at 615 (by decide +kernel)
set_option maxRecDepth 100000 in
theorem tw_491 : (Cond.instanceMethod ({ cls := "PathsKept$Reader", name := "readText", desc := "([BILPathsKept$Told;)V" } : Jvm.MethodName)) ∈ lw_tbl := ai_in_at 614 (by decide +kernel)
set_option maxRecDepth 100000 in
theorem tw_711 : (Cond.code ({ cls := "PathsKept$Standing", name := "begin", desc := "(LPathsKept$Told;)V" } : Jvm.MethodName) prog_7_method_2_code (3 : Nat) (Option.none : Option Jvm.ClassFile.FieldType)) ∈ lw_tbl := ai_in_at 834 (by decide +kernel)
set_option maxRecDepth 100000 in
theorem tw_708 : (Cond.methodLink "PathsKept" (82 : Nat) ({ cls := "PathsKept$Standing", name := "begin", desc := "(LPathsKept$Told;)V" } : Jvm.MethodName)) ∈ lw_tbl := ai_in_at 831 (by decide +kernel)
set_option maxRecDepth 100000 in
theorem tw_710 : (Cond.selects "PathsKept$Standing" ({ cls := "PathsKept$Standing", name := "begin", desc := "(LPathsKept$Told;)V" } : Jvm.MethodName) ({ cls := "PathsKept$Standing", name := "begin", desc := "(LPathsKept$Told;)V" } : Jvm.MethodName)) ∈ lw_tbl := ai_in_at 833 (by decide +kernel)
set_option maxRecDepth 100000 in
theorem tw_709 : (Cond.instanceMethod ({ cls := "PathsKept$Standing", name := "begin", desc := "(LPathsKept$Told;)V" } : Jvm.MethodName)) ∈ lw_tbl := ai_in_at 832 (by decide +kernel)
set_option maxRecDepth 100000 in
theorem tw_719 : (Cond.code ({ cls := "PathsKept$Seen", name := "empty", desc := "()V" } : Jvm.MethodName) prog_6_method_2_code (1 : Nat) (Option.none : Option Jvm.ClassFile.FieldType)) ∈ lw_tbl := ai_in_at 842 (by decide +kernel)
set_option maxRecDepth 100000 in
theorem tw_716 : (Cond.methodLink "PathsKept" (86 : Nat) ({ cls := "PathsKept$Seen", name := "empty", desc := "()V" } : Jvm.MethodName)) ∈ lw_tbl := ai_in_at 839 (by decide +kernel)
set_option maxRecDepth 100000 in
theorem tw_718 : (Cond.selects "PathsKept$Seen" ({ cls := "PathsKept$Seen", name := "empty", desc := "()V" } : Jvm.MethodName) ({ cls := "PathsKept$Seen", name := "empty", desc := "()V" } : Jvm.MethodName)) ∈ lw_tbl := ai_in_at 841 (by decide +kernel)
set_option maxRecDepth 100000 in
theorem tw_717 : (Cond.instanceMethod ({ cls := "PathsKept$Seen", name := "empty", desc := "()V" } : Jvm.MethodName)) ∈ lw_tbl := ai_in_at 840 (by decide +kernel)
set_option maxRecDepth 100000 in
theorem tw_439 : (Cond.fieldLink "PathsKept" (89 : Nat) "PathsKept" "imaged" "Z") ∈ lw_tbl := ai_in_at 562 (by decide +kernel)
set_option maxRecDepth 100000 in
theorem tw_441 : (Cond.fieldLink "PathsKept" (93 : Nat) "PathsKept" "pastSize" "I") ∈ lw_tbl := ai_in_at 564 (by decide +kernel)
set_option maxRecDepth 100000 in
theorem tw_253 : (Cond.fieldLinkNest "PathsKept" (96 : Nat) "PathsKept$Told" "lines" "I" "PathsKept") ∈ lw_tbl := ai_in_at 376 (by decide +kernel)
set_option maxRecDepth 100000 in
theorem tw_130 : (Cond.fieldLinkNest "PathsKept" (99 : Nat) "PathsKept$Reader" "fault" "I" "PathsKept") ∈ lw_tbl := ai_in_at 253 (by decide +kernel)
set_option maxRecDepth 100000 in
theorem tw_132 : (Cond.fieldLinkNest "PathsKept" (102 : Nat) "PathsKept$Reader" "faultPlace" "I" "PathsKept") ∈ lw_tbl := ai_in_at 255 (by decide +kernel)
set_option maxRecDepth 100000 in
theorem tw_218 : (Cond.fieldLinkNest "PathsKept" (105 : Nat) "PathsKept$Told" "places" "LPathsKept$Table;" "PathsKept") ∈ lw_tbl := ai_in_at 341 (by decide +kernel)
set_option maxRecDepth 100000 in
theorem tw_728 : (Cond.methodLink "PathsKept" (109 : Nat) ({ cls := "PathsKept$Table", name := "find", desc := "(I)I" } : Jvm.MethodName)) ∈ lw_tbl := ai_in_at 851 (by decide +kernel)
set_option maxRecDepth 100000 in
theorem tw_223 : (Cond.fieldLinkNest "PathsKept" (115 : Nat) "PathsKept$Told" "paths" "LPathsKept$Table;" "PathsKept") ∈ lw_tbl := ai_in_at 346 (by decide +kernel)
set_option maxRecDepth 100000 in
theorem tw_229 : (Cond.fieldLinkNest "PathsKept" (118 : Nat) "PathsKept$Told" "walkers" "LPathsKept$Table;" "PathsKept") ∈ lw_tbl := ai_in_at 352 (by decide +kernel)
set_option maxRecDepth 100000 in
theorem tw_165 : (Cond.fieldLinkNest "PathsKept" (121 : Nat) "PathsKept$Table" "size" "I" "PathsKept") ∈ lw_tbl := ai_in_at 288 (by decide +kernel)
set_option maxRecDepth 100000 in
theorem tw_802 : (Cond.code ({ cls := "PathsKept", name := "isPath", desc := "(I)Z" } : Jvm.MethodName) prog_1_method_8_code (2 : Nat) (Option.some Jvm.ClassFile.FieldType.boolean)) ∈ lw_tbl := ai_in_at 925 (by decide +kernel)
set_option maxRecDepth 100000 in
theorem tw_799 : (Cond.methodLink "PathsKept" (124 : Nat) ({ cls := "PathsKept", name := "isPath", desc := "(I)Z" } : Jvm.MethodName)) ∈ lw_tbl := ai_in_at 922 (by decide +kernel)
set_option maxRecDepth 100000 in
theorem tw_801 : (Cond.instanceMethod ({ cls := "PathsKept", name := "isPath", desc := "(I)Z" } : Jvm.MethodName)) ∈ lw_tbl := ai_in_at 924 (by decide +kernel)
set_option maxRecDepth 100000 in
theorem tw_737 : (Cond.methodLink "PathsKept" (135 : Nat) ({ cls := "PathsKept$Table", name := "cell", desc := "(II)I" } : Jvm.MethodName)) ∈ lw_tbl := ai_in_at 860 (by decide +kernel)
set_option maxRecDepth 100000 in
theorem tw_298 : (Cond.fieldLinkNest "PathsKept" (139 : Nat) "PathsKept$Standing" "age" "[I" "PathsKept") ∈ lw_tbl := ai_in_at 421 (by decide +kernel)
set_option maxRecDepth 100000 in
theorem tw_851 : (Cond.methodLink "PathsKept" (143 : Nat) ({ cls := "PathsKept$Standing", name := "isKept", desc := "(I)Z" } : Jvm.MethodName)) ∈ lw_tbl := ai_in_at 974 (by decide +kernel)
set_option maxRecDepth 100000 in
theorem tw_302 : (Cond.fieldLinkNest "PathsKept" (146 : Nat) "PathsKept$Standing" "gone" "[I" "PathsKept") ∈ lw_tbl := ai_in_at 425 (by decide +kernel)
set_option maxRecDepth 100000 in
theorem tw_283 : (Cond.fieldLinkNest "PathsKept" (149 : Nat) "PathsKept$Standing" "day" "I" "PathsKept") ∈ lw_tbl := ai_in_at 406 (by decide +kernel)
set_option maxRecDepth 100000 in
theorem tw_1158 : (Cond.methodLink "PathsKept" (152 : Nat) ({ cls := "PathsKept$Told", name := "isBullOn", desc := "(II)Z" } : Jvm.MethodName)) ∈ lw_tbl := ai_in_at 1281 (by decide +kernel)
set_option maxRecDepth 100000 in
theorem tw_736 : (Cond.code ({ cls := "PathsKept", name := "isWalker", desc := "(I)Z" } : Jvm.MethodName) prog_1_method_9_code (2 : Nat) (Option.some Jvm.ClassFile.FieldType.boolean)) ∈ lw_tbl := ai_in_at 859 (by decide +kernel)
set_option maxRecDepth 100000 in
theorem tw_733 : (Cond.methodLink "PathsKept" (161 : Nat) ({ cls := "PathsKept", name := "isWalker", desc := "(I)Z" } : Jvm.MethodName)) ∈ lw_tbl := ai_in_at 856 (by decide +kernel)
set_option maxRecDepth 100000 in
theorem tw_735 : (Cond.instanceMethod ({ cls := "PathsKept", name := "isWalker", desc := "(I)Z" } : Jvm.MethodName)) ∈ lw_tbl := ai_in_at 858 (by decide +kernel)
set_option maxRecDepth 100000 in
theorem tw_306 : (Cond.fieldLinkNest "PathsKept" (164 : Nat) "PathsKept$Standing" "at" "[I" "PathsKept") ∈ lw_tbl := ai_in_at 429 (by decide +kernel)
set_option maxRecDepth 100000 in
theorem tw_309 : (Cond.fieldLinkNest "PathsKept" (167 : Nat) "PathsKept$Standing" "left" "[I" "PathsKept") ∈ lw_tbl := ai_in_at 432 (by decide +kernel)
set_option maxRecDepth 100000 in
theorem tw_741 : (Cond.code ({ cls := "PathsKept", name := "pathsHeCanGo", desc := "(I)I" } : Jvm.MethodName) prog_1_method_13_code (4 : Nat) (Option.some Jvm.ClassFile.FieldType.int)) ∈ lw_tbl := ai_in_at 864 (by decide +kernel)
set_option maxRecDepth 100000 in
theorem tw_738 : (Cond.methodLink "PathsKept" (170 : Nat) ({ cls := "PathsKept", name := "pathsHeCanGo", desc := "(I)I" } : Jvm.MethodName)) ∈ lw_tbl := ai_in_at 861 (by decide +kernel)
set_option maxRecDepth 100000 in
theorem tw_740 : (Cond.instanceMethod ({ cls := "PathsKept", name := "pathsHeCanGo", desc := "(I)I" } : Jvm.MethodName)) ∈ lw_tbl := ai_in_at 863 (by decide +kernel)
set_option maxRecDepth 100000 in
theorem tw_745 : (Cond.code ({ cls := "PathsKept$Days", name := "begin", desc := "(LPathsKept$Told;LPathsKept$Standing;I)V" } : Jvm.MethodName) prog_2_method_2_code (5 : Nat) (Option.none : Option Jvm.ClassFile.FieldType)) ∈ lw_tbl := ai_in_at 868 (by decide +kernel)
set_option maxRecDepth 100000 in
theorem tw_742 : (Cond.methodLink "PathsKept" (173 : Nat) ({ cls := "PathsKept$Days", name := "begin", desc := "(LPathsKept$Told;LPathsKept$Standing;I)V" } : Jvm.MethodName)) ∈ lw_tbl := ai_in_at 865 (by decide +kernel)
set_option maxRecDepth 100000 in
theorem tw_744 : (Cond.selects "PathsKept$Days" ({ cls := "PathsKept$Days", name := "begin", desc := "(LPathsKept$Told;LPathsKept$Standing;I)V" } : Jvm.MethodName) ({ cls := "PathsKept$Days", name := "begin", desc := "(LPathsKept$Told;LPathsKept$Standing;I)V" } : Jvm.MethodName)) ∈ lw_tbl := ai_in_at 867 (by decide +kernel)
set_option maxRecDepth 100000 in
theorem tw_743 : (Cond.instanceMethod ({ cls := "PathsKept$Days", name := "begin", desc := "(LPathsKept$Told;LPathsKept$Standing;I)V" } : Jvm.MethodName)) ∈ lw_tbl := ai_in_at 866 (by decide +kernel)
set_option maxRecDepth 100000 in
theorem tw_751 : (Cond.methodLink "PathsKept" (176 : Nat) ({ cls := "PathsKept$Days", name := "costIfHeCan", desc := "(II)I" } : Jvm.MethodName)) ∈ lw_tbl := ai_in_at 874 (by decide +kernel)
set_option maxRecDepth 100000 in
theorem tw_798 : (Cond.methodLink "PathsKept" (181 : Nat) ({ cls := "PathsKept", name := "isWithin", desc := "(III)Z" } : Jvm.MethodName)) ∈ lw_tbl := ai_in_at 921 (by decide +kernel)
set_option maxRecDepth 100000 in
theorem tw_803 : (Cond.constantLong "PathsKept" (185 : Nat) (-9223372036854775808 : Int64)) ∈ lw_tbl := ai_in_at 926 (by decide +kernel)
set_option maxRecDepth 100000 in
theorem tw_804 : (Cond.methodLink "PathsKept" (187 : Nat) ({ cls := "PathsKept$Days", name := "lookAt", desc := "(II)V" } : Jvm.MethodName)) ∈ lw_tbl := ai_in_at 927 (by decide +kernel)
set_option maxRecDepth 100000 in
theorem tw_239 : (Cond.fieldLinkNest "PathsKept" (191 : Nat) "PathsKept$Told" "laws" "LPathsKept$Laws;" "PathsKept") ∈ lw_tbl := ai_in_at 362 (by decide +kernel)
set_option maxRecDepth 100000 in
theorem tw_805 : (Cond.methodLink "PathsKept" (195 : Nat) ({ cls := "PathsKept$Laws", name := "value", desc := "(IJ)J" } : Jvm.MethodName)) ∈ lw_tbl := ai_in_at 928 (by decide +kernel)
set_option maxRecDepth 100000 in
theorem tw_234 : (Cond.fieldLinkNest "PathsKept" (199 : Nat) "PathsKept$Told" "walks" "LPathsKept$Table;" "PathsKept") ∈ lw_tbl := ai_in_at 357 (by decide +kernel)
set_option maxRecDepth 100000 in
theorem tw_192 : (Cond.fieldLinkNest "PathsKept" (202 : Nat) "PathsKept$Laws" "knots" "I" "PathsKept") ∈ lw_tbl := ai_in_at 315 (by decide +kernel)
set_option maxRecDepth 100000 in
theorem tw_295 : (Cond.fieldLinkNest "PathsKept" (205 : Nat) "PathsKept$Standing" "kept" "I" "PathsKept") ∈ lw_tbl := ai_in_at 418 (by decide +kernel)
set_option maxRecDepth 100000 in
theorem tw_810 : (Cond.methodLink "PathsKept" (208 : Nat) ({ cls := "java/lang/Integer", name := "bitCount", desc := "(I)I" } : Jvm.MethodName)) ∈ lw_tbl := ai_in_at 933 (by decide +kernel)
set_option maxRecDepth 100000 in
theorem tw_289 : (Cond.fieldLinkNest "PathsKept" (213 : Nat) "PathsKept$Standing" "done" "I" "PathsKept") ∈ lw_tbl := ai_in_at 412 (by decide +kernel)
set_option maxRecDepth 100000 in
theorem tw_292 : (Cond.fieldLinkNest "PathsKept" (216 : Nat) "PathsKept$Standing" "refused" "I" "PathsKept") ∈ lw_tbl := ai_in_at 415 (by decide +kernel)
set_option maxRecDepth 100000 in
theorem tw_818 : (Cond.code ({ cls := "PathsKept$Ways", name := "sets", desc := "(LPathsKept$Told;I)I" } : Jvm.MethodName) prog_11_method_4_code (5 : Nat) (Option.some Jvm.ClassFile.FieldType.int)) ∈ lw_tbl := ai_in_at 941 (by decide +kernel)
set_option maxRecDepth 100000 in
theorem tw_816 : (Cond.methodLink "PathsKept" (219 : Nat) ({ cls := "PathsKept$Ways", name := "sets", desc := "(LPathsKept$Told;I)I" } : Jvm.MethodName)) ∈ lw_tbl := ai_in_at 939 (by decide +kernel)
set_option maxRecDepth 100000 in
theorem tw_817 : (Cond.static ({ cls := "PathsKept$Ways", name := "sets", desc := "(LPathsKept$Told;I)I" } : Jvm.MethodName)) ∈ lw_tbl := ai_in_at 940 (by decide +kernel)
set_option maxRecDepth 100000 in
theorem tw_374 : (Cond.fieldLinkNest "PathsKept" (223 : Nat) "PathsKept$Seen" "size" "I" "PathsKept") ∈ lw_tbl := ai_in_at 497 (by decide +kernel)
set_option maxRecDepth 100000 in
theorem tw_823 : (Cond.methodLink "PathsKept" (224 : Nat) ({ cls := "PathsKept$Seen", name := "knownSize", desc := "()I" } : Jvm.MethodName)) ∈ lw_tbl := ai_in_at 946 (by decide +kernel)
set_option maxRecDepth 100000 in
theorem tw_834 : (Cond.code ({ cls := "PathsKept", name := "remember", desc := "()V" } : Jvm.MethodName) prog_1_method_19_code (3 : Nat) (Option.none : Option Jvm.ClassFile.FieldType)) ∈ lw_tbl := ai_in_at 957 (by decide +kernel)
set_option maxRecDepth 100000 in
theorem tw_831 : (Cond.methodLink "PathsKept" (228 : Nat) ({ cls := "PathsKept", name := "remember", desc := "()V" } : Jvm.MethodName)) ∈ lw_tbl := ai_in_at 954 (by decide +kernel)
set_option maxRecDepth 100000 in
theorem tw_833 : (Cond.instanceMethod ({ cls := "PathsKept", name := "remember", desc := "()V" } : Jvm.MethodName)) ∈ lw_tbl := ai_in_at 956 (by decide +kernel)
set_option maxRecDepth 100000 in
theorem tw_842 : (Cond.methodLink "PathsKept" (231 : Nat) ({ cls := "PathsKept$Days", name := "goWhole", desc := "(III)V" } : Jvm.MethodName)) ∈ lw_tbl := ai_in_at 965 (by decide +kernel)
set_option maxRecDepth 100000 in
theorem tw_859 : (Cond.code ({ cls := "PathsKept", name := "isPlace", desc := "(I)Z" } : Jvm.MethodName) prog_1_method_7_code (2 : Nat) (Option.some Jvm.ClassFile.FieldType.boolean)) ∈ lw_tbl := ai_in_at 982 (by decide +kernel)
set_option maxRecDepth 100000 in
theorem tw_856 : (Cond.methodLink "PathsKept" (235 : Nat) ({ cls := "PathsKept", name := "isPlace", desc := "(I)Z" } : Jvm.MethodName)) ∈ lw_tbl := ai_in_at 979 (by decide +kernel)
set_option maxRecDepth 100000 in
theorem tw_858 : (Cond.instanceMethod ({ cls := "PathsKept", name := "isPlace", desc := "(I)Z" } : Jvm.MethodName)) ∈ lw_tbl := ai_in_at 981 (by decide +kernel)
set_option maxRecDepth 100000 in
theorem tw_838 : (Cond.code ({ cls := "PathsKept$Standing", name := "copyFrom", desc := "(LPathsKept$Standing;)V" } : Jvm.MethodName) prog_7_method_3_code (2 : Nat) (Option.none : Option Jvm.ClassFile.FieldType)) ∈ lw_tbl := ai_in_at 961 (by decide +kernel)
set_option maxRecDepth 100000 in
theorem tw_835 : (Cond.methodLink "PathsKept" (238 : Nat) ({ cls := "PathsKept$Standing", name := "copyFrom", desc := "(LPathsKept$Standing;)V" } : Jvm.MethodName)) ∈ lw_tbl := ai_in_at 958 (by decide +kernel)
set_option maxRecDepth 100000 in
theorem tw_837 : (Cond.selects "PathsKept$Standing" ({ cls := "PathsKept$Standing", name := "copyFrom", desc := "(LPathsKept$Standing;)V" } : Jvm.MethodName) ({ cls := "PathsKept$Standing", name := "copyFrom", desc := "(LPathsKept$Standing;)V" } : Jvm.MethodName)) ∈ lw_tbl := ai_in_at 960 (by decide +kernel)
set_option maxRecDepth 100000 in
theorem tw_836 : (Cond.instanceMethod ({ cls := "PathsKept$Standing", name := "copyFrom", desc := "(LPathsKept$Standing;)V" } : Jvm.MethodName)) ∈ lw_tbl := ai_in_at 959 (by decide +kernel)
set_option maxRecDepth 100000 in
theorem tw_879 : (Cond.code ({ cls := "PathsKept$Days", name := "pass", desc := "()V" } : Jvm.MethodName) prog_2_method_4_code (2 : Nat) (Option.none : Option Jvm.ClassFile.FieldType)) ∈ lw_tbl := ai_in_at 1002 (by decide +kernel)
set_option maxRecDepth 100000 in
theorem tw_876 : (Cond.methodLink "PathsKept" (242 : Nat) ({ cls := "PathsKept$Days", name := "pass", desc := "()V" } : Jvm.MethodName)) ∈ lw_tbl := ai_in_at 999 (by decide +kernel)
set_option maxRecDepth 100000 in
theorem tw_878 : (Cond.selects "PathsKept$Days" ({ cls := "PathsKept$Days", name := "pass", desc := "()V" } : Jvm.MethodName) ({ cls := "PathsKept$Days", name := "pass", desc := "()V" } : Jvm.MethodName)) ∈ lw_tbl := ai_in_at 1001 (by decide +kernel)
set_option maxRecDepth 100000 in
theorem tw_877 : (Cond.instanceMethod ({ cls := "PathsKept$Days", name := "pass", desc := "()V" } : Jvm.MethodName)) ∈ lw_tbl := ai_in_at 1000 (by decide +kernel)
set_option maxRecDepth 100000 in
theorem tw_905 : (Cond.code ({ cls := "PathsKept", name := "isAsked", desc := "(II)Z" } : Jvm.MethodName) prog_1_method_26_code (3 : Nat) (Option.some Jvm.ClassFile.FieldType.boolean)) ∈ lw_tbl := ai_in_at 1028 (by decide +kernel)
set_option maxRecDepth 100000 in
theorem tw_902 : (Cond.methodLink "PathsKept" (245 : Nat) ({ cls := "PathsKept", name := "isAsked", desc := "(II)Z" } : Jvm.MethodName)) ∈ lw_tbl := ai_in_at 1025 (by decide +kernel)
set_option maxRecDepth 100000 in
theorem tw_904 : (Cond.instanceMethod ({ cls := "PathsKept", name := "isAsked", desc := "(II)Z" } : Jvm.MethodName)) ∈ lw_tbl := ai_in_at 1027 (by decide +kernel)
set_option maxRecDepth 100000 in
theorem tw_909 : (Cond.code ({ cls := "PathsKept", name := "beginAhead", desc := "()V" } : Jvm.MethodName) prog_1_method_24_code (1 : Nat) (Option.none : Option Jvm.ClassFile.FieldType)) ∈ lw_tbl := ai_in_at 1032 (by decide +kernel)
set_option maxRecDepth 100000 in
theorem tw_906 : (Cond.methodLink "PathsKept" (248 : Nat) ({ cls := "PathsKept", name := "beginAhead", desc := "()V" } : Jvm.MethodName)) ∈ lw_tbl := ai_in_at 1029 (by decide +kernel)
set_option maxRecDepth 100000 in
theorem tw_908 : (Cond.instanceMethod ({ cls := "PathsKept", name := "beginAhead", desc := "()V" } : Jvm.MethodName)) ∈ lw_tbl := ai_in_at 1031 (by decide +kernel)
set_option maxRecDepth 100000 in
theorem tw_921 : (Cond.code ({ cls := "PathsKept$Days", name := "tryOtherwise", desc := "(II)V" } : Jvm.MethodName) prog_2_method_3_code (3 : Nat) (Option.none : Option Jvm.ClassFile.FieldType)) ∈ lw_tbl := ai_in_at 1044 (by decide +kernel)
set_option maxRecDepth 100000 in
theorem tw_918 : (Cond.methodLink "PathsKept" (251 : Nat) ({ cls := "PathsKept$Days", name := "tryOtherwise", desc := "(II)V" } : Jvm.MethodName)) ∈ lw_tbl := ai_in_at 1041 (by decide +kernel)
set_option maxRecDepth 100000 in
theorem tw_920 : (Cond.selects "PathsKept$Days" ({ cls := "PathsKept$Days", name := "tryOtherwise", desc := "(II)V" } : Jvm.MethodName) ({ cls := "PathsKept$Days", name := "tryOtherwise", desc := "(II)V" } : Jvm.MethodName)) ∈ lw_tbl := ai_in_at 1043 (by decide +kernel)
set_option maxRecDepth 100000 in
theorem tw_919 : (Cond.instanceMethod ({ cls := "PathsKept$Days", name := "tryOtherwise", desc := "(II)V" } : Jvm.MethodName)) ∈ lw_tbl := ai_in_at 1042 (by decide +kernel)
set_option maxRecDepth 100000 in
theorem tw_286 : (Cond.fieldLinkNest "PathsKept" (254 : Nat) "PathsKept$Standing" "number" "I" "PathsKept") ∈ lw_tbl := ai_in_at 409 (by decide +kernel)
set_option maxRecDepth 100000 in
theorem tw_931 : (Cond.methodLink "PathsKept" (257 : Nat) ({ cls := "PathsKept$Ways", name := "openFor", desc := "(LPathsKept$Told;LPathsKept$Standing;I)I" } : Jvm.MethodName)) ∈ lw_tbl := ai_in_at 1054 (by decide +kernel)
set_option maxRecDepth 100000 in
theorem tw_936 : (Cond.methodLink "PathsKept" (261 : Nat) ({ cls := "PathsKept$Ways", name := "spread", desc := "(LPathsKept$Told;II)I" } : Jvm.MethodName)) ∈ lw_tbl := ai_in_at 1059 (by decide +kernel)
set_option maxRecDepth 100000 in
theorem tw_944 : (Cond.code ({ cls := "PathsKept$Ways", name := "leastLength", desc := "(LPathsKept$Told;LPathsKept$Standing;II)I" } : Jvm.MethodName) prog_11_method_10_code (9 : Nat) (Option.some Jvm.ClassFile.FieldType.int)) ∈ lw_tbl := ai_in_at 1067 (by decide +kernel)
set_option maxRecDepth 100000 in
theorem tw_941 : (Cond.methodLink "PathsKept" (265 : Nat) ({ cls := "PathsKept$Ways", name := "leastLength", desc := "(LPathsKept$Told;LPathsKept$Standing;II)I" } : Jvm.MethodName)) ∈ lw_tbl := ai_in_at 1064 (by decide +kernel)
set_option maxRecDepth 100000 in
theorem tw_943 : (Cond.selects "PathsKept$Ways" ({ cls := "PathsKept$Ways", name := "leastLength", desc := "(LPathsKept$Told;LPathsKept$Standing;II)I" } : Jvm.MethodName) ({ cls := "PathsKept$Ways", name := "leastLength", desc := "(LPathsKept$Told;LPathsKept$Standing;II)I" } : Jvm.MethodName)) ∈ lw_tbl := ai_in_at 1066 (by decide +kernel)
set_option maxRecDepth 100000 in
theorem tw_942 : (Cond.instanceMethod ({ cls := "PathsKept$Ways", name := "leastLength", desc := "(LPathsKept$Told;LPathsKept$Standing;II)I" } : Jvm.MethodName)) ∈ lw_tbl := ai_in_at 1065 (by decide +kernel)
set_option maxRecDepth 100000 in
theorem tw_959 : (Cond.code ({ cls := "PathsKept$Ways", name := "leastRound", desc := "(LPathsKept$Told;LPathsKept$Standing;IIZ)I" } : Jvm.MethodName) prog_11_method_12_code (11 : Nat) (Option.some Jvm.ClassFile.FieldType.int)) ∈ lw_tbl := ai_in_at 1082 (by decide +kernel)
set_option maxRecDepth 100000 in
theorem tw_956 : (Cond.methodLink "PathsKept" (269 : Nat) ({ cls := "PathsKept$Ways", name := "leastRound", desc := "(LPathsKept$Told;LPathsKept$Standing;IIZ)I" } : Jvm.MethodName)) ∈ lw_tbl := ai_in_at 1079 (by decide +kernel)
set_option maxRecDepth 100000 in
theorem tw_958 : (Cond.selects "PathsKept$Ways" ({ cls := "PathsKept$Ways", name := "leastRound", desc := "(LPathsKept$Told;LPathsKept$Standing;IIZ)I" } : Jvm.MethodName) ({ cls := "PathsKept$Ways", name := "leastRound", desc := "(LPathsKept$Told;LPathsKept$Standing;IIZ)I" } : Jvm.MethodName)) ∈ lw_tbl := ai_in_at 1081 (by decide +kernel)
set_option maxRecDepth 100000 in
theorem tw_957 : (Cond.instanceMethod ({ cls := "PathsKept$Ways", name := "leastRound", desc := "(LPathsKept$Told;LPathsKept$Standing;IIZ)I" } : Jvm.MethodName)) ∈ lw_tbl := ai_in_at 1080 (by decide +kernel)
set_option maxRecDepth 100000 in
theorem tw_975 : (Cond.code ({ cls := "PathsKept$Ways", name := "pairs", desc := "(LPathsKept$Told;I)I" } : Jvm.MethodName) prog_11_method_5_code (4 : Nat) (Option.some Jvm.ClassFile.FieldType.int)) ∈ lw_tbl := ai_in_at 1098 (by decide +kernel)
set_option maxRecDepth 100000 in
theorem tw_973 : (Cond.methodLink "PathsKept" (273 : Nat) ({ cls := "PathsKept$Ways", name := "pairs", desc := "(LPathsKept$Told;I)I" } : Jvm.MethodName)) ∈ lw_tbl := ai_in_at 1096 (by decide +kernel)
set_option maxRecDepth 100000 in
theorem tw_974 : (Cond.static ({ cls := "PathsKept$Ways", name := "pairs", desc := "(LPathsKept$Told;I)I" } : Jvm.MethodName)) ∈ lw_tbl := ai_in_at 1097 (by decide +kernel)
set_option maxRecDepth 100000 in
theorem tw_983 : (Cond.code ({ cls := "PathsKept$Ways", name := "blindEnds", desc := "(LPathsKept$Told;I)I" } : Jvm.MethodName) prog_11_method_6_code (4 : Nat) (Option.some Jvm.ClassFile.FieldType.int)) ∈ lw_tbl := ai_in_at 1106 (by decide +kernel)
set_option maxRecDepth 100000 in
theorem tw_981 : (Cond.methodLink "PathsKept" (276 : Nat) ({ cls := "PathsKept$Ways", name := "blindEnds", desc := "(LPathsKept$Told;I)I" } : Jvm.MethodName)) ∈ lw_tbl := ai_in_at 1104 (by decide +kernel)
set_option maxRecDepth 100000 in
theorem tw_982 : (Cond.static ({ cls := "PathsKept$Ways", name := "blindEnds", desc := "(LPathsKept$Told;I)I" } : Jvm.MethodName)) ∈ lw_tbl := ai_in_at 1105 (by decide +kernel)
set_option maxRecDepth 100000 in
theorem tw_993 : (Cond.code ({ cls := "PathsKept$Ways", name := "fewestWatched", desc := "(LPathsKept$Told;I)I" } : Jvm.MethodName) prog_11_method_8_code (4 : Nat) (Option.some Jvm.ClassFile.FieldType.int)) ∈ lw_tbl := ai_in_at 1116 (by decide +kernel)
set_option maxRecDepth 100000 in
theorem tw_991 : (Cond.methodLink "PathsKept" (279 : Nat) ({ cls := "PathsKept$Ways", name := "fewestWatched", desc := "(LPathsKept$Told;I)I" } : Jvm.MethodName)) ∈ lw_tbl := ai_in_at 1114 (by decide +kernel)
set_option maxRecDepth 100000 in
theorem tw_992 : (Cond.static ({ cls := "PathsKept$Ways", name := "fewestWatched", desc := "(LPathsKept$Told;I)I" } : Jvm.MethodName)) ∈ lw_tbl := ai_in_at 1115 (by decide +kernel)
set_option maxRecDepth 100000 in
theorem tw_1004 : (Cond.code ({ cls := "PathsKept$Ways", name := "matchAll", desc := "(LPathsKept$Told;LPathsKept$Standing;)V" } : Jvm.MethodName) prog_11_method_15_code (6 : Nat) (Option.none : Option Jvm.ClassFile.FieldType)) ∈ lw_tbl := ai_in_at 1127 (by decide +kernel)
set_option maxRecDepth 100000 in
theorem tw_1001 : (Cond.methodLink "PathsKept" (282 : Nat) ({ cls := "PathsKept$Ways", name := "matchAll", desc := "(LPathsKept$Told;LPathsKept$Standing;)V" } : Jvm.MethodName)) ∈ lw_tbl := ai_in_at 1124 (by decide +kernel)
set_option maxRecDepth 100000 in
theorem tw_1003 : (Cond.selects "PathsKept$Ways" ({ cls := "PathsKept$Ways", name := "matchAll", desc := "(LPathsKept$Told;LPathsKept$Standing;)V" } : Jvm.MethodName) ({ cls := "PathsKept$Ways", name := "matchAll", desc := "(LPathsKept$Told;LPathsKept$Standing;)V" } : Jvm.MethodName)) ∈ lw_tbl := ai_in_at 1126 (by decide +kernel)
set_option maxRecDepth 100000 in
theorem tw_1002 : (Cond.instanceMethod ({ cls := "PathsKept$Ways", name := "matchAll", desc := "(LPathsKept$Told;LPathsKept$Standing;)V" } : Jvm.MethodName)) ∈ lw_tbl := ai_in_at 1125 (by decide +kernel)
set_option maxRecDepth 100000 in
theorem tw_415 : (Cond.fieldLinkNest "PathsKept" (286 : Nat) "PathsKept$Ways" "bestSum" "I" "PathsKept") ∈ lw_tbl := ai_in_at 538 (by decide +kernel)
set_option maxRecDepth 100000 in
theorem tw_413 : (Cond.fieldLinkNest "PathsKept" (289 : Nat) "PathsKept$Ways" "bestPick" "[I" "PathsKept") ∈ lw_tbl := ai_in_at 536 (by decide +kernel)
set_option maxRecDepth 100000 in
theorem tw_445 : (Cond.fieldLink "PathsKept" (294 : Nat) "PathsKept" "squireGame" "LPathsKept$Game;") ∈ lw_tbl := ai_in_at 568 (by decide +kernel)
set_option maxRecDepth 100000 in
theorem tw_1014 : (Cond.classLink "PathsKept" (292 : Nat) "PathsKept$Game") ∈ lw_tbl := ai_in_at 1137 (by decide +kernel)
set_option maxRecDepth 100000 in
theorem tw_1015 : (Cond.instantiable "PathsKept$Game" (4 : Nat)) ∈ lw_tbl := ai_in_at 1138 (by decide +kernel)
set_option maxRecDepth 100000 in
theorem tw_1018 : (Cond.code ({ cls := "PathsKept$Game", name := "<init>", desc := "()V" } : Jvm.MethodName) prog_3_method_1_code (1 : Nat) (Option.none : Option Jvm.ClassFile.FieldType)) ∈ lw_tbl := ai_in_at 1141 (by decide +kernel)
set_option maxRecDepth 100000 in
theorem tw_1016 : (Cond.methodLinkNest "PathsKept" (298 : Nat) ({ cls := "PathsKept$Game", name := "<init>", desc := "()V" } : Jvm.MethodName) "PathsKept") ∈ lw_tbl := ai_in_at 1139 (by decide +kernel)
set_option maxRecDepth 100000 in
theorem tw_1017 : (Cond.instanceMethod ({ cls := "PathsKept$Game", name := "<init>", desc := "()V" } : Jvm.MethodName)) ∈ lw_tbl := ai_in_at 1140 (by decide +kernel)
set_option maxRecDepth 100000 in
theorem tw_1036 : (Cond.code ({ cls := "PathsKept$Game", name := "begin", desc := "(LPathsKept$Told;III)V" } : Jvm.MethodName) prog_3_method_2_code (6 : Nat) (Option.none : Option Jvm.ClassFile.FieldType)) ∈ lw_tbl := ai_in_at 1159 (by decide +kernel)
set_option maxRecDepth 100000 in
theorem tw_1033 : (Cond.methodLink "PathsKept" (299 : Nat) ({ cls := "PathsKept$Game", name := "begin", desc := "(LPathsKept$Told;III)V" } : Jvm.MethodName)) ∈ lw_tbl := ai_in_at 1156 (by decide +kernel)
set_option maxRecDepth 100000 in
theorem tw_1035 : (Cond.selects "PathsKept$Game" ({ cls := "PathsKept$Game", name := "begin", desc := "(LPathsKept$Told;III)V" } : Jvm.MethodName) ({ cls := "PathsKept$Game", name := "begin", desc := "(LPathsKept$Told;III)V" } : Jvm.MethodName)) ∈ lw_tbl := ai_in_at 1158 (by decide +kernel)
set_option maxRecDepth 100000 in
theorem tw_1034 : (Cond.instanceMethod ({ cls := "PathsKept$Game", name := "begin", desc := "(LPathsKept$Told;III)V" } : Jvm.MethodName)) ∈ lw_tbl := ai_in_at 1157 (by decide +kernel)
set_option maxRecDepth 100000 in
theorem tw_1041 : (Cond.code ({ cls := "PathsKept$Game", name := "winner", desc := "(I)I" } : Jvm.MethodName) prog_3_method_3_code (2 : Nat) (Option.some Jvm.ClassFile.FieldType.int)) ∈ lw_tbl := ai_in_at 1164 (by decide +kernel)
set_option maxRecDepth 100000 in
theorem tw_1038 : (Cond.methodLink "PathsKept" (302 : Nat) ({ cls := "PathsKept$Game", name := "winner", desc := "(I)I" } : Jvm.MethodName)) ∈ lw_tbl := ai_in_at 1161 (by decide +kernel)
set_option maxRecDepth 100000 in
theorem tw_1040 : (Cond.selects "PathsKept$Game" ({ cls := "PathsKept$Game", name := "winner", desc := "(I)I" } : Jvm.MethodName) ({ cls := "PathsKept$Game", name := "winner", desc := "(I)I" } : Jvm.MethodName)) ∈ lw_tbl := ai_in_at 1163 (by decide +kernel)
set_option maxRecDepth 100000 in
theorem tw_1039 : (Cond.instanceMethod ({ cls := "PathsKept$Game", name := "winner", desc := "(I)I" } : Jvm.MethodName)) ∈ lw_tbl := ai_in_at 1162 (by decide +kernel)
set_option maxRecDepth 100000 in
theorem tw_1055 : (Cond.code ({ cls := "PathsKept$Game", name := "firstMove", desc := "(I)I" } : Jvm.MethodName) prog_3_method_4_code (3 : Nat) (Option.some Jvm.ClassFile.FieldType.int)) ∈ lw_tbl := ai_in_at 1178 (by decide +kernel)
set_option maxRecDepth 100000 in
theorem tw_1052 : (Cond.methodLink "PathsKept" (305 : Nat) ({ cls := "PathsKept$Game", name := "firstMove", desc := "(I)I" } : Jvm.MethodName)) ∈ lw_tbl := ai_in_at 1175 (by decide +kernel)
set_option maxRecDepth 100000 in
theorem tw_1054 : (Cond.selects "PathsKept$Game" ({ cls := "PathsKept$Game", name := "firstMove", desc := "(I)I" } : Jvm.MethodName) ({ cls := "PathsKept$Game", name := "firstMove", desc := "(I)I" } : Jvm.MethodName)) ∈ lw_tbl := ai_in_at 1177 (by decide +kernel)
set_option maxRecDepth 100000 in
theorem tw_1053 : (Cond.instanceMethod ({ cls := "PathsKept$Game", name := "firstMove", desc := "(I)I" } : Jvm.MethodName)) ∈ lw_tbl := ai_in_at 1176 (by decide +kernel)
set_option maxRecDepth 100000 in
theorem tw_1063 : (Cond.code ({ cls := "PathsKept", name := "isPair", desc := "(II)Z" } : Jvm.MethodName) prog_1_method_38_code (3 : Nat) (Option.some Jvm.ClassFile.FieldType.boolean)) ∈ lw_tbl := ai_in_at 1186 (by decide +kernel)
set_option maxRecDepth 100000 in
theorem tw_1060 : (Cond.methodLink "PathsKept" (308 : Nat) ({ cls := "PathsKept", name := "isPair", desc := "(II)Z" } : Jvm.MethodName)) ∈ lw_tbl := ai_in_at 1183 (by decide +kernel)
set_option maxRecDepth 100000 in
theorem tw_1062 : (Cond.instanceMethod ({ cls := "PathsKept", name := "isPair", desc := "(II)Z" } : Jvm.MethodName)) ∈ lw_tbl := ai_in_at 1185 (by decide +kernel)
set_option maxRecDepth 100000 in
theorem tw_1067 : (Cond.code ({ cls := "PathsKept", name := "isRest", desc := "(III)Z" } : Jvm.MethodName) prog_1_method_41_code (8 : Nat) (Option.some Jvm.ClassFile.FieldType.boolean)) ∈ lw_tbl := ai_in_at 1190 (by decide +kernel)
set_option maxRecDepth 100000 in
theorem tw_1064 : (Cond.methodLink "PathsKept" (311 : Nat) ({ cls := "PathsKept", name := "isRest", desc := "(III)Z" } : Jvm.MethodName)) ∈ lw_tbl := ai_in_at 1187 (by decide +kernel)
set_option maxRecDepth 100000 in
theorem tw_1066 : (Cond.instanceMethod ({ cls := "PathsKept", name := "isRest", desc := "(III)Z" } : Jvm.MethodName)) ∈ lw_tbl := ai_in_at 1189 (by decide +kernel)
set_option maxRecDepth 100000 in
theorem tw_1070 : (Cond.code ({ cls := "PathsKept", name := "share", desc := "(III)I" } : Jvm.MethodName) prog_1_method_42_code (3 : Nat) (Option.some Jvm.ClassFile.FieldType.int)) ∈ lw_tbl := ai_in_at 1193 (by decide +kernel)
set_option maxRecDepth 100000 in
theorem tw_1068 : (Cond.methodLink "PathsKept" (314 : Nat) ({ cls := "PathsKept", name := "share", desc := "(III)I" } : Jvm.MethodName)) ∈ lw_tbl := ai_in_at 1191 (by decide +kernel)
set_option maxRecDepth 100000 in
theorem tw_1069 : (Cond.static ({ cls := "PathsKept", name := "share", desc := "(III)I" } : Jvm.MethodName)) ∈ lw_tbl := ai_in_at 1192 (by decide +kernel)
set_option maxRecDepth 100000 in
theorem tw_1079 : (Cond.constantLong "PathsKept" (318 : Nat) (100 : Int64)) ∈ lw_tbl := ai_in_at 1202 (by decide +kernel)
set_option maxRecDepth 100000 in
theorem tw_247 : (Cond.fieldLinkNest "PathsKept" (320 : Nat) "PathsKept$Told" "snow" "I" "PathsKept") ∈ lw_tbl := ai_in_at 370 (by decide +kernel)
set_option maxRecDepth 100000 in
theorem tw_1084 : (Cond.constantLong "PathsKept" (323 : Nat) (-1 : Int64)) ∈ lw_tbl := ai_in_at 1207 (by decide +kernel)
set_option maxRecDepth 100000 in
theorem tw_1087 : (Cond.code ({ cls := "PathsKept", name := "commonDivisor", desc := "(II)I" } : Jvm.MethodName) prog_1_method_45_code (6 : Nat) (Option.some Jvm.ClassFile.FieldType.int)) ∈ lw_tbl := ai_in_at 1210 (by decide +kernel)
set_option maxRecDepth 100000 in
theorem tw_1085 : (Cond.methodLink "PathsKept" (325 : Nat) ({ cls := "PathsKept", name := "commonDivisor", desc := "(II)I" } : Jvm.MethodName)) ∈ lw_tbl := ai_in_at 1208 (by decide +kernel)
set_option maxRecDepth 100000 in
theorem tw_1086 : (Cond.static ({ cls := "PathsKept", name := "commonDivisor", desc := "(II)I" } : Jvm.MethodName)) ∈ lw_tbl := ai_in_at 1209 (by decide +kernel)
set_option maxRecDepth 100000 in
theorem tw_1088 : (Cond.methodLink "PathsKept" (328 : Nat) ({ cls := "java/lang/Math", name := "max", desc := "(II)I" } : Jvm.MethodName)) ∈ lw_tbl := ai_in_at 1211 (by decide +kernel)
set_option maxRecDepth 100000 in
theorem tw_1098 : (Cond.code ({ cls := "PathsKept$Seen", name := "add", desc := "(IIII)I" } : Jvm.MethodName) prog_6_method_4_code (5 : Nat) (Option.some Jvm.ClassFile.FieldType.int)) ∈ lw_tbl := ai_in_at 1221 (by decide +kernel)
set_option maxRecDepth 100000 in
theorem tw_1095 : (Cond.methodLink "PathsKept" (333 : Nat) ({ cls := "PathsKept$Seen", name := "add", desc := "(IIII)I" } : Jvm.MethodName)) ∈ lw_tbl := ai_in_at 1218 (by decide +kernel)
set_option maxRecDepth 100000 in
theorem tw_1097 : (Cond.selects "PathsKept$Seen" ({ cls := "PathsKept$Seen", name := "add", desc := "(IIII)I" } : Jvm.MethodName) ({ cls := "PathsKept$Seen", name := "add", desc := "(IIII)I" } : Jvm.MethodName)) ∈ lw_tbl := ai_in_at 1220 (by decide +kernel)
set_option maxRecDepth 100000 in
theorem tw_1096 : (Cond.instanceMethod ({ cls := "PathsKept$Seen", name := "add", desc := "(IIII)I" } : Jvm.MethodName)) ∈ lw_tbl := ai_in_at 1219 (by decide +kernel)
set_option maxRecDepth 100000 in
theorem tw_376 : (Cond.fieldLinkNest "PathsKept" (337 : Nat) "PathsKept$Seen" "knownBy" "I" "PathsKept") ∈ lw_tbl := ai_in_at 499 (by decide +kernel)
set_option maxRecDepth 100000 in
theorem tw_1114 : (Cond.code ({ cls := "PathsKept$Seen", name := "sift", desc := "()V" } : Jvm.MethodName) prog_6_method_5_code (3 : Nat) (Option.none : Option Jvm.ClassFile.FieldType)) ∈ lw_tbl := ai_in_at 1237 (by decide +kernel)
set_option maxRecDepth 100000 in
theorem tw_1111 : (Cond.methodLink "PathsKept" (340 : Nat) ({ cls := "PathsKept$Seen", name := "sift", desc := "()V" } : Jvm.MethodName)) ∈ lw_tbl := ai_in_at 1234 (by decide +kernel)
set_option maxRecDepth 100000 in
theorem tw_1113 : (Cond.selects "PathsKept$Seen" ({ cls := "PathsKept$Seen", name := "sift", desc := "()V" } : Jvm.MethodName) ({ cls := "PathsKept$Seen", name := "sift", desc := "()V" } : Jvm.MethodName)) ∈ lw_tbl := ai_in_at 1236 (by decide +kernel)
set_option maxRecDepth 100000 in
theorem tw_1112 : (Cond.instanceMethod ({ cls := "PathsKept$Seen", name := "sift", desc := "()V" } : Jvm.MethodName)) ∈ lw_tbl := ai_in_at 1235 (by decide +kernel)
set_option maxRecDepth 100000 in
theorem tw_1120 : (Cond.code ({ cls := "PathsKept", name := "placeIfLegs", desc := "(III)I" } : Jvm.MethodName) prog_1_method_52_code (7 : Nat) (Option.some Jvm.ClassFile.FieldType.int)) ∈ lw_tbl := ai_in_at 1243 (by decide +kernel)
set_option maxRecDepth 100000 in
theorem tw_1117 : (Cond.methodLink "PathsKept" (343 : Nat) ({ cls := "PathsKept", name := "placeIfLegs", desc := "(III)I" } : Jvm.MethodName)) ∈ lw_tbl := ai_in_at 1240 (by decide +kernel)
set_option maxRecDepth 100000 in
theorem tw_1119 : (Cond.instanceMethod ({ cls := "PathsKept", name := "placeIfLegs", desc := "(III)I" } : Jvm.MethodName)) ∈ lw_tbl := ai_in_at 1242 (by decide +kernel)
set_option maxRecDepth 100000 in
theorem tw_380 : (Cond.fieldLinkNest "PathsKept" (346 : Nat) "PathsKept$Seen" "hits" "[I" "PathsKept") ∈ lw_tbl := ai_in_at 503 (by decide +kernel)
set_option maxRecDepth 100000 in
theorem tw_1129 : (Cond.methodLink "PathsKept" (349 : Nat) ({ cls := "java/util/Arrays", name := "fill", desc := "([II)V" } : Jvm.MethodName)) ∈ lw_tbl := ai_in_at 1252 (by decide +kernel)
set_option maxRecDepth 100000 in
theorem tw_1132 : (Cond.code ({ cls := "PathsKept", name := "leftAtWorst", desc := "(II)I" } : Jvm.MethodName) prog_1_method_51_code (2 : Nat) (Option.some Jvm.ClassFile.FieldType.int)) ∈ lw_tbl := ai_in_at 1255 (by decide +kernel)
set_option maxRecDepth 100000 in
theorem tw_1130 : (Cond.methodLink "PathsKept" (355 : Nat) ({ cls := "PathsKept", name := "leftAtWorst", desc := "(II)I" } : Jvm.MethodName)) ∈ lw_tbl := ai_in_at 1253 (by decide +kernel)
set_option maxRecDepth 100000 in
theorem tw_1131 : (Cond.static ({ cls := "PathsKept", name := "leftAtWorst", desc := "(II)I" } : Jvm.MethodName)) ∈ lw_tbl := ai_in_at 1254 (by decide +kernel)
set_option maxRecDepth 100000 in
theorem tw_344 : (Cond.fieldLinkNest "PathsKept" (358 : Nat) "PathsKept$Days" "legs" "[I" "PathsKept") ∈ lw_tbl := ai_in_at 467 (by decide +kernel)
set_option maxRecDepth 100000 in
theorem tw_378 : (Cond.fieldLinkNest "PathsKept" (361 : Nat) "PathsKept$Seen" "lastDay" "I" "PathsKept") ∈ lw_tbl := ai_in_at 501 (by decide +kernel)
set_option maxRecDepth 100000 in
theorem tw_1124 : (Cond.code ({ cls := "PathsKept$Seen", name := "isSo", desc := "(I[I)Z" } : Jvm.MethodName) prog_6_method_6_code (5 : Nat) (Option.some Jvm.ClassFile.FieldType.boolean)) ∈ lw_tbl := ai_in_at 1247 (by decide +kernel)
set_option maxRecDepth 100000 in
theorem tw_1121 : (Cond.methodLink "PathsKept" (364 : Nat) ({ cls := "PathsKept$Seen", name := "isSo", desc := "(I[I)Z" } : Jvm.MethodName)) ∈ lw_tbl := ai_in_at 1244 (by decide +kernel)
set_option maxRecDepth 100000 in
theorem tw_1123 : (Cond.selects "PathsKept$Seen" ({ cls := "PathsKept$Seen", name := "isSo", desc := "(I[I)Z" } : Jvm.MethodName) ({ cls := "PathsKept$Seen", name := "isSo", desc := "(I[I)Z" } : Jvm.MethodName)) ∈ lw_tbl := ai_in_at 1246 (by decide +kernel)
set_option maxRecDepth 100000 in
theorem tw_1122 : (Cond.instanceMethod ({ cls := "PathsKept$Seen", name := "isSo", desc := "(I[I)Z" } : Jvm.MethodName)) ∈ lw_tbl := ai_in_at 1245 (by decide +kernel)
set_option maxRecDepth 100000 in
theorem tw_1180 : (Cond.methodLink "PathsKeptModel" (1 : Nat) ({ cls := "java/lang/Object", name := "<init>", desc := "()V" } : Jvm.MethodName)) ∈ lw_tbl := ai_in_at 1303 (by decide +kernel)
set_option maxRecDepth 100000 in
theorem tw_1204 : (Cond.fieldLink "PathsKeptModel" (7 : Nat) "PathsKeptModel" "tape" "[I") ∈ lw_tbl := ai_in_at 1327 (by decide +kernel)
set_option maxRecDepth 100000 in
theorem tw_1207 : (Cond.fieldLink "PathsKeptModel" (13 : Nat) "PathsKeptModel" "words" "[I") ∈ lw_tbl := ai_in_at 1330 (by decide +kernel)
set_option maxRecDepth 100000 in
theorem tw_1209 : (Cond.fieldLink "PathsKeptModel" (16 : Nat) "PathsKeptModel" "faultPlace" "I") ∈ lw_tbl := ai_in_at 1332 (by decide +kernel)
set_option maxRecDepth 100000 in
theorem tw_1228 : (Cond.fieldLink "PathsKeptModel" (20 : Nat) "PathsKeptModel" "onceTold" "[Z") ∈ lw_tbl := ai_in_at 1351 (by decide +kernel)
set_option maxRecDepth 100000 in
theorem tw_1229 : (Cond.fieldLink "PathsKeptModel" (24 : Nat) "PathsKeptModel" "once" "[I") ∈ lw_tbl := ai_in_at 1352 (by decide +kernel)
set_option maxRecDepth 100000 in
theorem tw_1230 : (Cond.fieldLink "PathsKeptModel" (27 : Nat) "PathsKeptModel" "placeName" "[I") ∈ lw_tbl := ai_in_at 1353 (by decide +kernel)
set_option maxRecDepth 100000 in
theorem tw_1231 : (Cond.fieldLink "PathsKeptModel" (30 : Nat) "PathsKeptModel" "pathName" "[I") ∈ lw_tbl := ai_in_at 1354 (by decide +kernel)
set_option maxRecDepth 100000 in
theorem tw_1232 : (Cond.fieldLink "PathsKeptModel" (33 : Nat) "PathsKeptModel" "pathOne" "[I") ∈ lw_tbl := ai_in_at 1355 (by decide +kernel)
set_option maxRecDepth 100000 in
theorem tw_1233 : (Cond.fieldLink "PathsKeptModel" (36 : Nat) "PathsKeptModel" "pathOther" "[I") ∈ lw_tbl := ai_in_at 1356 (by decide +kernel)
set_option maxRecDepth 100000 in
theorem tw_1234 : (Cond.fieldLink "PathsKeptModel" (39 : Nat) "PathsKeptModel" "pathLength" "[I") ∈ lw_tbl := ai_in_at 1357 (by decide +kernel)
set_option maxRecDepth 100000 in
theorem tw_1235 : (Cond.fieldLink "PathsKeptModel" (42 : Nat) "PathsKeptModel" "pathStile" "[I") ∈ lw_tbl := ai_in_at 1358 (by decide +kernel)
set_option maxRecDepth 100000 in
theorem tw_1236 : (Cond.fieldLink "PathsKeptModel" (45 : Nat) "PathsKeptModel" "pathAge" "[I") ∈ lw_tbl := ai_in_at 1359 (by decide +kernel)
set_option maxRecDepth 100000 in
theorem tw_1237 : (Cond.fieldLink "PathsKeptModel" (48 : Nat) "PathsKeptModel" "walkerName" "[I") ∈ lw_tbl := ai_in_at 1360 (by decide +kernel)
set_option maxRecDepth 100000 in
theorem tw_1238 : (Cond.fieldLink "PathsKeptModel" (51 : Nat) "PathsKeptModel" "walkerHome" "[I") ∈ lw_tbl := ai_in_at 1361 (by decide +kernel)
set_option maxRecDepth 100000 in
theorem tw_1239 : (Cond.fieldLink "PathsKeptModel" (54 : Nat) "PathsKeptModel" "walkerLegs" "[I") ∈ lw_tbl := ai_in_at 1362 (by decide +kernel)
set_option maxRecDepth 100000 in
theorem tw_1240 : (Cond.fieldLink "PathsKeptModel" (57 : Nat) "PathsKeptModel" "walkerPace" "[I") ∈ lw_tbl := ai_in_at 1363 (by decide +kernel)
set_option maxRecDepth 100000 in
theorem tw_1241 : (Cond.fieldLink "PathsKeptModel" (60 : Nat) "PathsKeptModel" "walkWho" "[I") ∈ lw_tbl := ai_in_at 1364 (by decide +kernel)
set_option maxRecDepth 100000 in
theorem tw_1242 : (Cond.fieldLink "PathsKeptModel" (63 : Nat) "PathsKeptModel" "walkPath" "[I") ∈ lw_tbl := ai_in_at 1365 (by decide +kernel)
set_option maxRecDepth 100000 in
theorem tw_1243 : (Cond.fieldLink "PathsKeptModel" (66 : Nat) "PathsKeptModel" "walkDay" "[I") ∈ lw_tbl := ai_in_at 1366 (by decide +kernel)
set_option maxRecDepth 100000 in
theorem tw_1244 : (Cond.fieldLink "PathsKeptModel" (69 : Nat) "PathsKeptModel" "bullPath" "[I") ∈ lw_tbl := ai_in_at 1367 (by decide +kernel)
set_option maxRecDepth 100000 in
theorem tw_1245 : (Cond.fieldLink "PathsKeptModel" (72 : Nat) "PathsKeptModel" "bullFrom" "[I") ∈ lw_tbl := ai_in_at 1368 (by decide +kernel)
set_option maxRecDepth 100000 in
theorem tw_1246 : (Cond.fieldLink "PathsKeptModel" (75 : Nat) "PathsKeptModel" "bullTo" "[I") ∈ lw_tbl := ai_in_at 1369 (by decide +kernel)
set_option maxRecDepth 100000 in
theorem tw_1247 : (Cond.fieldLink "PathsKeptModel" (78 : Nat) "PathsKeptModel" "lawTold" "[Z") ∈ lw_tbl := ai_in_at 1370 (by decide +kernel)
set_option maxRecDepth 100000 in
theorem tw_1248 : (Cond.fieldLink "PathsKeptModel" (81 : Nat) "PathsKeptModel" "first" "[I") ∈ lw_tbl := ai_in_at 1371 (by decide +kernel)
set_option maxRecDepth 100000 in
theorem tw_1249 : (Cond.fieldLink "PathsKeptModel" (84 : Nat) "PathsKeptModel" "last" "[I") ∈ lw_tbl := ai_in_at 1372 (by decide +kernel)
set_option maxRecDepth 100000 in
theorem tw_1250 : (Cond.fieldLink "PathsKeptModel" (87 : Nat) "PathsKeptModel" "knot" "[I") ∈ lw_tbl := ai_in_at 1373 (by decide +kernel)
set_option maxRecDepth 100000 in
theorem tw_1251 : (Cond.fieldLink "PathsKeptModel" (90 : Nat) "PathsKeptModel" "part" "[I") ∈ lw_tbl := ai_in_at 1374 (by decide +kernel)
set_option maxRecDepth 100000 in
theorem tw_1252 : (Cond.fieldLink "PathsKeptModel" (93 : Nat) "PathsKeptModel" "other" "[I") ∈ lw_tbl := ai_in_at 1375 (by decide +kernel)
set_option maxRecDepth 100000 in
theorem tw_1253 : (Cond.fieldLink "PathsKeptModel" (96 : Nat) "PathsKeptModel" "wait" "[I") ∈ lw_tbl := ai_in_at 1376 (by decide +kernel)
set_option maxRecDepth 100000 in
theorem tw_1254 : (Cond.fieldLink "PathsKeptModel" (99 : Nat) "PathsKeptModel" "held" "[I") ∈ lw_tbl := ai_in_at 1377 (by decide +kernel)
set_option maxRecDepth 100000 in
theorem tw_1261 : (Cond.fieldLink "PathsKeptModel" (102 : Nat) "PathsKeptModel" "names" "[J") ∈ lw_tbl := ai_in_at 1384 (by decide +kernel)
set_option maxRecDepth 100000 in
theorem tw_1262 : (Cond.fieldLink "PathsKeptModel" (106 : Nat) "PathsKeptModel" "value" "[J") ∈ lw_tbl := ai_in_at 1385 (by decide +kernel)
set_option maxRecDepth 100000 in
theorem tw_1264 : (Cond.fieldLink "PathsKeptModel" (109 : Nat) "PathsKeptModel" "where" "[I") ∈ lw_tbl := ai_in_at 1387 (by decide +kernel)
set_option maxRecDepth 100000 in
theorem tw_1265 : (Cond.fieldLink "PathsKeptModel" (112 : Nat) "PathsKeptModel" "left" "[I") ∈ lw_tbl := ai_in_at 1388 (by decide +kernel)
set_option maxRecDepth 100000 in
theorem tw_1266 : (Cond.fieldLink "PathsKeptModel" (115 : Nat) "PathsKeptModel" "age" "[I") ∈ lw_tbl := ai_in_at 1389 (by decide +kernel)
set_option maxRecDepth 100000 in
theorem tw_1267 : (Cond.fieldLink "PathsKeptModel" (118 : Nat) "PathsKeptModel" "kept" "[Z") ∈ lw_tbl := ai_in_at 1390 (by decide +kernel)
set_option maxRecDepth 100000 in
theorem tw_1268 : (Cond.fieldLink "PathsKeptModel" (121 : Nat) "PathsKeptModel" "gone" "[I") ∈ lw_tbl := ai_in_at 1391 (by decide +kernel)
set_option maxRecDepth 100000 in
theorem tw_1269 : (Cond.fieldLink "PathsKeptModel" (124 : Nat) "PathsKeptModel" "done" "[I") ∈ lw_tbl := ai_in_at 1392 (by decide +kernel)
set_option maxRecDepth 100000 in
theorem tw_1270 : (Cond.fieldLink "PathsKeptModel" (127 : Nat) "PathsKeptModel" "refused" "[I") ∈ lw_tbl := ai_in_at 1393 (by decide +kernel)
set_option maxRecDepth 100000 in
theorem tw_1271 : (Cond.fieldLink "PathsKeptModel" (130 : Nat) "PathsKeptModel" "day" "[I") ∈ lw_tbl := ai_in_at 1394 (by decide +kernel)
set_option maxRecDepth 100000 in
theorem tw_1281 : (Cond.fieldLink "PathsKeptModel" (133 : Nat) "PathsKeptModel" "takes" "[I") ∈ lw_tbl := ai_in_at 1404 (by decide +kernel)
set_option maxRecDepth 100000 in
theorem tw_1282 : (Cond.fieldLink "PathsKeptModel" (136 : Nat) "PathsKeptModel" "settled" "[Z") ∈ lw_tbl := ai_in_at 1405 (by decide +kernel)
set_option maxRecDepth 100000 in
theorem tw_1283 : (Cond.fieldLink "PathsKeptModel" (139 : Nat) "PathsKeptModel" "root" "[I") ∈ lw_tbl := ai_in_at 1406 (by decide +kernel)
set_option maxRecDepth 100000 in
theorem tw_1284 : (Cond.fieldLink "PathsKeptModel" (142 : Nat) "PathsKeptModel" "row" "[I") ∈ lw_tbl := ai_in_at 1407 (by decide +kernel)
set_option maxRecDepth 100000 in
theorem tw_1285 : (Cond.fieldLink "PathsKeptModel" (145 : Nat) "PathsKeptModel" "keptOnes" "[I") ∈ lw_tbl := ai_in_at 1408 (by decide +kernel)
set_option maxRecDepth 100000 in
theorem tw_1287 : (Cond.fieldLink "PathsKeptModel" (148 : Nat) "PathsKeptModel" "parishWins" "[Z") ∈ lw_tbl := ai_in_at 1410 (by decide +kernel)
set_option maxRecDepth 100000 in
theorem tw_1289 : (Cond.fieldLink "PathsKeptModel" (151 : Nat) "PathsKeptModel" "knownTold" "I") ∈ lw_tbl := ai_in_at 1412 (by decide +kernel)
set_option maxRecDepth 100000 in
theorem tw_1290 : (Cond.fieldLink "PathsKeptModel" (154 : Nat) "PathsKeptModel" "seen1" "[I") ∈ lw_tbl := ai_in_at 1413 (by decide +kernel)
set_option maxRecDepth 100000 in
theorem tw_1291 : (Cond.fieldLink "PathsKeptModel" (157 : Nat) "PathsKeptModel" "counts" "[Z") ∈ lw_tbl := ai_in_at 1414 (by decide +kernel)
set_option maxRecDepth 100000 in
theorem tw_1292 : (Cond.fieldLink "PathsKeptModel" (160 : Nat) "PathsKeptModel" "there" "[I") ∈ lw_tbl := ai_in_at 1415 (by decide +kernel)
set_option maxRecDepth 100000 in
theorem tw_1294 : (Cond.fieldLink "PathsKeptModel" (163 : Nat) "PathsKeptModel" "undo" "[I") ∈ lw_tbl := ai_in_at 1417 (by decide +kernel)
set_option maxRecDepth 100000 in
theorem tw_1296 : (Cond.fieldLink "PathsKeptModel" (166 : Nat) "PathsKeptModel" "image" "[I") ∈ lw_tbl := ai_in_at 1419 (by decide +kernel)
set_option maxRecDepth 100000 in
theorem tw_15 : (Cond.initialized "PathsKeptModel") ∈ lw_tbl := ai_in_at 138 (by decide +kernel)
set_option maxRecDepth 100000 in
theorem tw_1184 : (Cond.code ({ cls := "PathsKeptModel", name := "plain", desc := "()V" } : Jvm.MethodName) prog_13_method_17_code (2 : Nat) (Option.none : Option Jvm.ClassFile.FieldType)) ∈ lw_tbl := ai_in_at 1307 (by decide +kernel)
set_option maxRecDepth 100000 in
theorem tw_1181 : (Cond.methodLink "PathsKeptModel" (169 : Nat) ({ cls := "PathsKeptModel", name := "plain", desc := "()V" } : Jvm.MethodName)) ∈ lw_tbl := ai_in_at 1304 (by decide +kernel)
set_option maxRecDepth 100000 in
theorem tw_1183 : (Cond.instanceMethod ({ cls := "PathsKeptModel", name := "plain", desc := "()V" } : Jvm.MethodName)) ∈ lw_tbl := ai_in_at 1306 (by decide +kernel)
set_option maxRecDepth 100000 in
theorem tw_1188 : (Cond.code ({ cls := "PathsKeptModel", name := "keepText", desc := "()V" } : Jvm.MethodName) prog_13_method_19_code (2 : Nat) (Option.none : Option Jvm.ClassFile.FieldType)) ∈ lw_tbl := ai_in_at 1311 (by decide +kernel)
set_option maxRecDepth 100000 in
theorem tw_1185 : (Cond.methodLink "PathsKeptModel" (172 : Nat) ({ cls := "PathsKeptModel", name := "keepText", desc := "()V" } : Jvm.MethodName)) ∈ lw_tbl := ai_in_at 1308 (by decide +kernel)
set_option maxRecDepth 100000 in
theorem tw_1187 : (Cond.instanceMethod ({ cls := "PathsKeptModel", name := "keepText", desc := "()V" } : Jvm.MethodName)) ∈ lw_tbl := ai_in_at 1310 (by decide +kernel)
set_option maxRecDepth 100000 in
theorem tw_1206 : (Cond.fieldLink "PathsKeptModel" (175 : Nat) "PathsKeptModel" "thrown" "I") ∈ lw_tbl := ai_in_at 1329 (by decide +kernel)
set_option maxRecDepth 100000 in
theorem tw_1205 : (Cond.fieldLink "PathsKeptModel" (178 : Nat) "PathsKeptModel" "tapeSize" "I") ∈ lw_tbl := ai_in_at 1328 (by decide +kernel)
set_option maxRecDepth 100000 in
theorem tw_1208 : (Cond.fieldLink "PathsKeptModel" (181 : Nat) "PathsKeptModel" "fault" "I") ∈ lw_tbl := ai_in_at 1331 (by decide +kernel)
set_option maxRecDepth 100000 in
theorem tw_1214 : (Cond.fieldLink "PathsKeptModel" (184 : Nat) "PathsKeptModel" "at" "I") ∈ lw_tbl := ai_in_at 1337 (by decide +kernel)
set_option maxRecDepth 100000 in
theorem tw_1210 : (Cond.fieldLink "PathsKeptModel" (187 : Nat) "PathsKeptModel" "stop" "I") ∈ lw_tbl := ai_in_at 1333 (by decide +kernel)
set_option maxRecDepth 100000 in
theorem tw_1211 : (Cond.fieldLink "PathsKeptModel" (190 : Nat) "PathsKeptModel" "next" "I") ∈ lw_tbl := ai_in_at 1334 (by decide +kernel)
set_option maxRecDepth 100000 in
theorem tw_1212 : (Cond.fieldLink "PathsKeptModel" (193 : Nat) "PathsKeptModel" "kind" "I") ∈ lw_tbl := ai_in_at 1335 (by decide +kernel)
set_option maxRecDepth 100000 in
theorem tw_1512 : (Cond.code ({ cls := "PathsKeptModel", name := "isSmall", desc := "(I)Z" } : Jvm.MethodName) prog_13_method_8_code (2 : Nat) (Option.some Jvm.ClassFile.FieldType.boolean)) ∈ lw_tbl := ai_in_at 1635 (by decide +kernel)
set_option maxRecDepth 100000 in
theorem tw_1509 : (Cond.methodLink "PathsKeptModel" (196 : Nat) ({ cls := "PathsKeptModel", name := "isSmall", desc := "(I)Z" } : Jvm.MethodName)) ∈ lw_tbl := ai_in_at 1632 (by decide +kernel)
set_option maxRecDepth 100000 in
theorem tw_1511 : (Cond.instanceMethod ({ cls := "PathsKeptModel", name := "isSmall", desc := "(I)Z" } : Jvm.MethodName)) ∈ lw_tbl := ai_in_at 1634 (by decide +kernel)
set_option maxRecDepth 100000 in
theorem tw_1516 : (Cond.code ({ cls := "PathsKeptModel", name := "wordAt", desc := "(II)I" } : Jvm.MethodName) prog_13_method_7_code (8 : Nat) (Option.some Jvm.ClassFile.FieldType.int)) ∈ lw_tbl := ai_in_at 1639 (by decide +kernel)
set_option maxRecDepth 100000 in
theorem tw_1513 : (Cond.methodLink "PathsKeptModel" (200 : Nat) ({ cls := "PathsKeptModel", name := "wordAt", desc := "(II)I" } : Jvm.MethodName)) ∈ lw_tbl := ai_in_at 1636 (by decide +kernel)
set_option maxRecDepth 100000 in
theorem tw_1515 : (Cond.instanceMethod ({ cls := "PathsKeptModel", name := "wordAt", desc := "(II)I" } : Jvm.MethodName)) ∈ lw_tbl := ai_in_at 1638 (by decide +kernel)
set_option maxRecDepth 100000 in
theorem tw_1213 : (Cond.fieldLink "PathsKeptModel" (204 : Nat) "PathsKeptModel" "which" "I") ∈ lw_tbl := ai_in_at 1336 (by decide +kernel)
set_option maxRecDepth 100000 in
theorem tw_1520 : (Cond.code ({ cls := "PathsKeptModel", name := "packed", desc := "(II)I" } : Jvm.MethodName) prog_13_method_12_code (5 : Nat) (Option.some Jvm.ClassFile.FieldType.int)) ∈ lw_tbl := ai_in_at 1643 (by decide +kernel)
set_option maxRecDepth 100000 in
theorem tw_1517 : (Cond.methodLink "PathsKeptModel" (207 : Nat) ({ cls := "PathsKeptModel", name := "packed", desc := "(II)I" } : Jvm.MethodName)) ∈ lw_tbl := ai_in_at 1640 (by decide +kernel)
set_option maxRecDepth 100000 in
theorem tw_1519 : (Cond.instanceMethod ({ cls := "PathsKeptModel", name := "packed", desc := "(II)I" } : Jvm.MethodName)) ∈ lw_tbl := ai_in_at 1642 (by decide +kernel)
set_option maxRecDepth 100000 in
theorem tw_1524 : (Cond.code ({ cls := "PathsKeptModel", name := "isDigit", desc := "(I)Z" } : Jvm.MethodName) prog_13_method_9_code (2 : Nat) (Option.some Jvm.ClassFile.FieldType.boolean)) ∈ lw_tbl := ai_in_at 1647 (by decide +kernel)
set_option maxRecDepth 100000 in
theorem tw_1521 : (Cond.methodLink "PathsKeptModel" (210 : Nat) ({ cls := "PathsKeptModel", name := "isDigit", desc := "(I)Z" } : Jvm.MethodName)) ∈ lw_tbl := ai_in_at 1644 (by decide +kernel)
set_option maxRecDepth 100000 in
theorem tw_1523 : (Cond.instanceMethod ({ cls := "PathsKeptModel", name := "isDigit", desc := "(I)Z" } : Jvm.MethodName)) ∈ lw_tbl := ai_in_at 1646 (by decide +kernel)
set_option maxRecDepth 100000 in
theorem tw_1525 : (Cond.constant "PathsKeptModel" (213 : Nat) (99999 : Int32)) ∈ lw_tbl := ai_in_at 1648 (by decide +kernel)
set_option maxRecDepth 100000 in
theorem tw_1529 : (Cond.code ({ cls := "PathsKeptModel", name := "signToken", desc := "()V" } : Jvm.MethodName) prog_13_method_11_code (4 : Nat) (Option.none : Option Jvm.ClassFile.FieldType)) ∈ lw_tbl := ai_in_at 1652 (by decide +kernel)
set_option maxRecDepth 100000 in
theorem tw_1526 : (Cond.methodLink "PathsKeptModel" (214 : Nat) ({ cls := "PathsKeptModel", name := "signToken", desc := "()V" } : Jvm.MethodName)) ∈ lw_tbl := ai_in_at 1649 (by decide +kernel)
set_option maxRecDepth 100000 in
theorem tw_1528 : (Cond.instanceMethod ({ cls := "PathsKeptModel", name := "signToken", desc := "()V" } : Jvm.MethodName)) ∈ lw_tbl := ai_in_at 1651 (by decide +kernel)
set_option maxRecDepth 100000 in
theorem tw_1537 : (Cond.code ({ cls := "PathsKeptModel", name := "wrong", desc := "(I)Z" } : Jvm.MethodName) prog_13_method_6_code (2 : Nat) (Option.some Jvm.ClassFile.FieldType.boolean)) ∈ lw_tbl := ai_in_at 1660 (by decide +kernel)
set_option maxRecDepth 100000 in
theorem tw_1534 : (Cond.methodLink "PathsKeptModel" (217 : Nat) ({ cls := "PathsKeptModel", name := "wrong", desc := "(I)Z" } : Jvm.MethodName)) ∈ lw_tbl := ai_in_at 1657 (by decide +kernel)
set_option maxRecDepth 100000 in
theorem tw_1536 : (Cond.instanceMethod ({ cls := "PathsKeptModel", name := "wrong", desc := "(I)Z" } : Jvm.MethodName)) ∈ lw_tbl := ai_in_at 1659 (by decide +kernel)
set_option maxRecDepth 100000 in
theorem tw_1563 : (Cond.code ({ cls := "PathsKeptModel", name := "isIn", desc := "(III)Z" } : Jvm.MethodName) prog_13_method_4_code (3 : Nat) (Option.some Jvm.ClassFile.FieldType.boolean)) ∈ lw_tbl := ai_in_at 1686 (by decide +kernel)
set_option maxRecDepth 100000 in
theorem tw_1561 : (Cond.methodLink "PathsKeptModel" (220 : Nat) ({ cls := "PathsKeptModel", name := "isIn", desc := "(III)Z" } : Jvm.MethodName)) ∈ lw_tbl := ai_in_at 1684 (by decide +kernel)
set_option maxRecDepth 100000 in
theorem tw_1562 : (Cond.static ({ cls := "PathsKeptModel", name := "isIn", desc := "(III)Z" } : Jvm.MethodName)) ∈ lw_tbl := ai_in_at 1685 (by decide +kernel)
set_option maxRecDepth 100000 in
theorem tw_1215 : (Cond.fieldLink "PathsKeptModel" (224 : Nat) "PathsKeptModel" "got" "I") ∈ lw_tbl := ai_in_at 1338 (by decide +kernel)
set_option maxRecDepth 100000 in
theorem tw_1508 : (Cond.code ({ cls := "PathsKeptModel", name := "token", desc := "()V" } : Jvm.MethodName) prog_13_method_10_code (1 : Nat) (Option.none : Option Jvm.ClassFile.FieldType)) ∈ lw_tbl := ai_in_at 1631 (by decide +kernel)
set_option maxRecDepth 100000 in
theorem tw_1505 : (Cond.methodLink "PathsKeptModel" (227 : Nat) ({ cls := "PathsKeptModel", name := "token", desc := "()V" } : Jvm.MethodName)) ∈ lw_tbl := ai_in_at 1628 (by decide +kernel)
set_option maxRecDepth 100000 in
theorem tw_1507 : (Cond.instanceMethod ({ cls := "PathsKeptModel", name := "token", desc := "()V" } : Jvm.MethodName)) ∈ lw_tbl := ai_in_at 1630 (by decide +kernel)
set_option maxRecDepth 100000 in
theorem tw_1222 : (Cond.fieldLink "PathsKeptModel" (237 : Nat) "PathsKeptModel" "placesRead" "I") ∈ lw_tbl := ai_in_at 1345 (by decide +kernel)
set_option maxRecDepth 100000 in
theorem tw_1223 : (Cond.fieldLink "PathsKeptModel" (240 : Nat) "PathsKeptModel" "pathsRead" "I") ∈ lw_tbl := ai_in_at 1346 (by decide +kernel)
set_option maxRecDepth 100000 in
theorem tw_1224 : (Cond.fieldLink "PathsKeptModel" (243 : Nat) "PathsKeptModel" "walkersRead" "I") ∈ lw_tbl := ai_in_at 1347 (by decide +kernel)
set_option maxRecDepth 100000 in
theorem tw_1225 : (Cond.fieldLink "PathsKeptModel" (246 : Nat) "PathsKeptModel" "walksRead" "I") ∈ lw_tbl := ai_in_at 1348 (by decide +kernel)
set_option maxRecDepth 100000 in
theorem tw_1226 : (Cond.fieldLink "PathsKeptModel" (249 : Nat) "PathsKeptModel" "bullsRead" "I") ∈ lw_tbl := ai_in_at 1349 (by decide +kernel)
set_option maxRecDepth 100000 in
theorem tw_1227 : (Cond.fieldLink "PathsKeptModel" (252 : Nat) "PathsKeptModel" "knotsRead" "I") ∈ lw_tbl := ai_in_at 1350 (by decide +kernel)
set_option maxRecDepth 100000 in
theorem tw_1258 : (Cond.fieldLink "PathsKeptModel" (255 : Nat) "PathsKeptModel" "counted" "I") ∈ lw_tbl := ai_in_at 1381 (by decide +kernel)
set_option maxRecDepth 100000 in
theorem tw_1216 : (Cond.fieldLink "PathsKeptModel" (258 : Nat) "PathsKeptModel" "places" "I") ∈ lw_tbl := ai_in_at 1339 (by decide +kernel)
set_option maxRecDepth 100000 in
theorem tw_1217 : (Cond.fieldLink "PathsKeptModel" (261 : Nat) "PathsKeptModel" "paths" "I") ∈ lw_tbl := ai_in_at 1340 (by decide +kernel)
set_option maxRecDepth 100000 in
theorem tw_1218 : (Cond.fieldLink "PathsKeptModel" (264 : Nat) "PathsKeptModel" "walkers" "I") ∈ lw_tbl := ai_in_at 1341 (by decide +kernel)
set_option maxRecDepth 100000 in
theorem tw_1219 : (Cond.fieldLink "PathsKeptModel" (267 : Nat) "PathsKeptModel" "walks" "I") ∈ lw_tbl := ai_in_at 1342 (by decide +kernel)
set_option maxRecDepth 100000 in
theorem tw_1220 : (Cond.fieldLink "PathsKeptModel" (270 : Nat) "PathsKeptModel" "bulls" "I") ∈ lw_tbl := ai_in_at 1343 (by decide +kernel)
set_option maxRecDepth 100000 in
theorem tw_1221 : (Cond.fieldLink "PathsKeptModel" (273 : Nat) "PathsKeptModel" "knots" "I") ∈ lw_tbl := ai_in_at 1344 (by decide +kernel)
set_option maxRecDepth 100000 in
theorem tw_1191 : (Cond.code ({ cls := "PathsKeptModel", name := "copies", desc := "([II)V" } : Jvm.MethodName) prog_13_method_18_code (3 : Nat) (Option.none : Option Jvm.ClassFile.FieldType)) ∈ lw_tbl := ai_in_at 1314 (by decide +kernel)
set_option maxRecDepth 100000 in
theorem tw_1189 : (Cond.methodLink "PathsKeptModel" (276 : Nat) ({ cls := "PathsKeptModel", name := "copies", desc := "([II)V" } : Jvm.MethodName)) ∈ lw_tbl := ai_in_at 1312 (by decide +kernel)
set_option maxRecDepth 100000 in
theorem tw_1190 : (Cond.static ({ cls := "PathsKeptModel", name := "copies", desc := "([II)V" } : Jvm.MethodName)) ∈ lw_tbl := ai_in_at 1313 (by decide +kernel)
set_option maxRecDepth 100000 in
theorem tw_1195 : (Cond.code ({ cls := "PathsKeptModel", name := "begin", desc := "()V" } : Jvm.MethodName) prog_13_method_47_code (1 : Nat) (Option.none : Option Jvm.ClassFile.FieldType)) ∈ lw_tbl := ai_in_at 1318 (by decide +kernel)
set_option maxRecDepth 100000 in
theorem tw_1192 : (Cond.methodLink "PathsKeptModel" (280 : Nat) ({ cls := "PathsKeptModel", name := "begin", desc := "()V" } : Jvm.MethodName)) ∈ lw_tbl := ai_in_at 1315 (by decide +kernel)
set_option maxRecDepth 100000 in
theorem tw_1194 : (Cond.instanceMethod ({ cls := "PathsKeptModel", name := "begin", desc := "()V" } : Jvm.MethodName)) ∈ lw_tbl := ai_in_at 1317 (by decide +kernel)
set_option maxRecDepth 100000 in
theorem tw_1548 : (Cond.code ({ cls := "PathsKeptModel", name := "find", desc := "([IIII)I" } : Jvm.MethodName) prog_13_method_20_code (5 : Nat) (Option.some Jvm.ClassFile.FieldType.int)) ∈ lw_tbl := ai_in_at 1671 (by decide +kernel)
set_option maxRecDepth 100000 in
theorem tw_1546 : (Cond.methodLink "PathsKeptModel" (283 : Nat) ({ cls := "PathsKeptModel", name := "find", desc := "([IIII)I" } : Jvm.MethodName)) ∈ lw_tbl := ai_in_at 1669 (by decide +kernel)
set_option maxRecDepth 100000 in
theorem tw_1547 : (Cond.static ({ cls := "PathsKeptModel", name := "find", desc := "([IIII)I" } : Jvm.MethodName)) ∈ lw_tbl := ai_in_at 1670 (by decide +kernel)
set_option maxRecDepth 100000 in
theorem tw_1545 : (Cond.code ({ cls := "PathsKeptModel", name := "newName", desc := "([III)Z" } : Jvm.MethodName) prog_13_method_21_code (4 : Nat) (Option.some Jvm.ClassFile.FieldType.boolean)) ∈ lw_tbl := ai_in_at 1668 (by decide +kernel)
set_option maxRecDepth 100000 in
theorem tw_1542 : (Cond.methodLink "PathsKeptModel" (287 : Nat) ({ cls := "PathsKeptModel", name := "newName", desc := "([III)Z" } : Jvm.MethodName)) ∈ lw_tbl := ai_in_at 1665 (by decide +kernel)
set_option maxRecDepth 100000 in
theorem tw_1544 : (Cond.instanceMethod ({ cls := "PathsKeptModel", name := "newName", desc := "([III)Z" } : Jvm.MethodName)) ∈ lw_tbl := ai_in_at 1667 (by decide +kernel)
set_option maxRecDepth 100000 in
theorem tw_1556 : (Cond.code ({ cls := "PathsKeptModel", name := "thereIn", desc := "([III)Z" } : Jvm.MethodName) prog_13_method_22_code (5 : Nat) (Option.some Jvm.ClassFile.FieldType.boolean)) ∈ lw_tbl := ai_in_at 1679 (by decide +kernel)
set_option maxRecDepth 100000 in
theorem tw_1553 : (Cond.methodLink "PathsKeptModel" (291 : Nat) ({ cls := "PathsKeptModel", name := "thereIn", desc := "([III)Z" } : Jvm.MethodName)) ∈ lw_tbl := ai_in_at 1676 (by decide +kernel)
set_option maxRecDepth 100000 in
theorem tw_1555 : (Cond.instanceMethod ({ cls := "PathsKeptModel", name := "thereIn", desc := "([III)Z" } : Jvm.MethodName)) ∈ lw_tbl := ai_in_at 1678 (by decide +kernel)
set_option maxRecDepth 100000 in
theorem tw_1560 : (Cond.code ({ cls := "PathsKeptModel", name := "number", desc := "(II)Z" } : Jvm.MethodName) prog_13_method_15_code (3 : Nat) (Option.some Jvm.ClassFile.FieldType.boolean)) ∈ lw_tbl := ai_in_at 1683 (by decide +kernel)
set_option maxRecDepth 100000 in
theorem tw_1557 : (Cond.methodLink "PathsKeptModel" (233 : Nat) ({ cls := "PathsKeptModel", name := "number", desc := "(II)Z" } : Jvm.MethodName)) ∈ lw_tbl := ai_in_at 1680 (by decide +kernel)
set_option maxRecDepth 100000 in
theorem tw_1559 : (Cond.instanceMethod ({ cls := "PathsKeptModel", name := "number", desc := "(II)Z" } : Jvm.MethodName)) ∈ lw_tbl := ai_in_at 1682 (by decide +kernel)
set_option maxRecDepth 100000 in
theorem tw_1541 : (Cond.code ({ cls := "PathsKeptModel", name := "placeLine", desc := "()Z" } : Jvm.MethodName) prog_13_method_23_code (1 : Nat) (Option.some Jvm.ClassFile.FieldType.boolean)) ∈ lw_tbl := ai_in_at 1664 (by decide +kernel)
set_option maxRecDepth 100000 in
theorem tw_1538 : (Cond.methodLink "PathsKeptModel" (294 : Nat) ({ cls := "PathsKeptModel", name := "placeLine", desc := "()Z" } : Jvm.MethodName)) ∈ lw_tbl := ai_in_at 1661 (by decide +kernel)
set_option maxRecDepth 100000 in
theorem tw_1540 : (Cond.instanceMethod ({ cls := "PathsKeptModel", name := "placeLine", desc := "()Z" } : Jvm.MethodName)) ∈ lw_tbl := ai_in_at 1663 (by decide +kernel)
set_option maxRecDepth 100000 in
theorem tw_1552 : (Cond.code ({ cls := "PathsKeptModel", name := "pathLine", desc := "()Z" } : Jvm.MethodName) prog_13_method_24_code (3 : Nat) (Option.some Jvm.ClassFile.FieldType.boolean)) ∈ lw_tbl := ai_in_at 1675 (by decide +kernel)
set_option maxRecDepth 100000 in
theorem tw_1549 : (Cond.methodLink "PathsKeptModel" (298 : Nat) ({ cls := "PathsKeptModel", name := "pathLine", desc := "()Z" } : Jvm.MethodName)) ∈ lw_tbl := ai_in_at 1672 (by decide +kernel)
set_option maxRecDepth 100000 in
theorem tw_1551 : (Cond.instanceMethod ({ cls := "PathsKeptModel", name := "pathLine", desc := "()Z" } : Jvm.MethodName)) ∈ lw_tbl := ai_in_at 1674 (by decide +kernel)
set_option maxRecDepth 100000 in
theorem tw_1567 : (Cond.code ({ cls := "PathsKeptModel", name := "walkerLine", desc := "()Z" } : Jvm.MethodName) prog_13_method_25_code (2 : Nat) (Option.some Jvm.ClassFile.FieldType.boolean)) ∈ lw_tbl := ai_in_at 1690 (by decide +kernel)
set_option maxRecDepth 100000 in
theorem tw_1564 : (Cond.methodLink "PathsKeptModel" (301 : Nat) ({ cls := "PathsKeptModel", name := "walkerLine", desc := "()Z" } : Jvm.MethodName)) ∈ lw_tbl := ai_in_at 1687 (by decide +kernel)
set_option maxRecDepth 100000 in
theorem tw_1566 : (Cond.instanceMethod ({ cls := "PathsKeptModel", name := "walkerLine", desc := "()Z" } : Jvm.MethodName)) ∈ lw_tbl := ai_in_at 1689 (by decide +kernel)
set_option maxRecDepth 100000 in
theorem tw_1571 : (Cond.code ({ cls := "PathsKeptModel", name := "walkLine", desc := "()Z" } : Jvm.MethodName) prog_13_method_26_code (2 : Nat) (Option.some Jvm.ClassFile.FieldType.boolean)) ∈ lw_tbl := ai_in_at 1694 (by decide +kernel)
set_option maxRecDepth 100000 in
theorem tw_1568 : (Cond.methodLink "PathsKeptModel" (304 : Nat) ({ cls := "PathsKeptModel", name := "walkLine", desc := "()Z" } : Jvm.MethodName)) ∈ lw_tbl := ai_in_at 1691 (by decide +kernel)
set_option maxRecDepth 100000 in
theorem tw_1570 : (Cond.instanceMethod ({ cls := "PathsKeptModel", name := "walkLine", desc := "()Z" } : Jvm.MethodName)) ∈ lw_tbl := ai_in_at 1693 (by decide +kernel)
set_option maxRecDepth 100000 in
theorem tw_1575 : (Cond.code ({ cls := "PathsKeptModel", name := "bullLine", desc := "()Z" } : Jvm.MethodName) prog_13_method_27_code (2 : Nat) (Option.some Jvm.ClassFile.FieldType.boolean)) ∈ lw_tbl := ai_in_at 1698 (by decide +kernel)
set_option maxRecDepth 100000 in
theorem tw_1572 : (Cond.methodLink "PathsKeptModel" (307 : Nat) ({ cls := "PathsKeptModel", name := "bullLine", desc := "()Z" } : Jvm.MethodName)) ∈ lw_tbl := ai_in_at 1695 (by decide +kernel)
set_option maxRecDepth 100000 in
theorem tw_1574 : (Cond.instanceMethod ({ cls := "PathsKeptModel", name := "bullLine", desc := "()Z" } : Jvm.MethodName)) ∈ lw_tbl := ai_in_at 1697 (by decide +kernel)
set_option maxRecDepth 100000 in
theorem tw_1579 : (Cond.code ({ cls := "PathsKeptModel", name := "onceLine", desc := "(III)Z" } : Jvm.MethodName) prog_13_method_28_code (4 : Nat) (Option.some Jvm.ClassFile.FieldType.boolean)) ∈ lw_tbl := ai_in_at 1702 (by decide +kernel)
set_option maxRecDepth 100000 in
theorem tw_1576 : (Cond.methodLink "PathsKeptModel" (310 : Nat) ({ cls := "PathsKeptModel", name := "onceLine", desc := "(III)Z" } : Jvm.MethodName)) ∈ lw_tbl := ai_in_at 1699 (by decide +kernel)
set_option maxRecDepth 100000 in
theorem tw_1578 : (Cond.instanceMethod ({ cls := "PathsKeptModel", name := "onceLine", desc := "(III)Z" } : Jvm.MethodName)) ∈ lw_tbl := ai_in_at 1701 (by decide +kernel)
set_option maxRecDepth 100000 in
theorem tw_1583 : (Cond.code ({ cls := "PathsKeptModel", name := "sumRead", desc := "()Z" } : Jvm.MethodName) prog_13_method_42_code (1 : Nat) (Option.some Jvm.ClassFile.FieldType.boolean)) ∈ lw_tbl := ai_in_at 1706 (by decide +kernel)
set_option maxRecDepth 100000 in
theorem tw_1580 : (Cond.methodLink "PathsKeptModel" (313 : Nat) ({ cls := "PathsKeptModel", name := "sumRead", desc := "()Z" } : Jvm.MethodName)) ∈ lw_tbl := ai_in_at 1703 (by decide +kernel)
set_option maxRecDepth 100000 in
theorem tw_1582 : (Cond.instanceMethod ({ cls := "PathsKeptModel", name := "sumRead", desc := "()Z" } : Jvm.MethodName)) ∈ lw_tbl := ai_in_at 1705 (by decide +kernel)
set_option maxRecDepth 100000 in
theorem tw_1587 : (Cond.code ({ cls := "PathsKeptModel", name := "isSign", desc := "(I)Z" } : Jvm.MethodName) prog_13_method_14_code (2 : Nat) (Option.some Jvm.ClassFile.FieldType.boolean)) ∈ lw_tbl := ai_in_at 1710 (by decide +kernel)
set_option maxRecDepth 100000 in
theorem tw_1584 : (Cond.methodLink "PathsKeptModel" (230 : Nat) ({ cls := "PathsKeptModel", name := "isSign", desc := "(I)Z" } : Jvm.MethodName)) ∈ lw_tbl := ai_in_at 1707 (by decide +kernel)
set_option maxRecDepth 100000 in
theorem tw_1586 : (Cond.instanceMethod ({ cls := "PathsKeptModel", name := "isSign", desc := "(I)Z" } : Jvm.MethodName)) ∈ lw_tbl := ai_in_at 1709 (by decide +kernel)
set_option maxRecDepth 100000 in
theorem tw_1533 : (Cond.code ({ cls := "PathsKeptModel", name := "lineRead", desc := "()Z" } : Jvm.MethodName) prog_13_method_29_code (3 : Nat) (Option.some Jvm.ClassFile.FieldType.boolean)) ∈ lw_tbl := ai_in_at 1656 (by decide +kernel)
set_option maxRecDepth 100000 in
theorem tw_1530 : (Cond.methodLink "PathsKeptModel" (316 : Nat) ({ cls := "PathsKeptModel", name := "lineRead", desc := "()Z" } : Jvm.MethodName)) ∈ lw_tbl := ai_in_at 1653 (by decide +kernel)
set_option maxRecDepth 100000 in
theorem tw_1532 : (Cond.instanceMethod ({ cls := "PathsKeptModel", name := "lineRead", desc := "()Z" } : Jvm.MethodName)) ∈ lw_tbl := ai_in_at 1655 (by decide +kernel)
set_option maxRecDepth 100000 in
theorem tw_1256 : (Cond.fieldLink "PathsKeptModel" (319 : Nat) "PathsKeptModel" "helds" "I") ∈ lw_tbl := ai_in_at 1379 (by decide +kernel)
set_option maxRecDepth 100000 in
theorem tw_1255 : (Cond.fieldLink "PathsKeptModel" (322 : Nat) "PathsKeptModel" "waits" "I") ∈ lw_tbl := ai_in_at 1378 (by decide +kernel)
set_option maxRecDepth 100000 in
theorem tw_1622 : (Cond.code ({ cls := "PathsKeptModel", name := "rank", desc := "(I)I" } : Jvm.MethodName) prog_13_method_33_code (1 : Nat) (Option.some Jvm.ClassFile.FieldType.int)) ∈ lw_tbl := ai_in_at 1745 (by decide +kernel)
set_option maxRecDepth 100000 in
theorem tw_1620 : (Cond.methodLink "PathsKeptModel" (325 : Nat) ({ cls := "PathsKeptModel", name := "rank", desc := "(I)I" } : Jvm.MethodName)) ∈ lw_tbl := ai_in_at 1743 (by decide +kernel)
set_option maxRecDepth 100000 in
theorem tw_1621 : (Cond.static ({ cls := "PathsKeptModel", name := "rank", desc := "(I)I" } : Jvm.MethodName)) ∈ lw_tbl := ai_in_at 1744 (by decide +kernel)
set_option maxRecDepth 100000 in
theorem tw_1626 : (Cond.code ({ cls := "PathsKeptModel", name := "dropHeld", desc := "()I" } : Jvm.MethodName) prog_13_method_35_code (1 : Nat) (Option.some Jvm.ClassFile.FieldType.int)) ∈ lw_tbl := ai_in_at 1749 (by decide +kernel)
set_option maxRecDepth 100000 in
theorem tw_1623 : (Cond.methodLink "PathsKeptModel" (329 : Nat) ({ cls := "PathsKeptModel", name := "dropHeld", desc := "()I" } : Jvm.MethodName)) ∈ lw_tbl := ai_in_at 1746 (by decide +kernel)
set_option maxRecDepth 100000 in
theorem tw_1625 : (Cond.instanceMethod ({ cls := "PathsKeptModel", name := "dropHeld", desc := "()I" } : Jvm.MethodName)) ∈ lw_tbl := ai_in_at 1748 (by decide +kernel)
set_option maxRecDepth 100000 in
theorem tw_1611 : (Cond.code ({ cls := "PathsKeptModel", name := "grown", desc := "(III)V" } : Jvm.MethodName) prog_13_method_34_code (4 : Nat) (Option.none : Option Jvm.ClassFile.FieldType)) ∈ lw_tbl := ai_in_at 1734 (by decide +kernel)
set_option maxRecDepth 100000 in
theorem tw_1608 : (Cond.methodLink "PathsKeptModel" (333 : Nat) ({ cls := "PathsKeptModel", name := "grown", desc := "(III)V" } : Jvm.MethodName)) ∈ lw_tbl := ai_in_at 1731 (by decide +kernel)
set_option maxRecDepth 100000 in
theorem tw_1610 : (Cond.instanceMethod ({ cls := "PathsKeptModel", name := "grown", desc := "(III)V" } : Jvm.MethodName)) ∈ lw_tbl := ai_in_at 1733 (by decide +kernel)
set_option maxRecDepth 100000 in
theorem tw_1257 : (Cond.fieldLink "PathsKeptModel" (337 : Nat) "PathsKeptModel" "brackets" "I") ∈ lw_tbl := ai_in_at 1380 (by decide +kernel)
set_option maxRecDepth 100000 in
theorem tw_1595 : (Cond.code ({ cls := "PathsKeptModel", name := "waitsFor", desc := "(I)V" } : Jvm.MethodName) prog_13_method_38_code (2 : Nat) (Option.none : Option Jvm.ClassFile.FieldType)) ∈ lw_tbl := ai_in_at 1718 (by decide +kernel)
set_option maxRecDepth 100000 in
theorem tw_1592 : (Cond.methodLink "PathsKeptModel" (340 : Nat) ({ cls := "PathsKeptModel", name := "waitsFor", desc := "(I)V" } : Jvm.MethodName)) ∈ lw_tbl := ai_in_at 1715 (by decide +kernel)
set_option maxRecDepth 100000 in
theorem tw_1594 : (Cond.instanceMethod ({ cls := "PathsKeptModel", name := "waitsFor", desc := "(I)V" } : Jvm.MethodName)) ∈ lw_tbl := ai_in_at 1717 (by decide +kernel)
set_option maxRecDepth 100000 in
theorem tw_1260 : (Cond.fieldLink "PathsKeptModel" (344 : Nat) "PathsKeptModel" "mayNot" "Z") ∈ lw_tbl := ai_in_at 1383 (by decide +kernel)
set_option maxRecDepth 100000 in
theorem tw_1599 : (Cond.code ({ cls := "PathsKeptModel", name := "isKey", desc := "(I)Z" } : Jvm.MethodName) prog_13_method_13_code (2 : Nat) (Option.some Jvm.ClassFile.FieldType.boolean)) ∈ lw_tbl := ai_in_at 1722 (by decide +kernel)
set_option maxRecDepth 100000 in
theorem tw_1596 : (Cond.methodLink "PathsKeptModel" (348 : Nat) ({ cls := "PathsKeptModel", name := "isKey", desc := "(I)Z" } : Jvm.MethodName)) ∈ lw_tbl := ai_in_at 1719 (by decide +kernel)
set_option maxRecDepth 100000 in
theorem tw_1598 : (Cond.instanceMethod ({ cls := "PathsKeptModel", name := "isKey", desc := "(I)Z" } : Jvm.MethodName)) ∈ lw_tbl := ai_in_at 1721 (by decide +kernel)
set_option maxRecDepth 100000 in
theorem tw_1603 : (Cond.code ({ cls := "PathsKeptModel", name := "isCounted", desc := "()Z" } : Jvm.MethodName) prog_13_method_37_code (1 : Nat) (Option.some Jvm.ClassFile.FieldType.boolean)) ∈ lw_tbl := ai_in_at 1726 (by decide +kernel)
set_option maxRecDepth 100000 in
theorem tw_1600 : (Cond.methodLink "PathsKeptModel" (351 : Nat) ({ cls := "PathsKeptModel", name := "isCounted", desc := "()Z" } : Jvm.MethodName)) ∈ lw_tbl := ai_in_at 1723 (by decide +kernel)
set_option maxRecDepth 100000 in
theorem tw_1602 : (Cond.instanceMethod ({ cls := "PathsKeptModel", name := "isCounted", desc := "()Z" } : Jvm.MethodName)) ∈ lw_tbl := ai_in_at 1725 (by decide +kernel)
