/-! ===== the words that the operations use, by their places in the table ===== -/
set_option maxRecDepth 100000 in
theorem tw_408 : (Cond.fieldLink "PathsKept$Ways" (24 : Nat) "PathsKept$Ways" "pick" "[I") ∈ lw_tbl := ts_2 (ai_nth_mem 168 rfl)
set_option maxRecDepth 100000 in
theorem tw_409 : (Cond.fieldLink "PathsKept$Ways" (27 : Nat) "PathsKept$Ways" "bestPick" "[I") ∈ lw_tbl := ts_2 (ai_nth_mem 169 rfl)
set_option maxRecDepth 100000 in
theorem tw_410 : (Cond.fieldLinkNest "PathsKept" (296 : Nat) "PathsKept$Ways" "bestPick" "[I" "PathsKept") ∈ lw_tbl := ts_2 (ai_nth_mem 170 rfl)
set_option maxRecDepth 100000 in
theorem tw_411 : (Cond.fieldLink "PathsKept$Ways" (119 : Nat) "PathsKept$Ways" "bestSum" "I") ∈ lw_tbl := ts_2 (ai_nth_mem 171 rfl)
set_option maxRecDepth 100000 in
theorem tw_412 : (Cond.fieldLinkNest "PathsKept" (293 : Nat) "PathsKept$Ways" "bestSum" "I" "PathsKept") ∈ lw_tbl := ts_2 (ai_nth_mem 172 rfl)
set_option maxRecDepth 100000 in
theorem tw_428 : (Cond.classLink "PathsKept" (68 : Nat) "PathsKept$Game") ∈ lw_tbl := ts_2 (ai_nth_mem 188 rfl)
set_option maxRecDepth 100000 in
theorem tw_429 : (Cond.instantiable "PathsKept$Game" (3 : Nat)) ∈ lw_tbl := ts_2 (ai_nth_mem 189 rfl)
set_option maxRecDepth 100000 in
theorem tw_430 : (Cond.methodLinkNest "PathsKept" (70 : Nat) ({ cls := "PathsKept$Game", name := "<init>", desc := "()V" } : Jvm.MethodName) "PathsKept") ∈ lw_tbl := ts_2 (ai_nth_mem 190 rfl)
set_option maxRecDepth 100000 in
theorem tw_431 : (Cond.instanceMethod ({ cls := "PathsKept$Game", name := "<init>", desc := "()V" } : Jvm.MethodName)) ∈ lw_tbl := ts_2 (ai_nth_mem 191 rfl)
set_option maxRecDepth 100000 in
theorem tw_432 : (Cond.code ({ cls := "PathsKept$Game", name := "<init>", desc := "()V" } : Jvm.MethodName) prog_3_method_1_code (1 : Nat) (Option.none : Option Jvm.ClassFile.FieldType)) ∈ lw_tbl := ts_2 (ai_nth_mem 192 rfl)
set_option maxRecDepth 100000 in
theorem tw_433 : (Cond.methodLink "PathsKept$Game" (3 : Nat) ({ cls := "java/lang/Object", name := "<init>", desc := "()V" } : Jvm.MethodName)) ∈ lw_tbl := ts_2 (ai_nth_mem 193 rfl)
set_option maxRecDepth 100000 in
theorem tw_434 : (Cond.fieldLink "PathsKept$Game" (9 : Nat) "PathsKept$Game" "leads" "[Z") ∈ lw_tbl := ts_2 (ai_nth_mem 194 rfl)
set_option maxRecDepth 100000 in
theorem tw_435 : (Cond.fieldLink "PathsKept$Game" (15 : Nat) "PathsKept$Game" "winners" "[I") ∈ lw_tbl := ts_2 (ai_nth_mem 195 rfl)
set_option maxRecDepth 100000 in
theorem tw_436 : (Cond.fieldLink "PathsKept$Game" (25 : Nat) "PathsKept$Game" "kept" "I") ∈ lw_tbl := ts_2 (ai_nth_mem 196 rfl)
set_option maxRecDepth 100000 in
theorem tw_444 : (Cond.fieldLink "PathsKept" (9 : Nat) "PathsKept" "tape" "[B") ∈ lw_tbl := ts_2 (ai_nth_mem 204 rfl)
set_option maxRecDepth 100000 in
theorem tw_445 : (Cond.fieldLink "PathsKept" (75 : Nat) "PathsKept" "tapeSize" "I") ∈ lw_tbl := ts_2 (ai_nth_mem 205 rfl)
set_option maxRecDepth 100000 in
theorem tw_446 : (Cond.fieldLink "PathsKept" (16 : Nat) "PathsKept" "reader" "LPathsKept$Reader;") ∈ lw_tbl := ts_2 (ai_nth_mem 206 rfl)
set_option maxRecDepth 100000 in
theorem tw_447 : (Cond.fieldLink "PathsKept" (23 : Nat) "PathsKept" "told" "LPathsKept$Told;") ∈ lw_tbl := ts_2 (ai_nth_mem 207 rfl)
set_option maxRecDepth 100000 in
theorem tw_448 : (Cond.fieldLink "PathsKept" (27 : Nat) "PathsKept" "draft" "LPathsKept$Told;") ∈ lw_tbl := ts_2 (ai_nth_mem 208 rfl)
set_option maxRecDepth 100000 in
theorem tw_449 : (Cond.fieldLink "PathsKept" (33 : Nat) "PathsKept" "now" "LPathsKept$Standing;") ∈ lw_tbl := ts_2 (ai_nth_mem 209 rfl)
set_option maxRecDepth 100000 in
theorem tw_450 : (Cond.fieldLink "PathsKept" (37 : Nat) "PathsKept" "scratch" "LPathsKept$Standing;") ∈ lw_tbl := ts_2 (ai_nth_mem 210 rfl)
set_option maxRecDepth 100000 in
theorem tw_451 : (Cond.fieldLink "PathsKept" (40 : Nat) "PathsKept" "image" "LPathsKept$Standing;") ∈ lw_tbl := ts_2 (ai_nth_mem 211 rfl)
set_option maxRecDepth 100000 in
theorem tw_452 : (Cond.fieldLink "PathsKept" (96 : Nat) "PathsKept" "imaged" "Z") ∈ lw_tbl := ts_2 (ai_nth_mem 212 rfl)
set_option maxRecDepth 100000 in
theorem tw_453 : (Cond.fieldLink "PathsKept" (43 : Nat) "PathsKept" "past" "[LPathsKept$Standing;") ∈ lw_tbl := ts_2 (ai_nth_mem 213 rfl)
set_option maxRecDepth 100000 in
theorem tw_454 : (Cond.fieldLink "PathsKept" (100 : Nat) "PathsKept" "pastSize" "I") ∈ lw_tbl := ts_2 (ai_nth_mem 214 rfl)
set_option maxRecDepth 100000 in
theorem tw_455 : (Cond.fieldLink "PathsKept" (50 : Nat) "PathsKept" "days" "LPathsKept$Days;") ∈ lw_tbl := ts_2 (ai_nth_mem 215 rfl)
set_option maxRecDepth 100000 in
theorem tw_456 : (Cond.fieldLink "PathsKept" (57 : Nat) "PathsKept" "seen" "LPathsKept$Seen;") ∈ lw_tbl := ts_2 (ai_nth_mem 216 rfl)
set_option maxRecDepth 100000 in
theorem tw_457 : (Cond.fieldLink "PathsKept" (64 : Nat) "PathsKept" "ways" "LPathsKept$Ways;") ∈ lw_tbl := ts_2 (ai_nth_mem 217 rfl)
set_option maxRecDepth 100000 in
theorem tw_458 : (Cond.fieldLink "PathsKept" (71 : Nat) "PathsKept" "squireGame" "LPathsKept$Game;") ∈ lw_tbl := ts_2 (ai_nth_mem 218 rfl)
set_option maxRecDepth 100000 in
theorem tw_490 : (Cond.methodLink "PathsKeptLaw" (21 : Nat) ({ cls := "PathsKept", name := "feed", desc := "(IIIII)I" } : Jvm.MethodName)) ∈ lw_tbl := ts_3 (ai_nth_mem 10 rfl)
set_option maxRecDepth 100000 in
theorem tw_491 : (Cond.instanceMethod ({ cls := "PathsKept", name := "feed", desc := "(IIIII)I" } : Jvm.MethodName)) ∈ lw_tbl := ts_3 (ai_nth_mem 11 rfl)
set_option maxRecDepth 100000 in
theorem tw_492 : (Cond.selects "PathsKept" ({ cls := "PathsKept", name := "feed", desc := "(IIIII)I" } : Jvm.MethodName) ({ cls := "PathsKept", name := "feed", desc := "(IIIII)I" } : Jvm.MethodName)) ∈ lw_tbl := ts_3 (ai_nth_mem 12 rfl)
set_option maxRecDepth 100000 in
theorem tw_493 : (Cond.code ({ cls := "PathsKept", name := "feed", desc := "(IIIII)I" } : Jvm.MethodName) prog_1_method_2_code (6 : Nat) (Option.some Jvm.ClassFile.FieldType.int)) ∈ lw_tbl := ts_3 (ai_nth_mem 13 rfl)
set_option maxRecDepth 100000 in
theorem tw_494 : (Cond.methodLink "PathsKept" (79 : Nat) ({ cls := "PathsKept", name := "putFour", desc := "(I)V" } : Jvm.MethodName)) ∈ lw_tbl := ts_3 (ai_nth_mem 14 rfl)
set_option maxRecDepth 100000 in
theorem tw_496 : (Cond.instanceMethod ({ cls := "PathsKept", name := "putFour", desc := "(I)V" } : Jvm.MethodName)) ∈ lw_tbl := ts_3 (ai_nth_mem 16 rfl)
set_option maxRecDepth 100000 in
theorem tw_497 : (Cond.code ({ cls := "PathsKept", name := "putFour", desc := "(I)V" } : Jvm.MethodName) prog_1_method_3_code (3 : Nat) (Option.none : Option Jvm.ClassFile.FieldType)) ∈ lw_tbl := ts_3 (ai_nth_mem 17 rfl)
set_option maxRecDepth 100000 in
theorem tw_498 : (Cond.methodLink "PathsKeptLaw" (26 : Nat) ({ cls := "PathsKept", name := "text", desc := "(I)I" } : Jvm.MethodName)) ∈ lw_tbl := ts_3 (ai_nth_mem 18 rfl)
set_option maxRecDepth 100000 in
theorem tw_499 : (Cond.instanceMethod ({ cls := "PathsKept", name := "text", desc := "(I)I" } : Jvm.MethodName)) ∈ lw_tbl := ts_3 (ai_nth_mem 19 rfl)
set_option maxRecDepth 100000 in
theorem tw_500 : (Cond.selects "PathsKept" ({ cls := "PathsKept", name := "text", desc := "(I)I" } : Jvm.MethodName) ({ cls := "PathsKept", name := "text", desc := "(I)I" } : Jvm.MethodName)) ∈ lw_tbl := ts_3 (ai_nth_mem 20 rfl)
set_option maxRecDepth 100000 in
theorem tw_501 : (Cond.codeWith ({ cls := "PathsKept", name := "text", desc := "(I)I" } : Jvm.MethodName) prog_1_method_4_code (3 : Nat) (Option.some Jvm.ClassFile.FieldType.int) [((20 : Nat), (36 : Nat), (39 : Nat), (87 : Nat))]) ∈ lw_tbl := ts_3 (ai_nth_mem 21 rfl)
set_option maxRecDepth 100000 in
theorem tw_503 : (Cond.methodLink "PathsKept" (83 : Nat) ({ cls := "PathsKept$Reader", name := "readText", desc := "([BILPathsKept$Told;)V" } : Jvm.MethodName)) ∈ lw_tbl := ts_3 (ai_nth_mem 23 rfl)
set_option maxRecDepth 100000 in
theorem tw_504 : (Cond.instanceMethod ({ cls := "PathsKept$Reader", name := "readText", desc := "([BILPathsKept$Told;)V" } : Jvm.MethodName)) ∈ lw_tbl := ts_3 (ai_nth_mem 24 rfl)
set_option maxRecDepth 100000 in
theorem tw_505 : (Cond.selects "PathsKept$Reader" ({ cls := "PathsKept$Reader", name := "readText", desc := "([BILPathsKept$Told;)V" } : Jvm.MethodName) ({ cls := "PathsKept$Reader", name := "readText", desc := "([BILPathsKept$Told;)V" } : Jvm.MethodName)) ∈ lw_tbl := ts_3 (ai_nth_mem 25 rfl)
set_option maxRecDepth 100000 in
theorem tw_506 : (Cond.code ({ cls := "PathsKept$Reader", name := "readText", desc := "([BILPathsKept$Told;)V" } : Jvm.MethodName) prog_5_method_2_code (5 : Nat) (Option.none : Option Jvm.ClassFile.FieldType)) ∈ lw_tbl := ts_3 (ai_nth_mem 26 rfl)
set_option maxRecDepth 100000 in
theorem tw_507 : (Cond.methodLink "PathsKept$Reader" (26 : Nat) ({ cls := "PathsKept$Told", name := "empty", desc := "()V" } : Jvm.MethodName)) ∈ lw_tbl := ts_3 (ai_nth_mem 27 rfl)
set_option maxRecDepth 100000 in
theorem tw_508 : (Cond.instanceMethod ({ cls := "PathsKept$Told", name := "empty", desc := "()V" } : Jvm.MethodName)) ∈ lw_tbl := ts_3 (ai_nth_mem 28 rfl)
set_option maxRecDepth 100000 in
theorem tw_509 : (Cond.selects "PathsKept$Told" ({ cls := "PathsKept$Told", name := "empty", desc := "()V" } : Jvm.MethodName) ({ cls := "PathsKept$Told", name := "empty", desc := "()V" } : Jvm.MethodName)) ∈ lw_tbl := ts_3 (ai_nth_mem 29 rfl)
set_option maxRecDepth 100000 in
theorem tw_510 : (Cond.code ({ cls := "PathsKept$Told", name := "empty", desc := "()V" } : Jvm.MethodName) prog_10_method_2_code (1 : Nat) (Option.none : Option Jvm.ClassFile.FieldType)) ∈ lw_tbl := ts_3 (ai_nth_mem 30 rfl)
set_option maxRecDepth 100000 in
theorem tw_511 : (Cond.methodLink "PathsKept$Told" (46 : Nat) ({ cls := "PathsKept$Laws", name := "empty", desc := "()V" } : Jvm.MethodName)) ∈ lw_tbl := ts_3 (ai_nth_mem 31 rfl)
set_option maxRecDepth 100000 in
theorem tw_512 : (Cond.instanceMethod ({ cls := "PathsKept$Laws", name := "empty", desc := "()V" } : Jvm.MethodName)) ∈ lw_tbl := ts_3 (ai_nth_mem 32 rfl)
set_option maxRecDepth 100000 in
theorem tw_513 : (Cond.selects "PathsKept$Laws" ({ cls := "PathsKept$Laws", name := "empty", desc := "()V" } : Jvm.MethodName) ({ cls := "PathsKept$Laws", name := "empty", desc := "()V" } : Jvm.MethodName)) ∈ lw_tbl := ts_3 (ai_nth_mem 33 rfl)
set_option maxRecDepth 100000 in
theorem tw_514 : (Cond.code ({ cls := "PathsKept$Laws", name := "empty", desc := "()V" } : Jvm.MethodName) prog_4_method_2_code (1 : Nat) (Option.none : Option Jvm.ClassFile.FieldType)) ∈ lw_tbl := ts_3 (ai_nth_mem 34 rfl)
set_option maxRecDepth 100000 in
theorem tw_515 : (Cond.methodLink "PathsKept$Laws" (35 : Nat) ({ cls := "java/util/Arrays", name := "fill", desc := "([II)V" } : Jvm.MethodName)) ∈ lw_tbl := ts_3 (ai_nth_mem 35 rfl)
set_option maxRecDepth 100000 in
theorem tw_516 : (Cond.static ({ cls := "java/util/Arrays", name := "fill", desc := "([II)V" } : Jvm.MethodName)) ∈ lw_tbl := ts_3 (ai_nth_mem 36 rfl)
set_option maxRecDepth 100000 in
theorem tw_517 : (Cond.code ({ cls := "java/util/Arrays", name := "fill", desc := "([II)V" } : Jvm.MethodName) prog_30_method_103_code (4 : Nat) (Option.none : Option Jvm.ClassFile.FieldType)) ∈ lw_tbl := ts_3 (ai_nth_mem 37 rfl)
set_option maxRecDepth 100000 in
theorem tw_518 : (Cond.methodLink "PathsKept$Reader" (37 : Nat) ({ cls := "PathsKept$Tokens", name := "begin", desc := "([BI)V" } : Jvm.MethodName)) ∈ lw_tbl := ts_3 (ai_nth_mem 38 rfl)
set_option maxRecDepth 100000 in
theorem tw_519 : (Cond.instanceMethod ({ cls := "PathsKept$Tokens", name := "begin", desc := "([BI)V" } : Jvm.MethodName)) ∈ lw_tbl := ts_3 (ai_nth_mem 39 rfl)
set_option maxRecDepth 100000 in
theorem tw_520 : (Cond.selects "PathsKept$Tokens" ({ cls := "PathsKept$Tokens", name := "begin", desc := "([BI)V" } : Jvm.MethodName) ({ cls := "PathsKept$Tokens", name := "begin", desc := "([BI)V" } : Jvm.MethodName)) ∈ lw_tbl := ts_3 (ai_nth_mem 40 rfl)
set_option maxRecDepth 100000 in
theorem tw_521 : (Cond.code ({ cls := "PathsKept$Tokens", name := "begin", desc := "([BI)V" } : Jvm.MethodName) prog_9_method_3_code (3 : Nat) (Option.none : Option Jvm.ClassFile.FieldType)) ∈ lw_tbl := ts_3 (ai_nth_mem 41 rfl)
set_option maxRecDepth 100000 in
theorem tw_522 : (Cond.methodLink "PathsKept$Tokens" (29 : Nat) ({ cls := "java/lang/Math", name := "min", desc := "(II)I" } : Jvm.MethodName)) ∈ lw_tbl := ts_3 (ai_nth_mem 42 rfl)
set_option maxRecDepth 100000 in
theorem tw_523 : (Cond.static ({ cls := "java/lang/Math", name := "min", desc := "(II)I" } : Jvm.MethodName)) ∈ lw_tbl := ts_3 (ai_nth_mem 43 rfl)
set_option maxRecDepth 100000 in
theorem tw_524 : (Cond.code ({ cls := "java/lang/Math", name := "min", desc := "(II)I" } : Jvm.MethodName) prog_21_method_69_code (2 : Nat) (Option.some Jvm.ClassFile.FieldType.int)) ∈ lw_tbl := ts_3 (ai_nth_mem 44 rfl)
set_option maxRecDepth 100000 in
theorem tw_525 : (Cond.methodLink "PathsKept$Tokens" (42 : Nat) ({ cls := "PathsKept$Tokens", name := "advance", desc := "()V" } : Jvm.MethodName)) ∈ lw_tbl := ts_3 (ai_nth_mem 45 rfl)
set_option maxRecDepth 100000 in
theorem tw_526 : (Cond.instanceMethod ({ cls := "PathsKept$Tokens", name := "advance", desc := "()V" } : Jvm.MethodName)) ∈ lw_tbl := ts_3 (ai_nth_mem 46 rfl)
set_option maxRecDepth 100000 in
theorem tw_527 : (Cond.selects "PathsKept$Tokens" ({ cls := "PathsKept$Tokens", name := "advance", desc := "()V" } : Jvm.MethodName) ({ cls := "PathsKept$Tokens", name := "advance", desc := "()V" } : Jvm.MethodName)) ∈ lw_tbl := ts_3 (ai_nth_mem 47 rfl)
set_option maxRecDepth 100000 in
theorem tw_528 : (Cond.code ({ cls := "PathsKept$Tokens", name := "advance", desc := "()V" } : Jvm.MethodName) prog_9_method_4_code (1 : Nat) (Option.none : Option Jvm.ClassFile.FieldType)) ∈ lw_tbl := ts_3 (ai_nth_mem 48 rfl)
set_option maxRecDepth 100000 in
theorem tw_529 : (Cond.methodLink "PathsKept$Tokens" (54 : Nat) ({ cls := "PathsKept$Tokens", name := "readWord", desc := "()V" } : Jvm.MethodName)) ∈ lw_tbl := ts_3 (ai_nth_mem 49 rfl)
set_option maxRecDepth 100000 in
theorem tw_531 : (Cond.instanceMethod ({ cls := "PathsKept$Tokens", name := "readWord", desc := "()V" } : Jvm.MethodName)) ∈ lw_tbl := ts_3 (ai_nth_mem 51 rfl)
set_option maxRecDepth 100000 in
theorem tw_532 : (Cond.code ({ cls := "PathsKept$Tokens", name := "readWord", desc := "()V" } : Jvm.MethodName) prog_9_method_5_code (3 : Nat) (Option.none : Option Jvm.ClassFile.FieldType)) ∈ lw_tbl := ts_3 (ai_nth_mem 52 rfl)
set_option maxRecDepth 100000 in
theorem tw_533 : (Cond.methodLink "PathsKept$Tokens" (57 : Nat) ({ cls := "PathsKept$Tokens", name := "readDigits", desc := "()V" } : Jvm.MethodName)) ∈ lw_tbl := ts_3 (ai_nth_mem 53 rfl)
set_option maxRecDepth 100000 in
theorem tw_535 : (Cond.instanceMethod ({ cls := "PathsKept$Tokens", name := "readDigits", desc := "()V" } : Jvm.MethodName)) ∈ lw_tbl := ts_3 (ai_nth_mem 55 rfl)
set_option maxRecDepth 100000 in
theorem tw_536 : (Cond.code ({ cls := "PathsKept$Tokens", name := "readDigits", desc := "()V" } : Jvm.MethodName) prog_9_method_6_code (1 : Nat) (Option.none : Option Jvm.ClassFile.FieldType)) ∈ lw_tbl := ts_3 (ai_nth_mem 56 rfl)
set_option maxRecDepth 100000 in
theorem tw_537 : (Cond.constant "PathsKept$Tokens" (66 : Nat) (100000 : Int32)) ∈ lw_tbl := ts_3 (ai_nth_mem 57 rfl)
set_option maxRecDepth 100000 in
theorem tw_538 : (Cond.methodLink "PathsKept$Tokens" (60 : Nat) ({ cls := "PathsKept$Tokens", name := "readComparison", desc := "()I" } : Jvm.MethodName)) ∈ lw_tbl := ts_3 (ai_nth_mem 58 rfl)
set_option maxRecDepth 100000 in
theorem tw_540 : (Cond.instanceMethod ({ cls := "PathsKept$Tokens", name := "readComparison", desc := "()I" } : Jvm.MethodName)) ∈ lw_tbl := ts_3 (ai_nth_mem 60 rfl)
set_option maxRecDepth 100000 in
theorem tw_541 : (Cond.code ({ cls := "PathsKept$Tokens", name := "readComparison", desc := "()I" } : Jvm.MethodName) prog_9_method_8_code (3 : Nat) (Option.some Jvm.ClassFile.FieldType.int)) ∈ lw_tbl := ts_3 (ai_nth_mem 61 rfl)
set_option maxRecDepth 100000 in
theorem tw_542 : (Cond.methodLink "PathsKept$Tokens" (63 : Nat) ({ cls := "PathsKept$Tokens", name := "readSign", desc := "()I" } : Jvm.MethodName)) ∈ lw_tbl := ts_3 (ai_nth_mem 62 rfl)
set_option maxRecDepth 100000 in
theorem tw_544 : (Cond.instanceMethod ({ cls := "PathsKept$Tokens", name := "readSign", desc := "()I" } : Jvm.MethodName)) ∈ lw_tbl := ts_3 (ai_nth_mem 64 rfl)
set_option maxRecDepth 100000 in
theorem tw_545 : (Cond.code ({ cls := "PathsKept$Tokens", name := "readSign", desc := "()I" } : Jvm.MethodName) prog_9_method_7_code (2 : Nat) (Option.some Jvm.ClassFile.FieldType.int)) ∈ lw_tbl := ts_3 (ai_nth_mem 65 rfl)
set_option maxRecDepth 100000 in
theorem tw_546 : (Cond.methodLink "PathsKept$Reader" (44 : Nat) ({ cls := "PathsKept$Reader", name := "readLine", desc := "()V" } : Jvm.MethodName)) ∈ lw_tbl := ts_3 (ai_nth_mem 66 rfl)
set_option maxRecDepth 100000 in
theorem tw_548 : (Cond.instanceMethod ({ cls := "PathsKept$Reader", name := "readLine", desc := "()V" } : Jvm.MethodName)) ∈ lw_tbl := ts_3 (ai_nth_mem 68 rfl)
set_option maxRecDepth 100000 in
theorem tw_549 : (Cond.code ({ cls := "PathsKept$Reader", name := "readLine", desc := "()V" } : Jvm.MethodName) prog_5_method_5_code (1 : Nat) (Option.none : Option Jvm.ClassFile.FieldType)) ∈ lw_tbl := ts_3 (ai_nth_mem 69 rfl)
set_option maxRecDepth 100000 in
theorem tw_550 : (Cond.methodLink "PathsKept$Reader" (74 : Nat) ({ cls := "PathsKept$Reader", name := "beginRow", desc := "(LPathsKept$Table;)V" } : Jvm.MethodName)) ∈ lw_tbl := ts_3 (ai_nth_mem 70 rfl)
set_option maxRecDepth 100000 in
theorem tw_552 : (Cond.instanceMethod ({ cls := "PathsKept$Reader", name := "beginRow", desc := "(LPathsKept$Table;)V" } : Jvm.MethodName)) ∈ lw_tbl := ts_3 (ai_nth_mem 72 rfl)
set_option maxRecDepth 100000 in
theorem tw_553 : (Cond.code ({ cls := "PathsKept$Reader", name := "beginRow", desc := "(LPathsKept$Table;)V" } : Jvm.MethodName) prog_5_method_6_code (2 : Nat) (Option.none : Option Jvm.ClassFile.FieldType)) ∈ lw_tbl := ts_3 (ai_nth_mem 73 rfl)
set_option maxRecDepth 100000 in
theorem tw_554 : (Cond.methodLink "PathsKept$Reader" (118 : Nat) ({ cls := "PathsKept$Table", name := "isFull", desc := "()Z" } : Jvm.MethodName)) ∈ lw_tbl := ts_3 (ai_nth_mem 74 rfl)
set_option maxRecDepth 100000 in
theorem tw_555 : (Cond.instanceMethod ({ cls := "PathsKept$Table", name := "isFull", desc := "()Z" } : Jvm.MethodName)) ∈ lw_tbl := ts_3 (ai_nth_mem 75 rfl)
set_option maxRecDepth 100000 in
theorem tw_556 : (Cond.selects "PathsKept$Table" ({ cls := "PathsKept$Table", name := "isFull", desc := "()Z" } : Jvm.MethodName) ({ cls := "PathsKept$Table", name := "isFull", desc := "()Z" } : Jvm.MethodName)) ∈ lw_tbl := ts_3 (ai_nth_mem 76 rfl)
set_option maxRecDepth 100000 in
theorem tw_557 : (Cond.code ({ cls := "PathsKept$Table", name := "isFull", desc := "()Z" } : Jvm.MethodName) prog_8_method_2_code (1 : Nat) (Option.some Jvm.ClassFile.FieldType.boolean)) ∈ lw_tbl := ts_3 (ai_nth_mem 77 rfl)
set_option maxRecDepth 100000 in
theorem tw_558 : (Cond.methodLink "PathsKept$Reader" (64 : Nat) ({ cls := "PathsKept$Reader", name := "fail", desc := "(I)V" } : Jvm.MethodName)) ∈ lw_tbl := ts_3 (ai_nth_mem 78 rfl)
set_option maxRecDepth 100000 in
theorem tw_560 : (Cond.instanceMethod ({ cls := "PathsKept$Reader", name := "fail", desc := "(I)V" } : Jvm.MethodName)) ∈ lw_tbl := ts_3 (ai_nth_mem 80 rfl)
set_option maxRecDepth 100000 in
theorem tw_561 : (Cond.code ({ cls := "PathsKept$Reader", name := "fail", desc := "(I)V" } : Jvm.MethodName) prog_5_method_3_code (2 : Nat) (Option.none : Option Jvm.ClassFile.FieldType)) ∈ lw_tbl := ts_3 (ai_nth_mem 81 rfl)
set_option maxRecDepth 100000 in
theorem tw_629 : (Cond.methodLink "PathsKept$Reader" (67 : Nat) ({ cls := "PathsKept$Tokens", name := "advance", desc := "()V" } : Jvm.MethodName)) ∈ lw_tbl := ts_3 (ai_nth_mem 149 rfl)
set_option maxRecDepth 100000 in
theorem tw_630 : (Cond.methodLink "PathsKept$Reader" (78 : Nat) ({ cls := "PathsKept$Reader", name := "readNewName", desc := "(LPathsKept$Table;)V" } : Jvm.MethodName)) ∈ lw_tbl := ts_3 (ai_nth_mem 150 rfl)
set_option maxRecDepth 100000 in
theorem tw_632 : (Cond.instanceMethod ({ cls := "PathsKept$Reader", name := "readNewName", desc := "(LPathsKept$Table;)V" } : Jvm.MethodName)) ∈ lw_tbl := ts_3 (ai_nth_mem 152 rfl)
set_option maxRecDepth 100000 in
theorem tw_633 : (Cond.code ({ cls := "PathsKept$Reader", name := "readNewName", desc := "(LPathsKept$Table;)V" } : Jvm.MethodName) prog_5_method_12_code (2 : Nat) (Option.none : Option Jvm.ClassFile.FieldType)) ∈ lw_tbl := ts_3 (ai_nth_mem 153 rfl)
set_option maxRecDepth 100000 in
theorem tw_634 : (Cond.methodLink "PathsKept$Reader" (136 : Nat) ({ cls := "PathsKept$Table", name := "find", desc := "(I)I" } : Jvm.MethodName)) ∈ lw_tbl := ts_3 (ai_nth_mem 154 rfl)
set_option maxRecDepth 100000 in
theorem tw_635 : (Cond.instanceMethod ({ cls := "PathsKept$Table", name := "find", desc := "(I)I" } : Jvm.MethodName)) ∈ lw_tbl := ts_3 (ai_nth_mem 155 rfl)
set_option maxRecDepth 100000 in
theorem tw_636 : (Cond.selects "PathsKept$Table" ({ cls := "PathsKept$Table", name := "find", desc := "(I)I" } : Jvm.MethodName) ({ cls := "PathsKept$Table", name := "find", desc := "(I)I" } : Jvm.MethodName)) ∈ lw_tbl := ts_3 (ai_nth_mem 156 rfl)
set_option maxRecDepth 100000 in
theorem tw_637 : (Cond.code ({ cls := "PathsKept$Table", name := "find", desc := "(I)I" } : Jvm.MethodName) prog_8_method_3_code (3 : Nat) (Option.some Jvm.ClassFile.FieldType.int)) ∈ lw_tbl := ts_3 (ai_nth_mem 157 rfl)
set_option maxRecDepth 100000 in
theorem tw_638 : (Cond.methodLink "PathsKept$Reader" (149 : Nat) ({ cls := "PathsKept$Table", name := "putName", desc := "(I)V" } : Jvm.MethodName)) ∈ lw_tbl := ts_3 (ai_nth_mem 158 rfl)
set_option maxRecDepth 100000 in
theorem tw_639 : (Cond.instanceMethod ({ cls := "PathsKept$Table", name := "putName", desc := "(I)V" } : Jvm.MethodName)) ∈ lw_tbl := ts_3 (ai_nth_mem 159 rfl)
set_option maxRecDepth 100000 in
theorem tw_640 : (Cond.selects "PathsKept$Table" ({ cls := "PathsKept$Table", name := "putName", desc := "(I)V" } : Jvm.MethodName) ({ cls := "PathsKept$Table", name := "putName", desc := "(I)V" } : Jvm.MethodName)) ∈ lw_tbl := ts_3 (ai_nth_mem 160 rfl)
set_option maxRecDepth 100000 in
theorem tw_641 : (Cond.code ({ cls := "PathsKept$Table", name := "putName", desc := "(I)V" } : Jvm.MethodName) prog_8_method_6_code (2 : Nat) (Option.none : Option Jvm.ClassFile.FieldType)) ∈ lw_tbl := ts_3 (ai_nth_mem 161 rfl)
set_option maxRecDepth 100000 in
theorem tw_642 : (Cond.methodLink "PathsKept$Table" (28 : Nat) ({ cls := "PathsKept$Table", name := "isFull", desc := "()Z" } : Jvm.MethodName)) ∈ lw_tbl := ts_3 (ai_nth_mem 162 rfl)
set_option maxRecDepth 100000 in
theorem tw_643 : (Cond.methodLink "PathsKept$Reader" (81 : Nat) ({ cls := "PathsKept$Table", name := "endRow", desc := "()V" } : Jvm.MethodName)) ∈ lw_tbl := ts_3 (ai_nth_mem 163 rfl)
set_option maxRecDepth 100000 in
theorem tw_644 : (Cond.instanceMethod ({ cls := "PathsKept$Table", name := "endRow", desc := "()V" } : Jvm.MethodName)) ∈ lw_tbl := ts_3 (ai_nth_mem 164 rfl)
set_option maxRecDepth 100000 in
theorem tw_645 : (Cond.selects "PathsKept$Table" ({ cls := "PathsKept$Table", name := "endRow", desc := "()V" } : Jvm.MethodName) ({ cls := "PathsKept$Table", name := "endRow", desc := "()V" } : Jvm.MethodName)) ∈ lw_tbl := ts_3 (ai_nth_mem 165 rfl)
set_option maxRecDepth 100000 in
theorem tw_646 : (Cond.code ({ cls := "PathsKept$Table", name := "endRow", desc := "()V" } : Jvm.MethodName) prog_8_method_7_code (1 : Nat) (Option.none : Option Jvm.ClassFile.FieldType)) ∈ lw_tbl := ts_3 (ai_nth_mem 166 rfl)
set_option maxRecDepth 100000 in
theorem tw_647 : (Cond.methodLink "PathsKept$Reader" (86 : Nat) ({ cls := "PathsKept$Reader", name := "readPath", desc := "()V" } : Jvm.MethodName)) ∈ lw_tbl := ts_3 (ai_nth_mem 167 rfl)
set_option maxRecDepth 100000 in
theorem tw_649 : (Cond.instanceMethod ({ cls := "PathsKept$Reader", name := "readPath", desc := "()V" } : Jvm.MethodName)) ∈ lw_tbl := ts_3 (ai_nth_mem 169 rfl)
set_option maxRecDepth 100000 in
theorem tw_650 : (Cond.code ({ cls := "PathsKept$Reader", name := "readPath", desc := "()V" } : Jvm.MethodName) prog_5_method_8_code (3 : Nat) (Option.none : Option Jvm.ClassFile.FieldType)) ∈ lw_tbl := ts_3 (ai_nth_mem 170 rfl)
set_option maxRecDepth 100000 in
theorem tw_651 : (Cond.methodLink "PathsKept$Reader" (125 : Nat) ({ cls := "PathsKept$Reader", name := "readTold", desc := "(LPathsKept$Table;)I" } : Jvm.MethodName)) ∈ lw_tbl := ts_3 (ai_nth_mem 171 rfl)
set_option maxRecDepth 100000 in
theorem tw_653 : (Cond.instanceMethod ({ cls := "PathsKept$Reader", name := "readTold", desc := "(LPathsKept$Table;)I" } : Jvm.MethodName)) ∈ lw_tbl := ts_3 (ai_nth_mem 173 rfl)
set_option maxRecDepth 100000 in
theorem tw_654 : (Cond.code ({ cls := "PathsKept$Reader", name := "readTold", desc := "(LPathsKept$Table;)I" } : Jvm.MethodName) prog_5_method_13_code (3 : Nat) (Option.some Jvm.ClassFile.FieldType.int)) ∈ lw_tbl := ts_3 (ai_nth_mem 174 rfl)
set_option maxRecDepth 100000 in
theorem tw_655 : (Cond.methodLink "PathsKept$Reader" (129 : Nat) ({ cls := "PathsKept$Table", name := "put", desc := "(II)V" } : Jvm.MethodName)) ∈ lw_tbl := ts_3 (ai_nth_mem 175 rfl)
set_option maxRecDepth 100000 in
theorem tw_656 : (Cond.instanceMethod ({ cls := "PathsKept$Table", name := "put", desc := "(II)V" } : Jvm.MethodName)) ∈ lw_tbl := ts_3 (ai_nth_mem 176 rfl)
set_option maxRecDepth 100000 in
theorem tw_657 : (Cond.selects "PathsKept$Table" ({ cls := "PathsKept$Table", name := "put", desc := "(II)V" } : Jvm.MethodName) ({ cls := "PathsKept$Table", name := "put", desc := "(II)V" } : Jvm.MethodName)) ∈ lw_tbl := ts_3 (ai_nth_mem 177 rfl)
set_option maxRecDepth 100000 in
theorem tw_658 : (Cond.code ({ cls := "PathsKept$Table", name := "put", desc := "(II)V" } : Jvm.MethodName) prog_8_method_5_code (3 : Nat) (Option.none : Option Jvm.ClassFile.FieldType)) ∈ lw_tbl := ts_3 (ai_nth_mem 178 rfl)
set_option maxRecDepth 100000 in
theorem tw_659 : (Cond.methodLink "PathsKept$Reader" (101 : Nat) ({ cls := "PathsKept$Reader", name := "readNumber", desc := "(II)I" } : Jvm.MethodName)) ∈ lw_tbl := ts_3 (ai_nth_mem 179 rfl)
set_option maxRecDepth 100000 in
theorem tw_661 : (Cond.instanceMethod ({ cls := "PathsKept$Reader", name := "readNumber", desc := "(II)I" } : Jvm.MethodName)) ∈ lw_tbl := ts_3 (ai_nth_mem 181 rfl)
set_option maxRecDepth 100000 in
theorem tw_662 : (Cond.code ({ cls := "PathsKept$Reader", name := "readNumber", desc := "(II)I" } : Jvm.MethodName) prog_5_method_14_code (4 : Nat) (Option.some Jvm.ClassFile.FieldType.int)) ∈ lw_tbl := ts_3 (ai_nth_mem 182 rfl)
set_option maxRecDepth 100000 in
theorem tw_663 : (Cond.methodLinkNest "PathsKept$Reader" (152 : Nat) ({ cls := "PathsKept", name := "isWithin", desc := "(III)Z" } : Jvm.MethodName) "PathsKept") ∈ lw_tbl := ts_3 (ai_nth_mem 183 rfl)
set_option maxRecDepth 100000 in
theorem tw_664 : (Cond.static ({ cls := "PathsKept", name := "isWithin", desc := "(III)Z" } : Jvm.MethodName)) ∈ lw_tbl := ts_3 (ai_nth_mem 184 rfl)
set_option maxRecDepth 100000 in
theorem tw_665 : (Cond.code ({ cls := "PathsKept", name := "isWithin", desc := "(III)Z" } : Jvm.MethodName) prog_1_method_10_code (3 : Nat) (Option.some Jvm.ClassFile.FieldType.boolean)) ∈ lw_tbl := ts_3 (ai_nth_mem 185 rfl)
set_option maxRecDepth 100000 in
theorem tw_666 : (Cond.methodLink "PathsKept$Reader" (89 : Nat) ({ cls := "PathsKept$Reader", name := "readWalker", desc := "()V" } : Jvm.MethodName)) ∈ lw_tbl := ts_3 (ai_nth_mem 186 rfl)
set_option maxRecDepth 100000 in
theorem tw_668 : (Cond.instanceMethod ({ cls := "PathsKept$Reader", name := "readWalker", desc := "()V" } : Jvm.MethodName)) ∈ lw_tbl := ts_3 (ai_nth_mem 188 rfl)
set_option maxRecDepth 100000 in
theorem tw_669 : (Cond.code ({ cls := "PathsKept$Reader", name := "readWalker", desc := "()V" } : Jvm.MethodName) prog_5_method_9_code (2 : Nat) (Option.none : Option Jvm.ClassFile.FieldType)) ∈ lw_tbl := ts_3 (ai_nth_mem 189 rfl)
set_option maxRecDepth 100000 in
theorem tw_670 : (Cond.methodLink "PathsKept$Reader" (92 : Nat) ({ cls := "PathsKept$Reader", name := "readWalk", desc := "()V" } : Jvm.MethodName)) ∈ lw_tbl := ts_3 (ai_nth_mem 190 rfl)
set_option maxRecDepth 100000 in
theorem tw_672 : (Cond.instanceMethod ({ cls := "PathsKept$Reader", name := "readWalk", desc := "()V" } : Jvm.MethodName)) ∈ lw_tbl := ts_3 (ai_nth_mem 192 rfl)
set_option maxRecDepth 100000 in
theorem tw_673 : (Cond.code ({ cls := "PathsKept$Reader", name := "readWalk", desc := "()V" } : Jvm.MethodName) prog_5_method_10_code (2 : Nat) (Option.none : Option Jvm.ClassFile.FieldType)) ∈ lw_tbl := ts_3 (ai_nth_mem 193 rfl)
set_option maxRecDepth 100000 in
theorem tw_674 : (Cond.methodLink "PathsKept$Reader" (95 : Nat) ({ cls := "PathsKept$Reader", name := "readBull", desc := "()V" } : Jvm.MethodName)) ∈ lw_tbl := ts_3 (ai_nth_mem 194 rfl)
set_option maxRecDepth 100000 in
theorem tw_676 : (Cond.instanceMethod ({ cls := "PathsKept$Reader", name := "readBull", desc := "()V" } : Jvm.MethodName)) ∈ lw_tbl := ts_3 (ai_nth_mem 196 rfl)
set_option maxRecDepth 100000 in
theorem tw_677 : (Cond.code ({ cls := "PathsKept$Reader", name := "readBull", desc := "()V" } : Jvm.MethodName) prog_5_method_11_code (2 : Nat) (Option.none : Option Jvm.ClassFile.FieldType)) ∈ lw_tbl := ts_3 (ai_nth_mem 197 rfl)
set_option maxRecDepth 100000 in
theorem tw_678 : (Cond.methodLink "PathsKept$Reader" (98 : Nat) ({ cls := "PathsKept$Reader", name := "beginOnce", desc := "()V" } : Jvm.MethodName)) ∈ lw_tbl := ts_3 (ai_nth_mem 198 rfl)
set_option maxRecDepth 100000 in
theorem tw_680 : (Cond.instanceMethod ({ cls := "PathsKept$Reader", name := "beginOnce", desc := "()V" } : Jvm.MethodName)) ∈ lw_tbl := ts_3 (ai_nth_mem 200 rfl)
set_option maxRecDepth 100000 in
theorem tw_681 : (Cond.code ({ cls := "PathsKept$Reader", name := "beginOnce", desc := "()V" } : Jvm.MethodName) prog_5_method_7_code (2 : Nat) (Option.none : Option Jvm.ClassFile.FieldType)) ∈ lw_tbl := ts_3 (ai_nth_mem 201 rfl)
set_option maxRecDepth 100000 in
theorem tw_682 : (Cond.constant "PathsKept$Reader" (111 : Nat) (99999 : Int32)) ∈ lw_tbl := ts_3 (ai_nth_mem 202 rfl)
set_option maxRecDepth 100000 in
theorem tw_683 : (Cond.methodLink "PathsKept$Reader" (47 : Nat) ({ cls := "PathsKept$Reader", name := "expect", desc := "(I)V" } : Jvm.MethodName)) ∈ lw_tbl := ts_3 (ai_nth_mem 203 rfl)
set_option maxRecDepth 100000 in
theorem tw_685 : (Cond.instanceMethod ({ cls := "PathsKept$Reader", name := "expect", desc := "(I)V" } : Jvm.MethodName)) ∈ lw_tbl := ts_3 (ai_nth_mem 205 rfl)
set_option maxRecDepth 100000 in
theorem tw_686 : (Cond.code ({ cls := "PathsKept$Reader", name := "expect", desc := "(I)V" } : Jvm.MethodName) prog_5_method_4_code (2 : Nat) (Option.none : Option Jvm.ClassFile.FieldType)) ∈ lw_tbl := ts_3 (ai_nth_mem 206 rfl)
set_option maxRecDepth 100000 in
theorem tw_687 : (Cond.methodLink "PathsKept$Reader" (115 : Nat) ({ cls := "PathsKept$Reader", name := "readLaw", desc := "()V" } : Jvm.MethodName)) ∈ lw_tbl := ts_3 (ai_nth_mem 207 rfl)
set_option maxRecDepth 100000 in
theorem tw_689 : (Cond.instanceMethod ({ cls := "PathsKept$Reader", name := "readLaw", desc := "()V" } : Jvm.MethodName)) ∈ lw_tbl := ts_3 (ai_nth_mem 209 rfl)
set_option maxRecDepth 100000 in
theorem tw_690 : (Cond.code ({ cls := "PathsKept$Reader", name := "readLaw", desc := "()V" } : Jvm.MethodName) prog_5_method_15_code (2 : Nat) (Option.none : Option Jvm.ClassFile.FieldType)) ∈ lw_tbl := ts_3 (ai_nth_mem 210 rfl)
set_option maxRecDepth 100000 in
theorem tw_691 : (Cond.methodLink "PathsKept$Reader" (169 : Nat) ({ cls := "PathsKept$Reader", name := "readLevel", desc := "(II)V" } : Jvm.MethodName)) ∈ lw_tbl := ts_3 (ai_nth_mem 211 rfl)
set_option maxRecDepth 100000 in
theorem tw_693 : (Cond.instanceMethod ({ cls := "PathsKept$Reader", name := "readLevel", desc := "(II)V" } : Jvm.MethodName)) ∈ lw_tbl := ts_3 (ai_nth_mem 213 rfl)
set_option maxRecDepth 100000 in
theorem tw_694 : (Cond.code ({ cls := "PathsKept$Reader", name := "readLevel", desc := "(II)V" } : Jvm.MethodName) prog_5_method_16_code (6 : Nat) (Option.none : Option Jvm.ClassFile.FieldType)) ∈ lw_tbl := ts_3 (ai_nth_mem 214 rfl)
set_option maxRecDepth 100000 in
theorem tw_695 : (Cond.methodLink "PathsKept$Reader" (175 : Nat) ({ cls := "PathsKept$Reader", name := "readPart", desc := "(I)V" } : Jvm.MethodName)) ∈ lw_tbl := ts_3 (ai_nth_mem 215 rfl)
set_option maxRecDepth 100000 in
theorem tw_697 : (Cond.instanceMethod ({ cls := "PathsKept$Reader", name := "readPart", desc := "(I)V" } : Jvm.MethodName)) ∈ lw_tbl := ts_3 (ai_nth_mem 217 rfl)
set_option maxRecDepth 100000 in
theorem tw_698 : (Cond.code ({ cls := "PathsKept$Reader", name := "readPart", desc := "(I)V" } : Jvm.MethodName) prog_5_method_18_code (4 : Nat) (Option.none : Option Jvm.ClassFile.FieldType)) ∈ lw_tbl := ts_3 (ai_nth_mem 218 rfl)
set_option maxRecDepth 100000 in
theorem tw_699 : (Cond.methodLink "PathsKept$Reader" (188 : Nat) ({ cls := "PathsKept$Tokens", name := "isName", desc := "(I)Z" } : Jvm.MethodName)) ∈ lw_tbl := ts_3 (ai_nth_mem 219 rfl)
set_option maxRecDepth 100000 in
theorem tw_700 : (Cond.static ({ cls := "PathsKept$Tokens", name := "isName", desc := "(I)Z" } : Jvm.MethodName)) ∈ lw_tbl := ts_3 (ai_nth_mem 220 rfl)
set_option maxRecDepth 100000 in
theorem tw_701 : (Cond.code ({ cls := "PathsKept$Tokens", name := "isName", desc := "(I)Z" } : Jvm.MethodName) prog_9_method_2_code (1 : Nat) (Option.some Jvm.ClassFile.FieldType.boolean)) ∈ lw_tbl := ts_3 (ai_nth_mem 221 rfl)
set_option maxRecDepth 100000 in
theorem tw_702 : (Cond.methodLink "PathsKept$Reader" (184 : Nat) ({ cls := "PathsKept$Reader", name := "takeKnot", desc := "()V" } : Jvm.MethodName)) ∈ lw_tbl := ts_3 (ai_nth_mem 222 rfl)
set_option maxRecDepth 100000 in
theorem tw_704 : (Cond.instanceMethod ({ cls := "PathsKept$Reader", name := "takeKnot", desc := "()V" } : Jvm.MethodName)) ∈ lw_tbl := ts_3 (ai_nth_mem 224 rfl)
set_option maxRecDepth 100000 in
theorem tw_705 : (Cond.code ({ cls := "PathsKept$Reader", name := "takeKnot", desc := "()V" } : Jvm.MethodName) prog_5_method_19_code (1 : Nat) (Option.none : Option Jvm.ClassFile.FieldType)) ∈ lw_tbl := ts_3 (ai_nth_mem 225 rfl)
set_option maxRecDepth 100000 in
theorem tw_706 : (Cond.methodLink "PathsKept$Reader" (187 : Nat) ({ cls := "PathsKept$Laws", name := "put", desc := "(II)V" } : Jvm.MethodName)) ∈ lw_tbl := ts_3 (ai_nth_mem 226 rfl)
set_option maxRecDepth 100000 in
theorem tw_707 : (Cond.instanceMethod ({ cls := "PathsKept$Laws", name := "put", desc := "(II)V" } : Jvm.MethodName)) ∈ lw_tbl := ts_3 (ai_nth_mem 227 rfl)
set_option maxRecDepth 100000 in
theorem tw_708 : (Cond.selects "PathsKept$Laws" ({ cls := "PathsKept$Laws", name := "put", desc := "(II)V" } : Jvm.MethodName) ({ cls := "PathsKept$Laws", name := "put", desc := "(II)V" } : Jvm.MethodName)) ∈ lw_tbl := ts_3 (ai_nth_mem 228 rfl)
set_option maxRecDepth 100000 in
theorem tw_709 : (Cond.code ({ cls := "PathsKept$Laws", name := "put", desc := "(II)V" } : Jvm.MethodName) prog_4_method_3_code (3 : Nat) (Option.none : Option Jvm.ClassFile.FieldType)) ∈ lw_tbl := ts_3 (ai_nth_mem 229 rfl)
set_option maxRecDepth 100000 in
theorem tw_710 : (Cond.methodLink "PathsKept$Reader" (178 : Nat) ({ cls := "PathsKept$Reader", name := "readNots", desc := "(I)V" } : Jvm.MethodName)) ∈ lw_tbl := ts_3 (ai_nth_mem 230 rfl)
set_option maxRecDepth 100000 in
theorem tw_712 : (Cond.instanceMethod ({ cls := "PathsKept$Reader", name := "readNots", desc := "(I)V" } : Jvm.MethodName)) ∈ lw_tbl := ts_3 (ai_nth_mem 232 rfl)
set_option maxRecDepth 100000 in
theorem tw_713 : (Cond.code ({ cls := "PathsKept$Reader", name := "readNots", desc := "(I)V" } : Jvm.MethodName) prog_5_method_17_code (4 : Nat) (Option.none : Option Jvm.ClassFile.FieldType)) ∈ lw_tbl := ts_3 (ai_nth_mem 233 rfl)
set_option maxRecDepth 100000 in
theorem tw_714 : (Cond.methodLink "PathsKept$Reader" (181 : Nat) ({ cls := "PathsKept$Reader", name := "levelOf", desc := "(I)I" } : Jvm.MethodName)) ∈ lw_tbl := ts_3 (ai_nth_mem 234 rfl)
set_option maxRecDepth 100000 in
theorem tw_715 : (Cond.static ({ cls := "PathsKept$Reader", name := "levelOf", desc := "(I)I" } : Jvm.MethodName)) ∈ lw_tbl := ts_3 (ai_nth_mem 235 rfl)
set_option maxRecDepth 100000 in
theorem tw_716 : (Cond.code ({ cls := "PathsKept$Reader", name := "levelOf", desc := "(I)I" } : Jvm.MethodName) prog_5_method_20_code (1 : Nat) (Option.some Jvm.ClassFile.FieldType.int)) ∈ lw_tbl := ts_3 (ai_nth_mem 236 rfl)
set_option maxRecDepth 100000 in
theorem tw_717 : (Cond.methodLink "PathsKept" (89 : Nat) ({ cls := "PathsKept$Standing", name := "begin", desc := "(LPathsKept$Told;)V" } : Jvm.MethodName)) ∈ lw_tbl := ts_3 (ai_nth_mem 237 rfl)
set_option maxRecDepth 100000 in
theorem tw_718 : (Cond.instanceMethod ({ cls := "PathsKept$Standing", name := "begin", desc := "(LPathsKept$Told;)V" } : Jvm.MethodName)) ∈ lw_tbl := ts_3 (ai_nth_mem 238 rfl)
set_option maxRecDepth 100000 in
theorem tw_719 : (Cond.selects "PathsKept$Standing" ({ cls := "PathsKept$Standing", name := "begin", desc := "(LPathsKept$Told;)V" } : Jvm.MethodName) ({ cls := "PathsKept$Standing", name := "begin", desc := "(LPathsKept$Told;)V" } : Jvm.MethodName)) ∈ lw_tbl := ts_3 (ai_nth_mem 239 rfl)
set_option maxRecDepth 100000 in
theorem tw_720 : (Cond.code ({ cls := "PathsKept$Standing", name := "begin", desc := "(LPathsKept$Told;)V" } : Jvm.MethodName) prog_7_method_2_code (3 : Nat) (Option.none : Option Jvm.ClassFile.FieldType)) ∈ lw_tbl := ts_4 (ai_nth_mem 0 rfl)
set_option maxRecDepth 100000 in
theorem tw_721 : (Cond.methodLink "PathsKept$Standing" (54 : Nat) ({ cls := "PathsKept$Table", name := "cell", desc := "(II)I" } : Jvm.MethodName)) ∈ lw_tbl := ts_4 (ai_nth_mem 1 rfl)
set_option maxRecDepth 100000 in
theorem tw_722 : (Cond.instanceMethod ({ cls := "PathsKept$Table", name := "cell", desc := "(II)I" } : Jvm.MethodName)) ∈ lw_tbl := ts_4 (ai_nth_mem 2 rfl)
set_option maxRecDepth 100000 in
theorem tw_723 : (Cond.selects "PathsKept$Table" ({ cls := "PathsKept$Table", name := "cell", desc := "(II)I" } : Jvm.MethodName) ({ cls := "PathsKept$Table", name := "cell", desc := "(II)I" } : Jvm.MethodName)) ∈ lw_tbl := ts_4 (ai_nth_mem 3 rfl)
set_option maxRecDepth 100000 in
theorem tw_724 : (Cond.code ({ cls := "PathsKept$Table", name := "cell", desc := "(II)I" } : Jvm.MethodName) prog_8_method_4_code (3 : Nat) (Option.some Jvm.ClassFile.FieldType.int)) ∈ lw_tbl := ts_4 (ai_nth_mem 4 rfl)
set_option maxRecDepth 100000 in
theorem tw_725 : (Cond.methodLink "PathsKept" (93 : Nat) ({ cls := "PathsKept$Seen", name := "empty", desc := "()V" } : Jvm.MethodName)) ∈ lw_tbl := ts_4 (ai_nth_mem 5 rfl)
set_option maxRecDepth 100000 in
theorem tw_726 : (Cond.instanceMethod ({ cls := "PathsKept$Seen", name := "empty", desc := "()V" } : Jvm.MethodName)) ∈ lw_tbl := ts_4 (ai_nth_mem 6 rfl)
set_option maxRecDepth 100000 in
theorem tw_727 : (Cond.selects "PathsKept$Seen" ({ cls := "PathsKept$Seen", name := "empty", desc := "()V" } : Jvm.MethodName) ({ cls := "PathsKept$Seen", name := "empty", desc := "()V" } : Jvm.MethodName)) ∈ lw_tbl := ts_4 (ai_nth_mem 7 rfl)
set_option maxRecDepth 100000 in
theorem tw_728 : (Cond.code ({ cls := "PathsKept$Seen", name := "empty", desc := "()V" } : Jvm.MethodName) prog_6_method_2_code (1 : Nat) (Option.none : Option Jvm.ClassFile.FieldType)) ∈ lw_tbl := ts_4 (ai_nth_mem 8 rfl)
set_option maxRecDepth 100000 in
theorem tw_729 : (Cond.methodLink "PathsKeptLaw" (31 : Nat) ({ cls := "PathsKept", name := "fault", desc := "(I)I" } : Jvm.MethodName)) ∈ lw_tbl := ts_4 (ai_nth_mem 9 rfl)
set_option maxRecDepth 100000 in
theorem tw_730 : (Cond.instanceMethod ({ cls := "PathsKept", name := "fault", desc := "(I)I" } : Jvm.MethodName)) ∈ lw_tbl := ts_4 (ai_nth_mem 10 rfl)
set_option maxRecDepth 100000 in
theorem tw_731 : (Cond.selects "PathsKept" ({ cls := "PathsKept", name := "fault", desc := "(I)I" } : Jvm.MethodName) ({ cls := "PathsKept", name := "fault", desc := "(I)I" } : Jvm.MethodName)) ∈ lw_tbl := ts_4 (ai_nth_mem 11 rfl)
set_option maxRecDepth 100000 in
theorem tw_732 : (Cond.code ({ cls := "PathsKept", name := "fault", desc := "(I)I" } : Jvm.MethodName) prog_1_method_5_code (2 : Nat) (Option.some Jvm.ClassFile.FieldType.int)) ∈ lw_tbl := ts_4 (ai_nth_mem 12 rfl)
set_option maxRecDepth 100000 in
theorem tw_733 : (Cond.methodLink "PathsKeptLaw" (35 : Nat) ({ cls := "PathsKept", name := "named", desc := "(II)I" } : Jvm.MethodName)) ∈ lw_tbl := ts_4 (ai_nth_mem 13 rfl)
set_option maxRecDepth 100000 in
theorem tw_734 : (Cond.instanceMethod ({ cls := "PathsKept", name := "named", desc := "(II)I" } : Jvm.MethodName)) ∈ lw_tbl := ts_4 (ai_nth_mem 14 rfl)
set_option maxRecDepth 100000 in
theorem tw_735 : (Cond.selects "PathsKept" ({ cls := "PathsKept", name := "named", desc := "(II)I" } : Jvm.MethodName) ({ cls := "PathsKept", name := "named", desc := "(II)I" } : Jvm.MethodName)) ∈ lw_tbl := ts_4 (ai_nth_mem 15 rfl)
set_option maxRecDepth 100000 in
theorem tw_736 : (Cond.code ({ cls := "PathsKept", name := "named", desc := "(II)I" } : Jvm.MethodName) prog_1_method_6_code (3 : Nat) (Option.some Jvm.ClassFile.FieldType.int)) ∈ lw_tbl := ts_4 (ai_nth_mem 16 rfl)
set_option maxRecDepth 100000 in
theorem tw_737 : (Cond.methodLink "PathsKept" (116 : Nat) ({ cls := "PathsKept$Table", name := "find", desc := "(I)I" } : Jvm.MethodName)) ∈ lw_tbl := ts_4 (ai_nth_mem 17 rfl)
set_option maxRecDepth 100000 in
theorem tw_738 : (Cond.methodLink "PathsKeptLaw" (49 : Nat) ({ cls := "PathsKept", name := "walker", desc := "(II)I" } : Jvm.MethodName)) ∈ lw_tbl := ts_4 (ai_nth_mem 18 rfl)
set_option maxRecDepth 100000 in
theorem tw_739 : (Cond.instanceMethod ({ cls := "PathsKept", name := "walker", desc := "(II)I" } : Jvm.MethodName)) ∈ lw_tbl := ts_4 (ai_nth_mem 19 rfl)
set_option maxRecDepth 100000 in
theorem tw_740 : (Cond.selects "PathsKept" ({ cls := "PathsKept", name := "walker", desc := "(II)I" } : Jvm.MethodName) ({ cls := "PathsKept", name := "walker", desc := "(II)I" } : Jvm.MethodName)) ∈ lw_tbl := ts_4 (ai_nth_mem 20 rfl)
set_option maxRecDepth 100000 in
theorem tw_741 : (Cond.code ({ cls := "PathsKept", name := "walker", desc := "(II)I" } : Jvm.MethodName) prog_1_method_12_code (3 : Nat) (Option.some Jvm.ClassFile.FieldType.int)) ∈ lw_tbl := ts_4 (ai_nth_mem 21 rfl)
set_option maxRecDepth 100000 in
theorem tw_742 : (Cond.methodLink "PathsKept" (168 : Nat) ({ cls := "PathsKept", name := "isWalker", desc := "(I)Z" } : Jvm.MethodName)) ∈ lw_tbl := ts_4 (ai_nth_mem 22 rfl)
set_option maxRecDepth 100000 in
theorem tw_744 : (Cond.instanceMethod ({ cls := "PathsKept", name := "isWalker", desc := "(I)Z" } : Jvm.MethodName)) ∈ lw_tbl := ts_4 (ai_nth_mem 24 rfl)
set_option maxRecDepth 100000 in
theorem tw_745 : (Cond.code ({ cls := "PathsKept", name := "isWalker", desc := "(I)Z" } : Jvm.MethodName) prog_1_method_9_code (2 : Nat) (Option.some Jvm.ClassFile.FieldType.boolean)) ∈ lw_tbl := ts_4 (ai_nth_mem 25 rfl)
set_option maxRecDepth 100000 in
theorem tw_746 : (Cond.methodLink "PathsKept" (142 : Nat) ({ cls := "PathsKept$Table", name := "cell", desc := "(II)I" } : Jvm.MethodName)) ∈ lw_tbl := ts_4 (ai_nth_mem 26 rfl)
set_option maxRecDepth 100000 in
theorem tw_747 : (Cond.methodLink "PathsKept" (177 : Nat) ({ cls := "PathsKept", name := "pathsHeCanGo", desc := "(I)I" } : Jvm.MethodName)) ∈ lw_tbl := ts_4 (ai_nth_mem 27 rfl)
set_option maxRecDepth 100000 in
theorem tw_749 : (Cond.instanceMethod ({ cls := "PathsKept", name := "pathsHeCanGo", desc := "(I)I" } : Jvm.MethodName)) ∈ lw_tbl := ts_4 (ai_nth_mem 29 rfl)
set_option maxRecDepth 100000 in
theorem tw_750 : (Cond.code ({ cls := "PathsKept", name := "pathsHeCanGo", desc := "(I)I" } : Jvm.MethodName) prog_1_method_13_code (4 : Nat) (Option.some Jvm.ClassFile.FieldType.int)) ∈ lw_tbl := ts_4 (ai_nth_mem 30 rfl)
set_option maxRecDepth 100000 in
theorem tw_751 : (Cond.methodLink "PathsKept" (180 : Nat) ({ cls := "PathsKept$Days", name := "begin", desc := "(LPathsKept$Told;LPathsKept$Standing;I)V" } : Jvm.MethodName)) ∈ lw_tbl := ts_4 (ai_nth_mem 31 rfl)
set_option maxRecDepth 100000 in
theorem tw_752 : (Cond.instanceMethod ({ cls := "PathsKept$Days", name := "begin", desc := "(LPathsKept$Told;LPathsKept$Standing;I)V" } : Jvm.MethodName)) ∈ lw_tbl := ts_4 (ai_nth_mem 32 rfl)
set_option maxRecDepth 100000 in
theorem tw_753 : (Cond.selects "PathsKept$Days" ({ cls := "PathsKept$Days", name := "begin", desc := "(LPathsKept$Told;LPathsKept$Standing;I)V" } : Jvm.MethodName) ({ cls := "PathsKept$Days", name := "begin", desc := "(LPathsKept$Told;LPathsKept$Standing;I)V" } : Jvm.MethodName)) ∈ lw_tbl := ts_4 (ai_nth_mem 33 rfl)
set_option maxRecDepth 100000 in
theorem tw_754 : (Cond.code ({ cls := "PathsKept$Days", name := "begin", desc := "(LPathsKept$Told;LPathsKept$Standing;I)V" } : Jvm.MethodName) prog_2_method_2_code (5 : Nat) (Option.none : Option Jvm.ClassFile.FieldType)) ∈ lw_tbl := ts_4 (ai_nth_mem 34 rfl)
set_option maxRecDepth 100000 in
theorem tw_755 : (Cond.methodLink "PathsKept$Days" (39 : Nat) ({ cls := "PathsKept$Laws", name := "isTold", desc := "(I)Z" } : Jvm.MethodName)) ∈ lw_tbl := ts_4 (ai_nth_mem 35 rfl)
set_option maxRecDepth 100000 in
theorem tw_756 : (Cond.instanceMethod ({ cls := "PathsKept$Laws", name := "isTold", desc := "(I)Z" } : Jvm.MethodName)) ∈ lw_tbl := ts_4 (ai_nth_mem 36 rfl)
set_option maxRecDepth 100000 in
theorem tw_757 : (Cond.selects "PathsKept$Laws" ({ cls := "PathsKept$Laws", name := "isTold", desc := "(I)Z" } : Jvm.MethodName) ({ cls := "PathsKept$Laws", name := "isTold", desc := "(I)Z" } : Jvm.MethodName)) ∈ lw_tbl := ts_4 (ai_nth_mem 37 rfl)
set_option maxRecDepth 100000 in
theorem tw_758 : (Cond.code ({ cls := "PathsKept$Laws", name := "isTold", desc := "(I)Z" } : Jvm.MethodName) prog_4_method_4_code (2 : Nat) (Option.some Jvm.ClassFile.FieldType.boolean)) ∈ lw_tbl := ts_4 (ai_nth_mem 38 rfl)
set_option maxRecDepth 100000 in
theorem tw_759 : (Cond.methodLink "PathsKept$Days" (57 : Nat) ({ cls := "PathsKept$Table", name := "cell", desc := "(II)I" } : Jvm.MethodName)) ∈ lw_tbl := ts_4 (ai_nth_mem 39 rfl)
set_option maxRecDepth 100000 in
theorem tw_760 : (Cond.methodLink "PathsKept" (183 : Nat) ({ cls := "PathsKept$Days", name := "costIfHeCan", desc := "(II)I" } : Jvm.MethodName)) ∈ lw_tbl := ts_4 (ai_nth_mem 40 rfl)
set_option maxRecDepth 100000 in
theorem tw_761 : (Cond.instanceMethod ({ cls := "PathsKept$Days", name := "costIfHeCan", desc := "(II)I" } : Jvm.MethodName)) ∈ lw_tbl := ts_4 (ai_nth_mem 41 rfl)
set_option maxRecDepth 100000 in
theorem tw_762 : (Cond.selects "PathsKept$Days" ({ cls := "PathsKept$Days", name := "costIfHeCan", desc := "(II)I" } : Jvm.MethodName) ({ cls := "PathsKept$Days", name := "costIfHeCan", desc := "(II)I" } : Jvm.MethodName)) ∈ lw_tbl := ts_4 (ai_nth_mem 42 rfl)
set_option maxRecDepth 100000 in
theorem tw_763 : (Cond.code ({ cls := "PathsKept$Days", name := "costIfHeCan", desc := "(II)I" } : Jvm.MethodName) prog_2_method_9_code (7 : Nat) (Option.some Jvm.ClassFile.FieldType.int)) ∈ lw_tbl := ts_4 (ai_nth_mem 43 rfl)
set_option maxRecDepth 100000 in
theorem tw_764 : (Cond.methodLink "PathsKept$Days" (156 : Nat) ({ cls := "PathsKept$Told", name := "ends", desc := "(I)I" } : Jvm.MethodName)) ∈ lw_tbl := ts_4 (ai_nth_mem 44 rfl)
set_option maxRecDepth 100000 in
theorem tw_765 : (Cond.instanceMethod ({ cls := "PathsKept$Told", name := "ends", desc := "(I)I" } : Jvm.MethodName)) ∈ lw_tbl := ts_4 (ai_nth_mem 45 rfl)
set_option maxRecDepth 100000 in
theorem tw_766 : (Cond.selects "PathsKept$Told" ({ cls := "PathsKept$Told", name := "ends", desc := "(I)I" } : Jvm.MethodName) ({ cls := "PathsKept$Told", name := "ends", desc := "(I)I" } : Jvm.MethodName)) ∈ lw_tbl := ts_4 (ai_nth_mem 46 rfl)
set_option maxRecDepth 100000 in
theorem tw_767 : (Cond.code ({ cls := "PathsKept$Told", name := "ends", desc := "(I)I" } : Jvm.MethodName) prog_10_method_3_code (2 : Nat) (Option.some Jvm.ClassFile.FieldType.int)) ∈ lw_tbl := ts_4 (ai_nth_mem 47 rfl)
set_option maxRecDepth 100000 in
theorem tw_768 : (Cond.methodLink "PathsKept$Told" (58 : Nat) ({ cls := "PathsKept$Table", name := "cell", desc := "(II)I" } : Jvm.MethodName)) ∈ lw_tbl := ts_4 (ai_nth_mem 48 rfl)
set_option maxRecDepth 100000 in
theorem tw_769 : (Cond.methodLink "PathsKept$Days" (83 : Nat) ({ cls := "PathsKept$Standing", name := "isKept", desc := "(I)Z" } : Jvm.MethodName)) ∈ lw_tbl := ts_4 (ai_nth_mem 49 rfl)
set_option maxRecDepth 100000 in
theorem tw_770 : (Cond.instanceMethod ({ cls := "PathsKept$Standing", name := "isKept", desc := "(I)Z" } : Jvm.MethodName)) ∈ lw_tbl := ts_4 (ai_nth_mem 50 rfl)
set_option maxRecDepth 100000 in
theorem tw_771 : (Cond.selects "PathsKept$Standing" ({ cls := "PathsKept$Standing", name := "isKept", desc := "(I)Z" } : Jvm.MethodName) ({ cls := "PathsKept$Standing", name := "isKept", desc := "(I)Z" } : Jvm.MethodName)) ∈ lw_tbl := ts_4 (ai_nth_mem 51 rfl)
set_option maxRecDepth 100000 in
theorem tw_772 : (Cond.code ({ cls := "PathsKept$Standing", name := "isKept", desc := "(I)Z" } : Jvm.MethodName) prog_7_method_4_code (2 : Nat) (Option.some Jvm.ClassFile.FieldType.boolean)) ∈ lw_tbl := ts_4 (ai_nth_mem 52 rfl)
set_option maxRecDepth 100000 in
theorem tw_773 : (Cond.methodLink "PathsKept$Days" (163 : Nat) ({ cls := "PathsKept$Told", name := "isBullOn", desc := "(II)Z" } : Jvm.MethodName)) ∈ lw_tbl := ts_4 (ai_nth_mem 53 rfl)
set_option maxRecDepth 100000 in
theorem tw_774 : (Cond.instanceMethod ({ cls := "PathsKept$Told", name := "isBullOn", desc := "(II)Z" } : Jvm.MethodName)) ∈ lw_tbl := ts_4 (ai_nth_mem 54 rfl)
set_option maxRecDepth 100000 in
theorem tw_775 : (Cond.selects "PathsKept$Told" ({ cls := "PathsKept$Told", name := "isBullOn", desc := "(II)Z" } : Jvm.MethodName) ({ cls := "PathsKept$Told", name := "isBullOn", desc := "(II)Z" } : Jvm.MethodName)) ∈ lw_tbl := ts_4 (ai_nth_mem 55 rfl)
set_option maxRecDepth 100000 in
theorem tw_776 : (Cond.code ({ cls := "PathsKept$Told", name := "isBullOn", desc := "(II)Z" } : Jvm.MethodName) prog_10_method_4_code (4 : Nat) (Option.some Jvm.ClassFile.FieldType.boolean)) ∈ lw_tbl := ts_4 (ai_nth_mem 56 rfl)
set_option maxRecDepth 100000 in
theorem tw_777 : (Cond.methodLinkNest "PathsKept$Told" (62 : Nat) ({ cls := "PathsKept", name := "isWithin", desc := "(III)Z" } : Jvm.MethodName) "PathsKept") ∈ lw_tbl := ts_4 (ai_nth_mem 57 rfl)
set_option maxRecDepth 100000 in
theorem tw_778 : (Cond.methodLink "PathsKept$Days" (125 : Nat) ({ cls := "PathsKept$Days", name := "lookAt", desc := "(II)V" } : Jvm.MethodName)) ∈ lw_tbl := ts_4 (ai_nth_mem 58 rfl)
set_option maxRecDepth 100000 in
theorem tw_779 : (Cond.instanceMethod ({ cls := "PathsKept$Days", name := "lookAt", desc := "(II)V" } : Jvm.MethodName)) ∈ lw_tbl := ts_4 (ai_nth_mem 59 rfl)
set_option maxRecDepth 100000 in
theorem tw_780 : (Cond.selects "PathsKept$Days" ({ cls := "PathsKept$Days", name := "lookAt", desc := "(II)V" } : Jvm.MethodName) ({ cls := "PathsKept$Days", name := "lookAt", desc := "(II)V" } : Jvm.MethodName)) ∈ lw_tbl := ts_4 (ai_nth_mem 60 rfl)
set_option maxRecDepth 100000 in
theorem tw_781 : (Cond.code ({ cls := "PathsKept$Days", name := "lookAt", desc := "(II)V" } : Jvm.MethodName) prog_2_method_8_code (4 : Nat) (Option.none : Option Jvm.ClassFile.FieldType)) ∈ lw_tbl := ts_4 (ai_nth_mem 61 rfl)
set_option maxRecDepth 100000 in
theorem tw_782 : (Cond.methodLink "PathsKept$Days" (129 : Nat) ({ cls := "PathsKept$Laws", name := "value", desc := "(IJ)J" } : Jvm.MethodName)) ∈ lw_tbl := ts_4 (ai_nth_mem 62 rfl)
set_option maxRecDepth 100000 in
theorem tw_783 : (Cond.instanceMethod ({ cls := "PathsKept$Laws", name := "value", desc := "(IJ)J" } : Jvm.MethodName)) ∈ lw_tbl := ts_4 (ai_nth_mem 63 rfl)
set_option maxRecDepth 100000 in
theorem tw_784 : (Cond.selects "PathsKept$Laws" ({ cls := "PathsKept$Laws", name := "value", desc := "(IJ)J" } : Jvm.MethodName) ({ cls := "PathsKept$Laws", name := "value", desc := "(IJ)J" } : Jvm.MethodName)) ∈ lw_tbl := ts_4 (ai_nth_mem 64 rfl)
set_option maxRecDepth 100000 in
theorem tw_785 : (Cond.code ({ cls := "PathsKept$Laws", name := "value", desc := "(IJ)J" } : Jvm.MethodName) prog_4_method_5_code (9 : Nat) (Option.some Jvm.ClassFile.FieldType.long)) ∈ lw_tbl := ts_4 (ai_nth_mem 65 rfl)
set_option maxRecDepth 100000 in
theorem tw_786 : (Cond.methodLink "PathsKept$Laws" (48 : Nat) ({ cls := "PathsKept$Tokens", name := "isName", desc := "(I)Z" } : Jvm.MethodName)) ∈ lw_tbl := ts_4 (ai_nth_mem 66 rfl)
set_option maxRecDepth 100000 in
theorem tw_787 : (Cond.methodLink "PathsKept$Laws" (52 : Nat) ({ cls := "PathsKept$Laws", name := "join", desc := "(IJJ)J" } : Jvm.MethodName)) ∈ lw_tbl := ts_4 (ai_nth_mem 67 rfl)
set_option maxRecDepth 100000 in
theorem tw_788 : (Cond.static ({ cls := "PathsKept$Laws", name := "join", desc := "(IJJ)J" } : Jvm.MethodName)) ∈ lw_tbl := ts_4 (ai_nth_mem 68 rfl)
set_option maxRecDepth 100000 in
theorem tw_789 : (Cond.code ({ cls := "PathsKept$Laws", name := "join", desc := "(IJJ)J" } : Jvm.MethodName) prog_4_method_6_code (5 : Nat) (Option.some Jvm.ClassFile.FieldType.long)) ∈ lw_tbl := ts_4 (ai_nth_mem 69 rfl)
set_option maxRecDepth 100000 in
theorem tw_790 : (Cond.methodLink "PathsKept$Laws" (60 : Nat) ({ cls := "java/lang/Math", name := "abs", desc := "(J)J" } : Jvm.MethodName)) ∈ lw_tbl := ts_4 (ai_nth_mem 70 rfl)
set_option maxRecDepth 100000 in
theorem tw_791 : (Cond.static ({ cls := "java/lang/Math", name := "abs", desc := "(J)J" } : Jvm.MethodName)) ∈ lw_tbl := ts_4 (ai_nth_mem 71 rfl)
set_option maxRecDepth 100000 in
theorem tw_792 : (Cond.code ({ cls := "java/lang/Math", name := "abs", desc := "(J)J" } : Jvm.MethodName) prog_21_method_61_code (2 : Nat) (Option.some Jvm.ClassFile.FieldType.long)) ∈ lw_tbl := ts_4 (ai_nth_mem 72 rfl)
set_option maxRecDepth 100000 in
theorem tw_793 : (Cond.constantLong "PathsKept$Laws" (56 : Nat) (1000000000000 : Int64)) ∈ lw_tbl := ts_4 (ai_nth_mem 73 rfl)
set_option maxRecDepth 100000 in
theorem tw_794 : (Cond.constantLong "PathsKept$Laws" (66 : Nat) (-9223372036854775808 : Int64)) ∈ lw_tbl := ts_4 (ai_nth_mem 74 rfl)
set_option maxRecDepth 100000 in
theorem tw_795 : (Cond.constantLong "PathsKept$Laws" (58 : Nat) (-1000000000000 : Int64)) ∈ lw_tbl := ts_4 (ai_nth_mem 75 rfl)
set_option maxRecDepth 100000 in
theorem tw_796 : (Cond.constantLong "PathsKept$Days" (167 : Nat) (99 : Int64)) ∈ lw_tbl := ts_4 (ai_nth_mem 76 rfl)
set_option maxRecDepth 100000 in
theorem tw_797 : (Cond.methodLink "PathsKept$Days" (135 : Nat) ({ cls := "java/lang/Math", name := "min", desc := "(JJ)J" } : Jvm.MethodName)) ∈ lw_tbl := ts_4 (ai_nth_mem 77 rfl)
set_option maxRecDepth 100000 in
theorem tw_798 : (Cond.static ({ cls := "java/lang/Math", name := "min", desc := "(JJ)J" } : Jvm.MethodName)) ∈ lw_tbl := ts_4 (ai_nth_mem 78 rfl)
set_option maxRecDepth 100000 in
theorem tw_799 : (Cond.code ({ cls := "java/lang/Math", name := "min", desc := "(JJ)J" } : Jvm.MethodName) prog_21_method_70_code (4 : Nat) (Option.some Jvm.ClassFile.FieldType.long)) ∈ lw_tbl := ts_4 (ai_nth_mem 79 rfl)
set_option maxRecDepth 100000 in
theorem tw_800 : (Cond.methodLink "PathsKept$Days" (141 : Nat) ({ cls := "java/lang/Math", name := "max", desc := "(JJ)J" } : Jvm.MethodName)) ∈ lw_tbl := ts_4 (ai_nth_mem 80 rfl)
set_option maxRecDepth 100000 in
theorem tw_801 : (Cond.static ({ cls := "java/lang/Math", name := "max", desc := "(JJ)J" } : Jvm.MethodName)) ∈ lw_tbl := ts_4 (ai_nth_mem 81 rfl)
set_option maxRecDepth 100000 in
theorem tw_802 : (Cond.code ({ cls := "java/lang/Math", name := "max", desc := "(JJ)J" } : Jvm.MethodName) prog_21_method_66_code (4 : Nat) (Option.some Jvm.ClassFile.FieldType.long)) ∈ lw_tbl := ts_4 (ai_nth_mem 82 rfl)
