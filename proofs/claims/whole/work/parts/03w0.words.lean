/-! ===== the words that the operations use, by their places in the table ===== -/
theorem ai_in_at {w : Cond} (i : Nat) (h : lw_tbl[i]? = some w) : w ∈ lw_tbl := List.mem_of_getElem? h
def ai_nth : List Cond → Nat → Option Cond
  | [], _ => none
  | a :: _, 0 => some a
  | _ :: t, n + 1 => ai_nth t n
theorem ai_nth_mem {w : Cond} : ∀ {t : List Cond} (i : Nat), ai_nth t i = some w → w ∈ t
  | [], _, h => by cases h
  | a :: t, 0, h => by cases h; exact List.mem_cons_self
  | a :: t, i + 1, h => List.mem_cons_of_mem _ (ai_nth_mem (t := t) i h)
theorem ts_1 {w : Cond} (h : w ∈ tables_1_1) : w ∈ lw_tbl := List.mem_append.mpr (Or.inr (List.mem_append.mpr (Or.inl h)))
theorem ts_2 {w : Cond} (h : w ∈ tables_1_2) : w ∈ lw_tbl := List.mem_append.mpr (Or.inr (List.mem_append.mpr (Or.inr (List.mem_append.mpr (Or.inl h)))))
theorem ts_3 {w : Cond} (h : w ∈ tables_1_3) : w ∈ lw_tbl := List.mem_append.mpr (Or.inr (List.mem_append.mpr (Or.inr (List.mem_append.mpr (Or.inr (List.mem_append.mpr (Or.inl h)))))))
theorem ts_4 {w : Cond} (h : w ∈ tables_1_4) : w ∈ lw_tbl := List.mem_append.mpr (Or.inr (List.mem_append.mpr (Or.inr (List.mem_append.mpr (Or.inr (List.mem_append.mpr (Or.inr (List.mem_append.mpr (Or.inl h)))))))))
theorem ts_5 {w : Cond} (h : w ∈ tables_1_5) : w ∈ lw_tbl := List.mem_append.mpr (Or.inr (List.mem_append.mpr (Or.inr (List.mem_append.mpr (Or.inr (List.mem_append.mpr (Or.inr (List.mem_append.mpr (Or.inr (List.mem_append.mpr (Or.inl h)))))))))))
theorem ts_6 {w : Cond} (h : w ∈ tables_1_6) : w ∈ lw_tbl := List.mem_append.mpr (Or.inr (List.mem_append.mpr (Or.inr (List.mem_append.mpr (Or.inr (List.mem_append.mpr (Or.inr (List.mem_append.mpr (Or.inr (List.mem_append.mpr (Or.inr (List.mem_append.mpr (Or.inl h)))))))))))))
theorem ts_7 {w : Cond} (h : w ∈ tables_1_7) : w ∈ lw_tbl := List.mem_append.mpr (Or.inr (List.mem_append.mpr (Or.inr (List.mem_append.mpr (Or.inr (List.mem_append.mpr (Or.inr (List.mem_append.mpr (Or.inr (List.mem_append.mpr (Or.inr (List.mem_append.mpr (Or.inr (List.mem_append.mpr (Or.inl h)))))))))))))))
theorem ts_8 {w : Cond} (h : w ∈ tables_1_8) : w ∈ lw_tbl := List.mem_append.mpr (Or.inr (List.mem_append.mpr (Or.inr (List.mem_append.mpr (Or.inr (List.mem_append.mpr (Or.inr (List.mem_append.mpr (Or.inr (List.mem_append.mpr (Or.inr (List.mem_append.mpr (Or.inr (List.mem_append.mpr (Or.inr (List.mem_append.mpr (Or.inl h)))))))))))))))))
theorem ts_9 {w : Cond} (h : w ∈ tables_1_9) : w ∈ lw_tbl := List.mem_append.mpr (Or.inr (List.mem_append.mpr (Or.inr (List.mem_append.mpr (Or.inr (List.mem_append.mpr (Or.inr (List.mem_append.mpr (Or.inr (List.mem_append.mpr (Or.inr (List.mem_append.mpr (Or.inr (List.mem_append.mpr (Or.inr (List.mem_append.mpr (Or.inr (h))))))))))))))))))
set_option maxRecDepth 100000 in
theorem tw_0 : (Cond.initialized "PathsKeptLaw") ∈ lw_tbl := ts_1 (ai_nth_mem 0 rfl)
set_option maxRecDepth 100000 in
theorem tw_1 : (Cond.initialized "PathsKept") ∈ lw_tbl := ts_1 (ai_nth_mem 1 rfl)
set_option maxRecDepth 100000 in
theorem tw_2 : (Cond.initialized "PathsKept$Reader") ∈ lw_tbl := ts_1 (ai_nth_mem 2 rfl)
set_option maxRecDepth 100000 in
theorem tw_3 : (Cond.initialized "PathsKept$Tokens") ∈ lw_tbl := ts_1 (ai_nth_mem 3 rfl)
set_option maxRecDepth 100000 in
theorem tw_4 : (Cond.initialized "java/lang/String") ∈ lw_tbl := ts_1 (ai_nth_mem 4 rfl)
set_option maxRecDepth 100000 in
theorem tw_5 : (Cond.initialized "java/lang/StringLatin1") ∈ lw_tbl := ts_1 (ai_nth_mem 5 rfl)
set_option maxRecDepth 100000 in
theorem tw_6 : (Cond.initialized "jdk/internal/util/Preconditions") ∈ lw_tbl := ts_1 (ai_nth_mem 6 rfl)
set_option maxRecDepth 100000 in
theorem tw_8 : (Cond.initialized "PathsKept$Told") ∈ lw_tbl := ts_1 (ai_nth_mem 8 rfl)
set_option maxRecDepth 100000 in
theorem tw_9 : (Cond.initialized "PathsKept$Table") ∈ lw_tbl := ts_1 (ai_nth_mem 9 rfl)
set_option maxRecDepth 100000 in
theorem tw_10 : (Cond.initialized "PathsKept$Laws") ∈ lw_tbl := ts_1 (ai_nth_mem 10 rfl)
set_option maxRecDepth 100000 in
theorem tw_11 : (Cond.initialized "PathsKept$Standing") ∈ lw_tbl := ts_1 (ai_nth_mem 11 rfl)
set_option maxRecDepth 100000 in
theorem tw_12 : (Cond.initialized "PathsKept$Days") ∈ lw_tbl := ts_1 (ai_nth_mem 12 rfl)
set_option maxRecDepth 100000 in
theorem tw_13 : (Cond.initialized "PathsKept$Seen") ∈ lw_tbl := ts_1 (ai_nth_mem 13 rfl)
set_option maxRecDepth 100000 in
theorem tw_14 : (Cond.initialized "PathsKept$Ways") ∈ lw_tbl := ts_1 (ai_nth_mem 14 rfl)
set_option maxRecDepth 100000 in
theorem tw_15 : (Cond.initialized "PathsKept$Game") ∈ lw_tbl := ts_1 (ai_nth_mem 15 rfl)
set_option maxRecDepth 100000 in
theorem tw_16 : (Cond.initialized "PathsKeptModel") ∈ lw_tbl := ts_1 (ai_nth_mem 16 rfl)
set_option maxRecDepth 100000 in
theorem tw_17 : (Cond.initialized "java/util/Arrays") ∈ lw_tbl := ts_1 (ai_nth_mem 17 rfl)
set_option maxRecDepth 100000 in
theorem tw_18 : (Cond.initialized "java/lang/Math") ∈ lw_tbl := ts_1 (ai_nth_mem 18 rfl)
set_option maxRecDepth 100000 in
theorem tw_25 : (Cond.initialized "java/lang/System") ∈ lw_tbl := ts_1 (ai_nth_mem 25 rfl)
set_option maxRecDepth 100000 in
theorem tw_26 : (Cond.initialized "java/lang/Integer") ∈ lw_tbl := ts_1 (ai_nth_mem 26 rfl)
set_option maxRecDepth 100000 in
theorem tw_27 : (Cond.classLink "PathsKeptLaw" (8 : Nat) "PathsKept") ∈ lw_tbl := ts_1 (ai_nth_mem 27 rfl)
set_option maxRecDepth 100000 in
theorem tw_28 : (Cond.instantiable "PathsKept" (15 : Nat)) ∈ lw_tbl := ts_1 (ai_nth_mem 28 rfl)
set_option maxRecDepth 100000 in
theorem tw_29 : (Cond.methodLink "PathsKeptLaw" (17 : Nat) ({ cls := "PathsKept", name := "<init>", desc := "()V" } : Jvm.MethodName)) ∈ lw_tbl := ts_1 (ai_nth_mem 29 rfl)
set_option maxRecDepth 100000 in
theorem tw_30 : (Cond.instanceMethod ({ cls := "PathsKept", name := "<init>", desc := "()V" } : Jvm.MethodName)) ∈ lw_tbl := ts_1 (ai_nth_mem 30 rfl)
set_option maxRecDepth 100000 in
theorem tw_31 : (Cond.code ({ cls := "PathsKept", name := "<init>", desc := "()V" } : Jvm.MethodName) prog_1_method_1_code (2 : Nat) (Option.none : Option Jvm.ClassFile.FieldType)) ∈ lw_tbl := ts_1 (ai_nth_mem 31 rfl)
set_option maxRecDepth 100000 in
theorem tw_32 : (Cond.methodLink "PathsKept" (1 : Nat) ({ cls := "java/lang/Object", name := "<init>", desc := "()V" } : Jvm.MethodName)) ∈ lw_tbl := ts_1 (ai_nth_mem 32 rfl)
set_option maxRecDepth 100000 in
theorem tw_33 : (Cond.instanceMethod ({ cls := "java/lang/Object", name := "<init>", desc := "()V" } : Jvm.MethodName)) ∈ lw_tbl := ts_1 (ai_nth_mem 33 rfl)
set_option maxRecDepth 100000 in
theorem tw_35 : (Cond.classLink "PathsKept" (13 : Nat) "PathsKept$Reader") ∈ lw_tbl := ts_1 (ai_nth_mem 35 rfl)
set_option maxRecDepth 100000 in
theorem tw_36 : (Cond.instantiable "PathsKept$Reader" (5 : Nat)) ∈ lw_tbl := ts_1 (ai_nth_mem 36 rfl)
set_option maxRecDepth 100000 in
theorem tw_37 : (Cond.methodLinkNest "PathsKept" (15 : Nat) ({ cls := "PathsKept$Reader", name := "<init>", desc := "()V" } : Jvm.MethodName) "PathsKept") ∈ lw_tbl := ts_1 (ai_nth_mem 37 rfl)
set_option maxRecDepth 100000 in
theorem tw_38 : (Cond.instanceMethod ({ cls := "PathsKept$Reader", name := "<init>", desc := "()V" } : Jvm.MethodName)) ∈ lw_tbl := ts_1 (ai_nth_mem 38 rfl)
set_option maxRecDepth 100000 in
theorem tw_39 : (Cond.code ({ cls := "PathsKept$Reader", name := "<init>", desc := "()V" } : Jvm.MethodName) prog_5_method_1_code (1 : Nat) (Option.none : Option Jvm.ClassFile.FieldType)) ∈ lw_tbl := ts_1 (ai_nth_mem 39 rfl)
set_option maxRecDepth 100000 in
theorem tw_40 : (Cond.methodLink "PathsKept$Reader" (3 : Nat) ({ cls := "java/lang/Object", name := "<init>", desc := "()V" } : Jvm.MethodName)) ∈ lw_tbl := ts_1 (ai_nth_mem 40 rfl)
set_option maxRecDepth 100000 in
theorem tw_41 : (Cond.classLink "PathsKept$Reader" (9 : Nat) "PathsKept$Tokens") ∈ lw_tbl := ts_1 (ai_nth_mem 41 rfl)
set_option maxRecDepth 100000 in
theorem tw_42 : (Cond.instantiable "PathsKept$Tokens" (7 : Nat)) ∈ lw_tbl := ts_1 (ai_nth_mem 42 rfl)
set_option maxRecDepth 100000 in
theorem tw_43 : (Cond.methodLink "PathsKept$Reader" (11 : Nat) ({ cls := "PathsKept$Tokens", name := "<init>", desc := "()V" } : Jvm.MethodName)) ∈ lw_tbl := ts_1 (ai_nth_mem 43 rfl)
set_option maxRecDepth 100000 in
theorem tw_44 : (Cond.instanceMethod ({ cls := "PathsKept$Tokens", name := "<init>", desc := "()V" } : Jvm.MethodName)) ∈ lw_tbl := ts_1 (ai_nth_mem 44 rfl)
set_option maxRecDepth 100000 in
theorem tw_45 : (Cond.code ({ cls := "PathsKept$Tokens", name := "<init>", desc := "()V" } : Jvm.MethodName) prog_9_method_1_code (4 : Nat) (Option.none : Option Jvm.ClassFile.FieldType)) ∈ lw_tbl := ts_1 (ai_nth_mem 45 rfl)
set_option maxRecDepth 100000 in
theorem tw_46 : (Cond.methodLink "PathsKept$Tokens" (1 : Nat) ({ cls := "java/lang/Object", name := "<init>", desc := "()V" } : Jvm.MethodName)) ∈ lw_tbl := ts_1 (ai_nth_mem 46 rfl)
set_option maxRecDepth 100000 in
theorem tw_47 : (Cond.stringRef "PathsKept$Tokens" (13 : Nat) "place path walker walk bull year snow seed law term may cost or and not length stile age legs pace gone day ") ∈ lw_tbl := ts_1 (ai_nth_mem 47 rfl)
set_option maxRecDepth 100000 in
theorem tw_48 : (Cond.methodLink "PathsKept$Tokens" (15 : Nat) ({ cls := "java/lang/String", name := "length", desc := "()I" } : Jvm.MethodName)) ∈ lw_tbl := ts_1 (ai_nth_mem 48 rfl)
set_option maxRecDepth 100000 in
theorem tw_49 : (Cond.instanceMethod ({ cls := "java/lang/String", name := "length", desc := "()I" } : Jvm.MethodName)) ∈ lw_tbl := ts_1 (ai_nth_mem 49 rfl)
set_option maxRecDepth 100000 in
theorem tw_50 : (Cond.selects "java/lang/String" ({ cls := "java/lang/String", name := "length", desc := "()I" } : Jvm.MethodName) ({ cls := "java/lang/String", name := "length", desc := "()I" } : Jvm.MethodName)) ∈ lw_tbl := ts_1 (ai_nth_mem 50 rfl)
set_option maxRecDepth 100000 in
theorem tw_51 : (Cond.code ({ cls := "java/lang/String", name := "length", desc := "()I" } : Jvm.MethodName) prog_23_method_54_code (1 : Nat) (Option.some Jvm.ClassFile.FieldType.int)) ∈ lw_tbl := ts_1 (ai_nth_mem 51 rfl)
set_option maxRecDepth 100000 in
theorem tw_52 : (Cond.methodLink "java/lang/String" (335 : Nat) ({ cls := "java/lang/String", name := "coder", desc := "()B" } : Jvm.MethodName)) ∈ lw_tbl := ts_1 (ai_nth_mem 52 rfl)
set_option maxRecDepth 100000 in
theorem tw_53 : (Cond.instanceMethod ({ cls := "java/lang/String", name := "coder", desc := "()B" } : Jvm.MethodName)) ∈ lw_tbl := ts_1 (ai_nth_mem 53 rfl)
set_option maxRecDepth 100000 in
theorem tw_54 : (Cond.selects "java/lang/String" ({ cls := "java/lang/String", name := "coder", desc := "()B" } : Jvm.MethodName) ({ cls := "java/lang/String", name := "coder", desc := "()B" } : Jvm.MethodName)) ∈ lw_tbl := ts_1 (ai_nth_mem 54 rfl)
set_option maxRecDepth 100000 in
theorem tw_55 : (Cond.code ({ cls := "java/lang/String", name := "coder", desc := "()B" } : Jvm.MethodName) prog_23_method_152_code (1 : Nat) (Option.some Jvm.ClassFile.FieldType.byte)) ∈ lw_tbl := ts_1 (ai_nth_mem 55 rfl)
set_option maxRecDepth 100000 in
theorem tw_56 : (Cond.fieldLink "java/lang/String" (38 : Nat) "java/lang/String" "COMPACT_STRINGS" "Z") ∈ lw_tbl := ts_1 (ai_nth_mem 56 rfl)
set_option maxRecDepth 100000 in
theorem tw_57 : (Cond.laysStatic "java/lang/String" "COMPACT_STRINGS" "Z") ∈ lw_tbl := ts_1 (ai_nth_mem 57 rfl)
set_option maxRecDepth 100000 in
theorem tw_58 : (Cond.methodLink "PathsKept$Tokens" (21 : Nat) ({ cls := "java/lang/String", name := "charAt", desc := "(I)C" } : Jvm.MethodName)) ∈ lw_tbl := ts_1 (ai_nth_mem 58 rfl)
set_option maxRecDepth 100000 in
theorem tw_59 : (Cond.instanceMethod ({ cls := "java/lang/String", name := "charAt", desc := "(I)C" } : Jvm.MethodName)) ∈ lw_tbl := ts_1 (ai_nth_mem 59 rfl)
set_option maxRecDepth 100000 in
theorem tw_60 : (Cond.selects "java/lang/String" ({ cls := "java/lang/String", name := "charAt", desc := "(I)C" } : Jvm.MethodName) ({ cls := "java/lang/String", name := "charAt", desc := "(I)C" } : Jvm.MethodName)) ∈ lw_tbl := ts_1 (ai_nth_mem 60 rfl)
set_option maxRecDepth 100000 in
theorem tw_61 : (Cond.code ({ cls := "java/lang/String", name := "charAt", desc := "(I)C" } : Jvm.MethodName) prog_23_method_56_code (2 : Nat) (Option.some Jvm.ClassFile.FieldType.char)) ∈ lw_tbl := ts_1 (ai_nth_mem 61 rfl)
set_option maxRecDepth 100000 in
theorem tw_62 : (Cond.methodLink "java/lang/String" (492 : Nat) ({ cls := "java/lang/String", name := "isLatin1", desc := "()Z" } : Jvm.MethodName)) ∈ lw_tbl := ts_1 (ai_nth_mem 62 rfl)
set_option maxRecDepth 100000 in
theorem tw_63 : (Cond.instanceMethod ({ cls := "java/lang/String", name := "isLatin1", desc := "()Z" } : Jvm.MethodName)) ∈ lw_tbl := ts_1 (ai_nth_mem 63 rfl)
set_option maxRecDepth 100000 in
theorem tw_64 : (Cond.selects "java/lang/String" ({ cls := "java/lang/String", name := "isLatin1", desc := "()Z" } : Jvm.MethodName) ({ cls := "java/lang/String", name := "isLatin1", desc := "()Z" } : Jvm.MethodName)) ∈ lw_tbl := ts_1 (ai_nth_mem 64 rfl)
set_option maxRecDepth 100000 in
theorem tw_65 : (Cond.code ({ cls := "java/lang/String", name := "isLatin1", desc := "()Z" } : Jvm.MethodName) prog_23_method_154_code (1 : Nat) (Option.some Jvm.ClassFile.FieldType.boolean)) ∈ lw_tbl := ts_1 (ai_nth_mem 65 rfl)
set_option maxRecDepth 100000 in
theorem tw_66 : (Cond.methodLink "java/lang/String" (495 : Nat) ({ cls := "java/lang/StringLatin1", name := "charAt", desc := "([BI)C" } : Jvm.MethodName)) ∈ lw_tbl := ts_1 (ai_nth_mem 66 rfl)
set_option maxRecDepth 100000 in
theorem tw_67 : (Cond.static ({ cls := "java/lang/StringLatin1", name := "charAt", desc := "([BI)C" } : Jvm.MethodName)) ∈ lw_tbl := ts_1 (ai_nth_mem 67 rfl)
set_option maxRecDepth 100000 in
theorem tw_68 : (Cond.code ({ cls := "java/lang/StringLatin1", name := "charAt", desc := "([BI)C" } : Jvm.MethodName) prog_24_method_2_code (2 : Nat) (Option.some Jvm.ClassFile.FieldType.char)) ∈ lw_tbl := ts_1 (ai_nth_mem 68 rfl)
set_option maxRecDepth 100000 in
theorem tw_69 : (Cond.methodLink "java/lang/StringLatin1" (9 : Nat) ({ cls := "java/lang/String", name := "checkIndex", desc := "(II)V" } : Jvm.MethodName)) ∈ lw_tbl := ts_1 (ai_nth_mem 69 rfl)
set_option maxRecDepth 100000 in
theorem tw_70 : (Cond.static ({ cls := "java/lang/String", name := "checkIndex", desc := "(II)V" } : Jvm.MethodName)) ∈ lw_tbl := ts_1 (ai_nth_mem 70 rfl)
set_option maxRecDepth 100000 in
theorem tw_71 : (Cond.code ({ cls := "java/lang/String", name := "checkIndex", desc := "(II)V" } : Jvm.MethodName) prog_23_method_155_code (2 : Nat) (Option.none : Option Jvm.ClassFile.FieldType)) ∈ lw_tbl := ts_1 (ai_nth_mem 71 rfl)
set_option maxRecDepth 100000 in
theorem tw_72 : (Cond.fieldLink "java/lang/String" (1053 : Nat) "jdk/internal/util/Preconditions" "SIOOBE_FORMATTER" "Ljava/util/function/BiFunction;") ∈ lw_tbl := ts_1 (ai_nth_mem 72 rfl)
set_option maxRecDepth 100000 in
theorem tw_73 : (Cond.laysStatic "jdk/internal/util/Preconditions" "SIOOBE_FORMATTER" "Ljava/util/function/BiFunction;") ∈ lw_tbl := ts_1 (ai_nth_mem 73 rfl)
set_option maxRecDepth 100000 in
theorem tw_74 : (Cond.methodLink "java/lang/String" (1059 : Nat) ({ cls := "jdk/internal/util/Preconditions", name := "checkIndex", desc := "(IILjava/util/function/BiFunction;)I" } : Jvm.MethodName)) ∈ lw_tbl := ts_1 (ai_nth_mem 74 rfl)
set_option maxRecDepth 100000 in
theorem tw_75 : (Cond.static ({ cls := "jdk/internal/util/Preconditions", name := "checkIndex", desc := "(IILjava/util/function/BiFunction;)I" } : Jvm.MethodName)) ∈ lw_tbl := ts_1 (ai_nth_mem 75 rfl)
set_option maxRecDepth 100000 in
theorem tw_76 : (Cond.code ({ cls := "jdk/internal/util/Preconditions", name := "checkIndex", desc := "(IILjava/util/function/BiFunction;)I" } : Jvm.MethodName) prog_32_method_11_code (3 : Nat) (Option.some Jvm.ClassFile.FieldType.int)) ∈ lw_tbl := ts_1 (ai_nth_mem 76 rfl)
set_option maxRecDepth 100000 in
theorem tw_96 : (Cond.fieldLink "PathsKept$Tokens" (9 : Nat) "PathsKept$Tokens" "words" "[I") ∈ lw_tbl := ts_1 (ai_nth_mem 96 rfl)
set_option maxRecDepth 100000 in
theorem tw_97 : (Cond.fieldLink "PathsKept$Tokens" (25 : Nat) "PathsKept$Tokens" "bytes" "[B") ∈ lw_tbl := ts_1 (ai_nth_mem 97 rfl)
set_option maxRecDepth 100000 in
theorem tw_98 : (Cond.fieldLink "PathsKept$Tokens" (35 : Nat) "PathsKept$Tokens" "size" "I") ∈ lw_tbl := ts_1 (ai_nth_mem 98 rfl)
set_option maxRecDepth 100000 in
theorem tw_99 : (Cond.fieldLink "PathsKept$Tokens" (39 : Nat) "PathsKept$Tokens" "next" "I") ∈ lw_tbl := ts_1 (ai_nth_mem 99 rfl)
set_option maxRecDepth 100000 in
theorem tw_100 : (Cond.fieldLinkNest "PathsKept$Reader" (41 : Nat) "PathsKept$Tokens" "kind" "I" "PathsKept") ∈ lw_tbl := ts_1 (ai_nth_mem 100 rfl)
set_option maxRecDepth 100000 in
theorem tw_101 : (Cond.fieldLink "PathsKept$Tokens" (51 : Nat) "PathsKept$Tokens" "kind" "I") ∈ lw_tbl := ts_1 (ai_nth_mem 101 rfl)
set_option maxRecDepth 100000 in
theorem tw_102 : (Cond.fieldLinkNest "PathsKept$Reader" (54 : Nat) "PathsKept$Tokens" "place" "I" "PathsKept") ∈ lw_tbl := ts_1 (ai_nth_mem 102 rfl)
set_option maxRecDepth 100000 in
theorem tw_103 : (Cond.fieldLink "PathsKept$Tokens" (45 : Nat) "PathsKept$Tokens" "place" "I") ∈ lw_tbl := ts_1 (ai_nth_mem 103 rfl)
set_option maxRecDepth 100000 in
theorem tw_104 : (Cond.fieldLink "PathsKept$Tokens" (48 : Nat) "PathsKept$Tokens" "value" "I") ∈ lw_tbl := ts_1 (ai_nth_mem 104 rfl)
set_option maxRecDepth 100000 in
theorem tw_105 : (Cond.fieldLinkNest "PathsKept$Reader" (133 : Nat) "PathsKept$Tokens" "value" "I" "PathsKept") ∈ lw_tbl := ts_1 (ai_nth_mem 105 rfl)
set_option maxRecDepth 100000 in
theorem tw_121 : (Cond.arrayClass Jvm.ClassFile.FieldType.byte) ∈ lw_tbl := ts_1 (ai_nth_mem 121 rfl)
set_option maxRecDepth 100000 in
theorem tw_122 : (Cond.arrayClass Jvm.ClassFile.FieldType.int) ∈ lw_tbl := ts_1 (ai_nth_mem 122 rfl)
set_option maxRecDepth 100000 in
theorem tw_123 : (Cond.fieldLink "PathsKept$Reader" (12 : Nat) "PathsKept$Reader" "tokens" "LPathsKept$Tokens;") ∈ lw_tbl := ts_1 (ai_nth_mem 123 rfl)
set_option maxRecDepth 100000 in
theorem tw_124 : (Cond.fieldLink "PathsKept$Reader" (22 : Nat) "PathsKept$Reader" "told" "LPathsKept$Told;") ∈ lw_tbl := ts_1 (ai_nth_mem 124 rfl)
set_option maxRecDepth 100000 in
theorem tw_125 : (Cond.fieldLink "PathsKept$Reader" (31 : Nat) "PathsKept$Reader" "once" "I") ∈ lw_tbl := ts_1 (ai_nth_mem 125 rfl)
set_option maxRecDepth 100000 in
theorem tw_126 : (Cond.fieldLink "PathsKept$Reader" (34 : Nat) "PathsKept$Reader" "fault" "I") ∈ lw_tbl := ts_1 (ai_nth_mem 126 rfl)
set_option maxRecDepth 100000 in
theorem tw_127 : (Cond.fieldLinkNest "PathsKept" (106 : Nat) "PathsKept$Reader" "fault" "I" "PathsKept") ∈ lw_tbl := ts_1 (ai_nth_mem 127 rfl)
set_option maxRecDepth 100000 in
theorem tw_128 : (Cond.fieldLink "PathsKept$Reader" (18 : Nat) "PathsKept$Reader" "faultPlace" "I") ∈ lw_tbl := ts_1 (ai_nth_mem 128 rfl)
set_option maxRecDepth 100000 in
theorem tw_129 : (Cond.fieldLinkNest "PathsKept" (109 : Nat) "PathsKept$Reader" "faultPlace" "I" "PathsKept") ∈ lw_tbl := ts_1 (ai_nth_mem 129 rfl)
set_option maxRecDepth 100000 in
theorem tw_141 : (Cond.classLink "PathsKept" (20 : Nat) "PathsKept$Told") ∈ lw_tbl := ts_1 (ai_nth_mem 141 rfl)
set_option maxRecDepth 100000 in
theorem tw_142 : (Cond.instantiable "PathsKept$Told" (10 : Nat)) ∈ lw_tbl := ts_1 (ai_nth_mem 142 rfl)
set_option maxRecDepth 100000 in
theorem tw_143 : (Cond.methodLinkNest "PathsKept" (22 : Nat) ({ cls := "PathsKept$Told", name := "<init>", desc := "()V" } : Jvm.MethodName) "PathsKept") ∈ lw_tbl := ts_1 (ai_nth_mem 143 rfl)
set_option maxRecDepth 100000 in
theorem tw_144 : (Cond.instanceMethod ({ cls := "PathsKept$Told", name := "<init>", desc := "()V" } : Jvm.MethodName)) ∈ lw_tbl := ts_1 (ai_nth_mem 144 rfl)
set_option maxRecDepth 100000 in
theorem tw_145 : (Cond.code ({ cls := "PathsKept$Told", name := "<init>", desc := "()V" } : Jvm.MethodName) prog_10_method_1_code (1 : Nat) (Option.none : Option Jvm.ClassFile.FieldType)) ∈ lw_tbl := ts_1 (ai_nth_mem 145 rfl)
set_option maxRecDepth 100000 in
theorem tw_146 : (Cond.methodLink "PathsKept$Told" (3 : Nat) ({ cls := "java/lang/Object", name := "<init>", desc := "()V" } : Jvm.MethodName)) ∈ lw_tbl := ts_1 (ai_nth_mem 146 rfl)
set_option maxRecDepth 100000 in
theorem tw_147 : (Cond.classLink "PathsKept$Told" (9 : Nat) "PathsKept$Table") ∈ lw_tbl := ts_1 (ai_nth_mem 147 rfl)
set_option maxRecDepth 100000 in
theorem tw_148 : (Cond.instantiable "PathsKept$Table" (5 : Nat)) ∈ lw_tbl := ts_1 (ai_nth_mem 148 rfl)
set_option maxRecDepth 100000 in
theorem tw_149 : (Cond.methodLink "PathsKept$Told" (11 : Nat) ({ cls := "PathsKept$Table", name := "<init>", desc := "(II)V" } : Jvm.MethodName)) ∈ lw_tbl := ts_1 (ai_nth_mem 149 rfl)
set_option maxRecDepth 100000 in
theorem tw_150 : (Cond.instanceMethod ({ cls := "PathsKept$Table", name := "<init>", desc := "(II)V" } : Jvm.MethodName)) ∈ lw_tbl := ts_1 (ai_nth_mem 150 rfl)
set_option maxRecDepth 100000 in
theorem tw_151 : (Cond.code ({ cls := "PathsKept$Table", name := "<init>", desc := "(II)V" } : Jvm.MethodName) prog_8_method_1_code (3 : Nat) (Option.none : Option Jvm.ClassFile.FieldType)) ∈ lw_tbl := ts_1 (ai_nth_mem 151 rfl)
set_option maxRecDepth 100000 in
theorem tw_152 : (Cond.methodLink "PathsKept$Table" (3 : Nat) ({ cls := "java/lang/Object", name := "<init>", desc := "()V" } : Jvm.MethodName)) ∈ lw_tbl := ts_1 (ai_nth_mem 152 rfl)
set_option maxRecDepth 100000 in
theorem tw_153 : (Cond.fieldLink "PathsKept$Table" (9 : Nat) "PathsKept$Table" "most" "I") ∈ lw_tbl := ts_1 (ai_nth_mem 153 rfl)
set_option maxRecDepth 100000 in
theorem tw_154 : (Cond.fieldLink "PathsKept$Table" (15 : Nat) "PathsKept$Table" "width" "I") ∈ lw_tbl := ts_1 (ai_nth_mem 154 rfl)
set_option maxRecDepth 100000 in
theorem tw_155 : (Cond.fieldLink "PathsKept$Table" (18 : Nat) "PathsKept$Table" "names" "[I") ∈ lw_tbl := ts_1 (ai_nth_mem 155 rfl)
set_option maxRecDepth 100000 in
theorem tw_156 : (Cond.fieldLink "PathsKept$Table" (22 : Nat) "PathsKept$Table" "cells" "[I") ∈ lw_tbl := ts_1 (ai_nth_mem 156 rfl)
set_option maxRecDepth 100000 in
theorem tw_157 : (Cond.fieldLink "PathsKept$Table" (25 : Nat) "PathsKept$Table" "size" "I") ∈ lw_tbl := ts_1 (ai_nth_mem 157 rfl)
set_option maxRecDepth 100000 in
theorem tw_158 : (Cond.fieldLinkNest "PathsKept$Told" (43 : Nat) "PathsKept$Table" "size" "I" "PathsKept") ∈ lw_tbl := ts_1 (ai_nth_mem 158 rfl)
set_option maxRecDepth 100000 in
theorem tw_159 : (Cond.fieldLinkNest "PathsKept$Ways" (45 : Nat) "PathsKept$Table" "size" "I" "PathsKept") ∈ lw_tbl := ts_1 (ai_nth_mem 159 rfl)
set_option maxRecDepth 100000 in
theorem tw_160 : (Cond.fieldLinkNest "PathsKept$Standing" (46 : Nat) "PathsKept$Table" "size" "I" "PathsKept") ∈ lw_tbl := ts_1 (ai_nth_mem 160 rfl)
set_option maxRecDepth 100000 in
theorem tw_161 : (Cond.fieldLinkNest "PathsKept$Days" (80 : Nat) "PathsKept$Table" "size" "I" "PathsKept") ∈ lw_tbl := ts_1 (ai_nth_mem 161 rfl)
set_option maxRecDepth 100000 in
theorem tw_162 : (Cond.fieldLinkNest "PathsKept" (128 : Nat) "PathsKept$Table" "size" "I" "PathsKept") ∈ lw_tbl := ts_1 (ai_nth_mem 162 rfl)
set_option maxRecDepth 100000 in
theorem tw_174 : (Cond.classLink "PathsKept$Told" (32 : Nat) "PathsKept$Laws") ∈ lw_tbl := ts_1 (ai_nth_mem 174 rfl)
set_option maxRecDepth 100000 in
theorem tw_175 : (Cond.instantiable "PathsKept$Laws" (8 : Nat)) ∈ lw_tbl := ts_1 (ai_nth_mem 175 rfl)
set_option maxRecDepth 100000 in
theorem tw_176 : (Cond.methodLinkNest "PathsKept$Told" (34 : Nat) ({ cls := "PathsKept$Laws", name := "<init>", desc := "()V" } : Jvm.MethodName) "PathsKept") ∈ lw_tbl := ts_1 (ai_nth_mem 176 rfl)
set_option maxRecDepth 100000 in
theorem tw_177 : (Cond.instanceMethod ({ cls := "PathsKept$Laws", name := "<init>", desc := "()V" } : Jvm.MethodName)) ∈ lw_tbl := ts_1 (ai_nth_mem 177 rfl)
set_option maxRecDepth 100000 in
theorem tw_178 : (Cond.code ({ cls := "PathsKept$Laws", name := "<init>", desc := "()V" } : Jvm.MethodName) prog_4_method_1_code (1 : Nat) (Option.none : Option Jvm.ClassFile.FieldType)) ∈ lw_tbl := ts_1 (ai_nth_mem 178 rfl)
set_option maxRecDepth 100000 in
theorem tw_179 : (Cond.methodLink "PathsKept$Laws" (5 : Nat) ({ cls := "java/lang/Object", name := "<init>", desc := "()V" } : Jvm.MethodName)) ∈ lw_tbl := ts_1 (ai_nth_mem 179 rfl)
set_option maxRecDepth 100000 in
theorem tw_180 : (Cond.fieldLink "PathsKept$Laws" (11 : Nat) "PathsKept$Laws" "start" "[I") ∈ lw_tbl := ts_1 (ai_nth_mem 180 rfl)
set_option maxRecDepth 100000 in
theorem tw_181 : (Cond.fieldLinkNest "PathsKept$Reader" (162 : Nat) "PathsKept$Laws" "start" "[I" "PathsKept") ∈ lw_tbl := ts_1 (ai_nth_mem 181 rfl)
set_option maxRecDepth 100000 in
theorem tw_182 : (Cond.fieldLink "PathsKept$Laws" (17 : Nat) "PathsKept$Laws" "end" "[I") ∈ lw_tbl := ts_1 (ai_nth_mem 182 rfl)
set_option maxRecDepth 100000 in
theorem tw_183 : (Cond.fieldLinkNest "PathsKept$Reader" (172 : Nat) "PathsKept$Laws" "end" "[I" "PathsKept") ∈ lw_tbl := ts_1 (ai_nth_mem 183 rfl)
set_option maxRecDepth 100000 in
theorem tw_184 : (Cond.fieldLink "PathsKept$Laws" (20 : Nat) "PathsKept$Laws" "kinds" "[I") ∈ lw_tbl := ts_1 (ai_nth_mem 184 rfl)
set_option maxRecDepth 100000 in
theorem tw_185 : (Cond.fieldLink "PathsKept$Laws" (23 : Nat) "PathsKept$Laws" "numbers" "[I") ∈ lw_tbl := ts_1 (ai_nth_mem 185 rfl)
set_option maxRecDepth 100000 in
theorem tw_186 : (Cond.fieldLink "PathsKept$Laws" (41 : Nat) "PathsKept$Laws" "size" "I") ∈ lw_tbl := ts_1 (ai_nth_mem 186 rfl)
set_option maxRecDepth 100000 in
theorem tw_187 : (Cond.fieldLinkNest "PathsKept$Reader" (166 : Nat) "PathsKept$Laws" "size" "I" "PathsKept") ∈ lw_tbl := ts_1 (ai_nth_mem 187 rfl)
set_option maxRecDepth 100000 in
theorem tw_188 : (Cond.fieldLink "PathsKept$Laws" (45 : Nat) "PathsKept$Laws" "knots" "I") ∈ lw_tbl := ts_1 (ai_nth_mem 188 rfl)
set_option maxRecDepth 100000 in
theorem tw_189 : (Cond.fieldLinkNest "PathsKept" (209 : Nat) "PathsKept$Laws" "knots" "I" "PathsKept") ∈ lw_tbl := ts_1 (ai_nth_mem 189 rfl)
set_option maxRecDepth 100000 in
theorem tw_190 : (Cond.fieldLinkNest "PathsKept$Reader" (192 : Nat) "PathsKept$Laws" "knots" "I" "PathsKept") ∈ lw_tbl := ts_1 (ai_nth_mem 190 rfl)
set_option maxRecDepth 100000 in
theorem tw_191 : (Cond.fieldLink "PathsKept$Laws" (28 : Nat) "PathsKept$Laws" "names" "[J") ∈ lw_tbl := ts_1 (ai_nth_mem 191 rfl)
set_option maxRecDepth 100000 in
theorem tw_192 : (Cond.fieldLinkNest "PathsKept$Days" (147 : Nat) "PathsKept$Laws" "names" "[J" "PathsKept") ∈ lw_tbl := ts_1 (ai_nth_mem 192 rfl)
set_option maxRecDepth 100000 in
theorem tw_193 : (Cond.fieldLink "PathsKept$Laws" (32 : Nat) "PathsKept$Laws" "stack" "[J") ∈ lw_tbl := ts_1 (ai_nth_mem 193 rfl)
set_option maxRecDepth 100000 in
theorem tw_211 : (Cond.arrayClass Jvm.ClassFile.FieldType.long) ∈ lw_tbl := ts_1 (ai_nth_mem 211 rfl)
set_option maxRecDepth 100000 in
theorem tw_212 : (Cond.fieldLink "PathsKept$Told" (14 : Nat) "PathsKept$Told" "places" "LPathsKept$Table;") ∈ lw_tbl := ts_1 (ai_nth_mem 212 rfl)
set_option maxRecDepth 100000 in
theorem tw_213 : (Cond.fieldLinkNest "PathsKept$Ways" (59 : Nat) "PathsKept$Told" "places" "LPathsKept$Table;" "PathsKept") ∈ lw_tbl := ts_1 (ai_nth_mem 213 rfl)
set_option maxRecDepth 100000 in
theorem tw_214 : (Cond.fieldLinkNest "PathsKept$Reader" (70 : Nat) "PathsKept$Told" "places" "LPathsKept$Table;" "PathsKept") ∈ lw_tbl := ts_1 (ai_nth_mem 214 rfl)
set_option maxRecDepth 100000 in
theorem tw_215 : (Cond.fieldLinkNest "PathsKept" (112 : Nat) "PathsKept$Told" "places" "LPathsKept$Table;" "PathsKept") ∈ lw_tbl := ts_1 (ai_nth_mem 215 rfl)
set_option maxRecDepth 100000 in
theorem tw_216 : (Cond.fieldLink "PathsKept$Told" (20 : Nat) "PathsKept$Told" "paths" "LPathsKept$Table;") ∈ lw_tbl := ts_1 (ai_nth_mem 216 rfl)
set_option maxRecDepth 100000 in
theorem tw_217 : (Cond.fieldLinkNest "PathsKept$Ways" (42 : Nat) "PathsKept$Told" "paths" "LPathsKept$Table;" "PathsKept") ∈ lw_tbl := ts_1 (ai_nth_mem 217 rfl)
set_option maxRecDepth 100000 in
theorem tw_218 : (Cond.fieldLinkNest "PathsKept$Standing" (42 : Nat) "PathsKept$Told" "paths" "LPathsKept$Table;" "PathsKept") ∈ lw_tbl := ts_1 (ai_nth_mem 218 rfl)
set_option maxRecDepth 100000 in
theorem tw_219 : (Cond.fieldLinkNest "PathsKept$Days" (77 : Nat) "PathsKept$Told" "paths" "LPathsKept$Table;" "PathsKept") ∈ lw_tbl := ts_1 (ai_nth_mem 219 rfl)
set_option maxRecDepth 100000 in
theorem tw_220 : (Cond.fieldLinkNest "PathsKept" (122 : Nat) "PathsKept$Told" "paths" "LPathsKept$Table;" "PathsKept") ∈ lw_tbl := ts_1 (ai_nth_mem 220 rfl)
set_option maxRecDepth 100000 in
theorem tw_221 : (Cond.fieldLinkNest "PathsKept$Reader" (122 : Nat) "PathsKept$Told" "paths" "LPathsKept$Table;" "PathsKept") ∈ lw_tbl := ts_1 (ai_nth_mem 221 rfl)
set_option maxRecDepth 100000 in
theorem tw_222 : (Cond.fieldLink "PathsKept$Told" (23 : Nat) "PathsKept$Told" "walkers" "LPathsKept$Table;") ∈ lw_tbl := ts_1 (ai_nth_mem 222 rfl)
set_option maxRecDepth 100000 in
theorem tw_223 : (Cond.fieldLinkNest "PathsKept$Ways" (30 : Nat) "PathsKept$Told" "walkers" "LPathsKept$Table;" "PathsKept") ∈ lw_tbl := ts_1 (ai_nth_mem 223 rfl)
set_option maxRecDepth 100000 in
theorem tw_224 : (Cond.fieldLinkNest "PathsKept$Days" (53 : Nat) "PathsKept$Told" "walkers" "LPathsKept$Table;" "PathsKept") ∈ lw_tbl := ts_1 (ai_nth_mem 224 rfl)
set_option maxRecDepth 100000 in
theorem tw_225 : (Cond.fieldLinkNest "PathsKept$Standing" (58 : Nat) "PathsKept$Told" "walkers" "LPathsKept$Table;" "PathsKept") ∈ lw_tbl := ts_1 (ai_nth_mem 225 rfl)
set_option maxRecDepth 100000 in
theorem tw_226 : (Cond.fieldLinkNest "PathsKept" (125 : Nat) "PathsKept$Told" "walkers" "LPathsKept$Table;" "PathsKept") ∈ lw_tbl := ts_1 (ai_nth_mem 226 rfl)
set_option maxRecDepth 100000 in
theorem tw_227 : (Cond.fieldLinkNest "PathsKept$Reader" (140 : Nat) "PathsKept$Told" "walkers" "LPathsKept$Table;" "PathsKept") ∈ lw_tbl := ts_1 (ai_nth_mem 227 rfl)
set_option maxRecDepth 100000 in
theorem tw_228 : (Cond.fieldLink "PathsKept$Told" (26 : Nat) "PathsKept$Told" "walks" "LPathsKept$Table;") ∈ lw_tbl := ts_1 (ai_nth_mem 228 rfl)
set_option maxRecDepth 100000 in
theorem tw_229 : (Cond.fieldLinkNest "PathsKept$Days" (109 : Nat) "PathsKept$Told" "walks" "LPathsKept$Table;" "PathsKept") ∈ lw_tbl := ts_1 (ai_nth_mem 229 rfl)
set_option maxRecDepth 100000 in
theorem tw_230 : (Cond.fieldLinkNest "PathsKept$Reader" (143 : Nat) "PathsKept$Told" "walks" "LPathsKept$Table;" "PathsKept") ∈ lw_tbl := ts_1 (ai_nth_mem 230 rfl)
set_option maxRecDepth 100000 in
theorem tw_231 : (Cond.fieldLinkNest "PathsKept" (206 : Nat) "PathsKept$Told" "walks" "LPathsKept$Table;" "PathsKept") ∈ lw_tbl := ts_1 (ai_nth_mem 231 rfl)
set_option maxRecDepth 100000 in
theorem tw_232 : (Cond.fieldLink "PathsKept$Told" (29 : Nat) "PathsKept$Told" "bulls" "LPathsKept$Table;") ∈ lw_tbl := ts_1 (ai_nth_mem 232 rfl)
set_option maxRecDepth 100000 in
theorem tw_233 : (Cond.fieldLinkNest "PathsKept$Reader" (146 : Nat) "PathsKept$Told" "bulls" "LPathsKept$Table;" "PathsKept") ∈ lw_tbl := ts_1 (ai_nth_mem 233 rfl)
set_option maxRecDepth 100000 in
theorem tw_234 : (Cond.fieldLink "PathsKept$Told" (35 : Nat) "PathsKept$Told" "laws" "LPathsKept$Laws;") ∈ lw_tbl := ts_1 (ai_nth_mem 234 rfl)
set_option maxRecDepth 100000 in
theorem tw_235 : (Cond.fieldLinkNest "PathsKept$Days" (31 : Nat) "PathsKept$Told" "laws" "LPathsKept$Laws;" "PathsKept") ∈ lw_tbl := ts_1 (ai_nth_mem 235 rfl)
set_option maxRecDepth 100000 in
theorem tw_236 : (Cond.fieldLinkNest "PathsKept" (198 : Nat) "PathsKept$Told" "laws" "LPathsKept$Laws;" "PathsKept") ∈ lw_tbl := ts_1 (ai_nth_mem 236 rfl)
set_option maxRecDepth 100000 in
theorem tw_237 : (Cond.fieldLinkNest "PathsKept$Reader" (158 : Nat) "PathsKept$Told" "laws" "LPathsKept$Laws;" "PathsKept") ∈ lw_tbl := ts_1 (ai_nth_mem 237 rfl)
set_option maxRecDepth 100000 in
theorem tw_238 : (Cond.fieldLink "PathsKept$Told" (39 : Nat) "PathsKept$Told" "year" "I") ∈ lw_tbl := ts_1 (ai_nth_mem 238 rfl)
set_option maxRecDepth 100000 in
theorem tw_239 : (Cond.fieldLinkNest "PathsKept$Days" (46 : Nat) "PathsKept$Told" "year" "I" "PathsKept") ∈ lw_tbl := ts_1 (ai_nth_mem 239 rfl)
set_option maxRecDepth 100000 in
theorem tw_240 : (Cond.fieldLinkNest "PathsKept$Reader" (105 : Nat) "PathsKept$Told" "year" "I" "PathsKept") ∈ lw_tbl := ts_2 (ai_nth_mem 0 rfl)
set_option maxRecDepth 100000 in
theorem tw_241 : (Cond.fieldLink "PathsKept$Told" (49 : Nat) "PathsKept$Told" "snow" "I") ∈ lw_tbl := ts_2 (ai_nth_mem 1 rfl)
set_option maxRecDepth 100000 in
theorem tw_242 : (Cond.fieldLinkNest "PathsKept$Days" (98 : Nat) "PathsKept$Told" "snow" "I" "PathsKept") ∈ lw_tbl := ts_2 (ai_nth_mem 2 rfl)
set_option maxRecDepth 100000 in
theorem tw_243 : (Cond.fieldLinkNest "PathsKept$Reader" (108 : Nat) "PathsKept$Told" "snow" "I" "PathsKept") ∈ lw_tbl := ts_2 (ai_nth_mem 3 rfl)
set_option maxRecDepth 100000 in
theorem tw_244 : (Cond.fieldLinkNest "PathsKept" (320 : Nat) "PathsKept$Told" "snow" "I" "PathsKept") ∈ lw_tbl := ts_2 (ai_nth_mem 4 rfl)
set_option maxRecDepth 100000 in
theorem tw_245 : (Cond.fieldLinkNest "PathsKept$Standing" (28 : Nat) "PathsKept$Told" "seed" "I" "PathsKept") ∈ lw_tbl := ts_2 (ai_nth_mem 5 rfl)
set_option maxRecDepth 100000 in
theorem tw_246 : (Cond.fieldLink "PathsKept$Told" (52 : Nat) "PathsKept$Told" "seed" "I") ∈ lw_tbl := ts_2 (ai_nth_mem 6 rfl)
set_option maxRecDepth 100000 in
theorem tw_247 : (Cond.fieldLinkNest "PathsKept$Reader" (112 : Nat) "PathsKept$Told" "seed" "I" "PathsKept") ∈ lw_tbl := ts_2 (ai_nth_mem 7 rfl)
set_option maxRecDepth 100000 in
theorem tw_248 : (Cond.fieldLink "PathsKept$Told" (55 : Nat) "PathsKept$Told" "lines" "I") ∈ lw_tbl := ts_2 (ai_nth_mem 8 rfl)
set_option maxRecDepth 100000 in
theorem tw_249 : (Cond.fieldLinkNest "PathsKept$Reader" (51 : Nat) "PathsKept$Told" "lines" "I" "PathsKept") ∈ lw_tbl := ts_2 (ai_nth_mem 9 rfl)
set_option maxRecDepth 100000 in
theorem tw_250 : (Cond.fieldLinkNest "PathsKept" (103 : Nat) "PathsKept$Told" "lines" "I" "PathsKept") ∈ lw_tbl := ts_2 (ai_nth_mem 10 rfl)
set_option maxRecDepth 100000 in
theorem tw_272 : (Cond.classLink "PathsKept" (30 : Nat) "PathsKept$Standing") ∈ lw_tbl := ts_2 (ai_nth_mem 32 rfl)
set_option maxRecDepth 100000 in
theorem tw_273 : (Cond.instantiable "PathsKept$Standing" (9 : Nat)) ∈ lw_tbl := ts_2 (ai_nth_mem 33 rfl)
set_option maxRecDepth 100000 in
theorem tw_274 : (Cond.methodLinkNest "PathsKept" (32 : Nat) ({ cls := "PathsKept$Standing", name := "<init>", desc := "()V" } : Jvm.MethodName) "PathsKept") ∈ lw_tbl := ts_2 (ai_nth_mem 34 rfl)
set_option maxRecDepth 100000 in
theorem tw_275 : (Cond.instanceMethod ({ cls := "PathsKept$Standing", name := "<init>", desc := "()V" } : Jvm.MethodName)) ∈ lw_tbl := ts_2 (ai_nth_mem 35 rfl)
set_option maxRecDepth 100000 in
theorem tw_276 : (Cond.code ({ cls := "PathsKept$Standing", name := "<init>", desc := "()V" } : Jvm.MethodName) prog_7_method_1_code (1 : Nat) (Option.none : Option Jvm.ClassFile.FieldType)) ∈ lw_tbl := ts_2 (ai_nth_mem 36 rfl)
set_option maxRecDepth 100000 in
theorem tw_277 : (Cond.methodLink "PathsKept$Standing" (3 : Nat) ({ cls := "java/lang/Object", name := "<init>", desc := "()V" } : Jvm.MethodName)) ∈ lw_tbl := ts_2 (ai_nth_mem 37 rfl)
set_option maxRecDepth 100000 in
theorem tw_278 : (Cond.fieldLink "PathsKept$Standing" (24 : Nat) "PathsKept$Standing" "day" "I") ∈ lw_tbl := ts_2 (ai_nth_mem 38 rfl)
set_option maxRecDepth 100000 in
theorem tw_279 : (Cond.fieldLinkNest "PathsKept$Days" (95 : Nat) "PathsKept$Standing" "day" "I" "PathsKept") ∈ lw_tbl := ts_2 (ai_nth_mem 39 rfl)
set_option maxRecDepth 100000 in
theorem tw_280 : (Cond.fieldLinkNest "PathsKept" (156 : Nat) "PathsKept$Standing" "day" "I" "PathsKept") ∈ lw_tbl := ts_2 (ai_nth_mem 40 rfl)
set_option maxRecDepth 100000 in
theorem tw_281 : (Cond.fieldLink "PathsKept$Standing" (33 : Nat) "PathsKept$Standing" "number" "I") ∈ lw_tbl := ts_2 (ai_nth_mem 41 rfl)
set_option maxRecDepth 100000 in
theorem tw_282 : (Cond.fieldLinkNest "PathsKept$Days" (101 : Nat) "PathsKept$Standing" "number" "I" "PathsKept") ∈ lw_tbl := ts_2 (ai_nth_mem 42 rfl)
set_option maxRecDepth 100000 in
theorem tw_283 : (Cond.fieldLinkNest "PathsKept" (261 : Nat) "PathsKept$Standing" "number" "I" "PathsKept") ∈ lw_tbl := ts_2 (ai_nth_mem 43 rfl)
set_option maxRecDepth 100000 in
theorem tw_284 : (Cond.fieldLink "PathsKept$Standing" (36 : Nat) "PathsKept$Standing" "done" "I") ∈ lw_tbl := ts_2 (ai_nth_mem 44 rfl)
set_option maxRecDepth 100000 in
theorem tw_285 : (Cond.fieldLinkNest "PathsKept$Days" (171 : Nat) "PathsKept$Standing" "done" "I" "PathsKept") ∈ lw_tbl := ts_2 (ai_nth_mem 45 rfl)
set_option maxRecDepth 100000 in
theorem tw_286 : (Cond.fieldLinkNest "PathsKept" (220 : Nat) "PathsKept$Standing" "done" "I" "PathsKept") ∈ lw_tbl := ts_2 (ai_nth_mem 46 rfl)
set_option maxRecDepth 100000 in
theorem tw_287 : (Cond.fieldLink "PathsKept$Standing" (39 : Nat) "PathsKept$Standing" "refused" "I") ∈ lw_tbl := ts_2 (ai_nth_mem 47 rfl)
set_option maxRecDepth 100000 in
theorem tw_288 : (Cond.fieldLinkNest "PathsKept$Days" (119 : Nat) "PathsKept$Standing" "refused" "I" "PathsKept") ∈ lw_tbl := ts_2 (ai_nth_mem 48 rfl)
set_option maxRecDepth 100000 in
theorem tw_289 : (Cond.fieldLinkNest "PathsKept" (223 : Nat) "PathsKept$Standing" "refused" "I" "PathsKept") ∈ lw_tbl := ts_2 (ai_nth_mem 49 rfl)
set_option maxRecDepth 100000 in
theorem tw_290 : (Cond.fieldLink "PathsKept$Standing" (51 : Nat) "PathsKept$Standing" "kept" "I") ∈ lw_tbl := ts_2 (ai_nth_mem 50 rfl)
set_option maxRecDepth 100000 in
theorem tw_291 : (Cond.fieldLinkNest "PathsKept$Days" (144 : Nat) "PathsKept$Standing" "kept" "I" "PathsKept") ∈ lw_tbl := ts_2 (ai_nth_mem 51 rfl)
set_option maxRecDepth 100000 in
theorem tw_292 : (Cond.fieldLinkNest "PathsKept" (212 : Nat) "PathsKept$Standing" "kept" "I" "PathsKept") ∈ lw_tbl := ts_2 (ai_nth_mem 52 rfl)
set_option maxRecDepth 100000 in
theorem tw_293 : (Cond.fieldLink "PathsKept$Standing" (9 : Nat) "PathsKept$Standing" "age" "[I") ∈ lw_tbl := ts_2 (ai_nth_mem 53 rfl)
set_option maxRecDepth 100000 in
theorem tw_294 : (Cond.fieldLinkNest "PathsKept$Days" (122 : Nat) "PathsKept$Standing" "age" "[I" "PathsKept") ∈ lw_tbl := ts_2 (ai_nth_mem 54 rfl)
set_option maxRecDepth 100000 in
theorem tw_295 : (Cond.fieldLinkNest "PathsKept" (146 : Nat) "PathsKept$Standing" "age" "[I" "PathsKept") ∈ lw_tbl := ts_2 (ai_nth_mem 55 rfl)
set_option maxRecDepth 100000 in
theorem tw_296 : (Cond.fieldLinkNest "PathsKept$Ways" (110 : Nat) "PathsKept$Standing" "age" "[I" "PathsKept") ∈ lw_tbl := ts_2 (ai_nth_mem 56 rfl)
set_option maxRecDepth 100000 in
theorem tw_297 : (Cond.fieldLink "PathsKept$Standing" (15 : Nat) "PathsKept$Standing" "gone" "[I") ∈ lw_tbl := ts_2 (ai_nth_mem 57 rfl)
set_option maxRecDepth 100000 in
theorem tw_298 : (Cond.fieldLinkNest "PathsKept$Days" (153 : Nat) "PathsKept$Standing" "gone" "[I" "PathsKept") ∈ lw_tbl := ts_2 (ai_nth_mem 58 rfl)
set_option maxRecDepth 100000 in
theorem tw_299 : (Cond.fieldLinkNest "PathsKept" (153 : Nat) "PathsKept$Standing" "gone" "[I" "PathsKept") ∈ lw_tbl := ts_2 (ai_nth_mem 59 rfl)
set_option maxRecDepth 100000 in
theorem tw_300 : (Cond.fieldLink "PathsKept$Standing" (18 : Nat) "PathsKept$Standing" "at" "[I") ∈ lw_tbl := ts_2 (ai_nth_mem 60 rfl)
set_option maxRecDepth 100000 in
theorem tw_301 : (Cond.fieldLinkNest "PathsKept$Days" (160 : Nat) "PathsKept$Standing" "at" "[I" "PathsKept") ∈ lw_tbl := ts_2 (ai_nth_mem 61 rfl)
set_option maxRecDepth 100000 in
theorem tw_302 : (Cond.fieldLinkNest "PathsKept$Ways" (90 : Nat) "PathsKept$Standing" "at" "[I" "PathsKept") ∈ lw_tbl := ts_2 (ai_nth_mem 62 rfl)
set_option maxRecDepth 100000 in
theorem tw_303 : (Cond.fieldLinkNest "PathsKept" (171 : Nat) "PathsKept$Standing" "at" "[I" "PathsKept") ∈ lw_tbl := ts_2 (ai_nth_mem 63 rfl)
set_option maxRecDepth 100000 in
theorem tw_304 : (Cond.fieldLink "PathsKept$Standing" (21 : Nat) "PathsKept$Standing" "left" "[I") ∈ lw_tbl := ts_2 (ai_nth_mem 64 rfl)
set_option maxRecDepth 100000 in
theorem tw_305 : (Cond.fieldLinkNest "PathsKept$Days" (92 : Nat) "PathsKept$Standing" "left" "[I" "PathsKept") ∈ lw_tbl := ts_2 (ai_nth_mem 65 rfl)
set_option maxRecDepth 100000 in
theorem tw_306 : (Cond.fieldLinkNest "PathsKept" (174 : Nat) "PathsKept$Standing" "left" "[I" "PathsKept") ∈ lw_tbl := ts_2 (ai_nth_mem 66 rfl)
set_option maxRecDepth 100000 in
theorem tw_327 : (Cond.classLink "PathsKept" (47 : Nat) "PathsKept$Days") ∈ lw_tbl := ts_2 (ai_nth_mem 87 rfl)
set_option maxRecDepth 100000 in
theorem tw_328 : (Cond.instantiable "PathsKept$Days" (8 : Nat)) ∈ lw_tbl := ts_2 (ai_nth_mem 88 rfl)
set_option maxRecDepth 100000 in
theorem tw_329 : (Cond.methodLinkNest "PathsKept" (49 : Nat) ({ cls := "PathsKept$Days", name := "<init>", desc := "()V" } : Jvm.MethodName) "PathsKept") ∈ lw_tbl := ts_2 (ai_nth_mem 89 rfl)
set_option maxRecDepth 100000 in
theorem tw_330 : (Cond.instanceMethod ({ cls := "PathsKept$Days", name := "<init>", desc := "()V" } : Jvm.MethodName)) ∈ lw_tbl := ts_2 (ai_nth_mem 90 rfl)
set_option maxRecDepth 100000 in
theorem tw_331 : (Cond.code ({ cls := "PathsKept$Days", name := "<init>", desc := "()V" } : Jvm.MethodName) prog_2_method_1_code (1 : Nat) (Option.none : Option Jvm.ClassFile.FieldType)) ∈ lw_tbl := ts_2 (ai_nth_mem 91 rfl)
set_option maxRecDepth 100000 in
theorem tw_332 : (Cond.methodLink "PathsKept$Days" (3 : Nat) ({ cls := "java/lang/Object", name := "<init>", desc := "()V" } : Jvm.MethodName)) ∈ lw_tbl := ts_2 (ai_nth_mem 92 rfl)
set_option maxRecDepth 100000 in
theorem tw_333 : (Cond.fieldLink "PathsKept$Days" (15 : Nat) "PathsKept$Days" "told" "LPathsKept$Told;") ∈ lw_tbl := ts_2 (ai_nth_mem 93 rfl)
set_option maxRecDepth 100000 in
theorem tw_334 : (Cond.fieldLink "PathsKept$Days" (19 : Nat) "PathsKept$Days" "standing" "LPathsKept$Standing;") ∈ lw_tbl := ts_2 (ai_nth_mem 94 rfl)
set_option maxRecDepth 100000 in
theorem tw_335 : (Cond.fieldLink "PathsKept$Days" (23 : Nat) "PathsKept$Days" "snowBy" "I") ∈ lw_tbl := ts_2 (ai_nth_mem 95 rfl)
set_option maxRecDepth 100000 in
theorem tw_336 : (Cond.fieldLink "PathsKept$Days" (27 : Nat) "PathsKept$Days" "bulls" "Z") ∈ lw_tbl := ts_2 (ai_nth_mem 96 rfl)
set_option maxRecDepth 100000 in
theorem tw_337 : (Cond.fieldLink "PathsKept$Days" (43 : Nat) "PathsKept$Days" "termAsked" "Z") ∈ lw_tbl := ts_2 (ai_nth_mem 97 rfl)
set_option maxRecDepth 100000 in
theorem tw_338 : (Cond.fieldLink "PathsKept$Days" (49 : Nat) "PathsKept$Days" "year" "I") ∈ lw_tbl := ts_2 (ai_nth_mem 98 rfl)
set_option maxRecDepth 100000 in
theorem tw_339 : (Cond.fieldLink "PathsKept$Days" (50 : Nat) "PathsKept$Days" "stays" "I") ∈ lw_tbl := ts_2 (ai_nth_mem 99 rfl)
set_option maxRecDepth 100000 in
theorem tw_340 : (Cond.fieldLink "PathsKept$Days" (9 : Nat) "PathsKept$Days" "legs" "[I") ∈ lw_tbl := ts_2 (ai_nth_mem 100 rfl)
set_option maxRecDepth 100000 in
theorem tw_341 : (Cond.fieldLinkNest "PathsKept" (358 : Nat) "PathsKept$Days" "legs" "[I" "PathsKept") ∈ lw_tbl := ts_2 (ai_nth_mem 101 rfl)
set_option maxRecDepth 100000 in
theorem tw_359 : (Cond.classLink "PathsKept" (54 : Nat) "PathsKept$Seen") ∈ lw_tbl := ts_2 (ai_nth_mem 119 rfl)
set_option maxRecDepth 100000 in
theorem tw_360 : (Cond.instantiable "PathsKept$Seen" (9 : Nat)) ∈ lw_tbl := ts_2 (ai_nth_mem 120 rfl)
set_option maxRecDepth 100000 in
theorem tw_361 : (Cond.methodLinkNest "PathsKept" (56 : Nat) ({ cls := "PathsKept$Seen", name := "<init>", desc := "()V" } : Jvm.MethodName) "PathsKept") ∈ lw_tbl := ts_2 (ai_nth_mem 121 rfl)
set_option maxRecDepth 100000 in
theorem tw_362 : (Cond.instanceMethod ({ cls := "PathsKept$Seen", name := "<init>", desc := "()V" } : Jvm.MethodName)) ∈ lw_tbl := ts_2 (ai_nth_mem 122 rfl)
set_option maxRecDepth 100000 in
theorem tw_363 : (Cond.code ({ cls := "PathsKept$Seen", name := "<init>", desc := "()V" } : Jvm.MethodName) prog_6_method_1_code (1 : Nat) (Option.none : Option Jvm.ClassFile.FieldType)) ∈ lw_tbl := ts_2 (ai_nth_mem 123 rfl)
set_option maxRecDepth 100000 in
theorem tw_364 : (Cond.methodLink "PathsKept$Seen" (3 : Nat) ({ cls := "java/lang/Object", name := "<init>", desc := "()V" } : Jvm.MethodName)) ∈ lw_tbl := ts_2 (ai_nth_mem 124 rfl)
set_option maxRecDepth 100000 in
theorem tw_365 : (Cond.fieldLink "PathsKept$Seen" (9 : Nat) "PathsKept$Seen" "kind" "[I") ∈ lw_tbl := ts_2 (ai_nth_mem 125 rfl)
set_option maxRecDepth 100000 in
theorem tw_366 : (Cond.fieldLink "PathsKept$Seen" (15 : Nat) "PathsKept$Seen" "day" "[I") ∈ lw_tbl := ts_2 (ai_nth_mem 126 rfl)
set_option maxRecDepth 100000 in
theorem tw_367 : (Cond.fieldLink "PathsKept$Seen" (18 : Nat) "PathsKept$Seen" "whom" "[I") ∈ lw_tbl := ts_2 (ai_nth_mem 127 rfl)
set_option maxRecDepth 100000 in
theorem tw_368 : (Cond.fieldLink "PathsKept$Seen" (21 : Nat) "PathsKept$Seen" "place" "[I") ∈ lw_tbl := ts_2 (ai_nth_mem 128 rfl)
set_option maxRecDepth 100000 in
theorem tw_369 : (Cond.fieldLink "PathsKept$Seen" (24 : Nat) "PathsKept$Seen" "counts" "[Z") ∈ lw_tbl := ts_2 (ai_nth_mem 129 rfl)
set_option maxRecDepth 100000 in
theorem tw_370 : (Cond.fieldLink "PathsKept$Seen" (35 : Nat) "PathsKept$Seen" "size" "I") ∈ lw_tbl := ts_2 (ai_nth_mem 130 rfl)
set_option maxRecDepth 100000 in
theorem tw_371 : (Cond.fieldLinkNest "PathsKept" (230 : Nat) "PathsKept$Seen" "size" "I" "PathsKept") ∈ lw_tbl := ts_2 (ai_nth_mem 131 rfl)
set_option maxRecDepth 100000 in
theorem tw_372 : (Cond.fieldLink "PathsKept$Seen" (28 : Nat) "PathsKept$Seen" "knownBy" "I") ∈ lw_tbl := ts_2 (ai_nth_mem 132 rfl)
set_option maxRecDepth 100000 in
theorem tw_373 : (Cond.fieldLinkNest "PathsKept" (337 : Nat) "PathsKept$Seen" "knownBy" "I" "PathsKept") ∈ lw_tbl := ts_2 (ai_nth_mem 133 rfl)
set_option maxRecDepth 100000 in
theorem tw_374 : (Cond.fieldLink "PathsKept$Seen" (42 : Nat) "PathsKept$Seen" "lastDay" "I") ∈ lw_tbl := ts_2 (ai_nth_mem 134 rfl)
set_option maxRecDepth 100000 in
theorem tw_375 : (Cond.fieldLinkNest "PathsKept" (361 : Nat) "PathsKept$Seen" "lastDay" "I" "PathsKept") ∈ lw_tbl := ts_2 (ai_nth_mem 135 rfl)
set_option maxRecDepth 100000 in
theorem tw_376 : (Cond.fieldLink "PathsKept$Seen" (32 : Nat) "PathsKept$Seen" "hits" "[I") ∈ lw_tbl := ts_2 (ai_nth_mem 136 rfl)
set_option maxRecDepth 100000 in
theorem tw_377 : (Cond.fieldLinkNest "PathsKept" (346 : Nat) "PathsKept$Seen" "hits" "[I" "PathsKept") ∈ lw_tbl := ts_2 (ai_nth_mem 137 rfl)
set_option maxRecDepth 100000 in
theorem tw_397 : (Cond.arrayClass Jvm.ClassFile.FieldType.boolean) ∈ lw_tbl := ts_2 (ai_nth_mem 157 rfl)
set_option maxRecDepth 100000 in
theorem tw_398 : (Cond.classLink "PathsKept" (61 : Nat) "PathsKept$Ways") ∈ lw_tbl := ts_2 (ai_nth_mem 158 rfl)
set_option maxRecDepth 100000 in
theorem tw_399 : (Cond.instantiable "PathsKept$Ways" (7 : Nat)) ∈ lw_tbl := ts_2 (ai_nth_mem 159 rfl)
set_option maxRecDepth 100000 in
theorem tw_400 : (Cond.methodLinkNest "PathsKept" (63 : Nat) ({ cls := "PathsKept$Ways", name := "<init>", desc := "()V" } : Jvm.MethodName) "PathsKept") ∈ lw_tbl := ts_2 (ai_nth_mem 160 rfl)
set_option maxRecDepth 100000 in
theorem tw_401 : (Cond.instanceMethod ({ cls := "PathsKept$Ways", name := "<init>", desc := "()V" } : Jvm.MethodName)) ∈ lw_tbl := ts_2 (ai_nth_mem 161 rfl)
set_option maxRecDepth 100000 in
theorem tw_402 : (Cond.code ({ cls := "PathsKept$Ways", name := "<init>", desc := "()V" } : Jvm.MethodName) prog_11_method_1_code (1 : Nat) (Option.none : Option Jvm.ClassFile.FieldType)) ∈ lw_tbl := ts_2 (ai_nth_mem 162 rfl)
set_option maxRecDepth 100000 in
theorem tw_403 : (Cond.methodLink "PathsKept$Ways" (3 : Nat) ({ cls := "java/lang/Object", name := "<init>", desc := "()V" } : Jvm.MethodName)) ∈ lw_tbl := ts_2 (ai_nth_mem 163 rfl)
set_option maxRecDepth 100000 in
theorem tw_404 : (Cond.fieldLink "PathsKept$Ways" (9 : Nat) "PathsKept$Ways" "lengths" "[I") ∈ lw_tbl := ts_2 (ai_nth_mem 164 rfl)
set_option maxRecDepth 100000 in
theorem tw_405 : (Cond.fieldLink "PathsKept$Ways" (15 : Nat) "PathsKept$Ways" "least" "[I") ∈ lw_tbl := ts_2 (ai_nth_mem 165 rfl)
set_option maxRecDepth 100000 in
theorem tw_406 : (Cond.fieldLink "PathsKept$Ways" (18 : Nat) "PathsKept$Ways" "choices" "[I") ∈ lw_tbl := ts_2 (ai_nth_mem 166 rfl)
set_option maxRecDepth 100000 in
theorem tw_407 : (Cond.fieldLink "PathsKept$Ways" (21 : Nat) "PathsKept$Ways" "ages" "[I") ∈ lw_tbl := ts_2 (ai_nth_mem 167 rfl)
