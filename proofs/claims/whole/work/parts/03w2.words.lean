/-! ===== the words that the operations use, by their places in the table ===== -/
set_option maxRecDepth 100000 in
theorem tw_803 : (Cond.methodLink "PathsKeptLaw" (53 : Nat) ({ cls := "PathsKept", name := "law", desc := "(III)J" } : Jvm.MethodName)) ∈ lw_tbl := ts_4 (ai_nth_mem 83 rfl)
set_option maxRecDepth 100000 in
theorem tw_804 : (Cond.instanceMethod ({ cls := "PathsKept", name := "law", desc := "(III)J" } : Jvm.MethodName)) ∈ lw_tbl := ts_4 (ai_nth_mem 84 rfl)
set_option maxRecDepth 100000 in
theorem tw_805 : (Cond.selects "PathsKept" ({ cls := "PathsKept", name := "law", desc := "(III)J" } : Jvm.MethodName) ({ cls := "PathsKept", name := "law", desc := "(III)J" } : Jvm.MethodName)) ∈ lw_tbl := ts_4 (ai_nth_mem 85 rfl)
set_option maxRecDepth 100000 in
theorem tw_806 : (Cond.code ({ cls := "PathsKept", name := "law", desc := "(III)J" } : Jvm.MethodName) prog_1_method_14_code (4 : Nat) (Option.some Jvm.ClassFile.FieldType.long)) ∈ lw_tbl := ts_4 (ai_nth_mem 86 rfl)
set_option maxRecDepth 100000 in
theorem tw_807 : (Cond.methodLink "PathsKept" (188 : Nat) ({ cls := "PathsKept", name := "isWithin", desc := "(III)Z" } : Jvm.MethodName)) ∈ lw_tbl := ts_4 (ai_nth_mem 87 rfl)
set_option maxRecDepth 100000 in
theorem tw_808 : (Cond.methodLink "PathsKept" (131 : Nat) ({ cls := "PathsKept", name := "isPath", desc := "(I)Z" } : Jvm.MethodName)) ∈ lw_tbl := ts_4 (ai_nth_mem 88 rfl)
set_option maxRecDepth 100000 in
theorem tw_810 : (Cond.instanceMethod ({ cls := "PathsKept", name := "isPath", desc := "(I)Z" } : Jvm.MethodName)) ∈ lw_tbl := ts_4 (ai_nth_mem 90 rfl)
set_option maxRecDepth 100000 in
theorem tw_811 : (Cond.code ({ cls := "PathsKept", name := "isPath", desc := "(I)Z" } : Jvm.MethodName) prog_1_method_8_code (2 : Nat) (Option.some Jvm.ClassFile.FieldType.boolean)) ∈ lw_tbl := ts_4 (ai_nth_mem 91 rfl)
set_option maxRecDepth 100000 in
theorem tw_812 : (Cond.constantLong "PathsKept" (192 : Nat) (-9223372036854775808 : Int64)) ∈ lw_tbl := ts_4 (ai_nth_mem 92 rfl)
set_option maxRecDepth 100000 in
theorem tw_813 : (Cond.methodLink "PathsKept" (194 : Nat) ({ cls := "PathsKept$Days", name := "lookAt", desc := "(II)V" } : Jvm.MethodName)) ∈ lw_tbl := ts_4 (ai_nth_mem 93 rfl)
set_option maxRecDepth 100000 in
theorem tw_814 : (Cond.methodLink "PathsKept" (202 : Nat) ({ cls := "PathsKept$Laws", name := "value", desc := "(IJ)J" } : Jvm.MethodName)) ∈ lw_tbl := ts_4 (ai_nth_mem 94 rfl)
set_option maxRecDepth 100000 in
theorem tw_815 : (Cond.methodLink "PathsKeptLaw" (176 : Nat) ({ cls := "PathsKept", name := "count", desc := "(I)I" } : Jvm.MethodName)) ∈ lw_tbl := ts_4 (ai_nth_mem 95 rfl)
set_option maxRecDepth 100000 in
theorem tw_816 : (Cond.instanceMethod ({ cls := "PathsKept", name := "count", desc := "(I)I" } : Jvm.MethodName)) ∈ lw_tbl := ts_4 (ai_nth_mem 96 rfl)
set_option maxRecDepth 100000 in
theorem tw_817 : (Cond.selects "PathsKept" ({ cls := "PathsKept", name := "count", desc := "(I)I" } : Jvm.MethodName) ({ cls := "PathsKept", name := "count", desc := "(I)I" } : Jvm.MethodName)) ∈ lw_tbl := ts_4 (ai_nth_mem 97 rfl)
set_option maxRecDepth 100000 in
theorem tw_818 : (Cond.code ({ cls := "PathsKept", name := "count", desc := "(I)I" } : Jvm.MethodName) prog_1_method_15_code (2 : Nat) (Option.some Jvm.ClassFile.FieldType.int)) ∈ lw_tbl := ts_4 (ai_nth_mem 98 rfl)
set_option maxRecDepth 100000 in
theorem tw_819 : (Cond.methodLink "PathsKept" (215 : Nat) ({ cls := "java/lang/Integer", name := "bitCount", desc := "(I)I" } : Jvm.MethodName)) ∈ lw_tbl := ts_4 (ai_nth_mem 99 rfl)
set_option maxRecDepth 100000 in
theorem tw_820 : (Cond.static ({ cls := "java/lang/Integer", name := "bitCount", desc := "(I)I" } : Jvm.MethodName)) ∈ lw_tbl := ts_4 (ai_nth_mem 100 rfl)
set_option maxRecDepth 100000 in
theorem tw_821 : (Cond.code ({ cls := "java/lang/Integer", name := "bitCount", desc := "(I)I" } : Jvm.MethodName) prog_20_method_49_code (1 : Nat) (Option.some Jvm.ClassFile.FieldType.int)) ∈ lw_tbl := ts_4 (ai_nth_mem 101 rfl)
set_option maxRecDepth 100000 in
theorem tw_822 : (Cond.constant "java/lang/Integer" (265 : Nat) (1431655765 : Int32)) ∈ lw_tbl := ts_4 (ai_nth_mem 102 rfl)
set_option maxRecDepth 100000 in
theorem tw_823 : (Cond.constant "java/lang/Integer" (266 : Nat) (858993459 : Int32)) ∈ lw_tbl := ts_4 (ai_nth_mem 103 rfl)
set_option maxRecDepth 100000 in
theorem tw_824 : (Cond.constant "java/lang/Integer" (267 : Nat) (252645135 : Int32)) ∈ lw_tbl := ts_4 (ai_nth_mem 104 rfl)
set_option maxRecDepth 100000 in
theorem tw_825 : (Cond.methodLink "PathsKept" (226 : Nat) ({ cls := "PathsKept$Ways", name := "sets", desc := "(LPathsKept$Told;I)I" } : Jvm.MethodName)) ∈ lw_tbl := ts_4 (ai_nth_mem 105 rfl)
set_option maxRecDepth 100000 in
theorem tw_826 : (Cond.static ({ cls := "PathsKept$Ways", name := "sets", desc := "(LPathsKept$Told;I)I" } : Jvm.MethodName)) ∈ lw_tbl := ts_4 (ai_nth_mem 106 rfl)
set_option maxRecDepth 100000 in
theorem tw_827 : (Cond.code ({ cls := "PathsKept$Ways", name := "sets", desc := "(LPathsKept$Told;I)I" } : Jvm.MethodName) prog_11_method_4_code (5 : Nat) (Option.some Jvm.ClassFile.FieldType.int)) ∈ lw_tbl := ts_4 (ai_nth_mem 107 rfl)
set_option maxRecDepth 100000 in
theorem tw_828 : (Cond.methodLink "PathsKept$Ways" (62 : Nat) ({ cls := "PathsKept$Ways", name := "spread", desc := "(LPathsKept$Told;II)I" } : Jvm.MethodName)) ∈ lw_tbl := ts_4 (ai_nth_mem 108 rfl)
set_option maxRecDepth 100000 in
theorem tw_829 : (Cond.static ({ cls := "PathsKept$Ways", name := "spread", desc := "(LPathsKept$Told;II)I" } : Jvm.MethodName)) ∈ lw_tbl := ts_4 (ai_nth_mem 109 rfl)
set_option maxRecDepth 100000 in
theorem tw_830 : (Cond.code ({ cls := "PathsKept$Ways", name := "spread", desc := "(LPathsKept$Told;II)I" } : Jvm.MethodName) prog_11_method_3_code (8 : Nat) (Option.some Jvm.ClassFile.FieldType.int)) ∈ lw_tbl := ts_4 (ai_nth_mem 110 rfl)
set_option maxRecDepth 100000 in
theorem tw_831 : (Cond.methodLink "PathsKept$Ways" (55 : Nat) ({ cls := "PathsKept$Told", name := "ends", desc := "(I)I" } : Jvm.MethodName)) ∈ lw_tbl := ts_4 (ai_nth_mem 111 rfl)
set_option maxRecDepth 100000 in
theorem tw_832 : (Cond.methodLink "PathsKept" (231 : Nat) ({ cls := "PathsKept$Seen", name := "knownSize", desc := "()I" } : Jvm.MethodName)) ∈ lw_tbl := ts_4 (ai_nth_mem 112 rfl)
set_option maxRecDepth 100000 in
theorem tw_833 : (Cond.instanceMethod ({ cls := "PathsKept$Seen", name := "knownSize", desc := "()I" } : Jvm.MethodName)) ∈ lw_tbl := ts_4 (ai_nth_mem 113 rfl)
set_option maxRecDepth 100000 in
theorem tw_834 : (Cond.selects "PathsKept$Seen" ({ cls := "PathsKept$Seen", name := "knownSize", desc := "()I" } : Jvm.MethodName) ({ cls := "PathsKept$Seen", name := "knownSize", desc := "()I" } : Jvm.MethodName)) ∈ lw_tbl := ts_4 (ai_nth_mem 114 rfl)
set_option maxRecDepth 100000 in
theorem tw_835 : (Cond.code ({ cls := "PathsKept$Seen", name := "knownSize", desc := "()I" } : Jvm.MethodName) prog_6_method_3_code (1 : Nat) (Option.some Jvm.ClassFile.FieldType.int)) ∈ lw_tbl := ts_4 (ai_nth_mem 115 rfl)
set_option maxRecDepth 100000 in
theorem tw_836 : (Cond.methodLink "PathsKeptLaw" (58 : Nat) ({ cls := "PathsKept", name := "walk", desc := "(II)I" } : Jvm.MethodName)) ∈ lw_tbl := ts_4 (ai_nth_mem 116 rfl)
set_option maxRecDepth 100000 in
theorem tw_837 : (Cond.instanceMethod ({ cls := "PathsKept", name := "walk", desc := "(II)I" } : Jvm.MethodName)) ∈ lw_tbl := ts_4 (ai_nth_mem 117 rfl)
set_option maxRecDepth 100000 in
theorem tw_838 : (Cond.selects "PathsKept" ({ cls := "PathsKept", name := "walk", desc := "(II)I" } : Jvm.MethodName) ({ cls := "PathsKept", name := "walk", desc := "(II)I" } : Jvm.MethodName)) ∈ lw_tbl := ts_4 (ai_nth_mem 118 rfl)
set_option maxRecDepth 100000 in
theorem tw_839 : (Cond.code ({ cls := "PathsKept", name := "walk", desc := "(II)I" } : Jvm.MethodName) prog_1_method_16_code (4 : Nat) (Option.some Jvm.ClassFile.FieldType.int)) ∈ lw_tbl := ts_4 (ai_nth_mem 119 rfl)
set_option maxRecDepth 100000 in
theorem tw_840 : (Cond.methodLink "PathsKept" (235 : Nat) ({ cls := "PathsKept", name := "remember", desc := "()V" } : Jvm.MethodName)) ∈ lw_tbl := ts_4 (ai_nth_mem 120 rfl)
set_option maxRecDepth 100000 in
theorem tw_842 : (Cond.instanceMethod ({ cls := "PathsKept", name := "remember", desc := "()V" } : Jvm.MethodName)) ∈ lw_tbl := ts_4 (ai_nth_mem 122 rfl)
set_option maxRecDepth 100000 in
theorem tw_843 : (Cond.code ({ cls := "PathsKept", name := "remember", desc := "()V" } : Jvm.MethodName) prog_1_method_19_code (3 : Nat) (Option.none : Option Jvm.ClassFile.FieldType)) ∈ lw_tbl := ts_4 (ai_nth_mem 123 rfl)
set_option maxRecDepth 100000 in
theorem tw_844 : (Cond.methodLink "PathsKept" (245 : Nat) ({ cls := "PathsKept$Standing", name := "copyFrom", desc := "(LPathsKept$Standing;)V" } : Jvm.MethodName)) ∈ lw_tbl := ts_4 (ai_nth_mem 124 rfl)
set_option maxRecDepth 100000 in
theorem tw_845 : (Cond.instanceMethod ({ cls := "PathsKept$Standing", name := "copyFrom", desc := "(LPathsKept$Standing;)V" } : Jvm.MethodName)) ∈ lw_tbl := ts_4 (ai_nth_mem 125 rfl)
set_option maxRecDepth 100000 in
theorem tw_846 : (Cond.selects "PathsKept$Standing" ({ cls := "PathsKept$Standing", name := "copyFrom", desc := "(LPathsKept$Standing;)V" } : Jvm.MethodName) ({ cls := "PathsKept$Standing", name := "copyFrom", desc := "(LPathsKept$Standing;)V" } : Jvm.MethodName)) ∈ lw_tbl := ts_4 (ai_nth_mem 126 rfl)
set_option maxRecDepth 100000 in
theorem tw_847 : (Cond.code ({ cls := "PathsKept$Standing", name := "copyFrom", desc := "(LPathsKept$Standing;)V" } : Jvm.MethodName) prog_7_method_3_code (2 : Nat) (Option.none : Option Jvm.ClassFile.FieldType)) ∈ lw_tbl := ts_4 (ai_nth_mem 127 rfl)
set_option maxRecDepth 100000 in
theorem tw_848 : (Cond.methodLink "PathsKept$Standing" (61 : Nat) ({ cls := "java/lang/System", name := "arraycopy", desc := "(Ljava/lang/Object;ILjava/lang/Object;II)V" } : Jvm.MethodName)) ∈ lw_tbl := ts_4 (ai_nth_mem 128 rfl)
set_option maxRecDepth 100000 in
theorem tw_849 : (Cond.static ({ cls := "java/lang/System", name := "arraycopy", desc := "(Ljava/lang/Object;ILjava/lang/Object;II)V" } : Jvm.MethodName)) ∈ lw_tbl := ts_4 (ai_nth_mem 129 rfl)
set_option maxRecDepth 100000 in
theorem tw_850 : (Cond.native ({ cls := "java/lang/System", name := "arraycopy", desc := "(Ljava/lang/Object;ILjava/lang/Object;II)V" } : Jvm.MethodName)) ∈ lw_tbl := ts_4 (ai_nth_mem 130 rfl)
set_option maxRecDepth 100000 in
theorem tw_851 : (Cond.methodLink "PathsKept" (238 : Nat) ({ cls := "PathsKept$Days", name := "goWhole", desc := "(III)V" } : Jvm.MethodName)) ∈ lw_tbl := ts_4 (ai_nth_mem 131 rfl)
set_option maxRecDepth 100000 in
theorem tw_852 : (Cond.instanceMethod ({ cls := "PathsKept$Days", name := "goWhole", desc := "(III)V" } : Jvm.MethodName)) ∈ lw_tbl := ts_4 (ai_nth_mem 132 rfl)
set_option maxRecDepth 100000 in
theorem tw_853 : (Cond.selects "PathsKept$Days" ({ cls := "PathsKept$Days", name := "goWhole", desc := "(III)V" } : Jvm.MethodName) ({ cls := "PathsKept$Days", name := "goWhole", desc := "(III)V" } : Jvm.MethodName)) ∈ lw_tbl := ts_4 (ai_nth_mem 133 rfl)
set_option maxRecDepth 100000 in
theorem tw_854 : (Cond.code ({ cls := "PathsKept$Days", name := "goWhole", desc := "(III)V" } : Jvm.MethodName) prog_2_method_10_code (5 : Nat) (Option.none : Option Jvm.ClassFile.FieldType)) ∈ lw_tbl := ts_4 (ai_nth_mem 134 rfl)
set_option maxRecDepth 100000 in
theorem tw_855 : (Cond.methodLink "PathsKept$Days" (169 : Nat) ({ cls := "java/lang/Math", name := "min", desc := "(II)I" } : Jvm.MethodName)) ∈ lw_tbl := ts_4 (ai_nth_mem 135 rfl)
set_option maxRecDepth 100000 in
theorem tw_856 : (Cond.methodLink "PathsKeptLaw" (62 : Nat) ({ cls := "PathsKept", name := "mow", desc := "(I)Z" } : Jvm.MethodName)) ∈ lw_tbl := ts_4 (ai_nth_mem 136 rfl)
set_option maxRecDepth 100000 in
theorem tw_857 : (Cond.instanceMethod ({ cls := "PathsKept", name := "mow", desc := "(I)Z" } : Jvm.MethodName)) ∈ lw_tbl := ts_4 (ai_nth_mem 137 rfl)
set_option maxRecDepth 100000 in
theorem tw_858 : (Cond.selects "PathsKept" ({ cls := "PathsKept", name := "mow", desc := "(I)Z" } : Jvm.MethodName) ({ cls := "PathsKept", name := "mow", desc := "(I)Z" } : Jvm.MethodName)) ∈ lw_tbl := ts_4 (ai_nth_mem 138 rfl)
set_option maxRecDepth 100000 in
theorem tw_859 : (Cond.code ({ cls := "PathsKept", name := "mow", desc := "(I)Z" } : Jvm.MethodName) prog_1_method_17_code (2 : Nat) (Option.some Jvm.ClassFile.FieldType.boolean)) ∈ lw_tbl := ts_4 (ai_nth_mem 139 rfl)
set_option maxRecDepth 100000 in
theorem tw_860 : (Cond.methodLink "PathsKept" (150 : Nat) ({ cls := "PathsKept$Standing", name := "isKept", desc := "(I)Z" } : Jvm.MethodName)) ∈ lw_tbl := ts_4 (ai_nth_mem 140 rfl)
set_option maxRecDepth 100000 in
theorem tw_861 : (Cond.methodLink "PathsKeptLaw" (67 : Nat) ({ cls := "PathsKept", name := "carry", desc := "(II)Z" } : Jvm.MethodName)) ∈ lw_tbl := ts_4 (ai_nth_mem 141 rfl)
set_option maxRecDepth 100000 in
theorem tw_862 : (Cond.instanceMethod ({ cls := "PathsKept", name := "carry", desc := "(II)Z" } : Jvm.MethodName)) ∈ lw_tbl := ts_4 (ai_nth_mem 142 rfl)
set_option maxRecDepth 100000 in
theorem tw_863 : (Cond.selects "PathsKept" ({ cls := "PathsKept", name := "carry", desc := "(II)Z" } : Jvm.MethodName) ({ cls := "PathsKept", name := "carry", desc := "(II)Z" } : Jvm.MethodName)) ∈ lw_tbl := ts_4 (ai_nth_mem 143 rfl)
set_option maxRecDepth 100000 in
theorem tw_864 : (Cond.code ({ cls := "PathsKept", name := "carry", desc := "(II)Z" } : Jvm.MethodName) prog_1_method_18_code (3 : Nat) (Option.some Jvm.ClassFile.FieldType.boolean)) ∈ lw_tbl := ts_4 (ai_nth_mem 144 rfl)
set_option maxRecDepth 100000 in
theorem tw_865 : (Cond.methodLink "PathsKept" (242 : Nat) ({ cls := "PathsKept", name := "isPlace", desc := "(I)Z" } : Jvm.MethodName)) ∈ lw_tbl := ts_4 (ai_nth_mem 145 rfl)
set_option maxRecDepth 100000 in
theorem tw_867 : (Cond.instanceMethod ({ cls := "PathsKept", name := "isPlace", desc := "(I)Z" } : Jvm.MethodName)) ∈ lw_tbl := ts_4 (ai_nth_mem 147 rfl)
set_option maxRecDepth 100000 in
theorem tw_868 : (Cond.code ({ cls := "PathsKept", name := "isPlace", desc := "(I)Z" } : Jvm.MethodName) prog_1_method_7_code (2 : Nat) (Option.some Jvm.ClassFile.FieldType.boolean)) ∈ lw_tbl := ts_4 (ai_nth_mem 148 rfl)
set_option maxRecDepth 100000 in
theorem tw_869 : (Cond.methodLink "PathsKeptLaw" (164 : Nat) ({ cls := "PathsKept", name := "undo", desc := "()I" } : Jvm.MethodName)) ∈ lw_tbl := ts_4 (ai_nth_mem 149 rfl)
set_option maxRecDepth 100000 in
theorem tw_870 : (Cond.instanceMethod ({ cls := "PathsKept", name := "undo", desc := "()I" } : Jvm.MethodName)) ∈ lw_tbl := ts_4 (ai_nth_mem 150 rfl)
set_option maxRecDepth 100000 in
theorem tw_871 : (Cond.selects "PathsKept" ({ cls := "PathsKept", name := "undo", desc := "()I" } : Jvm.MethodName) ({ cls := "PathsKept", name := "undo", desc := "()I" } : Jvm.MethodName)) ∈ lw_tbl := ts_4 (ai_nth_mem 151 rfl)
set_option maxRecDepth 100000 in
theorem tw_872 : (Cond.code ({ cls := "PathsKept", name := "undo", desc := "()I" } : Jvm.MethodName) prog_1_method_20_code (1 : Nat) (Option.some Jvm.ClassFile.FieldType.int)) ∈ lw_tbl := ts_4 (ai_nth_mem 152 rfl)
set_option maxRecDepth 100000 in
theorem tw_873 : (Cond.methodLink "PathsKeptLaw" (168 : Nat) ({ cls := "PathsKept", name := "keep", desc := "()I" } : Jvm.MethodName)) ∈ lw_tbl := ts_4 (ai_nth_mem 153 rfl)
set_option maxRecDepth 100000 in
theorem tw_874 : (Cond.instanceMethod ({ cls := "PathsKept", name := "keep", desc := "()I" } : Jvm.MethodName)) ∈ lw_tbl := ts_4 (ai_nth_mem 154 rfl)
set_option maxRecDepth 100000 in
theorem tw_875 : (Cond.selects "PathsKept" ({ cls := "PathsKept", name := "keep", desc := "()I" } : Jvm.MethodName) ({ cls := "PathsKept", name := "keep", desc := "()I" } : Jvm.MethodName)) ∈ lw_tbl := ts_4 (ai_nth_mem 155 rfl)
set_option maxRecDepth 100000 in
theorem tw_876 : (Cond.code ({ cls := "PathsKept", name := "keep", desc := "()I" } : Jvm.MethodName) prog_1_method_21_code (1 : Nat) (Option.some Jvm.ClassFile.FieldType.int)) ∈ lw_tbl := ts_4 (ai_nth_mem 156 rfl)
set_option maxRecDepth 100000 in
theorem tw_877 : (Cond.methodLink "PathsKeptLaw" (172 : Nat) ({ cls := "PathsKept", name := "back", desc := "()I" } : Jvm.MethodName)) ∈ lw_tbl := ts_4 (ai_nth_mem 157 rfl)
set_option maxRecDepth 100000 in
theorem tw_878 : (Cond.instanceMethod ({ cls := "PathsKept", name := "back", desc := "()I" } : Jvm.MethodName)) ∈ lw_tbl := ts_4 (ai_nth_mem 158 rfl)
set_option maxRecDepth 100000 in
theorem tw_879 : (Cond.selects "PathsKept" ({ cls := "PathsKept", name := "back", desc := "()I" } : Jvm.MethodName) ({ cls := "PathsKept", name := "back", desc := "()I" } : Jvm.MethodName)) ∈ lw_tbl := ts_4 (ai_nth_mem 159 rfl)
set_option maxRecDepth 100000 in
theorem tw_880 : (Cond.code ({ cls := "PathsKept", name := "back", desc := "()I" } : Jvm.MethodName) prog_1_method_22_code (1 : Nat) (Option.some Jvm.ClassFile.FieldType.int)) ∈ lw_tbl := ts_4 (ai_nth_mem 160 rfl)
set_option maxRecDepth 100000 in
theorem tw_881 : (Cond.methodLink "PathsKeptLaw" (72 : Nat) ({ cls := "PathsKept", name := "go", desc := "(I)I" } : Jvm.MethodName)) ∈ lw_tbl := ts_4 (ai_nth_mem 161 rfl)
set_option maxRecDepth 100000 in
theorem tw_882 : (Cond.instanceMethod ({ cls := "PathsKept", name := "go", desc := "(I)I" } : Jvm.MethodName)) ∈ lw_tbl := ts_4 (ai_nth_mem 162 rfl)
set_option maxRecDepth 100000 in
theorem tw_883 : (Cond.selects "PathsKept" ({ cls := "PathsKept", name := "go", desc := "(I)I" } : Jvm.MethodName) ({ cls := "PathsKept", name := "go", desc := "(I)I" } : Jvm.MethodName)) ∈ lw_tbl := ts_4 (ai_nth_mem 163 rfl)
set_option maxRecDepth 100000 in
theorem tw_884 : (Cond.code ({ cls := "PathsKept", name := "go", desc := "(I)I" } : Jvm.MethodName) prog_1_method_23_code (3 : Nat) (Option.some Jvm.ClassFile.FieldType.int)) ∈ lw_tbl := ts_4 (ai_nth_mem 164 rfl)
set_option maxRecDepth 100000 in
theorem tw_885 : (Cond.methodLink "PathsKept" (249 : Nat) ({ cls := "PathsKept$Days", name := "pass", desc := "()V" } : Jvm.MethodName)) ∈ lw_tbl := ts_4 (ai_nth_mem 165 rfl)
set_option maxRecDepth 100000 in
theorem tw_886 : (Cond.instanceMethod ({ cls := "PathsKept$Days", name := "pass", desc := "()V" } : Jvm.MethodName)) ∈ lw_tbl := ts_4 (ai_nth_mem 166 rfl)
set_option maxRecDepth 100000 in
theorem tw_887 : (Cond.selects "PathsKept$Days" ({ cls := "PathsKept$Days", name := "pass", desc := "()V" } : Jvm.MethodName) ({ cls := "PathsKept$Days", name := "pass", desc := "()V" } : Jvm.MethodName)) ∈ lw_tbl := ts_4 (ai_nth_mem 167 rfl)
set_option maxRecDepth 100000 in
theorem tw_888 : (Cond.code ({ cls := "PathsKept$Days", name := "pass", desc := "()V" } : Jvm.MethodName) prog_2_method_4_code (2 : Nat) (Option.none : Option Jvm.ClassFile.FieldType)) ∈ lw_tbl := ts_4 (ai_nth_mem 168 rfl)
set_option maxRecDepth 100000 in
theorem tw_889 : (Cond.methodLink "PathsKept$Days" (69 : Nat) ({ cls := "PathsKept$Days", name := "isSnowing", desc := "()Z" } : Jvm.MethodName)) ∈ lw_tbl := ts_4 (ai_nth_mem 169 rfl)
set_option maxRecDepth 100000 in
theorem tw_891 : (Cond.instanceMethod ({ cls := "PathsKept$Days", name := "isSnowing", desc := "()Z" } : Jvm.MethodName)) ∈ lw_tbl := ts_4 (ai_nth_mem 171 rfl)
set_option maxRecDepth 100000 in
theorem tw_892 : (Cond.code ({ cls := "PathsKept$Days", name := "isSnowing", desc := "()Z" } : Jvm.MethodName) prog_2_method_5_code (2 : Nat) (Option.some Jvm.ClassFile.FieldType.boolean)) ∈ lw_tbl := ts_4 (ai_nth_mem 172 rfl)
set_option maxRecDepth 100000 in
theorem tw_893 : (Cond.constant "PathsKept$Days" (104 : Nat) (1103515245 : Int32)) ∈ lw_tbl := ts_4 (ai_nth_mem 173 rfl)
set_option maxRecDepth 100000 in
theorem tw_894 : (Cond.constant "PathsKept$Days" (107 : Nat) (2147483647 : Int32)) ∈ lw_tbl := ts_4 (ai_nth_mem 174 rfl)
set_option maxRecDepth 100000 in
theorem tw_895 : (Cond.constant "PathsKept$Days" (108 : Nat) (65536 : Int32)) ∈ lw_tbl := ts_4 (ai_nth_mem 175 rfl)
set_option maxRecDepth 100000 in
theorem tw_896 : (Cond.methodLink "PathsKept$Days" (73 : Nat) ({ cls := "PathsKept$Days", name := "goWalks", desc := "(Z)V" } : Jvm.MethodName)) ∈ lw_tbl := ts_4 (ai_nth_mem 176 rfl)
set_option maxRecDepth 100000 in
theorem tw_898 : (Cond.instanceMethod ({ cls := "PathsKept$Days", name := "goWalks", desc := "(Z)V" } : Jvm.MethodName)) ∈ lw_tbl := ts_4 (ai_nth_mem 178 rfl)
set_option maxRecDepth 100000 in
theorem tw_899 : (Cond.code ({ cls := "PathsKept$Days", name := "goWalks", desc := "(Z)V" } : Jvm.MethodName) prog_2_method_6_code (7 : Nat) (Option.none : Option Jvm.ClassFile.FieldType)) ∈ lw_tbl := ts_4 (ai_nth_mem 179 rfl)
set_option maxRecDepth 100000 in
theorem tw_900 : (Cond.methodLink "PathsKept$Days" (112 : Nat) ({ cls := "PathsKept$Days", name := "costIfHeCan", desc := "(II)I" } : Jvm.MethodName)) ∈ lw_tbl := ts_4 (ai_nth_mem 180 rfl)
set_option maxRecDepth 100000 in
theorem tw_901 : (Cond.methodLink "PathsKept$Days" (115 : Nat) ({ cls := "PathsKept$Days", name := "goWhole", desc := "(III)V" } : Jvm.MethodName)) ∈ lw_tbl := ts_4 (ai_nth_mem 181 rfl)
set_option maxRecDepth 100000 in
theorem tw_902 : (Cond.methodLink "PathsKept$Days" (88 : Nat) ({ cls := "PathsKept$Days", name := "growOlder", desc := "(I)V" } : Jvm.MethodName)) ∈ lw_tbl := ts_4 (ai_nth_mem 182 rfl)
set_option maxRecDepth 100000 in
theorem tw_904 : (Cond.instanceMethod ({ cls := "PathsKept$Days", name := "growOlder", desc := "(I)V" } : Jvm.MethodName)) ∈ lw_tbl := ts_4 (ai_nth_mem 184 rfl)
set_option maxRecDepth 100000 in
theorem tw_905 : (Cond.code ({ cls := "PathsKept$Days", name := "growOlder", desc := "(I)V" } : Jvm.MethodName) prog_2_method_7_code (4 : Nat) (Option.none : Option Jvm.ClassFile.FieldType)) ∈ lw_tbl := ts_4 (ai_nth_mem 185 rfl)
set_option maxRecDepth 100000 in
theorem tw_906 : (Cond.constantLong "PathsKept$Days" (133 : Nat) (9999 : Int64)) ∈ lw_tbl := ts_4 (ai_nth_mem 186 rfl)
set_option maxRecDepth 100000 in
theorem tw_907 : (Cond.methodLink "PathsKeptLaw" (76 : Nat) ({ cls := "PathsKept", name := "ahead", desc := "(III)I" } : Jvm.MethodName)) ∈ lw_tbl := ts_4 (ai_nth_mem 187 rfl)
set_option maxRecDepth 100000 in
theorem tw_908 : (Cond.instanceMethod ({ cls := "PathsKept", name := "ahead", desc := "(III)I" } : Jvm.MethodName)) ∈ lw_tbl := ts_4 (ai_nth_mem 188 rfl)
set_option maxRecDepth 100000 in
theorem tw_909 : (Cond.selects "PathsKept" ({ cls := "PathsKept", name := "ahead", desc := "(III)I" } : Jvm.MethodName) ({ cls := "PathsKept", name := "ahead", desc := "(III)I" } : Jvm.MethodName)) ∈ lw_tbl := ts_4 (ai_nth_mem 189 rfl)
set_option maxRecDepth 100000 in
theorem tw_910 : (Cond.code ({ cls := "PathsKept", name := "ahead", desc := "(III)I" } : Jvm.MethodName) prog_1_method_25_code (5 : Nat) (Option.some Jvm.ClassFile.FieldType.int)) ∈ lw_tbl := ts_4 (ai_nth_mem 190 rfl)
set_option maxRecDepth 100000 in
theorem tw_911 : (Cond.methodLink "PathsKept" (252 : Nat) ({ cls := "PathsKept", name := "isAsked", desc := "(II)Z" } : Jvm.MethodName)) ∈ lw_tbl := ts_4 (ai_nth_mem 191 rfl)
set_option maxRecDepth 100000 in
theorem tw_913 : (Cond.instanceMethod ({ cls := "PathsKept", name := "isAsked", desc := "(II)Z" } : Jvm.MethodName)) ∈ lw_tbl := ts_4 (ai_nth_mem 193 rfl)
set_option maxRecDepth 100000 in
theorem tw_914 : (Cond.code ({ cls := "PathsKept", name := "isAsked", desc := "(II)Z" } : Jvm.MethodName) prog_1_method_26_code (3 : Nat) (Option.some Jvm.ClassFile.FieldType.boolean)) ∈ lw_tbl := ts_4 (ai_nth_mem 194 rfl)
set_option maxRecDepth 100000 in
theorem tw_915 : (Cond.methodLink "PathsKept" (255 : Nat) ({ cls := "PathsKept", name := "beginAhead", desc := "()V" } : Jvm.MethodName)) ∈ lw_tbl := ts_4 (ai_nth_mem 195 rfl)
set_option maxRecDepth 100000 in
theorem tw_917 : (Cond.instanceMethod ({ cls := "PathsKept", name := "beginAhead", desc := "()V" } : Jvm.MethodName)) ∈ lw_tbl := ts_4 (ai_nth_mem 197 rfl)
set_option maxRecDepth 100000 in
theorem tw_918 : (Cond.code ({ cls := "PathsKept", name := "beginAhead", desc := "()V" } : Jvm.MethodName) prog_1_method_24_code (1 : Nat) (Option.none : Option Jvm.ClassFile.FieldType)) ∈ lw_tbl := ts_4 (ai_nth_mem 198 rfl)
set_option maxRecDepth 100000 in
theorem tw_919 : (Cond.methodLink "PathsKeptLaw" (81 : Nat) ({ cls := "PathsKept", name := "lapse", desc := "(I)I" } : Jvm.MethodName)) ∈ lw_tbl := ts_4 (ai_nth_mem 199 rfl)
set_option maxRecDepth 100000 in
theorem tw_920 : (Cond.instanceMethod ({ cls := "PathsKept", name := "lapse", desc := "(I)I" } : Jvm.MethodName)) ∈ lw_tbl := ts_4 (ai_nth_mem 200 rfl)
set_option maxRecDepth 100000 in
theorem tw_921 : (Cond.selects "PathsKept" ({ cls := "PathsKept", name := "lapse", desc := "(I)I" } : Jvm.MethodName) ({ cls := "PathsKept", name := "lapse", desc := "(I)I" } : Jvm.MethodName)) ∈ lw_tbl := ts_4 (ai_nth_mem 201 rfl)
set_option maxRecDepth 100000 in
theorem tw_922 : (Cond.code ({ cls := "PathsKept", name := "lapse", desc := "(I)I" } : Jvm.MethodName) prog_1_method_27_code (3 : Nat) (Option.some Jvm.ClassFile.FieldType.int)) ∈ lw_tbl := ts_4 (ai_nth_mem 202 rfl)
set_option maxRecDepth 100000 in
theorem tw_923 : (Cond.methodLink "PathsKeptLaw" (160 : Nat) ({ cls := "PathsKept", name := "tried", desc := "(III)I" } : Jvm.MethodName)) ∈ lw_tbl := ts_4 (ai_nth_mem 203 rfl)
set_option maxRecDepth 100000 in
theorem tw_924 : (Cond.instanceMethod ({ cls := "PathsKept", name := "tried", desc := "(III)I" } : Jvm.MethodName)) ∈ lw_tbl := ts_4 (ai_nth_mem 204 rfl)
set_option maxRecDepth 100000 in
theorem tw_925 : (Cond.selects "PathsKept" ({ cls := "PathsKept", name := "tried", desc := "(III)I" } : Jvm.MethodName) ({ cls := "PathsKept", name := "tried", desc := "(III)I" } : Jvm.MethodName)) ∈ lw_tbl := ts_4 (ai_nth_mem 205 rfl)
set_option maxRecDepth 100000 in
theorem tw_926 : (Cond.code ({ cls := "PathsKept", name := "tried", desc := "(III)I" } : Jvm.MethodName) prog_1_method_28_code (5 : Nat) (Option.some Jvm.ClassFile.FieldType.int)) ∈ lw_tbl := ts_4 (ai_nth_mem 206 rfl)
set_option maxRecDepth 100000 in
theorem tw_927 : (Cond.methodLink "PathsKept" (258 : Nat) ({ cls := "PathsKept$Days", name := "tryOtherwise", desc := "(II)V" } : Jvm.MethodName)) ∈ lw_tbl := ts_4 (ai_nth_mem 207 rfl)
set_option maxRecDepth 100000 in
theorem tw_928 : (Cond.instanceMethod ({ cls := "PathsKept$Days", name := "tryOtherwise", desc := "(II)V" } : Jvm.MethodName)) ∈ lw_tbl := ts_4 (ai_nth_mem 208 rfl)
set_option maxRecDepth 100000 in
theorem tw_929 : (Cond.selects "PathsKept$Days" ({ cls := "PathsKept$Days", name := "tryOtherwise", desc := "(II)V" } : Jvm.MethodName) ({ cls := "PathsKept$Days", name := "tryOtherwise", desc := "(II)V" } : Jvm.MethodName)) ∈ lw_tbl := ts_4 (ai_nth_mem 209 rfl)
set_option maxRecDepth 100000 in
theorem tw_930 : (Cond.code ({ cls := "PathsKept$Days", name := "tryOtherwise", desc := "(II)V" } : Jvm.MethodName) prog_2_method_3_code (3 : Nat) (Option.none : Option Jvm.ClassFile.FieldType)) ∈ lw_tbl := ts_4 (ai_nth_mem 210 rfl)
set_option maxRecDepth 100000 in
theorem tw_931 : (Cond.methodLink "PathsKept$Days" (63 : Nat) ({ cls := "java/util/Arrays", name := "fill", desc := "([II)V" } : Jvm.MethodName)) ∈ lw_tbl := ts_4 (ai_nth_mem 211 rfl)
set_option maxRecDepth 100000 in
theorem tw_932 : (Cond.methodLink "PathsKeptLaw" (156 : Nat) ({ cls := "PathsKept", name := "chance", desc := "(IIII)I" } : Jvm.MethodName)) ∈ lw_tbl := ts_4 (ai_nth_mem 212 rfl)
set_option maxRecDepth 100000 in
theorem tw_933 : (Cond.instanceMethod ({ cls := "PathsKept", name := "chance", desc := "(IIII)I" } : Jvm.MethodName)) ∈ lw_tbl := ts_4 (ai_nth_mem 213 rfl)
set_option maxRecDepth 100000 in
theorem tw_934 : (Cond.selects "PathsKept" ({ cls := "PathsKept", name := "chance", desc := "(IIII)I" } : Jvm.MethodName) ({ cls := "PathsKept", name := "chance", desc := "(IIII)I" } : Jvm.MethodName)) ∈ lw_tbl := ts_4 (ai_nth_mem 214 rfl)
set_option maxRecDepth 100000 in
theorem tw_935 : (Cond.code ({ cls := "PathsKept", name := "chance", desc := "(IIII)I" } : Jvm.MethodName) prog_1_method_29_code (9 : Nat) (Option.some Jvm.ClassFile.FieldType.int)) ∈ lw_tbl := ts_4 (ai_nth_mem 215 rfl)
set_option maxRecDepth 100000 in
theorem tw_936 : (Cond.methodLink "PathsKeptLaw" (85 : Nat) ({ cls := "PathsKept", name := "reach", desc := "(I)I" } : Jvm.MethodName)) ∈ lw_tbl := ts_4 (ai_nth_mem 216 rfl)
set_option maxRecDepth 100000 in
theorem tw_937 : (Cond.instanceMethod ({ cls := "PathsKept", name := "reach", desc := "(I)I" } : Jvm.MethodName)) ∈ lw_tbl := ts_4 (ai_nth_mem 217 rfl)
set_option maxRecDepth 100000 in
theorem tw_938 : (Cond.selects "PathsKept" ({ cls := "PathsKept", name := "reach", desc := "(I)I" } : Jvm.MethodName) ({ cls := "PathsKept", name := "reach", desc := "(I)I" } : Jvm.MethodName)) ∈ lw_tbl := ts_4 (ai_nth_mem 218 rfl)
set_option maxRecDepth 100000 in
theorem tw_939 : (Cond.code ({ cls := "PathsKept", name := "reach", desc := "(I)I" } : Jvm.MethodName) prog_1_method_30_code (2 : Nat) (Option.some Jvm.ClassFile.FieldType.int)) ∈ lw_tbl := ts_4 (ai_nth_mem 219 rfl)
set_option maxRecDepth 100000 in
theorem tw_940 : (Cond.methodLink "PathsKept" (264 : Nat) ({ cls := "PathsKept$Ways", name := "openFor", desc := "(LPathsKept$Told;LPathsKept$Standing;I)I" } : Jvm.MethodName)) ∈ lw_tbl := ts_4 (ai_nth_mem 220 rfl)
set_option maxRecDepth 100000 in
theorem tw_941 : (Cond.static ({ cls := "PathsKept$Ways", name := "openFor", desc := "(LPathsKept$Told;LPathsKept$Standing;I)I" } : Jvm.MethodName)) ∈ lw_tbl := ts_4 (ai_nth_mem 221 rfl)
set_option maxRecDepth 100000 in
theorem tw_942 : (Cond.code ({ cls := "PathsKept$Ways", name := "openFor", desc := "(LPathsKept$Told;LPathsKept$Standing;I)I" } : Jvm.MethodName) prog_11_method_2_code (6 : Nat) (Option.some Jvm.ClassFile.FieldType.int)) ∈ lw_tbl := ts_4 (ai_nth_mem 222 rfl)
set_option maxRecDepth 100000 in
theorem tw_943 : (Cond.methodLink "PathsKept$Ways" (36 : Nat) ({ cls := "PathsKept$Table", name := "cell", desc := "(II)I" } : Jvm.MethodName)) ∈ lw_tbl := ts_4 (ai_nth_mem 223 rfl)
set_option maxRecDepth 100000 in
theorem tw_944 : (Cond.methodLink "PathsKept$Ways" (49 : Nat) ({ cls := "PathsKept$Standing", name := "isKept", desc := "(I)Z" } : Jvm.MethodName)) ∈ lw_tbl := ts_4 (ai_nth_mem 224 rfl)
set_option maxRecDepth 100000 in
theorem tw_945 : (Cond.methodLink "PathsKept" (268 : Nat) ({ cls := "PathsKept$Ways", name := "spread", desc := "(LPathsKept$Told;II)I" } : Jvm.MethodName)) ∈ lw_tbl := ts_4 (ai_nth_mem 225 rfl)
set_option maxRecDepth 100000 in
theorem tw_946 : (Cond.methodLink "PathsKeptLaw" (89 : Nat) ({ cls := "PathsKept", name := "way", desc := "(II)I" } : Jvm.MethodName)) ∈ lw_tbl := ts_4 (ai_nth_mem 226 rfl)
set_option maxRecDepth 100000 in
theorem tw_947 : (Cond.instanceMethod ({ cls := "PathsKept", name := "way", desc := "(II)I" } : Jvm.MethodName)) ∈ lw_tbl := ts_4 (ai_nth_mem 227 rfl)
set_option maxRecDepth 100000 in
theorem tw_948 : (Cond.selects "PathsKept" ({ cls := "PathsKept", name := "way", desc := "(II)I" } : Jvm.MethodName) ({ cls := "PathsKept", name := "way", desc := "(II)I" } : Jvm.MethodName)) ∈ lw_tbl := ts_4 (ai_nth_mem 228 rfl)
set_option maxRecDepth 100000 in
theorem tw_949 : (Cond.code ({ cls := "PathsKept", name := "way", desc := "(II)I" } : Jvm.MethodName) prog_1_method_31_code (3 : Nat) (Option.some Jvm.ClassFile.FieldType.int)) ∈ lw_tbl := ts_4 (ai_nth_mem 229 rfl)
set_option maxRecDepth 100000 in
theorem tw_950 : (Cond.methodLink "PathsKept" (272 : Nat) ({ cls := "PathsKept$Ways", name := "leastLength", desc := "(LPathsKept$Told;LPathsKept$Standing;II)I" } : Jvm.MethodName)) ∈ lw_tbl := ts_4 (ai_nth_mem 230 rfl)
set_option maxRecDepth 100000 in
theorem tw_951 : (Cond.instanceMethod ({ cls := "PathsKept$Ways", name := "leastLength", desc := "(LPathsKept$Told;LPathsKept$Standing;II)I" } : Jvm.MethodName)) ∈ lw_tbl := ts_4 (ai_nth_mem 231 rfl)
set_option maxRecDepth 100000 in
theorem tw_952 : (Cond.selects "PathsKept$Ways" ({ cls := "PathsKept$Ways", name := "leastLength", desc := "(LPathsKept$Told;LPathsKept$Standing;II)I" } : Jvm.MethodName) ({ cls := "PathsKept$Ways", name := "leastLength", desc := "(LPathsKept$Told;LPathsKept$Standing;II)I" } : Jvm.MethodName)) ∈ lw_tbl := ts_4 (ai_nth_mem 232 rfl)
set_option maxRecDepth 100000 in
theorem tw_953 : (Cond.code ({ cls := "PathsKept$Ways", name := "leastLength", desc := "(LPathsKept$Told;LPathsKept$Standing;II)I" } : Jvm.MethodName) prog_11_method_10_code (9 : Nat) (Option.some Jvm.ClassFile.FieldType.int)) ∈ lw_tbl := ts_4 (ai_nth_mem 233 rfl)
set_option maxRecDepth 100000 in
theorem tw_954 : (Cond.methodLink "PathsKept$Ways" (79 : Nat) ({ cls := "PathsKept$Ways", name := "openFor", desc := "(LPathsKept$Told;LPathsKept$Standing;I)I" } : Jvm.MethodName)) ∈ lw_tbl := ts_4 (ai_nth_mem 234 rfl)
set_option maxRecDepth 100000 in
theorem tw_955 : (Cond.constant "PathsKept$Ways" (83 : Nat) (1000000 : Int32)) ∈ lw_tbl := ts_4 (ai_nth_mem 235 rfl)
set_option maxRecDepth 100000 in
theorem tw_956 : (Cond.methodLink "PathsKept$Ways" (84 : Nat) ({ cls := "java/util/Arrays", name := "fill", desc := "([II)V" } : Jvm.MethodName)) ∈ lw_tbl := ts_4 (ai_nth_mem 236 rfl)
set_option maxRecDepth 100000 in
theorem tw_957 : (Cond.methodLink "PathsKept$Ways" (93 : Nat) ({ cls := "PathsKept$Ways", name := "shorten", desc := "(LPathsKept$Told;I)Z" } : Jvm.MethodName)) ∈ lw_tbl := ts_4 (ai_nth_mem 237 rfl)
set_option maxRecDepth 100000 in
theorem tw_959 : (Cond.instanceMethod ({ cls := "PathsKept$Ways", name := "shorten", desc := "(LPathsKept$Told;I)Z" } : Jvm.MethodName)) ∈ lw_tbl := ts_4 (ai_nth_mem 239 rfl)
set_option maxRecDepth 100000 in
theorem tw_960 : (Cond.code ({ cls := "PathsKept$Ways", name := "shorten", desc := "(LPathsKept$Told;I)Z" } : Jvm.MethodName) prog_11_method_11_code (7 : Nat) (Option.some Jvm.ClassFile.FieldType.boolean)) ∈ lw_tbl := ts_5 (ai_nth_mem 0 rfl)
set_option maxRecDepth 100000 in
theorem tw_961 : (Cond.methodLink "PathsKeptLaw" (93 : Nat) ({ cls := "PathsKept", name := "round", desc := "(III)I" } : Jvm.MethodName)) ∈ lw_tbl := ts_5 (ai_nth_mem 1 rfl)
set_option maxRecDepth 100000 in
theorem tw_962 : (Cond.instanceMethod ({ cls := "PathsKept", name := "round", desc := "(III)I" } : Jvm.MethodName)) ∈ lw_tbl := ts_5 (ai_nth_mem 2 rfl)
set_option maxRecDepth 100000 in
theorem tw_963 : (Cond.selects "PathsKept" ({ cls := "PathsKept", name := "round", desc := "(III)I" } : Jvm.MethodName) ({ cls := "PathsKept", name := "round", desc := "(III)I" } : Jvm.MethodName)) ∈ lw_tbl := ts_5 (ai_nth_mem 3 rfl)
set_option maxRecDepth 100000 in
theorem tw_964 : (Cond.code ({ cls := "PathsKept", name := "round", desc := "(III)I" } : Jvm.MethodName) prog_1_method_32_code (4 : Nat) (Option.some Jvm.ClassFile.FieldType.int)) ∈ lw_tbl := ts_5 (ai_nth_mem 4 rfl)
set_option maxRecDepth 100000 in
theorem tw_965 : (Cond.methodLink "PathsKept" (276 : Nat) ({ cls := "PathsKept$Ways", name := "leastRound", desc := "(LPathsKept$Told;LPathsKept$Standing;IIZ)I" } : Jvm.MethodName)) ∈ lw_tbl := ts_5 (ai_nth_mem 5 rfl)
set_option maxRecDepth 100000 in
theorem tw_966 : (Cond.instanceMethod ({ cls := "PathsKept$Ways", name := "leastRound", desc := "(LPathsKept$Told;LPathsKept$Standing;IIZ)I" } : Jvm.MethodName)) ∈ lw_tbl := ts_5 (ai_nth_mem 6 rfl)
set_option maxRecDepth 100000 in
theorem tw_967 : (Cond.selects "PathsKept$Ways" ({ cls := "PathsKept$Ways", name := "leastRound", desc := "(LPathsKept$Told;LPathsKept$Standing;IIZ)I" } : Jvm.MethodName) ({ cls := "PathsKept$Ways", name := "leastRound", desc := "(LPathsKept$Told;LPathsKept$Standing;IIZ)I" } : Jvm.MethodName)) ∈ lw_tbl := ts_5 (ai_nth_mem 7 rfl)
set_option maxRecDepth 100000 in
theorem tw_968 : (Cond.code ({ cls := "PathsKept$Ways", name := "leastRound", desc := "(LPathsKept$Told;LPathsKept$Standing;IIZ)I" } : Jvm.MethodName) prog_11_method_12_code (11 : Nat) (Option.some Jvm.ClassFile.FieldType.int)) ∈ lw_tbl := ts_5 (ai_nth_mem 8 rfl)
set_option maxRecDepth 100000 in
theorem tw_969 : (Cond.methodLink "PathsKept$Ways" (97 : Nat) ({ cls := "PathsKept$Ways", name := "goOn", desc := "(LPathsKept$Told;IIII)V" } : Jvm.MethodName)) ∈ lw_tbl := ts_5 (ai_nth_mem 9 rfl)
set_option maxRecDepth 100000 in
theorem tw_971 : (Cond.instanceMethod ({ cls := "PathsKept$Ways", name := "goOn", desc := "(LPathsKept$Told;IIII)V" } : Jvm.MethodName)) ∈ lw_tbl := ts_5 (ai_nth_mem 11 rfl)
set_option maxRecDepth 100000 in
theorem tw_972 : (Cond.code ({ cls := "PathsKept$Ways", name := "goOn", desc := "(LPathsKept$Told;IIII)V" } : Jvm.MethodName) prog_11_method_13_code (15 : Nat) (Option.none : Option Jvm.ClassFile.FieldType)) ∈ lw_tbl := ts_5 (ai_nth_mem 12 rfl)
set_option maxRecDepth 100000 in
theorem tw_973 : (Cond.methodLink "PathsKept$Ways" (106 : Nat) ({ cls := "PathsKept$Ways", name := "lessen", desc := "(IIII)Z" } : Jvm.MethodName)) ∈ lw_tbl := ts_5 (ai_nth_mem 13 rfl)
set_option maxRecDepth 100000 in
theorem tw_975 : (Cond.instanceMethod ({ cls := "PathsKept$Ways", name := "lessen", desc := "(IIII)Z" } : Jvm.MethodName)) ∈ lw_tbl := ts_5 (ai_nth_mem 15 rfl)
set_option maxRecDepth 100000 in
theorem tw_976 : (Cond.code ({ cls := "PathsKept$Ways", name := "lessen", desc := "(IIII)Z" } : Jvm.MethodName) prog_11_method_14_code (6 : Nat) (Option.some Jvm.ClassFile.FieldType.boolean)) ∈ lw_tbl := ts_5 (ai_nth_mem 16 rfl)
set_option maxRecDepth 100000 in
theorem tw_977 : (Cond.methodLink "PathsKept$Ways" (101 : Nat) ({ cls := "java/lang/Math", name := "min", desc := "(II)I" } : Jvm.MethodName)) ∈ lw_tbl := ts_5 (ai_nth_mem 17 rfl)
set_option maxRecDepth 100000 in
theorem tw_978 : (Cond.methodLink "PathsKeptLaw" (97 : Nat) ({ cls := "PathsKept", name := "needed", desc := "(I)I" } : Jvm.MethodName)) ∈ lw_tbl := ts_5 (ai_nth_mem 18 rfl)
set_option maxRecDepth 100000 in
theorem tw_979 : (Cond.instanceMethod ({ cls := "PathsKept", name := "needed", desc := "(I)I" } : Jvm.MethodName)) ∈ lw_tbl := ts_5 (ai_nth_mem 19 rfl)
set_option maxRecDepth 100000 in
theorem tw_980 : (Cond.selects "PathsKept" ({ cls := "PathsKept", name := "needed", desc := "(I)I" } : Jvm.MethodName) ({ cls := "PathsKept", name := "needed", desc := "(I)I" } : Jvm.MethodName)) ∈ lw_tbl := ts_5 (ai_nth_mem 20 rfl)
set_option maxRecDepth 100000 in
theorem tw_981 : (Cond.code ({ cls := "PathsKept", name := "needed", desc := "(I)I" } : Jvm.MethodName) prog_1_method_33_code (2 : Nat) (Option.some Jvm.ClassFile.FieldType.int)) ∈ lw_tbl := ts_5 (ai_nth_mem 21 rfl)
set_option maxRecDepth 100000 in
theorem tw_982 : (Cond.methodLink "PathsKept" (280 : Nat) ({ cls := "PathsKept$Ways", name := "pairs", desc := "(LPathsKept$Told;I)I" } : Jvm.MethodName)) ∈ lw_tbl := ts_5 (ai_nth_mem 22 rfl)
set_option maxRecDepth 100000 in
theorem tw_983 : (Cond.static ({ cls := "PathsKept$Ways", name := "pairs", desc := "(LPathsKept$Told;I)I" } : Jvm.MethodName)) ∈ lw_tbl := ts_5 (ai_nth_mem 23 rfl)
set_option maxRecDepth 100000 in
theorem tw_984 : (Cond.code ({ cls := "PathsKept$Ways", name := "pairs", desc := "(LPathsKept$Told;I)I" } : Jvm.MethodName) prog_11_method_5_code (4 : Nat) (Option.some Jvm.ClassFile.FieldType.int)) ∈ lw_tbl := ts_5 (ai_nth_mem 24 rfl)
set_option maxRecDepth 100000 in
theorem tw_985 : (Cond.methodLink "PathsKept$Ways" (66 : Nat) ({ cls := "java/lang/Integer", name := "bitCount", desc := "(I)I" } : Jvm.MethodName)) ∈ lw_tbl := ts_5 (ai_nth_mem 25 rfl)
set_option maxRecDepth 100000 in
theorem tw_986 : (Cond.methodLink "PathsKeptLaw" (101 : Nat) ({ cls := "PathsKept", name := "blind", desc := "()I" } : Jvm.MethodName)) ∈ lw_tbl := ts_5 (ai_nth_mem 26 rfl)
set_option maxRecDepth 100000 in
theorem tw_987 : (Cond.instanceMethod ({ cls := "PathsKept", name := "blind", desc := "()I" } : Jvm.MethodName)) ∈ lw_tbl := ts_5 (ai_nth_mem 27 rfl)
set_option maxRecDepth 100000 in
theorem tw_988 : (Cond.selects "PathsKept" ({ cls := "PathsKept", name := "blind", desc := "()I" } : Jvm.MethodName) ({ cls := "PathsKept", name := "blind", desc := "()I" } : Jvm.MethodName)) ∈ lw_tbl := ts_5 (ai_nth_mem 28 rfl)
set_option maxRecDepth 100000 in
theorem tw_989 : (Cond.code ({ cls := "PathsKept", name := "blind", desc := "()I" } : Jvm.MethodName) prog_1_method_34_code (1 : Nat) (Option.some Jvm.ClassFile.FieldType.int)) ∈ lw_tbl := ts_5 (ai_nth_mem 29 rfl)
set_option maxRecDepth 100000 in
theorem tw_990 : (Cond.methodLink "PathsKept" (283 : Nat) ({ cls := "PathsKept$Ways", name := "blindEnds", desc := "(LPathsKept$Told;I)I" } : Jvm.MethodName)) ∈ lw_tbl := ts_5 (ai_nth_mem 30 rfl)
set_option maxRecDepth 100000 in
theorem tw_991 : (Cond.static ({ cls := "PathsKept$Ways", name := "blindEnds", desc := "(LPathsKept$Told;I)I" } : Jvm.MethodName)) ∈ lw_tbl := ts_5 (ai_nth_mem 31 rfl)
set_option maxRecDepth 100000 in
theorem tw_992 : (Cond.code ({ cls := "PathsKept$Ways", name := "blindEnds", desc := "(LPathsKept$Told;I)I" } : Jvm.MethodName) prog_11_method_6_code (4 : Nat) (Option.some Jvm.ClassFile.FieldType.int)) ∈ lw_tbl := ts_5 (ai_nth_mem 32 rfl)
set_option maxRecDepth 100000 in
theorem tw_993 : (Cond.methodLink "PathsKept$Ways" (71 : Nat) ({ cls := "PathsKept$Ways", name := "endsOfAll", desc := "(LPathsKept$Told;I)I" } : Jvm.MethodName)) ∈ lw_tbl := ts_5 (ai_nth_mem 33 rfl)
set_option maxRecDepth 100000 in
theorem tw_994 : (Cond.static ({ cls := "PathsKept$Ways", name := "endsOfAll", desc := "(LPathsKept$Told;I)I" } : Jvm.MethodName)) ∈ lw_tbl := ts_5 (ai_nth_mem 34 rfl)
set_option maxRecDepth 100000 in
theorem tw_995 : (Cond.code ({ cls := "PathsKept$Ways", name := "endsOfAll", desc := "(LPathsKept$Told;I)I" } : Jvm.MethodName) prog_11_method_7_code (4 : Nat) (Option.some Jvm.ClassFile.FieldType.int)) ∈ lw_tbl := ts_5 (ai_nth_mem 35 rfl)
set_option maxRecDepth 100000 in
theorem tw_996 : (Cond.methodLink "PathsKeptLaw" (105 : Nat) ({ cls := "PathsKept", name := "watch", desc := "()I" } : Jvm.MethodName)) ∈ lw_tbl := ts_5 (ai_nth_mem 36 rfl)
set_option maxRecDepth 100000 in
theorem tw_997 : (Cond.instanceMethod ({ cls := "PathsKept", name := "watch", desc := "()I" } : Jvm.MethodName)) ∈ lw_tbl := ts_5 (ai_nth_mem 37 rfl)
set_option maxRecDepth 100000 in
theorem tw_998 : (Cond.selects "PathsKept" ({ cls := "PathsKept", name := "watch", desc := "()I" } : Jvm.MethodName) ({ cls := "PathsKept", name := "watch", desc := "()I" } : Jvm.MethodName)) ∈ lw_tbl := ts_5 (ai_nth_mem 38 rfl)
set_option maxRecDepth 100000 in
theorem tw_999 : (Cond.code ({ cls := "PathsKept", name := "watch", desc := "()I" } : Jvm.MethodName) prog_1_method_35_code (1 : Nat) (Option.some Jvm.ClassFile.FieldType.int)) ∈ lw_tbl := ts_5 (ai_nth_mem 39 rfl)
set_option maxRecDepth 100000 in
theorem tw_1000 : (Cond.methodLink "PathsKept" (286 : Nat) ({ cls := "PathsKept$Ways", name := "fewestWatched", desc := "(LPathsKept$Told;I)I" } : Jvm.MethodName)) ∈ lw_tbl := ts_5 (ai_nth_mem 40 rfl)
set_option maxRecDepth 100000 in
theorem tw_1001 : (Cond.static ({ cls := "PathsKept$Ways", name := "fewestWatched", desc := "(LPathsKept$Told;I)I" } : Jvm.MethodName)) ∈ lw_tbl := ts_5 (ai_nth_mem 41 rfl)
set_option maxRecDepth 100000 in
theorem tw_1002 : (Cond.code ({ cls := "PathsKept$Ways", name := "fewestWatched", desc := "(LPathsKept$Told;I)I" } : Jvm.MethodName) prog_11_method_8_code (4 : Nat) (Option.some Jvm.ClassFile.FieldType.int)) ∈ lw_tbl := ts_5 (ai_nth_mem 42 rfl)
set_option maxRecDepth 100000 in
theorem tw_1003 : (Cond.methodLink "PathsKept$Ways" (75 : Nat) ({ cls := "PathsKept$Ways", name := "isWatched", desc := "(LPathsKept$Told;II)Z" } : Jvm.MethodName)) ∈ lw_tbl := ts_5 (ai_nth_mem 43 rfl)
set_option maxRecDepth 100000 in
theorem tw_1004 : (Cond.static ({ cls := "PathsKept$Ways", name := "isWatched", desc := "(LPathsKept$Told;II)Z" } : Jvm.MethodName)) ∈ lw_tbl := ts_5 (ai_nth_mem 44 rfl)
set_option maxRecDepth 100000 in
theorem tw_1005 : (Cond.code ({ cls := "PathsKept$Ways", name := "isWatched", desc := "(LPathsKept$Told;II)Z" } : Jvm.MethodName) prog_11_method_9_code (4 : Nat) (Option.some Jvm.ClassFile.FieldType.boolean)) ∈ lw_tbl := ts_5 (ai_nth_mem 45 rfl)
set_option maxRecDepth 100000 in
theorem tw_1006 : (Cond.methodLink "PathsKeptLaw" (109 : Nat) ({ cls := "PathsKept", name := "match", desc := "(I)I" } : Jvm.MethodName)) ∈ lw_tbl := ts_5 (ai_nth_mem 46 rfl)
set_option maxRecDepth 100000 in
theorem tw_1007 : (Cond.instanceMethod ({ cls := "PathsKept", name := "match", desc := "(I)I" } : Jvm.MethodName)) ∈ lw_tbl := ts_5 (ai_nth_mem 47 rfl)
set_option maxRecDepth 100000 in
theorem tw_1008 : (Cond.selects "PathsKept" ({ cls := "PathsKept", name := "match", desc := "(I)I" } : Jvm.MethodName) ({ cls := "PathsKept", name := "match", desc := "(I)I" } : Jvm.MethodName)) ∈ lw_tbl := ts_5 (ai_nth_mem 48 rfl)
set_option maxRecDepth 100000 in
theorem tw_1009 : (Cond.code ({ cls := "PathsKept", name := "match", desc := "(I)I" } : Jvm.MethodName) prog_1_method_36_code (2 : Nat) (Option.some Jvm.ClassFile.FieldType.int)) ∈ lw_tbl := ts_5 (ai_nth_mem 49 rfl)
set_option maxRecDepth 100000 in
theorem tw_1010 : (Cond.methodLink "PathsKept" (289 : Nat) ({ cls := "PathsKept$Ways", name := "matchAll", desc := "(LPathsKept$Told;LPathsKept$Standing;)V" } : Jvm.MethodName)) ∈ lw_tbl := ts_5 (ai_nth_mem 50 rfl)
set_option maxRecDepth 100000 in
theorem tw_1011 : (Cond.instanceMethod ({ cls := "PathsKept$Ways", name := "matchAll", desc := "(LPathsKept$Told;LPathsKept$Standing;)V" } : Jvm.MethodName)) ∈ lw_tbl := ts_5 (ai_nth_mem 51 rfl)
set_option maxRecDepth 100000 in
theorem tw_1012 : (Cond.selects "PathsKept$Ways" ({ cls := "PathsKept$Ways", name := "matchAll", desc := "(LPathsKept$Told;LPathsKept$Standing;)V" } : Jvm.MethodName) ({ cls := "PathsKept$Ways", name := "matchAll", desc := "(LPathsKept$Told;LPathsKept$Standing;)V" } : Jvm.MethodName)) ∈ lw_tbl := ts_5 (ai_nth_mem 52 rfl)
set_option maxRecDepth 100000 in
theorem tw_1013 : (Cond.code ({ cls := "PathsKept$Ways", name := "matchAll", desc := "(LPathsKept$Told;LPathsKept$Standing;)V" } : Jvm.MethodName) prog_11_method_15_code (6 : Nat) (Option.none : Option Jvm.ClassFile.FieldType)) ∈ lw_tbl := ts_5 (ai_nth_mem 53 rfl)
set_option maxRecDepth 100000 in
theorem tw_1014 : (Cond.methodLink "PathsKept$Ways" (113 : Nat) ({ cls := "java/lang/System", name := "arraycopy", desc := "(Ljava/lang/Object;ILjava/lang/Object;II)V" } : Jvm.MethodName)) ∈ lw_tbl := ts_5 (ai_nth_mem 54 rfl)
set_option maxRecDepth 100000 in
theorem tw_1015 : (Cond.methodLink "PathsKept$Ways" (122 : Nat) ({ cls := "PathsKept$Ways", name := "matchFrom", desc := "(IIII)V" } : Jvm.MethodName)) ∈ lw_tbl := ts_5 (ai_nth_mem 55 rfl)
set_option maxRecDepth 100000 in
theorem tw_1017 : (Cond.instanceMethod ({ cls := "PathsKept$Ways", name := "matchFrom", desc := "(IIII)V" } : Jvm.MethodName)) ∈ lw_tbl := ts_5 (ai_nth_mem 57 rfl)
set_option maxRecDepth 100000 in
theorem tw_1018 : (Cond.code ({ cls := "PathsKept$Ways", name := "matchFrom", desc := "(IIII)V" } : Jvm.MethodName) prog_11_method_16_code (7 : Nat) (Option.none : Option Jvm.ClassFile.FieldType)) ∈ lw_tbl := ts_5 (ai_nth_mem 58 rfl)
set_option maxRecDepth 100000 in
theorem tw_1019 : (Cond.methodLink "PathsKeptLaw" (113 : Nat) ({ cls := "PathsKept", name := "game", desc := "(IIII)I" } : Jvm.MethodName)) ∈ lw_tbl := ts_5 (ai_nth_mem 59 rfl)
set_option maxRecDepth 100000 in
theorem tw_1020 : (Cond.instanceMethod ({ cls := "PathsKept", name := "game", desc := "(IIII)I" } : Jvm.MethodName)) ∈ lw_tbl := ts_5 (ai_nth_mem 60 rfl)
set_option maxRecDepth 100000 in
theorem tw_1021 : (Cond.selects "PathsKept" ({ cls := "PathsKept", name := "game", desc := "(IIII)I" } : Jvm.MethodName) ({ cls := "PathsKept", name := "game", desc := "(IIII)I" } : Jvm.MethodName)) ∈ lw_tbl := ts_5 (ai_nth_mem 61 rfl)
set_option maxRecDepth 100000 in
theorem tw_1022 : (Cond.code ({ cls := "PathsKept", name := "game", desc := "(IIII)I" } : Jvm.MethodName) prog_1_method_37_code (5 : Nat) (Option.some Jvm.ClassFile.FieldType.int)) ∈ lw_tbl := ts_5 (ai_nth_mem 62 rfl)
set_option maxRecDepth 100000 in
theorem tw_1023 : (Cond.methodLink "PathsKept" (299 : Nat) ({ cls := "PathsKept$Game", name := "begin", desc := "(LPathsKept$Told;III)V" } : Jvm.MethodName)) ∈ lw_tbl := ts_5 (ai_nth_mem 63 rfl)
set_option maxRecDepth 100000 in
theorem tw_1024 : (Cond.instanceMethod ({ cls := "PathsKept$Game", name := "begin", desc := "(LPathsKept$Told;III)V" } : Jvm.MethodName)) ∈ lw_tbl := ts_5 (ai_nth_mem 64 rfl)
set_option maxRecDepth 100000 in
theorem tw_1025 : (Cond.selects "PathsKept$Game" ({ cls := "PathsKept$Game", name := "begin", desc := "(LPathsKept$Told;III)V" } : Jvm.MethodName) ({ cls := "PathsKept$Game", name := "begin", desc := "(LPathsKept$Told;III)V" } : Jvm.MethodName)) ∈ lw_tbl := ts_5 (ai_nth_mem 65 rfl)
set_option maxRecDepth 100000 in
theorem tw_1026 : (Cond.code ({ cls := "PathsKept$Game", name := "begin", desc := "(LPathsKept$Told;III)V" } : Jvm.MethodName) prog_3_method_2_code (6 : Nat) (Option.none : Option Jvm.ClassFile.FieldType)) ∈ lw_tbl := ts_5 (ai_nth_mem 66 rfl)
set_option maxRecDepth 100000 in
theorem tw_1027 : (Cond.methodLink "PathsKept$Game" (19 : Nat) ({ cls := "java/util/Arrays", name := "fill", desc := "([II)V" } : Jvm.MethodName)) ∈ lw_tbl := ts_5 (ai_nth_mem 67 rfl)
set_option maxRecDepth 100000 in
theorem tw_1028 : (Cond.methodLink "PathsKept$Game" (29 : Nat) ({ cls := "PathsKept$Ways", name := "spread", desc := "(LPathsKept$Told;II)I" } : Jvm.MethodName)) ∈ lw_tbl := ts_5 (ai_nth_mem 68 rfl)
set_option maxRecDepth 100000 in
theorem tw_1029 : (Cond.methodLink "PathsKept" (302 : Nat) ({ cls := "PathsKept$Game", name := "winner", desc := "(I)I" } : Jvm.MethodName)) ∈ lw_tbl := ts_5 (ai_nth_mem 69 rfl)
set_option maxRecDepth 100000 in
theorem tw_1030 : (Cond.instanceMethod ({ cls := "PathsKept$Game", name := "winner", desc := "(I)I" } : Jvm.MethodName)) ∈ lw_tbl := ts_5 (ai_nth_mem 70 rfl)
set_option maxRecDepth 100000 in
theorem tw_1031 : (Cond.selects "PathsKept$Game" ({ cls := "PathsKept$Game", name := "winner", desc := "(I)I" } : Jvm.MethodName) ({ cls := "PathsKept$Game", name := "winner", desc := "(I)I" } : Jvm.MethodName)) ∈ lw_tbl := ts_5 (ai_nth_mem 71 rfl)
set_option maxRecDepth 100000 in
theorem tw_1032 : (Cond.code ({ cls := "PathsKept$Game", name := "winner", desc := "(I)I" } : Jvm.MethodName) prog_3_method_3_code (2 : Nat) (Option.some Jvm.ClassFile.FieldType.int)) ∈ lw_tbl := ts_5 (ai_nth_mem 72 rfl)
set_option maxRecDepth 100000 in
theorem tw_1033 : (Cond.methodLink "PathsKept$Game" (35 : Nat) ({ cls := "PathsKept$Game", name := "winnerFrom", desc := "(IIII)I" } : Jvm.MethodName)) ∈ lw_tbl := ts_5 (ai_nth_mem 73 rfl)
set_option maxRecDepth 100000 in
theorem tw_1035 : (Cond.instanceMethod ({ cls := "PathsKept$Game", name := "winnerFrom", desc := "(IIII)I" } : Jvm.MethodName)) ∈ lw_tbl := ts_5 (ai_nth_mem 75 rfl)
set_option maxRecDepth 100000 in
theorem tw_1036 : (Cond.code ({ cls := "PathsKept$Game", name := "winnerFrom", desc := "(IIII)I" } : Jvm.MethodName) prog_3_method_6_code (11 : Nat) (Option.some Jvm.ClassFile.FieldType.int)) ∈ lw_tbl := ts_5 (ai_nth_mem 76 rfl)
set_option maxRecDepth 100000 in
theorem tw_1037 : (Cond.methodLink "PathsKept$Game" (39 : Nat) ({ cls := "PathsKept$Game", name := "winnerBehind", desc := "(IIIII)I" } : Jvm.MethodName)) ∈ lw_tbl := ts_5 (ai_nth_mem 77 rfl)
set_option maxRecDepth 100000 in
theorem tw_1039 : (Cond.instanceMethod ({ cls := "PathsKept$Game", name := "winnerBehind", desc := "(IIIII)I" } : Jvm.MethodName)) ∈ lw_tbl := ts_5 (ai_nth_mem 79 rfl)
set_option maxRecDepth 100000 in
theorem tw_1040 : (Cond.code ({ cls := "PathsKept$Game", name := "winnerBehind", desc := "(IIIII)I" } : Jvm.MethodName) prog_3_method_5_code (8 : Nat) (Option.some Jvm.ClassFile.FieldType.int)) ∈ lw_tbl := ts_5 (ai_nth_mem 80 rfl)
set_option maxRecDepth 100000 in
theorem tw_1041 : (Cond.fieldLink "PathsKept$Game" (43 : Nat) "PathsKept$Game" "POWERS_OF_THREE" "[I") ∈ lw_tbl := ts_5 (ai_nth_mem 81 rfl)
set_option maxRecDepth 100000 in
theorem tw_1043 : (Cond.methodLink "PathsKept" (305 : Nat) ({ cls := "PathsKept$Game", name := "firstMove", desc := "(I)I" } : Jvm.MethodName)) ∈ lw_tbl := ts_5 (ai_nth_mem 83 rfl)
set_option maxRecDepth 100000 in
theorem tw_1044 : (Cond.instanceMethod ({ cls := "PathsKept$Game", name := "firstMove", desc := "(I)I" } : Jvm.MethodName)) ∈ lw_tbl := ts_5 (ai_nth_mem 84 rfl)
set_option maxRecDepth 100000 in
theorem tw_1045 : (Cond.selects "PathsKept$Game" ({ cls := "PathsKept$Game", name := "firstMove", desc := "(I)I" } : Jvm.MethodName) ({ cls := "PathsKept$Game", name := "firstMove", desc := "(I)I" } : Jvm.MethodName)) ∈ lw_tbl := ts_5 (ai_nth_mem 85 rfl)
set_option maxRecDepth 100000 in
theorem tw_1046 : (Cond.code ({ cls := "PathsKept$Game", name := "firstMove", desc := "(I)I" } : Jvm.MethodName) prog_3_method_4_code (3 : Nat) (Option.some Jvm.ClassFile.FieldType.int)) ∈ lw_tbl := ts_5 (ai_nth_mem 86 rfl)
set_option maxRecDepth 100000 in
theorem tw_1047 : (Cond.methodLink "PathsKeptLaw" (118 : Nat) ({ cls := "PathsKept", name := "rests", desc := "(II)I" } : Jvm.MethodName)) ∈ lw_tbl := ts_5 (ai_nth_mem 87 rfl)
set_option maxRecDepth 100000 in
theorem tw_1048 : (Cond.instanceMethod ({ cls := "PathsKept", name := "rests", desc := "(II)I" } : Jvm.MethodName)) ∈ lw_tbl := ts_5 (ai_nth_mem 88 rfl)
set_option maxRecDepth 100000 in
theorem tw_1049 : (Cond.selects "PathsKept" ({ cls := "PathsKept", name := "rests", desc := "(II)I" } : Jvm.MethodName) ({ cls := "PathsKept", name := "rests", desc := "(II)I" } : Jvm.MethodName)) ∈ lw_tbl := ts_5 (ai_nth_mem 89 rfl)
set_option maxRecDepth 100000 in
theorem tw_1050 : (Cond.code ({ cls := "PathsKept", name := "rests", desc := "(II)I" } : Jvm.MethodName) prog_1_method_39_code (5 : Nat) (Option.some Jvm.ClassFile.FieldType.int)) ∈ lw_tbl := ts_5 (ai_nth_mem 90 rfl)
set_option maxRecDepth 100000 in
theorem tw_1051 : (Cond.methodLink "PathsKept" (308 : Nat) ({ cls := "PathsKept", name := "isPair", desc := "(II)Z" } : Jvm.MethodName)) ∈ lw_tbl := ts_5 (ai_nth_mem 91 rfl)
set_option maxRecDepth 100000 in
theorem tw_1053 : (Cond.instanceMethod ({ cls := "PathsKept", name := "isPair", desc := "(II)Z" } : Jvm.MethodName)) ∈ lw_tbl := ts_5 (ai_nth_mem 93 rfl)
set_option maxRecDepth 100000 in
theorem tw_1054 : (Cond.code ({ cls := "PathsKept", name := "isPair", desc := "(II)Z" } : Jvm.MethodName) prog_1_method_38_code (3 : Nat) (Option.some Jvm.ClassFile.FieldType.boolean)) ∈ lw_tbl := ts_5 (ai_nth_mem 94 rfl)
set_option maxRecDepth 100000 in
theorem tw_1055 : (Cond.methodLink "PathsKept" (311 : Nat) ({ cls := "PathsKept", name := "isRest", desc := "(III)Z" } : Jvm.MethodName)) ∈ lw_tbl := ts_5 (ai_nth_mem 95 rfl)
set_option maxRecDepth 100000 in
theorem tw_1057 : (Cond.instanceMethod ({ cls := "PathsKept", name := "isRest", desc := "(III)Z" } : Jvm.MethodName)) ∈ lw_tbl := ts_5 (ai_nth_mem 97 rfl)
set_option maxRecDepth 100000 in
theorem tw_1058 : (Cond.code ({ cls := "PathsKept", name := "isRest", desc := "(III)Z" } : Jvm.MethodName) prog_1_method_41_code (8 : Nat) (Option.some Jvm.ClassFile.FieldType.boolean)) ∈ lw_tbl := ts_5 (ai_nth_mem 98 rfl)
set_option maxRecDepth 100000 in
theorem tw_1059 : (Cond.methodLink "PathsKept" (314 : Nat) ({ cls := "PathsKept", name := "share", desc := "(III)I" } : Jvm.MethodName)) ∈ lw_tbl := ts_5 (ai_nth_mem 99 rfl)
set_option maxRecDepth 100000 in
theorem tw_1060 : (Cond.static ({ cls := "PathsKept", name := "share", desc := "(III)I" } : Jvm.MethodName)) ∈ lw_tbl := ts_5 (ai_nth_mem 100 rfl)
set_option maxRecDepth 100000 in
theorem tw_1061 : (Cond.code ({ cls := "PathsKept", name := "share", desc := "(III)I" } : Jvm.MethodName) prog_1_method_42_code (3 : Nat) (Option.some Jvm.ClassFile.FieldType.int)) ∈ lw_tbl := ts_5 (ai_nth_mem 101 rfl)
set_option maxRecDepth 100000 in
theorem tw_1062 : (Cond.methodLink "PathsKeptLaw" (122 : Nat) ({ cls := "PathsKept", name := "rest", desc := "(III)I" } : Jvm.MethodName)) ∈ lw_tbl := ts_5 (ai_nth_mem 102 rfl)
set_option maxRecDepth 100000 in
theorem tw_1063 : (Cond.instanceMethod ({ cls := "PathsKept", name := "rest", desc := "(III)I" } : Jvm.MethodName)) ∈ lw_tbl := ts_5 (ai_nth_mem 103 rfl)
set_option maxRecDepth 100000 in
theorem tw_1064 : (Cond.selects "PathsKept" ({ cls := "PathsKept", name := "rest", desc := "(III)I" } : Jvm.MethodName) ({ cls := "PathsKept", name := "rest", desc := "(III)I" } : Jvm.MethodName)) ∈ lw_tbl := ts_5 (ai_nth_mem 104 rfl)
set_option maxRecDepth 100000 in
theorem tw_1065 : (Cond.code ({ cls := "PathsKept", name := "rest", desc := "(III)I" } : Jvm.MethodName) prog_1_method_40_code (6 : Nat) (Option.some Jvm.ClassFile.FieldType.int)) ∈ lw_tbl := ts_5 (ai_nth_mem 105 rfl)
set_option maxRecDepth 100000 in
theorem tw_1066 : (Cond.methodLink "PathsKeptLaw" (126 : Nat) ({ cls := "PathsKept", name := "tries", desc := "(I)I" } : Jvm.MethodName)) ∈ lw_tbl := ts_5 (ai_nth_mem 106 rfl)
set_option maxRecDepth 100000 in
theorem tw_1067 : (Cond.instanceMethod ({ cls := "PathsKept", name := "tries", desc := "(I)I" } : Jvm.MethodName)) ∈ lw_tbl := ts_5 (ai_nth_mem 107 rfl)
set_option maxRecDepth 100000 in
theorem tw_1068 : (Cond.selects "PathsKept" ({ cls := "PathsKept", name := "tries", desc := "(I)I" } : Jvm.MethodName) ({ cls := "PathsKept", name := "tries", desc := "(I)I" } : Jvm.MethodName)) ∈ lw_tbl := ts_5 (ai_nth_mem 108 rfl)
set_option maxRecDepth 100000 in
theorem tw_1069 : (Cond.code ({ cls := "PathsKept", name := "tries", desc := "(I)I" } : Jvm.MethodName) prog_1_method_43_code (7 : Nat) (Option.some Jvm.ClassFile.FieldType.int)) ∈ lw_tbl := ts_5 (ai_nth_mem 109 rfl)
