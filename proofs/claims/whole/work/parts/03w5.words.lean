/-! ===== the words that the operations use, by their places in the table ===== -/
set_option maxRecDepth 100000 in
theorem tw_1868 : (Cond.instanceMethod ({ cls := "PathsKeptModel", name := "areTwo", desc := "(II)Z" } : Jvm.MethodName)) ∈ lw_tbl := ts_8 (ai_nth_mem 188 rfl)
set_option maxRecDepth 100000 in
theorem tw_1869 : (Cond.code ({ cls := "PathsKeptModel", name := "areTwo", desc := "(II)Z" } : Jvm.MethodName) prog_13_method_103_code (3 : Nat) (Option.some Jvm.ClassFile.FieldType.boolean)) ∈ lw_tbl := ts_8 (ai_nth_mem 189 rfl)
set_option maxRecDepth 100000 in
theorem tw_1870 : (Cond.methodLink "PathsKeptModel" (568 : Nat) ({ cls := "PathsKeptModel", name := "restAt", desc := "(III)I" } : Jvm.MethodName)) ∈ lw_tbl := ts_8 (ai_nth_mem 190 rfl)
set_option maxRecDepth 100000 in
theorem tw_1872 : (Cond.instanceMethod ({ cls := "PathsKeptModel", name := "restAt", desc := "(III)I" } : Jvm.MethodName)) ∈ lw_tbl := ts_8 (ai_nth_mem 192 rfl)
set_option maxRecDepth 100000 in
theorem tw_1873 : (Cond.code ({ cls := "PathsKeptModel", name := "restAt", desc := "(III)I" } : Jvm.MethodName) prog_13_method_102_code (8 : Nat) (Option.some Jvm.ClassFile.FieldType.int)) ∈ lw_tbl := ts_8 (ai_nth_mem 193 rfl)
set_option maxRecDepth 100000 in
theorem tw_1874 : (Cond.methodLink "PathsKeptModel" (562 : Nat) ({ cls := "PathsKeptModel", name := "hasBy", desc := "(III)I" } : Jvm.MethodName)) ∈ lw_tbl := ts_8 (ai_nth_mem 194 rfl)
set_option maxRecDepth 100000 in
theorem tw_1876 : (Cond.instanceMethod ({ cls := "PathsKeptModel", name := "hasBy", desc := "(III)I" } : Jvm.MethodName)) ∈ lw_tbl := ts_8 (ai_nth_mem 196 rfl)
set_option maxRecDepth 100000 in
theorem tw_1877 : (Cond.code ({ cls := "PathsKeptModel", name := "hasBy", desc := "(III)I" } : Jvm.MethodName) prog_13_method_101_code (4 : Nat) (Option.some Jvm.ClassFile.FieldType.int)) ∈ lw_tbl := ts_8 (ai_nth_mem 197 rfl)
set_option maxRecDepth 100000 in
theorem tw_1878 : (Cond.methodLink "PathsKeptLaw" (125 : Nat) ({ cls := "PathsKeptModel", name := "rest", desc := "(III)I" } : Jvm.MethodName)) ∈ lw_tbl := ts_8 (ai_nth_mem 198 rfl)
set_option maxRecDepth 100000 in
theorem tw_1879 : (Cond.instanceMethod ({ cls := "PathsKeptModel", name := "rest", desc := "(III)I" } : Jvm.MethodName)) ∈ lw_tbl := ts_8 (ai_nth_mem 199 rfl)
set_option maxRecDepth 100000 in
theorem tw_1880 : (Cond.selects "PathsKeptModel" ({ cls := "PathsKeptModel", name := "rest", desc := "(III)I" } : Jvm.MethodName) ({ cls := "PathsKeptModel", name := "rest", desc := "(III)I" } : Jvm.MethodName)) ∈ lw_tbl := ts_8 (ai_nth_mem 200 rfl)
set_option maxRecDepth 100000 in
theorem tw_1881 : (Cond.code ({ cls := "PathsKeptModel", name := "rest", desc := "(III)I" } : Jvm.MethodName) prog_13_method_105_code (4 : Nat) (Option.some Jvm.ClassFile.FieldType.int)) ∈ lw_tbl := ts_8 (ai_nth_mem 201 rfl)
set_option maxRecDepth 100000 in
theorem tw_1882 : (Cond.methodLink "PathsKeptLaw" (129 : Nat) ({ cls := "PathsKeptModel", name := "tries", desc := "(I)I" } : Jvm.MethodName)) ∈ lw_tbl := ts_8 (ai_nth_mem 202 rfl)
set_option maxRecDepth 100000 in
theorem tw_1883 : (Cond.instanceMethod ({ cls := "PathsKeptModel", name := "tries", desc := "(I)I" } : Jvm.MethodName)) ∈ lw_tbl := ts_8 (ai_nth_mem 203 rfl)
set_option maxRecDepth 100000 in
theorem tw_1884 : (Cond.selects "PathsKeptModel" ({ cls := "PathsKeptModel", name := "tries", desc := "(I)I" } : Jvm.MethodName) ({ cls := "PathsKeptModel", name := "tries", desc := "(I)I" } : Jvm.MethodName)) ∈ lw_tbl := ts_8 (ai_nth_mem 204 rfl)
set_option maxRecDepth 100000 in
theorem tw_1885 : (Cond.code ({ cls := "PathsKeptModel", name := "tries", desc := "(I)I" } : Jvm.MethodName) prog_13_method_106_code (7 : Nat) (Option.some Jvm.ClassFile.FieldType.int)) ∈ lw_tbl := ts_8 (ai_nth_mem 205 rfl)
set_option maxRecDepth 100000 in
theorem tw_1886 : (Cond.constantLong "PathsKeptModel" (571 : Nat) (100 : Int64)) ∈ lw_tbl := ts_8 (ai_nth_mem 206 rfl)
set_option maxRecDepth 100000 in
theorem tw_1887 : (Cond.methodLink "PathsKeptLaw" (134 : Nat) ({ cls := "PathsKeptModel", name := "clear", desc := "(II)J" } : Jvm.MethodName)) ∈ lw_tbl := ts_8 (ai_nth_mem 207 rfl)
set_option maxRecDepth 100000 in
theorem tw_1888 : (Cond.instanceMethod ({ cls := "PathsKeptModel", name := "clear", desc := "(II)J" } : Jvm.MethodName)) ∈ lw_tbl := ts_8 (ai_nth_mem 208 rfl)
set_option maxRecDepth 100000 in
theorem tw_1889 : (Cond.selects "PathsKeptModel" ({ cls := "PathsKeptModel", name := "clear", desc := "(II)J" } : Jvm.MethodName) ({ cls := "PathsKeptModel", name := "clear", desc := "(II)J" } : Jvm.MethodName)) ∈ lw_tbl := ts_8 (ai_nth_mem 209 rfl)
set_option maxRecDepth 100000 in
theorem tw_1890 : (Cond.code ({ cls := "PathsKeptModel", name := "clear", desc := "(II)J" } : Jvm.MethodName) prog_13_method_107_code (13 : Nat) (Option.some Jvm.ClassFile.FieldType.long)) ∈ lw_tbl := ts_8 (ai_nth_mem 210 rfl)
set_option maxRecDepth 100000 in
theorem tw_1891 : (Cond.constantLong "PathsKeptModel" (573 : Nat) (-1 : Int64)) ∈ lw_tbl := ts_8 (ai_nth_mem 211 rfl)
set_option maxRecDepth 100000 in
theorem tw_1892 : (Cond.methodLink "PathsKeptLaw" (139 : Nat) ({ cls := "PathsKeptModel", name := "see", desc := "(IIIZ)I" } : Jvm.MethodName)) ∈ lw_tbl := ts_8 (ai_nth_mem 212 rfl)
set_option maxRecDepth 100000 in
theorem tw_1893 : (Cond.instanceMethod ({ cls := "PathsKeptModel", name := "see", desc := "(IIIZ)I" } : Jvm.MethodName)) ∈ lw_tbl := ts_8 (ai_nth_mem 213 rfl)
set_option maxRecDepth 100000 in
theorem tw_1894 : (Cond.selects "PathsKeptModel" ({ cls := "PathsKeptModel", name := "see", desc := "(IIIZ)I" } : Jvm.MethodName) ({ cls := "PathsKeptModel", name := "see", desc := "(IIIZ)I" } : Jvm.MethodName)) ∈ lw_tbl := ts_8 (ai_nth_mem 214 rfl)
set_option maxRecDepth 100000 in
theorem tw_1895 : (Cond.code ({ cls := "PathsKeptModel", name := "see", desc := "(IIIZ)I" } : Jvm.MethodName) prog_13_method_109_code (5 : Nat) (Option.some Jvm.ClassFile.FieldType.int)) ∈ lw_tbl := ts_8 (ai_nth_mem 215 rfl)
set_option maxRecDepth 100000 in
theorem tw_1896 : (Cond.methodLink "PathsKeptModel" (575 : Nat) ({ cls := "PathsKeptModel", name := "noted", desc := "(IIII)I" } : Jvm.MethodName)) ∈ lw_tbl := ts_8 (ai_nth_mem 216 rfl)
set_option maxRecDepth 100000 in
theorem tw_1898 : (Cond.instanceMethod ({ cls := "PathsKeptModel", name := "noted", desc := "(IIII)I" } : Jvm.MethodName)) ∈ lw_tbl := ts_8 (ai_nth_mem 218 rfl)
set_option maxRecDepth 100000 in
theorem tw_1899 : (Cond.code ({ cls := "PathsKeptModel", name := "noted", desc := "(IIII)I" } : Jvm.MethodName) prog_13_method_108_code (5 : Nat) (Option.some Jvm.ClassFile.FieldType.int)) ∈ lw_tbl := ts_8 (ai_nth_mem 219 rfl)
set_option maxRecDepth 100000 in
theorem tw_1900 : (Cond.methodLink "PathsKeptLaw" (143 : Nat) ({ cls := "PathsKeptModel", name := "strike", desc := "(I)I" } : Jvm.MethodName)) ∈ lw_tbl := ts_8 (ai_nth_mem 220 rfl)
set_option maxRecDepth 100000 in
theorem tw_1901 : (Cond.instanceMethod ({ cls := "PathsKeptModel", name := "strike", desc := "(I)I" } : Jvm.MethodName)) ∈ lw_tbl := ts_8 (ai_nth_mem 221 rfl)
set_option maxRecDepth 100000 in
theorem tw_1902 : (Cond.selects "PathsKeptModel" ({ cls := "PathsKeptModel", name := "strike", desc := "(I)I" } : Jvm.MethodName) ({ cls := "PathsKeptModel", name := "strike", desc := "(I)I" } : Jvm.MethodName)) ∈ lw_tbl := ts_8 (ai_nth_mem 222 rfl)
set_option maxRecDepth 100000 in
theorem tw_1903 : (Cond.code ({ cls := "PathsKeptModel", name := "strike", desc := "(I)I" } : Jvm.MethodName) prog_13_method_110_code (2 : Nat) (Option.some Jvm.ClassFile.FieldType.int)) ∈ lw_tbl := ts_8 (ai_nth_mem 223 rfl)
set_option maxRecDepth 100000 in
theorem tw_1904 : (Cond.methodLink "PathsKeptLaw" (147 : Nat) ({ cls := "PathsKeptModel", name := "known", desc := "(I)Z" } : Jvm.MethodName)) ∈ lw_tbl := ts_8 (ai_nth_mem 224 rfl)
set_option maxRecDepth 100000 in
theorem tw_1905 : (Cond.instanceMethod ({ cls := "PathsKeptModel", name := "known", desc := "(I)Z" } : Jvm.MethodName)) ∈ lw_tbl := ts_8 (ai_nth_mem 225 rfl)
set_option maxRecDepth 100000 in
theorem tw_1906 : (Cond.selects "PathsKeptModel" ({ cls := "PathsKeptModel", name := "known", desc := "(I)Z" } : Jvm.MethodName) ({ cls := "PathsKeptModel", name := "known", desc := "(I)Z" } : Jvm.MethodName)) ∈ lw_tbl := ts_8 (ai_nth_mem 226 rfl)
set_option maxRecDepth 100000 in
theorem tw_1907 : (Cond.code ({ cls := "PathsKeptModel", name := "known", desc := "(I)Z" } : Jvm.MethodName) prog_13_method_111_code (2 : Nat) (Option.some Jvm.ClassFile.FieldType.boolean)) ∈ lw_tbl := ts_8 (ai_nth_mem 227 rfl)
set_option maxRecDepth 100000 in
theorem tw_1908 : (Cond.methodLink "PathsKeptLaw" (151 : Nat) ({ cls := "PathsKeptModel", name := "legs", desc := "(I)I" } : Jvm.MethodName)) ∈ lw_tbl := ts_8 (ai_nth_mem 228 rfl)
set_option maxRecDepth 100000 in
theorem tw_1909 : (Cond.instanceMethod ({ cls := "PathsKeptModel", name := "legs", desc := "(I)I" } : Jvm.MethodName)) ∈ lw_tbl := ts_8 (ai_nth_mem 229 rfl)
set_option maxRecDepth 100000 in
theorem tw_1910 : (Cond.selects "PathsKeptModel" ({ cls := "PathsKeptModel", name := "legs", desc := "(I)I" } : Jvm.MethodName) ({ cls := "PathsKeptModel", name := "legs", desc := "(I)I" } : Jvm.MethodName)) ∈ lw_tbl := ts_8 (ai_nth_mem 230 rfl)
set_option maxRecDepth 100000 in
theorem tw_1911 : (Cond.code ({ cls := "PathsKeptModel", name := "legs", desc := "(I)I" } : Jvm.MethodName) prog_13_method_118_code (2 : Nat) (Option.some Jvm.ClassFile.FieldType.int)) ∈ lw_tbl := ts_8 (ai_nth_mem 231 rfl)
set_option maxRecDepth 100000 in
theorem tw_1912 : (Cond.methodLink "PathsKeptModel" (594 : Nat) ({ cls := "PathsKeptModel", name := "legsBits", desc := "(I)I" } : Jvm.MethodName)) ∈ lw_tbl := ts_8 (ai_nth_mem 232 rfl)
set_option maxRecDepth 100000 in
theorem tw_1914 : (Cond.instanceMethod ({ cls := "PathsKeptModel", name := "legsBits", desc := "(I)I" } : Jvm.MethodName)) ∈ lw_tbl := ts_8 (ai_nth_mem 234 rfl)
set_option maxRecDepth 100000 in
theorem tw_1915 : (Cond.code ({ cls := "PathsKeptModel", name := "legsBits", desc := "(I)I" } : Jvm.MethodName) prog_13_method_117_code (4 : Nat) (Option.some Jvm.ClassFile.FieldType.int)) ∈ lw_tbl := ts_8 (ai_nth_mem 235 rfl)
set_option maxRecDepth 100000 in
theorem tw_1916 : (Cond.methodLink "PathsKeptModel" (588 : Nat) ({ cls := "PathsKeptModel", name := "layCounts", desc := "()V" } : Jvm.MethodName)) ∈ lw_tbl := ts_8 (ai_nth_mem 236 rfl)
set_option maxRecDepth 100000 in
theorem tw_1918 : (Cond.instanceMethod ({ cls := "PathsKeptModel", name := "layCounts", desc := "()V" } : Jvm.MethodName)) ∈ lw_tbl := ts_8 (ai_nth_mem 238 rfl)
set_option maxRecDepth 100000 in
theorem tw_1919 : (Cond.code ({ cls := "PathsKeptModel", name := "layCounts", desc := "()V" } : Jvm.MethodName) prog_13_method_113_code (2 : Nat) (Option.none : Option Jvm.ClassFile.FieldType)) ∈ lw_tbl := ts_8 (ai_nth_mem 239 rfl)
set_option maxRecDepth 100000 in
theorem tw_1920 : (Cond.methodLink "PathsKeptModel" (579 : Nat) ({ cls := "PathsKeptModel", name := "knownBy", desc := "()I" } : Jvm.MethodName)) ∈ lw_tbl := ts_9 (ai_nth_mem 0 rfl)
set_option maxRecDepth 100000 in
theorem tw_1922 : (Cond.instanceMethod ({ cls := "PathsKeptModel", name := "knownBy", desc := "()I" } : Jvm.MethodName)) ∈ lw_tbl := ts_9 (ai_nth_mem 2 rfl)
set_option maxRecDepth 100000 in
theorem tw_1923 : (Cond.code ({ cls := "PathsKeptModel", name := "knownBy", desc := "()I" } : Jvm.MethodName) prog_13_method_112_code (1 : Nat) (Option.some Jvm.ClassFile.FieldType.int)) ∈ lw_tbl := ts_9 (ai_nth_mem 3 rfl)
set_option maxRecDepth 100000 in
theorem tw_1924 : (Cond.methodLink "PathsKeptModel" (591 : Nat) ({ cls := "PathsKeptModel", name := "fits", desc := "(II)Z" } : Jvm.MethodName)) ∈ lw_tbl := ts_9 (ai_nth_mem 4 rfl)
set_option maxRecDepth 100000 in
theorem tw_1926 : (Cond.instanceMethod ({ cls := "PathsKeptModel", name := "fits", desc := "(II)Z" } : Jvm.MethodName)) ∈ lw_tbl := ts_9 (ai_nth_mem 6 rfl)
set_option maxRecDepth 100000 in
theorem tw_1927 : (Cond.code ({ cls := "PathsKeptModel", name := "fits", desc := "(II)Z" } : Jvm.MethodName) prog_13_method_116_code (4 : Nat) (Option.some Jvm.ClassFile.FieldType.boolean)) ∈ lw_tbl := ts_9 (ai_nth_mem 7 rfl)
set_option maxRecDepth 100000 in
theorem tw_1928 : (Cond.methodLink "PathsKeptModel" (582 : Nat) ({ cls := "PathsKeptModel", name := "layLegs", desc := "(II)V" } : Jvm.MethodName)) ∈ lw_tbl := ts_9 (ai_nth_mem 8 rfl)
set_option maxRecDepth 100000 in
theorem tw_1930 : (Cond.instanceMethod ({ cls := "PathsKeptModel", name := "layLegs", desc := "(II)V" } : Jvm.MethodName)) ∈ lw_tbl := ts_9 (ai_nth_mem 10 rfl)
set_option maxRecDepth 100000 in
theorem tw_1931 : (Cond.code ({ cls := "PathsKeptModel", name := "layLegs", desc := "(II)V" } : Jvm.MethodName) prog_13_method_115_code (3 : Nat) (Option.none : Option Jvm.ClassFile.FieldType)) ∈ lw_tbl := ts_9 (ai_nth_mem 11 rfl)
set_option maxRecDepth 100000 in
theorem tw_1932 : (Cond.methodLink "PathsKeptModel" (585 : Nat) ({ cls := "PathsKeptModel", name := "isSo", desc := "(I)Z" } : Jvm.MethodName)) ∈ lw_tbl := ts_9 (ai_nth_mem 12 rfl)
set_option maxRecDepth 100000 in
theorem tw_1934 : (Cond.instanceMethod ({ cls := "PathsKeptModel", name := "isSo", desc := "(I)Z" } : Jvm.MethodName)) ∈ lw_tbl := ts_9 (ai_nth_mem 14 rfl)
set_option maxRecDepth 100000 in
theorem tw_1935 : (Cond.code ({ cls := "PathsKeptModel", name := "isSo", desc := "(I)Z" } : Jvm.MethodName) prog_13_method_114_code (3 : Nat) (Option.some Jvm.ClassFile.FieldType.boolean)) ∈ lw_tbl := ts_9 (ai_nth_mem 15 rfl)
set_option maxRecDepth 100000 in
theorem tw_1936 : (Cond.methodLink "PathsKeptLaw" (155 : Nat) ({ cls := "PathsKeptModel", name := "sit", desc := "(III)I" } : Jvm.MethodName)) ∈ lw_tbl := ts_9 (ai_nth_mem 16 rfl)
set_option maxRecDepth 100000 in
theorem tw_1937 : (Cond.instanceMethod ({ cls := "PathsKeptModel", name := "sit", desc := "(III)I" } : Jvm.MethodName)) ∈ lw_tbl := ts_9 (ai_nth_mem 17 rfl)
set_option maxRecDepth 100000 in
theorem tw_1938 : (Cond.selects "PathsKeptModel" ({ cls := "PathsKeptModel", name := "sit", desc := "(III)I" } : Jvm.MethodName) ({ cls := "PathsKeptModel", name := "sit", desc := "(III)I" } : Jvm.MethodName)) ∈ lw_tbl := ts_9 (ai_nth_mem 18 rfl)
set_option maxRecDepth 100000 in
theorem tw_1939 : (Cond.code ({ cls := "PathsKeptModel", name := "sit", desc := "(III)I" } : Jvm.MethodName) prog_13_method_119_code (10 : Nat) (Option.some Jvm.ClassFile.FieldType.int)) ∈ lw_tbl := ts_9 (ai_nth_mem 19 rfl)
set_option maxRecDepth 100000 in
theorem tw_1940 : (Cond.methodLink "PathsKeptLaw" (159 : Nat) ({ cls := "PathsKeptModel", name := "chance", desc := "(IIII)I" } : Jvm.MethodName)) ∈ lw_tbl := ts_9 (ai_nth_mem 20 rfl)
set_option maxRecDepth 100000 in
theorem tw_1941 : (Cond.instanceMethod ({ cls := "PathsKeptModel", name := "chance", desc := "(IIII)I" } : Jvm.MethodName)) ∈ lw_tbl := ts_9 (ai_nth_mem 21 rfl)
set_option maxRecDepth 100000 in
theorem tw_1942 : (Cond.selects "PathsKeptModel" ({ cls := "PathsKeptModel", name := "chance", desc := "(IIII)I" } : Jvm.MethodName) ({ cls := "PathsKeptModel", name := "chance", desc := "(IIII)I" } : Jvm.MethodName)) ∈ lw_tbl := ts_9 (ai_nth_mem 22 rfl)
set_option maxRecDepth 100000 in
theorem tw_1943 : (Cond.code ({ cls := "PathsKeptModel", name := "chance", desc := "(IIII)I" } : Jvm.MethodName) prog_13_method_120_code (9 : Nat) (Option.some Jvm.ClassFile.FieldType.int)) ∈ lw_tbl := ts_9 (ai_nth_mem 23 rfl)
set_option maxRecDepth 100000 in
theorem tw_1944 : (Cond.methodLink "PathsKeptLaw" (163 : Nat) ({ cls := "PathsKeptModel", name := "tried", desc := "(III)I" } : Jvm.MethodName)) ∈ lw_tbl := ts_9 (ai_nth_mem 24 rfl)
set_option maxRecDepth 100000 in
theorem tw_1945 : (Cond.instanceMethod ({ cls := "PathsKeptModel", name := "tried", desc := "(III)I" } : Jvm.MethodName)) ∈ lw_tbl := ts_9 (ai_nth_mem 25 rfl)
set_option maxRecDepth 100000 in
theorem tw_1946 : (Cond.selects "PathsKeptModel" ({ cls := "PathsKeptModel", name := "tried", desc := "(III)I" } : Jvm.MethodName) ({ cls := "PathsKeptModel", name := "tried", desc := "(III)I" } : Jvm.MethodName)) ∈ lw_tbl := ts_9 (ai_nth_mem 26 rfl)
set_option maxRecDepth 100000 in
theorem tw_1947 : (Cond.code ({ cls := "PathsKeptModel", name := "tried", desc := "(III)I" } : Jvm.MethodName) prog_13_method_121_code (4 : Nat) (Option.some Jvm.ClassFile.FieldType.int)) ∈ lw_tbl := ts_9 (ai_nth_mem 27 rfl)
set_option maxRecDepth 100000 in
theorem tw_1948 : (Cond.methodLink "PathsKeptLaw" (167 : Nat) ({ cls := "PathsKeptModel", name := "undo", desc := "()I" } : Jvm.MethodName)) ∈ lw_tbl := ts_9 (ai_nth_mem 28 rfl)
set_option maxRecDepth 100000 in
theorem tw_1949 : (Cond.instanceMethod ({ cls := "PathsKeptModel", name := "undo", desc := "()I" } : Jvm.MethodName)) ∈ lw_tbl := ts_9 (ai_nth_mem 29 rfl)
set_option maxRecDepth 100000 in
theorem tw_1950 : (Cond.selects "PathsKeptModel" ({ cls := "PathsKeptModel", name := "undo", desc := "()I" } : Jvm.MethodName) ({ cls := "PathsKeptModel", name := "undo", desc := "()I" } : Jvm.MethodName)) ∈ lw_tbl := ts_9 (ai_nth_mem 30 rfl)
set_option maxRecDepth 100000 in
theorem tw_1951 : (Cond.code ({ cls := "PathsKeptModel", name := "undo", desc := "()I" } : Jvm.MethodName) prog_13_method_125_code (1 : Nat) (Option.some Jvm.ClassFile.FieldType.int)) ∈ lw_tbl := ts_9 (ai_nth_mem 31 rfl)
set_option maxRecDepth 100000 in
theorem tw_1952 : (Cond.methodLink "PathsKeptModel" (600 : Nat) ({ cls := "PathsKeptModel", name := "take", desc := "([II)V" } : Jvm.MethodName)) ∈ lw_tbl := ts_9 (ai_nth_mem 32 rfl)
set_option maxRecDepth 100000 in
theorem tw_1954 : (Cond.instanceMethod ({ cls := "PathsKeptModel", name := "take", desc := "([II)V" } : Jvm.MethodName)) ∈ lw_tbl := ts_9 (ai_nth_mem 34 rfl)
set_option maxRecDepth 100000 in
theorem tw_1955 : (Cond.code ({ cls := "PathsKeptModel", name := "take", desc := "([II)V" } : Jvm.MethodName) prog_13_method_123_code (4 : Nat) (Option.none : Option Jvm.ClassFile.FieldType)) ∈ lw_tbl := ts_9 (ai_nth_mem 35 rfl)
set_option maxRecDepth 100000 in
theorem tw_1956 : (Cond.methodLink "PathsKeptLaw" (171 : Nat) ({ cls := "PathsKeptModel", name := "keep", desc := "()I" } : Jvm.MethodName)) ∈ lw_tbl := ts_9 (ai_nth_mem 36 rfl)
set_option maxRecDepth 100000 in
theorem tw_1957 : (Cond.instanceMethod ({ cls := "PathsKeptModel", name := "keep", desc := "()I" } : Jvm.MethodName)) ∈ lw_tbl := ts_9 (ai_nth_mem 37 rfl)
set_option maxRecDepth 100000 in
theorem tw_1958 : (Cond.selects "PathsKeptModel" ({ cls := "PathsKeptModel", name := "keep", desc := "()I" } : Jvm.MethodName) ({ cls := "PathsKeptModel", name := "keep", desc := "()I" } : Jvm.MethodName)) ∈ lw_tbl := ts_9 (ai_nth_mem 38 rfl)
set_option maxRecDepth 100000 in
theorem tw_1959 : (Cond.code ({ cls := "PathsKeptModel", name := "keep", desc := "()I" } : Jvm.MethodName) prog_13_method_126_code (1 : Nat) (Option.some Jvm.ClassFile.FieldType.int)) ∈ lw_tbl := ts_9 (ai_nth_mem 39 rfl)
set_option maxRecDepth 100000 in
theorem tw_1960 : (Cond.methodLink "PathsKeptLaw" (175 : Nat) ({ cls := "PathsKeptModel", name := "back", desc := "()I" } : Jvm.MethodName)) ∈ lw_tbl := ts_9 (ai_nth_mem 40 rfl)
set_option maxRecDepth 100000 in
theorem tw_1961 : (Cond.instanceMethod ({ cls := "PathsKeptModel", name := "back", desc := "()I" } : Jvm.MethodName)) ∈ lw_tbl := ts_9 (ai_nth_mem 41 rfl)
set_option maxRecDepth 100000 in
theorem tw_1962 : (Cond.selects "PathsKeptModel" ({ cls := "PathsKeptModel", name := "back", desc := "()I" } : Jvm.MethodName) ({ cls := "PathsKeptModel", name := "back", desc := "()I" } : Jvm.MethodName)) ∈ lw_tbl := ts_9 (ai_nth_mem 42 rfl)
set_option maxRecDepth 100000 in
theorem tw_1963 : (Cond.code ({ cls := "PathsKeptModel", name := "back", desc := "()I" } : Jvm.MethodName) prog_13_method_127_code (1 : Nat) (Option.some Jvm.ClassFile.FieldType.int)) ∈ lw_tbl := ts_9 (ai_nth_mem 43 rfl)
set_option maxRecDepth 100000 in
theorem tw_1964 : (Cond.methodLink "PathsKeptLaw" (179 : Nat) ({ cls := "PathsKeptModel", name := "count", desc := "(I)I" } : Jvm.MethodName)) ∈ lw_tbl := ts_9 (ai_nth_mem 44 rfl)
set_option maxRecDepth 100000 in
theorem tw_1965 : (Cond.instanceMethod ({ cls := "PathsKeptModel", name := "count", desc := "(I)I" } : Jvm.MethodName)) ∈ lw_tbl := ts_9 (ai_nth_mem 45 rfl)
set_option maxRecDepth 100000 in
theorem tw_1966 : (Cond.selects "PathsKeptModel" ({ cls := "PathsKeptModel", name := "count", desc := "(I)I" } : Jvm.MethodName) ({ cls := "PathsKeptModel", name := "count", desc := "(I)I" } : Jvm.MethodName)) ∈ lw_tbl := ts_9 (ai_nth_mem 46 rfl)
set_option maxRecDepth 100000 in
theorem tw_1967 : (Cond.code ({ cls := "PathsKeptModel", name := "count", desc := "(I)I" } : Jvm.MethodName) prog_13_method_128_code (4 : Nat) (Option.some Jvm.ClassFile.FieldType.int)) ∈ lw_tbl := ts_9 (ai_nth_mem 47 rfl)
set_option maxRecDepth 100000 in
theorem tw_1986 : (Cond.fieldLink "java/lang/String" (9 : Nat) "java/lang/String" "value" "[B") ∈ lw_tbl := ts_9 (ai_nth_mem 66 rfl)
set_option maxRecDepth 100000 in
theorem tw_1987 : (Cond.fieldLink "java/lang/String" (15 : Nat) "java/lang/String" "coder" "B") ∈ lw_tbl := ts_9 (ai_nth_mem 67 rfl)
set_option maxRecDepth 100000 in
theorem tw_objectInit : Cond.code objectInit ⟨#[0xb1]⟩ 1 none ∈ lw_tbl := ai_in_at 156 (by decide +kernel)
set_option maxRecDepth 100000 in
theorem tp_X0_isSnowing : Cond.selects yX0_isSnowing.cls yX0_isSnowing yX0_isSnowing ∈ lw_tbl := ai_in_at 28 (by decide +kernel)
set_option maxRecDepth 100000 in
theorem tp_X0_goWalks : Cond.selects yX0_goWalks.cls yX0_goWalks yX0_goWalks ∈ lw_tbl := ai_in_at 29 (by decide +kernel)
set_option maxRecDepth 100000 in
theorem tp_X0_growOlder : Cond.selects yX0_growOlder.cls yX0_growOlder yX0_growOlder ∈ lw_tbl := ai_in_at 30 (by decide +kernel)
set_option maxRecDepth 100000 in
theorem tp_X1_winnerFrom : Cond.selects yX1_winnerFrom.cls yX1_winnerFrom yX1_winnerFrom ∈ lw_tbl := ai_in_at 37 (by decide +kernel)
set_option maxRecDepth 100000 in
theorem tp_X1_winnerBehind : Cond.selects yX1_winnerBehind.cls yX1_winnerBehind yX1_winnerBehind ∈ lw_tbl := ai_in_at 38 (by decide +kernel)
set_option maxRecDepth 100000 in
theorem tp_X3_readLine : Cond.selects yX3_readLine.cls yX3_readLine yX3_readLine ∈ lw_tbl := ai_in_at 5 (by decide +kernel)
set_option maxRecDepth 100000 in
theorem tp_X3_expect : Cond.selects yX3_expect.cls yX3_expect yX3_expect ∈ lw_tbl := ai_in_at 17 (by decide +kernel)
set_option maxRecDepth 100000 in
theorem tp_X3_fail : Cond.selects yX3_fail.cls yX3_fail yX3_fail ∈ lw_tbl := ai_in_at 7 (by decide +kernel)
set_option maxRecDepth 100000 in
theorem tp_X3_beginRow : Cond.selects yX3_beginRow.cls yX3_beginRow yX3_beginRow ∈ lw_tbl := ai_in_at 6 (by decide +kernel)
set_option maxRecDepth 100000 in
theorem tp_X3_readNewName : Cond.selects yX3_readNewName.cls yX3_readNewName yX3_readNewName ∈ lw_tbl := ai_in_at 9 (by decide +kernel)
set_option maxRecDepth 100000 in
theorem tp_X3_readPath : Cond.selects yX3_readPath.cls yX3_readPath yX3_readPath ∈ lw_tbl := ai_in_at 10 (by decide +kernel)
set_option maxRecDepth 100000 in
theorem tp_X3_readWalker : Cond.selects yX3_readWalker.cls yX3_readWalker yX3_readWalker ∈ lw_tbl := ai_in_at 13 (by decide +kernel)
set_option maxRecDepth 100000 in
theorem tp_X3_readWalk : Cond.selects yX3_readWalk.cls yX3_readWalk yX3_readWalk ∈ lw_tbl := ai_in_at 14 (by decide +kernel)
set_option maxRecDepth 100000 in
theorem tp_X3_readBull : Cond.selects yX3_readBull.cls yX3_readBull yX3_readBull ∈ lw_tbl := ai_in_at 15 (by decide +kernel)
set_option maxRecDepth 100000 in
theorem tp_X3_beginOnce : Cond.selects yX3_beginOnce.cls yX3_beginOnce yX3_beginOnce ∈ lw_tbl := ai_in_at 16 (by decide +kernel)
set_option maxRecDepth 100000 in
theorem tp_X3_readNumber : Cond.selects yX3_readNumber.cls yX3_readNumber yX3_readNumber ∈ lw_tbl := ai_in_at 12 (by decide +kernel)
set_option maxRecDepth 100000 in
theorem tp_X3_readLaw : Cond.selects yX3_readLaw.cls yX3_readLaw yX3_readLaw ∈ lw_tbl := ai_in_at 18 (by decide +kernel)
set_option maxRecDepth 100000 in
theorem tp_X3_readTold : Cond.selects yX3_readTold.cls yX3_readTold yX3_readTold ∈ lw_tbl := ai_in_at 11 (by decide +kernel)
set_option maxRecDepth 100000 in
theorem tp_X3_readLevel : Cond.selects yX3_readLevel.cls yX3_readLevel yX3_readLevel ∈ lw_tbl := ai_in_at 19 (by decide +kernel)
set_option maxRecDepth 100000 in
theorem tp_X3_readPart : Cond.selects yX3_readPart.cls yX3_readPart yX3_readPart ∈ lw_tbl := ai_in_at 20 (by decide +kernel)
set_option maxRecDepth 100000 in
theorem tp_X3_readNots : Cond.selects yX3_readNots.cls yX3_readNots yX3_readNots ∈ lw_tbl := ai_in_at 22 (by decide +kernel)
set_option maxRecDepth 100000 in
theorem tp_X3_takeKnot : Cond.selects yX3_takeKnot.cls yX3_takeKnot yX3_takeKnot ∈ lw_tbl := ai_in_at 21 (by decide +kernel)
set_option maxRecDepth 100000 in
theorem tp_X7_readWord : Cond.selects yX7_readWord.cls yX7_readWord yX7_readWord ∈ lw_tbl := ai_in_at 1 (by decide +kernel)
set_option maxRecDepth 100000 in
theorem tp_X7_readDigits : Cond.selects yX7_readDigits.cls yX7_readDigits yX7_readDigits ∈ lw_tbl := ai_in_at 2 (by decide +kernel)
set_option maxRecDepth 100000 in
theorem tp_X7_readComparison : Cond.selects yX7_readComparison.cls yX7_readComparison yX7_readComparison ∈ lw_tbl := ai_in_at 3 (by decide +kernel)
set_option maxRecDepth 100000 in
theorem tp_X7_readSign : Cond.selects yX7_readSign.cls yX7_readSign yX7_readSign ∈ lw_tbl := ai_in_at 4 (by decide +kernel)
set_option maxRecDepth 100000 in
theorem tp_X9_shorten : Cond.selects yX9_shorten.cls yX9_shorten yX9_shorten ∈ lw_tbl := ai_in_at 33 (by decide +kernel)
set_option maxRecDepth 100000 in
theorem tp_X9_goOn : Cond.selects yX9_goOn.cls yX9_goOn yX9_goOn ∈ lw_tbl := ai_in_at 34 (by decide +kernel)
set_option maxRecDepth 100000 in
theorem tp_X9_lessen : Cond.selects yX9_lessen.cls yX9_lessen yX9_lessen ∈ lw_tbl := ai_in_at 35 (by decide +kernel)
set_option maxRecDepth 100000 in
theorem tp_X9_matchFrom : Cond.selects yX9_matchFrom.cls yX9_matchFrom yX9_matchFrom ∈ lw_tbl := ai_in_at 36 (by decide +kernel)
set_option maxRecDepth 100000 in
theorem tp_X10_putFour : Cond.selects yX10_putFour.cls yX10_putFour yX10_putFour ∈ lw_tbl := ai_in_at 0 (by decide +kernel)
set_option maxRecDepth 100000 in
theorem tp_X10_isPath : Cond.selects yX10_isPath.cls yX10_isPath yX10_isPath ∈ lw_tbl := ai_in_at 25 (by decide +kernel)
set_option maxRecDepth 100000 in
theorem tp_X10_isWalker : Cond.selects yX10_isWalker.cls yX10_isWalker yX10_isWalker ∈ lw_tbl := ai_in_at 23 (by decide +kernel)
set_option maxRecDepth 100000 in
theorem tp_X10_pathsHeCanGo : Cond.selects yX10_pathsHeCanGo.cls yX10_pathsHeCanGo yX10_pathsHeCanGo ∈ lw_tbl := ai_in_at 24 (by decide +kernel)
set_option maxRecDepth 100000 in
theorem tp_X10_remember : Cond.selects yX10_remember.cls yX10_remember yX10_remember ∈ lw_tbl := ai_in_at 26 (by decide +kernel)
set_option maxRecDepth 100000 in
theorem tp_X10_isPlace : Cond.selects yX10_isPlace.cls yX10_isPlace yX10_isPlace ∈ lw_tbl := ai_in_at 27 (by decide +kernel)
set_option maxRecDepth 100000 in
theorem tp_X10_isAsked : Cond.selects yX10_isAsked.cls yX10_isAsked yX10_isAsked ∈ lw_tbl := ai_in_at 31 (by decide +kernel)
set_option maxRecDepth 100000 in
theorem tp_X10_beginAhead : Cond.selects yX10_beginAhead.cls yX10_beginAhead yX10_beginAhead ∈ lw_tbl := ai_in_at 32 (by decide +kernel)
set_option maxRecDepth 100000 in
theorem tp_X10_isPair : Cond.selects yX10_isPair.cls yX10_isPair yX10_isPair ∈ lw_tbl := ai_in_at 39 (by decide +kernel)
set_option maxRecDepth 100000 in
theorem tp_X10_isRest : Cond.selects yX10_isRest.cls yX10_isRest yX10_isRest ∈ lw_tbl := ai_in_at 40 (by decide +kernel)
set_option maxRecDepth 100000 in
theorem tp_X10_placeIfLegs : Cond.selects yX10_placeIfLegs.cls yX10_placeIfLegs yX10_placeIfLegs ∈ lw_tbl := ai_in_at 41 (by decide +kernel)
set_option maxRecDepth 100000 in
theorem tp_X11_plain : Cond.selects yX11_plain.cls yX11_plain yX11_plain ∈ lw_tbl := ai_in_at 42 (by decide +kernel)
set_option maxRecDepth 100000 in
theorem tp_X11_keepText : Cond.selects yX11_keepText.cls yX11_keepText yX11_keepText ∈ lw_tbl := ai_in_at 43 (by decide +kernel)
set_option maxRecDepth 100000 in
theorem tp_X11_isSmall : Cond.selects yX11_isSmall.cls yX11_isSmall yX11_isSmall ∈ lw_tbl := ai_in_at 48 (by decide +kernel)
set_option maxRecDepth 100000 in
theorem tp_X11_wordAt : Cond.selects yX11_wordAt.cls yX11_wordAt yX11_wordAt ∈ lw_tbl := ai_in_at 49 (by decide +kernel)
set_option maxRecDepth 100000 in
theorem tp_X11_packed : Cond.selects yX11_packed.cls yX11_packed yX11_packed ∈ lw_tbl := ai_in_at 50 (by decide +kernel)
set_option maxRecDepth 100000 in
theorem tp_X11_isDigit : Cond.selects yX11_isDigit.cls yX11_isDigit yX11_isDigit ∈ lw_tbl := ai_in_at 51 (by decide +kernel)
set_option maxRecDepth 100000 in
theorem tp_X11_signToken : Cond.selects yX11_signToken.cls yX11_signToken yX11_signToken ∈ lw_tbl := ai_in_at 52 (by decide +kernel)
set_option maxRecDepth 100000 in
theorem tp_X11_wrong : Cond.selects yX11_wrong.cls yX11_wrong yX11_wrong ∈ lw_tbl := ai_in_at 54 (by decide +kernel)
set_option maxRecDepth 100000 in
theorem tp_X11_token : Cond.selects yX11_token.cls yX11_token yX11_token ∈ lw_tbl := ai_in_at 47 (by decide +kernel)
set_option maxRecDepth 100000 in
theorem tp_X11_begin : Cond.selects yX11_begin.cls yX11_begin yX11_begin ∈ lw_tbl := ai_in_at 44 (by decide +kernel)
set_option maxRecDepth 100000 in
theorem tp_X11_newName : Cond.selects yX11_newName.cls yX11_newName yX11_newName ∈ lw_tbl := ai_in_at 56 (by decide +kernel)
set_option maxRecDepth 100000 in
theorem tp_X11_thereIn : Cond.selects yX11_thereIn.cls yX11_thereIn yX11_thereIn ∈ lw_tbl := ai_in_at 58 (by decide +kernel)
set_option maxRecDepth 100000 in
theorem tp_X11_number : Cond.selects yX11_number.cls yX11_number yX11_number ∈ lw_tbl := ai_in_at 59 (by decide +kernel)
set_option maxRecDepth 100000 in
theorem tp_X11_placeLine : Cond.selects yX11_placeLine.cls yX11_placeLine yX11_placeLine ∈ lw_tbl := ai_in_at 55 (by decide +kernel)
set_option maxRecDepth 100000 in
theorem tp_X11_pathLine : Cond.selects yX11_pathLine.cls yX11_pathLine yX11_pathLine ∈ lw_tbl := ai_in_at 57 (by decide +kernel)
set_option maxRecDepth 100000 in
theorem tp_X11_walkerLine : Cond.selects yX11_walkerLine.cls yX11_walkerLine yX11_walkerLine ∈ lw_tbl := ai_in_at 60 (by decide +kernel)
set_option maxRecDepth 100000 in
theorem tp_X11_walkLine : Cond.selects yX11_walkLine.cls yX11_walkLine yX11_walkLine ∈ lw_tbl := ai_in_at 61 (by decide +kernel)
set_option maxRecDepth 100000 in
theorem tp_X11_bullLine : Cond.selects yX11_bullLine.cls yX11_bullLine yX11_bullLine ∈ lw_tbl := ai_in_at 62 (by decide +kernel)
set_option maxRecDepth 100000 in
theorem tp_X11_onceLine : Cond.selects yX11_onceLine.cls yX11_onceLine yX11_onceLine ∈ lw_tbl := ai_in_at 63 (by decide +kernel)
set_option maxRecDepth 100000 in
theorem tp_X11_sumRead : Cond.selects yX11_sumRead.cls yX11_sumRead yX11_sumRead ∈ lw_tbl := ai_in_at 64 (by decide +kernel)
set_option maxRecDepth 100000 in
theorem tp_X11_isSign : Cond.selects yX11_isSign.cls yX11_isSign yX11_isSign ∈ lw_tbl := ai_in_at 65 (by decide +kernel)
set_option maxRecDepth 100000 in
theorem tp_X11_lineRead : Cond.selects yX11_lineRead.cls yX11_lineRead yX11_lineRead ∈ lw_tbl := ai_in_at 53 (by decide +kernel)
set_option maxRecDepth 100000 in
theorem tp_X11_dropHeld : Cond.selects yX11_dropHeld.cls yX11_dropHeld yX11_dropHeld ∈ lw_tbl := ai_in_at 74 (by decide +kernel)
set_option maxRecDepth 100000 in
theorem tp_X11_grown : Cond.selects yX11_grown.cls yX11_grown yX11_grown ∈ lw_tbl := ai_in_at 71 (by decide +kernel)
set_option maxRecDepth 100000 in
theorem tp_X11_waitsFor : Cond.selects yX11_waitsFor.cls yX11_waitsFor yX11_waitsFor ∈ lw_tbl := ai_in_at 67 (by decide +kernel)
set_option maxRecDepth 100000 in
theorem tp_X11_isKey : Cond.selects yX11_isKey.cls yX11_isKey yX11_isKey ∈ lw_tbl := ai_in_at 68 (by decide +kernel)
set_option maxRecDepth 100000 in
theorem tp_X11_isCounted : Cond.selects yX11_isCounted.cls yX11_isCounted yX11_isCounted ∈ lw_tbl := ai_in_at 69 (by decide +kernel)
set_option maxRecDepth 100000 in
theorem tp_X11_nameMet : Cond.selects yX11_nameMet.cls yX11_nameMet yX11_nameMet ∈ lw_tbl := ai_in_at 70 (by decide +kernel)
set_option maxRecDepth 100000 in
theorem tp_X11_bind : Cond.selects yX11_bind.cls yX11_bind yX11_bind ∈ lw_tbl := ai_in_at 73 (by decide +kernel)
set_option maxRecDepth 100000 in
theorem tp_X11_leafRead : Cond.selects yX11_leafRead.cls yX11_leafRead yX11_leafRead ∈ lw_tbl := ai_in_at 66 (by decide +kernel)
set_option maxRecDepth 100000 in
theorem tp_X11_signs : Cond.selects yX11_signs.cls yX11_signs yX11_signs ∈ lw_tbl := ai_in_at 72 (by decide +kernel)
set_option maxRecDepth 100000 in
theorem tp_X11_bounded : Cond.selects yX11_bounded.cls yX11_bounded yX11_bounded ∈ lw_tbl := ai_in_at 86 (by decide +kernel)
set_option maxRecDepth 100000 in
theorem tp_X11_times : Cond.selects yX11_times.cls yX11_times yX11_times ∈ lw_tbl := ai_in_at 87 (by decide +kernel)
set_option maxRecDepth 100000 in
theorem tp_X11_atFirst : Cond.selects yX11_atFirst.cls yX11_atFirst yX11_atFirst ∈ lw_tbl := ai_in_at 45 (by decide +kernel)
set_option maxRecDepth 100000 in
theorem tp_X11_plainTried : Cond.selects yX11_plainTried.cls yX11_plainTried yX11_plainTried ∈ lw_tbl := ai_in_at 46 (by decide +kernel)
set_option maxRecDepth 100000 in
theorem tp_X11_layPath : Cond.selects yX11_layPath.cls yX11_layPath yX11_layPath ∈ lw_tbl := ai_in_at 83 (by decide +kernel)
set_option maxRecDepth 100000 in
theorem tp_X11_legsIn : Cond.selects yX11_legsIn.cls yX11_legsIn yX11_legsIn ∈ lw_tbl := ai_in_at 81 (by decide +kernel)
set_option maxRecDepth 100000 in
theorem tp_X11_valueOf : Cond.selects yX11_valueOf.cls yX11_valueOf yX11_valueOf ∈ lw_tbl := ai_in_at 85 (by decide +kernel)
set_option maxRecDepth 100000 in
theorem tp_X11_layBoth : Cond.selects yX11_layBoth.cls yX11_layBoth yX11_layBoth ∈ lw_tbl := ai_in_at 82 (by decide +kernel)
set_option maxRecDepth 100000 in
theorem tp_X11_lawOf : Cond.selects yX11_lawOf.cls yX11_lawOf yX11_lawOf ∈ lw_tbl := ai_in_at 84 (by decide +kernel)
set_option maxRecDepth 100000 in
theorem tp_X11_isAtEnd : Cond.selects yX11_isAtEnd.cls yX11_isAtEnd yX11_isAtEnd ∈ lw_tbl := ai_in_at 80 (by decide +kernel)
set_option maxRecDepth 100000 in
theorem tp_X11_hasBull : Cond.selects yX11_hasBull.cls yX11_hasBull yX11_hasBull ∈ lw_tbl := ai_in_at 77 (by decide +kernel)
set_option maxRecDepth 100000 in
theorem tp_X11_costOf : Cond.selects yX11_costOf.cls yX11_costOf yX11_costOf ∈ lw_tbl := ai_in_at 88 (by decide +kernel)
set_option maxRecDepth 100000 in
theorem tp_X11_number1 : Cond.selects yX11_number1.cls yX11_number1 yX11_number1 ∈ lw_tbl := ai_in_at 95 (by decide +kernel)
set_option maxRecDepth 100000 in
theorem tp_X11_isSnow : Cond.selects yX11_isSnow.cls yX11_isSnow yX11_isSnow ∈ lw_tbl := ai_in_at 94 (by decide +kernel)
set_option maxRecDepth 100000 in
theorem tp_X11_can : Cond.selects yX11_can.cls yX11_can yX11_can ∈ lw_tbl := ai_in_at 79 (by decide +kernel)
set_option maxRecDepth 100000 in
theorem tp_X11_goes : Cond.selects yX11_goes.cls yX11_goes yX11_goes ∈ lw_tbl := ai_in_at 91 (by decide +kernel)
set_option maxRecDepth 100000 in
theorem tp_X11_termOf : Cond.selects yX11_termOf.cls yX11_termOf yX11_termOf ∈ lw_tbl := ai_in_at 96 (by decide +kernel)
set_option maxRecDepth 100000 in
theorem tp_X11_dayGoes : Cond.selects yX11_dayGoes.cls yX11_dayGoes yX11_dayGoes ∈ lw_tbl := ai_in_at 93 (by decide +kernel)
set_option maxRecDepth 100000 in
theorem tp_X11_isPath : Cond.selects yX11_isPath.cls yX11_isPath yX11_isPath ∈ lw_tbl := ai_in_at 75 (by decide +kernel)
set_option maxRecDepth 100000 in
theorem tp_X11_fails : Cond.selects yX11_fails.cls yX11_fails yX11_fails ∈ lw_tbl := ai_in_at 76 (by decide +kernel)
set_option maxRecDepth 100000 in
theorem tp_X11_isWalker : Cond.selects yX11_isWalker.cls yX11_isWalker yX11_isWalker ∈ lw_tbl := ai_in_at 78 (by decide +kernel)
set_option maxRecDepth 100000 in
theorem tp_X11_remember : Cond.selects yX11_remember.cls yX11_remember yX11_remember ∈ lw_tbl := ai_in_at 89 (by decide +kernel)
set_option maxRecDepth 100000 in
theorem tp_X11_isPlace : Cond.selects yX11_isPlace.cls yX11_isPlace yX11_isPlace ∈ lw_tbl := ai_in_at 92 (by decide +kernel)
set_option maxRecDepth 100000 in
theorem tp_X11_layTried : Cond.selects yX11_layTried.cls yX11_layTried yX11_layTried ∈ lw_tbl := ai_in_at 97 (by decide +kernel)
set_option maxRecDepth 100000 in
theorem tp_X11_goMany : Cond.selects yX11_goMany.cls yX11_goMany yX11_goMany ∈ lw_tbl := ai_in_at 98 (by decide +kernel)
set_option maxRecDepth 100000 in
theorem tp_X11_keptMany : Cond.selects yX11_keptMany.cls yX11_keptMany yX11_keptMany ∈ lw_tbl := ai_in_at 99 (by decide +kernel)
set_option maxRecDepth 100000 in
theorem tp_X11_isOpen : Cond.selects yX11_isOpen.cls yX11_isOpen yX11_isOpen ∈ lw_tbl := ai_in_at 101 (by decide +kernel)
set_option maxRecDepth 100000 in
theorem tp_X11_takesMore : Cond.selects yX11_takesMore.cls yX11_takesMore yX11_takesMore ∈ lw_tbl := ai_in_at 102 (by decide +kernel)
set_option maxRecDepth 100000 in
theorem tp_X11_otherEnd : Cond.selects yX11_otherEnd.cls yX11_otherEnd yX11_otherEnd ∈ lw_tbl := ai_in_at 103 (by decide +kernel)
set_option maxRecDepth 100000 in
theorem tp_X11_settle : Cond.selects yX11_settle.cls yX11_settle yX11_settle ∈ lw_tbl := ai_in_at 100 (by decide +kernel)
set_option maxRecDepth 100000 in
theorem tp_X11_layRoots : Cond.selects yX11_layRoots.cls yX11_layRoots yX11_layRoots ∈ lw_tbl := ai_in_at 105 (by decide +kernel)
set_option maxRecDepth 100000 in
theorem tp_X11_pairsOf : Cond.selects yX11_pairsOf.cls yX11_pairsOf yX11_pairsOf ∈ lw_tbl := ai_in_at 104 (by decide +kernel)
set_option maxRecDepth 100000 in
theorem tp_X11_keptAt : Cond.selects yX11_keptAt.cls yX11_keptAt yX11_keptAt ∈ lw_tbl := ai_in_at 106 (by decide +kernel)
set_option maxRecDepth 100000 in
theorem tp_X11_ageBy : Cond.selects yX11_ageBy.cls yX11_ageBy yX11_ageBy ∈ lw_tbl := ai_in_at 107 (by decide +kernel)
set_option maxRecDepth 100000 in
theorem tp_X11_isLed : Cond.selects yX11_isLed.cls yX11_isLed yX11_isLed ∈ lw_tbl := ai_in_at 109 (by decide +kernel)
set_option maxRecDepth 100000 in
theorem tp_X11_winsBy : Cond.selects yX11_winsBy.cls yX11_winsBy yX11_winsBy ∈ lw_tbl := ai_in_at 110 (by decide +kernel)
set_option maxRecDepth 100000 in
theorem tp_X11_layGame : Cond.selects yX11_layGame.cls yX11_layGame yX11_layGame ∈ lw_tbl := ai_in_at 108 (by decide +kernel)
set_option maxRecDepth 100000 in
theorem tp_X11_hasBy : Cond.selects yX11_hasBy.cls yX11_hasBy yX11_hasBy ∈ lw_tbl := ai_in_at 113 (by decide +kernel)
set_option maxRecDepth 100000 in
theorem tp_X11_areTwo : Cond.selects yX11_areTwo.cls yX11_areTwo yX11_areTwo ∈ lw_tbl := ai_in_at 111 (by decide +kernel)
set_option maxRecDepth 100000 in
theorem tp_X11_restAt : Cond.selects yX11_restAt.cls yX11_restAt yX11_restAt ∈ lw_tbl := ai_in_at 112 (by decide +kernel)
set_option maxRecDepth 100000 in
theorem tp_X11_noted : Cond.selects yX11_noted.cls yX11_noted yX11_noted ∈ lw_tbl := ai_in_at 114 (by decide +kernel)
set_option maxRecDepth 100000 in
theorem tp_X11_knownBy : Cond.selects yX11_knownBy.cls yX11_knownBy yX11_knownBy ∈ lw_tbl := ai_in_at 117 (by decide +kernel)
set_option maxRecDepth 100000 in
theorem tp_X11_layLegs : Cond.selects yX11_layLegs.cls yX11_layLegs yX11_layLegs ∈ lw_tbl := ai_in_at 119 (by decide +kernel)
set_option maxRecDepth 100000 in
theorem tp_X11_isSo : Cond.selects yX11_isSo.cls yX11_isSo yX11_isSo ∈ lw_tbl := ai_in_at 120 (by decide +kernel)
set_option maxRecDepth 100000 in
theorem tp_X11_layCounts : Cond.selects yX11_layCounts.cls yX11_layCounts yX11_layCounts ∈ lw_tbl := ai_in_at 116 (by decide +kernel)
set_option maxRecDepth 100000 in
theorem tp_X11_fits : Cond.selects yX11_fits.cls yX11_fits yX11_fits ∈ lw_tbl := ai_in_at 118 (by decide +kernel)
set_option maxRecDepth 100000 in
theorem tp_X11_legsBits : Cond.selects yX11_legsBits.cls yX11_legsBits yX11_legsBits ∈ lw_tbl := ai_in_at 115 (by decide +kernel)
set_option maxRecDepth 100000 in
theorem tp_X11_put : Cond.selects yX11_put.cls yX11_put yX11_put ∈ lw_tbl := ai_in_at 90 (by decide +kernel)
set_option maxRecDepth 100000 in
theorem tp_X11_take : Cond.selects yX11_take.cls yX11_take yX11_take ∈ lw_tbl := ai_in_at 121 (by decide +kernel)
