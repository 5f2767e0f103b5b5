/-! ===== the words that the operations use, by their places in the table ===== -/
set_option maxRecDepth 100000 in
theorem tw_1570 : (Cond.code ({ cls := "PathsKeptModel", name := "onceLine", desc := "(III)Z" } : Jvm.MethodName) prog_13_method_28_code (4 : Nat) (Option.some Jvm.ClassFile.FieldType.boolean)) ∈ lw_tbl := ts_7 (ai_nth_mem 130 rfl)
set_option maxRecDepth 100000 in
theorem tw_1571 : (Cond.methodLink "PathsKeptModel" (313 : Nat) ({ cls := "PathsKeptModel", name := "sumRead", desc := "()Z" } : Jvm.MethodName)) ∈ lw_tbl := ts_7 (ai_nth_mem 131 rfl)
set_option maxRecDepth 100000 in
theorem tw_1573 : (Cond.instanceMethod ({ cls := "PathsKeptModel", name := "sumRead", desc := "()Z" } : Jvm.MethodName)) ∈ lw_tbl := ts_7 (ai_nth_mem 133 rfl)
set_option maxRecDepth 100000 in
theorem tw_1574 : (Cond.code ({ cls := "PathsKeptModel", name := "sumRead", desc := "()Z" } : Jvm.MethodName) prog_13_method_42_code (1 : Nat) (Option.some Jvm.ClassFile.FieldType.boolean)) ∈ lw_tbl := ts_7 (ai_nth_mem 134 rfl)
set_option maxRecDepth 100000 in
theorem tw_1575 : (Cond.methodLink "PathsKeptModel" (230 : Nat) ({ cls := "PathsKeptModel", name := "isSign", desc := "(I)Z" } : Jvm.MethodName)) ∈ lw_tbl := ts_7 (ai_nth_mem 135 rfl)
set_option maxRecDepth 100000 in
theorem tw_1577 : (Cond.instanceMethod ({ cls := "PathsKeptModel", name := "isSign", desc := "(I)Z" } : Jvm.MethodName)) ∈ lw_tbl := ts_7 (ai_nth_mem 137 rfl)
set_option maxRecDepth 100000 in
theorem tw_1578 : (Cond.code ({ cls := "PathsKeptModel", name := "isSign", desc := "(I)Z" } : Jvm.MethodName) prog_13_method_14_code (2 : Nat) (Option.some Jvm.ClassFile.FieldType.boolean)) ∈ lw_tbl := ts_7 (ai_nth_mem 138 rfl)
set_option maxRecDepth 100000 in
theorem tw_1579 : (Cond.methodLink "PathsKeptModel" (363 : Nat) ({ cls := "PathsKeptModel", name := "leafRead", desc := "()Z" } : Jvm.MethodName)) ∈ lw_tbl := ts_7 (ai_nth_mem 139 rfl)
set_option maxRecDepth 100000 in
theorem tw_1581 : (Cond.instanceMethod ({ cls := "PathsKeptModel", name := "leafRead", desc := "()Z" } : Jvm.MethodName)) ∈ lw_tbl := ts_7 (ai_nth_mem 141 rfl)
set_option maxRecDepth 100000 in
theorem tw_1582 : (Cond.code ({ cls := "PathsKeptModel", name := "leafRead", desc := "()Z" } : Jvm.MethodName) prog_13_method_40_code (2 : Nat) (Option.some Jvm.ClassFile.FieldType.boolean)) ∈ lw_tbl := ts_7 (ai_nth_mem 142 rfl)
set_option maxRecDepth 100000 in
theorem tw_1583 : (Cond.methodLink "PathsKeptModel" (340 : Nat) ({ cls := "PathsKeptModel", name := "waitsFor", desc := "(I)V" } : Jvm.MethodName)) ∈ lw_tbl := ts_7 (ai_nth_mem 143 rfl)
set_option maxRecDepth 100000 in
theorem tw_1585 : (Cond.instanceMethod ({ cls := "PathsKeptModel", name := "waitsFor", desc := "(I)V" } : Jvm.MethodName)) ∈ lw_tbl := ts_7 (ai_nth_mem 145 rfl)
set_option maxRecDepth 100000 in
theorem tw_1586 : (Cond.code ({ cls := "PathsKeptModel", name := "waitsFor", desc := "(I)V" } : Jvm.MethodName) prog_13_method_38_code (2 : Nat) (Option.none : Option Jvm.ClassFile.FieldType)) ∈ lw_tbl := ts_7 (ai_nth_mem 146 rfl)
set_option maxRecDepth 100000 in
theorem tw_1587 : (Cond.methodLink "PathsKeptModel" (348 : Nat) ({ cls := "PathsKeptModel", name := "isKey", desc := "(I)Z" } : Jvm.MethodName)) ∈ lw_tbl := ts_7 (ai_nth_mem 147 rfl)
set_option maxRecDepth 100000 in
theorem tw_1589 : (Cond.instanceMethod ({ cls := "PathsKeptModel", name := "isKey", desc := "(I)Z" } : Jvm.MethodName)) ∈ lw_tbl := ts_7 (ai_nth_mem 149 rfl)
set_option maxRecDepth 100000 in
theorem tw_1590 : (Cond.code ({ cls := "PathsKeptModel", name := "isKey", desc := "(I)Z" } : Jvm.MethodName) prog_13_method_13_code (2 : Nat) (Option.some Jvm.ClassFile.FieldType.boolean)) ∈ lw_tbl := ts_7 (ai_nth_mem 150 rfl)
set_option maxRecDepth 100000 in
theorem tw_1591 : (Cond.methodLink "PathsKeptModel" (351 : Nat) ({ cls := "PathsKeptModel", name := "isCounted", desc := "()Z" } : Jvm.MethodName)) ∈ lw_tbl := ts_7 (ai_nth_mem 151 rfl)
set_option maxRecDepth 100000 in
theorem tw_1593 : (Cond.instanceMethod ({ cls := "PathsKeptModel", name := "isCounted", desc := "()Z" } : Jvm.MethodName)) ∈ lw_tbl := ts_7 (ai_nth_mem 153 rfl)
set_option maxRecDepth 100000 in
theorem tw_1594 : (Cond.code ({ cls := "PathsKeptModel", name := "isCounted", desc := "()Z" } : Jvm.MethodName) prog_13_method_37_code (1 : Nat) (Option.some Jvm.ClassFile.FieldType.boolean)) ∈ lw_tbl := ts_7 (ai_nth_mem 154 rfl)
set_option maxRecDepth 100000 in
theorem tw_1595 : (Cond.methodLink "PathsKeptModel" (354 : Nat) ({ cls := "PathsKeptModel", name := "nameMet", desc := "()I" } : Jvm.MethodName)) ∈ lw_tbl := ts_7 (ai_nth_mem 155 rfl)
set_option maxRecDepth 100000 in
theorem tw_1597 : (Cond.instanceMethod ({ cls := "PathsKeptModel", name := "nameMet", desc := "()I" } : Jvm.MethodName)) ∈ lw_tbl := ts_7 (ai_nth_mem 157 rfl)
set_option maxRecDepth 100000 in
theorem tw_1598 : (Cond.code ({ cls := "PathsKeptModel", name := "nameMet", desc := "()I" } : Jvm.MethodName) prog_13_method_39_code (1 : Nat) (Option.some Jvm.ClassFile.FieldType.int)) ∈ lw_tbl := ts_7 (ai_nth_mem 158 rfl)
set_option maxRecDepth 100000 in
theorem tw_1599 : (Cond.methodLink "PathsKeptModel" (333 : Nat) ({ cls := "PathsKeptModel", name := "grown", desc := "(III)V" } : Jvm.MethodName)) ∈ lw_tbl := ts_7 (ai_nth_mem 159 rfl)
set_option maxRecDepth 100000 in
theorem tw_1601 : (Cond.instanceMethod ({ cls := "PathsKeptModel", name := "grown", desc := "(III)V" } : Jvm.MethodName)) ∈ lw_tbl := ts_7 (ai_nth_mem 161 rfl)
set_option maxRecDepth 100000 in
theorem tw_1602 : (Cond.code ({ cls := "PathsKeptModel", name := "grown", desc := "(III)V" } : Jvm.MethodName) prog_13_method_34_code (4 : Nat) (Option.none : Option Jvm.ClassFile.FieldType)) ∈ lw_tbl := ts_7 (ai_nth_mem 162 rfl)
set_option maxRecDepth 100000 in
theorem tw_1603 : (Cond.methodLink "PathsKeptModel" (366 : Nat) ({ cls := "PathsKeptModel", name := "signs", desc := "()Z" } : Jvm.MethodName)) ∈ lw_tbl := ts_7 (ai_nth_mem 163 rfl)
set_option maxRecDepth 100000 in
theorem tw_1605 : (Cond.instanceMethod ({ cls := "PathsKeptModel", name := "signs", desc := "()Z" } : Jvm.MethodName)) ∈ lw_tbl := ts_7 (ai_nth_mem 165 rfl)
set_option maxRecDepth 100000 in
theorem tw_1606 : (Cond.code ({ cls := "PathsKeptModel", name := "signs", desc := "()Z" } : Jvm.MethodName) prog_13_method_41_code (2 : Nat) (Option.some Jvm.ClassFile.FieldType.boolean)) ∈ lw_tbl := ts_7 (ai_nth_mem 166 rfl)
set_option maxRecDepth 100000 in
theorem tw_1607 : (Cond.methodLink "PathsKeptModel" (360 : Nat) ({ cls := "PathsKeptModel", name := "bind", desc := "(I)V" } : Jvm.MethodName)) ∈ lw_tbl := ts_7 (ai_nth_mem 167 rfl)
set_option maxRecDepth 100000 in
theorem tw_1609 : (Cond.instanceMethod ({ cls := "PathsKeptModel", name := "bind", desc := "(I)V" } : Jvm.MethodName)) ∈ lw_tbl := ts_7 (ai_nth_mem 169 rfl)
set_option maxRecDepth 100000 in
theorem tw_1610 : (Cond.code ({ cls := "PathsKeptModel", name := "bind", desc := "(I)V" } : Jvm.MethodName) prog_13_method_36_code (5 : Nat) (Option.none : Option Jvm.ClassFile.FieldType)) ∈ lw_tbl := ts_7 (ai_nth_mem 170 rfl)
set_option maxRecDepth 100000 in
theorem tw_1611 : (Cond.methodLink "PathsKeptModel" (325 : Nat) ({ cls := "PathsKeptModel", name := "rank", desc := "(I)I" } : Jvm.MethodName)) ∈ lw_tbl := ts_7 (ai_nth_mem 171 rfl)
set_option maxRecDepth 100000 in
theorem tw_1612 : (Cond.static ({ cls := "PathsKeptModel", name := "rank", desc := "(I)I" } : Jvm.MethodName)) ∈ lw_tbl := ts_7 (ai_nth_mem 172 rfl)
set_option maxRecDepth 100000 in
theorem tw_1613 : (Cond.code ({ cls := "PathsKeptModel", name := "rank", desc := "(I)I" } : Jvm.MethodName) prog_13_method_33_code (1 : Nat) (Option.some Jvm.ClassFile.FieldType.int)) ∈ lw_tbl := ts_7 (ai_nth_mem 173 rfl)
set_option maxRecDepth 100000 in
theorem tw_1614 : (Cond.methodLink "PathsKeptModel" (329 : Nat) ({ cls := "PathsKeptModel", name := "dropHeld", desc := "()I" } : Jvm.MethodName)) ∈ lw_tbl := ts_7 (ai_nth_mem 174 rfl)
set_option maxRecDepth 100000 in
theorem tw_1616 : (Cond.instanceMethod ({ cls := "PathsKeptModel", name := "dropHeld", desc := "()I" } : Jvm.MethodName)) ∈ lw_tbl := ts_7 (ai_nth_mem 176 rfl)
set_option maxRecDepth 100000 in
theorem tw_1617 : (Cond.code ({ cls := "PathsKeptModel", name := "dropHeld", desc := "()I" } : Jvm.MethodName) prog_13_method_35_code (1 : Nat) (Option.some Jvm.ClassFile.FieldType.int)) ∈ lw_tbl := ts_7 (ai_nth_mem 177 rfl)
set_option maxRecDepth 100000 in
theorem tw_1618 : (Cond.methodLink "PathsKeptLaw" (34 : Nat) ({ cls := "PathsKeptModel", name := "fault", desc := "(I)I" } : Jvm.MethodName)) ∈ lw_tbl := ts_7 (ai_nth_mem 178 rfl)
set_option maxRecDepth 100000 in
theorem tw_1619 : (Cond.instanceMethod ({ cls := "PathsKeptModel", name := "fault", desc := "(I)I" } : Jvm.MethodName)) ∈ lw_tbl := ts_7 (ai_nth_mem 179 rfl)
set_option maxRecDepth 100000 in
theorem tw_1620 : (Cond.selects "PathsKeptModel" ({ cls := "PathsKeptModel", name := "fault", desc := "(I)I" } : Jvm.MethodName) ({ cls := "PathsKeptModel", name := "fault", desc := "(I)I" } : Jvm.MethodName)) ∈ lw_tbl := ts_7 (ai_nth_mem 180 rfl)
set_option maxRecDepth 100000 in
theorem tw_1621 : (Cond.code ({ cls := "PathsKeptModel", name := "fault", desc := "(I)I" } : Jvm.MethodName) prog_13_method_31_code (2 : Nat) (Option.some Jvm.ClassFile.FieldType.int)) ∈ lw_tbl := ts_7 (ai_nth_mem 181 rfl)
set_option maxRecDepth 100000 in
theorem tw_1622 : (Cond.methodLink "PathsKeptLaw" (38 : Nat) ({ cls := "PathsKeptModel", name := "named", desc := "(II)I" } : Jvm.MethodName)) ∈ lw_tbl := ts_7 (ai_nth_mem 182 rfl)
set_option maxRecDepth 100000 in
theorem tw_1623 : (Cond.instanceMethod ({ cls := "PathsKeptModel", name := "named", desc := "(II)I" } : Jvm.MethodName)) ∈ lw_tbl := ts_7 (ai_nth_mem 183 rfl)
set_option maxRecDepth 100000 in
theorem tw_1624 : (Cond.selects "PathsKeptModel" ({ cls := "PathsKeptModel", name := "named", desc := "(II)I" } : Jvm.MethodName) ({ cls := "PathsKeptModel", name := "named", desc := "(II)I" } : Jvm.MethodName)) ∈ lw_tbl := ts_7 (ai_nth_mem 184 rfl)
set_option maxRecDepth 100000 in
theorem tw_1625 : (Cond.code ({ cls := "PathsKeptModel", name := "named", desc := "(II)I" } : Jvm.MethodName) prog_13_method_32_code (3 : Nat) (Option.some Jvm.ClassFile.FieldType.int)) ∈ lw_tbl := ts_7 (ai_nth_mem 185 rfl)
set_option maxRecDepth 100000 in
theorem tw_1626 : (Cond.methodLink "PathsKeptLaw" (44 : Nat) ({ cls := "PathsKeptModel", name := "path", desc := "(II)I" } : Jvm.MethodName)) ∈ lw_tbl := ts_7 (ai_nth_mem 186 rfl)
set_option maxRecDepth 100000 in
theorem tw_1627 : (Cond.instanceMethod ({ cls := "PathsKeptModel", name := "path", desc := "(II)I" } : Jvm.MethodName)) ∈ lw_tbl := ts_7 (ai_nth_mem 187 rfl)
set_option maxRecDepth 100000 in
theorem tw_1628 : (Cond.selects "PathsKeptModel" ({ cls := "PathsKeptModel", name := "path", desc := "(II)I" } : Jvm.MethodName) ({ cls := "PathsKeptModel", name := "path", desc := "(II)I" } : Jvm.MethodName)) ∈ lw_tbl := ts_7 (ai_nth_mem 188 rfl)
set_option maxRecDepth 100000 in
theorem tw_1629 : (Cond.code ({ cls := "PathsKeptModel", name := "path", desc := "(II)I" } : Jvm.MethodName) prog_13_method_70_code (3 : Nat) (Option.some Jvm.ClassFile.FieldType.int)) ∈ lw_tbl := ts_7 (ai_nth_mem 189 rfl)
set_option maxRecDepth 100000 in
theorem tw_1630 : (Cond.methodLink "PathsKeptModel" (488 : Nat) ({ cls := "PathsKeptModel", name := "isPath", desc := "(I)Z" } : Jvm.MethodName)) ∈ lw_tbl := ts_7 (ai_nth_mem 190 rfl)
set_option maxRecDepth 100000 in
theorem tw_1632 : (Cond.instanceMethod ({ cls := "PathsKeptModel", name := "isPath", desc := "(I)Z" } : Jvm.MethodName)) ∈ lw_tbl := ts_7 (ai_nth_mem 192 rfl)
set_option maxRecDepth 100000 in
theorem tw_1633 : (Cond.code ({ cls := "PathsKeptModel", name := "isPath", desc := "(I)Z" } : Jvm.MethodName) prog_13_method_52_code (2 : Nat) (Option.some Jvm.ClassFile.FieldType.boolean)) ∈ lw_tbl := ts_7 (ai_nth_mem 193 rfl)
set_option maxRecDepth 100000 in
theorem tw_1634 : (Cond.methodLink "PathsKeptModel" (491 : Nat) ({ cls := "PathsKeptModel", name := "fails", desc := "(I)I" } : Jvm.MethodName)) ∈ lw_tbl := ts_7 (ai_nth_mem 194 rfl)
set_option maxRecDepth 100000 in
theorem tw_1636 : (Cond.instanceMethod ({ cls := "PathsKeptModel", name := "fails", desc := "(I)I" } : Jvm.MethodName)) ∈ lw_tbl := ts_7 (ai_nth_mem 196 rfl)
set_option maxRecDepth 100000 in
theorem tw_1637 : (Cond.code ({ cls := "PathsKeptModel", name := "fails", desc := "(I)I" } : Jvm.MethodName) prog_13_method_69_code (2 : Nat) (Option.some Jvm.ClassFile.FieldType.int)) ∈ lw_tbl := ts_7 (ai_nth_mem 197 rfl)
set_option maxRecDepth 100000 in
theorem tw_1638 : (Cond.methodLink "PathsKeptModel" (453 : Nat) ({ cls := "PathsKeptModel", name := "hasBull", desc := "(II)Z" } : Jvm.MethodName)) ∈ lw_tbl := ts_7 (ai_nth_mem 198 rfl)
set_option maxRecDepth 100000 in
theorem tw_1640 : (Cond.instanceMethod ({ cls := "PathsKeptModel", name := "hasBull", desc := "(II)Z" } : Jvm.MethodName)) ∈ lw_tbl := ts_7 (ai_nth_mem 200 rfl)
set_option maxRecDepth 100000 in
theorem tw_1641 : (Cond.code ({ cls := "PathsKeptModel", name := "hasBull", desc := "(II)Z" } : Jvm.MethodName) prog_13_method_58_code (4 : Nat) (Option.some Jvm.ClassFile.FieldType.boolean)) ∈ lw_tbl := ts_7 (ai_nth_mem 201 rfl)
set_option maxRecDepth 100000 in
theorem tw_1642 : (Cond.methodLink "PathsKeptLaw" (52 : Nat) ({ cls := "PathsKeptModel", name := "walker", desc := "(II)I" } : Jvm.MethodName)) ∈ lw_tbl := ts_7 (ai_nth_mem 202 rfl)
set_option maxRecDepth 100000 in
theorem tw_1643 : (Cond.instanceMethod ({ cls := "PathsKeptModel", name := "walker", desc := "(II)I" } : Jvm.MethodName)) ∈ lw_tbl := ts_7 (ai_nth_mem 203 rfl)
set_option maxRecDepth 100000 in
theorem tw_1644 : (Cond.selects "PathsKeptModel" ({ cls := "PathsKeptModel", name := "walker", desc := "(II)I" } : Jvm.MethodName) ({ cls := "PathsKeptModel", name := "walker", desc := "(II)I" } : Jvm.MethodName)) ∈ lw_tbl := ts_7 (ai_nth_mem 204 rfl)
set_option maxRecDepth 100000 in
theorem tw_1645 : (Cond.code ({ cls := "PathsKeptModel", name := "walker", desc := "(II)I" } : Jvm.MethodName) prog_13_method_71_code (5 : Nat) (Option.some Jvm.ClassFile.FieldType.int)) ∈ lw_tbl := ts_7 (ai_nth_mem 205 rfl)
set_option maxRecDepth 100000 in
theorem tw_1646 : (Cond.methodLink "PathsKeptModel" (494 : Nat) ({ cls := "PathsKeptModel", name := "isWalker", desc := "(I)Z" } : Jvm.MethodName)) ∈ lw_tbl := ts_7 (ai_nth_mem 206 rfl)
set_option maxRecDepth 100000 in
theorem tw_1648 : (Cond.instanceMethod ({ cls := "PathsKeptModel", name := "isWalker", desc := "(I)Z" } : Jvm.MethodName)) ∈ lw_tbl := ts_7 (ai_nth_mem 208 rfl)
set_option maxRecDepth 100000 in
theorem tw_1649 : (Cond.code ({ cls := "PathsKeptModel", name := "isWalker", desc := "(I)Z" } : Jvm.MethodName) prog_13_method_53_code (2 : Nat) (Option.some Jvm.ClassFile.FieldType.boolean)) ∈ lw_tbl := ts_7 (ai_nth_mem 209 rfl)
set_option maxRecDepth 100000 in
theorem tw_1650 : (Cond.methodLink "PathsKeptModel" (476 : Nat) ({ cls := "PathsKeptModel", name := "can", desc := "(III)Z" } : Jvm.MethodName)) ∈ lw_tbl := ts_7 (ai_nth_mem 210 rfl)
set_option maxRecDepth 100000 in
theorem tw_1652 : (Cond.instanceMethod ({ cls := "PathsKeptModel", name := "can", desc := "(III)Z" } : Jvm.MethodName)) ∈ lw_tbl := ts_7 (ai_nth_mem 212 rfl)
set_option maxRecDepth 100000 in
theorem tw_1653 : (Cond.code ({ cls := "PathsKeptModel", name := "can", desc := "(III)Z" } : Jvm.MethodName) prog_13_method_61_code (7 : Nat) (Option.some Jvm.ClassFile.FieldType.boolean)) ∈ lw_tbl := ts_7 (ai_nth_mem 213 rfl)
set_option maxRecDepth 100000 in
theorem tw_1654 : (Cond.methodLink "PathsKeptModel" (450 : Nat) ({ cls := "PathsKeptModel", name := "isAtEnd", desc := "(II)Z" } : Jvm.MethodName)) ∈ lw_tbl := ts_7 (ai_nth_mem 214 rfl)
set_option maxRecDepth 100000 in
theorem tw_1656 : (Cond.instanceMethod ({ cls := "PathsKeptModel", name := "isAtEnd", desc := "(II)Z" } : Jvm.MethodName)) ∈ lw_tbl := ts_7 (ai_nth_mem 216 rfl)
set_option maxRecDepth 100000 in
theorem tw_1657 : (Cond.code ({ cls := "PathsKeptModel", name := "isAtEnd", desc := "(II)Z" } : Jvm.MethodName) prog_13_method_59_code (3 : Nat) (Option.some Jvm.ClassFile.FieldType.boolean)) ∈ lw_tbl := ts_7 (ai_nth_mem 217 rfl)
set_option maxRecDepth 100000 in
theorem tw_1658 : (Cond.methodLink "PathsKeptModel" (435 : Nat) ({ cls := "PathsKeptModel", name := "legsIn", desc := "(I)I" } : Jvm.MethodName)) ∈ lw_tbl := ts_7 (ai_nth_mem 218 rfl)
set_option maxRecDepth 100000 in
theorem tw_1660 : (Cond.instanceMethod ({ cls := "PathsKeptModel", name := "legsIn", desc := "(I)I" } : Jvm.MethodName)) ∈ lw_tbl := ts_7 (ai_nth_mem 220 rfl)
set_option maxRecDepth 100000 in
theorem tw_1661 : (Cond.code ({ cls := "PathsKeptModel", name := "legsIn", desc := "(I)I" } : Jvm.MethodName) prog_13_method_54_code (2 : Nat) (Option.some Jvm.ClassFile.FieldType.int)) ∈ lw_tbl := ts_7 (ai_nth_mem 221 rfl)
set_option maxRecDepth 100000 in
theorem tw_1662 : (Cond.methodLink "PathsKeptModel" (442 : Nat) ({ cls := "PathsKeptModel", name := "layBoth", desc := "(III)V" } : Jvm.MethodName)) ∈ lw_tbl := ts_7 (ai_nth_mem 222 rfl)
set_option maxRecDepth 100000 in
theorem tw_1664 : (Cond.instanceMethod ({ cls := "PathsKeptModel", name := "layBoth", desc := "(III)V" } : Jvm.MethodName)) ∈ lw_tbl := ts_7 (ai_nth_mem 224 rfl)
set_option maxRecDepth 100000 in
theorem tw_1665 : (Cond.code ({ cls := "PathsKeptModel", name := "layBoth", desc := "(III)V" } : Jvm.MethodName) prog_13_method_56_code (4 : Nat) (Option.none : Option Jvm.ClassFile.FieldType)) ∈ lw_tbl := ts_7 (ai_nth_mem 225 rfl)
set_option maxRecDepth 100000 in
theorem tw_1666 : (Cond.methodLink "PathsKeptModel" (431 : Nat) ({ cls := "PathsKeptModel", name := "layPath", desc := "(II)V" } : Jvm.MethodName)) ∈ lw_tbl := ts_7 (ai_nth_mem 226 rfl)
set_option maxRecDepth 100000 in
theorem tw_1668 : (Cond.instanceMethod ({ cls := "PathsKeptModel", name := "layPath", desc := "(II)V" } : Jvm.MethodName)) ∈ lw_tbl := ts_7 (ai_nth_mem 228 rfl)
set_option maxRecDepth 100000 in
theorem tw_1669 : (Cond.code ({ cls := "PathsKeptModel", name := "layPath", desc := "(II)V" } : Jvm.MethodName) prog_13_method_55_code (3 : Nat) (Option.none : Option Jvm.ClassFile.FieldType)) ∈ lw_tbl := ts_7 (ai_nth_mem 229 rfl)
set_option maxRecDepth 100000 in
theorem tw_1670 : (Cond.methodLink "PathsKeptModel" (445 : Nat) ({ cls := "PathsKeptModel", name := "lawOf", desc := "(I)J" } : Jvm.MethodName)) ∈ lw_tbl := ts_7 (ai_nth_mem 230 rfl)
set_option maxRecDepth 100000 in
theorem tw_1672 : (Cond.instanceMethod ({ cls := "PathsKeptModel", name := "lawOf", desc := "(I)J" } : Jvm.MethodName)) ∈ lw_tbl := ts_7 (ai_nth_mem 232 rfl)
set_option maxRecDepth 100000 in
theorem tw_1673 : (Cond.code ({ cls := "PathsKeptModel", name := "lawOf", desc := "(I)J" } : Jvm.MethodName) prog_13_method_57_code (3 : Nat) (Option.some Jvm.ClassFile.FieldType.long)) ∈ lw_tbl := ts_7 (ai_nth_mem 233 rfl)
set_option maxRecDepth 100000 in
theorem tw_1674 : (Cond.methodLink "PathsKeptModel" (438 : Nat) ({ cls := "PathsKeptModel", name := "valueOf", desc := "(I)J" } : Jvm.MethodName)) ∈ lw_tbl := ts_7 (ai_nth_mem 234 rfl)
set_option maxRecDepth 100000 in
theorem tw_1676 : (Cond.instanceMethod ({ cls := "PathsKeptModel", name := "valueOf", desc := "(I)J" } : Jvm.MethodName)) ∈ lw_tbl := ts_7 (ai_nth_mem 236 rfl)
set_option maxRecDepth 100000 in
theorem tw_1677 : (Cond.code ({ cls := "PathsKeptModel", name := "valueOf", desc := "(I)J" } : Jvm.MethodName) prog_13_method_46_code (6 : Nat) (Option.some Jvm.ClassFile.FieldType.long)) ∈ lw_tbl := ts_7 (ai_nth_mem 237 rfl)
set_option maxRecDepth 100000 in
theorem tw_1678 : (Cond.methodLink "PathsKeptModel" (376 : Nat) ({ cls := "PathsKeptModel", name := "bounded", desc := "(J)J" } : Jvm.MethodName)) ∈ lw_tbl := ts_7 (ai_nth_mem 238 rfl)
set_option maxRecDepth 100000 in
theorem tw_1680 : (Cond.instanceMethod ({ cls := "PathsKeptModel", name := "bounded", desc := "(J)J" } : Jvm.MethodName)) ∈ lw_tbl := ts_8 (ai_nth_mem 0 rfl)
set_option maxRecDepth 100000 in
theorem tw_1681 : (Cond.code ({ cls := "PathsKeptModel", name := "bounded", desc := "(J)J" } : Jvm.MethodName) prog_13_method_43_code (3 : Nat) (Option.some Jvm.ClassFile.FieldType.long)) ∈ lw_tbl := ts_8 (ai_nth_mem 1 rfl)
set_option maxRecDepth 100000 in
theorem tw_1682 : (Cond.constantLong "PathsKeptModel" (372 : Nat) (1000000000000 : Int64)) ∈ lw_tbl := ts_8 (ai_nth_mem 2 rfl)
set_option maxRecDepth 100000 in
theorem tw_1683 : (Cond.constantLong "PathsKeptModel" (374 : Nat) (-1000000000000 : Int64)) ∈ lw_tbl := ts_8 (ai_nth_mem 3 rfl)
set_option maxRecDepth 100000 in
theorem tw_1684 : (Cond.methodLink "PathsKeptModel" (380 : Nat) ({ cls := "PathsKeptModel", name := "times", desc := "(JJ)J" } : Jvm.MethodName)) ∈ lw_tbl := ts_8 (ai_nth_mem 4 rfl)
set_option maxRecDepth 100000 in
theorem tw_1686 : (Cond.instanceMethod ({ cls := "PathsKeptModel", name := "times", desc := "(JJ)J" } : Jvm.MethodName)) ∈ lw_tbl := ts_8 (ai_nth_mem 6 rfl)
set_option maxRecDepth 100000 in
theorem tw_1687 : (Cond.code ({ cls := "PathsKeptModel", name := "times", desc := "(JJ)J" } : Jvm.MethodName) prog_13_method_45_code (6 : Nat) (Option.some Jvm.ClassFile.FieldType.long)) ∈ lw_tbl := ts_8 (ai_nth_mem 7 rfl)
set_option maxRecDepth 100000 in
theorem tw_1688 : (Cond.methodLink "PathsKeptModel" (384 : Nat) ({ cls := "PathsKeptModel", name := "compares", desc := "(IJJ)Z" } : Jvm.MethodName)) ∈ lw_tbl := ts_8 (ai_nth_mem 8 rfl)
set_option maxRecDepth 100000 in
theorem tw_1689 : (Cond.static ({ cls := "PathsKeptModel", name := "compares", desc := "(IJJ)Z" } : Jvm.MethodName)) ∈ lw_tbl := ts_8 (ai_nth_mem 9 rfl)
set_option maxRecDepth 100000 in
theorem tw_1690 : (Cond.code ({ cls := "PathsKeptModel", name := "compares", desc := "(IJJ)Z" } : Jvm.MethodName) prog_13_method_44_code (5 : Nat) (Option.some Jvm.ClassFile.FieldType.boolean)) ∈ lw_tbl := ts_8 (ai_nth_mem 10 rfl)
set_option maxRecDepth 100000 in
theorem tw_1691 : (Cond.methodLink "PathsKeptModel" (456 : Nat) ({ cls := "PathsKeptModel", name := "costOf", desc := "(III)I" } : Jvm.MethodName)) ∈ lw_tbl := ts_8 (ai_nth_mem 11 rfl)
set_option maxRecDepth 100000 in
theorem tw_1693 : (Cond.instanceMethod ({ cls := "PathsKeptModel", name := "costOf", desc := "(III)I" } : Jvm.MethodName)) ∈ lw_tbl := ts_8 (ai_nth_mem 13 rfl)
set_option maxRecDepth 100000 in
theorem tw_1694 : (Cond.code ({ cls := "PathsKeptModel", name := "costOf", desc := "(III)I" } : Jvm.MethodName) prog_13_method_60_code (6 : Nat) (Option.some Jvm.ClassFile.FieldType.int)) ∈ lw_tbl := ts_8 (ai_nth_mem 14 rfl)
set_option maxRecDepth 100000 in
theorem tw_1695 : (Cond.constantLong "PathsKeptModel" (448 : Nat) (99 : Int64)) ∈ lw_tbl := ts_8 (ai_nth_mem 15 rfl)
set_option maxRecDepth 100000 in
theorem tw_1696 : (Cond.methodLink "PathsKeptLaw" (57 : Nat) ({ cls := "PathsKeptModel", name := "law", desc := "(III)J" } : Jvm.MethodName)) ∈ lw_tbl := ts_8 (ai_nth_mem 16 rfl)
set_option maxRecDepth 100000 in
theorem tw_1697 : (Cond.instanceMethod ({ cls := "PathsKeptModel", name := "law", desc := "(III)J" } : Jvm.MethodName)) ∈ lw_tbl := ts_8 (ai_nth_mem 17 rfl)
set_option maxRecDepth 100000 in
theorem tw_1698 : (Cond.selects "PathsKeptModel" ({ cls := "PathsKeptModel", name := "law", desc := "(III)J" } : Jvm.MethodName) ({ cls := "PathsKeptModel", name := "law", desc := "(III)J" } : Jvm.MethodName)) ∈ lw_tbl := ts_8 (ai_nth_mem 18 rfl)
set_option maxRecDepth 100000 in
theorem tw_1699 : (Cond.code ({ cls := "PathsKeptModel", name := "law", desc := "(III)J" } : Jvm.MethodName) prog_13_method_72_code (6 : Nat) (Option.some Jvm.ClassFile.FieldType.long)) ∈ lw_tbl := ts_8 (ai_nth_mem 19 rfl)
set_option maxRecDepth 100000 in
theorem tw_1700 : (Cond.constantLong "PathsKeptModel" (497 : Nat) (-9223372036854775808 : Int64)) ∈ lw_tbl := ts_8 (ai_nth_mem 20 rfl)
set_option maxRecDepth 100000 in
theorem tw_1701 : (Cond.methodLink "PathsKeptLaw" (61 : Nat) ({ cls := "PathsKeptModel", name := "walk", desc := "(II)I" } : Jvm.MethodName)) ∈ lw_tbl := ts_8 (ai_nth_mem 21 rfl)
set_option maxRecDepth 100000 in
theorem tw_1702 : (Cond.instanceMethod ({ cls := "PathsKeptModel", name := "walk", desc := "(II)I" } : Jvm.MethodName)) ∈ lw_tbl := ts_8 (ai_nth_mem 22 rfl)
set_option maxRecDepth 100000 in
theorem tw_1703 : (Cond.selects "PathsKeptModel" ({ cls := "PathsKeptModel", name := "walk", desc := "(II)I" } : Jvm.MethodName) ({ cls := "PathsKeptModel", name := "walk", desc := "(II)I" } : Jvm.MethodName)) ∈ lw_tbl := ts_8 (ai_nth_mem 23 rfl)
set_option maxRecDepth 100000 in
theorem tw_1704 : (Cond.code ({ cls := "PathsKeptModel", name := "walk", desc := "(II)I" } : Jvm.MethodName) prog_13_method_73_code (3 : Nat) (Option.some Jvm.ClassFile.FieldType.int)) ∈ lw_tbl := ts_8 (ai_nth_mem 24 rfl)
set_option maxRecDepth 100000 in
theorem tw_1705 : (Cond.methodLink "PathsKeptModel" (499 : Nat) ({ cls := "PathsKeptModel", name := "remember", desc := "()V" } : Jvm.MethodName)) ∈ lw_tbl := ts_8 (ai_nth_mem 25 rfl)
set_option maxRecDepth 100000 in
theorem tw_1707 : (Cond.instanceMethod ({ cls := "PathsKeptModel", name := "remember", desc := "()V" } : Jvm.MethodName)) ∈ lw_tbl := ts_8 (ai_nth_mem 27 rfl)
set_option maxRecDepth 100000 in
theorem tw_1708 : (Cond.code ({ cls := "PathsKeptModel", name := "remember", desc := "()V" } : Jvm.MethodName) prog_13_method_124_code (2 : Nat) (Option.none : Option Jvm.ClassFile.FieldType)) ∈ lw_tbl := ts_8 (ai_nth_mem 28 rfl)
set_option maxRecDepth 100000 in
theorem tw_1709 : (Cond.methodLink "PathsKeptModel" (597 : Nat) ({ cls := "PathsKeptModel", name := "put", desc := "([II)V" } : Jvm.MethodName)) ∈ lw_tbl := ts_8 (ai_nth_mem 29 rfl)
set_option maxRecDepth 100000 in
theorem tw_1711 : (Cond.instanceMethod ({ cls := "PathsKeptModel", name := "put", desc := "([II)V" } : Jvm.MethodName)) ∈ lw_tbl := ts_8 (ai_nth_mem 31 rfl)
set_option maxRecDepth 100000 in
theorem tw_1712 : (Cond.code ({ cls := "PathsKeptModel", name := "put", desc := "([II)V" } : Jvm.MethodName) prog_13_method_122_code (4 : Nat) (Option.none : Option Jvm.ClassFile.FieldType)) ∈ lw_tbl := ts_8 (ai_nth_mem 32 rfl)
set_option maxRecDepth 100000 in
theorem tw_1713 : (Cond.methodLink "PathsKeptModel" (479 : Nat) ({ cls := "PathsKeptModel", name := "goes", desc := "(III)V" } : Jvm.MethodName)) ∈ lw_tbl := ts_8 (ai_nth_mem 33 rfl)
set_option maxRecDepth 100000 in
theorem tw_1715 : (Cond.instanceMethod ({ cls := "PathsKeptModel", name := "goes", desc := "(III)V" } : Jvm.MethodName)) ∈ lw_tbl := ts_8 (ai_nth_mem 35 rfl)
set_option maxRecDepth 100000 in
theorem tw_1716 : (Cond.code ({ cls := "PathsKeptModel", name := "goes", desc := "(III)V" } : Jvm.MethodName) prog_13_method_62_code (4 : Nat) (Option.none : Option Jvm.ClassFile.FieldType)) ∈ lw_tbl := ts_8 (ai_nth_mem 36 rfl)
set_option maxRecDepth 100000 in
theorem tw_1717 : (Cond.methodLink "PathsKeptLaw" (66 : Nat) ({ cls := "PathsKeptModel", name := "mow", desc := "(I)Z" } : Jvm.MethodName)) ∈ lw_tbl := ts_8 (ai_nth_mem 37 rfl)
set_option maxRecDepth 100000 in
theorem tw_1718 : (Cond.instanceMethod ({ cls := "PathsKeptModel", name := "mow", desc := "(I)Z" } : Jvm.MethodName)) ∈ lw_tbl := ts_8 (ai_nth_mem 38 rfl)
set_option maxRecDepth 100000 in
theorem tw_1719 : (Cond.selects "PathsKeptModel" ({ cls := "PathsKeptModel", name := "mow", desc := "(I)Z" } : Jvm.MethodName) ({ cls := "PathsKeptModel", name := "mow", desc := "(I)Z" } : Jvm.MethodName)) ∈ lw_tbl := ts_8 (ai_nth_mem 39 rfl)
set_option maxRecDepth 100000 in
theorem tw_1720 : (Cond.code ({ cls := "PathsKeptModel", name := "mow", desc := "(I)Z" } : Jvm.MethodName) prog_13_method_74_code (2 : Nat) (Option.some Jvm.ClassFile.FieldType.boolean)) ∈ lw_tbl := ts_8 (ai_nth_mem 40 rfl)
set_option maxRecDepth 100000 in
theorem tw_1721 : (Cond.methodLink "PathsKeptLaw" (71 : Nat) ({ cls := "PathsKeptModel", name := "carry", desc := "(II)Z" } : Jvm.MethodName)) ∈ lw_tbl := ts_8 (ai_nth_mem 41 rfl)
set_option maxRecDepth 100000 in
theorem tw_1722 : (Cond.instanceMethod ({ cls := "PathsKeptModel", name := "carry", desc := "(II)Z" } : Jvm.MethodName)) ∈ lw_tbl := ts_8 (ai_nth_mem 42 rfl)
set_option maxRecDepth 100000 in
theorem tw_1723 : (Cond.selects "PathsKeptModel" ({ cls := "PathsKeptModel", name := "carry", desc := "(II)Z" } : Jvm.MethodName) ({ cls := "PathsKeptModel", name := "carry", desc := "(II)Z" } : Jvm.MethodName)) ∈ lw_tbl := ts_8 (ai_nth_mem 43 rfl)
set_option maxRecDepth 100000 in
theorem tw_1724 : (Cond.code ({ cls := "PathsKeptModel", name := "carry", desc := "(II)Z" } : Jvm.MethodName) prog_13_method_75_code (3 : Nat) (Option.some Jvm.ClassFile.FieldType.boolean)) ∈ lw_tbl := ts_8 (ai_nth_mem 44 rfl)
set_option maxRecDepth 100000 in
theorem tw_1725 : (Cond.methodLink "PathsKeptModel" (502 : Nat) ({ cls := "PathsKeptModel", name := "isPlace", desc := "(I)Z" } : Jvm.MethodName)) ∈ lw_tbl := ts_8 (ai_nth_mem 45 rfl)
set_option maxRecDepth 100000 in
theorem tw_1727 : (Cond.instanceMethod ({ cls := "PathsKeptModel", name := "isPlace", desc := "(I)Z" } : Jvm.MethodName)) ∈ lw_tbl := ts_8 (ai_nth_mem 47 rfl)
set_option maxRecDepth 100000 in
theorem tw_1728 : (Cond.code ({ cls := "PathsKeptModel", name := "isPlace", desc := "(I)Z" } : Jvm.MethodName) prog_13_method_51_code (2 : Nat) (Option.some Jvm.ClassFile.FieldType.boolean)) ∈ lw_tbl := ts_8 (ai_nth_mem 48 rfl)
set_option maxRecDepth 100000 in
theorem tw_1729 : (Cond.methodLink "PathsKeptLaw" (75 : Nat) ({ cls := "PathsKeptModel", name := "go", desc := "(I)I" } : Jvm.MethodName)) ∈ lw_tbl := ts_8 (ai_nth_mem 49 rfl)
set_option maxRecDepth 100000 in
theorem tw_1730 : (Cond.instanceMethod ({ cls := "PathsKeptModel", name := "go", desc := "(I)I" } : Jvm.MethodName)) ∈ lw_tbl := ts_8 (ai_nth_mem 50 rfl)
set_option maxRecDepth 100000 in
theorem tw_1731 : (Cond.selects "PathsKeptModel" ({ cls := "PathsKeptModel", name := "go", desc := "(I)I" } : Jvm.MethodName) ({ cls := "PathsKeptModel", name := "go", desc := "(I)I" } : Jvm.MethodName)) ∈ lw_tbl := ts_8 (ai_nth_mem 51 rfl)
set_option maxRecDepth 100000 in
theorem tw_1732 : (Cond.code ({ cls := "PathsKeptModel", name := "go", desc := "(I)I" } : Jvm.MethodName) prog_13_method_76_code (3 : Nat) (Option.some Jvm.ClassFile.FieldType.int)) ∈ lw_tbl := ts_8 (ai_nth_mem 52 rfl)
set_option maxRecDepth 100000 in
theorem tw_1733 : (Cond.methodLink "PathsKeptModel" (485 : Nat) ({ cls := "PathsKeptModel", name := "dayGoes", desc := "(I)V" } : Jvm.MethodName)) ∈ lw_tbl := ts_8 (ai_nth_mem 53 rfl)
set_option maxRecDepth 100000 in
theorem tw_1735 : (Cond.instanceMethod ({ cls := "PathsKeptModel", name := "dayGoes", desc := "(I)V" } : Jvm.MethodName)) ∈ lw_tbl := ts_8 (ai_nth_mem 55 rfl)
set_option maxRecDepth 100000 in
theorem tw_1736 : (Cond.code ({ cls := "PathsKeptModel", name := "dayGoes", desc := "(I)V" } : Jvm.MethodName) prog_13_method_66_code (4 : Nat) (Option.none : Option Jvm.ClassFile.FieldType)) ∈ lw_tbl := ts_8 (ai_nth_mem 56 rfl)
set_option maxRecDepth 100000 in
theorem tw_1737 : (Cond.methodLink "PathsKeptModel" (473 : Nat) ({ cls := "PathsKeptModel", name := "isSnow", desc := "()Z" } : Jvm.MethodName)) ∈ lw_tbl := ts_8 (ai_nth_mem 57 rfl)
set_option maxRecDepth 100000 in
theorem tw_1739 : (Cond.instanceMethod ({ cls := "PathsKeptModel", name := "isSnow", desc := "()Z" } : Jvm.MethodName)) ∈ lw_tbl := ts_8 (ai_nth_mem 59 rfl)
set_option maxRecDepth 100000 in
theorem tw_1740 : (Cond.code ({ cls := "PathsKeptModel", name := "isSnow", desc := "()Z" } : Jvm.MethodName) prog_13_method_64_code (1 : Nat) (Option.some Jvm.ClassFile.FieldType.boolean)) ∈ lw_tbl := ts_8 (ai_nth_mem 60 rfl)
set_option maxRecDepth 100000 in
theorem tw_1741 : (Cond.methodLink "PathsKeptModel" (468 : Nat) ({ cls := "PathsKeptModel", name := "number1", desc := "(I)I" } : Jvm.MethodName)) ∈ lw_tbl := ts_8 (ai_nth_mem 61 rfl)
set_option maxRecDepth 100000 in
theorem tw_1743 : (Cond.instanceMethod ({ cls := "PathsKeptModel", name := "number1", desc := "(I)I" } : Jvm.MethodName)) ∈ lw_tbl := ts_8 (ai_nth_mem 63 rfl)
set_option maxRecDepth 100000 in
theorem tw_1744 : (Cond.code ({ cls := "PathsKeptModel", name := "number1", desc := "(I)I" } : Jvm.MethodName) prog_13_method_63_code (2 : Nat) (Option.some Jvm.ClassFile.FieldType.int)) ∈ lw_tbl := ts_8 (ai_nth_mem 64 rfl)
set_option maxRecDepth 100000 in
theorem tw_1745 : (Cond.constantLong "PathsKeptModel" (460 : Nat) (1103515245 : Int64)) ∈ lw_tbl := ts_8 (ai_nth_mem 65 rfl)
set_option maxRecDepth 100000 in
theorem tw_1746 : (Cond.constantLong "PathsKeptModel" (462 : Nat) (12345 : Int64)) ∈ lw_tbl := ts_8 (ai_nth_mem 66 rfl)
set_option maxRecDepth 100000 in
theorem tw_1747 : (Cond.constantLong "PathsKeptModel" (464 : Nat) (2147483647 : Int64)) ∈ lw_tbl := ts_8 (ai_nth_mem 67 rfl)
set_option maxRecDepth 100000 in
theorem tw_1748 : (Cond.constantLong "PathsKeptModel" (466 : Nat) (65536 : Int64)) ∈ lw_tbl := ts_8 (ai_nth_mem 68 rfl)
set_option maxRecDepth 100000 in
theorem tw_1749 : (Cond.methodLink "PathsKeptModel" (482 : Nat) ({ cls := "PathsKeptModel", name := "termOf", desc := "(II)I" } : Jvm.MethodName)) ∈ lw_tbl := ts_8 (ai_nth_mem 69 rfl)
set_option maxRecDepth 100000 in
theorem tw_1751 : (Cond.instanceMethod ({ cls := "PathsKeptModel", name := "termOf", desc := "(II)I" } : Jvm.MethodName)) ∈ lw_tbl := ts_8 (ai_nth_mem 71 rfl)
set_option maxRecDepth 100000 in
theorem tw_1752 : (Cond.code ({ cls := "PathsKeptModel", name := "termOf", desc := "(II)I" } : Jvm.MethodName) prog_13_method_65_code (5 : Nat) (Option.some Jvm.ClassFile.FieldType.int)) ∈ lw_tbl := ts_8 (ai_nth_mem 72 rfl)
set_option maxRecDepth 100000 in
theorem tw_1753 : (Cond.constantLong "PathsKeptModel" (471 : Nat) (9999 : Int64)) ∈ lw_tbl := ts_8 (ai_nth_mem 73 rfl)
set_option maxRecDepth 100000 in
theorem tw_1754 : (Cond.methodLink "PathsKeptLaw" (80 : Nat) ({ cls := "PathsKeptModel", name := "ahead", desc := "(III)I" } : Jvm.MethodName)) ∈ lw_tbl := ts_8 (ai_nth_mem 74 rfl)
set_option maxRecDepth 100000 in
theorem tw_1755 : (Cond.instanceMethod ({ cls := "PathsKeptModel", name := "ahead", desc := "(III)I" } : Jvm.MethodName)) ∈ lw_tbl := ts_8 (ai_nth_mem 75 rfl)
set_option maxRecDepth 100000 in
theorem tw_1756 : (Cond.selects "PathsKeptModel" ({ cls := "PathsKeptModel", name := "ahead", desc := "(III)I" } : Jvm.MethodName) ({ cls := "PathsKeptModel", name := "ahead", desc := "(III)I" } : Jvm.MethodName)) ∈ lw_tbl := ts_8 (ai_nth_mem 76 rfl)
set_option maxRecDepth 100000 in
theorem tw_1757 : (Cond.code ({ cls := "PathsKeptModel", name := "ahead", desc := "(III)I" } : Jvm.MethodName) prog_13_method_77_code (4 : Nat) (Option.some Jvm.ClassFile.FieldType.int)) ∈ lw_tbl := ts_8 (ai_nth_mem 77 rfl)
set_option maxRecDepth 100000 in
theorem tw_1758 : (Cond.methodLink "PathsKeptModel" (505 : Nat) ({ cls := "PathsKeptModel", name := "layTried", desc := "()V" } : Jvm.MethodName)) ∈ lw_tbl := ts_8 (ai_nth_mem 78 rfl)
set_option maxRecDepth 100000 in
theorem tw_1760 : (Cond.instanceMethod ({ cls := "PathsKeptModel", name := "layTried", desc := "()V" } : Jvm.MethodName)) ∈ lw_tbl := ts_8 (ai_nth_mem 80 rfl)
set_option maxRecDepth 100000 in
theorem tw_1761 : (Cond.code ({ cls := "PathsKeptModel", name := "layTried", desc := "()V" } : Jvm.MethodName) prog_13_method_50_code (2 : Nat) (Option.none : Option Jvm.ClassFile.FieldType)) ∈ lw_tbl := ts_8 (ai_nth_mem 81 rfl)
set_option maxRecDepth 100000 in
theorem tw_1762 : (Cond.methodLink "PathsKeptModel" (508 : Nat) ({ cls := "PathsKeptModel", name := "goMany", desc := "(I)V" } : Jvm.MethodName)) ∈ lw_tbl := ts_8 (ai_nth_mem 82 rfl)
set_option maxRecDepth 100000 in
theorem tw_1764 : (Cond.instanceMethod ({ cls := "PathsKeptModel", name := "goMany", desc := "(I)V" } : Jvm.MethodName)) ∈ lw_tbl := ts_8 (ai_nth_mem 84 rfl)
set_option maxRecDepth 100000 in
theorem tw_1765 : (Cond.code ({ cls := "PathsKeptModel", name := "goMany", desc := "(I)V" } : Jvm.MethodName) prog_13_method_67_code (3 : Nat) (Option.none : Option Jvm.ClassFile.FieldType)) ∈ lw_tbl := ts_8 (ai_nth_mem 85 rfl)
set_option maxRecDepth 100000 in
theorem tw_1766 : (Cond.methodLink "PathsKeptModel" (511 : Nat) ({ cls := "PathsKeptModel", name := "keptMany", desc := "(I)I" } : Jvm.MethodName)) ∈ lw_tbl := ts_8 (ai_nth_mem 86 rfl)
set_option maxRecDepth 100000 in
theorem tw_1768 : (Cond.instanceMethod ({ cls := "PathsKeptModel", name := "keptMany", desc := "(I)I" } : Jvm.MethodName)) ∈ lw_tbl := ts_8 (ai_nth_mem 88 rfl)
set_option maxRecDepth 100000 in
theorem tw_1769 : (Cond.code ({ cls := "PathsKeptModel", name := "keptMany", desc := "(I)I" } : Jvm.MethodName) prog_13_method_68_code (4 : Nat) (Option.some Jvm.ClassFile.FieldType.int)) ∈ lw_tbl := ts_8 (ai_nth_mem 89 rfl)
set_option maxRecDepth 100000 in
theorem tw_1770 : (Cond.methodLink "PathsKeptLaw" (84 : Nat) ({ cls := "PathsKeptModel", name := "lapse", desc := "(I)I" } : Jvm.MethodName)) ∈ lw_tbl := ts_8 (ai_nth_mem 90 rfl)
set_option maxRecDepth 100000 in
theorem tw_1771 : (Cond.instanceMethod ({ cls := "PathsKeptModel", name := "lapse", desc := "(I)I" } : Jvm.MethodName)) ∈ lw_tbl := ts_8 (ai_nth_mem 91 rfl)
set_option maxRecDepth 100000 in
theorem tw_1772 : (Cond.selects "PathsKeptModel" ({ cls := "PathsKeptModel", name := "lapse", desc := "(I)I" } : Jvm.MethodName) ({ cls := "PathsKeptModel", name := "lapse", desc := "(I)I" } : Jvm.MethodName)) ∈ lw_tbl := ts_8 (ai_nth_mem 92 rfl)
set_option maxRecDepth 100000 in
theorem tw_1773 : (Cond.code ({ cls := "PathsKeptModel", name := "lapse", desc := "(I)I" } : Jvm.MethodName) prog_13_method_78_code (3 : Nat) (Option.some Jvm.ClassFile.FieldType.int)) ∈ lw_tbl := ts_8 (ai_nth_mem 93 rfl)
set_option maxRecDepth 100000 in
theorem tw_1774 : (Cond.methodLink "PathsKeptLaw" (88 : Nat) ({ cls := "PathsKeptModel", name := "reach", desc := "(I)I" } : Jvm.MethodName)) ∈ lw_tbl := ts_8 (ai_nth_mem 94 rfl)
set_option maxRecDepth 100000 in
theorem tw_1775 : (Cond.instanceMethod ({ cls := "PathsKeptModel", name := "reach", desc := "(I)I" } : Jvm.MethodName)) ∈ lw_tbl := ts_8 (ai_nth_mem 95 rfl)
set_option maxRecDepth 100000 in
theorem tw_1776 : (Cond.selects "PathsKeptModel" ({ cls := "PathsKeptModel", name := "reach", desc := "(I)I" } : Jvm.MethodName) ({ cls := "PathsKeptModel", name := "reach", desc := "(I)I" } : Jvm.MethodName)) ∈ lw_tbl := ts_8 (ai_nth_mem 96 rfl)
set_option maxRecDepth 100000 in
theorem tw_1777 : (Cond.code ({ cls := "PathsKeptModel", name := "reach", desc := "(I)I" } : Jvm.MethodName) prog_13_method_83_code (4 : Nat) (Option.some Jvm.ClassFile.FieldType.int)) ∈ lw_tbl := ts_8 (ai_nth_mem 97 rfl)
set_option maxRecDepth 100000 in
theorem tw_1778 : (Cond.methodLink "PathsKeptModel" (523 : Nat) ({ cls := "PathsKeptModel", name := "settle", desc := "(III)V" } : Jvm.MethodName)) ∈ lw_tbl := ts_8 (ai_nth_mem 98 rfl)
set_option maxRecDepth 100000 in
theorem tw_1780 : (Cond.instanceMethod ({ cls := "PathsKeptModel", name := "settle", desc := "(III)V" } : Jvm.MethodName)) ∈ lw_tbl := ts_8 (ai_nth_mem 100 rfl)
set_option maxRecDepth 100000 in
theorem tw_1781 : (Cond.code ({ cls := "PathsKeptModel", name := "settle", desc := "(III)V" } : Jvm.MethodName) prog_13_method_82_code (8 : Nat) (Option.none : Option Jvm.ClassFile.FieldType)) ∈ lw_tbl := ts_8 (ai_nth_mem 101 rfl)
set_option maxRecDepth 100000 in
theorem tw_1782 : (Cond.methodLink "PathsKeptModel" (514 : Nat) ({ cls := "PathsKeptModel", name := "isOpen", desc := "(II)Z" } : Jvm.MethodName)) ∈ lw_tbl := ts_8 (ai_nth_mem 102 rfl)
set_option maxRecDepth 100000 in
theorem tw_1784 : (Cond.instanceMethod ({ cls := "PathsKeptModel", name := "isOpen", desc := "(II)Z" } : Jvm.MethodName)) ∈ lw_tbl := ts_8 (ai_nth_mem 104 rfl)
set_option maxRecDepth 100000 in
theorem tw_1785 : (Cond.code ({ cls := "PathsKeptModel", name := "isOpen", desc := "(II)Z" } : Jvm.MethodName) prog_13_method_79_code (3 : Nat) (Option.some Jvm.ClassFile.FieldType.boolean)) ∈ lw_tbl := ts_8 (ai_nth_mem 105 rfl)
set_option maxRecDepth 100000 in
theorem tw_1786 : (Cond.methodLink "PathsKeptModel" (517 : Nat) ({ cls := "PathsKeptModel", name := "takesMore", desc := "(III)I" } : Jvm.MethodName)) ∈ lw_tbl := ts_8 (ai_nth_mem 106 rfl)
set_option maxRecDepth 100000 in
theorem tw_1788 : (Cond.instanceMethod ({ cls := "PathsKeptModel", name := "takesMore", desc := "(III)I" } : Jvm.MethodName)) ∈ lw_tbl := ts_8 (ai_nth_mem 108 rfl)
set_option maxRecDepth 100000 in
theorem tw_1789 : (Cond.code ({ cls := "PathsKeptModel", name := "takesMore", desc := "(III)I" } : Jvm.MethodName) prog_13_method_81_code (4 : Nat) (Option.some Jvm.ClassFile.FieldType.int)) ∈ lw_tbl := ts_8 (ai_nth_mem 109 rfl)
set_option maxRecDepth 100000 in
theorem tw_1790 : (Cond.methodLink "PathsKeptModel" (520 : Nat) ({ cls := "PathsKeptModel", name := "otherEnd", desc := "(II)I" } : Jvm.MethodName)) ∈ lw_tbl := ts_8 (ai_nth_mem 110 rfl)
set_option maxRecDepth 100000 in
theorem tw_1792 : (Cond.instanceMethod ({ cls := "PathsKeptModel", name := "otherEnd", desc := "(II)I" } : Jvm.MethodName)) ∈ lw_tbl := ts_8 (ai_nth_mem 112 rfl)
set_option maxRecDepth 100000 in
theorem tw_1793 : (Cond.code ({ cls := "PathsKeptModel", name := "otherEnd", desc := "(II)I" } : Jvm.MethodName) prog_13_method_80_code (3 : Nat) (Option.some Jvm.ClassFile.FieldType.int)) ∈ lw_tbl := ts_8 (ai_nth_mem 113 rfl)
set_option maxRecDepth 100000 in
theorem tw_1794 : (Cond.methodLink "PathsKeptLaw" (92 : Nat) ({ cls := "PathsKeptModel", name := "way", desc := "(II)I" } : Jvm.MethodName)) ∈ lw_tbl := ts_8 (ai_nth_mem 114 rfl)
set_option maxRecDepth 100000 in
theorem tw_1795 : (Cond.instanceMethod ({ cls := "PathsKeptModel", name := "way", desc := "(II)I" } : Jvm.MethodName)) ∈ lw_tbl := ts_8 (ai_nth_mem 115 rfl)
set_option maxRecDepth 100000 in
theorem tw_1796 : (Cond.selects "PathsKeptModel" ({ cls := "PathsKeptModel", name := "way", desc := "(II)I" } : Jvm.MethodName) ({ cls := "PathsKeptModel", name := "way", desc := "(II)I" } : Jvm.MethodName)) ∈ lw_tbl := ts_8 (ai_nth_mem 116 rfl)
set_option maxRecDepth 100000 in
theorem tw_1797 : (Cond.code ({ cls := "PathsKeptModel", name := "way", desc := "(II)I" } : Jvm.MethodName) prog_13_method_84_code (3 : Nat) (Option.some Jvm.ClassFile.FieldType.int)) ∈ lw_tbl := ts_8 (ai_nth_mem 117 rfl)
set_option maxRecDepth 100000 in
theorem tw_1798 : (Cond.methodLink "PathsKeptLaw" (96 : Nat) ({ cls := "PathsKeptModel", name := "round", desc := "(III)I" } : Jvm.MethodName)) ∈ lw_tbl := ts_8 (ai_nth_mem 118 rfl)
set_option maxRecDepth 100000 in
theorem tw_1799 : (Cond.instanceMethod ({ cls := "PathsKeptModel", name := "round", desc := "(III)I" } : Jvm.MethodName)) ∈ lw_tbl := ts_8 (ai_nth_mem 119 rfl)
set_option maxRecDepth 100000 in
theorem tw_1800 : (Cond.selects "PathsKeptModel" ({ cls := "PathsKeptModel", name := "round", desc := "(III)I" } : Jvm.MethodName) ({ cls := "PathsKeptModel", name := "round", desc := "(III)I" } : Jvm.MethodName)) ∈ lw_tbl := ts_8 (ai_nth_mem 120 rfl)
set_option maxRecDepth 100000 in
theorem tw_1801 : (Cond.code ({ cls := "PathsKeptModel", name := "round", desc := "(III)I" } : Jvm.MethodName) prog_13_method_85_code (7 : Nat) (Option.some Jvm.ClassFile.FieldType.int)) ∈ lw_tbl := ts_8 (ai_nth_mem 121 rfl)
set_option maxRecDepth 100000 in
theorem tw_1802 : (Cond.methodLink "PathsKeptLaw" (100 : Nat) ({ cls := "PathsKeptModel", name := "needed", desc := "(I)I" } : Jvm.MethodName)) ∈ lw_tbl := ts_8 (ai_nth_mem 122 rfl)
set_option maxRecDepth 100000 in
theorem tw_1803 : (Cond.instanceMethod ({ cls := "PathsKeptModel", name := "needed", desc := "(I)I" } : Jvm.MethodName)) ∈ lw_tbl := ts_8 (ai_nth_mem 123 rfl)
set_option maxRecDepth 100000 in
theorem tw_1804 : (Cond.selects "PathsKeptModel" ({ cls := "PathsKeptModel", name := "needed", desc := "(I)I" } : Jvm.MethodName) ({ cls := "PathsKeptModel", name := "needed", desc := "(I)I" } : Jvm.MethodName)) ∈ lw_tbl := ts_8 (ai_nth_mem 124 rfl)
set_option maxRecDepth 100000 in
theorem tw_1805 : (Cond.code ({ cls := "PathsKeptModel", name := "needed", desc := "(I)I" } : Jvm.MethodName) prog_13_method_88_code (2 : Nat) (Option.some Jvm.ClassFile.FieldType.int)) ∈ lw_tbl := ts_8 (ai_nth_mem 125 rfl)
set_option maxRecDepth 100000 in
theorem tw_1806 : (Cond.methodLink "PathsKeptModel" (529 : Nat) ({ cls := "PathsKeptModel", name := "pairsOf", desc := "(I)I" } : Jvm.MethodName)) ∈ lw_tbl := ts_8 (ai_nth_mem 126 rfl)
set_option maxRecDepth 100000 in
theorem tw_1808 : (Cond.instanceMethod ({ cls := "PathsKeptModel", name := "pairsOf", desc := "(I)I" } : Jvm.MethodName)) ∈ lw_tbl := ts_8 (ai_nth_mem 128 rfl)
set_option maxRecDepth 100000 in
theorem tw_1809 : (Cond.code ({ cls := "PathsKeptModel", name := "pairsOf", desc := "(I)I" } : Jvm.MethodName) prog_13_method_87_code (5 : Nat) (Option.some Jvm.ClassFile.FieldType.int)) ∈ lw_tbl := ts_8 (ai_nth_mem 129 rfl)
set_option maxRecDepth 100000 in
theorem tw_1810 : (Cond.methodLink "PathsKeptModel" (526 : Nat) ({ cls := "PathsKeptModel", name := "layRoots", desc := "(I)V" } : Jvm.MethodName)) ∈ lw_tbl := ts_8 (ai_nth_mem 130 rfl)
set_option maxRecDepth 100000 in
theorem tw_1812 : (Cond.instanceMethod ({ cls := "PathsKeptModel", name := "layRoots", desc := "(I)V" } : Jvm.MethodName)) ∈ lw_tbl := ts_8 (ai_nth_mem 132 rfl)
set_option maxRecDepth 100000 in
theorem tw_1813 : (Cond.code ({ cls := "PathsKeptModel", name := "layRoots", desc := "(I)V" } : Jvm.MethodName) prog_13_method_86_code (6 : Nat) (Option.none : Option Jvm.ClassFile.FieldType)) ∈ lw_tbl := ts_8 (ai_nth_mem 133 rfl)
set_option maxRecDepth 100000 in
theorem tw_1814 : (Cond.methodLink "PathsKeptLaw" (104 : Nat) ({ cls := "PathsKeptModel", name := "blind", desc := "()I" } : Jvm.MethodName)) ∈ lw_tbl := ts_8 (ai_nth_mem 134 rfl)
set_option maxRecDepth 100000 in
theorem tw_1815 : (Cond.instanceMethod ({ cls := "PathsKeptModel", name := "blind", desc := "()I" } : Jvm.MethodName)) ∈ lw_tbl := ts_8 (ai_nth_mem 135 rfl)
set_option maxRecDepth 100000 in
theorem tw_1816 : (Cond.selects "PathsKeptModel" ({ cls := "PathsKeptModel", name := "blind", desc := "()I" } : Jvm.MethodName) ({ cls := "PathsKeptModel", name := "blind", desc := "()I" } : Jvm.MethodName)) ∈ lw_tbl := ts_8 (ai_nth_mem 136 rfl)
set_option maxRecDepth 100000 in
theorem tw_1817 : (Cond.code ({ cls := "PathsKeptModel", name := "blind", desc := "()I" } : Jvm.MethodName) prog_13_method_90_code (3 : Nat) (Option.some Jvm.ClassFile.FieldType.int)) ∈ lw_tbl := ts_8 (ai_nth_mem 137 rfl)
set_option maxRecDepth 100000 in
theorem tw_1818 : (Cond.methodLink "PathsKeptModel" (532 : Nat) ({ cls := "PathsKeptModel", name := "keptAt", desc := "(I)I" } : Jvm.MethodName)) ∈ lw_tbl := ts_8 (ai_nth_mem 138 rfl)
set_option maxRecDepth 100000 in
theorem tw_1820 : (Cond.instanceMethod ({ cls := "PathsKeptModel", name := "keptAt", desc := "(I)I" } : Jvm.MethodName)) ∈ lw_tbl := ts_8 (ai_nth_mem 140 rfl)
set_option maxRecDepth 100000 in
theorem tw_1821 : (Cond.code ({ cls := "PathsKeptModel", name := "keptAt", desc := "(I)I" } : Jvm.MethodName) prog_13_method_89_code (4 : Nat) (Option.some Jvm.ClassFile.FieldType.int)) ∈ lw_tbl := ts_8 (ai_nth_mem 141 rfl)
set_option maxRecDepth 100000 in
theorem tw_1822 : (Cond.methodLink "PathsKeptLaw" (108 : Nat) ({ cls := "PathsKeptModel", name := "watch", desc := "()I" } : Jvm.MethodName)) ∈ lw_tbl := ts_8 (ai_nth_mem 142 rfl)
set_option maxRecDepth 100000 in
theorem tw_1823 : (Cond.instanceMethod ({ cls := "PathsKeptModel", name := "watch", desc := "()I" } : Jvm.MethodName)) ∈ lw_tbl := ts_8 (ai_nth_mem 143 rfl)
set_option maxRecDepth 100000 in
theorem tw_1824 : (Cond.selects "PathsKeptModel" ({ cls := "PathsKeptModel", name := "watch", desc := "()I" } : Jvm.MethodName) ({ cls := "PathsKeptModel", name := "watch", desc := "()I" } : Jvm.MethodName)) ∈ lw_tbl := ts_8 (ai_nth_mem 144 rfl)
set_option maxRecDepth 100000 in
theorem tw_1825 : (Cond.code ({ cls := "PathsKeptModel", name := "watch", desc := "()I" } : Jvm.MethodName) prog_13_method_92_code (5 : Nat) (Option.some Jvm.ClassFile.FieldType.int)) ∈ lw_tbl := ts_8 (ai_nth_mem 145 rfl)
set_option maxRecDepth 100000 in
theorem tw_1826 : (Cond.methodLink "PathsKeptModel" (535 : Nat) ({ cls := "PathsKeptModel", name := "manyOf", desc := "(I)I" } : Jvm.MethodName)) ∈ lw_tbl := ts_8 (ai_nth_mem 146 rfl)
set_option maxRecDepth 100000 in
theorem tw_1827 : (Cond.static ({ cls := "PathsKeptModel", name := "manyOf", desc := "(I)I" } : Jvm.MethodName)) ∈ lw_tbl := ts_8 (ai_nth_mem 147 rfl)
set_option maxRecDepth 100000 in
theorem tw_1828 : (Cond.code ({ cls := "PathsKeptModel", name := "manyOf", desc := "(I)I" } : Jvm.MethodName) prog_13_method_91_code (3 : Nat) (Option.some Jvm.ClassFile.FieldType.int)) ∈ lw_tbl := ts_8 (ai_nth_mem 148 rfl)
set_option maxRecDepth 100000 in
theorem tw_1829 : (Cond.methodLink "PathsKeptModel" (538 : Nat) ({ cls := "PathsKeptModel", name := "isOf", desc := "(II)Z" } : Jvm.MethodName)) ∈ lw_tbl := ts_8 (ai_nth_mem 149 rfl)
set_option maxRecDepth 100000 in
theorem tw_1830 : (Cond.static ({ cls := "PathsKeptModel", name := "isOf", desc := "(II)Z" } : Jvm.MethodName)) ∈ lw_tbl := ts_8 (ai_nth_mem 150 rfl)
set_option maxRecDepth 100000 in
theorem tw_1831 : (Cond.code ({ cls := "PathsKeptModel", name := "isOf", desc := "(II)Z" } : Jvm.MethodName) prog_13_method_5_code (2 : Nat) (Option.some Jvm.ClassFile.FieldType.boolean)) ∈ lw_tbl := ts_8 (ai_nth_mem 151 rfl)
set_option maxRecDepth 100000 in
theorem tw_1832 : (Cond.methodLink "PathsKeptLaw" (112 : Nat) ({ cls := "PathsKeptModel", name := "match", desc := "(I)I" } : Jvm.MethodName)) ∈ lw_tbl := ts_8 (ai_nth_mem 152 rfl)
set_option maxRecDepth 100000 in
theorem tw_1833 : (Cond.instanceMethod ({ cls := "PathsKeptModel", name := "match", desc := "(I)I" } : Jvm.MethodName)) ∈ lw_tbl := ts_8 (ai_nth_mem 153 rfl)
set_option maxRecDepth 100000 in
theorem tw_1834 : (Cond.selects "PathsKeptModel" ({ cls := "PathsKeptModel", name := "match", desc := "(I)I" } : Jvm.MethodName) ({ cls := "PathsKeptModel", name := "match", desc := "(I)I" } : Jvm.MethodName)) ∈ lw_tbl := ts_8 (ai_nth_mem 154 rfl)
set_option maxRecDepth 100000 in
theorem tw_1835 : (Cond.code ({ cls := "PathsKeptModel", name := "match", desc := "(I)I" } : Jvm.MethodName) prog_13_method_94_code (7 : Nat) (Option.some Jvm.ClassFile.FieldType.int)) ∈ lw_tbl := ts_8 (ai_nth_mem 155 rfl)
set_option maxRecDepth 100000 in
theorem tw_1836 : (Cond.methodLink "PathsKeptModel" (541 : Nat) ({ cls := "PathsKeptModel", name := "ageBy", desc := "(I)I" } : Jvm.MethodName)) ∈ lw_tbl := ts_8 (ai_nth_mem 156 rfl)
set_option maxRecDepth 100000 in
theorem tw_1838 : (Cond.instanceMethod ({ cls := "PathsKeptModel", name := "ageBy", desc := "(I)I" } : Jvm.MethodName)) ∈ lw_tbl := ts_8 (ai_nth_mem 158 rfl)
set_option maxRecDepth 100000 in
theorem tw_1839 : (Cond.code ({ cls := "PathsKeptModel", name := "ageBy", desc := "(I)I" } : Jvm.MethodName) prog_13_method_93_code (7 : Nat) (Option.some Jvm.ClassFile.FieldType.int)) ∈ lw_tbl := ts_8 (ai_nth_mem 159 rfl)
set_option maxRecDepth 100000 in
theorem tw_1840 : (Cond.methodLink "PathsKeptLaw" (117 : Nat) ({ cls := "PathsKeptModel", name := "game", desc := "(IIII)I" } : Jvm.MethodName)) ∈ lw_tbl := ts_8 (ai_nth_mem 160 rfl)
set_option maxRecDepth 100000 in
theorem tw_1841 : (Cond.instanceMethod ({ cls := "PathsKeptModel", name := "game", desc := "(IIII)I" } : Jvm.MethodName)) ∈ lw_tbl := ts_8 (ai_nth_mem 161 rfl)
set_option maxRecDepth 100000 in
theorem tw_1842 : (Cond.selects "PathsKeptModel" ({ cls := "PathsKeptModel", name := "game", desc := "(IIII)I" } : Jvm.MethodName) ({ cls := "PathsKeptModel", name := "game", desc := "(IIII)I" } : Jvm.MethodName)) ∈ lw_tbl := ts_8 (ai_nth_mem 162 rfl)
set_option maxRecDepth 100000 in
theorem tw_1843 : (Cond.code ({ cls := "PathsKeptModel", name := "game", desc := "(IIII)I" } : Jvm.MethodName) prog_13_method_100_code (6 : Nat) (Option.some Jvm.ClassFile.FieldType.int)) ∈ lw_tbl := ts_8 (ai_nth_mem 163 rfl)
set_option maxRecDepth 100000 in
theorem tw_1844 : (Cond.methodLink "PathsKeptModel" (559 : Nat) ({ cls := "PathsKeptModel", name := "layGame", desc := "(III)V" } : Jvm.MethodName)) ∈ lw_tbl := ts_8 (ai_nth_mem 164 rfl)
set_option maxRecDepth 100000 in
theorem tw_1846 : (Cond.instanceMethod ({ cls := "PathsKeptModel", name := "layGame", desc := "(III)V" } : Jvm.MethodName)) ∈ lw_tbl := ts_8 (ai_nth_mem 166 rfl)
set_option maxRecDepth 100000 in
theorem tw_1847 : (Cond.code ({ cls := "PathsKeptModel", name := "layGame", desc := "(III)V" } : Jvm.MethodName) prog_13_method_99_code (7 : Nat) (Option.none : Option Jvm.ClassFile.FieldType)) ∈ lw_tbl := ts_8 (ai_nth_mem 167 rfl)
set_option maxRecDepth 100000 in
theorem tw_1848 : (Cond.methodLink "PathsKeptModel" (550 : Nat) ({ cls := "PathsKeptModel", name := "power", desc := "(I)I" } : Jvm.MethodName)) ∈ lw_tbl := ts_8 (ai_nth_mem 168 rfl)
set_option maxRecDepth 100000 in
theorem tw_1849 : (Cond.static ({ cls := "PathsKeptModel", name := "power", desc := "(I)I" } : Jvm.MethodName)) ∈ lw_tbl := ts_8 (ai_nth_mem 169 rfl)
set_option maxRecDepth 100000 in
theorem tw_1850 : (Cond.code ({ cls := "PathsKeptModel", name := "power", desc := "(I)I" } : Jvm.MethodName) prog_13_method_96_code (3 : Nat) (Option.some Jvm.ClassFile.FieldType.int)) ∈ lw_tbl := ts_8 (ai_nth_mem 170 rfl)
set_option maxRecDepth 100000 in
theorem tw_1851 : (Cond.methodLink "PathsKeptModel" (547 : Nat) ({ cls := "PathsKeptModel", name := "digit", desc := "(II)I" } : Jvm.MethodName)) ∈ lw_tbl := ts_8 (ai_nth_mem 171 rfl)
set_option maxRecDepth 100000 in
theorem tw_1852 : (Cond.static ({ cls := "PathsKeptModel", name := "digit", desc := "(II)I" } : Jvm.MethodName)) ∈ lw_tbl := ts_8 (ai_nth_mem 172 rfl)
set_option maxRecDepth 100000 in
theorem tw_1853 : (Cond.code ({ cls := "PathsKeptModel", name := "digit", desc := "(II)I" } : Jvm.MethodName) prog_13_method_95_code (4 : Nat) (Option.some Jvm.ClassFile.FieldType.int)) ∈ lw_tbl := ts_8 (ai_nth_mem 173 rfl)
set_option maxRecDepth 100000 in
theorem tw_1854 : (Cond.methodLink "PathsKeptModel" (553 : Nat) ({ cls := "PathsKeptModel", name := "isLed", desc := "(III)Z" } : Jvm.MethodName)) ∈ lw_tbl := ts_8 (ai_nth_mem 174 rfl)
set_option maxRecDepth 100000 in
theorem tw_1856 : (Cond.instanceMethod ({ cls := "PathsKeptModel", name := "isLed", desc := "(III)Z" } : Jvm.MethodName)) ∈ lw_tbl := ts_8 (ai_nth_mem 176 rfl)
set_option maxRecDepth 100000 in
theorem tw_1857 : (Cond.code ({ cls := "PathsKeptModel", name := "isLed", desc := "(III)Z" } : Jvm.MethodName) prog_13_method_97_code (8 : Nat) (Option.some Jvm.ClassFile.FieldType.boolean)) ∈ lw_tbl := ts_8 (ai_nth_mem 177 rfl)
set_option maxRecDepth 100000 in
theorem tw_1858 : (Cond.methodLink "PathsKeptModel" (556 : Nat) ({ cls := "PathsKeptModel", name := "winsBy", desc := "(II)I" } : Jvm.MethodName)) ∈ lw_tbl := ts_8 (ai_nth_mem 178 rfl)
set_option maxRecDepth 100000 in
theorem tw_1860 : (Cond.instanceMethod ({ cls := "PathsKeptModel", name := "winsBy", desc := "(II)I" } : Jvm.MethodName)) ∈ lw_tbl := ts_8 (ai_nth_mem 180 rfl)
set_option maxRecDepth 100000 in
theorem tw_1861 : (Cond.code ({ cls := "PathsKeptModel", name := "winsBy", desc := "(II)I" } : Jvm.MethodName) prog_13_method_98_code (4 : Nat) (Option.some Jvm.ClassFile.FieldType.int)) ∈ lw_tbl := ts_8 (ai_nth_mem 181 rfl)
set_option maxRecDepth 100000 in
theorem tw_1862 : (Cond.methodLink "PathsKeptLaw" (121 : Nat) ({ cls := "PathsKeptModel", name := "rests", desc := "(II)I" } : Jvm.MethodName)) ∈ lw_tbl := ts_8 (ai_nth_mem 182 rfl)
set_option maxRecDepth 100000 in
theorem tw_1863 : (Cond.instanceMethod ({ cls := "PathsKeptModel", name := "rests", desc := "(II)I" } : Jvm.MethodName)) ∈ lw_tbl := ts_8 (ai_nth_mem 183 rfl)
set_option maxRecDepth 100000 in
theorem tw_1864 : (Cond.selects "PathsKeptModel" ({ cls := "PathsKeptModel", name := "rests", desc := "(II)I" } : Jvm.MethodName) ({ cls := "PathsKeptModel", name := "rests", desc := "(II)I" } : Jvm.MethodName)) ∈ lw_tbl := ts_8 (ai_nth_mem 184 rfl)
set_option maxRecDepth 100000 in
theorem tw_1865 : (Cond.code ({ cls := "PathsKeptModel", name := "rests", desc := "(II)I" } : Jvm.MethodName) prog_13_method_104_code (3 : Nat) (Option.some Jvm.ClassFile.FieldType.int)) ∈ lw_tbl := ts_8 (ai_nth_mem 185 rfl)
set_option maxRecDepth 100000 in
theorem tw_1866 : (Cond.methodLink "PathsKeptModel" (565 : Nat) ({ cls := "PathsKeptModel", name := "areTwo", desc := "(II)Z" } : Jvm.MethodName)) ∈ lw_tbl := ts_8 (ai_nth_mem 186 rfl)
