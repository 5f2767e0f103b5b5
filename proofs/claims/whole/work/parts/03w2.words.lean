/-! ===== the words that the operations use, by their places in the table ===== -/
set_option maxRecDepth 100000 in
theorem tw_1607 : (Cond.code ({ cls := "PathsKeptModel", name := "nameMet", desc := "()I" } : Jvm.MethodName) prog_13_method_39_code (1 : Nat) (Option.some Jvm.ClassFile.FieldType.int)) ∈ lw_tbl := ai_in_at 1730 (by decide +kernel)
set_option maxRecDepth 100000 in
theorem tw_1604 : (Cond.methodLink "PathsKeptModel" (354 : Nat) ({ cls := "PathsKeptModel", name := "nameMet", desc := "()I" } : Jvm.MethodName)) ∈ lw_tbl := ai_in_at 1727 (by decide +kernel)
set_option maxRecDepth 100000 in
theorem tw_1606 : (Cond.instanceMethod ({ cls := "PathsKeptModel", name := "nameMet", desc := "()I" } : Jvm.MethodName)) ∈ lw_tbl := ai_in_at 1729 (by decide +kernel)
set_option maxRecDepth 100000 in
theorem tw_1259 : (Cond.fieldLink "PathsKeptModel" (357 : Nat) "PathsKeptModel" "wants" "Z") ∈ lw_tbl := ai_in_at 1382 (by decide +kernel)
set_option maxRecDepth 100000 in
theorem tw_1619 : (Cond.code ({ cls := "PathsKeptModel", name := "bind", desc := "(I)V" } : Jvm.MethodName) prog_13_method_36_code (5 : Nat) (Option.none : Option Jvm.ClassFile.FieldType)) ∈ lw_tbl := ai_in_at 1742 (by decide +kernel)
set_option maxRecDepth 100000 in
theorem tw_1616 : (Cond.methodLink "PathsKeptModel" (360 : Nat) ({ cls := "PathsKeptModel", name := "bind", desc := "(I)V" } : Jvm.MethodName)) ∈ lw_tbl := ai_in_at 1739 (by decide +kernel)
set_option maxRecDepth 100000 in
theorem tw_1618 : (Cond.instanceMethod ({ cls := "PathsKeptModel", name := "bind", desc := "(I)V" } : Jvm.MethodName)) ∈ lw_tbl := ai_in_at 1741 (by decide +kernel)
set_option maxRecDepth 100000 in
theorem tw_1591 : (Cond.code ({ cls := "PathsKeptModel", name := "leafRead", desc := "()Z" } : Jvm.MethodName) prog_13_method_40_code (2 : Nat) (Option.some Jvm.ClassFile.FieldType.boolean)) ∈ lw_tbl := ai_in_at 1714 (by decide +kernel)
set_option maxRecDepth 100000 in
theorem tw_1588 : (Cond.methodLink "PathsKeptModel" (363 : Nat) ({ cls := "PathsKeptModel", name := "leafRead", desc := "()Z" } : Jvm.MethodName)) ∈ lw_tbl := ai_in_at 1711 (by decide +kernel)
set_option maxRecDepth 100000 in
theorem tw_1590 : (Cond.instanceMethod ({ cls := "PathsKeptModel", name := "leafRead", desc := "()Z" } : Jvm.MethodName)) ∈ lw_tbl := ai_in_at 1713 (by decide +kernel)
set_option maxRecDepth 100000 in
theorem tw_1615 : (Cond.code ({ cls := "PathsKeptModel", name := "signs", desc := "()Z" } : Jvm.MethodName) prog_13_method_41_code (2 : Nat) (Option.some Jvm.ClassFile.FieldType.boolean)) ∈ lw_tbl := ai_in_at 1738 (by decide +kernel)
set_option maxRecDepth 100000 in
theorem tw_1612 : (Cond.methodLink "PathsKeptModel" (366 : Nat) ({ cls := "PathsKeptModel", name := "signs", desc := "()Z" } : Jvm.MethodName)) ∈ lw_tbl := ai_in_at 1735 (by decide +kernel)
set_option maxRecDepth 100000 in
theorem tw_1614 : (Cond.instanceMethod ({ cls := "PathsKeptModel", name := "signs", desc := "()Z" } : Jvm.MethodName)) ∈ lw_tbl := ai_in_at 1737 (by decide +kernel)
set_option maxRecDepth 100000 in
theorem tw_1263 : (Cond.fieldLink "PathsKeptModel" (369 : Nat) "PathsKeptModel" "isError" "Z") ∈ lw_tbl := ai_in_at 1386 (by decide +kernel)
set_option maxRecDepth 100000 in
theorem tw_1691 : (Cond.constantLong "PathsKeptModel" (372 : Nat) (1000000000000 : Int64)) ∈ lw_tbl := ai_in_at 1814 (by decide +kernel)
set_option maxRecDepth 100000 in
theorem tw_1692 : (Cond.constantLong "PathsKeptModel" (374 : Nat) (-1000000000000 : Int64)) ∈ lw_tbl := ai_in_at 1815 (by decide +kernel)
set_option maxRecDepth 100000 in
theorem tw_1690 : (Cond.code ({ cls := "PathsKeptModel", name := "bounded", desc := "(J)J" } : Jvm.MethodName) prog_13_method_43_code (3 : Nat) (Option.some Jvm.ClassFile.FieldType.long)) ∈ lw_tbl := ai_in_at 1813 (by decide +kernel)
set_option maxRecDepth 100000 in
theorem tw_1687 : (Cond.methodLink "PathsKeptModel" (376 : Nat) ({ cls := "PathsKeptModel", name := "bounded", desc := "(J)J" } : Jvm.MethodName)) ∈ lw_tbl := ai_in_at 1810 (by decide +kernel)
set_option maxRecDepth 100000 in
theorem tw_1689 : (Cond.instanceMethod ({ cls := "PathsKeptModel", name := "bounded", desc := "(J)J" } : Jvm.MethodName)) ∈ lw_tbl := ai_in_at 1812 (by decide +kernel)
set_option maxRecDepth 100000 in
theorem tw_1696 : (Cond.code ({ cls := "PathsKeptModel", name := "times", desc := "(JJ)J" } : Jvm.MethodName) prog_13_method_45_code (6 : Nat) (Option.some Jvm.ClassFile.FieldType.long)) ∈ lw_tbl := ai_in_at 1819 (by decide +kernel)
set_option maxRecDepth 100000 in
theorem tw_1693 : (Cond.methodLink "PathsKeptModel" (380 : Nat) ({ cls := "PathsKeptModel", name := "times", desc := "(JJ)J" } : Jvm.MethodName)) ∈ lw_tbl := ai_in_at 1816 (by decide +kernel)
set_option maxRecDepth 100000 in
theorem tw_1695 : (Cond.instanceMethod ({ cls := "PathsKeptModel", name := "times", desc := "(JJ)J" } : Jvm.MethodName)) ∈ lw_tbl := ai_in_at 1818 (by decide +kernel)
set_option maxRecDepth 100000 in
theorem tw_1699 : (Cond.code ({ cls := "PathsKeptModel", name := "compares", desc := "(IJJ)Z" } : Jvm.MethodName) prog_13_method_44_code (5 : Nat) (Option.some Jvm.ClassFile.FieldType.boolean)) ∈ lw_tbl := ai_in_at 1822 (by decide +kernel)
set_option maxRecDepth 100000 in
theorem tw_1697 : (Cond.methodLink "PathsKeptModel" (384 : Nat) ({ cls := "PathsKeptModel", name := "compares", desc := "(IJJ)Z" } : Jvm.MethodName)) ∈ lw_tbl := ai_in_at 1820 (by decide +kernel)
set_option maxRecDepth 100000 in
theorem tw_1698 : (Cond.static ({ cls := "PathsKeptModel", name := "compares", desc := "(IJJ)Z" } : Jvm.MethodName)) ∈ lw_tbl := ai_in_at 1821 (by decide +kernel)
set_option maxRecDepth 100000 in
theorem tw_1199 : (Cond.code ({ cls := "PathsKeptModel", name := "atFirst", desc := "(I)V" } : Jvm.MethodName) prog_13_method_48_code (3 : Nat) (Option.none : Option Jvm.ClassFile.FieldType)) ∈ lw_tbl := ai_in_at 1322 (by decide +kernel)
set_option maxRecDepth 100000 in
theorem tw_1196 : (Cond.methodLink "PathsKeptModel" (388 : Nat) ({ cls := "PathsKeptModel", name := "atFirst", desc := "(I)V" } : Jvm.MethodName)) ∈ lw_tbl := ai_in_at 1319 (by decide +kernel)
set_option maxRecDepth 100000 in
theorem tw_1198 : (Cond.instanceMethod ({ cls := "PathsKeptModel", name := "atFirst", desc := "(I)V" } : Jvm.MethodName)) ∈ lw_tbl := ai_in_at 1321 (by decide +kernel)
set_option maxRecDepth 100000 in
theorem tw_1272 : (Cond.fieldLink "PathsKeptModel" (391 : Nat) "PathsKeptModel" "drawn" "J") ∈ lw_tbl := ai_in_at 1395 (by decide +kernel)
set_option maxRecDepth 100000 in
theorem tw_1203 : (Cond.code ({ cls := "PathsKeptModel", name := "plainTried", desc := "()V" } : Jvm.MethodName) prog_13_method_49_code (1 : Nat) (Option.none : Option Jvm.ClassFile.FieldType)) ∈ lw_tbl := ai_in_at 1326 (by decide +kernel)
set_option maxRecDepth 100000 in
theorem tw_1200 : (Cond.methodLink "PathsKeptModel" (395 : Nat) ({ cls := "PathsKeptModel", name := "plainTried", desc := "()V" } : Jvm.MethodName)) ∈ lw_tbl := ai_in_at 1323 (by decide +kernel)
set_option maxRecDepth 100000 in
theorem tw_1202 : (Cond.instanceMethod ({ cls := "PathsKeptModel", name := "plainTried", desc := "()V" } : Jvm.MethodName)) ∈ lw_tbl := ai_in_at 1325 (by decide +kernel)
set_option maxRecDepth 100000 in
theorem tw_1288 : (Cond.fieldLink "PathsKeptModel" (398 : Nat) "PathsKeptModel" "seenMany" "I") ∈ lw_tbl := ai_in_at 1411 (by decide +kernel)
set_option maxRecDepth 100000 in
theorem tw_1293 : (Cond.fieldLink "PathsKeptModel" (401 : Nat) "PathsKeptModel" "undos" "I") ∈ lw_tbl := ai_in_at 1416 (by decide +kernel)
set_option maxRecDepth 100000 in
theorem tw_1295 : (Cond.fieldLink "PathsKeptModel" (404 : Nat) "PathsKeptModel" "hasImage" "Z") ∈ lw_tbl := ai_in_at 1418 (by decide +kernel)
set_option maxRecDepth 100000 in
theorem tw_1273 : (Cond.fieldLink "PathsKeptModel" (407 : Nat) "PathsKeptModel" "draws" "Z") ∈ lw_tbl := ai_in_at 1396 (by decide +kernel)
set_option maxRecDepth 100000 in
theorem tw_1274 : (Cond.fieldLink "PathsKeptModel" (410 : Nat) "PathsKeptModel" "noSnow" "Z") ∈ lw_tbl := ai_in_at 1397 (by decide +kernel)
set_option maxRecDepth 100000 in
theorem tw_1275 : (Cond.fieldLink "PathsKeptModel" (413 : Nat) "PathsKeptModel" "noBulls" "Z") ∈ lw_tbl := ai_in_at 1398 (by decide +kernel)
set_option maxRecDepth 100000 in
theorem tw_1276 : (Cond.fieldLink "PathsKeptModel" (416 : Nat) "PathsKeptModel" "strong" "Z") ∈ lw_tbl := ai_in_at 1399 (by decide +kernel)
set_option maxRecDepth 100000 in
theorem tw_1277 : (Cond.fieldLink "PathsKeptModel" (419 : Nat) "PathsKeptModel" "slow" "Z") ∈ lw_tbl := ai_in_at 1400 (by decide +kernel)
set_option maxRecDepth 100000 in
theorem tw_1278 : (Cond.fieldLink "PathsKeptModel" (422 : Nat) "PathsKeptModel" "idle" "I") ∈ lw_tbl := ai_in_at 1401 (by decide +kernel)
set_option maxRecDepth 100000 in
theorem tw_1279 : (Cond.fieldLink "PathsKeptModel" (425 : Nat) "PathsKeptModel" "legsOf" "I") ∈ lw_tbl := ai_in_at 1402 (by decide +kernel)
set_option maxRecDepth 100000 in
theorem tw_1280 : (Cond.fieldLink "PathsKeptModel" (428 : Nat) "PathsKeptModel" "legsBy" "I") ∈ lw_tbl := ai_in_at 1403 (by decide +kernel)
set_option maxRecDepth 100000 in
theorem tw_1678 : (Cond.code ({ cls := "PathsKeptModel", name := "layPath", desc := "(II)V" } : Jvm.MethodName) prog_13_method_55_code (3 : Nat) (Option.none : Option Jvm.ClassFile.FieldType)) ∈ lw_tbl := ai_in_at 1801 (by decide +kernel)
set_option maxRecDepth 100000 in
theorem tw_1675 : (Cond.methodLink "PathsKeptModel" (431 : Nat) ({ cls := "PathsKeptModel", name := "layPath", desc := "(II)V" } : Jvm.MethodName)) ∈ lw_tbl := ai_in_at 1798 (by decide +kernel)
set_option maxRecDepth 100000 in
theorem tw_1677 : (Cond.instanceMethod ({ cls := "PathsKeptModel", name := "layPath", desc := "(II)V" } : Jvm.MethodName)) ∈ lw_tbl := ai_in_at 1800 (by decide +kernel)
set_option maxRecDepth 100000 in
theorem tw_1670 : (Cond.code ({ cls := "PathsKeptModel", name := "legsIn", desc := "(I)I" } : Jvm.MethodName) prog_13_method_54_code (2 : Nat) (Option.some Jvm.ClassFile.FieldType.int)) ∈ lw_tbl := ai_in_at 1793 (by decide +kernel)
set_option maxRecDepth 100000 in
theorem tw_1667 : (Cond.methodLink "PathsKeptModel" (435 : Nat) ({ cls := "PathsKeptModel", name := "legsIn", desc := "(I)I" } : Jvm.MethodName)) ∈ lw_tbl := ai_in_at 1790 (by decide +kernel)
set_option maxRecDepth 100000 in
theorem tw_1669 : (Cond.instanceMethod ({ cls := "PathsKeptModel", name := "legsIn", desc := "(I)I" } : Jvm.MethodName)) ∈ lw_tbl := ai_in_at 1792 (by decide +kernel)
set_option maxRecDepth 100000 in
theorem tw_1686 : (Cond.code ({ cls := "PathsKeptModel", name := "valueOf", desc := "(I)J" } : Jvm.MethodName) prog_13_method_46_code (6 : Nat) (Option.some Jvm.ClassFile.FieldType.long)) ∈ lw_tbl := ai_in_at 1809 (by decide +kernel)
set_option maxRecDepth 100000 in
theorem tw_1683 : (Cond.methodLink "PathsKeptModel" (438 : Nat) ({ cls := "PathsKeptModel", name := "valueOf", desc := "(I)J" } : Jvm.MethodName)) ∈ lw_tbl := ai_in_at 1806 (by decide +kernel)
set_option maxRecDepth 100000 in
theorem tw_1685 : (Cond.instanceMethod ({ cls := "PathsKeptModel", name := "valueOf", desc := "(I)J" } : Jvm.MethodName)) ∈ lw_tbl := ai_in_at 1808 (by decide +kernel)
set_option maxRecDepth 100000 in
theorem tw_1674 : (Cond.code ({ cls := "PathsKeptModel", name := "layBoth", desc := "(III)V" } : Jvm.MethodName) prog_13_method_56_code (4 : Nat) (Option.none : Option Jvm.ClassFile.FieldType)) ∈ lw_tbl := ai_in_at 1797 (by decide +kernel)
set_option maxRecDepth 100000 in
theorem tw_1671 : (Cond.methodLink "PathsKeptModel" (442 : Nat) ({ cls := "PathsKeptModel", name := "layBoth", desc := "(III)V" } : Jvm.MethodName)) ∈ lw_tbl := ai_in_at 1794 (by decide +kernel)
set_option maxRecDepth 100000 in
theorem tw_1673 : (Cond.instanceMethod ({ cls := "PathsKeptModel", name := "layBoth", desc := "(III)V" } : Jvm.MethodName)) ∈ lw_tbl := ai_in_at 1796 (by decide +kernel)
set_option maxRecDepth 100000 in
theorem tw_1682 : (Cond.code ({ cls := "PathsKeptModel", name := "lawOf", desc := "(I)J" } : Jvm.MethodName) prog_13_method_57_code (3 : Nat) (Option.some Jvm.ClassFile.FieldType.long)) ∈ lw_tbl := ai_in_at 1805 (by decide +kernel)
set_option maxRecDepth 100000 in
theorem tw_1679 : (Cond.methodLink "PathsKeptModel" (445 : Nat) ({ cls := "PathsKeptModel", name := "lawOf", desc := "(I)J" } : Jvm.MethodName)) ∈ lw_tbl := ai_in_at 1802 (by decide +kernel)
set_option maxRecDepth 100000 in
theorem tw_1681 : (Cond.instanceMethod ({ cls := "PathsKeptModel", name := "lawOf", desc := "(I)J" } : Jvm.MethodName)) ∈ lw_tbl := ai_in_at 1804 (by decide +kernel)
set_option maxRecDepth 100000 in
theorem tw_1704 : (Cond.constantLong "PathsKeptModel" (448 : Nat) (99 : Int64)) ∈ lw_tbl := ai_in_at 1827 (by decide +kernel)
set_option maxRecDepth 100000 in
theorem tw_1666 : (Cond.code ({ cls := "PathsKeptModel", name := "isAtEnd", desc := "(II)Z" } : Jvm.MethodName) prog_13_method_59_code (3 : Nat) (Option.some Jvm.ClassFile.FieldType.boolean)) ∈ lw_tbl := ai_in_at 1789 (by decide +kernel)
set_option maxRecDepth 100000 in
theorem tw_1663 : (Cond.methodLink "PathsKeptModel" (450 : Nat) ({ cls := "PathsKeptModel", name := "isAtEnd", desc := "(II)Z" } : Jvm.MethodName)) ∈ lw_tbl := ai_in_at 1786 (by decide +kernel)
set_option maxRecDepth 100000 in
theorem tw_1665 : (Cond.instanceMethod ({ cls := "PathsKeptModel", name := "isAtEnd", desc := "(II)Z" } : Jvm.MethodName)) ∈ lw_tbl := ai_in_at 1788 (by decide +kernel)
set_option maxRecDepth 100000 in
theorem tw_1650 : (Cond.code ({ cls := "PathsKeptModel", name := "hasBull", desc := "(II)Z" } : Jvm.MethodName) prog_13_method_58_code (4 : Nat) (Option.some Jvm.ClassFile.FieldType.boolean)) ∈ lw_tbl := ai_in_at 1773 (by decide +kernel)
set_option maxRecDepth 100000 in
theorem tw_1647 : (Cond.methodLink "PathsKeptModel" (453 : Nat) ({ cls := "PathsKeptModel", name := "hasBull", desc := "(II)Z" } : Jvm.MethodName)) ∈ lw_tbl := ai_in_at 1770 (by decide +kernel)
set_option maxRecDepth 100000 in
theorem tw_1649 : (Cond.instanceMethod ({ cls := "PathsKeptModel", name := "hasBull", desc := "(II)Z" } : Jvm.MethodName)) ∈ lw_tbl := ai_in_at 1772 (by decide +kernel)
set_option maxRecDepth 100000 in
theorem tw_1703 : (Cond.code ({ cls := "PathsKeptModel", name := "costOf", desc := "(III)I" } : Jvm.MethodName) prog_13_method_60_code (6 : Nat) (Option.some Jvm.ClassFile.FieldType.int)) ∈ lw_tbl := ai_in_at 1826 (by decide +kernel)
set_option maxRecDepth 100000 in
theorem tw_1700 : (Cond.methodLink "PathsKeptModel" (456 : Nat) ({ cls := "PathsKeptModel", name := "costOf", desc := "(III)I" } : Jvm.MethodName)) ∈ lw_tbl := ai_in_at 1823 (by decide +kernel)
set_option maxRecDepth 100000 in
theorem tw_1702 : (Cond.instanceMethod ({ cls := "PathsKeptModel", name := "costOf", desc := "(III)I" } : Jvm.MethodName)) ∈ lw_tbl := ai_in_at 1825 (by decide +kernel)
set_option maxRecDepth 100000 in
theorem tw_1754 : (Cond.constantLong "PathsKeptModel" (460 : Nat) (1103515245 : Int64)) ∈ lw_tbl := ai_in_at 1877 (by decide +kernel)
set_option maxRecDepth 100000 in
theorem tw_1755 : (Cond.constantLong "PathsKeptModel" (462 : Nat) (12345 : Int64)) ∈ lw_tbl := ai_in_at 1878 (by decide +kernel)
set_option maxRecDepth 100000 in
theorem tw_1756 : (Cond.constantLong "PathsKeptModel" (464 : Nat) (2147483647 : Int64)) ∈ lw_tbl := ai_in_at 1879 (by decide +kernel)
set_option maxRecDepth 100000 in
theorem tw_1757 : (Cond.constantLong "PathsKeptModel" (466 : Nat) (65536 : Int64)) ∈ lw_tbl := ai_in_at 1880 (by decide +kernel)
set_option maxRecDepth 100000 in
theorem tw_1753 : (Cond.code ({ cls := "PathsKeptModel", name := "number1", desc := "(I)I" } : Jvm.MethodName) prog_13_method_63_code (2 : Nat) (Option.some Jvm.ClassFile.FieldType.int)) ∈ lw_tbl := ai_in_at 1876 (by decide +kernel)
set_option maxRecDepth 100000 in
theorem tw_1750 : (Cond.methodLink "PathsKeptModel" (468 : Nat) ({ cls := "PathsKeptModel", name := "number1", desc := "(I)I" } : Jvm.MethodName)) ∈ lw_tbl := ai_in_at 1873 (by decide +kernel)
set_option maxRecDepth 100000 in
theorem tw_1752 : (Cond.instanceMethod ({ cls := "PathsKeptModel", name := "number1", desc := "(I)I" } : Jvm.MethodName)) ∈ lw_tbl := ai_in_at 1875 (by decide +kernel)
set_option maxRecDepth 100000 in
theorem tw_1762 : (Cond.constantLong "PathsKeptModel" (471 : Nat) (9999 : Int64)) ∈ lw_tbl := ai_in_at 1885 (by decide +kernel)
set_option maxRecDepth 100000 in
theorem tw_1749 : (Cond.code ({ cls := "PathsKeptModel", name := "isSnow", desc := "()Z" } : Jvm.MethodName) prog_13_method_64_code (1 : Nat) (Option.some Jvm.ClassFile.FieldType.boolean)) ∈ lw_tbl := ai_in_at 1872 (by decide +kernel)
set_option maxRecDepth 100000 in
theorem tw_1746 : (Cond.methodLink "PathsKeptModel" (473 : Nat) ({ cls := "PathsKeptModel", name := "isSnow", desc := "()Z" } : Jvm.MethodName)) ∈ lw_tbl := ai_in_at 1869 (by decide +kernel)
set_option maxRecDepth 100000 in
theorem tw_1748 : (Cond.instanceMethod ({ cls := "PathsKeptModel", name := "isSnow", desc := "()Z" } : Jvm.MethodName)) ∈ lw_tbl := ai_in_at 1871 (by decide +kernel)
set_option maxRecDepth 100000 in
theorem tw_1662 : (Cond.code ({ cls := "PathsKeptModel", name := "can", desc := "(III)Z" } : Jvm.MethodName) prog_13_method_61_code (7 : Nat) (Option.some Jvm.ClassFile.FieldType.boolean)) ∈ lw_tbl := ai_in_at 1785 (by decide +kernel)
set_option maxRecDepth 100000 in
theorem tw_1659 : (Cond.methodLink "PathsKeptModel" (476 : Nat) ({ cls := "PathsKeptModel", name := "can", desc := "(III)Z" } : Jvm.MethodName)) ∈ lw_tbl := ai_in_at 1782 (by decide +kernel)
set_option maxRecDepth 100000 in
theorem tw_1661 : (Cond.instanceMethod ({ cls := "PathsKeptModel", name := "can", desc := "(III)Z" } : Jvm.MethodName)) ∈ lw_tbl := ai_in_at 1784 (by decide +kernel)
set_option maxRecDepth 100000 in
theorem tw_1725 : (Cond.code ({ cls := "PathsKeptModel", name := "goes", desc := "(III)V" } : Jvm.MethodName) prog_13_method_62_code (4 : Nat) (Option.none : Option Jvm.ClassFile.FieldType)) ∈ lw_tbl := ai_in_at 1848 (by decide +kernel)
set_option maxRecDepth 100000 in
theorem tw_1722 : (Cond.methodLink "PathsKeptModel" (479 : Nat) ({ cls := "PathsKeptModel", name := "goes", desc := "(III)V" } : Jvm.MethodName)) ∈ lw_tbl := ai_in_at 1845 (by decide +kernel)
set_option maxRecDepth 100000 in
theorem tw_1724 : (Cond.instanceMethod ({ cls := "PathsKeptModel", name := "goes", desc := "(III)V" } : Jvm.MethodName)) ∈ lw_tbl := ai_in_at 1847 (by decide +kernel)
set_option maxRecDepth 100000 in
theorem tw_1761 : (Cond.code ({ cls := "PathsKeptModel", name := "termOf", desc := "(II)I" } : Jvm.MethodName) prog_13_method_65_code (5 : Nat) (Option.some Jvm.ClassFile.FieldType.int)) ∈ lw_tbl := ai_in_at 1884 (by decide +kernel)
set_option maxRecDepth 100000 in
theorem tw_1758 : (Cond.methodLink "PathsKeptModel" (482 : Nat) ({ cls := "PathsKeptModel", name := "termOf", desc := "(II)I" } : Jvm.MethodName)) ∈ lw_tbl := ai_in_at 1881 (by decide +kernel)
set_option maxRecDepth 100000 in
theorem tw_1760 : (Cond.instanceMethod ({ cls := "PathsKeptModel", name := "termOf", desc := "(II)I" } : Jvm.MethodName)) ∈ lw_tbl := ai_in_at 1883 (by decide +kernel)
set_option maxRecDepth 100000 in
theorem tw_1745 : (Cond.code ({ cls := "PathsKeptModel", name := "dayGoes", desc := "(I)V" } : Jvm.MethodName) prog_13_method_66_code (4 : Nat) (Option.none : Option Jvm.ClassFile.FieldType)) ∈ lw_tbl := ai_in_at 1868 (by decide +kernel)
set_option maxRecDepth 100000 in
theorem tw_1742 : (Cond.methodLink "PathsKeptModel" (485 : Nat) ({ cls := "PathsKeptModel", name := "dayGoes", desc := "(I)V" } : Jvm.MethodName)) ∈ lw_tbl := ai_in_at 1865 (by decide +kernel)
set_option maxRecDepth 100000 in
theorem tw_1744 : (Cond.instanceMethod ({ cls := "PathsKeptModel", name := "dayGoes", desc := "(I)V" } : Jvm.MethodName)) ∈ lw_tbl := ai_in_at 1867 (by decide +kernel)
set_option maxRecDepth 100000 in
theorem tw_1642 : (Cond.code ({ cls := "PathsKeptModel", name := "isPath", desc := "(I)Z" } : Jvm.MethodName) prog_13_method_52_code (2 : Nat) (Option.some Jvm.ClassFile.FieldType.boolean)) ∈ lw_tbl := ai_in_at 1765 (by decide +kernel)
set_option maxRecDepth 100000 in
theorem tw_1639 : (Cond.methodLink "PathsKeptModel" (488 : Nat) ({ cls := "PathsKeptModel", name := "isPath", desc := "(I)Z" } : Jvm.MethodName)) ∈ lw_tbl := ai_in_at 1762 (by decide +kernel)
set_option maxRecDepth 100000 in
theorem tw_1641 : (Cond.instanceMethod ({ cls := "PathsKeptModel", name := "isPath", desc := "(I)Z" } : Jvm.MethodName)) ∈ lw_tbl := ai_in_at 1764 (by decide +kernel)
set_option maxRecDepth 100000 in
theorem tw_1646 : (Cond.code ({ cls := "PathsKeptModel", name := "fails", desc := "(I)I" } : Jvm.MethodName) prog_13_method_69_code (2 : Nat) (Option.some Jvm.ClassFile.FieldType.int)) ∈ lw_tbl := ai_in_at 1769 (by decide +kernel)
set_option maxRecDepth 100000 in
theorem tw_1643 : (Cond.methodLink "PathsKeptModel" (491 : Nat) ({ cls := "PathsKeptModel", name := "fails", desc := "(I)I" } : Jvm.MethodName)) ∈ lw_tbl := ai_in_at 1766 (by decide +kernel)
set_option maxRecDepth 100000 in
theorem tw_1645 : (Cond.instanceMethod ({ cls := "PathsKeptModel", name := "fails", desc := "(I)I" } : Jvm.MethodName)) ∈ lw_tbl := ai_in_at 1768 (by decide +kernel)
set_option maxRecDepth 100000 in
theorem tw_1658 : (Cond.code ({ cls := "PathsKeptModel", name := "isWalker", desc := "(I)Z" } : Jvm.MethodName) prog_13_method_53_code (2 : Nat) (Option.some Jvm.ClassFile.FieldType.boolean)) ∈ lw_tbl := ai_in_at 1781 (by decide +kernel)
set_option maxRecDepth 100000 in
theorem tw_1655 : (Cond.methodLink "PathsKeptModel" (494 : Nat) ({ cls := "PathsKeptModel", name := "isWalker", desc := "(I)Z" } : Jvm.MethodName)) ∈ lw_tbl := ai_in_at 1778 (by decide +kernel)
set_option maxRecDepth 100000 in
theorem tw_1657 : (Cond.instanceMethod ({ cls := "PathsKeptModel", name := "isWalker", desc := "(I)Z" } : Jvm.MethodName)) ∈ lw_tbl := ai_in_at 1780 (by decide +kernel)
set_option maxRecDepth 100000 in
theorem tw_1709 : (Cond.constantLong "PathsKeptModel" (497 : Nat) (-9223372036854775808 : Int64)) ∈ lw_tbl := ai_in_at 1832 (by decide +kernel)
set_option maxRecDepth 100000 in
theorem tw_1717 : (Cond.code ({ cls := "PathsKeptModel", name := "remember", desc := "()V" } : Jvm.MethodName) prog_13_method_124_code (2 : Nat) (Option.none : Option Jvm.ClassFile.FieldType)) ∈ lw_tbl := ai_in_at 1840 (by decide +kernel)
set_option maxRecDepth 100000 in
theorem tw_1714 : (Cond.methodLink "PathsKeptModel" (499 : Nat) ({ cls := "PathsKeptModel", name := "remember", desc := "()V" } : Jvm.MethodName)) ∈ lw_tbl := ai_in_at 1837 (by decide +kernel)
set_option maxRecDepth 100000 in
theorem tw_1716 : (Cond.instanceMethod ({ cls := "PathsKeptModel", name := "remember", desc := "()V" } : Jvm.MethodName)) ∈ lw_tbl := ai_in_at 1839 (by decide +kernel)
set_option maxRecDepth 100000 in
theorem tw_1737 : (Cond.code ({ cls := "PathsKeptModel", name := "isPlace", desc := "(I)Z" } : Jvm.MethodName) prog_13_method_51_code (2 : Nat) (Option.some Jvm.ClassFile.FieldType.boolean)) ∈ lw_tbl := ai_in_at 1860 (by decide +kernel)
set_option maxRecDepth 100000 in
theorem tw_1734 : (Cond.methodLink "PathsKeptModel" (502 : Nat) ({ cls := "PathsKeptModel", name := "isPlace", desc := "(I)Z" } : Jvm.MethodName)) ∈ lw_tbl := ai_in_at 1857 (by decide +kernel)
set_option maxRecDepth 100000 in
theorem tw_1736 : (Cond.instanceMethod ({ cls := "PathsKeptModel", name := "isPlace", desc := "(I)Z" } : Jvm.MethodName)) ∈ lw_tbl := ai_in_at 1859 (by decide +kernel)
set_option maxRecDepth 100000 in
theorem tw_1770 : (Cond.code ({ cls := "PathsKeptModel", name := "layTried", desc := "()V" } : Jvm.MethodName) prog_13_method_50_code (2 : Nat) (Option.none : Option Jvm.ClassFile.FieldType)) ∈ lw_tbl := ai_in_at 1893 (by decide +kernel)
set_option maxRecDepth 100000 in
theorem tw_1767 : (Cond.methodLink "PathsKeptModel" (505 : Nat) ({ cls := "PathsKeptModel", name := "layTried", desc := "()V" } : Jvm.MethodName)) ∈ lw_tbl := ai_in_at 1890 (by decide +kernel)
set_option maxRecDepth 100000 in
theorem tw_1769 : (Cond.instanceMethod ({ cls := "PathsKeptModel", name := "layTried", desc := "()V" } : Jvm.MethodName)) ∈ lw_tbl := ai_in_at 1892 (by decide +kernel)
set_option maxRecDepth 100000 in
theorem tw_1774 : (Cond.code ({ cls := "PathsKeptModel", name := "goMany", desc := "(I)V" } : Jvm.MethodName) prog_13_method_67_code (3 : Nat) (Option.none : Option Jvm.ClassFile.FieldType)) ∈ lw_tbl := ai_in_at 1897 (by decide +kernel)
set_option maxRecDepth 100000 in
theorem tw_1771 : (Cond.methodLink "PathsKeptModel" (508 : Nat) ({ cls := "PathsKeptModel", name := "goMany", desc := "(I)V" } : Jvm.MethodName)) ∈ lw_tbl := ai_in_at 1894 (by decide +kernel)
set_option maxRecDepth 100000 in
theorem tw_1773 : (Cond.instanceMethod ({ cls := "PathsKeptModel", name := "goMany", desc := "(I)V" } : Jvm.MethodName)) ∈ lw_tbl := ai_in_at 1896 (by decide +kernel)
set_option maxRecDepth 100000 in
theorem tw_1778 : (Cond.code ({ cls := "PathsKeptModel", name := "keptMany", desc := "(I)I" } : Jvm.MethodName) prog_13_method_68_code (4 : Nat) (Option.some Jvm.ClassFile.FieldType.int)) ∈ lw_tbl := ai_in_at 1901 (by decide +kernel)
set_option maxRecDepth 100000 in
theorem tw_1775 : (Cond.methodLink "PathsKeptModel" (511 : Nat) ({ cls := "PathsKeptModel", name := "keptMany", desc := "(I)I" } : Jvm.MethodName)) ∈ lw_tbl := ai_in_at 1898 (by decide +kernel)
set_option maxRecDepth 100000 in
theorem tw_1777 : (Cond.instanceMethod ({ cls := "PathsKeptModel", name := "keptMany", desc := "(I)I" } : Jvm.MethodName)) ∈ lw_tbl := ai_in_at 1900 (by decide +kernel)
set_option maxRecDepth 100000 in
theorem tw_1794 : (Cond.code ({ cls := "PathsKeptModel", name := "isOpen", desc := "(II)Z" } : Jvm.MethodName) prog_13_method_79_code (3 : Nat) (Option.some Jvm.ClassFile.FieldType.boolean)) ∈ lw_tbl := ai_in_at 1917 (by decide +kernel)
set_option maxRecDepth 100000 in
theorem tw_1791 : (Cond.methodLink "PathsKeptModel" (514 : Nat) ({ cls := "PathsKeptModel", name := "isOpen", desc := "(II)Z" } : Jvm.MethodName)) ∈ lw_tbl := ai_in_at 1914 (by decide +kernel)
set_option maxRecDepth 100000 in
theorem tw_1793 : (Cond.instanceMethod ({ cls := "PathsKeptModel", name := "isOpen", desc := "(II)Z" } : Jvm.MethodName)) ∈ lw_tbl := ai_in_at 1916 (by decide +kernel)
set_option maxRecDepth 100000 in
theorem tw_1798 : (Cond.code ({ cls := "PathsKeptModel", name := "takesMore", desc := "(III)I" } : Jvm.MethodName) prog_13_method_81_code (4 : Nat) (Option.some Jvm.ClassFile.FieldType.int)) ∈ lw_tbl := ai_in_at 1921 (by decide +kernel)
set_option maxRecDepth 100000 in
theorem tw_1795 : (Cond.methodLink "PathsKeptModel" (517 : Nat) ({ cls := "PathsKeptModel", name := "takesMore", desc := "(III)I" } : Jvm.MethodName)) ∈ lw_tbl := ai_in_at 1918 (by decide +kernel)
set_option maxRecDepth 100000 in
theorem tw_1797 : (Cond.instanceMethod ({ cls := "PathsKeptModel", name := "takesMore", desc := "(III)I" } : Jvm.MethodName)) ∈ lw_tbl := ai_in_at 1920 (by decide +kernel)
set_option maxRecDepth 100000 in
theorem tw_1802 : (Cond.code ({ cls := "PathsKeptModel", name := "otherEnd", desc := "(II)I" } : Jvm.MethodName) prog_13_method_80_code (3 : Nat) (Option.some Jvm.ClassFile.FieldType.int)) ∈ lw_tbl := ai_in_at 1925 (by decide +kernel)
set_option maxRecDepth 100000 in
theorem tw_1799 : (Cond.methodLink "PathsKeptModel" (520 : Nat) ({ cls := "PathsKeptModel", name := "otherEnd", desc := "(II)I" } : Jvm.MethodName)) ∈ lw_tbl := ai_in_at 1922 (by decide +kernel)
set_option maxRecDepth 100000 in
theorem tw_1801 : (Cond.instanceMethod ({ cls := "PathsKeptModel", name := "otherEnd", desc := "(II)I" } : Jvm.MethodName)) ∈ lw_tbl := ai_in_at 1924 (by decide +kernel)
set_option maxRecDepth 100000 in
theorem tw_1790 : (Cond.code ({ cls := "PathsKeptModel", name := "settle", desc := "(III)V" } : Jvm.MethodName) prog_13_method_82_code (8 : Nat) (Option.none : Option Jvm.ClassFile.FieldType)) ∈ lw_tbl := ai_in_at 1913 (by decide +kernel)
set_option maxRecDepth 100000 in
theorem tw_1787 : (Cond.methodLink "PathsKeptModel" (523 : Nat) ({ cls := "PathsKeptModel", name := "settle", desc := "(III)V" } : Jvm.MethodName)) ∈ lw_tbl := ai_in_at 1910 (by decide +kernel)
set_option maxRecDepth 100000 in
theorem tw_1789 : (Cond.instanceMethod ({ cls := "PathsKeptModel", name := "settle", desc := "(III)V" } : Jvm.MethodName)) ∈ lw_tbl := ai_in_at 1912 (by decide +kernel)
set_option maxRecDepth 100000 in
theorem tw_1822 : (Cond.code ({ cls := "PathsKeptModel", name := "layRoots", desc := "(I)V" } : Jvm.MethodName) prog_13_method_86_code (6 : Nat) (Option.none : Option Jvm.ClassFile.FieldType)) ∈ lw_tbl := ai_in_at 1945 (by decide +kernel)
set_option maxRecDepth 100000 in
theorem tw_1819 : (Cond.methodLink "PathsKeptModel" (526 : Nat) ({ cls := "PathsKeptModel", name := "layRoots", desc := "(I)V" } : Jvm.MethodName)) ∈ lw_tbl := ai_in_at 1942 (by decide +kernel)
set_option maxRecDepth 100000 in
theorem tw_1821 : (Cond.instanceMethod ({ cls := "PathsKeptModel", name := "layRoots", desc := "(I)V" } : Jvm.MethodName)) ∈ lw_tbl := ai_in_at 1944 (by decide +kernel)
set_option maxRecDepth 100000 in
theorem tw_1818 : (Cond.code ({ cls := "PathsKeptModel", name := "pairsOf", desc := "(I)I" } : Jvm.MethodName) prog_13_method_87_code (5 : Nat) (Option.some Jvm.ClassFile.FieldType.int)) ∈ lw_tbl := ai_in_at 1941 (by decide +kernel)
set_option maxRecDepth 100000 in
theorem tw_1815 : (Cond.methodLink "PathsKeptModel" (529 : Nat) ({ cls := "PathsKeptModel", name := "pairsOf", desc := "(I)I" } : Jvm.MethodName)) ∈ lw_tbl := ai_in_at 1938 (by decide +kernel)
set_option maxRecDepth 100000 in
theorem tw_1817 : (Cond.instanceMethod ({ cls := "PathsKeptModel", name := "pairsOf", desc := "(I)I" } : Jvm.MethodName)) ∈ lw_tbl := ai_in_at 1940 (by decide +kernel)
set_option maxRecDepth 100000 in
theorem tw_1830 : (Cond.code ({ cls := "PathsKeptModel", name := "keptAt", desc := "(I)I" } : Jvm.MethodName) prog_13_method_89_code (4 : Nat) (Option.some Jvm.ClassFile.FieldType.int)) ∈ lw_tbl := ai_in_at 1953 (by decide +kernel)
set_option maxRecDepth 100000 in
theorem tw_1827 : (Cond.methodLink "PathsKeptModel" (532 : Nat) ({ cls := "PathsKeptModel", name := "keptAt", desc := "(I)I" } : Jvm.MethodName)) ∈ lw_tbl := ai_in_at 1950 (by decide +kernel)
set_option maxRecDepth 100000 in
theorem tw_1829 : (Cond.instanceMethod ({ cls := "PathsKeptModel", name := "keptAt", desc := "(I)I" } : Jvm.MethodName)) ∈ lw_tbl := ai_in_at 1952 (by decide +kernel)
set_option maxRecDepth 100000 in
theorem tw_1837 : (Cond.code ({ cls := "PathsKeptModel", name := "manyOf", desc := "(I)I" } : Jvm.MethodName) prog_13_method_91_code (3 : Nat) (Option.some Jvm.ClassFile.FieldType.int)) ∈ lw_tbl := ai_in_at 1960 (by decide +kernel)
set_option maxRecDepth 100000 in
theorem tw_1835 : (Cond.methodLink "PathsKeptModel" (535 : Nat) ({ cls := "PathsKeptModel", name := "manyOf", desc := "(I)I" } : Jvm.MethodName)) ∈ lw_tbl := ai_in_at 1958 (by decide +kernel)
set_option maxRecDepth 100000 in
theorem tw_1836 : (Cond.static ({ cls := "PathsKeptModel", name := "manyOf", desc := "(I)I" } : Jvm.MethodName)) ∈ lw_tbl := ai_in_at 1959 (by decide +kernel)
set_option maxRecDepth 100000 in
theorem tw_1840 : (Cond.code ({ cls := "PathsKeptModel", name := "isOf", desc := "(II)Z" } : Jvm.MethodName) prog_13_method_5_code (2 : Nat) (Option.some Jvm.ClassFile.FieldType.boolean)) ∈ lw_tbl := ai_in_at 1963 (by decide +kernel)
set_option maxRecDepth 100000 in
theorem tw_1838 : (Cond.methodLink "PathsKeptModel" (538 : Nat) ({ cls := "PathsKeptModel", name := "isOf", desc := "(II)Z" } : Jvm.MethodName)) ∈ lw_tbl := ai_in_at 1961 (by decide +kernel)
set_option maxRecDepth 100000 in
theorem tw_1839 : (Cond.static ({ cls := "PathsKeptModel", name := "isOf", desc := "(II)Z" } : Jvm.MethodName)) ∈ lw_tbl := ai_in_at 1962 (by decide +kernel)
set_option maxRecDepth 100000 in
theorem tw_1848 : (Cond.code ({ cls := "PathsKeptModel", name := "ageBy", desc := "(I)I" } : Jvm.MethodName) prog_13_method_93_code (7 : Nat) (Option.some Jvm.ClassFile.FieldType.int)) ∈ lw_tbl := ai_in_at 1971 (by decide +kernel)
set_option maxRecDepth 100000 in
theorem tw_1845 : (Cond.methodLink "PathsKeptModel" (541 : Nat) ({ cls := "PathsKeptModel", name := "ageBy", desc := "(I)I" } : Jvm.MethodName)) ∈ lw_tbl := ai_in_at 1968 (by decide +kernel)
set_option maxRecDepth 100000 in
theorem tw_1847 : (Cond.instanceMethod ({ cls := "PathsKeptModel", name := "ageBy", desc := "(I)I" } : Jvm.MethodName)) ∈ lw_tbl := ai_in_at 1970 (by decide +kernel)
set_option maxRecDepth 100000 in
theorem tw_1286 : (Cond.fieldLink "PathsKeptModel" (544 : Nat) "PathsKeptModel" "keptOnesMany" "I") ∈ lw_tbl := ai_in_at 1409 (by decide +kernel)
set_option maxRecDepth 100000 in
theorem tw_1862 : (Cond.code ({ cls := "PathsKeptModel", name := "digit", desc := "(II)I" } : Jvm.MethodName) prog_13_method_95_code (4 : Nat) (Option.some Jvm.ClassFile.FieldType.int)) ∈ lw_tbl := ai_in_at 1985 (by decide +kernel)
set_option maxRecDepth 100000 in
theorem tw_1860 : (Cond.methodLink "PathsKeptModel" (547 : Nat) ({ cls := "PathsKeptModel", name := "digit", desc := "(II)I" } : Jvm.MethodName)) ∈ lw_tbl := ai_in_at 1983 (by decide +kernel)
set_option maxRecDepth 100000 in
theorem tw_1861 : (Cond.static ({ cls := "PathsKeptModel", name := "digit", desc := "(II)I" } : Jvm.MethodName)) ∈ lw_tbl := ai_in_at 1984 (by decide +kernel)
set_option maxRecDepth 100000 in
theorem tw_1859 : (Cond.code ({ cls := "PathsKeptModel", name := "power", desc := "(I)I" } : Jvm.MethodName) prog_13_method_96_code (3 : Nat) (Option.some Jvm.ClassFile.FieldType.int)) ∈ lw_tbl := ai_in_at 1982 (by decide +kernel)
set_option maxRecDepth 100000 in
theorem tw_1857 : (Cond.methodLink "PathsKeptModel" (550 : Nat) ({ cls := "PathsKeptModel", name := "power", desc := "(I)I" } : Jvm.MethodName)) ∈ lw_tbl := ai_in_at 1980 (by decide +kernel)
set_option maxRecDepth 100000 in
theorem tw_1858 : (Cond.static ({ cls := "PathsKeptModel", name := "power", desc := "(I)I" } : Jvm.MethodName)) ∈ lw_tbl := ai_in_at 1981 (by decide +kernel)
set_option maxRecDepth 100000 in
theorem tw_1866 : (Cond.code ({ cls := "PathsKeptModel", name := "isLed", desc := "(III)Z" } : Jvm.MethodName) prog_13_method_97_code (8 : Nat) (Option.some Jvm.ClassFile.FieldType.boolean)) ∈ lw_tbl := ai_in_at 1989 (by decide +kernel)
set_option maxRecDepth 100000 in
theorem tw_1863 : (Cond.methodLink "PathsKeptModel" (553 : Nat) ({ cls := "PathsKeptModel", name := "isLed", desc := "(III)Z" } : Jvm.MethodName)) ∈ lw_tbl := ai_in_at 1986 (by decide +kernel)
set_option maxRecDepth 100000 in
theorem tw_1865 : (Cond.instanceMethod ({ cls := "PathsKeptModel", name := "isLed", desc := "(III)Z" } : Jvm.MethodName)) ∈ lw_tbl := ai_in_at 1988 (by decide +kernel)
set_option maxRecDepth 100000 in
theorem tw_1870 : (Cond.code ({ cls := "PathsKeptModel", name := "winsBy", desc := "(II)I" } : Jvm.MethodName) prog_13_method_98_code (4 : Nat) (Option.some Jvm.ClassFile.FieldType.int)) ∈ lw_tbl := ai_in_at 1993 (by decide +kernel)
set_option maxRecDepth 100000 in
theorem tw_1867 : (Cond.methodLink "PathsKeptModel" (556 : Nat) ({ cls := "PathsKeptModel", name := "winsBy", desc := "(II)I" } : Jvm.MethodName)) ∈ lw_tbl := ai_in_at 1990 (by decide +kernel)
set_option maxRecDepth 100000 in
theorem tw_1869 : (Cond.instanceMethod ({ cls := "PathsKeptModel", name := "winsBy", desc := "(II)I" } : Jvm.MethodName)) ∈ lw_tbl := ai_in_at 1992 (by decide +kernel)
set_option maxRecDepth 100000 in
theorem tw_1856 : (Cond.code ({ cls := "PathsKeptModel", name := "layGame", desc := "(III)V" } : Jvm.MethodName) prog_13_method_99_code (7 : Nat) (Option.none : Option Jvm.ClassFile.FieldType)) ∈ lw_tbl := ai_in_at 1979 (by decide +kernel)
set_option maxRecDepth 100000 in
theorem tw_1853 : (Cond.methodLink "PathsKeptModel" (559 : Nat) ({ cls := "PathsKeptModel", name := "layGame", desc := "(III)V" } : Jvm.MethodName)) ∈ lw_tbl := ai_in_at 1976 (by decide +kernel)
set_option maxRecDepth 100000 in
theorem tw_1855 : (Cond.instanceMethod ({ cls := "PathsKeptModel", name := "layGame", desc := "(III)V" } : Jvm.MethodName)) ∈ lw_tbl := ai_in_at 1978 (by decide +kernel)
set_option maxRecDepth 100000 in
theorem tw_1886 : (Cond.code ({ cls := "PathsKeptModel", name := "hasBy", desc := "(III)I" } : Jvm.MethodName) prog_13_method_101_code (4 : Nat) (Option.some Jvm.ClassFile.FieldType.int)) ∈ lw_tbl := ai_in_at 2009 (by decide +kernel)
set_option maxRecDepth 100000 in
theorem tw_1883 : (Cond.methodLink "PathsKeptModel" (562 : Nat) ({ cls := "PathsKeptModel", name := "hasBy", desc := "(III)I" } : Jvm.MethodName)) ∈ lw_tbl := ai_in_at 2006 (by decide +kernel)
set_option maxRecDepth 100000 in
theorem tw_1885 : (Cond.instanceMethod ({ cls := "PathsKeptModel", name := "hasBy", desc := "(III)I" } : Jvm.MethodName)) ∈ lw_tbl := ai_in_at 2008 (by decide +kernel)
set_option maxRecDepth 100000 in
theorem tw_1878 : (Cond.code ({ cls := "PathsKeptModel", name := "areTwo", desc := "(II)Z" } : Jvm.MethodName) prog_13_method_103_code (3 : Nat) (Option.some Jvm.ClassFile.FieldType.boolean)) ∈ lw_tbl := ai_in_at 2001 (by decide +kernel)
set_option maxRecDepth 100000 in
theorem tw_1875 : (Cond.methodLink "PathsKeptModel" (565 : Nat) ({ cls := "PathsKeptModel", name := "areTwo", desc := "(II)Z" } : Jvm.MethodName)) ∈ lw_tbl := ai_in_at 1998 (by decide +kernel)
set_option maxRecDepth 100000 in
theorem tw_1877 : (Cond.instanceMethod ({ cls := "PathsKeptModel", name := "areTwo", desc := "(II)Z" } : Jvm.MethodName)) ∈ lw_tbl := ai_in_at 2000 (by decide +kernel)
set_option maxRecDepth 100000 in
theorem tw_1882 : (Cond.code ({ cls := "PathsKeptModel", name := "restAt", desc := "(III)I" } : Jvm.MethodName) prog_13_method_102_code (8 : Nat) (Option.some Jvm.ClassFile.FieldType.int)) ∈ lw_tbl := ai_in_at 2005 (by decide +kernel)
set_option maxRecDepth 100000 in
theorem tw_1879 : (Cond.methodLink "PathsKeptModel" (568 : Nat) ({ cls := "PathsKeptModel", name := "restAt", desc := "(III)I" } : Jvm.MethodName)) ∈ lw_tbl := ai_in_at 2002 (by decide +kernel)
set_option maxRecDepth 100000 in
theorem tw_1881 : (Cond.instanceMethod ({ cls := "PathsKeptModel", name := "restAt", desc := "(III)I" } : Jvm.MethodName)) ∈ lw_tbl := ai_in_at 2004 (by decide +kernel)
set_option maxRecDepth 100000 in
theorem tw_1895 : (Cond.constantLong "PathsKeptModel" (571 : Nat) (100 : Int64)) ∈ lw_tbl := ai_in_at 2018 (by decide +kernel)
set_option maxRecDepth 100000 in
theorem tw_1900 : (Cond.constantLong "PathsKeptModel" (573 : Nat) (-1 : Int64)) ∈ lw_tbl := ai_in_at 2023 (by decide +kernel)
set_option maxRecDepth 100000 in
theorem tw_1908 : (Cond.code ({ cls := "PathsKeptModel", name := "noted", desc := "(IIII)I" } : Jvm.MethodName) prog_13_method_108_code (5 : Nat) (Option.some Jvm.ClassFile.FieldType.int)) ∈ lw_tbl := ai_in_at 2031 (by decide +kernel)
set_option maxRecDepth 100000 in
theorem tw_1905 : (Cond.methodLink "PathsKeptModel" (575 : Nat) ({ cls := "PathsKeptModel", name := "noted", desc := "(IIII)I" } : Jvm.MethodName)) ∈ lw_tbl := ai_in_at 2028 (by decide +kernel)
set_option maxRecDepth 100000 in
theorem tw_1907 : (Cond.instanceMethod ({ cls := "PathsKeptModel", name := "noted", desc := "(IIII)I" } : Jvm.MethodName)) ∈ lw_tbl := ai_in_at 2030 (by decide +kernel)
set_option maxRecDepth 100000 in
theorem tw_1932 : (Cond.code ({ cls := "PathsKeptModel", name := "knownBy", desc := "()I" } : Jvm.MethodName) prog_13_method_112_code (1 : Nat) (Option.some Jvm.ClassFile.FieldType.int)) ∈ lw_tbl := ai_in_at 2055 (by decide +kernel)
set_option maxRecDepth 100000 in
theorem tw_1929 : (Cond.methodLink "PathsKeptModel" (579 : Nat) ({ cls := "PathsKeptModel", name := "knownBy", desc := "()I" } : Jvm.MethodName)) ∈ lw_tbl := ai_in_at 2052 (by decide +kernel)
set_option maxRecDepth 100000 in
theorem tw_1931 : (Cond.instanceMethod ({ cls := "PathsKeptModel", name := "knownBy", desc := "()I" } : Jvm.MethodName)) ∈ lw_tbl := ai_in_at 2054 (by decide +kernel)
set_option maxRecDepth 100000 in
theorem tw_1940 : (Cond.code ({ cls := "PathsKeptModel", name := "layLegs", desc := "(II)V" } : Jvm.MethodName) prog_13_method_115_code (3 : Nat) (Option.none : Option Jvm.ClassFile.FieldType)) ∈ lw_tbl := ai_in_at 2063 (by decide +kernel)
set_option maxRecDepth 100000 in
theorem tw_1937 : (Cond.methodLink "PathsKeptModel" (582 : Nat) ({ cls := "PathsKeptModel", name := "layLegs", desc := "(II)V" } : Jvm.MethodName)) ∈ lw_tbl := ai_in_at 2060 (by decide +kernel)
set_option maxRecDepth 100000 in
theorem tw_1939 : (Cond.instanceMethod ({ cls := "PathsKeptModel", name := "layLegs", desc := "(II)V" } : Jvm.MethodName)) ∈ lw_tbl := ai_in_at 2062 (by decide +kernel)
set_option maxRecDepth 100000 in
theorem tw_1944 : (Cond.code ({ cls := "PathsKeptModel", name := "isSo", desc := "(I)Z" } : Jvm.MethodName) prog_13_method_114_code (3 : Nat) (Option.some Jvm.ClassFile.FieldType.boolean)) ∈ lw_tbl := ai_in_at 2067 (by decide +kernel)
set_option maxRecDepth 100000 in
theorem tw_1941 : (Cond.methodLink "PathsKeptModel" (585 : Nat) ({ cls := "PathsKeptModel", name := "isSo", desc := "(I)Z" } : Jvm.MethodName)) ∈ lw_tbl := ai_in_at 2064 (by decide +kernel)
set_option maxRecDepth 100000 in
theorem tw_1943 : (Cond.instanceMethod ({ cls := "PathsKeptModel", name := "isSo", desc := "(I)Z" } : Jvm.MethodName)) ∈ lw_tbl := ai_in_at 2066 (by decide +kernel)
set_option maxRecDepth 100000 in
theorem tw_1928 : (Cond.code ({ cls := "PathsKeptModel", name := "layCounts", desc := "()V" } : Jvm.MethodName) prog_13_method_113_code (2 : Nat) (Option.none : Option Jvm.ClassFile.FieldType)) ∈ lw_tbl := ai_in_at 2051 (by decide +kernel)
set_option maxRecDepth 100000 in
theorem tw_1925 : (Cond.methodLink "PathsKeptModel" (588 : Nat) ({ cls := "PathsKeptModel", name := "layCounts", desc := "()V" } : Jvm.MethodName)) ∈ lw_tbl := ai_in_at 2048 (by decide +kernel)
set_option maxRecDepth 100000 in
theorem tw_1927 : (Cond.instanceMethod ({ cls := "PathsKeptModel", name := "layCounts", desc := "()V" } : Jvm.MethodName)) ∈ lw_tbl := ai_in_at 2050 (by decide +kernel)
set_option maxRecDepth 100000 in
theorem tw_1936 : (Cond.code ({ cls := "PathsKeptModel", name := "fits", desc := "(II)Z" } : Jvm.MethodName) prog_13_method_116_code (4 : Nat) (Option.some Jvm.ClassFile.FieldType.boolean)) ∈ lw_tbl := ai_in_at 2059 (by decide +kernel)
set_option maxRecDepth 100000 in
theorem tw_1933 : (Cond.methodLink "PathsKeptModel" (591 : Nat) ({ cls := "PathsKeptModel", name := "fits", desc := "(II)Z" } : Jvm.MethodName)) ∈ lw_tbl := ai_in_at 2056 (by decide +kernel)
set_option maxRecDepth 100000 in
theorem tw_1935 : (Cond.instanceMethod ({ cls := "PathsKeptModel", name := "fits", desc := "(II)Z" } : Jvm.MethodName)) ∈ lw_tbl := ai_in_at 2058 (by decide +kernel)
set_option maxRecDepth 100000 in
theorem tw_1924 : (Cond.code ({ cls := "PathsKeptModel", name := "legsBits", desc := "(I)I" } : Jvm.MethodName) prog_13_method_117_code (4 : Nat) (Option.some Jvm.ClassFile.FieldType.int)) ∈ lw_tbl := ai_in_at 2047 (by decide +kernel)
set_option maxRecDepth 100000 in
theorem tw_1921 : (Cond.methodLink "PathsKeptModel" (594 : Nat) ({ cls := "PathsKeptModel", name := "legsBits", desc := "(I)I" } : Jvm.MethodName)) ∈ lw_tbl := ai_in_at 2044 (by decide +kernel)
set_option maxRecDepth 100000 in
theorem tw_1923 : (Cond.instanceMethod ({ cls := "PathsKeptModel", name := "legsBits", desc := "(I)I" } : Jvm.MethodName)) ∈ lw_tbl := ai_in_at 2046 (by decide +kernel)
set_option maxRecDepth 100000 in
theorem tw_1721 : (Cond.code ({ cls := "PathsKeptModel", name := "put", desc := "([II)V" } : Jvm.MethodName) prog_13_method_122_code (4 : Nat) (Option.none : Option Jvm.ClassFile.FieldType)) ∈ lw_tbl := ai_in_at 1844 (by decide +kernel)
set_option maxRecDepth 100000 in
theorem tw_1718 : (Cond.methodLink "PathsKeptModel" (597 : Nat) ({ cls := "PathsKeptModel", name := "put", desc := "([II)V" } : Jvm.MethodName)) ∈ lw_tbl := ai_in_at 1841 (by decide +kernel)
set_option maxRecDepth 100000 in
theorem tw_1720 : (Cond.instanceMethod ({ cls := "PathsKeptModel", name := "put", desc := "([II)V" } : Jvm.MethodName)) ∈ lw_tbl := ai_in_at 1843 (by decide +kernel)
set_option maxRecDepth 100000 in
theorem tw_1964 : (Cond.code ({ cls := "PathsKeptModel", name := "take", desc := "([II)V" } : Jvm.MethodName) prog_13_method_123_code (4 : Nat) (Option.none : Option Jvm.ClassFile.FieldType)) ∈ lw_tbl := ai_in_at 2087 (by decide +kernel)
set_option maxRecDepth 100000 in
theorem tw_1961 : (Cond.methodLink "PathsKeptModel" (600 : Nat) ({ cls := "PathsKeptModel", name := "take", desc := "([II)V" } : Jvm.MethodName)) ∈ lw_tbl := ai_in_at 2084 (by decide +kernel)
set_option maxRecDepth 100000 in
theorem tw_1963 : (Cond.instanceMethod ({ cls := "PathsKeptModel", name := "take", desc := "([II)V" } : Jvm.MethodName)) ∈ lw_tbl := ai_in_at 2086 (by decide +kernel)
set_option maxRecDepth 100000 in
theorem tw_1297 : (Cond.fieldLink "PathsKeptModel" (603 : Nat) "PathsKeptModel" "imageRefused" "I") ∈ lw_tbl := ai_in_at 1420 (by decide +kernel)
set_option maxRecDepth 100000 in
theorem tw_1298 : (Cond.fieldLink "PathsKeptModel" (606 : Nat) "PathsKeptModel" "imageDay" "I") ∈ lw_tbl := ai_in_at 1421 (by decide +kernel)
set_option maxRecDepth 100000 in
theorem tw_1299 : (Cond.fieldLink "PathsKeptModel" (609 : Nat) "PathsKeptModel" "imageDrawn" "J") ∈ lw_tbl := ai_in_at 1422 (by decide +kernel)
set_option maxRecDepth 100000 in
theorem tw_813 : (Cond.constant "java/lang/Integer" (265 : Nat) (1431655765 : Int32)) ∈ lw_tbl := ai_in_at 936 (by decide +kernel)
set_option maxRecDepth 100000 in
theorem tw_814 : (Cond.constant "java/lang/Integer" (266 : Nat) (858993459 : Int32)) ∈ lw_tbl := ai_in_at 937 (by decide +kernel)
set_option maxRecDepth 100000 in
theorem tw_815 : (Cond.constant "java/lang/Integer" (267 : Nat) (252645135 : Int32)) ∈ lw_tbl := ai_in_at 938 (by decide +kernel)
set_option maxRecDepth 100000 in
theorem tw_objectInit : Cond.code objectInit ⟨#[0xb1]⟩ 1 none ∈ lw_tbl := ai_in_at 157 (by decide +kernel)
set_option maxRecDepth 100000 in
theorem tp_X0_isSnowing : Cond.selects yX0_isSnowing.cls yX0_isSnowing yX0_isSnowing ∈ lw_tbl := ai_in_at 29 (by decide +kernel)
set_option maxRecDepth 100000 in
theorem tp_X0_goWalks : Cond.selects yX0_goWalks.cls yX0_goWalks yX0_goWalks ∈ lw_tbl := ai_in_at 30 (by decide +kernel)
set_option maxRecDepth 100000 in
theorem tp_X0_growOlder : Cond.selects yX0_growOlder.cls yX0_growOlder yX0_growOlder ∈ lw_tbl := ai_in_at 31 (by decide +kernel)
set_option maxRecDepth 100000 in
theorem tp_X1_winnerFrom : Cond.selects yX1_winnerFrom.cls yX1_winnerFrom yX1_winnerFrom ∈ lw_tbl := ai_in_at 38 (by decide +kernel)
set_option maxRecDepth 100000 in
theorem tp_X1_winnerBehind : Cond.selects yX1_winnerBehind.cls yX1_winnerBehind yX1_winnerBehind ∈ lw_tbl := ai_in_at 39 (by decide +kernel)
set_option maxRecDepth 100000 in
theorem tp_X3_readLine : Cond.selects yX3_readLine.cls yX3_readLine yX3_readLine ∈ lw_tbl := ai_in_at 6 (by decide +kernel)
set_option maxRecDepth 100000 in
theorem tp_X3_expect : Cond.selects yX3_expect.cls yX3_expect yX3_expect ∈ lw_tbl := ai_in_at 11 (by decide +kernel)
set_option maxRecDepth 100000 in
theorem tp_X3_fail : Cond.selects yX3_fail.cls yX3_fail yX3_fail ∈ lw_tbl := ai_in_at 8 (by decide +kernel)
set_option maxRecDepth 100000 in
theorem tp_X3_beginRow : Cond.selects yX3_beginRow.cls yX3_beginRow yX3_beginRow ∈ lw_tbl := ai_in_at 7 (by decide +kernel)
set_option maxRecDepth 100000 in
theorem tp_X3_readNewName : Cond.selects yX3_readNewName.cls yX3_readNewName yX3_readNewName ∈ lw_tbl := ai_in_at 10 (by decide +kernel)
set_option maxRecDepth 100000 in
theorem tp_X3_readPath : Cond.selects yX3_readPath.cls yX3_readPath yX3_readPath ∈ lw_tbl := ai_in_at 12 (by decide +kernel)
set_option maxRecDepth 100000 in
theorem tp_X3_readWalker : Cond.selects yX3_readWalker.cls yX3_readWalker yX3_readWalker ∈ lw_tbl := ai_in_at 15 (by decide +kernel)
set_option maxRecDepth 100000 in
theorem tp_X3_readWalk : Cond.selects yX3_readWalk.cls yX3_readWalk yX3_readWalk ∈ lw_tbl := ai_in_at 16 (by decide +kernel)
set_option maxRecDepth 100000 in
theorem tp_X3_readBull : Cond.selects yX3_readBull.cls yX3_readBull yX3_readBull ∈ lw_tbl := ai_in_at 17 (by decide +kernel)
set_option maxRecDepth 100000 in
theorem tp_X3_beginOnce : Cond.selects yX3_beginOnce.cls yX3_beginOnce yX3_beginOnce ∈ lw_tbl := ai_in_at 18 (by decide +kernel)
set_option maxRecDepth 100000 in
theorem tp_X3_readNumber : Cond.selects yX3_readNumber.cls yX3_readNumber yX3_readNumber ∈ lw_tbl := ai_in_at 14 (by decide +kernel)
set_option maxRecDepth 100000 in
theorem tp_X3_readLaw : Cond.selects yX3_readLaw.cls yX3_readLaw yX3_readLaw ∈ lw_tbl := ai_in_at 19 (by decide +kernel)
set_option maxRecDepth 100000 in
theorem tp_X3_readTold : Cond.selects yX3_readTold.cls yX3_readTold yX3_readTold ∈ lw_tbl := ai_in_at 13 (by decide +kernel)
set_option maxRecDepth 100000 in
theorem tp_X3_readLevel : Cond.selects yX3_readLevel.cls yX3_readLevel yX3_readLevel ∈ lw_tbl := ai_in_at 20 (by decide +kernel)
set_option maxRecDepth 100000 in
theorem tp_X3_readPart : Cond.selects yX3_readPart.cls yX3_readPart yX3_readPart ∈ lw_tbl := ai_in_at 21 (by decide +kernel)
set_option maxRecDepth 100000 in
theorem tp_X3_readNots : Cond.selects yX3_readNots.cls yX3_readNots yX3_readNots ∈ lw_tbl := ai_in_at 23 (by decide +kernel)
set_option maxRecDepth 100000 in
theorem tp_X3_takeKnot : Cond.selects yX3_takeKnot.cls yX3_takeKnot yX3_takeKnot ∈ lw_tbl := ai_in_at 22 (by decide +kernel)
set_option maxRecDepth 100000 in
theorem tp_X7_isBetween : Cond.selects yX7_isBetween.cls yX7_isBetween yX7_isBetween ∈ lw_tbl := ai_in_at 1 (by decide +kernel)
set_option maxRecDepth 100000 in
theorem tp_X7_readWord : Cond.selects yX7_readWord.cls yX7_readWord yX7_readWord ∈ lw_tbl := ai_in_at 2 (by decide +kernel)
set_option maxRecDepth 100000 in
theorem tp_X7_readDigits : Cond.selects yX7_readDigits.cls yX7_readDigits yX7_readDigits ∈ lw_tbl := ai_in_at 3 (by decide +kernel)
set_option maxRecDepth 100000 in
theorem tp_X7_readSign : Cond.selects yX7_readSign.cls yX7_readSign yX7_readSign ∈ lw_tbl := ai_in_at 4 (by decide +kernel)
set_option maxRecDepth 100000 in
theorem tp_X7_takes : Cond.selects yX7_takes.cls yX7_takes yX7_takes ∈ lw_tbl := ai_in_at 5 (by decide +kernel)
set_option maxRecDepth 100000 in
theorem tp_X9_shorten : Cond.selects yX9_shorten.cls yX9_shorten yX9_shorten ∈ lw_tbl := ai_in_at 34 (by decide +kernel)
set_option maxRecDepth 100000 in
theorem tp_X9_goOn : Cond.selects yX9_goOn.cls yX9_goOn yX9_goOn ∈ lw_tbl := ai_in_at 35 (by decide +kernel)
set_option maxRecDepth 100000 in
theorem tp_X9_lessen : Cond.selects yX9_lessen.cls yX9_lessen yX9_lessen ∈ lw_tbl := ai_in_at 36 (by decide +kernel)
set_option maxRecDepth 100000 in
theorem tp_X9_matchFrom : Cond.selects yX9_matchFrom.cls yX9_matchFrom yX9_matchFrom ∈ lw_tbl := ai_in_at 37 (by decide +kernel)
set_option maxRecDepth 100000 in
theorem tp_X10_putFour : Cond.selects yX10_putFour.cls yX10_putFour yX10_putFour ∈ lw_tbl := ai_in_at 0 (by decide +kernel)
set_option maxRecDepth 100000 in
theorem tp_X10_isPath : Cond.selects yX10_isPath.cls yX10_isPath yX10_isPath ∈ lw_tbl := ai_in_at 26 (by decide +kernel)
set_option maxRecDepth 100000 in
theorem tp_X10_isWalker : Cond.selects yX10_isWalker.cls yX10_isWalker yX10_isWalker ∈ lw_tbl := ai_in_at 24 (by decide +kernel)
set_option maxRecDepth 100000 in
theorem tp_X10_pathsHeCanGo : Cond.selects yX10_pathsHeCanGo.cls yX10_pathsHeCanGo yX10_pathsHeCanGo ∈ lw_tbl := ai_in_at 25 (by decide +kernel)
set_option maxRecDepth 100000 in
theorem tp_X10_remember : Cond.selects yX10_remember.cls yX10_remember yX10_remember ∈ lw_tbl := ai_in_at 27 (by decide +kernel)
set_option maxRecDepth 100000 in
theorem tp_X10_isPlace : Cond.selects yX10_isPlace.cls yX10_isPlace yX10_isPlace ∈ lw_tbl := ai_in_at 28 (by decide +kernel)
set_option maxRecDepth 100000 in
theorem tp_X10_isAsked : Cond.selects yX10_isAsked.cls yX10_isAsked yX10_isAsked ∈ lw_tbl := ai_in_at 32 (by decide +kernel)
set_option maxRecDepth 100000 in
theorem tp_X10_beginAhead : Cond.selects yX10_beginAhead.cls yX10_beginAhead yX10_beginAhead ∈ lw_tbl := ai_in_at 33 (by decide +kernel)
set_option maxRecDepth 100000 in
theorem tp_X10_isPair : Cond.selects yX10_isPair.cls yX10_isPair yX10_isPair ∈ lw_tbl := ai_in_at 40 (by decide +kernel)
set_option maxRecDepth 100000 in
theorem tp_X10_isRest : Cond.selects yX10_isRest.cls yX10_isRest yX10_isRest ∈ lw_tbl := ai_in_at 41 (by decide +kernel)
set_option maxRecDepth 100000 in
theorem tp_X10_placeIfLegs : Cond.selects yX10_placeIfLegs.cls yX10_placeIfLegs yX10_placeIfLegs ∈ lw_tbl := ai_in_at 42 (by decide +kernel)
set_option maxRecDepth 100000 in
theorem tp_X11_plain : Cond.selects yX11_plain.cls yX11_plain yX11_plain ∈ lw_tbl := ai_in_at 43 (by decide +kernel)
set_option maxRecDepth 100000 in
theorem tp_X11_keepText : Cond.selects yX11_keepText.cls yX11_keepText yX11_keepText ∈ lw_tbl := ai_in_at 44 (by decide +kernel)
set_option maxRecDepth 100000 in
theorem tp_X11_isSmall : Cond.selects yX11_isSmall.cls yX11_isSmall yX11_isSmall ∈ lw_tbl := ai_in_at 49 (by decide +kernel)
set_option maxRecDepth 100000 in
theorem tp_X11_wordAt : Cond.selects yX11_wordAt.cls yX11_wordAt yX11_wordAt ∈ lw_tbl := ai_in_at 50 (by decide +kernel)
set_option maxRecDepth 100000 in
theorem tp_X11_packed : Cond.selects yX11_packed.cls yX11_packed yX11_packed ∈ lw_tbl := ai_in_at 51 (by decide +kernel)
set_option maxRecDepth 100000 in
theorem tp_X11_isDigit : Cond.selects yX11_isDigit.cls yX11_isDigit yX11_isDigit ∈ lw_tbl := ai_in_at 52 (by decide +kernel)
set_option maxRecDepth 100000 in
theorem tp_X11_signToken : Cond.selects yX11_signToken.cls yX11_signToken yX11_signToken ∈ lw_tbl := ai_in_at 53 (by decide +kernel)
set_option maxRecDepth 100000 in
theorem tp_X11_wrong : Cond.selects yX11_wrong.cls yX11_wrong yX11_wrong ∈ lw_tbl := ai_in_at 55 (by decide +kernel)
set_option maxRecDepth 100000 in
theorem tp_X11_token : Cond.selects yX11_token.cls yX11_token yX11_token ∈ lw_tbl := ai_in_at 48 (by decide +kernel)
set_option maxRecDepth 100000 in
theorem tp_X11_begin : Cond.selects yX11_begin.cls yX11_begin yX11_begin ∈ lw_tbl := ai_in_at 45 (by decide +kernel)
set_option maxRecDepth 100000 in
theorem tp_X11_newName : Cond.selects yX11_newName.cls yX11_newName yX11_newName ∈ lw_tbl := ai_in_at 57 (by decide +kernel)
set_option maxRecDepth 100000 in
theorem tp_X11_thereIn : Cond.selects yX11_thereIn.cls yX11_thereIn yX11_thereIn ∈ lw_tbl := ai_in_at 59 (by decide +kernel)
set_option maxRecDepth 100000 in
theorem tp_X11_number : Cond.selects yX11_number.cls yX11_number yX11_number ∈ lw_tbl := ai_in_at 60 (by decide +kernel)
set_option maxRecDepth 100000 in
theorem tp_X11_placeLine : Cond.selects yX11_placeLine.cls yX11_placeLine yX11_placeLine ∈ lw_tbl := ai_in_at 56 (by decide +kernel)
set_option maxRecDepth 100000 in
theorem tp_X11_pathLine : Cond.selects yX11_pathLine.cls yX11_pathLine yX11_pathLine ∈ lw_tbl := ai_in_at 58 (by decide +kernel)
set_option maxRecDepth 100000 in
theorem tp_X11_walkerLine : Cond.selects yX11_walkerLine.cls yX11_walkerLine yX11_walkerLine ∈ lw_tbl := ai_in_at 61 (by decide +kernel)
set_option maxRecDepth 100000 in
theorem tp_X11_walkLine : Cond.selects yX11_walkLine.cls yX11_walkLine yX11_walkLine ∈ lw_tbl := ai_in_at 62 (by decide +kernel)
set_option maxRecDepth 100000 in
theorem tp_X11_bullLine : Cond.selects yX11_bullLine.cls yX11_bullLine yX11_bullLine ∈ lw_tbl := ai_in_at 63 (by decide +kernel)
set_option maxRecDepth 100000 in
theorem tp_X11_onceLine : Cond.selects yX11_onceLine.cls yX11_onceLine yX11_onceLine ∈ lw_tbl := ai_in_at 64 (by decide +kernel)
set_option maxRecDepth 100000 in
theorem tp_X11_sumRead : Cond.selects yX11_sumRead.cls yX11_sumRead yX11_sumRead ∈ lw_tbl := ai_in_at 65 (by decide +kernel)
set_option maxRecDepth 100000 in
theorem tp_X11_isSign : Cond.selects yX11_isSign.cls yX11_isSign yX11_isSign ∈ lw_tbl := ai_in_at 66 (by decide +kernel)
set_option maxRecDepth 100000 in
theorem tp_X11_lineRead : Cond.selects yX11_lineRead.cls yX11_lineRead yX11_lineRead ∈ lw_tbl := ai_in_at 54 (by decide +kernel)
set_option maxRecDepth 100000 in
theorem tp_X11_dropHeld : Cond.selects yX11_dropHeld.cls yX11_dropHeld yX11_dropHeld ∈ lw_tbl := ai_in_at 75 (by decide +kernel)
set_option maxRecDepth 100000 in
theorem tp_X11_grown : Cond.selects yX11_grown.cls yX11_grown yX11_grown ∈ lw_tbl := ai_in_at 72 (by decide +kernel)
set_option maxRecDepth 100000 in
theorem tp_X11_waitsFor : Cond.selects yX11_waitsFor.cls yX11_waitsFor yX11_waitsFor ∈ lw_tbl := ai_in_at 68 (by decide +kernel)
set_option maxRecDepth 100000 in
theorem tp_X11_isKey : Cond.selects yX11_isKey.cls yX11_isKey yX11_isKey ∈ lw_tbl := ai_in_at 69 (by decide +kernel)
set_option maxRecDepth 100000 in
theorem tp_X11_isCounted : Cond.selects yX11_isCounted.cls yX11_isCounted yX11_isCounted ∈ lw_tbl := ai_in_at 70 (by decide +kernel)
set_option maxRecDepth 100000 in
theorem tp_X11_nameMet : Cond.selects yX11_nameMet.cls yX11_nameMet yX11_nameMet ∈ lw_tbl := ai_in_at 71 (by decide +kernel)
set_option maxRecDepth 100000 in
theorem tp_X11_bind : Cond.selects yX11_bind.cls yX11_bind yX11_bind ∈ lw_tbl := ai_in_at 74 (by decide +kernel)
set_option maxRecDepth 100000 in
theorem tp_X11_leafRead : Cond.selects yX11_leafRead.cls yX11_leafRead yX11_leafRead ∈ lw_tbl := ai_in_at 67 (by decide +kernel)
set_option maxRecDepth 100000 in
theorem tp_X11_signs : Cond.selects yX11_signs.cls yX11_signs yX11_signs ∈ lw_tbl := ai_in_at 73 (by decide +kernel)
set_option maxRecDepth 100000 in
theorem tp_X11_bounded : Cond.selects yX11_bounded.cls yX11_bounded yX11_bounded ∈ lw_tbl := ai_in_at 87 (by decide +kernel)
set_option maxRecDepth 100000 in
theorem tp_X11_times : Cond.selects yX11_times.cls yX11_times yX11_times ∈ lw_tbl := ai_in_at 88 (by decide +kernel)
set_option maxRecDepth 100000 in
theorem tp_X11_atFirst : Cond.selects yX11_atFirst.cls yX11_atFirst yX11_atFirst ∈ lw_tbl := ai_in_at 46 (by decide +kernel)
set_option maxRecDepth 100000 in
theorem tp_X11_plainTried : Cond.selects yX11_plainTried.cls yX11_plainTried yX11_plainTried ∈ lw_tbl := ai_in_at 47 (by decide +kernel)
set_option maxRecDepth 100000 in
theorem tp_X11_layPath : Cond.selects yX11_layPath.cls yX11_layPath yX11_layPath ∈ lw_tbl := ai_in_at 84 (by decide +kernel)
set_option maxRecDepth 100000 in
theorem tp_X11_legsIn : Cond.selects yX11_legsIn.cls yX11_legsIn yX11_legsIn ∈ lw_tbl := ai_in_at 82 (by decide +kernel)
set_option maxRecDepth 100000 in
theorem tp_X11_valueOf : Cond.selects yX11_valueOf.cls yX11_valueOf yX11_valueOf ∈ lw_tbl := ai_in_at 86 (by decide +kernel)
set_option maxRecDepth 100000 in
theorem tp_X11_layBoth : Cond.selects yX11_layBoth.cls yX11_layBoth yX11_layBoth ∈ lw_tbl := ai_in_at 83 (by decide +kernel)
set_option maxRecDepth 100000 in
theorem tp_X11_lawOf : Cond.selects yX11_lawOf.cls yX11_lawOf yX11_lawOf ∈ lw_tbl := ai_in_at 85 (by decide +kernel)
set_option maxRecDepth 100000 in
theorem tp_X11_isAtEnd : Cond.selects yX11_isAtEnd.cls yX11_isAtEnd yX11_isAtEnd ∈ lw_tbl := ai_in_at 81 (by decide +kernel)
set_option maxRecDepth 100000 in
theorem tp_X11_hasBull : Cond.selects yX11_hasBull.cls yX11_hasBull yX11_hasBull ∈ lw_tbl := ai_in_at 78 (by decide +kernel)
set_option maxRecDepth 100000 in
theorem tp_X11_costOf : Cond.selects yX11_costOf.cls yX11_costOf yX11_costOf ∈ lw_tbl := ai_in_at 89 (by decide +kernel)
set_option maxRecDepth 100000 in
theorem tp_X11_number1 : Cond.selects yX11_number1.cls yX11_number1 yX11_number1 ∈ lw_tbl := ai_in_at 96 (by decide +kernel)
set_option maxRecDepth 100000 in
theorem tp_X11_isSnow : Cond.selects yX11_isSnow.cls yX11_isSnow yX11_isSnow ∈ lw_tbl := ai_in_at 95 (by decide +kernel)
set_option maxRecDepth 100000 in
theorem tp_X11_can : Cond.selects yX11_can.cls yX11_can yX11_can ∈ lw_tbl := ai_in_at 80 (by decide +kernel)
set_option maxRecDepth 100000 in
theorem tp_X11_goes : Cond.selects yX11_goes.cls yX11_goes yX11_goes ∈ lw_tbl := ai_in_at 92 (by decide +kernel)
set_option maxRecDepth 100000 in
theorem tp_X11_termOf : Cond.selects yX11_termOf.cls yX11_termOf yX11_termOf ∈ lw_tbl := ai_in_at 97 (by decide +kernel)
set_option maxRecDepth 100000 in
theorem tp_X11_dayGoes : Cond.selects yX11_dayGoes.cls yX11_dayGoes yX11_dayGoes ∈ lw_tbl := ai_in_at 94 (by decide +kernel)
set_option maxRecDepth 100000 in
theorem tp_X11_isPath : Cond.selects yX11_isPath.cls yX11_isPath yX11_isPath ∈ lw_tbl := ai_in_at 76 (by decide +kernel)
set_option maxRecDepth 100000 in
theorem tp_X11_fails : Cond.selects yX11_fails.cls yX11_fails yX11_fails ∈ lw_tbl := ai_in_at 77 (by decide +kernel)
set_option maxRecDepth 100000 in
theorem tp_X11_isWalker : Cond.selects yX11_isWalker.cls yX11_isWalker yX11_isWalker ∈ lw_tbl := ai_in_at 79 (by decide +kernel)
set_option maxRecDepth 100000 in
theorem tp_X11_remember : Cond.selects yX11_remember.cls yX11_remember yX11_remember ∈ lw_tbl := ai_in_at 90 (by decide +kernel)
set_option maxRecDepth 100000 in
theorem tp_X11_isPlace : Cond.selects yX11_isPlace.cls yX11_isPlace yX11_isPlace ∈ lw_tbl := ai_in_at 93 (by decide +kernel)
set_option maxRecDepth 100000 in
theorem tp_X11_layTried : Cond.selects yX11_layTried.cls yX11_layTried yX11_layTried ∈ lw_tbl := ai_in_at 98 (by decide +kernel)
set_option maxRecDepth 100000 in
theorem tp_X11_goMany : Cond.selects yX11_goMany.cls yX11_goMany yX11_goMany ∈ lw_tbl := ai_in_at 99 (by decide +kernel)
set_option maxRecDepth 100000 in
theorem tp_X11_keptMany : Cond.selects yX11_keptMany.cls yX11_keptMany yX11_keptMany ∈ lw_tbl := ai_in_at 100 (by decide +kernel)
set_option maxRecDepth 100000 in
theorem tp_X11_isOpen : Cond.selects yX11_isOpen.cls yX11_isOpen yX11_isOpen ∈ lw_tbl := ai_in_at 102 (by decide +kernel)
set_option maxRecDepth 100000 in
theorem tp_X11_takesMore : Cond.selects yX11_takesMore.cls yX11_takesMore yX11_takesMore ∈ lw_tbl := ai_in_at 103 (by decide +kernel)
set_option maxRecDepth 100000 in
theorem tp_X11_otherEnd : Cond.selects yX11_otherEnd.cls yX11_otherEnd yX11_otherEnd ∈ lw_tbl := ai_in_at 104 (by decide +kernel)
set_option maxRecDepth 100000 in
theorem tp_X11_settle : Cond.selects yX11_settle.cls yX11_settle yX11_settle ∈ lw_tbl := ai_in_at 101 (by decide +kernel)
set_option maxRecDepth 100000 in
theorem tp_X11_layRoots : Cond.selects yX11_layRoots.cls yX11_layRoots yX11_layRoots ∈ lw_tbl := ai_in_at 106 (by decide +kernel)
set_option maxRecDepth 100000 in
theorem tp_X11_pairsOf : Cond.selects yX11_pairsOf.cls yX11_pairsOf yX11_pairsOf ∈ lw_tbl := ai_in_at 105 (by decide +kernel)
set_option maxRecDepth 100000 in
theorem tp_X11_keptAt : Cond.selects yX11_keptAt.cls yX11_keptAt yX11_keptAt ∈ lw_tbl := ai_in_at 107 (by decide +kernel)
set_option maxRecDepth 100000 in
theorem tp_X11_ageBy : Cond.selects yX11_ageBy.cls yX11_ageBy yX11_ageBy ∈ lw_tbl := ai_in_at 108 (by decide +kernel)
set_option maxRecDepth 100000 in
theorem tp_X11_isLed : Cond.selects yX11_isLed.cls yX11_isLed yX11_isLed ∈ lw_tbl := ai_in_at 110 (by decide +kernel)
set_option maxRecDepth 100000 in
theorem tp_X11_winsBy : Cond.selects yX11_winsBy.cls yX11_winsBy yX11_winsBy ∈ lw_tbl := ai_in_at 111 (by decide +kernel)
set_option maxRecDepth 100000 in
theorem tp_X11_layGame : Cond.selects yX11_layGame.cls yX11_layGame yX11_layGame ∈ lw_tbl := ai_in_at 109 (by decide +kernel)
set_option maxRecDepth 100000 in
theorem tp_X11_hasBy : Cond.selects yX11_hasBy.cls yX11_hasBy yX11_hasBy ∈ lw_tbl := ai_in_at 114 (by decide +kernel)
set_option maxRecDepth 100000 in
theorem tp_X11_areTwo : Cond.selects yX11_areTwo.cls yX11_areTwo yX11_areTwo ∈ lw_tbl := ai_in_at 112 (by decide +kernel)
set_option maxRecDepth 100000 in
theorem tp_X11_restAt : Cond.selects yX11_restAt.cls yX11_restAt yX11_restAt ∈ lw_tbl := ai_in_at 113 (by decide +kernel)
set_option maxRecDepth 100000 in
theorem tp_X11_noted : Cond.selects yX11_noted.cls yX11_noted yX11_noted ∈ lw_tbl := ai_in_at 115 (by decide +kernel)
set_option maxRecDepth 100000 in
theorem tp_X11_knownBy : Cond.selects yX11_knownBy.cls yX11_knownBy yX11_knownBy ∈ lw_tbl := ai_in_at 118 (by decide +kernel)
set_option maxRecDepth 100000 in
theorem tp_X11_layLegs : Cond.selects yX11_layLegs.cls yX11_layLegs yX11_layLegs ∈ lw_tbl := ai_in_at 120 (by decide +kernel)
set_option maxRecDepth 100000 in
theorem tp_X11_isSo : Cond.selects yX11_isSo.cls yX11_isSo yX11_isSo ∈ lw_tbl := ai_in_at 121 (by decide +kernel)
set_option maxRecDepth 100000 in
theorem tp_X11_layCounts : Cond.selects yX11_layCounts.cls yX11_layCounts yX11_layCounts ∈ lw_tbl := ai_in_at 117 (by decide +kernel)
set_option maxRecDepth 100000 in
theorem tp_X11_fits : Cond.selects yX11_fits.cls yX11_fits yX11_fits ∈ lw_tbl := ai_in_at 119 (by decide +kernel)
set_option maxRecDepth 100000 in
theorem tp_X11_legsBits : Cond.selects yX11_legsBits.cls yX11_legsBits yX11_legsBits ∈ lw_tbl := ai_in_at 116 (by decide +kernel)
set_option maxRecDepth 100000 in
theorem tp_X11_put : Cond.selects yX11_put.cls yX11_put yX11_put ∈ lw_tbl := ai_in_at 91 (by decide +kernel)
set_option maxRecDepth 100000 in
theorem tp_X11_take : Cond.selects yX11_take.cls yX11_take yX11_take ∈ lw_tbl := ai_in_at 122 (by decide +kernel)
