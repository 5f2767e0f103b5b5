/-! ===== the words that the operations use, by their places in the table ===== -/
set_option maxRecDepth 100000 in
theorem tw_729 : (Cond.methodLink "PathsKeptLaw" (49 : Nat) ({ cls := "PathsKept", name := "walker", desc := "(II)I" } : Jvm.MethodName)) ∈ lw_tbl := ai_in_at 852 (by decide +kernel)
set_option maxRecDepth 100000 in
theorem tw_730 : (Cond.instanceMethod ({ cls := "PathsKept", name := "walker", desc := "(II)I" } : Jvm.MethodName)) ∈ lw_tbl := ai_in_at 853 (by decide +kernel)
set_option maxRecDepth 100000 in
theorem tw_731 : (Cond.selects "PathsKept" ({ cls := "PathsKept", name := "walker", desc := "(II)I" } : Jvm.MethodName) ({ cls := "PathsKept", name := "walker", desc := "(II)I" } : Jvm.MethodName)) ∈ lw_tbl := ai_in_at 854 (by decide +kernel)
set_option maxRecDepth 100000 in
theorem tw_732 : (Cond.code ({ cls := "PathsKept", name := "walker", desc := "(II)I" } : Jvm.MethodName) prog_1_method_12_code (3 : Nat) (Option.some Jvm.ClassFile.FieldType.int)) ∈ lw_tbl := ai_in_at 855 (by decide +kernel)
set_option maxRecDepth 100000 in
theorem tw_733 : (Cond.methodLink "PathsKept" (161 : Nat) ({ cls := "PathsKept", name := "isWalker", desc := "(I)Z" } : Jvm.MethodName)) ∈ lw_tbl := ai_in_at 856 (by decide +kernel)
set_option maxRecDepth 100000 in
theorem tw_735 : (Cond.instanceMethod ({ cls := "PathsKept", name := "isWalker", desc := "(I)Z" } : Jvm.MethodName)) ∈ lw_tbl := ai_in_at 858 (by decide +kernel)
set_option maxRecDepth 100000 in
theorem tw_736 : (Cond.code ({ cls := "PathsKept", name := "isWalker", desc := "(I)Z" } : Jvm.MethodName) prog_1_method_9_code (2 : Nat) (Option.some Jvm.ClassFile.FieldType.boolean)) ∈ lw_tbl := ai_in_at 859 (by decide +kernel)
set_option maxRecDepth 100000 in
theorem tw_737 : (Cond.methodLink "PathsKept" (135 : Nat) ({ cls := "PathsKept$Table", name := "cell", desc := "(II)I" } : Jvm.MethodName)) ∈ lw_tbl := ai_in_at 860 (by decide +kernel)
set_option maxRecDepth 100000 in
theorem tw_738 : (Cond.methodLink "PathsKept" (170 : Nat) ({ cls := "PathsKept", name := "pathsHeCanGo", desc := "(I)I" } : Jvm.MethodName)) ∈ lw_tbl := ai_in_at 861 (by decide +kernel)
set_option maxRecDepth 100000 in
theorem tw_740 : (Cond.instanceMethod ({ cls := "PathsKept", name := "pathsHeCanGo", desc := "(I)I" } : Jvm.MethodName)) ∈ lw_tbl := ai_in_at 863 (by decide +kernel)
set_option maxRecDepth 100000 in
theorem tw_741 : (Cond.code ({ cls := "PathsKept", name := "pathsHeCanGo", desc := "(I)I" } : Jvm.MethodName) prog_1_method_13_code (4 : Nat) (Option.some Jvm.ClassFile.FieldType.int)) ∈ lw_tbl := ai_in_at 864 (by decide +kernel)
set_option maxRecDepth 100000 in
theorem tw_742 : (Cond.methodLink "PathsKept" (173 : Nat) ({ cls := "PathsKept$Days", name := "begin", desc := "(LPathsKept$Told;LPathsKept$Standing;I)V" } : Jvm.MethodName)) ∈ lw_tbl := ai_in_at 865 (by decide +kernel)
set_option maxRecDepth 100000 in
theorem tw_743 : (Cond.instanceMethod ({ cls := "PathsKept$Days", name := "begin", desc := "(LPathsKept$Told;LPathsKept$Standing;I)V" } : Jvm.MethodName)) ∈ lw_tbl := ai_in_at 866 (by decide +kernel)
set_option maxRecDepth 100000 in
theorem tw_744 : (Cond.selects "PathsKept$Days" ({ cls := "PathsKept$Days", name := "begin", desc := "(LPathsKept$Told;LPathsKept$Standing;I)V" } : Jvm.MethodName) ({ cls := "PathsKept$Days", name := "begin", desc := "(LPathsKept$Told;LPathsKept$Standing;I)V" } : Jvm.MethodName)) ∈ lw_tbl := ai_in_at 867 (by decide +kernel)
set_option maxRecDepth 100000 in
theorem tw_745 : (Cond.code ({ cls := "PathsKept$Days", name := "begin", desc := "(LPathsKept$Told;LPathsKept$Standing;I)V" } : Jvm.MethodName) prog_2_method_2_code (5 : Nat) (Option.none : Option Jvm.ClassFile.FieldType)) ∈ lw_tbl := ai_in_at 868 (by decide +kernel)
set_option maxRecDepth 100000 in
theorem tw_746 : (Cond.methodLink "PathsKept$Days" (39 : Nat) ({ cls := "PathsKept$Laws", name := "isTold", desc := "(I)Z" } : Jvm.MethodName)) ∈ lw_tbl := ai_in_at 869 (by decide +kernel)
set_option maxRecDepth 100000 in
theorem tw_747 : (Cond.instanceMethod ({ cls := "PathsKept$Laws", name := "isTold", desc := "(I)Z" } : Jvm.MethodName)) ∈ lw_tbl := ai_in_at 870 (by decide +kernel)
set_option maxRecDepth 100000 in
theorem tw_748 : (Cond.selects "PathsKept$Laws" ({ cls := "PathsKept$Laws", name := "isTold", desc := "(I)Z" } : Jvm.MethodName) ({ cls := "PathsKept$Laws", name := "isTold", desc := "(I)Z" } : Jvm.MethodName)) ∈ lw_tbl := ai_in_at 871 (by decide +kernel)
set_option maxRecDepth 100000 in
theorem tw_749 : (Cond.code ({ cls := "PathsKept$Laws", name := "isTold", desc := "(I)Z" } : Jvm.MethodName) prog_4_method_4_code (2 : Nat) (Option.some Jvm.ClassFile.FieldType.boolean)) ∈ lw_tbl := ai_in_at 872 (by decide +kernel)
set_option maxRecDepth 100000 in
theorem tw_750 : (Cond.methodLink "PathsKept$Days" (57 : Nat) ({ cls := "PathsKept$Table", name := "cell", desc := "(II)I" } : Jvm.MethodName)) ∈ lw_tbl := ai_in_at 873 (by decide +kernel)
set_option maxRecDepth 100000 in
theorem tw_751 : (Cond.methodLink "PathsKept" (176 : Nat) ({ cls := "PathsKept$Days", name := "costIfHeCan", desc := "(II)I" } : Jvm.MethodName)) ∈ lw_tbl := ai_in_at 874 (by decide +kernel)
set_option maxRecDepth 100000 in
theorem tw_752 : (Cond.instanceMethod ({ cls := "PathsKept$Days", name := "costIfHeCan", desc := "(II)I" } : Jvm.MethodName)) ∈ lw_tbl := ai_in_at 875 (by decide +kernel)
set_option maxRecDepth 100000 in
theorem tw_753 : (Cond.selects "PathsKept$Days" ({ cls := "PathsKept$Days", name := "costIfHeCan", desc := "(II)I" } : Jvm.MethodName) ({ cls := "PathsKept$Days", name := "costIfHeCan", desc := "(II)I" } : Jvm.MethodName)) ∈ lw_tbl := ai_in_at 876 (by decide +kernel)
set_option maxRecDepth 100000 in
theorem tw_754 : (Cond.code ({ cls := "PathsKept$Days", name := "costIfHeCan", desc := "(II)I" } : Jvm.MethodName) prog_2_method_9_code (7 : Nat) (Option.some Jvm.ClassFile.FieldType.int)) ∈ lw_tbl := ai_in_at 877 (by decide +kernel)
set_option maxRecDepth 100000 in
theorem tw_755 : (Cond.methodLink "PathsKept$Days" (156 : Nat) ({ cls := "PathsKept$Told", name := "ends", desc := "(I)I" } : Jvm.MethodName)) ∈ lw_tbl := ai_in_at 878 (by decide +kernel)
set_option maxRecDepth 100000 in
theorem tw_756 : (Cond.instanceMethod ({ cls := "PathsKept$Told", name := "ends", desc := "(I)I" } : Jvm.MethodName)) ∈ lw_tbl := ai_in_at 879 (by decide +kernel)
set_option maxRecDepth 100000 in
theorem tw_757 : (Cond.selects "PathsKept$Told" ({ cls := "PathsKept$Told", name := "ends", desc := "(I)I" } : Jvm.MethodName) ({ cls := "PathsKept$Told", name := "ends", desc := "(I)I" } : Jvm.MethodName)) ∈ lw_tbl := ai_in_at 880 (by decide +kernel)
set_option maxRecDepth 100000 in
theorem tw_758 : (Cond.code ({ cls := "PathsKept$Told", name := "ends", desc := "(I)I" } : Jvm.MethodName) prog_10_method_3_code (2 : Nat) (Option.some Jvm.ClassFile.FieldType.int)) ∈ lw_tbl := ai_in_at 881 (by decide +kernel)
set_option maxRecDepth 100000 in
theorem tw_759 : (Cond.methodLink "PathsKept$Told" (58 : Nat) ({ cls := "PathsKept$Table", name := "cell", desc := "(II)I" } : Jvm.MethodName)) ∈ lw_tbl := ai_in_at 882 (by decide +kernel)
set_option maxRecDepth 100000 in
theorem tw_760 : (Cond.methodLink "PathsKept$Days" (83 : Nat) ({ cls := "PathsKept$Standing", name := "isKept", desc := "(I)Z" } : Jvm.MethodName)) ∈ lw_tbl := ai_in_at 883 (by decide +kernel)
set_option maxRecDepth 100000 in
theorem tw_761 : (Cond.instanceMethod ({ cls := "PathsKept$Standing", name := "isKept", desc := "(I)Z" } : Jvm.MethodName)) ∈ lw_tbl := ai_in_at 884 (by decide +kernel)
set_option maxRecDepth 100000 in
theorem tw_762 : (Cond.selects "PathsKept$Standing" ({ cls := "PathsKept$Standing", name := "isKept", desc := "(I)Z" } : Jvm.MethodName) ({ cls := "PathsKept$Standing", name := "isKept", desc := "(I)Z" } : Jvm.MethodName)) ∈ lw_tbl := ai_in_at 885 (by decide +kernel)
set_option maxRecDepth 100000 in
theorem tw_763 : (Cond.code ({ cls := "PathsKept$Standing", name := "isKept", desc := "(I)Z" } : Jvm.MethodName) prog_7_method_4_code (2 : Nat) (Option.some Jvm.ClassFile.FieldType.boolean)) ∈ lw_tbl := ai_in_at 886 (by decide +kernel)
set_option maxRecDepth 100000 in
theorem tw_764 : (Cond.methodLink "PathsKept$Days" (163 : Nat) ({ cls := "PathsKept$Told", name := "isBullOn", desc := "(II)Z" } : Jvm.MethodName)) ∈ lw_tbl := ai_in_at 887 (by decide +kernel)
set_option maxRecDepth 100000 in
theorem tw_765 : (Cond.instanceMethod ({ cls := "PathsKept$Told", name := "isBullOn", desc := "(II)Z" } : Jvm.MethodName)) ∈ lw_tbl := ai_in_at 888 (by decide +kernel)
set_option maxRecDepth 100000 in
theorem tw_766 : (Cond.selects "PathsKept$Told" ({ cls := "PathsKept$Told", name := "isBullOn", desc := "(II)Z" } : Jvm.MethodName) ({ cls := "PathsKept$Told", name := "isBullOn", desc := "(II)Z" } : Jvm.MethodName)) ∈ lw_tbl := ai_in_at 889 (by decide +kernel)
set_option maxRecDepth 100000 in
theorem tw_767 : (Cond.code ({ cls := "PathsKept$Told", name := "isBullOn", desc := "(II)Z" } : Jvm.MethodName) prog_10_method_4_code (4 : Nat) (Option.some Jvm.ClassFile.FieldType.boolean)) ∈ lw_tbl := ai_in_at 890 (by decide +kernel)
set_option maxRecDepth 100000 in
theorem tw_768 : (Cond.methodLinkNest "PathsKept$Told" (62 : Nat) ({ cls := "PathsKept", name := "isWithin", desc := "(III)Z" } : Jvm.MethodName) "PathsKept") ∈ lw_tbl := ai_in_at 891 (by decide +kernel)
set_option maxRecDepth 100000 in
theorem tw_769 : (Cond.methodLink "PathsKept$Days" (125 : Nat) ({ cls := "PathsKept$Days", name := "lookAt", desc := "(II)V" } : Jvm.MethodName)) ∈ lw_tbl := ai_in_at 892 (by decide +kernel)
set_option maxRecDepth 100000 in
theorem tw_770 : (Cond.instanceMethod ({ cls := "PathsKept$Days", name := "lookAt", desc := "(II)V" } : Jvm.MethodName)) ∈ lw_tbl := ai_in_at 893 (by decide +kernel)
set_option maxRecDepth 100000 in
theorem tw_771 : (Cond.selects "PathsKept$Days" ({ cls := "PathsKept$Days", name := "lookAt", desc := "(II)V" } : Jvm.MethodName) ({ cls := "PathsKept$Days", name := "lookAt", desc := "(II)V" } : Jvm.MethodName)) ∈ lw_tbl := ai_in_at 894 (by decide +kernel)
set_option maxRecDepth 100000 in
theorem tw_772 : (Cond.code ({ cls := "PathsKept$Days", name := "lookAt", desc := "(II)V" } : Jvm.MethodName) prog_2_method_8_code (4 : Nat) (Option.none : Option Jvm.ClassFile.FieldType)) ∈ lw_tbl := ai_in_at 895 (by decide +kernel)
set_option maxRecDepth 100000 in
theorem tw_773 : (Cond.methodLink "PathsKept$Days" (129 : Nat) ({ cls := "PathsKept$Laws", name := "value", desc := "(IJ)J" } : Jvm.MethodName)) ∈ lw_tbl := ai_in_at 896 (by decide +kernel)
set_option maxRecDepth 100000 in
theorem tw_774 : (Cond.instanceMethod ({ cls := "PathsKept$Laws", name := "value", desc := "(IJ)J" } : Jvm.MethodName)) ∈ lw_tbl := ai_in_at 897 (by decide +kernel)
set_option maxRecDepth 100000 in
theorem tw_775 : (Cond.selects "PathsKept$Laws" ({ cls := "PathsKept$Laws", name := "value", desc := "(IJ)J" } : Jvm.MethodName) ({ cls := "PathsKept$Laws", name := "value", desc := "(IJ)J" } : Jvm.MethodName)) ∈ lw_tbl := ai_in_at 898 (by decide +kernel)
set_option maxRecDepth 100000 in
theorem tw_776 : (Cond.code ({ cls := "PathsKept$Laws", name := "value", desc := "(IJ)J" } : Jvm.MethodName) prog_4_method_5_code (9 : Nat) (Option.some Jvm.ClassFile.FieldType.long)) ∈ lw_tbl := ai_in_at 899 (by decide +kernel)
set_option maxRecDepth 100000 in
theorem tw_777 : (Cond.methodLink "PathsKept$Laws" (48 : Nat) ({ cls := "PathsKept$Tokens", name := "isName", desc := "(I)Z" } : Jvm.MethodName)) ∈ lw_tbl := ai_in_at 900 (by decide +kernel)
set_option maxRecDepth 100000 in
theorem tw_778 : (Cond.methodLink "PathsKept$Laws" (52 : Nat) ({ cls := "PathsKept$Laws", name := "join", desc := "(IJJ)J" } : Jvm.MethodName)) ∈ lw_tbl := ai_in_at 901 (by decide +kernel)
set_option maxRecDepth 100000 in
theorem tw_779 : (Cond.static ({ cls := "PathsKept$Laws", name := "join", desc := "(IJJ)J" } : Jvm.MethodName)) ∈ lw_tbl := ai_in_at 902 (by decide +kernel)
set_option maxRecDepth 100000 in
theorem tw_780 : (Cond.code ({ cls := "PathsKept$Laws", name := "join", desc := "(IJJ)J" } : Jvm.MethodName) prog_4_method_6_code (5 : Nat) (Option.some Jvm.ClassFile.FieldType.long)) ∈ lw_tbl := ai_in_at 903 (by decide +kernel)
set_option maxRecDepth 100000 in
theorem tw_781 : (Cond.methodLink "PathsKept$Laws" (60 : Nat) ({ cls := "java/lang/Math", name := "abs", desc := "(J)J" } : Jvm.MethodName)) ∈ lw_tbl := ai_in_at 904 (by decide +kernel)
set_option maxRecDepth 100000 in
theorem tw_782 : (Cond.static ({ cls := "java/lang/Math", name := "abs", desc := "(J)J" } : Jvm.MethodName)) ∈ lw_tbl := ai_in_at 905 (by decide +kernel)
set_option maxRecDepth 100000 in
theorem tw_783 : (Cond.code ({ cls := "java/lang/Math", name := "abs", desc := "(J)J" } : Jvm.MethodName) prog_21_method_61_code (2 : Nat) (Option.some Jvm.ClassFile.FieldType.long)) ∈ lw_tbl := ai_in_at 906 (by decide +kernel)
set_option maxRecDepth 100000 in
theorem tw_784 : (Cond.constantLong "PathsKept$Laws" (56 : Nat) (1000000000000 : Int64)) ∈ lw_tbl := ai_in_at 907 (by decide +kernel)
set_option maxRecDepth 100000 in
theorem tw_785 : (Cond.constantLong "PathsKept$Laws" (66 : Nat) (-9223372036854775808 : Int64)) ∈ lw_tbl := ai_in_at 908 (by decide +kernel)
set_option maxRecDepth 100000 in
theorem tw_786 : (Cond.constantLong "PathsKept$Laws" (58 : Nat) (-1000000000000 : Int64)) ∈ lw_tbl := ai_in_at 909 (by decide +kernel)
set_option maxRecDepth 100000 in
theorem tw_787 : (Cond.constantLong "PathsKept$Days" (167 : Nat) (99 : Int64)) ∈ lw_tbl := ai_in_at 910 (by decide +kernel)
set_option maxRecDepth 100000 in
theorem tw_788 : (Cond.methodLink "PathsKept$Days" (135 : Nat) ({ cls := "java/lang/Math", name := "min", desc := "(JJ)J" } : Jvm.MethodName)) ∈ lw_tbl := ai_in_at 911 (by decide +kernel)
set_option maxRecDepth 100000 in
theorem tw_789 : (Cond.static ({ cls := "java/lang/Math", name := "min", desc := "(JJ)J" } : Jvm.MethodName)) ∈ lw_tbl := ai_in_at 912 (by decide +kernel)
set_option maxRecDepth 100000 in
theorem tw_790 : (Cond.code ({ cls := "java/lang/Math", name := "min", desc := "(JJ)J" } : Jvm.MethodName) prog_21_method_70_code (4 : Nat) (Option.some Jvm.ClassFile.FieldType.long)) ∈ lw_tbl := ai_in_at 913 (by decide +kernel)
set_option maxRecDepth 100000 in
theorem tw_791 : (Cond.methodLink "PathsKept$Days" (141 : Nat) ({ cls := "java/lang/Math", name := "max", desc := "(JJ)J" } : Jvm.MethodName)) ∈ lw_tbl := ai_in_at 914 (by decide +kernel)
set_option maxRecDepth 100000 in
theorem tw_792 : (Cond.static ({ cls := "java/lang/Math", name := "max", desc := "(JJ)J" } : Jvm.MethodName)) ∈ lw_tbl := ai_in_at 915 (by decide +kernel)
set_option maxRecDepth 100000 in
theorem tw_793 : (Cond.code ({ cls := "java/lang/Math", name := "max", desc := "(JJ)J" } : Jvm.MethodName) prog_21_method_66_code (4 : Nat) (Option.some Jvm.ClassFile.FieldType.long)) ∈ lw_tbl := ai_in_at 916 (by decide +kernel)
set_option maxRecDepth 100000 in
theorem tw_794 : (Cond.methodLink "PathsKeptLaw" (53 : Nat) ({ cls := "PathsKept", name := "law", desc := "(III)J" } : Jvm.MethodName)) ∈ lw_tbl := ai_in_at 917 (by decide +kernel)
set_option maxRecDepth 100000 in
theorem tw_795 : (Cond.instanceMethod ({ cls := "PathsKept", name := "law", desc := "(III)J" } : Jvm.MethodName)) ∈ lw_tbl := ai_in_at 918 (by decide +kernel)
set_option maxRecDepth 100000 in
theorem tw_796 : (Cond.selects "PathsKept" ({ cls := "PathsKept", name := "law", desc := "(III)J" } : Jvm.MethodName) ({ cls := "PathsKept", name := "law", desc := "(III)J" } : Jvm.MethodName)) ∈ lw_tbl := ai_in_at 919 (by decide +kernel)
set_option maxRecDepth 100000 in
theorem tw_797 : (Cond.code ({ cls := "PathsKept", name := "law", desc := "(III)J" } : Jvm.MethodName) prog_1_method_14_code (4 : Nat) (Option.some Jvm.ClassFile.FieldType.long)) ∈ lw_tbl := ai_in_at 920 (by decide +kernel)
set_option maxRecDepth 100000 in
theorem tw_798 : (Cond.methodLink "PathsKept" (181 : Nat) ({ cls := "PathsKept", name := "isWithin", desc := "(III)Z" } : Jvm.MethodName)) ∈ lw_tbl := ai_in_at 921 (by decide +kernel)
set_option maxRecDepth 100000 in
theorem tw_799 : (Cond.methodLink "PathsKept" (124 : Nat) ({ cls := "PathsKept", name := "isPath", desc := "(I)Z" } : Jvm.MethodName)) ∈ lw_tbl := ai_in_at 922 (by decide +kernel)
set_option maxRecDepth 100000 in
theorem tw_801 : (Cond.instanceMethod ({ cls := "PathsKept", name := "isPath", desc := "(I)Z" } : Jvm.MethodName)) ∈ lw_tbl := ai_in_at 924 (by decide +kernel)
set_option maxRecDepth 100000 in
theorem tw_802 : (Cond.code ({ cls := "PathsKept", name := "isPath", desc := "(I)Z" } : Jvm.MethodName) prog_1_method_8_code (2 : Nat) (Option.some Jvm.ClassFile.FieldType.boolean)) ∈ lw_tbl := ai_in_at 925 (by decide +kernel)
set_option maxRecDepth 100000 in
theorem tw_803 : (Cond.constantLong "PathsKept" (185 : Nat) (-9223372036854775808 : Int64)) ∈ lw_tbl := ai_in_at 926 (by decide +kernel)
set_option maxRecDepth 100000 in
theorem tw_804 : (Cond.methodLink "PathsKept" (187 : Nat) ({ cls := "PathsKept$Days", name := "lookAt", desc := "(II)V" } : Jvm.MethodName)) ∈ lw_tbl := ai_in_at 927 (by decide +kernel)
set_option maxRecDepth 100000 in
theorem tw_805 : (Cond.methodLink "PathsKept" (195 : Nat) ({ cls := "PathsKept$Laws", name := "value", desc := "(IJ)J" } : Jvm.MethodName)) ∈ lw_tbl := ai_in_at 928 (by decide +kernel)
set_option maxRecDepth 100000 in
theorem tw_806 : (Cond.methodLink "PathsKeptLaw" (176 : Nat) ({ cls := "PathsKept", name := "count", desc := "(I)I" } : Jvm.MethodName)) ∈ lw_tbl := ai_in_at 929 (by decide +kernel)
set_option maxRecDepth 100000 in
theorem tw_807 : (Cond.instanceMethod ({ cls := "PathsKept", name := "count", desc := "(I)I" } : Jvm.MethodName)) ∈ lw_tbl := ai_in_at 930 (by decide +kernel)
set_option maxRecDepth 100000 in
theorem tw_808 : (Cond.selects "PathsKept" ({ cls := "PathsKept", name := "count", desc := "(I)I" } : Jvm.MethodName) ({ cls := "PathsKept", name := "count", desc := "(I)I" } : Jvm.MethodName)) ∈ lw_tbl := ai_in_at 931 (by decide +kernel)
set_option maxRecDepth 100000 in
theorem tw_809 : (Cond.code ({ cls := "PathsKept", name := "count", desc := "(I)I" } : Jvm.MethodName) prog_1_method_15_code (2 : Nat) (Option.some Jvm.ClassFile.FieldType.int)) ∈ lw_tbl := ai_in_at 932 (by decide +kernel)
set_option maxRecDepth 100000 in
theorem tw_810 : (Cond.methodLink "PathsKept" (208 : Nat) ({ cls := "java/lang/Integer", name := "bitCount", desc := "(I)I" } : Jvm.MethodName)) ∈ lw_tbl := ai_in_at 933 (by decide +kernel)
set_option maxRecDepth 100000 in
theorem tw_811 : (Cond.static ({ cls := "java/lang/Integer", name := "bitCount", desc := "(I)I" } : Jvm.MethodName)) ∈ lw_tbl := ai_in_at 934 (by decide +kernel)
set_option maxRecDepth 100000 in
theorem tw_812 : (Cond.code ({ cls := "java/lang/Integer", name := "bitCount", desc := "(I)I" } : Jvm.MethodName) prog_20_method_49_code (1 : Nat) (Option.some Jvm.ClassFile.FieldType.int)) ∈ lw_tbl := ai_in_at 935 (by decide +kernel)
set_option maxRecDepth 100000 in
theorem tw_813 : (Cond.constant "java/lang/Integer" (265 : Nat) (1431655765 : Int32)) ∈ lw_tbl := ai_in_at 936 (by decide +kernel)
set_option maxRecDepth 100000 in
theorem tw_814 : (Cond.constant "java/lang/Integer" (266 : Nat) (858993459 : Int32)) ∈ lw_tbl := ai_in_at 937 (by decide +kernel)
set_option maxRecDepth 100000 in
theorem tw_815 : (Cond.constant "java/lang/Integer" (267 : Nat) (252645135 : Int32)) ∈ lw_tbl := ai_in_at 938 (by decide +kernel)
set_option maxRecDepth 100000 in
theorem tw_816 : (Cond.methodLink "PathsKept" (219 : Nat) ({ cls := "PathsKept$Ways", name := "sets", desc := "(LPathsKept$Told;I)I" } : Jvm.MethodName)) ∈ lw_tbl := ai_in_at 939 (by decide +kernel)
set_option maxRecDepth 100000 in
theorem tw_817 : (Cond.static ({ cls := "PathsKept$Ways", name := "sets", desc := "(LPathsKept$Told;I)I" } : Jvm.MethodName)) ∈ lw_tbl := ai_in_at 940 (by decide +kernel)
set_option maxRecDepth 100000 in
theorem tw_818 : (Cond.code ({ cls := "PathsKept$Ways", name := "sets", desc := "(LPathsKept$Told;I)I" } : Jvm.MethodName) prog_11_method_4_code (5 : Nat) (Option.some Jvm.ClassFile.FieldType.int)) ∈ lw_tbl := ai_in_at 941 (by decide +kernel)
set_option maxRecDepth 100000 in
theorem tw_819 : (Cond.methodLink "PathsKept$Ways" (62 : Nat) ({ cls := "PathsKept$Ways", name := "spread", desc := "(LPathsKept$Told;II)I" } : Jvm.MethodName)) ∈ lw_tbl := ai_in_at 942 (by decide +kernel)
set_option maxRecDepth 100000 in
theorem tw_820 : (Cond.static ({ cls := "PathsKept$Ways", name := "spread", desc := "(LPathsKept$Told;II)I" } : Jvm.MethodName)) ∈ lw_tbl := ai_in_at 943 (by decide +kernel)
set_option maxRecDepth 100000 in
theorem tw_821 : (Cond.code ({ cls := "PathsKept$Ways", name := "spread", desc := "(LPathsKept$Told;II)I" } : Jvm.MethodName) prog_11_method_3_code (8 : Nat) (Option.some Jvm.ClassFile.FieldType.int)) ∈ lw_tbl := ai_in_at 944 (by decide +kernel)
set_option maxRecDepth 100000 in
theorem tw_822 : (Cond.methodLink "PathsKept$Ways" (55 : Nat) ({ cls := "PathsKept$Told", name := "ends", desc := "(I)I" } : Jvm.MethodName)) ∈ lw_tbl := ai_in_at 945 (by decide +kernel)
set_option maxRecDepth 100000 in
theorem tw_823 : (Cond.methodLink "PathsKept" (224 : Nat) ({ cls := "PathsKept$Seen", name := "knownSize", desc := "()I" } : Jvm.MethodName)) ∈ lw_tbl := ai_in_at 946 (by decide +kernel)
set_option maxRecDepth 100000 in
theorem tw_824 : (Cond.instanceMethod ({ cls := "PathsKept$Seen", name := "knownSize", desc := "()I" } : Jvm.MethodName)) ∈ lw_tbl := ai_in_at 947 (by decide +kernel)
set_option maxRecDepth 100000 in
theorem tw_825 : (Cond.selects "PathsKept$Seen" ({ cls := "PathsKept$Seen", name := "knownSize", desc := "()I" } : Jvm.MethodName) ({ cls := "PathsKept$Seen", name := "knownSize", desc := "()I" } : Jvm.MethodName)) ∈ lw_tbl := ai_in_at 948 (by decide +kernel)
set_option maxRecDepth 100000 in
theorem tw_826 : (Cond.code ({ cls := "PathsKept$Seen", name := "knownSize", desc := "()I" } : Jvm.MethodName) prog_6_method_3_code (1 : Nat) (Option.some Jvm.ClassFile.FieldType.int)) ∈ lw_tbl := ai_in_at 949 (by decide +kernel)
set_option maxRecDepth 100000 in
theorem tw_827 : (Cond.methodLink "PathsKeptLaw" (58 : Nat) ({ cls := "PathsKept", name := "walk", desc := "(II)I" } : Jvm.MethodName)) ∈ lw_tbl := ai_in_at 950 (by decide +kernel)
set_option maxRecDepth 100000 in
theorem tw_828 : (Cond.instanceMethod ({ cls := "PathsKept", name := "walk", desc := "(II)I" } : Jvm.MethodName)) ∈ lw_tbl := ai_in_at 951 (by decide +kernel)
set_option maxRecDepth 100000 in
theorem tw_829 : (Cond.selects "PathsKept" ({ cls := "PathsKept", name := "walk", desc := "(II)I" } : Jvm.MethodName) ({ cls := "PathsKept", name := "walk", desc := "(II)I" } : Jvm.MethodName)) ∈ lw_tbl := ai_in_at 952 (by decide +kernel)
set_option maxRecDepth 100000 in
theorem tw_830 : (Cond.code ({ cls := "PathsKept", name := "walk", desc := "(II)I" } : Jvm.MethodName) prog_1_method_16_code (4 : Nat) (Option.some Jvm.ClassFile.FieldType.int)) ∈ lw_tbl := ai_in_at 953 (by decide +kernel)
set_option maxRecDepth 100000 in
theorem tw_831 : (Cond.methodLink "PathsKept" (228 : Nat) ({ cls := "PathsKept", name := "remember", desc := "()V" } : Jvm.MethodName)) ∈ lw_tbl := ai_in_at 954 (by decide +kernel)
set_option maxRecDepth 100000 in
theorem tw_833 : (Cond.instanceMethod ({ cls := "PathsKept", name := "remember", desc := "()V" } : Jvm.MethodName)) ∈ lw_tbl := ai_in_at 956 (by decide +kernel)
set_option maxRecDepth 100000 in
theorem tw_834 : (Cond.code ({ cls := "PathsKept", name := "remember", desc := "()V" } : Jvm.MethodName) prog_1_method_19_code (3 : Nat) (Option.none : Option Jvm.ClassFile.FieldType)) ∈ lw_tbl := ai_in_at 957 (by decide +kernel)
set_option maxRecDepth 100000 in
theorem tw_835 : (Cond.methodLink "PathsKept" (238 : Nat) ({ cls := "PathsKept$Standing", name := "copyFrom", desc := "(LPathsKept$Standing;)V" } : Jvm.MethodName)) ∈ lw_tbl := ai_in_at 958 (by decide +kernel)
set_option maxRecDepth 100000 in
theorem tw_836 : (Cond.instanceMethod ({ cls := "PathsKept$Standing", name := "copyFrom", desc := "(LPathsKept$Standing;)V" } : Jvm.MethodName)) ∈ lw_tbl := ai_in_at 959 (by decide +kernel)
set_option maxRecDepth 100000 in
theorem tw_837 : (Cond.selects "PathsKept$Standing" ({ cls := "PathsKept$Standing", name := "copyFrom", desc := "(LPathsKept$Standing;)V" } : Jvm.MethodName) ({ cls := "PathsKept$Standing", name := "copyFrom", desc := "(LPathsKept$Standing;)V" } : Jvm.MethodName)) ∈ lw_tbl := ai_in_at 960 (by decide +kernel)
set_option maxRecDepth 100000 in
theorem tw_838 : (Cond.code ({ cls := "PathsKept$Standing", name := "copyFrom", desc := "(LPathsKept$Standing;)V" } : Jvm.MethodName) prog_7_method_3_code (2 : Nat) (Option.none : Option Jvm.ClassFile.FieldType)) ∈ lw_tbl := ai_in_at 961 (by decide +kernel)
set_option maxRecDepth 100000 in
theorem tw_839 : (Cond.methodLink "PathsKept$Standing" (61 : Nat) ({ cls := "java/lang/System", name := "arraycopy", desc := "(Ljava/lang/Object;ILjava/lang/Object;II)V" } : Jvm.MethodName)) ∈ lw_tbl := ai_in_at 962 (by decide +kernel)
set_option maxRecDepth 100000 in
theorem tw_840 : (Cond.static ({ cls := "java/lang/System", name := "arraycopy", desc := "(Ljava/lang/Object;ILjava/lang/Object;II)V" } : Jvm.MethodName)) ∈ lw_tbl := ai_in_at 963 (by decide +kernel)
set_option maxRecDepth 100000 in
theorem tw_841 : (Cond.native ({ cls := "java/lang/System", name := "arraycopy", desc := "(Ljava/lang/Object;ILjava/lang/Object;II)V" } : Jvm.MethodName)) ∈ lw_tbl := ai_in_at 964 (by decide +kernel)
set_option maxRecDepth 100000 in
theorem tw_842 : (Cond.methodLink "PathsKept" (231 : Nat) ({ cls := "PathsKept$Days", name := "goWhole", desc := "(III)V" } : Jvm.MethodName)) ∈ lw_tbl := ai_in_at 965 (by decide +kernel)
set_option maxRecDepth 100000 in
theorem tw_843 : (Cond.instanceMethod ({ cls := "PathsKept$Days", name := "goWhole", desc := "(III)V" } : Jvm.MethodName)) ∈ lw_tbl := ai_in_at 966 (by decide +kernel)
set_option maxRecDepth 100000 in
theorem tw_844 : (Cond.selects "PathsKept$Days" ({ cls := "PathsKept$Days", name := "goWhole", desc := "(III)V" } : Jvm.MethodName) ({ cls := "PathsKept$Days", name := "goWhole", desc := "(III)V" } : Jvm.MethodName)) ∈ lw_tbl := ai_in_at 967 (by decide +kernel)
set_option maxRecDepth 100000 in
theorem tw_845 : (Cond.code ({ cls := "PathsKept$Days", name := "goWhole", desc := "(III)V" } : Jvm.MethodName) prog_2_method_10_code (5 : Nat) (Option.none : Option Jvm.ClassFile.FieldType)) ∈ lw_tbl := ai_in_at 968 (by decide +kernel)
set_option maxRecDepth 100000 in
theorem tw_846 : (Cond.methodLink "PathsKept$Days" (169 : Nat) ({ cls := "java/lang/Math", name := "min", desc := "(II)I" } : Jvm.MethodName)) ∈ lw_tbl := ai_in_at 969 (by decide +kernel)
set_option maxRecDepth 100000 in
theorem tw_847 : (Cond.methodLink "PathsKeptLaw" (62 : Nat) ({ cls := "PathsKept", name := "mow", desc := "(I)Z" } : Jvm.MethodName)) ∈ lw_tbl := ai_in_at 970 (by decide +kernel)
set_option maxRecDepth 100000 in
theorem tw_848 : (Cond.instanceMethod ({ cls := "PathsKept", name := "mow", desc := "(I)Z" } : Jvm.MethodName)) ∈ lw_tbl := ai_in_at 971 (by decide +kernel)
set_option maxRecDepth 100000 in
theorem tw_849 : (Cond.selects "PathsKept" ({ cls := "PathsKept", name := "mow", desc := "(I)Z" } : Jvm.MethodName) ({ cls := "PathsKept", name := "mow", desc := "(I)Z" } : Jvm.MethodName)) ∈ lw_tbl := ai_in_at 972 (by decide +kernel)
set_option maxRecDepth 100000 in
theorem tw_850 : (Cond.code ({ cls := "PathsKept", name := "mow", desc := "(I)Z" } : Jvm.MethodName) prog_1_method_17_code (2 : Nat) (Option.some Jvm.ClassFile.FieldType.boolean)) ∈ lw_tbl := ai_in_at 973 (by decide +kernel)
set_option maxRecDepth 100000 in
theorem tw_851 : (Cond.methodLink "PathsKept" (143 : Nat) ({ cls := "PathsKept$Standing", name := "isKept", desc := "(I)Z" } : Jvm.MethodName)) ∈ lw_tbl := ai_in_at 974 (by decide +kernel)
set_option maxRecDepth 100000 in
theorem tw_852 : (Cond.methodLink "PathsKeptLaw" (67 : Nat) ({ cls := "PathsKept", name := "carry", desc := "(II)Z" } : Jvm.MethodName)) ∈ lw_tbl := ai_in_at 975 (by decide +kernel)
set_option maxRecDepth 100000 in
theorem tw_853 : (Cond.instanceMethod ({ cls := "PathsKept", name := "carry", desc := "(II)Z" } : Jvm.MethodName)) ∈ lw_tbl := ai_in_at 976 (by decide +kernel)
set_option maxRecDepth 100000 in
theorem tw_854 : (Cond.selects "PathsKept" ({ cls := "PathsKept", name := "carry", desc := "(II)Z" } : Jvm.MethodName) ({ cls := "PathsKept", name := "carry", desc := "(II)Z" } : Jvm.MethodName)) ∈ lw_tbl := ai_in_at 977 (by decide +kernel)
set_option maxRecDepth 100000 in
theorem tw_855 : (Cond.code ({ cls := "PathsKept", name := "carry", desc := "(II)Z" } : Jvm.MethodName) prog_1_method_18_code (3 : Nat) (Option.some Jvm.ClassFile.FieldType.boolean)) ∈ lw_tbl := ai_in_at 978 (by decide +kernel)
set_option maxRecDepth 100000 in
theorem tw_856 : (Cond.methodLink "PathsKept" (235 : Nat) ({ cls := "PathsKept", name := "isPlace", desc := "(I)Z" } : Jvm.MethodName)) ∈ lw_tbl := ai_in_at 979 (by decide +kernel)
set_option maxRecDepth 100000 in
theorem tw_858 : (Cond.instanceMethod ({ cls := "PathsKept", name := "isPlace", desc := "(I)Z" } : Jvm.MethodName)) ∈ lw_tbl := ai_in_at 981 (by decide +kernel)
set_option maxRecDepth 100000 in
theorem tw_859 : (Cond.code ({ cls := "PathsKept", name := "isPlace", desc := "(I)Z" } : Jvm.MethodName) prog_1_method_7_code (2 : Nat) (Option.some Jvm.ClassFile.FieldType.boolean)) ∈ lw_tbl := ai_in_at 982 (by decide +kernel)
set_option maxRecDepth 100000 in
theorem tw_860 : (Cond.methodLink "PathsKeptLaw" (164 : Nat) ({ cls := "PathsKept", name := "undo", desc := "()I" } : Jvm.MethodName)) ∈ lw_tbl := ai_in_at 983 (by decide +kernel)
set_option maxRecDepth 100000 in
theorem tw_861 : (Cond.instanceMethod ({ cls := "PathsKept", name := "undo", desc := "()I" } : Jvm.MethodName)) ∈ lw_tbl := ai_in_at 984 (by decide +kernel)
set_option maxRecDepth 100000 in
theorem tw_862 : (Cond.selects "PathsKept" ({ cls := "PathsKept", name := "undo", desc := "()I" } : Jvm.MethodName) ({ cls := "PathsKept", name := "undo", desc := "()I" } : Jvm.MethodName)) ∈ lw_tbl := ai_in_at 985 (by decide +kernel)
set_option maxRecDepth 100000 in
theorem tw_863 : (Cond.code ({ cls := "PathsKept", name := "undo", desc := "()I" } : Jvm.MethodName) prog_1_method_20_code (1 : Nat) (Option.some Jvm.ClassFile.FieldType.int)) ∈ lw_tbl := ai_in_at 986 (by decide +kernel)
set_option maxRecDepth 100000 in
theorem tw_864 : (Cond.methodLink "PathsKeptLaw" (168 : Nat) ({ cls := "PathsKept", name := "keep", desc := "()I" } : Jvm.MethodName)) ∈ lw_tbl := ai_in_at 987 (by decide +kernel)
set_option maxRecDepth 100000 in
theorem tw_865 : (Cond.instanceMethod ({ cls := "PathsKept", name := "keep", desc := "()I" } : Jvm.MethodName)) ∈ lw_tbl := ai_in_at 988 (by decide +kernel)
set_option maxRecDepth 100000 in
theorem tw_866 : (Cond.selects "PathsKept" ({ cls := "PathsKept", name := "keep", desc := "()I" } : Jvm.MethodName) ({ cls := "PathsKept", name := "keep", desc := "()I" } : Jvm.MethodName)) ∈ lw_tbl := ai_in_at 989 (by decide +kernel)
set_option maxRecDepth 100000 in
theorem tw_867 : (Cond.code ({ cls := "PathsKept", name := "keep", desc := "()I" } : Jvm.MethodName) prog_1_method_21_code (1 : Nat) (Option.some Jvm.ClassFile.FieldType.int)) ∈ lw_tbl := ai_in_at 990 (by decide +kernel)
set_option maxRecDepth 100000 in
theorem tw_868 : (Cond.methodLink "PathsKeptLaw" (172 : Nat) ({ cls := "PathsKept", name := "back", desc := "()I" } : Jvm.MethodName)) ∈ lw_tbl := ai_in_at 991 (by decide +kernel)
set_option maxRecDepth 100000 in
theorem tw_869 : (Cond.instanceMethod ({ cls := "PathsKept", name := "back", desc := "()I" } : Jvm.MethodName)) ∈ lw_tbl := ai_in_at 992 (by decide +kernel)
set_option maxRecDepth 100000 in
theorem tw_870 : (Cond.selects "PathsKept" ({ cls := "PathsKept", name := "back", desc := "()I" } : Jvm.MethodName) ({ cls := "PathsKept", name := "back", desc := "()I" } : Jvm.MethodName)) ∈ lw_tbl := ai_in_at 993 (by decide +kernel)
set_option maxRecDepth 100000 in
theorem tw_871 : (Cond.code ({ cls := "PathsKept", name := "back", desc := "()I" } : Jvm.MethodName) prog_1_method_22_code (1 : Nat) (Option.some Jvm.ClassFile.FieldType.int)) ∈ lw_tbl := ai_in_at 994 (by decide +kernel)
set_option maxRecDepth 100000 in
theorem tw_872 : (Cond.methodLink "PathsKeptLaw" (72 : Nat) ({ cls := "PathsKept", name := "go", desc := "(I)I" } : Jvm.MethodName)) ∈ lw_tbl := ai_in_at 995 (by decide +kernel)
set_option maxRecDepth 100000 in
theorem tw_873 : (Cond.instanceMethod ({ cls := "PathsKept", name := "go", desc := "(I)I" } : Jvm.MethodName)) ∈ lw_tbl := ai_in_at 996 (by decide +kernel)
set_option maxRecDepth 100000 in
theorem tw_874 : (Cond.selects "PathsKept" ({ cls := "PathsKept", name := "go", desc := "(I)I" } : Jvm.MethodName) ({ cls := "PathsKept", name := "go", desc := "(I)I" } : Jvm.MethodName)) ∈ lw_tbl := ai_in_at 997 (by decide +kernel)
set_option maxRecDepth 100000 in
theorem tw_875 : (Cond.code ({ cls := "PathsKept", name := "go", desc := "(I)I" } : Jvm.MethodName) prog_1_method_23_code (3 : Nat) (Option.some Jvm.ClassFile.FieldType.int)) ∈ lw_tbl := ai_in_at 998 (by decide +kernel)
set_option maxRecDepth 100000 in
theorem tw_876 : (Cond.methodLink "PathsKept" (242 : Nat) ({ cls := "PathsKept$Days", name := "pass", desc := "()V" } : Jvm.MethodName)) ∈ lw_tbl := ai_in_at 999 (by decide +kernel)
set_option maxRecDepth 100000 in
theorem tw_877 : (Cond.instanceMethod ({ cls := "PathsKept$Days", name := "pass", desc := "()V" } : Jvm.MethodName)) ∈ lw_tbl := ai_in_at 1000 (by decide +kernel)
set_option maxRecDepth 100000 in
theorem tw_878 : (Cond.selects "PathsKept$Days" ({ cls := "PathsKept$Days", name := "pass", desc := "()V" } : Jvm.MethodName) ({ cls := "PathsKept$Days", name := "pass", desc := "()V" } : Jvm.MethodName)) ∈ lw_tbl := ai_in_at 1001 (by decide +kernel)
set_option maxRecDepth 100000 in
theorem tw_879 : (Cond.code ({ cls := "PathsKept$Days", name := "pass", desc := "()V" } : Jvm.MethodName) prog_2_method_4_code (2 : Nat) (Option.none : Option Jvm.ClassFile.FieldType)) ∈ lw_tbl := ai_in_at 1002 (by decide +kernel)
set_option maxRecDepth 100000 in
theorem tw_880 : (Cond.methodLink "PathsKept$Days" (69 : Nat) ({ cls := "PathsKept$Days", name := "isSnowing", desc := "()Z" } : Jvm.MethodName)) ∈ lw_tbl := ai_in_at 1003 (by decide +kernel)
set_option maxRecDepth 100000 in
theorem tw_882 : (Cond.instanceMethod ({ cls := "PathsKept$Days", name := "isSnowing", desc := "()Z" } : Jvm.MethodName)) ∈ lw_tbl := ai_in_at 1005 (by decide +kernel)
set_option maxRecDepth 100000 in
theorem tw_883 : (Cond.code ({ cls := "PathsKept$Days", name := "isSnowing", desc := "()Z" } : Jvm.MethodName) prog_2_method_5_code (2 : Nat) (Option.some Jvm.ClassFile.FieldType.boolean)) ∈ lw_tbl := ai_in_at 1006 (by decide +kernel)
set_option maxRecDepth 100000 in
theorem tw_884 : (Cond.constant "PathsKept$Days" (104 : Nat) (1103515245 : Int32)) ∈ lw_tbl := ai_in_at 1007 (by decide +kernel)
set_option maxRecDepth 100000 in
theorem tw_885 : (Cond.constant "PathsKept$Days" (107 : Nat) (2147483647 : Int32)) ∈ lw_tbl := ai_in_at 1008 (by decide +kernel)
set_option maxRecDepth 100000 in
theorem tw_886 : (Cond.constant "PathsKept$Days" (108 : Nat) (65536 : Int32)) ∈ lw_tbl := ai_in_at 1009 (by decide +kernel)
set_option maxRecDepth 100000 in
theorem tw_887 : (Cond.methodLink "PathsKept$Days" (73 : Nat) ({ cls := "PathsKept$Days", name := "goWalks", desc := "(Z)V" } : Jvm.MethodName)) ∈ lw_tbl := ai_in_at 1010 (by decide +kernel)
set_option maxRecDepth 100000 in
theorem tw_889 : (Cond.instanceMethod ({ cls := "PathsKept$Days", name := "goWalks", desc := "(Z)V" } : Jvm.MethodName)) ∈ lw_tbl := ai_in_at 1012 (by decide +kernel)
set_option maxRecDepth 100000 in
theorem tw_890 : (Cond.code ({ cls := "PathsKept$Days", name := "goWalks", desc := "(Z)V" } : Jvm.MethodName) prog_2_method_6_code (7 : Nat) (Option.none : Option Jvm.ClassFile.FieldType)) ∈ lw_tbl := ai_in_at 1013 (by decide +kernel)
set_option maxRecDepth 100000 in
theorem tw_891 : (Cond.methodLink "PathsKept$Days" (112 : Nat) ({ cls := "PathsKept$Days", name := "costIfHeCan", desc := "(II)I" } : Jvm.MethodName)) ∈ lw_tbl := ai_in_at 1014 (by decide +kernel)
set_option maxRecDepth 100000 in
theorem tw_892 : (Cond.methodLink "PathsKept$Days" (115 : Nat) ({ cls := "PathsKept$Days", name := "goWhole", desc := "(III)V" } : Jvm.MethodName)) ∈ lw_tbl := ai_in_at 1015 (by decide +kernel)
set_option maxRecDepth 100000 in
theorem tw_893 : (Cond.methodLink "PathsKept$Days" (88 : Nat) ({ cls := "PathsKept$Days", name := "growOlder", desc := "(I)V" } : Jvm.MethodName)) ∈ lw_tbl := ai_in_at 1016 (by decide +kernel)
set_option maxRecDepth 100000 in
theorem tw_895 : (Cond.instanceMethod ({ cls := "PathsKept$Days", name := "growOlder", desc := "(I)V" } : Jvm.MethodName)) ∈ lw_tbl := ai_in_at 1018 (by decide +kernel)
set_option maxRecDepth 100000 in
theorem tw_896 : (Cond.code ({ cls := "PathsKept$Days", name := "growOlder", desc := "(I)V" } : Jvm.MethodName) prog_2_method_7_code (4 : Nat) (Option.none : Option Jvm.ClassFile.FieldType)) ∈ lw_tbl := ai_in_at 1019 (by decide +kernel)
set_option maxRecDepth 100000 in
theorem tw_897 : (Cond.constantLong "PathsKept$Days" (133 : Nat) (9999 : Int64)) ∈ lw_tbl := ai_in_at 1020 (by decide +kernel)
set_option maxRecDepth 100000 in
theorem tw_898 : (Cond.methodLink "PathsKeptLaw" (76 : Nat) ({ cls := "PathsKept", name := "ahead", desc := "(III)I" } : Jvm.MethodName)) ∈ lw_tbl := ai_in_at 1021 (by decide +kernel)
set_option maxRecDepth 100000 in
theorem tw_899 : (Cond.instanceMethod ({ cls := "PathsKept", name := "ahead", desc := "(III)I" } : Jvm.MethodName)) ∈ lw_tbl := ai_in_at 1022 (by decide +kernel)
set_option maxRecDepth 100000 in
theorem tw_900 : (Cond.selects "PathsKept" ({ cls := "PathsKept", name := "ahead", desc := "(III)I" } : Jvm.MethodName) ({ cls := "PathsKept", name := "ahead", desc := "(III)I" } : Jvm.MethodName)) ∈ lw_tbl := ai_in_at 1023 (by decide +kernel)
set_option maxRecDepth 100000 in
theorem tw_901 : (Cond.code ({ cls := "PathsKept", name := "ahead", desc := "(III)I" } : Jvm.MethodName) prog_1_method_25_code (5 : Nat) (Option.some Jvm.ClassFile.FieldType.int)) ∈ lw_tbl := ai_in_at 1024 (by decide +kernel)
set_option maxRecDepth 100000 in
theorem tw_902 : (Cond.methodLink "PathsKept" (245 : Nat) ({ cls := "PathsKept", name := "isAsked", desc := "(II)Z" } : Jvm.MethodName)) ∈ lw_tbl := ai_in_at 1025 (by decide +kernel)
set_option maxRecDepth 100000 in
theorem tw_904 : (Cond.instanceMethod ({ cls := "PathsKept", name := "isAsked", desc := "(II)Z" } : Jvm.MethodName)) ∈ lw_tbl := ai_in_at 1027 (by decide +kernel)
set_option maxRecDepth 100000 in
theorem tw_905 : (Cond.code ({ cls := "PathsKept", name := "isAsked", desc := "(II)Z" } : Jvm.MethodName) prog_1_method_26_code (3 : Nat) (Option.some Jvm.ClassFile.FieldType.boolean)) ∈ lw_tbl := ai_in_at 1028 (by decide +kernel)
set_option maxRecDepth 100000 in
theorem tw_906 : (Cond.methodLink "PathsKept" (248 : Nat) ({ cls := "PathsKept", name := "beginAhead", desc := "()V" } : Jvm.MethodName)) ∈ lw_tbl := ai_in_at 1029 (by decide +kernel)
set_option maxRecDepth 100000 in
theorem tw_908 : (Cond.instanceMethod ({ cls := "PathsKept", name := "beginAhead", desc := "()V" } : Jvm.MethodName)) ∈ lw_tbl := ai_in_at 1031 (by decide +kernel)
set_option maxRecDepth 100000 in
theorem tw_909 : (Cond.code ({ cls := "PathsKept", name := "beginAhead", desc := "()V" } : Jvm.MethodName) prog_1_method_24_code (1 : Nat) (Option.none : Option Jvm.ClassFile.FieldType)) ∈ lw_tbl := ai_in_at 1032 (by decide +kernel)
set_option maxRecDepth 100000 in
theorem tw_910 : (Cond.methodLink "PathsKeptLaw" (81 : Nat) ({ cls := "PathsKept", name := "lapse", desc := "(I)I" } : Jvm.MethodName)) ∈ lw_tbl := ai_in_at 1033 (by decide +kernel)
set_option maxRecDepth 100000 in
theorem tw_911 : (Cond.instanceMethod ({ cls := "PathsKept", name := "lapse", desc := "(I)I" } : Jvm.MethodName)) ∈ lw_tbl := ai_in_at 1034 (by decide +kernel)
set_option maxRecDepth 100000 in
theorem tw_912 : (Cond.selects "PathsKept" ({ cls := "PathsKept", name := "lapse", desc := "(I)I" } : Jvm.MethodName) ({ cls := "PathsKept", name := "lapse", desc := "(I)I" } : Jvm.MethodName)) ∈ lw_tbl := ai_in_at 1035 (by decide +kernel)
set_option maxRecDepth 100000 in
theorem tw_913 : (Cond.code ({ cls := "PathsKept", name := "lapse", desc := "(I)I" } : Jvm.MethodName) prog_1_method_27_code (3 : Nat) (Option.some Jvm.ClassFile.FieldType.int)) ∈ lw_tbl := ai_in_at 1036 (by decide +kernel)
set_option maxRecDepth 100000 in
theorem tw_914 : (Cond.methodLink "PathsKeptLaw" (160 : Nat) ({ cls := "PathsKept", name := "tried", desc := "(III)I" } : Jvm.MethodName)) ∈ lw_tbl := ai_in_at 1037 (by decide +kernel)
set_option maxRecDepth 100000 in
theorem tw_915 : (Cond.instanceMethod ({ cls := "PathsKept", name := "tried", desc := "(III)I" } : Jvm.MethodName)) ∈ lw_tbl := ai_in_at 1038 (by decide +kernel)
set_option maxRecDepth 100000 in
theorem tw_916 : (Cond.selects "PathsKept" ({ cls := "PathsKept", name := "tried", desc := "(III)I" } : Jvm.MethodName) ({ cls := "PathsKept", name := "tried", desc := "(III)I" } : Jvm.MethodName)) ∈ lw_tbl := ai_in_at 1039 (by decide +kernel)
set_option maxRecDepth 100000 in
theorem tw_917 : (Cond.code ({ cls := "PathsKept", name := "tried", desc := "(III)I" } : Jvm.MethodName) prog_1_method_28_code (5 : Nat) (Option.some Jvm.ClassFile.FieldType.int)) ∈ lw_tbl := ai_in_at 1040 (by decide +kernel)
set_option maxRecDepth 100000 in
theorem tw_918 : (Cond.methodLink "PathsKept" (251 : Nat) ({ cls := "PathsKept$Days", name := "tryOtherwise", desc := "(II)V" } : Jvm.MethodName)) ∈ lw_tbl := ai_in_at 1041 (by decide +kernel)
set_option maxRecDepth 100000 in
theorem tw_919 : (Cond.instanceMethod ({ cls := "PathsKept$Days", name := "tryOtherwise", desc := "(II)V" } : Jvm.MethodName)) ∈ lw_tbl := ai_in_at 1042 (by decide +kernel)
set_option maxRecDepth 100000 in
theorem tw_920 : (Cond.selects "PathsKept$Days" ({ cls := "PathsKept$Days", name := "tryOtherwise", desc := "(II)V" } : Jvm.MethodName) ({ cls := "PathsKept$Days", name := "tryOtherwise", desc := "(II)V" } : Jvm.MethodName)) ∈ lw_tbl := ai_in_at 1043 (by decide +kernel)
set_option maxRecDepth 100000 in
theorem tw_921 : (Cond.code ({ cls := "PathsKept$Days", name := "tryOtherwise", desc := "(II)V" } : Jvm.MethodName) prog_2_method_3_code (3 : Nat) (Option.none : Option Jvm.ClassFile.FieldType)) ∈ lw_tbl := ai_in_at 1044 (by decide +kernel)
set_option maxRecDepth 100000 in
theorem tw_922 : (Cond.methodLink "PathsKept$Days" (63 : Nat) ({ cls := "java/util/Arrays", name := "fill", desc := "([II)V" } : Jvm.MethodName)) ∈ lw_tbl := ai_in_at 1045 (by decide +kernel)
set_option maxRecDepth 100000 in
theorem tw_923 : (Cond.methodLink "PathsKeptLaw" (156 : Nat) ({ cls := "PathsKept", name := "chance", desc := "(IIII)I" } : Jvm.MethodName)) ∈ lw_tbl := ai_in_at 1046 (by decide +kernel)
set_option maxRecDepth 100000 in
theorem tw_924 : (Cond.instanceMethod ({ cls := "PathsKept", name := "chance", desc := "(IIII)I" } : Jvm.MethodName)) ∈ lw_tbl := ai_in_at 1047 (by decide +kernel)
set_option maxRecDepth 100000 in
theorem tw_925 : (Cond.selects "PathsKept" ({ cls := "PathsKept", name := "chance", desc := "(IIII)I" } : Jvm.MethodName) ({ cls := "PathsKept", name := "chance", desc := "(IIII)I" } : Jvm.MethodName)) ∈ lw_tbl := ai_in_at 1048 (by decide +kernel)
set_option maxRecDepth 100000 in
theorem tw_926 : (Cond.code ({ cls := "PathsKept", name := "chance", desc := "(IIII)I" } : Jvm.MethodName) prog_1_method_29_code (9 : Nat) (Option.some Jvm.ClassFile.FieldType.int)) ∈ lw_tbl := ai_in_at 1049 (by decide +kernel)
set_option maxRecDepth 100000 in
theorem tw_927 : (Cond.methodLink "PathsKeptLaw" (85 : Nat) ({ cls := "PathsKept", name := "reach", desc := "(I)I" } : Jvm.MethodName)) ∈ lw_tbl := ai_in_at 1050 (by decide +kernel)
set_option maxRecDepth 100000 in
theorem tw_928 : (Cond.instanceMethod ({ cls := "PathsKept", name := "reach", desc := "(I)I" } : Jvm.MethodName)) ∈ lw_tbl := ai_in_at 1051 (by decide +kernel)
set_option maxRecDepth 100000 in
theorem tw_929 : (Cond.selects "PathsKept" ({ cls := "PathsKept", name := "reach", desc := "(I)I" } : Jvm.MethodName) ({ cls := "PathsKept", name := "reach", desc := "(I)I" } : Jvm.MethodName)) ∈ lw_tbl := ai_in_at 1052 (by decide +kernel)
set_option maxRecDepth 100000 in
theorem tw_930 : (Cond.code ({ cls := "PathsKept", name := "reach", desc := "(I)I" } : Jvm.MethodName) prog_1_method_30_code (2 : Nat) (Option.some Jvm.ClassFile.FieldType.int)) ∈ lw_tbl := ai_in_at 1053 (by decide +kernel)
set_option maxRecDepth 100000 in
theorem tw_931 : (Cond.methodLink "PathsKept" (257 : Nat) ({ cls := "PathsKept$Ways", name := "openFor", desc := "(LPathsKept$Told;LPathsKept$Standing;I)I" } : Jvm.MethodName)) ∈ lw_tbl := ai_in_at 1054 (by decide +kernel)
set_option maxRecDepth 100000 in
theorem tw_932 : (Cond.static ({ cls := "PathsKept$Ways", name := "openFor", desc := "(LPathsKept$Told;LPathsKept$Standing;I)I" } : Jvm.MethodName)) ∈ lw_tbl := ai_in_at 1055 (by decide +kernel)
set_option maxRecDepth 100000 in
theorem tw_933 : (Cond.code ({ cls := "PathsKept$Ways", name := "openFor", desc := "(LPathsKept$Told;LPathsKept$Standing;I)I" } : Jvm.MethodName) prog_11_method_2_code (6 : Nat) (Option.some Jvm.ClassFile.FieldType.int)) ∈ lw_tbl := ai_in_at 1056 (by decide +kernel)
set_option maxRecDepth 100000 in
theorem tw_934 : (Cond.methodLink "PathsKept$Ways" (36 : Nat) ({ cls := "PathsKept$Table", name := "cell", desc := "(II)I" } : Jvm.MethodName)) ∈ lw_tbl := ai_in_at 1057 (by decide +kernel)
set_option maxRecDepth 100000 in
theorem tw_935 : (Cond.methodLink "PathsKept$Ways" (49 : Nat) ({ cls := "PathsKept$Standing", name := "isKept", desc := "(I)Z" } : Jvm.MethodName)) ∈ lw_tbl := ai_in_at 1058 (by decide +kernel)
set_option maxRecDepth 100000 in
theorem tw_936 : (Cond.methodLink "PathsKept" (261 : Nat) ({ cls := "PathsKept$Ways", name := "spread", desc := "(LPathsKept$Told;II)I" } : Jvm.MethodName)) ∈ lw_tbl := ai_in_at 1059 (by decide +kernel)
set_option maxRecDepth 100000 in
theorem tw_937 : (Cond.methodLink "PathsKeptLaw" (89 : Nat) ({ cls := "PathsKept", name := "way", desc := "(II)I" } : Jvm.MethodName)) ∈ lw_tbl := ai_in_at 1060 (by decide +kernel)
set_option maxRecDepth 100000 in
theorem tw_938 : (Cond.instanceMethod ({ cls := "PathsKept", name := "way", desc := "(II)I" } : Jvm.MethodName)) ∈ lw_tbl := ai_in_at 1061 (by decide +kernel)
set_option maxRecDepth 100000 in
theorem tw_939 : (Cond.selects "PathsKept" ({ cls := "PathsKept", name := "way", desc := "(II)I" } : Jvm.MethodName) ({ cls := "PathsKept", name := "way", desc := "(II)I" } : Jvm.MethodName)) ∈ lw_tbl := ai_in_at 1062 (by decide +kernel)
set_option maxRecDepth 100000 in
theorem tw_940 : (Cond.code ({ cls := "PathsKept", name := "way", desc := "(II)I" } : Jvm.MethodName) prog_1_method_31_code (3 : Nat) (Option.some Jvm.ClassFile.FieldType.int)) ∈ lw_tbl := ai_in_at 1063 (by decide +kernel)
set_option maxRecDepth 100000 in
theorem tw_941 : (Cond.methodLink "PathsKept" (265 : Nat) ({ cls := "PathsKept$Ways", name := "leastLength", desc := "(LPathsKept$Told;LPathsKept$Standing;II)I" } : Jvm.MethodName)) ∈ lw_tbl := ai_in_at 1064 (by decide +kernel)
set_option maxRecDepth 100000 in
theorem tw_942 : (Cond.instanceMethod ({ cls := "PathsKept$Ways", name := "leastLength", desc := "(LPathsKept$Told;LPathsKept$Standing;II)I" } : Jvm.MethodName)) ∈ lw_tbl := ai_in_at 1065 (by decide +kernel)
set_option maxRecDepth 100000 in
theorem tw_943 : (Cond.selects "PathsKept$Ways" ({ cls := "PathsKept$Ways", name := "leastLength", desc := "(LPathsKept$Told;LPathsKept$Standing;II)I" } : Jvm.MethodName) ({ cls := "PathsKept$Ways", name := "leastLength", desc := "(LPathsKept$Told;LPathsKept$Standing;II)I" } : Jvm.MethodName)) ∈ lw_tbl := ai_in_at 1066 (by decide +kernel)
set_option maxRecDepth 100000 in
theorem tw_944 : (Cond.code ({ cls := "PathsKept$Ways", name := "leastLength", desc := "(LPathsKept$Told;LPathsKept$Standing;II)I" } : Jvm.MethodName) prog_11_method_10_code (9 : Nat) (Option.some Jvm.ClassFile.FieldType.int)) ∈ lw_tbl := ai_in_at 1067 (by decide +kernel)
set_option maxRecDepth 100000 in
theorem tw_945 : (Cond.methodLink "PathsKept$Ways" (79 : Nat) ({ cls := "PathsKept$Ways", name := "openFor", desc := "(LPathsKept$Told;LPathsKept$Standing;I)I" } : Jvm.MethodName)) ∈ lw_tbl := ai_in_at 1068 (by decide +kernel)
set_option maxRecDepth 100000 in
theorem tw_946 : (Cond.constant "PathsKept$Ways" (83 : Nat) (1000000 : Int32)) ∈ lw_tbl := ai_in_at 1069 (by decide +kernel)
set_option maxRecDepth 100000 in
theorem tw_947 : (Cond.methodLink "PathsKept$Ways" (84 : Nat) ({ cls := "java/util/Arrays", name := "fill", desc := "([II)V" } : Jvm.MethodName)) ∈ lw_tbl := ai_in_at 1070 (by decide +kernel)
set_option maxRecDepth 100000 in
theorem tw_948 : (Cond.methodLink "PathsKept$Ways" (93 : Nat) ({ cls := "PathsKept$Ways", name := "shorten", desc := "(LPathsKept$Told;I)Z" } : Jvm.MethodName)) ∈ lw_tbl := ai_in_at 1071 (by decide +kernel)
set_option maxRecDepth 100000 in
theorem tw_950 : (Cond.instanceMethod ({ cls := "PathsKept$Ways", name := "shorten", desc := "(LPathsKept$Told;I)Z" } : Jvm.MethodName)) ∈ lw_tbl := ai_in_at 1073 (by decide +kernel)
set_option maxRecDepth 100000 in
theorem tw_951 : (Cond.code ({ cls := "PathsKept$Ways", name := "shorten", desc := "(LPathsKept$Told;I)Z" } : Jvm.MethodName) prog_11_method_11_code (7 : Nat) (Option.some Jvm.ClassFile.FieldType.boolean)) ∈ lw_tbl := ai_in_at 1074 (by decide +kernel)
set_option maxRecDepth 100000 in
theorem tw_952 : (Cond.methodLink "PathsKeptLaw" (93 : Nat) ({ cls := "PathsKept", name := "round", desc := "(III)I" } : Jvm.MethodName)) ∈ lw_tbl := ai_in_at 1075 (by decide +kernel)
set_option maxRecDepth 100000 in
theorem tw_953 : (Cond.instanceMethod ({ cls := "PathsKept", name := "round", desc := "(III)I" } : Jvm.MethodName)) ∈ lw_tbl := ai_in_at 1076 (by decide +kernel)
set_option maxRecDepth 100000 in
theorem tw_954 : (Cond.selects "PathsKept" ({ cls := "PathsKept", name := "round", desc := "(III)I" } : Jvm.MethodName) ({ cls := "PathsKept", name := "round", desc := "(III)I" } : Jvm.MethodName)) ∈ lw_tbl := ai_in_at 1077 (by decide +kernel)
set_option maxRecDepth 100000 in
theorem tw_955 : (Cond.code ({ cls := "PathsKept", name := "round", desc := "(III)I" } : Jvm.MethodName) prog_1_method_32_code (4 : Nat) (Option.some Jvm.ClassFile.FieldType.int)) ∈ lw_tbl := ai_in_at 1078 (by decide +kernel)
set_option maxRecDepth 100000 in
theorem tw_956 : (Cond.methodLink "PathsKept" (269 : Nat) ({ cls := "PathsKept$Ways", name := "leastRound", desc := "(LPathsKept$Told;LPathsKept$Standing;IIZ)I" } : Jvm.MethodName)) ∈ lw_tbl := ai_in_at 1079 (by decide +kernel)
set_option maxRecDepth 100000 in
theorem tw_957 : (Cond.instanceMethod ({ cls := "PathsKept$Ways", name := "leastRound", desc := "(LPathsKept$Told;LPathsKept$Standing;IIZ)I" } : Jvm.MethodName)) ∈ lw_tbl := ai_in_at 1080 (by decide +kernel)
set_option maxRecDepth 100000 in
theorem tw_958 : (Cond.selects "PathsKept$Ways" ({ cls := "PathsKept$Ways", name := "leastRound", desc := "(LPathsKept$Told;LPathsKept$Standing;IIZ)I" } : Jvm.MethodName) ({ cls := "PathsKept$Ways", name := "leastRound", desc := "(LPathsKept$Told;LPathsKept$Standing;IIZ)I" } : Jvm.MethodName)) ∈ lw_tbl := ai_in_at 1081 (by decide +kernel)
set_option maxRecDepth 100000 in
theorem tw_959 : (Cond.code ({ cls := "PathsKept$Ways", name := "leastRound", desc := "(LPathsKept$Told;LPathsKept$Standing;IIZ)I" } : Jvm.MethodName) prog_11_method_12_code (11 : Nat) (Option.some Jvm.ClassFile.FieldType.int)) ∈ lw_tbl := ai_in_at 1082 (by decide +kernel)
set_option maxRecDepth 100000 in
theorem tw_960 : (Cond.methodLink "PathsKept$Ways" (97 : Nat) ({ cls := "PathsKept$Ways", name := "goOn", desc := "(LPathsKept$Told;IIII)V" } : Jvm.MethodName)) ∈ lw_tbl := ai_in_at 1083 (by decide +kernel)
set_option maxRecDepth 100000 in
theorem tw_962 : (Cond.instanceMethod ({ cls := "PathsKept$Ways", name := "goOn", desc := "(LPathsKept$Told;IIII)V" } : Jvm.MethodName)) ∈ lw_tbl := ai_in_at 1085 (by decide +kernel)
set_option maxRecDepth 100000 in
theorem tw_963 : (Cond.code ({ cls := "PathsKept$Ways", name := "goOn", desc := "(LPathsKept$Told;IIII)V" } : Jvm.MethodName) prog_11_method_13_code (15 : Nat) (Option.none : Option Jvm.ClassFile.FieldType)) ∈ lw_tbl := ai_in_at 1086 (by decide +kernel)
set_option maxRecDepth 100000 in
theorem tw_964 : (Cond.methodLink "PathsKept$Ways" (106 : Nat) ({ cls := "PathsKept$Ways", name := "lessen", desc := "(IIII)Z" } : Jvm.MethodName)) ∈ lw_tbl := ai_in_at 1087 (by decide +kernel)
set_option maxRecDepth 100000 in
theorem tw_966 : (Cond.instanceMethod ({ cls := "PathsKept$Ways", name := "lessen", desc := "(IIII)Z" } : Jvm.MethodName)) ∈ lw_tbl := ai_in_at 1089 (by decide +kernel)
set_option maxRecDepth 100000 in
theorem tw_967 : (Cond.code ({ cls := "PathsKept$Ways", name := "lessen", desc := "(IIII)Z" } : Jvm.MethodName) prog_11_method_14_code (6 : Nat) (Option.some Jvm.ClassFile.FieldType.boolean)) ∈ lw_tbl := ai_in_at 1090 (by decide +kernel)
set_option maxRecDepth 100000 in
theorem tw_968 : (Cond.methodLink "PathsKept$Ways" (101 : Nat) ({ cls := "java/lang/Math", name := "min", desc := "(II)I" } : Jvm.MethodName)) ∈ lw_tbl := ai_in_at 1091 (by decide +kernel)
set_option maxRecDepth 100000 in
theorem tw_969 : (Cond.methodLink "PathsKeptLaw" (97 : Nat) ({ cls := "PathsKept", name := "needed", desc := "(I)I" } : Jvm.MethodName)) ∈ lw_tbl := ai_in_at 1092 (by decide +kernel)
set_option maxRecDepth 100000 in
theorem tw_970 : (Cond.instanceMethod ({ cls := "PathsKept", name := "needed", desc := "(I)I" } : Jvm.MethodName)) ∈ lw_tbl := ai_in_at 1093 (by decide +kernel)
set_option maxRecDepth 100000 in
theorem tw_971 : (Cond.selects "PathsKept" ({ cls := "PathsKept", name := "needed", desc := "(I)I" } : Jvm.MethodName) ({ cls := "PathsKept", name := "needed", desc := "(I)I" } : Jvm.MethodName)) ∈ lw_tbl := ai_in_at 1094 (by decide +kernel)
set_option maxRecDepth 100000 in
theorem tw_972 : (Cond.code ({ cls := "PathsKept", name := "needed", desc := "(I)I" } : Jvm.MethodName) prog_1_method_33_code (2 : Nat) (Option.some Jvm.ClassFile.FieldType.int)) ∈ lw_tbl := ai_in_at 1095 (by decide +kernel)
set_option maxRecDepth 100000 in
theorem tw_973 : (Cond.methodLink "PathsKept" (273 : Nat) ({ cls := "PathsKept$Ways", name := "pairs", desc := "(LPathsKept$Told;I)I" } : Jvm.MethodName)) ∈ lw_tbl := ai_in_at 1096 (by decide +kernel)
set_option maxRecDepth 100000 in
theorem tw_974 : (Cond.static ({ cls := "PathsKept$Ways", name := "pairs", desc := "(LPathsKept$Told;I)I" } : Jvm.MethodName)) ∈ lw_tbl := ai_in_at 1097 (by decide +kernel)
set_option maxRecDepth 100000 in
theorem tw_975 : (Cond.code ({ cls := "PathsKept$Ways", name := "pairs", desc := "(LPathsKept$Told;I)I" } : Jvm.MethodName) prog_11_method_5_code (4 : Nat) (Option.some Jvm.ClassFile.FieldType.int)) ∈ lw_tbl := ai_in_at 1098 (by decide +kernel)
set_option maxRecDepth 100000 in
theorem tw_976 : (Cond.methodLink "PathsKept$Ways" (66 : Nat) ({ cls := "java/lang/Integer", name := "bitCount", desc := "(I)I" } : Jvm.MethodName)) ∈ lw_tbl := ai_in_at 1099 (by decide +kernel)
set_option maxRecDepth 100000 in
theorem tw_977 : (Cond.methodLink "PathsKeptLaw" (101 : Nat) ({ cls := "PathsKept", name := "blind", desc := "()I" } : Jvm.MethodName)) ∈ lw_tbl := ai_in_at 1100 (by decide +kernel)
set_option maxRecDepth 100000 in
theorem tw_978 : (Cond.instanceMethod ({ cls := "PathsKept", name := "blind", desc := "()I" } : Jvm.MethodName)) ∈ lw_tbl := ai_in_at 1101 (by decide +kernel)
set_option maxRecDepth 100000 in
theorem tw_979 : (Cond.selects "PathsKept" ({ cls := "PathsKept", name := "blind", desc := "()I" } : Jvm.MethodName) ({ cls := "PathsKept", name := "blind", desc := "()I" } : Jvm.MethodName)) ∈ lw_tbl := ai_in_at 1102 (by decide +kernel)
set_option maxRecDepth 100000 in
theorem tw_980 : (Cond.code ({ cls := "PathsKept", name := "blind", desc := "()I" } : Jvm.MethodName) prog_1_method_34_code (1 : Nat) (Option.some Jvm.ClassFile.FieldType.int)) ∈ lw_tbl := ai_in_at 1103 (by decide +kernel)
set_option maxRecDepth 100000 in
theorem tw_981 : (Cond.methodLink "PathsKept" (276 : Nat) ({ cls := "PathsKept$Ways", name := "blindEnds", desc := "(LPathsKept$Told;I)I" } : Jvm.MethodName)) ∈ lw_tbl := ai_in_at 1104 (by decide +kernel)
set_option maxRecDepth 100000 in
theorem tw_982 : (Cond.static ({ cls := "PathsKept$Ways", name := "blindEnds", desc := "(LPathsKept$Told;I)I" } : Jvm.MethodName)) ∈ lw_tbl := ai_in_at 1105 (by decide +kernel)
set_option maxRecDepth 100000 in
theorem tw_983 : (Cond.code ({ cls := "PathsKept$Ways", name := "blindEnds", desc := "(LPathsKept$Told;I)I" } : Jvm.MethodName) prog_11_method_6_code (4 : Nat) (Option.some Jvm.ClassFile.FieldType.int)) ∈ lw_tbl := ai_in_at 1106 (by decide +kernel)
set_option maxRecDepth 100000 in
theorem tw_984 : (Cond.methodLink "PathsKept$Ways" (71 : Nat) ({ cls := "PathsKept$Ways", name := "endsOfAll", desc := "(LPathsKept$Told;I)I" } : Jvm.MethodName)) ∈ lw_tbl := ai_in_at 1107 (by decide +kernel)
set_option maxRecDepth 100000 in
theorem tw_985 : (Cond.static ({ cls := "PathsKept$Ways", name := "endsOfAll", desc := "(LPathsKept$Told;I)I" } : Jvm.MethodName)) ∈ lw_tbl := ai_in_at 1108 (by decide +kernel)
set_option maxRecDepth 100000 in
theorem tw_986 : (Cond.code ({ cls := "PathsKept$Ways", name := "endsOfAll", desc := "(LPathsKept$Told;I)I" } : Jvm.MethodName) prog_11_method_7_code (4 : Nat) (Option.some Jvm.ClassFile.FieldType.int)) ∈ lw_tbl := ai_in_at 1109 (by decide +kernel)
set_option maxRecDepth 100000 in
theorem tw_987 : (Cond.methodLink "PathsKeptLaw" (105 : Nat) ({ cls := "PathsKept", name := "watch", desc := "()I" } : Jvm.MethodName)) ∈ lw_tbl := ai_in_at 1110 (by decide +kernel)
set_option maxRecDepth 100000 in
theorem tw_988 : (Cond.instanceMethod ({ cls := "PathsKept", name := "watch", desc := "()I" } : Jvm.MethodName)) ∈ lw_tbl := ai_in_at 1111 (by decide +kernel)
set_option maxRecDepth 100000 in
theorem tw_989 : (Cond.selects "PathsKept" ({ cls := "PathsKept", name := "watch", desc := "()I" } : Jvm.MethodName) ({ cls := "PathsKept", name := "watch", desc := "()I" } : Jvm.MethodName)) ∈ lw_tbl := ai_in_at 1112 (by decide +kernel)
set_option maxRecDepth 100000 in
theorem tw_990 : (Cond.code ({ cls := "PathsKept", name := "watch", desc := "()I" } : Jvm.MethodName) prog_1_method_35_code (1 : Nat) (Option.some Jvm.ClassFile.FieldType.int)) ∈ lw_tbl := ai_in_at 1113 (by decide +kernel)
set_option maxRecDepth 100000 in
theorem tw_991 : (Cond.methodLink "PathsKept" (279 : Nat) ({ cls := "PathsKept$Ways", name := "fewestWatched", desc := "(LPathsKept$Told;I)I" } : Jvm.MethodName)) ∈ lw_tbl := ai_in_at 1114 (by decide +kernel)
set_option maxRecDepth 100000 in
theorem tw_992 : (Cond.static ({ cls := "PathsKept$Ways", name := "fewestWatched", desc := "(LPathsKept$Told;I)I" } : Jvm.MethodName)) ∈ lw_tbl := ai_in_at 1115 (by decide +kernel)
set_option maxRecDepth 100000 in
theorem tw_993 : (Cond.code ({ cls := "PathsKept$Ways", name := "fewestWatched", desc := "(LPathsKept$Told;I)I" } : Jvm.MethodName) prog_11_method_8_code (4 : Nat) (Option.some Jvm.ClassFile.FieldType.int)) ∈ lw_tbl := ai_in_at 1116 (by decide +kernel)
set_option maxRecDepth 100000 in
theorem tw_994 : (Cond.methodLink "PathsKept$Ways" (75 : Nat) ({ cls := "PathsKept$Ways", name := "isWatched", desc := "(LPathsKept$Told;II)Z" } : Jvm.MethodName)) ∈ lw_tbl := ai_in_at 1117 (by decide +kernel)
set_option maxRecDepth 100000 in
theorem tw_995 : (Cond.static ({ cls := "PathsKept$Ways", name := "isWatched", desc := "(LPathsKept$Told;II)Z" } : Jvm.MethodName)) ∈ lw_tbl := ai_in_at 1118 (by decide +kernel)
set_option maxRecDepth 100000 in
theorem tw_996 : (Cond.code ({ cls := "PathsKept$Ways", name := "isWatched", desc := "(LPathsKept$Told;II)Z" } : Jvm.MethodName) prog_11_method_9_code (4 : Nat) (Option.some Jvm.ClassFile.FieldType.boolean)) ∈ lw_tbl := ai_in_at 1119 (by decide +kernel)
set_option maxRecDepth 100000 in
theorem tw_997 : (Cond.methodLink "PathsKeptLaw" (109 : Nat) ({ cls := "PathsKept", name := "match", desc := "(I)I" } : Jvm.MethodName)) ∈ lw_tbl := ai_in_at 1120 (by decide +kernel)
set_option maxRecDepth 100000 in
theorem tw_998 : (Cond.instanceMethod ({ cls := "PathsKept", name := "match", desc := "(I)I" } : Jvm.MethodName)) ∈ lw_tbl := ai_in_at 1121 (by decide +kernel)
set_option maxRecDepth 100000 in
theorem tw_999 : (Cond.selects "PathsKept" ({ cls := "PathsKept", name := "match", desc := "(I)I" } : Jvm.MethodName) ({ cls := "PathsKept", name := "match", desc := "(I)I" } : Jvm.MethodName)) ∈ lw_tbl := ai_in_at 1122 (by decide +kernel)
set_option maxRecDepth 100000 in
theorem tw_1000 : (Cond.code ({ cls := "PathsKept", name := "match", desc := "(I)I" } : Jvm.MethodName) prog_1_method_36_code (2 : Nat) (Option.some Jvm.ClassFile.FieldType.int)) ∈ lw_tbl := ai_in_at 1123 (by decide +kernel)
set_option maxRecDepth 100000 in
theorem tw_1001 : (Cond.methodLink "PathsKept" (282 : Nat) ({ cls := "PathsKept$Ways", name := "matchAll", desc := "(LPathsKept$Told;LPathsKept$Standing;)V" } : Jvm.MethodName)) ∈ lw_tbl := ai_in_at 1124 (by decide +kernel)
set_option maxRecDepth 100000 in
theorem tw_1002 : (Cond.instanceMethod ({ cls := "PathsKept$Ways", name := "matchAll", desc := "(LPathsKept$Told;LPathsKept$Standing;)V" } : Jvm.MethodName)) ∈ lw_tbl := ai_in_at 1125 (by decide +kernel)
set_option maxRecDepth 100000 in
theorem tw_1003 : (Cond.selects "PathsKept$Ways" ({ cls := "PathsKept$Ways", name := "matchAll", desc := "(LPathsKept$Told;LPathsKept$Standing;)V" } : Jvm.MethodName) ({ cls := "PathsKept$Ways", name := "matchAll", desc := "(LPathsKept$Told;LPathsKept$Standing;)V" } : Jvm.MethodName)) ∈ lw_tbl := ai_in_at 1126 (by decide +kernel)
set_option maxRecDepth 100000 in
theorem tw_1004 : (Cond.code ({ cls := "PathsKept$Ways", name := "matchAll", desc := "(LPathsKept$Told;LPathsKept$Standing;)V" } : Jvm.MethodName) prog_11_method_15_code (6 : Nat) (Option.none : Option Jvm.ClassFile.FieldType)) ∈ lw_tbl := ai_in_at 1127 (by decide +kernel)
set_option maxRecDepth 100000 in
theorem tw_1005 : (Cond.methodLink "PathsKept$Ways" (113 : Nat) ({ cls := "java/lang/System", name := "arraycopy", desc := "(Ljava/lang/Object;ILjava/lang/Object;II)V" } : Jvm.MethodName)) ∈ lw_tbl := ai_in_at 1128 (by decide +kernel)
set_option maxRecDepth 100000 in
theorem tw_1006 : (Cond.methodLink "PathsKept$Ways" (122 : Nat) ({ cls := "PathsKept$Ways", name := "matchFrom", desc := "(IIII)V" } : Jvm.MethodName)) ∈ lw_tbl := ai_in_at 1129 (by decide +kernel)
set_option maxRecDepth 100000 in
theorem tw_1008 : (Cond.instanceMethod ({ cls := "PathsKept$Ways", name := "matchFrom", desc := "(IIII)V" } : Jvm.MethodName)) ∈ lw_tbl := ai_in_at 1131 (by decide +kernel)
set_option maxRecDepth 100000 in
theorem tw_1009 : (Cond.code ({ cls := "PathsKept$Ways", name := "matchFrom", desc := "(IIII)V" } : Jvm.MethodName) prog_11_method_16_code (7 : Nat) (Option.none : Option Jvm.ClassFile.FieldType)) ∈ lw_tbl := ai_in_at 1132 (by decide +kernel)
set_option maxRecDepth 100000 in
theorem tw_1010 : (Cond.methodLink "PathsKeptLaw" (113 : Nat) ({ cls := "PathsKept", name := "game", desc := "(IIII)I" } : Jvm.MethodName)) ∈ lw_tbl := ai_in_at 1133 (by decide +kernel)
set_option maxRecDepth 100000 in
theorem tw_1011 : (Cond.instanceMethod ({ cls := "PathsKept", name := "game", desc := "(IIII)I" } : Jvm.MethodName)) ∈ lw_tbl := ai_in_at 1134 (by decide +kernel)
set_option maxRecDepth 100000 in
theorem tw_1012 : (Cond.selects "PathsKept" ({ cls := "PathsKept", name := "game", desc := "(IIII)I" } : Jvm.MethodName) ({ cls := "PathsKept", name := "game", desc := "(IIII)I" } : Jvm.MethodName)) ∈ lw_tbl := ai_in_at 1135 (by decide +kernel)
set_option maxRecDepth 100000 in
theorem tw_1013 : (Cond.code ({ cls := "PathsKept", name := "game", desc := "(IIII)I" } : Jvm.MethodName) prog_1_method_37_code (5 : Nat) (Option.some Jvm.ClassFile.FieldType.int)) ∈ lw_tbl := ai_in_at 1136 (by decide +kernel)
set_option maxRecDepth 100000 in
theorem tw_1014 : (Cond.classLink "PathsKept" (292 : Nat) "PathsKept$Game") ∈ lw_tbl := ai_in_at 1137 (by decide +kernel)
set_option maxRecDepth 100000 in
theorem tw_1015 : (Cond.instantiable "PathsKept$Game" (4 : Nat)) ∈ lw_tbl := ai_in_at 1138 (by decide +kernel)
set_option maxRecDepth 100000 in
theorem tw_1016 : (Cond.methodLinkNest "PathsKept" (298 : Nat) ({ cls := "PathsKept$Game", name := "<init>", desc := "()V" } : Jvm.MethodName) "PathsKept") ∈ lw_tbl := ai_in_at 1139 (by decide +kernel)
set_option maxRecDepth 100000 in
theorem tw_1017 : (Cond.instanceMethod ({ cls := "PathsKept$Game", name := "<init>", desc := "()V" } : Jvm.MethodName)) ∈ lw_tbl := ai_in_at 1140 (by decide +kernel)
set_option maxRecDepth 100000 in
theorem tw_1018 : (Cond.code ({ cls := "PathsKept$Game", name := "<init>", desc := "()V" } : Jvm.MethodName) prog_3_method_1_code (1 : Nat) (Option.none : Option Jvm.ClassFile.FieldType)) ∈ lw_tbl := ai_in_at 1141 (by decide +kernel)
set_option maxRecDepth 100000 in
theorem tw_1019 : (Cond.methodLink "PathsKept$Game" (3 : Nat) ({ cls := "java/lang/Object", name := "<init>", desc := "()V" } : Jvm.MethodName)) ∈ lw_tbl := ai_in_at 1142 (by decide +kernel)
set_option maxRecDepth 100000 in
theorem tw_1020 : (Cond.fieldLink "PathsKept$Game" (9 : Nat) "PathsKept$Game" "leads" "[Z") ∈ lw_tbl := ai_in_at 1143 (by decide +kernel)
set_option maxRecDepth 100000 in
theorem tw_1021 : (Cond.fieldLink "PathsKept$Game" (15 : Nat) "PathsKept$Game" "winners" "[I") ∈ lw_tbl := ai_in_at 1144 (by decide +kernel)
set_option maxRecDepth 100000 in
theorem tw_1022 : (Cond.fieldLink "PathsKept$Game" (19 : Nat) "PathsKept$Game" "games" "I") ∈ lw_tbl := ai_in_at 1145 (by decide +kernel)
set_option maxRecDepth 100000 in
theorem tw_1023 : (Cond.fieldLink "PathsKept$Game" (23 : Nat) "PathsKept$Game" "kept" "I") ∈ lw_tbl := ai_in_at 1146 (by decide +kernel)
set_option maxRecDepth 100000 in
theorem tw_1033 : (Cond.methodLink "PathsKept" (299 : Nat) ({ cls := "PathsKept$Game", name := "begin", desc := "(LPathsKept$Told;III)V" } : Jvm.MethodName)) ∈ lw_tbl := ai_in_at 1156 (by decide +kernel)
set_option maxRecDepth 100000 in
theorem tw_1034 : (Cond.instanceMethod ({ cls := "PathsKept$Game", name := "begin", desc := "(LPathsKept$Told;III)V" } : Jvm.MethodName)) ∈ lw_tbl := ai_in_at 1157 (by decide +kernel)
set_option maxRecDepth 100000 in
theorem tw_1035 : (Cond.selects "PathsKept$Game" ({ cls := "PathsKept$Game", name := "begin", desc := "(LPathsKept$Told;III)V" } : Jvm.MethodName) ({ cls := "PathsKept$Game", name := "begin", desc := "(LPathsKept$Told;III)V" } : Jvm.MethodName)) ∈ lw_tbl := ai_in_at 1158 (by decide +kernel)
set_option maxRecDepth 100000 in
theorem tw_1036 : (Cond.code ({ cls := "PathsKept$Game", name := "begin", desc := "(LPathsKept$Told;III)V" } : Jvm.MethodName) prog_3_method_2_code (6 : Nat) (Option.none : Option Jvm.ClassFile.FieldType)) ∈ lw_tbl := ai_in_at 1159 (by decide +kernel)
set_option maxRecDepth 100000 in
theorem tw_1037 : (Cond.methodLink "PathsKept$Game" (26 : Nat) ({ cls := "PathsKept$Ways", name := "spread", desc := "(LPathsKept$Told;II)I" } : Jvm.MethodName)) ∈ lw_tbl := ai_in_at 1160 (by decide +kernel)
set_option maxRecDepth 100000 in
theorem tw_1038 : (Cond.methodLink "PathsKept" (302 : Nat) ({ cls := "PathsKept$Game", name := "winner", desc := "(I)I" } : Jvm.MethodName)) ∈ lw_tbl := ai_in_at 1161 (by decide +kernel)
set_option maxRecDepth 100000 in
theorem tw_1039 : (Cond.instanceMethod ({ cls := "PathsKept$Game", name := "winner", desc := "(I)I" } : Jvm.MethodName)) ∈ lw_tbl := ai_in_at 1162 (by decide +kernel)
set_option maxRecDepth 100000 in
theorem tw_1040 : (Cond.selects "PathsKept$Game" ({ cls := "PathsKept$Game", name := "winner", desc := "(I)I" } : Jvm.MethodName) ({ cls := "PathsKept$Game", name := "winner", desc := "(I)I" } : Jvm.MethodName)) ∈ lw_tbl := ai_in_at 1163 (by decide +kernel)
set_option maxRecDepth 100000 in
theorem tw_1041 : (Cond.code ({ cls := "PathsKept$Game", name := "winner", desc := "(I)I" } : Jvm.MethodName) prog_3_method_3_code (2 : Nat) (Option.some Jvm.ClassFile.FieldType.int)) ∈ lw_tbl := ai_in_at 1164 (by decide +kernel)
set_option maxRecDepth 100000 in
theorem tw_1042 : (Cond.methodLink "PathsKept$Game" (32 : Nat) ({ cls := "PathsKept$Game", name := "winnerFrom", desc := "(IIII)I" } : Jvm.MethodName)) ∈ lw_tbl := ai_in_at 1165 (by decide +kernel)
set_option maxRecDepth 100000 in
theorem tw_1044 : (Cond.instanceMethod ({ cls := "PathsKept$Game", name := "winnerFrom", desc := "(IIII)I" } : Jvm.MethodName)) ∈ lw_tbl := ai_in_at 1167 (by decide +kernel)
set_option maxRecDepth 100000 in
theorem tw_1045 : (Cond.code ({ cls := "PathsKept$Game", name := "winnerFrom", desc := "(IIII)I" } : Jvm.MethodName) prog_3_method_6_code (8 : Nat) (Option.some Jvm.ClassFile.FieldType.int)) ∈ lw_tbl := ai_in_at 1168 (by decide +kernel)
set_option maxRecDepth 100000 in
theorem tw_1046 : (Cond.methodLink "PathsKept$Game" (36 : Nat) ({ cls := "PathsKept$Game", name := "winnerBehind", desc := "(IIIII)I" } : Jvm.MethodName)) ∈ lw_tbl := ai_in_at 1169 (by decide +kernel)
set_option maxRecDepth 100000 in
theorem tw_1048 : (Cond.instanceMethod ({ cls := "PathsKept$Game", name := "winnerBehind", desc := "(IIIII)I" } : Jvm.MethodName)) ∈ lw_tbl := ai_in_at 1171 (by decide +kernel)
set_option maxRecDepth 100000 in
theorem tw_1049 : (Cond.code ({ cls := "PathsKept$Game", name := "winnerBehind", desc := "(IIIII)I" } : Jvm.MethodName) prog_3_method_5_code (8 : Nat) (Option.some Jvm.ClassFile.FieldType.int)) ∈ lw_tbl := ai_in_at 1172 (by decide +kernel)
set_option maxRecDepth 100000 in
theorem tw_1050 : (Cond.fieldLink "PathsKept$Game" (40 : Nat) "PathsKept$Game" "POWERS_OF_THREE" "[I") ∈ lw_tbl := ai_in_at 1173 (by decide +kernel)
set_option maxRecDepth 100000 in
theorem tw_1052 : (Cond.methodLink "PathsKept" (305 : Nat) ({ cls := "PathsKept$Game", name := "firstMove", desc := "(I)I" } : Jvm.MethodName)) ∈ lw_tbl := ai_in_at 1175 (by decide +kernel)
set_option maxRecDepth 100000 in
theorem tw_1053 : (Cond.instanceMethod ({ cls := "PathsKept$Game", name := "firstMove", desc := "(I)I" } : Jvm.MethodName)) ∈ lw_tbl := ai_in_at 1176 (by decide +kernel)
set_option maxRecDepth 100000 in
theorem tw_1054 : (Cond.selects "PathsKept$Game" ({ cls := "PathsKept$Game", name := "firstMove", desc := "(I)I" } : Jvm.MethodName) ({ cls := "PathsKept$Game", name := "firstMove", desc := "(I)I" } : Jvm.MethodName)) ∈ lw_tbl := ai_in_at 1177 (by decide +kernel)
set_option maxRecDepth 100000 in
theorem tw_1055 : (Cond.code ({ cls := "PathsKept$Game", name := "firstMove", desc := "(I)I" } : Jvm.MethodName) prog_3_method_4_code (3 : Nat) (Option.some Jvm.ClassFile.FieldType.int)) ∈ lw_tbl := ai_in_at 1178 (by decide +kernel)
set_option maxRecDepth 100000 in
theorem tw_1056 : (Cond.methodLink "PathsKeptLaw" (118 : Nat) ({ cls := "PathsKept", name := "rests", desc := "(II)I" } : Jvm.MethodName)) ∈ lw_tbl := ai_in_at 1179 (by decide +kernel)
set_option maxRecDepth 100000 in
theorem tw_1057 : (Cond.instanceMethod ({ cls := "PathsKept", name := "rests", desc := "(II)I" } : Jvm.MethodName)) ∈ lw_tbl := ai_in_at 1180 (by decide +kernel)
set_option maxRecDepth 100000 in
theorem tw_1058 : (Cond.selects "PathsKept" ({ cls := "PathsKept", name := "rests", desc := "(II)I" } : Jvm.MethodName) ({ cls := "PathsKept", name := "rests", desc := "(II)I" } : Jvm.MethodName)) ∈ lw_tbl := ai_in_at 1181 (by decide +kernel)
set_option maxRecDepth 100000 in
theorem tw_1059 : (Cond.code ({ cls := "PathsKept", name := "rests", desc := "(II)I" } : Jvm.MethodName) prog_1_method_39_code (5 : Nat) (Option.some Jvm.ClassFile.FieldType.int)) ∈ lw_tbl := ai_in_at 1182 (by decide +kernel)
set_option maxRecDepth 100000 in
theorem tw_1060 : (Cond.methodLink "PathsKept" (308 : Nat) ({ cls := "PathsKept", name := "isPair", desc := "(II)Z" } : Jvm.MethodName)) ∈ lw_tbl := ai_in_at 1183 (by decide +kernel)
set_option maxRecDepth 100000 in
theorem tw_1062 : (Cond.instanceMethod ({ cls := "PathsKept", name := "isPair", desc := "(II)Z" } : Jvm.MethodName)) ∈ lw_tbl := ai_in_at 1185 (by decide +kernel)
set_option maxRecDepth 100000 in
theorem tw_1063 : (Cond.code ({ cls := "PathsKept", name := "isPair", desc := "(II)Z" } : Jvm.MethodName) prog_1_method_38_code (3 : Nat) (Option.some Jvm.ClassFile.FieldType.boolean)) ∈ lw_tbl := ai_in_at 1186 (by decide +kernel)
set_option maxRecDepth 100000 in
theorem tw_1064 : (Cond.methodLink "PathsKept" (311 : Nat) ({ cls := "PathsKept", name := "isRest", desc := "(III)Z" } : Jvm.MethodName)) ∈ lw_tbl := ai_in_at 1187 (by decide +kernel)
set_option maxRecDepth 100000 in
theorem tw_1066 : (Cond.instanceMethod ({ cls := "PathsKept", name := "isRest", desc := "(III)Z" } : Jvm.MethodName)) ∈ lw_tbl := ai_in_at 1189 (by decide +kernel)
set_option maxRecDepth 100000 in
theorem tw_1067 : (Cond.code ({ cls := "PathsKept", name := "isRest", desc := "(III)Z" } : Jvm.MethodName) prog_1_method_41_code (8 : Nat) (Option.some Jvm.ClassFile.FieldType.boolean)) ∈ lw_tbl := ai_in_at 1190 (by decide +kernel)
set_option maxRecDepth 100000 in
theorem tw_1068 : (Cond.methodLink "PathsKept" (314 : Nat) ({ cls := "PathsKept", name := "share", desc := "(III)I" } : Jvm.MethodName)) ∈ lw_tbl := ai_in_at 1191 (by decide +kernel)
set_option maxRecDepth 100000 in
theorem tw_1069 : (Cond.static ({ cls := "PathsKept", name := "share", desc := "(III)I" } : Jvm.MethodName)) ∈ lw_tbl := ai_in_at 1192 (by decide +kernel)
set_option maxRecDepth 100000 in
theorem tw_1070 : (Cond.code ({ cls := "PathsKept", name := "share", desc := "(III)I" } : Jvm.MethodName) prog_1_method_42_code (3 : Nat) (Option.some Jvm.ClassFile.FieldType.int)) ∈ lw_tbl := ai_in_at 1193 (by decide +kernel)
set_option maxRecDepth 100000 in
theorem tw_1071 : (Cond.methodLink "PathsKeptLaw" (122 : Nat) ({ cls := "PathsKept", name := "rest", desc := "(III)I" } : Jvm.MethodName)) ∈ lw_tbl := ai_in_at 1194 (by decide +kernel)
set_option maxRecDepth 100000 in
theorem tw_1072 : (Cond.instanceMethod ({ cls := "PathsKept", name := "rest", desc := "(III)I" } : Jvm.MethodName)) ∈ lw_tbl := ai_in_at 1195 (by decide +kernel)
set_option maxRecDepth 100000 in
theorem tw_1073 : (Cond.selects "PathsKept" ({ cls := "PathsKept", name := "rest", desc := "(III)I" } : Jvm.MethodName) ({ cls := "PathsKept", name := "rest", desc := "(III)I" } : Jvm.MethodName)) ∈ lw_tbl := ai_in_at 1196 (by decide +kernel)
set_option maxRecDepth 100000 in
theorem tw_1074 : (Cond.code ({ cls := "PathsKept", name := "rest", desc := "(III)I" } : Jvm.MethodName) prog_1_method_40_code (6 : Nat) (Option.some Jvm.ClassFile.FieldType.int)) ∈ lw_tbl := ai_in_at 1197 (by decide +kernel)
set_option maxRecDepth 100000 in
theorem tw_1075 : (Cond.methodLink "PathsKeptLaw" (126 : Nat) ({ cls := "PathsKept", name := "tries", desc := "(I)I" } : Jvm.MethodName)) ∈ lw_tbl := ai_in_at 1198 (by decide +kernel)
set_option maxRecDepth 100000 in
theorem tw_1076 : (Cond.instanceMethod ({ cls := "PathsKept", name := "tries", desc := "(I)I" } : Jvm.MethodName)) ∈ lw_tbl := ai_in_at 1199 (by decide +kernel)
set_option maxRecDepth 100000 in
theorem tw_1077 : (Cond.selects "PathsKept" ({ cls := "PathsKept", name := "tries", desc := "(I)I" } : Jvm.MethodName) ({ cls := "PathsKept", name := "tries", desc := "(I)I" } : Jvm.MethodName)) ∈ lw_tbl := ai_in_at 1200 (by decide +kernel)
set_option maxRecDepth 100000 in
theorem tw_1078 : (Cond.code ({ cls := "PathsKept", name := "tries", desc := "(I)I" } : Jvm.MethodName) prog_1_method_43_code (7 : Nat) (Option.some Jvm.ClassFile.FieldType.int)) ∈ lw_tbl := ai_in_at 1201 (by decide +kernel)
set_option maxRecDepth 100000 in
theorem tw_1079 : (Cond.constantLong "PathsKept" (318 : Nat) (100 : Int64)) ∈ lw_tbl := ai_in_at 1202 (by decide +kernel)
set_option maxRecDepth 100000 in
theorem tw_1080 : (Cond.methodLink "PathsKeptLaw" (130 : Nat) ({ cls := "PathsKept", name := "clear", desc := "(II)J" } : Jvm.MethodName)) ∈ lw_tbl := ai_in_at 1203 (by decide +kernel)
set_option maxRecDepth 100000 in
theorem tw_1081 : (Cond.instanceMethod ({ cls := "PathsKept", name := "clear", desc := "(II)J" } : Jvm.MethodName)) ∈ lw_tbl := ai_in_at 1204 (by decide +kernel)
set_option maxRecDepth 100000 in
theorem tw_1082 : (Cond.selects "PathsKept" ({ cls := "PathsKept", name := "clear", desc := "(II)J" } : Jvm.MethodName) ({ cls := "PathsKept", name := "clear", desc := "(II)J" } : Jvm.MethodName)) ∈ lw_tbl := ai_in_at 1205 (by decide +kernel)
set_option maxRecDepth 100000 in
theorem tw_1083 : (Cond.code ({ cls := "PathsKept", name := "clear", desc := "(II)J" } : Jvm.MethodName) prog_1_method_44_code (9 : Nat) (Option.some Jvm.ClassFile.FieldType.long)) ∈ lw_tbl := ai_in_at 1206 (by decide +kernel)
set_option maxRecDepth 100000 in
theorem tw_1084 : (Cond.constantLong "PathsKept" (323 : Nat) (-1 : Int64)) ∈ lw_tbl := ai_in_at 1207 (by decide +kernel)
set_option maxRecDepth 100000 in
theorem tw_1085 : (Cond.methodLink "PathsKept" (325 : Nat) ({ cls := "PathsKept", name := "commonDivisor", desc := "(II)I" } : Jvm.MethodName)) ∈ lw_tbl := ai_in_at 1208 (by decide +kernel)
set_option maxRecDepth 100000 in
theorem tw_1086 : (Cond.static ({ cls := "PathsKept", name := "commonDivisor", desc := "(II)I" } : Jvm.MethodName)) ∈ lw_tbl := ai_in_at 1209 (by decide +kernel)
set_option maxRecDepth 100000 in
theorem tw_1087 : (Cond.code ({ cls := "PathsKept", name := "commonDivisor", desc := "(II)I" } : Jvm.MethodName) prog_1_method_45_code (6 : Nat) (Option.some Jvm.ClassFile.FieldType.int)) ∈ lw_tbl := ai_in_at 1210 (by decide +kernel)
set_option maxRecDepth 100000 in
theorem tw_1088 : (Cond.methodLink "PathsKept" (328 : Nat) ({ cls := "java/lang/Math", name := "max", desc := "(II)I" } : Jvm.MethodName)) ∈ lw_tbl := ai_in_at 1211 (by decide +kernel)
set_option maxRecDepth 100000 in
theorem tw_1089 : (Cond.static ({ cls := "java/lang/Math", name := "max", desc := "(II)I" } : Jvm.MethodName)) ∈ lw_tbl := ai_in_at 1212 (by decide +kernel)
set_option maxRecDepth 100000 in
theorem tw_1090 : (Cond.code ({ cls := "java/lang/Math", name := "max", desc := "(II)I" } : Jvm.MethodName) prog_21_method_65_code (2 : Nat) (Option.some Jvm.ClassFile.FieldType.int)) ∈ lw_tbl := ai_in_at 1213 (by decide +kernel)
set_option maxRecDepth 100000 in
theorem tw_1091 : (Cond.methodLink "PathsKeptLaw" (135 : Nat) ({ cls := "PathsKept", name := "see", desc := "(IIIZ)I" } : Jvm.MethodName)) ∈ lw_tbl := ai_in_at 1214 (by decide +kernel)
set_option maxRecDepth 100000 in
theorem tw_1092 : (Cond.instanceMethod ({ cls := "PathsKept", name := "see", desc := "(IIIZ)I" } : Jvm.MethodName)) ∈ lw_tbl := ai_in_at 1215 (by decide +kernel)
set_option maxRecDepth 100000 in
theorem tw_1093 : (Cond.selects "PathsKept" ({ cls := "PathsKept", name := "see", desc := "(IIIZ)I" } : Jvm.MethodName) ({ cls := "PathsKept", name := "see", desc := "(IIIZ)I" } : Jvm.MethodName)) ∈ lw_tbl := ai_in_at 1216 (by decide +kernel)
set_option maxRecDepth 100000 in
theorem tw_1094 : (Cond.code ({ cls := "PathsKept", name := "see", desc := "(IIIZ)I" } : Jvm.MethodName) prog_1_method_46_code (5 : Nat) (Option.some Jvm.ClassFile.FieldType.int)) ∈ lw_tbl := ai_in_at 1217 (by decide +kernel)
set_option maxRecDepth 100000 in
theorem tw_1095 : (Cond.methodLink "PathsKept" (333 : Nat) ({ cls := "PathsKept$Seen", name := "add", desc := "(IIII)I" } : Jvm.MethodName)) ∈ lw_tbl := ai_in_at 1218 (by decide +kernel)
set_option maxRecDepth 100000 in
theorem tw_1096 : (Cond.instanceMethod ({ cls := "PathsKept$Seen", name := "add", desc := "(IIII)I" } : Jvm.MethodName)) ∈ lw_tbl := ai_in_at 1219 (by decide +kernel)
set_option maxRecDepth 100000 in
theorem tw_1097 : (Cond.selects "PathsKept$Seen" ({ cls := "PathsKept$Seen", name := "add", desc := "(IIII)I" } : Jvm.MethodName) ({ cls := "PathsKept$Seen", name := "add", desc := "(IIII)I" } : Jvm.MethodName)) ∈ lw_tbl := ai_in_at 1220 (by decide +kernel)
set_option maxRecDepth 100000 in
theorem tw_1098 : (Cond.code ({ cls := "PathsKept$Seen", name := "add", desc := "(IIII)I" } : Jvm.MethodName) prog_6_method_4_code (5 : Nat) (Option.some Jvm.ClassFile.FieldType.int)) ∈ lw_tbl := ai_in_at 1221 (by decide +kernel)
set_option maxRecDepth 100000 in
theorem tw_1099 : (Cond.methodLink "PathsKeptLaw" (140 : Nat) ({ cls := "PathsKept", name := "strike", desc := "(I)I" } : Jvm.MethodName)) ∈ lw_tbl := ai_in_at 1222 (by decide +kernel)
set_option maxRecDepth 100000 in
theorem tw_1100 : (Cond.instanceMethod ({ cls := "PathsKept", name := "strike", desc := "(I)I" } : Jvm.MethodName)) ∈ lw_tbl := ai_in_at 1223 (by decide +kernel)
set_option maxRecDepth 100000 in
theorem tw_1101 : (Cond.selects "PathsKept" ({ cls := "PathsKept", name := "strike", desc := "(I)I" } : Jvm.MethodName) ({ cls := "PathsKept", name := "strike", desc := "(I)I" } : Jvm.MethodName)) ∈ lw_tbl := ai_in_at 1224 (by decide +kernel)
set_option maxRecDepth 100000 in
theorem tw_1102 : (Cond.code ({ cls := "PathsKept", name := "strike", desc := "(I)I" } : Jvm.MethodName) prog_1_method_47_code (2 : Nat) (Option.some Jvm.ClassFile.FieldType.int)) ∈ lw_tbl := ai_in_at 1225 (by decide +kernel)
set_option maxRecDepth 100000 in
theorem tw_1103 : (Cond.methodLink "PathsKeptLaw" (144 : Nat) ({ cls := "PathsKept", name := "known", desc := "(I)Z" } : Jvm.MethodName)) ∈ lw_tbl := ai_in_at 1226 (by decide +kernel)
set_option maxRecDepth 100000 in
theorem tw_1104 : (Cond.instanceMethod ({ cls := "PathsKept", name := "known", desc := "(I)Z" } : Jvm.MethodName)) ∈ lw_tbl := ai_in_at 1227 (by decide +kernel)
set_option maxRecDepth 100000 in
theorem tw_1105 : (Cond.selects "PathsKept" ({ cls := "PathsKept", name := "known", desc := "(I)Z" } : Jvm.MethodName) ({ cls := "PathsKept", name := "known", desc := "(I)Z" } : Jvm.MethodName)) ∈ lw_tbl := ai_in_at 1228 (by decide +kernel)
set_option maxRecDepth 100000 in
theorem tw_1106 : (Cond.code ({ cls := "PathsKept", name := "known", desc := "(I)Z" } : Jvm.MethodName) prog_1_method_48_code (2 : Nat) (Option.some Jvm.ClassFile.FieldType.boolean)) ∈ lw_tbl := ai_in_at 1229 (by decide +kernel)
set_option maxRecDepth 100000 in
theorem tw_1107 : (Cond.methodLink "PathsKeptLaw" (148 : Nat) ({ cls := "PathsKept", name := "legs", desc := "(I)I" } : Jvm.MethodName)) ∈ lw_tbl := ai_in_at 1230 (by decide +kernel)
set_option maxRecDepth 100000 in
theorem tw_1108 : (Cond.instanceMethod ({ cls := "PathsKept", name := "legs", desc := "(I)I" } : Jvm.MethodName)) ∈ lw_tbl := ai_in_at 1231 (by decide +kernel)
set_option maxRecDepth 100000 in
theorem tw_1109 : (Cond.selects "PathsKept" ({ cls := "PathsKept", name := "legs", desc := "(I)I" } : Jvm.MethodName) ({ cls := "PathsKept", name := "legs", desc := "(I)I" } : Jvm.MethodName)) ∈ lw_tbl := ai_in_at 1232 (by decide +kernel)
set_option maxRecDepth 100000 in
theorem tw_1110 : (Cond.code ({ cls := "PathsKept", name := "legs", desc := "(I)I" } : Jvm.MethodName) prog_1_method_49_code (4 : Nat) (Option.some Jvm.ClassFile.FieldType.int)) ∈ lw_tbl := ai_in_at 1233 (by decide +kernel)
set_option maxRecDepth 100000 in
theorem tw_1111 : (Cond.methodLink "PathsKept" (340 : Nat) ({ cls := "PathsKept$Seen", name := "sift", desc := "()V" } : Jvm.MethodName)) ∈ lw_tbl := ai_in_at 1234 (by decide +kernel)
set_option maxRecDepth 100000 in
theorem tw_1112 : (Cond.instanceMethod ({ cls := "PathsKept$Seen", name := "sift", desc := "()V" } : Jvm.MethodName)) ∈ lw_tbl := ai_in_at 1235 (by decide +kernel)
set_option maxRecDepth 100000 in
theorem tw_1113 : (Cond.selects "PathsKept$Seen" ({ cls := "PathsKept$Seen", name := "sift", desc := "()V" } : Jvm.MethodName) ({ cls := "PathsKept$Seen", name := "sift", desc := "()V" } : Jvm.MethodName)) ∈ lw_tbl := ai_in_at 1236 (by decide +kernel)
set_option maxRecDepth 100000 in
theorem tw_1114 : (Cond.code ({ cls := "PathsKept$Seen", name := "sift", desc := "()V" } : Jvm.MethodName) prog_6_method_5_code (3 : Nat) (Option.none : Option Jvm.ClassFile.FieldType)) ∈ lw_tbl := ai_in_at 1237 (by decide +kernel)
set_option maxRecDepth 100000 in
theorem tw_1115 : (Cond.methodLink "PathsKept$Seen" (38 : Nat) ({ cls := "PathsKept$Seen", name := "knownSize", desc := "()I" } : Jvm.MethodName)) ∈ lw_tbl := ai_in_at 1238 (by decide +kernel)
set_option maxRecDepth 100000 in
theorem tw_1116 : (Cond.methodLink "PathsKept$Seen" (45 : Nat) ({ cls := "java/lang/Math", name := "max", desc := "(II)I" } : Jvm.MethodName)) ∈ lw_tbl := ai_in_at 1239 (by decide +kernel)
set_option maxRecDepth 100000 in
theorem tw_1117 : (Cond.methodLink "PathsKept" (343 : Nat) ({ cls := "PathsKept", name := "placeIfLegs", desc := "(III)I" } : Jvm.MethodName)) ∈ lw_tbl := ai_in_at 1240 (by decide +kernel)
set_option maxRecDepth 100000 in
theorem tw_1119 : (Cond.instanceMethod ({ cls := "PathsKept", name := "placeIfLegs", desc := "(III)I" } : Jvm.MethodName)) ∈ lw_tbl := ai_in_at 1242 (by decide +kernel)
set_option maxRecDepth 100000 in
theorem tw_1120 : (Cond.code ({ cls := "PathsKept", name := "placeIfLegs", desc := "(III)I" } : Jvm.MethodName) prog_1_method_52_code (7 : Nat) (Option.some Jvm.ClassFile.FieldType.int)) ∈ lw_tbl := ai_in_at 1243 (by decide +kernel)
set_option maxRecDepth 100000 in
theorem tw_1121 : (Cond.methodLink "PathsKept" (364 : Nat) ({ cls := "PathsKept$Seen", name := "isSo", desc := "(I[I)Z" } : Jvm.MethodName)) ∈ lw_tbl := ai_in_at 1244 (by decide +kernel)
set_option maxRecDepth 100000 in
theorem tw_1122 : (Cond.instanceMethod ({ cls := "PathsKept$Seen", name := "isSo", desc := "(I[I)Z" } : Jvm.MethodName)) ∈ lw_tbl := ai_in_at 1245 (by decide +kernel)
set_option maxRecDepth 100000 in
theorem tw_1123 : (Cond.selects "PathsKept$Seen" ({ cls := "PathsKept$Seen", name := "isSo", desc := "(I[I)Z" } : Jvm.MethodName) ({ cls := "PathsKept$Seen", name := "isSo", desc := "(I[I)Z" } : Jvm.MethodName)) ∈ lw_tbl := ai_in_at 1246 (by decide +kernel)
set_option maxRecDepth 100000 in
theorem tw_1124 : (Cond.code ({ cls := "PathsKept$Seen", name := "isSo", desc := "(I[I)Z" } : Jvm.MethodName) prog_6_method_6_code (5 : Nat) (Option.some Jvm.ClassFile.FieldType.boolean)) ∈ lw_tbl := ai_in_at 1247 (by decide +kernel)
set_option maxRecDepth 100000 in
theorem tw_1125 : (Cond.methodLink "PathsKeptLaw" (152 : Nat) ({ cls := "PathsKept", name := "sit", desc := "(III)I" } : Jvm.MethodName)) ∈ lw_tbl := ai_in_at 1248 (by decide +kernel)
set_option maxRecDepth 100000 in
theorem tw_1126 : (Cond.instanceMethod ({ cls := "PathsKept", name := "sit", desc := "(III)I" } : Jvm.MethodName)) ∈ lw_tbl := ai_in_at 1249 (by decide +kernel)
set_option maxRecDepth 100000 in
theorem tw_1127 : (Cond.selects "PathsKept" ({ cls := "PathsKept", name := "sit", desc := "(III)I" } : Jvm.MethodName) ({ cls := "PathsKept", name := "sit", desc := "(III)I" } : Jvm.MethodName)) ∈ lw_tbl := ai_in_at 1250 (by decide +kernel)
set_option maxRecDepth 100000 in
theorem tw_1128 : (Cond.code ({ cls := "PathsKept", name := "sit", desc := "(III)I" } : Jvm.MethodName) prog_1_method_50_code (8 : Nat) (Option.some Jvm.ClassFile.FieldType.int)) ∈ lw_tbl := ai_in_at 1251 (by decide +kernel)
set_option maxRecDepth 100000 in
theorem tw_1129 : (Cond.methodLink "PathsKept" (349 : Nat) ({ cls := "java/util/Arrays", name := "fill", desc := "([II)V" } : Jvm.MethodName)) ∈ lw_tbl := ai_in_at 1252 (by decide +kernel)
set_option maxRecDepth 100000 in
theorem tw_1130 : (Cond.methodLink "PathsKept" (355 : Nat) ({ cls := "PathsKept", name := "leftAtWorst", desc := "(II)I" } : Jvm.MethodName)) ∈ lw_tbl := ai_in_at 1253 (by decide +kernel)
set_option maxRecDepth 100000 in
theorem tw_1131 : (Cond.static ({ cls := "PathsKept", name := "leftAtWorst", desc := "(II)I" } : Jvm.MethodName)) ∈ lw_tbl := ai_in_at 1254 (by decide +kernel)
set_option maxRecDepth 100000 in
theorem tw_1132 : (Cond.code ({ cls := "PathsKept", name := "leftAtWorst", desc := "(II)I" } : Jvm.MethodName) prog_1_method_51_code (2 : Nat) (Option.some Jvm.ClassFile.FieldType.int)) ∈ lw_tbl := ai_in_at 1255 (by decide +kernel)
set_option maxRecDepth 100000 in
theorem tw_1133 : (Cond.methodLink "PathsKeptLaw" (39 : Nat) ({ cls := "PathsKeptLaw", name := "path", desc := "(LPathsKept;II[J)I" } : Jvm.MethodName)) ∈ lw_tbl := ai_in_at 1256 (by decide +kernel)
set_option maxRecDepth 100000 in
theorem tw_1134 : (Cond.static ({ cls := "PathsKeptLaw", name := "path", desc := "(LPathsKept;II[J)I" } : Jvm.MethodName)) ∈ lw_tbl := ai_in_at 1257 (by decide +kernel)
set_option maxRecDepth 100000 in
theorem tw_1135 : (Cond.codeWith ({ cls := "PathsKeptLaw", name := "path", desc := "(LPathsKept;II[J)I" } : Jvm.MethodName) method_3_code (5 : Nat) (Option.some Jvm.ClassFile.FieldType.int) [((0 : Nat), (10 : Nat), (13 : Nat), (13 : Nat)), ((0 : Nat), (10 : Nat), (17 : Nat), (15 : Nat))]) ∈ lw_tbl := ai_in_at 1258 (by decide +kernel)
set_option maxRecDepth 100000 in
theorem tw_1138 : (Cond.methodLink "PathsKeptLaw" (7 : Nat) ({ cls := "PathsKept", name := "path", desc := "(II)I" } : Jvm.MethodName)) ∈ lw_tbl := ai_in_at 1261 (by decide +kernel)
set_option maxRecDepth 100000 in
theorem tw_1139 : (Cond.instanceMethod ({ cls := "PathsKept", name := "path", desc := "(II)I" } : Jvm.MethodName)) ∈ lw_tbl := ai_in_at 1262 (by decide +kernel)
set_option maxRecDepth 100000 in
theorem tw_1140 : (Cond.selects "PathsKept" ({ cls := "PathsKept", name := "path", desc := "(II)I" } : Jvm.MethodName) ({ cls := "PathsKept", name := "path", desc := "(II)I" } : Jvm.MethodName)) ∈ lw_tbl := ai_in_at 1263 (by decide +kernel)
set_option maxRecDepth 100000 in
theorem tw_1141 : (Cond.code ({ cls := "PathsKept", name := "path", desc := "(II)I" } : Jvm.MethodName) prog_1_method_11_code (3 : Nat) (Option.some Jvm.ClassFile.FieldType.int)) ∈ lw_tbl := ai_in_at 1264 (by decide +kernel)
set_option maxRecDepth 100000 in
theorem tw_1158 : (Cond.methodLink "PathsKept" (152 : Nat) ({ cls := "PathsKept$Told", name := "isBullOn", desc := "(II)Z" } : Jvm.MethodName)) ∈ lw_tbl := ai_in_at 1281 (by decide +kernel)
set_option maxRecDepth 100000 in
theorem tw_1175 : (Cond.classLink "PathsKeptLaw" (18 : Nat) "PathsKeptModel") ∈ lw_tbl := ai_in_at 1298 (by decide +kernel)
set_option maxRecDepth 100000 in
theorem tw_1176 : (Cond.instantiable "PathsKeptModel" (96 : Nat)) ∈ lw_tbl := ai_in_at 1299 (by decide +kernel)
set_option maxRecDepth 100000 in
theorem tw_1177 : (Cond.methodLink "PathsKeptLaw" (20 : Nat) ({ cls := "PathsKeptModel", name := "<init>", desc := "()V" } : Jvm.MethodName)) ∈ lw_tbl := ai_in_at 1300 (by decide +kernel)
set_option maxRecDepth 100000 in
theorem tw_1178 : (Cond.instanceMethod ({ cls := "PathsKeptModel", name := "<init>", desc := "()V" } : Jvm.MethodName)) ∈ lw_tbl := ai_in_at 1301 (by decide +kernel)
set_option maxRecDepth 100000 in
theorem tw_1179 : (Cond.code ({ cls := "PathsKeptModel", name := "<init>", desc := "()V" } : Jvm.MethodName) prog_13_method_1_code (1 : Nat) (Option.none : Option Jvm.ClassFile.FieldType)) ∈ lw_tbl := ai_in_at 1302 (by decide +kernel)
set_option maxRecDepth 100000 in
theorem tw_1180 : (Cond.methodLink "PathsKeptModel" (1 : Nat) ({ cls := "java/lang/Object", name := "<init>", desc := "()V" } : Jvm.MethodName)) ∈ lw_tbl := ai_in_at 1303 (by decide +kernel)
set_option maxRecDepth 100000 in
theorem tw_1181 : (Cond.methodLink "PathsKeptModel" (169 : Nat) ({ cls := "PathsKeptModel", name := "plain", desc := "()V" } : Jvm.MethodName)) ∈ lw_tbl := ai_in_at 1304 (by decide +kernel)
set_option maxRecDepth 100000 in
theorem tw_1183 : (Cond.instanceMethod ({ cls := "PathsKeptModel", name := "plain", desc := "()V" } : Jvm.MethodName)) ∈ lw_tbl := ai_in_at 1306 (by decide +kernel)
set_option maxRecDepth 100000 in
theorem tw_1184 : (Cond.code ({ cls := "PathsKeptModel", name := "plain", desc := "()V" } : Jvm.MethodName) prog_13_method_17_code (2 : Nat) (Option.none : Option Jvm.ClassFile.FieldType)) ∈ lw_tbl := ai_in_at 1307 (by decide +kernel)
set_option maxRecDepth 100000 in
theorem tw_1185 : (Cond.methodLink "PathsKeptModel" (172 : Nat) ({ cls := "PathsKeptModel", name := "keepText", desc := "()V" } : Jvm.MethodName)) ∈ lw_tbl := ai_in_at 1308 (by decide +kernel)
set_option maxRecDepth 100000 in
theorem tw_1187 : (Cond.instanceMethod ({ cls := "PathsKeptModel", name := "keepText", desc := "()V" } : Jvm.MethodName)) ∈ lw_tbl := ai_in_at 1310 (by decide +kernel)
set_option maxRecDepth 100000 in
theorem tw_1188 : (Cond.code ({ cls := "PathsKeptModel", name := "keepText", desc := "()V" } : Jvm.MethodName) prog_13_method_19_code (2 : Nat) (Option.none : Option Jvm.ClassFile.FieldType)) ∈ lw_tbl := ai_in_at 1311 (by decide +kernel)
set_option maxRecDepth 100000 in
theorem tw_1189 : (Cond.methodLink "PathsKeptModel" (276 : Nat) ({ cls := "PathsKeptModel", name := "copies", desc := "([II)V" } : Jvm.MethodName)) ∈ lw_tbl := ai_in_at 1312 (by decide +kernel)
set_option maxRecDepth 100000 in
theorem tw_1190 : (Cond.static ({ cls := "PathsKeptModel", name := "copies", desc := "([II)V" } : Jvm.MethodName)) ∈ lw_tbl := ai_in_at 1313 (by decide +kernel)
set_option maxRecDepth 100000 in
theorem tw_1191 : (Cond.code ({ cls := "PathsKeptModel", name := "copies", desc := "([II)V" } : Jvm.MethodName) prog_13_method_18_code (3 : Nat) (Option.none : Option Jvm.ClassFile.FieldType)) ∈ lw_tbl := ai_in_at 1314 (by decide +kernel)
set_option maxRecDepth 100000 in
theorem tw_1192 : (Cond.methodLink "PathsKeptModel" (280 : Nat) ({ cls := "PathsKeptModel", name := "begin", desc := "()V" } : Jvm.MethodName)) ∈ lw_tbl := ai_in_at 1315 (by decide +kernel)
set_option maxRecDepth 100000 in
theorem tw_1194 : (Cond.instanceMethod ({ cls := "PathsKeptModel", name := "begin", desc := "()V" } : Jvm.MethodName)) ∈ lw_tbl := ai_in_at 1317 (by decide +kernel)
