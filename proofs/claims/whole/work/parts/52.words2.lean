/-! more words of the tables (printed by wip/whole/gen.py 2) -/
theorem aw_1139 : Cond.methodLink "java/util/AbstractCollection" 1 ⟨"java/lang/Object", "<init>", "()V"⟩ ∈ AW := aw_t (i := 1139) (by decide +kernel) rfl
theorem aw_1136 : Cond.methodLink "java/util/AbstractList" 1 ⟨"java/util/AbstractCollection", "<init>", "()V"⟩ ∈ AW := aw_t (i := 1136) (by decide +kernel) rfl
theorem aw_1138 : Cond.code ⟨"java/util/AbstractCollection", "<init>", "()V"⟩ prog_41_method_1_code 1 none ∈ AW := aw_t (i := 1138) (by decide +kernel) rfl
theorem aw_1137 : Cond.instanceMethod ⟨"java/util/AbstractCollection", "<init>", "()V"⟩ ∈ AW := aw_t (i := 1137) (by decide +kernel) rfl
theorem aw_11 : Cond.initialized "java/util/AbstractCollection" ∈ AW := aw_t (i := 11) (by decide +kernel) rfl
theorem aw_1144 : Cond.fieldLink "java/util/AbstractList" 7 "java/util/AbstractList" "modCount" "I" ∈ AW := aw_t (i := 1144) (by decide +kernel) rfl
theorem aw_1133 : Cond.methodLink "java/util/ArrayList" 1 ⟨"java/util/AbstractList", "<init>", "()V"⟩ ∈ AW := aw_t (i := 1133) (by decide +kernel) rfl
theorem aw_1135 : Cond.code ⟨"java/util/AbstractList", "<init>", "()V"⟩ prog_42_method_1_code 1 none ∈ AW := aw_t (i := 1135) (by decide +kernel) rfl
theorem aw_1134 : Cond.instanceMethod ⟨"java/util/AbstractList", "<init>", "()V"⟩ ∈ AW := aw_t (i := 1134) (by decide +kernel) rfl
theorem aw_12 : Cond.initialized "java/util/AbstractList" ∈ AW := aw_t (i := 12) (by decide +kernel) rfl
theorem aw_1140 : Cond.fieldLink "java/util/ArrayList" 39 "java/util/ArrayList" "DEFAULTCAPACITY_EMPTY_ELEMENTDATA" "[Ljava/lang/Object;" ∈ AW := aw_t (i := 1140) (by decide +kernel) rfl
theorem aw_1142 : Cond.fieldLink "java/util/ArrayList" 9 "java/util/ArrayList" "elementData" "[Ljava/lang/Object;" ∈ AW := aw_t (i := 1142) (by decide +kernel) rfl
theorem aw_1143 : Cond.fieldLink "java/util/ArrayList" 48 "java/util/ArrayList" "size" "I" ∈ AW := aw_t (i := 1143) (by decide +kernel) rfl
theorem aw_1423 : Cond.code ⟨"jdk/internal/util/Preconditions", "checkIndex", "(IILjava/util/function/BiFunction;)I"⟩ prog_52_method_11_code 3 (some .int) ∈ AW := aw_t (i := 1423) (by decide +kernel) rfl
theorem aw_1421 : Cond.methodLink "java/util/Objects" 105 ⟨"jdk/internal/util/Preconditions", "checkIndex", "(IILjava/util/function/BiFunction;)I"⟩ ∈ AW := aw_t (i := 1421) (by decide +kernel) rfl
theorem aw_1422 : Cond.static ⟨"jdk/internal/util/Preconditions", "checkIndex", "(IILjava/util/function/BiFunction;)I"⟩ ∈ AW := aw_t (i := 1422) (by decide +kernel) rfl
theorem aw_31 : Cond.initialized "jdk/internal/util/Preconditions" ∈ AW := aw_t (i := 31) (by decide +kernel) rfl
theorem aw_1420 : Cond.code ⟨"java/util/Objects", "checkIndex", "(II)I"⟩ prog_48_method_17_code 2 (some .int) ∈ AW := aw_t (i := 1420) (by decide +kernel) rfl
theorem aw_1418 : Cond.methodLink "java/util/ArrayList" 118 ⟨"java/util/Objects", "checkIndex", "(II)I"⟩ ∈ AW := aw_t (i := 1418) (by decide +kernel) rfl
theorem aw_1419 : Cond.static ⟨"java/util/Objects", "checkIndex", "(II)I"⟩ ∈ AW := aw_t (i := 1419) (by decide +kernel) rfl
theorem aw_30 : Cond.initialized "java/util/Objects" ∈ AW := aw_t (i := 30) (by decide +kernel) rfl
theorem aw_1427 : Cond.code ⟨"java/util/ArrayList", "elementData", "(I)Ljava/lang/Object;"⟩ prog_43_method_18_code 2 (some (.object "java/lang/Object")) ∈ AW := aw_t (i := 1427) (by decide +kernel) rfl
theorem aw_1424 : Cond.methodLink "java/util/ArrayList" 123 ⟨"java/util/ArrayList", "elementData", "(I)Ljava/lang/Object;"⟩ ∈ AW := aw_t (i := 1424) (by decide +kernel) rfl
theorem aw_1425 : Cond.instanceMethod ⟨"java/util/ArrayList", "elementData", "(I)Ljava/lang/Object;"⟩ ∈ AW := aw_t (i := 1425) (by decide +kernel) rfl
theorem aw_1426 : Cond.selects "java/util/ArrayList" ⟨"java/util/ArrayList", "elementData", "(I)Ljava/lang/Object;"⟩ ⟨"java/util/ArrayList", "elementData", "(I)Ljava/lang/Object;"⟩ ∈ AW := aw_t (i := 1426) (by decide +kernel) rfl
theorem aw_1294 : Cond.methodLink "jdk/internal/util/ArraysSupport" 194 ⟨"java/lang/Math", "max", "(II)I"⟩ ∈ AW := aw_t (i := 1294) (by decide +kernel) rfl
theorem aw_1295 : Cond.constant "jdk/internal/util/ArraysSupport" 200 (2147483639 : Int32) ∈ AW := aw_t (i := 1295) (by decide +kernel) rfl
theorem aw_1331 : Cond.classLink "java/util/Arrays" 110 "[Ljava/lang/Object;" ∈ AW := aw_t (i := 1331) (by decide +kernel) rfl
theorem aw_1333 : Cond.classLink "java/util/Arrays" 2 "java/lang/Object" ∈ AW := aw_t (i := 1333) (by decide +kernel) rfl
theorem aw_1334 : Cond.methodLink "java/util/Arrays" 304 ⟨"java/lang/Math", "min", "(II)I"⟩ ∈ AW := aw_t (i := 1334) (by decide +kernel) rfl
theorem aw_1847 : Cond.castable "java/lang/Integer" "java/lang/Object" ∈ OW := ow_t (i := 1847) (by decide +kernel) rfl
theorem aw_1335 : Cond.methodLink "java/util/Arrays" 150 ⟨"java/lang/System", "arraycopy", "(Ljava/lang/Object;ILjava/lang/Object;II)V"⟩ ∈ AW := aw_t (i := 1335) (by decide +kernel) rfl
theorem aw_1302 : Cond.methodLink "java/util/Arrays" 86 ⟨"java/lang/Object", "getClass", "()Ljava/lang/Class;"⟩ ∈ AW := aw_t (i := 1302) (by decide +kernel) rfl
theorem aw_1868 : Cond.selects "[Ljava/lang/Object;" ⟨"java/lang/Object", "getClass", "()Ljava/lang/Class;"⟩ ⟨"java/lang/Object", "getClass", "()Ljava/lang/Class;"⟩ ∈ AW := aw_t (i := 1868) (by decide +kernel) rfl
theorem aw_1303 : Cond.instanceMethod ⟨"java/lang/Object", "getClass", "()Ljava/lang/Class;"⟩ ∈ AW := aw_t (i := 1303) (by decide +kernel) rfl
theorem aw_1327 : Cond.native ⟨"java/lang/Object", "getClass", "()Ljava/lang/Class;"⟩ ∈ AW := aw_t (i := 1327) (by decide +kernel) rfl
theorem aw_1330 : Cond.code ⟨"java/util/Arrays", "copyOf", "([Ljava/lang/Object;ILjava/lang/Class;)[Ljava/lang/Object;"⟩ prog_44_method_120_code 4 (some (.array (.object "java/lang/Object"))) ∈ AW := aw_t (i := 1330) (by decide +kernel) rfl
theorem aw_1328 : Cond.methodLink "java/util/Arrays" 300 ⟨"java/util/Arrays", "copyOf", "([Ljava/lang/Object;ILjava/lang/Class;)[Ljava/lang/Object;"⟩ ∈ AW := aw_t (i := 1328) (by decide +kernel) rfl
theorem aw_1329 : Cond.static ⟨"java/util/Arrays", "copyOf", "([Ljava/lang/Object;ILjava/lang/Class;)[Ljava/lang/Object;"⟩ ∈ AW := aw_t (i := 1329) (by decide +kernel) rfl
theorem aw_26 : Cond.initialized "java/util/Arrays" ∈ AW := aw_t (i := 26) (by decide +kernel) rfl
theorem aw_1293 : Cond.code ⟨"jdk/internal/util/ArraysSupport", "newLength", "(III)I"⟩ prog_51_method_27_code 4 (some .int) ∈ AW := aw_t (i := 1293) (by decide +kernel) rfl
theorem aw_1291 : Cond.methodLink "java/util/ArrayList" 73 ⟨"jdk/internal/util/ArraysSupport", "newLength", "(III)I"⟩ ∈ AW := aw_t (i := 1291) (by decide +kernel) rfl
theorem aw_1292 : Cond.static ⟨"jdk/internal/util/ArraysSupport", "newLength", "(III)I"⟩ ∈ AW := aw_t (i := 1292) (by decide +kernel) rfl
theorem aw_24 : Cond.initialized "jdk/internal/util/ArraysSupport" ∈ AW := aw_t (i := 24) (by decide +kernel) rfl
theorem aw_1301 : Cond.code ⟨"java/util/Arrays", "copyOf", "([Ljava/lang/Object;I)[Ljava/lang/Object;"⟩ prog_44_method_119_code 2 (some (.array (.object "java/lang/Object"))) ∈ AW := aw_t (i := 1301) (by decide +kernel) rfl
theorem aw_1299 : Cond.methodLink "java/util/ArrayList" 66 ⟨"java/util/Arrays", "copyOf", "([Ljava/lang/Object;I)[Ljava/lang/Object;"⟩ ∈ AW := aw_t (i := 1299) (by decide +kernel) rfl
theorem aw_1300 : Cond.static ⟨"java/util/Arrays", "copyOf", "([Ljava/lang/Object;I)[Ljava/lang/Object;"⟩ ∈ AW := aw_t (i := 1300) (by decide +kernel) rfl
theorem aw_1336 : Cond.methodLink "java/util/ArrayList" 79 ⟨"java/lang/Math", "max", "(II)I"⟩ ∈ AW := aw_t (i := 1336) (by decide +kernel) rfl
theorem aw_1337 : Cond.classLink "java/util/ArrayList" 7 "java/lang/Object" ∈ AW := aw_t (i := 1337) (by decide +kernel) rfl
theorem aw_1290 : Cond.code ⟨"java/util/ArrayList", "grow", "(I)[Ljava/lang/Object;"⟩ prog_43_method_6_code 4 (some (.array (.object "java/lang/Object"))) ∈ AW := aw_t (i := 1290) (by decide +kernel) rfl
theorem aw_1287 : Cond.methodLink "java/util/ArrayList" 69 ⟨"java/util/ArrayList", "grow", "(I)[Ljava/lang/Object;"⟩ ∈ AW := aw_t (i := 1287) (by decide +kernel) rfl
theorem aw_1289 : Cond.instanceMethod ⟨"java/util/ArrayList", "grow", "(I)[Ljava/lang/Object;"⟩ ∈ AW := aw_t (i := 1289) (by decide +kernel) rfl
theorem aw_p31 : Cond.selects "java/util/ArrayList" ⟨"java/util/ArrayList", "grow", "(I)[Ljava/lang/Object;"⟩ ⟨"java/util/ArrayList", "grow", "(I)[Ljava/lang/Object;"⟩ ∈ AW := aw_s (i := 31) (by decide +kernel) rfl
theorem aw_1286 : Cond.code ⟨"java/util/ArrayList", "grow", "()[Ljava/lang/Object;"⟩ prog_43_method_7_code 1 (some (.array (.object "java/lang/Object"))) ∈ AW := aw_t (i := 1286) (by decide +kernel) rfl
theorem aw_1283 : Cond.methodLink "java/util/ArrayList" 129 ⟨"java/util/ArrayList", "grow", "()[Ljava/lang/Object;"⟩ ∈ AW := aw_t (i := 1283) (by decide +kernel) rfl
theorem aw_1285 : Cond.instanceMethod ⟨"java/util/ArrayList", "grow", "()[Ljava/lang/Object;"⟩ ∈ AW := aw_t (i := 1285) (by decide +kernel) rfl
theorem aw_p30 : Cond.selects "java/util/ArrayList" ⟨"java/util/ArrayList", "grow", "()[Ljava/lang/Object;"⟩ ⟨"java/util/ArrayList", "grow", "()[Ljava/lang/Object;"⟩ ∈ AW := aw_s (i := 30) (by decide +kernel) rfl
theorem aw_1863 : Cond.castable "WritebackModel$Image" "java/lang/Object" ∈ OW := ow_t (i := 1863) (by decide +kernel) rfl
theorem aw_1146 : Cond.sameField "java/util/ArrayList" "java/util/AbstractList" "modCount" "I" ∈ AW := aw_t (i := 1146) (by decide +kernel) rfl
theorem aw_1145 : Cond.fieldLink "java/util/ArrayList" 63 "java/util/ArrayList" "modCount" "I" ∈ AW := aw_t (i := 1145) (by decide +kernel) rfl
theorem aw_1282 : Cond.code ⟨"java/util/ArrayList", "add", "(Ljava/lang/Object;[Ljava/lang/Object;I)V"⟩ prog_43_method_24_code 4 none ∈ AW := aw_t (i := 1282) (by decide +kernel) rfl
theorem aw_1279 : Cond.methodLink "java/util/ArrayList" 131 ⟨"java/util/ArrayList", "add", "(Ljava/lang/Object;[Ljava/lang/Object;I)V"⟩ ∈ AW := aw_t (i := 1279) (by decide +kernel) rfl
theorem aw_1281 : Cond.instanceMethod ⟨"java/util/ArrayList", "add", "(Ljava/lang/Object;[Ljava/lang/Object;I)V"⟩ ∈ AW := aw_t (i := 1281) (by decide +kernel) rfl
theorem aw_p29 : Cond.selects "java/util/ArrayList" ⟨"java/util/ArrayList", "add", "(Ljava/lang/Object;[Ljava/lang/Object;I)V"⟩ ⟨"java/util/ArrayList", "add", "(Ljava/lang/Object;[Ljava/lang/Object;I)V"⟩ ∈ AW := aw_s (i := 29) (by decide +kernel) rfl
theorem aw_1465 : Cond.methodLink "java/util/ArrayList" 112 ⟨"java/lang/System", "arraycopy", "(Ljava/lang/Object;ILjava/lang/Object;II)V"⟩ ∈ AW := aw_t (i := 1465) (by decide +kernel) rfl
theorem aw_1464 : Cond.code ⟨"java/util/ArrayList", "fastRemove", "([Ljava/lang/Object;I)V"⟩ prog_43_method_39_code 4 none ∈ AW := aw_t (i := 1464) (by decide +kernel) rfl
theorem aw_1461 : Cond.methodLink "java/util/ArrayList" 144 ⟨"java/util/ArrayList", "fastRemove", "([Ljava/lang/Object;I)V"⟩ ∈ AW := aw_t (i := 1461) (by decide +kernel) rfl
theorem aw_1463 : Cond.instanceMethod ⟨"java/util/ArrayList", "fastRemove", "([Ljava/lang/Object;I)V"⟩ ∈ AW := aw_t (i := 1463) (by decide +kernel) rfl
theorem aw_p46 : Cond.selects "java/util/ArrayList" ⟨"java/util/ArrayList", "fastRemove", "([Ljava/lang/Object;I)V"⟩ ⟨"java/util/ArrayList", "fastRemove", "([Ljava/lang/Object;I)V"⟩ ∈ AW := aw_s (i := 46) (by decide +kernel) rfl
theorem aw_1258 : Cond.fieldLink "java/lang/Integer" 191 "java/lang/Integer$IntegerCache" "high" "I" ∈ AW := aw_t (i := 1258) (by decide +kernel) rfl
theorem aw_1260 : Cond.fieldLink "java/lang/Integer" 195 "java/lang/Integer$IntegerCache" "cache" "[Ljava/lang/Integer;" ∈ AW := aw_t (i := 1260) (by decide +kernel) rfl
theorem aw_1271 : Cond.fieldLink "java/lang/Integer" 205 "java/lang/Integer" "value" "I" ∈ AW := aw_t (i := 1271) (by decide +kernel) rfl
theorem aw_1821 : Cond.code ⟨"java/lang/Float", "isNaN", "(F)Z"⟩ prog_23_method_6_code 1 (some .boolean) ∈ AW := aw_t (i := 1821) (by decide +kernel) rfl
theorem aw_1819 : Cond.methodLink "java/lang/Float" 59 ⟨"java/lang/Float", "isNaN", "(F)Z"⟩ ∈ AW := aw_t (i := 1819) (by decide +kernel) rfl
theorem aw_1820 : Cond.static ⟨"java/lang/Float", "isNaN", "(F)Z"⟩ ∈ AW := aw_t (i := 1820) (by decide +kernel) rfl
theorem aw_40 : Cond.initialized "java/lang/Float" ∈ AW := aw_t (i := 40) (by decide +kernel) rfl
theorem aw_1822 : Cond.methodLink "java/lang/Float" 74 ⟨"java/lang/Float", "floatToRawIntBits", "(F)I"⟩ ∈ AW := aw_t (i := 1822) (by decide +kernel) rfl
theorem aw_1824 : Cond.native ⟨"java/lang/Float", "floatToRawIntBits", "(F)I"⟩ ∈ AW := aw_t (i := 1824) (by decide +kernel) rfl
theorem aw_1823 : Cond.static ⟨"java/lang/Float", "floatToRawIntBits", "(F)I"⟩ ∈ AW := aw_t (i := 1823) (by decide +kernel) rfl
theorem aw_1825 : Cond.constant "java/lang/Float" 77 (2143289344 : Int32) ∈ AW := aw_t (i := 1825) (by decide +kernel) rfl
theorem aw_1725 : Cond.fieldLink "java/lang/String" 38 "java/lang/String" "COMPACT_STRINGS" "Z" ∈ AW := aw_t (i := 1725) (by decide +kernel) rfl
theorem aw_1880 : Cond.fieldLink "java/lang/String" 15 "java/lang/String" "coder" "B" ∈ AW := aw_t (i := 1880) (by decide +kernel) rfl
theorem aw_1881 : Cond.fieldLink "java/lang/String" 9 "java/lang/String" "value" "[B" ∈ AW := aw_t (i := 1881) (by decide +kernel) rfl
theorem aw_1734 : Cond.code ⟨"java/lang/String", "coder", "()B"⟩ prog_33_method_152_code 1 (some .byte) ∈ AW := aw_t (i := 1734) (by decide +kernel) rfl
theorem aw_1731 : Cond.methodLink "java/lang/String" 335 ⟨"java/lang/String", "coder", "()B"⟩ ∈ AW := aw_t (i := 1731) (by decide +kernel) rfl
theorem aw_1732 : Cond.instanceMethod ⟨"java/lang/String", "coder", "()B"⟩ ∈ AW := aw_t (i := 1732) (by decide +kernel) rfl
theorem aw_1733 : Cond.selects "java/lang/String" ⟨"java/lang/String", "coder", "()B"⟩ ⟨"java/lang/String", "coder", "()B"⟩ ∈ AW := aw_t (i := 1733) (by decide +kernel) rfl
theorem aw_19 : Cond.initialized "java/lang/String" ∈ AW := aw_t (i := 19) (by decide +kernel) rfl
theorem aw_1740 : Cond.code ⟨"java/lang/StringLatin1", "canEncode", "(I)Z"⟩ prog_34_method_4_code 1 (some .boolean) ∈ AW := aw_t (i := 1740) (by decide +kernel) rfl
theorem aw_1738 : Cond.methodLink "java/lang/StringLatin1" 88 ⟨"java/lang/StringLatin1", "canEncode", "(I)Z"⟩ ∈ AW := aw_t (i := 1738) (by decide +kernel) rfl
theorem aw_1739 : Cond.static ⟨"java/lang/StringLatin1", "canEncode", "(I)Z"⟩ ∈ AW := aw_t (i := 1739) (by decide +kernel) rfl
theorem aw_36 : Cond.initialized "java/lang/StringLatin1" ∈ AW := aw_t (i := 36) (by decide +kernel) rfl
theorem aw_1741 : Cond.methodLink "java/lang/StringLatin1" 92 ⟨"java/lang/Math", "max", "(II)I"⟩ ∈ AW := aw_t (i := 1741) (by decide +kernel) rfl
theorem aw_1742 : Cond.methodLink "java/lang/StringLatin1" 38 ⟨"java/lang/Math", "min", "(II)I"⟩ ∈ AW := aw_t (i := 1742) (by decide +kernel) rfl
theorem aw_1745 : Cond.code ⟨"java/lang/StringLatin1", "indexOfChar", "([BIII)I"⟩ prog_34_method_23_code 6 (some .int) ∈ AW := aw_t (i := 1745) (by decide +kernel) rfl
theorem aw_1743 : Cond.methodLink "java/lang/StringLatin1" 95 ⟨"java/lang/StringLatin1", "indexOfChar", "([BIII)I"⟩ ∈ AW := aw_t (i := 1743) (by decide +kernel) rfl
theorem aw_1744 : Cond.static ⟨"java/lang/StringLatin1", "indexOfChar", "([BIII)I"⟩ ∈ AW := aw_t (i := 1744) (by decide +kernel) rfl
theorem aw_1724 : Cond.code ⟨"java/lang/String", "isLatin1", "()Z"⟩ prog_33_method_154_code 1 (some .boolean) ∈ AW := aw_t (i := 1724) (by decide +kernel) rfl
theorem aw_1721 : Cond.methodLink "java/lang/String" 492 ⟨"java/lang/String", "isLatin1", "()Z"⟩ ∈ AW := aw_t (i := 1721) (by decide +kernel) rfl
theorem aw_1722 : Cond.instanceMethod ⟨"java/lang/String", "isLatin1", "()Z"⟩ ∈ AW := aw_t (i := 1722) (by decide +kernel) rfl
theorem aw_1723 : Cond.selects "java/lang/String" ⟨"java/lang/String", "isLatin1", "()Z"⟩ ⟨"java/lang/String", "isLatin1", "()Z"⟩ ∈ AW := aw_t (i := 1723) (by decide +kernel) rfl
theorem aw_1730 : Cond.code ⟨"java/lang/String", "length", "()I"⟩ prog_33_method_54_code 1 (some .int) ∈ AW := aw_t (i := 1730) (by decide +kernel) rfl
theorem aw_1727 : Cond.methodLink "java/lang/String" 505 ⟨"java/lang/String", "length", "()I"⟩ ∈ AW := aw_t (i := 1727) (by decide +kernel) rfl
theorem aw_1728 : Cond.instanceMethod ⟨"java/lang/String", "length", "()I"⟩ ∈ AW := aw_t (i := 1728) (by decide +kernel) rfl
theorem aw_1729 : Cond.selects "java/lang/String" ⟨"java/lang/String", "length", "()I"⟩ ⟨"java/lang/String", "length", "()I"⟩ ∈ AW := aw_t (i := 1729) (by decide +kernel) rfl
theorem aw_1737 : Cond.code ⟨"java/lang/StringLatin1", "indexOf", "([BIII)I"⟩ prog_34_method_22_code 4 (some .int) ∈ AW := aw_t (i := 1737) (by decide +kernel) rfl
theorem aw_1735 : Cond.methodLink "java/lang/String" 637 ⟨"java/lang/StringLatin1", "indexOf", "([BIII)I"⟩ ∈ AW := aw_t (i := 1735) (by decide +kernel) rfl
theorem aw_1736 : Cond.static ⟨"java/lang/StringLatin1", "indexOf", "([BIII)I"⟩ ∈ AW := aw_t (i := 1736) (by decide +kernel) rfl
theorem aw_1720 : Cond.code ⟨"java/lang/String", "indexOf", "(II)I"⟩ prog_33_method_80_code 3 (some .int) ∈ AW := aw_t (i := 1720) (by decide +kernel) rfl
theorem aw_1717 : Cond.methodLink "java/lang/String" 633 ⟨"java/lang/String", "indexOf", "(II)I"⟩ ∈ AW := aw_t (i := 1717) (by decide +kernel) rfl
theorem aw_1718 : Cond.instanceMethod ⟨"java/lang/String", "indexOf", "(II)I"⟩ ∈ AW := aw_t (i := 1718) (by decide +kernel) rfl
theorem aw_1719 : Cond.selects "java/lang/String" ⟨"java/lang/String", "indexOf", "(II)I"⟩ ⟨"java/lang/String", "indexOf", "(II)I"⟩ ∈ AW := aw_t (i := 1719) (by decide +kernel) rfl
theorem aw_998 : Cond.methodLink "Writeback" 305 ⟨"[I", "clone", "()Ljava/lang/Object;"⟩ ∈ AW := aw_t (i := 998) (by decide +kernel) rfl
theorem aw_999 : Cond.sameMethod "[I" "java/lang/Object" "clone" "()Ljava/lang/Object;" ∈ AW := aw_t (i := 999) (by decide +kernel) rfl
theorem aw_1000 : Cond.native ⟨"java/lang/Object", "clone", "()Ljava/lang/Object;"⟩ ∈ AW := aw_t (i := 1000) (by decide +kernel) rfl
theorem aw_1001 : Cond.instanceMethod ⟨"java/lang/Object", "clone", "()Ljava/lang/Object;"⟩ ∈ AW := aw_t (i := 1001) (by decide +kernel) rfl
theorem aw_1002 : Cond.selects "[I" ⟨"[I", "clone", "()Ljava/lang/Object;"⟩ ⟨"java/lang/Object", "clone", "()Ljava/lang/Object;"⟩ ∈ AW := aw_t (i := 1002) (by decide +kernel) rfl
theorem aw_1003 : Cond.castable "[I" "java/lang/Cloneable" ∈ OW := ow_t (i := 1003) (by decide +kernel) rfl
theorem aw_1004 : Cond.classLink "Writeback" 306 "[I" ∈ AW := aw_t (i := 1004) (by decide +kernel) rfl
theorem aw_1130 : Cond.methodLink "WritebackModel" 21 ⟨"java/util/ArrayList", "<init>", "()V"⟩ ∈ AW := aw_t (i := 1130) (by decide +kernel) rfl
theorem aw_1132 : Cond.code ⟨"java/util/ArrayList", "<init>", "()V"⟩ prog_43_method_2_code 1 none ∈ AW := aw_t (i := 1132) (by decide +kernel) rfl
theorem aw_1131 : Cond.instanceMethod ⟨"java/util/ArrayList", "<init>", "()V"⟩ ∈ AW := aw_t (i := 1131) (by decide +kernel) rfl
theorem aw_1257 : Cond.code ⟨"java/lang/Integer", "valueOf", "(I)Ljava/lang/Integer;"⟩ prog_27_method_22_code 1 (some (.object "java/lang/Integer")) ∈ AW := aw_t (i := 1257) (by decide +kernel) rfl
theorem aw_1255 : Cond.methodLink "WritebackModel" 73 ⟨"java/lang/Integer", "valueOf", "(I)Ljava/lang/Integer;"⟩ ∈ AW := aw_t (i := 1255) (by decide +kernel) rfl
theorem aw_1256 : Cond.static ⟨"java/lang/Integer", "valueOf", "(I)Ljava/lang/Integer;"⟩ ∈ AW := aw_t (i := 1256) (by decide +kernel) rfl
theorem aw_22 : Cond.initialized "java/lang/Integer" ∈ AW := aw_t (i := 22) (by decide +kernel) rfl
theorem aw_1278 : Cond.code ⟨"java/util/ArrayList", "add", "(Ljava/lang/Object;)Z"⟩ prog_43_method_25_code 2 (some .boolean) ∈ AW := aw_t (i := 1278) (by decide +kernel) rfl
theorem aw_1275 : Cond.methodLink "WritebackModel" 79 ⟨"java/util/ArrayList", "add", "(Ljava/lang/Object;)Z"⟩ ∈ AW := aw_t (i := 1275) (by decide +kernel) rfl
theorem aw_1276 : Cond.instanceMethod ⟨"java/util/ArrayList", "add", "(Ljava/lang/Object;)Z"⟩ ∈ AW := aw_t (i := 1276) (by decide +kernel) rfl
theorem aw_1277 : Cond.selects "java/util/ArrayList" ⟨"java/util/ArrayList", "add", "(Ljava/lang/Object;)Z"⟩ ⟨"java/util/ArrayList", "add", "(Ljava/lang/Object;)Z"⟩ ∈ AW := aw_t (i := 1277) (by decide +kernel) rfl
theorem aw_1341 : Cond.code ⟨"java/util/ArrayList", "size", "()I"⟩ prog_43_method_8_code 1 (some .int) ∈ AW := aw_t (i := 1341) (by decide +kernel) rfl
theorem aw_1338 : Cond.methodLink "WritebackModel" 83 ⟨"java/util/ArrayList", "size", "()I"⟩ ∈ AW := aw_t (i := 1338) (by decide +kernel) rfl
theorem aw_1339 : Cond.instanceMethod ⟨"java/util/ArrayList", "size", "()I"⟩ ∈ AW := aw_t (i := 1339) (by decide +kernel) rfl
theorem aw_1340 : Cond.selects "java/util/ArrayList" ⟨"java/util/ArrayList", "size", "()I"⟩ ⟨"java/util/ArrayList", "size", "()I"⟩ ∈ AW := aw_t (i := 1340) (by decide +kernel) rfl
theorem aw_1417 : Cond.code ⟨"java/util/ArrayList", "get", "(I)Ljava/lang/Object;"⟩ prog_43_method_20_code 2 (some (.object "java/lang/Object")) ∈ AW := aw_t (i := 1417) (by decide +kernel) rfl
theorem aw_1414 : Cond.methodLink "WritebackModel" 162 ⟨"java/util/ArrayList", "get", "(I)Ljava/lang/Object;"⟩ ∈ AW := aw_t (i := 1414) (by decide +kernel) rfl
theorem aw_1415 : Cond.instanceMethod ⟨"java/util/ArrayList", "get", "(I)Ljava/lang/Object;"⟩ ∈ AW := aw_t (i := 1415) (by decide +kernel) rfl
theorem aw_1416 : Cond.selects "java/util/ArrayList" ⟨"java/util/ArrayList", "get", "(I)Ljava/lang/Object;"⟩ ⟨"java/util/ArrayList", "get", "(I)Ljava/lang/Object;"⟩ ∈ AW := aw_t (i := 1416) (by decide +kernel) rfl
theorem aw_1428 : Cond.classLink "WritebackModel" 74 "java/lang/Integer" ∈ AW := aw_t (i := 1428) (by decide +kernel) rfl
theorem aw_1432 : Cond.code ⟨"java/lang/Integer", "intValue", "()I"⟩ prog_27_method_27_code 1 (some .int) ∈ AW := aw_t (i := 1432) (by decide +kernel) rfl
theorem aw_1429 : Cond.methodLink "WritebackModel" 166 ⟨"java/lang/Integer", "intValue", "()I"⟩ ∈ AW := aw_t (i := 1429) (by decide +kernel) rfl
theorem aw_1430 : Cond.instanceMethod ⟨"java/lang/Integer", "intValue", "()I"⟩ ∈ AW := aw_t (i := 1430) (by decide +kernel) rfl
theorem aw_1431 : Cond.selects "java/lang/Integer" ⟨"java/lang/Integer", "intValue", "()I"⟩ ⟨"java/lang/Integer", "intValue", "()I"⟩ ∈ AW := aw_t (i := 1431) (by decide +kernel) rfl
theorem aw_1460 : Cond.code ⟨"java/util/ArrayList", "remove", "(I)Ljava/lang/Object;"⟩ prog_43_method_29_code 4 (some (.object "java/lang/Object")) ∈ AW := aw_t (i := 1460) (by decide +kernel) rfl
theorem aw_1457 : Cond.methodLink "WritebackModel" 211 ⟨"java/util/ArrayList", "remove", "(I)Ljava/lang/Object;"⟩ ∈ AW := aw_t (i := 1457) (by decide +kernel) rfl
theorem aw_1458 : Cond.instanceMethod ⟨"java/util/ArrayList", "remove", "(I)Ljava/lang/Object;"⟩ ∈ AW := aw_t (i := 1458) (by decide +kernel) rfl
theorem aw_1459 : Cond.selects "java/util/ArrayList" ⟨"java/util/ArrayList", "remove", "(I)Ljava/lang/Object;"⟩ ⟨"java/util/ArrayList", "remove", "(I)Ljava/lang/Object;"⟩ ∈ AW := aw_t (i := 1459) (by decide +kernel) rfl
theorem aw_1716 : Cond.code ⟨"java/lang/String", "indexOf", "(I)I"⟩ prog_33_method_79_code 2 (some .int) ∈ AW := aw_t (i := 1716) (by decide +kernel) rfl
theorem aw_1713 : Cond.methodLink "WritebackModel" 314 ⟨"java/lang/String", "indexOf", "(I)I"⟩ ∈ AW := aw_t (i := 1713) (by decide +kernel) rfl
theorem aw_1714 : Cond.instanceMethod ⟨"java/lang/String", "indexOf", "(I)I"⟩ ∈ AW := aw_t (i := 1714) (by decide +kernel) rfl
theorem aw_1715 : Cond.selects "java/lang/String" ⟨"java/lang/String", "indexOf", "(I)I"⟩ ⟨"java/lang/String", "indexOf", "(I)I"⟩ ∈ AW := aw_t (i := 1715) (by decide +kernel) rfl
theorem aw_1818 : Cond.code ⟨"java/lang/Float", "floatToIntBits", "(F)I"⟩ prog_23_method_24_code 1 (some .int) ∈ AW := aw_t (i := 1818) (by decide +kernel) rfl
theorem aw_1816 : Cond.methodLink "WritebackModel" 325 ⟨"java/lang/Float", "floatToIntBits", "(F)I"⟩ ∈ AW := aw_t (i := 1816) (by decide +kernel) rfl
theorem aw_1817 : Cond.static ⟨"java/lang/Float", "floatToIntBits", "(F)I"⟩ ∈ AW := aw_t (i := 1817) (by decide +kernel) rfl
theorem sw_846 : Cond.stringRef "Writeback" 202 "the page is in no frame" ∈ lw_tbl := List.mem_append_right _ (List.mem_of_getElem? (i := 846) (by decide +kernel))
theorem sw_860 : Cond.stringRef "Writeback" 208 "the page is in no frame, or not pinned" ∈ lw_tbl := List.mem_append_right _ (List.mem_of_getElem? (i := 860) (by decide +kernel))
theorem thrN_204 : ∀ w ∈ Cond.classLink RX9 200 nsX :: Cond.initialized nsX :: ns_at RX9 204, w ∈ AW ∨ w ∈ OW := in_tbl [898, 94, 75, 624, 575, 584, 587, 589, 625, 626, 108, 109, 569, 574, 585, 592, 618, 593, 619, 594, 620, 570, 572, 621, 567, 568, 591, 621, 909, 910, 911, 561, 612, 561, 562, 563, 564, 614, 564, 565, 566, 567, 616, 908, 899, 900, 901, 583, 902, 903, 904, 905, 590, 622, 906] (by decide +kernel) (by decide +kernel)
