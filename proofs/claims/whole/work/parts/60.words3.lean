/-! words of the law (printed by wip/whole/gen2.py 2 3) -/
theorem aw_492 : Cond.classLink "WritebackLaw" 13 "java/lang/IndexOutOfBoundsException" ∈ AW := aw_t (i := 492) (by decide +kernel) rfl
theorem aw_583 : Cond.castable "java/lang/IndexOutOfBoundsException" "java/lang/IndexOutOfBoundsException" ∈ OW := ow_t (i := 583) (by decide +kernel) rfl
theorem aw_572 : Cond.classLink "WritebackLaw" 15 "java/lang/IllegalStateException" ∈ AW := aw_t (i := 572) (by decide +kernel) rfl
theorem aw_596 : Cond.castable "java/lang/IllegalStateException" "java/lang/IllegalStateException" ∈ OW := ow_t (i := 596) (by decide +kernel) rfl
theorem aw_576 : Cond.code ⟨"Writeback", "addFile", "(I)I"⟩ prog_1_method_2_code 4 (some .int) ∈ AW := aw_t (i := 576) (by decide +kernel) rfl
theorem aw_573 : Cond.methodLink "WritebackLaw" 7 ⟨"Writeback", "addFile", "(I)I"⟩ ∈ AW := aw_t (i := 573) (by decide +kernel) rfl
theorem aw_574 : Cond.instanceMethod ⟨"Writeback", "addFile", "(I)I"⟩ ∈ AW := aw_t (i := 574) (by decide +kernel) rfl
theorem aw_575 : Cond.selects "Writeback" ⟨"Writeback", "addFile", "(I)I"⟩ ⟨"Writeback", "addFile", "(I)I"⟩ ∈ AW := aw_t (i := 575) (by decide +kernel) rfl
theorem aw_617 : Cond.classLink "WritebackLaw" 20 "java/lang/IllegalArgumentException" ∈ AW := aw_t (i := 617) (by decide +kernel) rfl
theorem aw_628 : Cond.castable "java/lang/IllegalArgumentException" "java/lang/IllegalArgumentException" ∈ OW := ow_t (i := 628) (by decide +kernel) rfl
theorem aw_618 : Cond.classLink "WritebackLaw" 22 "java/lang/UnsupportedOperationException" ∈ AW := aw_t (i := 618) (by decide +kernel) rfl
theorem aw_648 : Cond.castable "java/lang/UnsupportedOperationException" "java/lang/UnsupportedOperationException" ∈ OW := ow_t (i := 648) (by decide +kernel) rfl
theorem aw_622 : Cond.code ⟨"Writeback", "setFrames", "(I)I"⟩ prog_1_method_3_code 3 (some .int) ∈ AW := aw_t (i := 622) (by decide +kernel) rfl
theorem aw_619 : Cond.methodLink "WritebackLaw" 17 ⟨"Writeback", "setFrames", "(I)I"⟩ ∈ AW := aw_t (i := 619) (by decide +kernel) rfl
theorem aw_620 : Cond.instanceMethod ⟨"Writeback", "setFrames", "(I)I"⟩ ∈ AW := aw_t (i := 620) (by decide +kernel) rfl
theorem aw_621 : Cond.selects "Writeback" ⟨"Writeback", "setFrames", "(I)I"⟩ ⟨"Writeback", "setFrames", "(I)I"⟩ ∈ AW := aw_t (i := 621) (by decide +kernel) rfl
theorem aw_717 : Cond.code ⟨"Writeback", "setPolicy", "(C)C"⟩ prog_1_method_4_code 3 (some .char) ∈ AW := aw_t (i := 717) (by decide +kernel) rfl
theorem aw_714 : Cond.methodLink "WritebackLaw" 24 ⟨"Writeback", "setPolicy", "(C)C"⟩ ∈ AW := aw_t (i := 714) (by decide +kernel) rfl
theorem aw_715 : Cond.instanceMethod ⟨"Writeback", "setPolicy", "(C)C"⟩ ∈ AW := aw_t (i := 715) (by decide +kernel) rfl
theorem aw_716 : Cond.selects "Writeback" ⟨"Writeback", "setPolicy", "(C)C"⟩ ⟨"Writeback", "setPolicy", "(C)C"⟩ ∈ AW := aw_t (i := 716) (by decide +kernel) rfl
theorem aw_728 : Cond.code ⟨"Writeback", "setLimit", "(I)I"⟩ prog_1_method_5_code 3 (some .int) ∈ AW := aw_t (i := 728) (by decide +kernel) rfl
theorem aw_725 : Cond.methodLink "WritebackLaw" 28 ⟨"Writeback", "setLimit", "(I)I"⟩ ∈ AW := aw_t (i := 725) (by decide +kernel) rfl
theorem aw_726 : Cond.instanceMethod ⟨"Writeback", "setLimit", "(I)I"⟩ ∈ AW := aw_t (i := 726) (by decide +kernel) rfl
theorem aw_727 : Cond.selects "Writeback" ⟨"Writeback", "setLimit", "(I)I"⟩ ⟨"Writeback", "setLimit", "(I)I"⟩ ∈ AW := aw_t (i := 727) (by decide +kernel) rfl
theorem aw_735 : Cond.code ⟨"Writeback", "setWindow", "(I)I"⟩ prog_1_method_6_code 3 (some .int) ∈ AW := aw_t (i := 735) (by decide +kernel) rfl
theorem aw_732 : Cond.methodLink "WritebackLaw" 31 ⟨"Writeback", "setWindow", "(I)I"⟩ ∈ AW := aw_t (i := 732) (by decide +kernel) rfl
theorem aw_733 : Cond.instanceMethod ⟨"Writeback", "setWindow", "(I)I"⟩ ∈ AW := aw_t (i := 733) (by decide +kernel) rfl
theorem aw_734 : Cond.selects "Writeback" ⟨"Writeback", "setWindow", "(I)I"⟩ ⟨"Writeback", "setWindow", "(I)I"⟩ ∈ AW := aw_t (i := 734) (by decide +kernel) rfl
theorem aw_742 : Cond.code ⟨"Writeback", "setTenant", "(I)I"⟩ prog_1_method_7_code 3 (some .int) ∈ AW := aw_t (i := 742) (by decide +kernel) rfl
theorem aw_739 : Cond.methodLink "WritebackLaw" 34 ⟨"Writeback", "setTenant", "(I)I"⟩ ∈ AW := aw_t (i := 739) (by decide +kernel) rfl
theorem aw_740 : Cond.instanceMethod ⟨"Writeback", "setTenant", "(I)I"⟩ ∈ AW := aw_t (i := 740) (by decide +kernel) rfl
theorem aw_741 : Cond.selects "Writeback" ⟨"Writeback", "setTenant", "(I)I"⟩ ⟨"Writeback", "setTenant", "(I)I"⟩ ∈ AW := aw_t (i := 741) (by decide +kernel) rfl
theorem aw_749 : Cond.code ⟨"Writeback", "read", "(II)I"⟩ prog_1_method_8_code 6 (some .int) ∈ AW := aw_t (i := 749) (by decide +kernel) rfl
theorem aw_746 : Cond.methodLink "WritebackLaw" 37 ⟨"Writeback", "read", "(II)I"⟩ ∈ AW := aw_t (i := 746) (by decide +kernel) rfl
theorem aw_747 : Cond.instanceMethod ⟨"Writeback", "read", "(II)I"⟩ ∈ AW := aw_t (i := 747) (by decide +kernel) rfl
theorem aw_748 : Cond.selects "Writeback" ⟨"Writeback", "read", "(II)I"⟩ ⟨"Writeback", "read", "(II)I"⟩ ∈ AW := aw_t (i := 748) (by decide +kernel) rfl
theorem aw_803 : Cond.code ⟨"Writeback", "write", "(III)I"⟩ prog_1_method_9_code 7 (some .int) ∈ AW := aw_t (i := 803) (by decide +kernel) rfl
theorem aw_800 : Cond.methodLink "WritebackLaw" 41 ⟨"Writeback", "write", "(III)I"⟩ ∈ AW := aw_t (i := 800) (by decide +kernel) rfl
theorem aw_801 : Cond.instanceMethod ⟨"Writeback", "write", "(III)I"⟩ ∈ AW := aw_t (i := 801) (by decide +kernel) rfl
theorem aw_802 : Cond.selects "Writeback" ⟨"Writeback", "write", "(III)I"⟩ ⟨"Writeback", "write", "(III)I"⟩ ∈ AW := aw_t (i := 802) (by decide +kernel) rfl
theorem aw_832 : Cond.classLink "WritebackLaw" 48 "java/util/NoSuchElementException" ∈ AW := aw_t (i := 832) (by decide +kernel) rfl
theorem aw_839 : Cond.castable "java/util/NoSuchElementException" "java/util/NoSuchElementException" ∈ OW := ow_t (i := 839) (by decide +kernel) rfl
theorem aw_836 : Cond.code ⟨"Writeback", "pin", "(II)I"⟩ prog_1_method_10_code 4 (some .int) ∈ AW := aw_t (i := 836) (by decide +kernel) rfl
theorem aw_833 : Cond.methodLink "WritebackLaw" 45 ⟨"Writeback", "pin", "(II)I"⟩ ∈ AW := aw_t (i := 833) (by decide +kernel) rfl
theorem aw_834 : Cond.instanceMethod ⟨"Writeback", "pin", "(II)I"⟩ ∈ AW := aw_t (i := 834) (by decide +kernel) rfl
theorem aw_835 : Cond.selects "Writeback" ⟨"Writeback", "pin", "(II)I"⟩ ⟨"Writeback", "pin", "(II)I"⟩ ∈ AW := aw_t (i := 835) (by decide +kernel) rfl
theorem aw_859 : Cond.code ⟨"Writeback", "unpin", "(II)I"⟩ prog_1_method_11_code 4 (some .int) ∈ AW := aw_t (i := 859) (by decide +kernel) rfl
theorem aw_856 : Cond.methodLink "WritebackLaw" 50 ⟨"Writeback", "unpin", "(II)I"⟩ ∈ AW := aw_t (i := 856) (by decide +kernel) rfl
theorem aw_857 : Cond.instanceMethod ⟨"Writeback", "unpin", "(II)I"⟩ ∈ AW := aw_t (i := 857) (by decide +kernel) rfl
theorem aw_858 : Cond.selects "Writeback" ⟨"Writeback", "unpin", "(II)I"⟩ ⟨"Writeback", "unpin", "(II)I"⟩ ∈ AW := aw_t (i := 858) (by decide +kernel) rfl
theorem aw_867 : Cond.code ⟨"Writeback", "frameOf", "(II)I"⟩ prog_1_method_12_code 3 (some .int) ∈ AW := aw_t (i := 867) (by decide +kernel) rfl
theorem aw_864 : Cond.methodLink "WritebackLaw" 53 ⟨"Writeback", "frameOf", "(II)I"⟩ ∈ AW := aw_t (i := 864) (by decide +kernel) rfl
theorem aw_865 : Cond.instanceMethod ⟨"Writeback", "frameOf", "(II)I"⟩ ∈ AW := aw_t (i := 865) (by decide +kernel) rfl
theorem aw_866 : Cond.selects "Writeback" ⟨"Writeback", "frameOf", "(II)I"⟩ ⟨"Writeback", "frameOf", "(II)I"⟩ ∈ AW := aw_t (i := 866) (by decide +kernel) rfl
theorem aw_874 : Cond.code ⟨"Writeback", "isDirty", "(II)Z"⟩ prog_1_method_13_code 4 (some .boolean) ∈ AW := aw_t (i := 874) (by decide +kernel) rfl
theorem aw_871 : Cond.methodLink "WritebackLaw" 56 ⟨"Writeback", "isDirty", "(II)Z"⟩ ∈ AW := aw_t (i := 871) (by decide +kernel) rfl
theorem aw_872 : Cond.instanceMethod ⟨"Writeback", "isDirty", "(II)Z"⟩ ∈ AW := aw_t (i := 872) (by decide +kernel) rfl
theorem aw_873 : Cond.selects "Writeback" ⟨"Writeback", "isDirty", "(II)Z"⟩ ⟨"Writeback", "isDirty", "(II)Z"⟩ ∈ AW := aw_t (i := 873) (by decide +kernel) rfl
theorem aw_881 : Cond.code ⟨"Writeback", "onPlace", "(II)I"⟩ prog_1_method_14_code 3 (some .int) ∈ AW := aw_t (i := 881) (by decide +kernel) rfl
theorem aw_878 : Cond.methodLink "WritebackLaw" 60 ⟨"Writeback", "onPlace", "(II)I"⟩ ∈ AW := aw_t (i := 878) (by decide +kernel) rfl
theorem aw_879 : Cond.instanceMethod ⟨"Writeback", "onPlace", "(II)I"⟩ ∈ AW := aw_t (i := 879) (by decide +kernel) rfl
theorem aw_880 : Cond.selects "Writeback" ⟨"Writeback", "onPlace", "(II)I"⟩ ⟨"Writeback", "onPlace", "(II)I"⟩ ∈ AW := aw_t (i := 880) (by decide +kernel) rfl
theorem aw_888 : Cond.code ⟨"Writeback", "begin", "()I"⟩ prog_1_method_15_code 1 (some .int) ∈ AW := aw_t (i := 888) (by decide +kernel) rfl
theorem aw_885 : Cond.methodLink "WritebackLaw" 63 ⟨"Writeback", "begin", "()I"⟩ ∈ AW := aw_t (i := 885) (by decide +kernel) rfl
theorem aw_886 : Cond.instanceMethod ⟨"Writeback", "begin", "()I"⟩ ∈ AW := aw_t (i := 886) (by decide +kernel) rfl
theorem aw_887 : Cond.selects "Writeback" ⟨"Writeback", "begin", "()I"⟩ ⟨"Writeback", "begin", "()I"⟩ ∈ AW := aw_t (i := 887) (by decide +kernel) rfl
theorem aw_896 : Cond.code ⟨"Writeback", "commit", "()I"⟩ prog_1_method_16_code 3 (some .int) ∈ AW := aw_t (i := 896) (by decide +kernel) rfl
theorem aw_893 : Cond.methodLink "WritebackLaw" 67 ⟨"Writeback", "commit", "()I"⟩ ∈ AW := aw_t (i := 893) (by decide +kernel) rfl
theorem aw_894 : Cond.instanceMethod ⟨"Writeback", "commit", "()I"⟩ ∈ AW := aw_t (i := 894) (by decide +kernel) rfl
theorem aw_895 : Cond.selects "Writeback" ⟨"Writeback", "commit", "()I"⟩ ⟨"Writeback", "commit", "()I"⟩ ∈ AW := aw_t (i := 895) (by decide +kernel) rfl
theorem aw_921 : Cond.code ⟨"Writeback", "abort", "()I"⟩ prog_1_method_17_code 3 (some .int) ∈ AW := aw_t (i := 921) (by decide +kernel) rfl
theorem aw_918 : Cond.methodLink "WritebackLaw" 70 ⟨"Writeback", "abort", "()I"⟩ ∈ AW := aw_t (i := 918) (by decide +kernel) rfl
theorem aw_919 : Cond.instanceMethod ⟨"Writeback", "abort", "()I"⟩ ∈ AW := aw_t (i := 919) (by decide +kernel) rfl
theorem aw_920 : Cond.selects "Writeback" ⟨"Writeback", "abort", "()I"⟩ ⟨"Writeback", "abort", "()I"⟩ ∈ AW := aw_t (i := 920) (by decide +kernel) rfl
theorem aw_933 : Cond.code ⟨"Writeback", "checkpoint", "()I"⟩ prog_1_method_19_code 1 (some .int) ∈ AW := aw_t (i := 933) (by decide +kernel) rfl
theorem aw_930 : Cond.methodLink "WritebackLaw" 73 ⟨"Writeback", "checkpoint", "()I"⟩ ∈ AW := aw_t (i := 930) (by decide +kernel) rfl
theorem aw_931 : Cond.instanceMethod ⟨"Writeback", "checkpoint", "()I"⟩ ∈ AW := aw_t (i := 931) (by decide +kernel) rfl
theorem aw_932 : Cond.selects "Writeback" ⟨"Writeback", "checkpoint", "()I"⟩ ⟨"Writeback", "checkpoint", "()I"⟩ ∈ AW := aw_t (i := 932) (by decide +kernel) rfl
theorem aw_940 : Cond.code ⟨"Writeback", "sync", "(I)I"⟩ prog_1_method_20_code 7 (some .int) ∈ AW := aw_t (i := 940) (by decide +kernel) rfl
theorem aw_937 : Cond.methodLink "WritebackLaw" 76 ⟨"Writeback", "sync", "(I)I"⟩ ∈ AW := aw_t (i := 937) (by decide +kernel) rfl
theorem aw_938 : Cond.instanceMethod ⟨"Writeback", "sync", "(I)I"⟩ ∈ AW := aw_t (i := 938) (by decide +kernel) rfl
theorem aw_939 : Cond.selects "Writeback" ⟨"Writeback", "sync", "(I)I"⟩ ⟨"Writeback", "sync", "(I)I"⟩ ∈ AW := aw_t (i := 939) (by decide +kernel) rfl
theorem aw_953 : Cond.code ⟨"Writeback", "failAt", "(I)I"⟩ prog_1_method_22_code 3 (some .int) ∈ AW := aw_t (i := 953) (by decide +kernel) rfl
theorem aw_950 : Cond.methodLink "WritebackLaw" 79 ⟨"Writeback", "failAt", "(I)I"⟩ ∈ AW := aw_t (i := 950) (by decide +kernel) rfl
theorem aw_951 : Cond.instanceMethod ⟨"Writeback", "failAt", "(I)I"⟩ ∈ AW := aw_t (i := 951) (by decide +kernel) rfl
theorem aw_952 : Cond.selects "Writeback" ⟨"Writeback", "failAt", "(I)I"⟩ ⟨"Writeback", "failAt", "(I)I"⟩ ∈ AW := aw_t (i := 952) (by decide +kernel) rfl
theorem aw_960 : Cond.code ⟨"Writeback", "fail", "()I"⟩ prog_1_method_23_code 2 (some .int) ∈ AW := aw_t (i := 960) (by decide +kernel) rfl
theorem aw_957 : Cond.methodLink "WritebackLaw" 82 ⟨"Writeback", "fail", "()I"⟩ ∈ AW := aw_t (i := 957) (by decide +kernel) rfl
theorem aw_958 : Cond.instanceMethod ⟨"Writeback", "fail", "()I"⟩ ∈ AW := aw_t (i := 958) (by decide +kernel) rfl
theorem aw_959 : Cond.selects "Writeback" ⟨"Writeback", "fail", "()I"⟩ ⟨"Writeback", "fail", "()I"⟩ ∈ AW := aw_t (i := 959) (by decide +kernel) rfl
theorem aw_967 : Cond.code ⟨"Writeback", "powerOn", "()I"⟩ prog_1_method_24_code 3 (some .int) ∈ AW := aw_t (i := 967) (by decide +kernel) rfl
theorem aw_964 : Cond.methodLink "WritebackLaw" 85 ⟨"Writeback", "powerOn", "()I"⟩ ∈ AW := aw_t (i := 964) (by decide +kernel) rfl
theorem aw_965 : Cond.instanceMethod ⟨"Writeback", "powerOn", "()I"⟩ ∈ AW := aw_t (i := 965) (by decide +kernel) rfl
theorem aw_966 : Cond.selects "Writeback" ⟨"Writeback", "powerOn", "()I"⟩ ⟨"Writeback", "powerOn", "()I"⟩ ∈ AW := aw_t (i := 966) (by decide +kernel) rfl
theorem aw_975 : Cond.code ⟨"Writeback", "damage", "(III)I"⟩ prog_1_method_26_code 6 (some .int) ∈ AW := aw_t (i := 975) (by decide +kernel) rfl
theorem aw_972 : Cond.methodLink "WritebackLaw" 88 ⟨"Writeback", "damage", "(III)I"⟩ ∈ AW := aw_t (i := 972) (by decide +kernel) rfl
theorem aw_973 : Cond.instanceMethod ⟨"Writeback", "damage", "(III)I"⟩ ∈ AW := aw_t (i := 973) (by decide +kernel) rfl
theorem aw_974 : Cond.selects "Writeback" ⟨"Writeback", "damage", "(III)I"⟩ ⟨"Writeback", "damage", "(III)I"⟩ ∈ AW := aw_t (i := 974) (by decide +kernel) rfl
theorem aw_983 : Cond.code ⟨"Writeback", "scrub", "(I)I"⟩ prog_1_method_27_code 2 (some .int) ∈ AW := aw_t (i := 983) (by decide +kernel) rfl
theorem aw_980 : Cond.methodLink "WritebackLaw" 91 ⟨"Writeback", "scrub", "(I)I"⟩ ∈ AW := aw_t (i := 980) (by decide +kernel) rfl
theorem aw_981 : Cond.instanceMethod ⟨"Writeback", "scrub", "(I)I"⟩ ∈ AW := aw_t (i := 981) (by decide +kernel) rfl
theorem aw_982 : Cond.selects "Writeback" ⟨"Writeback", "scrub", "(I)I"⟩ ⟨"Writeback", "scrub", "(I)I"⟩ ∈ AW := aw_t (i := 982) (by decide +kernel) rfl
theorem aw_995 : Cond.code ⟨"Writeback", "keepImage", "(I)I"⟩ prog_1_method_28_code 3 (some .int) ∈ AW := aw_t (i := 995) (by decide +kernel) rfl
theorem aw_992 : Cond.methodLink "WritebackLaw" 94 ⟨"Writeback", "keepImage", "(I)I"⟩ ∈ AW := aw_t (i := 992) (by decide +kernel) rfl
theorem aw_993 : Cond.instanceMethod ⟨"Writeback", "keepImage", "(I)I"⟩ ∈ AW := aw_t (i := 993) (by decide +kernel) rfl
theorem aw_994 : Cond.selects "Writeback" ⟨"Writeback", "keepImage", "(I)I"⟩ ⟨"Writeback", "keepImage", "(I)I"⟩ ∈ AW := aw_t (i := 994) (by decide +kernel) rfl
theorem aw_1028 : Cond.code ⟨"Writeback", "layBack", "(II)I"⟩ prog_1_method_29_code 7 (some .int) ∈ AW := aw_t (i := 1028) (by decide +kernel) rfl
theorem aw_1025 : Cond.methodLink "WritebackLaw" 97 ⟨"Writeback", "layBack", "(II)I"⟩ ∈ AW := aw_t (i := 1025) (by decide +kernel) rfl
theorem aw_1026 : Cond.instanceMethod ⟨"Writeback", "layBack", "(II)I"⟩ ∈ AW := aw_t (i := 1026) (by decide +kernel) rfl
theorem aw_1027 : Cond.selects "Writeback" ⟨"Writeback", "layBack", "(II)I"⟩ ⟨"Writeback", "layBack", "(II)I"⟩ ∈ AW := aw_t (i := 1027) (by decide +kernel) rfl
theorem aw_1046 : Cond.code ⟨"Writeback", "getWear", "(I)I"⟩ prog_1_method_38_code 2 (some .int) ∈ AW := aw_t (i := 1046) (by decide +kernel) rfl
theorem aw_1043 : Cond.methodLink "WritebackLaw" 100 ⟨"Writeback", "getWear", "(I)I"⟩ ∈ AW := aw_t (i := 1043) (by decide +kernel) rfl
theorem aw_1044 : Cond.instanceMethod ⟨"Writeback", "getWear", "(I)I"⟩ ∈ AW := aw_t (i := 1044) (by decide +kernel) rfl
theorem aw_1045 : Cond.selects "Writeback" ⟨"Writeback", "getWear", "(I)I"⟩ ⟨"Writeback", "getWear", "(I)I"⟩ ∈ AW := aw_t (i := 1045) (by decide +kernel) rfl
theorem aw_1053 : Cond.code ⟨"Writeback", "getBill", "(I)J"⟩ prog_1_method_39_code 2 (some .long) ∈ AW := aw_t (i := 1053) (by decide +kernel) rfl
theorem aw_1050 : Cond.methodLink "WritebackLaw" 103 ⟨"Writeback", "getBill", "(I)J"⟩ ∈ AW := aw_t (i := 1050) (by decide +kernel) rfl
theorem aw_1051 : Cond.instanceMethod ⟨"Writeback", "getBill", "(I)J"⟩ ∈ AW := aw_t (i := 1051) (by decide +kernel) rfl
theorem aw_1052 : Cond.selects "Writeback" ⟨"Writeback", "getBill", "(I)J"⟩ ⟨"Writeback", "getBill", "(I)J"⟩ ∈ AW := aw_t (i := 1052) (by decide +kernel) rfl
theorem aw_1060 : Cond.code ⟨"Writeback", "missesBy", "(CI)I"⟩ prog_1_method_40_code 3 (some .int) ∈ AW := aw_t (i := 1060) (by decide +kernel) rfl
theorem aw_1057 : Cond.methodLink "WritebackLaw" 107 ⟨"Writeback", "missesBy", "(CI)I"⟩ ∈ AW := aw_t (i := 1057) (by decide +kernel) rfl
theorem aw_1058 : Cond.instanceMethod ⟨"Writeback", "missesBy", "(CI)I"⟩ ∈ AW := aw_t (i := 1058) (by decide +kernel) rfl
theorem aw_1059 : Cond.selects "Writeback" ⟨"Writeback", "missesBy", "(CI)I"⟩ ⟨"Writeback", "missesBy", "(CI)I"⟩ ∈ AW := aw_t (i := 1059) (by decide +kernel) rfl
theorem aw_1067 : Cond.code ⟨"Writeback", "framesFor", "(I)I"⟩ prog_1_method_41_code 3 (some .int) ∈ AW := aw_t (i := 1067) (by decide +kernel) rfl
theorem aw_1064 : Cond.methodLink "WritebackLaw" 111 ⟨"Writeback", "framesFor", "(I)I"⟩ ∈ AW := aw_t (i := 1064) (by decide +kernel) rfl
theorem aw_1065 : Cond.instanceMethod ⟨"Writeback", "framesFor", "(I)I"⟩ ∈ AW := aw_t (i := 1065) (by decide +kernel) rfl
theorem aw_1066 : Cond.selects "Writeback" ⟨"Writeback", "framesFor", "(I)I"⟩ ⟨"Writeback", "framesFor", "(I)I"⟩ ∈ AW := aw_t (i := 1066) (by decide +kernel) rfl
theorem aw_1071 : Cond.classLink "WritebackLaw" 118 "java/lang/ArithmeticException" ∈ AW := aw_t (i := 1071) (by decide +kernel) rfl
theorem aw_1083 : Cond.castable "java/lang/ArithmeticException" "java/lang/ArithmeticException" ∈ OW := ow_t (i := 1083) (by decide +kernel) rfl
theorem aw_1088 : Cond.code ⟨"Writeback", "getHitShare", "()F"⟩ prog_1_method_42_code 1 (some .float) ∈ AW := aw_t (i := 1088) (by decide +kernel) rfl
theorem aw_1085 : Cond.methodLink "WritebackLaw" 114 ⟨"Writeback", "getHitShare", "()F"⟩ ∈ AW := aw_t (i := 1085) (by decide +kernel) rfl
theorem aw_1086 : Cond.instanceMethod ⟨"Writeback", "getHitShare", "()F"⟩ ∈ AW := aw_t (i := 1086) (by decide +kernel) rfl
theorem aw_1087 : Cond.selects "Writeback" ⟨"Writeback", "getHitShare", "()F"⟩ ⟨"Writeback", "getHitShare", "()F"⟩ ∈ AW := aw_t (i := 1087) (by decide +kernel) rfl
theorem aw_1110 : Cond.code ⟨"Writeback", "getHitBits", "()I"⟩ prog_1_method_43_code 1 (some .int) ∈ AW := aw_t (i := 1110) (by decide +kernel) rfl
theorem aw_1107 : Cond.methodLink "WritebackLaw" 120 ⟨"Writeback", "getHitBits", "()I"⟩ ∈ AW := aw_t (i := 1107) (by decide +kernel) rfl
theorem aw_1108 : Cond.instanceMethod ⟨"Writeback", "getHitBits", "()I"⟩ ∈ AW := aw_t (i := 1108) (by decide +kernel) rfl
theorem aw_1109 : Cond.selects "Writeback" ⟨"Writeback", "getHitBits", "()I"⟩ ⟨"Writeback", "getHitBits", "()I"⟩ ∈ AW := aw_t (i := 1109) (by decide +kernel) rfl
theorem aw_1121 : Cond.code ⟨"Writeback", "getMeanCost", "()D"⟩ prog_1_method_44_code 4 (some .double) ∈ AW := aw_t (i := 1121) (by decide +kernel) rfl
theorem aw_1118 : Cond.methodLink "WritebackLaw" 123 ⟨"Writeback", "getMeanCost", "()D"⟩ ∈ AW := aw_t (i := 1118) (by decide +kernel) rfl
theorem aw_1119 : Cond.instanceMethod ⟨"Writeback", "getMeanCost", "()D"⟩ ∈ AW := aw_t (i := 1119) (by decide +kernel) rfl
theorem aw_1120 : Cond.selects "Writeback" ⟨"Writeback", "getMeanCost", "()D"⟩ ⟨"Writeback", "getMeanCost", "()D"⟩ ∈ AW := aw_t (i := 1120) (by decide +kernel) rfl
theorem aw_41 : Cond.classLink "WritebackLaw" 8 "Writeback" ∈ AW := aw_t (i := 41) (by decide +kernel) rfl
theorem aw_42 : Cond.instantiable "Writeback" 16 ∈ AW := aw_t (i := 42) (by decide +kernel) rfl
theorem aw_43 : Cond.methodLink "WritebackLaw" 127 ⟨"Writeback", "<init>", "()V"⟩ ∈ AW := aw_t (i := 43) (by decide +kernel) rfl
theorem aw_45 : Cond.code ⟨"Writeback", "<init>", "()V"⟩ prog_1_method_1_code 2 none ∈ AW := aw_t (i := 45) (by decide +kernel) rfl
theorem aw_44 : Cond.instanceMethod ⟨"Writeback", "<init>", "()V"⟩ ∈ AW := aw_t (i := 44) (by decide +kernel) rfl
theorem aw_1122 : Cond.classLink "WritebackLaw" 128 "WritebackModel" ∈ AW := aw_t (i := 1122) (by decide +kernel) rfl
theorem aw_1123 : Cond.instantiable "WritebackModel" 29 ∈ AW := aw_t (i := 1123) (by decide +kernel) rfl
theorem aw_1124 : Cond.methodLink "WritebackLaw" 130 ⟨"WritebackModel", "<init>", "()V"⟩ ∈ AW := aw_t (i := 1124) (by decide +kernel) rfl
theorem aw_1126 : Cond.code ⟨"WritebackModel", "<init>", "()V"⟩ prog_12_method_2_code 2 none ∈ AW := aw_t (i := 1126) (by decide +kernel) rfl
theorem aw_1125 : Cond.instanceMethod ⟨"WritebackModel", "<init>", "()V"⟩ ∈ AW := aw_t (i := 1125) (by decide +kernel) rfl
theorem aw_1840 : Cond.arrayClass .double ∈ AW := aw_t (i := 1840) (by decide +kernel) rfl
theorem aw_491 : Cond.codeWith ⟨"WritebackLaw", "addFile", "(LWriteback;I[J)I"⟩ method_3_code 4 (some .int) [(0, 9, 12, 13), (0, 9, 15, 15)] ∈ AW := aw_t (i := 491) (by decide +kernel) rfl
theorem aw_489 : Cond.methodLink "WritebackLaw" 131 ⟨"WritebackLaw", "addFile", "(LWriteback;I[J)I"⟩ ∈ AW := aw_t (i := 489) (by decide +kernel) rfl
theorem aw_490 : Cond.static ⟨"WritebackLaw", "addFile", "(LWriteback;I[J)I"⟩ ∈ AW := aw_t (i := 490) (by decide +kernel) rfl
theorem aw_0 : Cond.initialized "WritebackLaw" ∈ AW := aw_t (i := 0) (by decide +kernel) rfl
theorem aw_1251 : Cond.code ⟨"WritebackModel", "addFile", "(I)I"⟩ prog_12_method_4_code 2 (some .int) ∈ AW := aw_t (i := 1251) (by decide +kernel) rfl
theorem aw_1248 : Cond.methodLink "WritebackLaw" 136 ⟨"WritebackModel", "addFile", "(I)I"⟩ ∈ AW := aw_t (i := 1248) (by decide +kernel) rfl
theorem aw_1249 : Cond.instanceMethod ⟨"WritebackModel", "addFile", "(I)I"⟩ ∈ AW := aw_t (i := 1249) (by decide +kernel) rfl
theorem aw_1250 : Cond.selects "WritebackModel" ⟨"WritebackModel", "addFile", "(I)I"⟩ ⟨"WritebackModel", "addFile", "(I)I"⟩ ∈ AW := aw_t (i := 1250) (by decide +kernel) rfl
theorem aw_1247 : Cond.code ⟨"WritebackModel", "thrown", "()I"⟩ prog_12_method_3_code 1 (some .int) ∈ AW := aw_t (i := 1247) (by decide +kernel) rfl
theorem aw_1244 : Cond.methodLink "WritebackLaw" 137 ⟨"WritebackModel", "thrown", "()I"⟩ ∈ AW := aw_t (i := 1244) (by decide +kernel) rfl
theorem aw_1245 : Cond.instanceMethod ⟨"WritebackModel", "thrown", "()I"⟩ ∈ AW := aw_t (i := 1245) (by decide +kernel) rfl
theorem aw_1246 : Cond.selects "WritebackModel" ⟨"WritebackModel", "thrown", "()I"⟩ ⟨"WritebackModel", "thrown", "()I"⟩ ∈ AW := aw_t (i := 1246) (by decide +kernel) rfl
theorem aw_616 : Cond.codeWith ⟨"WritebackLaw", "setFrames", "(LWriteback;I[J)I"⟩ method_4_code 4 (some .int) [(0, 9, 12, 20), (0, 9, 15, 22), (0, 9, 18, 15)] ∈ AW := aw_t (i := 616) (by decide +kernel) rfl
theorem aw_614 : Cond.methodLink "WritebackLaw" 140 ⟨"WritebackLaw", "setFrames", "(LWriteback;I[J)I"⟩ ∈ AW := aw_t (i := 614) (by decide +kernel) rfl
theorem aw_615 : Cond.static ⟨"WritebackLaw", "setFrames", "(LWriteback;I[J)I"⟩ ∈ AW := aw_t (i := 615) (by decide +kernel) rfl
theorem aw_1345 : Cond.code ⟨"WritebackModel", "setFrames", "(I)I"⟩ prog_12_method_5_code 4 (some .int) ∈ AW := aw_t (i := 1345) (by decide +kernel) rfl
theorem aw_1342 : Cond.methodLink "WritebackLaw" 142 ⟨"WritebackModel", "setFrames", "(I)I"⟩ ∈ AW := aw_t (i := 1342) (by decide +kernel) rfl
theorem aw_1343 : Cond.instanceMethod ⟨"WritebackModel", "setFrames", "(I)I"⟩ ∈ AW := aw_t (i := 1343) (by decide +kernel) rfl
theorem aw_1344 : Cond.selects "WritebackModel" ⟨"WritebackModel", "setFrames", "(I)I"⟩ ⟨"WritebackModel", "setFrames", "(I)I"⟩ ∈ AW := aw_t (i := 1344) (by decide +kernel) rfl
theorem aw_713 : Cond.codeWith ⟨"WritebackLaw", "setPolicy", "(LWriteback;C[J)I"⟩ method_5_code 4 (some .int) [(0, 9, 12, 20)] ∈ AW := aw_t (i := 713) (by decide +kernel) rfl
theorem aw_711 : Cond.methodLink "WritebackLaw" 143 ⟨"WritebackLaw", "setPolicy", "(LWriteback;C[J)I"⟩ ∈ AW := aw_t (i := 711) (by decide +kernel) rfl
theorem aw_712 : Cond.static ⟨"WritebackLaw", "setPolicy", "(LWriteback;C[J)I"⟩ ∈ AW := aw_t (i := 712) (by decide +kernel) rfl
theorem aw_1386 : Cond.code ⟨"WritebackModel", "setPolicy", "(C)C"⟩ prog_12_method_6_code 3 (some .char) ∈ AW := aw_t (i := 1386) (by decide +kernel) rfl
theorem aw_1383 : Cond.methodLink "WritebackLaw" 146 ⟨"WritebackModel", "setPolicy", "(C)C"⟩ ∈ AW := aw_t (i := 1383) (by decide +kernel) rfl
theorem aw_1384 : Cond.instanceMethod ⟨"WritebackModel", "setPolicy", "(C)C"⟩ ∈ AW := aw_t (i := 1384) (by decide +kernel) rfl
theorem aw_1385 : Cond.selects "WritebackModel" ⟨"WritebackModel", "setPolicy", "(C)C"⟩ ⟨"WritebackModel", "setPolicy", "(C)C"⟩ ∈ AW := aw_t (i := 1385) (by decide +kernel) rfl
theorem aw_724 : Cond.codeWith ⟨"WritebackLaw", "setLimit", "(LWriteback;I[J)I"⟩ method_6_code 4 (some .int) [(0, 9, 12, 20)] ∈ AW := aw_t (i := 724) (by decide +kernel) rfl
theorem aw_722 : Cond.methodLink "WritebackLaw" 147 ⟨"WritebackLaw", "setLimit", "(LWriteback;I[J)I"⟩ ∈ AW := aw_t (i := 722) (by decide +kernel) rfl
theorem aw_723 : Cond.static ⟨"WritebackLaw", "setLimit", "(LWriteback;I[J)I"⟩ ∈ AW := aw_t (i := 723) (by decide +kernel) rfl
theorem aw_1390 : Cond.code ⟨"WritebackModel", "setLimit", "(I)I"⟩ prog_12_method_7_code 3 (some .int) ∈ AW := aw_t (i := 1390) (by decide +kernel) rfl
theorem aw_1387 : Cond.methodLink "WritebackLaw" 149 ⟨"WritebackModel", "setLimit", "(I)I"⟩ ∈ AW := aw_t (i := 1387) (by decide +kernel) rfl
theorem aw_1388 : Cond.instanceMethod ⟨"WritebackModel", "setLimit", "(I)I"⟩ ∈ AW := aw_t (i := 1388) (by decide +kernel) rfl
theorem aw_1389 : Cond.selects "WritebackModel" ⟨"WritebackModel", "setLimit", "(I)I"⟩ ⟨"WritebackModel", "setLimit", "(I)I"⟩ ∈ AW := aw_t (i := 1389) (by decide +kernel) rfl
theorem aw_731 : Cond.codeWith ⟨"WritebackLaw", "setWindow", "(LWriteback;I[J)I"⟩ method_7_code 4 (some .int) [(0, 9, 12, 20)] ∈ AW := aw_t (i := 731) (by decide +kernel) rfl
theorem aw_729 : Cond.methodLink "WritebackLaw" 150 ⟨"WritebackLaw", "setWindow", "(LWriteback;I[J)I"⟩ ∈ AW := aw_t (i := 729) (by decide +kernel) rfl
theorem aw_730 : Cond.static ⟨"WritebackLaw", "setWindow", "(LWriteback;I[J)I"⟩ ∈ AW := aw_t (i := 730) (by decide +kernel) rfl
theorem aw_1394 : Cond.code ⟨"WritebackModel", "setWindow", "(I)I"⟩ prog_12_method_8_code 3 (some .int) ∈ AW := aw_t (i := 1394) (by decide +kernel) rfl
theorem aw_1391 : Cond.methodLink "WritebackLaw" 152 ⟨"WritebackModel", "setWindow", "(I)I"⟩ ∈ AW := aw_t (i := 1391) (by decide +kernel) rfl
theorem aw_1392 : Cond.instanceMethod ⟨"WritebackModel", "setWindow", "(I)I"⟩ ∈ AW := aw_t (i := 1392) (by decide +kernel) rfl
theorem aw_1393 : Cond.selects "WritebackModel" ⟨"WritebackModel", "setWindow", "(I)I"⟩ ⟨"WritebackModel", "setWindow", "(I)I"⟩ ∈ AW := aw_t (i := 1393) (by decide +kernel) rfl
theorem aw_738 : Cond.codeWith ⟨"WritebackLaw", "setTenant", "(LWriteback;I[J)I"⟩ method_8_code 4 (some .int) [(0, 9, 12, 20)] ∈ AW := aw_t (i := 738) (by decide +kernel) rfl
theorem aw_736 : Cond.methodLink "WritebackLaw" 153 ⟨"WritebackLaw", "setTenant", "(LWriteback;I[J)I"⟩ ∈ AW := aw_t (i := 736) (by decide +kernel) rfl
theorem aw_737 : Cond.static ⟨"WritebackLaw", "setTenant", "(LWriteback;I[J)I"⟩ ∈ AW := aw_t (i := 737) (by decide +kernel) rfl
theorem aw_1399 : Cond.code ⟨"WritebackModel", "setTenant", "(I)I"⟩ prog_12_method_9_code 3 (some .int) ∈ AW := aw_t (i := 1399) (by decide +kernel) rfl
theorem aw_1396 : Cond.methodLink "WritebackLaw" 155 ⟨"WritebackModel", "setTenant", "(I)I"⟩ ∈ AW := aw_t (i := 1396) (by decide +kernel) rfl
theorem aw_1397 : Cond.instanceMethod ⟨"WritebackModel", "setTenant", "(I)I"⟩ ∈ AW := aw_t (i := 1397) (by decide +kernel) rfl
theorem aw_1398 : Cond.selects "WritebackModel" ⟨"WritebackModel", "setTenant", "(I)I"⟩ ⟨"WritebackModel", "setTenant", "(I)I"⟩ ∈ AW := aw_t (i := 1398) (by decide +kernel) rfl
theorem aw_745 : Cond.codeWith ⟨"WritebackLaw", "read", "(LWriteback;II[J)I"⟩ method_9_code 5 (some .int) [(0, 10, 13, 13), (0, 10, 17, 22), (0, 10, 21, 15)] ∈ AW := aw_t (i := 745) (by decide +kernel) rfl
theorem aw_743 : Cond.methodLink "WritebackLaw" 156 ⟨"WritebackLaw", "read", "(LWriteback;II[J)I"⟩ ∈ AW := aw_t (i := 743) (by decide +kernel) rfl
theorem aw_744 : Cond.static ⟨"WritebackLaw", "read", "(LWriteback;II[J)I"⟩ ∈ AW := aw_t (i := 744) (by decide +kernel) rfl
theorem aw_1404 : Cond.code ⟨"WritebackModel", "read", "(II)I"⟩ prog_12_method_29_code 9 (some .int) ∈ AW := aw_t (i := 1404) (by decide +kernel) rfl
theorem aw_1401 : Cond.methodLink "WritebackLaw" 159 ⟨"WritebackModel", "read", "(II)I"⟩ ∈ AW := aw_t (i := 1401) (by decide +kernel) rfl
theorem aw_1402 : Cond.instanceMethod ⟨"WritebackModel", "read", "(II)I"⟩ ∈ AW := aw_t (i := 1402) (by decide +kernel) rfl
theorem aw_1403 : Cond.selects "WritebackModel" ⟨"WritebackModel", "read", "(II)I"⟩ ⟨"WritebackModel", "read", "(II)I"⟩ ∈ AW := aw_t (i := 1403) (by decide +kernel) rfl
theorem aw_799 : Cond.codeWith ⟨"WritebackLaw", "write", "(LWriteback;III[J)I"⟩ method_10_code 6 (some .int) [(0, 12, 15, 13), (0, 12, 19, 20), (0, 12, 23, 22), (0, 12, 27, 15)] ∈ AW := aw_t (i := 799) (by decide +kernel) rfl
theorem aw_797 : Cond.methodLink "WritebackLaw" 160 ⟨"WritebackLaw", "write", "(LWriteback;III[J)I"⟩ ∈ AW := aw_t (i := 797) (by decide +kernel) rfl
theorem aw_798 : Cond.static ⟨"WritebackLaw", "write", "(LWriteback;III[J)I"⟩ ∈ AW := aw_t (i := 798) (by decide +kernel) rfl
theorem aw_1540 : Cond.code ⟨"WritebackModel", "write", "(III)I"⟩ prog_12_method_33_code 11 (some .int) ∈ AW := aw_t (i := 1540) (by decide +kernel) rfl
theorem aw_1537 : Cond.methodLink "WritebackLaw" 163 ⟨"WritebackModel", "write", "(III)I"⟩ ∈ AW := aw_t (i := 1537) (by decide +kernel) rfl
theorem aw_1538 : Cond.instanceMethod ⟨"WritebackModel", "write", "(III)I"⟩ ∈ AW := aw_t (i := 1538) (by decide +kernel) rfl
theorem aw_1539 : Cond.selects "WritebackModel" ⟨"WritebackModel", "write", "(III)I"⟩ ⟨"WritebackModel", "write", "(III)I"⟩ ∈ AW := aw_t (i := 1539) (by decide +kernel) rfl
theorem aw_831 : Cond.codeWith ⟨"WritebackLaw", "pin", "(LWriteback;II[J)I"⟩ method_11_code 5 (some .int) [(0, 10, 13, 13), (0, 10, 17, 48)] ∈ AW := aw_t (i := 831) (by decide +kernel) rfl
theorem aw_829 : Cond.methodLink "WritebackLaw" 164 ⟨"WritebackLaw", "pin", "(LWriteback;II[J)I"⟩ ∈ AW := aw_t (i := 829) (by decide +kernel) rfl
theorem aw_830 : Cond.static ⟨"WritebackLaw", "pin", "(LWriteback;II[J)I"⟩ ∈ AW := aw_t (i := 830) (by decide +kernel) rfl
theorem aw_1557 : Cond.code ⟨"WritebackModel", "pin", "(II)I"⟩ prog_12_method_36_code 4 (some .int) ∈ AW := aw_t (i := 1557) (by decide +kernel) rfl
theorem aw_1554 : Cond.methodLink "WritebackLaw" 166 ⟨"WritebackModel", "pin", "(II)I"⟩ ∈ AW := aw_t (i := 1554) (by decide +kernel) rfl
theorem aw_1555 : Cond.instanceMethod ⟨"WritebackModel", "pin", "(II)I"⟩ ∈ AW := aw_t (i := 1555) (by decide +kernel) rfl
theorem aw_1556 : Cond.selects "WritebackModel" ⟨"WritebackModel", "pin", "(II)I"⟩ ⟨"WritebackModel", "pin", "(II)I"⟩ ∈ AW := aw_t (i := 1556) (by decide +kernel) rfl
theorem aw_855 : Cond.codeWith ⟨"WritebackLaw", "unpin", "(LWriteback;II[J)I"⟩ method_12_code 5 (some .int) [(0, 10, 13, 13), (0, 10, 17, 48)] ∈ AW := aw_t (i := 855) (by decide +kernel) rfl
theorem aw_853 : Cond.methodLink "WritebackLaw" 167 ⟨"WritebackLaw", "unpin", "(LWriteback;II[J)I"⟩ ∈ AW := aw_t (i := 853) (by decide +kernel) rfl
theorem aw_854 : Cond.static ⟨"WritebackLaw", "unpin", "(LWriteback;II[J)I"⟩ ∈ AW := aw_t (i := 854) (by decide +kernel) rfl
theorem aw_1565 : Cond.code ⟨"WritebackModel", "unpin", "(II)I"⟩ prog_12_method_37_code 4 (some .int) ∈ AW := aw_t (i := 1565) (by decide +kernel) rfl
theorem aw_1562 : Cond.methodLink "WritebackLaw" 169 ⟨"WritebackModel", "unpin", "(II)I"⟩ ∈ AW := aw_t (i := 1562) (by decide +kernel) rfl
theorem aw_1563 : Cond.instanceMethod ⟨"WritebackModel", "unpin", "(II)I"⟩ ∈ AW := aw_t (i := 1563) (by decide +kernel) rfl
theorem aw_1564 : Cond.selects "WritebackModel" ⟨"WritebackModel", "unpin", "(II)I"⟩ ⟨"WritebackModel", "unpin", "(II)I"⟩ ∈ AW := aw_t (i := 1564) (by decide +kernel) rfl
theorem aw_863 : Cond.codeWith ⟨"WritebackLaw", "frameOf", "(LWriteback;II[J)I"⟩ method_13_code 5 (some .int) [(0, 10, 13, 13)] ∈ AW := aw_t (i := 863) (by decide +kernel) rfl
theorem aw_861 : Cond.methodLink "WritebackLaw" 170 ⟨"WritebackLaw", "frameOf", "(LWriteback;II[J)I"⟩ ∈ AW := aw_t (i := 861) (by decide +kernel) rfl
theorem aw_862 : Cond.static ⟨"WritebackLaw", "frameOf", "(LWriteback;II[J)I"⟩ ∈ AW := aw_t (i := 862) (by decide +kernel) rfl
theorem aw_1569 : Cond.code ⟨"WritebackModel", "frameOf", "(II)I"⟩ prog_12_method_38_code 3 (some .int) ∈ AW := aw_t (i := 1569) (by decide +kernel) rfl
theorem aw_1566 : Cond.methodLink "WritebackLaw" 172 ⟨"WritebackModel", "frameOf", "(II)I"⟩ ∈ AW := aw_t (i := 1566) (by decide +kernel) rfl
theorem aw_1567 : Cond.instanceMethod ⟨"WritebackModel", "frameOf", "(II)I"⟩ ∈ AW := aw_t (i := 1567) (by decide +kernel) rfl
theorem aw_1568 : Cond.selects "WritebackModel" ⟨"WritebackModel", "frameOf", "(II)I"⟩ ⟨"WritebackModel", "frameOf", "(II)I"⟩ ∈ AW := aw_t (i := 1568) (by decide +kernel) rfl
theorem aw_870 : Cond.codeWith ⟨"WritebackLaw", "isDirty", "(LWriteback;II[J)I"⟩ method_14_code 5 (some .int) [(0, 17, 20, 13)] ∈ AW := aw_t (i := 870) (by decide +kernel) rfl
theorem aw_868 : Cond.methodLink "WritebackLaw" 173 ⟨"WritebackLaw", "isDirty", "(LWriteback;II[J)I"⟩ ∈ AW := aw_t (i := 868) (by decide +kernel) rfl
theorem aw_869 : Cond.static ⟨"WritebackLaw", "isDirty", "(LWriteback;II[J)I"⟩ ∈ AW := aw_t (i := 869) (by decide +kernel) rfl
theorem aw_1573 : Cond.code ⟨"WritebackModel", "isDirty", "(II)Z"⟩ prog_12_method_39_code 4 (some .boolean) ∈ AW := aw_t (i := 1573) (by decide +kernel) rfl
theorem aw_1570 : Cond.methodLink "WritebackLaw" 175 ⟨"WritebackModel", "isDirty", "(II)Z"⟩ ∈ AW := aw_t (i := 1570) (by decide +kernel) rfl
theorem aw_1571 : Cond.instanceMethod ⟨"WritebackModel", "isDirty", "(II)Z"⟩ ∈ AW := aw_t (i := 1571) (by decide +kernel) rfl
theorem aw_1572 : Cond.selects "WritebackModel" ⟨"WritebackModel", "isDirty", "(II)Z"⟩ ⟨"WritebackModel", "isDirty", "(II)Z"⟩ ∈ AW := aw_t (i := 1572) (by decide +kernel) rfl
theorem aw_877 : Cond.codeWith ⟨"WritebackLaw", "onPlace", "(LWriteback;II[J)I"⟩ method_15_code 5 (some .int) [(0, 10, 13, 13)] ∈ AW := aw_t (i := 877) (by decide +kernel) rfl
theorem aw_875 : Cond.methodLink "WritebackLaw" 176 ⟨"WritebackLaw", "onPlace", "(LWriteback;II[J)I"⟩ ∈ AW := aw_t (i := 875) (by decide +kernel) rfl
theorem aw_876 : Cond.static ⟨"WritebackLaw", "onPlace", "(LWriteback;II[J)I"⟩ ∈ AW := aw_t (i := 876) (by decide +kernel) rfl
theorem aw_1577 : Cond.code ⟨"WritebackModel", "onPlace", "(II)I"⟩ prog_12_method_40_code 3 (some .int) ∈ AW := aw_t (i := 1577) (by decide +kernel) rfl
theorem aw_1574 : Cond.methodLink "WritebackLaw" 178 ⟨"WritebackModel", "onPlace", "(II)I"⟩ ∈ AW := aw_t (i := 1574) (by decide +kernel) rfl
theorem aw_1575 : Cond.instanceMethod ⟨"WritebackModel", "onPlace", "(II)I"⟩ ∈ AW := aw_t (i := 1575) (by decide +kernel) rfl
theorem aw_1576 : Cond.selects "WritebackModel" ⟨"WritebackModel", "onPlace", "(II)I"⟩ ⟨"WritebackModel", "onPlace", "(II)I"⟩ ∈ AW := aw_t (i := 1576) (by decide +kernel) rfl
theorem aw_884 : Cond.codeWith ⟨"WritebackLaw", "begin", "(LWriteback;[J)I"⟩ method_16_code 3 (some .int) [(0, 8, 11, 22)] ∈ AW := aw_t (i := 884) (by decide +kernel) rfl
theorem aw_882 : Cond.methodLink "WritebackLaw" 179 ⟨"WritebackLaw", "begin", "(LWriteback;[J)I"⟩ ∈ AW := aw_t (i := 882) (by decide +kernel) rfl
theorem aw_883 : Cond.static ⟨"WritebackLaw", "begin", "(LWriteback;[J)I"⟩ ∈ AW := aw_t (i := 883) (by decide +kernel) rfl
theorem aw_1581 : Cond.code ⟨"WritebackModel", "begin", "()I"⟩ prog_12_method_41_code 1 (some .int) ∈ AW := aw_t (i := 1581) (by decide +kernel) rfl
theorem aw_1578 : Cond.methodLink "WritebackLaw" 182 ⟨"WritebackModel", "begin", "()I"⟩ ∈ AW := aw_t (i := 1578) (by decide +kernel) rfl
theorem aw_1579 : Cond.instanceMethod ⟨"WritebackModel", "begin", "()I"⟩ ∈ AW := aw_t (i := 1579) (by decide +kernel) rfl
theorem aw_1580 : Cond.selects "WritebackModel" ⟨"WritebackModel", "begin", "()I"⟩ ⟨"WritebackModel", "begin", "()I"⟩ ∈ AW := aw_t (i := 1580) (by decide +kernel) rfl
theorem aw_892 : Cond.codeWith ⟨"WritebackLaw", "commit", "(LWriteback;[J)I"⟩ method_17_code 3 (some .int) [(0, 8, 11, 22)] ∈ AW := aw_t (i := 892) (by decide +kernel) rfl
theorem aw_890 : Cond.methodLink "WritebackLaw" 183 ⟨"WritebackLaw", "commit", "(LWriteback;[J)I"⟩ ∈ AW := aw_t (i := 890) (by decide +kernel) rfl
theorem aw_891 : Cond.static ⟨"WritebackLaw", "commit", "(LWriteback;[J)I"⟩ ∈ AW := aw_t (i := 891) (by decide +kernel) rfl
theorem aw_1585 : Cond.code ⟨"WritebackModel", "commit", "()I"⟩ prog_12_method_43_code 6 (some .int) ∈ AW := aw_t (i := 1585) (by decide +kernel) rfl
theorem aw_1582 : Cond.methodLink "WritebackLaw" 185 ⟨"WritebackModel", "commit", "()I"⟩ ∈ AW := aw_t (i := 1582) (by decide +kernel) rfl
theorem aw_1583 : Cond.instanceMethod ⟨"WritebackModel", "commit", "()I"⟩ ∈ AW := aw_t (i := 1583) (by decide +kernel) rfl
theorem aw_1584 : Cond.selects "WritebackModel" ⟨"WritebackModel", "commit", "()I"⟩ ⟨"WritebackModel", "commit", "()I"⟩ ∈ AW := aw_t (i := 1584) (by decide +kernel) rfl
theorem aw_917 : Cond.codeWith ⟨"WritebackLaw", "abort", "(LWriteback;[J)I"⟩ method_18_code 3 (some .int) [(0, 8, 11, 22)] ∈ AW := aw_t (i := 917) (by decide +kernel) rfl
theorem aw_915 : Cond.methodLink "WritebackLaw" 186 ⟨"WritebackLaw", "abort", "(LWriteback;[J)I"⟩ ∈ AW := aw_t (i := 915) (by decide +kernel) rfl
theorem aw_916 : Cond.static ⟨"WritebackLaw", "abort", "(LWriteback;[J)I"⟩ ∈ AW := aw_t (i := 916) (by decide +kernel) rfl
theorem aw_1597 : Cond.code ⟨"WritebackModel", "abort", "()I"⟩ prog_12_method_44_code 4 (some .int) ∈ AW := aw_t (i := 1597) (by decide +kernel) rfl
theorem aw_1594 : Cond.methodLink "WritebackLaw" 188 ⟨"WritebackModel", "abort", "()I"⟩ ∈ AW := aw_t (i := 1594) (by decide +kernel) rfl
theorem aw_1595 : Cond.instanceMethod ⟨"WritebackModel", "abort", "()I"⟩ ∈ AW := aw_t (i := 1595) (by decide +kernel) rfl
theorem aw_1596 : Cond.selects "WritebackModel" ⟨"WritebackModel", "abort", "()I"⟩ ⟨"WritebackModel", "abort", "()I"⟩ ∈ AW := aw_t (i := 1596) (by decide +kernel) rfl
theorem aw_327 : Cond.code ⟨"Writeback", "countWritten", "()I"⟩ prog_1_method_18_code 1 (some .int) ∈ AW := aw_t (i := 327) (by decide +kernel) rfl
theorem aw_324 : Cond.methodLink "WritebackLaw" 189 ⟨"Writeback", "countWritten", "()I"⟩ ∈ AW := aw_t (i := 324) (by decide +kernel) rfl
theorem aw_325 : Cond.instanceMethod ⟨"Writeback", "countWritten", "()I"⟩ ∈ AW := aw_t (i := 325) (by decide +kernel) rfl
theorem aw_326 : Cond.selects "Writeback" ⟨"Writeback", "countWritten", "()I"⟩ ⟨"Writeback", "countWritten", "()I"⟩ ∈ AW := aw_t (i := 326) (by decide +kernel) rfl
theorem aw_1601 : Cond.code ⟨"WritebackModel", "countWritten", "()I"⟩ prog_12_method_45_code 1 (some .int) ∈ AW := aw_t (i := 1601) (by decide +kernel) rfl
theorem aw_1598 : Cond.methodLink "WritebackLaw" 192 ⟨"WritebackModel", "countWritten", "()I"⟩ ∈ AW := aw_t (i := 1598) (by decide +kernel) rfl
theorem aw_1599 : Cond.instanceMethod ⟨"WritebackModel", "countWritten", "()I"⟩ ∈ AW := aw_t (i := 1599) (by decide +kernel) rfl
theorem aw_1600 : Cond.selects "WritebackModel" ⟨"WritebackModel", "countWritten", "()I"⟩ ⟨"WritebackModel", "countWritten", "()I"⟩ ∈ AW := aw_t (i := 1600) (by decide +kernel) rfl
theorem aw_929 : Cond.codeWith ⟨"WritebackLaw", "checkpoint", "(LWriteback;[J)I"⟩ method_19_code 3 (some .int) [(0, 8, 11, 22)] ∈ AW := aw_t (i := 929) (by decide +kernel) rfl
theorem aw_927 : Cond.methodLink "WritebackLaw" 193 ⟨"WritebackLaw", "checkpoint", "(LWriteback;[J)I"⟩ ∈ AW := aw_t (i := 927) (by decide +kernel) rfl
theorem aw_928 : Cond.static ⟨"WritebackLaw", "checkpoint", "(LWriteback;[J)I"⟩ ∈ AW := aw_t (i := 928) (by decide +kernel) rfl
theorem aw_1605 : Cond.code ⟨"WritebackModel", "checkpoint", "()I"⟩ prog_12_method_47_code 1 (some .int) ∈ AW := aw_t (i := 1605) (by decide +kernel) rfl
theorem aw_1602 : Cond.methodLink "WritebackLaw" 195 ⟨"WritebackModel", "checkpoint", "()I"⟩ ∈ AW := aw_t (i := 1602) (by decide +kernel) rfl
theorem aw_1603 : Cond.instanceMethod ⟨"WritebackModel", "checkpoint", "()I"⟩ ∈ AW := aw_t (i := 1603) (by decide +kernel) rfl
theorem aw_1604 : Cond.selects "WritebackModel" ⟨"WritebackModel", "checkpoint", "()I"⟩ ⟨"WritebackModel", "checkpoint", "()I"⟩ ∈ AW := aw_t (i := 1604) (by decide +kernel) rfl
theorem aw_936 : Cond.codeWith ⟨"WritebackLaw", "sync", "(LWriteback;I[J)I"⟩ method_20_code 4 (some .int) [(0, 9, 12, 13), (0, 9, 15, 22)] ∈ AW := aw_t (i := 936) (by decide +kernel) rfl
theorem aw_934 : Cond.methodLink "WritebackLaw" 196 ⟨"WritebackLaw", "sync", "(LWriteback;I[J)I"⟩ ∈ AW := aw_t (i := 934) (by decide +kernel) rfl
theorem aw_935 : Cond.static ⟨"WritebackLaw", "sync", "(LWriteback;I[J)I"⟩ ∈ AW := aw_t (i := 935) (by decide +kernel) rfl
theorem aw_1609 : Cond.code ⟨"WritebackModel", "sync", "(I)I"⟩ prog_12_method_48_code 7 (some .int) ∈ AW := aw_t (i := 1609) (by decide +kernel) rfl
theorem aw_1606 : Cond.methodLink "WritebackLaw" 198 ⟨"WritebackModel", "sync", "(I)I"⟩ ∈ AW := aw_t (i := 1606) (by decide +kernel) rfl
theorem aw_1607 : Cond.instanceMethod ⟨"WritebackModel", "sync", "(I)I"⟩ ∈ AW := aw_t (i := 1607) (by decide +kernel) rfl
theorem aw_1608 : Cond.selects "WritebackModel" ⟨"WritebackModel", "sync", "(I)I"⟩ ⟨"WritebackModel", "sync", "(I)I"⟩ ∈ AW := aw_t (i := 1608) (by decide +kernel) rfl
theorem aw_331 : Cond.code ⟨"Writeback", "countLog", "()I"⟩ prog_1_method_21_code 1 (some .int) ∈ AW := aw_t (i := 331) (by decide +kernel) rfl
theorem aw_328 : Cond.methodLink "WritebackLaw" 199 ⟨"Writeback", "countLog", "()I"⟩ ∈ AW := aw_t (i := 328) (by decide +kernel) rfl
theorem aw_329 : Cond.instanceMethod ⟨"Writeback", "countLog", "()I"⟩ ∈ AW := aw_t (i := 329) (by decide +kernel) rfl
theorem aw_330 : Cond.selects "Writeback" ⟨"Writeback", "countLog", "()I"⟩ ⟨"Writeback", "countLog", "()I"⟩ ∈ AW := aw_t (i := 330) (by decide +kernel) rfl
theorem aw_1614 : Cond.code ⟨"WritebackModel", "countLog", "()I"⟩ prog_12_method_49_code 1 (some .int) ∈ AW := aw_t (i := 1614) (by decide +kernel) rfl
theorem aw_1611 : Cond.methodLink "WritebackLaw" 202 ⟨"WritebackModel", "countLog", "()I"⟩ ∈ AW := aw_t (i := 1611) (by decide +kernel) rfl
theorem aw_1612 : Cond.instanceMethod ⟨"WritebackModel", "countLog", "()I"⟩ ∈ AW := aw_t (i := 1612) (by decide +kernel) rfl
theorem aw_1613 : Cond.selects "WritebackModel" ⟨"WritebackModel", "countLog", "()I"⟩ ⟨"WritebackModel", "countLog", "()I"⟩ ∈ AW := aw_t (i := 1613) (by decide +kernel) rfl
theorem aw_949 : Cond.codeWith ⟨"WritebackLaw", "failAt", "(LWriteback;I[J)I"⟩ method_21_code 4 (some .int) [(0, 9, 12, 20), (0, 9, 15, 22)] ∈ AW := aw_t (i := 949) (by decide +kernel) rfl
theorem aw_947 : Cond.methodLink "WritebackLaw" 203 ⟨"WritebackLaw", "failAt", "(LWriteback;I[J)I"⟩ ∈ AW := aw_t (i := 947) (by decide +kernel) rfl
theorem aw_948 : Cond.static ⟨"WritebackLaw", "failAt", "(LWriteback;I[J)I"⟩ ∈ AW := aw_t (i := 948) (by decide +kernel) rfl
theorem aw_1618 : Cond.code ⟨"WritebackModel", "failAt", "(I)I"⟩ prog_12_method_50_code 3 (some .int) ∈ AW := aw_t (i := 1618) (by decide +kernel) rfl
theorem aw_1615 : Cond.methodLink "WritebackLaw" 205 ⟨"WritebackModel", "failAt", "(I)I"⟩ ∈ AW := aw_t (i := 1615) (by decide +kernel) rfl
theorem aw_1616 : Cond.instanceMethod ⟨"WritebackModel", "failAt", "(I)I"⟩ ∈ AW := aw_t (i := 1616) (by decide +kernel) rfl
theorem aw_1617 : Cond.selects "WritebackModel" ⟨"WritebackModel", "failAt", "(I)I"⟩ ⟨"WritebackModel", "failAt", "(I)I"⟩ ∈ AW := aw_t (i := 1617) (by decide +kernel) rfl
theorem aw_956 : Cond.codeWith ⟨"WritebackLaw", "fail", "(LWriteback;[J)I"⟩ method_22_code 3 (some .int) [(0, 8, 11, 22)] ∈ AW := aw_t (i := 956) (by decide +kernel) rfl
theorem aw_954 : Cond.methodLink "WritebackLaw" 206 ⟨"WritebackLaw", "fail", "(LWriteback;[J)I"⟩ ∈ AW := aw_t (i := 954) (by decide +kernel) rfl
theorem aw_955 : Cond.static ⟨"WritebackLaw", "fail", "(LWriteback;[J)I"⟩ ∈ AW := aw_t (i := 955) (by decide +kernel) rfl
theorem aw_1623 : Cond.code ⟨"WritebackModel", "fail", "()I"⟩ prog_12_method_51_code 6 (some .int) ∈ AW := aw_t (i := 1623) (by decide +kernel) rfl
theorem aw_1620 : Cond.methodLink "WritebackLaw" 208 ⟨"WritebackModel", "fail", "()I"⟩ ∈ AW := aw_t (i := 1620) (by decide +kernel) rfl
theorem aw_1621 : Cond.instanceMethod ⟨"WritebackModel", "fail", "()I"⟩ ∈ AW := aw_t (i := 1621) (by decide +kernel) rfl
theorem aw_1622 : Cond.selects "WritebackModel" ⟨"WritebackModel", "fail", "()I"⟩ ⟨"WritebackModel", "fail", "()I"⟩ ∈ AW := aw_t (i := 1622) (by decide +kernel) rfl
theorem aw_963 : Cond.codeWith ⟨"WritebackLaw", "powerOn", "(LWriteback;[J)I"⟩ method_23_code 3 (some .int) [(0, 8, 11, 22)] ∈ AW := aw_t (i := 963) (by decide +kernel) rfl
theorem aw_961 : Cond.methodLink "WritebackLaw" 209 ⟨"WritebackLaw", "powerOn", "(LWriteback;[J)I"⟩ ∈ AW := aw_t (i := 961) (by decide +kernel) rfl
theorem aw_962 : Cond.static ⟨"WritebackLaw", "powerOn", "(LWriteback;[J)I"⟩ ∈ AW := aw_t (i := 962) (by decide +kernel) rfl
theorem aw_1627 : Cond.code ⟨"WritebackModel", "powerOn", "()I"⟩ prog_12_method_52_code 3 (some .int) ∈ AW := aw_t (i := 1627) (by decide +kernel) rfl
theorem aw_1624 : Cond.methodLink "WritebackLaw" 211 ⟨"WritebackModel", "powerOn", "()I"⟩ ∈ AW := aw_t (i := 1624) (by decide +kernel) rfl
theorem aw_1625 : Cond.instanceMethod ⟨"WritebackModel", "powerOn", "()I"⟩ ∈ AW := aw_t (i := 1625) (by decide +kernel) rfl
theorem aw_1626 : Cond.selects "WritebackModel" ⟨"WritebackModel", "powerOn", "()I"⟩ ⟨"WritebackModel", "powerOn", "()I"⟩ ∈ AW := aw_t (i := 1626) (by decide +kernel) rfl
theorem aw_335 : Cond.code ⟨"Writeback", "hasPower", "()Z"⟩ prog_1_method_25_code 1 (some .boolean) ∈ AW := aw_t (i := 335) (by decide +kernel) rfl
theorem aw_332 : Cond.methodLink "WritebackLaw" 212 ⟨"Writeback", "hasPower", "()Z"⟩ ∈ AW := aw_t (i := 332) (by decide +kernel) rfl
theorem aw_333 : Cond.instanceMethod ⟨"Writeback", "hasPower", "()Z"⟩ ∈ AW := aw_t (i := 333) (by decide +kernel) rfl
theorem aw_334 : Cond.selects "Writeback" ⟨"Writeback", "hasPower", "()Z"⟩ ⟨"Writeback", "hasPower", "()Z"⟩ ∈ AW := aw_t (i := 334) (by decide +kernel) rfl
theorem aw_1631 : Cond.code ⟨"WritebackModel", "hasPower", "()Z"⟩ prog_12_method_53_code 1 (some .boolean) ∈ AW := aw_t (i := 1631) (by decide +kernel) rfl
theorem aw_1628 : Cond.methodLink "WritebackLaw" 216 ⟨"WritebackModel", "hasPower", "()Z"⟩ ∈ AW := aw_t (i := 1628) (by decide +kernel) rfl
theorem aw_1629 : Cond.instanceMethod ⟨"WritebackModel", "hasPower", "()Z"⟩ ∈ AW := aw_t (i := 1629) (by decide +kernel) rfl
theorem aw_1630 : Cond.selects "WritebackModel" ⟨"WritebackModel", "hasPower", "()Z"⟩ ⟨"WritebackModel", "hasPower", "()Z"⟩ ∈ AW := aw_t (i := 1630) (by decide +kernel) rfl
theorem aw_971 : Cond.codeWith ⟨"WritebackLaw", "damage", "(LWriteback;III[J)I"⟩ method_24_code 6 (some .int) [(0, 12, 15, 13), (0, 12, 19, 20), (0, 12, 23, 22)] ∈ AW := aw_t (i := 971) (by decide +kernel) rfl
theorem aw_969 : Cond.methodLink "WritebackLaw" 217 ⟨"WritebackLaw", "damage", "(LWriteback;III[J)I"⟩ ∈ AW := aw_t (i := 969) (by decide +kernel) rfl
theorem aw_970 : Cond.static ⟨"WritebackLaw", "damage", "(LWriteback;III[J)I"⟩ ∈ AW := aw_t (i := 970) (by decide +kernel) rfl
theorem aw_1635 : Cond.code ⟨"WritebackModel", "damage", "(III)I"⟩ prog_12_method_54_code 6 (some .int) ∈ AW := aw_t (i := 1635) (by decide +kernel) rfl
theorem aw_1632 : Cond.methodLink "WritebackLaw" 219 ⟨"WritebackModel", "damage", "(III)I"⟩ ∈ AW := aw_t (i := 1632) (by decide +kernel) rfl
theorem aw_1633 : Cond.instanceMethod ⟨"WritebackModel", "damage", "(III)I"⟩ ∈ AW := aw_t (i := 1633) (by decide +kernel) rfl
theorem aw_1634 : Cond.selects "WritebackModel" ⟨"WritebackModel", "damage", "(III)I"⟩ ⟨"WritebackModel", "damage", "(III)I"⟩ ∈ AW := aw_t (i := 1634) (by decide +kernel) rfl
theorem aw_979 : Cond.codeWith ⟨"WritebackLaw", "scrub", "(LWriteback;I[J)I"⟩ method_25_code 4 (some .int) [(0, 9, 12, 13)] ∈ AW := aw_t (i := 979) (by decide +kernel) rfl
theorem aw_977 : Cond.methodLink "WritebackLaw" 220 ⟨"WritebackLaw", "scrub", "(LWriteback;I[J)I"⟩ ∈ AW := aw_t (i := 977) (by decide +kernel) rfl
theorem aw_978 : Cond.static ⟨"WritebackLaw", "scrub", "(LWriteback;I[J)I"⟩ ∈ AW := aw_t (i := 978) (by decide +kernel) rfl
theorem aw_1639 : Cond.code ⟨"WritebackModel", "scrub", "(I)I"⟩ prog_12_method_55_code 4 (some .int) ∈ AW := aw_t (i := 1639) (by decide +kernel) rfl
theorem aw_1636 : Cond.methodLink "WritebackLaw" 222 ⟨"WritebackModel", "scrub", "(I)I"⟩ ∈ AW := aw_t (i := 1636) (by decide +kernel) rfl
theorem aw_1637 : Cond.instanceMethod ⟨"WritebackModel", "scrub", "(I)I"⟩ ∈ AW := aw_t (i := 1637) (by decide +kernel) rfl
theorem aw_1638 : Cond.selects "WritebackModel" ⟨"WritebackModel", "scrub", "(I)I"⟩ ⟨"WritebackModel", "scrub", "(I)I"⟩ ∈ AW := aw_t (i := 1638) (by decide +kernel) rfl
theorem aw_991 : Cond.codeWith ⟨"WritebackLaw", "keepImage", "(LWriteback;I[J)I"⟩ method_26_code 4 (some .int) [(0, 9, 12, 13), (0, 9, 15, 15)] ∈ AW := aw_t (i := 991) (by decide +kernel) rfl
theorem aw_989 : Cond.methodLink "WritebackLaw" 223 ⟨"WritebackLaw", "keepImage", "(LWriteback;I[J)I"⟩ ∈ AW := aw_t (i := 989) (by decide +kernel) rfl
theorem aw_990 : Cond.static ⟨"WritebackLaw", "keepImage", "(LWriteback;I[J)I"⟩ ∈ AW := aw_t (i := 990) (by decide +kernel) rfl
theorem aw_1643 : Cond.code ⟨"WritebackModel", "keepImage", "(I)I"⟩ prog_12_method_56_code 4 (some .int) ∈ AW := aw_t (i := 1643) (by decide +kernel) rfl
theorem aw_1640 : Cond.methodLink "WritebackLaw" 225 ⟨"WritebackModel", "keepImage", "(I)I"⟩ ∈ AW := aw_t (i := 1640) (by decide +kernel) rfl
theorem aw_1641 : Cond.instanceMethod ⟨"WritebackModel", "keepImage", "(I)I"⟩ ∈ AW := aw_t (i := 1641) (by decide +kernel) rfl
theorem aw_1642 : Cond.selects "WritebackModel" ⟨"WritebackModel", "keepImage", "(I)I"⟩ ⟨"WritebackModel", "keepImage", "(I)I"⟩ ∈ AW := aw_t (i := 1642) (by decide +kernel) rfl
theorem aw_1024 : Cond.codeWith ⟨"WritebackLaw", "layBack", "(LWriteback;II[J)I"⟩ method_27_code 5 (some .int) [(0, 10, 13, 13), (0, 10, 17, 22)] ∈ AW := aw_t (i := 1024) (by decide +kernel) rfl
theorem aw_1022 : Cond.methodLink "WritebackLaw" 226 ⟨"WritebackLaw", "layBack", "(LWriteback;II[J)I"⟩ ∈ AW := aw_t (i := 1022) (by decide +kernel) rfl
theorem aw_1023 : Cond.static ⟨"WritebackLaw", "layBack", "(LWriteback;II[J)I"⟩ ∈ AW := aw_t (i := 1023) (by decide +kernel) rfl
theorem aw_1666 : Cond.code ⟨"WritebackModel", "layBack", "(II)I"⟩ prog_12_method_57_code 7 (some .int) ∈ AW := aw_t (i := 1666) (by decide +kernel) rfl
theorem aw_1663 : Cond.methodLink "WritebackLaw" 228 ⟨"WritebackModel", "layBack", "(II)I"⟩ ∈ AW := aw_t (i := 1663) (by decide +kernel) rfl
theorem aw_1664 : Cond.instanceMethod ⟨"WritebackModel", "layBack", "(II)I"⟩ ∈ AW := aw_t (i := 1664) (by decide +kernel) rfl
theorem aw_1665 : Cond.selects "WritebackModel" ⟨"WritebackModel", "layBack", "(II)I"⟩ ⟨"WritebackModel", "layBack", "(II)I"⟩ ∈ AW := aw_t (i := 1665) (by decide +kernel) rfl
theorem aw_339 : Cond.code ⟨"Writeback", "countPages", "()I"⟩ prog_1_method_30_code 1 (some .int) ∈ AW := aw_t (i := 339) (by decide +kernel) rfl
theorem aw_336 : Cond.methodLink "WritebackLaw" 229 ⟨"Writeback", "countPages", "()I"⟩ ∈ AW := aw_t (i := 336) (by decide +kernel) rfl
theorem aw_337 : Cond.instanceMethod ⟨"Writeback", "countPages", "()I"⟩ ∈ AW := aw_t (i := 337) (by decide +kernel) rfl
theorem aw_338 : Cond.selects "Writeback" ⟨"Writeback", "countPages", "()I"⟩ ⟨"Writeback", "countPages", "()I"⟩ ∈ AW := aw_t (i := 338) (by decide +kernel) rfl
theorem aw_1670 : Cond.code ⟨"WritebackModel", "countPages", "()I"⟩ prog_12_method_58_code 6 (some .int) ∈ AW := aw_t (i := 1670) (by decide +kernel) rfl
theorem aw_1667 : Cond.methodLink "WritebackLaw" 232 ⟨"WritebackModel", "countPages", "()I"⟩ ∈ AW := aw_t (i := 1667) (by decide +kernel) rfl
theorem aw_1668 : Cond.instanceMethod ⟨"WritebackModel", "countPages", "()I"⟩ ∈ AW := aw_t (i := 1668) (by decide +kernel) rfl
theorem aw_1669 : Cond.selects "WritebackModel" ⟨"WritebackModel", "countPages", "()I"⟩ ⟨"WritebackModel", "countPages", "()I"⟩ ∈ AW := aw_t (i := 1669) (by decide +kernel) rfl
theorem aw_351 : Cond.code ⟨"Writeback", "countDirty", "()I"⟩ prog_1_method_31_code 1 (some .int) ∈ AW := aw_t (i := 351) (by decide +kernel) rfl
theorem aw_348 : Cond.methodLink "WritebackLaw" 233 ⟨"Writeback", "countDirty", "()I"⟩ ∈ AW := aw_t (i := 348) (by decide +kernel) rfl
theorem aw_349 : Cond.instanceMethod ⟨"Writeback", "countDirty", "()I"⟩ ∈ AW := aw_t (i := 349) (by decide +kernel) rfl
theorem aw_350 : Cond.selects "Writeback" ⟨"Writeback", "countDirty", "()I"⟩ ⟨"Writeback", "countDirty", "()I"⟩ ∈ AW := aw_t (i := 350) (by decide +kernel) rfl
theorem aw_1674 : Cond.code ⟨"WritebackModel", "countDirty", "()I"⟩ prog_12_method_59_code 6 (some .int) ∈ AW := aw_t (i := 1674) (by decide +kernel) rfl
theorem aw_1671 : Cond.methodLink "WritebackLaw" 236 ⟨"WritebackModel", "countDirty", "()I"⟩ ∈ AW := aw_t (i := 1671) (by decide +kernel) rfl
theorem aw_1672 : Cond.instanceMethod ⟨"WritebackModel", "countDirty", "()I"⟩ ∈ AW := aw_t (i := 1672) (by decide +kernel) rfl
theorem aw_1673 : Cond.selects "WritebackModel" ⟨"WritebackModel", "countDirty", "()I"⟩ ⟨"WritebackModel", "countDirty", "()I"⟩ ∈ AW := aw_t (i := 1673) (by decide +kernel) rfl
theorem aw_359 : Cond.code ⟨"Writeback", "getArm", "()I"⟩ prog_1_method_32_code 1 (some .int) ∈ AW := aw_t (i := 359) (by decide +kernel) rfl
theorem aw_356 : Cond.methodLink "WritebackLaw" 237 ⟨"Writeback", "getArm", "()I"⟩ ∈ AW := aw_t (i := 356) (by decide +kernel) rfl
theorem aw_357 : Cond.instanceMethod ⟨"Writeback", "getArm", "()I"⟩ ∈ AW := aw_t (i := 357) (by decide +kernel) rfl
theorem aw_358 : Cond.selects "Writeback" ⟨"Writeback", "getArm", "()I"⟩ ⟨"Writeback", "getArm", "()I"⟩ ∈ AW := aw_t (i := 358) (by decide +kernel) rfl
theorem aw_1678 : Cond.code ⟨"WritebackModel", "getArm", "()I"⟩ prog_12_method_60_code 1 (some .int) ∈ AW := aw_t (i := 1678) (by decide +kernel) rfl
theorem aw_1675 : Cond.methodLink "WritebackLaw" 240 ⟨"WritebackModel", "getArm", "()I"⟩ ∈ AW := aw_t (i := 1675) (by decide +kernel) rfl
theorem aw_1676 : Cond.instanceMethod ⟨"WritebackModel", "getArm", "()I"⟩ ∈ AW := aw_t (i := 1676) (by decide +kernel) rfl
theorem aw_1677 : Cond.selects "WritebackModel" ⟨"WritebackModel", "getArm", "()I"⟩ ⟨"WritebackModel", "getArm", "()I"⟩ ∈ AW := aw_t (i := 1677) (by decide +kernel) rfl
theorem aw_363 : Cond.code ⟨"Writeback", "countHits", "()I"⟩ prog_1_method_33_code 1 (some .int) ∈ AW := aw_t (i := 363) (by decide +kernel) rfl
theorem aw_360 : Cond.methodLink "WritebackLaw" 241 ⟨"Writeback", "countHits", "()I"⟩ ∈ AW := aw_t (i := 360) (by decide +kernel) rfl
theorem aw_361 : Cond.instanceMethod ⟨"Writeback", "countHits", "()I"⟩ ∈ AW := aw_t (i := 361) (by decide +kernel) rfl
theorem aw_362 : Cond.selects "Writeback" ⟨"Writeback", "countHits", "()I"⟩ ⟨"Writeback", "countHits", "()I"⟩ ∈ AW := aw_t (i := 362) (by decide +kernel) rfl
theorem aw_1682 : Cond.code ⟨"WritebackModel", "countHits", "()I"⟩ prog_12_method_61_code 1 (some .int) ∈ AW := aw_t (i := 1682) (by decide +kernel) rfl
theorem aw_1679 : Cond.methodLink "WritebackLaw" 244 ⟨"WritebackModel", "countHits", "()I"⟩ ∈ AW := aw_t (i := 1679) (by decide +kernel) rfl
theorem aw_1680 : Cond.instanceMethod ⟨"WritebackModel", "countHits", "()I"⟩ ∈ AW := aw_t (i := 1680) (by decide +kernel) rfl
theorem aw_1681 : Cond.selects "WritebackModel" ⟨"WritebackModel", "countHits", "()I"⟩ ⟨"WritebackModel", "countHits", "()I"⟩ ∈ AW := aw_t (i := 1681) (by decide +kernel) rfl
theorem aw_367 : Cond.code ⟨"Writeback", "countMisses", "()I"⟩ prog_1_method_34_code 1 (some .int) ∈ AW := aw_t (i := 367) (by decide +kernel) rfl
theorem aw_364 : Cond.methodLink "WritebackLaw" 245 ⟨"Writeback", "countMisses", "()I"⟩ ∈ AW := aw_t (i := 364) (by decide +kernel) rfl
theorem aw_365 : Cond.instanceMethod ⟨"Writeback", "countMisses", "()I"⟩ ∈ AW := aw_t (i := 365) (by decide +kernel) rfl
theorem aw_366 : Cond.selects "Writeback" ⟨"Writeback", "countMisses", "()I"⟩ ⟨"Writeback", "countMisses", "()I"⟩ ∈ AW := aw_t (i := 366) (by decide +kernel) rfl
theorem aw_1686 : Cond.code ⟨"WritebackModel", "countMisses", "()I"⟩ prog_12_method_62_code 1 (some .int) ∈ AW := aw_t (i := 1686) (by decide +kernel) rfl
theorem aw_1683 : Cond.methodLink "WritebackLaw" 248 ⟨"WritebackModel", "countMisses", "()I"⟩ ∈ AW := aw_t (i := 1683) (by decide +kernel) rfl
theorem aw_1684 : Cond.instanceMethod ⟨"WritebackModel", "countMisses", "()I"⟩ ∈ AW := aw_t (i := 1684) (by decide +kernel) rfl
theorem aw_1685 : Cond.selects "WritebackModel" ⟨"WritebackModel", "countMisses", "()I"⟩ ⟨"WritebackModel", "countMisses", "()I"⟩ ∈ AW := aw_t (i := 1685) (by decide +kernel) rfl
theorem aw_371 : Cond.code ⟨"Writeback", "countWaits", "()I"⟩ prog_1_method_35_code 1 (some .int) ∈ AW := aw_t (i := 371) (by decide +kernel) rfl
theorem aw_368 : Cond.methodLink "WritebackLaw" 249 ⟨"Writeback", "countWaits", "()I"⟩ ∈ AW := aw_t (i := 368) (by decide +kernel) rfl
theorem aw_369 : Cond.instanceMethod ⟨"Writeback", "countWaits", "()I"⟩ ∈ AW := aw_t (i := 369) (by decide +kernel) rfl
theorem aw_370 : Cond.selects "Writeback" ⟨"Writeback", "countWaits", "()I"⟩ ⟨"Writeback", "countWaits", "()I"⟩ ∈ AW := aw_t (i := 370) (by decide +kernel) rfl
theorem aw_1690 : Cond.code ⟨"WritebackModel", "countWaits", "()I"⟩ prog_12_method_63_code 1 (some .int) ∈ AW := aw_t (i := 1690) (by decide +kernel) rfl
theorem aw_1687 : Cond.methodLink "WritebackLaw" 252 ⟨"WritebackModel", "countWaits", "()I"⟩ ∈ AW := aw_t (i := 1687) (by decide +kernel) rfl
theorem aw_1688 : Cond.instanceMethod ⟨"WritebackModel", "countWaits", "()I"⟩ ∈ AW := aw_t (i := 1688) (by decide +kernel) rfl
theorem aw_1689 : Cond.selects "WritebackModel" ⟨"WritebackModel", "countWaits", "()I"⟩ ⟨"WritebackModel", "countWaits", "()I"⟩ ∈ AW := aw_t (i := 1689) (by decide +kernel) rfl
theorem aw_375 : Cond.code ⟨"Writeback", "countAhead", "()I"⟩ prog_1_method_36_code 1 (some .int) ∈ AW := aw_t (i := 375) (by decide +kernel) rfl
theorem aw_372 : Cond.methodLink "WritebackLaw" 253 ⟨"Writeback", "countAhead", "()I"⟩ ∈ AW := aw_t (i := 372) (by decide +kernel) rfl
theorem aw_373 : Cond.instanceMethod ⟨"Writeback", "countAhead", "()I"⟩ ∈ AW := aw_t (i := 373) (by decide +kernel) rfl
theorem aw_374 : Cond.selects "Writeback" ⟨"Writeback", "countAhead", "()I"⟩ ⟨"Writeback", "countAhead", "()I"⟩ ∈ AW := aw_t (i := 374) (by decide +kernel) rfl
theorem aw_1694 : Cond.code ⟨"WritebackModel", "countAhead", "()I"⟩ prog_12_method_64_code 1 (some .int) ∈ AW := aw_t (i := 1694) (by decide +kernel) rfl
theorem aw_1691 : Cond.methodLink "WritebackLaw" 256 ⟨"WritebackModel", "countAhead", "()I"⟩ ∈ AW := aw_t (i := 1691) (by decide +kernel) rfl
theorem aw_1692 : Cond.instanceMethod ⟨"WritebackModel", "countAhead", "()I"⟩ ∈ AW := aw_t (i := 1692) (by decide +kernel) rfl
theorem aw_1693 : Cond.selects "WritebackModel" ⟨"WritebackModel", "countAhead", "()I"⟩ ⟨"WritebackModel", "countAhead", "()I"⟩ ∈ AW := aw_t (i := 1693) (by decide +kernel) rfl
theorem aw_379 : Cond.code ⟨"Writeback", "countUseful", "()I"⟩ prog_1_method_37_code 1 (some .int) ∈ AW := aw_t (i := 379) (by decide +kernel) rfl
theorem aw_376 : Cond.methodLink "WritebackLaw" 257 ⟨"Writeback", "countUseful", "()I"⟩ ∈ AW := aw_t (i := 376) (by decide +kernel) rfl
theorem aw_377 : Cond.instanceMethod ⟨"Writeback", "countUseful", "()I"⟩ ∈ AW := aw_t (i := 377) (by decide +kernel) rfl
theorem aw_378 : Cond.selects "Writeback" ⟨"Writeback", "countUseful", "()I"⟩ ⟨"Writeback", "countUseful", "()I"⟩ ∈ AW := aw_t (i := 378) (by decide +kernel) rfl
theorem aw_1698 : Cond.code ⟨"WritebackModel", "countUseful", "()I"⟩ prog_12_method_65_code 1 (some .int) ∈ AW := aw_t (i := 1698) (by decide +kernel) rfl
theorem aw_1695 : Cond.methodLink "WritebackLaw" 260 ⟨"WritebackModel", "countUseful", "()I"⟩ ∈ AW := aw_t (i := 1695) (by decide +kernel) rfl
theorem aw_1696 : Cond.instanceMethod ⟨"WritebackModel", "countUseful", "()I"⟩ ∈ AW := aw_t (i := 1696) (by decide +kernel) rfl
theorem aw_1697 : Cond.selects "WritebackModel" ⟨"WritebackModel", "countUseful", "()I"⟩ ⟨"WritebackModel", "countUseful", "()I"⟩ ∈ AW := aw_t (i := 1697) (by decide +kernel) rfl
theorem aw_1042 : Cond.codeWith ⟨"WritebackLaw", "getWear", "(LWriteback;I[J)I"⟩ method_28_code 4 (some .int) [(0, 9, 12, 20)] ∈ AW := aw_t (i := 1042) (by decide +kernel) rfl
theorem aw_1040 : Cond.methodLink "WritebackLaw" 261 ⟨"WritebackLaw", "getWear", "(LWriteback;I[J)I"⟩ ∈ AW := aw_t (i := 1040) (by decide +kernel) rfl
theorem aw_1041 : Cond.static ⟨"WritebackLaw", "getWear", "(LWriteback;I[J)I"⟩ ∈ AW := aw_t (i := 1041) (by decide +kernel) rfl
theorem aw_1702 : Cond.code ⟨"WritebackModel", "getWear", "(I)I"⟩ prog_12_method_66_code 2 (some .int) ∈ AW := aw_t (i := 1702) (by decide +kernel) rfl
theorem aw_1699 : Cond.methodLink "WritebackLaw" 263 ⟨"WritebackModel", "getWear", "(I)I"⟩ ∈ AW := aw_t (i := 1699) (by decide +kernel) rfl
theorem aw_1700 : Cond.instanceMethod ⟨"WritebackModel", "getWear", "(I)I"⟩ ∈ AW := aw_t (i := 1700) (by decide +kernel) rfl
theorem aw_1701 : Cond.selects "WritebackModel" ⟨"WritebackModel", "getWear", "(I)I"⟩ ⟨"WritebackModel", "getWear", "(I)I"⟩ ∈ AW := aw_t (i := 1701) (by decide +kernel) rfl
theorem aw_1049 : Cond.codeWith ⟨"WritebackLaw", "getBill", "(LWriteback;I[J)I"⟩ method_29_code 4 (some .int) [(0, 8, 11, 20)] ∈ AW := aw_t (i := 1049) (by decide +kernel) rfl
theorem aw_1047 : Cond.methodLink "WritebackLaw" 264 ⟨"WritebackLaw", "getBill", "(LWriteback;I[J)I"⟩ ∈ AW := aw_t (i := 1047) (by decide +kernel) rfl
theorem aw_1048 : Cond.static ⟨"WritebackLaw", "getBill", "(LWriteback;I[J)I"⟩ ∈ AW := aw_t (i := 1048) (by decide +kernel) rfl
theorem aw_1707 : Cond.code ⟨"WritebackModel", "getBill", "(I)J"⟩ prog_12_method_67_code 2 (some .long) ∈ AW := aw_t (i := 1707) (by decide +kernel) rfl
theorem aw_1704 : Cond.methodLink "WritebackLaw" 266 ⟨"WritebackModel", "getBill", "(I)J"⟩ ∈ AW := aw_t (i := 1704) (by decide +kernel) rfl
theorem aw_1705 : Cond.instanceMethod ⟨"WritebackModel", "getBill", "(I)J"⟩ ∈ AW := aw_t (i := 1705) (by decide +kernel) rfl
theorem aw_1706 : Cond.selects "WritebackModel" ⟨"WritebackModel", "getBill", "(I)J"⟩ ⟨"WritebackModel", "getBill", "(I)J"⟩ ∈ AW := aw_t (i := 1706) (by decide +kernel) rfl
theorem aw_1056 : Cond.codeWith ⟨"WritebackLaw", "missesBy", "(LWriteback;CI[J)I"⟩ method_30_code 5 (some .int) [(0, 10, 13, 20)] ∈ AW := aw_t (i := 1056) (by decide +kernel) rfl
theorem aw_1054 : Cond.methodLink "WritebackLaw" 267 ⟨"WritebackLaw", "missesBy", "(LWriteback;CI[J)I"⟩ ∈ AW := aw_t (i := 1054) (by decide +kernel) rfl
theorem aw_1055 : Cond.static ⟨"WritebackLaw", "missesBy", "(LWriteback;CI[J)I"⟩ ∈ AW := aw_t (i := 1055) (by decide +kernel) rfl
theorem aw_1711 : Cond.code ⟨"WritebackModel", "missesBy", "(CI)I"⟩ prog_12_method_70_code 3 (some .int) ∈ AW := aw_t (i := 1711) (by decide +kernel) rfl
theorem aw_1708 : Cond.methodLink "WritebackLaw" 270 ⟨"WritebackModel", "missesBy", "(CI)I"⟩ ∈ AW := aw_t (i := 1708) (by decide +kernel) rfl
theorem aw_1709 : Cond.instanceMethod ⟨"WritebackModel", "missesBy", "(CI)I"⟩ ∈ AW := aw_t (i := 1709) (by decide +kernel) rfl
theorem aw_1710 : Cond.selects "WritebackModel" ⟨"WritebackModel", "missesBy", "(CI)I"⟩ ⟨"WritebackModel", "missesBy", "(CI)I"⟩ ∈ AW := aw_t (i := 1710) (by decide +kernel) rfl
theorem aw_1063 : Cond.codeWith ⟨"WritebackLaw", "framesFor", "(LWriteback;I[J)I"⟩ method_31_code 4 (some .int) [(0, 9, 12, 20)] ∈ AW := aw_t (i := 1063) (by decide +kernel) rfl
theorem aw_1061 : Cond.methodLink "WritebackLaw" 271 ⟨"WritebackLaw", "framesFor", "(LWriteback;I[J)I"⟩ ∈ AW := aw_t (i := 1061) (by decide +kernel) rfl
theorem aw_1062 : Cond.static ⟨"WritebackLaw", "framesFor", "(LWriteback;I[J)I"⟩ ∈ AW := aw_t (i := 1062) (by decide +kernel) rfl
theorem aw_1806 : Cond.code ⟨"WritebackModel", "framesFor", "(I)I"⟩ prog_12_method_71_code 3 (some .int) ∈ AW := aw_t (i := 1806) (by decide +kernel) rfl
theorem aw_1803 : Cond.methodLink "WritebackLaw" 273 ⟨"WritebackModel", "framesFor", "(I)I"⟩ ∈ AW := aw_t (i := 1803) (by decide +kernel) rfl
theorem aw_1804 : Cond.instanceMethod ⟨"WritebackModel", "framesFor", "(I)I"⟩ ∈ AW := aw_t (i := 1804) (by decide +kernel) rfl
theorem aw_1805 : Cond.selects "WritebackModel" ⟨"WritebackModel", "framesFor", "(I)I"⟩ ⟨"WritebackModel", "framesFor", "(I)I"⟩ ∈ AW := aw_t (i := 1805) (by decide +kernel) rfl
theorem aw_1070 : Cond.codeWith ⟨"WritebackLaw", "getHitShare", "(LWriteback;[D)I"⟩ method_32_code 3 (some .int) [(0, 8, 11, 118)] ∈ AW := aw_t (i := 1070) (by decide +kernel) rfl
theorem aw_1068 : Cond.methodLink "WritebackLaw" 274 ⟨"WritebackLaw", "getHitShare", "(LWriteback;[D)I"⟩ ∈ AW := aw_t (i := 1068) (by decide +kernel) rfl
theorem aw_1069 : Cond.static ⟨"WritebackLaw", "getHitShare", "(LWriteback;[D)I"⟩ ∈ AW := aw_t (i := 1069) (by decide +kernel) rfl
theorem aw_1811 : Cond.code ⟨"WritebackModel", "getHitShare", "()F"⟩ prog_12_method_72_code 1 (some .float) ∈ AW := aw_t (i := 1811) (by decide +kernel) rfl
theorem aw_1808 : Cond.methodLink "WritebackLaw" 277 ⟨"WritebackModel", "getHitShare", "()F"⟩ ∈ AW := aw_t (i := 1808) (by decide +kernel) rfl
theorem aw_1809 : Cond.instanceMethod ⟨"WritebackModel", "getHitShare", "()F"⟩ ∈ AW := aw_t (i := 1809) (by decide +kernel) rfl
theorem aw_1810 : Cond.selects "WritebackModel" ⟨"WritebackModel", "getHitShare", "()F"⟩ ⟨"WritebackModel", "getHitShare", "()F"⟩ ∈ AW := aw_t (i := 1810) (by decide +kernel) rfl
theorem aw_1106 : Cond.codeWith ⟨"WritebackLaw", "getHitBits", "(LWriteback;[J)I"⟩ method_33_code 3 (some .int) [(0, 8, 11, 118)] ∈ AW := aw_t (i := 1106) (by decide +kernel) rfl
theorem aw_1104 : Cond.methodLink "WritebackLaw" 278 ⟨"WritebackLaw", "getHitBits", "(LWriteback;[J)I"⟩ ∈ AW := aw_t (i := 1104) (by decide +kernel) rfl
theorem aw_1105 : Cond.static ⟨"WritebackLaw", "getHitBits", "(LWriteback;[J)I"⟩ ∈ AW := aw_t (i := 1105) (by decide +kernel) rfl
theorem aw_1815 : Cond.code ⟨"WritebackModel", "getHitBits", "()I"⟩ prog_12_method_73_code 1 (some .int) ∈ AW := aw_t (i := 1815) (by decide +kernel) rfl
theorem aw_1812 : Cond.methodLink "WritebackLaw" 280 ⟨"WritebackModel", "getHitBits", "()I"⟩ ∈ AW := aw_t (i := 1812) (by decide +kernel) rfl
theorem aw_1813 : Cond.instanceMethod ⟨"WritebackModel", "getHitBits", "()I"⟩ ∈ AW := aw_t (i := 1813) (by decide +kernel) rfl
theorem aw_1814 : Cond.selects "WritebackModel" ⟨"WritebackModel", "getHitBits", "()I"⟩ ⟨"WritebackModel", "getHitBits", "()I"⟩ ∈ AW := aw_t (i := 1814) (by decide +kernel) rfl
theorem aw_1117 : Cond.codeWith ⟨"WritebackLaw", "getMeanCost", "(LWriteback;[D)I"⟩ method_34_code 3 (some .int) [(0, 7, 10, 118)] ∈ AW := aw_t (i := 1117) (by decide +kernel) rfl
theorem aw_1115 : Cond.methodLink "WritebackLaw" 281 ⟨"WritebackLaw", "getMeanCost", "(LWriteback;[D)I"⟩ ∈ AW := aw_t (i := 1115) (by decide +kernel) rfl
theorem aw_1116 : Cond.static ⟨"WritebackLaw", "getMeanCost", "(LWriteback;[D)I"⟩ ∈ AW := aw_t (i := 1116) (by decide +kernel) rfl
theorem aw_1829 : Cond.code ⟨"WritebackModel", "getMeanCost", "()D"⟩ prog_12_method_74_code 1 (some .double) ∈ AW := aw_t (i := 1829) (by decide +kernel) rfl
theorem aw_1826 : Cond.methodLink "WritebackLaw" 283 ⟨"WritebackModel", "getMeanCost", "()D"⟩ ∈ AW := aw_t (i := 1826) (by decide +kernel) rfl
theorem aw_1827 : Cond.instanceMethod ⟨"WritebackModel", "getMeanCost", "()D"⟩ ∈ AW := aw_t (i := 1827) (by decide +kernel) rfl
theorem aw_1828 : Cond.selects "WritebackModel" ⟨"WritebackModel", "getMeanCost", "()D"⟩ ⟨"WritebackModel", "getMeanCost", "()D"⟩ ∈ AW := aw_t (i := 1828) (by decide +kernel) rfl
theorem aw_383 : Cond.code ⟨"Writeback", "checksum", "()J"⟩ prog_1_method_45_code 5 (some .long) ∈ AW := aw_t (i := 383) (by decide +kernel) rfl
theorem aw_380 : Cond.methodLink "WritebackLaw" 284 ⟨"Writeback", "checksum", "()J"⟩ ∈ AW := aw_t (i := 380) (by decide +kernel) rfl
theorem aw_381 : Cond.instanceMethod ⟨"Writeback", "checksum", "()J"⟩ ∈ AW := aw_t (i := 381) (by decide +kernel) rfl
theorem aw_382 : Cond.selects "Writeback" ⟨"Writeback", "checksum", "()J"⟩ ⟨"Writeback", "checksum", "()J"⟩ ∈ AW := aw_t (i := 382) (by decide +kernel) rfl
theorem aw_1833 : Cond.code ⟨"WritebackModel", "checksum", "()J"⟩ prog_12_method_75_code 8 (some .long) ∈ AW := aw_t (i := 1833) (by decide +kernel) rfl
theorem aw_1830 : Cond.methodLink "WritebackLaw" 288 ⟨"WritebackModel", "checksum", "()J"⟩ ∈ AW := aw_t (i := 1830) (by decide +kernel) rfl
theorem aw_1831 : Cond.instanceMethod ⟨"WritebackModel", "checksum", "()J"⟩ ∈ AW := aw_t (i := 1831) (by decide +kernel) rfl
theorem aw_1832 : Cond.selects "WritebackModel" ⟨"WritebackModel", "checksum", "()J"⟩ ⟨"WritebackModel", "checksum", "()J"⟩ ∈ AW := aw_t (i := 1832) (by decide +kernel) rfl
theorem aw_394 : Cond.code ⟨"Writeback", "isSound", "()Z"⟩ prog_1_method_46_code 1 (some .boolean) ∈ AW := aw_t (i := 394) (by decide +kernel) rfl
theorem aw_391 : Cond.methodLink "WritebackLaw" 289 ⟨"Writeback", "isSound", "()Z"⟩ ∈ AW := aw_t (i := 391) (by decide +kernel) rfl
theorem aw_392 : Cond.instanceMethod ⟨"Writeback", "isSound", "()Z"⟩ ∈ AW := aw_t (i := 392) (by decide +kernel) rfl
theorem aw_393 : Cond.selects "Writeback" ⟨"Writeback", "isSound", "()Z"⟩ ⟨"Writeback", "isSound", "()Z"⟩ ∈ AW := aw_t (i := 393) (by decide +kernel) rfl
theorem aw_1839 : Cond.code ⟨"WritebackModel", "isSound", "()Z"⟩ prog_12_method_76_code 1 (some .boolean) ∈ AW := aw_t (i := 1839) (by decide +kernel) rfl
theorem aw_1836 : Cond.methodLink "WritebackLaw" 292 ⟨"WritebackModel", "isSound", "()Z"⟩ ∈ AW := aw_t (i := 1836) (by decide +kernel) rfl
theorem aw_1837 : Cond.instanceMethod ⟨"WritebackModel", "isSound", "()Z"⟩ ∈ AW := aw_t (i := 1837) (by decide +kernel) rfl
theorem aw_1838 : Cond.selects "WritebackModel" ⟨"WritebackModel", "isSound", "()Z"⟩ ⟨"WritebackModel", "isSound", "()Z"⟩ ∈ AW := aw_t (i := 1838) (by decide +kernel) rfl
