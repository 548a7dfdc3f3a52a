abbrev Y_L_law : zY := (yL_law, cL_law, 8, (some .boolean), [])
theorem wl_176 : zL (Cond.initialized "PathTrustLaw") := ⟨List.mem_of_getElem? (i := 176) (by decide +kernel), by decide +kernel⟩
theorem wl_186 : zL (Cond.initialized "PathTrustModel") := ⟨List.mem_of_getElem? (i := 186) (by decide +kernel), by decide +kernel⟩
theorem wl_426 : zL (Cond.methodLink "PathTrustLaw" 202 ⟨"PathTrust","load","()I"⟩) := ⟨List.mem_of_getElem? (i := 426) (by decide +kernel), by decide +kernel⟩
theorem wl_427 : zL (Cond.instanceMethod ⟨"PathTrust","load","()I"⟩) := ⟨List.mem_of_getElem? (i := 427) (by decide +kernel), by decide +kernel⟩
theorem wl_428 : zL (Cond.selects "PathTrust" ⟨"PathTrust","load","()I"⟩ ⟨"PathTrust","load","()I"⟩) := ⟨List.mem_of_getElem? (i := 428) (by decide +kernel), by decide +kernel⟩
theorem wl_429 : zL (Cond.code ⟨"PathTrust","load","()I"⟩ prog_1_method_4_code 2 (Option.some FieldType.int)) := ⟨List.mem_of_getElem? (i := 429) (by decide +kernel), by decide +kernel⟩
theorem wl_682 : zL (Cond.methodLink "PathTrustLaw" 206 ⟨"PathTrust","errorCode","()I"⟩) := ⟨List.mem_of_getElem? (i := 682) (by decide +kernel), by decide +kernel⟩
theorem wl_683 : zL (Cond.instanceMethod ⟨"PathTrust","errorCode","()I"⟩) := ⟨List.mem_of_getElem? (i := 683) (by decide +kernel), by decide +kernel⟩
theorem wl_684 : zL (Cond.selects "PathTrust" ⟨"PathTrust","errorCode","()I"⟩ ⟨"PathTrust","errorCode","()I"⟩) := ⟨List.mem_of_getElem? (i := 684) (by decide +kernel), by decide +kernel⟩
theorem wl_685 : zL (Cond.code ⟨"PathTrust","errorCode","()I"⟩ prog_1_method_5_code 1 (Option.some FieldType.int)) := ⟨List.mem_of_getElem? (i := 685) (by decide +kernel), by decide +kernel⟩
theorem wl_686 : zL (Cond.methodLink "PathTrustLaw" 210 ⟨"PathTrust","errorPosition","()I"⟩) := ⟨List.mem_of_getElem? (i := 686) (by decide +kernel), by decide +kernel⟩
theorem wl_687 : zL (Cond.instanceMethod ⟨"PathTrust","errorPosition","()I"⟩) := ⟨List.mem_of_getElem? (i := 687) (by decide +kernel), by decide +kernel⟩
theorem wl_688 : zL (Cond.selects "PathTrust" ⟨"PathTrust","errorPosition","()I"⟩ ⟨"PathTrust","errorPosition","()I"⟩) := ⟨List.mem_of_getElem? (i := 688) (by decide +kernel), by decide +kernel⟩
theorem wl_689 : zL (Cond.code ⟨"PathTrust","errorPosition","()I"⟩ prog_1_method_6_code 1 (Option.some FieldType.int)) := ⟨List.mem_of_getElem? (i := 689) (by decide +kernel), by decide +kernel⟩
theorem wl_690 : zL (Cond.methodLink "PathTrustLaw" 214 ⟨"PathTrust","findAgent","()I"⟩) := ⟨List.mem_of_getElem? (i := 690) (by decide +kernel), by decide +kernel⟩
theorem wl_691 : zL (Cond.instanceMethod ⟨"PathTrust","findAgent","()I"⟩) := ⟨List.mem_of_getElem? (i := 691) (by decide +kernel), by decide +kernel⟩
theorem wl_692 : zL (Cond.selects "PathTrust" ⟨"PathTrust","findAgent","()I"⟩ ⟨"PathTrust","findAgent","()I"⟩) := ⟨List.mem_of_getElem? (i := 692) (by decide +kernel), by decide +kernel⟩
theorem wl_693 : zL (Cond.code ⟨"PathTrust","findAgent","()I"⟩ prog_1_method_7_code 1 (Option.some FieldType.int)) := ⟨List.mem_of_getElem? (i := 693) (by decide +kernel), by decide +kernel⟩
theorem wl_700 : zL (Cond.methodLink "PathTrustLaw" 218 ⟨"PathTrust","findWay","()I"⟩) := ⟨List.mem_of_getElem? (i := 700) (by decide +kernel), by decide +kernel⟩
theorem wl_701 : zL (Cond.instanceMethod ⟨"PathTrust","findWay","()I"⟩) := ⟨List.mem_of_getElem? (i := 701) (by decide +kernel), by decide +kernel⟩
theorem wl_702 : zL (Cond.selects "PathTrust" ⟨"PathTrust","findWay","()I"⟩ ⟨"PathTrust","findWay","()I"⟩) := ⟨List.mem_of_getElem? (i := 702) (by decide +kernel), by decide +kernel⟩
theorem wl_703 : zL (Cond.code ⟨"PathTrust","findWay","()I"⟩ prog_1_method_8_code 1 (Option.some FieldType.int)) := ⟨List.mem_of_getElem? (i := 703) (by decide +kernel), by decide +kernel⟩
theorem wl_704 : zL (Cond.methodLink "PathTrustLaw" 373 ⟨"PathTrust","undoCount","()I"⟩) := ⟨List.mem_of_getElem? (i := 704) (by decide +kernel), by decide +kernel⟩
theorem wl_705 : zL (Cond.instanceMethod ⟨"PathTrust","undoCount","()I"⟩) := ⟨List.mem_of_getElem? (i := 705) (by decide +kernel), by decide +kernel⟩
theorem wl_706 : zL (Cond.selects "PathTrust" ⟨"PathTrust","undoCount","()I"⟩ ⟨"PathTrust","undoCount","()I"⟩) := ⟨List.mem_of_getElem? (i := 706) (by decide +kernel), by decide +kernel⟩
theorem wl_707 : zL (Cond.code ⟨"PathTrust","undoCount","()I"⟩ prog_1_method_57_code 1 (Option.some FieldType.int)) := ⟨List.mem_of_getElem? (i := 707) (by decide +kernel), by decide +kernel⟩
theorem wl_708 : zL (Cond.methodLink "PathTrustLaw" 189 ⟨"PathTrustLaw","append","(LPathTrust;IIIII[J)I"⟩) := ⟨List.mem_of_getElem? (i := 708) (by decide +kernel), by decide +kernel⟩
theorem wl_709 : zL (Cond.static ⟨"PathTrustLaw","append","(LPathTrust;IIIII[J)I"⟩) := ⟨List.mem_of_getElem? (i := 709) (by decide +kernel), by decide +kernel⟩
theorem wl_710 : zL (Cond.codeWith ⟨"PathTrustLaw","append","(LPathTrust;IIIII[J)I"⟩ method_3_code 8 (Option.some FieldType.int) [(0, 16, 19, 13)]) := ⟨List.mem_of_getElem? (i := 710) (by decide +kernel), by decide +kernel⟩
theorem wl_792 : zL (Cond.methodLink "PathTrustLaw" 198 ⟨"PathTrustLaw","truncate","(LPathTrust;I)I"⟩) := ⟨List.mem_of_getElem? (i := 792) (by decide +kernel), by decide +kernel⟩
theorem wl_793 : zL (Cond.static ⟨"PathTrustLaw","truncate","(LPathTrust;I)I"⟩) := ⟨List.mem_of_getElem? (i := 793) (by decide +kernel), by decide +kernel⟩
theorem wl_794 : zL (Cond.codeWith ⟨"PathTrustLaw","truncate","(LPathTrust;I)I"⟩ method_4_code 3 (Option.some FieldType.int) [(0, 5, 8, 19)]) := ⟨List.mem_of_getElem? (i := 794) (by decide +kernel), by decide +kernel⟩
theorem wl_819 : zL (Cond.methodLink "PathTrustLaw" 222 ⟨"PathTrustLaw","property","(LPathTrust;I[J)I"⟩) := ⟨List.mem_of_getElem? (i := 819) (by decide +kernel), by decide +kernel⟩
theorem wl_820 : zL (Cond.static ⟨"PathTrustLaw","property","(LPathTrust;I[J)I"⟩) := ⟨List.mem_of_getElem? (i := 820) (by decide +kernel), by decide +kernel⟩
theorem wl_821 : zL (Cond.codeWith ⟨"PathTrustLaw","property","(LPathTrust;I[J)I"⟩ method_5_code 4 (Option.some FieldType.int) [(0, 9, 12, 19)]) := ⟨List.mem_of_getElem? (i := 821) (by decide +kernel), by decide +kernel⟩
theorem wl_831 : zL (Cond.methodLink "PathTrustLaw" 226 ⟨"PathTrustLaw","trust","(LPathTrust;II[J)I"⟩) := ⟨List.mem_of_getElem? (i := 831) (by decide +kernel), by decide +kernel⟩
theorem wl_832 : zL (Cond.static ⟨"PathTrustLaw","trust","(LPathTrust;II[J)I"⟩) := ⟨List.mem_of_getElem? (i := 832) (by decide +kernel), by decide +kernel⟩
theorem wl_833 : zL (Cond.codeWith ⟨"PathTrustLaw","trust","(LPathTrust;II[J)I"⟩ method_6_code 5 (Option.some FieldType.int) [(0, 10, 13, 29)]) := ⟨List.mem_of_getElem? (i := 833) (by decide +kernel), by decide +kernel⟩
theorem wl_860 : zL (Cond.methodLink "PathTrustLaw" 230 ⟨"PathTrustLaw","neighbors","(LPathTrust;I[J)I"⟩) := ⟨List.mem_of_getElem? (i := 860) (by decide +kernel), by decide +kernel⟩
theorem wl_861 : zL (Cond.static ⟨"PathTrustLaw","neighbors","(LPathTrust;I[J)I"⟩) := ⟨List.mem_of_getElem? (i := 861) (by decide +kernel), by decide +kernel⟩
theorem wl_862 : zL (Cond.codeWith ⟨"PathTrustLaw","neighbors","(LPathTrust;I[J)I"⟩ method_7_code 4 (Option.some FieldType.int) [(0, 9, 12, 29)]) := ⟨List.mem_of_getElem? (i := 862) (by decide +kernel), by decide +kernel⟩
theorem wl_868 : zL (Cond.methodLink "PathTrustLaw" 233 ⟨"PathTrustLaw","distance","(LPathTrust;II[J)I"⟩) := ⟨List.mem_of_getElem? (i := 868) (by decide +kernel), by decide +kernel⟩
theorem wl_869 : zL (Cond.static ⟨"PathTrustLaw","distance","(LPathTrust;II[J)I"⟩) := ⟨List.mem_of_getElem? (i := 869) (by decide +kernel), by decide +kernel⟩
theorem wl_870 : zL (Cond.codeWith ⟨"PathTrustLaw","distance","(LPathTrust;II[J)I"⟩ method_8_code 5 (Option.some FieldType.int) [(0, 10, 13, 29)]) := ⟨List.mem_of_getElem? (i := 870) (by decide +kernel), by decide +kernel⟩
theorem wl_883 : zL (Cond.methodLink "PathTrustLaw" 236 ⟨"PathTrustLaw","bottleneck","(LPathTrust;II[J)I"⟩) := ⟨List.mem_of_getElem? (i := 883) (by decide +kernel), by decide +kernel⟩
theorem wl_884 : zL (Cond.static ⟨"PathTrustLaw","bottleneck","(LPathTrust;II[J)I"⟩) := ⟨List.mem_of_getElem? (i := 884) (by decide +kernel), by decide +kernel⟩
theorem wl_885 : zL (Cond.codeWith ⟨"PathTrustLaw","bottleneck","(LPathTrust;II[J)I"⟩ method_9_code 5 (Option.some FieldType.int) [(0, 10, 13, 29)]) := ⟨List.mem_of_getElem? (i := 885) (by decide +kernel), by decide +kernel⟩
theorem wl_890 : zL (Cond.methodLink "PathTrustLaw" 239 ⟨"PathTrustLaw","mostTrusted","(LPathTrust;I[J)I"⟩) := ⟨List.mem_of_getElem? (i := 890) (by decide +kernel), by decide +kernel⟩
theorem wl_891 : zL (Cond.static ⟨"PathTrustLaw","mostTrusted","(LPathTrust;I[J)I"⟩) := ⟨List.mem_of_getElem? (i := 891) (by decide +kernel), by decide +kernel⟩
theorem wl_892 : zL (Cond.codeWith ⟨"PathTrustLaw","mostTrusted","(LPathTrust;I[J)I"⟩ method_10_code 4 (Option.some FieldType.int) [(0, 9, 12, 29)]) := ⟨List.mem_of_getElem? (i := 892) (by decide +kernel), by decide +kernel⟩
theorem wl_897 : zL (Cond.methodLink "PathTrustLaw" 242 ⟨"PathTrustLaw","reports","(LPathTrust;I[J)I"⟩) := ⟨List.mem_of_getElem? (i := 897) (by decide +kernel), by decide +kernel⟩
theorem wl_898 : zL (Cond.static ⟨"PathTrustLaw","reports","(LPathTrust;I[J)I"⟩) := ⟨List.mem_of_getElem? (i := 898) (by decide +kernel), by decide +kernel⟩
theorem wl_899 : zL (Cond.codeWith ⟨"PathTrustLaw","reports","(LPathTrust;I[J)I"⟩ method_11_code 4 (Option.some FieldType.int) [(0, 9, 12, 29)]) := ⟨List.mem_of_getElem? (i := 899) (by decide +kernel), by decide +kernel⟩
theorem wl_905 : zL (Cond.methodLink "PathTrustLaw" 245 ⟨"PathTrustLaw","report","(LPathTrust;III[J)I"⟩) := ⟨List.mem_of_getElem? (i := 905) (by decide +kernel), by decide +kernel⟩
theorem wl_906 : zL (Cond.static ⟨"PathTrustLaw","report","(LPathTrust;III[J)I"⟩) := ⟨List.mem_of_getElem? (i := 906) (by decide +kernel), by decide +kernel⟩
theorem wl_907 : zL (Cond.codeWith ⟨"PathTrustLaw","report","(LPathTrust;III[J)I"⟩ method_12_code 6 (Option.some FieldType.int) [(0, 12, 15, 29), (0, 12, 19, 19)]) := ⟨List.mem_of_getElem? (i := 907) (by decide +kernel), by decide +kernel⟩
theorem wl_918 : zL (Cond.methodLink "PathTrustLaw" 249 ⟨"PathTrustLaw","status","(LPathTrust;II[J)I"⟩) := ⟨List.mem_of_getElem? (i := 918) (by decide +kernel), by decide +kernel⟩
theorem wl_919 : zL (Cond.static ⟨"PathTrustLaw","status","(LPathTrust;II[J)I"⟩) := ⟨List.mem_of_getElem? (i := 919) (by decide +kernel), by decide +kernel⟩
theorem wl_920 : zL (Cond.codeWith ⟨"PathTrustLaw","status","(LPathTrust;II[J)I"⟩ method_13_code 5 (Option.some FieldType.int) [(0, 10, 13, 29)]) := ⟨List.mem_of_getElem? (i := 920) (by decide +kernel), by decide +kernel⟩
theorem wl_961 : zL (Cond.methodLink "PathTrustLaw" 252 ⟨"PathTrustLaw","moved","(LPathTrust;III[J)I"⟩) := ⟨List.mem_of_getElem? (i := 961) (by decide +kernel), by decide +kernel⟩
theorem wl_962 : zL (Cond.static ⟨"PathTrustLaw","moved","(LPathTrust;III[J)I"⟩) := ⟨List.mem_of_getElem? (i := 962) (by decide +kernel), by decide +kernel⟩
theorem wl_963 : zL (Cond.codeWith ⟨"PathTrustLaw","moved","(LPathTrust;III[J)I"⟩ method_14_code 6 (Option.some FieldType.int) [(0, 12, 15, 29), (0, 12, 19, 19)]) := ⟨List.mem_of_getElem? (i := 963) (by decide +kernel), by decide +kernel⟩
theorem wl_971 : zL (Cond.methodLink "PathTrustLaw" 255 ⟨"PathTrustLaw","own","(LPathTrust;II[J)I"⟩) := ⟨List.mem_of_getElem? (i := 971) (by decide +kernel), by decide +kernel⟩
theorem wl_972 : zL (Cond.static ⟨"PathTrustLaw","own","(LPathTrust;II[J)I"⟩) := ⟨List.mem_of_getElem? (i := 972) (by decide +kernel), by decide +kernel⟩
theorem wl_973 : zL (Cond.codeWith ⟨"PathTrustLaw","own","(LPathTrust;II[J)I"⟩ method_15_code 5 (Option.some FieldType.int) [(0, 10, 13, 29)]) := ⟨List.mem_of_getElem? (i := 973) (by decide +kernel), by decide +kernel⟩
theorem wl_984 : zL (Cond.methodLink "PathTrustLaw" 258 ⟨"PathTrustLaw","belief","(LPathTrust;III[J)I"⟩) := ⟨List.mem_of_getElem? (i := 984) (by decide +kernel), by decide +kernel⟩
theorem wl_985 : zL (Cond.static ⟨"PathTrustLaw","belief","(LPathTrust;III[J)I"⟩) := ⟨List.mem_of_getElem? (i := 985) (by decide +kernel), by decide +kernel⟩
theorem wl_986 : zL (Cond.codeWith ⟨"PathTrustLaw","belief","(LPathTrust;III[J)I"⟩ method_16_code 6 (Option.some FieldType.int) [(0, 12, 15, 29), (0, 12, 19, 19)]) := ⟨List.mem_of_getElem? (i := 986) (by decide +kernel), by decide +kernel⟩
theorem wl_995 : zL (Cond.methodLink "PathTrustLaw" 261 ⟨"PathTrustLaw","sources","(LPathTrust;II[J)I"⟩) := ⟨List.mem_of_getElem? (i := 995) (by decide +kernel), by decide +kernel⟩
theorem wl_996 : zL (Cond.static ⟨"PathTrustLaw","sources","(LPathTrust;II[J)I"⟩) := ⟨List.mem_of_getElem? (i := 996) (by decide +kernel), by decide +kernel⟩
theorem wl_997 : zL (Cond.codeWith ⟨"PathTrustLaw","sources","(LPathTrust;II[J)I"⟩ method_17_code 5 (Option.some FieldType.int) [(0, 10, 13, 29)]) := ⟨List.mem_of_getElem? (i := 997) (by decide +kernel), by decide +kernel⟩
theorem wl_1010 : zL (Cond.methodLink "PathTrustLaw" 264 ⟨"PathTrustLaw","contradicted","(LPathTrust;II[J)I"⟩) := ⟨List.mem_of_getElem? (i := 1010) (by decide +kernel), by decide +kernel⟩
theorem wl_1011 : zL (Cond.static ⟨"PathTrustLaw","contradicted","(LPathTrust;II[J)I"⟩) := ⟨List.mem_of_getElem? (i := 1011) (by decide +kernel), by decide +kernel⟩
theorem wl_1012 : zL (Cond.codeWith ⟨"PathTrustLaw","contradicted","(LPathTrust;II[J)I"⟩ method_18_code 5 (Option.some FieldType.int) [(0, 10, 13, 29)]) := ⟨List.mem_of_getElem? (i := 1012) (by decide +kernel), by decide +kernel⟩
theorem wl_1017 : zL (Cond.methodLink "PathTrustLaw" 267 ⟨"PathTrustLaw","majority","(LPathTrust;II[J)I"⟩) := ⟨List.mem_of_getElem? (i := 1017) (by decide +kernel), by decide +kernel⟩
theorem wl_1018 : zL (Cond.static ⟨"PathTrustLaw","majority","(LPathTrust;II[J)I"⟩) := ⟨List.mem_of_getElem? (i := 1018) (by decide +kernel), by decide +kernel⟩
theorem wl_1019 : zL (Cond.codeWith ⟨"PathTrustLaw","majority","(LPathTrust;II[J)I"⟩ method_19_code 5 (Option.some FieldType.int) [(0, 10, 13, 29)]) := ⟨List.mem_of_getElem? (i := 1019) (by decide +kernel), by decide +kernel⟩
theorem wl_1038 : zL (Cond.methodLink "PathTrustLaw" 270 ⟨"PathTrustLaw","majorityBound","(LPathTrust;III[J)I"⟩) := ⟨List.mem_of_getElem? (i := 1038) (by decide +kernel), by decide +kernel⟩
theorem wl_1039 : zL (Cond.static ⟨"PathTrustLaw","majorityBound","(LPathTrust;III[J)I"⟩) := ⟨List.mem_of_getElem? (i := 1039) (by decide +kernel), by decide +kernel⟩
theorem wl_1040 : zL (Cond.codeWith ⟨"PathTrustLaw","majorityBound","(LPathTrust;III[J)I"⟩ method_20_code 6 (Option.some FieldType.int) [(0, 12, 15, 29), (0, 12, 19, 19)]) := ⟨List.mem_of_getElem? (i := 1040) (by decide +kernel), by decide +kernel⟩
theorem wl_1054 : zL (Cond.methodLink "PathTrustLaw" 273 ⟨"PathTrustLaw","best","(LPathTrust;II[J)I"⟩) := ⟨List.mem_of_getElem? (i := 1054) (by decide +kernel), by decide +kernel⟩
theorem wl_1055 : zL (Cond.static ⟨"PathTrustLaw","best","(LPathTrust;II[J)I"⟩) := ⟨List.mem_of_getElem? (i := 1055) (by decide +kernel), by decide +kernel⟩
theorem wl_1056 : zL (Cond.codeWith ⟨"PathTrustLaw","best","(LPathTrust;II[J)I"⟩ method_21_code 5 (Option.some FieldType.int) [(0, 10, 13, 29), (0, 10, 17, 19)]) := ⟨List.mem_of_getElem? (i := 1056) (by decide +kernel), by decide +kernel⟩
theorem wl_1065 : zL (Cond.methodLink "PathTrustLaw" 276 ⟨"PathTrustLaw","rivals","(LPathTrust;I[J)I"⟩) := ⟨List.mem_of_getElem? (i := 1065) (by decide +kernel), by decide +kernel⟩
theorem wl_1066 : zL (Cond.static ⟨"PathTrustLaw","rivals","(LPathTrust;I[J)I"⟩) := ⟨List.mem_of_getElem? (i := 1066) (by decide +kernel), by decide +kernel⟩
theorem wl_1067 : zL (Cond.codeWith ⟨"PathTrustLaw","rivals","(LPathTrust;I[J)I"⟩ method_22_code 4 (Option.some FieldType.int) [(0, 9, 12, 29)]) := ⟨List.mem_of_getElem? (i := 1067) (by decide +kernel), by decide +kernel⟩
theorem wl_1076 : zL (Cond.methodLink "PathTrustLaw" 279 ⟨"PathTrustLaw","nextProbe","(LPathTrust;I[J)I"⟩) := ⟨List.mem_of_getElem? (i := 1076) (by decide +kernel), by decide +kernel⟩
theorem wl_1077 : zL (Cond.static ⟨"PathTrustLaw","nextProbe","(LPathTrust;I[J)I"⟩) := ⟨List.mem_of_getElem? (i := 1077) (by decide +kernel), by decide +kernel⟩
theorem wl_1078 : zL (Cond.codeWith ⟨"PathTrustLaw","nextProbe","(LPathTrust;I[J)I"⟩ method_23_code 4 (Option.some FieldType.int) [(0, 9, 12, 29)]) := ⟨List.mem_of_getElem? (i := 1078) (by decide +kernel), by decide +kernel⟩
theorem wl_1087 : zL (Cond.methodLink "PathTrustLaw" 282 ⟨"PathTrustLaw","regret","(LPathTrust;I[J)I"⟩) := ⟨List.mem_of_getElem? (i := 1087) (by decide +kernel), by decide +kernel⟩
theorem wl_1088 : zL (Cond.static ⟨"PathTrustLaw","regret","(LPathTrust;I[J)I"⟩) := ⟨List.mem_of_getElem? (i := 1088) (by decide +kernel), by decide +kernel⟩
theorem wl_1089 : zL (Cond.codeWith ⟨"PathTrustLaw","regret","(LPathTrust;I[J)I"⟩ method_24_code 4 (Option.some FieldType.int) [(0, 9, 12, 29)]) := ⟨List.mem_of_getElem? (i := 1089) (by decide +kernel), by decide +kernel⟩
theorem wl_1094 : zL (Cond.methodLink "PathTrustLaw" 285 ⟨"PathTrustLaw","saved","(LPathTrust;I[J)I"⟩) := ⟨List.mem_of_getElem? (i := 1094) (by decide +kernel), by decide +kernel⟩
theorem wl_1095 : zL (Cond.static ⟨"PathTrustLaw","saved","(LPathTrust;I[J)I"⟩) := ⟨List.mem_of_getElem? (i := 1095) (by decide +kernel), by decide +kernel⟩
theorem wl_1096 : zL (Cond.codeWith ⟨"PathTrustLaw","saved","(LPathTrust;I[J)I"⟩ method_25_code 4 (Option.some FieldType.int) [(0, 9, 12, 29)]) := ⟨List.mem_of_getElem? (i := 1096) (by decide +kernel), by decide +kernel⟩
theorem wl_1101 : zL (Cond.methodLink "PathTrustLaw" 288 ⟨"PathTrustLaw","agreeing","(LPathTrust;II[J)I"⟩) := ⟨List.mem_of_getElem? (i := 1101) (by decide +kernel), by decide +kernel⟩
theorem wl_1102 : zL (Cond.static ⟨"PathTrustLaw","agreeing","(LPathTrust;II[J)I"⟩) := ⟨List.mem_of_getElem? (i := 1102) (by decide +kernel), by decide +kernel⟩
theorem wl_1103 : zL (Cond.codeWith ⟨"PathTrustLaw","agreeing","(LPathTrust;II[J)I"⟩ method_26_code 5 (Option.some FieldType.int) [(0, 10, 13, 29)]) := ⟨List.mem_of_getElem? (i := 1103) (by decide +kernel), by decide +kernel⟩
theorem wl_1110 : zL (Cond.methodLink "PathTrustLaw" 291 ⟨"PathTrustLaw","common","(LPathTrust;II[J)I"⟩) := ⟨List.mem_of_getElem? (i := 1110) (by decide +kernel), by decide +kernel⟩
theorem wl_1111 : zL (Cond.static ⟨"PathTrustLaw","common","(LPathTrust;II[J)I"⟩) := ⟨List.mem_of_getElem? (i := 1111) (by decide +kernel), by decide +kernel⟩
theorem wl_1112 : zL (Cond.codeWith ⟨"PathTrustLaw","common","(LPathTrust;II[J)I"⟩ method_27_code 5 (Option.some FieldType.int) [(0, 10, 13, 29), (0, 10, 17, 19)]) := ⟨List.mem_of_getElem? (i := 1112) (by decide +kernel), by decide +kernel⟩
theorem wl_1118 : zL (Cond.methodLink "PathTrustLaw" 294 ⟨"PathTrustLaw","account","(LPathTrust;II[J)I"⟩) := ⟨List.mem_of_getElem? (i := 1118) (by decide +kernel), by decide +kernel⟩
theorem wl_1119 : zL (Cond.static ⟨"PathTrustLaw","account","(LPathTrust;II[J)I"⟩) := ⟨List.mem_of_getElem? (i := 1119) (by decide +kernel), by decide +kernel⟩
theorem wl_1120 : zL (Cond.codeWith ⟨"PathTrustLaw","account","(LPathTrust;II[J)I"⟩ method_28_code 5 (Option.some FieldType.int) [(0, 10, 13, 29), (0, 10, 17, 19)]) := ⟨List.mem_of_getElem? (i := 1120) (by decide +kernel), by decide +kernel⟩
theorem wl_1129 : zL (Cond.methodLink "PathTrustLaw" 297 ⟨"PathTrustLaw","message","(LPathTrust;II[J)I"⟩) := ⟨List.mem_of_getElem? (i := 1129) (by decide +kernel), by decide +kernel⟩
theorem wl_1130 : zL (Cond.static ⟨"PathTrustLaw","message","(LPathTrust;II[J)I"⟩) := ⟨List.mem_of_getElem? (i := 1130) (by decide +kernel), by decide +kernel⟩
theorem wl_1131 : zL (Cond.codeWith ⟨"PathTrustLaw","message","(LPathTrust;II[J)I"⟩ method_29_code 5 (Option.some FieldType.int) [(0, 10, 13, 19), (0, 10, 17, 101)]) := ⟨List.mem_of_getElem? (i := 1131) (by decide +kernel), by decide +kernel⟩
theorem wl_1161 : zL (Cond.methodLink "PathTrustLaw" 300 ⟨"PathTrustLaw","standing","(LPathTrust;I[D)I"⟩) := ⟨List.mem_of_getElem? (i := 1161) (by decide +kernel), by decide +kernel⟩
theorem wl_1162 : zL (Cond.static ⟨"PathTrustLaw","standing","(LPathTrust;I[D)I"⟩) := ⟨List.mem_of_getElem? (i := 1162) (by decide +kernel), by decide +kernel⟩
theorem wl_1163 : zL (Cond.codeWith ⟨"PathTrustLaw","standing","(LPathTrust;I[D)I"⟩ method_30_code 4 (Option.some FieldType.int) [(0, 9, 12, 29)]) := ⟨List.mem_of_getElem? (i := 1163) (by decide +kernel), by decide +kernel⟩
theorem wl_1168 : zL (Cond.methodLink "PathTrustLaw" 304 ⟨"PathTrustLaw","beliefIf","(LPathTrust;IIIII[J)I"⟩) := ⟨List.mem_of_getElem? (i := 1168) (by decide +kernel), by decide +kernel⟩
theorem wl_1169 : zL (Cond.static ⟨"PathTrustLaw","beliefIf","(LPathTrust;IIIII[J)I"⟩) := ⟨List.mem_of_getElem? (i := 1169) (by decide +kernel), by decide +kernel⟩
theorem wl_1170 : zL (Cond.codeWith ⟨"PathTrustLaw","beliefIf","(LPathTrust;IIIII[J)I"⟩ method_31_code 8 (Option.some FieldType.int) [(0, 16, 19, 29), (0, 16, 23, 19)]) := ⟨List.mem_of_getElem? (i := 1170) (by decide +kernel), by decide +kernel⟩
theorem wl_1179 : zL (Cond.methodLink "PathTrustLaw" 307 ⟨"PathTrustLaw","trustIf","(LPathTrust;IIIII[J)I"⟩) := ⟨List.mem_of_getElem? (i := 1179) (by decide +kernel), by decide +kernel⟩
theorem wl_1180 : zL (Cond.static ⟨"PathTrustLaw","trustIf","(LPathTrust;IIIII[J)I"⟩) := ⟨List.mem_of_getElem? (i := 1180) (by decide +kernel), by decide +kernel⟩
theorem wl_1181 : zL (Cond.codeWith ⟨"PathTrustLaw","trustIf","(LPathTrust;IIIII[J)I"⟩ method_32_code 8 (Option.some FieldType.int) [(0, 16, 19, 29), (0, 16, 23, 19)]) := ⟨List.mem_of_getElem? (i := 1181) (by decide +kernel), by decide +kernel⟩
theorem wl_1186 : zL (Cond.methodLink "PathTrustLaw" 310 ⟨"PathTrustLaw","informed","(LPathTrust;III[J)I"⟩) := ⟨List.mem_of_getElem? (i := 1186) (by decide +kernel), by decide +kernel⟩
theorem wl_1187 : zL (Cond.static ⟨"PathTrustLaw","informed","(LPathTrust;III[J)I"⟩) := ⟨List.mem_of_getElem? (i := 1187) (by decide +kernel), by decide +kernel⟩
theorem wl_1188 : zL (Cond.codeWith ⟨"PathTrustLaw","informed","(LPathTrust;III[J)I"⟩ method_33_code 6 (Option.some FieldType.int) [(0, 12, 15, 29), (0, 12, 19, 19)]) := ⟨List.mem_of_getElem? (i := 1188) (by decide +kernel), by decide +kernel⟩
theorem wl_1225 : zL (Cond.methodLink "PathTrustLaw" 313 ⟨"PathTrustLaw","widthAfter","(LPathTrust;III[J)I"⟩) := ⟨List.mem_of_getElem? (i := 1225) (by decide +kernel), by decide +kernel⟩
theorem wl_1226 : zL (Cond.static ⟨"PathTrustLaw","widthAfter","(LPathTrust;III[J)I"⟩) := ⟨List.mem_of_getElem? (i := 1226) (by decide +kernel), by decide +kernel⟩
theorem wl_1227 : zL (Cond.codeWith ⟨"PathTrustLaw","widthAfter","(LPathTrust;III[J)I"⟩ method_34_code 6 (Option.some FieldType.int) [(0, 12, 15, 29), (0, 12, 19, 19)]) := ⟨List.mem_of_getElem? (i := 1227) (by decide +kernel), by decide +kernel⟩
theorem wl_1236 : zL (Cond.methodLink "PathTrustLaw" 316 ⟨"PathTrustLaw","widthWithout","(LPathTrust;III[J)I"⟩) := ⟨List.mem_of_getElem? (i := 1236) (by decide +kernel), by decide +kernel⟩
theorem wl_1237 : zL (Cond.static ⟨"PathTrustLaw","widthWithout","(LPathTrust;III[J)I"⟩) := ⟨List.mem_of_getElem? (i := 1237) (by decide +kernel), by decide +kernel⟩
theorem wl_1238 : zL (Cond.codeWith ⟨"PathTrustLaw","widthWithout","(LPathTrust;III[J)I"⟩ method_35_code 6 (Option.some FieldType.int) [(0, 12, 15, 29)]) := ⟨List.mem_of_getElem? (i := 1238) (by decide +kernel), by decide +kernel⟩
theorem wl_1243 : zL (Cond.methodLink "PathTrustLaw" 319 ⟨"PathTrustLaw","mostUseful","(LPathTrust;I[J)I"⟩) := ⟨List.mem_of_getElem? (i := 1243) (by decide +kernel), by decide +kernel⟩
theorem wl_1244 : zL (Cond.static ⟨"PathTrustLaw","mostUseful","(LPathTrust;I[J)I"⟩) := ⟨List.mem_of_getElem? (i := 1244) (by decide +kernel), by decide +kernel⟩
theorem wl_1245 : zL (Cond.codeWith ⟨"PathTrustLaw","mostUseful","(LPathTrust;I[J)I"⟩ method_36_code 4 (Option.some FieldType.int) [(0, 9, 12, 29)]) := ⟨List.mem_of_getElem? (i := 1245) (by decide +kernel), by decide +kernel⟩
theorem wl_1254 : zL (Cond.methodLink "PathTrustLaw" 322 ⟨"PathTrustLaw","bestThen","(LPathTrust;I[J)I"⟩) := ⟨List.mem_of_getElem? (i := 1254) (by decide +kernel), by decide +kernel⟩
theorem wl_1255 : zL (Cond.static ⟨"PathTrustLaw","bestThen","(LPathTrust;I[J)I"⟩) := ⟨List.mem_of_getElem? (i := 1255) (by decide +kernel), by decide +kernel⟩
theorem wl_1256 : zL (Cond.codeWith ⟨"PathTrustLaw","bestThen","(LPathTrust;I[J)I"⟩ method_37_code 4 (Option.some FieldType.int) [(0, 9, 12, 29)]) := ⟨List.mem_of_getElem? (i := 1256) (by decide +kernel), by decide +kernel⟩
theorem wl_1262 : zL (Cond.methodLink "PathTrustLaw" 325 ⟨"PathTrustLaw","probe","(LPathTrust;IIII[J)I"⟩) := ⟨List.mem_of_getElem? (i := 1262) (by decide +kernel), by decide +kernel⟩
theorem wl_1263 : zL (Cond.static ⟨"PathTrustLaw","probe","(LPathTrust;IIII[J)I"⟩) := ⟨List.mem_of_getElem? (i := 1263) (by decide +kernel), by decide +kernel⟩
theorem wl_1264 : zL (Cond.codeWith ⟨"PathTrustLaw","probe","(LPathTrust;IIII[J)I"⟩ method_38_code 7 (Option.some FieldType.int) [(0, 14, 17, 29), (0, 14, 21, 19)]) := ⟨List.mem_of_getElem? (i := 1264) (by decide +kernel), by decide +kernel⟩
theorem wl_1269 : zL (Cond.methodLink "PathTrustLaw" 329 ⟨"PathTrustLaw","share","(LPathTrust;I[J)I"⟩) := ⟨List.mem_of_getElem? (i := 1269) (by decide +kernel), by decide +kernel⟩
theorem wl_1270 : zL (Cond.static ⟨"PathTrustLaw","share","(LPathTrust;I[J)I"⟩) := ⟨List.mem_of_getElem? (i := 1270) (by decide +kernel), by decide +kernel⟩
theorem wl_1271 : zL (Cond.codeWith ⟨"PathTrustLaw","share","(LPathTrust;I[J)I"⟩ method_39_code 4 (Option.some FieldType.int) [(0, 9, 12, 29)]) := ⟨List.mem_of_getElem? (i := 1271) (by decide +kernel), by decide +kernel⟩
theorem wl_1277 : zL (Cond.methodLink "PathTrustLaw" 332 ⟨"PathTrustLaw","relay","(LPathTrust;I[J)I"⟩) := ⟨List.mem_of_getElem? (i := 1277) (by decide +kernel), by decide +kernel⟩
theorem wl_1278 : zL (Cond.static ⟨"PathTrustLaw","relay","(LPathTrust;I[J)I"⟩) := ⟨List.mem_of_getElem? (i := 1278) (by decide +kernel), by decide +kernel⟩
theorem wl_1279 : zL (Cond.codeWith ⟨"PathTrustLaw","relay","(LPathTrust;I[J)I"⟩ method_40_code 4 (Option.some FieldType.int) [(0, 9, 12, 29)]) := ⟨List.mem_of_getElem? (i := 1279) (by decide +kernel), by decide +kernel⟩
theorem wl_1284 : zL (Cond.methodLink "PathTrustLaw" 335 ⟨"PathTrustLaw","deliver","(LPathTrust;I[J)I"⟩) := ⟨List.mem_of_getElem? (i := 1284) (by decide +kernel), by decide +kernel⟩
theorem wl_1285 : zL (Cond.static ⟨"PathTrustLaw","deliver","(LPathTrust;I[J)I"⟩) := ⟨List.mem_of_getElem? (i := 1285) (by decide +kernel), by decide +kernel⟩
theorem wl_1286 : zL (Cond.codeWith ⟨"PathTrustLaw","deliver","(LPathTrust;I[J)I"⟩ method_41_code 4 (Option.some FieldType.int) [(0, 9, 12, 19)]) := ⟨List.mem_of_getElem? (i := 1286) (by decide +kernel), by decide +kernel⟩
theorem wl_1291 : zL (Cond.methodLink "PathTrustLaw" 338 ⟨"PathTrustLaw","lose","(LPathTrust;[J)I"⟩) := ⟨List.mem_of_getElem? (i := 1291) (by decide +kernel), by decide +kernel⟩
theorem wl_1292 : zL (Cond.static ⟨"PathTrustLaw","lose","(LPathTrust;[J)I"⟩) := ⟨List.mem_of_getElem? (i := 1292) (by decide +kernel), by decide +kernel⟩
theorem wl_1293 : zL (Cond.codeWith ⟨"PathTrustLaw","lose","(LPathTrust;[J)I"⟩ method_42_code 3 (Option.some FieldType.int) [(0, 8, 11, 13)]) := ⟨List.mem_of_getElem? (i := 1293) (by decide +kernel), by decide +kernel⟩
theorem wl_1300 : zL (Cond.methodLink "PathTrustLaw" 342 ⟨"PathTrustLaw","exchange","(LPathTrust;I[J)I"⟩) := ⟨List.mem_of_getElem? (i := 1300) (by decide +kernel), by decide +kernel⟩
theorem wl_1301 : zL (Cond.static ⟨"PathTrustLaw","exchange","(LPathTrust;I[J)I"⟩) := ⟨List.mem_of_getElem? (i := 1301) (by decide +kernel), by decide +kernel⟩
theorem wl_1302 : zL (Cond.codeWith ⟨"PathTrustLaw","exchange","(LPathTrust;I[J)I"⟩ method_43_code 4 (Option.some FieldType.int) [(0, 9, 12, 19)]) := ⟨List.mem_of_getElem? (i := 1302) (by decide +kernel), by decide +kernel⟩
theorem wl_1307 : zL (Cond.methodLink "PathTrustLaw" 345 ⟨"PathTrustLaw","pass","(LPathTrust;I[J)I"⟩) := ⟨List.mem_of_getElem? (i := 1307) (by decide +kernel), by decide +kernel⟩
theorem wl_1308 : zL (Cond.static ⟨"PathTrustLaw","pass","(LPathTrust;I[J)I"⟩) := ⟨List.mem_of_getElem? (i := 1308) (by decide +kernel), by decide +kernel⟩
theorem wl_1309 : zL (Cond.codeWith ⟨"PathTrustLaw","pass","(LPathTrust;I[J)I"⟩ method_44_code 4 (Option.some FieldType.int) [(0, 9, 12, 19)]) := ⟨List.mem_of_getElem? (i := 1309) (by decide +kernel), by decide +kernel⟩
theorem wl_1314 : zL (Cond.methodLink "PathTrustLaw" 348 ⟨"PathTrustLaw","link","(LPathTrust;IIZ[J)I"⟩) := ⟨List.mem_of_getElem? (i := 1314) (by decide +kernel), by decide +kernel⟩
theorem wl_1315 : zL (Cond.static ⟨"PathTrustLaw","link","(LPathTrust;IIZ[J)I"⟩) := ⟨List.mem_of_getElem? (i := 1315) (by decide +kernel), by decide +kernel⟩
theorem wl_1316 : zL (Cond.codeWith ⟨"PathTrustLaw","link","(LPathTrust;IIZ[J)I"⟩ method_45_code 6 (Option.some FieldType.int) [(0, 19, 22, 29), (0, 19, 26, 19)]) := ⟨List.mem_of_getElem? (i := 1316) (by decide +kernel), by decide +kernel⟩
theorem wl_1323 : zL (Cond.methodLink "PathTrustLaw" 352 ⟨"PathTrustLaw","setTrust","(LPathTrust;III[J)I"⟩) := ⟨List.mem_of_getElem? (i := 1323) (by decide +kernel), by decide +kernel⟩
theorem wl_1324 : zL (Cond.static ⟨"PathTrustLaw","setTrust","(LPathTrust;III[J)I"⟩) := ⟨List.mem_of_getElem? (i := 1324) (by decide +kernel), by decide +kernel⟩
theorem wl_1325 : zL (Cond.codeWith ⟨"PathTrustLaw","setTrust","(LPathTrust;III[J)I"⟩ method_46_code 6 (Option.some FieldType.int) [(0, 12, 15, 29), (0, 12, 19, 19), (0, 12, 23, 13)]) := ⟨List.mem_of_getElem? (i := 1325) (by decide +kernel), by decide +kernel⟩
theorem wl_1331 : zL (Cond.methodLink "PathTrustLaw" 355 ⟨"PathTrustLaw","setRule","(LPathTrust;II[J)I"⟩) := ⟨List.mem_of_getElem? (i := 1331) (by decide +kernel), by decide +kernel⟩
theorem wl_1332 : zL (Cond.static ⟨"PathTrustLaw","setRule","(LPathTrust;II[J)I"⟩) := ⟨List.mem_of_getElem? (i := 1332) (by decide +kernel), by decide +kernel⟩
theorem wl_1333 : zL (Cond.codeWith ⟨"PathTrustLaw","setRule","(LPathTrust;II[J)I"⟩ method_47_code 5 (Option.some FieldType.int) [(0, 10, 13, 19)]) := ⟨List.mem_of_getElem? (i := 1333) (by decide +kernel), by decide +kernel⟩
theorem wl_1345 : zL (Cond.methodLink "PathTrustLaw" 358 ⟨"PathTrustLaw","forget","(LPathTrust;II[J)I"⟩) := ⟨List.mem_of_getElem? (i := 1345) (by decide +kernel), by decide +kernel⟩
theorem wl_1346 : zL (Cond.static ⟨"PathTrustLaw","forget","(LPathTrust;II[J)I"⟩) := ⟨List.mem_of_getElem? (i := 1346) (by decide +kernel), by decide +kernel⟩
theorem wl_1347 : zL (Cond.codeWith ⟨"PathTrustLaw","forget","(LPathTrust;II[J)I"⟩ method_48_code 5 (Option.some FieldType.int) [(0, 10, 13, 29)]) := ⟨List.mem_of_getElem? (i := 1347) (by decide +kernel), by decide +kernel⟩
theorem wl_1358 : zL (Cond.methodLink "PathTrustLaw" 361 ⟨"PathTrustLaw","cleanse","(LPathTrust;I[J)I"⟩) := ⟨List.mem_of_getElem? (i := 1358) (by decide +kernel), by decide +kernel⟩
theorem wl_1359 : zL (Cond.static ⟨"PathTrustLaw","cleanse","(LPathTrust;I[J)I"⟩) := ⟨List.mem_of_getElem? (i := 1359) (by decide +kernel), by decide +kernel⟩
theorem wl_1360 : zL (Cond.codeWith ⟨"PathTrustLaw","cleanse","(LPathTrust;I[J)I"⟩ method_49_code 4 (Option.some FieldType.int) [(0, 9, 12, 29)]) := ⟨List.mem_of_getElem? (i := 1360) (by decide +kernel), by decide +kernel⟩
theorem wl_1365 : zL (Cond.methodLink "PathTrustLaw" 364 ⟨"PathTrustLaw","keep","(LPathTrust;I[J)I"⟩) := ⟨List.mem_of_getElem? (i := 1365) (by decide +kernel), by decide +kernel⟩
theorem wl_1366 : zL (Cond.static ⟨"PathTrustLaw","keep","(LPathTrust;I[J)I"⟩) := ⟨List.mem_of_getElem? (i := 1366) (by decide +kernel), by decide +kernel⟩
theorem wl_1367 : zL (Cond.codeWith ⟨"PathTrustLaw","keep","(LPathTrust;I[J)I"⟩ method_50_code 4 (Option.some FieldType.int) [(0, 9, 12, 29)]) := ⟨List.mem_of_getElem? (i := 1367) (by decide +kernel), by decide +kernel⟩
theorem wl_1377 : zL (Cond.methodLink "PathTrustLaw" 367 ⟨"PathTrustLaw","restore","(LPathTrust;I[J)I"⟩) := ⟨List.mem_of_getElem? (i := 1377) (by decide +kernel), by decide +kernel⟩
theorem wl_1378 : zL (Cond.static ⟨"PathTrustLaw","restore","(LPathTrust;I[J)I"⟩) := ⟨List.mem_of_getElem? (i := 1378) (by decide +kernel), by decide +kernel⟩
theorem wl_1379 : zL (Cond.codeWith ⟨"PathTrustLaw","restore","(LPathTrust;I[J)I"⟩ method_51_code 4 (Option.some FieldType.int) [(0, 9, 12, 29), (0, 9, 15, 13)]) := ⟨List.mem_of_getElem? (i := 1379) (by decide +kernel), by decide +kernel⟩
theorem wl_1385 : zL (Cond.methodLink "PathTrustLaw" 370 ⟨"PathTrustLaw","undo","(LPathTrust;[J)I"⟩) := ⟨List.mem_of_getElem? (i := 1385) (by decide +kernel), by decide +kernel⟩
theorem wl_1386 : zL (Cond.static ⟨"PathTrustLaw","undo","(LPathTrust;[J)I"⟩) := ⟨List.mem_of_getElem? (i := 1386) (by decide +kernel), by decide +kernel⟩
theorem wl_1387 : zL (Cond.codeWith ⟨"PathTrustLaw","undo","(LPathTrust;[J)I"⟩ method_52_code 3 (Option.some FieldType.int) [(0, 8, 11, 13)]) := ⟨List.mem_of_getElem? (i := 1387) (by decide +kernel), by decide +kernel⟩
theorem wl_1397 : zL (Cond.methodLink "PathTrustLaw" 377 ⟨"PathTrustLaw","writeBeliefs","(LPathTrust;I[J)I"⟩) := ⟨List.mem_of_getElem? (i := 1397) (by decide +kernel), by decide +kernel⟩
theorem wl_1398 : zL (Cond.static ⟨"PathTrustLaw","writeBeliefs","(LPathTrust;I[J)I"⟩) := ⟨List.mem_of_getElem? (i := 1398) (by decide +kernel), by decide +kernel⟩
theorem wl_1399 : zL (Cond.codeWith ⟨"PathTrustLaw","writeBeliefs","(LPathTrust;I[J)I"⟩ method_53_code 4 (Option.some FieldType.int) [(0, 9, 12, 29)]) := ⟨List.mem_of_getElem? (i := 1399) (by decide +kernel), by decide +kernel⟩
theorem wl_1422 : zL (Cond.methodLink "PathTrustLaw" 380 ⟨"PathTrustLaw","writeReports","(LPathTrust;I[J)I"⟩) := ⟨List.mem_of_getElem? (i := 1422) (by decide +kernel), by decide +kernel⟩
theorem wl_1423 : zL (Cond.static ⟨"PathTrustLaw","writeReports","(LPathTrust;I[J)I"⟩) := ⟨List.mem_of_getElem? (i := 1423) (by decide +kernel), by decide +kernel⟩
theorem wl_1424 : zL (Cond.codeWith ⟨"PathTrustLaw","writeReports","(LPathTrust;I[J)I"⟩ method_54_code 4 (Option.some FieldType.int) [(0, 9, 12, 29)]) := ⟨List.mem_of_getElem? (i := 1424) (by decide +kernel), by decide +kernel⟩
theorem wl_1433 : zL (Cond.methodLink "PathTrustLaw" 383 ⟨"PathTrustLaw","outputByte","(LPathTrust;I[J)I"⟩) := ⟨List.mem_of_getElem? (i := 1433) (by decide +kernel), by decide +kernel⟩
theorem wl_1434 : zL (Cond.static ⟨"PathTrustLaw","outputByte","(LPathTrust;I[J)I"⟩) := ⟨List.mem_of_getElem? (i := 1434) (by decide +kernel), by decide +kernel⟩
theorem wl_1435 : zL (Cond.codeWith ⟨"PathTrustLaw","outputByte","(LPathTrust;I[J)I"⟩ method_55_code 4 (Option.some FieldType.int) [(0, 9, 12, 29)]) := ⟨List.mem_of_getElem? (i := 1435) (by decide +kernel), by decide +kernel⟩
theorem wl_1442 : zL (Cond.methodLink "PathTrustLaw" 195 ⟨"PathTrustModel","thrown","()I"⟩) := ⟨List.mem_of_getElem? (i := 1442) (by decide +kernel), by decide +kernel⟩
theorem wl_1443 : zL (Cond.instanceMethod ⟨"PathTrustModel","thrown","()I"⟩) := ⟨List.mem_of_getElem? (i := 1443) (by decide +kernel), by decide +kernel⟩
theorem wl_1444 : zL (Cond.selects "PathTrustModel" ⟨"PathTrustModel","thrown","()I"⟩ ⟨"PathTrustModel","thrown","()I"⟩) := ⟨List.mem_of_getElem? (i := 1444) (by decide +kernel), by decide +kernel⟩
theorem wl_1445 : zL (Cond.code ⟨"PathTrustModel","thrown","()I"⟩ prog_10_method_1_code 1 (Option.some FieldType.int)) := ⟨List.mem_of_getElem? (i := 1445) (by decide +kernel), by decide +kernel⟩
theorem wl_1541 : zL (Cond.methodLink "PathTrustLaw" 194 ⟨"PathTrustModel","append","(IIIII)I"⟩) := ⟨List.mem_of_getElem? (i := 1541) (by decide +kernel), by decide +kernel⟩
theorem wl_1542 : zL (Cond.instanceMethod ⟨"PathTrustModel","append","(IIIII)I"⟩) := ⟨List.mem_of_getElem? (i := 1542) (by decide +kernel), by decide +kernel⟩
theorem wl_1543 : zL (Cond.selects "PathTrustModel" ⟨"PathTrustModel","append","(IIIII)I"⟩ ⟨"PathTrustModel","append","(IIIII)I"⟩) := ⟨List.mem_of_getElem? (i := 1543) (by decide +kernel), by decide +kernel⟩
theorem wl_1544 : zL (Cond.code ⟨"PathTrustModel","append","(IIIII)I"⟩ prog_10_method_60_code 6 (Option.some FieldType.int)) := ⟨List.mem_of_getElem? (i := 1544) (by decide +kernel), by decide +kernel⟩
theorem wl_1557 : zL (Cond.methodLink "PathTrustLaw" 201 ⟨"PathTrustModel","truncate","(I)V"⟩) := ⟨List.mem_of_getElem? (i := 1557) (by decide +kernel), by decide +kernel⟩
theorem wl_1558 : zL (Cond.instanceMethod ⟨"PathTrustModel","truncate","(I)V"⟩) := ⟨List.mem_of_getElem? (i := 1558) (by decide +kernel), by decide +kernel⟩
theorem wl_1559 : zL (Cond.selects "PathTrustModel" ⟨"PathTrustModel","truncate","(I)V"⟩ ⟨"PathTrustModel","truncate","(I)V"⟩) := ⟨List.mem_of_getElem? (i := 1559) (by decide +kernel), by decide +kernel⟩
theorem wl_1560 : zL (Cond.code ⟨"PathTrustModel","truncate","(I)V"⟩ prog_10_method_61_code 2 (Option.none : Option FieldType)) := ⟨List.mem_of_getElem? (i := 1560) (by decide +kernel), by decide +kernel⟩
theorem wl_1564 : zL (Cond.methodLink "PathTrustLaw" 205 ⟨"PathTrustModel","load","()I"⟩) := ⟨List.mem_of_getElem? (i := 1564) (by decide +kernel), by decide +kernel⟩
theorem wl_1565 : zL (Cond.instanceMethod ⟨"PathTrustModel","load","()I"⟩) := ⟨List.mem_of_getElem? (i := 1565) (by decide +kernel), by decide +kernel⟩
theorem wl_1566 : zL (Cond.selects "PathTrustModel" ⟨"PathTrustModel","load","()I"⟩ ⟨"PathTrustModel","load","()I"⟩) := ⟨List.mem_of_getElem? (i := 1566) (by decide +kernel), by decide +kernel⟩
theorem wl_1567 : zL (Cond.code ⟨"PathTrustModel","load","()I"⟩ prog_10_method_81_code 2 (Option.some FieldType.int)) := ⟨List.mem_of_getElem? (i := 1567) (by decide +kernel), by decide +kernel⟩
theorem wl_1750 : zL (Cond.methodLink "PathTrustLaw" 209 ⟨"PathTrustModel","errorCode","()I"⟩) := ⟨List.mem_of_getElem? (i := 1750) (by decide +kernel), by decide +kernel⟩
theorem wl_1751 : zL (Cond.instanceMethod ⟨"PathTrustModel","errorCode","()I"⟩) := ⟨List.mem_of_getElem? (i := 1751) (by decide +kernel), by decide +kernel⟩
theorem wl_1752 : zL (Cond.selects "PathTrustModel" ⟨"PathTrustModel","errorCode","()I"⟩ ⟨"PathTrustModel","errorCode","()I"⟩) := ⟨List.mem_of_getElem? (i := 1752) (by decide +kernel), by decide +kernel⟩
theorem wl_1753 : zL (Cond.code ⟨"PathTrustModel","errorCode","()I"⟩ prog_10_method_82_code 1 (Option.some FieldType.int)) := ⟨List.mem_of_getElem? (i := 1753) (by decide +kernel), by decide +kernel⟩
theorem wl_1754 : zL (Cond.methodLink "PathTrustLaw" 213 ⟨"PathTrustModel","errorPosition","()I"⟩) := ⟨List.mem_of_getElem? (i := 1754) (by decide +kernel), by decide +kernel⟩
theorem wl_1755 : zL (Cond.instanceMethod ⟨"PathTrustModel","errorPosition","()I"⟩) := ⟨List.mem_of_getElem? (i := 1755) (by decide +kernel), by decide +kernel⟩
theorem wl_1756 : zL (Cond.selects "PathTrustModel" ⟨"PathTrustModel","errorPosition","()I"⟩ ⟨"PathTrustModel","errorPosition","()I"⟩) := ⟨List.mem_of_getElem? (i := 1756) (by decide +kernel), by decide +kernel⟩
theorem wl_1757 : zL (Cond.code ⟨"PathTrustModel","errorPosition","()I"⟩ prog_10_method_83_code 1 (Option.some FieldType.int)) := ⟨List.mem_of_getElem? (i := 1757) (by decide +kernel), by decide +kernel⟩
theorem wl_1758 : zL (Cond.methodLink "PathTrustLaw" 217 ⟨"PathTrustModel","findAgent","()I"⟩) := ⟨List.mem_of_getElem? (i := 1758) (by decide +kernel), by decide +kernel⟩
theorem wl_1759 : zL (Cond.instanceMethod ⟨"PathTrustModel","findAgent","()I"⟩) := ⟨List.mem_of_getElem? (i := 1759) (by decide +kernel), by decide +kernel⟩
theorem wl_1760 : zL (Cond.selects "PathTrustModel" ⟨"PathTrustModel","findAgent","()I"⟩ ⟨"PathTrustModel","findAgent","()I"⟩) := ⟨List.mem_of_getElem? (i := 1760) (by decide +kernel), by decide +kernel⟩
theorem wl_1761 : zL (Cond.code ⟨"PathTrustModel","findAgent","()I"⟩ prog_10_method_85_code 1 (Option.some FieldType.int)) := ⟨List.mem_of_getElem? (i := 1761) (by decide +kernel), by decide +kernel⟩
theorem wl_1767 : zL (Cond.methodLink "PathTrustLaw" 221 ⟨"PathTrustModel","findWay","()I"⟩) := ⟨List.mem_of_getElem? (i := 1767) (by decide +kernel), by decide +kernel⟩
theorem wl_1768 : zL (Cond.instanceMethod ⟨"PathTrustModel","findWay","()I"⟩) := ⟨List.mem_of_getElem? (i := 1768) (by decide +kernel), by decide +kernel⟩
theorem wl_1769 : zL (Cond.selects "PathTrustModel" ⟨"PathTrustModel","findWay","()I"⟩ ⟨"PathTrustModel","findWay","()I"⟩) := ⟨List.mem_of_getElem? (i := 1769) (by decide +kernel), by decide +kernel⟩
theorem wl_1770 : zL (Cond.code ⟨"PathTrustModel","findWay","()I"⟩ prog_10_method_86_code 1 (Option.some FieldType.int)) := ⟨List.mem_of_getElem? (i := 1770) (by decide +kernel), by decide +kernel⟩
theorem wl_1775 : zL (Cond.methodLink "PathTrustLaw" 225 ⟨"PathTrustModel","property","(I)I"⟩) := ⟨List.mem_of_getElem? (i := 1775) (by decide +kernel), by decide +kernel⟩
theorem wl_1776 : zL (Cond.instanceMethod ⟨"PathTrustModel","property","(I)I"⟩) := ⟨List.mem_of_getElem? (i := 1776) (by decide +kernel), by decide +kernel⟩
theorem wl_1777 : zL (Cond.selects "PathTrustModel" ⟨"PathTrustModel","property","(I)I"⟩ ⟨"PathTrustModel","property","(I)I"⟩) := ⟨List.mem_of_getElem? (i := 1777) (by decide +kernel), by decide +kernel⟩
theorem wl_1778 : zL (Cond.code ⟨"PathTrustModel","property","(I)I"⟩ prog_10_method_90_code 2 (Option.some FieldType.int)) := ⟨List.mem_of_getElem? (i := 1778) (by decide +kernel), by decide +kernel⟩
theorem wl_1795 : zL (Cond.methodLink "PathTrustLaw" 229 ⟨"PathTrustModel","trust","(II)I"⟩) := ⟨List.mem_of_getElem? (i := 1795) (by decide +kernel), by decide +kernel⟩
theorem wl_1796 : zL (Cond.instanceMethod ⟨"PathTrustModel","trust","(II)I"⟩) := ⟨List.mem_of_getElem? (i := 1796) (by decide +kernel), by decide +kernel⟩
theorem wl_1797 : zL (Cond.selects "PathTrustModel" ⟨"PathTrustModel","trust","(II)I"⟩ ⟨"PathTrustModel","trust","(II)I"⟩) := ⟨List.mem_of_getElem? (i := 1797) (by decide +kernel), by decide +kernel⟩
theorem wl_1798 : zL (Cond.code ⟨"PathTrustModel","trust","(II)I"⟩ prog_10_method_92_code 3 (Option.some FieldType.int)) := ⟨List.mem_of_getElem? (i := 1798) (by decide +kernel), by decide +kernel⟩
theorem wl_1807 : zL (Cond.methodLink "PathTrustLaw" 232 ⟨"PathTrustModel","neighbors","(I)I"⟩) := ⟨List.mem_of_getElem? (i := 1807) (by decide +kernel), by decide +kernel⟩
theorem wl_1808 : zL (Cond.instanceMethod ⟨"PathTrustModel","neighbors","(I)I"⟩) := ⟨List.mem_of_getElem? (i := 1808) (by decide +kernel), by decide +kernel⟩
theorem wl_1809 : zL (Cond.selects "PathTrustModel" ⟨"PathTrustModel","neighbors","(I)I"⟩ ⟨"PathTrustModel","neighbors","(I)I"⟩) := ⟨List.mem_of_getElem? (i := 1809) (by decide +kernel), by decide +kernel⟩
theorem wl_1810 : zL (Cond.code ⟨"PathTrustModel","neighbors","(I)I"⟩ prog_10_method_93_code 2 (Option.some FieldType.int)) := ⟨List.mem_of_getElem? (i := 1810) (by decide +kernel), by decide +kernel⟩
theorem wl_1811 : zL (Cond.methodLink "PathTrustLaw" 235 ⟨"PathTrustModel","distance","(II)I"⟩) := ⟨List.mem_of_getElem? (i := 1811) (by decide +kernel), by decide +kernel⟩
theorem wl_1812 : zL (Cond.instanceMethod ⟨"PathTrustModel","distance","(II)I"⟩) := ⟨List.mem_of_getElem? (i := 1812) (by decide +kernel), by decide +kernel⟩
theorem wl_1813 : zL (Cond.selects "PathTrustModel" ⟨"PathTrustModel","distance","(II)I"⟩ ⟨"PathTrustModel","distance","(II)I"⟩) := ⟨List.mem_of_getElem? (i := 1813) (by decide +kernel), by decide +kernel⟩
theorem wl_1814 : zL (Cond.code ⟨"PathTrustModel","distance","(II)I"⟩ prog_10_method_94_code 7 (Option.some FieldType.int)) := ⟨List.mem_of_getElem? (i := 1814) (by decide +kernel), by decide +kernel⟩
theorem wl_1815 : zL (Cond.methodLink "PathTrustLaw" 241 ⟨"PathTrustModel","mostTrusted","(I)I"⟩) := ⟨List.mem_of_getElem? (i := 1815) (by decide +kernel), by decide +kernel⟩
theorem wl_1816 : zL (Cond.instanceMethod ⟨"PathTrustModel","mostTrusted","(I)I"⟩) := ⟨List.mem_of_getElem? (i := 1816) (by decide +kernel), by decide +kernel⟩
theorem wl_1817 : zL (Cond.selects "PathTrustModel" ⟨"PathTrustModel","mostTrusted","(I)I"⟩ ⟨"PathTrustModel","mostTrusted","(I)I"⟩) := ⟨List.mem_of_getElem? (i := 1817) (by decide +kernel), by decide +kernel⟩
theorem wl_1818 : zL (Cond.code ⟨"PathTrustModel","mostTrusted","(I)I"⟩ prog_10_method_95_code 4 (Option.some FieldType.int)) := ⟨List.mem_of_getElem? (i := 1818) (by decide +kernel), by decide +kernel⟩
theorem wl_1819 : zL (Cond.methodLink "PathTrustLaw" 303 ⟨"PathTrustModel","standing","(I)F"⟩) := ⟨List.mem_of_getElem? (i := 1819) (by decide +kernel), by decide +kernel⟩
theorem wl_1820 : zL (Cond.instanceMethod ⟨"PathTrustModel","standing","(I)F"⟩) := ⟨List.mem_of_getElem? (i := 1820) (by decide +kernel), by decide +kernel⟩
theorem wl_1821 : zL (Cond.selects "PathTrustModel" ⟨"PathTrustModel","standing","(I)F"⟩ ⟨"PathTrustModel","standing","(I)F"⟩) := ⟨List.mem_of_getElem? (i := 1821) (by decide +kernel), by decide +kernel⟩
theorem wl_1822 : zL (Cond.code ⟨"PathTrustModel","standing","(I)F"⟩ prog_10_method_96_code 4 (Option.some FieldType.float)) := ⟨List.mem_of_getElem? (i := 1822) (by decide +kernel), by decide +kernel⟩
theorem wl_1823 : zL (Cond.methodLink "PathTrustLaw" 296 ⟨"PathTrustModel","account","(II)I"⟩) := ⟨List.mem_of_getElem? (i := 1823) (by decide +kernel), by decide +kernel⟩
theorem wl_1824 : zL (Cond.instanceMethod ⟨"PathTrustModel","account","(II)I"⟩) := ⟨List.mem_of_getElem? (i := 1824) (by decide +kernel), by decide +kernel⟩
theorem wl_1825 : zL (Cond.selects "PathTrustModel" ⟨"PathTrustModel","account","(II)I"⟩ ⟨"PathTrustModel","account","(II)I"⟩) := ⟨List.mem_of_getElem? (i := 1825) (by decide +kernel), by decide +kernel⟩
theorem wl_1826 : zL (Cond.code ⟨"PathTrustModel","account","(II)I"⟩ prog_10_method_97_code 3 (Option.some FieldType.int)) := ⟨List.mem_of_getElem? (i := 1826) (by decide +kernel), by decide +kernel⟩
theorem wl_1832 : zL (Cond.methodLink "PathTrustLaw" 244 ⟨"PathTrustModel","reports","(I)I"⟩) := ⟨List.mem_of_getElem? (i := 1832) (by decide +kernel), by decide +kernel⟩
theorem wl_1833 : zL (Cond.instanceMethod ⟨"PathTrustModel","reports","(I)I"⟩) := ⟨List.mem_of_getElem? (i := 1833) (by decide +kernel), by decide +kernel⟩
theorem wl_1834 : zL (Cond.selects "PathTrustModel" ⟨"PathTrustModel","reports","(I)I"⟩ ⟨"PathTrustModel","reports","(I)I"⟩) := ⟨List.mem_of_getElem? (i := 1834) (by decide +kernel), by decide +kernel⟩
theorem wl_1835 : zL (Cond.code ⟨"PathTrustModel","reports","(I)I"⟩ prog_10_method_98_code 2 (Option.some FieldType.int)) := ⟨List.mem_of_getElem? (i := 1835) (by decide +kernel), by decide +kernel⟩
theorem wl_1836 : zL (Cond.methodLink "PathTrustLaw" 248 ⟨"PathTrustModel","report","(III)I"⟩) := ⟨List.mem_of_getElem? (i := 1836) (by decide +kernel), by decide +kernel⟩
theorem wl_1837 : zL (Cond.instanceMethod ⟨"PathTrustModel","report","(III)I"⟩) := ⟨List.mem_of_getElem? (i := 1837) (by decide +kernel), by decide +kernel⟩
theorem wl_1838 : zL (Cond.selects "PathTrustModel" ⟨"PathTrustModel","report","(III)I"⟩ ⟨"PathTrustModel","report","(III)I"⟩) := ⟨List.mem_of_getElem? (i := 1838) (by decide +kernel), by decide +kernel⟩
theorem wl_1839 : zL (Cond.code ⟨"PathTrustModel","report","(III)I"⟩ prog_10_method_99_code 4 (Option.some FieldType.int)) := ⟨List.mem_of_getElem? (i := 1839) (by decide +kernel), by decide +kernel⟩
theorem wl_1844 : zL (Cond.methodLink "PathTrustLaw" 251 ⟨"PathTrustModel","status","(II)I"⟩) := ⟨List.mem_of_getElem? (i := 1844) (by decide +kernel), by decide +kernel⟩
theorem wl_1845 : zL (Cond.instanceMethod ⟨"PathTrustModel","status","(II)I"⟩) := ⟨List.mem_of_getElem? (i := 1845) (by decide +kernel), by decide +kernel⟩
theorem wl_1846 : zL (Cond.selects "PathTrustModel" ⟨"PathTrustModel","status","(II)I"⟩ ⟨"PathTrustModel","status","(II)I"⟩) := ⟨List.mem_of_getElem? (i := 1846) (by decide +kernel), by decide +kernel⟩
theorem wl_1847 : zL (Cond.code ⟨"PathTrustModel","status","(II)I"⟩ prog_10_method_101_code 3 (Option.some FieldType.int)) := ⟨List.mem_of_getElem? (i := 1847) (by decide +kernel), by decide +kernel⟩
theorem wl_1880 : zL (Cond.methodLink "PathTrustLaw" 254 ⟨"PathTrustModel","moved","(III)I"⟩) := ⟨List.mem_of_getElem? (i := 1880) (by decide +kernel), by decide +kernel⟩
theorem wl_1881 : zL (Cond.instanceMethod ⟨"PathTrustModel","moved","(III)I"⟩) := ⟨List.mem_of_getElem? (i := 1881) (by decide +kernel), by decide +kernel⟩
theorem wl_1882 : zL (Cond.selects "PathTrustModel" ⟨"PathTrustModel","moved","(III)I"⟩ ⟨"PathTrustModel","moved","(III)I"⟩) := ⟨List.mem_of_getElem? (i := 1882) (by decide +kernel), by decide +kernel⟩
theorem wl_1883 : zL (Cond.code ⟨"PathTrustModel","moved","(III)I"⟩ prog_10_method_102_code 4 (Option.some FieldType.int)) := ⟨List.mem_of_getElem? (i := 1883) (by decide +kernel), by decide +kernel⟩
theorem wl_1884 : zL (Cond.methodLink "PathTrustLaw" 257 ⟨"PathTrustModel","own","(II)I"⟩) := ⟨List.mem_of_getElem? (i := 1884) (by decide +kernel), by decide +kernel⟩
theorem wl_1885 : zL (Cond.instanceMethod ⟨"PathTrustModel","own","(II)I"⟩) := ⟨List.mem_of_getElem? (i := 1885) (by decide +kernel), by decide +kernel⟩
theorem wl_1886 : zL (Cond.selects "PathTrustModel" ⟨"PathTrustModel","own","(II)I"⟩ ⟨"PathTrustModel","own","(II)I"⟩) := ⟨List.mem_of_getElem? (i := 1886) (by decide +kernel), by decide +kernel⟩
theorem wl_1887 : zL (Cond.code ⟨"PathTrustModel","own","(II)I"⟩ prog_10_method_104_code 3 (Option.some FieldType.int)) := ⟨List.mem_of_getElem? (i := 1887) (by decide +kernel), by decide +kernel⟩
theorem wl_1900 : zL (Cond.methodLink "PathTrustLaw" 260 ⟨"PathTrustModel","belief","(III)I"⟩) := ⟨List.mem_of_getElem? (i := 1900) (by decide +kernel), by decide +kernel⟩
theorem wl_1901 : zL (Cond.instanceMethod ⟨"PathTrustModel","belief","(III)I"⟩) := ⟨List.mem_of_getElem? (i := 1901) (by decide +kernel), by decide +kernel⟩
theorem wl_1902 : zL (Cond.selects "PathTrustModel" ⟨"PathTrustModel","belief","(III)I"⟩ ⟨"PathTrustModel","belief","(III)I"⟩) := ⟨List.mem_of_getElem? (i := 1902) (by decide +kernel), by decide +kernel⟩
theorem wl_1903 : zL (Cond.code ⟨"PathTrustModel","belief","(III)I"⟩ prog_10_method_106_code 4 (Option.some FieldType.int)) := ⟨List.mem_of_getElem? (i := 1903) (by decide +kernel), by decide +kernel⟩
theorem wl_1908 : zL (Cond.methodLink "PathTrustLaw" 263 ⟨"PathTrustModel","sources","(II)I"⟩) := ⟨List.mem_of_getElem? (i := 1908) (by decide +kernel), by decide +kernel⟩
theorem wl_1909 : zL (Cond.instanceMethod ⟨"PathTrustModel","sources","(II)I"⟩) := ⟨List.mem_of_getElem? (i := 1909) (by decide +kernel), by decide +kernel⟩
theorem wl_1910 : zL (Cond.selects "PathTrustModel" ⟨"PathTrustModel","sources","(II)I"⟩ ⟨"PathTrustModel","sources","(II)I"⟩) := ⟨List.mem_of_getElem? (i := 1910) (by decide +kernel), by decide +kernel⟩
theorem wl_1911 : zL (Cond.code ⟨"PathTrustModel","sources","(II)I"⟩ prog_10_method_107_code 3 (Option.some FieldType.int)) := ⟨List.mem_of_getElem? (i := 1911) (by decide +kernel), by decide +kernel⟩
theorem wl_1916 : zL (Cond.methodLink "PathTrustLaw" 266 ⟨"PathTrustModel","contradicted","(II)I"⟩) := ⟨List.mem_of_getElem? (i := 1916) (by decide +kernel), by decide +kernel⟩
theorem wl_1917 : zL (Cond.instanceMethod ⟨"PathTrustModel","contradicted","(II)I"⟩) := ⟨List.mem_of_getElem? (i := 1917) (by decide +kernel), by decide +kernel⟩
theorem wl_1918 : zL (Cond.selects "PathTrustModel" ⟨"PathTrustModel","contradicted","(II)I"⟩ ⟨"PathTrustModel","contradicted","(II)I"⟩) := ⟨List.mem_of_getElem? (i := 1918) (by decide +kernel), by decide +kernel⟩
theorem wl_1919 : zL (Cond.code ⟨"PathTrustModel","contradicted","(II)I"⟩ prog_10_method_108_code 3 (Option.some FieldType.int)) := ⟨List.mem_of_getElem? (i := 1919) (by decide +kernel), by decide +kernel⟩
theorem wl_1920 : zL (Cond.methodLink "PathTrustLaw" 275 ⟨"PathTrustModel","best","(II)I"⟩) := ⟨List.mem_of_getElem? (i := 1920) (by decide +kernel), by decide +kernel⟩
theorem wl_1921 : zL (Cond.instanceMethod ⟨"PathTrustModel","best","(II)I"⟩) := ⟨List.mem_of_getElem? (i := 1921) (by decide +kernel), by decide +kernel⟩
theorem wl_1922 : zL (Cond.selects "PathTrustModel" ⟨"PathTrustModel","best","(II)I"⟩ ⟨"PathTrustModel","best","(II)I"⟩) := ⟨List.mem_of_getElem? (i := 1922) (by decide +kernel), by decide +kernel⟩
theorem wl_1923 : zL (Cond.code ⟨"PathTrustModel","best","(II)I"⟩ prog_10_method_109_code 3 (Option.some FieldType.int)) := ⟨List.mem_of_getElem? (i := 1923) (by decide +kernel), by decide +kernel⟩
theorem wl_1933 : zL (Cond.methodLink "PathTrustLaw" 278 ⟨"PathTrustModel","rivals","(I)I"⟩) := ⟨List.mem_of_getElem? (i := 1933) (by decide +kernel), by decide +kernel⟩
theorem wl_1934 : zL (Cond.instanceMethod ⟨"PathTrustModel","rivals","(I)I"⟩) := ⟨List.mem_of_getElem? (i := 1934) (by decide +kernel), by decide +kernel⟩
theorem wl_1935 : zL (Cond.selects "PathTrustModel" ⟨"PathTrustModel","rivals","(I)I"⟩ ⟨"PathTrustModel","rivals","(I)I"⟩) := ⟨List.mem_of_getElem? (i := 1935) (by decide +kernel), by decide +kernel⟩
theorem wl_1936 : zL (Cond.code ⟨"PathTrustModel","rivals","(I)I"⟩ prog_10_method_110_code 2 (Option.some FieldType.int)) := ⟨List.mem_of_getElem? (i := 1936) (by decide +kernel), by decide +kernel⟩
theorem wl_1941 : zL (Cond.methodLink "PathTrustLaw" 281 ⟨"PathTrustModel","nextProbe","(I)I"⟩) := ⟨List.mem_of_getElem? (i := 1941) (by decide +kernel), by decide +kernel⟩
theorem wl_1942 : zL (Cond.instanceMethod ⟨"PathTrustModel","nextProbe","(I)I"⟩) := ⟨List.mem_of_getElem? (i := 1942) (by decide +kernel), by decide +kernel⟩
theorem wl_1943 : zL (Cond.selects "PathTrustModel" ⟨"PathTrustModel","nextProbe","(I)I"⟩ ⟨"PathTrustModel","nextProbe","(I)I"⟩) := ⟨List.mem_of_getElem? (i := 1943) (by decide +kernel), by decide +kernel⟩
theorem wl_1944 : zL (Cond.code ⟨"PathTrustModel","nextProbe","(I)I"⟩ prog_10_method_111_code 7 (Option.some FieldType.int)) := ⟨List.mem_of_getElem? (i := 1944) (by decide +kernel), by decide +kernel⟩
theorem wl_1949 : zL (Cond.methodLink "PathTrustLaw" 287 ⟨"PathTrustModel","saved","(I)I"⟩) := ⟨List.mem_of_getElem? (i := 1949) (by decide +kernel), by decide +kernel⟩
theorem wl_1950 : zL (Cond.instanceMethod ⟨"PathTrustModel","saved","(I)I"⟩) := ⟨List.mem_of_getElem? (i := 1950) (by decide +kernel), by decide +kernel⟩
theorem wl_1951 : zL (Cond.selects "PathTrustModel" ⟨"PathTrustModel","saved","(I)I"⟩ ⟨"PathTrustModel","saved","(I)I"⟩) := ⟨List.mem_of_getElem? (i := 1951) (by decide +kernel), by decide +kernel⟩
theorem wl_1952 : zL (Cond.code ⟨"PathTrustModel","saved","(I)I"⟩ prog_10_method_112_code 4 (Option.some FieldType.int)) := ⟨List.mem_of_getElem? (i := 1952) (by decide +kernel), by decide +kernel⟩
theorem wl_1953 : zL (Cond.methodLink "PathTrustLaw" 290 ⟨"PathTrustModel","agreeing","(II)I"⟩) := ⟨List.mem_of_getElem? (i := 1953) (by decide +kernel), by decide +kernel⟩
theorem wl_1954 : zL (Cond.instanceMethod ⟨"PathTrustModel","agreeing","(II)I"⟩) := ⟨List.mem_of_getElem? (i := 1954) (by decide +kernel), by decide +kernel⟩
theorem wl_1955 : zL (Cond.selects "PathTrustModel" ⟨"PathTrustModel","agreeing","(II)I"⟩ ⟨"PathTrustModel","agreeing","(II)I"⟩) := ⟨List.mem_of_getElem? (i := 1955) (by decide +kernel), by decide +kernel⟩
theorem wl_1956 : zL (Cond.code ⟨"PathTrustModel","agreeing","(II)I"⟩ prog_10_method_113_code 6 (Option.some FieldType.int)) := ⟨List.mem_of_getElem? (i := 1956) (by decide +kernel), by decide +kernel⟩
theorem wl_1957 : zL (Cond.methodLink "PathTrustLaw" 293 ⟨"PathTrustModel","common","(II)I"⟩) := ⟨List.mem_of_getElem? (i := 1957) (by decide +kernel), by decide +kernel⟩
theorem wl_1958 : zL (Cond.instanceMethod ⟨"PathTrustModel","common","(II)I"⟩) := ⟨List.mem_of_getElem? (i := 1958) (by decide +kernel), by decide +kernel⟩
theorem wl_1959 : zL (Cond.selects "PathTrustModel" ⟨"PathTrustModel","common","(II)I"⟩ ⟨"PathTrustModel","common","(II)I"⟩) := ⟨List.mem_of_getElem? (i := 1959) (by decide +kernel), by decide +kernel⟩
theorem wl_1960 : zL (Cond.code ⟨"PathTrustModel","common","(II)I"⟩ prog_10_method_114_code 8 (Option.some FieldType.int)) := ⟨List.mem_of_getElem? (i := 1960) (by decide +kernel), by decide +kernel⟩
theorem wl_1961 : zL (Cond.methodLink "PathTrustLaw" 299 ⟨"PathTrustModel","message","(II)I"⟩) := ⟨List.mem_of_getElem? (i := 1961) (by decide +kernel), by decide +kernel⟩
theorem wl_1962 : zL (Cond.instanceMethod ⟨"PathTrustModel","message","(II)I"⟩) := ⟨List.mem_of_getElem? (i := 1962) (by decide +kernel), by decide +kernel⟩
theorem wl_1963 : zL (Cond.selects "PathTrustModel" ⟨"PathTrustModel","message","(II)I"⟩ ⟨"PathTrustModel","message","(II)I"⟩) := ⟨List.mem_of_getElem? (i := 1963) (by decide +kernel), by decide +kernel⟩
theorem wl_1964 : zL (Cond.code ⟨"PathTrustModel","message","(II)I"⟩ prog_10_method_115_code 3 (Option.some FieldType.int)) := ⟨List.mem_of_getElem? (i := 1964) (by decide +kernel), by decide +kernel⟩
theorem wl_1981 : zL (Cond.methodLink "PathTrustLaw" 269 ⟨"PathTrustModel","majority","(II)I"⟩) := ⟨List.mem_of_getElem? (i := 1981) (by decide +kernel), by decide +kernel⟩
theorem wl_1982 : zL (Cond.instanceMethod ⟨"PathTrustModel","majority","(II)I"⟩) := ⟨List.mem_of_getElem? (i := 1982) (by decide +kernel), by decide +kernel⟩
theorem wl_1983 : zL (Cond.selects "PathTrustModel" ⟨"PathTrustModel","majority","(II)I"⟩ ⟨"PathTrustModel","majority","(II)I"⟩) := ⟨List.mem_of_getElem? (i := 1983) (by decide +kernel), by decide +kernel⟩
theorem wl_1984 : zL (Cond.code ⟨"PathTrustModel","majority","(II)I"⟩ prog_10_method_119_code 3 (Option.some FieldType.int)) := ⟨List.mem_of_getElem? (i := 1984) (by decide +kernel), by decide +kernel⟩
theorem wl_1997 : zL (Cond.methodLink "PathTrustLaw" 272 ⟨"PathTrustModel","majorityBound","(III)I"⟩) := ⟨List.mem_of_getElem? (i := 1997) (by decide +kernel), by decide +kernel⟩
theorem wl_1998 : zL (Cond.instanceMethod ⟨"PathTrustModel","majorityBound","(III)I"⟩) := ⟨List.mem_of_getElem? (i := 1998) (by decide +kernel), by decide +kernel⟩
theorem wl_1999 : zL (Cond.selects "PathTrustModel" ⟨"PathTrustModel","majorityBound","(III)I"⟩ ⟨"PathTrustModel","majorityBound","(III)I"⟩) := ⟨List.mem_of_getElem? (i := 1999) (by decide +kernel), by decide +kernel⟩
theorem wl_2000 : zL (Cond.code ⟨"PathTrustModel","majorityBound","(III)I"⟩ prog_10_method_120_code 4 (Option.some FieldType.int)) := ⟨List.mem_of_getElem? (i := 2000) (by decide +kernel), by decide +kernel⟩
theorem wl_2001 : zL (Cond.methodLink "PathTrustLaw" 284 ⟨"PathTrustModel","regret","(I)I"⟩) := ⟨List.mem_of_getElem? (i := 2001) (by decide +kernel), by decide +kernel⟩
theorem wl_2002 : zL (Cond.instanceMethod ⟨"PathTrustModel","regret","(I)I"⟩) := ⟨List.mem_of_getElem? (i := 2002) (by decide +kernel), by decide +kernel⟩
theorem wl_2003 : zL (Cond.selects "PathTrustModel" ⟨"PathTrustModel","regret","(I)I"⟩ ⟨"PathTrustModel","regret","(I)I"⟩) := ⟨List.mem_of_getElem? (i := 2003) (by decide +kernel), by decide +kernel⟩
theorem wl_2004 : zL (Cond.code ⟨"PathTrustModel","regret","(I)I"⟩ prog_10_method_121_code 3 (Option.some FieldType.int)) := ⟨List.mem_of_getElem? (i := 2004) (by decide +kernel), by decide +kernel⟩
theorem wl_2005 : zL (Cond.methodLink "PathTrustLaw" 238 ⟨"PathTrustModel","bottleneck","(II)I"⟩) := ⟨List.mem_of_getElem? (i := 2005) (by decide +kernel), by decide +kernel⟩
theorem wl_2006 : zL (Cond.instanceMethod ⟨"PathTrustModel","bottleneck","(II)I"⟩) := ⟨List.mem_of_getElem? (i := 2006) (by decide +kernel), by decide +kernel⟩
theorem wl_2007 : zL (Cond.selects "PathTrustModel" ⟨"PathTrustModel","bottleneck","(II)I"⟩ ⟨"PathTrustModel","bottleneck","(II)I"⟩) := ⟨List.mem_of_getElem? (i := 2007) (by decide +kernel), by decide +kernel⟩
theorem wl_2008 : zL (Cond.code ⟨"PathTrustModel","bottleneck","(II)I"⟩ prog_10_method_123_code 4 (Option.some FieldType.int)) := ⟨List.mem_of_getElem? (i := 2008) (by decide +kernel), by decide +kernel⟩
theorem wl_2013 : zL (Cond.methodLink "PathTrustLaw" 312 ⟨"PathTrustModel","informed","(III)I"⟩) := ⟨List.mem_of_getElem? (i := 2013) (by decide +kernel), by decide +kernel⟩
theorem wl_2014 : zL (Cond.instanceMethod ⟨"PathTrustModel","informed","(III)I"⟩) := ⟨List.mem_of_getElem? (i := 2014) (by decide +kernel), by decide +kernel⟩
theorem wl_2015 : zL (Cond.selects "PathTrustModel" ⟨"PathTrustModel","informed","(III)I"⟩ ⟨"PathTrustModel","informed","(III)I"⟩) := ⟨List.mem_of_getElem? (i := 2015) (by decide +kernel), by decide +kernel⟩
theorem wl_2016 : zL (Cond.code ⟨"PathTrustModel","informed","(III)I"⟩ prog_10_method_125_code 6 (Option.some FieldType.int)) := ⟨List.mem_of_getElem? (i := 2016) (by decide +kernel), by decide +kernel⟩
theorem wl_2053 : zL (Cond.methodLink "PathTrustLaw" 344 ⟨"PathTrustModel","exchange","(I)I"⟩) := ⟨List.mem_of_getElem? (i := 2053) (by decide +kernel), by decide +kernel⟩
theorem wl_2054 : zL (Cond.instanceMethod ⟨"PathTrustModel","exchange","(I)I"⟩) := ⟨List.mem_of_getElem? (i := 2054) (by decide +kernel), by decide +kernel⟩
theorem wl_2055 : zL (Cond.selects "PathTrustModel" ⟨"PathTrustModel","exchange","(I)I"⟩ ⟨"PathTrustModel","exchange","(I)I"⟩) := ⟨List.mem_of_getElem? (i := 2055) (by decide +kernel), by decide +kernel⟩
theorem wl_2056 : zL (Cond.code ⟨"PathTrustModel","exchange","(I)I"⟩ prog_10_method_126_code 4 (Option.some FieldType.int)) := ⟨List.mem_of_getElem? (i := 2056) (by decide +kernel), by decide +kernel⟩
theorem wl_2057 : zL (Cond.methodLink "PathTrustLaw" 363 ⟨"PathTrustModel","cleanse","(I)I"⟩) := ⟨List.mem_of_getElem? (i := 2057) (by decide +kernel), by decide +kernel⟩
theorem wl_2058 : zL (Cond.instanceMethod ⟨"PathTrustModel","cleanse","(I)I"⟩) := ⟨List.mem_of_getElem? (i := 2058) (by decide +kernel), by decide +kernel⟩
theorem wl_2059 : zL (Cond.selects "PathTrustModel" ⟨"PathTrustModel","cleanse","(I)I"⟩ ⟨"PathTrustModel","cleanse","(I)I"⟩) := ⟨List.mem_of_getElem? (i := 2059) (by decide +kernel), by decide +kernel⟩
theorem wl_2060 : zL (Cond.code ⟨"PathTrustModel","cleanse","(I)I"⟩ prog_10_method_127_code 4 (Option.some FieldType.int)) := ⟨List.mem_of_getElem? (i := 2060) (by decide +kernel), by decide +kernel⟩
theorem wl_2061 : zL (Cond.methodLink "PathTrustLaw" 306 ⟨"PathTrustModel","beliefIf","(IIIII)I"⟩) := ⟨List.mem_of_getElem? (i := 2061) (by decide +kernel), by decide +kernel⟩
theorem wl_2062 : zL (Cond.instanceMethod ⟨"PathTrustModel","beliefIf","(IIIII)I"⟩) := ⟨List.mem_of_getElem? (i := 2062) (by decide +kernel), by decide +kernel⟩
theorem wl_2063 : zL (Cond.selects "PathTrustModel" ⟨"PathTrustModel","beliefIf","(IIIII)I"⟩ ⟨"PathTrustModel","beliefIf","(IIIII)I"⟩) := ⟨List.mem_of_getElem? (i := 2063) (by decide +kernel), by decide +kernel⟩
theorem wl_2064 : zL (Cond.code ⟨"PathTrustModel","beliefIf","(IIIII)I"⟩ prog_10_method_129_code 7 (Option.some FieldType.int)) := ⟨List.mem_of_getElem? (i := 2064) (by decide +kernel), by decide +kernel⟩
theorem wl_2069 : zL (Cond.methodLink "PathTrustLaw" 309 ⟨"PathTrustModel","trustIf","(IIIII)I"⟩) := ⟨List.mem_of_getElem? (i := 2069) (by decide +kernel), by decide +kernel⟩
theorem wl_2070 : zL (Cond.instanceMethod ⟨"PathTrustModel","trustIf","(IIIII)I"⟩) := ⟨List.mem_of_getElem? (i := 2070) (by decide +kernel), by decide +kernel⟩
theorem wl_2071 : zL (Cond.selects "PathTrustModel" ⟨"PathTrustModel","trustIf","(IIIII)I"⟩ ⟨"PathTrustModel","trustIf","(IIIII)I"⟩) := ⟨List.mem_of_getElem? (i := 2071) (by decide +kernel), by decide +kernel⟩
theorem wl_2072 : zL (Cond.code ⟨"PathTrustModel","trustIf","(IIIII)I"⟩ prog_10_method_130_code 7 (Option.some FieldType.int)) := ⟨List.mem_of_getElem? (i := 2072) (by decide +kernel), by decide +kernel⟩
theorem wl_2073 : zL (Cond.methodLink "PathTrustLaw" 315 ⟨"PathTrustModel","widthAfter","(III)I"⟩) := ⟨List.mem_of_getElem? (i := 2073) (by decide +kernel), by decide +kernel⟩
theorem wl_2074 : zL (Cond.instanceMethod ⟨"PathTrustModel","widthAfter","(III)I"⟩) := ⟨List.mem_of_getElem? (i := 2074) (by decide +kernel), by decide +kernel⟩
theorem wl_2075 : zL (Cond.selects "PathTrustModel" ⟨"PathTrustModel","widthAfter","(III)I"⟩ ⟨"PathTrustModel","widthAfter","(III)I"⟩) := ⟨List.mem_of_getElem? (i := 2075) (by decide +kernel), by decide +kernel⟩
theorem wl_2076 : zL (Cond.code ⟨"PathTrustModel","widthAfter","(III)I"⟩ prog_10_method_131_code 5 (Option.some FieldType.int)) := ⟨List.mem_of_getElem? (i := 2076) (by decide +kernel), by decide +kernel⟩
theorem wl_2082 : zL (Cond.methodLink "PathTrustLaw" 318 ⟨"PathTrustModel","widthWithout","(III)I"⟩) := ⟨List.mem_of_getElem? (i := 2082) (by decide +kernel), by decide +kernel⟩
theorem wl_2083 : zL (Cond.instanceMethod ⟨"PathTrustModel","widthWithout","(III)I"⟩) := ⟨List.mem_of_getElem? (i := 2083) (by decide +kernel), by decide +kernel⟩
theorem wl_2084 : zL (Cond.selects "PathTrustModel" ⟨"PathTrustModel","widthWithout","(III)I"⟩ ⟨"PathTrustModel","widthWithout","(III)I"⟩) := ⟨List.mem_of_getElem? (i := 2084) (by decide +kernel), by decide +kernel⟩
theorem wl_2085 : zL (Cond.code ⟨"PathTrustModel","widthWithout","(III)I"⟩ prog_10_method_133_code 4 (Option.some FieldType.int)) := ⟨List.mem_of_getElem? (i := 2085) (by decide +kernel), by decide +kernel⟩
theorem wl_2090 : zL (Cond.methodLink "PathTrustLaw" 321 ⟨"PathTrustModel","mostUseful","(I)I"⟩) := ⟨List.mem_of_getElem? (i := 2090) (by decide +kernel), by decide +kernel⟩
theorem wl_2091 : zL (Cond.instanceMethod ⟨"PathTrustModel","mostUseful","(I)I"⟩) := ⟨List.mem_of_getElem? (i := 2091) (by decide +kernel), by decide +kernel⟩
theorem wl_2092 : zL (Cond.selects "PathTrustModel" ⟨"PathTrustModel","mostUseful","(I)I"⟩ ⟨"PathTrustModel","mostUseful","(I)I"⟩) := ⟨List.mem_of_getElem? (i := 2092) (by decide +kernel), by decide +kernel⟩
theorem wl_2093 : zL (Cond.code ⟨"PathTrustModel","mostUseful","(I)I"⟩ prog_10_method_134_code 7 (Option.some FieldType.int)) := ⟨List.mem_of_getElem? (i := 2093) (by decide +kernel), by decide +kernel⟩
theorem wl_2094 : zL (Cond.methodLink "PathTrustLaw" 324 ⟨"PathTrustModel","bestThen","(I)I"⟩) := ⟨List.mem_of_getElem? (i := 2094) (by decide +kernel), by decide +kernel⟩
theorem wl_2095 : zL (Cond.instanceMethod ⟨"PathTrustModel","bestThen","(I)I"⟩) := ⟨List.mem_of_getElem? (i := 2095) (by decide +kernel), by decide +kernel⟩
theorem wl_2096 : zL (Cond.selects "PathTrustModel" ⟨"PathTrustModel","bestThen","(I)I"⟩ ⟨"PathTrustModel","bestThen","(I)I"⟩) := ⟨List.mem_of_getElem? (i := 2096) (by decide +kernel), by decide +kernel⟩
theorem wl_2097 : zL (Cond.code ⟨"PathTrustModel","bestThen","(I)I"⟩ prog_10_method_135_code 3 (Option.some FieldType.int)) := ⟨List.mem_of_getElem? (i := 2097) (by decide +kernel), by decide +kernel⟩
theorem wl_2098 : zL (Cond.methodLink "PathTrustLaw" 328 ⟨"PathTrustModel","probe","(IIII)I"⟩) := ⟨List.mem_of_getElem? (i := 2098) (by decide +kernel), by decide +kernel⟩
theorem wl_2099 : zL (Cond.instanceMethod ⟨"PathTrustModel","probe","(IIII)I"⟩) := ⟨List.mem_of_getElem? (i := 2099) (by decide +kernel), by decide +kernel⟩
theorem wl_2100 : zL (Cond.selects "PathTrustModel" ⟨"PathTrustModel","probe","(IIII)I"⟩ ⟨"PathTrustModel","probe","(IIII)I"⟩) := ⟨List.mem_of_getElem? (i := 2100) (by decide +kernel), by decide +kernel⟩
theorem wl_2101 : zL (Cond.code ⟨"PathTrustModel","probe","(IIII)I"⟩ prog_10_method_136_code 5 (Option.some FieldType.int)) := ⟨List.mem_of_getElem? (i := 2101) (by decide +kernel), by decide +kernel⟩
theorem wl_2102 : zL (Cond.methodLink "PathTrustLaw" 331 ⟨"PathTrustModel","share","(I)I"⟩) := ⟨List.mem_of_getElem? (i := 2102) (by decide +kernel), by decide +kernel⟩
theorem wl_2103 : zL (Cond.instanceMethod ⟨"PathTrustModel","share","(I)I"⟩) := ⟨List.mem_of_getElem? (i := 2103) (by decide +kernel), by decide +kernel⟩
theorem wl_2104 : zL (Cond.selects "PathTrustModel" ⟨"PathTrustModel","share","(I)I"⟩ ⟨"PathTrustModel","share","(I)I"⟩) := ⟨List.mem_of_getElem? (i := 2104) (by decide +kernel), by decide +kernel⟩
theorem wl_2105 : zL (Cond.code ⟨"PathTrustModel","share","(I)I"⟩ prog_10_method_138_code 4 (Option.some FieldType.int)) := ⟨List.mem_of_getElem? (i := 2105) (by decide +kernel), by decide +kernel⟩
theorem wl_2106 : zL (Cond.methodLink "PathTrustLaw" 334 ⟨"PathTrustModel","relay","(I)I"⟩) := ⟨List.mem_of_getElem? (i := 2106) (by decide +kernel), by decide +kernel⟩
theorem wl_2107 : zL (Cond.instanceMethod ⟨"PathTrustModel","relay","(I)I"⟩) := ⟨List.mem_of_getElem? (i := 2107) (by decide +kernel), by decide +kernel⟩
theorem wl_2108 : zL (Cond.selects "PathTrustModel" ⟨"PathTrustModel","relay","(I)I"⟩ ⟨"PathTrustModel","relay","(I)I"⟩) := ⟨List.mem_of_getElem? (i := 2108) (by decide +kernel), by decide +kernel⟩
theorem wl_2109 : zL (Cond.code ⟨"PathTrustModel","relay","(I)I"⟩ prog_10_method_140_code 2 (Option.some FieldType.int)) := ⟨List.mem_of_getElem? (i := 2109) (by decide +kernel), by decide +kernel⟩
theorem wl_2110 : zL (Cond.methodLink "PathTrustLaw" 337 ⟨"PathTrustModel","deliver","(I)I"⟩) := ⟨List.mem_of_getElem? (i := 2110) (by decide +kernel), by decide +kernel⟩
theorem wl_2111 : zL (Cond.instanceMethod ⟨"PathTrustModel","deliver","(I)I"⟩) := ⟨List.mem_of_getElem? (i := 2111) (by decide +kernel), by decide +kernel⟩
theorem wl_2112 : zL (Cond.selects "PathTrustModel" ⟨"PathTrustModel","deliver","(I)I"⟩ ⟨"PathTrustModel","deliver","(I)I"⟩) := ⟨List.mem_of_getElem? (i := 2112) (by decide +kernel), by decide +kernel⟩
theorem wl_2113 : zL (Cond.code ⟨"PathTrustModel","deliver","(I)I"⟩ prog_10_method_141_code 2 (Option.some FieldType.int)) := ⟨List.mem_of_getElem? (i := 2113) (by decide +kernel), by decide +kernel⟩
theorem wl_2115 : zL (Cond.methodLink "PathTrustLaw" 341 ⟨"PathTrustModel","lose","()I"⟩) := ⟨List.mem_of_getElem? (i := 2115) (by decide +kernel), by decide +kernel⟩
theorem wl_2116 : zL (Cond.instanceMethod ⟨"PathTrustModel","lose","()I"⟩) := ⟨List.mem_of_getElem? (i := 2116) (by decide +kernel), by decide +kernel⟩
theorem wl_2117 : zL (Cond.selects "PathTrustModel" ⟨"PathTrustModel","lose","()I"⟩ ⟨"PathTrustModel","lose","()I"⟩) := ⟨List.mem_of_getElem? (i := 2117) (by decide +kernel), by decide +kernel⟩
theorem wl_2118 : zL (Cond.code ⟨"PathTrustModel","lose","()I"⟩ prog_10_method_142_code 1 (Option.some FieldType.int)) := ⟨List.mem_of_getElem? (i := 2118) (by decide +kernel), by decide +kernel⟩
theorem wl_2119 : zL (Cond.methodLink "PathTrustLaw" 347 ⟨"PathTrustModel","pass","(I)I"⟩) := ⟨List.mem_of_getElem? (i := 2119) (by decide +kernel), by decide +kernel⟩
theorem wl_2120 : zL (Cond.instanceMethod ⟨"PathTrustModel","pass","(I)I"⟩) := ⟨List.mem_of_getElem? (i := 2120) (by decide +kernel), by decide +kernel⟩
theorem wl_2121 : zL (Cond.selects "PathTrustModel" ⟨"PathTrustModel","pass","(I)I"⟩ ⟨"PathTrustModel","pass","(I)I"⟩) := ⟨List.mem_of_getElem? (i := 2121) (by decide +kernel), by decide +kernel⟩
theorem wl_2122 : zL (Cond.code ⟨"PathTrustModel","pass","(I)I"⟩ prog_10_method_143_code 2 (Option.some FieldType.int)) := ⟨List.mem_of_getElem? (i := 2122) (by decide +kernel), by decide +kernel⟩
theorem wl_2123 : zL (Cond.methodLink "PathTrustLaw" 351 ⟨"PathTrustModel","link","(IIZ)Z"⟩) := ⟨List.mem_of_getElem? (i := 2123) (by decide +kernel), by decide +kernel⟩
theorem wl_2124 : zL (Cond.instanceMethod ⟨"PathTrustModel","link","(IIZ)Z"⟩) := ⟨List.mem_of_getElem? (i := 2124) (by decide +kernel), by decide +kernel⟩
theorem wl_2125 : zL (Cond.selects "PathTrustModel" ⟨"PathTrustModel","link","(IIZ)Z"⟩ ⟨"PathTrustModel","link","(IIZ)Z"⟩) := ⟨List.mem_of_getElem? (i := 2125) (by decide +kernel), by decide +kernel⟩
theorem wl_2126 : zL (Cond.code ⟨"PathTrustModel","link","(IIZ)Z"⟩ prog_10_method_144_code 5 (Option.some FieldType.boolean)) := ⟨List.mem_of_getElem? (i := 2126) (by decide +kernel), by decide +kernel⟩
theorem wl_2127 : zL (Cond.methodLink "PathTrustLaw" 354 ⟨"PathTrustModel","setTrust","(III)I"⟩) := ⟨List.mem_of_getElem? (i := 2127) (by decide +kernel), by decide +kernel⟩
theorem wl_2128 : zL (Cond.instanceMethod ⟨"PathTrustModel","setTrust","(III)I"⟩) := ⟨List.mem_of_getElem? (i := 2128) (by decide +kernel), by decide +kernel⟩
theorem wl_2129 : zL (Cond.selects "PathTrustModel" ⟨"PathTrustModel","setTrust","(III)I"⟩ ⟨"PathTrustModel","setTrust","(III)I"⟩) := ⟨List.mem_of_getElem? (i := 2129) (by decide +kernel), by decide +kernel⟩
theorem wl_2130 : zL (Cond.code ⟨"PathTrustModel","setTrust","(III)I"⟩ prog_10_method_145_code 6 (Option.some FieldType.int)) := ⟨List.mem_of_getElem? (i := 2130) (by decide +kernel), by decide +kernel⟩
theorem wl_2132 : zL (Cond.methodLink "PathTrustLaw" 357 ⟨"PathTrustModel","setRule","(II)I"⟩) := ⟨List.mem_of_getElem? (i := 2132) (by decide +kernel), by decide +kernel⟩
theorem wl_2133 : zL (Cond.instanceMethod ⟨"PathTrustModel","setRule","(II)I"⟩) := ⟨List.mem_of_getElem? (i := 2133) (by decide +kernel), by decide +kernel⟩
theorem wl_2134 : zL (Cond.selects "PathTrustModel" ⟨"PathTrustModel","setRule","(II)I"⟩ ⟨"PathTrustModel","setRule","(II)I"⟩) := ⟨List.mem_of_getElem? (i := 2134) (by decide +kernel), by decide +kernel⟩
theorem wl_2135 : zL (Cond.code ⟨"PathTrustModel","setRule","(II)I"⟩ prog_10_method_148_code 4 (Option.some FieldType.int)) := ⟨List.mem_of_getElem? (i := 2135) (by decide +kernel), by decide +kernel⟩
theorem wl_2142 : zL (Cond.methodLink "PathTrustLaw" 360 ⟨"PathTrustModel","forget","(II)I"⟩) := ⟨List.mem_of_getElem? (i := 2142) (by decide +kernel), by decide +kernel⟩
theorem wl_2143 : zL (Cond.instanceMethod ⟨"PathTrustModel","forget","(II)I"⟩) := ⟨List.mem_of_getElem? (i := 2143) (by decide +kernel), by decide +kernel⟩
theorem wl_2144 : zL (Cond.selects "PathTrustModel" ⟨"PathTrustModel","forget","(II)I"⟩ ⟨"PathTrustModel","forget","(II)I"⟩) := ⟨List.mem_of_getElem? (i := 2144) (by decide +kernel), by decide +kernel⟩
theorem wl_2145 : zL (Cond.code ⟨"PathTrustModel","forget","(II)I"⟩ prog_10_method_149_code 6 (Option.some FieldType.int)) := ⟨List.mem_of_getElem? (i := 2145) (by decide +kernel), by decide +kernel⟩
theorem wl_2146 : zL (Cond.methodLink "PathTrustLaw" 366 ⟨"PathTrustModel","keep","(I)I"⟩) := ⟨List.mem_of_getElem? (i := 2146) (by decide +kernel), by decide +kernel⟩
theorem wl_2147 : zL (Cond.instanceMethod ⟨"PathTrustModel","keep","(I)I"⟩) := ⟨List.mem_of_getElem? (i := 2147) (by decide +kernel), by decide +kernel⟩
theorem wl_2148 : zL (Cond.selects "PathTrustModel" ⟨"PathTrustModel","keep","(I)I"⟩ ⟨"PathTrustModel","keep","(I)I"⟩) := ⟨List.mem_of_getElem? (i := 2148) (by decide +kernel), by decide +kernel⟩
theorem wl_2149 : zL (Cond.code ⟨"PathTrustModel","keep","(I)I"⟩ prog_10_method_151_code 3 (Option.some FieldType.int)) := ⟨List.mem_of_getElem? (i := 2149) (by decide +kernel), by decide +kernel⟩
theorem wl_2153 : zL (Cond.methodLink "PathTrustLaw" 369 ⟨"PathTrustModel","restore","(I)I"⟩) := ⟨List.mem_of_getElem? (i := 2153) (by decide +kernel), by decide +kernel⟩
theorem wl_2154 : zL (Cond.instanceMethod ⟨"PathTrustModel","restore","(I)I"⟩) := ⟨List.mem_of_getElem? (i := 2154) (by decide +kernel), by decide +kernel⟩
theorem wl_2155 : zL (Cond.selects "PathTrustModel" ⟨"PathTrustModel","restore","(I)I"⟩ ⟨"PathTrustModel","restore","(I)I"⟩) := ⟨List.mem_of_getElem? (i := 2155) (by decide +kernel), by decide +kernel⟩
theorem wl_2156 : zL (Cond.code ⟨"PathTrustModel","restore","(I)I"⟩ prog_10_method_152_code 3 (Option.some FieldType.int)) := ⟨List.mem_of_getElem? (i := 2156) (by decide +kernel), by decide +kernel⟩
theorem wl_2157 : zL (Cond.methodLink "PathTrustLaw" 372 ⟨"PathTrustModel","undo","()I"⟩) := ⟨List.mem_of_getElem? (i := 2157) (by decide +kernel), by decide +kernel⟩
theorem wl_2158 : zL (Cond.instanceMethod ⟨"PathTrustModel","undo","()I"⟩) := ⟨List.mem_of_getElem? (i := 2158) (by decide +kernel), by decide +kernel⟩
theorem wl_2159 : zL (Cond.selects "PathTrustModel" ⟨"PathTrustModel","undo","()I"⟩ ⟨"PathTrustModel","undo","()I"⟩) := ⟨List.mem_of_getElem? (i := 2159) (by decide +kernel), by decide +kernel⟩
theorem wl_2160 : zL (Cond.code ⟨"PathTrustModel","undo","()I"⟩ prog_10_method_154_code 2 (Option.some FieldType.int)) := ⟨List.mem_of_getElem? (i := 2160) (by decide +kernel), by decide +kernel⟩
theorem wl_2161 : zL (Cond.methodLink "PathTrustLaw" 376 ⟨"PathTrustModel","undoCount","()I"⟩) := ⟨List.mem_of_getElem? (i := 2161) (by decide +kernel), by decide +kernel⟩
theorem wl_2162 : zL (Cond.instanceMethod ⟨"PathTrustModel","undoCount","()I"⟩) := ⟨List.mem_of_getElem? (i := 2162) (by decide +kernel), by decide +kernel⟩
theorem wl_2163 : zL (Cond.selects "PathTrustModel" ⟨"PathTrustModel","undoCount","()I"⟩ ⟨"PathTrustModel","undoCount","()I"⟩) := ⟨List.mem_of_getElem? (i := 2163) (by decide +kernel), by decide +kernel⟩
theorem wl_2164 : zL (Cond.code ⟨"PathTrustModel","undoCount","()I"⟩ prog_10_method_155_code 1 (Option.some FieldType.int)) := ⟨List.mem_of_getElem? (i := 2164) (by decide +kernel), by decide +kernel⟩
theorem wl_2165 : zL (Cond.methodLink "PathTrustLaw" 379 ⟨"PathTrustModel","writeBeliefs","(I)I"⟩) := ⟨List.mem_of_getElem? (i := 2165) (by decide +kernel), by decide +kernel⟩
theorem wl_2166 : zL (Cond.instanceMethod ⟨"PathTrustModel","writeBeliefs","(I)I"⟩) := ⟨List.mem_of_getElem? (i := 2166) (by decide +kernel), by decide +kernel⟩
theorem wl_2167 : zL (Cond.selects "PathTrustModel" ⟨"PathTrustModel","writeBeliefs","(I)I"⟩ ⟨"PathTrustModel","writeBeliefs","(I)I"⟩) := ⟨List.mem_of_getElem? (i := 2167) (by decide +kernel), by decide +kernel⟩
theorem wl_2168 : zL (Cond.code ⟨"PathTrustModel","writeBeliefs","(I)I"⟩ prog_10_method_159_code 3 (Option.some FieldType.int)) := ⟨List.mem_of_getElem? (i := 2168) (by decide +kernel), by decide +kernel⟩
theorem wl_2181 : zL (Cond.methodLink "PathTrustLaw" 382 ⟨"PathTrustModel","writeReports","(I)I"⟩) := ⟨List.mem_of_getElem? (i := 2181) (by decide +kernel), by decide +kernel⟩
theorem wl_2182 : zL (Cond.instanceMethod ⟨"PathTrustModel","writeReports","(I)I"⟩) := ⟨List.mem_of_getElem? (i := 2182) (by decide +kernel), by decide +kernel⟩
theorem wl_2183 : zL (Cond.selects "PathTrustModel" ⟨"PathTrustModel","writeReports","(I)I"⟩ ⟨"PathTrustModel","writeReports","(I)I"⟩) := ⟨List.mem_of_getElem? (i := 2183) (by decide +kernel), by decide +kernel⟩
theorem wl_2184 : zL (Cond.code ⟨"PathTrustModel","writeReports","(I)I"⟩ prog_10_method_160_code 4 (Option.some FieldType.int)) := ⟨List.mem_of_getElem? (i := 2184) (by decide +kernel), by decide +kernel⟩
theorem wl_2185 : zL (Cond.methodLink "PathTrustLaw" 385 ⟨"PathTrustModel","outputByte","(I)I"⟩) := ⟨List.mem_of_getElem? (i := 2185) (by decide +kernel), by decide +kernel⟩
theorem wl_2186 : zL (Cond.instanceMethod ⟨"PathTrustModel","outputByte","(I)I"⟩) := ⟨List.mem_of_getElem? (i := 2186) (by decide +kernel), by decide +kernel⟩
theorem wl_2187 : zL (Cond.selects "PathTrustModel" ⟨"PathTrustModel","outputByte","(I)I"⟩ ⟨"PathTrustModel","outputByte","(I)I"⟩) := ⟨List.mem_of_getElem? (i := 2187) (by decide +kernel), by decide +kernel⟩
theorem wl_2188 : zL (Cond.code ⟨"PathTrustModel","outputByte","(I)I"⟩ prog_10_method_161_code 2 (Option.some FieldType.int)) := ⟨List.mem_of_getElem? (i := 2188) (by decide +kernel), by decide +kernel⟩
theorem k0_L_append : zk0H Y_L_append 7 := ⟨wl_710, wl_176, ⟨by decide, by decide, by decide +kernel⟩, by intro q; cases q⟩
theorem k0_X8_append : zk0 Y_X8_append 5 := ⟨wl_1544, wl_186, ⟨by decide, by decide, by decide +kernel⟩, rfl⟩
theorem kV_X8_append : zkV Y_X8_append := ⟨wl_1542, wl_1543⟩
theorem kl_L_194 : zkL RL 194 Y_X8_append := Or.inl wl_1541
theorem k0_X8_thrown : zk0 Y_X8_thrown 0 := ⟨wl_1445, wl_186, ⟨by decide, by decide, by decide +kernel⟩, rfl⟩
theorem kV_X8_thrown : zkV Y_X8_thrown := ⟨wl_1443, wl_1444⟩
theorem kl_L_195 : zkL RL 195 Y_X8_thrown := Or.inl wl_1442
theorem k0_L_truncate : zk0H Y_L_truncate 2 := ⟨wl_794, wl_176, ⟨by decide, by decide, by decide +kernel⟩, by intro q; cases q⟩
theorem k0_X8_truncate : zk0 Y_X8_truncate 1 := ⟨wl_1560, wl_186, ⟨by decide, by decide, by decide +kernel⟩, rfl⟩
theorem kV_X8_truncate : zkV Y_X8_truncate := ⟨wl_1558, wl_1559⟩
theorem kl_L_201 : zkL RL 201 Y_X8_truncate := Or.inl wl_1557
theorem k0_X7_load : zk0 Y_X7_load 0 := ⟨wl_429, wl_177, ⟨by decide, by decide, by decide +kernel⟩, rfl⟩
theorem kV_X7_load : zkV Y_X7_load := ⟨wl_427, wl_428⟩
theorem kl_L_202 : zkL RL 202 Y_X7_load := Or.inl wl_426
theorem k0_X8_load : zk0 Y_X8_load 0 := ⟨wl_1567, wl_186, ⟨by decide, by decide, by decide +kernel⟩, rfl⟩
theorem kV_X8_load : zkV Y_X8_load := ⟨wl_1565, wl_1566⟩
theorem kl_L_205 : zkL RL 205 Y_X8_load := Or.inl wl_1564
theorem k0_X7_errorCode : zk0 Y_X7_errorCode 0 := ⟨wl_685, wl_177, ⟨by decide, by decide, by decide +kernel⟩, rfl⟩
theorem kV_X7_errorCode : zkV Y_X7_errorCode := ⟨wl_683, wl_684⟩
theorem kl_L_206 : zkL RL 206 Y_X7_errorCode := Or.inl wl_682
theorem k0_X8_errorCode : zk0 Y_X8_errorCode 0 := ⟨wl_1753, wl_186, ⟨by decide, by decide, by decide +kernel⟩, rfl⟩
theorem kV_X8_errorCode : zkV Y_X8_errorCode := ⟨wl_1751, wl_1752⟩
theorem kl_L_209 : zkL RL 209 Y_X8_errorCode := Or.inl wl_1750
theorem k0_X7_errorPosition : zk0 Y_X7_errorPosition 0 := ⟨wl_689, wl_177, ⟨by decide, by decide, by decide +kernel⟩, rfl⟩
theorem kV_X7_errorPosition : zkV Y_X7_errorPosition := ⟨wl_687, wl_688⟩
theorem kl_L_210 : zkL RL 210 Y_X7_errorPosition := Or.inl wl_686
theorem k0_X8_errorPosition : zk0 Y_X8_errorPosition 0 := ⟨wl_1757, wl_186, ⟨by decide, by decide, by decide +kernel⟩, rfl⟩
theorem kV_X8_errorPosition : zkV Y_X8_errorPosition := ⟨wl_1755, wl_1756⟩
theorem kl_L_213 : zkL RL 213 Y_X8_errorPosition := Or.inl wl_1754
theorem k0_X7_findAgent : zk0 Y_X7_findAgent 0 := ⟨wl_693, wl_177, ⟨by decide, by decide, by decide +kernel⟩, rfl⟩
theorem kV_X7_findAgent : zkV Y_X7_findAgent := ⟨wl_691, wl_692⟩
theorem kl_L_214 : zkL RL 214 Y_X7_findAgent := Or.inl wl_690
theorem k0_X8_findAgent : zk0 Y_X8_findAgent 0 := ⟨wl_1761, wl_186, ⟨by decide, by decide, by decide +kernel⟩, rfl⟩
theorem kV_X8_findAgent : zkV Y_X8_findAgent := ⟨wl_1759, wl_1760⟩
theorem kl_L_217 : zkL RL 217 Y_X8_findAgent := Or.inl wl_1758
theorem k0_X7_findWay : zk0 Y_X7_findWay 0 := ⟨wl_703, wl_177, ⟨by decide, by decide, by decide +kernel⟩, rfl⟩
theorem kV_X7_findWay : zkV Y_X7_findWay := ⟨wl_701, wl_702⟩
theorem kl_L_218 : zkL RL 218 Y_X7_findWay := Or.inl wl_700
theorem k0_X8_findWay : zk0 Y_X8_findWay 0 := ⟨wl_1770, wl_186, ⟨by decide, by decide, by decide +kernel⟩, rfl⟩
theorem kV_X8_findWay : zkV Y_X8_findWay := ⟨wl_1768, wl_1769⟩
theorem kl_L_221 : zkL RL 221 Y_X8_findWay := Or.inl wl_1767
theorem k0_L_property : zk0H Y_L_property 3 := ⟨wl_821, wl_176, ⟨by decide, by decide, by decide +kernel⟩, by intro q; cases q⟩
theorem k0_X8_property : zk0 Y_X8_property 1 := ⟨wl_1778, wl_186, ⟨by decide, by decide, by decide +kernel⟩, rfl⟩
theorem kV_X8_property : zkV Y_X8_property := ⟨wl_1776, wl_1777⟩
theorem kl_L_225 : zkL RL 225 Y_X8_property := Or.inl wl_1775
theorem k0_L_trust : zk0H Y_L_trust 4 := ⟨wl_833, wl_176, ⟨by decide, by decide, by decide +kernel⟩, by intro q; cases q⟩
theorem k0_X8_trust : zk0 Y_X8_trust 2 := ⟨wl_1798, wl_186, ⟨by decide, by decide, by decide +kernel⟩, rfl⟩
theorem kV_X8_trust : zkV Y_X8_trust := ⟨wl_1796, wl_1797⟩
theorem kl_L_229 : zkL RL 229 Y_X8_trust := Or.inl wl_1795
theorem k0_L_neighbors : zk0H Y_L_neighbors 3 := ⟨wl_862, wl_176, ⟨by decide, by decide, by decide +kernel⟩, by intro q; cases q⟩
theorem k0_X8_neighbors : zk0 Y_X8_neighbors 1 := ⟨wl_1810, wl_186, ⟨by decide, by decide, by decide +kernel⟩, rfl⟩
theorem kV_X8_neighbors : zkV Y_X8_neighbors := ⟨wl_1808, wl_1809⟩
theorem kl_L_232 : zkL RL 232 Y_X8_neighbors := Or.inl wl_1807
theorem k0_L_distance : zk0H Y_L_distance 4 := ⟨wl_870, wl_176, ⟨by decide, by decide, by decide +kernel⟩, by intro q; cases q⟩
theorem k0_X8_distance : zk0 Y_X8_distance 2 := ⟨wl_1814, wl_186, ⟨by decide, by decide, by decide +kernel⟩, rfl⟩
theorem kV_X8_distance : zkV Y_X8_distance := ⟨wl_1812, wl_1813⟩
theorem kl_L_235 : zkL RL 235 Y_X8_distance := Or.inl wl_1811
theorem k0_L_bottleneck : zk0H Y_L_bottleneck 4 := ⟨wl_885, wl_176, ⟨by decide, by decide, by decide +kernel⟩, by intro q; cases q⟩
theorem k0_X8_bottleneck : zk0 Y_X8_bottleneck 2 := ⟨wl_2008, wl_186, ⟨by decide, by decide, by decide +kernel⟩, rfl⟩
theorem kV_X8_bottleneck : zkV Y_X8_bottleneck := ⟨wl_2006, wl_2007⟩
theorem kl_L_238 : zkL RL 238 Y_X8_bottleneck := Or.inl wl_2005
theorem k0_L_mostTrusted : zk0H Y_L_mostTrusted 3 := ⟨wl_892, wl_176, ⟨by decide, by decide, by decide +kernel⟩, by intro q; cases q⟩
theorem k0_X8_mostTrusted : zk0 Y_X8_mostTrusted 1 := ⟨wl_1818, wl_186, ⟨by decide, by decide, by decide +kernel⟩, rfl⟩
theorem kV_X8_mostTrusted : zkV Y_X8_mostTrusted := ⟨wl_1816, wl_1817⟩
theorem kl_L_241 : zkL RL 241 Y_X8_mostTrusted := Or.inl wl_1815
theorem k0_L_reports : zk0H Y_L_reports 3 := ⟨wl_899, wl_176, ⟨by decide, by decide, by decide +kernel⟩, by intro q; cases q⟩
theorem k0_X8_reports : zk0 Y_X8_reports 1 := ⟨wl_1835, wl_186, ⟨by decide, by decide, by decide +kernel⟩, rfl⟩
theorem kV_X8_reports : zkV Y_X8_reports := ⟨wl_1833, wl_1834⟩
theorem kl_L_244 : zkL RL 244 Y_X8_reports := Or.inl wl_1832
theorem k0_L_report : zk0H Y_L_report 5 := ⟨wl_907, wl_176, ⟨by decide, by decide, by decide +kernel⟩, by intro q; cases q⟩
theorem k0_X8_report : zk0 Y_X8_report 3 := ⟨wl_1839, wl_186, ⟨by decide, by decide, by decide +kernel⟩, rfl⟩
theorem kV_X8_report : zkV Y_X8_report := ⟨wl_1837, wl_1838⟩
theorem kl_L_248 : zkL RL 248 Y_X8_report := Or.inl wl_1836
theorem k0_L_status : zk0H Y_L_status 4 := ⟨wl_920, wl_176, ⟨by decide, by decide, by decide +kernel⟩, by intro q; cases q⟩
theorem k0_X8_status : zk0 Y_X8_status 2 := ⟨wl_1847, wl_186, ⟨by decide, by decide, by decide +kernel⟩, rfl⟩
theorem kV_X8_status : zkV Y_X8_status := ⟨wl_1845, wl_1846⟩
theorem kl_L_251 : zkL RL 251 Y_X8_status := Or.inl wl_1844
theorem k0_L_moved : zk0H Y_L_moved 5 := ⟨wl_963, wl_176, ⟨by decide, by decide, by decide +kernel⟩, by intro q; cases q⟩
theorem k0_X8_moved : zk0 Y_X8_moved 3 := ⟨wl_1883, wl_186, ⟨by decide, by decide, by decide +kernel⟩, rfl⟩
theorem kV_X8_moved : zkV Y_X8_moved := ⟨wl_1881, wl_1882⟩
theorem kl_L_254 : zkL RL 254 Y_X8_moved := Or.inl wl_1880
theorem k0_L_own : zk0H Y_L_own 4 := ⟨wl_973, wl_176, ⟨by decide, by decide, by decide +kernel⟩, by intro q; cases q⟩
theorem k0_X8_own : zk0 Y_X8_own 2 := ⟨wl_1887, wl_186, ⟨by decide, by decide, by decide +kernel⟩, rfl⟩
theorem kV_X8_own : zkV Y_X8_own := ⟨wl_1885, wl_1886⟩
theorem kl_L_257 : zkL RL 257 Y_X8_own := Or.inl wl_1884
theorem k0_L_belief : zk0H Y_L_belief 5 := ⟨wl_986, wl_176, ⟨by decide, by decide, by decide +kernel⟩, by intro q; cases q⟩
theorem k0_X8_belief : zk0 Y_X8_belief 3 := ⟨wl_1903, wl_186, ⟨by decide, by decide, by decide +kernel⟩, rfl⟩
theorem kV_X8_belief : zkV Y_X8_belief := ⟨wl_1901, wl_1902⟩
theorem kl_L_260 : zkL RL 260 Y_X8_belief := Or.inl wl_1900
theorem k0_L_sources : zk0H Y_L_sources 4 := ⟨wl_997, wl_176, ⟨by decide, by decide, by decide +kernel⟩, by intro q; cases q⟩
theorem k0_X8_sources : zk0 Y_X8_sources 2 := ⟨wl_1911, wl_186, ⟨by decide, by decide, by decide +kernel⟩, rfl⟩
theorem kV_X8_sources : zkV Y_X8_sources := ⟨wl_1909, wl_1910⟩
theorem kl_L_263 : zkL RL 263 Y_X8_sources := Or.inl wl_1908
theorem k0_L_contradicted : zk0H Y_L_contradicted 4 := ⟨wl_1012, wl_176, ⟨by decide, by decide, by decide +kernel⟩, by intro q; cases q⟩
theorem k0_X8_contradicted : zk0 Y_X8_contradicted 2 := ⟨wl_1919, wl_186, ⟨by decide, by decide, by decide +kernel⟩, rfl⟩
theorem kV_X8_contradicted : zkV Y_X8_contradicted := ⟨wl_1917, wl_1918⟩
theorem kl_L_266 : zkL RL 266 Y_X8_contradicted := Or.inl wl_1916
theorem k0_L_majority : zk0H Y_L_majority 4 := ⟨wl_1019, wl_176, ⟨by decide, by decide, by decide +kernel⟩, by intro q; cases q⟩
theorem k0_X8_majority : zk0 Y_X8_majority 2 := ⟨wl_1984, wl_186, ⟨by decide, by decide, by decide +kernel⟩, rfl⟩
theorem kV_X8_majority : zkV Y_X8_majority := ⟨wl_1982, wl_1983⟩
theorem kl_L_269 : zkL RL 269 Y_X8_majority := Or.inl wl_1981
theorem k0_L_majorityBound : zk0H Y_L_majorityBound 5 := ⟨wl_1040, wl_176, ⟨by decide, by decide, by decide +kernel⟩, by intro q; cases q⟩
theorem k0_X8_majorityBound : zk0 Y_X8_majorityBound 3 := ⟨wl_2000, wl_186, ⟨by decide, by decide, by decide +kernel⟩, rfl⟩
theorem kV_X8_majorityBound : zkV Y_X8_majorityBound := ⟨wl_1998, wl_1999⟩
theorem kl_L_272 : zkL RL 272 Y_X8_majorityBound := Or.inl wl_1997
theorem k0_L_best : zk0H Y_L_best 4 := ⟨wl_1056, wl_176, ⟨by decide, by decide, by decide +kernel⟩, by intro q; cases q⟩
theorem k0_X8_best : zk0 Y_X8_best 2 := ⟨wl_1923, wl_186, ⟨by decide, by decide, by decide +kernel⟩, rfl⟩
theorem kV_X8_best : zkV Y_X8_best := ⟨wl_1921, wl_1922⟩
theorem kl_L_275 : zkL RL 275 Y_X8_best := Or.inl wl_1920
theorem k0_L_rivals : zk0H Y_L_rivals 3 := ⟨wl_1067, wl_176, ⟨by decide, by decide, by decide +kernel⟩, by intro q; cases q⟩
theorem k0_X8_rivals : zk0 Y_X8_rivals 1 := ⟨wl_1936, wl_186, ⟨by decide, by decide, by decide +kernel⟩, rfl⟩
theorem kV_X8_rivals : zkV Y_X8_rivals := ⟨wl_1934, wl_1935⟩
theorem kl_L_278 : zkL RL 278 Y_X8_rivals := Or.inl wl_1933
theorem k0_L_nextProbe : zk0H Y_L_nextProbe 3 := ⟨wl_1078, wl_176, ⟨by decide, by decide, by decide +kernel⟩, by intro q; cases q⟩
theorem k0_X8_nextProbe : zk0 Y_X8_nextProbe 1 := ⟨wl_1944, wl_186, ⟨by decide, by decide, by decide +kernel⟩, rfl⟩
theorem kV_X8_nextProbe : zkV Y_X8_nextProbe := ⟨wl_1942, wl_1943⟩
theorem kl_L_281 : zkL RL 281 Y_X8_nextProbe := Or.inl wl_1941
theorem k0_L_regret : zk0H Y_L_regret 3 := ⟨wl_1089, wl_176, ⟨by decide, by decide, by decide +kernel⟩, by intro q; cases q⟩
theorem k0_X8_regret : zk0 Y_X8_regret 1 := ⟨wl_2004, wl_186, ⟨by decide, by decide, by decide +kernel⟩, rfl⟩
theorem kV_X8_regret : zkV Y_X8_regret := ⟨wl_2002, wl_2003⟩
theorem kl_L_284 : zkL RL 284 Y_X8_regret := Or.inl wl_2001
theorem k0_L_saved : zk0H Y_L_saved 3 := ⟨wl_1096, wl_176, ⟨by decide, by decide, by decide +kernel⟩, by intro q; cases q⟩
theorem k0_X8_saved : zk0 Y_X8_saved 1 := ⟨wl_1952, wl_186, ⟨by decide, by decide, by decide +kernel⟩, rfl⟩
theorem kV_X8_saved : zkV Y_X8_saved := ⟨wl_1950, wl_1951⟩
theorem kl_L_287 : zkL RL 287 Y_X8_saved := Or.inl wl_1949
theorem k0_L_agreeing : zk0H Y_L_agreeing 4 := ⟨wl_1103, wl_176, ⟨by decide, by decide, by decide +kernel⟩, by intro q; cases q⟩
theorem k0_X8_agreeing : zk0 Y_X8_agreeing 2 := ⟨wl_1956, wl_186, ⟨by decide, by decide, by decide +kernel⟩, rfl⟩
theorem kV_X8_agreeing : zkV Y_X8_agreeing := ⟨wl_1954, wl_1955⟩
theorem kl_L_290 : zkL RL 290 Y_X8_agreeing := Or.inl wl_1953
theorem k0_L_common : zk0H Y_L_common 4 := ⟨wl_1112, wl_176, ⟨by decide, by decide, by decide +kernel⟩, by intro q; cases q⟩
theorem k0_X8_common : zk0 Y_X8_common 2 := ⟨wl_1960, wl_186, ⟨by decide, by decide, by decide +kernel⟩, rfl⟩
theorem kV_X8_common : zkV Y_X8_common := ⟨wl_1958, wl_1959⟩
theorem kl_L_293 : zkL RL 293 Y_X8_common := Or.inl wl_1957
theorem k0_L_account : zk0H Y_L_account 4 := ⟨wl_1120, wl_176, ⟨by decide, by decide, by decide +kernel⟩, by intro q; cases q⟩
theorem k0_X8_account : zk0 Y_X8_account 2 := ⟨wl_1826, wl_186, ⟨by decide, by decide, by decide +kernel⟩, rfl⟩
theorem kV_X8_account : zkV Y_X8_account := ⟨wl_1824, wl_1825⟩
theorem kl_L_296 : zkL RL 296 Y_X8_account := Or.inl wl_1823
theorem k0_L_message : zk0H Y_L_message 4 := ⟨wl_1131, wl_176, ⟨by decide, by decide, by decide +kernel⟩, by intro q; cases q⟩
theorem k0_X8_message : zk0 Y_X8_message 2 := ⟨wl_1964, wl_186, ⟨by decide, by decide, by decide +kernel⟩, rfl⟩
theorem kV_X8_message : zkV Y_X8_message := ⟨wl_1962, wl_1963⟩
theorem kl_L_299 : zkL RL 299 Y_X8_message := Or.inl wl_1961
theorem k0_L_standing : zk0H Y_L_standing 3 := ⟨wl_1163, wl_176, ⟨by decide, by decide, by decide +kernel⟩, by intro q; cases q⟩
theorem k0_X8_standing : zk0 Y_X8_standing 1 := ⟨wl_1822, wl_186, ⟨by decide, by decide, by decide +kernel⟩, rfl⟩
theorem kV_X8_standing : zkV Y_X8_standing := ⟨wl_1820, wl_1821⟩
theorem kl_L_303 : zkL RL 303 Y_X8_standing := Or.inl wl_1819
theorem k0_L_beliefIf : zk0H Y_L_beliefIf 7 := ⟨wl_1170, wl_176, ⟨by decide, by decide, by decide +kernel⟩, by intro q; cases q⟩
theorem k0_X8_beliefIf : zk0 Y_X8_beliefIf 5 := ⟨wl_2064, wl_186, ⟨by decide, by decide, by decide +kernel⟩, rfl⟩
theorem kV_X8_beliefIf : zkV Y_X8_beliefIf := ⟨wl_2062, wl_2063⟩
theorem kl_L_306 : zkL RL 306 Y_X8_beliefIf := Or.inl wl_2061
theorem k0_L_trustIf : zk0H Y_L_trustIf 7 := ⟨wl_1181, wl_176, ⟨by decide, by decide, by decide +kernel⟩, by intro q; cases q⟩
theorem k0_X8_trustIf : zk0 Y_X8_trustIf 5 := ⟨wl_2072, wl_186, ⟨by decide, by decide, by decide +kernel⟩, rfl⟩
theorem kV_X8_trustIf : zkV Y_X8_trustIf := ⟨wl_2070, wl_2071⟩
theorem kl_L_309 : zkL RL 309 Y_X8_trustIf := Or.inl wl_2069
theorem k0_L_informed : zk0H Y_L_informed 5 := ⟨wl_1188, wl_176, ⟨by decide, by decide, by decide +kernel⟩, by intro q; cases q⟩
theorem k0_X8_informed : zk0 Y_X8_informed 3 := ⟨wl_2016, wl_186, ⟨by decide, by decide, by decide +kernel⟩, rfl⟩
theorem kV_X8_informed : zkV Y_X8_informed := ⟨wl_2014, wl_2015⟩
theorem kl_L_312 : zkL RL 312 Y_X8_informed := Or.inl wl_2013
theorem k0_L_widthAfter : zk0H Y_L_widthAfter 5 := ⟨wl_1227, wl_176, ⟨by decide, by decide, by decide +kernel⟩, by intro q; cases q⟩
theorem k0_X8_widthAfter : zk0 Y_X8_widthAfter 3 := ⟨wl_2076, wl_186, ⟨by decide, by decide, by decide +kernel⟩, rfl⟩
theorem kV_X8_widthAfter : zkV Y_X8_widthAfter := ⟨wl_2074, wl_2075⟩
theorem kl_L_315 : zkL RL 315 Y_X8_widthAfter := Or.inl wl_2073
theorem k0_L_widthWithout : zk0H Y_L_widthWithout 5 := ⟨wl_1238, wl_176, ⟨by decide, by decide, by decide +kernel⟩, by intro q; cases q⟩
theorem k0_X8_widthWithout : zk0 Y_X8_widthWithout 3 := ⟨wl_2085, wl_186, ⟨by decide, by decide, by decide +kernel⟩, rfl⟩
theorem kV_X8_widthWithout : zkV Y_X8_widthWithout := ⟨wl_2083, wl_2084⟩
theorem kl_L_318 : zkL RL 318 Y_X8_widthWithout := Or.inl wl_2082
theorem k0_L_mostUseful : zk0H Y_L_mostUseful 3 := ⟨wl_1245, wl_176, ⟨by decide, by decide, by decide +kernel⟩, by intro q; cases q⟩
theorem k0_X8_mostUseful : zk0 Y_X8_mostUseful 1 := ⟨wl_2093, wl_186, ⟨by decide, by decide, by decide +kernel⟩, rfl⟩
theorem kV_X8_mostUseful : zkV Y_X8_mostUseful := ⟨wl_2091, wl_2092⟩
theorem kl_L_321 : zkL RL 321 Y_X8_mostUseful := Or.inl wl_2090
theorem k0_L_bestThen : zk0H Y_L_bestThen 3 := ⟨wl_1256, wl_176, ⟨by decide, by decide, by decide +kernel⟩, by intro q; cases q⟩
theorem k0_X8_bestThen : zk0 Y_X8_bestThen 1 := ⟨wl_2097, wl_186, ⟨by decide, by decide, by decide +kernel⟩, rfl⟩
theorem kV_X8_bestThen : zkV Y_X8_bestThen := ⟨wl_2095, wl_2096⟩
theorem kl_L_324 : zkL RL 324 Y_X8_bestThen := Or.inl wl_2094
theorem k0_L_probe : zk0H Y_L_probe 6 := ⟨wl_1264, wl_176, ⟨by decide, by decide, by decide +kernel⟩, by intro q; cases q⟩
theorem k0_X8_probe : zk0 Y_X8_probe 4 := ⟨wl_2101, wl_186, ⟨by decide, by decide, by decide +kernel⟩, rfl⟩
theorem kV_X8_probe : zkV Y_X8_probe := ⟨wl_2099, wl_2100⟩
theorem kl_L_328 : zkL RL 328 Y_X8_probe := Or.inl wl_2098
theorem k0_L_share : zk0H Y_L_share 3 := ⟨wl_1271, wl_176, ⟨by decide, by decide, by decide +kernel⟩, by intro q; cases q⟩
theorem k0_X8_share : zk0 Y_X8_share 1 := ⟨wl_2105, wl_186, ⟨by decide, by decide, by decide +kernel⟩, rfl⟩
theorem kV_X8_share : zkV Y_X8_share := ⟨wl_2103, wl_2104⟩
theorem kl_L_331 : zkL RL 331 Y_X8_share := Or.inl wl_2102
theorem k0_L_relay : zk0H Y_L_relay 3 := ⟨wl_1279, wl_176, ⟨by decide, by decide, by decide +kernel⟩, by intro q; cases q⟩
theorem k0_X8_relay : zk0 Y_X8_relay 1 := ⟨wl_2109, wl_186, ⟨by decide, by decide, by decide +kernel⟩, rfl⟩
theorem kV_X8_relay : zkV Y_X8_relay := ⟨wl_2107, wl_2108⟩
theorem kl_L_334 : zkL RL 334 Y_X8_relay := Or.inl wl_2106
theorem k0_L_deliver : zk0H Y_L_deliver 3 := ⟨wl_1286, wl_176, ⟨by decide, by decide, by decide +kernel⟩, by intro q; cases q⟩
theorem k0_X8_deliver : zk0 Y_X8_deliver 1 := ⟨wl_2113, wl_186, ⟨by decide, by decide, by decide +kernel⟩, rfl⟩
theorem kV_X8_deliver : zkV Y_X8_deliver := ⟨wl_2111, wl_2112⟩
theorem kl_L_337 : zkL RL 337 Y_X8_deliver := Or.inl wl_2110
theorem k0_L_lose : zk0H Y_L_lose 2 := ⟨wl_1293, wl_176, ⟨by decide, by decide, by decide +kernel⟩, by intro q; cases q⟩
theorem k0_X8_lose : zk0 Y_X8_lose 0 := ⟨wl_2118, wl_186, ⟨by decide, by decide, by decide +kernel⟩, rfl⟩
theorem kV_X8_lose : zkV Y_X8_lose := ⟨wl_2116, wl_2117⟩
theorem kl_L_341 : zkL RL 341 Y_X8_lose := Or.inl wl_2115
theorem k0_L_exchange : zk0H Y_L_exchange 3 := ⟨wl_1302, wl_176, ⟨by decide, by decide, by decide +kernel⟩, by intro q; cases q⟩
theorem k0_X8_exchange : zk0 Y_X8_exchange 1 := ⟨wl_2056, wl_186, ⟨by decide, by decide, by decide +kernel⟩, rfl⟩
theorem kV_X8_exchange : zkV Y_X8_exchange := ⟨wl_2054, wl_2055⟩
theorem kl_L_344 : zkL RL 344 Y_X8_exchange := Or.inl wl_2053
theorem k0_L_pass : zk0H Y_L_pass 3 := ⟨wl_1309, wl_176, ⟨by decide, by decide, by decide +kernel⟩, by intro q; cases q⟩
theorem k0_X8_pass : zk0 Y_X8_pass 1 := ⟨wl_2122, wl_186, ⟨by decide, by decide, by decide +kernel⟩, rfl⟩
theorem kV_X8_pass : zkV Y_X8_pass := ⟨wl_2120, wl_2121⟩
theorem kl_L_347 : zkL RL 347 Y_X8_pass := Or.inl wl_2119
theorem k0_L_link : zk0H Y_L_link 5 := ⟨wl_1316, wl_176, ⟨by decide, by decide, by decide +kernel⟩, by intro q; cases q⟩
theorem k0_X8_link : zk0 Y_X8_link 3 := ⟨wl_2126, wl_186, ⟨by decide, by decide, by decide +kernel⟩, rfl⟩
theorem kV_X8_link : zkV Y_X8_link := ⟨wl_2124, wl_2125⟩
theorem kl_L_351 : zkL RL 351 Y_X8_link := Or.inl wl_2123
theorem k0_L_setTrust : zk0H Y_L_setTrust 5 := ⟨wl_1325, wl_176, ⟨by decide, by decide, by decide +kernel⟩, by intro q; cases q⟩
theorem k0_X8_setTrust : zk0 Y_X8_setTrust 3 := ⟨wl_2130, wl_186, ⟨by decide, by decide, by decide +kernel⟩, rfl⟩
theorem kV_X8_setTrust : zkV Y_X8_setTrust := ⟨wl_2128, wl_2129⟩
theorem kl_L_354 : zkL RL 354 Y_X8_setTrust := Or.inl wl_2127
theorem k0_L_setRule : zk0H Y_L_setRule 4 := ⟨wl_1333, wl_176, ⟨by decide, by decide, by decide +kernel⟩, by intro q; cases q⟩
theorem k0_X8_setRule : zk0 Y_X8_setRule 2 := ⟨wl_2135, wl_186, ⟨by decide, by decide, by decide +kernel⟩, rfl⟩
theorem kV_X8_setRule : zkV Y_X8_setRule := ⟨wl_2133, wl_2134⟩
theorem kl_L_357 : zkL RL 357 Y_X8_setRule := Or.inl wl_2132
theorem k0_L_forget : zk0H Y_L_forget 4 := ⟨wl_1347, wl_176, ⟨by decide, by decide, by decide +kernel⟩, by intro q; cases q⟩
theorem k0_X8_forget : zk0 Y_X8_forget 2 := ⟨wl_2145, wl_186, ⟨by decide, by decide, by decide +kernel⟩, rfl⟩
theorem kV_X8_forget : zkV Y_X8_forget := ⟨wl_2143, wl_2144⟩
theorem kl_L_360 : zkL RL 360 Y_X8_forget := Or.inl wl_2142
theorem k0_L_cleanse : zk0H Y_L_cleanse 3 := ⟨wl_1360, wl_176, ⟨by decide, by decide, by decide +kernel⟩, by intro q; cases q⟩
theorem k0_X8_cleanse : zk0 Y_X8_cleanse 1 := ⟨wl_2060, wl_186, ⟨by decide, by decide, by decide +kernel⟩, rfl⟩
theorem kV_X8_cleanse : zkV Y_X8_cleanse := ⟨wl_2058, wl_2059⟩
theorem kl_L_363 : zkL RL 363 Y_X8_cleanse := Or.inl wl_2057
theorem k0_L_keep : zk0H Y_L_keep 3 := ⟨wl_1367, wl_176, ⟨by decide, by decide, by decide +kernel⟩, by intro q; cases q⟩
theorem k0_X8_keep : zk0 Y_X8_keep 1 := ⟨wl_2149, wl_186, ⟨by decide, by decide, by decide +kernel⟩, rfl⟩
theorem kV_X8_keep : zkV Y_X8_keep := ⟨wl_2147, wl_2148⟩
theorem kl_L_366 : zkL RL 366 Y_X8_keep := Or.inl wl_2146
theorem k0_L_restore : zk0H Y_L_restore 3 := ⟨wl_1379, wl_176, ⟨by decide, by decide, by decide +kernel⟩, by intro q; cases q⟩
theorem k0_X8_restore : zk0 Y_X8_restore 1 := ⟨wl_2156, wl_186, ⟨by decide, by decide, by decide +kernel⟩, rfl⟩
theorem kV_X8_restore : zkV Y_X8_restore := ⟨wl_2154, wl_2155⟩
theorem kl_L_369 : zkL RL 369 Y_X8_restore := Or.inl wl_2153
theorem k0_L_undo : zk0H Y_L_undo 2 := ⟨wl_1387, wl_176, ⟨by decide, by decide, by decide +kernel⟩, by intro q; cases q⟩
theorem k0_X8_undo : zk0 Y_X8_undo 0 := ⟨wl_2160, wl_186, ⟨by decide, by decide, by decide +kernel⟩, rfl⟩
theorem kV_X8_undo : zkV Y_X8_undo := ⟨wl_2158, wl_2159⟩
theorem kl_L_372 : zkL RL 372 Y_X8_undo := Or.inl wl_2157
theorem k0_X7_undoCount : zk0 Y_X7_undoCount 0 := ⟨wl_707, wl_177, ⟨by decide, by decide, by decide +kernel⟩, rfl⟩
theorem kV_X7_undoCount : zkV Y_X7_undoCount := ⟨wl_705, wl_706⟩
theorem kl_L_373 : zkL RL 373 Y_X7_undoCount := Or.inl wl_704
theorem k0_X8_undoCount : zk0 Y_X8_undoCount 0 := ⟨wl_2164, wl_186, ⟨by decide, by decide, by decide +kernel⟩, rfl⟩
theorem kV_X8_undoCount : zkV Y_X8_undoCount := ⟨wl_2162, wl_2163⟩
theorem kl_L_376 : zkL RL 376 Y_X8_undoCount := Or.inl wl_2161
theorem k0_L_writeBeliefs : zk0H Y_L_writeBeliefs 3 := ⟨wl_1399, wl_176, ⟨by decide, by decide, by decide +kernel⟩, by intro q; cases q⟩
theorem k0_X8_writeBeliefs : zk0 Y_X8_writeBeliefs 1 := ⟨wl_2168, wl_186, ⟨by decide, by decide, by decide +kernel⟩, rfl⟩
theorem kV_X8_writeBeliefs : zkV Y_X8_writeBeliefs := ⟨wl_2166, wl_2167⟩
theorem kl_L_379 : zkL RL 379 Y_X8_writeBeliefs := Or.inl wl_2165
theorem k0_L_writeReports : zk0H Y_L_writeReports 3 := ⟨wl_1424, wl_176, ⟨by decide, by decide, by decide +kernel⟩, by intro q; cases q⟩
theorem k0_X8_writeReports : zk0 Y_X8_writeReports 1 := ⟨wl_2184, wl_186, ⟨by decide, by decide, by decide +kernel⟩, rfl⟩
theorem kV_X8_writeReports : zkV Y_X8_writeReports := ⟨wl_2182, wl_2183⟩
theorem kl_L_382 : zkL RL 382 Y_X8_writeReports := Or.inl wl_2181
theorem k0_L_outputByte : zk0H Y_L_outputByte 3 := ⟨wl_1435, wl_176, ⟨by decide, by decide, by decide +kernel⟩, by intro q; cases q⟩
theorem k0_X8_outputByte : zk0 Y_X8_outputByte 1 := ⟨wl_2188, wl_186, ⟨by decide, by decide, by decide +kernel⟩, rfl⟩
theorem kV_X8_outputByte : zkV Y_X8_outputByte := ⟨wl_2186, wl_2187⟩
theorem kl_L_385 : zkL RL 385 Y_X8_outputByte := Or.inl wl_2185
def q_L_0 (x m o d : Int) (p : Nat → Int) (P : zS → Prop) (σ : zS) : Prop := zcase (f_X7_append x (p 1) (p 2) (p 3) (p 4) (p 5) σ) [(0, 1)] (fun v τ => @ite _ (zI v) (zID v) (zsi 4 o 0 v τ fun τ => some (.inl 0, τ)) none) fun c τ => zpm (f_X8_append m (p 1) (p 2) (p 3) (p 4) (p 5)) m τ fun b τ1 => zpm (f_X8_thrown m) m τ1 fun t τ2 => t = c ∧ (c = 0 → zo (zld 4 o 0 τ2 fun x => if x = b then some ((.inl 1 : zR), τ2) else none) zQ1) ∧ P τ2
def q_L_1 (x m o d : Int) (p : Nat → Int) (P : zS → Prop) (σ : zS) : Prop := zcase (f_X7_truncate x (p 1) σ) [(1, 1)] (fun _ τ => some (.inl 0, τ)) fun c τ => zpm (f_X8_truncate m (p 1)) m τ fun b τ1 => zpm (f_X8_thrown m) m τ1 fun t τ2 => t = c ∧ True ∧ P τ2
def q_L_2 (x m o d : Int) (p : Nat → Int) (P : zS → Prop) (σ : zS) : Prop := ∃ v τ, f_X7_load x σ = some (.inl v, τ) ∧ zpm (f_X8_load m ) m τ fun b τ1 => v = b ∧ P τ1
def q_L_3 (x m o d : Int) (p : Nat → Int) (P : zS → Prop) (σ : zS) : Prop := ∃ v τ, f_X7_errorCode x σ = some (.inl v, τ) ∧ zpm (f_X8_errorCode m ) m τ fun b τ1 => v = b ∧ P τ1
def q_L_4 (x m o d : Int) (p : Nat → Int) (P : zS → Prop) (σ : zS) : Prop := ∃ v τ, f_X7_errorPosition x σ = some (.inl v, τ) ∧ zpm (f_X8_errorPosition m ) m τ fun b τ1 => v = b ∧ P τ1
def q_L_5 (x m o d : Int) (p : Nat → Int) (P : zS → Prop) (σ : zS) : Prop := ∃ v τ, f_X7_findAgent x σ = some (.inl v, τ) ∧ zpm (f_X8_findAgent m ) m τ fun b τ1 => v = b ∧ P τ1
def q_L_6 (x m o d : Int) (p : Nat → Int) (P : zS → Prop) (σ : zS) : Prop := ∃ v τ, f_X7_findWay x σ = some (.inl v, τ) ∧ zpm (f_X8_findWay m ) m τ fun b τ1 => v = b ∧ P τ1
def q_L_7 (x m o d : Int) (p : Nat → Int) (P : zS → Prop) (σ : zS) : Prop := zcase (f_X7_property x (p 1) σ) [(1, 1)] (fun v τ => @ite _ (zI v) (zID v) (zsi 4 o 0 v τ fun τ => some (.inl 0, τ)) none) fun c τ => zpm (f_X8_property m (p 1)) m τ fun b τ1 => zpm (f_X8_thrown m) m τ1 fun t τ2 => t = c ∧ (c = 0 → zo (zld 4 o 0 τ2 fun x => if x = b then some ((.inl 1 : zR), τ2) else none) zQ1) ∧ P τ2
def q_L_8 (x m o d : Int) (p : Nat → Int) (P : zS → Prop) (σ : zS) : Prop := zcase (f_X7_trust x (p 1) (p 2) σ) [(2, 1)] (fun v τ => @ite _ (zI v) (zID v) (zsi 4 o 0 v τ fun τ => some (.inl 0, τ)) none) fun c τ => zpm (f_X8_trust m (p 1) (p 2)) m τ fun b τ1 => zpm (f_X8_thrown m) m τ1 fun t τ2 => t = c ∧ (c = 0 → zo (zld 4 o 0 τ2 fun x => if x = b then some ((.inl 1 : zR), τ2) else none) zQ1) ∧ P τ2
def q_L_9 (x m o d : Int) (p : Nat → Int) (P : zS → Prop) (σ : zS) : Prop := zcase (f_X7_neighbors x (p 1) σ) [(2, 1)] (fun v τ => @ite _ (zI v) (zID v) (zsi 4 o 0 v τ fun τ => some (.inl 0, τ)) none) fun c τ => zpm (f_X8_neighbors m (p 1)) m τ fun b τ1 => zpm (f_X8_thrown m) m τ1 fun t τ2 => t = c ∧ (c = 0 → zo (zld 4 o 0 τ2 fun x => if x = b then some ((.inl 1 : zR), τ2) else none) zQ1) ∧ P τ2
def q_L_10 (x m o d : Int) (p : Nat → Int) (P : zS → Prop) (σ : zS) : Prop := zcase (f_X7_distance x (p 1) (p 2) σ) [(2, 1)] (fun v τ => @ite _ (zI v) (zID v) (zsi 4 o 0 v τ fun τ => some (.inl 0, τ)) none) fun c τ => zpm (f_X8_distance m (p 1) (p 2)) m τ fun b τ1 => zpm (f_X8_thrown m) m τ1 fun t τ2 => t = c ∧ (c = 0 → zo (zld 4 o 0 τ2 fun x => if x = b then some ((.inl 1 : zR), τ2) else none) zQ1) ∧ P τ2
def q_L_11 (x m o d : Int) (p : Nat → Int) (P : zS → Prop) (σ : zS) : Prop := zcase (f_X7_bottleneck x (p 1) (p 2) σ) [(2, 1)] (fun v τ => @ite _ (zI v) (zID v) (zsi 4 o 0 v τ fun τ => some (.inl 0, τ)) none) fun c τ => zpm (f_X8_bottleneck m (p 1) (p 2)) m τ fun b τ1 => zpm (f_X8_thrown m) m τ1 fun t τ2 => t = c ∧ (c = 0 → zo (zld 4 o 0 τ2 fun x => if x = b then some ((.inl 1 : zR), τ2) else none) zQ1) ∧ P τ2
def q_L_12 (x m o d : Int) (p : Nat → Int) (P : zS → Prop) (σ : zS) : Prop := zcase (f_X7_mostTrusted x (p 1) σ) [(2, 1)] (fun v τ => @ite _ (zI v) (zID v) (zsi 4 o 0 v τ fun τ => some (.inl 0, τ)) none) fun c τ => zpm (f_X8_mostTrusted m (p 1)) m τ fun b τ1 => zpm (f_X8_thrown m) m τ1 fun t τ2 => t = c ∧ (c = 0 → zo (zld 4 o 0 τ2 fun x => if x = b then some ((.inl 1 : zR), τ2) else none) zQ1) ∧ P τ2
def q_L_13 (x m o d : Int) (p : Nat → Int) (P : zS → Prop) (σ : zS) : Prop := zcase (f_X7_reports x (p 1) σ) [(2, 1)] (fun v τ => @ite _ (zI v) (zID v) (zsi 4 o 0 v τ fun τ => some (.inl 0, τ)) none) fun c τ => zpm (f_X8_reports m (p 1)) m τ fun b τ1 => zpm (f_X8_thrown m) m τ1 fun t τ2 => t = c ∧ (c = 0 → zo (zld 4 o 0 τ2 fun x => if x = b then some ((.inl 1 : zR), τ2) else none) zQ1) ∧ P τ2
def q_L_14 (x m o d : Int) (p : Nat → Int) (P : zS → Prop) (σ : zS) : Prop := zcase (f_X7_report x (p 1) (p 2) (p 3) σ) [(2, 1), (1, 2)] (fun v τ => @ite _ (zI v) (zID v) (zsi 4 o 0 v τ fun τ => some (.inl 0, τ)) none) fun c τ => zpm (f_X8_report m (p 1) (p 2) (p 3)) m τ fun b τ1 => zpm (f_X8_thrown m) m τ1 fun t τ2 => t = c ∧ (c = 0 → zo (zld 4 o 0 τ2 fun x => if x = b then some ((.inl 1 : zR), τ2) else none) zQ1) ∧ P τ2
def q_L_15 (x m o d : Int) (p : Nat → Int) (P : zS → Prop) (σ : zS) : Prop := zcase (f_X7_status x (p 1) (p 2) σ) [(2, 1)] (fun v τ => @ite _ (zI v) (zID v) (zsi 4 o 0 v τ fun τ => some (.inl 0, τ)) none) fun c τ => zpm (f_X8_status m (p 1) (p 2)) m τ fun b τ1 => zpm (f_X8_thrown m) m τ1 fun t τ2 => t = c ∧ (c = 0 → zo (zld 4 o 0 τ2 fun x => if x = b then some ((.inl 1 : zR), τ2) else none) zQ1) ∧ P τ2
def q_L_16 (x m o d : Int) (p : Nat → Int) (P : zS → Prop) (σ : zS) : Prop := zcase (f_X7_moved x (p 1) (p 2) (p 3) σ) [(2, 1), (1, 2)] (fun v τ => @ite _ (zI v) (zID v) (zsi 4 o 0 v τ fun τ => some (.inl 0, τ)) none) fun c τ => zpm (f_X8_moved m (p 1) (p 2) (p 3)) m τ fun b τ1 => zpm (f_X8_thrown m) m τ1 fun t τ2 => t = c ∧ (c = 0 → zo (zld 4 o 0 τ2 fun x => if x = b then some ((.inl 1 : zR), τ2) else none) zQ1) ∧ P τ2
def q_L_17 (x m o d : Int) (p : Nat → Int) (P : zS → Prop) (σ : zS) : Prop := zcase (f_X7_own x (p 1) (p 2) σ) [(2, 1)] (fun v τ => @ite _ (zI v) (zID v) (zsi 4 o 0 v τ fun τ => some (.inl 0, τ)) none) fun c τ => zpm (f_X8_own m (p 1) (p 2)) m τ fun b τ1 => zpm (f_X8_thrown m) m τ1 fun t τ2 => t = c ∧ (c = 0 → zo (zld 4 o 0 τ2 fun x => if x = b then some ((.inl 1 : zR), τ2) else none) zQ1) ∧ P τ2
def q_L_18 (x m o d : Int) (p : Nat → Int) (P : zS → Prop) (σ : zS) : Prop := zcase (f_X7_belief x (p 1) (p 2) (p 3) σ) [(2, 1), (1, 2)] (fun v τ => @ite _ (zI v) (zID v) (zsi 4 o 0 v τ fun τ => some (.inl 0, τ)) none) fun c τ => zpm (f_X8_belief m (p 1) (p 2) (p 3)) m τ fun b τ1 => zpm (f_X8_thrown m) m τ1 fun t τ2 => t = c ∧ (c = 0 → zo (zld 4 o 0 τ2 fun x => if x = b then some ((.inl 1 : zR), τ2) else none) zQ1) ∧ P τ2
def q_L_19 (x m o d : Int) (p : Nat → Int) (P : zS → Prop) (σ : zS) : Prop := zcase (f_X7_sources x (p 1) (p 2) σ) [(2, 1)] (fun v τ => @ite _ (zI v) (zID v) (zsi 4 o 0 v τ fun τ => some (.inl 0, τ)) none) fun c τ => zpm (f_X8_sources m (p 1) (p 2)) m τ fun b τ1 => zpm (f_X8_thrown m) m τ1 fun t τ2 => t = c ∧ (c = 0 → zo (zld 4 o 0 τ2 fun x => if x = b then some ((.inl 1 : zR), τ2) else none) zQ1) ∧ P τ2
def q_L_20 (x m o d : Int) (p : Nat → Int) (P : zS → Prop) (σ : zS) : Prop := zcase (f_X7_contradicted x (p 1) (p 2) σ) [(2, 1)] (fun v τ => @ite _ (zI v) (zID v) (zsi 4 o 0 v τ fun τ => some (.inl 0, τ)) none) fun c τ => zpm (f_X8_contradicted m (p 1) (p 2)) m τ fun b τ1 => zpm (f_X8_thrown m) m τ1 fun t τ2 => t = c ∧ (c = 0 → zo (zld 4 o 0 τ2 fun x => if x = b then some ((.inl 1 : zR), τ2) else none) zQ1) ∧ P τ2
def q_L_21 (x m o d : Int) (p : Nat → Int) (P : zS → Prop) (σ : zS) : Prop := zcase (f_X7_majority x (p 1) (p 2) σ) [(2, 1)] (fun v τ => @ite _ (zI v) (zID v) (zsi 4 o 0 v τ fun τ => some (.inl 0, τ)) none) fun c τ => zpm (f_X8_majority m (p 1) (p 2)) m τ fun b τ1 => zpm (f_X8_thrown m) m τ1 fun t τ2 => t = c ∧ (c = 0 → zo (zld 4 o 0 τ2 fun x => if x = b then some ((.inl 1 : zR), τ2) else none) zQ1) ∧ P τ2
def q_L_22 (x m o d : Int) (p : Nat → Int) (P : zS → Prop) (σ : zS) : Prop := zcase (f_X7_majorityBound x (p 1) (p 2) (p 3) σ) [(2, 1), (1, 2)] (fun v τ => @ite _ (zI v) (zID v) (zsi 4 o 0 v τ fun τ => some (.inl 0, τ)) none) fun c τ => zpm (f_X8_majorityBound m (p 1) (p 2) (p 3)) m τ fun b τ1 => zpm (f_X8_thrown m) m τ1 fun t τ2 => t = c ∧ (c = 0 → zo (zld 4 o 0 τ2 fun x => if x = b then some ((.inl 1 : zR), τ2) else none) zQ1) ∧ P τ2
def q_L_23 (x m o d : Int) (p : Nat → Int) (P : zS → Prop) (σ : zS) : Prop := zcase (f_X7_best x (p 1) (p 2) σ) [(2, 1), (1, 2)] (fun v τ => @ite _ (zI v) (zID v) (zsi 4 o 0 v τ fun τ => some (.inl 0, τ)) none) fun c τ => zpm (f_X8_best m (p 1) (p 2)) m τ fun b τ1 => zpm (f_X8_thrown m) m τ1 fun t τ2 => t = c ∧ (c = 0 → zo (zld 4 o 0 τ2 fun x => if x = b then some ((.inl 1 : zR), τ2) else none) zQ1) ∧ P τ2
def q_L_24 (x m o d : Int) (p : Nat → Int) (P : zS → Prop) (σ : zS) : Prop := zcase (f_X7_rivals x (p 1) σ) [(2, 1)] (fun v τ => @ite _ (zI v) (zID v) (zsi 4 o 0 v τ fun τ => some (.inl 0, τ)) none) fun c τ => zpm (f_X8_rivals m (p 1)) m τ fun b τ1 => zpm (f_X8_thrown m) m τ1 fun t τ2 => t = c ∧ (c = 0 → zo (zld 4 o 0 τ2 fun x => if x = b then some ((.inl 1 : zR), τ2) else none) zQ1) ∧ P τ2
def q_L_25 (x m o d : Int) (p : Nat → Int) (P : zS → Prop) (σ : zS) : Prop := zcase (f_X7_nextProbe x (p 1) σ) [(2, 1)] (fun v τ => @ite _ (zI v) (zID v) (zsi 4 o 0 v τ fun τ => some (.inl 0, τ)) none) fun c τ => zpm (f_X8_nextProbe m (p 1)) m τ fun b τ1 => zpm (f_X8_thrown m) m τ1 fun t τ2 => t = c ∧ (c = 0 → zo (zld 4 o 0 τ2 fun x => if x = b then some ((.inl 1 : zR), τ2) else none) zQ1) ∧ P τ2
def q_L_26 (x m o d : Int) (p : Nat → Int) (P : zS → Prop) (σ : zS) : Prop := zcase (f_X7_regret x (p 1) σ) [(2, 1)] (fun v τ => @ite _ (zI v) (zID v) (zsi 4 o 0 v τ fun τ => some (.inl 0, τ)) none) fun c τ => zpm (f_X8_regret m (p 1)) m τ fun b τ1 => zpm (f_X8_thrown m) m τ1 fun t τ2 => t = c ∧ (c = 0 → zo (zld 4 o 0 τ2 fun x => if x = b then some ((.inl 1 : zR), τ2) else none) zQ1) ∧ P τ2
def q_L_27 (x m o d : Int) (p : Nat → Int) (P : zS → Prop) (σ : zS) : Prop := zcase (f_X7_saved x (p 1) σ) [(2, 1)] (fun v τ => @ite _ (zI v) (zID v) (zsi 4 o 0 v τ fun τ => some (.inl 0, τ)) none) fun c τ => zpm (f_X8_saved m (p 1)) m τ fun b τ1 => zpm (f_X8_thrown m) m τ1 fun t τ2 => t = c ∧ (c = 0 → zo (zld 4 o 0 τ2 fun x => if x = b then some ((.inl 1 : zR), τ2) else none) zQ1) ∧ P τ2
def q_L_28 (x m o d : Int) (p : Nat → Int) (P : zS → Prop) (σ : zS) : Prop := zcase (f_X7_agreeing x (p 1) (p 2) σ) [(2, 1)] (fun v τ => @ite _ (zI v) (zID v) (zsi 4 o 0 v τ fun τ => some (.inl 0, τ)) none) fun c τ => zpm (f_X8_agreeing m (p 1) (p 2)) m τ fun b τ1 => zpm (f_X8_thrown m) m τ1 fun t τ2 => t = c ∧ (c = 0 → zo (zld 4 o 0 τ2 fun x => if x = b then some ((.inl 1 : zR), τ2) else none) zQ1) ∧ P τ2
def q_L_29 (x m o d : Int) (p : Nat → Int) (P : zS → Prop) (σ : zS) : Prop := zcase (f_X7_common x (p 1) (p 2) σ) [(2, 1), (1, 2)] (fun v τ => @ite _ (zI v) (zID v) (zsi 4 o 0 v τ fun τ => some (.inl 0, τ)) none) fun c τ => zpm (f_X8_common m (p 1) (p 2)) m τ fun b τ1 => zpm (f_X8_thrown m) m τ1 fun t τ2 => t = c ∧ (c = 0 → zo (zld 4 o 0 τ2 fun x => if x = b then some ((.inl 1 : zR), τ2) else none) zQ1) ∧ P τ2
def q_L_30 (x m o d : Int) (p : Nat → Int) (P : zS → Prop) (σ : zS) : Prop := zcase (f_X7_account x (p 1) (p 2) σ) [(2, 1), (1, 2)] (fun v τ => @ite _ (zI v) (zID v) (zsi 4 o 0 v τ fun τ => some (.inl 0, τ)) none) fun c τ => zpm (f_X8_account m (p 1) (p 2)) m τ fun b τ1 => zpm (f_X8_thrown m) m τ1 fun t τ2 => t = c ∧ (c = 0 → zo (zld 4 o 0 τ2 fun x => if x = b then some ((.inl 1 : zR), τ2) else none) zQ1) ∧ P τ2
def q_L_31 (x m o d : Int) (p : Nat → Int) (P : zS → Prop) (σ : zS) : Prop := zcase (f_X7_message x (p 1) (p 2) σ) [(1, 1), (3, 2)] (fun v τ => @ite _ (zI v) (zID v) (zsi 4 o 0 v τ fun τ => some (.inl 0, τ)) none) fun c τ => zpm (f_X8_message m (p 1) (p 2)) m τ fun b τ1 => zpm (f_X8_thrown m) m τ1 fun t τ2 => t = c ∧ (c = 0 → zo (zld 4 o 0 τ2 fun x => if x = b then some ((.inl 1 : zR), τ2) else none) zQ1) ∧ P τ2
def q_L_32 (x m o d : Int) (p : Nat → Int) (P : zS → Prop) (σ : zS) : Prop := zcase (f_X7_standing x (p 1) σ) [(2, 1)] (fun v τ => @ite _ (vf_n64 (FP.f2d (UInt32.ofNat v.toNat))) (by unfold vf_n64; infer_instance) (zsi 5 d 0 (zfD v) τ fun τ => some (.inl 0, τ)) none) fun c τ => zpm (f_X8_standing m (p 1)) m τ fun b τ1 => zpm (f_X8_thrown m) m τ1 fun t τ2 => t = c ∧ (c = 0 → zo (zld 5 d 0 τ2 fun x => @ite _ (vf_n64 (FP.f2d (UInt32.ofNat b.toNat))) (by unfold vf_n64; infer_instance) (if zdc .l x (zfD b) = 0 then some ((.inl 1 : zR), τ2) else none) none) zQ1) ∧ P τ2
def q_L_33 (x m o d : Int) (p : Nat → Int) (P : zS → Prop) (σ : zS) : Prop := zcase (f_X7_beliefIf x (p 1) (p 2) (p 3) (p 4) (p 5) σ) [(2, 1), (1, 2)] (fun v τ => @ite _ (zI v) (zID v) (zsi 4 o 0 v τ fun τ => some (.inl 0, τ)) none) fun c τ => zpm (f_X8_beliefIf m (p 1) (p 2) (p 3) (p 4) (p 5)) m τ fun b τ1 => zpm (f_X8_thrown m) m τ1 fun t τ2 => t = c ∧ (c = 0 → zo (zld 4 o 0 τ2 fun x => if x = b then some ((.inl 1 : zR), τ2) else none) zQ1) ∧ P τ2
def q_L_34 (x m o d : Int) (p : Nat → Int) (P : zS → Prop) (σ : zS) : Prop := zcase (f_X7_trustIf x (p 1) (p 2) (p 3) (p 4) (p 5) σ) [(2, 1), (1, 2)] (fun v τ => @ite _ (zI v) (zID v) (zsi 4 o 0 v τ fun τ => some (.inl 0, τ)) none) fun c τ => zpm (f_X8_trustIf m (p 1) (p 2) (p 3) (p 4) (p 5)) m τ fun b τ1 => zpm (f_X8_thrown m) m τ1 fun t τ2 => t = c ∧ (c = 0 → zo (zld 4 o 0 τ2 fun x => if x = b then some ((.inl 1 : zR), τ2) else none) zQ1) ∧ P τ2
def q_L_35 (x m o d : Int) (p : Nat → Int) (P : zS → Prop) (σ : zS) : Prop := zcase (f_X7_informed x (p 1) (p 2) (p 3) σ) [(2, 1), (1, 2)] (fun v τ => @ite _ (zI v) (zID v) (zsi 4 o 0 v τ fun τ => some (.inl 0, τ)) none) fun c τ => zpm (f_X8_informed m (p 1) (p 2) (p 3)) m τ fun b τ1 => zpm (f_X8_thrown m) m τ1 fun t τ2 => t = c ∧ (c = 0 → zo (zld 4 o 0 τ2 fun x => if x = b then some ((.inl 1 : zR), τ2) else none) zQ1) ∧ P τ2
def q_L_36 (x m o d : Int) (p : Nat → Int) (P : zS → Prop) (σ : zS) : Prop := zcase (f_X7_widthAfter x (p 1) (p 2) (p 3) σ) [(2, 1), (1, 2)] (fun v τ => @ite _ (zI v) (zID v) (zsi 4 o 0 v τ fun τ => some (.inl 0, τ)) none) fun c τ => zpm (f_X8_widthAfter m (p 1) (p 2) (p 3)) m τ fun b τ1 => zpm (f_X8_thrown m) m τ1 fun t τ2 => t = c ∧ (c = 0 → zo (zld 4 o 0 τ2 fun x => if x = b then some ((.inl 1 : zR), τ2) else none) zQ1) ∧ P τ2
def q_L_37 (x m o d : Int) (p : Nat → Int) (P : zS → Prop) (σ : zS) : Prop := zcase (f_X7_widthWithout x (p 1) (p 2) (p 3) σ) [(2, 1)] (fun v τ => @ite _ (zI v) (zID v) (zsi 4 o 0 v τ fun τ => some (.inl 0, τ)) none) fun c τ => zpm (f_X8_widthWithout m (p 1) (p 2) (p 3)) m τ fun b τ1 => zpm (f_X8_thrown m) m τ1 fun t τ2 => t = c ∧ (c = 0 → zo (zld 4 o 0 τ2 fun x => if x = b then some ((.inl 1 : zR), τ2) else none) zQ1) ∧ P τ2
def q_L_38 (x m o d : Int) (p : Nat → Int) (P : zS → Prop) (σ : zS) : Prop := zcase (f_X7_mostUseful x (p 1) σ) [(2, 1)] (fun v τ => @ite _ (zI v) (zID v) (zsi 4 o 0 v τ fun τ => some (.inl 0, τ)) none) fun c τ => zpm (f_X8_mostUseful m (p 1)) m τ fun b τ1 => zpm (f_X8_thrown m) m τ1 fun t τ2 => t = c ∧ (c = 0 → zo (zld 4 o 0 τ2 fun x => if x = b then some ((.inl 1 : zR), τ2) else none) zQ1) ∧ P τ2
def q_L_39 (x m o d : Int) (p : Nat → Int) (P : zS → Prop) (σ : zS) : Prop := zcase (f_X7_bestThen x (p 1) σ) [(2, 1)] (fun v τ => @ite _ (zI v) (zID v) (zsi 4 o 0 v τ fun τ => some (.inl 0, τ)) none) fun c τ => zpm (f_X8_bestThen m (p 1)) m τ fun b τ1 => zpm (f_X8_thrown m) m τ1 fun t τ2 => t = c ∧ (c = 0 → zo (zld 4 o 0 τ2 fun x => if x = b then some ((.inl 1 : zR), τ2) else none) zQ1) ∧ P τ2
def q_L_40 (x m o d : Int) (p : Nat → Int) (P : zS → Prop) (σ : zS) : Prop := zcase (f_X7_probe x (p 1) (p 2) (p 3) (p 4) σ) [(2, 1), (1, 2)] (fun v τ => @ite _ (zI v) (zID v) (zsi 4 o 0 v τ fun τ => some (.inl 0, τ)) none) fun c τ => zpm (f_X8_probe m (p 1) (p 2) (p 3) (p 4)) m τ fun b τ1 => zpm (f_X8_thrown m) m τ1 fun t τ2 => t = c ∧ (c = 0 → zo (zld 4 o 0 τ2 fun x => if x = b then some ((.inl 1 : zR), τ2) else none) zQ1) ∧ P τ2
def q_L_41 (x m o d : Int) (p : Nat → Int) (P : zS → Prop) (σ : zS) : Prop := zcase (f_X7_share x (p 1) σ) [(2, 1)] (fun v τ => @ite _ (zI v) (zID v) (zsi 4 o 0 v τ fun τ => some (.inl 0, τ)) none) fun c τ => zpm (f_X8_share m (p 1)) m τ fun b τ1 => zpm (f_X8_thrown m) m τ1 fun t τ2 => t = c ∧ (c = 0 → zo (zld 4 o 0 τ2 fun x => if x = b then some ((.inl 1 : zR), τ2) else none) zQ1) ∧ P τ2
def q_L_42 (x m o d : Int) (p : Nat → Int) (P : zS → Prop) (σ : zS) : Prop := zcase (f_X7_relay x (p 1) σ) [(2, 1)] (fun v τ => @ite _ (zI v) (zID v) (zsi 4 o 0 v τ fun τ => some (.inl 0, τ)) none) fun c τ => zpm (f_X8_relay m (p 1)) m τ fun b τ1 => zpm (f_X8_thrown m) m τ1 fun t τ2 => t = c ∧ (c = 0 → zo (zld 4 o 0 τ2 fun x => if x = b then some ((.inl 1 : zR), τ2) else none) zQ1) ∧ P τ2
def q_L_43 (x m o d : Int) (p : Nat → Int) (P : zS → Prop) (σ : zS) : Prop := zcase (f_X7_deliver x (p 1) σ) [(1, 1)] (fun v τ => @ite _ (zI v) (zID v) (zsi 4 o 0 v τ fun τ => some (.inl 0, τ)) none) fun c τ => zpm (f_X8_deliver m (p 1)) m τ fun b τ1 => zpm (f_X8_thrown m) m τ1 fun t τ2 => t = c ∧ (c = 0 → zo (zld 4 o 0 τ2 fun x => if x = b then some ((.inl 1 : zR), τ2) else none) zQ1) ∧ P τ2
def q_L_44 (x m o d : Int) (p : Nat → Int) (P : zS → Prop) (σ : zS) : Prop := zcase (f_X7_lose x σ) [(0, 1)] (fun v τ => @ite _ (zI v) (zID v) (zsi 4 o 0 v τ fun τ => some (.inl 0, τ)) none) fun c τ => zpm (f_X8_lose m ) m τ fun b τ1 => zpm (f_X8_thrown m) m τ1 fun t τ2 => t = c ∧ (c = 0 → zo (zld 4 o 0 τ2 fun x => if x = b then some ((.inl 1 : zR), τ2) else none) zQ1) ∧ P τ2
def q_L_45 (x m o d : Int) (p : Nat → Int) (P : zS → Prop) (σ : zS) : Prop := zcase (f_X7_exchange x (p 1) σ) [(1, 1)] (fun v τ => @ite _ (zI v) (zID v) (zsi 4 o 0 v τ fun τ => some (.inl 0, τ)) none) fun c τ => zpm (f_X8_exchange m (p 1)) m τ fun b τ1 => zpm (f_X8_thrown m) m τ1 fun t τ2 => t = c ∧ (c = 0 → zo (zld 4 o 0 τ2 fun x => if x = b then some ((.inl 1 : zR), τ2) else none) zQ1) ∧ P τ2
def q_L_46 (x m o d : Int) (p : Nat → Int) (P : zS → Prop) (σ : zS) : Prop := zcase (f_X7_pass x (p 1) σ) [(1, 1)] (fun v τ => @ite _ (zI v) (zID v) (zsi 4 o 0 v τ fun τ => some (.inl 0, τ)) none) fun c τ => zpm (f_X8_pass m (p 1)) m τ fun b τ1 => zpm (f_X8_thrown m) m τ1 fun t τ2 => t = c ∧ (c = 0 → zo (zld 4 o 0 τ2 fun x => if x = b then some ((.inl 1 : zR), τ2) else none) zQ1) ∧ P τ2
def q_L_47 (x m o d : Int) (p : Nat → Int) (P : zS → Prop) (σ : zS) : Prop := zcase (f_X7_link x (p 1) (p 2) (zbz (p 3)) σ) [(2, 1), (1, 2)] (fun v τ => if v = 0 then @ite _ (zI 0) (zID 0) (zsi 4 o 0 0 τ fun τ => some (.inl 0, τ)) none else @ite _ (zI 1) (zID 1) (zsi 4 o 0 1 τ fun τ => some (.inl 0, τ)) none) fun c τ => zpm (f_X8_link m (p 1) (p 2) (zbz (p 3))) m τ fun b τ1 => zpm (f_X8_thrown m) m τ1 fun t τ2 => t = c ∧ (c = 0 → zo (zld 4 o 0 τ2 fun x => if x = zbz b then some ((.inl 1 : zR), τ2) else none) zQ1) ∧ P τ2
def q_L_48 (x m o d : Int) (p : Nat → Int) (P : zS → Prop) (σ : zS) : Prop := zcase (f_X7_setTrust x (p 1) (p 2) (p 3) σ) [(2, 1), (1, 2), (0, 3)] (fun v τ => @ite _ (zI v) (zID v) (zsi 4 o 0 v τ fun τ => some (.inl 0, τ)) none) fun c τ => zpm (f_X8_setTrust m (p 1) (p 2) (p 3)) m τ fun b τ1 => zpm (f_X8_thrown m) m τ1 fun t τ2 => t = c ∧ (c = 0 → zo (zld 4 o 0 τ2 fun x => if x = b then some ((.inl 1 : zR), τ2) else none) zQ1) ∧ P τ2
def q_L_49 (x m o d : Int) (p : Nat → Int) (P : zS → Prop) (σ : zS) : Prop := zcase (f_X7_setRule x (p 1) (p 2) σ) [(1, 1)] (fun v τ => @ite _ (zI v) (zID v) (zsi 4 o 0 v τ fun τ => some (.inl 0, τ)) none) fun c τ => zpm (f_X8_setRule m (p 1) (p 2)) m τ fun b τ1 => zpm (f_X8_thrown m) m τ1 fun t τ2 => t = c ∧ (c = 0 → zo (zld 4 o 0 τ2 fun x => if x = b then some ((.inl 1 : zR), τ2) else none) zQ1) ∧ P τ2
def q_L_50 (x m o d : Int) (p : Nat → Int) (P : zS → Prop) (σ : zS) : Prop := zcase (f_X7_forget x (p 1) (p 2) σ) [(2, 1)] (fun v τ => @ite _ (zI v) (zID v) (zsi 4 o 0 v τ fun τ => some (.inl 0, τ)) none) fun c τ => zpm (f_X8_forget m (p 1) (p 2)) m τ fun b τ1 => zpm (f_X8_thrown m) m τ1 fun t τ2 => t = c ∧ (c = 0 → zo (zld 4 o 0 τ2 fun x => if x = b then some ((.inl 1 : zR), τ2) else none) zQ1) ∧ P τ2
def q_L_51 (x m o d : Int) (p : Nat → Int) (P : zS → Prop) (σ : zS) : Prop := zcase (f_X7_cleanse x (p 1) σ) [(2, 1)] (fun v τ => @ite _ (zI v) (zID v) (zsi 4 o 0 v τ fun τ => some (.inl 0, τ)) none) fun c τ => zpm (f_X8_cleanse m (p 1)) m τ fun b τ1 => zpm (f_X8_thrown m) m τ1 fun t τ2 => t = c ∧ (c = 0 → zo (zld 4 o 0 τ2 fun x => if x = b then some ((.inl 1 : zR), τ2) else none) zQ1) ∧ P τ2
def q_L_52 (x m o d : Int) (p : Nat → Int) (P : zS → Prop) (σ : zS) : Prop := zcase (f_X7_keep x (p 1) σ) [(2, 1)] (fun v τ => @ite _ (zI v) (zID v) (zsi 4 o 0 v τ fun τ => some (.inl 0, τ)) none) fun c τ => zpm (f_X8_keep m (p 1)) m τ fun b τ1 => zpm (f_X8_thrown m) m τ1 fun t τ2 => t = c ∧ (c = 0 → zo (zld 4 o 0 τ2 fun x => if x = b then some ((.inl 1 : zR), τ2) else none) zQ1) ∧ P τ2
def q_L_53 (x m o d : Int) (p : Nat → Int) (P : zS → Prop) (σ : zS) : Prop := zcase (f_X7_restore x (p 1) σ) [(2, 1), (0, 2)] (fun v τ => @ite _ (zI v) (zID v) (zsi 4 o 0 v τ fun τ => some (.inl 0, τ)) none) fun c τ => zpm (f_X8_restore m (p 1)) m τ fun b τ1 => zpm (f_X8_thrown m) m τ1 fun t τ2 => t = c ∧ (c = 0 → zo (zld 4 o 0 τ2 fun x => if x = b then some ((.inl 1 : zR), τ2) else none) zQ1) ∧ P τ2
def q_L_54 (x m o d : Int) (p : Nat → Int) (P : zS → Prop) (σ : zS) : Prop := zcase (f_X7_undo x σ) [(0, 1)] (fun v τ => @ite _ (zI v) (zID v) (zsi 4 o 0 v τ fun τ => some (.inl 0, τ)) none) fun c τ => zpm (f_X8_undo m ) m τ fun b τ1 => zpm (f_X8_thrown m) m τ1 fun t τ2 => t = c ∧ (c = 0 → zo (zld 4 o 0 τ2 fun x => if x = b then some ((.inl 1 : zR), τ2) else none) zQ1) ∧ P τ2
def q_L_55 (x m o d : Int) (p : Nat → Int) (P : zS → Prop) (σ : zS) : Prop := ∃ v τ, f_X7_undoCount x σ = some (.inl v, τ) ∧ zpm (f_X8_undoCount m ) m τ fun b τ1 => v = b ∧ P τ1
def q_L_56 (x m o d : Int) (p : Nat → Int) (P : zS → Prop) (σ : zS) : Prop := zcase (f_X7_writeBeliefs x (p 1) σ) [(2, 1)] (fun v τ => @ite _ (zI v) (zID v) (zsi 4 o 0 v τ fun τ => some (.inl 0, τ)) none) fun c τ => zpm (f_X8_writeBeliefs m (p 1)) m τ fun b τ1 => zpm (f_X8_thrown m) m τ1 fun t τ2 => t = c ∧ (c = 0 → zo (zld 4 o 0 τ2 fun x => if x = b then some ((.inl 1 : zR), τ2) else none) zQ1) ∧ P τ2
def q_L_57 (x m o d : Int) (p : Nat → Int) (P : zS → Prop) (σ : zS) : Prop := zcase (f_X7_writeReports x (p 1) σ) [(2, 1)] (fun v τ => @ite _ (zI v) (zID v) (zsi 4 o 0 v τ fun τ => some (.inl 0, τ)) none) fun c τ => zpm (f_X8_writeReports m (p 1)) m τ fun b τ1 => zpm (f_X8_thrown m) m τ1 fun t τ2 => t = c ∧ (c = 0 → zo (zld 4 o 0 τ2 fun x => if x = b then some ((.inl 1 : zR), τ2) else none) zQ1) ∧ P τ2
def q_L_58 (x m o d : Int) (p : Nat → Int) (P : zS → Prop) (σ : zS) : Prop := zcase (f_X7_outputByte x (p 1) σ) [(2, 1)] (fun v τ => @ite _ (zI v) (zID v) (zsi 4 o 0 v τ fun τ => some (.inl 0, τ)) none) fun c τ => zpm (f_X8_outputByte m (p 1)) m τ fun b τ1 => zpm (f_X8_thrown m) m τ1 fun t τ2 => t = c ∧ (c = 0 → zo (zld 4 o 0 τ2 fun x => if x = b then some ((.inl 1 : zR), τ2) else none) zQ1) ∧ P τ2
