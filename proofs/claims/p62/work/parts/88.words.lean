theorem wd_0 : zL (Cond.selects "PathTrust$Desk" ⟨"PathTrust$Desk","reset","()V"⟩ ⟨"PathTrust$Desk","reset","()V"⟩) := ⟨List.mem_of_getElem? (i := 0) (by decide +kernel), by decide +kernel⟩
theorem wd_1 : zL (Cond.selects "PathTrust$Desk" ⟨"PathTrust$Desk","putRule","(II)V"⟩ ⟨"PathTrust$Desk","putRule","(II)V"⟩) := ⟨List.mem_of_getElem? (i := 1) (by decide +kernel), by decide +kernel⟩
theorem wd_2 : zL (Cond.selects "PathTrust$Desk" ⟨"PathTrust$Desk","listOf","(I)LPathTrust$Reports;"⟩ ⟨"PathTrust$Desk","listOf","(I)LPathTrust$Reports;"⟩) := ⟨List.mem_of_getElem? (i := 2) (by decide +kernel), by decide +kernel⟩
theorem wd_4 : zL (Cond.selects "PathTrust$Buffer" ⟨"PathTrust$Buffer","addFour","(I)V"⟩ ⟨"PathTrust$Buffer","addFour","(I)V"⟩) := ⟨List.mem_of_getElem? (i := 4) (by decide +kernel), by decide +kernel⟩
theorem wd_5 : zL (Cond.selects "PathTrust$Buffer" ⟨"PathTrust$Buffer","add","(I)V"⟩ ⟨"PathTrust$Buffer","add","(I)V"⟩) := ⟨List.mem_of_getElem? (i := 5) (by decide +kernel), by decide +kernel⟩
theorem wd_6 : zL (Cond.selects "PathTrust$Parser" ⟨"PathTrust$Parser","parse","()Z"⟩ ⟨"PathTrust$Parser","parse","()Z"⟩) := ⟨List.mem_of_getElem? (i := 6) (by decide +kernel), by decide +kernel⟩
theorem wd_7 : zL (Cond.selects "PathTrust$Parser" ⟨"PathTrust$Parser","next","()V"⟩ ⟨"PathTrust$Parser","next","()V"⟩) := ⟨List.mem_of_getElem? (i := 7) (by decide +kernel), by decide +kernel⟩
theorem wd_8 : zL (Cond.selects "PathTrust$Buffer" ⟨"PathTrust$Buffer","at","(I)I"⟩ ⟨"PathTrust$Buffer","at","(I)I"⟩) := ⟨List.mem_of_getElem? (i := 8) (by decide +kernel), by decide +kernel⟩
theorem wd_9 : zL (Cond.selects "PathTrust$Parser" ⟨"PathTrust$Parser","readRules","()Z"⟩ ⟨"PathTrust$Parser","readRules","()Z"⟩) := ⟨List.mem_of_getElem? (i := 9) (by decide +kernel), by decide +kernel⟩
theorem wd_10 : zL (Cond.selects "PathTrust$Parser" ⟨"PathTrust$Parser","readWord","(Ljava/lang/String;)Z"⟩ ⟨"PathTrust$Parser","readWord","(Ljava/lang/String;)Z"⟩) := ⟨List.mem_of_getElem? (i := 10) (by decide +kernel), by decide +kernel⟩
theorem wd_11 : zL (Cond.selects "PathTrust$Parser" ⟨"PathTrust$Parser","isWord","(Ljava/lang/String;)Z"⟩ ⟨"PathTrust$Parser","isWord","(Ljava/lang/String;)Z"⟩) := ⟨List.mem_of_getElem? (i := 11) (by decide +kernel), by decide +kernel⟩
theorem wd_12 : zL (Cond.selects "PathTrust$Parser" ⟨"PathTrust$Parser","fail","(I)Z"⟩ ⟨"PathTrust$Parser","fail","(I)Z"⟩) := ⟨List.mem_of_getElem? (i := 12) (by decide +kernel), by decide +kernel⟩
theorem wd_13 : zL (Cond.selects "PathTrust$Parser" ⟨"PathTrust$Parser","readRule","(Ljava/lang/String;I)Z"⟩ ⟨"PathTrust$Parser","readRule","(Ljava/lang/String;I)Z"⟩) := ⟨List.mem_of_getElem? (i := 13) (by decide +kernel), by decide +kernel⟩
theorem wd_14 : zL (Cond.selects "PathTrust$Parser" ⟨"PathTrust$Parser","readNumber","(II)Z"⟩ ⟨"PathTrust$Parser","readNumber","(II)Z"⟩) := ⟨List.mem_of_getElem? (i := 14) (by decide +kernel), by decide +kernel⟩
theorem wd_15 : zL (Cond.selects "PathTrust$Parser" ⟨"PathTrust$Parser","readSemicolon","()Z"⟩ ⟨"PathTrust$Parser","readSemicolon","()Z"⟩) := ⟨List.mem_of_getElem? (i := 15) (by decide +kernel), by decide +kernel⟩
theorem wd_16 : zL (Cond.selects "PathTrust$Parser" ⟨"PathTrust$Parser","readNewName","(LPathTrust$Names;)Z"⟩ ⟨"PathTrust$Parser","readNewName","(LPathTrust$Names;)Z"⟩) := ⟨List.mem_of_getElem? (i := 16) (by decide +kernel), by decide +kernel⟩
theorem wd_17 : zL (Cond.selects "PathTrust$Parser" ⟨"PathTrust$Parser","isName","()Z"⟩ ⟨"PathTrust$Parser","isName","()Z"⟩) := ⟨List.mem_of_getElem? (i := 17) (by decide +kernel), by decide +kernel⟩
theorem wd_18 : zL (Cond.selects "PathTrust$Buffer" ⟨"PathTrust$Buffer","nameCode","(II)I"⟩ ⟨"PathTrust$Buffer","nameCode","(II)I"⟩) := ⟨List.mem_of_getElem? (i := 18) (by decide +kernel), by decide +kernel⟩
theorem wd_19 : zL (Cond.selects "PathTrust$Names" ⟨"PathTrust$Names","find","(I)I"⟩ ⟨"PathTrust$Names","find","(I)I"⟩) := ⟨List.mem_of_getElem? (i := 19) (by decide +kernel), by decide +kernel⟩
theorem wd_20 : zL (Cond.selects "PathTrust$Names" ⟨"PathTrust$Names","add","(I)V"⟩ ⟨"PathTrust$Names","add","(I)V"⟩) := ⟨List.mem_of_getElem? (i := 20) (by decide +kernel), by decide +kernel⟩
theorem wd_21 : zL (Cond.selects "PathTrust$Parser" ⟨"PathTrust$Parser","readLink","()Z"⟩ ⟨"PathTrust$Parser","readLink","()Z"⟩) := ⟨List.mem_of_getElem? (i := 21) (by decide +kernel), by decide +kernel⟩
theorem wd_22 : zL (Cond.selects "PathTrust$Parser" ⟨"PathTrust$Parser","isNameOf","(LPathTrust$Names;)Z"⟩ ⟨"PathTrust$Parser","isNameOf","(LPathTrust$Names;)Z"⟩) := ⟨List.mem_of_getElem? (i := 22) (by decide +kernel), by decide +kernel⟩
theorem wd_23 : zL (Cond.selects "PathTrust$Desk" ⟨"PathTrust$Desk","isLinked","(II)Z"⟩ ⟨"PathTrust$Desk","isLinked","(II)Z"⟩) := ⟨List.mem_of_getElem? (i := 23) (by decide +kernel), by decide +kernel⟩
theorem wd_24 : zL (Cond.selects "PathTrust$Desk" ⟨"PathTrust$Desk","trustIn","(II)I"⟩ ⟨"PathTrust$Desk","trustIn","(II)I"⟩) := ⟨List.mem_of_getElem? (i := 24) (by decide +kernel), by decide +kernel⟩
theorem wd_25 : zL (Cond.selects "PathTrust$Desk" ⟨"PathTrust$Desk","putTrust","(III)V"⟩ ⟨"PathTrust$Desk","putTrust","(III)V"⟩) := ⟨List.mem_of_getElem? (i := 25) (by decide +kernel), by decide +kernel⟩
theorem wd_26 : zL (Cond.selects "PathTrust$Parser" ⟨"PathTrust$Parser","readProbe","()Z"⟩ ⟨"PathTrust$Parser","readProbe","()Z"⟩) := ⟨List.mem_of_getElem? (i := 26) (by decide +kernel), by decide +kernel⟩
theorem wd_27 : zL (Cond.selects "PathTrust$Desk" ⟨"PathTrust$Desk","makeProbe","(IIII)I"⟩ ⟨"PathTrust$Desk","makeProbe","(IIII)I"⟩) := ⟨List.mem_of_getElem? (i := 27) (by decide +kernel), by decide +kernel⟩
theorem wd_28 : zL (Cond.selects "PathTrust$Reports" ⟨"PathTrust$Reports","rowOf","(II)I"⟩ ⟨"PathTrust$Reports","rowOf","(II)I"⟩) := ⟨List.mem_of_getElem? (i := 28) (by decide +kernel), by decide +kernel⟩
theorem wd_29 : zL (Cond.selects "PathTrust$Reports" ⟨"PathTrust$Reports","get","(II)I"⟩ ⟨"PathTrust$Reports","get","(II)I"⟩) := ⟨List.mem_of_getElem? (i := 29) (by decide +kernel), by decide +kernel⟩
theorem wd_30 : zL (Cond.selects "PathTrust$Reports" ⟨"PathTrust$Reports","removeRow","(I)V"⟩ ⟨"PathTrust$Reports","removeRow","(I)V"⟩) := ⟨List.mem_of_getElem? (i := 30) (by decide +kernel), by decide +kernel⟩
theorem wd_31 : zL (Cond.selects "PathTrust$Reports" ⟨"PathTrust$Reports","closeGap","(II)V"⟩ ⟨"PathTrust$Reports","closeGap","(II)V"⟩) := ⟨List.mem_of_getElem? (i := 31) (by decide +kernel), by decide +kernel⟩
theorem wd_32 : zL (Cond.selects "PathTrust$Reports" ⟨"PathTrust$Reports","addRow","()I"⟩ ⟨"PathTrust$Reports","addRow","()I"⟩) := ⟨List.mem_of_getElem? (i := 32) (by decide +kernel), by decide +kernel⟩
theorem wd_33 : zL (Cond.selects "PathTrust$Reports" ⟨"PathTrust$Reports","isFull","()Z"⟩ ⟨"PathTrust$Reports","isFull","()Z"⟩) := ⟨List.mem_of_getElem? (i := 33) (by decide +kernel), by decide +kernel⟩
theorem wd_34 : zL (Cond.selects "PathTrust$Reports" ⟨"PathTrust$Reports","put","(III)V"⟩ ⟨"PathTrust$Reports","put","(III)V"⟩) := ⟨List.mem_of_getElem? (i := 34) (by decide +kernel), by decide +kernel⟩
theorem wd_35 : zL (Cond.selects "PathTrust$Desk" ⟨"PathTrust$Desk","tally","(II)V"⟩ ⟨"PathTrust$Desk","tally","(II)V"⟩) := ⟨List.mem_of_getElem? (i := 35) (by decide +kernel), by decide +kernel⟩
theorem wd_36 : zL (Cond.selects "PathTrust$Desk" ⟨"PathTrust$Desk","judge","(III)Z"⟩ ⟨"PathTrust$Desk","judge","(III)Z"⟩) := ⟨List.mem_of_getElem? (i := 36) (by decide +kernel), by decide +kernel⟩
theorem wd_37 : zL (Cond.selects "PathTrust$Desk" ⟨"PathTrust$Desk","driftOf","(LPathTrust$Reports;I)I"⟩ ⟨"PathTrust$Desk","driftOf","(LPathTrust$Reports;I)I"⟩) := ⟨List.mem_of_getElem? (i := 37) (by decide +kernel), by decide +kernel⟩
theorem wd_38 : zL (Cond.selects "PathTrust$Desk" ⟨"PathTrust$Desk","rule","(I)I"⟩ ⟨"PathTrust$Desk","rule","(I)I"⟩) := ⟨List.mem_of_getElem? (i := 38) (by decide +kernel), by decide +kernel⟩
theorem wd_39 : zL (Cond.selects "PathTrust$Reports" ⟨"PathTrust$Reports","lowMoved","(II)I"⟩ ⟨"PathTrust$Reports","lowMoved","(II)I"⟩) := ⟨List.mem_of_getElem? (i := 39) (by decide +kernel), by decide +kernel⟩
theorem wd_40 : zL (Cond.selects "PathTrust$Reports" ⟨"PathTrust$Reports","highMoved","(II)I"⟩ ⟨"PathTrust$Reports","highMoved","(II)I"⟩) := ⟨List.mem_of_getElem? (i := 40) (by decide +kernel), by decide +kernel⟩
theorem wd_41 : zL (Cond.selects "PathTrust$History" ⟨"PathTrust$History","push","(LPathTrust$Desk;)V"⟩ ⟨"PathTrust$History","push","(LPathTrust$Desk;)V"⟩) := ⟨List.mem_of_getElem? (i := 41) (by decide +kernel), by decide +kernel⟩
theorem wd_42 : zL (Cond.selects "PathTrust$History" ⟨"PathTrust$History","dropOldest","()V"⟩ ⟨"PathTrust$History","dropOldest","()V"⟩) := ⟨List.mem_of_getElem? (i := 42) (by decide +kernel), by decide +kernel⟩
theorem wd_43 : zL (Cond.selects "PathTrust$Desk" ⟨"PathTrust$Desk","become","(LPathTrust$Desk;)V"⟩ ⟨"PathTrust$Desk","become","(LPathTrust$Desk;)V"⟩) := ⟨List.mem_of_getElem? (i := 43) (by decide +kernel), by decide +kernel⟩
theorem wd_44 : zL (Cond.selects "PathTrust$Names" ⟨"PathTrust$Names","copyFrom","(LPathTrust$Names;)V"⟩ ⟨"PathTrust$Names","copyFrom","(LPathTrust$Names;)V"⟩) := ⟨List.mem_of_getElem? (i := 44) (by decide +kernel), by decide +kernel⟩
theorem wd_45 : zL (Cond.selects "PathTrust$Reports" ⟨"PathTrust$Reports","copyFrom","(LPathTrust$Reports;)V"⟩ ⟨"PathTrust$Reports","copyFrom","(LPathTrust$Reports;)V"⟩) := ⟨List.mem_of_getElem? (i := 45) (by decide +kernel), by decide +kernel⟩
theorem wd_46 : zL (Cond.selects "PathTrust$Desk" ⟨"PathTrust$Desk","linkCount","()I"⟩ ⟨"PathTrust$Desk","linkCount","()I"⟩) := ⟨List.mem_of_getElem? (i := 46) (by decide +kernel), by decide +kernel⟩
theorem wd_47 : zL (Cond.selects "PathTrust" ⟨"PathTrust","checkAgent","(I)V"⟩ ⟨"PathTrust","checkAgent","(I)V"⟩) := ⟨List.mem_of_getElem? (i := 47) (by decide +kernel), by decide +kernel⟩
theorem wd_48 : zL (Cond.selects "PathTrust" ⟨"PathTrust","checkWay","(I)V"⟩ ⟨"PathTrust","checkWay","(I)V"⟩) := ⟨List.mem_of_getElem? (i := 48) (by decide +kernel), by decide +kernel⟩
theorem wd_49 : zL (Cond.selects "PathTrust$Desk" ⟨"PathTrust$Desk","sendReports","(II)I"⟩ ⟨"PathTrust$Desk","sendReports","(II)I"⟩) := ⟨List.mem_of_getElem? (i := 49) (by decide +kernel), by decide +kernel⟩
theorem wd_50 : zL (Cond.selects "PathTrust$Desk" ⟨"PathTrust$Desk","sendReport","(ILPathTrust$Reports;I)V"⟩ ⟨"PathTrust$Desk","sendReport","(ILPathTrust$Reports;I)V"⟩) := ⟨List.mem_of_getElem? (i := 50) (by decide +kernel), by decide +kernel⟩
theorem wd_51 : zL (Cond.selects "PathTrust$Reports" ⟨"PathTrust$Reports","addCopy","(LPathTrust$Reports;I)I"⟩ ⟨"PathTrust$Reports","addCopy","(LPathTrust$Reports;I)I"⟩) := ⟨List.mem_of_getElem? (i := 51) (by decide +kernel), by decide +kernel⟩
theorem wd_52 : zL (Cond.selects "PathTrust$Desk" ⟨"PathTrust$Desk","deliverFirst","(I)I"⟩ ⟨"PathTrust$Desk","deliverFirst","(I)I"⟩) := ⟨List.mem_of_getElem? (i := 52) (by decide +kernel), by decide +kernel⟩
theorem wd_53 : zL (Cond.selects "PathTrust$Desk" ⟨"PathTrust$Desk","receive","(I)Z"⟩ ⟨"PathTrust$Desk","receive","(I)Z"⟩) := ⟨List.mem_of_getElem? (i := 53) (by decide +kernel), by decide +kernel⟩
theorem wd_54 : zL (Cond.selects "PathTrust$Desk" ⟨"PathTrust$Desk","reasonToRefuse","(I)I"⟩ ⟨"PathTrust$Desk","reasonToRefuse","(I)I"⟩) := ⟨List.mem_of_getElem? (i := 54) (by decide +kernel), by decide +kernel⟩
theorem wd_55 : zL (Cond.selects "PathTrust$Desk" ⟨"PathTrust$Desk","isTooOld","(LPathTrust$Reports;I)Z"⟩ ⟨"PathTrust$Desk","isTooOld","(LPathTrust$Reports;I)Z"⟩) := ⟨List.mem_of_getElem? (i := 55) (by decide +kernel), by decide +kernel⟩
theorem wd_56 : zL (Cond.selects "PathTrust$Reports" ⟨"PathTrust$Reports","removeFirst","(I)V"⟩ ⟨"PathTrust$Reports","removeFirst","(I)V"⟩) := ⟨List.mem_of_getElem? (i := 56) (by decide +kernel), by decide +kernel⟩
theorem wd_57 : zL (Cond.selects "PathTrust$Desk" ⟨"PathTrust$Desk","letPass","(I)I"⟩ ⟨"PathTrust$Desk","letPass","(I)I"⟩) := ⟨List.mem_of_getElem? (i := 57) (by decide +kernel), by decide +kernel⟩
theorem wd_58 : zL (Cond.selects "PathTrust$Desk" ⟨"PathTrust$Desk","makeRounds","(I)I"⟩ ⟨"PathTrust$Desk","makeRounds","(I)I"⟩) := ⟨List.mem_of_getElem? (i := 58) (by decide +kernel), by decide +kernel⟩
theorem wd_59 : zL (Cond.selects "PathTrust" ⟨"PathTrust","originsOf","(III)I"⟩ ⟨"PathTrust","originsOf","(III)I"⟩) := ⟨List.mem_of_getElem? (i := 59) (by decide +kernel), by decide +kernel⟩
theorem wd_60 : zL (Cond.selects "PathTrust$View" ⟨"PathTrust$View","form","(LPathTrust$Desk;III)V"⟩ ⟨"PathTrust$View","form","(LPathTrust$Desk;III)V"⟩) := ⟨List.mem_of_getElem? (i := 60) (by decide +kernel), by decide +kernel⟩
theorem wd_61 : zL (Cond.selects "PathTrust$View" ⟨"PathTrust$View","note","(LPathTrust$Desk;III)V"⟩ ⟨"PathTrust$View","note","(LPathTrust$Desk;III)V"⟩) := ⟨List.mem_of_getElem? (i := 61) (by decide +kernel), by decide +kernel⟩
theorem wd_62 : zL (Cond.selects "PathTrust$Desk" ⟨"PathTrust$Desk","beliefSpread","(II)I"⟩ ⟨"PathTrust$Desk","beliefSpread","(II)I"⟩) := ⟨List.mem_of_getElem? (i := 62) (by decide +kernel), by decide +kernel⟩
theorem wd_63 : zL (Cond.selects "PathTrust$View" ⟨"PathTrust$View","nextToTake","()I"⟩ ⟨"PathTrust$View","nextToTake","()I"⟩) := ⟨List.mem_of_getElem? (i := 63) (by decide +kernel), by decide +kernel⟩
theorem wd_64 : zL (Cond.selects "PathTrust$View" ⟨"PathTrust$View","take","(I)V"⟩ ⟨"PathTrust$View","take","(I)V"⟩) := ⟨List.mem_of_getElem? (i := 64) (by decide +kernel), by decide +kernel⟩
theorem wd_65 : zL (Cond.selects "PathTrust$View" ⟨"PathTrust$View","originsWith","(I)I"⟩ ⟨"PathTrust$View","originsWith","(I)I"⟩) := ⟨List.mem_of_getElem? (i := 65) (by decide +kernel), by decide +kernel⟩
theorem wd_66 : zL (Cond.selects "PathTrust$Reports" ⟨"PathTrust$Reports","removeAll","(II)I"⟩ ⟨"PathTrust$Reports","removeAll","(II)I"⟩) := ⟨List.mem_of_getElem? (i := 66) (by decide +kernel), by decide +kernel⟩
theorem wd_67 : zL (Cond.selects "PathTrust" ⟨"PathTrust","checkReport","(II)V"⟩ ⟨"PathTrust","checkReport","(II)V"⟩) := ⟨List.mem_of_getElem? (i := 67) (by decide +kernel), by decide +kernel⟩
theorem wd_68 : zL (Cond.selects "PathTrust" ⟨"PathTrust","statusIn","(II)I"⟩ ⟨"PathTrust","statusIn","(II)I"⟩) := ⟨List.mem_of_getElem? (i := 68) (by decide +kernel), by decide +kernel⟩
theorem wd_69 : zL (Cond.selects "PathTrust$View" ⟨"PathTrust$View","statusOf","(I)I"⟩ ⟨"PathTrust$View","statusOf","(I)I"⟩) := ⟨List.mem_of_getElem? (i := 69) (by decide +kernel), by decide +kernel⟩
theorem wd_70 : zL (Cond.selects "PathTrust" ⟨"PathTrust","believed","(LPathTrust$Desk;III)I"⟩ ⟨"PathTrust","believed","(LPathTrust$Desk;III)I"⟩) := ⟨List.mem_of_getElem? (i := 70) (by decide +kernel), by decide +kernel⟩
theorem wd_71 : zL (Cond.selects "PathTrust$View" ⟨"PathTrust$View","largestSet","()I"⟩ ⟨"PathTrust$View","largestSet","()I"⟩) := ⟨List.mem_of_getElem? (i := 71) (by decide +kernel), by decide +kernel⟩
theorem wd_72 : zL (Cond.selects "PathTrust$View" ⟨"PathTrust$View","originsAround","(I)I"⟩ ⟨"PathTrust$View","originsAround","(I)I"⟩) := ⟨List.mem_of_getElem? (i := 72) (by decide +kernel), by decide +kernel⟩
theorem wd_73 : zL (Cond.selects "PathTrust$View" ⟨"PathTrust$View","lowOf","(I)I"⟩ ⟨"PathTrust$View","lowOf","(I)I"⟩) := ⟨List.mem_of_getElem? (i := 73) (by decide +kernel), by decide +kernel⟩
theorem wd_74 : zL (Cond.selects "PathTrust$View" ⟨"PathTrust$View","highOf","(I)I"⟩ ⟨"PathTrust$View","highOf","(I)I"⟩) := ⟨List.mem_of_getElem? (i := 74) (by decide +kernel), by decide +kernel⟩
theorem wd_75 : zL (Cond.selects "PathTrust" ⟨"PathTrust","bestWay","(LPathTrust$Desk;II)I"⟩ ⟨"PathTrust","bestWay","(LPathTrust$Desk;II)I"⟩) := ⟨List.mem_of_getElem? (i := 75) (by decide +kernel), by decide +kernel⟩
theorem wd_76 : zL (Cond.selects "PathTrust" ⟨"PathTrust","widthOf","(LPathTrust$Desk;III)I"⟩ ⟨"PathTrust","widthOf","(LPathTrust$Desk;III)I"⟩) := ⟨List.mem_of_getElem? (i := 76) (by decide +kernel), by decide +kernel⟩
theorem wd_77 : zL (Cond.selects "PathTrust" ⟨"PathTrust","rivalsOf","(II)I"⟩ ⟨"PathTrust","rivalsOf","(II)I"⟩) := ⟨List.mem_of_getElem? (i := 77) (by decide +kernel), by decide +kernel⟩
theorem wd_78 : zL (Cond.initialized "PathTrustLaw") := ⟨List.mem_of_getElem? (i := 78) (by decide +kernel), by decide +kernel⟩
theorem wd_79 : zL (Cond.initialized "PathTrust") := ⟨List.mem_of_getElem? (i := 79) (by decide +kernel), by decide +kernel⟩
theorem wd_80 : zL (Cond.initialized "PathTrust$Buffer") := ⟨List.mem_of_getElem? (i := 80) (by decide +kernel), by decide +kernel⟩
theorem wd_81 : zL (Cond.initialized "PathTrust$View") := ⟨List.mem_of_getElem? (i := 81) (by decide +kernel), by decide +kernel⟩
theorem wd_82 : zL (Cond.initialized "PathTrust$Desk") := ⟨List.mem_of_getElem? (i := 82) (by decide +kernel), by decide +kernel⟩
theorem wd_83 : zL (Cond.initialized "PathTrust$Names") := ⟨List.mem_of_getElem? (i := 83) (by decide +kernel), by decide +kernel⟩
theorem wd_84 : zL (Cond.initialized "PathTrust$Reports") := ⟨List.mem_of_getElem? (i := 84) (by decide +kernel), by decide +kernel⟩
theorem wd_85 : zL (Cond.initialized "java/util/Arrays") := ⟨List.mem_of_getElem? (i := 85) (by decide +kernel), by decide +kernel⟩
theorem wd_86 : zL (Cond.initialized "PathTrust$Parser") := ⟨List.mem_of_getElem? (i := 86) (by decide +kernel), by decide +kernel⟩
theorem wd_87 : zL (Cond.initialized "PathTrust$History") := ⟨List.mem_of_getElem? (i := 87) (by decide +kernel), by decide +kernel⟩
theorem wd_88 : zL (Cond.initialized "java/lang/AbstractStringBuilder") := ⟨List.mem_of_getElem? (i := 88) (by decide +kernel), by decide +kernel⟩
theorem wd_89 : zL (Cond.initialized "java/lang/StringBuilder") := ⟨List.mem_of_getElem? (i := 89) (by decide +kernel), by decide +kernel⟩
theorem wd_90 : zL (Cond.initialized "java/lang/String") := ⟨List.mem_of_getElem? (i := 90) (by decide +kernel), by decide +kernel⟩
theorem wd_92 : zL (Cond.initialized "jdk/internal/util/ArraysSupport") := ⟨List.mem_of_getElem? (i := 92) (by decide +kernel), by decide +kernel⟩
theorem wd_93 : zL (Cond.initialized "java/lang/Math") := ⟨List.mem_of_getElem? (i := 93) (by decide +kernel), by decide +kernel⟩
theorem wd_94 : zL (Cond.initialized "java/lang/System") := ⟨List.mem_of_getElem? (i := 94) (by decide +kernel), by decide +kernel⟩
theorem wd_96 : zL (Cond.initialized "java/lang/StringLatin1") := ⟨List.mem_of_getElem? (i := 96) (by decide +kernel), by decide +kernel⟩
theorem wd_98 : zL (Cond.initialized "java/lang/Integer") := ⟨List.mem_of_getElem? (i := 98) (by decide +kernel), by decide +kernel⟩
theorem wd_105 : zL (Cond.classLink "PathTrustLaw" 25 "PathTrust") := ⟨List.mem_of_getElem? (i := 105) (by decide +kernel), by decide +kernel⟩
theorem wd_106 : zL (Cond.instantiable "PathTrust" 8) := ⟨List.mem_of_getElem? (i := 106) (by decide +kernel), by decide +kernel⟩
theorem wd_107 : zL (Cond.methodLink "PathTrustLaw" 256 ⟨"PathTrust","<init>","()V"⟩) := ⟨List.mem_of_getElem? (i := 107) (by decide +kernel), by decide +kernel⟩
theorem wd_108 : zL (Cond.instanceMethod ⟨"PathTrust","<init>","()V"⟩) := ⟨List.mem_of_getElem? (i := 108) (by decide +kernel), by decide +kernel⟩
theorem wd_109 : zL (Cond.code ⟨"PathTrust","<init>","()V"⟩ prog_1_method_1_code 1 (Option.none : Option FieldType)) := ⟨List.mem_of_getElem? (i := 109) (by decide +kernel), by decide +kernel⟩
theorem wd_110 : zL (Cond.methodLink "PathTrust" 1 ⟨"java/lang/Object","<init>","()V"⟩) := ⟨List.mem_of_getElem? (i := 110) (by decide +kernel), by decide +kernel⟩
theorem wd_111 : zL (Cond.instanceMethod ⟨"java/lang/Object","<init>","()V"⟩) := ⟨List.mem_of_getElem? (i := 111) (by decide +kernel), by decide +kernel⟩
theorem wd_112 : zL (Cond.code ⟨"java/lang/Object","<init>","()V"⟩ object_method_1_code 1 (Option.none : Option FieldType)) := ⟨List.mem_of_getElem? (i := 112) (by decide +kernel), by decide +kernel⟩
theorem wd_113 : zL (Cond.classLink "PathTrust" 7 "PathTrust$Buffer") := ⟨List.mem_of_getElem? (i := 113) (by decide +kernel), by decide +kernel⟩
theorem wd_114 : zL (Cond.instantiable "PathTrust$Buffer" 2) := ⟨List.mem_of_getElem? (i := 114) (by decide +kernel), by decide +kernel⟩
theorem wd_115 : zL (Cond.methodLinkNest "PathTrust" 11 ⟨"PathTrust$Buffer","<init>","(I)V"⟩ "PathTrust") := ⟨List.mem_of_getElem? (i := 115) (by decide +kernel), by decide +kernel⟩
theorem wd_116 : zL (Cond.instanceMethod ⟨"PathTrust$Buffer","<init>","(I)V"⟩) := ⟨List.mem_of_getElem? (i := 116) (by decide +kernel), by decide +kernel⟩
theorem wd_117 : zL (Cond.code ⟨"PathTrust$Buffer","<init>","(I)V"⟩ prog_2_method_1_code 2 (Option.none : Option FieldType)) := ⟨List.mem_of_getElem? (i := 117) (by decide +kernel), by decide +kernel⟩
theorem wd_118 : zL (Cond.methodLink "PathTrust$Buffer" 3 ⟨"java/lang/Object","<init>","()V"⟩) := ⟨List.mem_of_getElem? (i := 118) (by decide +kernel), by decide +kernel⟩
theorem wd_119 : zL (Cond.fieldLink "PathTrust$Buffer" 9 "PathTrust$Buffer" "bytes" "[B") := ⟨List.mem_of_getElem? (i := 119) (by decide +kernel), by decide +kernel⟩
theorem wd_120 : zL (Cond.fieldLinkNest "PathTrust" 58 "PathTrust$Buffer" "length" "I" "PathTrust") := ⟨List.mem_of_getElem? (i := 120) (by decide +kernel), by decide +kernel⟩
theorem wd_121 : zL (Cond.fieldLink "PathTrust$Buffer" 15 "PathTrust$Buffer" "length" "I") := ⟨List.mem_of_getElem? (i := 121) (by decide +kernel), by decide +kernel⟩
theorem wd_122 : zL (Cond.fieldLinkNest "PathTrust$Parser" 176 "PathTrust$Buffer" "length" "I" "PathTrust") := ⟨List.mem_of_getElem? (i := 122) (by decide +kernel), by decide +kernel⟩
theorem wd_123 : zL (Cond.laysFinal "PathTrust$Buffer" "PathTrust$Buffer" "bytes" "[B") := ⟨List.mem_of_getElem? (i := 123) (by decide +kernel), by decide +kernel⟩
theorem wd_125 : zL (Cond.lays "PathTrust$Buffer" "PathTrust$Buffer" "length" "I") := ⟨List.mem_of_getElem? (i := 125) (by decide +kernel), by decide +kernel⟩
theorem wd_128 : zL (Cond.arrayClass FieldType.byte) := ⟨List.mem_of_getElem? (i := 128) (by decide +kernel), by decide +kernel⟩
theorem wd_129 : zL (Cond.classLink "PathTrust" 21 "PathTrust$View") := ⟨List.mem_of_getElem? (i := 129) (by decide +kernel), by decide +kernel⟩
theorem wd_130 : zL (Cond.instantiable "PathTrust$View" 9) := ⟨List.mem_of_getElem? (i := 130) (by decide +kernel), by decide +kernel⟩
theorem wd_131 : zL (Cond.methodLinkNest "PathTrust" 23 ⟨"PathTrust$View","<init>","()V"⟩ "PathTrust") := ⟨List.mem_of_getElem? (i := 131) (by decide +kernel), by decide +kernel⟩
theorem wd_132 : zL (Cond.instanceMethod ⟨"PathTrust$View","<init>","()V"⟩) := ⟨List.mem_of_getElem? (i := 132) (by decide +kernel), by decide +kernel⟩
theorem wd_133 : zL (Cond.code ⟨"PathTrust$View","<init>","()V"⟩ prog_8_method_1_code 1 (Option.none : Option FieldType)) := ⟨List.mem_of_getElem? (i := 133) (by decide +kernel), by decide +kernel⟩
theorem wd_134 : zL (Cond.methodLink "PathTrust$View" 3 ⟨"java/lang/Object","<init>","()V"⟩) := ⟨List.mem_of_getElem? (i := 134) (by decide +kernel), by decide +kernel⟩
theorem wd_135 : zL (Cond.fieldLink "PathTrust$View" 9 "PathTrust$View" "rows" "[I") := ⟨List.mem_of_getElem? (i := 135) (by decide +kernel), by decide +kernel⟩
theorem wd_136 : zL (Cond.fieldLink "PathTrust$View" 15 "PathTrust$View" "origins" "[I") := ⟨List.mem_of_getElem? (i := 136) (by decide +kernel), by decide +kernel⟩
theorem wd_137 : zL (Cond.fieldLink "PathTrust$View" 18 "PathTrust$View" "ranks" "[I") := ⟨List.mem_of_getElem? (i := 137) (by decide +kernel), by decide +kernel⟩
theorem wd_138 : zL (Cond.fieldLink "PathTrust$View" 21 "PathTrust$View" "lows" "[I") := ⟨List.mem_of_getElem? (i := 138) (by decide +kernel), by decide +kernel⟩
theorem wd_139 : zL (Cond.fieldLink "PathTrust$View" 24 "PathTrust$View" "highs" "[I") := ⟨List.mem_of_getElem? (i := 139) (by decide +kernel), by decide +kernel⟩
theorem wd_140 : zL (Cond.fieldLink "PathTrust$View" 27 "PathTrust$View" "statuses" "[I") := ⟨List.mem_of_getElem? (i := 140) (by decide +kernel), by decide +kernel⟩
theorem wd_141 : zL (Cond.fieldLink "PathTrust$View" 30 "PathTrust$View" "count" "I") := ⟨List.mem_of_getElem? (i := 141) (by decide +kernel), by decide +kernel⟩
theorem wd_142 : zL (Cond.fieldLink "PathTrust$View" 34 "PathTrust$View" "low" "I") := ⟨List.mem_of_getElem? (i := 142) (by decide +kernel), by decide +kernel⟩
theorem wd_143 : zL (Cond.fieldLinkNest "PathTrust" 294 "PathTrust$View" "low" "I" "PathTrust") := ⟨List.mem_of_getElem? (i := 143) (by decide +kernel), by decide +kernel⟩
theorem wd_144 : zL (Cond.fieldLink "PathTrust$View" 37 "PathTrust$View" "high" "I") := ⟨List.mem_of_getElem? (i := 144) (by decide +kernel), by decide +kernel⟩
theorem wd_145 : zL (Cond.fieldLinkNest "PathTrust" 297 "PathTrust$View" "high" "I" "PathTrust") := ⟨List.mem_of_getElem? (i := 145) (by decide +kernel), by decide +kernel⟩
theorem wd_146 : zL (Cond.laysFinal "PathTrust$View" "PathTrust$View" "rows" "[I") := ⟨List.mem_of_getElem? (i := 146) (by decide +kernel), by decide +kernel⟩
theorem wd_148 : zL (Cond.laysFinal "PathTrust$View" "PathTrust$View" "origins" "[I") := ⟨List.mem_of_getElem? (i := 148) (by decide +kernel), by decide +kernel⟩
theorem wd_150 : zL (Cond.laysFinal "PathTrust$View" "PathTrust$View" "ranks" "[I") := ⟨List.mem_of_getElem? (i := 150) (by decide +kernel), by decide +kernel⟩
theorem wd_152 : zL (Cond.laysFinal "PathTrust$View" "PathTrust$View" "lows" "[I") := ⟨List.mem_of_getElem? (i := 152) (by decide +kernel), by decide +kernel⟩
theorem wd_154 : zL (Cond.laysFinal "PathTrust$View" "PathTrust$View" "highs" "[I") := ⟨List.mem_of_getElem? (i := 154) (by decide +kernel), by decide +kernel⟩
theorem wd_156 : zL (Cond.laysFinal "PathTrust$View" "PathTrust$View" "statuses" "[I") := ⟨List.mem_of_getElem? (i := 156) (by decide +kernel), by decide +kernel⟩
theorem wd_158 : zL (Cond.lays "PathTrust$View" "PathTrust$View" "count" "I") := ⟨List.mem_of_getElem? (i := 158) (by decide +kernel), by decide +kernel⟩
theorem wd_160 : zL (Cond.lays "PathTrust$View" "PathTrust$View" "low" "I") := ⟨List.mem_of_getElem? (i := 160) (by decide +kernel), by decide +kernel⟩
theorem wd_162 : zL (Cond.lays "PathTrust$View" "PathTrust$View" "high" "I") := ⟨List.mem_of_getElem? (i := 162) (by decide +kernel), by decide +kernel⟩
theorem wd_165 : zL (Cond.arrayClass FieldType.int) := ⟨List.mem_of_getElem? (i := 165) (by decide +kernel), by decide +kernel⟩
theorem wd_166 : zL (Cond.classLink "PathTrust" 28 "PathTrust$Desk") := ⟨List.mem_of_getElem? (i := 166) (by decide +kernel), by decide +kernel⟩
theorem wd_167 : zL (Cond.instantiable "PathTrust$Desk" 9) := ⟨List.mem_of_getElem? (i := 167) (by decide +kernel), by decide +kernel⟩
theorem wd_168 : zL (Cond.methodLinkNest "PathTrust" 30 ⟨"PathTrust$Desk","<init>","()V"⟩ "PathTrust") := ⟨List.mem_of_getElem? (i := 168) (by decide +kernel), by decide +kernel⟩
theorem wd_169 : zL (Cond.instanceMethod ⟨"PathTrust$Desk","<init>","()V"⟩) := ⟨List.mem_of_getElem? (i := 169) (by decide +kernel), by decide +kernel⟩
theorem wd_170 : zL (Cond.code ⟨"PathTrust$Desk","<init>","()V"⟩ prog_3_method_1_code 2 (Option.none : Option FieldType)) := ⟨List.mem_of_getElem? (i := 170) (by decide +kernel), by decide +kernel⟩
theorem wd_171 : zL (Cond.methodLink "PathTrust$Desk" 3 ⟨"java/lang/Object","<init>","()V"⟩) := ⟨List.mem_of_getElem? (i := 171) (by decide +kernel), by decide +kernel⟩
theorem wd_172 : zL (Cond.classLink "PathTrust$Desk" 15 "PathTrust$Names") := ⟨List.mem_of_getElem? (i := 172) (by decide +kernel), by decide +kernel⟩
theorem wd_173 : zL (Cond.instantiable "PathTrust$Names" 2) := ⟨List.mem_of_getElem? (i := 173) (by decide +kernel), by decide +kernel⟩
theorem wd_174 : zL (Cond.methodLinkNest "PathTrust$Desk" 17 ⟨"PathTrust$Names","<init>","()V"⟩ "PathTrust") := ⟨List.mem_of_getElem? (i := 174) (by decide +kernel), by decide +kernel⟩
theorem wd_175 : zL (Cond.instanceMethod ⟨"PathTrust$Names","<init>","()V"⟩) := ⟨List.mem_of_getElem? (i := 175) (by decide +kernel), by decide +kernel⟩
theorem wd_176 : zL (Cond.code ⟨"PathTrust$Names","<init>","()V"⟩ prog_5_method_1_code 1 (Option.none : Option FieldType)) := ⟨List.mem_of_getElem? (i := 176) (by decide +kernel), by decide +kernel⟩
theorem wd_177 : zL (Cond.methodLink "PathTrust$Names" 3 ⟨"java/lang/Object","<init>","()V"⟩) := ⟨List.mem_of_getElem? (i := 177) (by decide +kernel), by decide +kernel⟩
theorem wd_178 : zL (Cond.fieldLink "PathTrust$Names" 9 "PathTrust$Names" "codes" "[I") := ⟨List.mem_of_getElem? (i := 178) (by decide +kernel), by decide +kernel⟩
theorem wd_179 : zL (Cond.fieldLink "PathTrust$Names" 15 "PathTrust$Names" "count" "I") := ⟨List.mem_of_getElem? (i := 179) (by decide +kernel), by decide +kernel⟩
theorem wd_180 : zL (Cond.fieldLinkNest "PathTrust$Desk" 57 "PathTrust$Names" "count" "I" "PathTrust") := ⟨List.mem_of_getElem? (i := 180) (by decide +kernel), by decide +kernel⟩
theorem wd_181 : zL (Cond.fieldLinkNest "PathTrust" 91 "PathTrust$Names" "count" "I" "PathTrust") := ⟨List.mem_of_getElem? (i := 181) (by decide +kernel), by decide +kernel⟩
theorem wd_182 : zL (Cond.fieldLinkNest "PathTrust$Parser" 117 "PathTrust$Names" "count" "I" "PathTrust") := ⟨List.mem_of_getElem? (i := 182) (by decide +kernel), by decide +kernel⟩
theorem wd_183 : zL (Cond.laysFinal "PathTrust$Names" "PathTrust$Names" "codes" "[I") := ⟨List.mem_of_getElem? (i := 183) (by decide +kernel), by decide +kernel⟩
theorem wd_185 : zL (Cond.lays "PathTrust$Names" "PathTrust$Names" "count" "I") := ⟨List.mem_of_getElem? (i := 185) (by decide +kernel), by decide +kernel⟩
theorem wd_188 : zL (Cond.classLink "PathTrust$Desk" 28 "PathTrust$Reports") := ⟨List.mem_of_getElem? (i := 188) (by decide +kernel), by decide +kernel⟩
theorem wd_189 : zL (Cond.arrayOver (FieldType.object "PathTrust$Reports")) := ⟨List.mem_of_getElem? (i := 189) (by decide +kernel), by decide +kernel⟩
theorem wd_190 : zL (Cond.instantiable "PathTrust$Reports" 2) := ⟨List.mem_of_getElem? (i := 190) (by decide +kernel), by decide +kernel⟩
theorem wd_191 : zL (Cond.methodLinkNest "PathTrust$Desk" 34 ⟨"PathTrust$Reports","<init>","(I)V"⟩ "PathTrust") := ⟨List.mem_of_getElem? (i := 191) (by decide +kernel), by decide +kernel⟩
theorem wd_192 : zL (Cond.instanceMethod ⟨"PathTrust$Reports","<init>","(I)V"⟩) := ⟨List.mem_of_getElem? (i := 192) (by decide +kernel), by decide +kernel⟩
theorem wd_193 : zL (Cond.code ⟨"PathTrust$Reports","<init>","(I)V"⟩ prog_7_method_1_code 2 (Option.none : Option FieldType)) := ⟨List.mem_of_getElem? (i := 193) (by decide +kernel), by decide +kernel⟩
theorem wd_194 : zL (Cond.methodLink "PathTrust$Reports" 3 ⟨"java/lang/Object","<init>","()V"⟩) := ⟨List.mem_of_getElem? (i := 194) (by decide +kernel), by decide +kernel⟩
theorem wd_195 : zL (Cond.fieldLink "PathTrust$Reports" 9 "PathTrust$Reports" "cells" "[I") := ⟨List.mem_of_getElem? (i := 195) (by decide +kernel), by decide +kernel⟩
theorem wd_196 : zL (Cond.fieldLink "PathTrust$Reports" 15 "PathTrust$Reports" "count" "I") := ⟨List.mem_of_getElem? (i := 196) (by decide +kernel), by decide +kernel⟩
theorem wd_197 : zL (Cond.fieldLinkNest "PathTrust$View" 46 "PathTrust$Reports" "count" "I" "PathTrust") := ⟨List.mem_of_getElem? (i := 197) (by decide +kernel), by decide +kernel⟩
theorem wd_198 : zL (Cond.fieldLinkNest "PathTrust$Desk" 71 "PathTrust$Reports" "count" "I" "PathTrust") := ⟨List.mem_of_getElem? (i := 198) (by decide +kernel), by decide +kernel⟩
theorem wd_199 : zL (Cond.fieldLinkNest "PathTrust" 116 "PathTrust$Reports" "count" "I" "PathTrust") := ⟨List.mem_of_getElem? (i := 199) (by decide +kernel), by decide +kernel⟩
theorem wd_200 : zL (Cond.laysFinal "PathTrust$Reports" "PathTrust$Reports" "cells" "[I") := ⟨List.mem_of_getElem? (i := 200) (by decide +kernel), by decide +kernel⟩
theorem wd_202 : zL (Cond.lays "PathTrust$Reports" "PathTrust$Reports" "count" "I") := ⟨List.mem_of_getElem? (i := 202) (by decide +kernel), by decide +kernel⟩
theorem wd_205 : zL (Cond.methodLink "PathTrust$Desk" 47 ⟨"PathTrust$Desk","reset","()V"⟩) := ⟨List.mem_of_getElem? (i := 205) (by decide +kernel), by decide +kernel⟩
theorem wd_207 : zL (Cond.instanceMethod ⟨"PathTrust$Desk","reset","()V"⟩) := ⟨List.mem_of_getElem? (i := 207) (by decide +kernel), by decide +kernel⟩
theorem wd_208 : zL (Cond.code ⟨"PathTrust$Desk","reset","()V"⟩ prog_3_method_2_code 2 (Option.none : Option FieldType)) := ⟨List.mem_of_getElem? (i := 208) (by decide +kernel), by decide +kernel⟩
theorem wd_209 : zL (Cond.fieldLinkNest "PathTrust$Desk" 50 "PathTrust" "RULE_AT_FIRST" "[I" "PathTrust") := ⟨List.mem_of_getElem? (i := 209) (by decide +kernel), by decide +kernel⟩
theorem wd_211 : zL (Cond.methodLink "PathTrust$Desk" 53 ⟨"PathTrust$Desk","putRule","(II)V"⟩) := ⟨List.mem_of_getElem? (i := 211) (by decide +kernel), by decide +kernel⟩
theorem wd_213 : zL (Cond.instanceMethod ⟨"PathTrust$Desk","putRule","(II)V"⟩) := ⟨List.mem_of_getElem? (i := 213) (by decide +kernel), by decide +kernel⟩
theorem wd_214 : zL (Cond.code ⟨"PathTrust$Desk","putRule","(II)V"⟩ prog_3_method_5_code 3 (Option.none : Option FieldType)) := ⟨List.mem_of_getElem? (i := 214) (by decide +kernel), by decide +kernel⟩
theorem wd_215 : zL (Cond.methodLink "PathTrust$Desk" 61 ⟨"java/util/Arrays","fill","([II)V"⟩) := ⟨List.mem_of_getElem? (i := 215) (by decide +kernel), by decide +kernel⟩
theorem wd_216 : zL (Cond.static ⟨"java/util/Arrays","fill","([II)V"⟩) := ⟨List.mem_of_getElem? (i := 216) (by decide +kernel), by decide +kernel⟩
theorem wd_217 : zL (Cond.code ⟨"java/util/Arrays","fill","([II)V"⟩ prog_27_method_103_code 4 (Option.none : Option FieldType)) := ⟨List.mem_of_getElem? (i := 217) (by decide +kernel), by decide +kernel⟩
theorem wd_218 : zL (Cond.methodLink "PathTrust$Desk" 67 ⟨"PathTrust$Desk","listOf","(I)LPathTrust$Reports;"⟩) := ⟨List.mem_of_getElem? (i := 218) (by decide +kernel), by decide +kernel⟩
theorem wd_220 : zL (Cond.instanceMethod ⟨"PathTrust$Desk","listOf","(I)LPathTrust$Reports;"⟩) := ⟨List.mem_of_getElem? (i := 220) (by decide +kernel), by decide +kernel⟩
theorem wd_221 : zL (Cond.code ⟨"PathTrust$Desk","listOf","(I)LPathTrust$Reports;"⟩ prog_3_method_6_code 3 (Option.some (FieldType.object "PathTrust$Reports"))) := ⟨List.mem_of_getElem? (i := 221) (by decide +kernel), by decide +kernel⟩
theorem wd_222 : zL (Cond.fieldLink "PathTrust$Desk" 9 "PathTrust$Desk" "rules" "[I") := ⟨List.mem_of_getElem? (i := 222) (by decide +kernel), by decide +kernel⟩
theorem wd_223 : zL (Cond.fieldLink "PathTrust$Desk" 18 "PathTrust$Desk" "agents" "LPathTrust$Names;") := ⟨List.mem_of_getElem? (i := 223) (by decide +kernel), by decide +kernel⟩
theorem wd_224 : zL (Cond.fieldLinkNest "PathTrust$Parser" 50 "PathTrust$Desk" "agents" "LPathTrust$Names;" "PathTrust") := ⟨List.mem_of_getElem? (i := 224) (by decide +kernel), by decide +kernel⟩
theorem wd_225 : zL (Cond.fieldLinkNest "PathTrust" 87 "PathTrust$Desk" "agents" "LPathTrust$Names;" "PathTrust") := ⟨List.mem_of_getElem? (i := 225) (by decide +kernel), by decide +kernel⟩
theorem wd_226 : zL (Cond.fieldLink "PathTrust$Desk" 22 "PathTrust$Desk" "ways" "LPathTrust$Names;") := ⟨List.mem_of_getElem? (i := 226) (by decide +kernel), by decide +kernel⟩
theorem wd_227 : zL (Cond.fieldLinkNest "PathTrust$Parser" 60 "PathTrust$Desk" "ways" "LPathTrust$Names;" "PathTrust") := ⟨List.mem_of_getElem? (i := 227) (by decide +kernel), by decide +kernel⟩
theorem wd_228 : zL (Cond.fieldLinkNest "PathTrust" 106 "PathTrust$Desk" "ways" "LPathTrust$Names;" "PathTrust") := ⟨List.mem_of_getElem? (i := 228) (by decide +kernel), by decide +kernel⟩
theorem wd_229 : zL (Cond.fieldLink "PathTrust$Desk" 25 "PathTrust$Desk" "trusts" "[I") := ⟨List.mem_of_getElem? (i := 229) (by decide +kernel), by decide +kernel⟩
theorem wd_230 : zL (Cond.fieldLink "PathTrust$Desk" 30 "PathTrust$Desk" "lists" "[LPathTrust$Reports;") := ⟨List.mem_of_getElem? (i := 230) (by decide +kernel), by decide +kernel⟩
theorem wd_231 : zL (Cond.fieldLink "PathTrust$Desk" 37 "PathTrust$Desk" "emptyList" "LPathTrust$Reports;") := ⟨List.mem_of_getElem? (i := 231) (by decide +kernel), by decide +kernel⟩
theorem wd_232 : zL (Cond.fieldLink "PathTrust$Desk" 41 "PathTrust$Desk" "queue" "LPathTrust$Reports;") := ⟨List.mem_of_getElem? (i := 232) (by decide +kernel), by decide +kernel⟩
theorem wd_233 : zL (Cond.fieldLinkNest "PathTrust" 112 "PathTrust$Desk" "queue" "LPathTrust$Reports;" "PathTrust") := ⟨List.mem_of_getElem? (i := 233) (by decide +kernel), by decide +kernel⟩
theorem wd_234 : zL (Cond.fieldLink "PathTrust$Desk" 44 "PathTrust$Desk" "accounts" "[I") := ⟨List.mem_of_getElem? (i := 234) (by decide +kernel), by decide +kernel⟩
theorem wd_235 : zL (Cond.fieldLink "PathTrust$Desk" 72 "PathTrust$Desk" "time" "I") := ⟨List.mem_of_getElem? (i := 235) (by decide +kernel), by decide +kernel⟩
theorem wd_236 : zL (Cond.fieldLinkNest "PathTrust" 109 "PathTrust$Desk" "time" "I" "PathTrust") := ⟨List.mem_of_getElem? (i := 236) (by decide +kernel), by decide +kernel⟩
theorem wd_237 : zL (Cond.laysFinal "PathTrust$Desk" "PathTrust$Desk" "rules" "[I") := ⟨List.mem_of_getElem? (i := 237) (by decide +kernel), by decide +kernel⟩
theorem wd_239 : zL (Cond.laysFinal "PathTrust$Desk" "PathTrust$Desk" "agents" "LPathTrust$Names;") := ⟨List.mem_of_getElem? (i := 239) (by decide +kernel), by decide +kernel⟩
theorem wd_241 : zL (Cond.laysFinal "PathTrust$Desk" "PathTrust$Desk" "ways" "LPathTrust$Names;") := ⟨List.mem_of_getElem? (i := 241) (by decide +kernel), by decide +kernel⟩
theorem wd_243 : zL (Cond.laysFinal "PathTrust$Desk" "PathTrust$Desk" "trusts" "[I") := ⟨List.mem_of_getElem? (i := 243) (by decide +kernel), by decide +kernel⟩
theorem wd_245 : zL (Cond.laysFinal "PathTrust$Desk" "PathTrust$Desk" "lists" "[LPathTrust$Reports;") := ⟨List.mem_of_getElem? (i := 245) (by decide +kernel), by decide +kernel⟩
theorem wd_247 : zL (Cond.laysFinal "PathTrust$Desk" "PathTrust$Desk" "emptyList" "LPathTrust$Reports;") := ⟨List.mem_of_getElem? (i := 247) (by decide +kernel), by decide +kernel⟩
theorem wd_249 : zL (Cond.laysFinal "PathTrust$Desk" "PathTrust$Desk" "queue" "LPathTrust$Reports;") := ⟨List.mem_of_getElem? (i := 249) (by decide +kernel), by decide +kernel⟩
theorem wd_251 : zL (Cond.laysFinal "PathTrust$Desk" "PathTrust$Desk" "accounts" "[I") := ⟨List.mem_of_getElem? (i := 251) (by decide +kernel), by decide +kernel⟩
theorem wd_253 : zL (Cond.lays "PathTrust$Desk" "PathTrust$Desk" "time" "I") := ⟨List.mem_of_getElem? (i := 253) (by decide +kernel), by decide +kernel⟩
theorem wd_256 : zL (Cond.classLink "PathTrust" 38 "PathTrust$Parser") := ⟨List.mem_of_getElem? (i := 256) (by decide +kernel), by decide +kernel⟩
theorem wd_257 : zL (Cond.instantiable "PathTrust$Parser" 8) := ⟨List.mem_of_getElem? (i := 257) (by decide +kernel), by decide +kernel⟩
theorem wd_258 : zL (Cond.methodLinkNest "PathTrust" 40 ⟨"PathTrust$Parser","<init>","(LPathTrust$Buffer;LPathTrust$Desk;)V"⟩ "PathTrust") := ⟨List.mem_of_getElem? (i := 258) (by decide +kernel), by decide +kernel⟩
theorem wd_259 : zL (Cond.instanceMethod ⟨"PathTrust$Parser","<init>","(LPathTrust$Buffer;LPathTrust$Desk;)V"⟩) := ⟨List.mem_of_getElem? (i := 259) (by decide +kernel), by decide +kernel⟩
theorem wd_260 : zL (Cond.code ⟨"PathTrust$Parser","<init>","(LPathTrust$Buffer;LPathTrust$Desk;)V"⟩ prog_6_method_1_code 3 (Option.none : Option FieldType)) := ⟨List.mem_of_getElem? (i := 260) (by decide +kernel), by decide +kernel⟩
theorem wd_261 : zL (Cond.methodLink "PathTrust$Parser" 3 ⟨"java/lang/Object","<init>","()V"⟩) := ⟨List.mem_of_getElem? (i := 261) (by decide +kernel), by decide +kernel⟩
theorem wd_262 : zL (Cond.fieldLink "PathTrust$Parser" 15 "PathTrust$Parser" "text" "LPathTrust$Buffer;") := ⟨List.mem_of_getElem? (i := 262) (by decide +kernel), by decide +kernel⟩
theorem wd_263 : zL (Cond.fieldLink "PathTrust$Parser" 19 "PathTrust$Parser" "desk" "LPathTrust$Desk;") := ⟨List.mem_of_getElem? (i := 263) (by decide +kernel), by decide +kernel⟩
theorem wd_264 : zL (Cond.fieldLink "PathTrust$Parser" 41 "PathTrust$Parser" "kind" "I") := ⟨List.mem_of_getElem? (i := 264) (by decide +kernel), by decide +kernel⟩
theorem wd_265 : zL (Cond.fieldLink "PathTrust$Parser" 125 "PathTrust$Parser" "start" "I") := ⟨List.mem_of_getElem? (i := 265) (by decide +kernel), by decide +kernel⟩
theorem wd_266 : zL (Cond.fieldLink "PathTrust$Parser" 23 "PathTrust$Parser" "end" "I") := ⟨List.mem_of_getElem? (i := 266) (by decide +kernel), by decide +kernel⟩
theorem wd_267 : zL (Cond.fieldLink "PathTrust$Parser" 110 "PathTrust$Parser" "value" "I") := ⟨List.mem_of_getElem? (i := 267) (by decide +kernel), by decide +kernel⟩
theorem wd_268 : zL (Cond.fieldLink "PathTrust$Parser" 26 "PathTrust$Parser" "code" "I") := ⟨List.mem_of_getElem? (i := 268) (by decide +kernel), by decide +kernel⟩
theorem wd_269 : zL (Cond.fieldLinkNest "PathTrust" 96 "PathTrust$Parser" "code" "I" "PathTrust") := ⟨List.mem_of_getElem? (i := 269) (by decide +kernel), by decide +kernel⟩
theorem wd_270 : zL (Cond.fieldLink "PathTrust$Parser" 9 "PathTrust$Parser" "position" "I") := ⟨List.mem_of_getElem? (i := 270) (by decide +kernel), by decide +kernel⟩
theorem wd_271 : zL (Cond.fieldLinkNest "PathTrust" 99 "PathTrust$Parser" "position" "I" "PathTrust") := ⟨List.mem_of_getElem? (i := 271) (by decide +kernel), by decide +kernel⟩
theorem wd_272 : zL (Cond.laysFinal "PathTrust$Parser" "PathTrust$Parser" "text" "LPathTrust$Buffer;") := ⟨List.mem_of_getElem? (i := 272) (by decide +kernel), by decide +kernel⟩
theorem wd_274 : zL (Cond.laysFinal "PathTrust$Parser" "PathTrust$Parser" "desk" "LPathTrust$Desk;") := ⟨List.mem_of_getElem? (i := 274) (by decide +kernel), by decide +kernel⟩
theorem wd_276 : zL (Cond.lays "PathTrust$Parser" "PathTrust$Parser" "kind" "I") := ⟨List.mem_of_getElem? (i := 276) (by decide +kernel), by decide +kernel⟩
theorem wd_278 : zL (Cond.lays "PathTrust$Parser" "PathTrust$Parser" "start" "I") := ⟨List.mem_of_getElem? (i := 278) (by decide +kernel), by decide +kernel⟩
theorem wd_280 : zL (Cond.lays "PathTrust$Parser" "PathTrust$Parser" "end" "I") := ⟨List.mem_of_getElem? (i := 280) (by decide +kernel), by decide +kernel⟩
theorem wd_282 : zL (Cond.lays "PathTrust$Parser" "PathTrust$Parser" "value" "I") := ⟨List.mem_of_getElem? (i := 282) (by decide +kernel), by decide +kernel⟩
theorem wd_284 : zL (Cond.lays "PathTrust$Parser" "PathTrust$Parser" "code" "I") := ⟨List.mem_of_getElem? (i := 284) (by decide +kernel), by decide +kernel⟩
theorem wd_286 : zL (Cond.lays "PathTrust$Parser" "PathTrust$Parser" "position" "I") := ⟨List.mem_of_getElem? (i := 286) (by decide +kernel), by decide +kernel⟩
theorem wd_289 : zL (Cond.classLink "PathTrust" 47 "PathTrust$History") := ⟨List.mem_of_getElem? (i := 289) (by decide +kernel), by decide +kernel⟩
theorem wd_290 : zL (Cond.instantiable "PathTrust$History" 2) := ⟨List.mem_of_getElem? (i := 290) (by decide +kernel), by decide +kernel⟩
theorem wd_291 : zL (Cond.methodLinkNest "PathTrust" 49 ⟨"PathTrust$History","<init>","()V"⟩ "PathTrust") := ⟨List.mem_of_getElem? (i := 291) (by decide +kernel), by decide +kernel⟩
theorem wd_292 : zL (Cond.instanceMethod ⟨"PathTrust$History","<init>","()V"⟩) := ⟨List.mem_of_getElem? (i := 292) (by decide +kernel), by decide +kernel⟩
theorem wd_293 : zL (Cond.code ⟨"PathTrust$History","<init>","()V"⟩ prog_4_method_1_code 1 (Option.none : Option FieldType)) := ⟨List.mem_of_getElem? (i := 293) (by decide +kernel), by decide +kernel⟩
theorem wd_294 : zL (Cond.methodLink "PathTrust$History" 3 ⟨"java/lang/Object","<init>","()V"⟩) := ⟨List.mem_of_getElem? (i := 294) (by decide +kernel), by decide +kernel⟩
theorem wd_295 : zL (Cond.classLink "PathTrust$History" 9 "PathTrust$Desk") := ⟨List.mem_of_getElem? (i := 295) (by decide +kernel), by decide +kernel⟩
theorem wd_296 : zL (Cond.arrayOver (FieldType.object "PathTrust$Desk")) := ⟨List.mem_of_getElem? (i := 296) (by decide +kernel), by decide +kernel⟩
theorem wd_297 : zL (Cond.fieldLink "PathTrust$History" 11 "PathTrust$History" "desks" "[LPathTrust$Desk;") := ⟨List.mem_of_getElem? (i := 297) (by decide +kernel), by decide +kernel⟩
theorem wd_298 : zL (Cond.fieldLink "PathTrust$History" 17 "PathTrust$History" "count" "I") := ⟨List.mem_of_getElem? (i := 298) (by decide +kernel), by decide +kernel⟩
theorem wd_299 : zL (Cond.laysFinal "PathTrust$History" "PathTrust$History" "desks" "[LPathTrust$Desk;") := ⟨List.mem_of_getElem? (i := 299) (by decide +kernel), by decide +kernel⟩
theorem wd_301 : zL (Cond.lays "PathTrust$History" "PathTrust$History" "count" "I") := ⟨List.mem_of_getElem? (i := 301) (by decide +kernel), by decide +kernel⟩
theorem wd_304 : zL (Cond.fieldLink "PathTrust" 14 "PathTrust" "input" "LPathTrust$Buffer;") := ⟨List.mem_of_getElem? (i := 304) (by decide +kernel), by decide +kernel⟩
theorem wd_305 : zL (Cond.fieldLink "PathTrust" 18 "PathTrust" "output" "LPathTrust$Buffer;") := ⟨List.mem_of_getElem? (i := 305) (by decide +kernel), by decide +kernel⟩
theorem wd_306 : zL (Cond.fieldLink "PathTrust" 24 "PathTrust" "view" "LPathTrust$View;") := ⟨List.mem_of_getElem? (i := 306) (by decide +kernel), by decide +kernel⟩
theorem wd_307 : zL (Cond.fieldLink "PathTrust" 31 "PathTrust" "now" "LPathTrust$Desk;") := ⟨List.mem_of_getElem? (i := 307) (by decide +kernel), by decide +kernel⟩
theorem wd_308 : zL (Cond.fieldLink "PathTrust" 35 "PathTrust" "trial" "LPathTrust$Desk;") := ⟨List.mem_of_getElem? (i := 308) (by decide +kernel), by decide +kernel⟩
theorem wd_309 : zL (Cond.fieldLink "PathTrust" 43 "PathTrust" "parser" "LPathTrust$Parser;") := ⟨List.mem_of_getElem? (i := 309) (by decide +kernel), by decide +kernel⟩
theorem wd_310 : zL (Cond.fieldLink "PathTrust" 50 "PathTrust" "history" "LPathTrust$History;") := ⟨List.mem_of_getElem? (i := 310) (by decide +kernel), by decide +kernel⟩
theorem wd_311 : zL (Cond.fieldLink "PathTrust" 54 "PathTrust" "slots" "[LPathTrust$Desk;") := ⟨List.mem_of_getElem? (i := 311) (by decide +kernel), by decide +kernel⟩
theorem wd_312 : zL (Cond.laysFinal "PathTrust" "PathTrust" "input" "LPathTrust$Buffer;") := ⟨List.mem_of_getElem? (i := 312) (by decide +kernel), by decide +kernel⟩
theorem wd_314 : zL (Cond.laysFinal "PathTrust" "PathTrust" "output" "LPathTrust$Buffer;") := ⟨List.mem_of_getElem? (i := 314) (by decide +kernel), by decide +kernel⟩
theorem wd_316 : zL (Cond.laysFinal "PathTrust" "PathTrust" "view" "LPathTrust$View;") := ⟨List.mem_of_getElem? (i := 316) (by decide +kernel), by decide +kernel⟩
theorem wd_318 : zL (Cond.laysFinal "PathTrust" "PathTrust" "now" "LPathTrust$Desk;") := ⟨List.mem_of_getElem? (i := 318) (by decide +kernel), by decide +kernel⟩
theorem wd_320 : zL (Cond.laysFinal "PathTrust" "PathTrust" "trial" "LPathTrust$Desk;") := ⟨List.mem_of_getElem? (i := 320) (by decide +kernel), by decide +kernel⟩
theorem wd_322 : zL (Cond.laysFinal "PathTrust" "PathTrust" "parser" "LPathTrust$Parser;") := ⟨List.mem_of_getElem? (i := 322) (by decide +kernel), by decide +kernel⟩
theorem wd_324 : zL (Cond.laysFinal "PathTrust" "PathTrust" "history" "LPathTrust$History;") := ⟨List.mem_of_getElem? (i := 324) (by decide +kernel), by decide +kernel⟩
theorem wd_326 : zL (Cond.laysFinal "PathTrust" "PathTrust" "slots" "[LPathTrust$Desk;") := ⟨List.mem_of_getElem? (i := 326) (by decide +kernel), by decide +kernel⟩
theorem wd_329 : zL (Cond.methodLink "PathTrustLaw" 257 ⟨"PathTrustLaw","load","(LPathTrust;[I)Z"⟩) := ⟨List.mem_of_getElem? (i := 329) (by decide +kernel), by decide +kernel⟩
theorem wd_330 : zL (Cond.static ⟨"PathTrustLaw","load","(LPathTrust;[I)Z"⟩) := ⟨List.mem_of_getElem? (i := 330) (by decide +kernel), by decide +kernel⟩
theorem wd_331 : zL (Cond.code ⟨"PathTrustLaw","load","(LPathTrust;[I)Z"⟩ method_5_code 9 (Option.some FieldType.boolean)) := ⟨List.mem_of_getElem? (i := 331) (by decide +kernel), by decide +kernel⟩
theorem wd_332 : zL (Cond.methodLink "PathTrustLaw" 40 ⟨"PathTrustLaw","draw","([III)I"⟩) := ⟨List.mem_of_getElem? (i := 332) (by decide +kernel), by decide +kernel⟩
theorem wd_333 : zL (Cond.static ⟨"PathTrustLaw","draw","([III)I"⟩) := ⟨List.mem_of_getElem? (i := 333) (by decide +kernel), by decide +kernel⟩
theorem wd_334 : zL (Cond.code ⟨"PathTrustLaw","draw","([III)I"⟩ method_2_code 3 (Option.some FieldType.int)) := ⟨List.mem_of_getElem? (i := 334) (by decide +kernel), by decide +kernel⟩
theorem wd_335 : zL (Cond.constant "PathTrustLaw" 7 (2147483647 : Int32)) := ⟨List.mem_of_getElem? (i := 335) (by decide +kernel), by decide +kernel⟩
theorem wd_336 : zL (Cond.classLink "PathTrustLaw" 44 "java/lang/StringBuilder") := ⟨List.mem_of_getElem? (i := 336) (by decide +kernel), by decide +kernel⟩
theorem wd_337 : zL (Cond.instantiable "java/lang/StringBuilder" 4) := ⟨List.mem_of_getElem? (i := 337) (by decide +kernel), by decide +kernel⟩
theorem wd_339 : zL (Cond.methodLink "PathTrustLaw" 48 ⟨"java/lang/StringBuilder","<init>","(Ljava/lang/String;)V"⟩) := ⟨List.mem_of_getElem? (i := 339) (by decide +kernel), by decide +kernel⟩
theorem wd_340 : zL (Cond.instanceMethod ⟨"java/lang/StringBuilder","<init>","(Ljava/lang/String;)V"⟩) := ⟨List.mem_of_getElem? (i := 340) (by decide +kernel), by decide +kernel⟩
theorem wd_341 : zL (Cond.code ⟨"java/lang/StringBuilder","<init>","(Ljava/lang/String;)V"⟩ prog_22_method_3_code 2 (Option.none : Option FieldType)) := ⟨List.mem_of_getElem? (i := 341) (by decide +kernel), by decide +kernel⟩
theorem wd_342 : zL (Cond.methodLink "java/lang/StringBuilder" 7 ⟨"java/lang/AbstractStringBuilder","<init>","(Ljava/lang/String;)V"⟩) := ⟨List.mem_of_getElem? (i := 342) (by decide +kernel), by decide +kernel⟩
theorem wd_343 : zL (Cond.instanceMethod ⟨"java/lang/AbstractStringBuilder","<init>","(Ljava/lang/String;)V"⟩) := ⟨List.mem_of_getElem? (i := 343) (by decide +kernel), by decide +kernel⟩
theorem wd_344 : zL (Cond.code ⟨"java/lang/AbstractStringBuilder","<init>","(Ljava/lang/String;)V"⟩ prog_11_method_3_code 5 (Option.none : Option FieldType)) := ⟨List.mem_of_getElem? (i := 344) (by decide +kernel), by decide +kernel⟩
theorem wd_345 : zL (Cond.methodLink "java/lang/AbstractStringBuilder" 3 ⟨"java/lang/Object","<init>","()V"⟩) := ⟨List.mem_of_getElem? (i := 345) (by decide +kernel), by decide +kernel⟩
theorem wd_346 : zL (Cond.methodLink "java/lang/AbstractStringBuilder" 32 ⟨"java/lang/String","length","()I"⟩) := ⟨List.mem_of_getElem? (i := 346) (by decide +kernel), by decide +kernel⟩
theorem wd_347 : zL (Cond.instanceMethod ⟨"java/lang/String","length","()I"⟩) := ⟨List.mem_of_getElem? (i := 347) (by decide +kernel), by decide +kernel⟩
theorem wd_348 : zL (Cond.selects "java/lang/String" ⟨"java/lang/String","length","()I"⟩ ⟨"java/lang/String","length","()I"⟩) := ⟨List.mem_of_getElem? (i := 348) (by decide +kernel), by decide +kernel⟩
theorem wd_349 : zL (Cond.code ⟨"java/lang/String","length","()I"⟩ prog_21_method_54_code 1 (Option.some FieldType.int)) := ⟨List.mem_of_getElem? (i := 349) (by decide +kernel), by decide +kernel⟩
theorem wd_350 : zL (Cond.methodLink "java/lang/String" 335 ⟨"java/lang/String","coder","()B"⟩) := ⟨List.mem_of_getElem? (i := 350) (by decide +kernel), by decide +kernel⟩
theorem wd_351 : zL (Cond.instanceMethod ⟨"java/lang/String","coder","()B"⟩) := ⟨List.mem_of_getElem? (i := 351) (by decide +kernel), by decide +kernel⟩
theorem wd_352 : zL (Cond.selects "java/lang/String" ⟨"java/lang/String","coder","()B"⟩ ⟨"java/lang/String","coder","()B"⟩) := ⟨List.mem_of_getElem? (i := 352) (by decide +kernel), by decide +kernel⟩
theorem wd_353 : zL (Cond.code ⟨"java/lang/String","coder","()B"⟩ prog_21_method_152_code 1 (Option.some FieldType.byte)) := ⟨List.mem_of_getElem? (i := 353) (by decide +kernel), by decide +kernel⟩
theorem wd_354 : zL (Cond.fieldLink "java/lang/String" 38 "java/lang/String" "COMPACT_STRINGS" "Z") := ⟨List.mem_of_getElem? (i := 354) (by decide +kernel), by decide +kernel⟩
theorem wd_356 : zL (Cond.constant "java/lang/AbstractStringBuilder" 38 (2147483631 : Int32)) := ⟨List.mem_of_getElem? (i := 356) (by decide +kernel), by decide +kernel⟩
theorem wd_357 : zL (Cond.constant "java/lang/AbstractStringBuilder" 39 (2147483647 : Int32)) := ⟨List.mem_of_getElem? (i := 357) (by decide +kernel), by decide +kernel⟩
theorem wd_358 : zL (Cond.methodLink "java/lang/AbstractStringBuilder" 40 ⟨"java/lang/String","coder","()B"⟩) := ⟨List.mem_of_getElem? (i := 358) (by decide +kernel), by decide +kernel⟩
theorem wd_366 : zL (Cond.methodLink "java/lang/AbstractStringBuilder" 43 ⟨"java/lang/AbstractStringBuilder","append","(Ljava/lang/String;)Ljava/lang/AbstractStringBuilder;"⟩) := ⟨List.mem_of_getElem? (i := 366) (by decide +kernel), by decide +kernel⟩
theorem wd_367 : zL (Cond.instanceMethod ⟨"java/lang/AbstractStringBuilder","append","(Ljava/lang/String;)Ljava/lang/AbstractStringBuilder;"⟩) := ⟨List.mem_of_getElem? (i := 367) (by decide +kernel), by decide +kernel⟩
theorem wd_368 : zL (Cond.sameMethod "java/lang/AbstractStringBuilder" "java/lang/AbstractStringBuilder" "append" "(Ljava/lang/String;)Ljava/lang/AbstractStringBuilder;") := ⟨List.mem_of_getElem? (i := 368) (by decide +kernel), by decide +kernel⟩
theorem wd_369 : zL (Cond.selects "java/lang/StringBuilder" ⟨"java/lang/AbstractStringBuilder","append","(Ljava/lang/String;)Ljava/lang/AbstractStringBuilder;"⟩ ⟨"java/lang/StringBuilder","append","(Ljava/lang/String;)Ljava/lang/AbstractStringBuilder;"⟩) := ⟨List.mem_of_getElem? (i := 369) (by decide +kernel), by decide +kernel⟩
theorem wd_370 : zL (Cond.instanceMethod ⟨"java/lang/StringBuilder","append","(Ljava/lang/String;)Ljava/lang/AbstractStringBuilder;"⟩) := ⟨List.mem_of_getElem? (i := 370) (by decide +kernel), by decide +kernel⟩
theorem wd_371 : zL (Cond.code ⟨"java/lang/StringBuilder","append","(Ljava/lang/String;)Ljava/lang/AbstractStringBuilder;"⟩ prog_22_method_80_code 2 (Option.some (FieldType.object "java/lang/AbstractStringBuilder"))) := ⟨List.mem_of_getElem? (i := 371) (by decide +kernel), by decide +kernel⟩
theorem wd_372 : zL (Cond.methodLink "java/lang/StringBuilder" 23 ⟨"java/lang/StringBuilder","append","(Ljava/lang/String;)Ljava/lang/StringBuilder;"⟩) := ⟨List.mem_of_getElem? (i := 372) (by decide +kernel), by decide +kernel⟩
theorem wd_373 : zL (Cond.instanceMethod ⟨"java/lang/StringBuilder","append","(Ljava/lang/String;)Ljava/lang/StringBuilder;"⟩) := ⟨List.mem_of_getElem? (i := 373) (by decide +kernel), by decide +kernel⟩
theorem wd_374 : zL (Cond.selects "java/lang/StringBuilder" ⟨"java/lang/StringBuilder","append","(Ljava/lang/String;)Ljava/lang/StringBuilder;"⟩ ⟨"java/lang/StringBuilder","append","(Ljava/lang/String;)Ljava/lang/StringBuilder;"⟩) := ⟨List.mem_of_getElem? (i := 374) (by decide +kernel), by decide +kernel⟩
theorem wd_375 : zL (Cond.code ⟨"java/lang/StringBuilder","append","(Ljava/lang/String;)Ljava/lang/StringBuilder;"⟩ prog_22_method_7_code 2 (Option.some (FieldType.object "java/lang/StringBuilder"))) := ⟨List.mem_of_getElem? (i := 375) (by decide +kernel), by decide +kernel⟩
theorem wd_376 : zL (Cond.methodLink "java/lang/StringBuilder" 29 ⟨"java/lang/AbstractStringBuilder","append","(Ljava/lang/String;)Ljava/lang/AbstractStringBuilder;"⟩) := ⟨List.mem_of_getElem? (i := 376) (by decide +kernel), by decide +kernel⟩
theorem wd_377 : zL (Cond.superclass "java/lang/StringBuilder" "java/lang/AbstractStringBuilder") := ⟨List.mem_of_getElem? (i := 377) (by decide +kernel), by decide +kernel⟩
theorem wd_378 : zL (Cond.code ⟨"java/lang/AbstractStringBuilder","append","(Ljava/lang/String;)Ljava/lang/AbstractStringBuilder;"⟩ prog_11_method_22_code 3 (Option.some (FieldType.object "java/lang/AbstractStringBuilder"))) := ⟨List.mem_of_getElem? (i := 378) (by decide +kernel), by decide +kernel⟩
theorem wd_383 : zL (Cond.methodLink "java/lang/AbstractStringBuilder" 100 ⟨"java/lang/AbstractStringBuilder","ensureCapacityInternal","(I)V"⟩) := ⟨List.mem_of_getElem? (i := 383) (by decide +kernel), by decide +kernel⟩
theorem wd_385 : zL (Cond.instanceMethod ⟨"java/lang/AbstractStringBuilder","ensureCapacityInternal","(I)V"⟩) := ⟨List.mem_of_getElem? (i := 385) (by decide +kernel), by decide +kernel⟩
theorem wd_386 : zL (Cond.code ⟨"java/lang/AbstractStringBuilder","ensureCapacityInternal","(I)V"⟩ prog_11_method_9_code 3 (Option.none : Option FieldType)) := ⟨List.mem_of_getElem? (i := 386) (by decide +kernel), by decide +kernel⟩
theorem wd_387 : zL (Cond.methodLink "java/lang/AbstractStringBuilder" 104 ⟨"java/lang/AbstractStringBuilder","newCapacity","(I)I"⟩) := ⟨List.mem_of_getElem? (i := 387) (by decide +kernel), by decide +kernel⟩
theorem wd_389 : zL (Cond.instanceMethod ⟨"java/lang/AbstractStringBuilder","newCapacity","(I)I"⟩) := ⟨List.mem_of_getElem? (i := 389) (by decide +kernel), by decide +kernel⟩
theorem wd_390 : zL (Cond.code ⟨"java/lang/AbstractStringBuilder","newCapacity","(I)I"⟩ prog_11_method_10_code 6 (Option.some FieldType.int)) := ⟨List.mem_of_getElem? (i := 390) (by decide +kernel), by decide +kernel⟩
theorem wd_391 : zL (Cond.methodLink "java/lang/AbstractStringBuilder" 114 ⟨"jdk/internal/util/ArraysSupport","newLength","(III)I"⟩) := ⟨List.mem_of_getElem? (i := 391) (by decide +kernel), by decide +kernel⟩
theorem wd_392 : zL (Cond.static ⟨"jdk/internal/util/ArraysSupport","newLength","(III)I"⟩) := ⟨List.mem_of_getElem? (i := 392) (by decide +kernel), by decide +kernel⟩
theorem wd_393 : zL (Cond.code ⟨"jdk/internal/util/ArraysSupport","newLength","(III)I"⟩ prog_28_method_27_code 4 (Option.some FieldType.int)) := ⟨List.mem_of_getElem? (i := 393) (by decide +kernel), by decide +kernel⟩
theorem wd_394 : zL (Cond.methodLink "jdk/internal/util/ArraysSupport" 194 ⟨"java/lang/Math","max","(II)I"⟩) := ⟨List.mem_of_getElem? (i := 394) (by decide +kernel), by decide +kernel⟩
theorem wd_395 : zL (Cond.static ⟨"java/lang/Math","max","(II)I"⟩) := ⟨List.mem_of_getElem? (i := 395) (by decide +kernel), by decide +kernel⟩
theorem wd_396 : zL (Cond.code ⟨"java/lang/Math","max","(II)I"⟩ prog_18_method_65_code 2 (Option.some FieldType.int)) := ⟨List.mem_of_getElem? (i := 396) (by decide +kernel), by decide +kernel⟩
theorem wd_397 : zL (Cond.constant "jdk/internal/util/ArraysSupport" 200 (2147483639 : Int32)) := ⟨List.mem_of_getElem? (i := 397) (by decide +kernel), by decide +kernel⟩
theorem wd_401 : zL (Cond.methodLink "java/lang/AbstractStringBuilder" 108 ⟨"java/util/Arrays","copyOf","([BI)[B"⟩) := ⟨List.mem_of_getElem? (i := 401) (by decide +kernel), by decide +kernel⟩
theorem wd_402 : zL (Cond.static ⟨"java/util/Arrays","copyOf","([BI)[B"⟩) := ⟨List.mem_of_getElem? (i := 402) (by decide +kernel), by decide +kernel⟩
theorem wd_403 : zL (Cond.code ⟨"java/util/Arrays","copyOf","([BI)[B"⟩ prog_27_method_121_code 3 (Option.some (FieldType.array FieldType.byte))) := ⟨List.mem_of_getElem? (i := 403) (by decide +kernel), by decide +kernel⟩
theorem wd_404 : zL (Cond.methodLink "java/util/Arrays" 310 ⟨"[B","clone","()Ljava/lang/Object;"⟩) := ⟨List.mem_of_getElem? (i := 404) (by decide +kernel), by decide +kernel⟩
theorem wd_405 : zL (Cond.sameMethod "[B" "java/lang/Object" "clone" "()Ljava/lang/Object;") := ⟨List.mem_of_getElem? (i := 405) (by decide +kernel), by decide +kernel⟩
theorem wd_406 : zL (Cond.native ⟨"java/lang/Object","clone","()Ljava/lang/Object;"⟩) := ⟨List.mem_of_getElem? (i := 406) (by decide +kernel), by decide +kernel⟩
theorem wd_407 : zL (Cond.instanceMethod ⟨"java/lang/Object","clone","()Ljava/lang/Object;"⟩) := ⟨List.mem_of_getElem? (i := 407) (by decide +kernel), by decide +kernel⟩
theorem wd_408 : zL (Cond.selects "[B" ⟨"[B","clone","()Ljava/lang/Object;"⟩ ⟨"java/lang/Object","clone","()Ljava/lang/Object;"⟩) := ⟨List.mem_of_getElem? (i := 408) (by decide +kernel), by decide +kernel⟩
theorem wd_409 : zL (Cond.castable "[B" "java/lang/Cloneable") := ⟨List.mem_of_getElem? (i := 409) (by decide +kernel), by decide +kernel⟩
theorem wd_410 : zL (Cond.classLink "java/util/Arrays" 311 "[B") := ⟨List.mem_of_getElem? (i := 410) (by decide +kernel), by decide +kernel⟩
theorem wd_411 : zL (Cond.methodLink "java/util/Arrays" 304 ⟨"java/lang/Math","min","(II)I"⟩) := ⟨List.mem_of_getElem? (i := 411) (by decide +kernel), by decide +kernel⟩
theorem wd_412 : zL (Cond.static ⟨"java/lang/Math","min","(II)I"⟩) := ⟨List.mem_of_getElem? (i := 412) (by decide +kernel), by decide +kernel⟩
theorem wd_413 : zL (Cond.code ⟨"java/lang/Math","min","(II)I"⟩ prog_18_method_69_code 2 (Option.some FieldType.int)) := ⟨List.mem_of_getElem? (i := 413) (by decide +kernel), by decide +kernel⟩
theorem wd_414 : zL (Cond.methodLink "java/util/Arrays" 150 ⟨"java/lang/System","arraycopy","(Ljava/lang/Object;ILjava/lang/Object;II)V"⟩) := ⟨List.mem_of_getElem? (i := 414) (by decide +kernel), by decide +kernel⟩
theorem wd_415 : zL (Cond.static ⟨"java/lang/System","arraycopy","(Ljava/lang/Object;ILjava/lang/Object;II)V"⟩) := ⟨List.mem_of_getElem? (i := 415) (by decide +kernel), by decide +kernel⟩
theorem wd_416 : zL (Cond.native ⟨"java/lang/System","arraycopy","(Ljava/lang/Object;ILjava/lang/Object;II)V"⟩) := ⟨List.mem_of_getElem? (i := 416) (by decide +kernel), by decide +kernel⟩
theorem wd_417 : zL (Cond.methodLink "java/lang/AbstractStringBuilder" 83 ⟨"java/lang/AbstractStringBuilder","isLatin1","()Z"⟩) := ⟨List.mem_of_getElem? (i := 417) (by decide +kernel), by decide +kernel⟩
theorem wd_418 : zL (Cond.instanceMethod ⟨"java/lang/AbstractStringBuilder","isLatin1","()Z"⟩) := ⟨List.mem_of_getElem? (i := 418) (by decide +kernel), by decide +kernel⟩
theorem wd_420 : zL (Cond.selects "java/lang/StringBuilder" ⟨"java/lang/AbstractStringBuilder","isLatin1","()Z"⟩ ⟨"java/lang/AbstractStringBuilder","isLatin1","()Z"⟩) := ⟨List.mem_of_getElem? (i := 420) (by decide +kernel), by decide +kernel⟩
theorem wd_421 : zL (Cond.code ⟨"java/lang/AbstractStringBuilder","isLatin1","()Z"⟩ prog_11_method_68_code 1 (Option.some FieldType.boolean)) := ⟨List.mem_of_getElem? (i := 421) (by decide +kernel), by decide +kernel⟩
theorem wd_422 : zL (Cond.fieldLink "java/lang/AbstractStringBuilder" 18 "java/lang/String" "COMPACT_STRINGS" "Z") := ⟨List.mem_of_getElem? (i := 422) (by decide +kernel), by decide +kernel⟩
theorem wd_449 : zL (Cond.methodLink "java/lang/AbstractStringBuilder" 208 ⟨"java/lang/AbstractStringBuilder","putStringAt","(ILjava/lang/String;)V"⟩) := ⟨List.mem_of_getElem? (i := 449) (by decide +kernel), by decide +kernel⟩
theorem wd_451 : zL (Cond.instanceMethod ⟨"java/lang/AbstractStringBuilder","putStringAt","(ILjava/lang/String;)V"⟩) := ⟨List.mem_of_getElem? (i := 451) (by decide +kernel), by decide +kernel⟩
theorem wd_452 : zL (Cond.code ⟨"java/lang/AbstractStringBuilder","putStringAt","(ILjava/lang/String;)V"⟩ prog_11_method_73_code 3 (Option.none : Option FieldType)) := ⟨List.mem_of_getElem? (i := 452) (by decide +kernel), by decide +kernel⟩
theorem wd_453 : zL (Cond.methodLink "java/lang/AbstractStringBuilder" 397 ⟨"java/lang/AbstractStringBuilder","inflateIfNeededFor","(Ljava/lang/String;)V"⟩) := ⟨List.mem_of_getElem? (i := 453) (by decide +kernel), by decide +kernel⟩
theorem wd_455 : zL (Cond.instanceMethod ⟨"java/lang/AbstractStringBuilder","inflateIfNeededFor","(Ljava/lang/String;)V"⟩) := ⟨List.mem_of_getElem? (i := 455) (by decide +kernel), by decide +kernel⟩
theorem wd_456 : zL (Cond.code ⟨"java/lang/AbstractStringBuilder","inflateIfNeededFor","(Ljava/lang/String;)V"⟩ prog_11_method_71_code 2 (Option.none : Option FieldType)) := ⟨List.mem_of_getElem? (i := 456) (by decide +kernel), by decide +kernel⟩
theorem wd_476 : zL (Cond.methodLink "java/lang/AbstractStringBuilder" 399 ⟨"java/lang/String","getBytes","([BIB)V"⟩) := ⟨List.mem_of_getElem? (i := 476) (by decide +kernel), by decide +kernel⟩
theorem wd_477 : zL (Cond.instanceMethod ⟨"java/lang/String","getBytes","([BIB)V"⟩) := ⟨List.mem_of_getElem? (i := 477) (by decide +kernel), by decide +kernel⟩
theorem wd_478 : zL (Cond.selects "java/lang/String" ⟨"java/lang/String","getBytes","([BIB)V"⟩ ⟨"java/lang/String","getBytes","([BIB)V"⟩) := ⟨List.mem_of_getElem? (i := 478) (by decide +kernel), by decide +kernel⟩
theorem wd_479 : zL (Cond.code ⟨"java/lang/String","getBytes","([BIB)V"⟩ prog_21_method_147_code 4 (Option.none : Option FieldType)) := ⟨List.mem_of_getElem? (i := 479) (by decide +kernel), by decide +kernel⟩
theorem wd_480 : zL (Cond.methodLink "java/lang/String" 212 ⟨"java/lang/System","arraycopy","(Ljava/lang/Object;ILjava/lang/Object;II)V"⟩) := ⟨List.mem_of_getElem? (i := 480) (by decide +kernel), by decide +kernel⟩
theorem wd_482 : zL (Cond.fieldLink "java/lang/AbstractStringBuilder" 15 "java/lang/AbstractStringBuilder" "value" "[B") := ⟨List.mem_of_getElem? (i := 482) (by decide +kernel), by decide +kernel⟩
theorem wd_483 : zL (Cond.fieldLink "java/lang/AbstractStringBuilder" 22 "java/lang/AbstractStringBuilder" "coder" "B") := ⟨List.mem_of_getElem? (i := 483) (by decide +kernel), by decide +kernel⟩
theorem wd_485 : zL (Cond.fieldLink "java/lang/AbstractStringBuilder" 79 "java/lang/AbstractStringBuilder" "count" "I") := ⟨List.mem_of_getElem? (i := 485) (by decide +kernel), by decide +kernel⟩
theorem wd_486 : zL (Cond.lays "java/lang/StringBuilder" "java/lang/AbstractStringBuilder" "value" "[B") := ⟨List.mem_of_getElem? (i := 486) (by decide +kernel), by decide +kernel⟩
theorem wd_488 : zL (Cond.lays "java/lang/StringBuilder" "java/lang/AbstractStringBuilder" "coder" "B") := ⟨List.mem_of_getElem? (i := 488) (by decide +kernel), by decide +kernel⟩
theorem wd_490 : zL (Cond.lays "java/lang/StringBuilder" "java/lang/AbstractStringBuilder" "maybeLatin1" "Z") := ⟨List.mem_of_getElem? (i := 490) (by decide +kernel), by decide +kernel⟩
theorem wd_492 : zL (Cond.lays "java/lang/StringBuilder" "java/lang/AbstractStringBuilder" "count" "I") := ⟨List.mem_of_getElem? (i := 492) (by decide +kernel), by decide +kernel⟩
theorem wd_494 : zL (Cond.methodLink "PathTrustLaw" 51 ⟨"java/lang/StringBuilder","append","(I)Ljava/lang/StringBuilder;"⟩) := ⟨List.mem_of_getElem? (i := 494) (by decide +kernel), by decide +kernel⟩
theorem wd_495 : zL (Cond.instanceMethod ⟨"java/lang/StringBuilder","append","(I)Ljava/lang/StringBuilder;"⟩) := ⟨List.mem_of_getElem? (i := 495) (by decide +kernel), by decide +kernel⟩
theorem wd_496 : zL (Cond.selects "java/lang/StringBuilder" ⟨"java/lang/StringBuilder","append","(I)Ljava/lang/StringBuilder;"⟩ ⟨"java/lang/StringBuilder","append","(I)Ljava/lang/StringBuilder;"⟩) := ⟨List.mem_of_getElem? (i := 496) (by decide +kernel), by decide +kernel⟩
theorem wd_497 : zL (Cond.code ⟨"java/lang/StringBuilder","append","(I)Ljava/lang/StringBuilder;"⟩ prog_22_method_15_code 2 (Option.some (FieldType.object "java/lang/StringBuilder"))) := ⟨List.mem_of_getElem? (i := 497) (by decide +kernel), by decide +kernel⟩
theorem wd_498 : zL (Cond.methodLink "java/lang/StringBuilder" 53 ⟨"java/lang/AbstractStringBuilder","append","(I)Ljava/lang/AbstractStringBuilder;"⟩) := ⟨List.mem_of_getElem? (i := 498) (by decide +kernel), by decide +kernel⟩
theorem wd_499 : zL (Cond.instanceMethod ⟨"java/lang/AbstractStringBuilder","append","(I)Ljava/lang/AbstractStringBuilder;"⟩) := ⟨List.mem_of_getElem? (i := 499) (by decide +kernel), by decide +kernel⟩
theorem wd_500 : zL (Cond.code ⟨"java/lang/AbstractStringBuilder","append","(I)Ljava/lang/AbstractStringBuilder;"⟩ prog_11_method_32_code 4 (Option.some (FieldType.object "java/lang/AbstractStringBuilder"))) := ⟨List.mem_of_getElem? (i := 500) (by decide +kernel), by decide +kernel⟩
theorem wd_501 : zL (Cond.methodLink "java/lang/AbstractStringBuilder" 245 ⟨"java/lang/Integer","stringSize","(I)I"⟩) := ⟨List.mem_of_getElem? (i := 501) (by decide +kernel), by decide +kernel⟩
theorem wd_502 : zL (Cond.static ⟨"java/lang/Integer","stringSize","(I)I"⟩) := ⟨List.mem_of_getElem? (i := 502) (by decide +kernel), by decide +kernel⟩
theorem wd_503 : zL (Cond.code ⟨"java/lang/Integer","stringSize","(I)I"⟩ prog_17_method_13_code 4 (Option.some FieldType.int)) := ⟨List.mem_of_getElem? (i := 503) (by decide +kernel), by decide +kernel⟩
theorem wd_504 : zL (Cond.methodLink "java/lang/AbstractStringBuilder" 248 ⟨"java/lang/Integer","getChars","(II[B)I"⟩) := ⟨List.mem_of_getElem? (i := 504) (by decide +kernel), by decide +kernel⟩
theorem wd_505 : zL (Cond.static ⟨"java/lang/Integer","getChars","(II[B)I"⟩) := ⟨List.mem_of_getElem? (i := 505) (by decide +kernel), by decide +kernel⟩
theorem wd_506 : zL (Cond.code ⟨"java/lang/Integer","getChars","(II[B)I"⟩ prog_17_method_12_code 7 (Option.some FieldType.int)) := ⟨List.mem_of_getElem? (i := 506) (by decide +kernel), by decide +kernel⟩
theorem wd_507 : zL (Cond.fieldLink "java/lang/Integer" 83 "java/lang/Integer" "DigitOnes" "[B") := ⟨List.mem_of_getElem? (i := 507) (by decide +kernel), by decide +kernel⟩
theorem wd_509 : zL (Cond.fieldLink "java/lang/Integer" 87 "java/lang/Integer" "DigitTens" "[B") := ⟨List.mem_of_getElem? (i := 509) (by decide +kernel), by decide +kernel⟩
theorem wd_520 : zL (Cond.methodLink "PathTrustLaw" 56 ⟨"java/lang/StringBuilder","append","(Ljava/lang/String;)Ljava/lang/StringBuilder;"⟩) := ⟨List.mem_of_getElem? (i := 520) (by decide +kernel), by decide +kernel⟩
theorem wd_526 : zL (Cond.methodLink "PathTrustLaw" 69 ⟨"java/lang/StringBuilder","append","(C)Ljava/lang/StringBuilder;"⟩) := ⟨List.mem_of_getElem? (i := 526) (by decide +kernel), by decide +kernel⟩
theorem wd_527 : zL (Cond.instanceMethod ⟨"java/lang/StringBuilder","append","(C)Ljava/lang/StringBuilder;"⟩) := ⟨List.mem_of_getElem? (i := 527) (by decide +kernel), by decide +kernel⟩
theorem wd_528 : zL (Cond.selects "java/lang/StringBuilder" ⟨"java/lang/StringBuilder","append","(C)Ljava/lang/StringBuilder;"⟩ ⟨"java/lang/StringBuilder","append","(C)Ljava/lang/StringBuilder;"⟩) := ⟨List.mem_of_getElem? (i := 528) (by decide +kernel), by decide +kernel⟩
theorem wd_529 : zL (Cond.code ⟨"java/lang/StringBuilder","append","(C)Ljava/lang/StringBuilder;"⟩ prog_22_method_14_code 2 (Option.some (FieldType.object "java/lang/StringBuilder"))) := ⟨List.mem_of_getElem? (i := 529) (by decide +kernel), by decide +kernel⟩
theorem wd_530 : zL (Cond.methodLink "java/lang/StringBuilder" 50 ⟨"java/lang/AbstractStringBuilder","append","(C)Ljava/lang/AbstractStringBuilder;"⟩) := ⟨List.mem_of_getElem? (i := 530) (by decide +kernel), by decide +kernel⟩
theorem wd_531 : zL (Cond.instanceMethod ⟨"java/lang/AbstractStringBuilder","append","(C)Ljava/lang/AbstractStringBuilder;"⟩) := ⟨List.mem_of_getElem? (i := 531) (by decide +kernel), by decide +kernel⟩
theorem wd_532 : zL (Cond.code ⟨"java/lang/AbstractStringBuilder","append","(C)Ljava/lang/AbstractStringBuilder;"⟩ prog_11_method_31_code 2 (Option.some (FieldType.object "java/lang/AbstractStringBuilder"))) := ⟨List.mem_of_getElem? (i := 532) (by decide +kernel), by decide +kernel⟩
theorem wd_533 : zL (Cond.methodLink "java/lang/AbstractStringBuilder" 191 ⟨"java/lang/StringLatin1","canEncode","(C)Z"⟩) := ⟨List.mem_of_getElem? (i := 533) (by decide +kernel), by decide +kernel⟩
theorem wd_534 : zL (Cond.static ⟨"java/lang/StringLatin1","canEncode","(C)Z"⟩) := ⟨List.mem_of_getElem? (i := 534) (by decide +kernel), by decide +kernel⟩
theorem wd_535 : zL (Cond.code ⟨"java/lang/StringLatin1","canEncode","(C)Z"⟩ prog_23_method_3_code 1 (Option.some FieldType.boolean)) := ⟨List.mem_of_getElem? (i := 535) (by decide +kernel), by decide +kernel⟩
theorem wd_543 : zL (Cond.static ⟨"java/lang/String","checkIndex","(II)V"⟩) := ⟨List.mem_of_getElem? (i := 543) (by decide +kernel), by decide +kernel⟩
theorem wd_555 : zL (Cond.methodLink "PathTrustLaw" 86 ⟨"java/lang/StringBuilder","length","()I"⟩) := ⟨List.mem_of_getElem? (i := 555) (by decide +kernel), by decide +kernel⟩
theorem wd_556 : zL (Cond.instanceMethod ⟨"java/lang/StringBuilder","length","()I"⟩) := ⟨List.mem_of_getElem? (i := 556) (by decide +kernel), by decide +kernel⟩
theorem wd_557 : zL (Cond.selects "java/lang/StringBuilder" ⟨"java/lang/StringBuilder","length","()I"⟩ ⟨"java/lang/StringBuilder","length","()I"⟩) := ⟨List.mem_of_getElem? (i := 557) (by decide +kernel), by decide +kernel⟩
theorem wd_558 : zL (Cond.code ⟨"java/lang/StringBuilder","length","()I"⟩ prog_22_method_93_code 1 (Option.some FieldType.int)) := ⟨List.mem_of_getElem? (i := 558) (by decide +kernel), by decide +kernel⟩
theorem wd_559 : zL (Cond.methodLink "java/lang/StringBuilder" 343 ⟨"java/lang/AbstractStringBuilder","length","()I"⟩) := ⟨List.mem_of_getElem? (i := 559) (by decide +kernel), by decide +kernel⟩
theorem wd_560 : zL (Cond.instanceMethod ⟨"java/lang/AbstractStringBuilder","length","()I"⟩) := ⟨List.mem_of_getElem? (i := 560) (by decide +kernel), by decide +kernel⟩
theorem wd_561 : zL (Cond.code ⟨"java/lang/AbstractStringBuilder","length","()I"⟩ prog_11_method_6_code 1 (Option.some FieldType.int)) := ⟨List.mem_of_getElem? (i := 561) (by decide +kernel), by decide +kernel⟩
theorem wd_562 : zL (Cond.methodLink "PathTrustLaw" 87 ⟨"java/lang/StringBuilder","toString","()Ljava/lang/String;"⟩) := ⟨List.mem_of_getElem? (i := 562) (by decide +kernel), by decide +kernel⟩
theorem wd_563 : zL (Cond.instanceMethod ⟨"java/lang/StringBuilder","toString","()Ljava/lang/String;"⟩) := ⟨List.mem_of_getElem? (i := 563) (by decide +kernel), by decide +kernel⟩
theorem wd_564 : zL (Cond.selects "java/lang/StringBuilder" ⟨"java/lang/StringBuilder","toString","()Ljava/lang/String;"⟩ ⟨"java/lang/StringBuilder","toString","()Ljava/lang/String;"⟩) := ⟨List.mem_of_getElem? (i := 564) (by decide +kernel), by decide +kernel⟩
theorem wd_565 : zL (Cond.code ⟨"java/lang/StringBuilder","toString","()Ljava/lang/String;"⟩ prog_22_method_42_code 1 (Option.some (FieldType.object "java/lang/String"))) := ⟨List.mem_of_getElem? (i := 565) (by decide +kernel), by decide +kernel⟩
theorem wd_566 : zL (Cond.classLink "java/lang/StringBuilder" 18 "java/lang/String") := ⟨List.mem_of_getElem? (i := 566) (by decide +kernel), by decide +kernel⟩
theorem wd_567 : zL (Cond.instantiable "java/lang/String" 4) := ⟨List.mem_of_getElem? (i := 567) (by decide +kernel), by decide +kernel⟩
theorem wd_568 : zL (Cond.methodLink "java/lang/StringBuilder" 137 ⟨"java/lang/String","<init>","(Ljava/lang/StringBuilder;)V"⟩) := ⟨List.mem_of_getElem? (i := 568) (by decide +kernel), by decide +kernel⟩
theorem wd_569 : zL (Cond.instanceMethod ⟨"java/lang/String","<init>","(Ljava/lang/StringBuilder;)V"⟩) := ⟨List.mem_of_getElem? (i := 569) (by decide +kernel), by decide +kernel⟩
theorem wd_570 : zL (Cond.code ⟨"java/lang/String","<init>","(Ljava/lang/StringBuilder;)V"⟩ prog_21_method_53_code 2 (Option.none : Option FieldType)) := ⟨List.mem_of_getElem? (i := 570) (by decide +kernel), by decide +kernel⟩
theorem wd_571 : zL (Cond.methodLink "java/lang/String" 489 ⟨"java/lang/String","<init>","(Ljava/lang/AbstractStringBuilder;Ljava/lang/Void;)V"⟩) := ⟨List.mem_of_getElem? (i := 571) (by decide +kernel), by decide +kernel⟩
theorem wd_572 : zL (Cond.instanceMethod ⟨"java/lang/String","<init>","(Ljava/lang/AbstractStringBuilder;Ljava/lang/Void;)V"⟩) := ⟨List.mem_of_getElem? (i := 572) (by decide +kernel), by decide +kernel⟩
theorem wd_573 : zL (Cond.code ⟨"java/lang/String","<init>","(Ljava/lang/AbstractStringBuilder;Ljava/lang/Void;)V"⟩ prog_21_method_150_code 5 (Option.none : Option FieldType)) := ⟨List.mem_of_getElem? (i := 573) (by decide +kernel), by decide +kernel⟩
theorem wd_574 : zL (Cond.methodLink "java/lang/String" 1 ⟨"java/lang/Object","<init>","()V"⟩) := ⟨List.mem_of_getElem? (i := 574) (by decide +kernel), by decide +kernel⟩
theorem wd_575 : zL (Cond.methodLink "java/lang/String" 552 ⟨"java/lang/AbstractStringBuilder","getValue","()[B"⟩) := ⟨List.mem_of_getElem? (i := 575) (by decide +kernel), by decide +kernel⟩
theorem wd_576 : zL (Cond.instanceMethod ⟨"java/lang/AbstractStringBuilder","getValue","()[B"⟩) := ⟨List.mem_of_getElem? (i := 576) (by decide +kernel), by decide +kernel⟩
theorem wd_578 : zL (Cond.selects "java/lang/StringBuilder" ⟨"java/lang/AbstractStringBuilder","getValue","()[B"⟩ ⟨"java/lang/AbstractStringBuilder","getValue","()[B"⟩) := ⟨List.mem_of_getElem? (i := 578) (by decide +kernel), by decide +kernel⟩
theorem wd_579 : zL (Cond.code ⟨"java/lang/AbstractStringBuilder","getValue","()[B"⟩ prog_11_method_64_code 1 (Option.some (FieldType.array FieldType.byte))) := ⟨List.mem_of_getElem? (i := 579) (by decide +kernel), by decide +kernel⟩
theorem wd_580 : zL (Cond.methodLink "java/lang/String" 549 ⟨"java/lang/AbstractStringBuilder","length","()I"⟩) := ⟨List.mem_of_getElem? (i := 580) (by decide +kernel), by decide +kernel⟩
theorem wd_581 : zL (Cond.methodLink "java/lang/String" 1047 ⟨"java/lang/AbstractStringBuilder","isLatin1","()Z"⟩) := ⟨List.mem_of_getElem? (i := 581) (by decide +kernel), by decide +kernel⟩
theorem wd_582 : zL (Cond.methodLink "java/lang/String" 54 ⟨"java/util/Arrays","copyOfRange","([BII)[B"⟩) := ⟨List.mem_of_getElem? (i := 582) (by decide +kernel), by decide +kernel⟩
theorem wd_583 : zL (Cond.static ⟨"java/util/Arrays","copyOfRange","([BII)[B"⟩) := ⟨List.mem_of_getElem? (i := 583) (by decide +kernel), by decide +kernel⟩
theorem wd_584 : zL (Cond.code ⟨"java/util/Arrays","copyOfRange","([BII)[B"⟩ prog_27_method_132_code 3 (Option.some (FieldType.array FieldType.byte))) := ⟨List.mem_of_getElem? (i := 584) (by decide +kernel), by decide +kernel⟩
theorem wd_585 : zL (Cond.methodLink "java/util/Arrays" 339 ⟨"java/util/Arrays","copyOfRangeByte","([BII)[B"⟩) := ⟨List.mem_of_getElem? (i := 585) (by decide +kernel), by decide +kernel⟩
theorem wd_586 : zL (Cond.static ⟨"java/util/Arrays","copyOfRangeByte","([BII)[B"⟩) := ⟨List.mem_of_getElem? (i := 586) (by decide +kernel), by decide +kernel⟩
theorem wd_587 : zL (Cond.code ⟨"java/util/Arrays","copyOfRangeByte","([BII)[B"⟩ prog_27_method_133_code 5 (Option.some (FieldType.array FieldType.byte))) := ⟨List.mem_of_getElem? (i := 587) (by decide +kernel), by decide +kernel⟩
theorem wd_588 : zL (Cond.methodLink "java/util/Arrays" 343 ⟨"java/util/Arrays","checkLength","(II)V"⟩) := ⟨List.mem_of_getElem? (i := 588) (by decide +kernel), by decide +kernel⟩
theorem wd_589 : zL (Cond.static ⟨"java/util/Arrays","checkLength","(II)V"⟩) := ⟨List.mem_of_getElem? (i := 589) (by decide +kernel), by decide +kernel⟩
theorem wd_590 : zL (Cond.code ⟨"java/util/Arrays","checkLength","(II)V"⟩ prog_27_method_131_code 2 (Option.none : Option FieldType)) := ⟨List.mem_of_getElem? (i := 590) (by decide +kernel), by decide +kernel⟩
theorem wd_604 : zL (Cond.fieldLink "java/lang/String" 9 "java/lang/String" "value" "[B") := ⟨List.mem_of_getElem? (i := 604) (by decide +kernel), by decide +kernel⟩
theorem wd_605 : zL (Cond.fieldLink "java/lang/String" 15 "java/lang/String" "coder" "B") := ⟨List.mem_of_getElem? (i := 605) (by decide +kernel), by decide +kernel⟩
theorem wd_606 : zL (Cond.laysFinal "java/lang/String" "java/lang/String" "value" "[B") := ⟨List.mem_of_getElem? (i := 606) (by decide +kernel), by decide +kernel⟩
theorem wd_608 : zL (Cond.laysFinal "java/lang/String" "java/lang/String" "coder" "B") := ⟨List.mem_of_getElem? (i := 608) (by decide +kernel), by decide +kernel⟩
theorem wd_610 : zL (Cond.lays "java/lang/String" "java/lang/String" "hash" "I") := ⟨List.mem_of_getElem? (i := 610) (by decide +kernel), by decide +kernel⟩
theorem wd_612 : zL (Cond.lays "java/lang/String" "java/lang/String" "hashIsZero" "Z") := ⟨List.mem_of_getElem? (i := 612) (by decide +kernel), by decide +kernel⟩
theorem wd_615 : zL (Cond.methodLink "PathTrustLaw" 91 ⟨"PathTrustLaw","feed","(LPathTrust;Ljava/lang/String;)V"⟩) := ⟨List.mem_of_getElem? (i := 615) (by decide +kernel), by decide +kernel⟩
theorem wd_616 : zL (Cond.static ⟨"PathTrustLaw","feed","(LPathTrust;Ljava/lang/String;)V"⟩) := ⟨List.mem_of_getElem? (i := 616) (by decide +kernel), by decide +kernel⟩
theorem wd_617 : zL (Cond.code ⟨"PathTrustLaw","feed","(LPathTrust;Ljava/lang/String;)V"⟩ method_4_code 4 (Option.none : Option FieldType)) := ⟨List.mem_of_getElem? (i := 617) (by decide +kernel), by decide +kernel⟩
theorem wd_618 : zL (Cond.methodLink "PathTrustLaw" 8 ⟨"java/lang/String","length","()I"⟩) := ⟨List.mem_of_getElem? (i := 618) (by decide +kernel), by decide +kernel⟩
theorem wd_619 : zL (Cond.methodLink "PathTrustLaw" 18 ⟨"PathTrustLaw","four","(Ljava/lang/String;I)I"⟩) := ⟨List.mem_of_getElem? (i := 619) (by decide +kernel), by decide +kernel⟩
theorem wd_620 : zL (Cond.static ⟨"PathTrustLaw","four","(Ljava/lang/String;I)I"⟩) := ⟨List.mem_of_getElem? (i := 620) (by decide +kernel), by decide +kernel⟩
theorem wd_621 : zL (Cond.code ⟨"PathTrustLaw","four","(Ljava/lang/String;I)I"⟩ method_3_code 4 (Option.some FieldType.int)) := ⟨List.mem_of_getElem? (i := 621) (by decide +kernel), by decide +kernel⟩
theorem wd_622 : zL (Cond.methodLink "PathTrustLaw" 14 ⟨"java/lang/String","charAt","(I)C"⟩) := ⟨List.mem_of_getElem? (i := 622) (by decide +kernel), by decide +kernel⟩
theorem wd_623 : zL (Cond.instanceMethod ⟨"java/lang/String","charAt","(I)C"⟩) := ⟨List.mem_of_getElem? (i := 623) (by decide +kernel), by decide +kernel⟩
theorem wd_624 : zL (Cond.selects "java/lang/String" ⟨"java/lang/String","charAt","(I)C"⟩ ⟨"java/lang/String","charAt","(I)C"⟩) := ⟨List.mem_of_getElem? (i := 624) (by decide +kernel), by decide +kernel⟩
theorem wd_625 : zL (Cond.code ⟨"java/lang/String","charAt","(I)C"⟩ prog_21_method_56_code 2 (Option.some FieldType.char)) := ⟨List.mem_of_getElem? (i := 625) (by decide +kernel), by decide +kernel⟩
theorem wd_626 : zL (Cond.methodLink "java/lang/String" 492 ⟨"java/lang/String","isLatin1","()Z"⟩) := ⟨List.mem_of_getElem? (i := 626) (by decide +kernel), by decide +kernel⟩
theorem wd_627 : zL (Cond.instanceMethod ⟨"java/lang/String","isLatin1","()Z"⟩) := ⟨List.mem_of_getElem? (i := 627) (by decide +kernel), by decide +kernel⟩
theorem wd_628 : zL (Cond.selects "java/lang/String" ⟨"java/lang/String","isLatin1","()Z"⟩ ⟨"java/lang/String","isLatin1","()Z"⟩) := ⟨List.mem_of_getElem? (i := 628) (by decide +kernel), by decide +kernel⟩
theorem wd_629 : zL (Cond.code ⟨"java/lang/String","isLatin1","()Z"⟩ prog_21_method_154_code 1 (Option.some FieldType.boolean)) := ⟨List.mem_of_getElem? (i := 629) (by decide +kernel), by decide +kernel⟩
theorem wd_630 : zL (Cond.methodLink "java/lang/String" 495 ⟨"java/lang/StringLatin1","charAt","([BI)C"⟩) := ⟨List.mem_of_getElem? (i := 630) (by decide +kernel), by decide +kernel⟩
theorem wd_631 : zL (Cond.static ⟨"java/lang/StringLatin1","charAt","([BI)C"⟩) := ⟨List.mem_of_getElem? (i := 631) (by decide +kernel), by decide +kernel⟩
theorem wd_632 : zL (Cond.code ⟨"java/lang/StringLatin1","charAt","([BI)C"⟩ prog_23_method_2_code 2 (Option.some FieldType.char)) := ⟨List.mem_of_getElem? (i := 632) (by decide +kernel), by decide +kernel⟩
theorem wd_633 : zL (Cond.methodLink "java/lang/StringLatin1" 9 ⟨"java/lang/String","checkIndex","(II)V"⟩) := ⟨List.mem_of_getElem? (i := 633) (by decide +kernel), by decide +kernel⟩
theorem wd_637 : zL (Cond.methodLink "PathTrustLaw" 24 ⟨"PathTrust","append","(IIIII)I"⟩) := ⟨List.mem_of_getElem? (i := 637) (by decide +kernel), by decide +kernel⟩
theorem wd_638 : zL (Cond.instanceMethod ⟨"PathTrust","append","(IIIII)I"⟩) := ⟨List.mem_of_getElem? (i := 638) (by decide +kernel), by decide +kernel⟩
theorem wd_639 : zL (Cond.selects "PathTrust" ⟨"PathTrust","append","(IIIII)I"⟩ ⟨"PathTrust","append","(IIIII)I"⟩) := ⟨List.mem_of_getElem? (i := 639) (by decide +kernel), by decide +kernel⟩
theorem wd_640 : zL (Cond.code ⟨"PathTrust","append","(IIIII)I"⟩ prog_1_method_2_code 6 (Option.some FieldType.int)) := ⟨List.mem_of_getElem? (i := 640) (by decide +kernel), by decide +kernel⟩
theorem wd_708 : zL (Cond.methodLinkNest "PathTrust" 69 ⟨"PathTrust$Buffer","addFour","(I)V"⟩ "PathTrust") := ⟨List.mem_of_getElem? (i := 708) (by decide +kernel), by decide +kernel⟩
theorem wd_710 : zL (Cond.instanceMethod ⟨"PathTrust$Buffer","addFour","(I)V"⟩) := ⟨List.mem_of_getElem? (i := 710) (by decide +kernel), by decide +kernel⟩
theorem wd_711 : zL (Cond.code ⟨"PathTrust$Buffer","addFour","(I)V"⟩ prog_2_method_4_code 2 (Option.none : Option FieldType)) := ⟨List.mem_of_getElem? (i := 711) (by decide +kernel), by decide +kernel⟩
theorem wd_712 : zL (Cond.methodLink "PathTrust$Buffer" 19 ⟨"PathTrust$Buffer","add","(I)V"⟩) := ⟨List.mem_of_getElem? (i := 712) (by decide +kernel), by decide +kernel⟩
theorem wd_714 : zL (Cond.instanceMethod ⟨"PathTrust$Buffer","add","(I)V"⟩) := ⟨List.mem_of_getElem? (i := 714) (by decide +kernel), by decide +kernel⟩
theorem wd_715 : zL (Cond.code ⟨"PathTrust$Buffer","add","(I)V"⟩ prog_2_method_3_code 2 (Option.none : Option FieldType)) := ⟨List.mem_of_getElem? (i := 715) (by decide +kernel), by decide +kernel⟩
theorem wd_716 : zL (Cond.methodLink "PathTrustLaw" 30 ⟨"java/lang/Math","min","(II)I"⟩) := ⟨List.mem_of_getElem? (i := 716) (by decide +kernel), by decide +kernel⟩
theorem wd_717 : zL (Cond.methodLink "PathTrustLaw" 36 ⟨"PathTrust","truncate","(I)V"⟩) := ⟨List.mem_of_getElem? (i := 717) (by decide +kernel), by decide +kernel⟩
theorem wd_718 : zL (Cond.instanceMethod ⟨"PathTrust","truncate","(I)V"⟩) := ⟨List.mem_of_getElem? (i := 718) (by decide +kernel), by decide +kernel⟩
theorem wd_719 : zL (Cond.selects "PathTrust" ⟨"PathTrust","truncate","(I)V"⟩ ⟨"PathTrust","truncate","(I)V"⟩) := ⟨List.mem_of_getElem? (i := 719) (by decide +kernel), by decide +kernel⟩
theorem wd_720 : zL (Cond.code ⟨"PathTrust","truncate","(I)V"⟩ prog_1_method_3_code 2 (Option.none : Option FieldType)) := ⟨List.mem_of_getElem? (i := 720) (by decide +kernel), by decide +kernel⟩
theorem wd_721 : zL (Cond.methodLink "PathTrust" 72 ⟨"PathTrust","checkRange","(III)V"⟩) := ⟨List.mem_of_getElem? (i := 721) (by decide +kernel), by decide +kernel⟩
theorem wd_722 : zL (Cond.static ⟨"PathTrust","checkRange","(III)V"⟩) := ⟨List.mem_of_getElem? (i := 722) (by decide +kernel), by decide +kernel⟩
theorem wd_723 : zL (Cond.code ⟨"PathTrust","checkRange","(III)V"⟩ prog_1_method_65_code 3 (Option.none : Option FieldType)) := ⟨List.mem_of_getElem? (i := 723) (by decide +kernel), by decide +kernel⟩
theorem wd_740 : zL (Cond.methodLink "PathTrustLaw" 95 ⟨"PathTrust","load","()I"⟩) := ⟨List.mem_of_getElem? (i := 740) (by decide +kernel), by decide +kernel⟩
theorem wd_741 : zL (Cond.instanceMethod ⟨"PathTrust","load","()I"⟩) := ⟨List.mem_of_getElem? (i := 741) (by decide +kernel), by decide +kernel⟩
theorem wd_742 : zL (Cond.selects "PathTrust" ⟨"PathTrust","load","()I"⟩ ⟨"PathTrust","load","()I"⟩) := ⟨List.mem_of_getElem? (i := 742) (by decide +kernel), by decide +kernel⟩
theorem wd_743 : zL (Cond.code ⟨"PathTrust","load","()I"⟩ prog_1_method_4_code 2 (Option.some FieldType.int)) := ⟨List.mem_of_getElem? (i := 743) (by decide +kernel), by decide +kernel⟩
theorem wd_744 : zL (Cond.methodLinkNest "PathTrust" 76 ⟨"PathTrust$Parser","parse","()Z"⟩ "PathTrust") := ⟨List.mem_of_getElem? (i := 744) (by decide +kernel), by decide +kernel⟩
theorem wd_746 : zL (Cond.instanceMethod ⟨"PathTrust$Parser","parse","()Z"⟩) := ⟨List.mem_of_getElem? (i := 746) (by decide +kernel), by decide +kernel⟩
theorem wd_747 : zL (Cond.code ⟨"PathTrust$Parser","parse","()Z"⟩ prog_6_method_2_code 3 (Option.some FieldType.boolean)) := ⟨List.mem_of_getElem? (i := 747) (by decide +kernel), by decide +kernel⟩
theorem wd_748 : zL (Cond.methodLinkNest "PathTrust$Parser" 29 ⟨"PathTrust$Desk","reset","()V"⟩ "PathTrust") := ⟨List.mem_of_getElem? (i := 748) (by decide +kernel), by decide +kernel⟩
theorem wd_749 : zL (Cond.methodLink "PathTrust$Parser" 34 ⟨"PathTrust$Parser","next","()V"⟩) := ⟨List.mem_of_getElem? (i := 749) (by decide +kernel), by decide +kernel⟩
theorem wd_751 : zL (Cond.instanceMethod ⟨"PathTrust$Parser","next","()V"⟩) := ⟨List.mem_of_getElem? (i := 751) (by decide +kernel), by decide +kernel⟩
theorem wd_752 : zL (Cond.code ⟨"PathTrust$Parser","next","()V"⟩ prog_6_method_15_code 1 (Option.none : Option FieldType)) := ⟨List.mem_of_getElem? (i := 752) (by decide +kernel), by decide +kernel⟩
theorem wd_753 : zL (Cond.methodLinkNest "PathTrust$Parser" 158 ⟨"PathTrust$Buffer","at","(I)I"⟩ "PathTrust") := ⟨List.mem_of_getElem? (i := 753) (by decide +kernel), by decide +kernel⟩
theorem wd_755 : zL (Cond.instanceMethod ⟨"PathTrust$Buffer","at","(I)I"⟩) := ⟨List.mem_of_getElem? (i := 755) (by decide +kernel), by decide +kernel⟩
theorem wd_756 : zL (Cond.code ⟨"PathTrust$Buffer","at","(I)I"⟩ prog_2_method_2_code 2 (Option.some FieldType.int)) := ⟨List.mem_of_getElem? (i := 756) (by decide +kernel), by decide +kernel⟩
theorem wd_757 : zL (Cond.methodLink "PathTrust$Parser" 178 ⟨"PathTrust$Parser","kindOf","(I)I"⟩) := ⟨List.mem_of_getElem? (i := 757) (by decide +kernel), by decide +kernel⟩
theorem wd_758 : zL (Cond.static ⟨"PathTrust$Parser","kindOf","(I)I"⟩) := ⟨List.mem_of_getElem? (i := 758) (by decide +kernel), by decide +kernel⟩
theorem wd_759 : zL (Cond.code ⟨"PathTrust$Parser","kindOf","(I)I"⟩ prog_6_method_16_code 1 (Option.some FieldType.int)) := ⟨List.mem_of_getElem? (i := 759) (by decide +kernel), by decide +kernel⟩
theorem wd_760 : zL (Cond.methodLink "PathTrust$Parser" 37 ⟨"PathTrust$Parser","readRules","()Z"⟩) := ⟨List.mem_of_getElem? (i := 760) (by decide +kernel), by decide +kernel⟩
theorem wd_762 : zL (Cond.instanceMethod ⟨"PathTrust$Parser","readRules","()Z"⟩) := ⟨List.mem_of_getElem? (i := 762) (by decide +kernel), by decide +kernel⟩
theorem wd_763 : zL (Cond.code ⟨"PathTrust$Parser","readRules","()Z"⟩ prog_6_method_3_code 1 (Option.some FieldType.boolean)) := ⟨List.mem_of_getElem? (i := 763) (by decide +kernel), by decide +kernel⟩
theorem wd_765 : zL (Cond.methodLink "PathTrust$Parser" 79 ⟨"PathTrust$Parser","readWord","(Ljava/lang/String;)Z"⟩) := ⟨List.mem_of_getElem? (i := 765) (by decide +kernel), by decide +kernel⟩
theorem wd_767 : zL (Cond.instanceMethod ⟨"PathTrust$Parser","readWord","(Ljava/lang/String;)Z"⟩) := ⟨List.mem_of_getElem? (i := 767) (by decide +kernel), by decide +kernel⟩
theorem wd_768 : zL (Cond.code ⟨"PathTrust$Parser","readWord","(Ljava/lang/String;)Z"⟩ prog_6_method_8_code 2 (Option.some FieldType.boolean)) := ⟨List.mem_of_getElem? (i := 768) (by decide +kernel), by decide +kernel⟩
theorem wd_769 : zL (Cond.methodLink "PathTrust$Parser" 46 ⟨"PathTrust$Parser","isWord","(Ljava/lang/String;)Z"⟩) := ⟨List.mem_of_getElem? (i := 769) (by decide +kernel), by decide +kernel⟩
theorem wd_771 : zL (Cond.instanceMethod ⟨"PathTrust$Parser","isWord","(Ljava/lang/String;)Z"⟩) := ⟨List.mem_of_getElem? (i := 771) (by decide +kernel), by decide +kernel⟩
theorem wd_772 : zL (Cond.code ⟨"PathTrust$Parser","isWord","(Ljava/lang/String;)Z"⟩ prog_6_method_13_code 3 (Option.some FieldType.boolean)) := ⟨List.mem_of_getElem? (i := 772) (by decide +kernel), by decide +kernel⟩
theorem wd_773 : zL (Cond.methodLink "PathTrust$Parser" 166 ⟨"java/lang/String","length","()I"⟩) := ⟨List.mem_of_getElem? (i := 773) (by decide +kernel), by decide +kernel⟩
theorem wd_774 : zL (Cond.methodLink "PathTrust$Parser" 172 ⟨"java/lang/String","charAt","(I)C"⟩) := ⟨List.mem_of_getElem? (i := 774) (by decide +kernel), by decide +kernel⟩
theorem wd_775 : zL (Cond.methodLink "PathTrust$Parser" 73 ⟨"PathTrust$Parser","fail","(I)Z"⟩) := ⟨List.mem_of_getElem? (i := 775) (by decide +kernel), by decide +kernel⟩
theorem wd_777 : zL (Cond.instanceMethod ⟨"PathTrust$Parser","fail","(I)Z"⟩) := ⟨List.mem_of_getElem? (i := 777) (by decide +kernel), by decide +kernel⟩
theorem wd_778 : zL (Cond.code ⟨"PathTrust$Parser","fail","(I)Z"⟩ prog_6_method_14_code 2 (Option.some FieldType.boolean)) := ⟨List.mem_of_getElem? (i := 778) (by decide +kernel), by decide +kernel⟩
theorem wd_780 : zL (Cond.methodLink "PathTrust$Parser" 84 ⟨"PathTrust$Parser","readRule","(Ljava/lang/String;I)Z"⟩) := ⟨List.mem_of_getElem? (i := 780) (by decide +kernel), by decide +kernel⟩
theorem wd_782 : zL (Cond.instanceMethod ⟨"PathTrust$Parser","readRule","(Ljava/lang/String;I)Z"⟩) := ⟨List.mem_of_getElem? (i := 782) (by decide +kernel), by decide +kernel⟩
theorem wd_783 : zL (Cond.code ⟨"PathTrust$Parser","readRule","(Ljava/lang/String;I)Z"⟩ prog_6_method_4_code 3 (Option.some FieldType.boolean)) := ⟨List.mem_of_getElem? (i := 783) (by decide +kernel), by decide +kernel⟩
theorem wd_784 : zL (Cond.fieldLinkNest "PathTrust$Parser" 99 "PathTrust" "RULE_FROM" "[I" "PathTrust") := ⟨List.mem_of_getElem? (i := 784) (by decide +kernel), by decide +kernel⟩
theorem wd_786 : zL (Cond.fieldLinkNest "PathTrust$Parser" 103 "PathTrust" "RULE_TO" "[I" "PathTrust") := ⟨List.mem_of_getElem? (i := 786) (by decide +kernel), by decide +kernel⟩
theorem wd_788 : zL (Cond.methodLink "PathTrust$Parser" 106 ⟨"PathTrust$Parser","readNumber","(II)Z"⟩) := ⟨List.mem_of_getElem? (i := 788) (by decide +kernel), by decide +kernel⟩
theorem wd_790 : zL (Cond.instanceMethod ⟨"PathTrust$Parser","readNumber","(II)Z"⟩) := ⟨List.mem_of_getElem? (i := 790) (by decide +kernel), by decide +kernel⟩
theorem wd_791 : zL (Cond.code ⟨"PathTrust$Parser","readNumber","(II)Z"⟩ prog_6_method_10_code 5 (Option.some FieldType.boolean)) := ⟨List.mem_of_getElem? (i := 791) (by decide +kernel), by decide +kernel⟩
theorem wd_792 : zL (Cond.methodLink "PathTrust$Parser" 161 ⟨"java/lang/Math","min","(II)I"⟩) := ⟨List.mem_of_getElem? (i := 792) (by decide +kernel), by decide +kernel⟩
theorem wd_793 : zL (Cond.methodLinkNest "PathTrust$Parser" 113 ⟨"PathTrust$Desk","putRule","(II)V"⟩ "PathTrust") := ⟨List.mem_of_getElem? (i := 793) (by decide +kernel), by decide +kernel⟩
theorem wd_798 : zL (Cond.methodLink "PathTrust$Parser" 96 ⟨"PathTrust$Parser","readSemicolon","()Z"⟩) := ⟨List.mem_of_getElem? (i := 798) (by decide +kernel), by decide +kernel⟩
theorem wd_800 : zL (Cond.instanceMethod ⟨"PathTrust$Parser","readSemicolon","()Z"⟩) := ⟨List.mem_of_getElem? (i := 800) (by decide +kernel), by decide +kernel⟩
theorem wd_801 : zL (Cond.code ⟨"PathTrust$Parser","readSemicolon","()Z"⟩ prog_6_method_9_code 1 (Option.some FieldType.boolean)) := ⟨List.mem_of_getElem? (i := 801) (by decide +kernel), by decide +kernel⟩
theorem wd_803 : zL (Cond.methodLink "PathTrust$Parser" 54 ⟨"PathTrust$Parser","readNewName","(LPathTrust$Names;)Z"⟩) := ⟨List.mem_of_getElem? (i := 803) (by decide +kernel), by decide +kernel⟩
theorem wd_805 : zL (Cond.instanceMethod ⟨"PathTrust$Parser","readNewName","(LPathTrust$Names;)Z"⟩) := ⟨List.mem_of_getElem? (i := 805) (by decide +kernel), by decide +kernel⟩
theorem wd_806 : zL (Cond.code ⟨"PathTrust$Parser","readNewName","(LPathTrust$Names;)Z"⟩ prog_6_method_5_code 3 (Option.some FieldType.boolean)) := ⟨List.mem_of_getElem? (i := 806) (by decide +kernel), by decide +kernel⟩
theorem wd_807 : zL (Cond.methodLink "PathTrust$Parser" 122 ⟨"PathTrust$Parser","isName","()Z"⟩) := ⟨List.mem_of_getElem? (i := 807) (by decide +kernel), by decide +kernel⟩
theorem wd_809 : zL (Cond.instanceMethod ⟨"PathTrust$Parser","isName","()Z"⟩) := ⟨List.mem_of_getElem? (i := 809) (by decide +kernel), by decide +kernel⟩
theorem wd_810 : zL (Cond.code ⟨"PathTrust$Parser","isName","()Z"⟩ prog_6_method_12_code 2 (Option.some FieldType.boolean)) := ⟨List.mem_of_getElem? (i := 810) (by decide +kernel), by decide +kernel⟩
theorem wd_815 : zL (Cond.methodLinkNest "PathTrust$Parser" 128 ⟨"PathTrust$Buffer","nameCode","(II)I"⟩ "PathTrust") := ⟨List.mem_of_getElem? (i := 815) (by decide +kernel), by decide +kernel⟩
theorem wd_817 : zL (Cond.instanceMethod ⟨"PathTrust$Buffer","nameCode","(II)I"⟩) := ⟨List.mem_of_getElem? (i := 817) (by decide +kernel), by decide +kernel⟩
theorem wd_818 : zL (Cond.code ⟨"PathTrust$Buffer","nameCode","(II)I"⟩ prog_2_method_7_code 7 (Option.some FieldType.int)) := ⟨List.mem_of_getElem? (i := 818) (by decide +kernel), by decide +kernel⟩
theorem wd_819 : zL (Cond.methodLink "PathTrust$Buffer" 24 ⟨"PathTrust$Buffer","at","(I)I"⟩) := ⟨List.mem_of_getElem? (i := 819) (by decide +kernel), by decide +kernel⟩
theorem wd_820 : zL (Cond.methodLinkNest "PathTrust$Parser" 134 ⟨"PathTrust$Names","find","(I)I"⟩ "PathTrust") := ⟨List.mem_of_getElem? (i := 820) (by decide +kernel), by decide +kernel⟩
theorem wd_822 : zL (Cond.instanceMethod ⟨"PathTrust$Names","find","(I)I"⟩) := ⟨List.mem_of_getElem? (i := 822) (by decide +kernel), by decide +kernel⟩
theorem wd_823 : zL (Cond.code ⟨"PathTrust$Names","find","(I)I"⟩ prog_5_method_2_code 3 (Option.some FieldType.int)) := ⟨List.mem_of_getElem? (i := 823) (by decide +kernel), by decide +kernel⟩
theorem wd_824 : zL (Cond.methodLinkNest "PathTrust$Parser" 138 ⟨"PathTrust$Names","add","(I)V"⟩ "PathTrust") := ⟨List.mem_of_getElem? (i := 824) (by decide +kernel), by decide +kernel⟩
theorem wd_826 : zL (Cond.instanceMethod ⟨"PathTrust$Names","add","(I)V"⟩) := ⟨List.mem_of_getElem? (i := 826) (by decide +kernel), by decide +kernel⟩
theorem wd_827 : zL (Cond.code ⟨"PathTrust$Names","add","(I)V"⟩ prog_5_method_3_code 2 (Option.none : Option FieldType)) := ⟨List.mem_of_getElem? (i := 827) (by decide +kernel), by decide +kernel⟩
theorem wd_828 : zL (Cond.methodLink "PathTrust$Parser" 65 ⟨"PathTrust$Parser","readLink","()Z"⟩) := ⟨List.mem_of_getElem? (i := 828) (by decide +kernel), by decide +kernel⟩
theorem wd_830 : zL (Cond.instanceMethod ⟨"PathTrust$Parser","readLink","()Z"⟩) := ⟨List.mem_of_getElem? (i := 830) (by decide +kernel), by decide +kernel⟩
theorem wd_831 : zL (Cond.code ⟨"PathTrust$Parser","readLink","()Z"⟩ prog_6_method_6_code 4 (Option.some FieldType.boolean)) := ⟨List.mem_of_getElem? (i := 831) (by decide +kernel), by decide +kernel⟩
theorem wd_832 : zL (Cond.methodLink "PathTrust$Parser" 142 ⟨"PathTrust$Parser","isNameOf","(LPathTrust$Names;)Z"⟩) := ⟨List.mem_of_getElem? (i := 832) (by decide +kernel), by decide +kernel⟩
theorem wd_834 : zL (Cond.instanceMethod ⟨"PathTrust$Parser","isNameOf","(LPathTrust$Names;)Z"⟩) := ⟨List.mem_of_getElem? (i := 834) (by decide +kernel), by decide +kernel⟩
theorem wd_835 : zL (Cond.code ⟨"PathTrust$Parser","isNameOf","(LPathTrust$Names;)Z"⟩ prog_6_method_11_code 2 (Option.some FieldType.boolean)) := ⟨List.mem_of_getElem? (i := 835) (by decide +kernel), by decide +kernel⟩
theorem wd_836 : zL (Cond.methodLinkNest "PathTrust$Parser" 145 ⟨"PathTrust$Desk","isLinked","(II)Z"⟩ "PathTrust") := ⟨List.mem_of_getElem? (i := 836) (by decide +kernel), by decide +kernel⟩
theorem wd_838 : zL (Cond.instanceMethod ⟨"PathTrust$Desk","isLinked","(II)Z"⟩) := ⟨List.mem_of_getElem? (i := 838) (by decide +kernel), by decide +kernel⟩
theorem wd_839 : zL (Cond.code ⟨"PathTrust$Desk","isLinked","(II)Z"⟩ prog_3_method_9_code 3 (Option.some FieldType.boolean)) := ⟨List.mem_of_getElem? (i := 839) (by decide +kernel), by decide +kernel⟩
theorem wd_840 : zL (Cond.methodLink "PathTrust$Desk" 98 ⟨"PathTrust$Desk","trustIn","(II)I"⟩) := ⟨List.mem_of_getElem? (i := 840) (by decide +kernel), by decide +kernel⟩
theorem wd_842 : zL (Cond.instanceMethod ⟨"PathTrust$Desk","trustIn","(II)I"⟩) := ⟨List.mem_of_getElem? (i := 842) (by decide +kernel), by decide +kernel⟩
theorem wd_843 : zL (Cond.code ⟨"PathTrust$Desk","trustIn","(II)I"⟩ prog_3_method_7_code 4 (Option.some FieldType.int)) := ⟨List.mem_of_getElem? (i := 843) (by decide +kernel), by decide +kernel⟩
theorem wd_844 : zL (Cond.methodLinkNest "PathTrust$Parser" 150 ⟨"PathTrust$Desk","putTrust","(III)V"⟩ "PathTrust") := ⟨List.mem_of_getElem? (i := 844) (by decide +kernel), by decide +kernel⟩
theorem wd_846 : zL (Cond.instanceMethod ⟨"PathTrust$Desk","putTrust","(III)V"⟩) := ⟨List.mem_of_getElem? (i := 846) (by decide +kernel), by decide +kernel⟩
theorem wd_847 : zL (Cond.code ⟨"PathTrust$Desk","putTrust","(III)V"⟩ prog_3_method_8_code 5 (Option.none : Option FieldType)) := ⟨List.mem_of_getElem? (i := 847) (by decide +kernel), by decide +kernel⟩
theorem wd_848 : zL (Cond.methodLink "PathTrust$Parser" 70 ⟨"PathTrust$Parser","readProbe","()Z"⟩) := ⟨List.mem_of_getElem? (i := 848) (by decide +kernel), by decide +kernel⟩
theorem wd_850 : zL (Cond.instanceMethod ⟨"PathTrust$Parser","readProbe","()Z"⟩) := ⟨List.mem_of_getElem? (i := 850) (by decide +kernel), by decide +kernel⟩
theorem wd_851 : zL (Cond.code ⟨"PathTrust$Parser","readProbe","()Z"⟩ prog_6_method_7_code 4 (Option.some FieldType.boolean)) := ⟨List.mem_of_getElem? (i := 851) (by decide +kernel), by decide +kernel⟩
theorem wd_852 : zL (Cond.methodLinkNest "PathTrust$Parser" 154 ⟨"PathTrust$Desk","makeProbe","(IIII)I"⟩ "PathTrust") := ⟨List.mem_of_getElem? (i := 852) (by decide +kernel), by decide +kernel⟩
theorem wd_854 : zL (Cond.instanceMethod ⟨"PathTrust$Desk","makeProbe","(IIII)I"⟩) := ⟨List.mem_of_getElem? (i := 854) (by decide +kernel), by decide +kernel⟩
theorem wd_855 : zL (Cond.code ⟨"PathTrust$Desk","makeProbe","(IIII)I"⟩ prog_3_method_18_code 9 (Option.some FieldType.int)) := ⟨List.mem_of_getElem? (i := 855) (by decide +kernel), by decide +kernel⟩
theorem wd_856 : zL (Cond.methodLinkNest "PathTrust$Desk" 118 ⟨"PathTrust$Reports","rowOf","(II)I"⟩ "PathTrust") := ⟨List.mem_of_getElem? (i := 856) (by decide +kernel), by decide +kernel⟩
theorem wd_858 : zL (Cond.instanceMethod ⟨"PathTrust$Reports","rowOf","(II)I"⟩) := ⟨List.mem_of_getElem? (i := 858) (by decide +kernel), by decide +kernel⟩
theorem wd_859 : zL (Cond.code ⟨"PathTrust$Reports","rowOf","(II)I"⟩ prog_7_method_5_code 4 (Option.some FieldType.int)) := ⟨List.mem_of_getElem? (i := 859) (by decide +kernel), by decide +kernel⟩
theorem wd_860 : zL (Cond.methodLink "PathTrust$Reports" 19 ⟨"PathTrust$Reports","get","(II)I"⟩) := ⟨List.mem_of_getElem? (i := 860) (by decide +kernel), by decide +kernel⟩
theorem wd_862 : zL (Cond.instanceMethod ⟨"PathTrust$Reports","get","(II)I"⟩) := ⟨List.mem_of_getElem? (i := 862) (by decide +kernel), by decide +kernel⟩
theorem wd_863 : zL (Cond.code ⟨"PathTrust$Reports","get","(II)I"⟩ prog_7_method_3_code 4 (Option.some FieldType.int)) := ⟨List.mem_of_getElem? (i := 863) (by decide +kernel), by decide +kernel⟩
theorem wd_864 : zL (Cond.methodLinkNest "PathTrust$Desk" 121 ⟨"PathTrust$Reports","removeRow","(I)V"⟩ "PathTrust") := ⟨List.mem_of_getElem? (i := 864) (by decide +kernel), by decide +kernel⟩
theorem wd_866 : zL (Cond.instanceMethod ⟨"PathTrust$Reports","removeRow","(I)V"⟩) := ⟨List.mem_of_getElem? (i := 866) (by decide +kernel), by decide +kernel⟩
theorem wd_867 : zL (Cond.code ⟨"PathTrust$Reports","removeRow","(I)V"⟩ prog_7_method_8_code 2 (Option.none : Option FieldType)) := ⟨List.mem_of_getElem? (i := 867) (by decide +kernel), by decide +kernel⟩
theorem wd_868 : zL (Cond.methodLink "PathTrust$Reports" 35 ⟨"PathTrust$Reports","closeGap","(II)V"⟩) := ⟨List.mem_of_getElem? (i := 868) (by decide +kernel), by decide +kernel⟩
theorem wd_870 : zL (Cond.instanceMethod ⟨"PathTrust$Reports","closeGap","(II)V"⟩) := ⟨List.mem_of_getElem? (i := 870) (by decide +kernel), by decide +kernel⟩
theorem wd_871 : zL (Cond.code ⟨"PathTrust$Reports","closeGap","(II)V"⟩ prog_7_method_10_code 6 (Option.none : Option FieldType)) := ⟨List.mem_of_getElem? (i := 871) (by decide +kernel), by decide +kernel⟩
theorem wd_872 : zL (Cond.methodLink "PathTrust$Reports" 47 ⟨"java/lang/System","arraycopy","(Ljava/lang/Object;ILjava/lang/Object;II)V"⟩) := ⟨List.mem_of_getElem? (i := 872) (by decide +kernel), by decide +kernel⟩
theorem wd_873 : zL (Cond.methodLinkNest "PathTrust$Desk" 124 ⟨"PathTrust$Reports","addRow","()I"⟩ "PathTrust") := ⟨List.mem_of_getElem? (i := 873) (by decide +kernel), by decide +kernel⟩
theorem wd_875 : zL (Cond.instanceMethod ⟨"PathTrust$Reports","addRow","()I"⟩) := ⟨List.mem_of_getElem? (i := 875) (by decide +kernel), by decide +kernel⟩
theorem wd_876 : zL (Cond.code ⟨"PathTrust$Reports","addRow","()I"⟩ prog_7_method_6_code 1 (Option.some FieldType.int)) := ⟨List.mem_of_getElem? (i := 876) (by decide +kernel), by decide +kernel⟩
theorem wd_877 : zL (Cond.methodLink "PathTrust$Reports" 23 ⟨"PathTrust$Reports","isFull","()Z"⟩) := ⟨List.mem_of_getElem? (i := 877) (by decide +kernel), by decide +kernel⟩
theorem wd_879 : zL (Cond.instanceMethod ⟨"PathTrust$Reports","isFull","()Z"⟩) := ⟨List.mem_of_getElem? (i := 879) (by decide +kernel), by decide +kernel⟩
theorem wd_880 : zL (Cond.code ⟨"PathTrust$Reports","isFull","()Z"⟩ prog_7_method_2_code 1 (Option.some FieldType.boolean)) := ⟨List.mem_of_getElem? (i := 880) (by decide +kernel), by decide +kernel⟩
theorem wd_881 : zL (Cond.methodLinkNest "PathTrust$Desk" 128 ⟨"PathTrust$Reports","put","(III)V"⟩ "PathTrust") := ⟨List.mem_of_getElem? (i := 881) (by decide +kernel), by decide +kernel⟩
theorem wd_883 : zL (Cond.instanceMethod ⟨"PathTrust$Reports","put","(III)V"⟩) := ⟨List.mem_of_getElem? (i := 883) (by decide +kernel), by decide +kernel⟩
theorem wd_884 : zL (Cond.code ⟨"PathTrust$Reports","put","(III)V"⟩ prog_7_method_4_code 5 (Option.none : Option FieldType)) := ⟨List.mem_of_getElem? (i := 884) (by decide +kernel), by decide +kernel⟩
theorem wd_885 : zL (Cond.methodLink "PathTrust$Desk" 132 ⟨"PathTrust$Desk","tally","(II)V"⟩) := ⟨List.mem_of_getElem? (i := 885) (by decide +kernel), by decide +kernel⟩
theorem wd_887 : zL (Cond.instanceMethod ⟨"PathTrust$Desk","tally","(II)V"⟩) := ⟨List.mem_of_getElem? (i := 887) (by decide +kernel), by decide +kernel⟩
theorem wd_888 : zL (Cond.code ⟨"PathTrust$Desk","tally","(II)V"⟩ prog_3_method_13_code 4 (Option.none : Option FieldType)) := ⟨List.mem_of_getElem? (i := 888) (by decide +kernel), by decide +kernel⟩
theorem wd_889 : zL (Cond.methodLink "PathTrust$Desk" 108 ⟨"PathTrust$Desk","accountPlace","(II)I"⟩) := ⟨List.mem_of_getElem? (i := 889) (by decide +kernel), by decide +kernel⟩
theorem wd_890 : zL (Cond.static ⟨"PathTrust$Desk","accountPlace","(II)I"⟩) := ⟨List.mem_of_getElem? (i := 890) (by decide +kernel), by decide +kernel⟩
theorem wd_891 : zL (Cond.code ⟨"PathTrust$Desk","accountPlace","(II)I"⟩ prog_3_method_14_code 3 (Option.some FieldType.int)) := ⟨List.mem_of_getElem? (i := 891) (by decide +kernel), by decide +kernel⟩
theorem wd_892 : zL (Cond.methodLinkNest "PathTrust$Desk" 111 ⟨"PathTrust$Reports","get","(II)I"⟩ "PathTrust") := ⟨List.mem_of_getElem? (i := 892) (by decide +kernel), by decide +kernel⟩
theorem wd_893 : zL (Cond.methodLink "PathTrust$Desk" 135 ⟨"PathTrust$Desk","judge","(III)Z"⟩) := ⟨List.mem_of_getElem? (i := 893) (by decide +kernel), by decide +kernel⟩
theorem wd_895 : zL (Cond.instanceMethod ⟨"PathTrust$Desk","judge","(III)Z"⟩) := ⟨List.mem_of_getElem? (i := 895) (by decide +kernel), by decide +kernel⟩
theorem wd_896 : zL (Cond.code ⟨"PathTrust$Desk","judge","(III)Z"⟩ prog_3_method_19_code 12 (Option.some FieldType.boolean)) := ⟨List.mem_of_getElem? (i := 896) (by decide +kernel), by decide +kernel⟩
theorem wd_897 : zL (Cond.methodLink "PathTrust$Desk" 101 ⟨"PathTrust$Desk","isLinked","(II)Z"⟩) := ⟨List.mem_of_getElem? (i := 897) (by decide +kernel), by decide +kernel⟩
theorem wd_898 : zL (Cond.methodLink "PathTrust$Desk" 114 ⟨"PathTrust$Desk","driftOf","(LPathTrust$Reports;I)I"⟩) := ⟨List.mem_of_getElem? (i := 898) (by decide +kernel), by decide +kernel⟩
theorem wd_900 : zL (Cond.instanceMethod ⟨"PathTrust$Desk","driftOf","(LPathTrust$Reports;I)I"⟩) := ⟨List.mem_of_getElem? (i := 900) (by decide +kernel), by decide +kernel⟩
theorem wd_901 : zL (Cond.code ⟨"PathTrust$Desk","driftOf","(LPathTrust$Reports;I)I"⟩ prog_3_method_16_code 3 (Option.some FieldType.int)) := ⟨List.mem_of_getElem? (i := 901) (by decide +kernel), by decide +kernel⟩
theorem wd_902 : zL (Cond.methodLink "PathTrust$Desk" 75 ⟨"PathTrust$Desk","rule","(I)I"⟩) := ⟨List.mem_of_getElem? (i := 902) (by decide +kernel), by decide +kernel⟩
theorem wd_904 : zL (Cond.instanceMethod ⟨"PathTrust$Desk","rule","(I)I"⟩) := ⟨List.mem_of_getElem? (i := 904) (by decide +kernel), by decide +kernel⟩
theorem wd_905 : zL (Cond.code ⟨"PathTrust$Desk","rule","(I)I"⟩ prog_3_method_4_code 2 (Option.some FieldType.int)) := ⟨List.mem_of_getElem? (i := 905) (by decide +kernel), by decide +kernel⟩
theorem wd_906 : zL (Cond.methodLinkNest "PathTrust$Desk" 139 ⟨"PathTrust$Reports","lowMoved","(II)I"⟩ "PathTrust") := ⟨List.mem_of_getElem? (i := 906) (by decide +kernel), by decide +kernel⟩
theorem wd_908 : zL (Cond.instanceMethod ⟨"PathTrust$Reports","lowMoved","(II)I"⟩) := ⟨List.mem_of_getElem? (i := 908) (by decide +kernel), by decide +kernel⟩
theorem wd_909 : zL (Cond.code ⟨"PathTrust$Reports","lowMoved","(II)I"⟩ prog_7_method_12_code 3 (Option.some FieldType.int)) := ⟨List.mem_of_getElem? (i := 909) (by decide +kernel), by decide +kernel⟩
theorem wd_910 : zL (Cond.methodLink "PathTrust$Reports" 44 ⟨"java/lang/Math","max","(II)I"⟩) := ⟨List.mem_of_getElem? (i := 910) (by decide +kernel), by decide +kernel⟩
theorem wd_911 : zL (Cond.methodLink "PathTrust$Desk" 142 ⟨"java/lang/Math","max","(II)I"⟩) := ⟨List.mem_of_getElem? (i := 911) (by decide +kernel), by decide +kernel⟩
theorem wd_912 : zL (Cond.methodLinkNest "PathTrust$Desk" 145 ⟨"PathTrust$Reports","highMoved","(II)I"⟩ "PathTrust") := ⟨List.mem_of_getElem? (i := 912) (by decide +kernel), by decide +kernel⟩
theorem wd_914 : zL (Cond.instanceMethod ⟨"PathTrust$Reports","highMoved","(II)I"⟩) := ⟨List.mem_of_getElem? (i := 914) (by decide +kernel), by decide +kernel⟩
theorem wd_915 : zL (Cond.code ⟨"PathTrust$Reports","highMoved","(II)I"⟩ prog_7_method_13_code 3 (Option.some FieldType.int)) := ⟨List.mem_of_getElem? (i := 915) (by decide +kernel), by decide +kernel⟩
theorem wd_916 : zL (Cond.methodLink "PathTrust$Reports" 39 ⟨"java/lang/Math","min","(II)I"⟩) := ⟨List.mem_of_getElem? (i := 916) (by decide +kernel), by decide +kernel⟩
theorem wd_917 : zL (Cond.methodLink "PathTrust$Desk" 83 ⟨"java/lang/Math","min","(II)I"⟩) := ⟨List.mem_of_getElem? (i := 917) (by decide +kernel), by decide +kernel⟩
theorem wd_918 : zL (Cond.methodLink "PathTrust$Desk" 148 ⟨"PathTrust$Desk","putTrust","(III)V"⟩) := ⟨List.mem_of_getElem? (i := 918) (by decide +kernel), by decide +kernel⟩
theorem wd_919 : zL (Cond.methodLinkNest "PathTrust" 80 ⟨"PathTrust$History","push","(LPathTrust$Desk;)V"⟩ "PathTrust") := ⟨List.mem_of_getElem? (i := 919) (by decide +kernel), by decide +kernel⟩
theorem wd_921 : zL (Cond.instanceMethod ⟨"PathTrust$History","push","(LPathTrust$Desk;)V"⟩) := ⟨List.mem_of_getElem? (i := 921) (by decide +kernel), by decide +kernel⟩
theorem wd_922 : zL (Cond.code ⟨"PathTrust$History","push","(LPathTrust$Desk;)V"⟩ prog_4_method_2_code 3 (Option.none : Option FieldType)) := ⟨List.mem_of_getElem? (i := 922) (by decide +kernel), by decide +kernel⟩
theorem wd_923 : zL (Cond.methodLink "PathTrust$History" 21 ⟨"PathTrust$History","dropOldest","()V"⟩) := ⟨List.mem_of_getElem? (i := 923) (by decide +kernel), by decide +kernel⟩
theorem wd_925 : zL (Cond.instanceMethod ⟨"PathTrust$History","dropOldest","()V"⟩) := ⟨List.mem_of_getElem? (i := 925) (by decide +kernel), by decide +kernel⟩
theorem wd_926 : zL (Cond.code ⟨"PathTrust$History","dropOldest","()V"⟩ prog_4_method_3_code 3 (Option.none : Option FieldType)) := ⟨List.mem_of_getElem? (i := 926) (by decide +kernel), by decide +kernel⟩
theorem wd_927 : zL (Cond.methodLinkNest "PathTrust$History" 24 ⟨"PathTrust$Desk","<init>","()V"⟩ "PathTrust") := ⟨List.mem_of_getElem? (i := 927) (by decide +kernel), by decide +kernel⟩
theorem wd_928 : zL (Cond.methodLinkNest "PathTrust$History" 25 ⟨"PathTrust$Desk","become","(LPathTrust$Desk;)V"⟩ "PathTrust") := ⟨List.mem_of_getElem? (i := 928) (by decide +kernel), by decide +kernel⟩
theorem wd_930 : zL (Cond.instanceMethod ⟨"PathTrust$Desk","become","(LPathTrust$Desk;)V"⟩) := ⟨List.mem_of_getElem? (i := 930) (by decide +kernel), by decide +kernel⟩
theorem wd_931 : zL (Cond.code ⟨"PathTrust$Desk","become","(LPathTrust$Desk;)V"⟩ prog_3_method_3_code 3 (Option.none : Option FieldType)) := ⟨List.mem_of_getElem? (i := 931) (by decide +kernel), by decide +kernel⟩
theorem wd_932 : zL (Cond.methodLinkNest "PathTrust$Desk" 79 ⟨"PathTrust$Names","copyFrom","(LPathTrust$Names;)V"⟩ "PathTrust") := ⟨List.mem_of_getElem? (i := 932) (by decide +kernel), by decide +kernel⟩
theorem wd_934 : zL (Cond.instanceMethod ⟨"PathTrust$Names","copyFrom","(LPathTrust$Names;)V"⟩) := ⟨List.mem_of_getElem? (i := 934) (by decide +kernel), by decide +kernel⟩
theorem wd_935 : zL (Cond.code ⟨"PathTrust$Names","copyFrom","(LPathTrust$Names;)V"⟩ prog_5_method_5_code 2 (Option.none : Option FieldType)) := ⟨List.mem_of_getElem? (i := 935) (by decide +kernel), by decide +kernel⟩
theorem wd_936 : zL (Cond.methodLink "PathTrust$Names" 19 ⟨"java/lang/Math","min","(II)I"⟩) := ⟨List.mem_of_getElem? (i := 936) (by decide +kernel), by decide +kernel⟩
theorem wd_937 : zL (Cond.methodLink "PathTrust$Names" 25 ⟨"java/lang/System","arraycopy","(Ljava/lang/Object;ILjava/lang/Object;II)V"⟩) := ⟨List.mem_of_getElem? (i := 937) (by decide +kernel), by decide +kernel⟩
theorem wd_938 : zL (Cond.methodLink "PathTrust$Desk" 89 ⟨"java/lang/System","arraycopy","(Ljava/lang/Object;ILjava/lang/Object;II)V"⟩) := ⟨List.mem_of_getElem? (i := 938) (by decide +kernel), by decide +kernel⟩
theorem wd_939 : zL (Cond.methodLinkNest "PathTrust$Desk" 95 ⟨"PathTrust$Reports","copyFrom","(LPathTrust$Reports;)V"⟩ "PathTrust") := ⟨List.mem_of_getElem? (i := 939) (by decide +kernel), by decide +kernel⟩
theorem wd_941 : zL (Cond.instanceMethod ⟨"PathTrust$Reports","copyFrom","(LPathTrust$Reports;)V"⟩) := ⟨List.mem_of_getElem? (i := 941) (by decide +kernel), by decide +kernel⟩
theorem wd_942 : zL (Cond.code ⟨"PathTrust$Reports","copyFrom","(LPathTrust$Reports;)V"⟩ prog_7_method_14_code 3 (Option.none : Option FieldType)) := ⟨List.mem_of_getElem? (i := 942) (by decide +kernel), by decide +kernel⟩
theorem wd_943 : zL (Cond.methodLinkNest "PathTrust" 84 ⟨"PathTrust$Desk","become","(LPathTrust$Desk;)V"⟩ "PathTrust") := ⟨List.mem_of_getElem? (i := 943) (by decide +kernel), by decide +kernel⟩
theorem wd_944 : zL (Cond.methodLink "PathTrustLaw" 98 ⟨"PathTrust","errorCode","()I"⟩) := ⟨List.mem_of_getElem? (i := 944) (by decide +kernel), by decide +kernel⟩
theorem wd_945 : zL (Cond.instanceMethod ⟨"PathTrust","errorCode","()I"⟩) := ⟨List.mem_of_getElem? (i := 945) (by decide +kernel), by decide +kernel⟩
theorem wd_946 : zL (Cond.selects "PathTrust" ⟨"PathTrust","errorCode","()I"⟩ ⟨"PathTrust","errorCode","()I"⟩) := ⟨List.mem_of_getElem? (i := 946) (by decide +kernel), by decide +kernel⟩
theorem wd_947 : zL (Cond.code ⟨"PathTrust","errorCode","()I"⟩ prog_1_method_5_code 1 (Option.some FieldType.int)) := ⟨List.mem_of_getElem? (i := 947) (by decide +kernel), by decide +kernel⟩
theorem wd_948 : zL (Cond.methodLink "PathTrustLaw" 101 ⟨"PathTrust","errorPosition","()I"⟩) := ⟨List.mem_of_getElem? (i := 948) (by decide +kernel), by decide +kernel⟩
theorem wd_949 : zL (Cond.instanceMethod ⟨"PathTrust","errorPosition","()I"⟩) := ⟨List.mem_of_getElem? (i := 949) (by decide +kernel), by decide +kernel⟩
theorem wd_950 : zL (Cond.selects "PathTrust" ⟨"PathTrust","errorPosition","()I"⟩ ⟨"PathTrust","errorPosition","()I"⟩) := ⟨List.mem_of_getElem? (i := 950) (by decide +kernel), by decide +kernel⟩
theorem wd_951 : zL (Cond.code ⟨"PathTrust","errorPosition","()I"⟩ prog_1_method_6_code 1 (Option.some FieldType.int)) := ⟨List.mem_of_getElem? (i := 951) (by decide +kernel), by decide +kernel⟩
theorem wd_952 : zL (Cond.methodLink "PathTrustLaw" 104 ⟨"PathTrust","property","(I)I"⟩) := ⟨List.mem_of_getElem? (i := 952) (by decide +kernel), by decide +kernel⟩
theorem wd_953 : zL (Cond.instanceMethod ⟨"PathTrust","property","(I)I"⟩) := ⟨List.mem_of_getElem? (i := 953) (by decide +kernel), by decide +kernel⟩
theorem wd_954 : zL (Cond.selects "PathTrust" ⟨"PathTrust","property","(I)I"⟩ ⟨"PathTrust","property","(I)I"⟩) := ⟨List.mem_of_getElem? (i := 954) (by decide +kernel), by decide +kernel⟩
theorem wd_955 : zL (Cond.code ⟨"PathTrust","property","(I)I"⟩ prog_1_method_9_code 2 (Option.some FieldType.int)) := ⟨List.mem_of_getElem? (i := 955) (by decide +kernel), by decide +kernel⟩
theorem wd_956 : zL (Cond.methodLinkNest "PathTrust" 119 ⟨"PathTrust$Desk","linkCount","()I"⟩ "PathTrust") := ⟨List.mem_of_getElem? (i := 956) (by decide +kernel), by decide +kernel⟩
theorem wd_958 : zL (Cond.instanceMethod ⟨"PathTrust$Desk","linkCount","()I"⟩) := ⟨List.mem_of_getElem? (i := 958) (by decide +kernel), by decide +kernel⟩
theorem wd_959 : zL (Cond.code ⟨"PathTrust$Desk","linkCount","()I"⟩ prog_3_method_10_code 4 (Option.some FieldType.int)) := ⟨List.mem_of_getElem? (i := 959) (by decide +kernel), by decide +kernel⟩
theorem wd_960 : zL (Cond.methodLinkNest "PathTrust" 123 ⟨"PathTrust$Desk","rule","(I)I"⟩ "PathTrust") := ⟨List.mem_of_getElem? (i := 960) (by decide +kernel), by decide +kernel⟩
theorem wd_961 : zL (Cond.methodLink "PathTrustLaw" 263 ⟨"PathTrustLaw","act","(LPathTrust;[II)I"⟩) := ⟨List.mem_of_getElem? (i := 961) (by decide +kernel), by decide +kernel⟩
theorem wd_962 : zL (Cond.static ⟨"PathTrustLaw","act","(LPathTrust;[II)I"⟩) := ⟨List.mem_of_getElem? (i := 962) (by decide +kernel), by decide +kernel⟩
theorem wd_963 : zL (Cond.code ⟨"PathTrustLaw","act","(LPathTrust;[II)I"⟩ method_6_code 7 (Option.some FieldType.int)) := ⟨List.mem_of_getElem? (i := 963) (by decide +kernel), by decide +kernel⟩
theorem wd_964 : zL (Cond.methodLink "PathTrustLaw" 108 ⟨"PathTrust","probe","(IIII)I"⟩) := ⟨List.mem_of_getElem? (i := 964) (by decide +kernel), by decide +kernel⟩
theorem wd_965 : zL (Cond.instanceMethod ⟨"PathTrust","probe","(IIII)I"⟩) := ⟨List.mem_of_getElem? (i := 965) (by decide +kernel), by decide +kernel⟩
theorem wd_966 : zL (Cond.selects "PathTrust" ⟨"PathTrust","probe","(IIII)I"⟩ ⟨"PathTrust","probe","(IIII)I"⟩) := ⟨List.mem_of_getElem? (i := 966) (by decide +kernel), by decide +kernel⟩
theorem wd_967 : zL (Cond.code ⟨"PathTrust","probe","(IIII)I"⟩ prog_1_method_42_code 5 (Option.some FieldType.int)) := ⟨List.mem_of_getElem? (i := 967) (by decide +kernel), by decide +kernel⟩
theorem wd_968 : zL (Cond.methodLink "PathTrust" 127 ⟨"PathTrust","checkAgent","(I)V"⟩) := ⟨List.mem_of_getElem? (i := 968) (by decide +kernel), by decide +kernel⟩
theorem wd_970 : zL (Cond.instanceMethod ⟨"PathTrust","checkAgent","(I)V"⟩) := ⟨List.mem_of_getElem? (i := 970) (by decide +kernel), by decide +kernel⟩
theorem wd_971 : zL (Cond.code ⟨"PathTrust","checkAgent","(I)V"⟩ prog_1_method_61_code 2 (Option.none : Option FieldType)) := ⟨List.mem_of_getElem? (i := 971) (by decide +kernel), by decide +kernel⟩
theorem wd_988 : zL (Cond.methodLink "PathTrust" 167 ⟨"PathTrust","checkWay","(I)V"⟩) := ⟨List.mem_of_getElem? (i := 988) (by decide +kernel), by decide +kernel⟩
theorem wd_990 : zL (Cond.instanceMethod ⟨"PathTrust","checkWay","(I)V"⟩) := ⟨List.mem_of_getElem? (i := 990) (by decide +kernel), by decide +kernel⟩
theorem wd_991 : zL (Cond.code ⟨"PathTrust","checkWay","(I)V"⟩ prog_1_method_62_code 2 (Option.none : Option FieldType)) := ⟨List.mem_of_getElem? (i := 991) (by decide +kernel), by decide +kernel⟩
theorem wd_993 : zL (Cond.methodLink "PathTrust" 227 ⟨"PathTrust","checkBounds","(II)V"⟩) := ⟨List.mem_of_getElem? (i := 993) (by decide +kernel), by decide +kernel⟩
theorem wd_994 : zL (Cond.static ⟨"PathTrust","checkBounds","(II)V"⟩) := ⟨List.mem_of_getElem? (i := 994) (by decide +kernel), by decide +kernel⟩
theorem wd_995 : zL (Cond.code ⟨"PathTrust","checkBounds","(II)V"⟩ prog_1_method_66_code 2 (Option.none : Option FieldType)) := ⟨List.mem_of_getElem? (i := 995) (by decide +kernel), by decide +kernel⟩
theorem wd_996 : zL (Cond.methodLinkNest "PathTrust" 230 ⟨"PathTrust$Desk","makeProbe","(IIII)I"⟩ "PathTrust") := ⟨List.mem_of_getElem? (i := 996) (by decide +kernel), by decide +kernel⟩
theorem wd_997 : zL (Cond.methodLink "PathTrustLaw" 112 ⟨"PathTrust","share","(I)I"⟩) := ⟨List.mem_of_getElem? (i := 997) (by decide +kernel), by decide +kernel⟩
theorem wd_998 : zL (Cond.instanceMethod ⟨"PathTrust","share","(I)I"⟩) := ⟨List.mem_of_getElem? (i := 998) (by decide +kernel), by decide +kernel⟩
theorem wd_999 : zL (Cond.selects "PathTrust" ⟨"PathTrust","share","(I)I"⟩ ⟨"PathTrust","share","(I)I"⟩) := ⟨List.mem_of_getElem? (i := 999) (by decide +kernel), by decide +kernel⟩
theorem wd_1000 : zL (Cond.code ⟨"PathTrust","share","(I)I"⟩ prog_1_method_43_code 2 (Option.some FieldType.int)) := ⟨List.mem_of_getElem? (i := 1000) (by decide +kernel), by decide +kernel⟩
theorem wd_1001 : zL (Cond.methodLinkNest "PathTrust" 246 ⟨"PathTrust$Desk","sendReports","(II)I"⟩ "PathTrust") := ⟨List.mem_of_getElem? (i := 1001) (by decide +kernel), by decide +kernel⟩
theorem wd_1003 : zL (Cond.instanceMethod ⟨"PathTrust$Desk","sendReports","(II)I"⟩) := ⟨List.mem_of_getElem? (i := 1003) (by decide +kernel), by decide +kernel⟩
theorem wd_1004 : zL (Cond.code ⟨"PathTrust$Desk","sendReports","(II)I"⟩ prog_3_method_20_code 6 (Option.some FieldType.int)) := ⟨List.mem_of_getElem? (i := 1004) (by decide +kernel), by decide +kernel⟩
theorem wd_1005 : zL (Cond.methodLink "PathTrust$Desk" 151 ⟨"PathTrust$Desk","sendReport","(ILPathTrust$Reports;I)V"⟩) := ⟨List.mem_of_getElem? (i := 1005) (by decide +kernel), by decide +kernel⟩
theorem wd_1007 : zL (Cond.instanceMethod ⟨"PathTrust$Desk","sendReport","(ILPathTrust$Reports;I)V"⟩) := ⟨List.mem_of_getElem? (i := 1007) (by decide +kernel), by decide +kernel⟩
theorem wd_1008 : zL (Cond.code ⟨"PathTrust$Desk","sendReport","(ILPathTrust$Reports;I)V"⟩ prog_3_method_21_code 7 (Option.none : Option FieldType)) := ⟨List.mem_of_getElem? (i := 1008) (by decide +kernel), by decide +kernel⟩
theorem wd_1009 : zL (Cond.methodLinkNest "PathTrust$Desk" 155 ⟨"PathTrust$Reports","isFull","()Z"⟩ "PathTrust") := ⟨List.mem_of_getElem? (i := 1009) (by decide +kernel), by decide +kernel⟩
theorem wd_1010 : zL (Cond.methodLinkNest "PathTrust$Desk" 159 ⟨"PathTrust$Reports","addCopy","(LPathTrust$Reports;I)I"⟩ "PathTrust") := ⟨List.mem_of_getElem? (i := 1010) (by decide +kernel), by decide +kernel⟩
theorem wd_1012 : zL (Cond.instanceMethod ⟨"PathTrust$Reports","addCopy","(LPathTrust$Reports;I)I"⟩) := ⟨List.mem_of_getElem? (i := 1012) (by decide +kernel), by decide +kernel⟩
theorem wd_1013 : zL (Cond.code ⟨"PathTrust$Reports","addCopy","(LPathTrust$Reports;I)I"⟩ prog_7_method_7_code 5 (Option.some FieldType.int)) := ⟨List.mem_of_getElem? (i := 1013) (by decide +kernel), by decide +kernel⟩
theorem wd_1014 : zL (Cond.methodLink "PathTrust$Reports" 27 ⟨"PathTrust$Reports","addRow","()I"⟩) := ⟨List.mem_of_getElem? (i := 1014) (by decide +kernel), by decide +kernel⟩
theorem wd_1015 : zL (Cond.methodLink "PathTrust$Reports" 31 ⟨"PathTrust$Reports","put","(III)V"⟩) := ⟨List.mem_of_getElem? (i := 1015) (by decide +kernel), by decide +kernel⟩
theorem wd_1016 : zL (Cond.methodLink "PathTrustLaw" 115 ⟨"PathTrust","relay","(I)I"⟩) := ⟨List.mem_of_getElem? (i := 1016) (by decide +kernel), by decide +kernel⟩
theorem wd_1017 : zL (Cond.instanceMethod ⟨"PathTrust","relay","(I)I"⟩) := ⟨List.mem_of_getElem? (i := 1017) (by decide +kernel), by decide +kernel⟩
theorem wd_1018 : zL (Cond.selects "PathTrust" ⟨"PathTrust","relay","(I)I"⟩ ⟨"PathTrust","relay","(I)I"⟩) := ⟨List.mem_of_getElem? (i := 1018) (by decide +kernel), by decide +kernel⟩
theorem wd_1019 : zL (Cond.code ⟨"PathTrust","relay","(I)I"⟩ prog_1_method_44_code 2 (Option.some FieldType.int)) := ⟨List.mem_of_getElem? (i := 1019) (by decide +kernel), by decide +kernel⟩
theorem wd_1020 : zL (Cond.methodLink "PathTrustLaw" 118 ⟨"PathTrust","deliver","(I)I"⟩) := ⟨List.mem_of_getElem? (i := 1020) (by decide +kernel), by decide +kernel⟩
theorem wd_1021 : zL (Cond.instanceMethod ⟨"PathTrust","deliver","(I)I"⟩) := ⟨List.mem_of_getElem? (i := 1021) (by decide +kernel), by decide +kernel⟩
theorem wd_1022 : zL (Cond.selects "PathTrust" ⟨"PathTrust","deliver","(I)I"⟩ ⟨"PathTrust","deliver","(I)I"⟩) := ⟨List.mem_of_getElem? (i := 1022) (by decide +kernel), by decide +kernel⟩
theorem wd_1023 : zL (Cond.code ⟨"PathTrust","deliver","(I)I"⟩ prog_1_method_45_code 2 (Option.some FieldType.int)) := ⟨List.mem_of_getElem? (i := 1023) (by decide +kernel), by decide +kernel⟩
theorem wd_1024 : zL (Cond.methodLinkNest "PathTrust" 243 ⟨"PathTrust$Desk","deliverFirst","(I)I"⟩ "PathTrust") := ⟨List.mem_of_getElem? (i := 1024) (by decide +kernel), by decide +kernel⟩
theorem wd_1026 : zL (Cond.instanceMethod ⟨"PathTrust$Desk","deliverFirst","(I)I"⟩) := ⟨List.mem_of_getElem? (i := 1026) (by decide +kernel), by decide +kernel⟩
theorem wd_1027 : zL (Cond.code ⟨"PathTrust$Desk","deliverFirst","(I)I"⟩ prog_3_method_23_code 5 (Option.some FieldType.int)) := ⟨List.mem_of_getElem? (i := 1027) (by decide +kernel), by decide +kernel⟩
theorem wd_1028 : zL (Cond.methodLink "PathTrust$Desk" 166 ⟨"PathTrust$Desk","receive","(I)Z"⟩) := ⟨List.mem_of_getElem? (i := 1028) (by decide +kernel), by decide +kernel⟩
theorem wd_1030 : zL (Cond.instanceMethod ⟨"PathTrust$Desk","receive","(I)Z"⟩) := ⟨List.mem_of_getElem? (i := 1030) (by decide +kernel), by decide +kernel⟩
theorem wd_1031 : zL (Cond.code ⟨"PathTrust$Desk","receive","(I)Z"⟩ prog_3_method_24_code 7 (Option.some FieldType.boolean)) := ⟨List.mem_of_getElem? (i := 1031) (by decide +kernel), by decide +kernel⟩
theorem wd_1032 : zL (Cond.methodLink "PathTrust$Desk" 173 ⟨"PathTrust$Desk","reasonToRefuse","(I)I"⟩) := ⟨List.mem_of_getElem? (i := 1032) (by decide +kernel), by decide +kernel⟩
theorem wd_1034 : zL (Cond.instanceMethod ⟨"PathTrust$Desk","reasonToRefuse","(I)I"⟩) := ⟨List.mem_of_getElem? (i := 1034) (by decide +kernel), by decide +kernel⟩
theorem wd_1035 : zL (Cond.code ⟨"PathTrust$Desk","reasonToRefuse","(I)I"⟩ prog_3_method_22_code 7 (Option.some FieldType.int)) := ⟨List.mem_of_getElem? (i := 1035) (by decide +kernel), by decide +kernel⟩
theorem wd_1036 : zL (Cond.methodLink "PathTrust$Desk" 162 ⟨"PathTrust$Desk","isTooOld","(LPathTrust$Reports;I)Z"⟩) := ⟨List.mem_of_getElem? (i := 1036) (by decide +kernel), by decide +kernel⟩
theorem wd_1038 : zL (Cond.instanceMethod ⟨"PathTrust$Desk","isTooOld","(LPathTrust$Reports;I)Z"⟩) := ⟨List.mem_of_getElem? (i := 1038) (by decide +kernel), by decide +kernel⟩
theorem wd_1039 : zL (Cond.code ⟨"PathTrust$Desk","isTooOld","(LPathTrust$Reports;I)Z"⟩ prog_3_method_15_code 3 (Option.some FieldType.boolean)) := ⟨List.mem_of_getElem? (i := 1039) (by decide +kernel), by decide +kernel⟩
theorem wd_1040 : zL (Cond.methodLinkNest "PathTrust$Desk" 170 ⟨"PathTrust$Reports","removeFirst","(I)V"⟩ "PathTrust") := ⟨List.mem_of_getElem? (i := 1040) (by decide +kernel), by decide +kernel⟩
theorem wd_1042 : zL (Cond.instanceMethod ⟨"PathTrust$Reports","removeFirst","(I)V"⟩) := ⟨List.mem_of_getElem? (i := 1042) (by decide +kernel), by decide +kernel⟩
theorem wd_1043 : zL (Cond.code ⟨"PathTrust$Reports","removeFirst","(I)V"⟩ prog_7_method_9_code 2 (Option.none : Option FieldType)) := ⟨List.mem_of_getElem? (i := 1043) (by decide +kernel), by decide +kernel⟩
theorem wd_1044 : zL (Cond.methodLink "PathTrustLaw" 121 ⟨"PathTrust","pass","(I)I"⟩) := ⟨List.mem_of_getElem? (i := 1044) (by decide +kernel), by decide +kernel⟩
theorem wd_1045 : zL (Cond.instanceMethod ⟨"PathTrust","pass","(I)I"⟩) := ⟨List.mem_of_getElem? (i := 1045) (by decide +kernel), by decide +kernel⟩
theorem wd_1046 : zL (Cond.selects "PathTrust" ⟨"PathTrust","pass","(I)I"⟩ ⟨"PathTrust","pass","(I)I"⟩) := ⟨List.mem_of_getElem? (i := 1046) (by decide +kernel), by decide +kernel⟩
theorem wd_1047 : zL (Cond.code ⟨"PathTrust","pass","(I)I"⟩ prog_1_method_48_code 2 (Option.some FieldType.int)) := ⟨List.mem_of_getElem? (i := 1047) (by decide +kernel), by decide +kernel⟩
theorem wd_1048 : zL (Cond.methodLinkNest "PathTrust" 237 ⟨"PathTrust$Desk","letPass","(I)I"⟩ "PathTrust") := ⟨List.mem_of_getElem? (i := 1048) (by decide +kernel), by decide +kernel⟩
theorem wd_1050 : zL (Cond.instanceMethod ⟨"PathTrust$Desk","letPass","(I)I"⟩) := ⟨List.mem_of_getElem? (i := 1050) (by decide +kernel), by decide +kernel⟩
theorem wd_1051 : zL (Cond.code ⟨"PathTrust$Desk","letPass","(I)I"⟩ prog_3_method_26_code 6 (Option.some FieldType.int)) := ⟨List.mem_of_getElem? (i := 1051) (by decide +kernel), by decide +kernel⟩
theorem wd_1052 : zL (Cond.methodLink "PathTrustLaw" 124 ⟨"PathTrust","link","(IIZ)Z"⟩) := ⟨List.mem_of_getElem? (i := 1052) (by decide +kernel), by decide +kernel⟩
theorem wd_1053 : zL (Cond.instanceMethod ⟨"PathTrust","link","(IIZ)Z"⟩) := ⟨List.mem_of_getElem? (i := 1053) (by decide +kernel), by decide +kernel⟩
theorem wd_1054 : zL (Cond.selects "PathTrust" ⟨"PathTrust","link","(IIZ)Z"⟩ ⟨"PathTrust","link","(IIZ)Z"⟩) := ⟨List.mem_of_getElem? (i := 1054) (by decide +kernel), by decide +kernel⟩
theorem wd_1055 : zL (Cond.code ⟨"PathTrust","link","(IIZ)Z"⟩ prog_1_method_49_code 6 (Option.some FieldType.boolean)) := ⟨List.mem_of_getElem? (i := 1055) (by decide +kernel), by decide +kernel⟩
theorem wd_1057 : zL (Cond.methodLinkNest "PathTrust" 134 ⟨"PathTrust$Desk","isLinked","(II)Z"⟩ "PathTrust") := ⟨List.mem_of_getElem? (i := 1057) (by decide +kernel), by decide +kernel⟩
theorem wd_1058 : zL (Cond.methodLinkNest "PathTrust" 259 ⟨"PathTrust$Desk","putTrust","(III)V"⟩ "PathTrust") := ⟨List.mem_of_getElem? (i := 1058) (by decide +kernel), by decide +kernel⟩
theorem wd_1059 : zL (Cond.methodLink "PathTrustLaw" 128 ⟨"PathTrust","setRule","(II)I"⟩) := ⟨List.mem_of_getElem? (i := 1059) (by decide +kernel), by decide +kernel⟩
theorem wd_1060 : zL (Cond.instanceMethod ⟨"PathTrust","setRule","(II)I"⟩) := ⟨List.mem_of_getElem? (i := 1060) (by decide +kernel), by decide +kernel⟩
theorem wd_1061 : zL (Cond.selects "PathTrust" ⟨"PathTrust","setRule","(II)I"⟩ ⟨"PathTrust","setRule","(II)I"⟩) := ⟨List.mem_of_getElem? (i := 1061) (by decide +kernel), by decide +kernel⟩
theorem wd_1062 : zL (Cond.code ⟨"PathTrust","setRule","(II)I"⟩ prog_1_method_51_code 4 (Option.some FieldType.int)) := ⟨List.mem_of_getElem? (i := 1062) (by decide +kernel), by decide +kernel⟩
theorem wd_1063 : zL (Cond.methodLink "PathTrust" 264 ⟨"PathTrust","isRuleValue","(II)Z"⟩) := ⟨List.mem_of_getElem? (i := 1063) (by decide +kernel), by decide +kernel⟩
theorem wd_1064 : zL (Cond.static ⟨"PathTrust","isRuleValue","(II)Z"⟩) := ⟨List.mem_of_getElem? (i := 1064) (by decide +kernel), by decide +kernel⟩
theorem wd_1065 : zL (Cond.code ⟨"PathTrust","isRuleValue","(II)Z"⟩ prog_1_method_67_code 2 (Option.some FieldType.boolean)) := ⟨List.mem_of_getElem? (i := 1065) (by decide +kernel), by decide +kernel⟩
theorem wd_1066 : zL (Cond.fieldLink "PathTrust" 327 "PathTrust" "RULE_FROM" "[I") := ⟨List.mem_of_getElem? (i := 1066) (by decide +kernel), by decide +kernel⟩
theorem wd_1067 : zL (Cond.fieldLink "PathTrust" 331 "PathTrust" "RULE_TO" "[I") := ⟨List.mem_of_getElem? (i := 1067) (by decide +kernel), by decide +kernel⟩
theorem wd_1069 : zL (Cond.methodLinkNest "PathTrust" 269 ⟨"PathTrust$Desk","putRule","(II)V"⟩ "PathTrust") := ⟨List.mem_of_getElem? (i := 1069) (by decide +kernel), by decide +kernel⟩
theorem wd_1070 : zL (Cond.methodLink "PathTrustLaw" 131 ⟨"PathTrust","exchange","(I)I"⟩) := ⟨List.mem_of_getElem? (i := 1070) (by decide +kernel), by decide +kernel⟩
theorem wd_1071 : zL (Cond.instanceMethod ⟨"PathTrust","exchange","(I)I"⟩) := ⟨List.mem_of_getElem? (i := 1071) (by decide +kernel), by decide +kernel⟩
theorem wd_1072 : zL (Cond.selects "PathTrust" ⟨"PathTrust","exchange","(I)I"⟩ ⟨"PathTrust","exchange","(I)I"⟩) := ⟨List.mem_of_getElem? (i := 1072) (by decide +kernel), by decide +kernel⟩
theorem wd_1073 : zL (Cond.code ⟨"PathTrust","exchange","(I)I"⟩ prog_1_method_47_code 2 (Option.some FieldType.int)) := ⟨List.mem_of_getElem? (i := 1073) (by decide +kernel), by decide +kernel⟩
theorem wd_1074 : zL (Cond.methodLinkNest "PathTrust" 234 ⟨"PathTrust$Desk","makeRounds","(I)I"⟩ "PathTrust") := ⟨List.mem_of_getElem? (i := 1074) (by decide +kernel), by decide +kernel⟩
theorem wd_1076 : zL (Cond.instanceMethod ⟨"PathTrust$Desk","makeRounds","(I)I"⟩) := ⟨List.mem_of_getElem? (i := 1076) (by decide +kernel), by decide +kernel⟩
theorem wd_1077 : zL (Cond.code ⟨"PathTrust$Desk","makeRounds","(I)I"⟩ prog_3_method_25_code 5 (Option.some FieldType.int)) := ⟨List.mem_of_getElem? (i := 1077) (by decide +kernel), by decide +kernel⟩
theorem wd_1078 : zL (Cond.methodLink "PathTrust$Desk" 176 ⟨"PathTrust$Desk","sendReports","(II)I"⟩) := ⟨List.mem_of_getElem? (i := 1078) (by decide +kernel), by decide +kernel⟩
theorem wd_1079 : zL (Cond.methodLink "PathTrust$Desk" 179 ⟨"PathTrust$Desk","deliverFirst","(I)I"⟩) := ⟨List.mem_of_getElem? (i := 1079) (by decide +kernel), by decide +kernel⟩
theorem wd_1080 : zL (Cond.methodLink "PathTrustLaw" 134 ⟨"PathTrust","cleanse","(I)I"⟩) := ⟨List.mem_of_getElem? (i := 1080) (by decide +kernel), by decide +kernel⟩
theorem wd_1081 : zL (Cond.instanceMethod ⟨"PathTrust","cleanse","(I)I"⟩) := ⟨List.mem_of_getElem? (i := 1081) (by decide +kernel), by decide +kernel⟩
theorem wd_1082 : zL (Cond.selects "PathTrust" ⟨"PathTrust","cleanse","(I)I"⟩ ⟨"PathTrust","cleanse","(I)I"⟩) := ⟨List.mem_of_getElem? (i := 1082) (by decide +kernel), by decide +kernel⟩
theorem wd_1083 : zL (Cond.code ⟨"PathTrust","cleanse","(I)I"⟩ prog_1_method_53_code 4 (Option.some FieldType.int)) := ⟨List.mem_of_getElem? (i := 1083) (by decide +kernel), by decide +kernel⟩
theorem wd_1084 : zL (Cond.methodLinkNest "PathTrust" 144 ⟨"PathTrust$Desk","listOf","(I)LPathTrust$Reports;"⟩ "PathTrust") := ⟨List.mem_of_getElem? (i := 1084) (by decide +kernel), by decide +kernel⟩
theorem wd_1085 : zL (Cond.methodLink "PathTrust" 177 ⟨"PathTrust","originsOf","(III)I"⟩) := ⟨List.mem_of_getElem? (i := 1085) (by decide +kernel), by decide +kernel⟩
theorem wd_1087 : zL (Cond.instanceMethod ⟨"PathTrust","originsOf","(III)I"⟩) := ⟨List.mem_of_getElem? (i := 1087) (by decide +kernel), by decide +kernel⟩
theorem wd_1088 : zL (Cond.code ⟨"PathTrust","originsOf","(III)I"⟩ prog_1_method_71_code 4 (Option.some FieldType.int)) := ⟨List.mem_of_getElem? (i := 1088) (by decide +kernel), by decide +kernel⟩
theorem wd_1089 : zL (Cond.methodLinkNest "PathTrust" 181 ⟨"PathTrust$View","form","(LPathTrust$Desk;III)V"⟩ "PathTrust") := ⟨List.mem_of_getElem? (i := 1089) (by decide +kernel), by decide +kernel⟩
theorem wd_1091 : zL (Cond.instanceMethod ⟨"PathTrust$View","form","(LPathTrust$Desk;III)V"⟩) := ⟨List.mem_of_getElem? (i := 1091) (by decide +kernel), by decide +kernel⟩
theorem wd_1092 : zL (Cond.code ⟨"PathTrust$View","form","(LPathTrust$Desk;III)V"⟩ prog_8_method_2_code 7 (Option.none : Option FieldType)) := ⟨List.mem_of_getElem? (i := 1092) (by decide +kernel), by decide +kernel⟩
theorem wd_1093 : zL (Cond.methodLinkNest "PathTrust$View" 40 ⟨"PathTrust$Desk","listOf","(I)LPathTrust$Reports;"⟩ "PathTrust") := ⟨List.mem_of_getElem? (i := 1093) (by decide +kernel), by decide +kernel⟩
theorem wd_1094 : zL (Cond.methodLinkNest "PathTrust$View" 49 ⟨"PathTrust$Reports","get","(II)I"⟩ "PathTrust") := ⟨List.mem_of_getElem? (i := 1094) (by decide +kernel), by decide +kernel⟩
theorem wd_1095 : zL (Cond.methodLink "PathTrust$View" 53 ⟨"PathTrust$View","note","(LPathTrust$Desk;III)V"⟩) := ⟨List.mem_of_getElem? (i := 1095) (by decide +kernel), by decide +kernel⟩
theorem wd_1097 : zL (Cond.instanceMethod ⟨"PathTrust$View","note","(LPathTrust$Desk;III)V"⟩) := ⟨List.mem_of_getElem? (i := 1097) (by decide +kernel), by decide +kernel⟩
theorem wd_1098 : zL (Cond.code ⟨"PathTrust$View","note","(LPathTrust$Desk;III)V"⟩ prog_8_method_3_code 10 (Option.none : Option FieldType)) := ⟨List.mem_of_getElem? (i := 1098) (by decide +kernel), by decide +kernel⟩
theorem wd_1099 : zL (Cond.methodLinkNest "PathTrust$View" 65 ⟨"PathTrust$Desk","trustIn","(II)I"⟩ "PathTrust") := ⟨List.mem_of_getElem? (i := 1099) (by decide +kernel), by decide +kernel⟩
theorem wd_1100 : zL (Cond.methodLinkNest "PathTrust$View" 68 ⟨"PathTrust$Desk","beliefSpread","(II)I"⟩ "PathTrust") := ⟨List.mem_of_getElem? (i := 1100) (by decide +kernel), by decide +kernel⟩
theorem wd_1102 : zL (Cond.instanceMethod ⟨"PathTrust$Desk","beliefSpread","(II)I"⟩) := ⟨List.mem_of_getElem? (i := 1102) (by decide +kernel), by decide +kernel⟩
theorem wd_1103 : zL (Cond.code ⟨"PathTrust$Desk","beliefSpread","(II)I"⟩ prog_3_method_17_code 6 (Option.some FieldType.int)) := ⟨List.mem_of_getElem? (i := 1103) (by decide +kernel), by decide +kernel⟩
theorem wd_1104 : zL (Cond.methodLinkNest "PathTrust$View" 71 ⟨"PathTrust$Desk","rule","(I)I"⟩ "PathTrust") := ⟨List.mem_of_getElem? (i := 1104) (by decide +kernel), by decide +kernel⟩
theorem wd_1105 : zL (Cond.methodLinkNest "PathTrust$View" 75 ⟨"PathTrust$Reports","lowMoved","(II)I"⟩ "PathTrust") := ⟨List.mem_of_getElem? (i := 1105) (by decide +kernel), by decide +kernel⟩
theorem wd_1106 : zL (Cond.methodLinkNest "PathTrust$View" 78 ⟨"PathTrust$Reports","highMoved","(II)I"⟩ "PathTrust") := ⟨List.mem_of_getElem? (i := 1106) (by decide +kernel), by decide +kernel⟩
theorem wd_1107 : zL (Cond.methodLink "PathTrust$View" 57 ⟨"PathTrust$View","nextToTake","()I"⟩) := ⟨List.mem_of_getElem? (i := 1107) (by decide +kernel), by decide +kernel⟩
theorem wd_1109 : zL (Cond.instanceMethod ⟨"PathTrust$View","nextToTake","()I"⟩) := ⟨List.mem_of_getElem? (i := 1109) (by decide +kernel), by decide +kernel⟩
theorem wd_1110 : zL (Cond.code ⟨"PathTrust$View","nextToTake","()I"⟩ prog_8_method_4_code 4 (Option.some FieldType.int)) := ⟨List.mem_of_getElem? (i := 1110) (by decide +kernel), by decide +kernel⟩
theorem wd_1111 : zL (Cond.methodLink "PathTrust$View" 61 ⟨"PathTrust$View","take","(I)V"⟩) := ⟨List.mem_of_getElem? (i := 1111) (by decide +kernel), by decide +kernel⟩
theorem wd_1113 : zL (Cond.instanceMethod ⟨"PathTrust$View","take","(I)V"⟩) := ⟨List.mem_of_getElem? (i := 1113) (by decide +kernel), by decide +kernel⟩
theorem wd_1114 : zL (Cond.code ⟨"PathTrust$View","take","(I)V"⟩ prog_8_method_5_code 4 (Option.none : Option FieldType)) := ⟨List.mem_of_getElem? (i := 1114) (by decide +kernel), by decide +kernel⟩
theorem wd_1115 : zL (Cond.methodLink "PathTrust$View" 81 ⟨"java/lang/Math","max","(II)I"⟩) := ⟨List.mem_of_getElem? (i := 1115) (by decide +kernel), by decide +kernel⟩
theorem wd_1116 : zL (Cond.methodLink "PathTrust$View" 86 ⟨"java/lang/Math","min","(II)I"⟩) := ⟨List.mem_of_getElem? (i := 1116) (by decide +kernel), by decide +kernel⟩
theorem wd_1117 : zL (Cond.methodLinkNest "PathTrust" 343 ⟨"PathTrust$View","originsWith","(I)I"⟩ "PathTrust") := ⟨List.mem_of_getElem? (i := 1117) (by decide +kernel), by decide +kernel⟩
theorem wd_1119 : zL (Cond.instanceMethod ⟨"PathTrust$View","originsWith","(I)I"⟩) := ⟨List.mem_of_getElem? (i := 1119) (by decide +kernel), by decide +kernel⟩
theorem wd_1120 : zL (Cond.code ⟨"PathTrust$View","originsWith","(I)I"⟩ prog_8_method_7_code 4 (Option.some FieldType.int)) := ⟨List.mem_of_getElem? (i := 1120) (by decide +kernel), by decide +kernel⟩
theorem wd_1121 : zL (Cond.methodLinkNest "PathTrust" 272 ⟨"PathTrust$Reports","removeAll","(II)I"⟩ "PathTrust") := ⟨List.mem_of_getElem? (i := 1121) (by decide +kernel), by decide +kernel⟩
theorem wd_1123 : zL (Cond.instanceMethod ⟨"PathTrust$Reports","removeAll","(II)I"⟩) := ⟨List.mem_of_getElem? (i := 1123) (by decide +kernel), by decide +kernel⟩
theorem wd_1124 : zL (Cond.code ⟨"PathTrust$Reports","removeAll","(II)I"⟩ prog_7_method_11_code 5 (Option.some FieldType.int)) := ⟨List.mem_of_getElem? (i := 1124) (by decide +kernel), by decide +kernel⟩
theorem wd_1125 : zL (Cond.methodLinkNest "PathTrust$Reports" 53 ⟨"PathTrust","contains","(II)Z"⟩ "PathTrust") := ⟨List.mem_of_getElem? (i := 1125) (by decide +kernel), by decide +kernel⟩
theorem wd_1126 : zL (Cond.static ⟨"PathTrust","contains","(II)Z"⟩) := ⟨List.mem_of_getElem? (i := 1126) (by decide +kernel), by decide +kernel⟩
theorem wd_1127 : zL (Cond.code ⟨"PathTrust","contains","(II)Z"⟩ prog_1_method_68_code 2 (Option.some FieldType.boolean)) := ⟨List.mem_of_getElem? (i := 1127) (by decide +kernel), by decide +kernel⟩
theorem wd_1128 : zL (Cond.methodLink "PathTrust$Reports" 57 ⟨"PathTrust$Reports","removeRow","(I)V"⟩) := ⟨List.mem_of_getElem? (i := 1128) (by decide +kernel), by decide +kernel⟩
theorem wd_1129 : zL (Cond.methodLink "PathTrustLaw" 137 ⟨"PathTrust","forget","(II)I"⟩) := ⟨List.mem_of_getElem? (i := 1129) (by decide +kernel), by decide +kernel⟩
theorem wd_1130 : zL (Cond.instanceMethod ⟨"PathTrust","forget","(II)I"⟩) := ⟨List.mem_of_getElem? (i := 1130) (by decide +kernel), by decide +kernel⟩
theorem wd_1131 : zL (Cond.selects "PathTrust" ⟨"PathTrust","forget","(II)I"⟩ ⟨"PathTrust","forget","(II)I"⟩) := ⟨List.mem_of_getElem? (i := 1131) (by decide +kernel), by decide +kernel⟩
theorem wd_1132 : zL (Cond.code ⟨"PathTrust","forget","(II)I"⟩ prog_1_method_52_code 3 (Option.some FieldType.int)) := ⟨List.mem_of_getElem? (i := 1132) (by decide +kernel), by decide +kernel⟩
theorem wd_1133 : zL (Cond.methodLink "PathTrustLaw" 260 ⟨"PathTrustLaw","holds","(LPathTrust;)Z"⟩) := ⟨List.mem_of_getElem? (i := 1133) (by decide +kernel), by decide +kernel⟩
theorem wd_1134 : zL (Cond.static ⟨"PathTrustLaw","holds","(LPathTrust;)Z"⟩) := ⟨List.mem_of_getElem? (i := 1134) (by decide +kernel), by decide +kernel⟩
theorem wd_1135 : zL (Cond.code ⟨"PathTrustLaw","holds","(LPathTrust;)Z"⟩ method_19_code 3 (Option.some FieldType.boolean)) := ⟨List.mem_of_getElem? (i := 1135) (by decide +kernel), by decide +kernel⟩
theorem wd_1136 : zL (Cond.methodLink "PathTrustLaw" 245 ⟨"PathTrustLaw","believes","(LPathTrust;II)Z"⟩) := ⟨List.mem_of_getElem? (i := 1136) (by decide +kernel), by decide +kernel⟩
theorem wd_1137 : zL (Cond.static ⟨"PathTrustLaw","believes","(LPathTrust;II)Z"⟩) := ⟨List.mem_of_getElem? (i := 1137) (by decide +kernel), by decide +kernel⟩
theorem wd_1138 : zL (Cond.code ⟨"PathTrustLaw","believes","(LPathTrust;II)Z"⟩ method_14_code 16 (Option.some FieldType.boolean)) := ⟨List.mem_of_getElem? (i := 1138) (by decide +kernel), by decide +kernel⟩
theorem wd_1139 : zL (Cond.methodLink "PathTrustLaw" 159 ⟨"PathTrust","reports","(I)I"⟩) := ⟨List.mem_of_getElem? (i := 1139) (by decide +kernel), by decide +kernel⟩
theorem wd_1140 : zL (Cond.instanceMethod ⟨"PathTrust","reports","(I)I"⟩) := ⟨List.mem_of_getElem? (i := 1140) (by decide +kernel), by decide +kernel⟩
theorem wd_1141 : zL (Cond.selects "PathTrust" ⟨"PathTrust","reports","(I)I"⟩ ⟨"PathTrust","reports","(I)I"⟩) := ⟨List.mem_of_getElem? (i := 1141) (by decide +kernel), by decide +kernel⟩
theorem wd_1142 : zL (Cond.code ⟨"PathTrust","reports","(I)I"⟩ prog_1_method_15_code 2 (Option.some FieldType.int)) := ⟨List.mem_of_getElem? (i := 1142) (by decide +kernel), by decide +kernel⟩
theorem wd_1143 : zL (Cond.methodLink "PathTrustLaw" 140 ⟨"PathTrust","report","(III)I"⟩) := ⟨List.mem_of_getElem? (i := 1143) (by decide +kernel), by decide +kernel⟩
theorem wd_1144 : zL (Cond.instanceMethod ⟨"PathTrust","report","(III)I"⟩) := ⟨List.mem_of_getElem? (i := 1144) (by decide +kernel), by decide +kernel⟩
theorem wd_1145 : zL (Cond.selects "PathTrust" ⟨"PathTrust","report","(III)I"⟩ ⟨"PathTrust","report","(III)I"⟩) := ⟨List.mem_of_getElem? (i := 1145) (by decide +kernel), by decide +kernel⟩
theorem wd_1146 : zL (Cond.code ⟨"PathTrust","report","(III)I"⟩ prog_1_method_16_code 4 (Option.some FieldType.int)) := ⟨List.mem_of_getElem? (i := 1146) (by decide +kernel), by decide +kernel⟩
theorem wd_1147 : zL (Cond.methodLink "PathTrust" 148 ⟨"PathTrust","checkReport","(II)V"⟩) := ⟨List.mem_of_getElem? (i := 1147) (by decide +kernel), by decide +kernel⟩
theorem wd_1149 : zL (Cond.instanceMethod ⟨"PathTrust","checkReport","(II)V"⟩) := ⟨List.mem_of_getElem? (i := 1149) (by decide +kernel), by decide +kernel⟩
theorem wd_1150 : zL (Cond.code ⟨"PathTrust","checkReport","(II)V"⟩ prog_1_method_63_code 3 (Option.none : Option FieldType)) := ⟨List.mem_of_getElem? (i := 1150) (by decide +kernel), by decide +kernel⟩
theorem wd_1152 : zL (Cond.methodLinkNest "PathTrust" 152 ⟨"PathTrust$Reports","get","(II)I"⟩ "PathTrust") := ⟨List.mem_of_getElem? (i := 1152) (by decide +kernel), by decide +kernel⟩
theorem wd_1153 : zL (Cond.methodLink "PathTrustLaw" 171 ⟨"PathTrustLaw","ahead","(LPathTrust;III)Z"⟩) := ⟨List.mem_of_getElem? (i := 1153) (by decide +kernel), by decide +kernel⟩
theorem wd_1154 : zL (Cond.static ⟨"PathTrustLaw","ahead","(LPathTrust;III)Z"⟩) := ⟨List.mem_of_getElem? (i := 1154) (by decide +kernel), by decide +kernel⟩
theorem wd_1155 : zL (Cond.code ⟨"PathTrustLaw","ahead","(LPathTrust;III)Z"⟩ method_11_code 8 (Option.some FieldType.boolean)) := ⟨List.mem_of_getElem? (i := 1155) (by decide +kernel), by decide +kernel⟩
theorem wd_1156 : zL (Cond.methodLink "PathTrustLaw" 153 ⟨"PathTrust","trust","(II)I"⟩) := ⟨List.mem_of_getElem? (i := 1156) (by decide +kernel), by decide +kernel⟩
theorem wd_1157 : zL (Cond.instanceMethod ⟨"PathTrust","trust","(II)I"⟩) := ⟨List.mem_of_getElem? (i := 1157) (by decide +kernel), by decide +kernel⟩
theorem wd_1158 : zL (Cond.selects "PathTrust" ⟨"PathTrust","trust","(II)I"⟩ ⟨"PathTrust","trust","(II)I"⟩) := ⟨List.mem_of_getElem? (i := 1158) (by decide +kernel), by decide +kernel⟩
theorem wd_1159 : zL (Cond.code ⟨"PathTrust","trust","(II)I"⟩ prog_1_method_10_code 3 (Option.some FieldType.int)) := ⟨List.mem_of_getElem? (i := 1159) (by decide +kernel), by decide +kernel⟩
theorem wd_1160 : zL (Cond.methodLinkNest "PathTrust" 130 ⟨"PathTrust$Desk","trustIn","(II)I"⟩ "PathTrust") := ⟨List.mem_of_getElem? (i := 1160) (by decide +kernel), by decide +kernel⟩
theorem wd_1161 : zL (Cond.methodLink "PathTrustLaw" 175 ⟨"PathTrustLaw","by","(LPathTrust;II)I"⟩) := ⟨List.mem_of_getElem? (i := 1161) (by decide +kernel), by decide +kernel⟩
theorem wd_1162 : zL (Cond.static ⟨"PathTrustLaw","by","(LPathTrust;II)I"⟩) := ⟨List.mem_of_getElem? (i := 1162) (by decide +kernel), by decide +kernel⟩
theorem wd_1163 : zL (Cond.code ⟨"PathTrustLaw","by","(LPathTrust;II)I"⟩ method_13_code 3 (Option.some FieldType.int)) := ⟨List.mem_of_getElem? (i := 1163) (by decide +kernel), by decide +kernel⟩
theorem wd_1164 : zL (Cond.methodLink "PathTrustLaw" 167 ⟨"PathTrustLaw","drift","(LPathTrust;II)I"⟩) := ⟨List.mem_of_getElem? (i := 1164) (by decide +kernel), by decide +kernel⟩
theorem wd_1165 : zL (Cond.static ⟨"PathTrustLaw","drift","(LPathTrust;II)I"⟩) := ⟨List.mem_of_getElem? (i := 1165) (by decide +kernel), by decide +kernel⟩
theorem wd_1166 : zL (Cond.code ⟨"PathTrustLaw","drift","(LPathTrust;II)I"⟩ method_9_code 3 (Option.some FieldType.int)) := ⟨List.mem_of_getElem? (i := 1166) (by decide +kernel), by decide +kernel⟩
theorem wd_1167 : zL (Cond.methodLink "PathTrustLaw" 178 ⟨"PathTrustLaw","low","(LPathTrust;III)I"⟩) := ⟨List.mem_of_getElem? (i := 1167) (by decide +kernel), by decide +kernel⟩
theorem wd_1168 : zL (Cond.static ⟨"PathTrustLaw","low","(LPathTrust;III)I"⟩) := ⟨List.mem_of_getElem? (i := 1168) (by decide +kernel), by decide +kernel⟩
theorem wd_1169 : zL (Cond.code ⟨"PathTrustLaw","low","(LPathTrust;III)I"⟩ method_7_code 4 (Option.some FieldType.int)) := ⟨List.mem_of_getElem? (i := 1169) (by decide +kernel), by decide +kernel⟩
theorem wd_1170 : zL (Cond.methodLink "PathTrustLaw" 144 ⟨"java/lang/Math","max","(II)I"⟩) := ⟨List.mem_of_getElem? (i := 1170) (by decide +kernel), by decide +kernel⟩
theorem wd_1171 : zL (Cond.methodLink "PathTrustLaw" 182 ⟨"PathTrustLaw","top","(LPathTrust;III)I"⟩) := ⟨List.mem_of_getElem? (i := 1171) (by decide +kernel), by decide +kernel⟩
theorem wd_1172 : zL (Cond.static ⟨"PathTrustLaw","top","(LPathTrust;III)I"⟩) := ⟨List.mem_of_getElem? (i := 1172) (by decide +kernel), by decide +kernel⟩
theorem wd_1173 : zL (Cond.code ⟨"PathTrustLaw","top","(LPathTrust;III)I"⟩ method_8_code 4 (Option.some FieldType.int)) := ⟨List.mem_of_getElem? (i := 1173) (by decide +kernel), by decide +kernel⟩
theorem wd_1174 : zL (Cond.methodLink "PathTrustLaw" 185 ⟨"PathTrust","moved","(III)I"⟩) := ⟨List.mem_of_getElem? (i := 1174) (by decide +kernel), by decide +kernel⟩
theorem wd_1175 : zL (Cond.instanceMethod ⟨"PathTrust","moved","(III)I"⟩) := ⟨List.mem_of_getElem? (i := 1175) (by decide +kernel), by decide +kernel⟩
theorem wd_1176 : zL (Cond.selects "PathTrust" ⟨"PathTrust","moved","(III)I"⟩ ⟨"PathTrust","moved","(III)I"⟩) := ⟨List.mem_of_getElem? (i := 1176) (by decide +kernel), by decide +kernel⟩
theorem wd_1177 : zL (Cond.code ⟨"PathTrust","moved","(III)I"⟩ prog_1_method_18_code 7 (Option.some FieldType.int)) := ⟨List.mem_of_getElem? (i := 1177) (by decide +kernel), by decide +kernel⟩
theorem wd_1178 : zL (Cond.methodLinkNest "PathTrust" 158 ⟨"PathTrust$Desk","beliefSpread","(II)I"⟩ "PathTrust") := ⟨List.mem_of_getElem? (i := 1178) (by decide +kernel), by decide +kernel⟩
theorem wd_1179 : zL (Cond.methodLinkNest "PathTrust" 161 ⟨"PathTrust$Reports","lowMoved","(II)I"⟩ "PathTrust") := ⟨List.mem_of_getElem? (i := 1179) (by decide +kernel), by decide +kernel⟩
theorem wd_1180 : zL (Cond.methodLinkNest "PathTrust" 164 ⟨"PathTrust$Reports","highMoved","(II)I"⟩ "PathTrust") := ⟨List.mem_of_getElem? (i := 1180) (by decide +kernel), by decide +kernel⟩
theorem wd_1181 : zL (Cond.methodLink "PathTrustLaw" 188 ⟨"PathTrustLaw","isOut","(LPathTrust;II)Z"⟩) := ⟨List.mem_of_getElem? (i := 1181) (by decide +kernel), by decide +kernel⟩
theorem wd_1182 : zL (Cond.static ⟨"PathTrustLaw","isOut","(LPathTrust;II)Z"⟩) := ⟨List.mem_of_getElem? (i := 1182) (by decide +kernel), by decide +kernel⟩
theorem wd_1183 : zL (Cond.code ⟨"PathTrustLaw","isOut","(LPathTrust;II)Z"⟩ method_12_code 3 (Option.some FieldType.boolean)) := ⟨List.mem_of_getElem? (i := 1183) (by decide +kernel), by decide +kernel⟩
theorem wd_1184 : zL (Cond.methodLink "PathTrustLaw" 192 ⟨"PathTrust","status","(II)I"⟩) := ⟨List.mem_of_getElem? (i := 1184) (by decide +kernel), by decide +kernel⟩
theorem wd_1185 : zL (Cond.instanceMethod ⟨"PathTrust","status","(II)I"⟩) := ⟨List.mem_of_getElem? (i := 1185) (by decide +kernel), by decide +kernel⟩
theorem wd_1186 : zL (Cond.selects "PathTrust" ⟨"PathTrust","status","(II)I"⟩ ⟨"PathTrust","status","(II)I"⟩) := ⟨List.mem_of_getElem? (i := 1186) (by decide +kernel), by decide +kernel⟩
theorem wd_1187 : zL (Cond.code ⟨"PathTrust","status","(II)I"⟩ prog_1_method_17_code 3 (Option.some FieldType.int)) := ⟨List.mem_of_getElem? (i := 1187) (by decide +kernel), by decide +kernel⟩
theorem wd_1188 : zL (Cond.methodLink "PathTrust" 155 ⟨"PathTrust","statusIn","(II)I"⟩) := ⟨List.mem_of_getElem? (i := 1188) (by decide +kernel), by decide +kernel⟩
theorem wd_1190 : zL (Cond.instanceMethod ⟨"PathTrust","statusIn","(II)I"⟩) := ⟨List.mem_of_getElem? (i := 1190) (by decide +kernel), by decide +kernel⟩
theorem wd_1191 : zL (Cond.code ⟨"PathTrust","statusIn","(II)I"⟩ prog_1_method_70_code 3 (Option.some FieldType.int)) := ⟨List.mem_of_getElem? (i := 1191) (by decide +kernel), by decide +kernel⟩
theorem wd_1192 : zL (Cond.methodLinkNest "PathTrust" 340 ⟨"PathTrust$View","statusOf","(I)I"⟩ "PathTrust") := ⟨List.mem_of_getElem? (i := 1192) (by decide +kernel), by decide +kernel⟩
theorem wd_1194 : zL (Cond.instanceMethod ⟨"PathTrust$View","statusOf","(I)I"⟩) := ⟨List.mem_of_getElem? (i := 1194) (by decide +kernel), by decide +kernel⟩
theorem wd_1195 : zL (Cond.code ⟨"PathTrust$View","statusOf","(I)I"⟩ prog_8_method_6_code 3 (Option.some FieldType.int)) := ⟨List.mem_of_getElem? (i := 1195) (by decide +kernel), by decide +kernel⟩
theorem wd_1196 : zL (Cond.methodLink "PathTrustLaw" 195 ⟨"PathTrust","belief","(III)I"⟩) := ⟨List.mem_of_getElem? (i := 1196) (by decide +kernel), by decide +kernel⟩
theorem wd_1197 : zL (Cond.instanceMethod ⟨"PathTrust","belief","(III)I"⟩) := ⟨List.mem_of_getElem? (i := 1197) (by decide +kernel), by decide +kernel⟩
theorem wd_1198 : zL (Cond.selects "PathTrust" ⟨"PathTrust","belief","(III)I"⟩ ⟨"PathTrust","belief","(III)I"⟩) := ⟨List.mem_of_getElem? (i := 1198) (by decide +kernel), by decide +kernel⟩
theorem wd_1199 : zL (Cond.code ⟨"PathTrust","belief","(III)I"⟩ prog_1_method_20_code 4 (Option.some FieldType.int)) := ⟨List.mem_of_getElem? (i := 1199) (by decide +kernel), by decide +kernel⟩
theorem wd_1200 : zL (Cond.methodLink "PathTrust" 173 ⟨"PathTrust","believed","(LPathTrust$Desk;III)I"⟩) := ⟨List.mem_of_getElem? (i := 1200) (by decide +kernel), by decide +kernel⟩
theorem wd_1202 : zL (Cond.instanceMethod ⟨"PathTrust","believed","(LPathTrust$Desk;III)I"⟩) := ⟨List.mem_of_getElem? (i := 1202) (by decide +kernel), by decide +kernel⟩
theorem wd_1203 : zL (Cond.code ⟨"PathTrust","believed","(LPathTrust$Desk;III)I"⟩ prog_1_method_72_code 5 (Option.some FieldType.int)) := ⟨List.mem_of_getElem? (i := 1203) (by decide +kernel), by decide +kernel⟩
theorem wd_1204 : zL (Cond.methodLink "PathTrustLaw" 198 ⟨"PathTrust","sources","(II)I"⟩) := ⟨List.mem_of_getElem? (i := 1204) (by decide +kernel), by decide +kernel⟩
theorem wd_1205 : zL (Cond.instanceMethod ⟨"PathTrust","sources","(II)I"⟩) := ⟨List.mem_of_getElem? (i := 1205) (by decide +kernel), by decide +kernel⟩
theorem wd_1206 : zL (Cond.selects "PathTrust" ⟨"PathTrust","sources","(II)I"⟩ ⟨"PathTrust","sources","(II)I"⟩) := ⟨List.mem_of_getElem? (i := 1206) (by decide +kernel), by decide +kernel⟩
theorem wd_1207 : zL (Cond.code ⟨"PathTrust","sources","(II)I"⟩ prog_1_method_21_code 3 (Option.some FieldType.int)) := ⟨List.mem_of_getElem? (i := 1207) (by decide +kernel), by decide +kernel⟩
theorem wd_1208 : zL (Cond.methodLink "PathTrustLaw" 201 ⟨"PathTrust","contradicted","(II)I"⟩) := ⟨List.mem_of_getElem? (i := 1208) (by decide +kernel), by decide +kernel⟩
theorem wd_1209 : zL (Cond.instanceMethod ⟨"PathTrust","contradicted","(II)I"⟩) := ⟨List.mem_of_getElem? (i := 1209) (by decide +kernel), by decide +kernel⟩
theorem wd_1210 : zL (Cond.selects "PathTrust" ⟨"PathTrust","contradicted","(II)I"⟩ ⟨"PathTrust","contradicted","(II)I"⟩) := ⟨List.mem_of_getElem? (i := 1210) (by decide +kernel), by decide +kernel⟩
theorem wd_1211 : zL (Cond.code ⟨"PathTrust","contradicted","(II)I"⟩ prog_1_method_22_code 3 (Option.some FieldType.int)) := ⟨List.mem_of_getElem? (i := 1211) (by decide +kernel), by decide +kernel⟩
theorem wd_1212 : zL (Cond.methodLink "PathTrustLaw" 204 ⟨"PathTrustLaw","agrees","(LPathTrust;II)Z"⟩) := ⟨List.mem_of_getElem? (i := 1212) (by decide +kernel), by decide +kernel⟩
theorem wd_1213 : zL (Cond.static ⟨"PathTrustLaw","agrees","(LPathTrust;II)Z"⟩) := ⟨List.mem_of_getElem? (i := 1213) (by decide +kernel), by decide +kernel⟩
theorem wd_1214 : zL (Cond.code ⟨"PathTrustLaw","agrees","(LPathTrust;II)Z"⟩ method_15_code 13 (Option.some FieldType.boolean)) := ⟨List.mem_of_getElem? (i := 1214) (by decide +kernel), by decide +kernel⟩
theorem wd_1215 : zL (Cond.methodLink "PathTrustLaw" 207 ⟨"java/lang/Integer","bitCount","(I)I"⟩) := ⟨List.mem_of_getElem? (i := 1215) (by decide +kernel), by decide +kernel⟩
theorem wd_1216 : zL (Cond.static ⟨"java/lang/Integer","bitCount","(I)I"⟩) := ⟨List.mem_of_getElem? (i := 1216) (by decide +kernel), by decide +kernel⟩
theorem wd_1217 : zL (Cond.code ⟨"java/lang/Integer","bitCount","(I)I"⟩ prog_17_method_49_code 1 (Option.some FieldType.int)) := ⟨List.mem_of_getElem? (i := 1217) (by decide +kernel), by decide +kernel⟩
theorem wd_1218 : zL (Cond.constant "java/lang/Integer" 265 (1431655765 : Int32)) := ⟨List.mem_of_getElem? (i := 1218) (by decide +kernel), by decide +kernel⟩
theorem wd_1219 : zL (Cond.constant "java/lang/Integer" 266 (858993459 : Int32)) := ⟨List.mem_of_getElem? (i := 1219) (by decide +kernel), by decide +kernel⟩
theorem wd_1220 : zL (Cond.constant "java/lang/Integer" 267 (252645135 : Int32)) := ⟨List.mem_of_getElem? (i := 1220) (by decide +kernel), by decide +kernel⟩
theorem wd_1221 : zL (Cond.methodLink "PathTrustLaw" 212 ⟨"PathTrust","majority","(II)I"⟩) := ⟨List.mem_of_getElem? (i := 1221) (by decide +kernel), by decide +kernel⟩
theorem wd_1222 : zL (Cond.instanceMethod ⟨"PathTrust","majority","(II)I"⟩) := ⟨List.mem_of_getElem? (i := 1222) (by decide +kernel), by decide +kernel⟩
theorem wd_1223 : zL (Cond.selects "PathTrust" ⟨"PathTrust","majority","(II)I"⟩ ⟨"PathTrust","majority","(II)I"⟩) := ⟨List.mem_of_getElem? (i := 1223) (by decide +kernel), by decide +kernel⟩
theorem wd_1224 : zL (Cond.code ⟨"PathTrust","majority","(II)I"⟩ prog_1_method_23_code 3 (Option.some FieldType.int)) := ⟨List.mem_of_getElem? (i := 1224) (by decide +kernel), by decide +kernel⟩
theorem wd_1225 : zL (Cond.methodLinkNest "PathTrust" 185 ⟨"PathTrust$View","largestSet","()I"⟩ "PathTrust") := ⟨List.mem_of_getElem? (i := 1225) (by decide +kernel), by decide +kernel⟩
theorem wd_1227 : zL (Cond.instanceMethod ⟨"PathTrust$View","largestSet","()I"⟩) := ⟨List.mem_of_getElem? (i := 1227) (by decide +kernel), by decide +kernel⟩
theorem wd_1228 : zL (Cond.code ⟨"PathTrust$View","largestSet","()I"⟩ prog_8_method_8_code 5 (Option.some FieldType.int)) := ⟨List.mem_of_getElem? (i := 1228) (by decide +kernel), by decide +kernel⟩
theorem wd_1229 : zL (Cond.methodLink "PathTrust$View" 89 ⟨"PathTrust$View","originsAround","(I)I"⟩) := ⟨List.mem_of_getElem? (i := 1229) (by decide +kernel), by decide +kernel⟩
theorem wd_1231 : zL (Cond.instanceMethod ⟨"PathTrust$View","originsAround","(I)I"⟩) := ⟨List.mem_of_getElem? (i := 1231) (by decide +kernel), by decide +kernel⟩
theorem wd_1232 : zL (Cond.code ⟨"PathTrust$View","originsAround","(I)I"⟩ prog_8_method_9_code 4 (Option.some FieldType.int)) := ⟨List.mem_of_getElem? (i := 1232) (by decide +kernel), by decide +kernel⟩
theorem wd_1233 : zL (Cond.methodLink "PathTrust$View" 92 ⟨"java/lang/Integer","bitCount","(I)I"⟩) := ⟨List.mem_of_getElem? (i := 1233) (by decide +kernel), by decide +kernel⟩
theorem wd_1234 : zL (Cond.methodLink "PathTrustLaw" 215 ⟨"PathTrust","majorityBound","(III)I"⟩) := ⟨List.mem_of_getElem? (i := 1234) (by decide +kernel), by decide +kernel⟩
theorem wd_1235 : zL (Cond.instanceMethod ⟨"PathTrust","majorityBound","(III)I"⟩) := ⟨List.mem_of_getElem? (i := 1235) (by decide +kernel), by decide +kernel⟩
theorem wd_1236 : zL (Cond.selects "PathTrust" ⟨"PathTrust","majorityBound","(III)I"⟩ ⟨"PathTrust","majorityBound","(III)I"⟩) := ⟨List.mem_of_getElem? (i := 1236) (by decide +kernel), by decide +kernel⟩
theorem wd_1237 : zL (Cond.code ⟨"PathTrust","majorityBound","(III)I"⟩ prog_1_method_24_code 5 (Option.some FieldType.int)) := ⟨List.mem_of_getElem? (i := 1237) (by decide +kernel), by decide +kernel⟩
theorem wd_1238 : zL (Cond.methodLinkNest "PathTrust" 188 ⟨"PathTrust$View","lowOf","(I)I"⟩ "PathTrust") := ⟨List.mem_of_getElem? (i := 1238) (by decide +kernel), by decide +kernel⟩
theorem wd_1240 : zL (Cond.instanceMethod ⟨"PathTrust$View","lowOf","(I)I"⟩) := ⟨List.mem_of_getElem? (i := 1240) (by decide +kernel), by decide +kernel⟩
theorem wd_1241 : zL (Cond.code ⟨"PathTrust$View","lowOf","(I)I"⟩ prog_8_method_10_code 4 (Option.some FieldType.int)) := ⟨List.mem_of_getElem? (i := 1241) (by decide +kernel), by decide +kernel⟩
theorem wd_1242 : zL (Cond.methodLinkNest "PathTrust$View" 97 ⟨"PathTrust","contains","(II)Z"⟩ "PathTrust") := ⟨List.mem_of_getElem? (i := 1242) (by decide +kernel), by decide +kernel⟩
theorem wd_1243 : zL (Cond.methodLinkNest "PathTrust" 191 ⟨"PathTrust$View","highOf","(I)I"⟩ "PathTrust") := ⟨List.mem_of_getElem? (i := 1243) (by decide +kernel), by decide +kernel⟩
theorem wd_1245 : zL (Cond.instanceMethod ⟨"PathTrust$View","highOf","(I)I"⟩) := ⟨List.mem_of_getElem? (i := 1245) (by decide +kernel), by decide +kernel⟩
theorem wd_1246 : zL (Cond.code ⟨"PathTrust$View","highOf","(I)I"⟩ prog_8_method_11_code 4 (Option.some FieldType.int)) := ⟨List.mem_of_getElem? (i := 1246) (by decide +kernel), by decide +kernel⟩
theorem wd_1247 : zL (Cond.methodLink "PathTrustLaw" 248 ⟨"PathTrustLaw","chooses","(LPathTrust;I)Z"⟩) := ⟨List.mem_of_getElem? (i := 1247) (by decide +kernel), by decide +kernel⟩
theorem wd_1248 : zL (Cond.static ⟨"PathTrustLaw","chooses","(LPathTrust;I)Z"⟩) := ⟨List.mem_of_getElem? (i := 1248) (by decide +kernel), by decide +kernel⟩
theorem wd_1249 : zL (Cond.code ⟨"PathTrustLaw","chooses","(LPathTrust;I)Z"⟩ method_16_code 9 (Option.some FieldType.boolean)) := ⟨List.mem_of_getElem? (i := 1249) (by decide +kernel), by decide +kernel⟩
theorem wd_1250 : zL (Cond.methodLink "PathTrustLaw" 218 ⟨"PathTrust","own","(II)I"⟩) := ⟨List.mem_of_getElem? (i := 1250) (by decide +kernel), by decide +kernel⟩
theorem wd_1251 : zL (Cond.instanceMethod ⟨"PathTrust","own","(II)I"⟩) := ⟨List.mem_of_getElem? (i := 1251) (by decide +kernel), by decide +kernel⟩
theorem wd_1252 : zL (Cond.selects "PathTrust" ⟨"PathTrust","own","(II)I"⟩ ⟨"PathTrust","own","(II)I"⟩) := ⟨List.mem_of_getElem? (i := 1252) (by decide +kernel), by decide +kernel⟩
theorem wd_1253 : zL (Cond.code ⟨"PathTrust","own","(II)I"⟩ prog_1_method_19_code 3 (Option.some FieldType.int)) := ⟨List.mem_of_getElem? (i := 1253) (by decide +kernel), by decide +kernel⟩
theorem wd_1254 : zL (Cond.methodLinkNest "PathTrust" 170 ⟨"PathTrust$Reports","rowOf","(II)I"⟩ "PathTrust") := ⟨List.mem_of_getElem? (i := 1254) (by decide +kernel), by decide +kernel⟩
theorem wd_1255 : zL (Cond.methodLink "PathTrustLaw" 221 ⟨"PathTrust","best","(II)I"⟩) := ⟨List.mem_of_getElem? (i := 1255) (by decide +kernel), by decide +kernel⟩
theorem wd_1256 : zL (Cond.instanceMethod ⟨"PathTrust","best","(II)I"⟩) := ⟨List.mem_of_getElem? (i := 1256) (by decide +kernel), by decide +kernel⟩
theorem wd_1257 : zL (Cond.selects "PathTrust" ⟨"PathTrust","best","(II)I"⟩ ⟨"PathTrust","best","(II)I"⟩) := ⟨List.mem_of_getElem? (i := 1257) (by decide +kernel), by decide +kernel⟩
theorem wd_1258 : zL (Cond.code ⟨"PathTrust","best","(II)I"⟩ prog_1_method_25_code 3 (Option.some FieldType.int)) := ⟨List.mem_of_getElem? (i := 1258) (by decide +kernel), by decide +kernel⟩
theorem wd_1259 : zL (Cond.methodLink "PathTrust" 194 ⟨"PathTrust","bestWay","(LPathTrust$Desk;II)I"⟩) := ⟨List.mem_of_getElem? (i := 1259) (by decide +kernel), by decide +kernel⟩
theorem wd_1261 : zL (Cond.instanceMethod ⟨"PathTrust","bestWay","(LPathTrust$Desk;II)I"⟩) := ⟨List.mem_of_getElem? (i := 1261) (by decide +kernel), by decide +kernel⟩
theorem wd_1262 : zL (Cond.code ⟨"PathTrust","bestWay","(LPathTrust$Desk;II)I"⟩ prog_1_method_75_code 8 (Option.some FieldType.int)) := ⟨List.mem_of_getElem? (i := 1262) (by decide +kernel), by decide +kernel⟩
theorem wd_1263 : zL (Cond.methodLink "PathTrustLaw" 224 ⟨"PathTrust","saved","(I)I"⟩) := ⟨List.mem_of_getElem? (i := 1263) (by decide +kernel), by decide +kernel⟩
theorem wd_1264 : zL (Cond.instanceMethod ⟨"PathTrust","saved","(I)I"⟩) := ⟨List.mem_of_getElem? (i := 1264) (by decide +kernel), by decide +kernel⟩
theorem wd_1265 : zL (Cond.selects "PathTrust" ⟨"PathTrust","saved","(I)I"⟩ ⟨"PathTrust","saved","(I)I"⟩) := ⟨List.mem_of_getElem? (i := 1265) (by decide +kernel), by decide +kernel⟩
theorem wd_1266 : zL (Cond.code ⟨"PathTrust","saved","(I)I"⟩ prog_1_method_29_code 4 (Option.some FieldType.int)) := ⟨List.mem_of_getElem? (i := 1266) (by decide +kernel), by decide +kernel⟩
theorem wd_1267 : zL (Cond.methodLink "PathTrust" 201 ⟨"PathTrust","widthOf","(LPathTrust$Desk;III)I"⟩) := ⟨List.mem_of_getElem? (i := 1267) (by decide +kernel), by decide +kernel⟩
theorem wd_1269 : zL (Cond.instanceMethod ⟨"PathTrust","widthOf","(LPathTrust$Desk;III)I"⟩) := ⟨List.mem_of_getElem? (i := 1269) (by decide +kernel), by decide +kernel⟩
theorem wd_1270 : zL (Cond.code ⟨"PathTrust","widthOf","(LPathTrust$Desk;III)I"⟩ prog_1_method_73_code 5 (Option.some FieldType.int)) := ⟨List.mem_of_getElem? (i := 1270) (by decide +kernel), by decide +kernel⟩
theorem wd_1271 : zL (Cond.methodLink "PathTrustLaw" 227 ⟨"PathTrust","rivals","(I)I"⟩) := ⟨List.mem_of_getElem? (i := 1271) (by decide +kernel), by decide +kernel⟩
theorem wd_1272 : zL (Cond.instanceMethod ⟨"PathTrust","rivals","(I)I"⟩) := ⟨List.mem_of_getElem? (i := 1272) (by decide +kernel), by decide +kernel⟩
theorem wd_1273 : zL (Cond.selects "PathTrust" ⟨"PathTrust","rivals","(I)I"⟩ ⟨"PathTrust","rivals","(I)I"⟩) := ⟨List.mem_of_getElem? (i := 1273) (by decide +kernel), by decide +kernel⟩
theorem wd_1274 : zL (Cond.code ⟨"PathTrust","rivals","(I)I"⟩ prog_1_method_26_code 2 (Option.some FieldType.int)) := ⟨List.mem_of_getElem? (i := 1274) (by decide +kernel), by decide +kernel⟩
theorem wd_1275 : zL (Cond.methodLink "PathTrust" 198 ⟨"PathTrust","rivalsOf","(II)I"⟩) := ⟨List.mem_of_getElem? (i := 1275) (by decide +kernel), by decide +kernel⟩
theorem wd_1277 : zL (Cond.instanceMethod ⟨"PathTrust","rivalsOf","(II)I"⟩) := ⟨List.mem_of_getElem? (i := 1277) (by decide +kernel), by decide +kernel⟩
theorem wd_1278 : zL (Cond.code ⟨"PathTrust","rivalsOf","(II)I"⟩ prog_1_method_76_code 6 (Option.some FieldType.int)) := ⟨List.mem_of_getElem? (i := 1278) (by decide +kernel), by decide +kernel⟩
theorem wd_1279 : zL (Cond.methodLink "PathTrustLaw" 230 ⟨"PathTrust","nextProbe","(I)I"⟩) := ⟨List.mem_of_getElem? (i := 1279) (by decide +kernel), by decide +kernel⟩
theorem wd_1280 : zL (Cond.instanceMethod ⟨"PathTrust","nextProbe","(I)I"⟩) := ⟨List.mem_of_getElem? (i := 1280) (by decide +kernel), by decide +kernel⟩
theorem wd_1281 : zL (Cond.selects "PathTrust" ⟨"PathTrust","nextProbe","(I)I"⟩ ⟨"PathTrust","nextProbe","(I)I"⟩) := ⟨List.mem_of_getElem? (i := 1281) (by decide +kernel), by decide +kernel⟩
theorem wd_1282 : zL (Cond.code ⟨"PathTrust","nextProbe","(I)I"⟩ prog_1_method_27_code 8 (Option.some FieldType.int)) := ⟨List.mem_of_getElem? (i := 1282) (by decide +kernel), by decide +kernel⟩
theorem wd_1283 : zL (Cond.methodLink "PathTrust" 138 ⟨"PathTrust","contains","(II)Z"⟩) := ⟨List.mem_of_getElem? (i := 1283) (by decide +kernel), by decide +kernel⟩
theorem wd_1284 : zL (Cond.methodLink "PathTrustLaw" 233 ⟨"PathTrust","regret","(I)I"⟩) := ⟨List.mem_of_getElem? (i := 1284) (by decide +kernel), by decide +kernel⟩
theorem wd_1285 : zL (Cond.instanceMethod ⟨"PathTrust","regret","(I)I"⟩) := ⟨List.mem_of_getElem? (i := 1285) (by decide +kernel), by decide +kernel⟩
theorem wd_1286 : zL (Cond.selects "PathTrust" ⟨"PathTrust","regret","(I)I"⟩ ⟨"PathTrust","regret","(I)I"⟩) := ⟨List.mem_of_getElem? (i := 1286) (by decide +kernel), by decide +kernel⟩
theorem wd_1287 : zL (Cond.code ⟨"PathTrust","regret","(I)I"⟩ prog_1_method_28_code 4 (Option.some FieldType.int)) := ⟨List.mem_of_getElem? (i := 1287) (by decide +kernel), by decide +kernel⟩
theorem wd_1288 : zL (Cond.methodLink "PathTrustLaw" 236 ⟨"PathTrustLaw","width","(LPathTrust;II)I"⟩) := ⟨List.mem_of_getElem? (i := 1288) (by decide +kernel), by decide +kernel⟩
theorem wd_1289 : zL (Cond.static ⟨"PathTrustLaw","width","(LPathTrust;II)I"⟩) := ⟨List.mem_of_getElem? (i := 1289) (by decide +kernel), by decide +kernel⟩
theorem wd_1290 : zL (Cond.code ⟨"PathTrustLaw","width","(LPathTrust;II)I"⟩ method_17_code 3 (Option.some FieldType.int)) := ⟨List.mem_of_getElem? (i := 1290) (by decide +kernel), by decide +kernel⟩
theorem wd_1291 : zL (Cond.methodLink "PathTrustLaw" 252 ⟨"PathTrustLaw","commons","(LPathTrust;)Z"⟩) := ⟨List.mem_of_getElem? (i := 1291) (by decide +kernel), by decide +kernel⟩
theorem wd_1292 : zL (Cond.static ⟨"PathTrustLaw","commons","(LPathTrust;)Z"⟩) := ⟨List.mem_of_getElem? (i := 1292) (by decide +kernel), by decide +kernel⟩
theorem wd_1293 : zL (Cond.code ⟨"PathTrustLaw","commons","(LPathTrust;)Z"⟩ method_18_code 6 (Option.some FieldType.boolean)) := ⟨List.mem_of_getElem? (i := 1293) (by decide +kernel), by decide +kernel⟩
theorem wd_1294 : zL (Cond.methodLink "PathTrustLaw" 239 ⟨"PathTrust","common","(II)I"⟩) := ⟨List.mem_of_getElem? (i := 1294) (by decide +kernel), by decide +kernel⟩
theorem wd_1295 : zL (Cond.instanceMethod ⟨"PathTrust","common","(II)I"⟩) := ⟨List.mem_of_getElem? (i := 1295) (by decide +kernel), by decide +kernel⟩
theorem wd_1296 : zL (Cond.selects "PathTrust" ⟨"PathTrust","common","(II)I"⟩ ⟨"PathTrust","common","(II)I"⟩) := ⟨List.mem_of_getElem? (i := 1296) (by decide +kernel), by decide +kernel⟩
theorem wd_1297 : zL (Cond.code ⟨"PathTrust","common","(II)I"⟩ prog_1_method_31_code 10 (Option.some FieldType.int)) := ⟨List.mem_of_getElem? (i := 1297) (by decide +kernel), by decide +kernel⟩
theorem wd_1298 : zL (Cond.methodLinkNest "PathTrust" 212 ⟨"PathTrust$Desk","driftOf","(LPathTrust$Reports;I)I"⟩ "PathTrust") := ⟨List.mem_of_getElem? (i := 1298) (by decide +kernel), by decide +kernel⟩
theorem wd_1299 : zL (Cond.methodLink "PathTrust" 204 ⟨"java/lang/Math","max","(II)I"⟩) := ⟨List.mem_of_getElem? (i := 1299) (by decide +kernel), by decide +kernel⟩
theorem wd_1300 : zL (Cond.methodLink "PathTrust" 209 ⟨"java/lang/Math","min","(II)I"⟩) := ⟨List.mem_of_getElem? (i := 1300) (by decide +kernel), by decide +kernel⟩
theorem wd_1301 : zL (Cond.methodLink "PathTrustLaw" 242 ⟨"PathTrust","agreeing","(II)I"⟩) := ⟨List.mem_of_getElem? (i := 1301) (by decide +kernel), by decide +kernel⟩
theorem wd_1302 : zL (Cond.instanceMethod ⟨"PathTrust","agreeing","(II)I"⟩) := ⟨List.mem_of_getElem? (i := 1302) (by decide +kernel), by decide +kernel⟩
theorem wd_1303 : zL (Cond.selects "PathTrust" ⟨"PathTrust","agreeing","(II)I"⟩ ⟨"PathTrust","agreeing","(II)I"⟩) := ⟨List.mem_of_getElem? (i := 1303) (by decide +kernel), by decide +kernel⟩
theorem wd_1304 : zL (Cond.code ⟨"PathTrust","agreeing","(II)I"⟩ prog_1_method_30_code 7 (Option.some FieldType.int)) := ⟨List.mem_of_getElem? (i := 1304) (by decide +kernel), by decide +kernel⟩
theorem wd_1311 : zL (Cond.sameMethod "java/lang/AbstractStringBuilder" "java/lang/AbstractStringBuilder" "append" "(I)Ljava/lang/AbstractStringBuilder;") := ⟨List.mem_of_getElem? (i := 1311) (by decide +kernel), by decide +kernel⟩
theorem wd_1312 : zL (Cond.sameMethod "java/lang/AbstractStringBuilder" "java/lang/AbstractStringBuilder" "append" "(C)Ljava/lang/AbstractStringBuilder;") := ⟨List.mem_of_getElem? (i := 1312) (by decide +kernel), by decide +kernel⟩
theorem wd_1313 : zL (Cond.sameMethod "java/lang/AbstractStringBuilder" "java/lang/AbstractStringBuilder" "length" "()I") := ⟨List.mem_of_getElem? (i := 1313) (by decide +kernel), by decide +kernel⟩
theorem wd_1314 : zL (Cond.selects "java/lang/StringBuilder" ⟨"java/lang/AbstractStringBuilder","length","()I"⟩ ⟨"java/lang/StringBuilder","length","()I"⟩) := ⟨List.mem_of_getElem? (i := 1314) (by decide +kernel), by decide +kernel⟩
theorem wd_1316 : zL (Cond.selects "java/lang/StringBuilder" ⟨"java/lang/AbstractStringBuilder","ensureCapacityInternal","(I)V"⟩ ⟨"java/lang/AbstractStringBuilder","ensureCapacityInternal","(I)V"⟩) := ⟨List.mem_of_getElem? (i := 1316) (by decide +kernel), by decide +kernel⟩
theorem wd_1317 : zL (Cond.selects "java/lang/StringBuilder" ⟨"java/lang/AbstractStringBuilder","newCapacity","(I)I"⟩ ⟨"java/lang/AbstractStringBuilder","newCapacity","(I)I"⟩) := ⟨List.mem_of_getElem? (i := 1317) (by decide +kernel), by decide +kernel⟩
theorem wd_1318 : zL (Cond.selects "java/lang/StringBuilder" ⟨"java/lang/AbstractStringBuilder","putStringAt","(ILjava/lang/String;)V"⟩ ⟨"java/lang/AbstractStringBuilder","putStringAt","(ILjava/lang/String;)V"⟩) := ⟨List.mem_of_getElem? (i := 1318) (by decide +kernel), by decide +kernel⟩
theorem wd_1319 : zL (Cond.selects "java/lang/StringBuilder" ⟨"java/lang/AbstractStringBuilder","inflateIfNeededFor","(Ljava/lang/String;)V"⟩ ⟨"java/lang/AbstractStringBuilder","inflateIfNeededFor","(Ljava/lang/String;)V"⟩) := ⟨List.mem_of_getElem? (i := 1319) (by decide +kernel), by decide +kernel⟩
