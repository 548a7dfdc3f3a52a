theorem wd_0 : zL (Cond.selects "PathTrust$Desk" ⟨"PathTrust$Desk","reset","()V"⟩ ⟨"PathTrust$Desk","reset","()V"⟩) := ⟨List.mem_of_getElem? (i := 0) (by decide +kernel), by decide +kernel⟩
theorem wd_1 : zL (Cond.selects "PathTrust$Desk" ⟨"PathTrust$Desk","putRule","(II)V"⟩ ⟨"PathTrust$Desk","putRule","(II)V"⟩) := ⟨List.mem_of_getElem? (i := 1) (by decide +kernel), by decide +kernel⟩
theorem wd_2 : zL (Cond.selects "PathTrust$Desk" ⟨"PathTrust$Desk","listOf","(I)LPathTrust$Reports;"⟩ ⟨"PathTrust$Desk","listOf","(I)LPathTrust$Reports;"⟩) := ⟨List.mem_of_getElem? (i := 2) (by decide +kernel), by decide +kernel⟩
theorem wd_3 : zL (Cond.selects "PathTrust$Parser" ⟨"PathTrust$Parser","parse","()Z"⟩ ⟨"PathTrust$Parser","parse","()Z"⟩) := ⟨List.mem_of_getElem? (i := 3) (by decide +kernel), by decide +kernel⟩
theorem wd_4 : zL (Cond.selects "PathTrust$Parser" ⟨"PathTrust$Parser","next","()V"⟩ ⟨"PathTrust$Parser","next","()V"⟩) := ⟨List.mem_of_getElem? (i := 4) (by decide +kernel), by decide +kernel⟩
theorem wd_5 : zL (Cond.selects "PathTrust$Buffer" ⟨"PathTrust$Buffer","at","(I)I"⟩ ⟨"PathTrust$Buffer","at","(I)I"⟩) := ⟨List.mem_of_getElem? (i := 5) (by decide +kernel), by decide +kernel⟩
theorem wd_6 : zL (Cond.selects "PathTrust$Parser" ⟨"PathTrust$Parser","readRules","()Z"⟩ ⟨"PathTrust$Parser","readRules","()Z"⟩) := ⟨List.mem_of_getElem? (i := 6) (by decide +kernel), by decide +kernel⟩
theorem wd_7 : zL (Cond.selects "PathTrust$Parser" ⟨"PathTrust$Parser","readWord","(Ljava/lang/String;)Z"⟩ ⟨"PathTrust$Parser","readWord","(Ljava/lang/String;)Z"⟩) := ⟨List.mem_of_getElem? (i := 7) (by decide +kernel), by decide +kernel⟩
theorem wd_8 : zL (Cond.selects "PathTrust$Parser" ⟨"PathTrust$Parser","isWord","(Ljava/lang/String;)Z"⟩ ⟨"PathTrust$Parser","isWord","(Ljava/lang/String;)Z"⟩) := ⟨List.mem_of_getElem? (i := 8) (by decide +kernel), by decide +kernel⟩
theorem wd_9 : zL (Cond.selects "PathTrust$Parser" ⟨"PathTrust$Parser","fail","(I)Z"⟩ ⟨"PathTrust$Parser","fail","(I)Z"⟩) := ⟨List.mem_of_getElem? (i := 9) (by decide +kernel), by decide +kernel⟩
theorem wd_10 : zL (Cond.selects "PathTrust$Parser" ⟨"PathTrust$Parser","readRule","(Ljava/lang/String;I)Z"⟩ ⟨"PathTrust$Parser","readRule","(Ljava/lang/String;I)Z"⟩) := ⟨List.mem_of_getElem? (i := 10) (by decide +kernel), by decide +kernel⟩
theorem wd_11 : zL (Cond.selects "PathTrust$Parser" ⟨"PathTrust$Parser","readNumber","(II)Z"⟩ ⟨"PathTrust$Parser","readNumber","(II)Z"⟩) := ⟨List.mem_of_getElem? (i := 11) (by decide +kernel), by decide +kernel⟩
theorem wd_12 : zL (Cond.selects "PathTrust$Parser" ⟨"PathTrust$Parser","readSemicolon","()Z"⟩ ⟨"PathTrust$Parser","readSemicolon","()Z"⟩) := ⟨List.mem_of_getElem? (i := 12) (by decide +kernel), by decide +kernel⟩
theorem wd_13 : zL (Cond.selects "PathTrust$Parser" ⟨"PathTrust$Parser","readNewName","(LPathTrust$Names;)Z"⟩ ⟨"PathTrust$Parser","readNewName","(LPathTrust$Names;)Z"⟩) := ⟨List.mem_of_getElem? (i := 13) (by decide +kernel), by decide +kernel⟩
theorem wd_14 : zL (Cond.selects "PathTrust$Parser" ⟨"PathTrust$Parser","isName","()Z"⟩ ⟨"PathTrust$Parser","isName","()Z"⟩) := ⟨List.mem_of_getElem? (i := 14) (by decide +kernel), by decide +kernel⟩
theorem wd_15 : zL (Cond.selects "PathTrust$Buffer" ⟨"PathTrust$Buffer","nameCode","(II)I"⟩ ⟨"PathTrust$Buffer","nameCode","(II)I"⟩) := ⟨List.mem_of_getElem? (i := 15) (by decide +kernel), by decide +kernel⟩
theorem wd_16 : zL (Cond.selects "PathTrust$Names" ⟨"PathTrust$Names","find","(I)I"⟩ ⟨"PathTrust$Names","find","(I)I"⟩) := ⟨List.mem_of_getElem? (i := 16) (by decide +kernel), by decide +kernel⟩
theorem wd_17 : zL (Cond.selects "PathTrust$Names" ⟨"PathTrust$Names","add","(I)V"⟩ ⟨"PathTrust$Names","add","(I)V"⟩) := ⟨List.mem_of_getElem? (i := 17) (by decide +kernel), by decide +kernel⟩
theorem wd_18 : zL (Cond.selects "PathTrust$Parser" ⟨"PathTrust$Parser","readLink","()Z"⟩ ⟨"PathTrust$Parser","readLink","()Z"⟩) := ⟨List.mem_of_getElem? (i := 18) (by decide +kernel), by decide +kernel⟩
theorem wd_19 : zL (Cond.selects "PathTrust$Parser" ⟨"PathTrust$Parser","isNameOf","(LPathTrust$Names;)Z"⟩ ⟨"PathTrust$Parser","isNameOf","(LPathTrust$Names;)Z"⟩) := ⟨List.mem_of_getElem? (i := 19) (by decide +kernel), by decide +kernel⟩
theorem wd_20 : zL (Cond.selects "PathTrust$Desk" ⟨"PathTrust$Desk","isLinked","(II)Z"⟩ ⟨"PathTrust$Desk","isLinked","(II)Z"⟩) := ⟨List.mem_of_getElem? (i := 20) (by decide +kernel), by decide +kernel⟩
theorem wd_21 : zL (Cond.selects "PathTrust$Desk" ⟨"PathTrust$Desk","trustIn","(II)I"⟩ ⟨"PathTrust$Desk","trustIn","(II)I"⟩) := ⟨List.mem_of_getElem? (i := 21) (by decide +kernel), by decide +kernel⟩
theorem wd_22 : zL (Cond.selects "PathTrust$Desk" ⟨"PathTrust$Desk","putTrust","(III)V"⟩ ⟨"PathTrust$Desk","putTrust","(III)V"⟩) := ⟨List.mem_of_getElem? (i := 22) (by decide +kernel), by decide +kernel⟩
theorem wd_23 : zL (Cond.selects "PathTrust$Parser" ⟨"PathTrust$Parser","readProbe","()Z"⟩ ⟨"PathTrust$Parser","readProbe","()Z"⟩) := ⟨List.mem_of_getElem? (i := 23) (by decide +kernel), by decide +kernel⟩
theorem wd_24 : zL (Cond.selects "PathTrust$Desk" ⟨"PathTrust$Desk","makeProbe","(IIII)I"⟩ ⟨"PathTrust$Desk","makeProbe","(IIII)I"⟩) := ⟨List.mem_of_getElem? (i := 24) (by decide +kernel), by decide +kernel⟩
theorem wd_25 : zL (Cond.selects "PathTrust$Reports" ⟨"PathTrust$Reports","rowOf","(II)I"⟩ ⟨"PathTrust$Reports","rowOf","(II)I"⟩) := ⟨List.mem_of_getElem? (i := 25) (by decide +kernel), by decide +kernel⟩
theorem wd_26 : zL (Cond.selects "PathTrust$Reports" ⟨"PathTrust$Reports","get","(II)I"⟩ ⟨"PathTrust$Reports","get","(II)I"⟩) := ⟨List.mem_of_getElem? (i := 26) (by decide +kernel), by decide +kernel⟩
theorem wd_27 : zL (Cond.selects "PathTrust$Reports" ⟨"PathTrust$Reports","removeRow","(I)V"⟩ ⟨"PathTrust$Reports","removeRow","(I)V"⟩) := ⟨List.mem_of_getElem? (i := 27) (by decide +kernel), by decide +kernel⟩
theorem wd_28 : zL (Cond.selects "PathTrust$Reports" ⟨"PathTrust$Reports","closeGap","(II)V"⟩ ⟨"PathTrust$Reports","closeGap","(II)V"⟩) := ⟨List.mem_of_getElem? (i := 28) (by decide +kernel), by decide +kernel⟩
theorem wd_29 : zL (Cond.selects "PathTrust$Reports" ⟨"PathTrust$Reports","addRow","()I"⟩ ⟨"PathTrust$Reports","addRow","()I"⟩) := ⟨List.mem_of_getElem? (i := 29) (by decide +kernel), by decide +kernel⟩
theorem wd_30 : zL (Cond.selects "PathTrust$Reports" ⟨"PathTrust$Reports","isFull","()Z"⟩ ⟨"PathTrust$Reports","isFull","()Z"⟩) := ⟨List.mem_of_getElem? (i := 30) (by decide +kernel), by decide +kernel⟩
theorem wd_31 : zL (Cond.selects "PathTrust$Reports" ⟨"PathTrust$Reports","put","(III)V"⟩ ⟨"PathTrust$Reports","put","(III)V"⟩) := ⟨List.mem_of_getElem? (i := 31) (by decide +kernel), by decide +kernel⟩
theorem wd_32 : zL (Cond.selects "PathTrust$Desk" ⟨"PathTrust$Desk","tally","(II)V"⟩ ⟨"PathTrust$Desk","tally","(II)V"⟩) := ⟨List.mem_of_getElem? (i := 32) (by decide +kernel), by decide +kernel⟩
theorem wd_33 : zL (Cond.selects "PathTrust$Desk" ⟨"PathTrust$Desk","judge","(III)Z"⟩ ⟨"PathTrust$Desk","judge","(III)Z"⟩) := ⟨List.mem_of_getElem? (i := 33) (by decide +kernel), by decide +kernel⟩
theorem wd_34 : zL (Cond.selects "PathTrust$Desk" ⟨"PathTrust$Desk","driftOf","(LPathTrust$Reports;I)I"⟩ ⟨"PathTrust$Desk","driftOf","(LPathTrust$Reports;I)I"⟩) := ⟨List.mem_of_getElem? (i := 34) (by decide +kernel), by decide +kernel⟩
theorem wd_35 : zL (Cond.selects "PathTrust$Desk" ⟨"PathTrust$Desk","rule","(I)I"⟩ ⟨"PathTrust$Desk","rule","(I)I"⟩) := ⟨List.mem_of_getElem? (i := 35) (by decide +kernel), by decide +kernel⟩
theorem wd_36 : zL (Cond.selects "PathTrust$Reports" ⟨"PathTrust$Reports","lowMoved","(II)I"⟩ ⟨"PathTrust$Reports","lowMoved","(II)I"⟩) := ⟨List.mem_of_getElem? (i := 36) (by decide +kernel), by decide +kernel⟩
theorem wd_37 : zL (Cond.selects "PathTrust$Reports" ⟨"PathTrust$Reports","highMoved","(II)I"⟩ ⟨"PathTrust$Reports","highMoved","(II)I"⟩) := ⟨List.mem_of_getElem? (i := 37) (by decide +kernel), by decide +kernel⟩
theorem wd_38 : zL (Cond.selects "PathTrust$History" ⟨"PathTrust$History","push","(LPathTrust$Desk;)V"⟩ ⟨"PathTrust$History","push","(LPathTrust$Desk;)V"⟩) := ⟨List.mem_of_getElem? (i := 38) (by decide +kernel), by decide +kernel⟩
theorem wd_39 : zL (Cond.selects "PathTrust$History" ⟨"PathTrust$History","dropOldest","()V"⟩ ⟨"PathTrust$History","dropOldest","()V"⟩) := ⟨List.mem_of_getElem? (i := 39) (by decide +kernel), by decide +kernel⟩
theorem wd_40 : zL (Cond.selects "PathTrust$Desk" ⟨"PathTrust$Desk","become","(LPathTrust$Desk;)V"⟩ ⟨"PathTrust$Desk","become","(LPathTrust$Desk;)V"⟩) := ⟨List.mem_of_getElem? (i := 40) (by decide +kernel), by decide +kernel⟩
theorem wd_41 : zL (Cond.selects "PathTrust$Names" ⟨"PathTrust$Names","copyFrom","(LPathTrust$Names;)V"⟩ ⟨"PathTrust$Names","copyFrom","(LPathTrust$Names;)V"⟩) := ⟨List.mem_of_getElem? (i := 41) (by decide +kernel), by decide +kernel⟩
theorem wd_42 : zL (Cond.selects "PathTrust$Reports" ⟨"PathTrust$Reports","copyFrom","(LPathTrust$Reports;)V"⟩ ⟨"PathTrust$Reports","copyFrom","(LPathTrust$Reports;)V"⟩) := ⟨List.mem_of_getElem? (i := 42) (by decide +kernel), by decide +kernel⟩
theorem wd_43 : zL (Cond.selects "PathTrust" ⟨"PathTrust","findInput","(LPathTrust$Names;)I"⟩ ⟨"PathTrust","findInput","(LPathTrust$Names;)I"⟩) := ⟨List.mem_of_getElem? (i := 43) (by decide +kernel), by decide +kernel⟩
theorem wd_45 : zL (Cond.selects "PathTrust$Buffer" ⟨"PathTrust$Buffer","addFour","(I)V"⟩ ⟨"PathTrust$Buffer","addFour","(I)V"⟩) := ⟨List.mem_of_getElem? (i := 45) (by decide +kernel), by decide +kernel⟩
theorem wd_46 : zL (Cond.selects "PathTrust$Buffer" ⟨"PathTrust$Buffer","add","(I)V"⟩ ⟨"PathTrust$Buffer","add","(I)V"⟩) := ⟨List.mem_of_getElem? (i := 46) (by decide +kernel), by decide +kernel⟩
theorem wd_47 : zL (Cond.selects "PathTrust$Desk" ⟨"PathTrust$Desk","linkCount","()I"⟩ ⟨"PathTrust$Desk","linkCount","()I"⟩) := ⟨List.mem_of_getElem? (i := 47) (by decide +kernel), by decide +kernel⟩
theorem wd_48 : zL (Cond.selects "PathTrust" ⟨"PathTrust","checkAgent","(I)V"⟩ ⟨"PathTrust","checkAgent","(I)V"⟩) := ⟨List.mem_of_getElem? (i := 48) (by decide +kernel), by decide +kernel⟩
theorem wd_49 : zL (Cond.selects "PathTrust$Desk" ⟨"PathTrust$Desk","reachedFrom","(II)I"⟩ ⟨"PathTrust$Desk","reachedFrom","(II)I"⟩) := ⟨List.mem_of_getElem? (i := 49) (by decide +kernel), by decide +kernel⟩
theorem wd_50 : zL (Cond.selects "PathTrust" ⟨"PathTrust","checkReport","(II)V"⟩ ⟨"PathTrust","checkReport","(II)V"⟩) := ⟨List.mem_of_getElem? (i := 50) (by decide +kernel), by decide +kernel⟩
theorem wd_51 : zL (Cond.selects "PathTrust" ⟨"PathTrust","statusIn","(II)I"⟩ ⟨"PathTrust","statusIn","(II)I"⟩) := ⟨List.mem_of_getElem? (i := 51) (by decide +kernel), by decide +kernel⟩
theorem wd_52 : zL (Cond.selects "PathTrust$View" ⟨"PathTrust$View","form","(LPathTrust$Desk;III)V"⟩ ⟨"PathTrust$View","form","(LPathTrust$Desk;III)V"⟩) := ⟨List.mem_of_getElem? (i := 52) (by decide +kernel), by decide +kernel⟩
theorem wd_53 : zL (Cond.selects "PathTrust$View" ⟨"PathTrust$View","note","(LPathTrust$Desk;III)V"⟩ ⟨"PathTrust$View","note","(LPathTrust$Desk;III)V"⟩) := ⟨List.mem_of_getElem? (i := 53) (by decide +kernel), by decide +kernel⟩
theorem wd_54 : zL (Cond.selects "PathTrust$Desk" ⟨"PathTrust$Desk","beliefSpread","(II)I"⟩ ⟨"PathTrust$Desk","beliefSpread","(II)I"⟩) := ⟨List.mem_of_getElem? (i := 54) (by decide +kernel), by decide +kernel⟩
theorem wd_55 : zL (Cond.selects "PathTrust$View" ⟨"PathTrust$View","nextToTake","()I"⟩ ⟨"PathTrust$View","nextToTake","()I"⟩) := ⟨List.mem_of_getElem? (i := 55) (by decide +kernel), by decide +kernel⟩
theorem wd_56 : zL (Cond.selects "PathTrust$View" ⟨"PathTrust$View","take","(I)V"⟩ ⟨"PathTrust$View","take","(I)V"⟩) := ⟨List.mem_of_getElem? (i := 56) (by decide +kernel), by decide +kernel⟩
theorem wd_57 : zL (Cond.selects "PathTrust$View" ⟨"PathTrust$View","statusOf","(I)I"⟩ ⟨"PathTrust$View","statusOf","(I)I"⟩) := ⟨List.mem_of_getElem? (i := 57) (by decide +kernel), by decide +kernel⟩
theorem wd_58 : zL (Cond.selects "PathTrust" ⟨"PathTrust","checkWay","(I)V"⟩ ⟨"PathTrust","checkWay","(I)V"⟩) := ⟨List.mem_of_getElem? (i := 58) (by decide +kernel), by decide +kernel⟩
theorem wd_59 : zL (Cond.selects "PathTrust" ⟨"PathTrust","believed","(LPathTrust$Desk;III)I"⟩ ⟨"PathTrust","believed","(LPathTrust$Desk;III)I"⟩) := ⟨List.mem_of_getElem? (i := 59) (by decide +kernel), by decide +kernel⟩
theorem wd_60 : zL (Cond.selects "PathTrust" ⟨"PathTrust","originsOf","(III)I"⟩ ⟨"PathTrust","originsOf","(III)I"⟩) := ⟨List.mem_of_getElem? (i := 60) (by decide +kernel), by decide +kernel⟩
theorem wd_61 : zL (Cond.selects "PathTrust$View" ⟨"PathTrust$View","originsWith","(I)I"⟩ ⟨"PathTrust$View","originsWith","(I)I"⟩) := ⟨List.mem_of_getElem? (i := 61) (by decide +kernel), by decide +kernel⟩
theorem wd_62 : zL (Cond.selects "PathTrust$View" ⟨"PathTrust$View","largestSet","()I"⟩ ⟨"PathTrust$View","largestSet","()I"⟩) := ⟨List.mem_of_getElem? (i := 62) (by decide +kernel), by decide +kernel⟩
theorem wd_63 : zL (Cond.selects "PathTrust$View" ⟨"PathTrust$View","originsAround","(I)I"⟩ ⟨"PathTrust$View","originsAround","(I)I"⟩) := ⟨List.mem_of_getElem? (i := 63) (by decide +kernel), by decide +kernel⟩
theorem wd_64 : zL (Cond.selects "PathTrust$View" ⟨"PathTrust$View","lowOf","(I)I"⟩ ⟨"PathTrust$View","lowOf","(I)I"⟩) := ⟨List.mem_of_getElem? (i := 64) (by decide +kernel), by decide +kernel⟩
theorem wd_65 : zL (Cond.selects "PathTrust$View" ⟨"PathTrust$View","highOf","(I)I"⟩ ⟨"PathTrust$View","highOf","(I)I"⟩) := ⟨List.mem_of_getElem? (i := 65) (by decide +kernel), by decide +kernel⟩
theorem wd_66 : zL (Cond.selects "PathTrust" ⟨"PathTrust","bestWay","(LPathTrust$Desk;II)I"⟩ ⟨"PathTrust","bestWay","(LPathTrust$Desk;II)I"⟩) := ⟨List.mem_of_getElem? (i := 66) (by decide +kernel), by decide +kernel⟩
theorem wd_67 : zL (Cond.selects "PathTrust" ⟨"PathTrust","rivalsOf","(II)I"⟩ ⟨"PathTrust","rivalsOf","(II)I"⟩) := ⟨List.mem_of_getElem? (i := 67) (by decide +kernel), by decide +kernel⟩
theorem wd_68 : zL (Cond.selects "PathTrust" ⟨"PathTrust","widthOf","(LPathTrust$Desk;III)I"⟩ ⟨"PathTrust","widthOf","(LPathTrust$Desk;III)I"⟩) := ⟨List.mem_of_getElem? (i := 68) (by decide +kernel), by decide +kernel⟩
theorem wd_69 : zL (Cond.selects "PathTrust$Desk" ⟨"PathTrust$Desk","accountOf","(II)I"⟩ ⟨"PathTrust$Desk","accountOf","(II)I"⟩) := ⟨List.mem_of_getElem? (i := 69) (by decide +kernel), by decide +kernel⟩
theorem wd_70 : zL (Cond.selects "PathTrust$Desk" ⟨"PathTrust$Desk","reasonToRefuse","(I)I"⟩ ⟨"PathTrust$Desk","reasonToRefuse","(I)I"⟩) := ⟨List.mem_of_getElem? (i := 70) (by decide +kernel), by decide +kernel⟩
theorem wd_71 : zL (Cond.selects "PathTrust$Desk" ⟨"PathTrust$Desk","isTooOld","(LPathTrust$Reports;I)Z"⟩ ⟨"PathTrust$Desk","isTooOld","(LPathTrust$Reports;I)Z"⟩) := ⟨List.mem_of_getElem? (i := 71) (by decide +kernel), by decide +kernel⟩
theorem wd_72 : zL (Cond.selects "PathTrust$Desk" ⟨"PathTrust$Desk","makeRounds","(I)I"⟩ ⟨"PathTrust$Desk","makeRounds","(I)I"⟩) := ⟨List.mem_of_getElem? (i := 72) (by decide +kernel), by decide +kernel⟩
theorem wd_73 : zL (Cond.selects "PathTrust$Desk" ⟨"PathTrust$Desk","sendReports","(II)I"⟩ ⟨"PathTrust$Desk","sendReports","(II)I"⟩) := ⟨List.mem_of_getElem? (i := 73) (by decide +kernel), by decide +kernel⟩
theorem wd_74 : zL (Cond.selects "PathTrust$Desk" ⟨"PathTrust$Desk","sendReport","(ILPathTrust$Reports;I)V"⟩ ⟨"PathTrust$Desk","sendReport","(ILPathTrust$Reports;I)V"⟩) := ⟨List.mem_of_getElem? (i := 74) (by decide +kernel), by decide +kernel⟩
theorem wd_75 : zL (Cond.selects "PathTrust$Reports" ⟨"PathTrust$Reports","addCopy","(LPathTrust$Reports;I)I"⟩ ⟨"PathTrust$Reports","addCopy","(LPathTrust$Reports;I)I"⟩) := ⟨List.mem_of_getElem? (i := 75) (by decide +kernel), by decide +kernel⟩
theorem wd_76 : zL (Cond.selects "PathTrust$Desk" ⟨"PathTrust$Desk","deliverFirst","(I)I"⟩ ⟨"PathTrust$Desk","deliverFirst","(I)I"⟩) := ⟨List.mem_of_getElem? (i := 76) (by decide +kernel), by decide +kernel⟩
theorem wd_77 : zL (Cond.selects "PathTrust$Desk" ⟨"PathTrust$Desk","receive","(I)Z"⟩ ⟨"PathTrust$Desk","receive","(I)Z"⟩) := ⟨List.mem_of_getElem? (i := 77) (by decide +kernel), by decide +kernel⟩
theorem wd_78 : zL (Cond.selects "PathTrust$Reports" ⟨"PathTrust$Reports","removeFirst","(I)V"⟩ ⟨"PathTrust$Reports","removeFirst","(I)V"⟩) := ⟨List.mem_of_getElem? (i := 78) (by decide +kernel), by decide +kernel⟩
theorem wd_79 : zL (Cond.selects "PathTrust$Desk" ⟨"PathTrust$Desk","letPass","(I)I"⟩ ⟨"PathTrust$Desk","letPass","(I)I"⟩) := ⟨List.mem_of_getElem? (i := 79) (by decide +kernel), by decide +kernel⟩
theorem wd_80 : zL (Cond.selects "PathTrust" ⟨"PathTrust","widthSum","(II)I"⟩ ⟨"PathTrust","widthSum","(II)I"⟩) := ⟨List.mem_of_getElem? (i := 80) (by decide +kernel), by decide +kernel⟩
theorem wd_81 : zL (Cond.selects "PathTrust$Reports" ⟨"PathTrust$Reports","removeAll","(II)I"⟩ ⟨"PathTrust$Reports","removeAll","(II)I"⟩) := ⟨List.mem_of_getElem? (i := 81) (by decide +kernel), by decide +kernel⟩
theorem wd_82 : zL (Cond.selects "PathTrust" ⟨"PathTrust","checkSlot","(I)V"⟩ ⟨"PathTrust","checkSlot","(I)V"⟩) := ⟨List.mem_of_getElem? (i := 82) (by decide +kernel), by decide +kernel⟩
theorem wd_83 : zL (Cond.selects "PathTrust$History" ⟨"PathTrust$History","pop","(LPathTrust$Desk;)V"⟩ ⟨"PathTrust$History","pop","(LPathTrust$Desk;)V"⟩) := ⟨List.mem_of_getElem? (i := 83) (by decide +kernel), by decide +kernel⟩
theorem wd_84 : zL (Cond.selects "PathTrust$Names" ⟨"PathTrust$Names","get","(I)I"⟩ ⟨"PathTrust$Names","get","(I)I"⟩) := ⟨List.mem_of_getElem? (i := 84) (by decide +kernel), by decide +kernel⟩
theorem wd_85 : zL (Cond.selects "PathTrust$Buffer" ⟨"PathTrust$Buffer","addName","(I)V"⟩ ⟨"PathTrust$Buffer","addName","(I)V"⟩) := ⟨List.mem_of_getElem? (i := 85) (by decide +kernel), by decide +kernel⟩
theorem wd_86 : zL (Cond.selects "PathTrust" ⟨"PathTrust","writeBounds","(II)V"⟩ ⟨"PathTrust","writeBounds","(II)V"⟩) := ⟨List.mem_of_getElem? (i := 86) (by decide +kernel), by decide +kernel⟩
theorem wd_87 : zL (Cond.selects "PathTrust$Buffer" ⟨"PathTrust$Buffer","addNumber","(I)V"⟩ ⟨"PathTrust$Buffer","addNumber","(I)V"⟩) := ⟨List.mem_of_getElem? (i := 87) (by decide +kernel), by decide +kernel⟩
theorem wd_88 : zL (Cond.selects "PathTrust" ⟨"PathTrust","writeStatus","(I)V"⟩ ⟨"PathTrust","writeStatus","(I)V"⟩) := ⟨List.mem_of_getElem? (i := 88) (by decide +kernel), by decide +kernel⟩
theorem wd_89 : zL (Cond.selects "PathTrustModel" ⟨"PathTrustModel","passes","(Z)Z"⟩ ⟨"PathTrustModel","passes","(Z)Z"⟩) := ⟨List.mem_of_getElem? (i := 89) (by decide +kernel), by decide +kernel⟩
theorem wd_90 : zL (Cond.selects "PathTrustModel" ⟨"PathTrustModel","passes3","(ZZZ)Z"⟩ ⟨"PathTrustModel","passes3","(ZZZ)Z"⟩) := ⟨List.mem_of_getElem? (i := 90) (by decide +kernel), by decide +kernel⟩
theorem wd_91 : zL (Cond.selects "PathTrustModel" ⟨"PathTrustModel","appendFour","(I)V"⟩ ⟨"PathTrustModel","appendFour","(I)V"⟩) := ⟨List.mem_of_getElem? (i := 91) (by decide +kernel), by decide +kernel⟩
theorem wd_92 : zL (Cond.selects "PathTrustModel" ⟨"PathTrustModel","scan","()V"⟩ ⟨"PathTrustModel","scan","()V"⟩) := ⟨List.mem_of_getElem? (i := 92) (by decide +kernel), by decide +kernel⟩
theorem wd_93 : zL (Cond.selects "PathTrustModel" ⟨"PathTrustModel","byteAt","(I)I"⟩ ⟨"PathTrustModel","byteAt","(I)I"⟩) := ⟨List.mem_of_getElem? (i := 93) (by decide +kernel), by decide +kernel⟩
theorem wd_94 : zL (Cond.selects "PathTrustModel" ⟨"PathTrustModel","parseRules","()V"⟩ ⟨"PathTrustModel","parseRules","()V"⟩) := ⟨List.mem_of_getElem? (i := 94) (by decide +kernel), by decide +kernel⟩
theorem wd_95 : zL (Cond.selects "PathTrustModel" ⟨"PathTrustModel","isWord","(Ljava/lang/String;)Z"⟩ ⟨"PathTrustModel","isWord","(Ljava/lang/String;)Z"⟩) := ⟨List.mem_of_getElem? (i := 95) (by decide +kernel), by decide +kernel⟩
theorem wd_96 : zL (Cond.selects "PathTrustModel" ⟨"PathTrustModel","good","()Z"⟩ ⟨"PathTrustModel","good","()Z"⟩) := ⟨List.mem_of_getElem? (i := 96) (by decide +kernel), by decide +kernel⟩
theorem wd_97 : zL (Cond.selects "PathTrustModel" ⟨"PathTrustModel","errs","(I)V"⟩ ⟨"PathTrustModel","errs","(I)V"⟩) := ⟨List.mem_of_getElem? (i := 97) (by decide +kernel), by decide +kernel⟩
theorem wd_98 : zL (Cond.selects "PathTrustModel" ⟨"PathTrustModel","goOn","()V"⟩ ⟨"PathTrustModel","goOn","()V"⟩) := ⟨List.mem_of_getElem? (i := 98) (by decide +kernel), by decide +kernel⟩
theorem wd_99 : zL (Cond.selects "PathTrustModel" ⟨"PathTrustModel","numberBehind","(Ljava/lang/String;II)I"⟩ ⟨"PathTrustModel","numberBehind","(Ljava/lang/String;II)I"⟩) := ⟨List.mem_of_getElem? (i := 99) (by decide +kernel), by decide +kernel⟩
theorem wd_100 : zL (Cond.selects "PathTrustModel" ⟨"PathTrustModel","number","(II)I"⟩ ⟨"PathTrustModel","number","(II)I"⟩) := ⟨List.mem_of_getElem? (i := 100) (by decide +kernel), by decide +kernel⟩
theorem wd_101 : zL (Cond.selects "PathTrustModel" ⟨"PathTrustModel","semicolon","()V"⟩ ⟨"PathTrustModel","semicolon","()V"⟩) := ⟨List.mem_of_getElem? (i := 101) (by decide +kernel), by decide +kernel⟩
theorem wd_102 : zL (Cond.selects "PathTrustModel" ⟨"PathTrustModel","parseStatement","()V"⟩ ⟨"PathTrustModel","parseStatement","()V"⟩) := ⟨List.mem_of_getElem? (i := 102) (by decide +kernel), by decide +kernel⟩
theorem wd_103 : zL (Cond.selects "PathTrustModel" ⟨"PathTrustModel","parseNew","(II)V"⟩ ⟨"PathTrustModel","parseNew","(II)V"⟩) := ⟨List.mem_of_getElem? (i := 103) (by decide +kernel), by decide +kernel⟩
theorem wd_104 : zL (Cond.selects "PathTrustModel" ⟨"PathTrustModel","nameHere","()I"⟩ ⟨"PathTrustModel","nameHere","()I"⟩) := ⟨List.mem_of_getElem? (i := 104) (by decide +kernel), by decide +kernel⟩
theorem wd_105 : zL (Cond.selects "PathTrustModel" ⟨"PathTrustModel","isKeyword","()Z"⟩ ⟨"PathTrustModel","isKeyword","()Z"⟩) := ⟨List.mem_of_getElem? (i := 105) (by decide +kernel), by decide +kernel⟩
theorem wd_106 : zL (Cond.selects "PathTrustModel" ⟨"PathTrustModel","withName","(III)I"⟩ ⟨"PathTrustModel","withName","(III)I"⟩) := ⟨List.mem_of_getElem? (i := 106) (by decide +kernel), by decide +kernel⟩
theorem wd_107 : zL (Cond.selects "PathTrustModel" ⟨"PathTrustModel","parseLink","()V"⟩ ⟨"PathTrustModel","parseLink","()V"⟩) := ⟨List.mem_of_getElem? (i := 107) (by decide +kernel), by decide +kernel⟩
theorem wd_108 : zL (Cond.selects "PathTrustModel" ⟨"PathTrustModel","told","(II)I"⟩ ⟨"PathTrustModel","told","(II)I"⟩) := ⟨List.mem_of_getElem? (i := 108) (by decide +kernel), by decide +kernel⟩
theorem wd_109 : zL (Cond.selects "PathTrustModel" ⟨"PathTrustModel","areLinked","(II)Z"⟩ ⟨"PathTrustModel","areLinked","(II)Z"⟩) := ⟨List.mem_of_getElem? (i := 109) (by decide +kernel), by decide +kernel⟩
theorem wd_110 : zL (Cond.selects "PathTrustModel" ⟨"PathTrustModel","trustOf","(II)I"⟩ ⟨"PathTrustModel","trustOf","(II)I"⟩) := ⟨List.mem_of_getElem? (i := 110) (by decide +kernel), by decide +kernel⟩
theorem wd_111 : zL (Cond.selects "PathTrustModel" ⟨"PathTrustModel","putTrust","(III)V"⟩ ⟨"PathTrustModel","putTrust","(III)V"⟩) := ⟨List.mem_of_getElem? (i := 111) (by decide +kernel), by decide +kernel⟩
theorem wd_112 : zL (Cond.selects "PathTrustModel" ⟨"PathTrustModel","parseProbe","()V"⟩ ⟨"PathTrustModel","parseProbe","()V"⟩) := ⟨List.mem_of_getElem? (i := 112) (by decide +kernel), by decide +kernel⟩
theorem wd_113 : zL (Cond.selects "PathTrustModel" ⟨"PathTrustModel","doProbe","(IIII)I"⟩ ⟨"PathTrustModel","doProbe","(IIII)I"⟩) := ⟨List.mem_of_getElem? (i := 113) (by decide +kernel), by decide +kernel⟩
theorem wd_114 : zL (Cond.selects "PathTrustModel" ⟨"PathTrustModel","comes","(IIIIIII)I"⟩ ⟨"PathTrustModel","comes","(IIIIIII)I"⟩) := ⟨List.mem_of_getElem? (i := 114) (by decide +kernel), by decide +kernel⟩
theorem wd_115 : zL (Cond.selects "PathTrustModel" ⟨"PathTrustModel","reportOf","(III)I"⟩ ⟨"PathTrustModel","reportOf","(III)I"⟩) := ⟨List.mem_of_getElem? (i := 115) (by decide +kernel), by decide +kernel⟩
theorem wd_116 : zL (Cond.selects "PathTrustModel" ⟨"PathTrustModel","manyOf","(I)I"⟩ ⟨"PathTrustModel","manyOf","(I)I"⟩) := ⟨List.mem_of_getElem? (i := 116) (by decide +kernel), by decide +kernel⟩
theorem wd_117 : zL (Cond.selects "PathTrustModel" ⟨"PathTrustModel","ofReport","(III)I"⟩ ⟨"PathTrustModel","ofReport","(III)I"⟩) := ⟨List.mem_of_getElem? (i := 117) (by decide +kernel), by decide +kernel⟩
theorem wd_118 : zL (Cond.selects "PathTrustModel" ⟨"PathTrustModel","dropReport","(II)V"⟩ ⟨"PathTrustModel","dropReport","(II)V"⟩) := ⟨List.mem_of_getElem? (i := 118) (by decide +kernel), by decide +kernel⟩
theorem wd_119 : zL (Cond.selects "PathTrustModel" ⟨"PathTrustModel","count","(II)V"⟩ ⟨"PathTrustModel","count","(II)V"⟩) := ⟨List.mem_of_getElem? (i := 119) (by decide +kernel), by decide +kernel⟩
theorem wd_120 : zL (Cond.selects "PathTrustModel" ⟨"PathTrustModel","judges","(III)Z"⟩ ⟨"PathTrustModel","judges","(III)Z"⟩) := ⟨List.mem_of_getElem? (i := 120) (by decide +kernel), by decide +kernel⟩
theorem wd_121 : zL (Cond.selects "PathTrustModel" ⟨"PathTrustModel","doMeet","(III)Z"⟩ ⟨"PathTrustModel","doMeet","(III)Z"⟩) := ⟨List.mem_of_getElem? (i := 121) (by decide +kernel), by decide +kernel⟩
theorem wd_122 : zL (Cond.selects "PathTrustModel" ⟨"PathTrustModel","driftOf","(II)I"⟩ ⟨"PathTrustModel","driftOf","(II)I"⟩) := ⟨List.mem_of_getElem? (i := 122) (by decide +kernel), by decide +kernel⟩
theorem wd_123 : zL (Cond.selects "PathTrustModel" ⟨"PathTrustModel","rule","(I)I"⟩ ⟨"PathTrustModel","rule","(I)I"⟩) := ⟨List.mem_of_getElem? (i := 123) (by decide +kernel), by decide +kernel⟩
theorem wd_124 : zL (Cond.selects "PathTrustModel" ⟨"PathTrustModel","ageAt","(I)I"⟩ ⟨"PathTrustModel","ageAt","(I)I"⟩) := ⟨List.mem_of_getElem? (i := 124) (by decide +kernel), by decide +kernel⟩
theorem wd_125 : zL (Cond.selects "PathTrustModel" ⟨"PathTrustModel","lowBy","(III)I"⟩ ⟨"PathTrustModel","lowBy","(III)I"⟩) := ⟨List.mem_of_getElem? (i := 125) (by decide +kernel), by decide +kernel⟩
theorem wd_126 : zL (Cond.selects "PathTrustModel" ⟨"PathTrustModel","topBy","(III)I"⟩ ⟨"PathTrustModel","topBy","(III)I"⟩) := ⟨List.mem_of_getElem? (i := 126) (by decide +kernel), by decide +kernel⟩
theorem wd_127 : zL (Cond.selects "PathTrustModel" ⟨"PathTrustModel","remember","()V"⟩ ⟨"PathTrustModel","remember","()V"⟩) := ⟨List.mem_of_getElem? (i := 127) (by decide +kernel), by decide +kernel⟩
theorem wd_128 : zL (Cond.selects "PathTrustModel" ⟨"PathTrustModel","agents","()I"⟩ ⟨"PathTrustModel","agents","()I"⟩) := ⟨List.mem_of_getElem? (i := 128) (by decide +kernel), by decide +kernel⟩
theorem wd_129 : zL (Cond.selects "PathTrustModel" ⟨"PathTrustModel","found","(II)I"⟩ ⟨"PathTrustModel","found","(II)I"⟩) := ⟨List.mem_of_getElem? (i := 129) (by decide +kernel), by decide +kernel⟩
theorem wd_130 : zL (Cond.selects "PathTrustModel" ⟨"PathTrustModel","ways","()I"⟩ ⟨"PathTrustModel","ways","()I"⟩) := ⟨List.mem_of_getElem? (i := 130) (by decide +kernel), by decide +kernel⟩
theorem wd_131 : zL (Cond.selects "PathTrustModel" ⟨"PathTrustModel","queued","()I"⟩ ⟨"PathTrustModel","queued","()I"⟩) := ⟨List.mem_of_getElem? (i := 131) (by decide +kernel), by decide +kernel⟩
theorem wd_132 : zL (Cond.selects "PathTrustModel" ⟨"PathTrustModel","links","()I"⟩ ⟨"PathTrustModel","links","()I"⟩) := ⟨List.mem_of_getElem? (i := 132) (by decide +kernel), by decide +kernel⟩
theorem wd_133 : zL (Cond.selects "PathTrustModel" ⟨"PathTrustModel","neighborsOf","(I)I"⟩ ⟨"PathTrustModel","neighborsOf","(I)I"⟩) := ⟨List.mem_of_getElem? (i := 133) (by decide +kernel), by decide +kernel⟩
theorem wd_134 : zL (Cond.selects "PathTrustModel" ⟨"PathTrustModel","areAgents","(II)Z"⟩ ⟨"PathTrustModel","areAgents","(II)Z"⟩) := ⟨List.mem_of_getElem? (i := 134) (by decide +kernel), by decide +kernel⟩
theorem wd_135 : zL (Cond.selects "PathTrustModel" ⟨"PathTrustModel","isAgent","(I)Z"⟩ ⟨"PathTrustModel","isAgent","(I)Z"⟩) := ⟨List.mem_of_getElem? (i := 135) (by decide +kernel), by decide +kernel⟩
theorem wd_136 : zL (Cond.selects "PathTrustModel" ⟨"PathTrustModel","passes2","(ZZ)Z"⟩ ⟨"PathTrustModel","passes2","(ZZ)Z"⟩) := ⟨List.mem_of_getElem? (i := 136) (by decide +kernel), by decide +kernel⟩
theorem wd_137 : zL (Cond.selects "PathTrustModel" ⟨"PathTrustModel","isReport","(II)Z"⟩ ⟨"PathTrustModel","isReport","(II)Z"⟩) := ⟨List.mem_of_getElem? (i := 137) (by decide +kernel), by decide +kernel⟩
theorem wd_138 : zL (Cond.selects "PathTrustModel" ⟨"PathTrustModel","statusAt","(II)I"⟩ ⟨"PathTrustModel","statusAt","(II)I"⟩) := ⟨List.mem_of_getElem? (i := 138) (by decide +kernel), by decide +kernel⟩
theorem wd_139 : zL (Cond.selects "PathTrustModel" ⟨"PathTrustModel","layBelief","(II)V"⟩ ⟨"PathTrustModel","layBelief","(II)V"⟩) := ⟨List.mem_of_getElem? (i := 139) (by decide +kernel), by decide +kernel⟩
theorem wd_140 : zL (Cond.selects "PathTrustModel" ⟨"PathTrustModel","isOut","(II)Z"⟩ ⟨"PathTrustModel","isOut","(II)Z"⟩) := ⟨List.mem_of_getElem? (i := 140) (by decide +kernel), by decide +kernel⟩
theorem wd_141 : zL (Cond.selects "PathTrustModel" ⟨"PathTrustModel","isOwn","(II)Z"⟩ ⟨"PathTrustModel","isOwn","(II)Z"⟩) := ⟨List.mem_of_getElem? (i := 141) (by decide +kernel), by decide +kernel⟩
theorem wd_142 : zL (Cond.selects "PathTrustModel" ⟨"PathTrustModel","trustInVia","(II)I"⟩ ⟨"PathTrustModel","trustInVia","(II)I"⟩) := ⟨List.mem_of_getElem? (i := 142) (by decide +kernel), by decide +kernel⟩
theorem wd_143 : zL (Cond.selects "PathTrustModel" ⟨"PathTrustModel","nextReport","(I)I"⟩ ⟨"PathTrustModel","nextReport","(I)I"⟩) := ⟨List.mem_of_getElem? (i := 143) (by decide +kernel), by decide +kernel⟩
theorem wd_144 : zL (Cond.selects "PathTrustModel" ⟨"PathTrustModel","isAhead","(III)Z"⟩ ⟨"PathTrustModel","isAhead","(III)Z"⟩) := ⟨List.mem_of_getElem? (i := 144) (by decide +kernel), by decide +kernel⟩
theorem wd_145 : zL (Cond.selects "PathTrustModel" ⟨"PathTrustModel","movedBy","(II)I"⟩ ⟨"PathTrustModel","movedBy","(II)I"⟩) := ⟨List.mem_of_getElem? (i := 145) (by decide +kernel), by decide +kernel⟩
theorem wd_146 : zL (Cond.selects "PathTrustModel" ⟨"PathTrustModel","areThere","(II)Z"⟩ ⟨"PathTrustModel","areThere","(II)Z"⟩) := ⟨List.mem_of_getElem? (i := 146) (by decide +kernel), by decide +kernel⟩
theorem wd_147 : zL (Cond.selects "PathTrustModel" ⟨"PathTrustModel","isWay","(I)Z"⟩ ⟨"PathTrustModel","isWay","(I)Z"⟩) := ⟨List.mem_of_getElem? (i := 147) (by decide +kernel), by decide +kernel⟩
theorem wd_148 : zL (Cond.selects "PathTrustModel" ⟨"PathTrustModel","ownOf","(II)I"⟩ ⟨"PathTrustModel","ownOf","(II)I"⟩) := ⟨List.mem_of_getElem? (i := 148) (by decide +kernel), by decide +kernel⟩
theorem wd_149 : zL (Cond.selects "PathTrustModel" ⟨"PathTrustModel","boundOf","(III)I"⟩ ⟨"PathTrustModel","boundOf","(III)I"⟩) := ⟨List.mem_of_getElem? (i := 149) (by decide +kernel), by decide +kernel⟩
theorem wd_150 : zL (Cond.selects "PathTrustModel" ⟨"PathTrustModel","originsWith","(III)I"⟩ ⟨"PathTrustModel","originsWith","(III)I"⟩) := ⟨List.mem_of_getElem? (i := 150) (by decide +kernel), by decide +kernel⟩
theorem wd_151 : zL (Cond.selects "PathTrustModel" ⟨"PathTrustModel","bestOf","(II)I"⟩ ⟨"PathTrustModel","bestOf","(II)I"⟩) := ⟨List.mem_of_getElem? (i := 151) (by decide +kernel), by decide +kernel⟩
theorem wd_152 : zL (Cond.selects "PathTrustModel" ⟨"PathTrustModel","valueOf","(III)I"⟩ ⟨"PathTrustModel","valueOf","(III)I"⟩) := ⟨List.mem_of_getElem? (i := 152) (by decide +kernel), by decide +kernel⟩
theorem wd_153 : zL (Cond.selects "PathTrustModel" ⟨"PathTrustModel","rivalsOf","(I)I"⟩ ⟨"PathTrustModel","rivalsOf","(I)I"⟩) := ⟨List.mem_of_getElem? (i := 153) (by decide +kernel), by decide +kernel⟩
theorem wd_154 : zL (Cond.selects "PathTrustModel" ⟨"PathTrustModel","widthOf","(II)I"⟩ ⟨"PathTrustModel","widthOf","(II)I"⟩) := ⟨List.mem_of_getElem? (i := 154) (by decide +kernel), by decide +kernel⟩
theorem wd_155 : zL (Cond.selects "PathTrustModel" ⟨"PathTrustModel","isMessage","(I)Z"⟩ ⟨"PathTrustModel","isMessage","(I)Z"⟩) := ⟨List.mem_of_getElem? (i := 155) (by decide +kernel), by decide +kernel⟩
theorem wd_156 : zL (Cond.selects "PathTrustModel" ⟨"PathTrustModel","ofMessage","(II)I"⟩ ⟨"PathTrustModel","ofMessage","(II)I"⟩) := ⟨List.mem_of_getElem? (i := 156) (by decide +kernel), by decide +kernel⟩
theorem wd_157 : zL (Cond.selects "PathTrustModel" ⟨"PathTrustModel","refusalOf","(I)I"⟩ ⟨"PathTrustModel","refusalOf","(I)I"⟩) := ⟨List.mem_of_getElem? (i := 157) (by decide +kernel), by decide +kernel⟩
theorem wd_158 : zL (Cond.selects "PathTrustModel" ⟨"PathTrustModel","majorityOf","(II)I"⟩ ⟨"PathTrustModel","majorityOf","(II)I"⟩) := ⟨List.mem_of_getElem? (i := 158) (by decide +kernel), by decide +kernel⟩
theorem wd_159 : zL (Cond.selects "PathTrustModel" ⟨"PathTrustModel","agreed","(II)I"⟩ ⟨"PathTrustModel","agreed","(II)I"⟩) := ⟨List.mem_of_getElem? (i := 159) (by decide +kernel), by decide +kernel⟩
theorem wd_160 : zL (Cond.selects "PathTrustModel" ⟨"PathTrustModel","holding","(II)I"⟩ ⟨"PathTrustModel","holding","(II)I"⟩) := ⟨List.mem_of_getElem? (i := 160) (by decide +kernel), by decide +kernel⟩
theorem wd_161 : zL (Cond.selects "PathTrustModel" ⟨"PathTrustModel","reaches","(III)Z"⟩ ⟨"PathTrustModel","reaches","(III)Z"⟩) := ⟨List.mem_of_getElem? (i := 161) (by decide +kernel), by decide +kernel⟩
theorem wd_162 : zL (Cond.selects "PathTrustModel" ⟨"PathTrustModel","keepAside","()V"⟩ ⟨"PathTrustModel","keepAside","()V"⟩) := ⟨List.mem_of_getElem? (i := 162) (by decide +kernel), by decide +kernel⟩
theorem wd_163 : zL (Cond.selects "PathTrustModel" ⟨"PathTrustModel","doRound","()I"⟩ ⟨"PathTrustModel","doRound","()I"⟩) := ⟨List.mem_of_getElem? (i := 163) (by decide +kernel), by decide +kernel⟩
theorem wd_164 : zL (Cond.selects "PathTrustModel" ⟨"PathTrustModel","doRelay","(I)I"⟩ ⟨"PathTrustModel","doRelay","(I)I"⟩) := ⟨List.mem_of_getElem? (i := 164) (by decide +kernel), by decide +kernel⟩
theorem wd_165 : zL (Cond.selects "PathTrustModel" ⟨"PathTrustModel","spreads","(IIII)I"⟩ ⟨"PathTrustModel","spreads","(IIII)I"⟩) := ⟨List.mem_of_getElem? (i := 165) (by decide +kernel), by decide +kernel⟩
theorem wd_166 : zL (Cond.selects "PathTrustModel" ⟨"PathTrustModel","sends","(III)Z"⟩ ⟨"PathTrustModel","sends","(III)Z"⟩) := ⟨List.mem_of_getElem? (i := 166) (by decide +kernel), by decide +kernel⟩
theorem wd_167 : zL (Cond.selects "PathTrustModel" ⟨"PathTrustModel","deliverAll","(I)I"⟩ ⟨"PathTrustModel","deliverAll","(I)I"⟩) := ⟨List.mem_of_getElem? (i := 167) (by decide +kernel), by decide +kernel⟩
theorem wd_168 : zL (Cond.selects "PathTrustModel" ⟨"PathTrustModel","delivers","()Z"⟩ ⟨"PathTrustModel","delivers","()Z"⟩) := ⟨List.mem_of_getElem? (i := 168) (by decide +kernel), by decide +kernel⟩
theorem wd_169 : zL (Cond.selects "PathTrustModel" ⟨"PathTrustModel","dropFirst","()V"⟩ ⟨"PathTrustModel","dropFirst","()V"⟩) := ⟨List.mem_of_getElem? (i := 169) (by decide +kernel), by decide +kernel⟩
theorem wd_170 : zL (Cond.selects "PathTrustModel" ⟨"PathTrustModel","layBack","(I)I"⟩ ⟨"PathTrustModel","layBack","(I)I"⟩) := ⟨List.mem_of_getElem? (i := 170) (by decide +kernel), by decide +kernel⟩
theorem wd_171 : zL (Cond.selects "PathTrustModel" ⟨"PathTrustModel","doPass","(I)I"⟩ ⟨"PathTrustModel","doPass","(I)I"⟩) := ⟨List.mem_of_getElem? (i := 171) (by decide +kernel), by decide +kernel⟩
theorem wd_172 : zL (Cond.selects "PathTrustModel" ⟨"PathTrustModel","widthBut","(III)I"⟩ ⟨"PathTrustModel","widthBut","(III)I"⟩) := ⟨List.mem_of_getElem? (i := 172) (by decide +kernel), by decide +kernel⟩
theorem wd_173 : zL (Cond.selects "PathTrustModel" ⟨"PathTrustModel","write","(I)V"⟩ ⟨"PathTrustModel","write","(I)V"⟩) := ⟨List.mem_of_getElem? (i := 173) (by decide +kernel), by decide +kernel⟩
theorem wd_174 : zL (Cond.selects "PathTrustModel" ⟨"PathTrustModel","writeName","(I)V"⟩ ⟨"PathTrustModel","writeName","(I)V"⟩) := ⟨List.mem_of_getElem? (i := 174) (by decide +kernel), by decide +kernel⟩
theorem wd_175 : zL (Cond.selects "PathTrustModel" ⟨"PathTrustModel","writeNumber","(I)V"⟩ ⟨"PathTrustModel","writeNumber","(I)V"⟩) := ⟨List.mem_of_getElem? (i := 175) (by decide +kernel), by decide +kernel⟩
theorem wd_177 : zL (Cond.initialized "PathTrust") := ⟨List.mem_of_getElem? (i := 177) (by decide +kernel), by decide +kernel⟩
theorem wd_178 : zL (Cond.initialized "PathTrust$Buffer") := ⟨List.mem_of_getElem? (i := 178) (by decide +kernel), by decide +kernel⟩
theorem wd_179 : zL (Cond.initialized "PathTrust$View") := ⟨List.mem_of_getElem? (i := 179) (by decide +kernel), by decide +kernel⟩
theorem wd_180 : zL (Cond.initialized "PathTrust$Desk") := ⟨List.mem_of_getElem? (i := 180) (by decide +kernel), by decide +kernel⟩
theorem wd_181 : zL (Cond.initialized "PathTrust$Names") := ⟨List.mem_of_getElem? (i := 181) (by decide +kernel), by decide +kernel⟩
theorem wd_182 : zL (Cond.initialized "PathTrust$Reports") := ⟨List.mem_of_getElem? (i := 182) (by decide +kernel), by decide +kernel⟩
theorem wd_183 : zL (Cond.initialized "java/util/Arrays") := ⟨List.mem_of_getElem? (i := 183) (by decide +kernel), by decide +kernel⟩
theorem wd_184 : zL (Cond.initialized "PathTrust$Parser") := ⟨List.mem_of_getElem? (i := 184) (by decide +kernel), by decide +kernel⟩
theorem wd_185 : zL (Cond.initialized "PathTrust$History") := ⟨List.mem_of_getElem? (i := 185) (by decide +kernel), by decide +kernel⟩
theorem wd_186 : zL (Cond.initialized "PathTrustModel") := ⟨List.mem_of_getElem? (i := 186) (by decide +kernel), by decide +kernel⟩
theorem wd_190 : zL (Cond.initialized "java/lang/IllegalStateException") := ⟨List.mem_of_getElem? (i := 190) (by decide +kernel), by decide +kernel⟩
theorem wd_191 : zL (Cond.initialized "java/lang/IllegalArgumentException") := ⟨List.mem_of_getElem? (i := 191) (by decide +kernel), by decide +kernel⟩
theorem wd_196 : zL (Cond.initialized "java/lang/Math") := ⟨List.mem_of_getElem? (i := 196) (by decide +kernel), by decide +kernel⟩
theorem wd_197 : zL (Cond.initialized "java/lang/System") := ⟨List.mem_of_getElem? (i := 197) (by decide +kernel), by decide +kernel⟩
theorem wd_198 : zL (Cond.initialized "java/lang/IndexOutOfBoundsException") := ⟨List.mem_of_getElem? (i := 198) (by decide +kernel), by decide +kernel⟩
theorem wd_199 : zL (Cond.initialized "java/lang/Integer") := ⟨List.mem_of_getElem? (i := 199) (by decide +kernel), by decide +kernel⟩
theorem wd_206 : zL (Cond.methodLink "PathTrust" 1 ⟨"java/lang/Object","<init>","()V"⟩) := ⟨List.mem_of_getElem? (i := 206) (by decide +kernel), by decide +kernel⟩
theorem wd_207 : zL (Cond.instanceMethod ⟨"java/lang/Object","<init>","()V"⟩) := ⟨List.mem_of_getElem? (i := 207) (by decide +kernel), by decide +kernel⟩
theorem wd_208 : zL (Cond.code ⟨"java/lang/Object","<init>","()V"⟩ object_method_1_code 1 (Option.none : Option FieldType)) := ⟨List.mem_of_getElem? (i := 208) (by decide +kernel), by decide +kernel⟩
theorem wd_209 : zL (Cond.classLink "PathTrust" 7 "PathTrust$Buffer") := ⟨List.mem_of_getElem? (i := 209) (by decide +kernel), by decide +kernel⟩
theorem wd_210 : zL (Cond.instantiable "PathTrust$Buffer" 2) := ⟨List.mem_of_getElem? (i := 210) (by decide +kernel), by decide +kernel⟩
theorem wd_211 : zL (Cond.methodLinkNest "PathTrust" 11 ⟨"PathTrust$Buffer","<init>","(I)V"⟩ "PathTrust") := ⟨List.mem_of_getElem? (i := 211) (by decide +kernel), by decide +kernel⟩
theorem wd_212 : zL (Cond.instanceMethod ⟨"PathTrust$Buffer","<init>","(I)V"⟩) := ⟨List.mem_of_getElem? (i := 212) (by decide +kernel), by decide +kernel⟩
theorem wd_213 : zL (Cond.code ⟨"PathTrust$Buffer","<init>","(I)V"⟩ prog_2_method_1_code 2 (Option.none : Option FieldType)) := ⟨List.mem_of_getElem? (i := 213) (by decide +kernel), by decide +kernel⟩
theorem wd_214 : zL (Cond.methodLink "PathTrust$Buffer" 3 ⟨"java/lang/Object","<init>","()V"⟩) := ⟨List.mem_of_getElem? (i := 214) (by decide +kernel), by decide +kernel⟩
theorem wd_215 : zL (Cond.fieldLink "PathTrust$Buffer" 9 "PathTrust$Buffer" "bytes" "[B") := ⟨List.mem_of_getElem? (i := 215) (by decide +kernel), by decide +kernel⟩
theorem wd_216 : zL (Cond.fieldLinkNest "PathTrust" 58 "PathTrust$Buffer" "length" "I" "PathTrust") := ⟨List.mem_of_getElem? (i := 216) (by decide +kernel), by decide +kernel⟩
theorem wd_217 : zL (Cond.fieldLink "PathTrust$Buffer" 15 "PathTrust$Buffer" "length" "I") := ⟨List.mem_of_getElem? (i := 217) (by decide +kernel), by decide +kernel⟩
theorem wd_218 : zL (Cond.fieldLinkNest "PathTrust$Parser" 176 "PathTrust$Buffer" "length" "I" "PathTrust") := ⟨List.mem_of_getElem? (i := 218) (by decide +kernel), by decide +kernel⟩
theorem wd_219 : zL (Cond.laysFinal "PathTrust$Buffer" "PathTrust$Buffer" "bytes" "[B") := ⟨List.mem_of_getElem? (i := 219) (by decide +kernel), by decide +kernel⟩
theorem wd_221 : zL (Cond.lays "PathTrust$Buffer" "PathTrust$Buffer" "length" "I") := ⟨List.mem_of_getElem? (i := 221) (by decide +kernel), by decide +kernel⟩
theorem wd_224 : zL (Cond.arrayClass FieldType.byte) := ⟨List.mem_of_getElem? (i := 224) (by decide +kernel), by decide +kernel⟩
theorem wd_225 : zL (Cond.classLink "PathTrust" 21 "PathTrust$View") := ⟨List.mem_of_getElem? (i := 225) (by decide +kernel), by decide +kernel⟩
theorem wd_226 : zL (Cond.instantiable "PathTrust$View" 9) := ⟨List.mem_of_getElem? (i := 226) (by decide +kernel), by decide +kernel⟩
theorem wd_227 : zL (Cond.methodLinkNest "PathTrust" 23 ⟨"PathTrust$View","<init>","()V"⟩ "PathTrust") := ⟨List.mem_of_getElem? (i := 227) (by decide +kernel), by decide +kernel⟩
theorem wd_228 : zL (Cond.instanceMethod ⟨"PathTrust$View","<init>","()V"⟩) := ⟨List.mem_of_getElem? (i := 228) (by decide +kernel), by decide +kernel⟩
theorem wd_229 : zL (Cond.code ⟨"PathTrust$View","<init>","()V"⟩ prog_8_method_1_code 1 (Option.none : Option FieldType)) := ⟨List.mem_of_getElem? (i := 229) (by decide +kernel), by decide +kernel⟩
theorem wd_230 : zL (Cond.methodLink "PathTrust$View" 3 ⟨"java/lang/Object","<init>","()V"⟩) := ⟨List.mem_of_getElem? (i := 230) (by decide +kernel), by decide +kernel⟩
theorem wd_231 : zL (Cond.fieldLink "PathTrust$View" 9 "PathTrust$View" "rows" "[I") := ⟨List.mem_of_getElem? (i := 231) (by decide +kernel), by decide +kernel⟩
theorem wd_232 : zL (Cond.fieldLink "PathTrust$View" 15 "PathTrust$View" "origins" "[I") := ⟨List.mem_of_getElem? (i := 232) (by decide +kernel), by decide +kernel⟩
theorem wd_233 : zL (Cond.fieldLink "PathTrust$View" 18 "PathTrust$View" "ranks" "[I") := ⟨List.mem_of_getElem? (i := 233) (by decide +kernel), by decide +kernel⟩
theorem wd_234 : zL (Cond.fieldLink "PathTrust$View" 21 "PathTrust$View" "lows" "[I") := ⟨List.mem_of_getElem? (i := 234) (by decide +kernel), by decide +kernel⟩
theorem wd_235 : zL (Cond.fieldLink "PathTrust$View" 24 "PathTrust$View" "highs" "[I") := ⟨List.mem_of_getElem? (i := 235) (by decide +kernel), by decide +kernel⟩
theorem wd_236 : zL (Cond.fieldLink "PathTrust$View" 27 "PathTrust$View" "statuses" "[I") := ⟨List.mem_of_getElem? (i := 236) (by decide +kernel), by decide +kernel⟩
theorem wd_237 : zL (Cond.fieldLink "PathTrust$View" 30 "PathTrust$View" "count" "I") := ⟨List.mem_of_getElem? (i := 237) (by decide +kernel), by decide +kernel⟩
theorem wd_238 : zL (Cond.fieldLink "PathTrust$View" 34 "PathTrust$View" "low" "I") := ⟨List.mem_of_getElem? (i := 238) (by decide +kernel), by decide +kernel⟩
theorem wd_239 : zL (Cond.fieldLinkNest "PathTrust" 294 "PathTrust$View" "low" "I" "PathTrust") := ⟨List.mem_of_getElem? (i := 239) (by decide +kernel), by decide +kernel⟩
theorem wd_240 : zL (Cond.fieldLink "PathTrust$View" 37 "PathTrust$View" "high" "I") := ⟨List.mem_of_getElem? (i := 240) (by decide +kernel), by decide +kernel⟩
theorem wd_241 : zL (Cond.fieldLinkNest "PathTrust" 297 "PathTrust$View" "high" "I" "PathTrust") := ⟨List.mem_of_getElem? (i := 241) (by decide +kernel), by decide +kernel⟩
theorem wd_242 : zL (Cond.laysFinal "PathTrust$View" "PathTrust$View" "rows" "[I") := ⟨List.mem_of_getElem? (i := 242) (by decide +kernel), by decide +kernel⟩
theorem wd_244 : zL (Cond.laysFinal "PathTrust$View" "PathTrust$View" "origins" "[I") := ⟨List.mem_of_getElem? (i := 244) (by decide +kernel), by decide +kernel⟩
theorem wd_246 : zL (Cond.laysFinal "PathTrust$View" "PathTrust$View" "ranks" "[I") := ⟨List.mem_of_getElem? (i := 246) (by decide +kernel), by decide +kernel⟩
theorem wd_248 : zL (Cond.laysFinal "PathTrust$View" "PathTrust$View" "lows" "[I") := ⟨List.mem_of_getElem? (i := 248) (by decide +kernel), by decide +kernel⟩
theorem wd_250 : zL (Cond.laysFinal "PathTrust$View" "PathTrust$View" "highs" "[I") := ⟨List.mem_of_getElem? (i := 250) (by decide +kernel), by decide +kernel⟩
theorem wd_252 : zL (Cond.laysFinal "PathTrust$View" "PathTrust$View" "statuses" "[I") := ⟨List.mem_of_getElem? (i := 252) (by decide +kernel), by decide +kernel⟩
theorem wd_254 : zL (Cond.lays "PathTrust$View" "PathTrust$View" "count" "I") := ⟨List.mem_of_getElem? (i := 254) (by decide +kernel), by decide +kernel⟩
theorem wd_256 : zL (Cond.lays "PathTrust$View" "PathTrust$View" "low" "I") := ⟨List.mem_of_getElem? (i := 256) (by decide +kernel), by decide +kernel⟩
theorem wd_258 : zL (Cond.lays "PathTrust$View" "PathTrust$View" "high" "I") := ⟨List.mem_of_getElem? (i := 258) (by decide +kernel), by decide +kernel⟩
theorem wd_261 : zL (Cond.arrayClass FieldType.int) := ⟨List.mem_of_getElem? (i := 261) (by decide +kernel), by decide +kernel⟩
theorem wd_262 : zL (Cond.classLink "PathTrust" 28 "PathTrust$Desk") := ⟨List.mem_of_getElem? (i := 262) (by decide +kernel), by decide +kernel⟩
theorem wd_263 : zL (Cond.instantiable "PathTrust$Desk" 9) := ⟨List.mem_of_getElem? (i := 263) (by decide +kernel), by decide +kernel⟩
theorem wd_264 : zL (Cond.methodLinkNest "PathTrust" 30 ⟨"PathTrust$Desk","<init>","()V"⟩ "PathTrust") := ⟨List.mem_of_getElem? (i := 264) (by decide +kernel), by decide +kernel⟩
theorem wd_265 : zL (Cond.instanceMethod ⟨"PathTrust$Desk","<init>","()V"⟩) := ⟨List.mem_of_getElem? (i := 265) (by decide +kernel), by decide +kernel⟩
theorem wd_266 : zL (Cond.code ⟨"PathTrust$Desk","<init>","()V"⟩ prog_3_method_1_code 2 (Option.none : Option FieldType)) := ⟨List.mem_of_getElem? (i := 266) (by decide +kernel), by decide +kernel⟩
theorem wd_267 : zL (Cond.methodLink "PathTrust$Desk" 3 ⟨"java/lang/Object","<init>","()V"⟩) := ⟨List.mem_of_getElem? (i := 267) (by decide +kernel), by decide +kernel⟩
theorem wd_268 : zL (Cond.classLink "PathTrust$Desk" 15 "PathTrust$Names") := ⟨List.mem_of_getElem? (i := 268) (by decide +kernel), by decide +kernel⟩
theorem wd_269 : zL (Cond.instantiable "PathTrust$Names" 2) := ⟨List.mem_of_getElem? (i := 269) (by decide +kernel), by decide +kernel⟩
theorem wd_270 : zL (Cond.methodLinkNest "PathTrust$Desk" 17 ⟨"PathTrust$Names","<init>","()V"⟩ "PathTrust") := ⟨List.mem_of_getElem? (i := 270) (by decide +kernel), by decide +kernel⟩
theorem wd_271 : zL (Cond.instanceMethod ⟨"PathTrust$Names","<init>","()V"⟩) := ⟨List.mem_of_getElem? (i := 271) (by decide +kernel), by decide +kernel⟩
theorem wd_272 : zL (Cond.code ⟨"PathTrust$Names","<init>","()V"⟩ prog_5_method_1_code 1 (Option.none : Option FieldType)) := ⟨List.mem_of_getElem? (i := 272) (by decide +kernel), by decide +kernel⟩
theorem wd_273 : zL (Cond.methodLink "PathTrust$Names" 3 ⟨"java/lang/Object","<init>","()V"⟩) := ⟨List.mem_of_getElem? (i := 273) (by decide +kernel), by decide +kernel⟩
theorem wd_274 : zL (Cond.fieldLink "PathTrust$Names" 9 "PathTrust$Names" "codes" "[I") := ⟨List.mem_of_getElem? (i := 274) (by decide +kernel), by decide +kernel⟩
theorem wd_275 : zL (Cond.fieldLink "PathTrust$Names" 15 "PathTrust$Names" "count" "I") := ⟨List.mem_of_getElem? (i := 275) (by decide +kernel), by decide +kernel⟩
theorem wd_276 : zL (Cond.fieldLinkNest "PathTrust$Desk" 57 "PathTrust$Names" "count" "I" "PathTrust") := ⟨List.mem_of_getElem? (i := 276) (by decide +kernel), by decide +kernel⟩
theorem wd_277 : zL (Cond.fieldLinkNest "PathTrust" 91 "PathTrust$Names" "count" "I" "PathTrust") := ⟨List.mem_of_getElem? (i := 277) (by decide +kernel), by decide +kernel⟩
theorem wd_278 : zL (Cond.fieldLinkNest "PathTrust$Parser" 117 "PathTrust$Names" "count" "I" "PathTrust") := ⟨List.mem_of_getElem? (i := 278) (by decide +kernel), by decide +kernel⟩
theorem wd_279 : zL (Cond.laysFinal "PathTrust$Names" "PathTrust$Names" "codes" "[I") := ⟨List.mem_of_getElem? (i := 279) (by decide +kernel), by decide +kernel⟩
theorem wd_281 : zL (Cond.lays "PathTrust$Names" "PathTrust$Names" "count" "I") := ⟨List.mem_of_getElem? (i := 281) (by decide +kernel), by decide +kernel⟩
theorem wd_284 : zL (Cond.classLink "PathTrust$Desk" 28 "PathTrust$Reports") := ⟨List.mem_of_getElem? (i := 284) (by decide +kernel), by decide +kernel⟩
theorem wd_285 : zL (Cond.arrayOver (FieldType.object "PathTrust$Reports")) := ⟨List.mem_of_getElem? (i := 285) (by decide +kernel), by decide +kernel⟩
theorem wd_286 : zL (Cond.instantiable "PathTrust$Reports" 2) := ⟨List.mem_of_getElem? (i := 286) (by decide +kernel), by decide +kernel⟩
theorem wd_287 : zL (Cond.methodLinkNest "PathTrust$Desk" 34 ⟨"PathTrust$Reports","<init>","(I)V"⟩ "PathTrust") := ⟨List.mem_of_getElem? (i := 287) (by decide +kernel), by decide +kernel⟩
theorem wd_288 : zL (Cond.instanceMethod ⟨"PathTrust$Reports","<init>","(I)V"⟩) := ⟨List.mem_of_getElem? (i := 288) (by decide +kernel), by decide +kernel⟩
theorem wd_289 : zL (Cond.code ⟨"PathTrust$Reports","<init>","(I)V"⟩ prog_7_method_1_code 2 (Option.none : Option FieldType)) := ⟨List.mem_of_getElem? (i := 289) (by decide +kernel), by decide +kernel⟩
theorem wd_290 : zL (Cond.methodLink "PathTrust$Reports" 3 ⟨"java/lang/Object","<init>","()V"⟩) := ⟨List.mem_of_getElem? (i := 290) (by decide +kernel), by decide +kernel⟩
theorem wd_291 : zL (Cond.fieldLink "PathTrust$Reports" 9 "PathTrust$Reports" "cells" "[I") := ⟨List.mem_of_getElem? (i := 291) (by decide +kernel), by decide +kernel⟩
theorem wd_292 : zL (Cond.fieldLink "PathTrust$Reports" 15 "PathTrust$Reports" "count" "I") := ⟨List.mem_of_getElem? (i := 292) (by decide +kernel), by decide +kernel⟩
theorem wd_293 : zL (Cond.fieldLinkNest "PathTrust$View" 46 "PathTrust$Reports" "count" "I" "PathTrust") := ⟨List.mem_of_getElem? (i := 293) (by decide +kernel), by decide +kernel⟩
theorem wd_294 : zL (Cond.fieldLinkNest "PathTrust$Desk" 71 "PathTrust$Reports" "count" "I" "PathTrust") := ⟨List.mem_of_getElem? (i := 294) (by decide +kernel), by decide +kernel⟩
theorem wd_295 : zL (Cond.fieldLinkNest "PathTrust" 116 "PathTrust$Reports" "count" "I" "PathTrust") := ⟨List.mem_of_getElem? (i := 295) (by decide +kernel), by decide +kernel⟩
theorem wd_296 : zL (Cond.laysFinal "PathTrust$Reports" "PathTrust$Reports" "cells" "[I") := ⟨List.mem_of_getElem? (i := 296) (by decide +kernel), by decide +kernel⟩
theorem wd_298 : zL (Cond.lays "PathTrust$Reports" "PathTrust$Reports" "count" "I") := ⟨List.mem_of_getElem? (i := 298) (by decide +kernel), by decide +kernel⟩
theorem wd_301 : zL (Cond.methodLink "PathTrust$Desk" 47 ⟨"PathTrust$Desk","reset","()V"⟩) := ⟨List.mem_of_getElem? (i := 301) (by decide +kernel), by decide +kernel⟩
theorem wd_303 : zL (Cond.instanceMethod ⟨"PathTrust$Desk","reset","()V"⟩) := ⟨List.mem_of_getElem? (i := 303) (by decide +kernel), by decide +kernel⟩
theorem wd_304 : zL (Cond.code ⟨"PathTrust$Desk","reset","()V"⟩ prog_3_method_2_code 2 (Option.none : Option FieldType)) := ⟨List.mem_of_getElem? (i := 304) (by decide +kernel), by decide +kernel⟩
theorem wd_305 : zL (Cond.fieldLinkNest "PathTrust$Desk" 50 "PathTrust" "RULE_AT_FIRST" "[I" "PathTrust") := ⟨List.mem_of_getElem? (i := 305) (by decide +kernel), by decide +kernel⟩
theorem wd_307 : zL (Cond.methodLink "PathTrust$Desk" 53 ⟨"PathTrust$Desk","putRule","(II)V"⟩) := ⟨List.mem_of_getElem? (i := 307) (by decide +kernel), by decide +kernel⟩
theorem wd_309 : zL (Cond.instanceMethod ⟨"PathTrust$Desk","putRule","(II)V"⟩) := ⟨List.mem_of_getElem? (i := 309) (by decide +kernel), by decide +kernel⟩
theorem wd_310 : zL (Cond.code ⟨"PathTrust$Desk","putRule","(II)V"⟩ prog_3_method_5_code 3 (Option.none : Option FieldType)) := ⟨List.mem_of_getElem? (i := 310) (by decide +kernel), by decide +kernel⟩
theorem wd_311 : zL (Cond.methodLink "PathTrust$Desk" 61 ⟨"java/util/Arrays","fill","([II)V"⟩) := ⟨List.mem_of_getElem? (i := 311) (by decide +kernel), by decide +kernel⟩
theorem wd_312 : zL (Cond.static ⟨"java/util/Arrays","fill","([II)V"⟩) := ⟨List.mem_of_getElem? (i := 312) (by decide +kernel), by decide +kernel⟩
theorem wd_313 : zL (Cond.code ⟨"java/util/Arrays","fill","([II)V"⟩ prog_28_method_103_code 4 (Option.none : Option FieldType)) := ⟨List.mem_of_getElem? (i := 313) (by decide +kernel), by decide +kernel⟩
theorem wd_314 : zL (Cond.methodLink "PathTrust$Desk" 67 ⟨"PathTrust$Desk","listOf","(I)LPathTrust$Reports;"⟩) := ⟨List.mem_of_getElem? (i := 314) (by decide +kernel), by decide +kernel⟩
theorem wd_316 : zL (Cond.instanceMethod ⟨"PathTrust$Desk","listOf","(I)LPathTrust$Reports;"⟩) := ⟨List.mem_of_getElem? (i := 316) (by decide +kernel), by decide +kernel⟩
theorem wd_317 : zL (Cond.code ⟨"PathTrust$Desk","listOf","(I)LPathTrust$Reports;"⟩ prog_3_method_6_code 3 (Option.some (FieldType.object "PathTrust$Reports"))) := ⟨List.mem_of_getElem? (i := 317) (by decide +kernel), by decide +kernel⟩
theorem wd_318 : zL (Cond.fieldLink "PathTrust$Desk" 9 "PathTrust$Desk" "rules" "[I") := ⟨List.mem_of_getElem? (i := 318) (by decide +kernel), by decide +kernel⟩
theorem wd_319 : zL (Cond.fieldLink "PathTrust$Desk" 18 "PathTrust$Desk" "agents" "LPathTrust$Names;") := ⟨List.mem_of_getElem? (i := 319) (by decide +kernel), by decide +kernel⟩
theorem wd_320 : zL (Cond.fieldLinkNest "PathTrust$Parser" 50 "PathTrust$Desk" "agents" "LPathTrust$Names;" "PathTrust") := ⟨List.mem_of_getElem? (i := 320) (by decide +kernel), by decide +kernel⟩
theorem wd_321 : zL (Cond.fieldLinkNest "PathTrust" 87 "PathTrust$Desk" "agents" "LPathTrust$Names;" "PathTrust") := ⟨List.mem_of_getElem? (i := 321) (by decide +kernel), by decide +kernel⟩
theorem wd_322 : zL (Cond.fieldLink "PathTrust$Desk" 22 "PathTrust$Desk" "ways" "LPathTrust$Names;") := ⟨List.mem_of_getElem? (i := 322) (by decide +kernel), by decide +kernel⟩
theorem wd_323 : zL (Cond.fieldLinkNest "PathTrust$Parser" 60 "PathTrust$Desk" "ways" "LPathTrust$Names;" "PathTrust") := ⟨List.mem_of_getElem? (i := 323) (by decide +kernel), by decide +kernel⟩
theorem wd_324 : zL (Cond.fieldLinkNest "PathTrust" 106 "PathTrust$Desk" "ways" "LPathTrust$Names;" "PathTrust") := ⟨List.mem_of_getElem? (i := 324) (by decide +kernel), by decide +kernel⟩
theorem wd_325 : zL (Cond.fieldLink "PathTrust$Desk" 25 "PathTrust$Desk" "trusts" "[I") := ⟨List.mem_of_getElem? (i := 325) (by decide +kernel), by decide +kernel⟩
theorem wd_326 : zL (Cond.fieldLink "PathTrust$Desk" 30 "PathTrust$Desk" "lists" "[LPathTrust$Reports;") := ⟨List.mem_of_getElem? (i := 326) (by decide +kernel), by decide +kernel⟩
theorem wd_327 : zL (Cond.fieldLink "PathTrust$Desk" 37 "PathTrust$Desk" "emptyList" "LPathTrust$Reports;") := ⟨List.mem_of_getElem? (i := 327) (by decide +kernel), by decide +kernel⟩
theorem wd_328 : zL (Cond.fieldLink "PathTrust$Desk" 41 "PathTrust$Desk" "queue" "LPathTrust$Reports;") := ⟨List.mem_of_getElem? (i := 328) (by decide +kernel), by decide +kernel⟩
theorem wd_329 : zL (Cond.fieldLinkNest "PathTrust" 112 "PathTrust$Desk" "queue" "LPathTrust$Reports;" "PathTrust") := ⟨List.mem_of_getElem? (i := 329) (by decide +kernel), by decide +kernel⟩
theorem wd_330 : zL (Cond.fieldLink "PathTrust$Desk" 44 "PathTrust$Desk" "accounts" "[I") := ⟨List.mem_of_getElem? (i := 330) (by decide +kernel), by decide +kernel⟩
theorem wd_331 : zL (Cond.fieldLink "PathTrust$Desk" 72 "PathTrust$Desk" "time" "I") := ⟨List.mem_of_getElem? (i := 331) (by decide +kernel), by decide +kernel⟩
theorem wd_332 : zL (Cond.fieldLinkNest "PathTrust" 109 "PathTrust$Desk" "time" "I" "PathTrust") := ⟨List.mem_of_getElem? (i := 332) (by decide +kernel), by decide +kernel⟩
theorem wd_333 : zL (Cond.laysFinal "PathTrust$Desk" "PathTrust$Desk" "rules" "[I") := ⟨List.mem_of_getElem? (i := 333) (by decide +kernel), by decide +kernel⟩
theorem wd_335 : zL (Cond.laysFinal "PathTrust$Desk" "PathTrust$Desk" "agents" "LPathTrust$Names;") := ⟨List.mem_of_getElem? (i := 335) (by decide +kernel), by decide +kernel⟩
theorem wd_337 : zL (Cond.laysFinal "PathTrust$Desk" "PathTrust$Desk" "ways" "LPathTrust$Names;") := ⟨List.mem_of_getElem? (i := 337) (by decide +kernel), by decide +kernel⟩
theorem wd_339 : zL (Cond.laysFinal "PathTrust$Desk" "PathTrust$Desk" "trusts" "[I") := ⟨List.mem_of_getElem? (i := 339) (by decide +kernel), by decide +kernel⟩
theorem wd_341 : zL (Cond.laysFinal "PathTrust$Desk" "PathTrust$Desk" "lists" "[LPathTrust$Reports;") := ⟨List.mem_of_getElem? (i := 341) (by decide +kernel), by decide +kernel⟩
theorem wd_343 : zL (Cond.laysFinal "PathTrust$Desk" "PathTrust$Desk" "emptyList" "LPathTrust$Reports;") := ⟨List.mem_of_getElem? (i := 343) (by decide +kernel), by decide +kernel⟩
theorem wd_345 : zL (Cond.laysFinal "PathTrust$Desk" "PathTrust$Desk" "queue" "LPathTrust$Reports;") := ⟨List.mem_of_getElem? (i := 345) (by decide +kernel), by decide +kernel⟩
theorem wd_347 : zL (Cond.laysFinal "PathTrust$Desk" "PathTrust$Desk" "accounts" "[I") := ⟨List.mem_of_getElem? (i := 347) (by decide +kernel), by decide +kernel⟩
theorem wd_349 : zL (Cond.lays "PathTrust$Desk" "PathTrust$Desk" "time" "I") := ⟨List.mem_of_getElem? (i := 349) (by decide +kernel), by decide +kernel⟩
theorem wd_352 : zL (Cond.classLink "PathTrust" 38 "PathTrust$Parser") := ⟨List.mem_of_getElem? (i := 352) (by decide +kernel), by decide +kernel⟩
theorem wd_353 : zL (Cond.instantiable "PathTrust$Parser" 8) := ⟨List.mem_of_getElem? (i := 353) (by decide +kernel), by decide +kernel⟩
theorem wd_354 : zL (Cond.methodLinkNest "PathTrust" 40 ⟨"PathTrust$Parser","<init>","(LPathTrust$Buffer;LPathTrust$Desk;)V"⟩ "PathTrust") := ⟨List.mem_of_getElem? (i := 354) (by decide +kernel), by decide +kernel⟩
theorem wd_355 : zL (Cond.instanceMethod ⟨"PathTrust$Parser","<init>","(LPathTrust$Buffer;LPathTrust$Desk;)V"⟩) := ⟨List.mem_of_getElem? (i := 355) (by decide +kernel), by decide +kernel⟩
theorem wd_356 : zL (Cond.code ⟨"PathTrust$Parser","<init>","(LPathTrust$Buffer;LPathTrust$Desk;)V"⟩ prog_6_method_1_code 3 (Option.none : Option FieldType)) := ⟨List.mem_of_getElem? (i := 356) (by decide +kernel), by decide +kernel⟩
theorem wd_357 : zL (Cond.methodLink "PathTrust$Parser" 3 ⟨"java/lang/Object","<init>","()V"⟩) := ⟨List.mem_of_getElem? (i := 357) (by decide +kernel), by decide +kernel⟩
theorem wd_358 : zL (Cond.fieldLink "PathTrust$Parser" 15 "PathTrust$Parser" "text" "LPathTrust$Buffer;") := ⟨List.mem_of_getElem? (i := 358) (by decide +kernel), by decide +kernel⟩
theorem wd_359 : zL (Cond.fieldLink "PathTrust$Parser" 19 "PathTrust$Parser" "desk" "LPathTrust$Desk;") := ⟨List.mem_of_getElem? (i := 359) (by decide +kernel), by decide +kernel⟩
theorem wd_360 : zL (Cond.fieldLink "PathTrust$Parser" 41 "PathTrust$Parser" "kind" "I") := ⟨List.mem_of_getElem? (i := 360) (by decide +kernel), by decide +kernel⟩
theorem wd_361 : zL (Cond.fieldLink "PathTrust$Parser" 125 "PathTrust$Parser" "start" "I") := ⟨List.mem_of_getElem? (i := 361) (by decide +kernel), by decide +kernel⟩
theorem wd_362 : zL (Cond.fieldLink "PathTrust$Parser" 23 "PathTrust$Parser" "end" "I") := ⟨List.mem_of_getElem? (i := 362) (by decide +kernel), by decide +kernel⟩
theorem wd_363 : zL (Cond.fieldLink "PathTrust$Parser" 110 "PathTrust$Parser" "value" "I") := ⟨List.mem_of_getElem? (i := 363) (by decide +kernel), by decide +kernel⟩
theorem wd_364 : zL (Cond.fieldLink "PathTrust$Parser" 26 "PathTrust$Parser" "code" "I") := ⟨List.mem_of_getElem? (i := 364) (by decide +kernel), by decide +kernel⟩
theorem wd_365 : zL (Cond.fieldLinkNest "PathTrust" 96 "PathTrust$Parser" "code" "I" "PathTrust") := ⟨List.mem_of_getElem? (i := 365) (by decide +kernel), by decide +kernel⟩
theorem wd_366 : zL (Cond.fieldLink "PathTrust$Parser" 9 "PathTrust$Parser" "position" "I") := ⟨List.mem_of_getElem? (i := 366) (by decide +kernel), by decide +kernel⟩
theorem wd_367 : zL (Cond.fieldLinkNest "PathTrust" 99 "PathTrust$Parser" "position" "I" "PathTrust") := ⟨List.mem_of_getElem? (i := 367) (by decide +kernel), by decide +kernel⟩
theorem wd_368 : zL (Cond.laysFinal "PathTrust$Parser" "PathTrust$Parser" "text" "LPathTrust$Buffer;") := ⟨List.mem_of_getElem? (i := 368) (by decide +kernel), by decide +kernel⟩
theorem wd_370 : zL (Cond.laysFinal "PathTrust$Parser" "PathTrust$Parser" "desk" "LPathTrust$Desk;") := ⟨List.mem_of_getElem? (i := 370) (by decide +kernel), by decide +kernel⟩
theorem wd_372 : zL (Cond.lays "PathTrust$Parser" "PathTrust$Parser" "kind" "I") := ⟨List.mem_of_getElem? (i := 372) (by decide +kernel), by decide +kernel⟩
theorem wd_374 : zL (Cond.lays "PathTrust$Parser" "PathTrust$Parser" "start" "I") := ⟨List.mem_of_getElem? (i := 374) (by decide +kernel), by decide +kernel⟩
theorem wd_376 : zL (Cond.lays "PathTrust$Parser" "PathTrust$Parser" "end" "I") := ⟨List.mem_of_getElem? (i := 376) (by decide +kernel), by decide +kernel⟩
theorem wd_378 : zL (Cond.lays "PathTrust$Parser" "PathTrust$Parser" "value" "I") := ⟨List.mem_of_getElem? (i := 378) (by decide +kernel), by decide +kernel⟩
theorem wd_380 : zL (Cond.lays "PathTrust$Parser" "PathTrust$Parser" "code" "I") := ⟨List.mem_of_getElem? (i := 380) (by decide +kernel), by decide +kernel⟩
theorem wd_382 : zL (Cond.lays "PathTrust$Parser" "PathTrust$Parser" "position" "I") := ⟨List.mem_of_getElem? (i := 382) (by decide +kernel), by decide +kernel⟩
theorem wd_385 : zL (Cond.classLink "PathTrust" 47 "PathTrust$History") := ⟨List.mem_of_getElem? (i := 385) (by decide +kernel), by decide +kernel⟩
theorem wd_386 : zL (Cond.instantiable "PathTrust$History" 2) := ⟨List.mem_of_getElem? (i := 386) (by decide +kernel), by decide +kernel⟩
theorem wd_387 : zL (Cond.methodLinkNest "PathTrust" 49 ⟨"PathTrust$History","<init>","()V"⟩ "PathTrust") := ⟨List.mem_of_getElem? (i := 387) (by decide +kernel), by decide +kernel⟩
theorem wd_388 : zL (Cond.instanceMethod ⟨"PathTrust$History","<init>","()V"⟩) := ⟨List.mem_of_getElem? (i := 388) (by decide +kernel), by decide +kernel⟩
theorem wd_389 : zL (Cond.code ⟨"PathTrust$History","<init>","()V"⟩ prog_4_method_1_code 1 (Option.none : Option FieldType)) := ⟨List.mem_of_getElem? (i := 389) (by decide +kernel), by decide +kernel⟩
theorem wd_390 : zL (Cond.methodLink "PathTrust$History" 3 ⟨"java/lang/Object","<init>","()V"⟩) := ⟨List.mem_of_getElem? (i := 390) (by decide +kernel), by decide +kernel⟩
theorem wd_391 : zL (Cond.classLink "PathTrust$History" 9 "PathTrust$Desk") := ⟨List.mem_of_getElem? (i := 391) (by decide +kernel), by decide +kernel⟩
theorem wd_392 : zL (Cond.arrayOver (FieldType.object "PathTrust$Desk")) := ⟨List.mem_of_getElem? (i := 392) (by decide +kernel), by decide +kernel⟩
theorem wd_393 : zL (Cond.fieldLink "PathTrust$History" 11 "PathTrust$History" "desks" "[LPathTrust$Desk;") := ⟨List.mem_of_getElem? (i := 393) (by decide +kernel), by decide +kernel⟩
theorem wd_394 : zL (Cond.fieldLink "PathTrust$History" 17 "PathTrust$History" "count" "I") := ⟨List.mem_of_getElem? (i := 394) (by decide +kernel), by decide +kernel⟩
theorem wd_395 : zL (Cond.fieldLinkNest "PathTrust" 280 "PathTrust$History" "count" "I" "PathTrust") := ⟨List.mem_of_getElem? (i := 395) (by decide +kernel), by decide +kernel⟩
theorem wd_396 : zL (Cond.laysFinal "PathTrust$History" "PathTrust$History" "desks" "[LPathTrust$Desk;") := ⟨List.mem_of_getElem? (i := 396) (by decide +kernel), by decide +kernel⟩
theorem wd_398 : zL (Cond.lays "PathTrust$History" "PathTrust$History" "count" "I") := ⟨List.mem_of_getElem? (i := 398) (by decide +kernel), by decide +kernel⟩
theorem wd_401 : zL (Cond.fieldLink "PathTrust" 14 "PathTrust" "input" "LPathTrust$Buffer;") := ⟨List.mem_of_getElem? (i := 401) (by decide +kernel), by decide +kernel⟩
theorem wd_402 : zL (Cond.fieldLink "PathTrust" 18 "PathTrust" "output" "LPathTrust$Buffer;") := ⟨List.mem_of_getElem? (i := 402) (by decide +kernel), by decide +kernel⟩
theorem wd_403 : zL (Cond.fieldLink "PathTrust" 24 "PathTrust" "view" "LPathTrust$View;") := ⟨List.mem_of_getElem? (i := 403) (by decide +kernel), by decide +kernel⟩
theorem wd_404 : zL (Cond.fieldLink "PathTrust" 31 "PathTrust" "now" "LPathTrust$Desk;") := ⟨List.mem_of_getElem? (i := 404) (by decide +kernel), by decide +kernel⟩
theorem wd_405 : zL (Cond.fieldLink "PathTrust" 35 "PathTrust" "trial" "LPathTrust$Desk;") := ⟨List.mem_of_getElem? (i := 405) (by decide +kernel), by decide +kernel⟩
theorem wd_406 : zL (Cond.fieldLink "PathTrust" 43 "PathTrust" "parser" "LPathTrust$Parser;") := ⟨List.mem_of_getElem? (i := 406) (by decide +kernel), by decide +kernel⟩
theorem wd_407 : zL (Cond.fieldLink "PathTrust" 50 "PathTrust" "history" "LPathTrust$History;") := ⟨List.mem_of_getElem? (i := 407) (by decide +kernel), by decide +kernel⟩
theorem wd_408 : zL (Cond.fieldLink "PathTrust" 54 "PathTrust" "slots" "[LPathTrust$Desk;") := ⟨List.mem_of_getElem? (i := 408) (by decide +kernel), by decide +kernel⟩
theorem wd_409 : zL (Cond.laysFinal "PathTrust" "PathTrust" "input" "LPathTrust$Buffer;") := ⟨List.mem_of_getElem? (i := 409) (by decide +kernel), by decide +kernel⟩
theorem wd_411 : zL (Cond.laysFinal "PathTrust" "PathTrust" "output" "LPathTrust$Buffer;") := ⟨List.mem_of_getElem? (i := 411) (by decide +kernel), by decide +kernel⟩
theorem wd_413 : zL (Cond.laysFinal "PathTrust" "PathTrust" "view" "LPathTrust$View;") := ⟨List.mem_of_getElem? (i := 413) (by decide +kernel), by decide +kernel⟩
theorem wd_415 : zL (Cond.laysFinal "PathTrust" "PathTrust" "now" "LPathTrust$Desk;") := ⟨List.mem_of_getElem? (i := 415) (by decide +kernel), by decide +kernel⟩
theorem wd_417 : zL (Cond.laysFinal "PathTrust" "PathTrust" "trial" "LPathTrust$Desk;") := ⟨List.mem_of_getElem? (i := 417) (by decide +kernel), by decide +kernel⟩
theorem wd_419 : zL (Cond.laysFinal "PathTrust" "PathTrust" "parser" "LPathTrust$Parser;") := ⟨List.mem_of_getElem? (i := 419) (by decide +kernel), by decide +kernel⟩
theorem wd_421 : zL (Cond.laysFinal "PathTrust" "PathTrust" "history" "LPathTrust$History;") := ⟨List.mem_of_getElem? (i := 421) (by decide +kernel), by decide +kernel⟩
theorem wd_423 : zL (Cond.laysFinal "PathTrust" "PathTrust" "slots" "[LPathTrust$Desk;") := ⟨List.mem_of_getElem? (i := 423) (by decide +kernel), by decide +kernel⟩
theorem wd_430 : zL (Cond.methodLinkNest "PathTrust" 76 ⟨"PathTrust$Parser","parse","()Z"⟩ "PathTrust") := ⟨List.mem_of_getElem? (i := 430) (by decide +kernel), by decide +kernel⟩
theorem wd_432 : zL (Cond.instanceMethod ⟨"PathTrust$Parser","parse","()Z"⟩) := ⟨List.mem_of_getElem? (i := 432) (by decide +kernel), by decide +kernel⟩
theorem wd_433 : zL (Cond.code ⟨"PathTrust$Parser","parse","()Z"⟩ prog_6_method_2_code 3 (Option.some FieldType.boolean)) := ⟨List.mem_of_getElem? (i := 433) (by decide +kernel), by decide +kernel⟩
theorem wd_434 : zL (Cond.methodLinkNest "PathTrust$Parser" 29 ⟨"PathTrust$Desk","reset","()V"⟩ "PathTrust") := ⟨List.mem_of_getElem? (i := 434) (by decide +kernel), by decide +kernel⟩
theorem wd_435 : zL (Cond.methodLink "PathTrust$Parser" 34 ⟨"PathTrust$Parser","next","()V"⟩) := ⟨List.mem_of_getElem? (i := 435) (by decide +kernel), by decide +kernel⟩
theorem wd_437 : zL (Cond.instanceMethod ⟨"PathTrust$Parser","next","()V"⟩) := ⟨List.mem_of_getElem? (i := 437) (by decide +kernel), by decide +kernel⟩
theorem wd_438 : zL (Cond.code ⟨"PathTrust$Parser","next","()V"⟩ prog_6_method_15_code 1 (Option.none : Option FieldType)) := ⟨List.mem_of_getElem? (i := 438) (by decide +kernel), by decide +kernel⟩
theorem wd_439 : zL (Cond.methodLinkNest "PathTrust$Parser" 158 ⟨"PathTrust$Buffer","at","(I)I"⟩ "PathTrust") := ⟨List.mem_of_getElem? (i := 439) (by decide +kernel), by decide +kernel⟩
theorem wd_441 : zL (Cond.instanceMethod ⟨"PathTrust$Buffer","at","(I)I"⟩) := ⟨List.mem_of_getElem? (i := 441) (by decide +kernel), by decide +kernel⟩
theorem wd_442 : zL (Cond.code ⟨"PathTrust$Buffer","at","(I)I"⟩ prog_2_method_2_code 2 (Option.some FieldType.int)) := ⟨List.mem_of_getElem? (i := 442) (by decide +kernel), by decide +kernel⟩
theorem wd_443 : zL (Cond.methodLink "PathTrust$Parser" 178 ⟨"PathTrust$Parser","kindOf","(I)I"⟩) := ⟨List.mem_of_getElem? (i := 443) (by decide +kernel), by decide +kernel⟩
theorem wd_444 : zL (Cond.static ⟨"PathTrust$Parser","kindOf","(I)I"⟩) := ⟨List.mem_of_getElem? (i := 444) (by decide +kernel), by decide +kernel⟩
theorem wd_445 : zL (Cond.code ⟨"PathTrust$Parser","kindOf","(I)I"⟩ prog_6_method_16_code 1 (Option.some FieldType.int)) := ⟨List.mem_of_getElem? (i := 445) (by decide +kernel), by decide +kernel⟩
theorem wd_446 : zL (Cond.methodLink "PathTrust$Parser" 37 ⟨"PathTrust$Parser","readRules","()Z"⟩) := ⟨List.mem_of_getElem? (i := 446) (by decide +kernel), by decide +kernel⟩
theorem wd_448 : zL (Cond.instanceMethod ⟨"PathTrust$Parser","readRules","()Z"⟩) := ⟨List.mem_of_getElem? (i := 448) (by decide +kernel), by decide +kernel⟩
theorem wd_449 : zL (Cond.code ⟨"PathTrust$Parser","readRules","()Z"⟩ prog_6_method_3_code 1 (Option.some FieldType.boolean)) := ⟨List.mem_of_getElem? (i := 449) (by decide +kernel), by decide +kernel⟩
theorem wd_451 : zL (Cond.methodLink "PathTrust$Parser" 79 ⟨"PathTrust$Parser","readWord","(Ljava/lang/String;)Z"⟩) := ⟨List.mem_of_getElem? (i := 451) (by decide +kernel), by decide +kernel⟩
theorem wd_453 : zL (Cond.instanceMethod ⟨"PathTrust$Parser","readWord","(Ljava/lang/String;)Z"⟩) := ⟨List.mem_of_getElem? (i := 453) (by decide +kernel), by decide +kernel⟩
theorem wd_454 : zL (Cond.code ⟨"PathTrust$Parser","readWord","(Ljava/lang/String;)Z"⟩ prog_6_method_8_code 2 (Option.some FieldType.boolean)) := ⟨List.mem_of_getElem? (i := 454) (by decide +kernel), by decide +kernel⟩
theorem wd_455 : zL (Cond.methodLink "PathTrust$Parser" 46 ⟨"PathTrust$Parser","isWord","(Ljava/lang/String;)Z"⟩) := ⟨List.mem_of_getElem? (i := 455) (by decide +kernel), by decide +kernel⟩
theorem wd_457 : zL (Cond.instanceMethod ⟨"PathTrust$Parser","isWord","(Ljava/lang/String;)Z"⟩) := ⟨List.mem_of_getElem? (i := 457) (by decide +kernel), by decide +kernel⟩
theorem wd_458 : zL (Cond.code ⟨"PathTrust$Parser","isWord","(Ljava/lang/String;)Z"⟩ prog_6_method_13_code 3 (Option.some FieldType.boolean)) := ⟨List.mem_of_getElem? (i := 458) (by decide +kernel), by decide +kernel⟩
theorem wd_459 : zL (Cond.methodLink "PathTrust$Parser" 166 ⟨"java/lang/String","length","()I"⟩) := ⟨List.mem_of_getElem? (i := 459) (by decide +kernel), by decide +kernel⟩
theorem wd_469 : zL (Cond.methodLink "PathTrust$Parser" 172 ⟨"java/lang/String","charAt","(I)C"⟩) := ⟨List.mem_of_getElem? (i := 469) (by decide +kernel), by decide +kernel⟩
theorem wd_507 : zL (Cond.methodLink "PathTrust$Parser" 73 ⟨"PathTrust$Parser","fail","(I)Z"⟩) := ⟨List.mem_of_getElem? (i := 507) (by decide +kernel), by decide +kernel⟩
theorem wd_509 : zL (Cond.instanceMethod ⟨"PathTrust$Parser","fail","(I)Z"⟩) := ⟨List.mem_of_getElem? (i := 509) (by decide +kernel), by decide +kernel⟩
theorem wd_510 : zL (Cond.code ⟨"PathTrust$Parser","fail","(I)Z"⟩ prog_6_method_14_code 2 (Option.some FieldType.boolean)) := ⟨List.mem_of_getElem? (i := 510) (by decide +kernel), by decide +kernel⟩
theorem wd_512 : zL (Cond.methodLink "PathTrust$Parser" 84 ⟨"PathTrust$Parser","readRule","(Ljava/lang/String;I)Z"⟩) := ⟨List.mem_of_getElem? (i := 512) (by decide +kernel), by decide +kernel⟩
theorem wd_514 : zL (Cond.instanceMethod ⟨"PathTrust$Parser","readRule","(Ljava/lang/String;I)Z"⟩) := ⟨List.mem_of_getElem? (i := 514) (by decide +kernel), by decide +kernel⟩
theorem wd_515 : zL (Cond.code ⟨"PathTrust$Parser","readRule","(Ljava/lang/String;I)Z"⟩ prog_6_method_4_code 3 (Option.some FieldType.boolean)) := ⟨List.mem_of_getElem? (i := 515) (by decide +kernel), by decide +kernel⟩
theorem wd_516 : zL (Cond.fieldLinkNest "PathTrust$Parser" 99 "PathTrust" "RULE_FROM" "[I" "PathTrust") := ⟨List.mem_of_getElem? (i := 516) (by decide +kernel), by decide +kernel⟩
theorem wd_518 : zL (Cond.fieldLinkNest "PathTrust$Parser" 103 "PathTrust" "RULE_TO" "[I" "PathTrust") := ⟨List.mem_of_getElem? (i := 518) (by decide +kernel), by decide +kernel⟩
theorem wd_520 : zL (Cond.methodLink "PathTrust$Parser" 106 ⟨"PathTrust$Parser","readNumber","(II)Z"⟩) := ⟨List.mem_of_getElem? (i := 520) (by decide +kernel), by decide +kernel⟩
theorem wd_522 : zL (Cond.instanceMethod ⟨"PathTrust$Parser","readNumber","(II)Z"⟩) := ⟨List.mem_of_getElem? (i := 522) (by decide +kernel), by decide +kernel⟩
theorem wd_523 : zL (Cond.code ⟨"PathTrust$Parser","readNumber","(II)Z"⟩ prog_6_method_10_code 5 (Option.some FieldType.boolean)) := ⟨List.mem_of_getElem? (i := 523) (by decide +kernel), by decide +kernel⟩
theorem wd_524 : zL (Cond.methodLink "PathTrust$Parser" 161 ⟨"java/lang/Math","min","(II)I"⟩) := ⟨List.mem_of_getElem? (i := 524) (by decide +kernel), by decide +kernel⟩
theorem wd_525 : zL (Cond.static ⟨"java/lang/Math","min","(II)I"⟩) := ⟨List.mem_of_getElem? (i := 525) (by decide +kernel), by decide +kernel⟩
theorem wd_526 : zL (Cond.code ⟨"java/lang/Math","min","(II)I"⟩ prog_19_method_69_code 2 (Option.some FieldType.int)) := ⟨List.mem_of_getElem? (i := 526) (by decide +kernel), by decide +kernel⟩
theorem wd_527 : zL (Cond.methodLinkNest "PathTrust$Parser" 113 ⟨"PathTrust$Desk","putRule","(II)V"⟩ "PathTrust") := ⟨List.mem_of_getElem? (i := 527) (by decide +kernel), by decide +kernel⟩
theorem wd_532 : zL (Cond.methodLink "PathTrust$Parser" 96 ⟨"PathTrust$Parser","readSemicolon","()Z"⟩) := ⟨List.mem_of_getElem? (i := 532) (by decide +kernel), by decide +kernel⟩
theorem wd_534 : zL (Cond.instanceMethod ⟨"PathTrust$Parser","readSemicolon","()Z"⟩) := ⟨List.mem_of_getElem? (i := 534) (by decide +kernel), by decide +kernel⟩
theorem wd_535 : zL (Cond.code ⟨"PathTrust$Parser","readSemicolon","()Z"⟩ prog_6_method_9_code 1 (Option.some FieldType.boolean)) := ⟨List.mem_of_getElem? (i := 535) (by decide +kernel), by decide +kernel⟩
theorem wd_537 : zL (Cond.methodLink "PathTrust$Parser" 54 ⟨"PathTrust$Parser","readNewName","(LPathTrust$Names;)Z"⟩) := ⟨List.mem_of_getElem? (i := 537) (by decide +kernel), by decide +kernel⟩
theorem wd_539 : zL (Cond.instanceMethod ⟨"PathTrust$Parser","readNewName","(LPathTrust$Names;)Z"⟩) := ⟨List.mem_of_getElem? (i := 539) (by decide +kernel), by decide +kernel⟩
theorem wd_540 : zL (Cond.code ⟨"PathTrust$Parser","readNewName","(LPathTrust$Names;)Z"⟩ prog_6_method_5_code 3 (Option.some FieldType.boolean)) := ⟨List.mem_of_getElem? (i := 540) (by decide +kernel), by decide +kernel⟩
theorem wd_541 : zL (Cond.methodLink "PathTrust$Parser" 122 ⟨"PathTrust$Parser","isName","()Z"⟩) := ⟨List.mem_of_getElem? (i := 541) (by decide +kernel), by decide +kernel⟩
theorem wd_543 : zL (Cond.instanceMethod ⟨"PathTrust$Parser","isName","()Z"⟩) := ⟨List.mem_of_getElem? (i := 543) (by decide +kernel), by decide +kernel⟩
theorem wd_544 : zL (Cond.code ⟨"PathTrust$Parser","isName","()Z"⟩ prog_6_method_12_code 2 (Option.some FieldType.boolean)) := ⟨List.mem_of_getElem? (i := 544) (by decide +kernel), by decide +kernel⟩
theorem wd_549 : zL (Cond.methodLinkNest "PathTrust$Parser" 128 ⟨"PathTrust$Buffer","nameCode","(II)I"⟩ "PathTrust") := ⟨List.mem_of_getElem? (i := 549) (by decide +kernel), by decide +kernel⟩
theorem wd_551 : zL (Cond.instanceMethod ⟨"PathTrust$Buffer","nameCode","(II)I"⟩) := ⟨List.mem_of_getElem? (i := 551) (by decide +kernel), by decide +kernel⟩
theorem wd_552 : zL (Cond.code ⟨"PathTrust$Buffer","nameCode","(II)I"⟩ prog_2_method_7_code 7 (Option.some FieldType.int)) := ⟨List.mem_of_getElem? (i := 552) (by decide +kernel), by decide +kernel⟩
theorem wd_553 : zL (Cond.methodLink "PathTrust$Buffer" 24 ⟨"PathTrust$Buffer","at","(I)I"⟩) := ⟨List.mem_of_getElem? (i := 553) (by decide +kernel), by decide +kernel⟩
theorem wd_554 : zL (Cond.methodLinkNest "PathTrust$Parser" 134 ⟨"PathTrust$Names","find","(I)I"⟩ "PathTrust") := ⟨List.mem_of_getElem? (i := 554) (by decide +kernel), by decide +kernel⟩
theorem wd_556 : zL (Cond.instanceMethod ⟨"PathTrust$Names","find","(I)I"⟩) := ⟨List.mem_of_getElem? (i := 556) (by decide +kernel), by decide +kernel⟩
theorem wd_557 : zL (Cond.code ⟨"PathTrust$Names","find","(I)I"⟩ prog_5_method_2_code 3 (Option.some FieldType.int)) := ⟨List.mem_of_getElem? (i := 557) (by decide +kernel), by decide +kernel⟩
theorem wd_558 : zL (Cond.methodLinkNest "PathTrust$Parser" 138 ⟨"PathTrust$Names","add","(I)V"⟩ "PathTrust") := ⟨List.mem_of_getElem? (i := 558) (by decide +kernel), by decide +kernel⟩
theorem wd_560 : zL (Cond.instanceMethod ⟨"PathTrust$Names","add","(I)V"⟩) := ⟨List.mem_of_getElem? (i := 560) (by decide +kernel), by decide +kernel⟩
theorem wd_561 : zL (Cond.code ⟨"PathTrust$Names","add","(I)V"⟩ prog_5_method_3_code 2 (Option.none : Option FieldType)) := ⟨List.mem_of_getElem? (i := 561) (by decide +kernel), by decide +kernel⟩
theorem wd_562 : zL (Cond.methodLink "PathTrust$Parser" 65 ⟨"PathTrust$Parser","readLink","()Z"⟩) := ⟨List.mem_of_getElem? (i := 562) (by decide +kernel), by decide +kernel⟩
theorem wd_564 : zL (Cond.instanceMethod ⟨"PathTrust$Parser","readLink","()Z"⟩) := ⟨List.mem_of_getElem? (i := 564) (by decide +kernel), by decide +kernel⟩
theorem wd_565 : zL (Cond.code ⟨"PathTrust$Parser","readLink","()Z"⟩ prog_6_method_6_code 4 (Option.some FieldType.boolean)) := ⟨List.mem_of_getElem? (i := 565) (by decide +kernel), by decide +kernel⟩
theorem wd_566 : zL (Cond.methodLink "PathTrust$Parser" 142 ⟨"PathTrust$Parser","isNameOf","(LPathTrust$Names;)Z"⟩) := ⟨List.mem_of_getElem? (i := 566) (by decide +kernel), by decide +kernel⟩
theorem wd_568 : zL (Cond.instanceMethod ⟨"PathTrust$Parser","isNameOf","(LPathTrust$Names;)Z"⟩) := ⟨List.mem_of_getElem? (i := 568) (by decide +kernel), by decide +kernel⟩
theorem wd_569 : zL (Cond.code ⟨"PathTrust$Parser","isNameOf","(LPathTrust$Names;)Z"⟩ prog_6_method_11_code 2 (Option.some FieldType.boolean)) := ⟨List.mem_of_getElem? (i := 569) (by decide +kernel), by decide +kernel⟩
theorem wd_570 : zL (Cond.methodLinkNest "PathTrust$Parser" 145 ⟨"PathTrust$Desk","isLinked","(II)Z"⟩ "PathTrust") := ⟨List.mem_of_getElem? (i := 570) (by decide +kernel), by decide +kernel⟩
theorem wd_572 : zL (Cond.instanceMethod ⟨"PathTrust$Desk","isLinked","(II)Z"⟩) := ⟨List.mem_of_getElem? (i := 572) (by decide +kernel), by decide +kernel⟩
theorem wd_573 : zL (Cond.code ⟨"PathTrust$Desk","isLinked","(II)Z"⟩ prog_3_method_9_code 3 (Option.some FieldType.boolean)) := ⟨List.mem_of_getElem? (i := 573) (by decide +kernel), by decide +kernel⟩
theorem wd_574 : zL (Cond.methodLink "PathTrust$Desk" 98 ⟨"PathTrust$Desk","trustIn","(II)I"⟩) := ⟨List.mem_of_getElem? (i := 574) (by decide +kernel), by decide +kernel⟩
theorem wd_576 : zL (Cond.instanceMethod ⟨"PathTrust$Desk","trustIn","(II)I"⟩) := ⟨List.mem_of_getElem? (i := 576) (by decide +kernel), by decide +kernel⟩
theorem wd_577 : zL (Cond.code ⟨"PathTrust$Desk","trustIn","(II)I"⟩ prog_3_method_7_code 4 (Option.some FieldType.int)) := ⟨List.mem_of_getElem? (i := 577) (by decide +kernel), by decide +kernel⟩
theorem wd_578 : zL (Cond.methodLinkNest "PathTrust$Parser" 150 ⟨"PathTrust$Desk","putTrust","(III)V"⟩ "PathTrust") := ⟨List.mem_of_getElem? (i := 578) (by decide +kernel), by decide +kernel⟩
theorem wd_580 : zL (Cond.instanceMethod ⟨"PathTrust$Desk","putTrust","(III)V"⟩) := ⟨List.mem_of_getElem? (i := 580) (by decide +kernel), by decide +kernel⟩
theorem wd_581 : zL (Cond.code ⟨"PathTrust$Desk","putTrust","(III)V"⟩ prog_3_method_8_code 5 (Option.none : Option FieldType)) := ⟨List.mem_of_getElem? (i := 581) (by decide +kernel), by decide +kernel⟩
theorem wd_582 : zL (Cond.methodLink "PathTrust$Parser" 70 ⟨"PathTrust$Parser","readProbe","()Z"⟩) := ⟨List.mem_of_getElem? (i := 582) (by decide +kernel), by decide +kernel⟩
theorem wd_584 : zL (Cond.instanceMethod ⟨"PathTrust$Parser","readProbe","()Z"⟩) := ⟨List.mem_of_getElem? (i := 584) (by decide +kernel), by decide +kernel⟩
theorem wd_585 : zL (Cond.code ⟨"PathTrust$Parser","readProbe","()Z"⟩ prog_6_method_7_code 4 (Option.some FieldType.boolean)) := ⟨List.mem_of_getElem? (i := 585) (by decide +kernel), by decide +kernel⟩
theorem wd_586 : zL (Cond.methodLinkNest "PathTrust$Parser" 154 ⟨"PathTrust$Desk","makeProbe","(IIII)I"⟩ "PathTrust") := ⟨List.mem_of_getElem? (i := 586) (by decide +kernel), by decide +kernel⟩
theorem wd_588 : zL (Cond.instanceMethod ⟨"PathTrust$Desk","makeProbe","(IIII)I"⟩) := ⟨List.mem_of_getElem? (i := 588) (by decide +kernel), by decide +kernel⟩
theorem wd_589 : zL (Cond.code ⟨"PathTrust$Desk","makeProbe","(IIII)I"⟩ prog_3_method_18_code 9 (Option.some FieldType.int)) := ⟨List.mem_of_getElem? (i := 589) (by decide +kernel), by decide +kernel⟩
theorem wd_590 : zL (Cond.methodLinkNest "PathTrust$Desk" 118 ⟨"PathTrust$Reports","rowOf","(II)I"⟩ "PathTrust") := ⟨List.mem_of_getElem? (i := 590) (by decide +kernel), by decide +kernel⟩
theorem wd_592 : zL (Cond.instanceMethod ⟨"PathTrust$Reports","rowOf","(II)I"⟩) := ⟨List.mem_of_getElem? (i := 592) (by decide +kernel), by decide +kernel⟩
theorem wd_593 : zL (Cond.code ⟨"PathTrust$Reports","rowOf","(II)I"⟩ prog_7_method_5_code 4 (Option.some FieldType.int)) := ⟨List.mem_of_getElem? (i := 593) (by decide +kernel), by decide +kernel⟩
theorem wd_594 : zL (Cond.methodLink "PathTrust$Reports" 19 ⟨"PathTrust$Reports","get","(II)I"⟩) := ⟨List.mem_of_getElem? (i := 594) (by decide +kernel), by decide +kernel⟩
theorem wd_596 : zL (Cond.instanceMethod ⟨"PathTrust$Reports","get","(II)I"⟩) := ⟨List.mem_of_getElem? (i := 596) (by decide +kernel), by decide +kernel⟩
theorem wd_597 : zL (Cond.code ⟨"PathTrust$Reports","get","(II)I"⟩ prog_7_method_3_code 4 (Option.some FieldType.int)) := ⟨List.mem_of_getElem? (i := 597) (by decide +kernel), by decide +kernel⟩
theorem wd_598 : zL (Cond.methodLinkNest "PathTrust$Desk" 121 ⟨"PathTrust$Reports","removeRow","(I)V"⟩ "PathTrust") := ⟨List.mem_of_getElem? (i := 598) (by decide +kernel), by decide +kernel⟩
theorem wd_600 : zL (Cond.instanceMethod ⟨"PathTrust$Reports","removeRow","(I)V"⟩) := ⟨List.mem_of_getElem? (i := 600) (by decide +kernel), by decide +kernel⟩
theorem wd_601 : zL (Cond.code ⟨"PathTrust$Reports","removeRow","(I)V"⟩ prog_7_method_8_code 2 (Option.none : Option FieldType)) := ⟨List.mem_of_getElem? (i := 601) (by decide +kernel), by decide +kernel⟩
theorem wd_602 : zL (Cond.methodLink "PathTrust$Reports" 35 ⟨"PathTrust$Reports","closeGap","(II)V"⟩) := ⟨List.mem_of_getElem? (i := 602) (by decide +kernel), by decide +kernel⟩
theorem wd_604 : zL (Cond.instanceMethod ⟨"PathTrust$Reports","closeGap","(II)V"⟩) := ⟨List.mem_of_getElem? (i := 604) (by decide +kernel), by decide +kernel⟩
theorem wd_605 : zL (Cond.code ⟨"PathTrust$Reports","closeGap","(II)V"⟩ prog_7_method_10_code 6 (Option.none : Option FieldType)) := ⟨List.mem_of_getElem? (i := 605) (by decide +kernel), by decide +kernel⟩
theorem wd_606 : zL (Cond.methodLink "PathTrust$Reports" 47 ⟨"java/lang/System","arraycopy","(Ljava/lang/Object;ILjava/lang/Object;II)V"⟩) := ⟨List.mem_of_getElem? (i := 606) (by decide +kernel), by decide +kernel⟩
theorem wd_607 : zL (Cond.static ⟨"java/lang/System","arraycopy","(Ljava/lang/Object;ILjava/lang/Object;II)V"⟩) := ⟨List.mem_of_getElem? (i := 607) (by decide +kernel), by decide +kernel⟩
theorem wd_608 : zL (Cond.native ⟨"java/lang/System","arraycopy","(Ljava/lang/Object;ILjava/lang/Object;II)V"⟩) := ⟨List.mem_of_getElem? (i := 608) (by decide +kernel), by decide +kernel⟩
theorem wd_609 : zL (Cond.methodLinkNest "PathTrust$Desk" 124 ⟨"PathTrust$Reports","addRow","()I"⟩ "PathTrust") := ⟨List.mem_of_getElem? (i := 609) (by decide +kernel), by decide +kernel⟩
theorem wd_611 : zL (Cond.instanceMethod ⟨"PathTrust$Reports","addRow","()I"⟩) := ⟨List.mem_of_getElem? (i := 611) (by decide +kernel), by decide +kernel⟩
theorem wd_612 : zL (Cond.code ⟨"PathTrust$Reports","addRow","()I"⟩ prog_7_method_6_code 1 (Option.some FieldType.int)) := ⟨List.mem_of_getElem? (i := 612) (by decide +kernel), by decide +kernel⟩
theorem wd_613 : zL (Cond.methodLink "PathTrust$Reports" 23 ⟨"PathTrust$Reports","isFull","()Z"⟩) := ⟨List.mem_of_getElem? (i := 613) (by decide +kernel), by decide +kernel⟩
theorem wd_615 : zL (Cond.instanceMethod ⟨"PathTrust$Reports","isFull","()Z"⟩) := ⟨List.mem_of_getElem? (i := 615) (by decide +kernel), by decide +kernel⟩
theorem wd_616 : zL (Cond.code ⟨"PathTrust$Reports","isFull","()Z"⟩ prog_7_method_2_code 1 (Option.some FieldType.boolean)) := ⟨List.mem_of_getElem? (i := 616) (by decide +kernel), by decide +kernel⟩
theorem wd_617 : zL (Cond.methodLinkNest "PathTrust$Desk" 128 ⟨"PathTrust$Reports","put","(III)V"⟩ "PathTrust") := ⟨List.mem_of_getElem? (i := 617) (by decide +kernel), by decide +kernel⟩
theorem wd_619 : zL (Cond.instanceMethod ⟨"PathTrust$Reports","put","(III)V"⟩) := ⟨List.mem_of_getElem? (i := 619) (by decide +kernel), by decide +kernel⟩
theorem wd_620 : zL (Cond.code ⟨"PathTrust$Reports","put","(III)V"⟩ prog_7_method_4_code 5 (Option.none : Option FieldType)) := ⟨List.mem_of_getElem? (i := 620) (by decide +kernel), by decide +kernel⟩
theorem wd_621 : zL (Cond.methodLink "PathTrust$Desk" 132 ⟨"PathTrust$Desk","tally","(II)V"⟩) := ⟨List.mem_of_getElem? (i := 621) (by decide +kernel), by decide +kernel⟩
theorem wd_623 : zL (Cond.instanceMethod ⟨"PathTrust$Desk","tally","(II)V"⟩) := ⟨List.mem_of_getElem? (i := 623) (by decide +kernel), by decide +kernel⟩
theorem wd_624 : zL (Cond.code ⟨"PathTrust$Desk","tally","(II)V"⟩ prog_3_method_13_code 4 (Option.none : Option FieldType)) := ⟨List.mem_of_getElem? (i := 624) (by decide +kernel), by decide +kernel⟩
theorem wd_625 : zL (Cond.methodLink "PathTrust$Desk" 108 ⟨"PathTrust$Desk","accountPlace","(II)I"⟩) := ⟨List.mem_of_getElem? (i := 625) (by decide +kernel), by decide +kernel⟩
theorem wd_626 : zL (Cond.static ⟨"PathTrust$Desk","accountPlace","(II)I"⟩) := ⟨List.mem_of_getElem? (i := 626) (by decide +kernel), by decide +kernel⟩
theorem wd_627 : zL (Cond.code ⟨"PathTrust$Desk","accountPlace","(II)I"⟩ prog_3_method_14_code 3 (Option.some FieldType.int)) := ⟨List.mem_of_getElem? (i := 627) (by decide +kernel), by decide +kernel⟩
theorem wd_628 : zL (Cond.methodLinkNest "PathTrust$Desk" 111 ⟨"PathTrust$Reports","get","(II)I"⟩ "PathTrust") := ⟨List.mem_of_getElem? (i := 628) (by decide +kernel), by decide +kernel⟩
theorem wd_629 : zL (Cond.methodLink "PathTrust$Desk" 135 ⟨"PathTrust$Desk","judge","(III)Z"⟩) := ⟨List.mem_of_getElem? (i := 629) (by decide +kernel), by decide +kernel⟩
theorem wd_631 : zL (Cond.instanceMethod ⟨"PathTrust$Desk","judge","(III)Z"⟩) := ⟨List.mem_of_getElem? (i := 631) (by decide +kernel), by decide +kernel⟩
theorem wd_632 : zL (Cond.code ⟨"PathTrust$Desk","judge","(III)Z"⟩ prog_3_method_19_code 12 (Option.some FieldType.boolean)) := ⟨List.mem_of_getElem? (i := 632) (by decide +kernel), by decide +kernel⟩
theorem wd_633 : zL (Cond.methodLink "PathTrust$Desk" 101 ⟨"PathTrust$Desk","isLinked","(II)Z"⟩) := ⟨List.mem_of_getElem? (i := 633) (by decide +kernel), by decide +kernel⟩
theorem wd_634 : zL (Cond.methodLink "PathTrust$Desk" 114 ⟨"PathTrust$Desk","driftOf","(LPathTrust$Reports;I)I"⟩) := ⟨List.mem_of_getElem? (i := 634) (by decide +kernel), by decide +kernel⟩
theorem wd_636 : zL (Cond.instanceMethod ⟨"PathTrust$Desk","driftOf","(LPathTrust$Reports;I)I"⟩) := ⟨List.mem_of_getElem? (i := 636) (by decide +kernel), by decide +kernel⟩
theorem wd_637 : zL (Cond.code ⟨"PathTrust$Desk","driftOf","(LPathTrust$Reports;I)I"⟩ prog_3_method_16_code 3 (Option.some FieldType.int)) := ⟨List.mem_of_getElem? (i := 637) (by decide +kernel), by decide +kernel⟩
theorem wd_638 : zL (Cond.methodLink "PathTrust$Desk" 75 ⟨"PathTrust$Desk","rule","(I)I"⟩) := ⟨List.mem_of_getElem? (i := 638) (by decide +kernel), by decide +kernel⟩
theorem wd_640 : zL (Cond.instanceMethod ⟨"PathTrust$Desk","rule","(I)I"⟩) := ⟨List.mem_of_getElem? (i := 640) (by decide +kernel), by decide +kernel⟩
theorem wd_641 : zL (Cond.code ⟨"PathTrust$Desk","rule","(I)I"⟩ prog_3_method_4_code 2 (Option.some FieldType.int)) := ⟨List.mem_of_getElem? (i := 641) (by decide +kernel), by decide +kernel⟩
theorem wd_642 : zL (Cond.methodLinkNest "PathTrust$Desk" 139 ⟨"PathTrust$Reports","lowMoved","(II)I"⟩ "PathTrust") := ⟨List.mem_of_getElem? (i := 642) (by decide +kernel), by decide +kernel⟩
theorem wd_644 : zL (Cond.instanceMethod ⟨"PathTrust$Reports","lowMoved","(II)I"⟩) := ⟨List.mem_of_getElem? (i := 644) (by decide +kernel), by decide +kernel⟩
theorem wd_645 : zL (Cond.code ⟨"PathTrust$Reports","lowMoved","(II)I"⟩ prog_7_method_12_code 3 (Option.some FieldType.int)) := ⟨List.mem_of_getElem? (i := 645) (by decide +kernel), by decide +kernel⟩
theorem wd_646 : zL (Cond.methodLink "PathTrust$Reports" 44 ⟨"java/lang/Math","max","(II)I"⟩) := ⟨List.mem_of_getElem? (i := 646) (by decide +kernel), by decide +kernel⟩
theorem wd_647 : zL (Cond.static ⟨"java/lang/Math","max","(II)I"⟩) := ⟨List.mem_of_getElem? (i := 647) (by decide +kernel), by decide +kernel⟩
theorem wd_648 : zL (Cond.code ⟨"java/lang/Math","max","(II)I"⟩ prog_19_method_65_code 2 (Option.some FieldType.int)) := ⟨List.mem_of_getElem? (i := 648) (by decide +kernel), by decide +kernel⟩
theorem wd_649 : zL (Cond.methodLink "PathTrust$Desk" 142 ⟨"java/lang/Math","max","(II)I"⟩) := ⟨List.mem_of_getElem? (i := 649) (by decide +kernel), by decide +kernel⟩
theorem wd_650 : zL (Cond.methodLinkNest "PathTrust$Desk" 145 ⟨"PathTrust$Reports","highMoved","(II)I"⟩ "PathTrust") := ⟨List.mem_of_getElem? (i := 650) (by decide +kernel), by decide +kernel⟩
theorem wd_652 : zL (Cond.instanceMethod ⟨"PathTrust$Reports","highMoved","(II)I"⟩) := ⟨List.mem_of_getElem? (i := 652) (by decide +kernel), by decide +kernel⟩
theorem wd_653 : zL (Cond.code ⟨"PathTrust$Reports","highMoved","(II)I"⟩ prog_7_method_13_code 3 (Option.some FieldType.int)) := ⟨List.mem_of_getElem? (i := 653) (by decide +kernel), by decide +kernel⟩
theorem wd_654 : zL (Cond.methodLink "PathTrust$Reports" 39 ⟨"java/lang/Math","min","(II)I"⟩) := ⟨List.mem_of_getElem? (i := 654) (by decide +kernel), by decide +kernel⟩
theorem wd_655 : zL (Cond.methodLink "PathTrust$Desk" 83 ⟨"java/lang/Math","min","(II)I"⟩) := ⟨List.mem_of_getElem? (i := 655) (by decide +kernel), by decide +kernel⟩
theorem wd_656 : zL (Cond.methodLink "PathTrust$Desk" 148 ⟨"PathTrust$Desk","putTrust","(III)V"⟩) := ⟨List.mem_of_getElem? (i := 656) (by decide +kernel), by decide +kernel⟩
theorem wd_657 : zL (Cond.methodLinkNest "PathTrust" 80 ⟨"PathTrust$History","push","(LPathTrust$Desk;)V"⟩ "PathTrust") := ⟨List.mem_of_getElem? (i := 657) (by decide +kernel), by decide +kernel⟩
theorem wd_659 : zL (Cond.instanceMethod ⟨"PathTrust$History","push","(LPathTrust$Desk;)V"⟩) := ⟨List.mem_of_getElem? (i := 659) (by decide +kernel), by decide +kernel⟩
theorem wd_660 : zL (Cond.code ⟨"PathTrust$History","push","(LPathTrust$Desk;)V"⟩ prog_4_method_2_code 3 (Option.none : Option FieldType)) := ⟨List.mem_of_getElem? (i := 660) (by decide +kernel), by decide +kernel⟩
theorem wd_661 : zL (Cond.methodLink "PathTrust$History" 21 ⟨"PathTrust$History","dropOldest","()V"⟩) := ⟨List.mem_of_getElem? (i := 661) (by decide +kernel), by decide +kernel⟩
theorem wd_663 : zL (Cond.instanceMethod ⟨"PathTrust$History","dropOldest","()V"⟩) := ⟨List.mem_of_getElem? (i := 663) (by decide +kernel), by decide +kernel⟩
theorem wd_664 : zL (Cond.code ⟨"PathTrust$History","dropOldest","()V"⟩ prog_4_method_3_code 3 (Option.none : Option FieldType)) := ⟨List.mem_of_getElem? (i := 664) (by decide +kernel), by decide +kernel⟩
theorem wd_665 : zL (Cond.methodLinkNest "PathTrust$History" 24 ⟨"PathTrust$Desk","<init>","()V"⟩ "PathTrust") := ⟨List.mem_of_getElem? (i := 665) (by decide +kernel), by decide +kernel⟩
theorem wd_666 : zL (Cond.methodLinkNest "PathTrust$History" 25 ⟨"PathTrust$Desk","become","(LPathTrust$Desk;)V"⟩ "PathTrust") := ⟨List.mem_of_getElem? (i := 666) (by decide +kernel), by decide +kernel⟩
theorem wd_668 : zL (Cond.instanceMethod ⟨"PathTrust$Desk","become","(LPathTrust$Desk;)V"⟩) := ⟨List.mem_of_getElem? (i := 668) (by decide +kernel), by decide +kernel⟩
theorem wd_669 : zL (Cond.code ⟨"PathTrust$Desk","become","(LPathTrust$Desk;)V"⟩ prog_3_method_3_code 3 (Option.none : Option FieldType)) := ⟨List.mem_of_getElem? (i := 669) (by decide +kernel), by decide +kernel⟩
theorem wd_670 : zL (Cond.methodLinkNest "PathTrust$Desk" 79 ⟨"PathTrust$Names","copyFrom","(LPathTrust$Names;)V"⟩ "PathTrust") := ⟨List.mem_of_getElem? (i := 670) (by decide +kernel), by decide +kernel⟩
theorem wd_672 : zL (Cond.instanceMethod ⟨"PathTrust$Names","copyFrom","(LPathTrust$Names;)V"⟩) := ⟨List.mem_of_getElem? (i := 672) (by decide +kernel), by decide +kernel⟩
theorem wd_673 : zL (Cond.code ⟨"PathTrust$Names","copyFrom","(LPathTrust$Names;)V"⟩ prog_5_method_5_code 2 (Option.none : Option FieldType)) := ⟨List.mem_of_getElem? (i := 673) (by decide +kernel), by decide +kernel⟩
theorem wd_674 : zL (Cond.methodLink "PathTrust$Names" 19 ⟨"java/lang/Math","min","(II)I"⟩) := ⟨List.mem_of_getElem? (i := 674) (by decide +kernel), by decide +kernel⟩
theorem wd_675 : zL (Cond.methodLink "PathTrust$Names" 25 ⟨"java/lang/System","arraycopy","(Ljava/lang/Object;ILjava/lang/Object;II)V"⟩) := ⟨List.mem_of_getElem? (i := 675) (by decide +kernel), by decide +kernel⟩
theorem wd_676 : zL (Cond.methodLink "PathTrust$Desk" 89 ⟨"java/lang/System","arraycopy","(Ljava/lang/Object;ILjava/lang/Object;II)V"⟩) := ⟨List.mem_of_getElem? (i := 676) (by decide +kernel), by decide +kernel⟩
theorem wd_677 : zL (Cond.methodLinkNest "PathTrust$Desk" 95 ⟨"PathTrust$Reports","copyFrom","(LPathTrust$Reports;)V"⟩ "PathTrust") := ⟨List.mem_of_getElem? (i := 677) (by decide +kernel), by decide +kernel⟩
theorem wd_679 : zL (Cond.instanceMethod ⟨"PathTrust$Reports","copyFrom","(LPathTrust$Reports;)V"⟩) := ⟨List.mem_of_getElem? (i := 679) (by decide +kernel), by decide +kernel⟩
theorem wd_680 : zL (Cond.code ⟨"PathTrust$Reports","copyFrom","(LPathTrust$Reports;)V"⟩ prog_7_method_14_code 3 (Option.none : Option FieldType)) := ⟨List.mem_of_getElem? (i := 680) (by decide +kernel), by decide +kernel⟩
theorem wd_681 : zL (Cond.methodLinkNest "PathTrust" 84 ⟨"PathTrust$Desk","become","(LPathTrust$Desk;)V"⟩ "PathTrust") := ⟨List.mem_of_getElem? (i := 681) (by decide +kernel), by decide +kernel⟩
theorem wd_694 : zL (Cond.methodLink "PathTrust" 102 ⟨"PathTrust","findInput","(LPathTrust$Names;)I"⟩) := ⟨List.mem_of_getElem? (i := 694) (by decide +kernel), by decide +kernel⟩
theorem wd_696 : zL (Cond.instanceMethod ⟨"PathTrust","findInput","(LPathTrust$Names;)I"⟩) := ⟨List.mem_of_getElem? (i := 696) (by decide +kernel), by decide +kernel⟩
theorem wd_697 : zL (Cond.code ⟨"PathTrust","findInput","(LPathTrust$Names;)I"⟩ prog_1_method_69_code 3 (Option.some FieldType.int)) := ⟨List.mem_of_getElem? (i := 697) (by decide +kernel), by decide +kernel⟩
theorem wd_698 : zL (Cond.methodLinkNest "PathTrust" 334 ⟨"PathTrust$Buffer","nameCode","(II)I"⟩ "PathTrust") := ⟨List.mem_of_getElem? (i := 698) (by decide +kernel), by decide +kernel⟩
theorem wd_699 : zL (Cond.methodLinkNest "PathTrust" 337 ⟨"PathTrust$Names","find","(I)I"⟩ "PathTrust") := ⟨List.mem_of_getElem? (i := 699) (by decide +kernel), by decide +kernel⟩
theorem wd_716 : zL (Cond.classLink "PathTrust" 62 "java/lang/IllegalStateException") := ⟨List.mem_of_getElem? (i := 716) (by decide +kernel), by decide +kernel⟩
theorem wd_784 : zL (Cond.methodLinkNest "PathTrust" 69 ⟨"PathTrust$Buffer","addFour","(I)V"⟩ "PathTrust") := ⟨List.mem_of_getElem? (i := 784) (by decide +kernel), by decide +kernel⟩
theorem wd_786 : zL (Cond.instanceMethod ⟨"PathTrust$Buffer","addFour","(I)V"⟩) := ⟨List.mem_of_getElem? (i := 786) (by decide +kernel), by decide +kernel⟩
theorem wd_787 : zL (Cond.code ⟨"PathTrust$Buffer","addFour","(I)V"⟩ prog_2_method_4_code 2 (Option.none : Option FieldType)) := ⟨List.mem_of_getElem? (i := 787) (by decide +kernel), by decide +kernel⟩
theorem wd_788 : zL (Cond.methodLink "PathTrust$Buffer" 19 ⟨"PathTrust$Buffer","add","(I)V"⟩) := ⟨List.mem_of_getElem? (i := 788) (by decide +kernel), by decide +kernel⟩
theorem wd_790 : zL (Cond.instanceMethod ⟨"PathTrust$Buffer","add","(I)V"⟩) := ⟨List.mem_of_getElem? (i := 790) (by decide +kernel), by decide +kernel⟩
theorem wd_791 : zL (Cond.code ⟨"PathTrust$Buffer","add","(I)V"⟩ prog_2_method_3_code 2 (Option.none : Option FieldType)) := ⟨List.mem_of_getElem? (i := 791) (by decide +kernel), by decide +kernel⟩
theorem wd_800 : zL (Cond.methodLink "PathTrust" 72 ⟨"PathTrust","checkRange","(III)V"⟩) := ⟨List.mem_of_getElem? (i := 800) (by decide +kernel), by decide +kernel⟩
theorem wd_801 : zL (Cond.static ⟨"PathTrust","checkRange","(III)V"⟩) := ⟨List.mem_of_getElem? (i := 801) (by decide +kernel), by decide +kernel⟩
theorem wd_802 : zL (Cond.code ⟨"PathTrust","checkRange","(III)V"⟩ prog_1_method_65_code 3 (Option.none : Option FieldType)) := ⟨List.mem_of_getElem? (i := 802) (by decide +kernel), by decide +kernel⟩
theorem wd_803 : zL (Cond.classLink "PathTrust" 254 "java/lang/IllegalArgumentException") := ⟨List.mem_of_getElem? (i := 803) (by decide +kernel), by decide +kernel⟩
theorem wd_826 : zL (Cond.methodLinkNest "PathTrust" 119 ⟨"PathTrust$Desk","linkCount","()I"⟩ "PathTrust") := ⟨List.mem_of_getElem? (i := 826) (by decide +kernel), by decide +kernel⟩
theorem wd_828 : zL (Cond.instanceMethod ⟨"PathTrust$Desk","linkCount","()I"⟩) := ⟨List.mem_of_getElem? (i := 828) (by decide +kernel), by decide +kernel⟩
theorem wd_829 : zL (Cond.code ⟨"PathTrust$Desk","linkCount","()I"⟩ prog_3_method_10_code 4 (Option.some FieldType.int)) := ⟨List.mem_of_getElem? (i := 829) (by decide +kernel), by decide +kernel⟩
theorem wd_830 : zL (Cond.methodLinkNest "PathTrust" 123 ⟨"PathTrust$Desk","rule","(I)I"⟩ "PathTrust") := ⟨List.mem_of_getElem? (i := 830) (by decide +kernel), by decide +kernel⟩
theorem wd_839 : zL (Cond.methodLink "PathTrust" 127 ⟨"PathTrust","checkAgent","(I)V"⟩) := ⟨List.mem_of_getElem? (i := 839) (by decide +kernel), by decide +kernel⟩
theorem wd_841 : zL (Cond.instanceMethod ⟨"PathTrust","checkAgent","(I)V"⟩) := ⟨List.mem_of_getElem? (i := 841) (by decide +kernel), by decide +kernel⟩
theorem wd_842 : zL (Cond.code ⟨"PathTrust","checkAgent","(I)V"⟩ prog_1_method_61_code 2 (Option.none : Option FieldType)) := ⟨List.mem_of_getElem? (i := 842) (by decide +kernel), by decide +kernel⟩
theorem wd_843 : zL (Cond.classLink "PathTrust" 309 "java/lang/IndexOutOfBoundsException") := ⟨List.mem_of_getElem? (i := 843) (by decide +kernel), by decide +kernel⟩
theorem wd_859 : zL (Cond.methodLinkNest "PathTrust" 130 ⟨"PathTrust$Desk","trustIn","(II)I"⟩ "PathTrust") := ⟨List.mem_of_getElem? (i := 859) (by decide +kernel), by decide +kernel⟩
theorem wd_867 : zL (Cond.methodLinkNest "PathTrust" 134 ⟨"PathTrust$Desk","isLinked","(II)Z"⟩ "PathTrust") := ⟨List.mem_of_getElem? (i := 867) (by decide +kernel), by decide +kernel⟩
theorem wd_875 : zL (Cond.methodLink "PathTrust" 138 ⟨"PathTrust","contains","(II)Z"⟩) := ⟨List.mem_of_getElem? (i := 875) (by decide +kernel), by decide +kernel⟩
theorem wd_876 : zL (Cond.static ⟨"PathTrust","contains","(II)Z"⟩) := ⟨List.mem_of_getElem? (i := 876) (by decide +kernel), by decide +kernel⟩
theorem wd_877 : zL (Cond.code ⟨"PathTrust","contains","(II)Z"⟩ prog_1_method_68_code 2 (Option.some FieldType.boolean)) := ⟨List.mem_of_getElem? (i := 877) (by decide +kernel), by decide +kernel⟩
theorem wd_878 : zL (Cond.methodLinkNest "PathTrust" 141 ⟨"PathTrust$Desk","reachedFrom","(II)I"⟩ "PathTrust") := ⟨List.mem_of_getElem? (i := 878) (by decide +kernel), by decide +kernel⟩
theorem wd_880 : zL (Cond.instanceMethod ⟨"PathTrust$Desk","reachedFrom","(II)I"⟩) := ⟨List.mem_of_getElem? (i := 880) (by decide +kernel), by decide +kernel⟩
theorem wd_881 : zL (Cond.code ⟨"PathTrust$Desk","reachedFrom","(II)I"⟩ prog_3_method_11_code 6 (Option.some FieldType.int)) := ⟨List.mem_of_getElem? (i := 881) (by decide +kernel), by decide +kernel⟩
theorem wd_882 : zL (Cond.methodLinkNest "PathTrust$Desk" 105 ⟨"PathTrust","contains","(II)Z"⟩ "PathTrust") := ⟨List.mem_of_getElem? (i := 882) (by decide +kernel), by decide +kernel⟩
theorem wd_904 : zL (Cond.methodLinkNest "PathTrust" 144 ⟨"PathTrust$Desk","listOf","(I)LPathTrust$Reports;"⟩ "PathTrust") := ⟨List.mem_of_getElem? (i := 904) (by decide +kernel), by decide +kernel⟩
theorem wd_912 : zL (Cond.methodLink "PathTrust" 148 ⟨"PathTrust","checkReport","(II)V"⟩) := ⟨List.mem_of_getElem? (i := 912) (by decide +kernel), by decide +kernel⟩
theorem wd_914 : zL (Cond.instanceMethod ⟨"PathTrust","checkReport","(II)V"⟩) := ⟨List.mem_of_getElem? (i := 914) (by decide +kernel), by decide +kernel⟩
theorem wd_915 : zL (Cond.code ⟨"PathTrust","checkReport","(II)V"⟩ prog_1_method_63_code 3 (Option.none : Option FieldType)) := ⟨List.mem_of_getElem? (i := 915) (by decide +kernel), by decide +kernel⟩
theorem wd_917 : zL (Cond.methodLinkNest "PathTrust" 152 ⟨"PathTrust$Reports","get","(II)I"⟩ "PathTrust") := ⟨List.mem_of_getElem? (i := 917) (by decide +kernel), by decide +kernel⟩
theorem wd_925 : zL (Cond.methodLink "PathTrust" 155 ⟨"PathTrust","statusIn","(II)I"⟩) := ⟨List.mem_of_getElem? (i := 925) (by decide +kernel), by decide +kernel⟩
theorem wd_927 : zL (Cond.instanceMethod ⟨"PathTrust","statusIn","(II)I"⟩) := ⟨List.mem_of_getElem? (i := 927) (by decide +kernel), by decide +kernel⟩
theorem wd_928 : zL (Cond.code ⟨"PathTrust","statusIn","(II)I"⟩ prog_1_method_70_code 3 (Option.some FieldType.int)) := ⟨List.mem_of_getElem? (i := 928) (by decide +kernel), by decide +kernel⟩
theorem wd_929 : zL (Cond.methodLinkNest "PathTrust" 181 ⟨"PathTrust$View","form","(LPathTrust$Desk;III)V"⟩ "PathTrust") := ⟨List.mem_of_getElem? (i := 929) (by decide +kernel), by decide +kernel⟩
theorem wd_931 : zL (Cond.instanceMethod ⟨"PathTrust$View","form","(LPathTrust$Desk;III)V"⟩) := ⟨List.mem_of_getElem? (i := 931) (by decide +kernel), by decide +kernel⟩
theorem wd_932 : zL (Cond.code ⟨"PathTrust$View","form","(LPathTrust$Desk;III)V"⟩ prog_8_method_2_code 7 (Option.none : Option FieldType)) := ⟨List.mem_of_getElem? (i := 932) (by decide +kernel), by decide +kernel⟩
theorem wd_933 : zL (Cond.methodLinkNest "PathTrust$View" 40 ⟨"PathTrust$Desk","listOf","(I)LPathTrust$Reports;"⟩ "PathTrust") := ⟨List.mem_of_getElem? (i := 933) (by decide +kernel), by decide +kernel⟩
theorem wd_934 : zL (Cond.methodLinkNest "PathTrust$View" 49 ⟨"PathTrust$Reports","get","(II)I"⟩ "PathTrust") := ⟨List.mem_of_getElem? (i := 934) (by decide +kernel), by decide +kernel⟩
theorem wd_935 : zL (Cond.methodLink "PathTrust$View" 53 ⟨"PathTrust$View","note","(LPathTrust$Desk;III)V"⟩) := ⟨List.mem_of_getElem? (i := 935) (by decide +kernel), by decide +kernel⟩
theorem wd_937 : zL (Cond.instanceMethod ⟨"PathTrust$View","note","(LPathTrust$Desk;III)V"⟩) := ⟨List.mem_of_getElem? (i := 937) (by decide +kernel), by decide +kernel⟩
theorem wd_938 : zL (Cond.code ⟨"PathTrust$View","note","(LPathTrust$Desk;III)V"⟩ prog_8_method_3_code 10 (Option.none : Option FieldType)) := ⟨List.mem_of_getElem? (i := 938) (by decide +kernel), by decide +kernel⟩
theorem wd_939 : zL (Cond.methodLinkNest "PathTrust$View" 65 ⟨"PathTrust$Desk","trustIn","(II)I"⟩ "PathTrust") := ⟨List.mem_of_getElem? (i := 939) (by decide +kernel), by decide +kernel⟩
theorem wd_940 : zL (Cond.methodLinkNest "PathTrust$View" 68 ⟨"PathTrust$Desk","beliefSpread","(II)I"⟩ "PathTrust") := ⟨List.mem_of_getElem? (i := 940) (by decide +kernel), by decide +kernel⟩
theorem wd_942 : zL (Cond.instanceMethod ⟨"PathTrust$Desk","beliefSpread","(II)I"⟩) := ⟨List.mem_of_getElem? (i := 942) (by decide +kernel), by decide +kernel⟩
theorem wd_943 : zL (Cond.code ⟨"PathTrust$Desk","beliefSpread","(II)I"⟩ prog_3_method_17_code 6 (Option.some FieldType.int)) := ⟨List.mem_of_getElem? (i := 943) (by decide +kernel), by decide +kernel⟩
theorem wd_944 : zL (Cond.methodLinkNest "PathTrust$View" 71 ⟨"PathTrust$Desk","rule","(I)I"⟩ "PathTrust") := ⟨List.mem_of_getElem? (i := 944) (by decide +kernel), by decide +kernel⟩
theorem wd_945 : zL (Cond.methodLinkNest "PathTrust$View" 75 ⟨"PathTrust$Reports","lowMoved","(II)I"⟩ "PathTrust") := ⟨List.mem_of_getElem? (i := 945) (by decide +kernel), by decide +kernel⟩
theorem wd_946 : zL (Cond.methodLinkNest "PathTrust$View" 78 ⟨"PathTrust$Reports","highMoved","(II)I"⟩ "PathTrust") := ⟨List.mem_of_getElem? (i := 946) (by decide +kernel), by decide +kernel⟩
theorem wd_947 : zL (Cond.methodLink "PathTrust$View" 57 ⟨"PathTrust$View","nextToTake","()I"⟩) := ⟨List.mem_of_getElem? (i := 947) (by decide +kernel), by decide +kernel⟩
theorem wd_949 : zL (Cond.instanceMethod ⟨"PathTrust$View","nextToTake","()I"⟩) := ⟨List.mem_of_getElem? (i := 949) (by decide +kernel), by decide +kernel⟩
theorem wd_950 : zL (Cond.code ⟨"PathTrust$View","nextToTake","()I"⟩ prog_8_method_4_code 4 (Option.some FieldType.int)) := ⟨List.mem_of_getElem? (i := 950) (by decide +kernel), by decide +kernel⟩
theorem wd_951 : zL (Cond.methodLink "PathTrust$View" 61 ⟨"PathTrust$View","take","(I)V"⟩) := ⟨List.mem_of_getElem? (i := 951) (by decide +kernel), by decide +kernel⟩
theorem wd_953 : zL (Cond.instanceMethod ⟨"PathTrust$View","take","(I)V"⟩) := ⟨List.mem_of_getElem? (i := 953) (by decide +kernel), by decide +kernel⟩
theorem wd_954 : zL (Cond.code ⟨"PathTrust$View","take","(I)V"⟩ prog_8_method_5_code 4 (Option.none : Option FieldType)) := ⟨List.mem_of_getElem? (i := 954) (by decide +kernel), by decide +kernel⟩
theorem wd_955 : zL (Cond.methodLink "PathTrust$View" 81 ⟨"java/lang/Math","max","(II)I"⟩) := ⟨List.mem_of_getElem? (i := 955) (by decide +kernel), by decide +kernel⟩
theorem wd_956 : zL (Cond.methodLink "PathTrust$View" 86 ⟨"java/lang/Math","min","(II)I"⟩) := ⟨List.mem_of_getElem? (i := 956) (by decide +kernel), by decide +kernel⟩
theorem wd_957 : zL (Cond.methodLinkNest "PathTrust" 340 ⟨"PathTrust$View","statusOf","(I)I"⟩ "PathTrust") := ⟨List.mem_of_getElem? (i := 957) (by decide +kernel), by decide +kernel⟩
theorem wd_959 : zL (Cond.instanceMethod ⟨"PathTrust$View","statusOf","(I)I"⟩) := ⟨List.mem_of_getElem? (i := 959) (by decide +kernel), by decide +kernel⟩
theorem wd_960 : zL (Cond.code ⟨"PathTrust$View","statusOf","(I)I"⟩ prog_8_method_6_code 3 (Option.some FieldType.int)) := ⟨List.mem_of_getElem? (i := 960) (by decide +kernel), by decide +kernel⟩
theorem wd_968 : zL (Cond.methodLinkNest "PathTrust" 158 ⟨"PathTrust$Desk","beliefSpread","(II)I"⟩ "PathTrust") := ⟨List.mem_of_getElem? (i := 968) (by decide +kernel), by decide +kernel⟩
theorem wd_969 : zL (Cond.methodLinkNest "PathTrust" 161 ⟨"PathTrust$Reports","lowMoved","(II)I"⟩ "PathTrust") := ⟨List.mem_of_getElem? (i := 969) (by decide +kernel), by decide +kernel⟩
theorem wd_970 : zL (Cond.methodLinkNest "PathTrust" 164 ⟨"PathTrust$Reports","highMoved","(II)I"⟩ "PathTrust") := ⟨List.mem_of_getElem? (i := 970) (by decide +kernel), by decide +kernel⟩
theorem wd_978 : zL (Cond.methodLink "PathTrust" 167 ⟨"PathTrust","checkWay","(I)V"⟩) := ⟨List.mem_of_getElem? (i := 978) (by decide +kernel), by decide +kernel⟩
theorem wd_980 : zL (Cond.instanceMethod ⟨"PathTrust","checkWay","(I)V"⟩) := ⟨List.mem_of_getElem? (i := 980) (by decide +kernel), by decide +kernel⟩
theorem wd_981 : zL (Cond.code ⟨"PathTrust","checkWay","(I)V"⟩ prog_1_method_62_code 2 (Option.none : Option FieldType)) := ⟨List.mem_of_getElem? (i := 981) (by decide +kernel), by decide +kernel⟩
theorem wd_983 : zL (Cond.methodLinkNest "PathTrust" 170 ⟨"PathTrust$Reports","rowOf","(II)I"⟩ "PathTrust") := ⟨List.mem_of_getElem? (i := 983) (by decide +kernel), by decide +kernel⟩
theorem wd_991 : zL (Cond.methodLink "PathTrust" 173 ⟨"PathTrust","believed","(LPathTrust$Desk;III)I"⟩) := ⟨List.mem_of_getElem? (i := 991) (by decide +kernel), by decide +kernel⟩
theorem wd_993 : zL (Cond.instanceMethod ⟨"PathTrust","believed","(LPathTrust$Desk;III)I"⟩) := ⟨List.mem_of_getElem? (i := 993) (by decide +kernel), by decide +kernel⟩
theorem wd_994 : zL (Cond.code ⟨"PathTrust","believed","(LPathTrust$Desk;III)I"⟩ prog_1_method_72_code 5 (Option.some FieldType.int)) := ⟨List.mem_of_getElem? (i := 994) (by decide +kernel), by decide +kernel⟩
theorem wd_1002 : zL (Cond.methodLink "PathTrust" 177 ⟨"PathTrust","originsOf","(III)I"⟩) := ⟨List.mem_of_getElem? (i := 1002) (by decide +kernel), by decide +kernel⟩
theorem wd_1004 : zL (Cond.instanceMethod ⟨"PathTrust","originsOf","(III)I"⟩) := ⟨List.mem_of_getElem? (i := 1004) (by decide +kernel), by decide +kernel⟩
theorem wd_1005 : zL (Cond.code ⟨"PathTrust","originsOf","(III)I"⟩ prog_1_method_71_code 4 (Option.some FieldType.int)) := ⟨List.mem_of_getElem? (i := 1005) (by decide +kernel), by decide +kernel⟩
theorem wd_1006 : zL (Cond.methodLinkNest "PathTrust" 343 ⟨"PathTrust$View","originsWith","(I)I"⟩ "PathTrust") := ⟨List.mem_of_getElem? (i := 1006) (by decide +kernel), by decide +kernel⟩
theorem wd_1008 : zL (Cond.instanceMethod ⟨"PathTrust$View","originsWith","(I)I"⟩) := ⟨List.mem_of_getElem? (i := 1008) (by decide +kernel), by decide +kernel⟩
theorem wd_1009 : zL (Cond.code ⟨"PathTrust$View","originsWith","(I)I"⟩ prog_8_method_7_code 4 (Option.some FieldType.int)) := ⟨List.mem_of_getElem? (i := 1009) (by decide +kernel), by decide +kernel⟩
theorem wd_1024 : zL (Cond.methodLinkNest "PathTrust" 185 ⟨"PathTrust$View","largestSet","()I"⟩ "PathTrust") := ⟨List.mem_of_getElem? (i := 1024) (by decide +kernel), by decide +kernel⟩
theorem wd_1026 : zL (Cond.instanceMethod ⟨"PathTrust$View","largestSet","()I"⟩) := ⟨List.mem_of_getElem? (i := 1026) (by decide +kernel), by decide +kernel⟩
theorem wd_1027 : zL (Cond.code ⟨"PathTrust$View","largestSet","()I"⟩ prog_8_method_8_code 5 (Option.some FieldType.int)) := ⟨List.mem_of_getElem? (i := 1027) (by decide +kernel), by decide +kernel⟩
theorem wd_1028 : zL (Cond.methodLink "PathTrust$View" 89 ⟨"PathTrust$View","originsAround","(I)I"⟩) := ⟨List.mem_of_getElem? (i := 1028) (by decide +kernel), by decide +kernel⟩
theorem wd_1030 : zL (Cond.instanceMethod ⟨"PathTrust$View","originsAround","(I)I"⟩) := ⟨List.mem_of_getElem? (i := 1030) (by decide +kernel), by decide +kernel⟩
theorem wd_1031 : zL (Cond.code ⟨"PathTrust$View","originsAround","(I)I"⟩ prog_8_method_9_code 4 (Option.some FieldType.int)) := ⟨List.mem_of_getElem? (i := 1031) (by decide +kernel), by decide +kernel⟩
theorem wd_1032 : zL (Cond.methodLink "PathTrust$View" 92 ⟨"java/lang/Integer","bitCount","(I)I"⟩) := ⟨List.mem_of_getElem? (i := 1032) (by decide +kernel), by decide +kernel⟩
theorem wd_1033 : zL (Cond.static ⟨"java/lang/Integer","bitCount","(I)I"⟩) := ⟨List.mem_of_getElem? (i := 1033) (by decide +kernel), by decide +kernel⟩
theorem wd_1034 : zL (Cond.code ⟨"java/lang/Integer","bitCount","(I)I"⟩ prog_18_method_49_code 1 (Option.some FieldType.int)) := ⟨List.mem_of_getElem? (i := 1034) (by decide +kernel), by decide +kernel⟩
theorem wd_1035 : zL (Cond.constant "java/lang/Integer" 265 (1431655765 : Int32)) := ⟨List.mem_of_getElem? (i := 1035) (by decide +kernel), by decide +kernel⟩
theorem wd_1036 : zL (Cond.constant "java/lang/Integer" 266 (858993459 : Int32)) := ⟨List.mem_of_getElem? (i := 1036) (by decide +kernel), by decide +kernel⟩
theorem wd_1037 : zL (Cond.constant "java/lang/Integer" 267 (252645135 : Int32)) := ⟨List.mem_of_getElem? (i := 1037) (by decide +kernel), by decide +kernel⟩
theorem wd_1045 : zL (Cond.methodLinkNest "PathTrust" 188 ⟨"PathTrust$View","lowOf","(I)I"⟩ "PathTrust") := ⟨List.mem_of_getElem? (i := 1045) (by decide +kernel), by decide +kernel⟩
theorem wd_1047 : zL (Cond.instanceMethod ⟨"PathTrust$View","lowOf","(I)I"⟩) := ⟨List.mem_of_getElem? (i := 1047) (by decide +kernel), by decide +kernel⟩
theorem wd_1048 : zL (Cond.code ⟨"PathTrust$View","lowOf","(I)I"⟩ prog_8_method_10_code 4 (Option.some FieldType.int)) := ⟨List.mem_of_getElem? (i := 1048) (by decide +kernel), by decide +kernel⟩
theorem wd_1049 : zL (Cond.methodLinkNest "PathTrust$View" 97 ⟨"PathTrust","contains","(II)Z"⟩ "PathTrust") := ⟨List.mem_of_getElem? (i := 1049) (by decide +kernel), by decide +kernel⟩
theorem wd_1050 : zL (Cond.methodLinkNest "PathTrust" 191 ⟨"PathTrust$View","highOf","(I)I"⟩ "PathTrust") := ⟨List.mem_of_getElem? (i := 1050) (by decide +kernel), by decide +kernel⟩
theorem wd_1052 : zL (Cond.instanceMethod ⟨"PathTrust$View","highOf","(I)I"⟩) := ⟨List.mem_of_getElem? (i := 1052) (by decide +kernel), by decide +kernel⟩
theorem wd_1053 : zL (Cond.code ⟨"PathTrust$View","highOf","(I)I"⟩ prog_8_method_11_code 4 (Option.some FieldType.int)) := ⟨List.mem_of_getElem? (i := 1053) (by decide +kernel), by decide +kernel⟩
theorem wd_1061 : zL (Cond.methodLink "PathTrust" 194 ⟨"PathTrust","bestWay","(LPathTrust$Desk;II)I"⟩) := ⟨List.mem_of_getElem? (i := 1061) (by decide +kernel), by decide +kernel⟩
theorem wd_1063 : zL (Cond.instanceMethod ⟨"PathTrust","bestWay","(LPathTrust$Desk;II)I"⟩) := ⟨List.mem_of_getElem? (i := 1063) (by decide +kernel), by decide +kernel⟩
theorem wd_1064 : zL (Cond.code ⟨"PathTrust","bestWay","(LPathTrust$Desk;II)I"⟩ prog_1_method_75_code 8 (Option.some FieldType.int)) := ⟨List.mem_of_getElem? (i := 1064) (by decide +kernel), by decide +kernel⟩
theorem wd_1072 : zL (Cond.methodLink "PathTrust" 198 ⟨"PathTrust","rivalsOf","(II)I"⟩) := ⟨List.mem_of_getElem? (i := 1072) (by decide +kernel), by decide +kernel⟩
theorem wd_1074 : zL (Cond.instanceMethod ⟨"PathTrust","rivalsOf","(II)I"⟩) := ⟨List.mem_of_getElem? (i := 1074) (by decide +kernel), by decide +kernel⟩
theorem wd_1075 : zL (Cond.code ⟨"PathTrust","rivalsOf","(II)I"⟩ prog_1_method_76_code 6 (Option.some FieldType.int)) := ⟨List.mem_of_getElem? (i := 1075) (by decide +kernel), by decide +kernel⟩
theorem wd_1083 : zL (Cond.methodLink "PathTrust" 201 ⟨"PathTrust","widthOf","(LPathTrust$Desk;III)I"⟩) := ⟨List.mem_of_getElem? (i := 1083) (by decide +kernel), by decide +kernel⟩
theorem wd_1085 : zL (Cond.instanceMethod ⟨"PathTrust","widthOf","(LPathTrust$Desk;III)I"⟩) := ⟨List.mem_of_getElem? (i := 1085) (by decide +kernel), by decide +kernel⟩
theorem wd_1086 : zL (Cond.code ⟨"PathTrust","widthOf","(LPathTrust$Desk;III)I"⟩ prog_1_method_73_code 5 (Option.some FieldType.int)) := ⟨List.mem_of_getElem? (i := 1086) (by decide +kernel), by decide +kernel⟩
theorem wd_1108 : zL (Cond.methodLink "PathTrust" 204 ⟨"java/lang/Math","max","(II)I"⟩) := ⟨List.mem_of_getElem? (i := 1108) (by decide +kernel), by decide +kernel⟩
theorem wd_1109 : zL (Cond.methodLink "PathTrust" 209 ⟨"java/lang/Math","min","(II)I"⟩) := ⟨List.mem_of_getElem? (i := 1109) (by decide +kernel), by decide +kernel⟩
theorem wd_1117 : zL (Cond.methodLinkNest "PathTrust" 212 ⟨"PathTrust$Desk","driftOf","(LPathTrust$Reports;I)I"⟩ "PathTrust") := ⟨List.mem_of_getElem? (i := 1117) (by decide +kernel), by decide +kernel⟩
theorem wd_1125 : zL (Cond.methodLinkNest "PathTrust" 216 ⟨"PathTrust$Desk","accountOf","(II)I"⟩ "PathTrust") := ⟨List.mem_of_getElem? (i := 1125) (by decide +kernel), by decide +kernel⟩
theorem wd_1127 : zL (Cond.instanceMethod ⟨"PathTrust$Desk","accountOf","(II)I"⟩) := ⟨List.mem_of_getElem? (i := 1127) (by decide +kernel), by decide +kernel⟩
theorem wd_1128 : zL (Cond.code ⟨"PathTrust$Desk","accountOf","(II)I"⟩ prog_3_method_12_code 4 (Option.some FieldType.int)) := ⟨List.mem_of_getElem? (i := 1128) (by decide +kernel), by decide +kernel⟩
theorem wd_1153 : zL (Cond.methodLinkNest "PathTrust" 224 ⟨"PathTrust$Desk","reasonToRefuse","(I)I"⟩ "PathTrust") := ⟨List.mem_of_getElem? (i := 1153) (by decide +kernel), by decide +kernel⟩
theorem wd_1155 : zL (Cond.instanceMethod ⟨"PathTrust$Desk","reasonToRefuse","(I)I"⟩) := ⟨List.mem_of_getElem? (i := 1155) (by decide +kernel), by decide +kernel⟩
theorem wd_1156 : zL (Cond.code ⟨"PathTrust$Desk","reasonToRefuse","(I)I"⟩ prog_3_method_22_code 7 (Option.some FieldType.int)) := ⟨List.mem_of_getElem? (i := 1156) (by decide +kernel), by decide +kernel⟩
theorem wd_1157 : zL (Cond.methodLink "PathTrust$Desk" 162 ⟨"PathTrust$Desk","isTooOld","(LPathTrust$Reports;I)Z"⟩) := ⟨List.mem_of_getElem? (i := 1157) (by decide +kernel), by decide +kernel⟩
theorem wd_1159 : zL (Cond.instanceMethod ⟨"PathTrust$Desk","isTooOld","(LPathTrust$Reports;I)Z"⟩) := ⟨List.mem_of_getElem? (i := 1159) (by decide +kernel), by decide +kernel⟩
theorem wd_1160 : zL (Cond.code ⟨"PathTrust$Desk","isTooOld","(LPathTrust$Reports;I)Z"⟩ prog_3_method_15_code 3 (Option.some FieldType.boolean)) := ⟨List.mem_of_getElem? (i := 1160) (by decide +kernel), by decide +kernel⟩
theorem wd_1175 : zL (Cond.methodLink "PathTrust" 227 ⟨"PathTrust","checkBounds","(II)V"⟩) := ⟨List.mem_of_getElem? (i := 1175) (by decide +kernel), by decide +kernel⟩
theorem wd_1176 : zL (Cond.static ⟨"PathTrust","checkBounds","(II)V"⟩) := ⟨List.mem_of_getElem? (i := 1176) (by decide +kernel), by decide +kernel⟩
theorem wd_1177 : zL (Cond.code ⟨"PathTrust","checkBounds","(II)V"⟩ prog_1_method_66_code 2 (Option.none : Option FieldType)) := ⟨List.mem_of_getElem? (i := 1177) (by decide +kernel), by decide +kernel⟩
theorem wd_1178 : zL (Cond.methodLinkNest "PathTrust" 230 ⟨"PathTrust$Desk","makeProbe","(IIII)I"⟩ "PathTrust") := ⟨List.mem_of_getElem? (i := 1178) (by decide +kernel), by decide +kernel⟩
theorem wd_1193 : zL (Cond.methodLinkNest "PathTrust" 234 ⟨"PathTrust$Desk","makeRounds","(I)I"⟩ "PathTrust") := ⟨List.mem_of_getElem? (i := 1193) (by decide +kernel), by decide +kernel⟩
theorem wd_1195 : zL (Cond.instanceMethod ⟨"PathTrust$Desk","makeRounds","(I)I"⟩) := ⟨List.mem_of_getElem? (i := 1195) (by decide +kernel), by decide +kernel⟩
theorem wd_1196 : zL (Cond.code ⟨"PathTrust$Desk","makeRounds","(I)I"⟩ prog_3_method_25_code 5 (Option.some FieldType.int)) := ⟨List.mem_of_getElem? (i := 1196) (by decide +kernel), by decide +kernel⟩
theorem wd_1197 : zL (Cond.methodLink "PathTrust$Desk" 176 ⟨"PathTrust$Desk","sendReports","(II)I"⟩) := ⟨List.mem_of_getElem? (i := 1197) (by decide +kernel), by decide +kernel⟩
theorem wd_1199 : zL (Cond.instanceMethod ⟨"PathTrust$Desk","sendReports","(II)I"⟩) := ⟨List.mem_of_getElem? (i := 1199) (by decide +kernel), by decide +kernel⟩
theorem wd_1200 : zL (Cond.code ⟨"PathTrust$Desk","sendReports","(II)I"⟩ prog_3_method_20_code 6 (Option.some FieldType.int)) := ⟨List.mem_of_getElem? (i := 1200) (by decide +kernel), by decide +kernel⟩
theorem wd_1201 : zL (Cond.methodLink "PathTrust$Desk" 151 ⟨"PathTrust$Desk","sendReport","(ILPathTrust$Reports;I)V"⟩) := ⟨List.mem_of_getElem? (i := 1201) (by decide +kernel), by decide +kernel⟩
theorem wd_1203 : zL (Cond.instanceMethod ⟨"PathTrust$Desk","sendReport","(ILPathTrust$Reports;I)V"⟩) := ⟨List.mem_of_getElem? (i := 1203) (by decide +kernel), by decide +kernel⟩
theorem wd_1204 : zL (Cond.code ⟨"PathTrust$Desk","sendReport","(ILPathTrust$Reports;I)V"⟩ prog_3_method_21_code 7 (Option.none : Option FieldType)) := ⟨List.mem_of_getElem? (i := 1204) (by decide +kernel), by decide +kernel⟩
theorem wd_1205 : zL (Cond.methodLinkNest "PathTrust$Desk" 155 ⟨"PathTrust$Reports","isFull","()Z"⟩ "PathTrust") := ⟨List.mem_of_getElem? (i := 1205) (by decide +kernel), by decide +kernel⟩
theorem wd_1206 : zL (Cond.methodLinkNest "PathTrust$Desk" 159 ⟨"PathTrust$Reports","addCopy","(LPathTrust$Reports;I)I"⟩ "PathTrust") := ⟨List.mem_of_getElem? (i := 1206) (by decide +kernel), by decide +kernel⟩
theorem wd_1208 : zL (Cond.instanceMethod ⟨"PathTrust$Reports","addCopy","(LPathTrust$Reports;I)I"⟩) := ⟨List.mem_of_getElem? (i := 1208) (by decide +kernel), by decide +kernel⟩
theorem wd_1209 : zL (Cond.code ⟨"PathTrust$Reports","addCopy","(LPathTrust$Reports;I)I"⟩ prog_7_method_7_code 5 (Option.some FieldType.int)) := ⟨List.mem_of_getElem? (i := 1209) (by decide +kernel), by decide +kernel⟩
theorem wd_1210 : zL (Cond.methodLink "PathTrust$Reports" 27 ⟨"PathTrust$Reports","addRow","()I"⟩) := ⟨List.mem_of_getElem? (i := 1210) (by decide +kernel), by decide +kernel⟩
theorem wd_1211 : zL (Cond.methodLink "PathTrust$Reports" 31 ⟨"PathTrust$Reports","put","(III)V"⟩) := ⟨List.mem_of_getElem? (i := 1211) (by decide +kernel), by decide +kernel⟩
theorem wd_1212 : zL (Cond.methodLink "PathTrust$Desk" 179 ⟨"PathTrust$Desk","deliverFirst","(I)I"⟩) := ⟨List.mem_of_getElem? (i := 1212) (by decide +kernel), by decide +kernel⟩
theorem wd_1214 : zL (Cond.instanceMethod ⟨"PathTrust$Desk","deliverFirst","(I)I"⟩) := ⟨List.mem_of_getElem? (i := 1214) (by decide +kernel), by decide +kernel⟩
theorem wd_1215 : zL (Cond.code ⟨"PathTrust$Desk","deliverFirst","(I)I"⟩ prog_3_method_23_code 5 (Option.some FieldType.int)) := ⟨List.mem_of_getElem? (i := 1215) (by decide +kernel), by decide +kernel⟩
theorem wd_1216 : zL (Cond.methodLink "PathTrust$Desk" 166 ⟨"PathTrust$Desk","receive","(I)Z"⟩) := ⟨List.mem_of_getElem? (i := 1216) (by decide +kernel), by decide +kernel⟩
theorem wd_1218 : zL (Cond.instanceMethod ⟨"PathTrust$Desk","receive","(I)Z"⟩) := ⟨List.mem_of_getElem? (i := 1218) (by decide +kernel), by decide +kernel⟩
theorem wd_1219 : zL (Cond.code ⟨"PathTrust$Desk","receive","(I)Z"⟩ prog_3_method_24_code 7 (Option.some FieldType.boolean)) := ⟨List.mem_of_getElem? (i := 1219) (by decide +kernel), by decide +kernel⟩
theorem wd_1220 : zL (Cond.methodLink "PathTrust$Desk" 173 ⟨"PathTrust$Desk","reasonToRefuse","(I)I"⟩) := ⟨List.mem_of_getElem? (i := 1220) (by decide +kernel), by decide +kernel⟩
theorem wd_1221 : zL (Cond.methodLinkNest "PathTrust$Desk" 170 ⟨"PathTrust$Reports","removeFirst","(I)V"⟩ "PathTrust") := ⟨List.mem_of_getElem? (i := 1221) (by decide +kernel), by decide +kernel⟩
theorem wd_1223 : zL (Cond.instanceMethod ⟨"PathTrust$Reports","removeFirst","(I)V"⟩) := ⟨List.mem_of_getElem? (i := 1223) (by decide +kernel), by decide +kernel⟩
theorem wd_1224 : zL (Cond.code ⟨"PathTrust$Reports","removeFirst","(I)V"⟩ prog_7_method_9_code 2 (Option.none : Option FieldType)) := ⟨List.mem_of_getElem? (i := 1224) (by decide +kernel), by decide +kernel⟩
theorem wd_1232 : zL (Cond.methodLinkNest "PathTrust" 237 ⟨"PathTrust$Desk","letPass","(I)I"⟩ "PathTrust") := ⟨List.mem_of_getElem? (i := 1232) (by decide +kernel), by decide +kernel⟩
theorem wd_1234 : zL (Cond.instanceMethod ⟨"PathTrust$Desk","letPass","(I)I"⟩) := ⟨List.mem_of_getElem? (i := 1234) (by decide +kernel), by decide +kernel⟩
theorem wd_1235 : zL (Cond.code ⟨"PathTrust$Desk","letPass","(I)I"⟩ prog_3_method_26_code 6 (Option.some FieldType.int)) := ⟨List.mem_of_getElem? (i := 1235) (by decide +kernel), by decide +kernel⟩
theorem wd_1250 : zL (Cond.methodLink "PathTrust" 240 ⟨"PathTrust","widthSum","(II)I"⟩) := ⟨List.mem_of_getElem? (i := 1250) (by decide +kernel), by decide +kernel⟩
theorem wd_1252 : zL (Cond.instanceMethod ⟨"PathTrust","widthSum","(II)I"⟩) := ⟨List.mem_of_getElem? (i := 1252) (by decide +kernel), by decide +kernel⟩
theorem wd_1253 : zL (Cond.code ⟨"PathTrust","widthSum","(II)I"⟩ prog_1_method_74_code 5 (Option.some FieldType.int)) := ⟨List.mem_of_getElem? (i := 1253) (by decide +kernel), by decide +kernel⟩
theorem wd_1261 : zL (Cond.methodLinkNest "PathTrust" 243 ⟨"PathTrust$Desk","deliverFirst","(I)I"⟩ "PathTrust") := ⟨List.mem_of_getElem? (i := 1261) (by decide +kernel), by decide +kernel⟩
theorem wd_1276 : zL (Cond.methodLinkNest "PathTrust" 246 ⟨"PathTrust$Desk","sendReports","(II)I"⟩ "PathTrust") := ⟨List.mem_of_getElem? (i := 1276) (by decide +kernel), by decide +kernel⟩
theorem wd_1299 : zL (Cond.methodLinkNest "PathTrust" 251 ⟨"PathTrust$Reports","removeFirst","(I)V"⟩ "PathTrust") := ⟨List.mem_of_getElem? (i := 1299) (by decide +kernel), by decide +kernel⟩
theorem wd_1322 : zL (Cond.methodLinkNest "PathTrust" 259 ⟨"PathTrust$Desk","putTrust","(III)V"⟩ "PathTrust") := ⟨List.mem_of_getElem? (i := 1322) (by decide +kernel), by decide +kernel⟩
theorem wd_1338 : zL (Cond.methodLink "PathTrust" 264 ⟨"PathTrust","isRuleValue","(II)Z"⟩) := ⟨List.mem_of_getElem? (i := 1338) (by decide +kernel), by decide +kernel⟩
theorem wd_1339 : zL (Cond.static ⟨"PathTrust","isRuleValue","(II)Z"⟩) := ⟨List.mem_of_getElem? (i := 1339) (by decide +kernel), by decide +kernel⟩
theorem wd_1340 : zL (Cond.code ⟨"PathTrust","isRuleValue","(II)Z"⟩ prog_1_method_67_code 2 (Option.some FieldType.boolean)) := ⟨List.mem_of_getElem? (i := 1340) (by decide +kernel), by decide +kernel⟩
theorem wd_1341 : zL (Cond.fieldLink "PathTrust" 327 "PathTrust" "RULE_FROM" "[I") := ⟨List.mem_of_getElem? (i := 1341) (by decide +kernel), by decide +kernel⟩
theorem wd_1342 : zL (Cond.fieldLink "PathTrust" 331 "PathTrust" "RULE_TO" "[I") := ⟨List.mem_of_getElem? (i := 1342) (by decide +kernel), by decide +kernel⟩
theorem wd_1344 : zL (Cond.methodLinkNest "PathTrust" 269 ⟨"PathTrust$Desk","putRule","(II)V"⟩ "PathTrust") := ⟨List.mem_of_getElem? (i := 1344) (by decide +kernel), by decide +kernel⟩
theorem wd_1352 : zL (Cond.methodLinkNest "PathTrust" 272 ⟨"PathTrust$Reports","removeAll","(II)I"⟩ "PathTrust") := ⟨List.mem_of_getElem? (i := 1352) (by decide +kernel), by decide +kernel⟩
theorem wd_1354 : zL (Cond.instanceMethod ⟨"PathTrust$Reports","removeAll","(II)I"⟩) := ⟨List.mem_of_getElem? (i := 1354) (by decide +kernel), by decide +kernel⟩
theorem wd_1355 : zL (Cond.code ⟨"PathTrust$Reports","removeAll","(II)I"⟩ prog_7_method_11_code 5 (Option.some FieldType.int)) := ⟨List.mem_of_getElem? (i := 1355) (by decide +kernel), by decide +kernel⟩
theorem wd_1356 : zL (Cond.methodLinkNest "PathTrust$Reports" 53 ⟨"PathTrust","contains","(II)Z"⟩ "PathTrust") := ⟨List.mem_of_getElem? (i := 1356) (by decide +kernel), by decide +kernel⟩
theorem wd_1357 : zL (Cond.methodLink "PathTrust$Reports" 57 ⟨"PathTrust$Reports","removeRow","(I)V"⟩) := ⟨List.mem_of_getElem? (i := 1357) (by decide +kernel), by decide +kernel⟩
theorem wd_1372 : zL (Cond.methodLink "PathTrust" 275 ⟨"PathTrust","checkSlot","(I)V"⟩) := ⟨List.mem_of_getElem? (i := 1372) (by decide +kernel), by decide +kernel⟩
theorem wd_1374 : zL (Cond.instanceMethod ⟨"PathTrust","checkSlot","(I)V"⟩) := ⟨List.mem_of_getElem? (i := 1374) (by decide +kernel), by decide +kernel⟩
theorem wd_1375 : zL (Cond.code ⟨"PathTrust","checkSlot","(I)V"⟩ prog_1_method_64_code 2 (Option.none : Option FieldType)) := ⟨List.mem_of_getElem? (i := 1375) (by decide +kernel), by decide +kernel⟩
theorem wd_1393 : zL (Cond.methodLinkNest "PathTrust" 283 ⟨"PathTrust$History","pop","(LPathTrust$Desk;)V"⟩ "PathTrust") := ⟨List.mem_of_getElem? (i := 1393) (by decide +kernel), by decide +kernel⟩
theorem wd_1395 : zL (Cond.instanceMethod ⟨"PathTrust$History","pop","(LPathTrust$Desk;)V"⟩) := ⟨List.mem_of_getElem? (i := 1395) (by decide +kernel), by decide +kernel⟩
theorem wd_1396 : zL (Cond.code ⟨"PathTrust$History","pop","(LPathTrust$Desk;)V"⟩ prog_4_method_4_code 3 (Option.none : Option FieldType)) := ⟨List.mem_of_getElem? (i := 1396) (by decide +kernel), by decide +kernel⟩
theorem wd_1404 : zL (Cond.methodLinkNest "PathTrust" 286 ⟨"PathTrust$Buffer","add","(I)V"⟩ "PathTrust") := ⟨List.mem_of_getElem? (i := 1404) (by decide +kernel), by decide +kernel⟩
theorem wd_1405 : zL (Cond.methodLinkNest "PathTrust" 289 ⟨"PathTrust$Names","get","(I)I"⟩ "PathTrust") := ⟨List.mem_of_getElem? (i := 1405) (by decide +kernel), by decide +kernel⟩
theorem wd_1407 : zL (Cond.instanceMethod ⟨"PathTrust$Names","get","(I)I"⟩) := ⟨List.mem_of_getElem? (i := 1407) (by decide +kernel), by decide +kernel⟩
theorem wd_1408 : zL (Cond.code ⟨"PathTrust$Names","get","(I)I"⟩ prog_5_method_4_code 2 (Option.some FieldType.int)) := ⟨List.mem_of_getElem? (i := 1408) (by decide +kernel), by decide +kernel⟩
theorem wd_1409 : zL (Cond.methodLinkNest "PathTrust" 291 ⟨"PathTrust$Buffer","addName","(I)V"⟩ "PathTrust") := ⟨List.mem_of_getElem? (i := 1409) (by decide +kernel), by decide +kernel⟩
theorem wd_1411 : zL (Cond.instanceMethod ⟨"PathTrust$Buffer","addName","(I)V"⟩) := ⟨List.mem_of_getElem? (i := 1411) (by decide +kernel), by decide +kernel⟩
theorem wd_1412 : zL (Cond.code ⟨"PathTrust$Buffer","addName","(I)V"⟩ prog_2_method_6_code 4 (Option.none : Option FieldType)) := ⟨List.mem_of_getElem? (i := 1412) (by decide +kernel), by decide +kernel⟩
theorem wd_1413 : zL (Cond.methodLink "PathTrust" 300 ⟨"PathTrust","writeBounds","(II)V"⟩) := ⟨List.mem_of_getElem? (i := 1413) (by decide +kernel), by decide +kernel⟩
theorem wd_1415 : zL (Cond.instanceMethod ⟨"PathTrust","writeBounds","(II)V"⟩) := ⟨List.mem_of_getElem? (i := 1415) (by decide +kernel), by decide +kernel⟩
theorem wd_1416 : zL (Cond.code ⟨"PathTrust","writeBounds","(II)V"⟩ prog_1_method_77_code 3 (Option.none : Option FieldType)) := ⟨List.mem_of_getElem? (i := 1416) (by decide +kernel), by decide +kernel⟩
theorem wd_1417 : zL (Cond.methodLinkNest "PathTrust" 303 ⟨"PathTrust$Buffer","addNumber","(I)V"⟩ "PathTrust") := ⟨List.mem_of_getElem? (i := 1417) (by decide +kernel), by decide +kernel⟩
theorem wd_1419 : zL (Cond.instanceMethod ⟨"PathTrust$Buffer","addNumber","(I)V"⟩) := ⟨List.mem_of_getElem? (i := 1419) (by decide +kernel), by decide +kernel⟩
theorem wd_1420 : zL (Cond.code ⟨"PathTrust$Buffer","addNumber","(I)V"⟩ prog_2_method_5_code 5 (Option.none : Option FieldType)) := ⟨List.mem_of_getElem? (i := 1420) (by decide +kernel), by decide +kernel⟩
theorem wd_1421 : zL (Cond.constant "PathTrust$Buffer" 23 (1000000000 : Int32)) := ⟨List.mem_of_getElem? (i := 1421) (by decide +kernel), by decide +kernel⟩
theorem wd_1429 : zL (Cond.methodLink "PathTrust" 306 ⟨"PathTrust","writeStatus","(I)V"⟩) := ⟨List.mem_of_getElem? (i := 1429) (by decide +kernel), by decide +kernel⟩
theorem wd_1431 : zL (Cond.instanceMethod ⟨"PathTrust","writeStatus","(I)V"⟩) := ⟨List.mem_of_getElem? (i := 1431) (by decide +kernel), by decide +kernel⟩
theorem wd_1432 : zL (Cond.code ⟨"PathTrust","writeStatus","(I)V"⟩ prog_1_method_78_code 2 (Option.none : Option FieldType)) := ⟨List.mem_of_getElem? (i := 1432) (by decide +kernel), by decide +kernel⟩
theorem wd_1441 : zL (Cond.methodLinkNest "PathTrust" 314 ⟨"PathTrust$Buffer","at","(I)I"⟩ "PathTrust") := ⟨List.mem_of_getElem? (i := 1441) (by decide +kernel), by decide +kernel⟩
theorem wd_1451 : zL (Cond.methodLink "PathTrustModel" 11 ⟨"java/lang/Object","<init>","()V"⟩) := ⟨List.mem_of_getElem? (i := 1451) (by decide +kernel), by decide +kernel⟩
theorem wd_1452 : zL (Cond.methodLink "PathTrustModel" 62 ⟨"PathTrustModel","clear","([I)V"⟩) := ⟨List.mem_of_getElem? (i := 1452) (by decide +kernel), by decide +kernel⟩
theorem wd_1453 : zL (Cond.static ⟨"PathTrustModel","clear","([I)V"⟩) := ⟨List.mem_of_getElem? (i := 1453) (by decide +kernel), by decide +kernel⟩
theorem wd_1454 : zL (Cond.code ⟨"PathTrustModel","clear","([I)V"⟩ prog_10_method_7_code 2 (Option.none : Option FieldType)) := ⟨List.mem_of_getElem? (i := 1454) (by decide +kernel), by decide +kernel⟩
theorem wd_1455 : zL (Cond.fieldLink "PathTrustModel" 3 "PathTrustModel" "thrown" "I") := ⟨List.mem_of_getElem? (i := 1455) (by decide +kernel), by decide +kernel⟩
theorem wd_1456 : zL (Cond.fieldLink "PathTrustModel" 17 "PathTrustModel" "net" "[I") := ⟨List.mem_of_getElem? (i := 1456) (by decide +kernel), by decide +kernel⟩
theorem wd_1457 : zL (Cond.fieldLink "PathTrustModel" 21 "PathTrustModel" "draft" "[I") := ⟨List.mem_of_getElem? (i := 1457) (by decide +kernel), by decide +kernel⟩
theorem wd_1458 : zL (Cond.fieldLink "PathTrustModel" 24 "PathTrustModel" "row" "[I") := ⟨List.mem_of_getElem? (i := 1458) (by decide +kernel), by decide +kernel⟩
theorem wd_1459 : zL (Cond.fieldLink "PathTrustModel" 27 "PathTrustModel" "without" "I") := ⟨List.mem_of_getElem? (i := 1459) (by decide +kernel), by decide +kernel⟩
theorem wd_1460 : zL (Cond.fieldLink "PathTrustModel" 188 "PathTrustModel" "low" "I") := ⟨List.mem_of_getElem? (i := 1460) (by decide +kernel), by decide +kernel⟩
theorem wd_1461 : zL (Cond.fieldLink "PathTrustModel" 191 "PathTrustModel" "top" "I") := ⟨List.mem_of_getElem? (i := 1461) (by decide +kernel), by decide +kernel⟩
theorem wd_1462 : zL (Cond.fieldLink "PathTrustModel" 30 "PathTrustModel" "statusOf" "[I") := ⟨List.mem_of_getElem? (i := 1462) (by decide +kernel), by decide +kernel⟩
theorem wd_1463 : zL (Cond.fieldLink "PathTrustModel" 33 "PathTrustModel" "isDone" "[Z") := ⟨List.mem_of_getElem? (i := 1463) (by decide +kernel), by decide +kernel⟩
theorem wd_1464 : zL (Cond.fieldLink "PathTrustModel" 37 "PathTrustModel" "aside" "[I") := ⟨List.mem_of_getElem? (i := 1464) (by decide +kernel), by decide +kernel⟩
theorem wd_1465 : zL (Cond.fieldLink "PathTrustModel" 40 "PathTrustModel" "input" "[B") := ⟨List.mem_of_getElem? (i := 1465) (by decide +kernel), by decide +kernel⟩
theorem wd_1466 : zL (Cond.fieldLink "PathTrustModel" 212 "PathTrustModel" "inputSize" "I") := ⟨List.mem_of_getElem? (i := 1466) (by decide +kernel), by decide +kernel⟩
theorem wd_1467 : zL (Cond.fieldLink "PathTrustModel" 232 "PathTrustModel" "textSize" "I") := ⟨List.mem_of_getElem? (i := 1467) (by decide +kernel), by decide +kernel⟩
theorem wd_1468 : zL (Cond.fieldLink "PathTrustModel" 235 "PathTrustModel" "next" "I") := ⟨List.mem_of_getElem? (i := 1468) (by decide +kernel), by decide +kernel⟩
theorem wd_1469 : zL (Cond.fieldLink "PathTrustModel" 229 "PathTrustModel" "start" "I") := ⟨List.mem_of_getElem? (i := 1469) (by decide +kernel), by decide +kernel⟩
theorem wd_1470 : zL (Cond.fieldLink "PathTrustModel" 241 "PathTrustModel" "token" "I") := ⟨List.mem_of_getElem? (i := 1470) (by decide +kernel), by decide +kernel⟩
theorem wd_1471 : zL (Cond.fieldLink "PathTrustModel" 252 "PathTrustModel" "value" "I") := ⟨List.mem_of_getElem? (i := 1471) (by decide +kernel), by decide +kernel⟩
theorem wd_1472 : zL (Cond.fieldLink "PathTrustModel" 223 "PathTrustModel" "errorFound" "I") := ⟨List.mem_of_getElem? (i := 1472) (by decide +kernel), by decide +kernel⟩
theorem wd_1473 : zL (Cond.fieldLink "PathTrustModel" 44 "PathTrustModel" "errorPlace" "I") := ⟨List.mem_of_getElem? (i := 1473) (by decide +kernel), by decide +kernel⟩
theorem wd_1474 : zL (Cond.fieldLink "PathTrustModel" 403 "PathTrustModel" "commonLow" "I") := ⟨List.mem_of_getElem? (i := 1474) (by decide +kernel), by decide +kernel⟩
theorem wd_1475 : zL (Cond.fieldLink "PathTrustModel" 406 "PathTrustModel" "commonTop" "I") := ⟨List.mem_of_getElem? (i := 1475) (by decide +kernel), by decide +kernel⟩
theorem wd_1476 : zL (Cond.fieldLink "PathTrustModel" 47 "PathTrustModel" "isGone" "[Z") := ⟨List.mem_of_getElem? (i := 1476) (by decide +kernel), by decide +kernel⟩
theorem wd_1477 : zL (Cond.fieldLink "PathTrustModel" 50 "PathTrustModel" "slots" "[I") := ⟨List.mem_of_getElem? (i := 1477) (by decide +kernel), by decide +kernel⟩
theorem wd_1478 : zL (Cond.fieldLink "PathTrustModel" 53 "PathTrustModel" "isKept" "[Z") := ⟨List.mem_of_getElem? (i := 1478) (by decide +kernel), by decide +kernel⟩
theorem wd_1479 : zL (Cond.fieldLink "PathTrustModel" 56 "PathTrustModel" "past" "[I") := ⟨List.mem_of_getElem? (i := 1479) (by decide +kernel), by decide +kernel⟩
theorem wd_1480 : zL (Cond.fieldLink "PathTrustModel" 468 "PathTrustModel" "remembered" "I") := ⟨List.mem_of_getElem? (i := 1480) (by decide +kernel), by decide +kernel⟩
theorem wd_1481 : zL (Cond.fieldLink "PathTrustModel" 59 "PathTrustModel" "output" "[B") := ⟨List.mem_of_getElem? (i := 1481) (by decide +kernel), by decide +kernel⟩
theorem wd_1482 : zL (Cond.fieldLink "PathTrustModel" 471 "PathTrustModel" "outputSize" "I") := ⟨List.mem_of_getElem? (i := 1482) (by decide +kernel), by decide +kernel⟩
theorem wd_1483 : zL (Cond.lays "PathTrustModel" "PathTrustModel" "thrown" "I") := ⟨List.mem_of_getElem? (i := 1483) (by decide +kernel), by decide +kernel⟩
theorem wd_1485 : zL (Cond.laysFinal "PathTrustModel" "PathTrustModel" "net" "[I") := ⟨List.mem_of_getElem? (i := 1485) (by decide +kernel), by decide +kernel⟩
theorem wd_1487 : zL (Cond.laysFinal "PathTrustModel" "PathTrustModel" "draft" "[I") := ⟨List.mem_of_getElem? (i := 1487) (by decide +kernel), by decide +kernel⟩
theorem wd_1489 : zL (Cond.lays "PathTrustModel" "PathTrustModel" "row" "[I") := ⟨List.mem_of_getElem? (i := 1489) (by decide +kernel), by decide +kernel⟩
theorem wd_1491 : zL (Cond.lays "PathTrustModel" "PathTrustModel" "without" "I") := ⟨List.mem_of_getElem? (i := 1491) (by decide +kernel), by decide +kernel⟩
theorem wd_1493 : zL (Cond.lays "PathTrustModel" "PathTrustModel" "low" "I") := ⟨List.mem_of_getElem? (i := 1493) (by decide +kernel), by decide +kernel⟩
theorem wd_1495 : zL (Cond.lays "PathTrustModel" "PathTrustModel" "top" "I") := ⟨List.mem_of_getElem? (i := 1495) (by decide +kernel), by decide +kernel⟩
theorem wd_1497 : zL (Cond.laysFinal "PathTrustModel" "PathTrustModel" "statusOf" "[I") := ⟨List.mem_of_getElem? (i := 1497) (by decide +kernel), by decide +kernel⟩
theorem wd_1499 : zL (Cond.laysFinal "PathTrustModel" "PathTrustModel" "isDone" "[Z") := ⟨List.mem_of_getElem? (i := 1499) (by decide +kernel), by decide +kernel⟩
theorem wd_1501 : zL (Cond.laysFinal "PathTrustModel" "PathTrustModel" "aside" "[I") := ⟨List.mem_of_getElem? (i := 1501) (by decide +kernel), by decide +kernel⟩
theorem wd_1503 : zL (Cond.laysFinal "PathTrustModel" "PathTrustModel" "input" "[B") := ⟨List.mem_of_getElem? (i := 1503) (by decide +kernel), by decide +kernel⟩
theorem wd_1505 : zL (Cond.lays "PathTrustModel" "PathTrustModel" "inputSize" "I") := ⟨List.mem_of_getElem? (i := 1505) (by decide +kernel), by decide +kernel⟩
theorem wd_1507 : zL (Cond.lays "PathTrustModel" "PathTrustModel" "textSize" "I") := ⟨List.mem_of_getElem? (i := 1507) (by decide +kernel), by decide +kernel⟩
theorem wd_1509 : zL (Cond.lays "PathTrustModel" "PathTrustModel" "next" "I") := ⟨List.mem_of_getElem? (i := 1509) (by decide +kernel), by decide +kernel⟩
theorem wd_1511 : zL (Cond.lays "PathTrustModel" "PathTrustModel" "start" "I") := ⟨List.mem_of_getElem? (i := 1511) (by decide +kernel), by decide +kernel⟩
theorem wd_1513 : zL (Cond.lays "PathTrustModel" "PathTrustModel" "token" "I") := ⟨List.mem_of_getElem? (i := 1513) (by decide +kernel), by decide +kernel⟩
theorem wd_1515 : zL (Cond.lays "PathTrustModel" "PathTrustModel" "value" "I") := ⟨List.mem_of_getElem? (i := 1515) (by decide +kernel), by decide +kernel⟩
theorem wd_1517 : zL (Cond.lays "PathTrustModel" "PathTrustModel" "errorFound" "I") := ⟨List.mem_of_getElem? (i := 1517) (by decide +kernel), by decide +kernel⟩
theorem wd_1519 : zL (Cond.lays "PathTrustModel" "PathTrustModel" "errorPlace" "I") := ⟨List.mem_of_getElem? (i := 1519) (by decide +kernel), by decide +kernel⟩
theorem wd_1521 : zL (Cond.lays "PathTrustModel" "PathTrustModel" "commonLow" "I") := ⟨List.mem_of_getElem? (i := 1521) (by decide +kernel), by decide +kernel⟩
theorem wd_1523 : zL (Cond.lays "PathTrustModel" "PathTrustModel" "commonTop" "I") := ⟨List.mem_of_getElem? (i := 1523) (by decide +kernel), by decide +kernel⟩
theorem wd_1525 : zL (Cond.laysFinal "PathTrustModel" "PathTrustModel" "isGone" "[Z") := ⟨List.mem_of_getElem? (i := 1525) (by decide +kernel), by decide +kernel⟩
theorem wd_1527 : zL (Cond.laysFinal "PathTrustModel" "PathTrustModel" "slots" "[I") := ⟨List.mem_of_getElem? (i := 1527) (by decide +kernel), by decide +kernel⟩
theorem wd_1529 : zL (Cond.laysFinal "PathTrustModel" "PathTrustModel" "isKept" "[Z") := ⟨List.mem_of_getElem? (i := 1529) (by decide +kernel), by decide +kernel⟩
theorem wd_1531 : zL (Cond.laysFinal "PathTrustModel" "PathTrustModel" "past" "[I") := ⟨List.mem_of_getElem? (i := 1531) (by decide +kernel), by decide +kernel⟩
theorem wd_1533 : zL (Cond.lays "PathTrustModel" "PathTrustModel" "remembered" "I") := ⟨List.mem_of_getElem? (i := 1533) (by decide +kernel), by decide +kernel⟩
theorem wd_1535 : zL (Cond.laysFinal "PathTrustModel" "PathTrustModel" "output" "[B") := ⟨List.mem_of_getElem? (i := 1535) (by decide +kernel), by decide +kernel⟩
theorem wd_1537 : zL (Cond.lays "PathTrustModel" "PathTrustModel" "outputSize" "I") := ⟨List.mem_of_getElem? (i := 1537) (by decide +kernel), by decide +kernel⟩
theorem wd_1540 : zL (Cond.arrayClass FieldType.boolean) := ⟨List.mem_of_getElem? (i := 1540) (by decide +kernel), by decide +kernel⟩
theorem wd_1545 : zL (Cond.methodLink "PathTrustModel" 215 ⟨"PathTrustModel","passes","(Z)Z"⟩) := ⟨List.mem_of_getElem? (i := 1545) (by decide +kernel), by decide +kernel⟩
theorem wd_1547 : zL (Cond.instanceMethod ⟨"PathTrustModel","passes","(Z)Z"⟩) := ⟨List.mem_of_getElem? (i := 1547) (by decide +kernel), by decide +kernel⟩
theorem wd_1548 : zL (Cond.code ⟨"PathTrustModel","passes","(Z)Z"⟩ prog_10_method_5_code 2 (Option.some FieldType.boolean)) := ⟨List.mem_of_getElem? (i := 1548) (by decide +kernel), by decide +kernel⟩
theorem wd_1549 : zL (Cond.methodLink "PathTrustModel" 7 ⟨"PathTrustModel","passes3","(ZZZ)Z"⟩) := ⟨List.mem_of_getElem? (i := 1549) (by decide +kernel), by decide +kernel⟩
theorem wd_1551 : zL (Cond.instanceMethod ⟨"PathTrustModel","passes3","(ZZZ)Z"⟩) := ⟨List.mem_of_getElem? (i := 1551) (by decide +kernel), by decide +kernel⟩
theorem wd_1552 : zL (Cond.code ⟨"PathTrustModel","passes3","(ZZZ)Z"⟩ prog_10_method_3_code 4 (Option.some FieldType.boolean)) := ⟨List.mem_of_getElem? (i := 1552) (by decide +kernel), by decide +kernel⟩
theorem wd_1553 : zL (Cond.methodLink "PathTrustModel" 219 ⟨"PathTrustModel","appendFour","(I)V"⟩) := ⟨List.mem_of_getElem? (i := 1553) (by decide +kernel), by decide +kernel⟩
theorem wd_1555 : zL (Cond.instanceMethod ⟨"PathTrustModel","appendFour","(I)V"⟩) := ⟨List.mem_of_getElem? (i := 1555) (by decide +kernel), by decide +kernel⟩
theorem wd_1556 : zL (Cond.code ⟨"PathTrustModel","appendFour","(I)V"⟩ prog_10_method_59_code 3 (Option.none : Option FieldType)) := ⟨List.mem_of_getElem? (i := 1556) (by decide +kernel), by decide +kernel⟩
theorem wd_1561 : zL (Cond.methodLink "PathTrustModel" 70 ⟨"PathTrustModel","in","(JJJ)Z"⟩) := ⟨List.mem_of_getElem? (i := 1561) (by decide +kernel), by decide +kernel⟩
theorem wd_1562 : zL (Cond.static ⟨"PathTrustModel","in","(JJJ)Z"⟩) := ⟨List.mem_of_getElem? (i := 1562) (by decide +kernel), by decide +kernel⟩
theorem wd_1563 : zL (Cond.code ⟨"PathTrustModel","in","(JJJ)Z"⟩ prog_10_method_2_code 6 (Option.some FieldType.boolean)) := ⟨List.mem_of_getElem? (i := 1563) (by decide +kernel), by decide +kernel⟩
theorem wd_1568 : zL (Cond.methodLink "PathTrustModel" 255 ⟨"PathTrustModel","scan","()V"⟩) := ⟨List.mem_of_getElem? (i := 1568) (by decide +kernel), by decide +kernel⟩
theorem wd_1570 : zL (Cond.instanceMethod ⟨"PathTrustModel","scan","()V"⟩) := ⟨List.mem_of_getElem? (i := 1570) (by decide +kernel), by decide +kernel⟩
theorem wd_1571 : zL (Cond.code ⟨"PathTrustModel","scan","()V"⟩ prog_10_method_65_code 2 (Option.none : Option FieldType)) := ⟨List.mem_of_getElem? (i := 1571) (by decide +kernel), by decide +kernel⟩
theorem wd_1572 : zL (Cond.methodLink "PathTrustModel" 238 ⟨"PathTrustModel","byteAt","(I)I"⟩) := ⟨List.mem_of_getElem? (i := 1572) (by decide +kernel), by decide +kernel⟩
theorem wd_1574 : zL (Cond.instanceMethod ⟨"PathTrustModel","byteAt","(I)I"⟩) := ⟨List.mem_of_getElem? (i := 1574) (by decide +kernel), by decide +kernel⟩
theorem wd_1575 : zL (Cond.code ⟨"PathTrustModel","byteAt","(I)I"⟩ prog_10_method_64_code 2 (Option.some FieldType.int)) := ⟨List.mem_of_getElem? (i := 1575) (by decide +kernel), by decide +kernel⟩
theorem wd_1576 : zL (Cond.constantLong "PathTrustModel" 244 (97 : Int64)) := ⟨List.mem_of_getElem? (i := 1576) (by decide +kernel), by decide +kernel⟩
theorem wd_1577 : zL (Cond.constantLong "PathTrustModel" 246 (122 : Int64)) := ⟨List.mem_of_getElem? (i := 1577) (by decide +kernel), by decide +kernel⟩
theorem wd_1578 : zL (Cond.constantLong "PathTrustModel" 248 (48 : Int64)) := ⟨List.mem_of_getElem? (i := 1578) (by decide +kernel), by decide +kernel⟩
theorem wd_1579 : zL (Cond.constantLong "PathTrustModel" 250 (57 : Int64)) := ⟨List.mem_of_getElem? (i := 1579) (by decide +kernel), by decide +kernel⟩
theorem wd_1580 : zL (Cond.methodLink "PathTrustModel" 107 ⟨"java/lang/Math","min","(II)I"⟩) := ⟨List.mem_of_getElem? (i := 1580) (by decide +kernel), by decide +kernel⟩
theorem wd_1581 : zL (Cond.methodLink "PathTrustModel" 338 ⟨"PathTrustModel","parseRules","()V"⟩) := ⟨List.mem_of_getElem? (i := 1581) (by decide +kernel), by decide +kernel⟩
theorem wd_1583 : zL (Cond.instanceMethod ⟨"PathTrustModel","parseRules","()V"⟩) := ⟨List.mem_of_getElem? (i := 1583) (by decide +kernel), by decide +kernel⟩
theorem wd_1584 : zL (Cond.code ⟨"PathTrustModel","parseRules","()V"⟩ prog_10_method_75_code 1 (Option.none : Option FieldType)) := ⟨List.mem_of_getElem? (i := 1584) (by decide +kernel), by decide +kernel⟩
theorem wd_1586 : zL (Cond.methodLink "PathTrustModel" 273 ⟨"PathTrustModel","isWord","(Ljava/lang/String;)Z"⟩) := ⟨List.mem_of_getElem? (i := 1586) (by decide +kernel), by decide +kernel⟩
theorem wd_1588 : zL (Cond.instanceMethod ⟨"PathTrustModel","isWord","(Ljava/lang/String;)Z"⟩) := ⟨List.mem_of_getElem? (i := 1588) (by decide +kernel), by decide +kernel⟩
theorem wd_1589 : zL (Cond.code ⟨"PathTrustModel","isWord","(Ljava/lang/String;)Z"⟩ prog_10_method_67_code 4 (Option.some FieldType.boolean)) := ⟨List.mem_of_getElem? (i := 1589) (by decide +kernel), by decide +kernel⟩
theorem wd_1590 : zL (Cond.methodLink "PathTrustModel" 226 ⟨"PathTrustModel","good","()Z"⟩) := ⟨List.mem_of_getElem? (i := 1590) (by decide +kernel), by decide +kernel⟩
theorem wd_1592 : zL (Cond.instanceMethod ⟨"PathTrustModel","good","()Z"⟩) := ⟨List.mem_of_getElem? (i := 1592) (by decide +kernel), by decide +kernel⟩
theorem wd_1593 : zL (Cond.code ⟨"PathTrustModel","good","()Z"⟩ prog_10_method_62_code 1 (Option.some FieldType.boolean)) := ⟨List.mem_of_getElem? (i := 1593) (by decide +kernel), by decide +kernel⟩
theorem wd_1594 : zL (Cond.methodLink "PathTrustModel" 258 ⟨"java/lang/String","length","()I"⟩) := ⟨List.mem_of_getElem? (i := 1594) (by decide +kernel), by decide +kernel⟩
theorem wd_1595 : zL (Cond.methodLink "PathTrustModel" 263 ⟨"java/lang/String","charAt","(I)C"⟩) := ⟨List.mem_of_getElem? (i := 1595) (by decide +kernel), by decide +kernel⟩
theorem wd_1596 : zL (Cond.methodLink "PathTrustModel" 267 ⟨"PathTrustModel","errs","(I)V"⟩) := ⟨List.mem_of_getElem? (i := 1596) (by decide +kernel), by decide +kernel⟩
theorem wd_1598 : zL (Cond.instanceMethod ⟨"PathTrustModel","errs","(I)V"⟩) := ⟨List.mem_of_getElem? (i := 1598) (by decide +kernel), by decide +kernel⟩
theorem wd_1599 : zL (Cond.code ⟨"PathTrustModel","errs","(I)V"⟩ prog_10_method_63_code 2 (Option.none : Option FieldType)) := ⟨List.mem_of_getElem? (i := 1599) (by decide +kernel), by decide +kernel⟩
theorem wd_1600 : zL (Cond.methodLink "PathTrustModel" 270 ⟨"PathTrustModel","goOn","()V"⟩) := ⟨List.mem_of_getElem? (i := 1600) (by decide +kernel), by decide +kernel⟩
theorem wd_1602 : zL (Cond.instanceMethod ⟨"PathTrustModel","goOn","()V"⟩) := ⟨List.mem_of_getElem? (i := 1602) (by decide +kernel), by decide +kernel⟩
theorem wd_1603 : zL (Cond.code ⟨"PathTrustModel","goOn","()V"⟩ prog_10_method_66_code 1 (Option.none : Option FieldType)) := ⟨List.mem_of_getElem? (i := 1603) (by decide +kernel), by decide +kernel⟩
theorem wd_1605 : zL (Cond.methodLink "PathTrustModel" 309 ⟨"PathTrustModel","numberBehind","(Ljava/lang/String;II)I"⟩) := ⟨List.mem_of_getElem? (i := 1605) (by decide +kernel), by decide +kernel⟩
theorem wd_1607 : zL (Cond.instanceMethod ⟨"PathTrustModel","numberBehind","(Ljava/lang/String;II)I"⟩) := ⟨List.mem_of_getElem? (i := 1607) (by decide +kernel), by decide +kernel⟩
theorem wd_1608 : zL (Cond.code ⟨"PathTrustModel","numberBehind","(Ljava/lang/String;II)I"⟩ prog_10_method_69_code 4 (Option.some FieldType.int)) := ⟨List.mem_of_getElem? (i := 1608) (by decide +kernel), by decide +kernel⟩
theorem wd_1609 : zL (Cond.methodLink "PathTrustModel" 277 ⟨"PathTrustModel","number","(II)I"⟩) := ⟨List.mem_of_getElem? (i := 1609) (by decide +kernel), by decide +kernel⟩
theorem wd_1611 : zL (Cond.instanceMethod ⟨"PathTrustModel","number","(II)I"⟩) := ⟨List.mem_of_getElem? (i := 1611) (by decide +kernel), by decide +kernel⟩
theorem wd_1612 : zL (Cond.code ⟨"PathTrustModel","number","(II)I"⟩ prog_10_method_68_code 4 (Option.some FieldType.int)) := ⟨List.mem_of_getElem? (i := 1612) (by decide +kernel), by decide +kernel⟩
theorem wd_1617 : zL (Cond.methodLink "PathTrustModel" 335 ⟨"PathTrustModel","semicolon","()V"⟩) := ⟨List.mem_of_getElem? (i := 1617) (by decide +kernel), by decide +kernel⟩
theorem wd_1619 : zL (Cond.instanceMethod ⟨"PathTrustModel","semicolon","()V"⟩) := ⟨List.mem_of_getElem? (i := 1619) (by decide +kernel), by decide +kernel⟩
theorem wd_1620 : zL (Cond.code ⟨"PathTrustModel","semicolon","()V"⟩ prog_10_method_70_code 1 (Option.none : Option FieldType)) := ⟨List.mem_of_getElem? (i := 1620) (by decide +kernel), by decide +kernel⟩
theorem wd_1621 : zL (Cond.methodLink "PathTrustModel" 341 ⟨"PathTrustModel","parseStatement","()V"⟩) := ⟨List.mem_of_getElem? (i := 1621) (by decide +kernel), by decide +kernel⟩
theorem wd_1623 : zL (Cond.instanceMethod ⟨"PathTrustModel","parseStatement","()V"⟩) := ⟨List.mem_of_getElem? (i := 1623) (by decide +kernel), by decide +kernel⟩
theorem wd_1624 : zL (Cond.code ⟨"PathTrustModel","parseStatement","()V"⟩ prog_10_method_80_code 1 (Option.none : Option FieldType)) := ⟨List.mem_of_getElem? (i := 1624) (by decide +kernel), by decide +kernel⟩
theorem wd_1626 : zL (Cond.methodLink "PathTrustModel" 326 ⟨"PathTrustModel","parseNew","(II)V"⟩) := ⟨List.mem_of_getElem? (i := 1626) (by decide +kernel), by decide +kernel⟩
theorem wd_1628 : zL (Cond.instanceMethod ⟨"PathTrustModel","parseNew","(II)V"⟩) := ⟨List.mem_of_getElem? (i := 1628) (by decide +kernel), by decide +kernel⟩
theorem wd_1629 : zL (Cond.code ⟨"PathTrustModel","parseNew","(II)V"⟩ prog_10_method_76_code 4 (Option.none : Option FieldType)) := ⟨List.mem_of_getElem? (i := 1629) (by decide +kernel), by decide +kernel⟩
theorem wd_1630 : zL (Cond.methodLink "PathTrustModel" 313 ⟨"PathTrustModel","nameHere","()I"⟩) := ⟨List.mem_of_getElem? (i := 1630) (by decide +kernel), by decide +kernel⟩
theorem wd_1632 : zL (Cond.instanceMethod ⟨"PathTrustModel","nameHere","()I"⟩) := ⟨List.mem_of_getElem? (i := 1632) (by decide +kernel), by decide +kernel⟩
theorem wd_1633 : zL (Cond.code ⟨"PathTrustModel","nameHere","()I"⟩ prog_10_method_73_code 1 (Option.some FieldType.int)) := ⟨List.mem_of_getElem? (i := 1633) (by decide +kernel), by decide +kernel⟩
theorem wd_1634 : zL (Cond.methodLink "PathTrustModel" 302 ⟨"PathTrustModel","isKeyword","()Z"⟩) := ⟨List.mem_of_getElem? (i := 1634) (by decide +kernel), by decide +kernel⟩
theorem wd_1636 : zL (Cond.instanceMethod ⟨"PathTrustModel","isKeyword","()Z"⟩) := ⟨List.mem_of_getElem? (i := 1636) (by decide +kernel), by decide +kernel⟩
theorem wd_1637 : zL (Cond.code ⟨"PathTrustModel","isKeyword","()Z"⟩ prog_10_method_71_code 2 (Option.some FieldType.boolean)) := ⟨List.mem_of_getElem? (i := 1637) (by decide +kernel), by decide +kernel⟩
theorem wd_1642 : zL (Cond.methodLink "PathTrustModel" 305 ⟨"PathTrustModel","nameOf","([BII)I"⟩) := ⟨List.mem_of_getElem? (i := 1642) (by decide +kernel), by decide +kernel⟩
theorem wd_1643 : zL (Cond.static ⟨"PathTrustModel","nameOf","([BII)I"⟩) := ⟨List.mem_of_getElem? (i := 1643) (by decide +kernel), by decide +kernel⟩
theorem wd_1644 : zL (Cond.code ⟨"PathTrustModel","nameOf","([BII)I"⟩ prog_10_method_72_code 5 (Option.some FieldType.int)) := ⟨List.mem_of_getElem? (i := 1644) (by decide +kernel), by decide +kernel⟩
theorem wd_1645 : zL (Cond.methodLink "PathTrustModel" 316 ⟨"PathTrustModel","withName","(III)I"⟩) := ⟨List.mem_of_getElem? (i := 1645) (by decide +kernel), by decide +kernel⟩
theorem wd_1647 : zL (Cond.instanceMethod ⟨"PathTrustModel","withName","(III)I"⟩) := ⟨List.mem_of_getElem? (i := 1647) (by decide +kernel), by decide +kernel⟩
theorem wd_1648 : zL (Cond.code ⟨"PathTrustModel","withName","(III)I"⟩ prog_10_method_74_code 5 (Option.some FieldType.int)) := ⟨List.mem_of_getElem? (i := 1648) (by decide +kernel), by decide +kernel⟩
theorem wd_1649 : zL (Cond.methodLink "PathTrustModel" 329 ⟨"PathTrustModel","parseLink","()V"⟩) := ⟨List.mem_of_getElem? (i := 1649) (by decide +kernel), by decide +kernel⟩
theorem wd_1651 : zL (Cond.instanceMethod ⟨"PathTrustModel","parseLink","()V"⟩) := ⟨List.mem_of_getElem? (i := 1651) (by decide +kernel), by decide +kernel⟩
theorem wd_1652 : zL (Cond.code ⟨"PathTrustModel","parseLink","()V"⟩ prog_10_method_78_code 4 (Option.none : Option FieldType)) := ⟨List.mem_of_getElem? (i := 1652) (by decide +kernel), by decide +kernel⟩
theorem wd_1653 : zL (Cond.methodLink "PathTrustModel" 319 ⟨"PathTrustModel","told","(II)I"⟩) := ⟨List.mem_of_getElem? (i := 1653) (by decide +kernel), by decide +kernel⟩
theorem wd_1655 : zL (Cond.instanceMethod ⟨"PathTrustModel","told","(II)I"⟩) := ⟨List.mem_of_getElem? (i := 1655) (by decide +kernel), by decide +kernel⟩
theorem wd_1656 : zL (Cond.code ⟨"PathTrustModel","told","(II)I"⟩ prog_10_method_77_code 5 (Option.some FieldType.int)) := ⟨List.mem_of_getElem? (i := 1656) (by decide +kernel), by decide +kernel⟩
theorem wd_1657 : zL (Cond.methodLink "PathTrustModel" 131 ⟨"PathTrustModel","areLinked","(II)Z"⟩) := ⟨List.mem_of_getElem? (i := 1657) (by decide +kernel), by decide +kernel⟩
theorem wd_1659 : zL (Cond.instanceMethod ⟨"PathTrustModel","areLinked","(II)Z"⟩) := ⟨List.mem_of_getElem? (i := 1659) (by decide +kernel), by decide +kernel⟩
theorem wd_1660 : zL (Cond.code ⟨"PathTrustModel","areLinked","(II)Z"⟩ prog_10_method_15_code 3 (Option.some FieldType.boolean)) := ⟨List.mem_of_getElem? (i := 1660) (by decide +kernel), by decide +kernel⟩
theorem wd_1661 : zL (Cond.methodLink "PathTrustModel" 77 ⟨"PathTrustModel","trustOf","(II)I"⟩) := ⟨List.mem_of_getElem? (i := 1661) (by decide +kernel), by decide +kernel⟩
theorem wd_1663 : zL (Cond.instanceMethod ⟨"PathTrustModel","trustOf","(II)I"⟩) := ⟨List.mem_of_getElem? (i := 1663) (by decide +kernel), by decide +kernel⟩
theorem wd_1664 : zL (Cond.code ⟨"PathTrustModel","trustOf","(II)I"⟩ prog_10_method_13_code 3 (Option.some FieldType.int)) := ⟨List.mem_of_getElem? (i := 1664) (by decide +kernel), by decide +kernel⟩
theorem wd_1665 : zL (Cond.methodLink "PathTrustModel" 139 ⟨"PathTrustModel","putTrust","(III)V"⟩) := ⟨List.mem_of_getElem? (i := 1665) (by decide +kernel), by decide +kernel⟩
theorem wd_1667 : zL (Cond.instanceMethod ⟨"PathTrustModel","putTrust","(III)V"⟩) := ⟨List.mem_of_getElem? (i := 1667) (by decide +kernel), by decide +kernel⟩
theorem wd_1668 : zL (Cond.code ⟨"PathTrustModel","putTrust","(III)V"⟩ prog_10_method_14_code 4 (Option.none : Option FieldType)) := ⟨List.mem_of_getElem? (i := 1668) (by decide +kernel), by decide +kernel⟩
theorem wd_1669 : zL (Cond.methodLink "PathTrustModel" 332 ⟨"PathTrustModel","parseProbe","()V"⟩) := ⟨List.mem_of_getElem? (i := 1669) (by decide +kernel), by decide +kernel⟩
theorem wd_1671 : zL (Cond.instanceMethod ⟨"PathTrustModel","parseProbe","()V"⟩) := ⟨List.mem_of_getElem? (i := 1671) (by decide +kernel), by decide +kernel⟩
theorem wd_1672 : zL (Cond.code ⟨"PathTrustModel","parseProbe","()V"⟩ prog_10_method_79_code 6 (Option.none : Option FieldType)) := ⟨List.mem_of_getElem? (i := 1672) (by decide +kernel), by decide +kernel⟩
theorem wd_1673 : zL (Cond.methodLink "PathTrustModel" 322 ⟨"PathTrustModel","doProbe","(IIII)I"⟩) := ⟨List.mem_of_getElem? (i := 1673) (by decide +kernel), by decide +kernel⟩
theorem wd_1675 : zL (Cond.instanceMethod ⟨"PathTrustModel","doProbe","(IIII)I"⟩) := ⟨List.mem_of_getElem? (i := 1675) (by decide +kernel), by decide +kernel⟩
theorem wd_1676 : zL (Cond.code ⟨"PathTrustModel","doProbe","(IIII)I"⟩ prog_10_method_35_code 8 (Option.some FieldType.int)) := ⟨List.mem_of_getElem? (i := 1676) (by decide +kernel), by decide +kernel⟩
theorem wd_1677 : zL (Cond.methodLink "PathTrustModel" 150 ⟨"PathTrustModel","comes","(IIIIIII)I"⟩) := ⟨List.mem_of_getElem? (i := 1677) (by decide +kernel), by decide +kernel⟩
theorem wd_1679 : zL (Cond.instanceMethod ⟨"PathTrustModel","comes","(IIIIIII)I"⟩) := ⟨List.mem_of_getElem? (i := 1679) (by decide +kernel), by decide +kernel⟩
theorem wd_1680 : zL (Cond.code ⟨"PathTrustModel","comes","(IIIIIII)I"⟩ prog_10_method_34_code 11 (Option.some FieldType.int)) := ⟨List.mem_of_getElem? (i := 1680) (by decide +kernel), by decide +kernel⟩
theorem wd_1681 : zL (Cond.methodLink "PathTrustModel" 99 ⟨"PathTrustModel","reportOf","(III)I"⟩) := ⟨List.mem_of_getElem? (i := 1681) (by decide +kernel), by decide +kernel⟩
theorem wd_1683 : zL (Cond.instanceMethod ⟨"PathTrustModel","reportOf","(III)I"⟩) := ⟨List.mem_of_getElem? (i := 1683) (by decide +kernel), by decide +kernel⟩
theorem wd_1684 : zL (Cond.code ⟨"PathTrustModel","reportOf","(III)I"⟩ prog_10_method_22_code 5 (Option.some FieldType.int)) := ⟨List.mem_of_getElem? (i := 1684) (by decide +kernel), by decide +kernel⟩
theorem wd_1685 : zL (Cond.methodLink "PathTrustModel" 92 ⟨"PathTrustModel","manyOf","(I)I"⟩) := ⟨List.mem_of_getElem? (i := 1685) (by decide +kernel), by decide +kernel⟩
theorem wd_1687 : zL (Cond.instanceMethod ⟨"PathTrustModel","manyOf","(I)I"⟩) := ⟨List.mem_of_getElem? (i := 1687) (by decide +kernel), by decide +kernel⟩
theorem wd_1688 : zL (Cond.code ⟨"PathTrustModel","manyOf","(I)I"⟩ prog_10_method_17_code 2 (Option.some FieldType.int)) := ⟨List.mem_of_getElem? (i := 1688) (by decide +kernel), by decide +kernel⟩
theorem wd_1689 : zL (Cond.methodLink "PathTrustModel" 81 ⟨"PathTrustModel","listAt","(I)I"⟩) := ⟨List.mem_of_getElem? (i := 1689) (by decide +kernel), by decide +kernel⟩
theorem wd_1690 : zL (Cond.static ⟨"PathTrustModel","listAt","(I)I"⟩) := ⟨List.mem_of_getElem? (i := 1690) (by decide +kernel), by decide +kernel⟩
theorem wd_1691 : zL (Cond.code ⟨"PathTrustModel","listAt","(I)I"⟩ prog_10_method_16_code 1 (Option.some FieldType.int)) := ⟨List.mem_of_getElem? (i := 1691) (by decide +kernel), by decide +kernel⟩
theorem wd_1692 : zL (Cond.methodLink "PathTrustModel" 95 ⟨"PathTrustModel","ofReport","(III)I"⟩) := ⟨List.mem_of_getElem? (i := 1692) (by decide +kernel), by decide +kernel⟩
theorem wd_1694 : zL (Cond.instanceMethod ⟨"PathTrustModel","ofReport","(III)I"⟩) := ⟨List.mem_of_getElem? (i := 1694) (by decide +kernel), by decide +kernel⟩
theorem wd_1695 : zL (Cond.code ⟨"PathTrustModel","ofReport","(III)I"⟩ prog_10_method_19_code 4 (Option.some FieldType.int)) := ⟨List.mem_of_getElem? (i := 1695) (by decide +kernel), by decide +kernel⟩
theorem wd_1696 : zL (Cond.methodLink "PathTrustModel" 85 ⟨"PathTrustModel","reportAt","(II)I"⟩) := ⟨List.mem_of_getElem? (i := 1696) (by decide +kernel), by decide +kernel⟩
theorem wd_1697 : zL (Cond.static ⟨"PathTrustModel","reportAt","(II)I"⟩) := ⟨List.mem_of_getElem? (i := 1697) (by decide +kernel), by decide +kernel⟩
theorem wd_1698 : zL (Cond.code ⟨"PathTrustModel","reportAt","(II)I"⟩ prog_10_method_18_code 2 (Option.some FieldType.int)) := ⟨List.mem_of_getElem? (i := 1698) (by decide +kernel), by decide +kernel⟩
theorem wd_1699 : zL (Cond.methodLink "PathTrustModel" 147 ⟨"PathTrustModel","dropReport","(II)V"⟩) := ⟨List.mem_of_getElem? (i := 1699) (by decide +kernel), by decide +kernel⟩
theorem wd_1701 : zL (Cond.instanceMethod ⟨"PathTrustModel","dropReport","(II)V"⟩) := ⟨List.mem_of_getElem? (i := 1701) (by decide +kernel), by decide +kernel⟩
theorem wd_1702 : zL (Cond.code ⟨"PathTrustModel","dropReport","(II)V"⟩ prog_10_method_25_code 4 (Option.none : Option FieldType)) := ⟨List.mem_of_getElem? (i := 1702) (by decide +kernel), by decide +kernel⟩
theorem wd_1703 : zL (Cond.methodLink "PathTrustModel" 143 ⟨"PathTrustModel","count","(II)V"⟩) := ⟨List.mem_of_getElem? (i := 1703) (by decide +kernel), by decide +kernel⟩
theorem wd_1705 : zL (Cond.instanceMethod ⟨"PathTrustModel","count","(II)V"⟩) := ⟨List.mem_of_getElem? (i := 1705) (by decide +kernel), by decide +kernel⟩
theorem wd_1706 : zL (Cond.code ⟨"PathTrustModel","count","(II)V"⟩ prog_10_method_21_code 3 (Option.none : Option FieldType)) := ⟨List.mem_of_getElem? (i := 1706) (by decide +kernel), by decide +kernel⟩
theorem wd_1707 : zL (Cond.methodLink "PathTrustModel" 154 ⟨"PathTrustModel","judges","(III)Z"⟩) := ⟨List.mem_of_getElem? (i := 1707) (by decide +kernel), by decide +kernel⟩
theorem wd_1709 : zL (Cond.instanceMethod ⟨"PathTrustModel","judges","(III)Z"⟩) := ⟨List.mem_of_getElem? (i := 1709) (by decide +kernel), by decide +kernel⟩
theorem wd_1710 : zL (Cond.code ⟨"PathTrustModel","judges","(III)Z"⟩ prog_10_method_33_code 6 (Option.some FieldType.boolean)) := ⟨List.mem_of_getElem? (i := 1710) (by decide +kernel), by decide +kernel⟩
theorem wd_1711 : zL (Cond.methodLink "PathTrustModel" 135 ⟨"PathTrustModel","doMeet","(III)Z"⟩) := ⟨List.mem_of_getElem? (i := 1711) (by decide +kernel), by decide +kernel⟩
theorem wd_1713 : zL (Cond.instanceMethod ⟨"PathTrustModel","doMeet","(III)Z"⟩) := ⟨List.mem_of_getElem? (i := 1713) (by decide +kernel), by decide +kernel⟩
theorem wd_1714 : zL (Cond.code ⟨"PathTrustModel","doMeet","(III)Z"⟩ prog_10_method_32_code 5 (Option.some FieldType.boolean)) := ⟨List.mem_of_getElem? (i := 1714) (by decide +kernel), by decide +kernel⟩
theorem wd_1715 : zL (Cond.methodLink "PathTrustModel" 122 ⟨"PathTrustModel","driftOf","(II)I"⟩) := ⟨List.mem_of_getElem? (i := 1715) (by decide +kernel), by decide +kernel⟩
theorem wd_1717 : zL (Cond.instanceMethod ⟨"PathTrustModel","driftOf","(II)I"⟩) := ⟨List.mem_of_getElem? (i := 1717) (by decide +kernel), by decide +kernel⟩
theorem wd_1718 : zL (Cond.code ⟨"PathTrustModel","driftOf","(II)I"⟩ prog_10_method_29_code 3 (Option.some FieldType.int)) := ⟨List.mem_of_getElem? (i := 1718) (by decide +kernel), by decide +kernel⟩
theorem wd_1719 : zL (Cond.methodLink "PathTrustModel" 110 ⟨"PathTrustModel","rule","(I)I"⟩) := ⟨List.mem_of_getElem? (i := 1719) (by decide +kernel), by decide +kernel⟩
theorem wd_1721 : zL (Cond.instanceMethod ⟨"PathTrustModel","rule","(I)I"⟩) := ⟨List.mem_of_getElem? (i := 1721) (by decide +kernel), by decide +kernel⟩
theorem wd_1722 : zL (Cond.code ⟨"PathTrustModel","rule","(I)I"⟩ prog_10_method_10_code 2 (Option.some FieldType.int)) := ⟨List.mem_of_getElem? (i := 1722) (by decide +kernel), by decide +kernel⟩
theorem wd_1723 : zL (Cond.methodLink "PathTrustModel" 113 ⟨"PathTrustModel","ageAt","(I)I"⟩) := ⟨List.mem_of_getElem? (i := 1723) (by decide +kernel), by decide +kernel⟩
theorem wd_1725 : zL (Cond.instanceMethod ⟨"PathTrustModel","ageAt","(I)I"⟩) := ⟨List.mem_of_getElem? (i := 1725) (by decide +kernel), by decide +kernel⟩
theorem wd_1726 : zL (Cond.code ⟨"PathTrustModel","ageAt","(I)I"⟩ prog_10_method_26_code 2 (Option.some FieldType.int)) := ⟨List.mem_of_getElem? (i := 1726) (by decide +kernel), by decide +kernel⟩
theorem wd_1727 : zL (Cond.methodLink "PathTrustModel" 125 ⟨"PathTrustModel","lowBy","(III)I"⟩) := ⟨List.mem_of_getElem? (i := 1727) (by decide +kernel), by decide +kernel⟩
theorem wd_1729 : zL (Cond.instanceMethod ⟨"PathTrustModel","lowBy","(III)I"⟩) := ⟨List.mem_of_getElem? (i := 1729) (by decide +kernel), by decide +kernel⟩
theorem wd_1730 : zL (Cond.code ⟨"PathTrustModel","lowBy","(III)I"⟩ prog_10_method_30_code 4 (Option.some FieldType.int)) := ⟨List.mem_of_getElem? (i := 1730) (by decide +kernel), by decide +kernel⟩
theorem wd_1731 : zL (Cond.methodLink "PathTrustModel" 116 ⟨"PathTrustModel","lower","(II)I"⟩) := ⟨List.mem_of_getElem? (i := 1731) (by decide +kernel), by decide +kernel⟩
theorem wd_1732 : zL (Cond.static ⟨"PathTrustModel","lower","(II)I"⟩) := ⟨List.mem_of_getElem? (i := 1732) (by decide +kernel), by decide +kernel⟩
theorem wd_1733 : zL (Cond.code ⟨"PathTrustModel","lower","(II)I"⟩ prog_10_method_27_code 2 (Option.some FieldType.int)) := ⟨List.mem_of_getElem? (i := 1733) (by decide +kernel), by decide +kernel⟩
theorem wd_1734 : zL (Cond.methodLink "PathTrustModel" 102 ⟨"java/lang/Math","max","(II)I"⟩) := ⟨List.mem_of_getElem? (i := 1734) (by decide +kernel), by decide +kernel⟩
theorem wd_1735 : zL (Cond.methodLink "PathTrustModel" 128 ⟨"PathTrustModel","topBy","(III)I"⟩) := ⟨List.mem_of_getElem? (i := 1735) (by decide +kernel), by decide +kernel⟩
theorem wd_1737 : zL (Cond.instanceMethod ⟨"PathTrustModel","topBy","(III)I"⟩) := ⟨List.mem_of_getElem? (i := 1737) (by decide +kernel), by decide +kernel⟩
theorem wd_1738 : zL (Cond.code ⟨"PathTrustModel","topBy","(III)I"⟩ prog_10_method_31_code 4 (Option.some FieldType.int)) := ⟨List.mem_of_getElem? (i := 1738) (by decide +kernel), by decide +kernel⟩
theorem wd_1739 : zL (Cond.methodLink "PathTrustModel" 119 ⟨"PathTrustModel","higher","(II)I"⟩) := ⟨List.mem_of_getElem? (i := 1739) (by decide +kernel), by decide +kernel⟩
theorem wd_1740 : zL (Cond.static ⟨"PathTrustModel","higher","(II)I"⟩) := ⟨List.mem_of_getElem? (i := 1740) (by decide +kernel), by decide +kernel⟩
theorem wd_1741 : zL (Cond.code ⟨"PathTrustModel","higher","(II)I"⟩ prog_10_method_28_code 2 (Option.some FieldType.int)) := ⟨List.mem_of_getElem? (i := 1741) (by decide +kernel), by decide +kernel⟩
theorem wd_1742 : zL (Cond.methodLink "PathTrustModel" 344 ⟨"PathTrustModel","remember","()V"⟩) := ⟨List.mem_of_getElem? (i := 1742) (by decide +kernel), by decide +kernel⟩
theorem wd_1744 : zL (Cond.instanceMethod ⟨"PathTrustModel","remember","()V"⟩) := ⟨List.mem_of_getElem? (i := 1744) (by decide +kernel), by decide +kernel⟩
theorem wd_1745 : zL (Cond.code ⟨"PathTrustModel","remember","()V"⟩ prog_10_method_153_code 2 (Option.none : Option FieldType)) := ⟨List.mem_of_getElem? (i := 1745) (by decide +kernel), by decide +kernel⟩
theorem wd_1746 : zL (Cond.methodLink "PathTrustModel" 66 ⟨"PathTrustModel","agents","()I"⟩) := ⟨List.mem_of_getElem? (i := 1746) (by decide +kernel), by decide +kernel⟩
theorem wd_1748 : zL (Cond.instanceMethod ⟨"PathTrustModel","agents","()I"⟩) := ⟨List.mem_of_getElem? (i := 1748) (by decide +kernel), by decide +kernel⟩
theorem wd_1749 : zL (Cond.code ⟨"PathTrustModel","agents","()I"⟩ prog_10_method_8_code 1 (Option.some FieldType.int)) := ⟨List.mem_of_getElem? (i := 1749) (by decide +kernel), by decide +kernel⟩
theorem wd_1762 : zL (Cond.methodLink "PathTrustModel" 349 ⟨"PathTrustModel","found","(II)I"⟩) := ⟨List.mem_of_getElem? (i := 1762) (by decide +kernel), by decide +kernel⟩
theorem wd_1764 : zL (Cond.instanceMethod ⟨"PathTrustModel","found","(II)I"⟩) := ⟨List.mem_of_getElem? (i := 1764) (by decide +kernel), by decide +kernel⟩
theorem wd_1765 : zL (Cond.code ⟨"PathTrustModel","found","(II)I"⟩ prog_10_method_84_code 5 (Option.some FieldType.int)) := ⟨List.mem_of_getElem? (i := 1765) (by decide +kernel), by decide +kernel⟩
theorem wd_1766 : zL (Cond.constantLong "PathTrustModel" 347 (6 : Int64)) := ⟨List.mem_of_getElem? (i := 1766) (by decide +kernel), by decide +kernel⟩
theorem wd_1771 : zL (Cond.methodLink "PathTrustModel" 74 ⟨"PathTrustModel","ways","()I"⟩) := ⟨List.mem_of_getElem? (i := 1771) (by decide +kernel), by decide +kernel⟩
theorem wd_1773 : zL (Cond.instanceMethod ⟨"PathTrustModel","ways","()I"⟩) := ⟨List.mem_of_getElem? (i := 1773) (by decide +kernel), by decide +kernel⟩
theorem wd_1774 : zL (Cond.code ⟨"PathTrustModel","ways","()I"⟩ prog_10_method_9_code 1 (Option.some FieldType.int)) := ⟨List.mem_of_getElem? (i := 1774) (by decide +kernel), by decide +kernel⟩
theorem wd_1779 : zL (Cond.constantLong "PathTrustModel" 358 (9 : Int64)) := ⟨List.mem_of_getElem? (i := 1779) (by decide +kernel), by decide +kernel⟩
theorem wd_1780 : zL (Cond.methodLink "PathTrustModel" 160 ⟨"PathTrustModel","queued","()I"⟩) := ⟨List.mem_of_getElem? (i := 1780) (by decide +kernel), by decide +kernel⟩
theorem wd_1782 : zL (Cond.instanceMethod ⟨"PathTrustModel","queued","()I"⟩) := ⟨List.mem_of_getElem? (i := 1782) (by decide +kernel), by decide +kernel⟩
theorem wd_1783 : zL (Cond.code ⟨"PathTrustModel","queued","()I"⟩ prog_10_method_36_code 1 (Option.some FieldType.int)) := ⟨List.mem_of_getElem? (i := 1783) (by decide +kernel), by decide +kernel⟩
theorem wd_1784 : zL (Cond.methodLink "PathTrustModel" 360 ⟨"PathTrustModel","links","()I"⟩) := ⟨List.mem_of_getElem? (i := 1784) (by decide +kernel), by decide +kernel⟩
theorem wd_1786 : zL (Cond.instanceMethod ⟨"PathTrustModel","links","()I"⟩) := ⟨List.mem_of_getElem? (i := 1786) (by decide +kernel), by decide +kernel⟩
theorem wd_1787 : zL (Cond.code ⟨"PathTrustModel","links","()I"⟩ prog_10_method_89_code 3 (Option.some FieldType.int)) := ⟨List.mem_of_getElem? (i := 1787) (by decide +kernel), by decide +kernel⟩
theorem wd_1788 : zL (Cond.methodLink "PathTrustModel" 352 ⟨"PathTrustModel","neighborsOf","(I)I"⟩) := ⟨List.mem_of_getElem? (i := 1788) (by decide +kernel), by decide +kernel⟩
theorem wd_1790 : zL (Cond.instanceMethod ⟨"PathTrustModel","neighborsOf","(I)I"⟩) := ⟨List.mem_of_getElem? (i := 1790) (by decide +kernel), by decide +kernel⟩
theorem wd_1791 : zL (Cond.code ⟨"PathTrustModel","neighborsOf","(I)I"⟩ prog_10_method_87_code 4 (Option.some FieldType.int)) := ⟨List.mem_of_getElem? (i := 1791) (by decide +kernel), by decide +kernel⟩
theorem wd_1792 : zL (Cond.methodLink "PathTrustModel" 355 ⟨"PathTrustModel","bits","(I)I"⟩) := ⟨List.mem_of_getElem? (i := 1792) (by decide +kernel), by decide +kernel⟩
theorem wd_1793 : zL (Cond.static ⟨"PathTrustModel","bits","(I)I"⟩) := ⟨List.mem_of_getElem? (i := 1793) (by decide +kernel), by decide +kernel⟩
theorem wd_1794 : zL (Cond.code ⟨"PathTrustModel","bits","(I)I"⟩ prog_10_method_88_code 3 (Option.some FieldType.int)) := ⟨List.mem_of_getElem? (i := 1794) (by decide +kernel), by decide +kernel⟩
theorem wd_1799 : zL (Cond.methodLink "PathTrustModel" 363 ⟨"PathTrustModel","areAgents","(II)Z"⟩) := ⟨List.mem_of_getElem? (i := 1799) (by decide +kernel), by decide +kernel⟩
theorem wd_1801 : zL (Cond.instanceMethod ⟨"PathTrustModel","areAgents","(II)Z"⟩) := ⟨List.mem_of_getElem? (i := 1801) (by decide +kernel), by decide +kernel⟩
theorem wd_1802 : zL (Cond.code ⟨"PathTrustModel","areAgents","(II)Z"⟩ prog_10_method_91_code 3 (Option.some FieldType.boolean)) := ⟨List.mem_of_getElem? (i := 1802) (by decide +kernel), by decide +kernel⟩
theorem wd_1803 : zL (Cond.methodLink "PathTrustModel" 88 ⟨"PathTrustModel","isAgent","(I)Z"⟩) := ⟨List.mem_of_getElem? (i := 1803) (by decide +kernel), by decide +kernel⟩
theorem wd_1805 : zL (Cond.instanceMethod ⟨"PathTrustModel","isAgent","(I)Z"⟩) := ⟨List.mem_of_getElem? (i := 1805) (by decide +kernel), by decide +kernel⟩
theorem wd_1806 : zL (Cond.code ⟨"PathTrustModel","isAgent","(I)Z"⟩ prog_10_method_11_code 2 (Option.some FieldType.boolean)) := ⟨List.mem_of_getElem? (i := 1806) (by decide +kernel), by decide +kernel⟩
theorem wd_1827 : zL (Cond.constantLong "PathTrustModel" 366 (4 : Int64)) := ⟨List.mem_of_getElem? (i := 1827) (by decide +kernel), by decide +kernel⟩
theorem wd_1828 : zL (Cond.methodLink "PathTrustModel" 368 ⟨"PathTrustModel","passes2","(ZZ)Z"⟩) := ⟨List.mem_of_getElem? (i := 1828) (by decide +kernel), by decide +kernel⟩
theorem wd_1830 : zL (Cond.instanceMethod ⟨"PathTrustModel","passes2","(ZZ)Z"⟩) := ⟨List.mem_of_getElem? (i := 1830) (by decide +kernel), by decide +kernel⟩
theorem wd_1831 : zL (Cond.code ⟨"PathTrustModel","passes2","(ZZ)Z"⟩ prog_10_method_4_code 3 (Option.some FieldType.boolean)) := ⟨List.mem_of_getElem? (i := 1831) (by decide +kernel), by decide +kernel⟩
theorem wd_1840 : zL (Cond.methodLink "PathTrustModel" 372 ⟨"PathTrustModel","isReport","(II)Z"⟩) := ⟨List.mem_of_getElem? (i := 1840) (by decide +kernel), by decide +kernel⟩
theorem wd_1842 : zL (Cond.instanceMethod ⟨"PathTrustModel","isReport","(II)Z"⟩) := ⟨List.mem_of_getElem? (i := 1842) (by decide +kernel), by decide +kernel⟩
theorem wd_1843 : zL (Cond.code ⟨"PathTrustModel","isReport","(II)Z"⟩ prog_10_method_20_code 3 (Option.some FieldType.boolean)) := ⟨List.mem_of_getElem? (i := 1843) (by decide +kernel), by decide +kernel⟩
theorem wd_1848 : zL (Cond.methodLink "PathTrustModel" 375 ⟨"PathTrustModel","statusAt","(II)I"⟩) := ⟨List.mem_of_getElem? (i := 1848) (by decide +kernel), by decide +kernel⟩
theorem wd_1850 : zL (Cond.instanceMethod ⟨"PathTrustModel","statusAt","(II)I"⟩) := ⟨List.mem_of_getElem? (i := 1850) (by decide +kernel), by decide +kernel⟩
theorem wd_1851 : zL (Cond.code ⟨"PathTrustModel","statusAt","(II)I"⟩ prog_10_method_100_code 3 (Option.some FieldType.int)) := ⟨List.mem_of_getElem? (i := 1851) (by decide +kernel), by decide +kernel⟩
theorem wd_1852 : zL (Cond.methodLink "PathTrustModel" 203 ⟨"PathTrustModel","layBelief","(II)V"⟩) := ⟨List.mem_of_getElem? (i := 1852) (by decide +kernel), by decide +kernel⟩
theorem wd_1854 : zL (Cond.instanceMethod ⟨"PathTrustModel","layBelief","(II)V"⟩) := ⟨List.mem_of_getElem? (i := 1854) (by decide +kernel), by decide +kernel⟩
theorem wd_1855 : zL (Cond.code ⟨"PathTrustModel","layBelief","(II)V"⟩ prog_10_method_51_code 6 (Option.none : Option FieldType)) := ⟨List.mem_of_getElem? (i := 1855) (by decide +kernel), by decide +kernel⟩
theorem wd_1856 : zL (Cond.methodLink "PathTrustModel" 194 ⟨"PathTrustModel","isOut","(II)Z"⟩) := ⟨List.mem_of_getElem? (i := 1856) (by decide +kernel), by decide +kernel⟩
theorem wd_1858 : zL (Cond.instanceMethod ⟨"PathTrustModel","isOut","(II)Z"⟩) := ⟨List.mem_of_getElem? (i := 1858) (by decide +kernel), by decide +kernel⟩
theorem wd_1859 : zL (Cond.code ⟨"PathTrustModel","isOut","(II)Z"⟩ prog_10_method_47_code 3 (Option.some FieldType.boolean)) := ⟨List.mem_of_getElem? (i := 1859) (by decide +kernel), by decide +kernel⟩
theorem wd_1860 : zL (Cond.methodLink "PathTrustModel" 179 ⟨"PathTrustModel","isOwn","(II)Z"⟩) := ⟨List.mem_of_getElem? (i := 1860) (by decide +kernel), by decide +kernel⟩
theorem wd_1862 : zL (Cond.instanceMethod ⟨"PathTrustModel","isOwn","(II)Z"⟩) := ⟨List.mem_of_getElem? (i := 1862) (by decide +kernel), by decide +kernel⟩
theorem wd_1863 : zL (Cond.code ⟨"PathTrustModel","isOwn","(II)Z"⟩ prog_10_method_24_code 3 (Option.some FieldType.boolean)) := ⟨List.mem_of_getElem? (i := 1863) (by decide +kernel), by decide +kernel⟩
theorem wd_1864 : zL (Cond.methodLink "PathTrustModel" 182 ⟨"PathTrustModel","trustInVia","(II)I"⟩) := ⟨List.mem_of_getElem? (i := 1864) (by decide +kernel), by decide +kernel⟩
theorem wd_1866 : zL (Cond.instanceMethod ⟨"PathTrustModel","trustInVia","(II)I"⟩) := ⟨List.mem_of_getElem? (i := 1866) (by decide +kernel), by decide +kernel⟩
theorem wd_1867 : zL (Cond.code ⟨"PathTrustModel","trustInVia","(II)I"⟩ prog_10_method_46_code 3 (Option.some FieldType.int)) := ⟨List.mem_of_getElem? (i := 1867) (by decide +kernel), by decide +kernel⟩
theorem wd_1868 : zL (Cond.methodLink "PathTrustModel" 197 ⟨"PathTrustModel","nextReport","(I)I"⟩) := ⟨List.mem_of_getElem? (i := 1868) (by decide +kernel), by decide +kernel⟩
theorem wd_1870 : zL (Cond.instanceMethod ⟨"PathTrustModel","nextReport","(I)I"⟩) := ⟨List.mem_of_getElem? (i := 1870) (by decide +kernel), by decide +kernel⟩
theorem wd_1871 : zL (Cond.code ⟨"PathTrustModel","nextReport","(I)I"⟩ prog_10_method_50_code 4 (Option.some FieldType.int)) := ⟨List.mem_of_getElem? (i := 1871) (by decide +kernel), by decide +kernel⟩
theorem wd_1872 : zL (Cond.methodLink "PathTrustModel" 185 ⟨"PathTrustModel","isAhead","(III)Z"⟩) := ⟨List.mem_of_getElem? (i := 1872) (by decide +kernel), by decide +kernel⟩
theorem wd_1874 : zL (Cond.instanceMethod ⟨"PathTrustModel","isAhead","(III)Z"⟩) := ⟨List.mem_of_getElem? (i := 1874) (by decide +kernel), by decide +kernel⟩
theorem wd_1875 : zL (Cond.code ⟨"PathTrustModel","isAhead","(III)Z"⟩ prog_10_method_49_code 6 (Option.some FieldType.boolean)) := ⟨List.mem_of_getElem? (i := 1875) (by decide +kernel), by decide +kernel⟩
theorem wd_1876 : zL (Cond.methodLink "PathTrustModel" 200 ⟨"PathTrustModel","movedBy","(II)I"⟩) := ⟨List.mem_of_getElem? (i := 1876) (by decide +kernel), by decide +kernel⟩
theorem wd_1878 : zL (Cond.instanceMethod ⟨"PathTrustModel","movedBy","(II)I"⟩) := ⟨List.mem_of_getElem? (i := 1878) (by decide +kernel), by decide +kernel⟩
theorem wd_1879 : zL (Cond.code ⟨"PathTrustModel","movedBy","(II)I"⟩ prog_10_method_48_code 4 (Option.some FieldType.int)) := ⟨List.mem_of_getElem? (i := 1879) (by decide +kernel), by decide +kernel⟩
theorem wd_1888 : zL (Cond.methodLink "PathTrustModel" 381 ⟨"PathTrustModel","areThere","(II)Z"⟩) := ⟨List.mem_of_getElem? (i := 1888) (by decide +kernel), by decide +kernel⟩
theorem wd_1890 : zL (Cond.instanceMethod ⟨"PathTrustModel","areThere","(II)Z"⟩) := ⟨List.mem_of_getElem? (i := 1890) (by decide +kernel), by decide +kernel⟩
theorem wd_1891 : zL (Cond.code ⟨"PathTrustModel","areThere","(II)Z"⟩ prog_10_method_103_code 3 (Option.some FieldType.boolean)) := ⟨List.mem_of_getElem? (i := 1891) (by decide +kernel), by decide +kernel⟩
theorem wd_1892 : zL (Cond.methodLink "PathTrustModel" 378 ⟨"PathTrustModel","isWay","(I)Z"⟩) := ⟨List.mem_of_getElem? (i := 1892) (by decide +kernel), by decide +kernel⟩
theorem wd_1894 : zL (Cond.instanceMethod ⟨"PathTrustModel","isWay","(I)Z"⟩) := ⟨List.mem_of_getElem? (i := 1894) (by decide +kernel), by decide +kernel⟩
theorem wd_1895 : zL (Cond.code ⟨"PathTrustModel","isWay","(I)Z"⟩ prog_10_method_12_code 2 (Option.some FieldType.boolean)) := ⟨List.mem_of_getElem? (i := 1895) (by decide +kernel), by decide +kernel⟩
theorem wd_1896 : zL (Cond.methodLink "PathTrustModel" 169 ⟨"PathTrustModel","ownOf","(II)I"⟩) := ⟨List.mem_of_getElem? (i := 1896) (by decide +kernel), by decide +kernel⟩
theorem wd_1898 : zL (Cond.instanceMethod ⟨"PathTrustModel","ownOf","(II)I"⟩) := ⟨List.mem_of_getElem? (i := 1898) (by decide +kernel), by decide +kernel⟩
theorem wd_1899 : zL (Cond.code ⟨"PathTrustModel","ownOf","(II)I"⟩ prog_10_method_23_code 3 (Option.some FieldType.int)) := ⟨List.mem_of_getElem? (i := 1899) (by decide +kernel), by decide +kernel⟩
theorem wd_1904 : zL (Cond.methodLink "PathTrustModel" 384 ⟨"PathTrustModel","boundOf","(III)I"⟩) := ⟨List.mem_of_getElem? (i := 1904) (by decide +kernel), by decide +kernel⟩
theorem wd_1906 : zL (Cond.instanceMethod ⟨"PathTrustModel","boundOf","(III)I"⟩) := ⟨List.mem_of_getElem? (i := 1906) (by decide +kernel), by decide +kernel⟩
theorem wd_1907 : zL (Cond.code ⟨"PathTrustModel","boundOf","(III)I"⟩ prog_10_method_105_code 4 (Option.some FieldType.int)) := ⟨List.mem_of_getElem? (i := 1907) (by decide +kernel), by decide +kernel⟩
theorem wd_1912 : zL (Cond.methodLink "PathTrustModel" 387 ⟨"PathTrustModel","originsWith","(III)I"⟩) := ⟨List.mem_of_getElem? (i := 1912) (by decide +kernel), by decide +kernel⟩
theorem wd_1914 : zL (Cond.instanceMethod ⟨"PathTrustModel","originsWith","(III)I"⟩) := ⟨List.mem_of_getElem? (i := 1914) (by decide +kernel), by decide +kernel⟩
theorem wd_1915 : zL (Cond.code ⟨"PathTrustModel","originsWith","(III)I"⟩ prog_10_method_56_code 6 (Option.some FieldType.int)) := ⟨List.mem_of_getElem? (i := 1915) (by decide +kernel), by decide +kernel⟩
theorem wd_1924 : zL (Cond.constantLong "PathTrustModel" 390 (2 : Int64)) := ⟨List.mem_of_getElem? (i := 1924) (by decide +kernel), by decide +kernel⟩
theorem wd_1925 : zL (Cond.methodLink "PathTrustModel" 209 ⟨"PathTrustModel","bestOf","(II)I"⟩) := ⟨List.mem_of_getElem? (i := 1925) (by decide +kernel), by decide +kernel⟩
theorem wd_1927 : zL (Cond.instanceMethod ⟨"PathTrustModel","bestOf","(II)I"⟩) := ⟨List.mem_of_getElem? (i := 1927) (by decide +kernel), by decide +kernel⟩
theorem wd_1928 : zL (Cond.code ⟨"PathTrustModel","bestOf","(II)I"⟩ prog_10_method_54_code 7 (Option.some FieldType.int)) := ⟨List.mem_of_getElem? (i := 1928) (by decide +kernel), by decide +kernel⟩
theorem wd_1929 : zL (Cond.methodLink "PathTrustModel" 206 ⟨"PathTrustModel","valueOf","(III)I"⟩) := ⟨List.mem_of_getElem? (i := 1929) (by decide +kernel), by decide +kernel⟩
theorem wd_1931 : zL (Cond.instanceMethod ⟨"PathTrustModel","valueOf","(III)I"⟩) := ⟨List.mem_of_getElem? (i := 1931) (by decide +kernel), by decide +kernel⟩
theorem wd_1932 : zL (Cond.code ⟨"PathTrustModel","valueOf","(III)I"⟩ prog_10_method_53_code 4 (Option.some FieldType.int)) := ⟨List.mem_of_getElem? (i := 1932) (by decide +kernel), by decide +kernel⟩
theorem wd_1937 : zL (Cond.methodLink "PathTrustModel" 392 ⟨"PathTrustModel","rivalsOf","(I)I"⟩) := ⟨List.mem_of_getElem? (i := 1937) (by decide +kernel), by decide +kernel⟩
theorem wd_1939 : zL (Cond.instanceMethod ⟨"PathTrustModel","rivalsOf","(I)I"⟩) := ⟨List.mem_of_getElem? (i := 1939) (by decide +kernel), by decide +kernel⟩
theorem wd_1940 : zL (Cond.code ⟨"PathTrustModel","rivalsOf","(I)I"⟩ prog_10_method_55_code 5 (Option.some FieldType.int)) := ⟨List.mem_of_getElem? (i := 1940) (by decide +kernel), by decide +kernel⟩
theorem wd_1945 : zL (Cond.methodLink "PathTrustModel" 395 ⟨"PathTrustModel","widthOf","(II)I"⟩) := ⟨List.mem_of_getElem? (i := 1945) (by decide +kernel), by decide +kernel⟩
theorem wd_1947 : zL (Cond.instanceMethod ⟨"PathTrustModel","widthOf","(II)I"⟩) := ⟨List.mem_of_getElem? (i := 1947) (by decide +kernel), by decide +kernel⟩
theorem wd_1948 : zL (Cond.code ⟨"PathTrustModel","widthOf","(II)I"⟩ prog_10_method_52_code 3 (Option.some FieldType.int)) := ⟨List.mem_of_getElem? (i := 1948) (by decide +kernel), by decide +kernel⟩
theorem wd_1965 : zL (Cond.constantLong "PathTrustModel" 398 (5 : Int64)) := ⟨List.mem_of_getElem? (i := 1965) (by decide +kernel), by decide +kernel⟩
theorem wd_1966 : zL (Cond.methodLink "PathTrustModel" 400 ⟨"PathTrustModel","isMessage","(I)Z"⟩) := ⟨List.mem_of_getElem? (i := 1966) (by decide +kernel), by decide +kernel⟩
theorem wd_1968 : zL (Cond.instanceMethod ⟨"PathTrustModel","isMessage","(I)Z"⟩) := ⟨List.mem_of_getElem? (i := 1968) (by decide +kernel), by decide +kernel⟩
theorem wd_1969 : zL (Cond.code ⟨"PathTrustModel","isMessage","(I)Z"⟩ prog_10_method_39_code 2 (Option.some FieldType.boolean)) := ⟨List.mem_of_getElem? (i := 1969) (by decide +kernel), by decide +kernel⟩
theorem wd_1970 : zL (Cond.methodLink "PathTrustModel" 163 ⟨"PathTrustModel","ofMessage","(II)I"⟩) := ⟨List.mem_of_getElem? (i := 1970) (by decide +kernel), by decide +kernel⟩
theorem wd_1972 : zL (Cond.instanceMethod ⟨"PathTrustModel","ofMessage","(II)I"⟩) := ⟨List.mem_of_getElem? (i := 1972) (by decide +kernel), by decide +kernel⟩
theorem wd_1973 : zL (Cond.code ⟨"PathTrustModel","ofMessage","(II)I"⟩ prog_10_method_38_code 3 (Option.some FieldType.int)) := ⟨List.mem_of_getElem? (i := 1973) (by decide +kernel), by decide +kernel⟩
theorem wd_1974 : zL (Cond.methodLink "PathTrustModel" 157 ⟨"PathTrustModel","messageAt","(I)I"⟩) := ⟨List.mem_of_getElem? (i := 1974) (by decide +kernel), by decide +kernel⟩
theorem wd_1975 : zL (Cond.static ⟨"PathTrustModel","messageAt","(I)I"⟩) := ⟨List.mem_of_getElem? (i := 1975) (by decide +kernel), by decide +kernel⟩
theorem wd_1976 : zL (Cond.code ⟨"PathTrustModel","messageAt","(I)I"⟩ prog_10_method_37_code 1 (Option.some FieldType.int)) := ⟨List.mem_of_getElem? (i := 1976) (by decide +kernel), by decide +kernel⟩
theorem wd_1977 : zL (Cond.methodLink "PathTrustModel" 166 ⟨"PathTrustModel","refusalOf","(I)I"⟩) := ⟨List.mem_of_getElem? (i := 1977) (by decide +kernel), by decide +kernel⟩
theorem wd_1979 : zL (Cond.instanceMethod ⟨"PathTrustModel","refusalOf","(I)I"⟩) := ⟨List.mem_of_getElem? (i := 1979) (by decide +kernel), by decide +kernel⟩
theorem wd_1980 : zL (Cond.code ⟨"PathTrustModel","refusalOf","(I)I"⟩ prog_10_method_42_code 5 (Option.some FieldType.int)) := ⟨List.mem_of_getElem? (i := 1980) (by decide +kernel), by decide +kernel⟩
theorem wd_1985 : zL (Cond.methodLink "PathTrustModel" 415 ⟨"PathTrustModel","majorityOf","(II)I"⟩) := ⟨List.mem_of_getElem? (i := 1985) (by decide +kernel), by decide +kernel⟩
theorem wd_1987 : zL (Cond.instanceMethod ⟨"PathTrustModel","majorityOf","(II)I"⟩) := ⟨List.mem_of_getElem? (i := 1987) (by decide +kernel), by decide +kernel⟩
theorem wd_1988 : zL (Cond.code ⟨"PathTrustModel","majorityOf","(II)I"⟩ prog_10_method_118_code 4 (Option.some FieldType.int)) := ⟨List.mem_of_getElem? (i := 1988) (by decide +kernel), by decide +kernel⟩
theorem wd_1989 : zL (Cond.methodLink "PathTrustModel" 412 ⟨"PathTrustModel","agreed","(II)I"⟩) := ⟨List.mem_of_getElem? (i := 1989) (by decide +kernel), by decide +kernel⟩
theorem wd_1991 : zL (Cond.instanceMethod ⟨"PathTrustModel","agreed","(II)I"⟩) := ⟨List.mem_of_getElem? (i := 1991) (by decide +kernel), by decide +kernel⟩
theorem wd_1992 : zL (Cond.code ⟨"PathTrustModel","agreed","(II)I"⟩ prog_10_method_117_code 8 (Option.some FieldType.int)) := ⟨List.mem_of_getElem? (i := 1992) (by decide +kernel), by decide +kernel⟩
theorem wd_1993 : zL (Cond.methodLink "PathTrustModel" 409 ⟨"PathTrustModel","holding","(II)I"⟩) := ⟨List.mem_of_getElem? (i := 1993) (by decide +kernel), by decide +kernel⟩
theorem wd_1995 : zL (Cond.instanceMethod ⟨"PathTrustModel","holding","(II)I"⟩) := ⟨List.mem_of_getElem? (i := 1995) (by decide +kernel), by decide +kernel⟩
theorem wd_1996 : zL (Cond.code ⟨"PathTrustModel","holding","(II)I"⟩ prog_10_method_116_code 7 (Option.some FieldType.int)) := ⟨List.mem_of_getElem? (i := 1996) (by decide +kernel), by decide +kernel⟩
theorem wd_2009 : zL (Cond.methodLink "PathTrustModel" 418 ⟨"PathTrustModel","reaches","(III)Z"⟩) := ⟨List.mem_of_getElem? (i := 2009) (by decide +kernel), by decide +kernel⟩
theorem wd_2011 : zL (Cond.instanceMethod ⟨"PathTrustModel","reaches","(III)Z"⟩) := ⟨List.mem_of_getElem? (i := 2011) (by decide +kernel), by decide +kernel⟩
theorem wd_2012 : zL (Cond.code ⟨"PathTrustModel","reaches","(III)Z"⟩ prog_10_method_122_code 9 (Option.some FieldType.boolean)) := ⟨List.mem_of_getElem? (i := 2012) (by decide +kernel), by decide +kernel⟩
theorem wd_2017 : zL (Cond.methodLink "PathTrustModel" 427 ⟨"PathTrustModel","keepAside","()V"⟩) := ⟨List.mem_of_getElem? (i := 2017) (by decide +kernel), by decide +kernel⟩
theorem wd_2019 : zL (Cond.instanceMethod ⟨"PathTrustModel","keepAside","()V"⟩) := ⟨List.mem_of_getElem? (i := 2019) (by decide +kernel), by decide +kernel⟩
theorem wd_2020 : zL (Cond.code ⟨"PathTrustModel","keepAside","()V"⟩ prog_10_method_57_code 2 (Option.none : Option FieldType)) := ⟨List.mem_of_getElem? (i := 2020) (by decide +kernel), by decide +kernel⟩
theorem wd_2021 : zL (Cond.methodLink "PathTrustModel" 430 ⟨"PathTrustModel","doRound","()I"⟩) := ⟨List.mem_of_getElem? (i := 2021) (by decide +kernel), by decide +kernel⟩
theorem wd_2023 : zL (Cond.instanceMethod ⟨"PathTrustModel","doRound","()I"⟩) := ⟨List.mem_of_getElem? (i := 2023) (by decide +kernel), by decide +kernel⟩
theorem wd_2024 : zL (Cond.code ⟨"PathTrustModel","doRound","()I"⟩ prog_10_method_124_code 3 (Option.some FieldType.int)) := ⟨List.mem_of_getElem? (i := 2024) (by decide +kernel), by decide +kernel⟩
theorem wd_2025 : zL (Cond.methodLink "PathTrustModel" 421 ⟨"PathTrustModel","doRelay","(I)I"⟩) := ⟨List.mem_of_getElem? (i := 2025) (by decide +kernel), by decide +kernel⟩
theorem wd_2027 : zL (Cond.instanceMethod ⟨"PathTrustModel","doRelay","(I)I"⟩) := ⟨List.mem_of_getElem? (i := 2027) (by decide +kernel), by decide +kernel⟩
theorem wd_2028 : zL (Cond.code ⟨"PathTrustModel","doRelay","(I)I"⟩ prog_10_method_139_code 4 (Option.some FieldType.int)) := ⟨List.mem_of_getElem? (i := 2028) (by decide +kernel), by decide +kernel⟩
theorem wd_2029 : zL (Cond.methodLink "PathTrustModel" 452 ⟨"PathTrustModel","spreads","(IIII)I"⟩) := ⟨List.mem_of_getElem? (i := 2029) (by decide +kernel), by decide +kernel⟩
theorem wd_2031 : zL (Cond.instanceMethod ⟨"PathTrustModel","spreads","(IIII)I"⟩) := ⟨List.mem_of_getElem? (i := 2031) (by decide +kernel), by decide +kernel⟩
theorem wd_2032 : zL (Cond.code ⟨"PathTrustModel","spreads","(IIII)I"⟩ prog_10_method_137_code 7 (Option.some FieldType.int)) := ⟨List.mem_of_getElem? (i := 2032) (by decide +kernel), by decide +kernel⟩
theorem wd_2033 : zL (Cond.methodLink "PathTrustModel" 449 ⟨"PathTrustModel","sends","(III)Z"⟩) := ⟨List.mem_of_getElem? (i := 2033) (by decide +kernel), by decide +kernel⟩
theorem wd_2035 : zL (Cond.instanceMethod ⟨"PathTrustModel","sends","(III)Z"⟩) := ⟨List.mem_of_getElem? (i := 2035) (by decide +kernel), by decide +kernel⟩
theorem wd_2036 : zL (Cond.code ⟨"PathTrustModel","sends","(III)Z"⟩ prog_10_method_40_code 6 (Option.some FieldType.boolean)) := ⟨List.mem_of_getElem? (i := 2036) (by decide +kernel), by decide +kernel⟩
theorem wd_2037 : zL (Cond.methodLink "PathTrustModel" 424 ⟨"PathTrustModel","deliverAll","(I)I"⟩) := ⟨List.mem_of_getElem? (i := 2037) (by decide +kernel), by decide +kernel⟩
theorem wd_2039 : zL (Cond.instanceMethod ⟨"PathTrustModel","deliverAll","(I)I"⟩) := ⟨List.mem_of_getElem? (i := 2039) (by decide +kernel), by decide +kernel⟩
theorem wd_2040 : zL (Cond.code ⟨"PathTrustModel","deliverAll","(I)I"⟩ prog_10_method_44_code 4 (Option.some FieldType.int)) := ⟨List.mem_of_getElem? (i := 2040) (by decide +kernel), by decide +kernel⟩
theorem wd_2041 : zL (Cond.methodLink "PathTrustModel" 175 ⟨"PathTrustModel","delivers","()Z"⟩) := ⟨List.mem_of_getElem? (i := 2041) (by decide +kernel), by decide +kernel⟩
theorem wd_2043 : zL (Cond.instanceMethod ⟨"PathTrustModel","delivers","()Z"⟩) := ⟨List.mem_of_getElem? (i := 2043) (by decide +kernel), by decide +kernel⟩
theorem wd_2044 : zL (Cond.code ⟨"PathTrustModel","delivers","()Z"⟩ prog_10_method_43_code 7 (Option.some FieldType.boolean)) := ⟨List.mem_of_getElem? (i := 2044) (by decide +kernel), by decide +kernel⟩
theorem wd_2045 : zL (Cond.methodLink "PathTrustModel" 172 ⟨"PathTrustModel","dropFirst","()V"⟩) := ⟨List.mem_of_getElem? (i := 2045) (by decide +kernel), by decide +kernel⟩
theorem wd_2047 : zL (Cond.instanceMethod ⟨"PathTrustModel","dropFirst","()V"⟩) := ⟨List.mem_of_getElem? (i := 2047) (by decide +kernel), by decide +kernel⟩
theorem wd_2048 : zL (Cond.code ⟨"PathTrustModel","dropFirst","()V"⟩ prog_10_method_41_code 2 (Option.none : Option FieldType)) := ⟨List.mem_of_getElem? (i := 2048) (by decide +kernel), by decide +kernel⟩
theorem wd_2049 : zL (Cond.methodLink "PathTrustModel" 433 ⟨"PathTrustModel","layBack","(I)I"⟩) := ⟨List.mem_of_getElem? (i := 2049) (by decide +kernel), by decide +kernel⟩
theorem wd_2051 : zL (Cond.instanceMethod ⟨"PathTrustModel","layBack","(I)I"⟩) := ⟨List.mem_of_getElem? (i := 2051) (by decide +kernel), by decide +kernel⟩
theorem wd_2052 : zL (Cond.code ⟨"PathTrustModel","layBack","(I)I"⟩ prog_10_method_58_code 3 (Option.some FieldType.int)) := ⟨List.mem_of_getElem? (i := 2052) (by decide +kernel), by decide +kernel⟩
theorem wd_2065 : zL (Cond.methodLink "PathTrustModel" 438 ⟨"PathTrustModel","areBounds","(II)Z"⟩) := ⟨List.mem_of_getElem? (i := 2065) (by decide +kernel), by decide +kernel⟩
theorem wd_2066 : zL (Cond.static ⟨"PathTrustModel","areBounds","(II)Z"⟩) := ⟨List.mem_of_getElem? (i := 2066) (by decide +kernel), by decide +kernel⟩
theorem wd_2067 : zL (Cond.code ⟨"PathTrustModel","areBounds","(II)Z"⟩ prog_10_method_128_code 2 (Option.some FieldType.boolean)) := ⟨List.mem_of_getElem? (i := 2067) (by decide +kernel), by decide +kernel⟩
theorem wd_2068 : zL (Cond.constantLong "PathTrustModel" 436 (999 : Int64)) := ⟨List.mem_of_getElem? (i := 2068) (by decide +kernel), by decide +kernel⟩
theorem wd_2077 : zL (Cond.constantLong "PathTrustModel" 441 (99 : Int64)) := ⟨List.mem_of_getElem? (i := 2077) (by decide +kernel), by decide +kernel⟩
theorem wd_2078 : zL (Cond.methodLink "PathTrustModel" 443 ⟨"PathTrustModel","doPass","(I)I"⟩) := ⟨List.mem_of_getElem? (i := 2078) (by decide +kernel), by decide +kernel⟩
theorem wd_2080 : zL (Cond.instanceMethod ⟨"PathTrustModel","doPass","(I)I"⟩) := ⟨List.mem_of_getElem? (i := 2080) (by decide +kernel), by decide +kernel⟩
theorem wd_2081 : zL (Cond.code ⟨"PathTrustModel","doPass","(I)I"⟩ prog_10_method_45_code 6 (Option.some FieldType.int)) := ⟨List.mem_of_getElem? (i := 2081) (by decide +kernel), by decide +kernel⟩
theorem wd_2086 : zL (Cond.methodLink "PathTrustModel" 446 ⟨"PathTrustModel","widthBut","(III)I"⟩) := ⟨List.mem_of_getElem? (i := 2086) (by decide +kernel), by decide +kernel⟩
theorem wd_2088 : zL (Cond.instanceMethod ⟨"PathTrustModel","widthBut","(III)I"⟩) := ⟨List.mem_of_getElem? (i := 2088) (by decide +kernel), by decide +kernel⟩
theorem wd_2089 : zL (Cond.code ⟨"PathTrustModel","widthBut","(III)I"⟩ prog_10_method_132_code 5 (Option.some FieldType.int)) := ⟨List.mem_of_getElem? (i := 2089) (by decide +kernel), by decide +kernel⟩
theorem wd_2114 : zL (Cond.constantLong "PathTrustModel" 455 (100 : Int64)) := ⟨List.mem_of_getElem? (i := 2114) (by decide +kernel), by decide +kernel⟩
theorem wd_2131 : zL (Cond.constantLong "PathTrustModel" 457 (10 : Int64)) := ⟨List.mem_of_getElem? (i := 2131) (by decide +kernel), by decide +kernel⟩
theorem wd_2136 : zL (Cond.methodLink "PathTrustModel" 459 ⟨"PathTrustModel","leastOf","(I)I"⟩) := ⟨List.mem_of_getElem? (i := 2136) (by decide +kernel), by decide +kernel⟩
theorem wd_2137 : zL (Cond.static ⟨"PathTrustModel","leastOf","(I)I"⟩) := ⟨List.mem_of_getElem? (i := 2137) (by decide +kernel), by decide +kernel⟩
theorem wd_2138 : zL (Cond.code ⟨"PathTrustModel","leastOf","(I)I"⟩ prog_10_method_146_code 1 (Option.some FieldType.int)) := ⟨List.mem_of_getElem? (i := 2138) (by decide +kernel), by decide +kernel⟩
theorem wd_2139 : zL (Cond.methodLink "PathTrustModel" 462 ⟨"PathTrustModel","mostOf","(I)I"⟩) := ⟨List.mem_of_getElem? (i := 2139) (by decide +kernel), by decide +kernel⟩
theorem wd_2140 : zL (Cond.static ⟨"PathTrustModel","mostOf","(I)I"⟩) := ⟨List.mem_of_getElem? (i := 2140) (by decide +kernel), by decide +kernel⟩
theorem wd_2141 : zL (Cond.code ⟨"PathTrustModel","mostOf","(I)I"⟩ prog_10_method_147_code 1 (Option.some FieldType.int)) := ⟨List.mem_of_getElem? (i := 2141) (by decide +kernel), by decide +kernel⟩
theorem wd_2150 : zL (Cond.methodLink "PathTrustModel" 465 ⟨"PathTrustModel","isSlot","(I)Z"⟩) := ⟨List.mem_of_getElem? (i := 2150) (by decide +kernel), by decide +kernel⟩
theorem wd_2151 : zL (Cond.static ⟨"PathTrustModel","isSlot","(I)Z"⟩) := ⟨List.mem_of_getElem? (i := 2151) (by decide +kernel), by decide +kernel⟩
theorem wd_2152 : zL (Cond.code ⟨"PathTrustModel","isSlot","(I)Z"⟩ prog_10_method_150_code 1 (Option.some FieldType.boolean)) := ⟨List.mem_of_getElem? (i := 2152) (by decide +kernel), by decide +kernel⟩
theorem wd_2169 : zL (Cond.methodLink "PathTrustModel" 474 ⟨"PathTrustModel","write","(I)V"⟩) := ⟨List.mem_of_getElem? (i := 2169) (by decide +kernel), by decide +kernel⟩
theorem wd_2171 : zL (Cond.instanceMethod ⟨"PathTrustModel","write","(I)V"⟩) := ⟨List.mem_of_getElem? (i := 2171) (by decide +kernel), by decide +kernel⟩
theorem wd_2172 : zL (Cond.code ⟨"PathTrustModel","write","(I)V"⟩ prog_10_method_156_code 2 (Option.none : Option FieldType)) := ⟨List.mem_of_getElem? (i := 2172) (by decide +kernel), by decide +kernel⟩
theorem wd_2173 : zL (Cond.methodLink "PathTrustModel" 477 ⟨"PathTrustModel","writeName","(I)V"⟩) := ⟨List.mem_of_getElem? (i := 2173) (by decide +kernel), by decide +kernel⟩
theorem wd_2175 : zL (Cond.instanceMethod ⟨"PathTrustModel","writeName","(I)V"⟩) := ⟨List.mem_of_getElem? (i := 2175) (by decide +kernel), by decide +kernel⟩
theorem wd_2176 : zL (Cond.code ⟨"PathTrustModel","writeName","(I)V"⟩ prog_10_method_158_code 4 (Option.none : Option FieldType)) := ⟨List.mem_of_getElem? (i := 2176) (by decide +kernel), by decide +kernel⟩
theorem wd_2177 : zL (Cond.methodLink "PathTrustModel" 480 ⟨"PathTrustModel","writeNumber","(I)V"⟩) := ⟨List.mem_of_getElem? (i := 2177) (by decide +kernel), by decide +kernel⟩
theorem wd_2179 : zL (Cond.instanceMethod ⟨"PathTrustModel","writeNumber","(I)V"⟩) := ⟨List.mem_of_getElem? (i := 2179) (by decide +kernel), by decide +kernel⟩
theorem wd_2180 : zL (Cond.code ⟨"PathTrustModel","writeNumber","(I)V"⟩ prog_10_method_157_code 4 (Option.none : Option FieldType)) := ⟨List.mem_of_getElem? (i := 2180) (by decide +kernel), by decide +kernel⟩
