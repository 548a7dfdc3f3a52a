-- ===== PART A: goes FIRST, ahead of the names: the tables' words, and 'selects' of the private methods out of them =====
/-- a private method of a class that the tables say can be made, by its rows of tables_1 -/
def lw_okq (q : MethodName × Nat) : Prop := (q.1.cls ≠ "java/lang/invoke/MethodHandle" ∧ q.1.cls ≠ "java/lang/invoke/VarHandle") ∧ Cond.instantiable q.1.cls q.2 ∈ tables_1 ∧ Cond.privateMethod q.1 ∈ tables_1 ∧ Cond.instanceMethod q.1 ∈ tables_1
theorem lw_p0 : lw_okq (⟨"PathTrust$Desk", "reset", "()V"⟩, 9) := ⟨⟨by decide +kernel, by decide +kernel⟩, List.mem_of_getElem? (i := 89) (by decide +kernel), List.mem_of_getElem? (i := 128) (by decide +kernel), List.mem_of_getElem? (i := 129) (by decide +kernel)⟩
theorem lw_p1 : lw_okq (⟨"PathTrust$Desk", "putRule", "(II)V"⟩, 9) := ⟨⟨by decide +kernel, by decide +kernel⟩, List.mem_of_getElem? (i := 89) (by decide +kernel), List.mem_of_getElem? (i := 134) (by decide +kernel), List.mem_of_getElem? (i := 135) (by decide +kernel)⟩
theorem lw_p2 : lw_okq (⟨"PathTrust$Desk", "listOf", "(I)LPathTrust$Reports;"⟩, 9) := ⟨⟨by decide +kernel, by decide +kernel⟩, List.mem_of_getElem? (i := 89) (by decide +kernel), List.mem_of_getElem? (i := 141) (by decide +kernel), List.mem_of_getElem? (i := 142) (by decide +kernel)⟩
theorem lw_p3 : lw_okq (⟨"java/lang/Throwable", "fillInStackTrace", "(I)Ljava/lang/Throwable;"⟩, 6) := ⟨⟨by decide +kernel, by decide +kernel⟩, List.mem_of_getElem? (i := 602) (by decide +kernel), List.mem_of_getElem? (i := 600) (by decide +kernel), List.mem_of_getElem? (i := 601) (by decide +kernel)⟩
theorem lw_p4 : lw_okq (⟨"PathTrust$Buffer", "addFour", "(I)V"⟩, 2) := ⟨⟨by decide +kernel, by decide +kernel⟩, List.mem_of_getElem? (i := 36) (by decide +kernel), List.mem_of_getElem? (i := 631) (by decide +kernel), List.mem_of_getElem? (i := 632) (by decide +kernel)⟩
theorem lw_p5 : lw_okq (⟨"PathTrust$Buffer", "add", "(I)V"⟩, 2) := ⟨⟨by decide +kernel, by decide +kernel⟩, List.mem_of_getElem? (i := 36) (by decide +kernel), List.mem_of_getElem? (i := 635) (by decide +kernel), List.mem_of_getElem? (i := 636) (by decide +kernel)⟩
theorem lw_p6 : lw_okq (⟨"PathTrust$Parser", "parse", "()Z"⟩, 8) := ⟨⟨by decide +kernel, by decide +kernel⟩, List.mem_of_getElem? (i := 179) (by decide +kernel), List.mem_of_getElem? (i := 667) (by decide +kernel), List.mem_of_getElem? (i := 668) (by decide +kernel)⟩
theorem lw_p7 : lw_okq (⟨"PathTrust$Parser", "next", "()V"⟩, 8) := ⟨⟨by decide +kernel, by decide +kernel⟩, List.mem_of_getElem? (i := 179) (by decide +kernel), List.mem_of_getElem? (i := 672) (by decide +kernel), List.mem_of_getElem? (i := 673) (by decide +kernel)⟩
theorem lw_p8 : lw_okq (⟨"PathTrust$Buffer", "at", "(I)I"⟩, 2) := ⟨⟨by decide +kernel, by decide +kernel⟩, List.mem_of_getElem? (i := 36) (by decide +kernel), List.mem_of_getElem? (i := 676) (by decide +kernel), List.mem_of_getElem? (i := 677) (by decide +kernel)⟩
theorem lw_p9 : lw_okq (⟨"PathTrust$Parser", "readRules", "()Z"⟩, 8) := ⟨⟨by decide +kernel, by decide +kernel⟩, List.mem_of_getElem? (i := 179) (by decide +kernel), List.mem_of_getElem? (i := 683) (by decide +kernel), List.mem_of_getElem? (i := 684) (by decide +kernel)⟩
theorem lw_p10 : lw_okq (⟨"PathTrust$Parser", "readWord", "(Ljava/lang/String;)Z"⟩, 8) := ⟨⟨by decide +kernel, by decide +kernel⟩, List.mem_of_getElem? (i := 179) (by decide +kernel), List.mem_of_getElem? (i := 688) (by decide +kernel), List.mem_of_getElem? (i := 689) (by decide +kernel)⟩
theorem lw_p11 : lw_okq (⟨"PathTrust$Parser", "isWord", "(Ljava/lang/String;)Z"⟩, 8) := ⟨⟨by decide +kernel, by decide +kernel⟩, List.mem_of_getElem? (i := 179) (by decide +kernel), List.mem_of_getElem? (i := 692) (by decide +kernel), List.mem_of_getElem? (i := 693) (by decide +kernel)⟩
theorem lw_p12 : lw_okq (⟨"PathTrust$Parser", "fail", "(I)Z"⟩, 8) := ⟨⟨by decide +kernel, by decide +kernel⟩, List.mem_of_getElem? (i := 179) (by decide +kernel), List.mem_of_getElem? (i := 698) (by decide +kernel), List.mem_of_getElem? (i := 699) (by decide +kernel)⟩
theorem lw_p13 : lw_okq (⟨"PathTrust$Parser", "readRule", "(Ljava/lang/String;I)Z"⟩, 8) := ⟨⟨by decide +kernel, by decide +kernel⟩, List.mem_of_getElem? (i := 179) (by decide +kernel), List.mem_of_getElem? (i := 703) (by decide +kernel), List.mem_of_getElem? (i := 704) (by decide +kernel)⟩
theorem lw_p14 : lw_okq (⟨"PathTrust$Parser", "readNumber", "(II)Z"⟩, 8) := ⟨⟨by decide +kernel, by decide +kernel⟩, List.mem_of_getElem? (i := 179) (by decide +kernel), List.mem_of_getElem? (i := 711) (by decide +kernel), List.mem_of_getElem? (i := 712) (by decide +kernel)⟩
theorem lw_p15 : lw_okq (⟨"PathTrust$Parser", "readSemicolon", "()Z"⟩, 8) := ⟨⟨by decide +kernel, by decide +kernel⟩, List.mem_of_getElem? (i := 179) (by decide +kernel), List.mem_of_getElem? (i := 721) (by decide +kernel), List.mem_of_getElem? (i := 722) (by decide +kernel)⟩
def lw_privs_1 : List (MethodName × Nat) := [(⟨"PathTrust$Desk", "reset", "()V"⟩, 9), (⟨"PathTrust$Desk", "putRule", "(II)V"⟩, 9), (⟨"PathTrust$Desk", "listOf", "(I)LPathTrust$Reports;"⟩, 9), (⟨"java/lang/Throwable", "fillInStackTrace", "(I)Ljava/lang/Throwable;"⟩, 6), (⟨"PathTrust$Buffer", "addFour", "(I)V"⟩, 2), (⟨"PathTrust$Buffer", "add", "(I)V"⟩, 2), (⟨"PathTrust$Parser", "parse", "()Z"⟩, 8), (⟨"PathTrust$Parser", "next", "()V"⟩, 8), (⟨"PathTrust$Buffer", "at", "(I)I"⟩, 2), (⟨"PathTrust$Parser", "readRules", "()Z"⟩, 8), (⟨"PathTrust$Parser", "readWord", "(Ljava/lang/String;)Z"⟩, 8), (⟨"PathTrust$Parser", "isWord", "(Ljava/lang/String;)Z"⟩, 8), (⟨"PathTrust$Parser", "fail", "(I)Z"⟩, 8), (⟨"PathTrust$Parser", "readRule", "(Ljava/lang/String;I)Z"⟩, 8), (⟨"PathTrust$Parser", "readNumber", "(II)Z"⟩, 8), (⟨"PathTrust$Parser", "readSemicolon", "()Z"⟩, 8)]
theorem lw_r1 : ∀ q ∈ lw_privs_1, lw_okq q := List.forall_mem_cons.mpr ⟨lw_p0, List.forall_mem_cons.mpr ⟨lw_p1, List.forall_mem_cons.mpr ⟨lw_p2, List.forall_mem_cons.mpr ⟨lw_p3, List.forall_mem_cons.mpr ⟨lw_p4, List.forall_mem_cons.mpr ⟨lw_p5, List.forall_mem_cons.mpr ⟨lw_p6, List.forall_mem_cons.mpr ⟨lw_p7, List.forall_mem_cons.mpr ⟨lw_p8, List.forall_mem_cons.mpr ⟨lw_p9, List.forall_mem_cons.mpr ⟨lw_p10, List.forall_mem_cons.mpr ⟨lw_p11, List.forall_mem_cons.mpr ⟨lw_p12, List.forall_mem_cons.mpr ⟨lw_p13, List.forall_mem_cons.mpr ⟨lw_p14, List.forall_mem_cons.mpr ⟨lw_p15, fun _ h => absurd h List.not_mem_nil⟩⟩⟩⟩⟩⟩⟩⟩⟩⟩⟩⟩⟩⟩⟩⟩
theorem lw_p16 : lw_okq (⟨"PathTrust$Parser", "readNewName", "(LPathTrust$Names;)Z"⟩, 8) := ⟨⟨by decide +kernel, by decide +kernel⟩, List.mem_of_getElem? (i := 179) (by decide +kernel), List.mem_of_getElem? (i := 726) (by decide +kernel), List.mem_of_getElem? (i := 727) (by decide +kernel)⟩
theorem lw_p17 : lw_okq (⟨"PathTrust$Parser", "isName", "()Z"⟩, 8) := ⟨⟨by decide +kernel, by decide +kernel⟩, List.mem_of_getElem? (i := 179) (by decide +kernel), List.mem_of_getElem? (i := 730) (by decide +kernel), List.mem_of_getElem? (i := 731) (by decide +kernel)⟩
theorem lw_p18 : lw_okq (⟨"PathTrust$Buffer", "nameCode", "(II)I"⟩, 2) := ⟨⟨by decide +kernel, by decide +kernel⟩, List.mem_of_getElem? (i := 36) (by decide +kernel), List.mem_of_getElem? (i := 738) (by decide +kernel), List.mem_of_getElem? (i := 739) (by decide +kernel)⟩
theorem lw_p19 : lw_okq (⟨"PathTrust$Names", "find", "(I)I"⟩, 2) := ⟨⟨by decide +kernel, by decide +kernel⟩, List.mem_of_getElem? (i := 95) (by decide +kernel), List.mem_of_getElem? (i := 743) (by decide +kernel), List.mem_of_getElem? (i := 744) (by decide +kernel)⟩
theorem lw_p20 : lw_okq (⟨"PathTrust$Names", "add", "(I)V"⟩, 2) := ⟨⟨by decide +kernel, by decide +kernel⟩, List.mem_of_getElem? (i := 95) (by decide +kernel), List.mem_of_getElem? (i := 747) (by decide +kernel), List.mem_of_getElem? (i := 748) (by decide +kernel)⟩
theorem lw_p21 : lw_okq (⟨"PathTrust$Parser", "readLink", "()Z"⟩, 8) := ⟨⟨by decide +kernel, by decide +kernel⟩, List.mem_of_getElem? (i := 179) (by decide +kernel), List.mem_of_getElem? (i := 751) (by decide +kernel), List.mem_of_getElem? (i := 752) (by decide +kernel)⟩
theorem lw_p22 : lw_okq (⟨"PathTrust$Parser", "isNameOf", "(LPathTrust$Names;)Z"⟩, 8) := ⟨⟨by decide +kernel, by decide +kernel⟩, List.mem_of_getElem? (i := 179) (by decide +kernel), List.mem_of_getElem? (i := 755) (by decide +kernel), List.mem_of_getElem? (i := 756) (by decide +kernel)⟩
theorem lw_p23 : lw_okq (⟨"PathTrust$Desk", "isLinked", "(II)Z"⟩, 9) := ⟨⟨by decide +kernel, by decide +kernel⟩, List.mem_of_getElem? (i := 89) (by decide +kernel), List.mem_of_getElem? (i := 759) (by decide +kernel), List.mem_of_getElem? (i := 760) (by decide +kernel)⟩
theorem lw_p24 : lw_okq (⟨"PathTrust$Desk", "trustIn", "(II)I"⟩, 9) := ⟨⟨by decide +kernel, by decide +kernel⟩, List.mem_of_getElem? (i := 89) (by decide +kernel), List.mem_of_getElem? (i := 763) (by decide +kernel), List.mem_of_getElem? (i := 764) (by decide +kernel)⟩
theorem lw_p25 : lw_okq (⟨"PathTrust$Desk", "putTrust", "(III)V"⟩, 9) := ⟨⟨by decide +kernel, by decide +kernel⟩, List.mem_of_getElem? (i := 89) (by decide +kernel), List.mem_of_getElem? (i := 767) (by decide +kernel), List.mem_of_getElem? (i := 768) (by decide +kernel)⟩
theorem lw_p26 : lw_okq (⟨"PathTrust$Parser", "readProbe", "()Z"⟩, 8) := ⟨⟨by decide +kernel, by decide +kernel⟩, List.mem_of_getElem? (i := 179) (by decide +kernel), List.mem_of_getElem? (i := 771) (by decide +kernel), List.mem_of_getElem? (i := 772) (by decide +kernel)⟩
theorem lw_p27 : lw_okq (⟨"PathTrust$Desk", "makeProbe", "(IIII)I"⟩, 9) := ⟨⟨by decide +kernel, by decide +kernel⟩, List.mem_of_getElem? (i := 89) (by decide +kernel), List.mem_of_getElem? (i := 775) (by decide +kernel), List.mem_of_getElem? (i := 776) (by decide +kernel)⟩
theorem lw_p28 : lw_okq (⟨"PathTrust$Reports", "rowOf", "(II)I"⟩, 2) := ⟨⟨by decide +kernel, by decide +kernel⟩, List.mem_of_getElem? (i := 112) (by decide +kernel), List.mem_of_getElem? (i := 779) (by decide +kernel), List.mem_of_getElem? (i := 780) (by decide +kernel)⟩
theorem lw_p29 : lw_okq (⟨"PathTrust$Reports", "get", "(II)I"⟩, 2) := ⟨⟨by decide +kernel, by decide +kernel⟩, List.mem_of_getElem? (i := 112) (by decide +kernel), List.mem_of_getElem? (i := 783) (by decide +kernel), List.mem_of_getElem? (i := 784) (by decide +kernel)⟩
theorem lw_p30 : lw_okq (⟨"PathTrust$Reports", "removeRow", "(I)V"⟩, 2) := ⟨⟨by decide +kernel, by decide +kernel⟩, List.mem_of_getElem? (i := 112) (by decide +kernel), List.mem_of_getElem? (i := 787) (by decide +kernel), List.mem_of_getElem? (i := 788) (by decide +kernel)⟩
theorem lw_p31 : lw_okq (⟨"PathTrust$Reports", "closeGap", "(II)V"⟩, 2) := ⟨⟨by decide +kernel, by decide +kernel⟩, List.mem_of_getElem? (i := 112) (by decide +kernel), List.mem_of_getElem? (i := 791) (by decide +kernel), List.mem_of_getElem? (i := 792) (by decide +kernel)⟩
def lw_privs_2 : List (MethodName × Nat) := [(⟨"PathTrust$Parser", "readNewName", "(LPathTrust$Names;)Z"⟩, 8), (⟨"PathTrust$Parser", "isName", "()Z"⟩, 8), (⟨"PathTrust$Buffer", "nameCode", "(II)I"⟩, 2), (⟨"PathTrust$Names", "find", "(I)I"⟩, 2), (⟨"PathTrust$Names", "add", "(I)V"⟩, 2), (⟨"PathTrust$Parser", "readLink", "()Z"⟩, 8), (⟨"PathTrust$Parser", "isNameOf", "(LPathTrust$Names;)Z"⟩, 8), (⟨"PathTrust$Desk", "isLinked", "(II)Z"⟩, 9), (⟨"PathTrust$Desk", "trustIn", "(II)I"⟩, 9), (⟨"PathTrust$Desk", "putTrust", "(III)V"⟩, 9), (⟨"PathTrust$Parser", "readProbe", "()Z"⟩, 8), (⟨"PathTrust$Desk", "makeProbe", "(IIII)I"⟩, 9), (⟨"PathTrust$Reports", "rowOf", "(II)I"⟩, 2), (⟨"PathTrust$Reports", "get", "(II)I"⟩, 2), (⟨"PathTrust$Reports", "removeRow", "(I)V"⟩, 2), (⟨"PathTrust$Reports", "closeGap", "(II)V"⟩, 2)]
theorem lw_r2 : ∀ q ∈ lw_privs_2, lw_okq q := List.forall_mem_cons.mpr ⟨lw_p16, List.forall_mem_cons.mpr ⟨lw_p17, List.forall_mem_cons.mpr ⟨lw_p18, List.forall_mem_cons.mpr ⟨lw_p19, List.forall_mem_cons.mpr ⟨lw_p20, List.forall_mem_cons.mpr ⟨lw_p21, List.forall_mem_cons.mpr ⟨lw_p22, List.forall_mem_cons.mpr ⟨lw_p23, List.forall_mem_cons.mpr ⟨lw_p24, List.forall_mem_cons.mpr ⟨lw_p25, List.forall_mem_cons.mpr ⟨lw_p26, List.forall_mem_cons.mpr ⟨lw_p27, List.forall_mem_cons.mpr ⟨lw_p28, List.forall_mem_cons.mpr ⟨lw_p29, List.forall_mem_cons.mpr ⟨lw_p30, List.forall_mem_cons.mpr ⟨lw_p31, fun _ h => absurd h List.not_mem_nil⟩⟩⟩⟩⟩⟩⟩⟩⟩⟩⟩⟩⟩⟩⟩⟩
theorem lw_p32 : lw_okq (⟨"PathTrust$Reports", "addRow", "()I"⟩, 2) := ⟨⟨by decide +kernel, by decide +kernel⟩, List.mem_of_getElem? (i := 112) (by decide +kernel), List.mem_of_getElem? (i := 796) (by decide +kernel), List.mem_of_getElem? (i := 797) (by decide +kernel)⟩
theorem lw_p33 : lw_okq (⟨"PathTrust$Reports", "isFull", "()Z"⟩, 2) := ⟨⟨by decide +kernel, by decide +kernel⟩, List.mem_of_getElem? (i := 112) (by decide +kernel), List.mem_of_getElem? (i := 800) (by decide +kernel), List.mem_of_getElem? (i := 801) (by decide +kernel)⟩
theorem lw_p34 : lw_okq (⟨"PathTrust$Reports", "put", "(III)V"⟩, 2) := ⟨⟨by decide +kernel, by decide +kernel⟩, List.mem_of_getElem? (i := 112) (by decide +kernel), List.mem_of_getElem? (i := 804) (by decide +kernel), List.mem_of_getElem? (i := 805) (by decide +kernel)⟩
theorem lw_p35 : lw_okq (⟨"PathTrust$Desk", "tally", "(II)V"⟩, 9) := ⟨⟨by decide +kernel, by decide +kernel⟩, List.mem_of_getElem? (i := 89) (by decide +kernel), List.mem_of_getElem? (i := 808) (by decide +kernel), List.mem_of_getElem? (i := 809) (by decide +kernel)⟩
theorem lw_p36 : lw_okq (⟨"PathTrust$Desk", "judge", "(III)Z"⟩, 9) := ⟨⟨by decide +kernel, by decide +kernel⟩, List.mem_of_getElem? (i := 89) (by decide +kernel), List.mem_of_getElem? (i := 816) (by decide +kernel), List.mem_of_getElem? (i := 817) (by decide +kernel)⟩
theorem lw_p37 : lw_okq (⟨"PathTrust$Desk", "driftOf", "(LPathTrust$Reports;I)I"⟩, 9) := ⟨⟨by decide +kernel, by decide +kernel⟩, List.mem_of_getElem? (i := 89) (by decide +kernel), List.mem_of_getElem? (i := 821) (by decide +kernel), List.mem_of_getElem? (i := 822) (by decide +kernel)⟩
theorem lw_p38 : lw_okq (⟨"PathTrust$Desk", "rule", "(I)I"⟩, 9) := ⟨⟨by decide +kernel, by decide +kernel⟩, List.mem_of_getElem? (i := 89) (by decide +kernel), List.mem_of_getElem? (i := 825) (by decide +kernel), List.mem_of_getElem? (i := 826) (by decide +kernel)⟩
theorem lw_p39 : lw_okq (⟨"PathTrust$Reports", "lowMoved", "(II)I"⟩, 2) := ⟨⟨by decide +kernel, by decide +kernel⟩, List.mem_of_getElem? (i := 112) (by decide +kernel), List.mem_of_getElem? (i := 829) (by decide +kernel), List.mem_of_getElem? (i := 830) (by decide +kernel)⟩
theorem lw_p40 : lw_okq (⟨"PathTrust$Reports", "highMoved", "(II)I"⟩, 2) := ⟨⟨by decide +kernel, by decide +kernel⟩, List.mem_of_getElem? (i := 112) (by decide +kernel), List.mem_of_getElem? (i := 835) (by decide +kernel), List.mem_of_getElem? (i := 836) (by decide +kernel)⟩
theorem lw_p41 : lw_okq (⟨"PathTrust$History", "push", "(LPathTrust$Desk;)V"⟩, 2) := ⟨⟨by decide +kernel, by decide +kernel⟩, List.mem_of_getElem? (i := 212) (by decide +kernel), List.mem_of_getElem? (i := 842) (by decide +kernel), List.mem_of_getElem? (i := 843) (by decide +kernel)⟩
theorem lw_p42 : lw_okq (⟨"PathTrust$History", "dropOldest", "()V"⟩, 2) := ⟨⟨by decide +kernel, by decide +kernel⟩, List.mem_of_getElem? (i := 212) (by decide +kernel), List.mem_of_getElem? (i := 846) (by decide +kernel), List.mem_of_getElem? (i := 847) (by decide +kernel)⟩
theorem lw_p43 : lw_okq (⟨"PathTrust$Desk", "become", "(LPathTrust$Desk;)V"⟩, 9) := ⟨⟨by decide +kernel, by decide +kernel⟩, List.mem_of_getElem? (i := 89) (by decide +kernel), List.mem_of_getElem? (i := 851) (by decide +kernel), List.mem_of_getElem? (i := 852) (by decide +kernel)⟩
theorem lw_p44 : lw_okq (⟨"PathTrust$Names", "copyFrom", "(LPathTrust$Names;)V"⟩, 2) := ⟨⟨by decide +kernel, by decide +kernel⟩, List.mem_of_getElem? (i := 95) (by decide +kernel), List.mem_of_getElem? (i := 855) (by decide +kernel), List.mem_of_getElem? (i := 856) (by decide +kernel)⟩
theorem lw_p45 : lw_okq (⟨"PathTrust$Reports", "copyFrom", "(LPathTrust$Reports;)V"⟩, 2) := ⟨⟨by decide +kernel, by decide +kernel⟩, List.mem_of_getElem? (i := 112) (by decide +kernel), List.mem_of_getElem? (i := 862) (by decide +kernel), List.mem_of_getElem? (i := 863) (by decide +kernel)⟩
theorem lw_p46 : lw_okq (⟨"PathTrust$Desk", "linkCount", "()I"⟩, 9) := ⟨⟨by decide +kernel, by decide +kernel⟩, List.mem_of_getElem? (i := 89) (by decide +kernel), List.mem_of_getElem? (i := 879) (by decide +kernel), List.mem_of_getElem? (i := 880) (by decide +kernel)⟩
theorem lw_p47 : lw_okq (⟨"PathTrust", "checkAgent", "(I)V"⟩, 8) := ⟨⟨by decide +kernel, by decide +kernel⟩, List.mem_of_getElem? (i := 28) (by decide +kernel), List.mem_of_getElem? (i := 891) (by decide +kernel), List.mem_of_getElem? (i := 892) (by decide +kernel)⟩
def lw_privs_3 : List (MethodName × Nat) := [(⟨"PathTrust$Reports", "addRow", "()I"⟩, 2), (⟨"PathTrust$Reports", "isFull", "()Z"⟩, 2), (⟨"PathTrust$Reports", "put", "(III)V"⟩, 2), (⟨"PathTrust$Desk", "tally", "(II)V"⟩, 9), (⟨"PathTrust$Desk", "judge", "(III)Z"⟩, 9), (⟨"PathTrust$Desk", "driftOf", "(LPathTrust$Reports;I)I"⟩, 9), (⟨"PathTrust$Desk", "rule", "(I)I"⟩, 9), (⟨"PathTrust$Reports", "lowMoved", "(II)I"⟩, 2), (⟨"PathTrust$Reports", "highMoved", "(II)I"⟩, 2), (⟨"PathTrust$History", "push", "(LPathTrust$Desk;)V"⟩, 2), (⟨"PathTrust$History", "dropOldest", "()V"⟩, 2), (⟨"PathTrust$Desk", "become", "(LPathTrust$Desk;)V"⟩, 9), (⟨"PathTrust$Names", "copyFrom", "(LPathTrust$Names;)V"⟩, 2), (⟨"PathTrust$Reports", "copyFrom", "(LPathTrust$Reports;)V"⟩, 2), (⟨"PathTrust$Desk", "linkCount", "()I"⟩, 9), (⟨"PathTrust", "checkAgent", "(I)V"⟩, 8)]
theorem lw_r3 : ∀ q ∈ lw_privs_3, lw_okq q := List.forall_mem_cons.mpr ⟨lw_p32, List.forall_mem_cons.mpr ⟨lw_p33, List.forall_mem_cons.mpr ⟨lw_p34, List.forall_mem_cons.mpr ⟨lw_p35, List.forall_mem_cons.mpr ⟨lw_p36, List.forall_mem_cons.mpr ⟨lw_p37, List.forall_mem_cons.mpr ⟨lw_p38, List.forall_mem_cons.mpr ⟨lw_p39, List.forall_mem_cons.mpr ⟨lw_p40, List.forall_mem_cons.mpr ⟨lw_p41, List.forall_mem_cons.mpr ⟨lw_p42, List.forall_mem_cons.mpr ⟨lw_p43, List.forall_mem_cons.mpr ⟨lw_p44, List.forall_mem_cons.mpr ⟨lw_p45, List.forall_mem_cons.mpr ⟨lw_p46, List.forall_mem_cons.mpr ⟨lw_p47, fun _ h => absurd h List.not_mem_nil⟩⟩⟩⟩⟩⟩⟩⟩⟩⟩⟩⟩⟩⟩⟩⟩
theorem lw_p48 : lw_okq (⟨"PathTrust", "checkWay", "(I)V"⟩, 8) := ⟨⟨by decide +kernel, by decide +kernel⟩, List.mem_of_getElem? (i := 28) (by decide +kernel), List.mem_of_getElem? (i := 911) (by decide +kernel), List.mem_of_getElem? (i := 912) (by decide +kernel)⟩
theorem lw_p49 : lw_okq (⟨"PathTrust$Desk", "sendReports", "(II)I"⟩, 9) := ⟨⟨by decide +kernel, by decide +kernel⟩, List.mem_of_getElem? (i := 89) (by decide +kernel), List.mem_of_getElem? (i := 924) (by decide +kernel), List.mem_of_getElem? (i := 925) (by decide +kernel)⟩
theorem lw_p50 : lw_okq (⟨"PathTrust$Desk", "sendReport", "(ILPathTrust$Reports;I)V"⟩, 9) := ⟨⟨by decide +kernel, by decide +kernel⟩, List.mem_of_getElem? (i := 89) (by decide +kernel), List.mem_of_getElem? (i := 928) (by decide +kernel), List.mem_of_getElem? (i := 929) (by decide +kernel)⟩
theorem lw_p51 : lw_okq (⟨"PathTrust$Reports", "addCopy", "(LPathTrust$Reports;I)I"⟩, 2) := ⟨⟨by decide +kernel, by decide +kernel⟩, List.mem_of_getElem? (i := 112) (by decide +kernel), List.mem_of_getElem? (i := 933) (by decide +kernel), List.mem_of_getElem? (i := 934) (by decide +kernel)⟩
theorem lw_p52 : lw_okq (⟨"PathTrust$Desk", "deliverFirst", "(I)I"⟩, 9) := ⟨⟨by decide +kernel, by decide +kernel⟩, List.mem_of_getElem? (i := 89) (by decide +kernel), List.mem_of_getElem? (i := 947) (by decide +kernel), List.mem_of_getElem? (i := 948) (by decide +kernel)⟩
theorem lw_p53 : lw_okq (⟨"PathTrust$Desk", "receive", "(I)Z"⟩, 9) := ⟨⟨by decide +kernel, by decide +kernel⟩, List.mem_of_getElem? (i := 89) (by decide +kernel), List.mem_of_getElem? (i := 951) (by decide +kernel), List.mem_of_getElem? (i := 952) (by decide +kernel)⟩
theorem lw_p54 : lw_okq (⟨"PathTrust$Desk", "reasonToRefuse", "(I)I"⟩, 9) := ⟨⟨by decide +kernel, by decide +kernel⟩, List.mem_of_getElem? (i := 89) (by decide +kernel), List.mem_of_getElem? (i := 955) (by decide +kernel), List.mem_of_getElem? (i := 956) (by decide +kernel)⟩
theorem lw_p55 : lw_okq (⟨"PathTrust$Desk", "isTooOld", "(LPathTrust$Reports;I)Z"⟩, 9) := ⟨⟨by decide +kernel, by decide +kernel⟩, List.mem_of_getElem? (i := 89) (by decide +kernel), List.mem_of_getElem? (i := 959) (by decide +kernel), List.mem_of_getElem? (i := 960) (by decide +kernel)⟩
theorem lw_p56 : lw_okq (⟨"PathTrust$Reports", "removeFirst", "(I)V"⟩, 2) := ⟨⟨by decide +kernel, by decide +kernel⟩, List.mem_of_getElem? (i := 112) (by decide +kernel), List.mem_of_getElem? (i := 963) (by decide +kernel), List.mem_of_getElem? (i := 964) (by decide +kernel)⟩
theorem lw_p57 : lw_okq (⟨"PathTrust$Desk", "letPass", "(I)I"⟩, 9) := ⟨⟨by decide +kernel, by decide +kernel⟩, List.mem_of_getElem? (i := 89) (by decide +kernel), List.mem_of_getElem? (i := 971) (by decide +kernel), List.mem_of_getElem? (i := 972) (by decide +kernel)⟩
theorem lw_p58 : lw_okq (⟨"PathTrust$Desk", "makeRounds", "(I)I"⟩, 9) := ⟨⟨by decide +kernel, by decide +kernel⟩, List.mem_of_getElem? (i := 89) (by decide +kernel), List.mem_of_getElem? (i := 997) (by decide +kernel), List.mem_of_getElem? (i := 998) (by decide +kernel)⟩
theorem lw_p59 : lw_okq (⟨"PathTrust", "originsOf", "(III)I"⟩, 8) := ⟨⟨by decide +kernel, by decide +kernel⟩, List.mem_of_getElem? (i := 28) (by decide +kernel), List.mem_of_getElem? (i := 1008) (by decide +kernel), List.mem_of_getElem? (i := 1009) (by decide +kernel)⟩
theorem lw_p60 : lw_okq (⟨"PathTrust$View", "form", "(LPathTrust$Desk;III)V"⟩, 9) := ⟨⟨by decide +kernel, by decide +kernel⟩, List.mem_of_getElem? (i := 52) (by decide +kernel), List.mem_of_getElem? (i := 1012) (by decide +kernel), List.mem_of_getElem? (i := 1013) (by decide +kernel)⟩
theorem lw_p61 : lw_okq (⟨"PathTrust$View", "note", "(LPathTrust$Desk;III)V"⟩, 9) := ⟨⟨by decide +kernel, by decide +kernel⟩, List.mem_of_getElem? (i := 52) (by decide +kernel), List.mem_of_getElem? (i := 1018) (by decide +kernel), List.mem_of_getElem? (i := 1019) (by decide +kernel)⟩
theorem lw_p62 : lw_okq (⟨"PathTrust$Desk", "beliefSpread", "(II)I"⟩, 9) := ⟨⟨by decide +kernel, by decide +kernel⟩, List.mem_of_getElem? (i := 89) (by decide +kernel), List.mem_of_getElem? (i := 1023) (by decide +kernel), List.mem_of_getElem? (i := 1024) (by decide +kernel)⟩
theorem lw_p63 : lw_okq (⟨"PathTrust$View", "nextToTake", "()I"⟩, 9) := ⟨⟨by decide +kernel, by decide +kernel⟩, List.mem_of_getElem? (i := 52) (by decide +kernel), List.mem_of_getElem? (i := 1030) (by decide +kernel), List.mem_of_getElem? (i := 1031) (by decide +kernel)⟩
def lw_privs_4 : List (MethodName × Nat) := [(⟨"PathTrust", "checkWay", "(I)V"⟩, 8), (⟨"PathTrust$Desk", "sendReports", "(II)I"⟩, 9), (⟨"PathTrust$Desk", "sendReport", "(ILPathTrust$Reports;I)V"⟩, 9), (⟨"PathTrust$Reports", "addCopy", "(LPathTrust$Reports;I)I"⟩, 2), (⟨"PathTrust$Desk", "deliverFirst", "(I)I"⟩, 9), (⟨"PathTrust$Desk", "receive", "(I)Z"⟩, 9), (⟨"PathTrust$Desk", "reasonToRefuse", "(I)I"⟩, 9), (⟨"PathTrust$Desk", "isTooOld", "(LPathTrust$Reports;I)Z"⟩, 9), (⟨"PathTrust$Reports", "removeFirst", "(I)V"⟩, 2), (⟨"PathTrust$Desk", "letPass", "(I)I"⟩, 9), (⟨"PathTrust$Desk", "makeRounds", "(I)I"⟩, 9), (⟨"PathTrust", "originsOf", "(III)I"⟩, 8), (⟨"PathTrust$View", "form", "(LPathTrust$Desk;III)V"⟩, 9), (⟨"PathTrust$View", "note", "(LPathTrust$Desk;III)V"⟩, 9), (⟨"PathTrust$Desk", "beliefSpread", "(II)I"⟩, 9), (⟨"PathTrust$View", "nextToTake", "()I"⟩, 9)]
theorem lw_r4 : ∀ q ∈ lw_privs_4, lw_okq q := List.forall_mem_cons.mpr ⟨lw_p48, List.forall_mem_cons.mpr ⟨lw_p49, List.forall_mem_cons.mpr ⟨lw_p50, List.forall_mem_cons.mpr ⟨lw_p51, List.forall_mem_cons.mpr ⟨lw_p52, List.forall_mem_cons.mpr ⟨lw_p53, List.forall_mem_cons.mpr ⟨lw_p54, List.forall_mem_cons.mpr ⟨lw_p55, List.forall_mem_cons.mpr ⟨lw_p56, List.forall_mem_cons.mpr ⟨lw_p57, List.forall_mem_cons.mpr ⟨lw_p58, List.forall_mem_cons.mpr ⟨lw_p59, List.forall_mem_cons.mpr ⟨lw_p60, List.forall_mem_cons.mpr ⟨lw_p61, List.forall_mem_cons.mpr ⟨lw_p62, List.forall_mem_cons.mpr ⟨lw_p63, fun _ h => absurd h List.not_mem_nil⟩⟩⟩⟩⟩⟩⟩⟩⟩⟩⟩⟩⟩⟩⟩⟩
theorem lw_p64 : lw_okq (⟨"PathTrust$View", "take", "(I)V"⟩, 9) := ⟨⟨by decide +kernel, by decide +kernel⟩, List.mem_of_getElem? (i := 52) (by decide +kernel), List.mem_of_getElem? (i := 1034) (by decide +kernel), List.mem_of_getElem? (i := 1035) (by decide +kernel)⟩
theorem lw_p65 : lw_okq (⟨"PathTrust$View", "originsWith", "(I)I"⟩, 9) := ⟨⟨by decide +kernel, by decide +kernel⟩, List.mem_of_getElem? (i := 52) (by decide +kernel), List.mem_of_getElem? (i := 1040) (by decide +kernel), List.mem_of_getElem? (i := 1041) (by decide +kernel)⟩
theorem lw_p66 : lw_okq (⟨"PathTrust$Reports", "removeAll", "(II)I"⟩, 2) := ⟨⟨by decide +kernel, by decide +kernel⟩, List.mem_of_getElem? (i := 112) (by decide +kernel), List.mem_of_getElem? (i := 1044) (by decide +kernel), List.mem_of_getElem? (i := 1045) (by decide +kernel)⟩
theorem lw_p67 : lw_okq (⟨"PathTrust", "checkReport", "(II)V"⟩, 8) := ⟨⟨by decide +kernel, by decide +kernel⟩, List.mem_of_getElem? (i := 28) (by decide +kernel), List.mem_of_getElem? (i := 1070) (by decide +kernel), List.mem_of_getElem? (i := 1071) (by decide +kernel)⟩
theorem lw_p68 : lw_okq (⟨"PathTrust", "statusIn", "(II)I"⟩, 8) := ⟨⟨by decide +kernel, by decide +kernel⟩, List.mem_of_getElem? (i := 28) (by decide +kernel), List.mem_of_getElem? (i := 1111) (by decide +kernel), List.mem_of_getElem? (i := 1112) (by decide +kernel)⟩
theorem lw_p69 : lw_okq (⟨"PathTrust$View", "statusOf", "(I)I"⟩, 9) := ⟨⟨by decide +kernel, by decide +kernel⟩, List.mem_of_getElem? (i := 52) (by decide +kernel), List.mem_of_getElem? (i := 1115) (by decide +kernel), List.mem_of_getElem? (i := 1116) (by decide +kernel)⟩
theorem lw_p70 : lw_okq (⟨"PathTrust", "believed", "(LPathTrust$Desk;III)I"⟩, 8) := ⟨⟨by decide +kernel, by decide +kernel⟩, List.mem_of_getElem? (i := 28) (by decide +kernel), List.mem_of_getElem? (i := 1123) (by decide +kernel), List.mem_of_getElem? (i := 1124) (by decide +kernel)⟩
theorem lw_p71 : lw_okq (⟨"PathTrust$View", "largestSet", "()I"⟩, 9) := ⟨⟨by decide +kernel, by decide +kernel⟩, List.mem_of_getElem? (i := 52) (by decide +kernel), List.mem_of_getElem? (i := 1148) (by decide +kernel), List.mem_of_getElem? (i := 1149) (by decide +kernel)⟩
theorem lw_p72 : lw_okq (⟨"PathTrust$View", "originsAround", "(I)I"⟩, 9) := ⟨⟨by decide +kernel, by decide +kernel⟩, List.mem_of_getElem? (i := 52) (by decide +kernel), List.mem_of_getElem? (i := 1152) (by decide +kernel), List.mem_of_getElem? (i := 1153) (by decide +kernel)⟩
theorem lw_p73 : lw_okq (⟨"PathTrust$View", "lowOf", "(I)I"⟩, 9) := ⟨⟨by decide +kernel, by decide +kernel⟩, List.mem_of_getElem? (i := 52) (by decide +kernel), List.mem_of_getElem? (i := 1161) (by decide +kernel), List.mem_of_getElem? (i := 1162) (by decide +kernel)⟩
theorem lw_p74 : lw_okq (⟨"PathTrust$View", "highOf", "(I)I"⟩, 9) := ⟨⟨by decide +kernel, by decide +kernel⟩, List.mem_of_getElem? (i := 52) (by decide +kernel), List.mem_of_getElem? (i := 1166) (by decide +kernel), List.mem_of_getElem? (i := 1167) (by decide +kernel)⟩
theorem lw_p75 : lw_okq (⟨"PathTrust", "bestWay", "(LPathTrust$Desk;II)I"⟩, 8) := ⟨⟨by decide +kernel, by decide +kernel⟩, List.mem_of_getElem? (i := 28) (by decide +kernel), List.mem_of_getElem? (i := 1182) (by decide +kernel), List.mem_of_getElem? (i := 1183) (by decide +kernel)⟩
theorem lw_p76 : lw_okq (⟨"PathTrust", "widthOf", "(LPathTrust$Desk;III)I"⟩, 8) := ⟨⟨by decide +kernel, by decide +kernel⟩, List.mem_of_getElem? (i := 28) (by decide +kernel), List.mem_of_getElem? (i := 1190) (by decide +kernel), List.mem_of_getElem? (i := 1191) (by decide +kernel)⟩
theorem lw_p77 : lw_okq (⟨"PathTrust", "rivalsOf", "(II)I"⟩, 8) := ⟨⟨by decide +kernel, by decide +kernel⟩, List.mem_of_getElem? (i := 28) (by decide +kernel), List.mem_of_getElem? (i := 1198) (by decide +kernel), List.mem_of_getElem? (i := 1199) (by decide +kernel)⟩
def lw_privs_5 : List (MethodName × Nat) := [(⟨"PathTrust$View", "take", "(I)V"⟩, 9), (⟨"PathTrust$View", "originsWith", "(I)I"⟩, 9), (⟨"PathTrust$Reports", "removeAll", "(II)I"⟩, 2), (⟨"PathTrust", "checkReport", "(II)V"⟩, 8), (⟨"PathTrust", "statusIn", "(II)I"⟩, 8), (⟨"PathTrust$View", "statusOf", "(I)I"⟩, 9), (⟨"PathTrust", "believed", "(LPathTrust$Desk;III)I"⟩, 8), (⟨"PathTrust$View", "largestSet", "()I"⟩, 9), (⟨"PathTrust$View", "originsAround", "(I)I"⟩, 9), (⟨"PathTrust$View", "lowOf", "(I)I"⟩, 9), (⟨"PathTrust$View", "highOf", "(I)I"⟩, 9), (⟨"PathTrust", "bestWay", "(LPathTrust$Desk;II)I"⟩, 8), (⟨"PathTrust", "widthOf", "(LPathTrust$Desk;III)I"⟩, 8), (⟨"PathTrust", "rivalsOf", "(II)I"⟩, 8)]
theorem lw_r5 : ∀ q ∈ lw_privs_5, lw_okq q := List.forall_mem_cons.mpr ⟨lw_p64, List.forall_mem_cons.mpr ⟨lw_p65, List.forall_mem_cons.mpr ⟨lw_p66, List.forall_mem_cons.mpr ⟨lw_p67, List.forall_mem_cons.mpr ⟨lw_p68, List.forall_mem_cons.mpr ⟨lw_p69, List.forall_mem_cons.mpr ⟨lw_p70, List.forall_mem_cons.mpr ⟨lw_p71, List.forall_mem_cons.mpr ⟨lw_p72, List.forall_mem_cons.mpr ⟨lw_p73, List.forall_mem_cons.mpr ⟨lw_p74, List.forall_mem_cons.mpr ⟨lw_p75, List.forall_mem_cons.mpr ⟨lw_p76, List.forall_mem_cons.mpr ⟨lw_p77, fun _ h => absurd h List.not_mem_nil⟩⟩⟩⟩⟩⟩⟩⟩⟩⟩⟩⟩⟩⟩
def lw_privs : List (MethodName × Nat) := lw_privs_1 ++ (lw_privs_2 ++ (lw_privs_3 ++ (lw_privs_4 ++ (lw_privs_5))))
def lw_tbl : List Cond := k2_sels lw_privs ++ tables_1
theorem lw_privs_ok : ∀ q ∈ lw_privs, lw_okq q := by
  show ∀ q ∈ lw_privs_1 ++ (lw_privs_2 ++ (lw_privs_3 ++ (lw_privs_4 ++ (lw_privs_5)))), lw_okq q
  exact List.forall_mem_append.mpr ⟨lw_r1, List.forall_mem_append.mpr ⟨lw_r2, List.forall_mem_append.mpr ⟨lw_r3, List.forall_mem_append.mpr ⟨lw_r4, lw_r5⟩⟩⟩⟩
-- ===== end of PART A; then your names; then what follows =====
def RX0 : String := "PathTrust$Buffer"
def TX0 : u_T := fun k => match k with
  | 0 => ("PathTrust$Buffer", "bytes", "[B", true)
  | _ => ("PathTrust$Buffer", "length", "I", false)
def tyX0 : Nat → FieldType := fun k => match k with
  | 0 => .array .byte
  | _ => .int
theorem nmX0 : ∀ a, a < 2 → ∀ b, b < 2 → a ≠ b → (TX0 a).2.1 ≠ (TX0 b).2.1 := by decide +kernel
theorem tyX0_ok : ∀ k, k < 2 → parseFieldDescriptor (TX0 k).2.2.1 = some (tyX0 k) := by decide +kernel
abbrev cX0_init : ByteArray := prog_2_method_1_code
def yX0_init : MethodName := ⟨RX0, "<init>", "(I)V"⟩
abbrev cX0_at : ByteArray := prog_2_method_2_code
def yX0_at : MethodName := ⟨RX0, "at", "(I)I"⟩
abbrev cX0_add : ByteArray := prog_2_method_3_code
def yX0_add : MethodName := ⟨RX0, "add", "(I)V"⟩
abbrev cX0_addFour : ByteArray := prog_2_method_4_code
def yX0_addFour : MethodName := ⟨RX0, "addFour", "(I)V"⟩
abbrev cX0_nameCode : ByteArray := prog_2_method_7_code
def yX0_nameCode : MethodName := ⟨RX0, "nameCode", "(II)I"⟩
def RX1 : String := "PathTrust$Desk"
def TX1 : u_T := fun k => match k with
  | 0 => ("PathTrust$Desk", "rules", "[I", true)
  | 1 => ("PathTrust$Desk", "agents", "LPathTrust$Names;", true)
  | 2 => ("PathTrust$Desk", "ways", "LPathTrust$Names;", true)
  | 3 => ("PathTrust$Desk", "trusts", "[I", true)
  | 4 => ("PathTrust$Desk", "lists", "[LPathTrust$Reports;", true)
  | 5 => ("PathTrust$Desk", "emptyList", "LPathTrust$Reports;", true)
  | 6 => ("PathTrust$Desk", "queue", "LPathTrust$Reports;", true)
  | 7 => ("PathTrust$Desk", "accounts", "[I", true)
  | _ => ("PathTrust$Desk", "time", "I", false)
def tyX1 : Nat → FieldType := fun k => match k with
  | 0 => .array .int
  | 1 => .object "PathTrust$Names"
  | 2 => .object "PathTrust$Names"
  | 3 => .array .int
  | 4 => .array (.object "PathTrust$Reports")
  | 5 => .object "PathTrust$Reports"
  | 6 => .object "PathTrust$Reports"
  | 7 => .array .int
  | _ => .int
theorem nmX1 : ∀ a, a < 9 → ∀ b, b < 9 → a ≠ b → (TX1 a).2.1 ≠ (TX1 b).2.1 := by decide +kernel
theorem tyX1_ok : ∀ k, k < 9 → parseFieldDescriptor (TX1 k).2.2.1 = some (tyX1 k) := by decide +kernel
abbrev cX1_init : ByteArray := prog_3_method_1_code
def yX1_init : MethodName := ⟨RX1, "<init>", "()V"⟩
abbrev cX1_reset : ByteArray := prog_3_method_2_code
def yX1_reset : MethodName := ⟨RX1, "reset", "()V"⟩
abbrev cX1_become : ByteArray := prog_3_method_3_code
def yX1_become : MethodName := ⟨RX1, "become", "(LPathTrust$Desk;)V"⟩
abbrev cX1_rule : ByteArray := prog_3_method_4_code
def yX1_rule : MethodName := ⟨RX1, "rule", "(I)I"⟩
abbrev cX1_putRule : ByteArray := prog_3_method_5_code
def yX1_putRule : MethodName := ⟨RX1, "putRule", "(II)V"⟩
abbrev cX1_listOf : ByteArray := prog_3_method_6_code
def yX1_listOf : MethodName := ⟨RX1, "listOf", "(I)LPathTrust$Reports;"⟩
abbrev cX1_trustIn : ByteArray := prog_3_method_7_code
def yX1_trustIn : MethodName := ⟨RX1, "trustIn", "(II)I"⟩
abbrev cX1_putTrust : ByteArray := prog_3_method_8_code
def yX1_putTrust : MethodName := ⟨RX1, "putTrust", "(III)V"⟩
abbrev cX1_isLinked : ByteArray := prog_3_method_9_code
def yX1_isLinked : MethodName := ⟨RX1, "isLinked", "(II)Z"⟩
abbrev cX1_linkCount : ByteArray := prog_3_method_10_code
def yX1_linkCount : MethodName := ⟨RX1, "linkCount", "()I"⟩
abbrev cX1_tally : ByteArray := prog_3_method_13_code
def yX1_tally : MethodName := ⟨RX1, "tally", "(II)V"⟩
abbrev cX1_accountPlace : ByteArray := prog_3_method_14_code
def yX1_accountPlace : MethodName := ⟨RX1, "accountPlace", "(II)I"⟩
abbrev cX1_isTooOld : ByteArray := prog_3_method_15_code
def yX1_isTooOld : MethodName := ⟨RX1, "isTooOld", "(LPathTrust$Reports;I)Z"⟩
abbrev cX1_driftOf : ByteArray := prog_3_method_16_code
def yX1_driftOf : MethodName := ⟨RX1, "driftOf", "(LPathTrust$Reports;I)I"⟩
abbrev cX1_beliefSpread : ByteArray := prog_3_method_17_code
def yX1_beliefSpread : MethodName := ⟨RX1, "beliefSpread", "(II)I"⟩
abbrev cX1_makeProbe : ByteArray := prog_3_method_18_code
def yX1_makeProbe : MethodName := ⟨RX1, "makeProbe", "(IIII)I"⟩
abbrev cX1_judge : ByteArray := prog_3_method_19_code
def yX1_judge : MethodName := ⟨RX1, "judge", "(III)Z"⟩
abbrev cX1_sendReports : ByteArray := prog_3_method_20_code
def yX1_sendReports : MethodName := ⟨RX1, "sendReports", "(II)I"⟩
abbrev cX1_sendReport : ByteArray := prog_3_method_21_code
def yX1_sendReport : MethodName := ⟨RX1, "sendReport", "(ILPathTrust$Reports;I)V"⟩
abbrev cX1_reasonToRefuse : ByteArray := prog_3_method_22_code
def yX1_reasonToRefuse : MethodName := ⟨RX1, "reasonToRefuse", "(I)I"⟩
abbrev cX1_deliverFirst : ByteArray := prog_3_method_23_code
def yX1_deliverFirst : MethodName := ⟨RX1, "deliverFirst", "(I)I"⟩
abbrev cX1_receive : ByteArray := prog_3_method_24_code
def yX1_receive : MethodName := ⟨RX1, "receive", "(I)Z"⟩
abbrev cX1_makeRounds : ByteArray := prog_3_method_25_code
def yX1_makeRounds : MethodName := ⟨RX1, "makeRounds", "(I)I"⟩
abbrev cX1_letPass : ByteArray := prog_3_method_26_code
def yX1_letPass : MethodName := ⟨RX1, "letPass", "(I)I"⟩
def RX2 : String := "PathTrust$History"
def TX2 : u_T := fun k => match k with
  | 0 => ("PathTrust$History", "desks", "[LPathTrust$Desk;", true)
  | _ => ("PathTrust$History", "count", "I", false)
def tyX2 : Nat → FieldType := fun k => match k with
  | 0 => .array (.object "PathTrust$Desk")
  | _ => .int
theorem nmX2 : ∀ a, a < 2 → ∀ b, b < 2 → a ≠ b → (TX2 a).2.1 ≠ (TX2 b).2.1 := by decide +kernel
theorem tyX2_ok : ∀ k, k < 2 → parseFieldDescriptor (TX2 k).2.2.1 = some (tyX2 k) := by decide +kernel
abbrev cX2_init : ByteArray := prog_4_method_1_code
def yX2_init : MethodName := ⟨RX2, "<init>", "()V"⟩
abbrev cX2_push : ByteArray := prog_4_method_2_code
def yX2_push : MethodName := ⟨RX2, "push", "(LPathTrust$Desk;)V"⟩
abbrev cX2_dropOldest : ByteArray := prog_4_method_3_code
def yX2_dropOldest : MethodName := ⟨RX2, "dropOldest", "()V"⟩
def RX3 : String := "PathTrust$Names"
def TX3 : u_T := fun k => match k with
  | 0 => ("PathTrust$Names", "codes", "[I", true)
  | _ => ("PathTrust$Names", "count", "I", false)
def tyX3 : Nat → FieldType := fun k => match k with
  | 0 => .array .int
  | _ => .int
theorem nmX3 : ∀ a, a < 2 → ∀ b, b < 2 → a ≠ b → (TX3 a).2.1 ≠ (TX3 b).2.1 := by decide +kernel
theorem tyX3_ok : ∀ k, k < 2 → parseFieldDescriptor (TX3 k).2.2.1 = some (tyX3 k) := by decide +kernel
abbrev cX3_init : ByteArray := prog_5_method_1_code
def yX3_init : MethodName := ⟨RX3, "<init>", "()V"⟩
abbrev cX3_find : ByteArray := prog_5_method_2_code
def yX3_find : MethodName := ⟨RX3, "find", "(I)I"⟩
abbrev cX3_add : ByteArray := prog_5_method_3_code
def yX3_add : MethodName := ⟨RX3, "add", "(I)V"⟩
abbrev cX3_copyFrom : ByteArray := prog_5_method_5_code
def yX3_copyFrom : MethodName := ⟨RX3, "copyFrom", "(LPathTrust$Names;)V"⟩
def RX4 : String := "PathTrust$Parser"
def TX4 : u_T := fun k => match k with
  | 0 => ("PathTrust$Parser", "text", "LPathTrust$Buffer;", true)
  | 1 => ("PathTrust$Parser", "desk", "LPathTrust$Desk;", true)
  | 2 => ("PathTrust$Parser", "kind", "I", false)
  | 3 => ("PathTrust$Parser", "start", "I", false)
  | 4 => ("PathTrust$Parser", "end", "I", false)
  | 5 => ("PathTrust$Parser", "value", "I", false)
  | 6 => ("PathTrust$Parser", "code", "I", false)
  | _ => ("PathTrust$Parser", "position", "I", false)
def tyX4 : Nat → FieldType := fun k => match k with
  | 0 => .object "PathTrust$Buffer"
  | 1 => .object "PathTrust$Desk"
  | 2 => .int
  | 3 => .int
  | 4 => .int
  | 5 => .int
  | 6 => .int
  | _ => .int
theorem nmX4 : ∀ a, a < 8 → ∀ b, b < 8 → a ≠ b → (TX4 a).2.1 ≠ (TX4 b).2.1 := by decide +kernel
theorem tyX4_ok : ∀ k, k < 8 → parseFieldDescriptor (TX4 k).2.2.1 = some (tyX4 k) := by decide +kernel
abbrev cX4_init : ByteArray := prog_6_method_1_code
def yX4_init : MethodName := ⟨RX4, "<init>", "(LPathTrust$Buffer;LPathTrust$Desk;)V"⟩
abbrev cX4_parse : ByteArray := prog_6_method_2_code
def yX4_parse : MethodName := ⟨RX4, "parse", "()Z"⟩
abbrev cX4_readRules : ByteArray := prog_6_method_3_code
def yX4_readRules : MethodName := ⟨RX4, "readRules", "()Z"⟩
abbrev cX4_readRule : ByteArray := prog_6_method_4_code
def yX4_readRule : MethodName := ⟨RX4, "readRule", "(Ljava/lang/String;I)Z"⟩
abbrev cX4_readNewName : ByteArray := prog_6_method_5_code
def yX4_readNewName : MethodName := ⟨RX4, "readNewName", "(LPathTrust$Names;)Z"⟩
abbrev cX4_readLink : ByteArray := prog_6_method_6_code
def yX4_readLink : MethodName := ⟨RX4, "readLink", "()Z"⟩
abbrev cX4_readProbe : ByteArray := prog_6_method_7_code
def yX4_readProbe : MethodName := ⟨RX4, "readProbe", "()Z"⟩
abbrev cX4_readWord : ByteArray := prog_6_method_8_code
def yX4_readWord : MethodName := ⟨RX4, "readWord", "(Ljava/lang/String;)Z"⟩
abbrev cX4_readSemicolon : ByteArray := prog_6_method_9_code
def yX4_readSemicolon : MethodName := ⟨RX4, "readSemicolon", "()Z"⟩
abbrev cX4_readNumber : ByteArray := prog_6_method_10_code
def yX4_readNumber : MethodName := ⟨RX4, "readNumber", "(II)Z"⟩
abbrev cX4_isNameOf : ByteArray := prog_6_method_11_code
def yX4_isNameOf : MethodName := ⟨RX4, "isNameOf", "(LPathTrust$Names;)Z"⟩
abbrev cX4_isName : ByteArray := prog_6_method_12_code
def yX4_isName : MethodName := ⟨RX4, "isName", "()Z"⟩
abbrev cX4_isWord : ByteArray := prog_6_method_13_code
def yX4_isWord : MethodName := ⟨RX4, "isWord", "(Ljava/lang/String;)Z"⟩
abbrev cX4_fail : ByteArray := prog_6_method_14_code
def yX4_fail : MethodName := ⟨RX4, "fail", "(I)Z"⟩
abbrev cX4_next : ByteArray := prog_6_method_15_code
def yX4_next : MethodName := ⟨RX4, "next", "()V"⟩
abbrev cX4_kindOf : ByteArray := prog_6_method_16_code
def yX4_kindOf : MethodName := ⟨RX4, "kindOf", "(I)I"⟩
def RX5 : String := "PathTrust$Reports"
def TX5 : u_T := fun k => match k with
  | 0 => ("PathTrust$Reports", "cells", "[I", true)
  | _ => ("PathTrust$Reports", "count", "I", false)
def tyX5 : Nat → FieldType := fun k => match k with
  | 0 => .array .int
  | _ => .int
theorem nmX5 : ∀ a, a < 2 → ∀ b, b < 2 → a ≠ b → (TX5 a).2.1 ≠ (TX5 b).2.1 := by decide +kernel
theorem tyX5_ok : ∀ k, k < 2 → parseFieldDescriptor (TX5 k).2.2.1 = some (tyX5 k) := by decide +kernel
abbrev cX5_init : ByteArray := prog_7_method_1_code
def yX5_init : MethodName := ⟨RX5, "<init>", "(I)V"⟩
abbrev cX5_isFull : ByteArray := prog_7_method_2_code
def yX5_isFull : MethodName := ⟨RX5, "isFull", "()Z"⟩
abbrev cX5_get : ByteArray := prog_7_method_3_code
def yX5_get : MethodName := ⟨RX5, "get", "(II)I"⟩
abbrev cX5_put : ByteArray := prog_7_method_4_code
def yX5_put : MethodName := ⟨RX5, "put", "(III)V"⟩
abbrev cX5_rowOf : ByteArray := prog_7_method_5_code
def yX5_rowOf : MethodName := ⟨RX5, "rowOf", "(II)I"⟩
abbrev cX5_addRow : ByteArray := prog_7_method_6_code
def yX5_addRow : MethodName := ⟨RX5, "addRow", "()I"⟩
abbrev cX5_addCopy : ByteArray := prog_7_method_7_code
def yX5_addCopy : MethodName := ⟨RX5, "addCopy", "(LPathTrust$Reports;I)I"⟩
abbrev cX5_removeRow : ByteArray := prog_7_method_8_code
def yX5_removeRow : MethodName := ⟨RX5, "removeRow", "(I)V"⟩
abbrev cX5_removeFirst : ByteArray := prog_7_method_9_code
def yX5_removeFirst : MethodName := ⟨RX5, "removeFirst", "(I)V"⟩
abbrev cX5_closeGap : ByteArray := prog_7_method_10_code
def yX5_closeGap : MethodName := ⟨RX5, "closeGap", "(II)V"⟩
abbrev cX5_removeAll : ByteArray := prog_7_method_11_code
def yX5_removeAll : MethodName := ⟨RX5, "removeAll", "(II)I"⟩
abbrev cX5_lowMoved : ByteArray := prog_7_method_12_code
def yX5_lowMoved : MethodName := ⟨RX5, "lowMoved", "(II)I"⟩
abbrev cX5_highMoved : ByteArray := prog_7_method_13_code
def yX5_highMoved : MethodName := ⟨RX5, "highMoved", "(II)I"⟩
abbrev cX5_copyFrom : ByteArray := prog_7_method_14_code
def yX5_copyFrom : MethodName := ⟨RX5, "copyFrom", "(LPathTrust$Reports;)V"⟩
def RX6 : String := "PathTrust$View"
def TX6 : u_T := fun k => match k with
  | 0 => ("PathTrust$View", "rows", "[I", true)
  | 1 => ("PathTrust$View", "origins", "[I", true)
  | 2 => ("PathTrust$View", "ranks", "[I", true)
  | 3 => ("PathTrust$View", "lows", "[I", true)
  | 4 => ("PathTrust$View", "highs", "[I", true)
  | 5 => ("PathTrust$View", "statuses", "[I", true)
  | 6 => ("PathTrust$View", "count", "I", false)
  | 7 => ("PathTrust$View", "low", "I", false)
  | _ => ("PathTrust$View", "high", "I", false)
def tyX6 : Nat → FieldType := fun k => match k with
  | 0 => .array .int
  | 1 => .array .int
  | 2 => .array .int
  | 3 => .array .int
  | 4 => .array .int
  | 5 => .array .int
  | 6 => .int
  | 7 => .int
  | _ => .int
theorem nmX6 : ∀ a, a < 9 → ∀ b, b < 9 → a ≠ b → (TX6 a).2.1 ≠ (TX6 b).2.1 := by decide +kernel
theorem tyX6_ok : ∀ k, k < 9 → parseFieldDescriptor (TX6 k).2.2.1 = some (tyX6 k) := by decide +kernel
abbrev cX6_init : ByteArray := prog_8_method_1_code
def yX6_init : MethodName := ⟨RX6, "<init>", "()V"⟩
abbrev cX6_form : ByteArray := prog_8_method_2_code
def yX6_form : MethodName := ⟨RX6, "form", "(LPathTrust$Desk;III)V"⟩
abbrev cX6_note : ByteArray := prog_8_method_3_code
def yX6_note : MethodName := ⟨RX6, "note", "(LPathTrust$Desk;III)V"⟩
abbrev cX6_nextToTake : ByteArray := prog_8_method_4_code
def yX6_nextToTake : MethodName := ⟨RX6, "nextToTake", "()I"⟩
abbrev cX6_take : ByteArray := prog_8_method_5_code
def yX6_take : MethodName := ⟨RX6, "take", "(I)V"⟩
abbrev cX6_statusOf : ByteArray := prog_8_method_6_code
def yX6_statusOf : MethodName := ⟨RX6, "statusOf", "(I)I"⟩
abbrev cX6_originsWith : ByteArray := prog_8_method_7_code
def yX6_originsWith : MethodName := ⟨RX6, "originsWith", "(I)I"⟩
abbrev cX6_largestSet : ByteArray := prog_8_method_8_code
def yX6_largestSet : MethodName := ⟨RX6, "largestSet", "()I"⟩
abbrev cX6_originsAround : ByteArray := prog_8_method_9_code
def yX6_originsAround : MethodName := ⟨RX6, "originsAround", "(I)I"⟩
abbrev cX6_lowOf : ByteArray := prog_8_method_10_code
def yX6_lowOf : MethodName := ⟨RX6, "lowOf", "(I)I"⟩
abbrev cX6_highOf : ByteArray := prog_8_method_11_code
def yX6_highOf : MethodName := ⟨RX6, "highOf", "(I)I"⟩
def RX7 : String := "PathTrust"
def TX7 : u_T := fun k => match k with
  | 0 => ("PathTrust", "input", "LPathTrust$Buffer;", true)
  | 1 => ("PathTrust", "output", "LPathTrust$Buffer;", true)
  | 2 => ("PathTrust", "view", "LPathTrust$View;", true)
  | 3 => ("PathTrust", "now", "LPathTrust$Desk;", true)
  | 4 => ("PathTrust", "trial", "LPathTrust$Desk;", true)
  | 5 => ("PathTrust", "parser", "LPathTrust$Parser;", true)
  | 6 => ("PathTrust", "history", "LPathTrust$History;", true)
  | _ => ("PathTrust", "slots", "[LPathTrust$Desk;", true)
def tyX7 : Nat → FieldType := fun k => match k with
  | 0 => .object "PathTrust$Buffer"
  | 1 => .object "PathTrust$Buffer"
  | 2 => .object "PathTrust$View"
  | 3 => .object "PathTrust$Desk"
  | 4 => .object "PathTrust$Desk"
  | 5 => .object "PathTrust$Parser"
  | 6 => .object "PathTrust$History"
  | _ => .array (.object "PathTrust$Desk")
theorem nmX7 : ∀ a, a < 8 → ∀ b, b < 8 → a ≠ b → (TX7 a).2.1 ≠ (TX7 b).2.1 := by decide +kernel
theorem tyX7_ok : ∀ k, k < 8 → parseFieldDescriptor (TX7 k).2.2.1 = some (tyX7 k) := by decide +kernel
abbrev cX7_init : ByteArray := prog_1_method_1_code
def yX7_init : MethodName := ⟨RX7, "<init>", "()V"⟩
abbrev cX7_append : ByteArray := prog_1_method_2_code
def yX7_append : MethodName := ⟨RX7, "append", "(IIIII)I"⟩
abbrev cX7_truncate : ByteArray := prog_1_method_3_code
def yX7_truncate : MethodName := ⟨RX7, "truncate", "(I)V"⟩
abbrev cX7_load : ByteArray := prog_1_method_4_code
def yX7_load : MethodName := ⟨RX7, "load", "()I"⟩
abbrev cX7_errorCode : ByteArray := prog_1_method_5_code
def yX7_errorCode : MethodName := ⟨RX7, "errorCode", "()I"⟩
abbrev cX7_errorPosition : ByteArray := prog_1_method_6_code
def yX7_errorPosition : MethodName := ⟨RX7, "errorPosition", "()I"⟩
abbrev cX7_property : ByteArray := prog_1_method_9_code
def yX7_property : MethodName := ⟨RX7, "property", "(I)I"⟩
abbrev cX7_trust : ByteArray := prog_1_method_10_code
def yX7_trust : MethodName := ⟨RX7, "trust", "(II)I"⟩
abbrev cX7_reports : ByteArray := prog_1_method_15_code
def yX7_reports : MethodName := ⟨RX7, "reports", "(I)I"⟩
abbrev cX7_report : ByteArray := prog_1_method_16_code
def yX7_report : MethodName := ⟨RX7, "report", "(III)I"⟩
abbrev cX7_status : ByteArray := prog_1_method_17_code
def yX7_status : MethodName := ⟨RX7, "status", "(II)I"⟩
abbrev cX7_moved : ByteArray := prog_1_method_18_code
def yX7_moved : MethodName := ⟨RX7, "moved", "(III)I"⟩
abbrev cX7_own : ByteArray := prog_1_method_19_code
def yX7_own : MethodName := ⟨RX7, "own", "(II)I"⟩
abbrev cX7_belief : ByteArray := prog_1_method_20_code
def yX7_belief : MethodName := ⟨RX7, "belief", "(III)I"⟩
abbrev cX7_sources : ByteArray := prog_1_method_21_code
def yX7_sources : MethodName := ⟨RX7, "sources", "(II)I"⟩
abbrev cX7_contradicted : ByteArray := prog_1_method_22_code
def yX7_contradicted : MethodName := ⟨RX7, "contradicted", "(II)I"⟩
abbrev cX7_majority : ByteArray := prog_1_method_23_code
def yX7_majority : MethodName := ⟨RX7, "majority", "(II)I"⟩
abbrev cX7_majorityBound : ByteArray := prog_1_method_24_code
def yX7_majorityBound : MethodName := ⟨RX7, "majorityBound", "(III)I"⟩
abbrev cX7_best : ByteArray := prog_1_method_25_code
def yX7_best : MethodName := ⟨RX7, "best", "(II)I"⟩
abbrev cX7_rivals : ByteArray := prog_1_method_26_code
def yX7_rivals : MethodName := ⟨RX7, "rivals", "(I)I"⟩
abbrev cX7_nextProbe : ByteArray := prog_1_method_27_code
def yX7_nextProbe : MethodName := ⟨RX7, "nextProbe", "(I)I"⟩
abbrev cX7_regret : ByteArray := prog_1_method_28_code
def yX7_regret : MethodName := ⟨RX7, "regret", "(I)I"⟩
abbrev cX7_saved : ByteArray := prog_1_method_29_code
def yX7_saved : MethodName := ⟨RX7, "saved", "(I)I"⟩
abbrev cX7_agreeing : ByteArray := prog_1_method_30_code
def yX7_agreeing : MethodName := ⟨RX7, "agreeing", "(II)I"⟩
abbrev cX7_common : ByteArray := prog_1_method_31_code
def yX7_common : MethodName := ⟨RX7, "common", "(II)I"⟩
abbrev cX7_probe : ByteArray := prog_1_method_42_code
def yX7_probe : MethodName := ⟨RX7, "probe", "(IIII)I"⟩
abbrev cX7_share : ByteArray := prog_1_method_43_code
def yX7_share : MethodName := ⟨RX7, "share", "(I)I"⟩
abbrev cX7_relay : ByteArray := prog_1_method_44_code
def yX7_relay : MethodName := ⟨RX7, "relay", "(I)I"⟩
abbrev cX7_deliver : ByteArray := prog_1_method_45_code
def yX7_deliver : MethodName := ⟨RX7, "deliver", "(I)I"⟩
abbrev cX7_exchange : ByteArray := prog_1_method_47_code
def yX7_exchange : MethodName := ⟨RX7, "exchange", "(I)I"⟩
abbrev cX7_pass : ByteArray := prog_1_method_48_code
def yX7_pass : MethodName := ⟨RX7, "pass", "(I)I"⟩
abbrev cX7_link : ByteArray := prog_1_method_49_code
def yX7_link : MethodName := ⟨RX7, "link", "(IIZ)Z"⟩
abbrev cX7_setRule : ByteArray := prog_1_method_51_code
def yX7_setRule : MethodName := ⟨RX7, "setRule", "(II)I"⟩
abbrev cX7_forget : ByteArray := prog_1_method_52_code
def yX7_forget : MethodName := ⟨RX7, "forget", "(II)I"⟩
abbrev cX7_cleanse : ByteArray := prog_1_method_53_code
def yX7_cleanse : MethodName := ⟨RX7, "cleanse", "(I)I"⟩
abbrev cX7_checkAgent : ByteArray := prog_1_method_61_code
def yX7_checkAgent : MethodName := ⟨RX7, "checkAgent", "(I)V"⟩
abbrev cX7_checkWay : ByteArray := prog_1_method_62_code
def yX7_checkWay : MethodName := ⟨RX7, "checkWay", "(I)V"⟩
abbrev cX7_checkReport : ByteArray := prog_1_method_63_code
def yX7_checkReport : MethodName := ⟨RX7, "checkReport", "(II)V"⟩
abbrev cX7_checkRange : ByteArray := prog_1_method_65_code
def yX7_checkRange : MethodName := ⟨RX7, "checkRange", "(III)V"⟩
abbrev cX7_checkBounds : ByteArray := prog_1_method_66_code
def yX7_checkBounds : MethodName := ⟨RX7, "checkBounds", "(II)V"⟩
abbrev cX7_isRuleValue : ByteArray := prog_1_method_67_code
def yX7_isRuleValue : MethodName := ⟨RX7, "isRuleValue", "(II)Z"⟩
abbrev cX7_contains : ByteArray := prog_1_method_68_code
def yX7_contains : MethodName := ⟨RX7, "contains", "(II)Z"⟩
abbrev cX7_statusIn : ByteArray := prog_1_method_70_code
def yX7_statusIn : MethodName := ⟨RX7, "statusIn", "(II)I"⟩
abbrev cX7_originsOf : ByteArray := prog_1_method_71_code
def yX7_originsOf : MethodName := ⟨RX7, "originsOf", "(III)I"⟩
abbrev cX7_believed : ByteArray := prog_1_method_72_code
def yX7_believed : MethodName := ⟨RX7, "believed", "(LPathTrust$Desk;III)I"⟩
abbrev cX7_widthOf : ByteArray := prog_1_method_73_code
def yX7_widthOf : MethodName := ⟨RX7, "widthOf", "(LPathTrust$Desk;III)I"⟩
abbrev cX7_bestWay : ByteArray := prog_1_method_75_code
def yX7_bestWay : MethodName := ⟨RX7, "bestWay", "(LPathTrust$Desk;II)I"⟩
abbrev cX7_rivalsOf : ByteArray := prog_1_method_76_code
def yX7_rivalsOf : MethodName := ⟨RX7, "rivalsOf", "(II)I"⟩
def RX8 : String := "PathTrustModel"
def TX8 : u_T := fun k => match k with
  | _ => ("", "", "", false)
def tyX8 : Nat → FieldType := fun k => match k with
  | _ => .int
theorem nmX8 : ∀ a, a < 0 → ∀ b, b < 0 → a ≠ b → (TX8 a).2.1 ≠ (TX8 b).2.1 := by decide +kernel
theorem tyX8_ok : ∀ k, k < 0 → parseFieldDescriptor (TX8 k).2.2.1 = some (tyX8 k) := by decide +kernel
def RJx145de : String := "java/io/Serializable"
def TJx145de : u_T := fun k => match k with
  | _ => ("", "", "", false)
def tyJx145de : Nat → FieldType := fun k => match k with
  | _ => .int
theorem nmJx145de : ∀ a, a < 0 → ∀ b, b < 0 → a ≠ b → (TJx145de a).2.1 ≠ (TJx145de b).2.1 := by decide +kernel
theorem tyJx145de_ok : ∀ k, k < 0 → parseFieldDescriptor (TJx145de k).2.2.1 = some (tyJx145de k) := by decide +kernel
def RJ5 : String := "java/lang/AbstractStringBuilder"
def TJ5 : u_T := fun k => match k with
  | _ => ("", "", "", false)
def tyJ5 : Nat → FieldType := fun k => match k with
  | _ => .int
theorem nmJ5 : ∀ a, a < 0 → ∀ b, b < 0 → a ≠ b → (TJ5 a).2.1 ≠ (TJ5 b).2.1 := by decide +kernel
theorem tyJ5_ok : ∀ k, k < 0 → parseFieldDescriptor (TJ5 k).2.2.1 = some (tyJ5 k) := by decide +kernel
abbrev cJ5_init_a7421 : ByteArray := prog_11_method_3_code
def yJ5_init_a7421 : MethodName := ⟨RJ5, "<init>", "(Ljava/lang/String;)V"⟩
abbrev cJ5_length_8abf5 : ByteArray := prog_11_method_6_code
def yJ5_length_8abf5 : MethodName := ⟨RJ5, "length", "()I"⟩
abbrev cJ5_ensureCapacityInternal_d00df : ByteArray := prog_11_method_9_code
def yJ5_ensureCapacityInternal_d00df : MethodName := ⟨RJ5, "ensureCapacityInternal", "(I)V"⟩
abbrev cJ5_newCapacity_0f7a4 : ByteArray := prog_11_method_10_code
def yJ5_newCapacity_0f7a4 : MethodName := ⟨RJ5, "newCapacity", "(I)I"⟩
abbrev cJ5_inflate_da8c8 : ByteArray := prog_11_method_11_code
def yJ5_inflate_da8c8 : MethodName := ⟨RJ5, "inflate", "()V"⟩
abbrev cJ5_append_cf1ce : ByteArray := prog_11_method_22_code
def yJ5_append_cf1ce : MethodName := ⟨RJ5, "append", "(Ljava/lang/String;)Ljava/lang/AbstractStringBuilder;"⟩
abbrev cJ5_appendNull_278bc : ByteArray := prog_11_method_26_code
def yJ5_appendNull_278bc : MethodName := ⟨RJ5, "appendNull", "()Ljava/lang/AbstractStringBuilder;"⟩
abbrev cJ5_append_3fe6f : ByteArray := prog_11_method_31_code
def yJ5_append_3fe6f : MethodName := ⟨RJ5, "append", "(C)Ljava/lang/AbstractStringBuilder;"⟩
abbrev cJ5_append_c97b9 : ByteArray := prog_11_method_32_code
def yJ5_append_c97b9 : MethodName := ⟨RJ5, "append", "(I)Ljava/lang/AbstractStringBuilder;"⟩
abbrev cJ5_getValue_6d5f1 : ByteArray := prog_11_method_64_code
def yJ5_getValue_6d5f1 : MethodName := ⟨RJ5, "getValue", "()[B"⟩
abbrev cJ5_isLatin1_aae02 : ByteArray := prog_11_method_68_code
def yJ5_isLatin1_aae02 : MethodName := ⟨RJ5, "isLatin1", "()Z"⟩
abbrev cJ5_inflateIfNeededFor_a7421 : ByteArray := prog_11_method_71_code
def yJ5_inflateIfNeededFor_a7421 : MethodName := ⟨RJ5, "inflateIfNeededFor", "(Ljava/lang/String;)V"⟩
abbrev cJ5_putStringAt_47b60 : ByteArray := prog_11_method_73_code
def yJ5_putStringAt_47b60 : MethodName := ⟨RJ5, "putStringAt", "(ILjava/lang/String;)V"⟩
def RJx2cfe8 : String := "java/lang/Appendable"
def TJx2cfe8 : u_T := fun k => match k with
  | _ => ("", "", "", false)
def tyJx2cfe8 : Nat → FieldType := fun k => match k with
  | _ => .int
theorem nmJx2cfe8 : ∀ a, a < 0 → ∀ b, b < 0 → a ≠ b → (TJx2cfe8 a).2.1 ≠ (TJx2cfe8 b).2.1 := by decide +kernel
theorem tyJx2cfe8_ok : ∀ k, k < 0 → parseFieldDescriptor (TJx2cfe8 k).2.2.1 = some (tyJx2cfe8 k) := by decide +kernel
def RJx9f9b0 : String := "java/lang/CharSequence"
def TJx9f9b0 : u_T := fun k => match k with
  | _ => ("", "", "", false)
def tyJx9f9b0 : Nat → FieldType := fun k => match k with
  | _ => .int
theorem nmJx9f9b0 : ∀ a, a < 0 → ∀ b, b < 0 → a ≠ b → (TJx9f9b0 a).2.1 ≠ (TJx9f9b0 b).2.1 := by decide +kernel
theorem tyJx9f9b0_ok : ∀ k, k < 0 → parseFieldDescriptor (TJx9f9b0 k).2.2.1 = some (tyJx9f9b0 k) := by decide +kernel
def RJx8e188 : String := "java/lang/Cloneable"
def TJx8e188 : u_T := fun k => match k with
  | _ => ("", "", "", false)
def tyJx8e188 : Nat → FieldType := fun k => match k with
  | _ => .int
theorem nmJx8e188 : ∀ a, a < 0 → ∀ b, b < 0 → a ≠ b → (TJx8e188 a).2.1 ≠ (TJx8e188 b).2.1 := by decide +kernel
theorem tyJx8e188_ok : ∀ k, k < 0 → parseFieldDescriptor (TJx8e188 k).2.2.1 = some (tyJx8e188 k) := by decide +kernel
def RJxb160c : String := "java/lang/Comparable"
def TJxb160c : u_T := fun k => match k with
  | _ => ("", "", "", false)
def tyJxb160c : Nat → FieldType := fun k => match k with
  | _ => .int
theorem nmJxb160c : ∀ a, a < 0 → ∀ b, b < 0 → a ≠ b → (TJxb160c a).2.1 ≠ (TJxb160c b).2.1 := by decide +kernel
theorem tyJxb160c_ok : ∀ k, k < 0 → parseFieldDescriptor (TJxb160c k).2.2.1 = some (tyJxb160c k) := by decide +kernel
def RJ6 : String := "java/lang/Integer"
def TJ6 : u_T := fun k => match k with
  | _ => ("", "", "", false)
def tyJ6 : Nat → FieldType := fun k => match k with
  | _ => .int
theorem nmJ6 : ∀ a, a < 0 → ∀ b, b < 0 → a ≠ b → (TJ6 a).2.1 ≠ (TJ6 b).2.1 := by decide +kernel
theorem tyJ6_ok : ∀ k, k < 0 → parseFieldDescriptor (TJ6 k).2.2.1 = some (tyJ6 k) := by decide +kernel
abbrev cJ6_getChars_ba4f3 : ByteArray := prog_17_method_12_code
def yJ6_getChars_ba4f3 : MethodName := ⟨RJ6, "getChars", "(II[B)I"⟩
abbrev cJ6_stringSize_0f7a4 : ByteArray := prog_17_method_13_code
def yJ6_stringSize_0f7a4 : MethodName := ⟨RJ6, "stringSize", "(I)I"⟩
abbrev cJ6_bitCount_0f7a4 : ByteArray := prog_17_method_49_code
def yJ6_bitCount_0f7a4 : MethodName := ⟨RJ6, "bitCount", "(I)I"⟩
def RJ9 : String := "java/lang/Math"
def TJ9 : u_T := fun k => match k with
  | _ => ("", "", "", false)
def tyJ9 : Nat → FieldType := fun k => match k with
  | _ => .int
theorem nmJ9 : ∀ a, a < 0 → ∀ b, b < 0 → a ≠ b → (TJ9 a).2.1 ≠ (TJ9 b).2.1 := by decide +kernel
theorem tyJ9_ok : ∀ k, k < 0 → parseFieldDescriptor (TJ9 k).2.2.1 = some (tyJ9 k) := by decide +kernel
abbrev cJ9_max_7cf53 : ByteArray := prog_18_method_65_code
def yJ9_max_7cf53 : MethodName := ⟨RJ9, "max", "(II)I"⟩
abbrev cJ9_min_7cf53 : ByteArray := prog_18_method_69_code
def yJ9_min_7cf53 : MethodName := ⟨RJ9, "min", "(II)I"⟩
def RJxd2413 : String := "java/lang/Number"
def TJxd2413 : u_T := fun k => match k with
  | _ => ("", "", "", false)
def tyJxd2413 : Nat → FieldType := fun k => match k with
  | _ => .int
theorem nmJxd2413 : ∀ a, a < 0 → ∀ b, b < 0 → a ≠ b → (TJxd2413 a).2.1 ≠ (TJxd2413 b).2.1 := by decide +kernel
theorem tyJxd2413_ok : ∀ k, k < 0 → parseFieldDescriptor (TJxd2413 k).2.2.1 = some (tyJxd2413 k) := by decide +kernel
def RJ0 : String := "java/lang/String"
def TJ0 : u_T := fun k => match k with
  | 0 => ("java/lang/String", "value", "[B", true)
  | 1 => ("java/lang/String", "coder", "B", true)
  | 2 => ("java/lang/String", "hash", "I", false)
  | _ => ("java/lang/String", "hashIsZero", "Z", false)
def tyJ0 : Nat → FieldType := fun k => match k with
  | 0 => .array .byte
  | 1 => .byte
  | 2 => .int
  | _ => .boolean
theorem nmJ0 : ∀ a, a < 4 → ∀ b, b < 4 → a ≠ b → (TJ0 a).2.1 ≠ (TJ0 b).2.1 := by decide +kernel
theorem tyJ0_ok : ∀ k, k < 4 → parseFieldDescriptor (TJ0 k).2.2.1 = some (tyJ0 k) := by decide +kernel
abbrev cJ0_init_81219 : ByteArray := prog_21_method_53_code
def yJ0_init_81219 : MethodName := ⟨RJ0, "<init>", "(Ljava/lang/StringBuilder;)V"⟩
abbrev cJ0_length_8abf5 : ByteArray := prog_21_method_54_code
def yJ0_length_8abf5 : MethodName := ⟨RJ0, "length", "()I"⟩
abbrev cJ0_charAt_5068e : ByteArray := prog_21_method_56_code
def yJ0_charAt_5068e : MethodName := ⟨RJ0, "charAt", "(I)C"⟩
abbrev cJ0_getBytes_840e7 : ByteArray := prog_21_method_147_code
def yJ0_getBytes_840e7 : MethodName := ⟨RJ0, "getBytes", "([BIB)V"⟩
abbrev cJ0_init_db425 : ByteArray := prog_21_method_150_code
def yJ0_init_db425 : MethodName := ⟨RJ0, "<init>", "(Ljava/lang/AbstractStringBuilder;Ljava/lang/Void;)V"⟩
abbrev cJ0_coder_7d493 : ByteArray := prog_21_method_152_code
def yJ0_coder_7d493 : MethodName := ⟨RJ0, "coder", "()B"⟩
abbrev cJ0_isLatin1_aae02 : ByteArray := prog_21_method_154_code
def yJ0_isLatin1_aae02 : MethodName := ⟨RJ0, "isLatin1", "()Z"⟩
abbrev cJ0_checkIndex_df160 : ByteArray := prog_21_method_155_code
def yJ0_checkIndex_df160 : MethodName := ⟨RJ0, "checkIndex", "(II)V"⟩
abbrev cJ0_checkBoundsOffCount_cabcc : ByteArray := prog_21_method_157_code
def yJ0_checkBoundsOffCount_cabcc : MethodName := ⟨RJ0, "checkBoundsOffCount", "(III)I"⟩
abbrev cJ0_checkBoundsBeginEnd_23922 : ByteArray := prog_21_method_158_code
def yJ0_checkBoundsBeginEnd_23922 : MethodName := ⟨RJ0, "checkBoundsBeginEnd", "(III)V"⟩
def RJ4 : String := "java/lang/StringBuilder"
def TJ4 : u_T := fun k => match k with
  | 0 => ("java/lang/AbstractStringBuilder", "value", "[B", false)
  | 1 => ("java/lang/AbstractStringBuilder", "coder", "B", false)
  | 2 => ("java/lang/AbstractStringBuilder", "maybeLatin1", "Z", false)
  | _ => ("java/lang/AbstractStringBuilder", "count", "I", false)
def tyJ4 : Nat → FieldType := fun k => match k with
  | 0 => .array .byte
  | 1 => .byte
  | 2 => .boolean
  | _ => .int
theorem nmJ4 : ∀ a, a < 4 → ∀ b, b < 4 → a ≠ b → (TJ4 a).2.1 ≠ (TJ4 b).2.1 := by decide +kernel
theorem tyJ4_ok : ∀ k, k < 4 → parseFieldDescriptor (TJ4 k).2.2.1 = some (tyJ4 k) := by decide +kernel
abbrev cJ4_init_a7421 : ByteArray := prog_22_method_3_code
def yJ4_init_a7421 : MethodName := ⟨RJ4, "<init>", "(Ljava/lang/String;)V"⟩
abbrev cJ4_append_15ec4 : ByteArray := prog_22_method_7_code
def yJ4_append_15ec4 : MethodName := ⟨RJ4, "append", "(Ljava/lang/String;)Ljava/lang/StringBuilder;"⟩
abbrev cJ4_append_cf468 : ByteArray := prog_22_method_14_code
def yJ4_append_cf468 : MethodName := ⟨RJ4, "append", "(C)Ljava/lang/StringBuilder;"⟩
abbrev cJ4_append_bf812 : ByteArray := prog_22_method_15_code
def yJ4_append_bf812 : MethodName := ⟨RJ4, "append", "(I)Ljava/lang/StringBuilder;"⟩
abbrev cJ4_toString_0e30d : ByteArray := prog_22_method_42_code
def yJ4_toString_0e30d : MethodName := ⟨RJ4, "toString", "()Ljava/lang/String;"⟩
abbrev cJ4_append_cf1ce : ByteArray := prog_22_method_80_code
def yJ4_append_cf1ce : MethodName := ⟨RJ4, "append", "(Ljava/lang/String;)Ljava/lang/AbstractStringBuilder;"⟩
abbrev cJ4_length_8abf5 : ByteArray := prog_22_method_93_code
def yJ4_length_8abf5 : MethodName := ⟨RJ4, "length", "()I"⟩
def RJ1 : String := "java/lang/StringLatin1"
def TJ1 : u_T := fun k => match k with
  | _ => ("", "", "", false)
def tyJ1 : Nat → FieldType := fun k => match k with
  | _ => .int
theorem nmJ1 : ∀ a, a < 0 → ∀ b, b < 0 → a ≠ b → (TJ1 a).2.1 ≠ (TJ1 b).2.1 := by decide +kernel
theorem tyJ1_ok : ∀ k, k < 0 → parseFieldDescriptor (TJ1 k).2.2.1 = some (tyJ1 k) := by decide +kernel
abbrev cJ1_charAt_3b067 : ByteArray := prog_23_method_2_code
def yJ1_charAt_3b067 : MethodName := ⟨RJ1, "charAt", "([BI)C"⟩
abbrev cJ1_canEncode_fc78d : ByteArray := prog_23_method_3_code
def yJ1_canEncode_fc78d : MethodName := ⟨RJ1, "canEncode", "(C)Z"⟩
abbrev cJ1_inflate_0e8fd : ByteArray := prog_23_method_50_code
def yJ1_inflate_0e8fd : MethodName := ⟨RJ1, "inflate", "([BI[BII)V"⟩
def RJ2 : String := "java/lang/StringUTF16"
def TJ2 : u_T := fun k => match k with
  | _ => ("", "", "", false)
def tyJ2 : Nat → FieldType := fun k => match k with
  | _ => .int
theorem nmJ2 : ∀ a, a < 0 → ∀ b, b < 0 → a ≠ b → (TJ2 a).2.1 ≠ (TJ2 b).2.1 := by decide +kernel
theorem tyJ2_ok : ∀ k, k < 0 → parseFieldDescriptor (TJ2 k).2.2.1 = some (tyJ2 k) := by decide +kernel
abbrev cJ2_newBytesFor_77867 : ByteArray := prog_24_method_2_code
def yJ2_newBytesFor_77867 : MethodName := ⟨RJ2, "newBytesFor", "(I)[B"⟩
abbrev cJ2_newBytesLength_0f7a4 : ByteArray := prog_24_method_3_code
def yJ2_newBytesLength_0f7a4 : MethodName := ⟨RJ2, "newBytesLength", "(I)I"⟩
abbrev cJ2_putChar_b72d1 : ByteArray := prog_24_method_4_code
def yJ2_putChar_b72d1 : MethodName := ⟨RJ2, "putChar", "([BII)V"⟩
abbrev cJ2_getChar_3b067 : ByteArray := prog_24_method_5_code
def yJ2_getChar_3b067 : MethodName := ⟨RJ2, "getChar", "([BI)C"⟩
abbrev cJ2_length_9d52b : ByteArray := prog_24_method_6_code
def yJ2_length_9d52b : MethodName := ⟨RJ2, "length", "([B)I"⟩
abbrev cJ2_coderFromArrayLen_85cad : ByteArray := prog_24_method_15_code
def yJ2_coderFromArrayLen_85cad : MethodName := ⟨RJ2, "coderFromArrayLen", "([BI)B"⟩
abbrev cJ2_compress_39247 : ByteArray := prog_24_method_17_code
def yJ2_compress_39247 : MethodName := ⟨RJ2, "compress", "([BII)[B"⟩
abbrev cJ2_compress_5af95 : ByteArray := prog_24_method_22_code
def yJ2_compress_5af95 : MethodName := ⟨RJ2, "compress", "([BI[BII)I"⟩
abbrev cJ2_putCharSB_b72d1 : ByteArray := prog_24_method_71_code
def yJ2_putCharSB_b72d1 : MethodName := ⟨RJ2, "putCharSB", "([BII)V"⟩
abbrev cJ2_getChars_46870 : ByteArray := prog_24_method_77_code
def yJ2_getChars_46870 : MethodName := ⟨RJ2, "getChars", "(III[B)I"⟩
abbrev cJ2_putCharsAt_cd4e5 : ByteArray := prog_24_method_81_code
def yJ2_putCharsAt_cd4e5 : MethodName := ⟨RJ2, "putCharsAt", "([BICCCC)I"⟩
abbrev cJ2_charAt_3b067 : ByteArray := prog_24_method_83_code
def yJ2_charAt_3b067 : MethodName := ⟨RJ2, "charAt", "([BI)C"⟩
abbrev cJ2_inflate_0e8fd : ByteArray := prog_24_method_86_code
def yJ2_inflate_0e8fd : MethodName := ⟨RJ2, "inflate", "([BI[BII)V"⟩
abbrev cJ2_getChars_ba4f3 : ByteArray := prog_24_method_89_code
def yJ2_getChars_ba4f3 : MethodName := ⟨RJ2, "getChars", "(II[B)I"⟩
abbrev cJ2_checkIndex_2214a : ByteArray := prog_24_method_91_code
def yJ2_checkIndex_2214a : MethodName := ⟨RJ2, "checkIndex", "(I[B)V"⟩
abbrev cJ2_checkBoundsBeginEnd_d044e : ByteArray := prog_24_method_93_code
def yJ2_checkBoundsBeginEnd_d044e : MethodName := ⟨RJ2, "checkBoundsBeginEnd", "(II[B)V"⟩
abbrev cJ2_checkBoundsOffCount_d044e : ByteArray := prog_24_method_94_code
def yJ2_checkBoundsOffCount_d044e : MethodName := ⟨RJ2, "checkBoundsOffCount", "(II[B)V"⟩
def RJ10 : String := "java/lang/System"
def TJ10 : u_T := fun k => match k with
  | _ => ("", "", "", false)
def tyJ10 : Nat → FieldType := fun k => match k with
  | _ => .int
theorem nmJ10 : ∀ a, a < 0 → ∀ b, b < 0 → a ≠ b → (TJ10 a).2.1 ≠ (TJ10 b).2.1 := by decide +kernel
theorem tyJ10_ok : ∀ k, k < 0 → parseFieldDescriptor (TJ10 k).2.2.1 = some (tyJ10 k) := by decide +kernel
def RJxfd54e : String := "java/lang/constant/Constable"
def TJxfd54e : u_T := fun k => match k with
  | _ => ("", "", "", false)
def tyJxfd54e : Nat → FieldType := fun k => match k with
  | _ => .int
theorem nmJxfd54e : ∀ a, a < 0 → ∀ b, b < 0 → a ≠ b → (TJxfd54e a).2.1 ≠ (TJxfd54e b).2.1 := by decide +kernel
theorem tyJxfd54e_ok : ∀ k, k < 0 → parseFieldDescriptor (TJxfd54e k).2.2.1 = some (tyJxfd54e k) := by decide +kernel
def RJx3cf43 : String := "java/lang/constant/ConstantDesc"
def TJx3cf43 : u_T := fun k => match k with
  | _ => ("", "", "", false)
def tyJx3cf43 : Nat → FieldType := fun k => match k with
  | _ => .int
theorem nmJx3cf43 : ∀ a, a < 0 → ∀ b, b < 0 → a ≠ b → (TJx3cf43 a).2.1 ≠ (TJx3cf43 b).2.1 := by decide +kernel
theorem tyJx3cf43_ok : ∀ k, k < 0 → parseFieldDescriptor (TJx3cf43 k).2.2.1 = some (tyJx3cf43 k) := by decide +kernel
def RJ7 : String := "java/util/Arrays"
def TJ7 : u_T := fun k => match k with
  | _ => ("", "", "", false)
def tyJ7 : Nat → FieldType := fun k => match k with
  | _ => .int
theorem nmJ7 : ∀ a, a < 0 → ∀ b, b < 0 → a ≠ b → (TJ7 a).2.1 ≠ (TJ7 b).2.1 := by decide +kernel
theorem tyJ7_ok : ∀ k, k < 0 → parseFieldDescriptor (TJ7 k).2.2.1 = some (tyJ7 k) := by decide +kernel
abbrev cJ7_fill_53178 : ByteArray := prog_27_method_103_code
def yJ7_fill_53178 : MethodName := ⟨RJ7, "fill", "([II)V"⟩
abbrev cJ7_copyOf_9075b : ByteArray := prog_27_method_121_code
def yJ7_copyOf_9075b : MethodName := ⟨RJ7, "copyOf", "([BI)[B"⟩
abbrev cJ7_checkLength_df160 : ByteArray := prog_27_method_131_code
def yJ7_checkLength_df160 : MethodName := ⟨RJ7, "checkLength", "(II)V"⟩
abbrev cJ7_copyOfRange_39247 : ByteArray := prog_27_method_132_code
def yJ7_copyOfRange_39247 : MethodName := ⟨RJ7, "copyOfRange", "([BII)[B"⟩
abbrev cJ7_copyOfRangeByte_39247 : ByteArray := prog_27_method_133_code
def yJ7_copyOfRangeByte_39247 : MethodName := ⟨RJ7, "copyOfRangeByte", "([BII)[B"⟩
def RJ8 : String := "jdk/internal/util/ArraysSupport"
def TJ8 : u_T := fun k => match k with
  | _ => ("", "", "", false)
def tyJ8 : Nat → FieldType := fun k => match k with
  | _ => .int
theorem nmJ8 : ∀ a, a < 0 → ∀ b, b < 0 → a ≠ b → (TJ8 a).2.1 ≠ (TJ8 b).2.1 := by decide +kernel
theorem tyJ8_ok : ∀ k, k < 0 → parseFieldDescriptor (TJ8 k).2.2.1 = some (tyJ8 k) := by decide +kernel
abbrev cJ8_newLength_cabcc : ByteArray := prog_28_method_27_code
def yJ8_newLength_cabcc : MethodName := ⟨RJ8, "newLength", "(III)I"⟩
abbrev cJ8_hugeLength_7cf53 : ByteArray := prog_28_method_28_code
def yJ8_hugeLength_7cf53 : MethodName := ⟨RJ8, "hugeLength", "(II)I"⟩
def RJ3 : String := "jdk/internal/util/Preconditions"
def TJ3 : u_T := fun k => match k with
  | _ => ("", "", "", false)
def tyJ3 : Nat → FieldType := fun k => match k with
  | _ => .int
theorem nmJ3 : ∀ a, a < 0 → ∀ b, b < 0 → a ≠ b → (TJ3 a).2.1 ≠ (TJ3 b).2.1 := by decide +kernel
theorem tyJ3_ok : ∀ k, k < 0 → parseFieldDescriptor (TJ3 k).2.2.1 = some (tyJ3 k) := by decide +kernel
abbrev cJ3_checkIndex_8e157 : ByteArray := prog_29_method_11_code
def yJ3_checkIndex_8e157 : MethodName := ⟨RJ3, "checkIndex", "(IILjava/util/function/BiFunction;)I"⟩
abbrev cJ3_checkFromToIndex_8c36e : ByteArray := prog_29_method_12_code
def yJ3_checkFromToIndex_8c36e : MethodName := ⟨RJ3, "checkFromToIndex", "(IIILjava/util/function/BiFunction;)I"⟩
abbrev cJ3_checkFromIndexSize_8c36e : ByteArray := prog_29_method_13_code
def yJ3_checkFromIndexSize_8c36e : MethodName := ⟨RJ3, "checkFromIndexSize", "(IIILjava/util/function/BiFunction;)I"⟩
def RL : String := "PathTrustLaw"
abbrev cL_draw : ByteArray := method_2_code
def yL_draw : MethodName := ⟨RL, "draw", "([III)I"⟩
abbrev cL_four : ByteArray := method_3_code
def yL_four : MethodName := ⟨RL, "four", "(Ljava/lang/String;I)I"⟩
abbrev cL_feed : ByteArray := method_4_code
def yL_feed : MethodName := ⟨RL, "feed", "(LPathTrust;Ljava/lang/String;)V"⟩
abbrev cL_load : ByteArray := method_5_code
def yL_load : MethodName := ⟨RL, "load", "(LPathTrust;[I)Z"⟩
abbrev cL_act : ByteArray := method_6_code
def yL_act : MethodName := ⟨RL, "act", "(LPathTrust;[II)I"⟩
abbrev cL_low : ByteArray := method_7_code
def yL_low : MethodName := ⟨RL, "low", "(LPathTrust;III)I"⟩
abbrev cL_top : ByteArray := method_8_code
def yL_top : MethodName := ⟨RL, "top", "(LPathTrust;III)I"⟩
abbrev cL_drift : ByteArray := method_9_code
def yL_drift : MethodName := ⟨RL, "drift", "(LPathTrust;II)I"⟩
abbrev cL_ahead : ByteArray := method_11_code
def yL_ahead : MethodName := ⟨RL, "ahead", "(LPathTrust;III)Z"⟩
abbrev cL_isOut : ByteArray := method_12_code
def yL_isOut : MethodName := ⟨RL, "isOut", "(LPathTrust;II)Z"⟩
abbrev cL_by : ByteArray := method_13_code
def yL_by : MethodName := ⟨RL, "by", "(LPathTrust;II)I"⟩
abbrev cL_believes : ByteArray := method_14_code
def yL_believes : MethodName := ⟨RL, "believes", "(LPathTrust;II)Z"⟩
abbrev cL_agrees : ByteArray := method_15_code
def yL_agrees : MethodName := ⟨RL, "agrees", "(LPathTrust;II)Z"⟩
abbrev cL_chooses : ByteArray := method_16_code
def yL_chooses : MethodName := ⟨RL, "chooses", "(LPathTrust;I)Z"⟩
abbrev cL_width : ByteArray := method_17_code
def yL_width : MethodName := ⟨RL, "width", "(LPathTrust;II)I"⟩
abbrev cL_commons : ByteArray := method_18_code
def yL_commons : MethodName := ⟨RL, "commons", "(LPathTrust;)Z"⟩
abbrev cL_holds : ByteArray := method_19_code
def yL_holds : MethodName := ⟨RL, "holds", "(LPathTrust;)Z"⟩
abbrev cL_law : ByteArray := code
def yL_law : MethodName := ⟨RL, "law", "([I)Z"⟩
abbrev vwCl : List vw_C := [(RX0, TX0, 2), (RX1, TX1, 9), (RX2, TX2, 2), (RX3, TX3, 2), (RX4, TX4, 8), (RX5, TX5, 2), (RX6, TX6, 9), (RX7, TX7, 8), (RJ4, TJ4, 4), (RJ0, TJ0, 4)]
def lw_up : List Cond := [.selects "java/lang/StringBuilder" ⟨"java/lang/AbstractStringBuilder", "ensureCapacityInternal", "(I)V"⟩ ⟨"java/lang/AbstractStringBuilder", "ensureCapacityInternal", "(I)V"⟩, .selects "java/lang/StringBuilder" ⟨"java/lang/AbstractStringBuilder", "newCapacity", "(I)I"⟩ ⟨"java/lang/AbstractStringBuilder", "newCapacity", "(I)I"⟩, .selects "java/lang/StringBuilder" ⟨"java/lang/AbstractStringBuilder", "putStringAt", "(ILjava/lang/String;)V"⟩ ⟨"java/lang/AbstractStringBuilder", "putStringAt", "(ILjava/lang/String;)V"⟩, .selects "java/lang/StringBuilder" ⟨"java/lang/AbstractStringBuilder", "inflateIfNeededFor", "(Ljava/lang/String;)V"⟩ ⟨"java/lang/AbstractStringBuilder", "inflateIfNeededFor", "(Ljava/lang/String;)V"⟩]
/-- the tables' words, and what follows of them -/
def lw_all : List Cond := lw_tbl ++ lw_up
