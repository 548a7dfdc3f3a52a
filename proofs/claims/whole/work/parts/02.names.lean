-- ===== PART A: goes FIRST, ahead of the names: the tables' words, and 'selects' of the private methods out of them =====
/-- a private method of a class that the tables say can be made, by its rows of tables_1 -/
def lw_okq (q : MethodName × Nat) : Prop := (q.1.cls ≠ "java/lang/invoke/MethodHandle" ∧ q.1.cls ≠ "java/lang/invoke/VarHandle") ∧ Cond.instantiable q.1.cls q.2 ∈ tables_1 ∧ Cond.privateMethod q.1 ∈ tables_1 ∧ Cond.instanceMethod q.1 ∈ tables_1
theorem lw_p0 : lw_okq (⟨"PathTrust$Desk", "reset", "()V"⟩, 9) := ⟨⟨by decide +kernel, by decide +kernel⟩, List.mem_of_getElem? (i := 87) (by decide +kernel), List.mem_of_getElem? (i := 126) (by decide +kernel), List.mem_of_getElem? (i := 127) (by decide +kernel)⟩
theorem lw_p1 : lw_okq (⟨"PathTrust$Desk", "putRule", "(II)V"⟩, 9) := ⟨⟨by decide +kernel, by decide +kernel⟩, List.mem_of_getElem? (i := 87) (by decide +kernel), List.mem_of_getElem? (i := 132) (by decide +kernel), List.mem_of_getElem? (i := 133) (by decide +kernel)⟩
theorem lw_p2 : lw_okq (⟨"PathTrust$Desk", "listOf", "(I)LPathTrust$Reports;"⟩, 9) := ⟨⟨by decide +kernel, by decide +kernel⟩, List.mem_of_getElem? (i := 87) (by decide +kernel), List.mem_of_getElem? (i := 139) (by decide +kernel), List.mem_of_getElem? (i := 140) (by decide +kernel)⟩
theorem lw_p3 : lw_okq (⟨"PathTrust$Parser", "parse", "()Z"⟩, 8) := ⟨⟨by decide +kernel, by decide +kernel⟩, List.mem_of_getElem? (i := 177) (by decide +kernel), List.mem_of_getElem? (i := 255) (by decide +kernel), List.mem_of_getElem? (i := 256) (by decide +kernel)⟩
theorem lw_p4 : lw_okq (⟨"PathTrust$Parser", "next", "()V"⟩, 8) := ⟨⟨by decide +kernel, by decide +kernel⟩, List.mem_of_getElem? (i := 177) (by decide +kernel), List.mem_of_getElem? (i := 260) (by decide +kernel), List.mem_of_getElem? (i := 261) (by decide +kernel)⟩
theorem lw_p5 : lw_okq (⟨"PathTrust$Buffer", "at", "(I)I"⟩, 2) := ⟨⟨by decide +kernel, by decide +kernel⟩, List.mem_of_getElem? (i := 34) (by decide +kernel), List.mem_of_getElem? (i := 264) (by decide +kernel), List.mem_of_getElem? (i := 265) (by decide +kernel)⟩
theorem lw_p6 : lw_okq (⟨"PathTrust$Parser", "readRules", "()Z"⟩, 8) := ⟨⟨by decide +kernel, by decide +kernel⟩, List.mem_of_getElem? (i := 177) (by decide +kernel), List.mem_of_getElem? (i := 271) (by decide +kernel), List.mem_of_getElem? (i := 272) (by decide +kernel)⟩
theorem lw_p7 : lw_okq (⟨"PathTrust$Parser", "readWord", "(Ljava/lang/String;)Z"⟩, 8) := ⟨⟨by decide +kernel, by decide +kernel⟩, List.mem_of_getElem? (i := 177) (by decide +kernel), List.mem_of_getElem? (i := 276) (by decide +kernel), List.mem_of_getElem? (i := 277) (by decide +kernel)⟩
theorem lw_p8 : lw_okq (⟨"PathTrust$Parser", "isWord", "(Ljava/lang/String;)Z"⟩, 8) := ⟨⟨by decide +kernel, by decide +kernel⟩, List.mem_of_getElem? (i := 177) (by decide +kernel), List.mem_of_getElem? (i := 280) (by decide +kernel), List.mem_of_getElem? (i := 281) (by decide +kernel)⟩
theorem lw_p9 : lw_okq (⟨"PathTrust$Parser", "fail", "(I)Z"⟩, 8) := ⟨⟨by decide +kernel, by decide +kernel⟩, List.mem_of_getElem? (i := 177) (by decide +kernel), List.mem_of_getElem? (i := 332) (by decide +kernel), List.mem_of_getElem? (i := 333) (by decide +kernel)⟩
theorem lw_p10 : lw_okq (⟨"PathTrust$Parser", "readRule", "(Ljava/lang/String;I)Z"⟩, 8) := ⟨⟨by decide +kernel, by decide +kernel⟩, List.mem_of_getElem? (i := 177) (by decide +kernel), List.mem_of_getElem? (i := 337) (by decide +kernel), List.mem_of_getElem? (i := 338) (by decide +kernel)⟩
theorem lw_p11 : lw_okq (⟨"PathTrust$Parser", "readNumber", "(II)Z"⟩, 8) := ⟨⟨by decide +kernel, by decide +kernel⟩, List.mem_of_getElem? (i := 177) (by decide +kernel), List.mem_of_getElem? (i := 345) (by decide +kernel), List.mem_of_getElem? (i := 346) (by decide +kernel)⟩
theorem lw_p12 : lw_okq (⟨"PathTrust$Parser", "readSemicolon", "()Z"⟩, 8) := ⟨⟨by decide +kernel, by decide +kernel⟩, List.mem_of_getElem? (i := 177) (by decide +kernel), List.mem_of_getElem? (i := 357) (by decide +kernel), List.mem_of_getElem? (i := 358) (by decide +kernel)⟩
theorem lw_p13 : lw_okq (⟨"PathTrust$Parser", "readNewName", "(LPathTrust$Names;)Z"⟩, 8) := ⟨⟨by decide +kernel, by decide +kernel⟩, List.mem_of_getElem? (i := 177) (by decide +kernel), List.mem_of_getElem? (i := 362) (by decide +kernel), List.mem_of_getElem? (i := 363) (by decide +kernel)⟩
theorem lw_p14 : lw_okq (⟨"PathTrust$Parser", "isName", "()Z"⟩, 8) := ⟨⟨by decide +kernel, by decide +kernel⟩, List.mem_of_getElem? (i := 177) (by decide +kernel), List.mem_of_getElem? (i := 366) (by decide +kernel), List.mem_of_getElem? (i := 367) (by decide +kernel)⟩
theorem lw_p15 : lw_okq (⟨"PathTrust$Buffer", "nameCode", "(II)I"⟩, 2) := ⟨⟨by decide +kernel, by decide +kernel⟩, List.mem_of_getElem? (i := 34) (by decide +kernel), List.mem_of_getElem? (i := 374) (by decide +kernel), List.mem_of_getElem? (i := 375) (by decide +kernel)⟩
def lw_privs_1 : List (MethodName × Nat) := [(⟨"PathTrust$Desk", "reset", "()V"⟩, 9), (⟨"PathTrust$Desk", "putRule", "(II)V"⟩, 9), (⟨"PathTrust$Desk", "listOf", "(I)LPathTrust$Reports;"⟩, 9), (⟨"PathTrust$Parser", "parse", "()Z"⟩, 8), (⟨"PathTrust$Parser", "next", "()V"⟩, 8), (⟨"PathTrust$Buffer", "at", "(I)I"⟩, 2), (⟨"PathTrust$Parser", "readRules", "()Z"⟩, 8), (⟨"PathTrust$Parser", "readWord", "(Ljava/lang/String;)Z"⟩, 8), (⟨"PathTrust$Parser", "isWord", "(Ljava/lang/String;)Z"⟩, 8), (⟨"PathTrust$Parser", "fail", "(I)Z"⟩, 8), (⟨"PathTrust$Parser", "readRule", "(Ljava/lang/String;I)Z"⟩, 8), (⟨"PathTrust$Parser", "readNumber", "(II)Z"⟩, 8), (⟨"PathTrust$Parser", "readSemicolon", "()Z"⟩, 8), (⟨"PathTrust$Parser", "readNewName", "(LPathTrust$Names;)Z"⟩, 8), (⟨"PathTrust$Parser", "isName", "()Z"⟩, 8), (⟨"PathTrust$Buffer", "nameCode", "(II)I"⟩, 2)]
theorem lw_r1 : ∀ q ∈ lw_privs_1, lw_okq q := List.forall_mem_cons.mpr ⟨lw_p0, List.forall_mem_cons.mpr ⟨lw_p1, List.forall_mem_cons.mpr ⟨lw_p2, List.forall_mem_cons.mpr ⟨lw_p3, List.forall_mem_cons.mpr ⟨lw_p4, List.forall_mem_cons.mpr ⟨lw_p5, List.forall_mem_cons.mpr ⟨lw_p6, List.forall_mem_cons.mpr ⟨lw_p7, List.forall_mem_cons.mpr ⟨lw_p8, List.forall_mem_cons.mpr ⟨lw_p9, List.forall_mem_cons.mpr ⟨lw_p10, List.forall_mem_cons.mpr ⟨lw_p11, List.forall_mem_cons.mpr ⟨lw_p12, List.forall_mem_cons.mpr ⟨lw_p13, List.forall_mem_cons.mpr ⟨lw_p14, List.forall_mem_cons.mpr ⟨lw_p15, fun _ h => absurd h List.not_mem_nil⟩⟩⟩⟩⟩⟩⟩⟩⟩⟩⟩⟩⟩⟩⟩⟩
theorem lw_p16 : lw_okq (⟨"PathTrust$Names", "find", "(I)I"⟩, 2) := ⟨⟨by decide +kernel, by decide +kernel⟩, List.mem_of_getElem? (i := 93) (by decide +kernel), List.mem_of_getElem? (i := 379) (by decide +kernel), List.mem_of_getElem? (i := 380) (by decide +kernel)⟩
theorem lw_p17 : lw_okq (⟨"PathTrust$Names", "add", "(I)V"⟩, 2) := ⟨⟨by decide +kernel, by decide +kernel⟩, List.mem_of_getElem? (i := 93) (by decide +kernel), List.mem_of_getElem? (i := 383) (by decide +kernel), List.mem_of_getElem? (i := 384) (by decide +kernel)⟩
theorem lw_p18 : lw_okq (⟨"PathTrust$Parser", "readLink", "()Z"⟩, 8) := ⟨⟨by decide +kernel, by decide +kernel⟩, List.mem_of_getElem? (i := 177) (by decide +kernel), List.mem_of_getElem? (i := 387) (by decide +kernel), List.mem_of_getElem? (i := 388) (by decide +kernel)⟩
theorem lw_p19 : lw_okq (⟨"PathTrust$Parser", "isNameOf", "(LPathTrust$Names;)Z"⟩, 8) := ⟨⟨by decide +kernel, by decide +kernel⟩, List.mem_of_getElem? (i := 177) (by decide +kernel), List.mem_of_getElem? (i := 391) (by decide +kernel), List.mem_of_getElem? (i := 392) (by decide +kernel)⟩
theorem lw_p20 : lw_okq (⟨"PathTrust$Desk", "isLinked", "(II)Z"⟩, 9) := ⟨⟨by decide +kernel, by decide +kernel⟩, List.mem_of_getElem? (i := 87) (by decide +kernel), List.mem_of_getElem? (i := 395) (by decide +kernel), List.mem_of_getElem? (i := 396) (by decide +kernel)⟩
theorem lw_p21 : lw_okq (⟨"PathTrust$Desk", "trustIn", "(II)I"⟩, 9) := ⟨⟨by decide +kernel, by decide +kernel⟩, List.mem_of_getElem? (i := 87) (by decide +kernel), List.mem_of_getElem? (i := 399) (by decide +kernel), List.mem_of_getElem? (i := 400) (by decide +kernel)⟩
theorem lw_p22 : lw_okq (⟨"PathTrust$Desk", "putTrust", "(III)V"⟩, 9) := ⟨⟨by decide +kernel, by decide +kernel⟩, List.mem_of_getElem? (i := 87) (by decide +kernel), List.mem_of_getElem? (i := 403) (by decide +kernel), List.mem_of_getElem? (i := 404) (by decide +kernel)⟩
theorem lw_p23 : lw_okq (⟨"PathTrust$Parser", "readProbe", "()Z"⟩, 8) := ⟨⟨by decide +kernel, by decide +kernel⟩, List.mem_of_getElem? (i := 177) (by decide +kernel), List.mem_of_getElem? (i := 407) (by decide +kernel), List.mem_of_getElem? (i := 408) (by decide +kernel)⟩
theorem lw_p24 : lw_okq (⟨"PathTrust$Desk", "makeProbe", "(IIII)I"⟩, 9) := ⟨⟨by decide +kernel, by decide +kernel⟩, List.mem_of_getElem? (i := 87) (by decide +kernel), List.mem_of_getElem? (i := 411) (by decide +kernel), List.mem_of_getElem? (i := 412) (by decide +kernel)⟩
theorem lw_p25 : lw_okq (⟨"PathTrust$Reports", "rowOf", "(II)I"⟩, 2) := ⟨⟨by decide +kernel, by decide +kernel⟩, List.mem_of_getElem? (i := 110) (by decide +kernel), List.mem_of_getElem? (i := 415) (by decide +kernel), List.mem_of_getElem? (i := 416) (by decide +kernel)⟩
theorem lw_p26 : lw_okq (⟨"PathTrust$Reports", "get", "(II)I"⟩, 2) := ⟨⟨by decide +kernel, by decide +kernel⟩, List.mem_of_getElem? (i := 110) (by decide +kernel), List.mem_of_getElem? (i := 419) (by decide +kernel), List.mem_of_getElem? (i := 420) (by decide +kernel)⟩
theorem lw_p27 : lw_okq (⟨"PathTrust$Reports", "removeRow", "(I)V"⟩, 2) := ⟨⟨by decide +kernel, by decide +kernel⟩, List.mem_of_getElem? (i := 110) (by decide +kernel), List.mem_of_getElem? (i := 423) (by decide +kernel), List.mem_of_getElem? (i := 424) (by decide +kernel)⟩
theorem lw_p28 : lw_okq (⟨"PathTrust$Reports", "closeGap", "(II)V"⟩, 2) := ⟨⟨by decide +kernel, by decide +kernel⟩, List.mem_of_getElem? (i := 110) (by decide +kernel), List.mem_of_getElem? (i := 427) (by decide +kernel), List.mem_of_getElem? (i := 428) (by decide +kernel)⟩
theorem lw_p29 : lw_okq (⟨"PathTrust$Reports", "addRow", "()I"⟩, 2) := ⟨⟨by decide +kernel, by decide +kernel⟩, List.mem_of_getElem? (i := 110) (by decide +kernel), List.mem_of_getElem? (i := 434) (by decide +kernel), List.mem_of_getElem? (i := 435) (by decide +kernel)⟩
theorem lw_p30 : lw_okq (⟨"PathTrust$Reports", "isFull", "()Z"⟩, 2) := ⟨⟨by decide +kernel, by decide +kernel⟩, List.mem_of_getElem? (i := 110) (by decide +kernel), List.mem_of_getElem? (i := 438) (by decide +kernel), List.mem_of_getElem? (i := 439) (by decide +kernel)⟩
theorem lw_p31 : lw_okq (⟨"PathTrust$Reports", "put", "(III)V"⟩, 2) := ⟨⟨by decide +kernel, by decide +kernel⟩, List.mem_of_getElem? (i := 110) (by decide +kernel), List.mem_of_getElem? (i := 442) (by decide +kernel), List.mem_of_getElem? (i := 443) (by decide +kernel)⟩
def lw_privs_2 : List (MethodName × Nat) := [(⟨"PathTrust$Names", "find", "(I)I"⟩, 2), (⟨"PathTrust$Names", "add", "(I)V"⟩, 2), (⟨"PathTrust$Parser", "readLink", "()Z"⟩, 8), (⟨"PathTrust$Parser", "isNameOf", "(LPathTrust$Names;)Z"⟩, 8), (⟨"PathTrust$Desk", "isLinked", "(II)Z"⟩, 9), (⟨"PathTrust$Desk", "trustIn", "(II)I"⟩, 9), (⟨"PathTrust$Desk", "putTrust", "(III)V"⟩, 9), (⟨"PathTrust$Parser", "readProbe", "()Z"⟩, 8), (⟨"PathTrust$Desk", "makeProbe", "(IIII)I"⟩, 9), (⟨"PathTrust$Reports", "rowOf", "(II)I"⟩, 2), (⟨"PathTrust$Reports", "get", "(II)I"⟩, 2), (⟨"PathTrust$Reports", "removeRow", "(I)V"⟩, 2), (⟨"PathTrust$Reports", "closeGap", "(II)V"⟩, 2), (⟨"PathTrust$Reports", "addRow", "()I"⟩, 2), (⟨"PathTrust$Reports", "isFull", "()Z"⟩, 2), (⟨"PathTrust$Reports", "put", "(III)V"⟩, 2)]
theorem lw_r2 : ∀ q ∈ lw_privs_2, lw_okq q := List.forall_mem_cons.mpr ⟨lw_p16, List.forall_mem_cons.mpr ⟨lw_p17, List.forall_mem_cons.mpr ⟨lw_p18, List.forall_mem_cons.mpr ⟨lw_p19, List.forall_mem_cons.mpr ⟨lw_p20, List.forall_mem_cons.mpr ⟨lw_p21, List.forall_mem_cons.mpr ⟨lw_p22, List.forall_mem_cons.mpr ⟨lw_p23, List.forall_mem_cons.mpr ⟨lw_p24, List.forall_mem_cons.mpr ⟨lw_p25, List.forall_mem_cons.mpr ⟨lw_p26, List.forall_mem_cons.mpr ⟨lw_p27, List.forall_mem_cons.mpr ⟨lw_p28, List.forall_mem_cons.mpr ⟨lw_p29, List.forall_mem_cons.mpr ⟨lw_p30, List.forall_mem_cons.mpr ⟨lw_p31, fun _ h => absurd h List.not_mem_nil⟩⟩⟩⟩⟩⟩⟩⟩⟩⟩⟩⟩⟩⟩⟩⟩
theorem lw_p32 : lw_okq (⟨"PathTrust$Desk", "tally", "(II)V"⟩, 9) := ⟨⟨by decide +kernel, by decide +kernel⟩, List.mem_of_getElem? (i := 87) (by decide +kernel), List.mem_of_getElem? (i := 446) (by decide +kernel), List.mem_of_getElem? (i := 447) (by decide +kernel)⟩
theorem lw_p33 : lw_okq (⟨"PathTrust$Desk", "judge", "(III)Z"⟩, 9) := ⟨⟨by decide +kernel, by decide +kernel⟩, List.mem_of_getElem? (i := 87) (by decide +kernel), List.mem_of_getElem? (i := 454) (by decide +kernel), List.mem_of_getElem? (i := 455) (by decide +kernel)⟩
theorem lw_p34 : lw_okq (⟨"PathTrust$Desk", "driftOf", "(LPathTrust$Reports;I)I"⟩, 9) := ⟨⟨by decide +kernel, by decide +kernel⟩, List.mem_of_getElem? (i := 87) (by decide +kernel), List.mem_of_getElem? (i := 459) (by decide +kernel), List.mem_of_getElem? (i := 460) (by decide +kernel)⟩
theorem lw_p35 : lw_okq (⟨"PathTrust$Desk", "rule", "(I)I"⟩, 9) := ⟨⟨by decide +kernel, by decide +kernel⟩, List.mem_of_getElem? (i := 87) (by decide +kernel), List.mem_of_getElem? (i := 463) (by decide +kernel), List.mem_of_getElem? (i := 464) (by decide +kernel)⟩
theorem lw_p36 : lw_okq (⟨"PathTrust$Reports", "lowMoved", "(II)I"⟩, 2) := ⟨⟨by decide +kernel, by decide +kernel⟩, List.mem_of_getElem? (i := 110) (by decide +kernel), List.mem_of_getElem? (i := 467) (by decide +kernel), List.mem_of_getElem? (i := 468) (by decide +kernel)⟩
theorem lw_p37 : lw_okq (⟨"PathTrust$Reports", "highMoved", "(II)I"⟩, 2) := ⟨⟨by decide +kernel, by decide +kernel⟩, List.mem_of_getElem? (i := 110) (by decide +kernel), List.mem_of_getElem? (i := 475) (by decide +kernel), List.mem_of_getElem? (i := 476) (by decide +kernel)⟩
theorem lw_p38 : lw_okq (⟨"PathTrust$History", "push", "(LPathTrust$Desk;)V"⟩, 2) := ⟨⟨by decide +kernel, by decide +kernel⟩, List.mem_of_getElem? (i := 210) (by decide +kernel), List.mem_of_getElem? (i := 482) (by decide +kernel), List.mem_of_getElem? (i := 483) (by decide +kernel)⟩
theorem lw_p39 : lw_okq (⟨"PathTrust$History", "dropOldest", "()V"⟩, 2) := ⟨⟨by decide +kernel, by decide +kernel⟩, List.mem_of_getElem? (i := 210) (by decide +kernel), List.mem_of_getElem? (i := 486) (by decide +kernel), List.mem_of_getElem? (i := 487) (by decide +kernel)⟩
theorem lw_p40 : lw_okq (⟨"PathTrust$Desk", "become", "(LPathTrust$Desk;)V"⟩, 9) := ⟨⟨by decide +kernel, by decide +kernel⟩, List.mem_of_getElem? (i := 87) (by decide +kernel), List.mem_of_getElem? (i := 491) (by decide +kernel), List.mem_of_getElem? (i := 492) (by decide +kernel)⟩
theorem lw_p41 : lw_okq (⟨"PathTrust$Names", "copyFrom", "(LPathTrust$Names;)V"⟩, 2) := ⟨⟨by decide +kernel, by decide +kernel⟩, List.mem_of_getElem? (i := 93) (by decide +kernel), List.mem_of_getElem? (i := 495) (by decide +kernel), List.mem_of_getElem? (i := 496) (by decide +kernel)⟩
theorem lw_p42 : lw_okq (⟨"PathTrust$Reports", "copyFrom", "(LPathTrust$Reports;)V"⟩, 2) := ⟨⟨by decide +kernel, by decide +kernel⟩, List.mem_of_getElem? (i := 110) (by decide +kernel), List.mem_of_getElem? (i := 502) (by decide +kernel), List.mem_of_getElem? (i := 503) (by decide +kernel)⟩
theorem lw_p43 : lw_okq (⟨"PathTrust", "findInput", "(LPathTrust$Names;)I"⟩, 8) := ⟨⟨by decide +kernel, by decide +kernel⟩, List.mem_of_getElem? (i := 26) (by decide +kernel), List.mem_of_getElem? (i := 519) (by decide +kernel), List.mem_of_getElem? (i := 520) (by decide +kernel)⟩
theorem lw_p44 : lw_okq (⟨"java/lang/Throwable", "fillInStackTrace", "(I)Ljava/lang/Throwable;"⟩, 6) := ⟨⟨by decide +kernel, by decide +kernel⟩, List.mem_of_getElem? (i := 580) (by decide +kernel), List.mem_of_getElem? (i := 578) (by decide +kernel), List.mem_of_getElem? (i := 579) (by decide +kernel)⟩
theorem lw_p45 : lw_okq (⟨"PathTrust$Buffer", "addFour", "(I)V"⟩, 2) := ⟨⟨by decide +kernel, by decide +kernel⟩, List.mem_of_getElem? (i := 34) (by decide +kernel), List.mem_of_getElem? (i := 609) (by decide +kernel), List.mem_of_getElem? (i := 610) (by decide +kernel)⟩
theorem lw_p46 : lw_okq (⟨"PathTrust$Buffer", "add", "(I)V"⟩, 2) := ⟨⟨by decide +kernel, by decide +kernel⟩, List.mem_of_getElem? (i := 34) (by decide +kernel), List.mem_of_getElem? (i := 613) (by decide +kernel), List.mem_of_getElem? (i := 614) (by decide +kernel)⟩
theorem lw_p47 : lw_okq (⟨"PathTrust$Desk", "linkCount", "()I"⟩, 9) := ⟨⟨by decide +kernel, by decide +kernel⟩, List.mem_of_getElem? (i := 87) (by decide +kernel), List.mem_of_getElem? (i := 651) (by decide +kernel), List.mem_of_getElem? (i := 652) (by decide +kernel)⟩
def lw_privs_3 : List (MethodName × Nat) := [(⟨"PathTrust$Desk", "tally", "(II)V"⟩, 9), (⟨"PathTrust$Desk", "judge", "(III)Z"⟩, 9), (⟨"PathTrust$Desk", "driftOf", "(LPathTrust$Reports;I)I"⟩, 9), (⟨"PathTrust$Desk", "rule", "(I)I"⟩, 9), (⟨"PathTrust$Reports", "lowMoved", "(II)I"⟩, 2), (⟨"PathTrust$Reports", "highMoved", "(II)I"⟩, 2), (⟨"PathTrust$History", "push", "(LPathTrust$Desk;)V"⟩, 2), (⟨"PathTrust$History", "dropOldest", "()V"⟩, 2), (⟨"PathTrust$Desk", "become", "(LPathTrust$Desk;)V"⟩, 9), (⟨"PathTrust$Names", "copyFrom", "(LPathTrust$Names;)V"⟩, 2), (⟨"PathTrust$Reports", "copyFrom", "(LPathTrust$Reports;)V"⟩, 2), (⟨"PathTrust", "findInput", "(LPathTrust$Names;)I"⟩, 8), (⟨"java/lang/Throwable", "fillInStackTrace", "(I)Ljava/lang/Throwable;"⟩, 6), (⟨"PathTrust$Buffer", "addFour", "(I)V"⟩, 2), (⟨"PathTrust$Buffer", "add", "(I)V"⟩, 2), (⟨"PathTrust$Desk", "linkCount", "()I"⟩, 9)]
theorem lw_r3 : ∀ q ∈ lw_privs_3, lw_okq q := List.forall_mem_cons.mpr ⟨lw_p32, List.forall_mem_cons.mpr ⟨lw_p33, List.forall_mem_cons.mpr ⟨lw_p34, List.forall_mem_cons.mpr ⟨lw_p35, List.forall_mem_cons.mpr ⟨lw_p36, List.forall_mem_cons.mpr ⟨lw_p37, List.forall_mem_cons.mpr ⟨lw_p38, List.forall_mem_cons.mpr ⟨lw_p39, List.forall_mem_cons.mpr ⟨lw_p40, List.forall_mem_cons.mpr ⟨lw_p41, List.forall_mem_cons.mpr ⟨lw_p42, List.forall_mem_cons.mpr ⟨lw_p43, List.forall_mem_cons.mpr ⟨lw_p44, List.forall_mem_cons.mpr ⟨lw_p45, List.forall_mem_cons.mpr ⟨lw_p46, List.forall_mem_cons.mpr ⟨lw_p47, fun _ h => absurd h List.not_mem_nil⟩⟩⟩⟩⟩⟩⟩⟩⟩⟩⟩⟩⟩⟩⟩⟩
theorem lw_p48 : lw_okq (⟨"PathTrust", "checkAgent", "(I)V"⟩, 8) := ⟨⟨by decide +kernel, by decide +kernel⟩, List.mem_of_getElem? (i := 26) (by decide +kernel), List.mem_of_getElem? (i := 664) (by decide +kernel), List.mem_of_getElem? (i := 665) (by decide +kernel)⟩
theorem lw_p49 : lw_okq (⟨"PathTrust$Desk", "reachedFrom", "(II)I"⟩, 9) := ⟨⟨by decide +kernel, by decide +kernel⟩, List.mem_of_getElem? (i := 87) (by decide +kernel), List.mem_of_getElem? (i := 703) (by decide +kernel), List.mem_of_getElem? (i := 704) (by decide +kernel)⟩
theorem lw_p50 : lw_okq (⟨"PathTrust", "checkReport", "(II)V"⟩, 8) := ⟨⟨by decide +kernel, by decide +kernel⟩, List.mem_of_getElem? (i := 26) (by decide +kernel), List.mem_of_getElem? (i := 737) (by decide +kernel), List.mem_of_getElem? (i := 738) (by decide +kernel)⟩
theorem lw_p51 : lw_okq (⟨"PathTrust", "statusIn", "(II)I"⟩, 8) := ⟨⟨by decide +kernel, by decide +kernel⟩, List.mem_of_getElem? (i := 26) (by decide +kernel), List.mem_of_getElem? (i := 750) (by decide +kernel), List.mem_of_getElem? (i := 751) (by decide +kernel)⟩
theorem lw_p52 : lw_okq (⟨"PathTrust$View", "form", "(LPathTrust$Desk;III)V"⟩, 9) := ⟨⟨by decide +kernel, by decide +kernel⟩, List.mem_of_getElem? (i := 50) (by decide +kernel), List.mem_of_getElem? (i := 754) (by decide +kernel), List.mem_of_getElem? (i := 755) (by decide +kernel)⟩
theorem lw_p53 : lw_okq (⟨"PathTrust$View", "note", "(LPathTrust$Desk;III)V"⟩, 9) := ⟨⟨by decide +kernel, by decide +kernel⟩, List.mem_of_getElem? (i := 50) (by decide +kernel), List.mem_of_getElem? (i := 760) (by decide +kernel), List.mem_of_getElem? (i := 761) (by decide +kernel)⟩
theorem lw_p54 : lw_okq (⟨"PathTrust$Desk", "beliefSpread", "(II)I"⟩, 9) := ⟨⟨by decide +kernel, by decide +kernel⟩, List.mem_of_getElem? (i := 87) (by decide +kernel), List.mem_of_getElem? (i := 765) (by decide +kernel), List.mem_of_getElem? (i := 766) (by decide +kernel)⟩
theorem lw_p55 : lw_okq (⟨"PathTrust$View", "nextToTake", "()I"⟩, 9) := ⟨⟨by decide +kernel, by decide +kernel⟩, List.mem_of_getElem? (i := 50) (by decide +kernel), List.mem_of_getElem? (i := 772) (by decide +kernel), List.mem_of_getElem? (i := 773) (by decide +kernel)⟩
theorem lw_p56 : lw_okq (⟨"PathTrust$View", "take", "(I)V"⟩, 9) := ⟨⟨by decide +kernel, by decide +kernel⟩, List.mem_of_getElem? (i := 50) (by decide +kernel), List.mem_of_getElem? (i := 776) (by decide +kernel), List.mem_of_getElem? (i := 777) (by decide +kernel)⟩
theorem lw_p57 : lw_okq (⟨"PathTrust$View", "statusOf", "(I)I"⟩, 9) := ⟨⟨by decide +kernel, by decide +kernel⟩, List.mem_of_getElem? (i := 50) (by decide +kernel), List.mem_of_getElem? (i := 782) (by decide +kernel), List.mem_of_getElem? (i := 783) (by decide +kernel)⟩
theorem lw_p58 : lw_okq (⟨"PathTrust", "checkWay", "(I)V"⟩, 8) := ⟨⟨by decide +kernel, by decide +kernel⟩, List.mem_of_getElem? (i := 26) (by decide +kernel), List.mem_of_getElem? (i := 803) (by decide +kernel), List.mem_of_getElem? (i := 804) (by decide +kernel)⟩
theorem lw_p59 : lw_okq (⟨"PathTrust", "believed", "(LPathTrust$Desk;III)I"⟩, 8) := ⟨⟨by decide +kernel, by decide +kernel⟩, List.mem_of_getElem? (i := 26) (by decide +kernel), List.mem_of_getElem? (i := 816) (by decide +kernel), List.mem_of_getElem? (i := 817) (by decide +kernel)⟩
theorem lw_p60 : lw_okq (⟨"PathTrust", "originsOf", "(III)I"⟩, 8) := ⟨⟨by decide +kernel, by decide +kernel⟩, List.mem_of_getElem? (i := 26) (by decide +kernel), List.mem_of_getElem? (i := 827) (by decide +kernel), List.mem_of_getElem? (i := 828) (by decide +kernel)⟩
theorem lw_p61 : lw_okq (⟨"PathTrust$View", "originsWith", "(I)I"⟩, 9) := ⟨⟨by decide +kernel, by decide +kernel⟩, List.mem_of_getElem? (i := 50) (by decide +kernel), List.mem_of_getElem? (i := 831) (by decide +kernel), List.mem_of_getElem? (i := 832) (by decide +kernel)⟩
theorem lw_p62 : lw_okq (⟨"PathTrust$View", "largestSet", "()I"⟩, 9) := ⟨⟨by decide +kernel, by decide +kernel⟩, List.mem_of_getElem? (i := 50) (by decide +kernel), List.mem_of_getElem? (i := 849) (by decide +kernel), List.mem_of_getElem? (i := 850) (by decide +kernel)⟩
theorem lw_p63 : lw_okq (⟨"PathTrust$View", "originsAround", "(I)I"⟩, 9) := ⟨⟨by decide +kernel, by decide +kernel⟩, List.mem_of_getElem? (i := 50) (by decide +kernel), List.mem_of_getElem? (i := 853) (by decide +kernel), List.mem_of_getElem? (i := 854) (by decide +kernel)⟩
def lw_privs_4 : List (MethodName × Nat) := [(⟨"PathTrust", "checkAgent", "(I)V"⟩, 8), (⟨"PathTrust$Desk", "reachedFrom", "(II)I"⟩, 9), (⟨"PathTrust", "checkReport", "(II)V"⟩, 8), (⟨"PathTrust", "statusIn", "(II)I"⟩, 8), (⟨"PathTrust$View", "form", "(LPathTrust$Desk;III)V"⟩, 9), (⟨"PathTrust$View", "note", "(LPathTrust$Desk;III)V"⟩, 9), (⟨"PathTrust$Desk", "beliefSpread", "(II)I"⟩, 9), (⟨"PathTrust$View", "nextToTake", "()I"⟩, 9), (⟨"PathTrust$View", "take", "(I)V"⟩, 9), (⟨"PathTrust$View", "statusOf", "(I)I"⟩, 9), (⟨"PathTrust", "checkWay", "(I)V"⟩, 8), (⟨"PathTrust", "believed", "(LPathTrust$Desk;III)I"⟩, 8), (⟨"PathTrust", "originsOf", "(III)I"⟩, 8), (⟨"PathTrust$View", "originsWith", "(I)I"⟩, 9), (⟨"PathTrust$View", "largestSet", "()I"⟩, 9), (⟨"PathTrust$View", "originsAround", "(I)I"⟩, 9)]
theorem lw_r4 : ∀ q ∈ lw_privs_4, lw_okq q := List.forall_mem_cons.mpr ⟨lw_p48, List.forall_mem_cons.mpr ⟨lw_p49, List.forall_mem_cons.mpr ⟨lw_p50, List.forall_mem_cons.mpr ⟨lw_p51, List.forall_mem_cons.mpr ⟨lw_p52, List.forall_mem_cons.mpr ⟨lw_p53, List.forall_mem_cons.mpr ⟨lw_p54, List.forall_mem_cons.mpr ⟨lw_p55, List.forall_mem_cons.mpr ⟨lw_p56, List.forall_mem_cons.mpr ⟨lw_p57, List.forall_mem_cons.mpr ⟨lw_p58, List.forall_mem_cons.mpr ⟨lw_p59, List.forall_mem_cons.mpr ⟨lw_p60, List.forall_mem_cons.mpr ⟨lw_p61, List.forall_mem_cons.mpr ⟨lw_p62, List.forall_mem_cons.mpr ⟨lw_p63, fun _ h => absurd h List.not_mem_nil⟩⟩⟩⟩⟩⟩⟩⟩⟩⟩⟩⟩⟩⟩⟩⟩
theorem lw_p64 : lw_okq (⟨"PathTrust$View", "lowOf", "(I)I"⟩, 9) := ⟨⟨by decide +kernel, by decide +kernel⟩, List.mem_of_getElem? (i := 50) (by decide +kernel), List.mem_of_getElem? (i := 870) (by decide +kernel), List.mem_of_getElem? (i := 871) (by decide +kernel)⟩
theorem lw_p65 : lw_okq (⟨"PathTrust$View", "highOf", "(I)I"⟩, 9) := ⟨⟨by decide +kernel, by decide +kernel⟩, List.mem_of_getElem? (i := 50) (by decide +kernel), List.mem_of_getElem? (i := 875) (by decide +kernel), List.mem_of_getElem? (i := 876) (by decide +kernel)⟩
theorem lw_p66 : lw_okq (⟨"PathTrust", "bestWay", "(LPathTrust$Desk;II)I"⟩, 8) := ⟨⟨by decide +kernel, by decide +kernel⟩, List.mem_of_getElem? (i := 26) (by decide +kernel), List.mem_of_getElem? (i := 886) (by decide +kernel), List.mem_of_getElem? (i := 887) (by decide +kernel)⟩
theorem lw_p67 : lw_okq (⟨"PathTrust", "rivalsOf", "(II)I"⟩, 8) := ⟨⟨by decide +kernel, by decide +kernel⟩, List.mem_of_getElem? (i := 26) (by decide +kernel), List.mem_of_getElem? (i := 897) (by decide +kernel), List.mem_of_getElem? (i := 898) (by decide +kernel)⟩
theorem lw_p68 : lw_okq (⟨"PathTrust", "widthOf", "(LPathTrust$Desk;III)I"⟩, 8) := ⟨⟨by decide +kernel, by decide +kernel⟩, List.mem_of_getElem? (i := 26) (by decide +kernel), List.mem_of_getElem? (i := 908) (by decide +kernel), List.mem_of_getElem? (i := 909) (by decide +kernel)⟩
theorem lw_p69 : lw_okq (⟨"PathTrust$Desk", "accountOf", "(II)I"⟩, 9) := ⟨⟨by decide +kernel, by decide +kernel⟩, List.mem_of_getElem? (i := 87) (by decide +kernel), List.mem_of_getElem? (i := 950) (by decide +kernel), List.mem_of_getElem? (i := 951) (by decide +kernel)⟩
theorem lw_p70 : lw_okq (⟨"PathTrust$Desk", "reasonToRefuse", "(I)I"⟩, 9) := ⟨⟨by decide +kernel, by decide +kernel⟩, List.mem_of_getElem? (i := 87) (by decide +kernel), List.mem_of_getElem? (i := 978) (by decide +kernel), List.mem_of_getElem? (i := 979) (by decide +kernel)⟩
theorem lw_p71 : lw_okq (⟨"PathTrust$Desk", "isTooOld", "(LPathTrust$Reports;I)Z"⟩, 9) := ⟨⟨by decide +kernel, by decide +kernel⟩, List.mem_of_getElem? (i := 87) (by decide +kernel), List.mem_of_getElem? (i := 982) (by decide +kernel), List.mem_of_getElem? (i := 983) (by decide +kernel)⟩
theorem lw_p72 : lw_okq (⟨"PathTrust$Desk", "makeRounds", "(I)I"⟩, 9) := ⟨⟨by decide +kernel, by decide +kernel⟩, List.mem_of_getElem? (i := 87) (by decide +kernel), List.mem_of_getElem? (i := 1018) (by decide +kernel), List.mem_of_getElem? (i := 1019) (by decide +kernel)⟩
theorem lw_p73 : lw_okq (⟨"PathTrust$Desk", "sendReports", "(II)I"⟩, 9) := ⟨⟨by decide +kernel, by decide +kernel⟩, List.mem_of_getElem? (i := 87) (by decide +kernel), List.mem_of_getElem? (i := 1022) (by decide +kernel), List.mem_of_getElem? (i := 1023) (by decide +kernel)⟩
theorem lw_p74 : lw_okq (⟨"PathTrust$Desk", "sendReport", "(ILPathTrust$Reports;I)V"⟩, 9) := ⟨⟨by decide +kernel, by decide +kernel⟩, List.mem_of_getElem? (i := 87) (by decide +kernel), List.mem_of_getElem? (i := 1026) (by decide +kernel), List.mem_of_getElem? (i := 1027) (by decide +kernel)⟩
theorem lw_p75 : lw_okq (⟨"PathTrust$Reports", "addCopy", "(LPathTrust$Reports;I)I"⟩, 2) := ⟨⟨by decide +kernel, by decide +kernel⟩, List.mem_of_getElem? (i := 110) (by decide +kernel), List.mem_of_getElem? (i := 1031) (by decide +kernel), List.mem_of_getElem? (i := 1032) (by decide +kernel)⟩
theorem lw_p76 : lw_okq (⟨"PathTrust$Desk", "deliverFirst", "(I)I"⟩, 9) := ⟨⟨by decide +kernel, by decide +kernel⟩, List.mem_of_getElem? (i := 87) (by decide +kernel), List.mem_of_getElem? (i := 1037) (by decide +kernel), List.mem_of_getElem? (i := 1038) (by decide +kernel)⟩
theorem lw_p77 : lw_okq (⟨"PathTrust$Desk", "receive", "(I)Z"⟩, 9) := ⟨⟨by decide +kernel, by decide +kernel⟩, List.mem_of_getElem? (i := 87) (by decide +kernel), List.mem_of_getElem? (i := 1041) (by decide +kernel), List.mem_of_getElem? (i := 1042) (by decide +kernel)⟩
theorem lw_p78 : lw_okq (⟨"PathTrust$Reports", "removeFirst", "(I)V"⟩, 2) := ⟨⟨by decide +kernel, by decide +kernel⟩, List.mem_of_getElem? (i := 110) (by decide +kernel), List.mem_of_getElem? (i := 1046) (by decide +kernel), List.mem_of_getElem? (i := 1047) (by decide +kernel)⟩
theorem lw_p79 : lw_okq (⟨"PathTrust$Desk", "letPass", "(I)I"⟩, 9) := ⟨⟨by decide +kernel, by decide +kernel⟩, List.mem_of_getElem? (i := 87) (by decide +kernel), List.mem_of_getElem? (i := 1057) (by decide +kernel), List.mem_of_getElem? (i := 1058) (by decide +kernel)⟩
def lw_privs_5 : List (MethodName × Nat) := [(⟨"PathTrust$View", "lowOf", "(I)I"⟩, 9), (⟨"PathTrust$View", "highOf", "(I)I"⟩, 9), (⟨"PathTrust", "bestWay", "(LPathTrust$Desk;II)I"⟩, 8), (⟨"PathTrust", "rivalsOf", "(II)I"⟩, 8), (⟨"PathTrust", "widthOf", "(LPathTrust$Desk;III)I"⟩, 8), (⟨"PathTrust$Desk", "accountOf", "(II)I"⟩, 9), (⟨"PathTrust$Desk", "reasonToRefuse", "(I)I"⟩, 9), (⟨"PathTrust$Desk", "isTooOld", "(LPathTrust$Reports;I)Z"⟩, 9), (⟨"PathTrust$Desk", "makeRounds", "(I)I"⟩, 9), (⟨"PathTrust$Desk", "sendReports", "(II)I"⟩, 9), (⟨"PathTrust$Desk", "sendReport", "(ILPathTrust$Reports;I)V"⟩, 9), (⟨"PathTrust$Reports", "addCopy", "(LPathTrust$Reports;I)I"⟩, 2), (⟨"PathTrust$Desk", "deliverFirst", "(I)I"⟩, 9), (⟨"PathTrust$Desk", "receive", "(I)Z"⟩, 9), (⟨"PathTrust$Reports", "removeFirst", "(I)V"⟩, 2), (⟨"PathTrust$Desk", "letPass", "(I)I"⟩, 9)]
theorem lw_r5 : ∀ q ∈ lw_privs_5, lw_okq q := List.forall_mem_cons.mpr ⟨lw_p64, List.forall_mem_cons.mpr ⟨lw_p65, List.forall_mem_cons.mpr ⟨lw_p66, List.forall_mem_cons.mpr ⟨lw_p67, List.forall_mem_cons.mpr ⟨lw_p68, List.forall_mem_cons.mpr ⟨lw_p69, List.forall_mem_cons.mpr ⟨lw_p70, List.forall_mem_cons.mpr ⟨lw_p71, List.forall_mem_cons.mpr ⟨lw_p72, List.forall_mem_cons.mpr ⟨lw_p73, List.forall_mem_cons.mpr ⟨lw_p74, List.forall_mem_cons.mpr ⟨lw_p75, List.forall_mem_cons.mpr ⟨lw_p76, List.forall_mem_cons.mpr ⟨lw_p77, List.forall_mem_cons.mpr ⟨lw_p78, List.forall_mem_cons.mpr ⟨lw_p79, fun _ h => absurd h List.not_mem_nil⟩⟩⟩⟩⟩⟩⟩⟩⟩⟩⟩⟩⟩⟩⟩⟩
theorem lw_p80 : lw_okq (⟨"PathTrust", "widthSum", "(II)I"⟩, 8) := ⟨⟨by decide +kernel, by decide +kernel⟩, List.mem_of_getElem? (i := 26) (by decide +kernel), List.mem_of_getElem? (i := 1075) (by decide +kernel), List.mem_of_getElem? (i := 1076) (by decide +kernel)⟩
theorem lw_p81 : lw_okq (⟨"PathTrust$Reports", "removeAll", "(II)I"⟩, 2) := ⟨⟨by decide +kernel, by decide +kernel⟩, List.mem_of_getElem? (i := 110) (by decide +kernel), List.mem_of_getElem? (i := 1177) (by decide +kernel), List.mem_of_getElem? (i := 1178) (by decide +kernel)⟩
theorem lw_p82 : lw_okq (⟨"PathTrust", "checkSlot", "(I)V"⟩, 8) := ⟨⟨by decide +kernel, by decide +kernel⟩, List.mem_of_getElem? (i := 26) (by decide +kernel), List.mem_of_getElem? (i := 1197) (by decide +kernel), List.mem_of_getElem? (i := 1198) (by decide +kernel)⟩
theorem lw_p83 : lw_okq (⟨"PathTrust$History", "pop", "(LPathTrust$Desk;)V"⟩, 2) := ⟨⟨by decide +kernel, by decide +kernel⟩, List.mem_of_getElem? (i := 210) (by decide +kernel), List.mem_of_getElem? (i := 1218) (by decide +kernel), List.mem_of_getElem? (i := 1219) (by decide +kernel)⟩
theorem lw_p84 : lw_okq (⟨"PathTrust$Names", "get", "(I)I"⟩, 2) := ⟨⟨by decide +kernel, by decide +kernel⟩, List.mem_of_getElem? (i := 93) (by decide +kernel), List.mem_of_getElem? (i := 1230) (by decide +kernel), List.mem_of_getElem? (i := 1231) (by decide +kernel)⟩
theorem lw_p85 : lw_okq (⟨"PathTrust$Buffer", "addName", "(I)V"⟩, 2) := ⟨⟨by decide +kernel, by decide +kernel⟩, List.mem_of_getElem? (i := 34) (by decide +kernel), List.mem_of_getElem? (i := 1234) (by decide +kernel), List.mem_of_getElem? (i := 1235) (by decide +kernel)⟩
theorem lw_p86 : lw_okq (⟨"PathTrust", "writeBounds", "(II)V"⟩, 8) := ⟨⟨by decide +kernel, by decide +kernel⟩, List.mem_of_getElem? (i := 26) (by decide +kernel), List.mem_of_getElem? (i := 1238) (by decide +kernel), List.mem_of_getElem? (i := 1239) (by decide +kernel)⟩
theorem lw_p87 : lw_okq (⟨"PathTrust$Buffer", "addNumber", "(I)V"⟩, 2) := ⟨⟨by decide +kernel, by decide +kernel⟩, List.mem_of_getElem? (i := 34) (by decide +kernel), List.mem_of_getElem? (i := 1242) (by decide +kernel), List.mem_of_getElem? (i := 1243) (by decide +kernel)⟩
theorem lw_p88 : lw_okq (⟨"PathTrust", "writeStatus", "(I)V"⟩, 8) := ⟨⟨by decide +kernel, by decide +kernel⟩, List.mem_of_getElem? (i := 26) (by decide +kernel), List.mem_of_getElem? (i := 1254) (by decide +kernel), List.mem_of_getElem? (i := 1255) (by decide +kernel)⟩
theorem lw_p89 : lw_okq (⟨"PathTrustModel", "passes", "(Z)Z"⟩, 28) := ⟨⟨by decide +kernel, by decide +kernel⟩, List.mem_of_getElem? (i := 1271) (by decide +kernel), List.mem_of_getElem? (i := 1370) (by decide +kernel), List.mem_of_getElem? (i := 1371) (by decide +kernel)⟩
theorem lw_p90 : lw_okq (⟨"PathTrustModel", "passes3", "(ZZZ)Z"⟩, 28) := ⟨⟨by decide +kernel, by decide +kernel⟩, List.mem_of_getElem? (i := 1271) (by decide +kernel), List.mem_of_getElem? (i := 1374) (by decide +kernel), List.mem_of_getElem? (i := 1375) (by decide +kernel)⟩
theorem lw_p91 : lw_okq (⟨"PathTrustModel", "appendFour", "(I)V"⟩, 28) := ⟨⟨by decide +kernel, by decide +kernel⟩, List.mem_of_getElem? (i := 1271) (by decide +kernel), List.mem_of_getElem? (i := 1378) (by decide +kernel), List.mem_of_getElem? (i := 1379) (by decide +kernel)⟩
theorem lw_p92 : lw_okq (⟨"PathTrustModel", "scan", "()V"⟩, 28) := ⟨⟨by decide +kernel, by decide +kernel⟩, List.mem_of_getElem? (i := 1271) (by decide +kernel), List.mem_of_getElem? (i := 1393) (by decide +kernel), List.mem_of_getElem? (i := 1394) (by decide +kernel)⟩
theorem lw_p93 : lw_okq (⟨"PathTrustModel", "byteAt", "(I)I"⟩, 28) := ⟨⟨by decide +kernel, by decide +kernel⟩, List.mem_of_getElem? (i := 1271) (by decide +kernel), List.mem_of_getElem? (i := 1397) (by decide +kernel), List.mem_of_getElem? (i := 1398) (by decide +kernel)⟩
theorem lw_p94 : lw_okq (⟨"PathTrustModel", "parseRules", "()V"⟩, 28) := ⟨⟨by decide +kernel, by decide +kernel⟩, List.mem_of_getElem? (i := 1271) (by decide +kernel), List.mem_of_getElem? (i := 1406) (by decide +kernel), List.mem_of_getElem? (i := 1407) (by decide +kernel)⟩
theorem lw_p95 : lw_okq (⟨"PathTrustModel", "isWord", "(Ljava/lang/String;)Z"⟩, 28) := ⟨⟨by decide +kernel, by decide +kernel⟩, List.mem_of_getElem? (i := 1271) (by decide +kernel), List.mem_of_getElem? (i := 1411) (by decide +kernel), List.mem_of_getElem? (i := 1412) (by decide +kernel)⟩
def lw_privs_6 : List (MethodName × Nat) := [(⟨"PathTrust", "widthSum", "(II)I"⟩, 8), (⟨"PathTrust$Reports", "removeAll", "(II)I"⟩, 2), (⟨"PathTrust", "checkSlot", "(I)V"⟩, 8), (⟨"PathTrust$History", "pop", "(LPathTrust$Desk;)V"⟩, 2), (⟨"PathTrust$Names", "get", "(I)I"⟩, 2), (⟨"PathTrust$Buffer", "addName", "(I)V"⟩, 2), (⟨"PathTrust", "writeBounds", "(II)V"⟩, 8), (⟨"PathTrust$Buffer", "addNumber", "(I)V"⟩, 2), (⟨"PathTrust", "writeStatus", "(I)V"⟩, 8), (⟨"PathTrustModel", "passes", "(Z)Z"⟩, 28), (⟨"PathTrustModel", "passes3", "(ZZZ)Z"⟩, 28), (⟨"PathTrustModel", "appendFour", "(I)V"⟩, 28), (⟨"PathTrustModel", "scan", "()V"⟩, 28), (⟨"PathTrustModel", "byteAt", "(I)I"⟩, 28), (⟨"PathTrustModel", "parseRules", "()V"⟩, 28), (⟨"PathTrustModel", "isWord", "(Ljava/lang/String;)Z"⟩, 28)]
theorem lw_r6 : ∀ q ∈ lw_privs_6, lw_okq q := List.forall_mem_cons.mpr ⟨lw_p80, List.forall_mem_cons.mpr ⟨lw_p81, List.forall_mem_cons.mpr ⟨lw_p82, List.forall_mem_cons.mpr ⟨lw_p83, List.forall_mem_cons.mpr ⟨lw_p84, List.forall_mem_cons.mpr ⟨lw_p85, List.forall_mem_cons.mpr ⟨lw_p86, List.forall_mem_cons.mpr ⟨lw_p87, List.forall_mem_cons.mpr ⟨lw_p88, List.forall_mem_cons.mpr ⟨lw_p89, List.forall_mem_cons.mpr ⟨lw_p90, List.forall_mem_cons.mpr ⟨lw_p91, List.forall_mem_cons.mpr ⟨lw_p92, List.forall_mem_cons.mpr ⟨lw_p93, List.forall_mem_cons.mpr ⟨lw_p94, List.forall_mem_cons.mpr ⟨lw_p95, fun _ h => absurd h List.not_mem_nil⟩⟩⟩⟩⟩⟩⟩⟩⟩⟩⟩⟩⟩⟩⟩⟩
theorem lw_p96 : lw_okq (⟨"PathTrustModel", "good", "()Z"⟩, 28) := ⟨⟨by decide +kernel, by decide +kernel⟩, List.mem_of_getElem? (i := 1271) (by decide +kernel), List.mem_of_getElem? (i := 1415) (by decide +kernel), List.mem_of_getElem? (i := 1416) (by decide +kernel)⟩
theorem lw_p97 : lw_okq (⟨"PathTrustModel", "errs", "(I)V"⟩, 28) := ⟨⟨by decide +kernel, by decide +kernel⟩, List.mem_of_getElem? (i := 1271) (by decide +kernel), List.mem_of_getElem? (i := 1421) (by decide +kernel), List.mem_of_getElem? (i := 1422) (by decide +kernel)⟩
theorem lw_p98 : lw_okq (⟨"PathTrustModel", "goOn", "()V"⟩, 28) := ⟨⟨by decide +kernel, by decide +kernel⟩, List.mem_of_getElem? (i := 1271) (by decide +kernel), List.mem_of_getElem? (i := 1425) (by decide +kernel), List.mem_of_getElem? (i := 1426) (by decide +kernel)⟩
theorem lw_p99 : lw_okq (⟨"PathTrustModel", "numberBehind", "(Ljava/lang/String;II)I"⟩, 28) := ⟨⟨by decide +kernel, by decide +kernel⟩, List.mem_of_getElem? (i := 1271) (by decide +kernel), List.mem_of_getElem? (i := 1430) (by decide +kernel), List.mem_of_getElem? (i := 1431) (by decide +kernel)⟩
theorem lw_p100 : lw_okq (⟨"PathTrustModel", "number", "(II)I"⟩, 28) := ⟨⟨by decide +kernel, by decide +kernel⟩, List.mem_of_getElem? (i := 1271) (by decide +kernel), List.mem_of_getElem? (i := 1434) (by decide +kernel), List.mem_of_getElem? (i := 1435) (by decide +kernel)⟩
theorem lw_p101 : lw_okq (⟨"PathTrustModel", "semicolon", "()V"⟩, 28) := ⟨⟨by decide +kernel, by decide +kernel⟩, List.mem_of_getElem? (i := 1271) (by decide +kernel), List.mem_of_getElem? (i := 1442) (by decide +kernel), List.mem_of_getElem? (i := 1443) (by decide +kernel)⟩
theorem lw_p102 : lw_okq (⟨"PathTrustModel", "parseStatement", "()V"⟩, 28) := ⟨⟨by decide +kernel, by decide +kernel⟩, List.mem_of_getElem? (i := 1271) (by decide +kernel), List.mem_of_getElem? (i := 1446) (by decide +kernel), List.mem_of_getElem? (i := 1447) (by decide +kernel)⟩
theorem lw_p103 : lw_okq (⟨"PathTrustModel", "parseNew", "(II)V"⟩, 28) := ⟨⟨by decide +kernel, by decide +kernel⟩, List.mem_of_getElem? (i := 1271) (by decide +kernel), List.mem_of_getElem? (i := 1451) (by decide +kernel), List.mem_of_getElem? (i := 1452) (by decide +kernel)⟩
theorem lw_p104 : lw_okq (⟨"PathTrustModel", "nameHere", "()I"⟩, 28) := ⟨⟨by decide +kernel, by decide +kernel⟩, List.mem_of_getElem? (i := 1271) (by decide +kernel), List.mem_of_getElem? (i := 1455) (by decide +kernel), List.mem_of_getElem? (i := 1456) (by decide +kernel)⟩
theorem lw_p105 : lw_okq (⟨"PathTrustModel", "isKeyword", "()Z"⟩, 28) := ⟨⟨by decide +kernel, by decide +kernel⟩, List.mem_of_getElem? (i := 1271) (by decide +kernel), List.mem_of_getElem? (i := 1459) (by decide +kernel), List.mem_of_getElem? (i := 1460) (by decide +kernel)⟩
theorem lw_p106 : lw_okq (⟨"PathTrustModel", "withName", "(III)I"⟩, 28) := ⟨⟨by decide +kernel, by decide +kernel⟩, List.mem_of_getElem? (i := 1271) (by decide +kernel), List.mem_of_getElem? (i := 1470) (by decide +kernel), List.mem_of_getElem? (i := 1471) (by decide +kernel)⟩
theorem lw_p107 : lw_okq (⟨"PathTrustModel", "parseLink", "()V"⟩, 28) := ⟨⟨by decide +kernel, by decide +kernel⟩, List.mem_of_getElem? (i := 1271) (by decide +kernel), List.mem_of_getElem? (i := 1474) (by decide +kernel), List.mem_of_getElem? (i := 1475) (by decide +kernel)⟩
theorem lw_p108 : lw_okq (⟨"PathTrustModel", "told", "(II)I"⟩, 28) := ⟨⟨by decide +kernel, by decide +kernel⟩, List.mem_of_getElem? (i := 1271) (by decide +kernel), List.mem_of_getElem? (i := 1478) (by decide +kernel), List.mem_of_getElem? (i := 1479) (by decide +kernel)⟩
theorem lw_p109 : lw_okq (⟨"PathTrustModel", "areLinked", "(II)Z"⟩, 28) := ⟨⟨by decide +kernel, by decide +kernel⟩, List.mem_of_getElem? (i := 1271) (by decide +kernel), List.mem_of_getElem? (i := 1482) (by decide +kernel), List.mem_of_getElem? (i := 1483) (by decide +kernel)⟩
theorem lw_p110 : lw_okq (⟨"PathTrustModel", "trustOf", "(II)I"⟩, 28) := ⟨⟨by decide +kernel, by decide +kernel⟩, List.mem_of_getElem? (i := 1271) (by decide +kernel), List.mem_of_getElem? (i := 1486) (by decide +kernel), List.mem_of_getElem? (i := 1487) (by decide +kernel)⟩
theorem lw_p111 : lw_okq (⟨"PathTrustModel", "putTrust", "(III)V"⟩, 28) := ⟨⟨by decide +kernel, by decide +kernel⟩, List.mem_of_getElem? (i := 1271) (by decide +kernel), List.mem_of_getElem? (i := 1490) (by decide +kernel), List.mem_of_getElem? (i := 1491) (by decide +kernel)⟩
def lw_privs_7 : List (MethodName × Nat) := [(⟨"PathTrustModel", "good", "()Z"⟩, 28), (⟨"PathTrustModel", "errs", "(I)V"⟩, 28), (⟨"PathTrustModel", "goOn", "()V"⟩, 28), (⟨"PathTrustModel", "numberBehind", "(Ljava/lang/String;II)I"⟩, 28), (⟨"PathTrustModel", "number", "(II)I"⟩, 28), (⟨"PathTrustModel", "semicolon", "()V"⟩, 28), (⟨"PathTrustModel", "parseStatement", "()V"⟩, 28), (⟨"PathTrustModel", "parseNew", "(II)V"⟩, 28), (⟨"PathTrustModel", "nameHere", "()I"⟩, 28), (⟨"PathTrustModel", "isKeyword", "()Z"⟩, 28), (⟨"PathTrustModel", "withName", "(III)I"⟩, 28), (⟨"PathTrustModel", "parseLink", "()V"⟩, 28), (⟨"PathTrustModel", "told", "(II)I"⟩, 28), (⟨"PathTrustModel", "areLinked", "(II)Z"⟩, 28), (⟨"PathTrustModel", "trustOf", "(II)I"⟩, 28), (⟨"PathTrustModel", "putTrust", "(III)V"⟩, 28)]
theorem lw_r7 : ∀ q ∈ lw_privs_7, lw_okq q := List.forall_mem_cons.mpr ⟨lw_p96, List.forall_mem_cons.mpr ⟨lw_p97, List.forall_mem_cons.mpr ⟨lw_p98, List.forall_mem_cons.mpr ⟨lw_p99, List.forall_mem_cons.mpr ⟨lw_p100, List.forall_mem_cons.mpr ⟨lw_p101, List.forall_mem_cons.mpr ⟨lw_p102, List.forall_mem_cons.mpr ⟨lw_p103, List.forall_mem_cons.mpr ⟨lw_p104, List.forall_mem_cons.mpr ⟨lw_p105, List.forall_mem_cons.mpr ⟨lw_p106, List.forall_mem_cons.mpr ⟨lw_p107, List.forall_mem_cons.mpr ⟨lw_p108, List.forall_mem_cons.mpr ⟨lw_p109, List.forall_mem_cons.mpr ⟨lw_p110, List.forall_mem_cons.mpr ⟨lw_p111, fun _ h => absurd h List.not_mem_nil⟩⟩⟩⟩⟩⟩⟩⟩⟩⟩⟩⟩⟩⟩⟩⟩
theorem lw_p112 : lw_okq (⟨"PathTrustModel", "parseProbe", "()V"⟩, 28) := ⟨⟨by decide +kernel, by decide +kernel⟩, List.mem_of_getElem? (i := 1271) (by decide +kernel), List.mem_of_getElem? (i := 1494) (by decide +kernel), List.mem_of_getElem? (i := 1495) (by decide +kernel)⟩
theorem lw_p113 : lw_okq (⟨"PathTrustModel", "doProbe", "(IIII)I"⟩, 28) := ⟨⟨by decide +kernel, by decide +kernel⟩, List.mem_of_getElem? (i := 1271) (by decide +kernel), List.mem_of_getElem? (i := 1498) (by decide +kernel), List.mem_of_getElem? (i := 1499) (by decide +kernel)⟩
theorem lw_p114 : lw_okq (⟨"PathTrustModel", "comes", "(IIIIIII)I"⟩, 28) := ⟨⟨by decide +kernel, by decide +kernel⟩, List.mem_of_getElem? (i := 1271) (by decide +kernel), List.mem_of_getElem? (i := 1502) (by decide +kernel), List.mem_of_getElem? (i := 1503) (by decide +kernel)⟩
theorem lw_p115 : lw_okq (⟨"PathTrustModel", "reportOf", "(III)I"⟩, 28) := ⟨⟨by decide +kernel, by decide +kernel⟩, List.mem_of_getElem? (i := 1271) (by decide +kernel), List.mem_of_getElem? (i := 1506) (by decide +kernel), List.mem_of_getElem? (i := 1507) (by decide +kernel)⟩
theorem lw_p116 : lw_okq (⟨"PathTrustModel", "manyOf", "(I)I"⟩, 28) := ⟨⟨by decide +kernel, by decide +kernel⟩, List.mem_of_getElem? (i := 1271) (by decide +kernel), List.mem_of_getElem? (i := 1510) (by decide +kernel), List.mem_of_getElem? (i := 1511) (by decide +kernel)⟩
theorem lw_p117 : lw_okq (⟨"PathTrustModel", "ofReport", "(III)I"⟩, 28) := ⟨⟨by decide +kernel, by decide +kernel⟩, List.mem_of_getElem? (i := 1271) (by decide +kernel), List.mem_of_getElem? (i := 1517) (by decide +kernel), List.mem_of_getElem? (i := 1518) (by decide +kernel)⟩
theorem lw_p118 : lw_okq (⟨"PathTrustModel", "dropReport", "(II)V"⟩, 28) := ⟨⟨by decide +kernel, by decide +kernel⟩, List.mem_of_getElem? (i := 1271) (by decide +kernel), List.mem_of_getElem? (i := 1524) (by decide +kernel), List.mem_of_getElem? (i := 1525) (by decide +kernel)⟩
theorem lw_p119 : lw_okq (⟨"PathTrustModel", "count", "(II)V"⟩, 28) := ⟨⟨by decide +kernel, by decide +kernel⟩, List.mem_of_getElem? (i := 1271) (by decide +kernel), List.mem_of_getElem? (i := 1528) (by decide +kernel), List.mem_of_getElem? (i := 1529) (by decide +kernel)⟩
theorem lw_p120 : lw_okq (⟨"PathTrustModel", "judges", "(III)Z"⟩, 28) := ⟨⟨by decide +kernel, by decide +kernel⟩, List.mem_of_getElem? (i := 1271) (by decide +kernel), List.mem_of_getElem? (i := 1532) (by decide +kernel), List.mem_of_getElem? (i := 1533) (by decide +kernel)⟩
theorem lw_p121 : lw_okq (⟨"PathTrustModel", "doMeet", "(III)Z"⟩, 28) := ⟨⟨by decide +kernel, by decide +kernel⟩, List.mem_of_getElem? (i := 1271) (by decide +kernel), List.mem_of_getElem? (i := 1536) (by decide +kernel), List.mem_of_getElem? (i := 1537) (by decide +kernel)⟩
theorem lw_p122 : lw_okq (⟨"PathTrustModel", "driftOf", "(II)I"⟩, 28) := ⟨⟨by decide +kernel, by decide +kernel⟩, List.mem_of_getElem? (i := 1271) (by decide +kernel), List.mem_of_getElem? (i := 1540) (by decide +kernel), List.mem_of_getElem? (i := 1541) (by decide +kernel)⟩
theorem lw_p123 : lw_okq (⟨"PathTrustModel", "rule", "(I)I"⟩, 28) := ⟨⟨by decide +kernel, by decide +kernel⟩, List.mem_of_getElem? (i := 1271) (by decide +kernel), List.mem_of_getElem? (i := 1544) (by decide +kernel), List.mem_of_getElem? (i := 1545) (by decide +kernel)⟩
theorem lw_p124 : lw_okq (⟨"PathTrustModel", "ageAt", "(I)I"⟩, 28) := ⟨⟨by decide +kernel, by decide +kernel⟩, List.mem_of_getElem? (i := 1271) (by decide +kernel), List.mem_of_getElem? (i := 1548) (by decide +kernel), List.mem_of_getElem? (i := 1549) (by decide +kernel)⟩
theorem lw_p125 : lw_okq (⟨"PathTrustModel", "lowBy", "(III)I"⟩, 28) := ⟨⟨by decide +kernel, by decide +kernel⟩, List.mem_of_getElem? (i := 1271) (by decide +kernel), List.mem_of_getElem? (i := 1552) (by decide +kernel), List.mem_of_getElem? (i := 1553) (by decide +kernel)⟩
theorem lw_p126 : lw_okq (⟨"PathTrustModel", "topBy", "(III)I"⟩, 28) := ⟨⟨by decide +kernel, by decide +kernel⟩, List.mem_of_getElem? (i := 1271) (by decide +kernel), List.mem_of_getElem? (i := 1560) (by decide +kernel), List.mem_of_getElem? (i := 1561) (by decide +kernel)⟩
theorem lw_p127 : lw_okq (⟨"PathTrustModel", "remember", "()V"⟩, 28) := ⟨⟨by decide +kernel, by decide +kernel⟩, List.mem_of_getElem? (i := 1271) (by decide +kernel), List.mem_of_getElem? (i := 1567) (by decide +kernel), List.mem_of_getElem? (i := 1568) (by decide +kernel)⟩
def lw_privs_8 : List (MethodName × Nat) := [(⟨"PathTrustModel", "parseProbe", "()V"⟩, 28), (⟨"PathTrustModel", "doProbe", "(IIII)I"⟩, 28), (⟨"PathTrustModel", "comes", "(IIIIIII)I"⟩, 28), (⟨"PathTrustModel", "reportOf", "(III)I"⟩, 28), (⟨"PathTrustModel", "manyOf", "(I)I"⟩, 28), (⟨"PathTrustModel", "ofReport", "(III)I"⟩, 28), (⟨"PathTrustModel", "dropReport", "(II)V"⟩, 28), (⟨"PathTrustModel", "count", "(II)V"⟩, 28), (⟨"PathTrustModel", "judges", "(III)Z"⟩, 28), (⟨"PathTrustModel", "doMeet", "(III)Z"⟩, 28), (⟨"PathTrustModel", "driftOf", "(II)I"⟩, 28), (⟨"PathTrustModel", "rule", "(I)I"⟩, 28), (⟨"PathTrustModel", "ageAt", "(I)I"⟩, 28), (⟨"PathTrustModel", "lowBy", "(III)I"⟩, 28), (⟨"PathTrustModel", "topBy", "(III)I"⟩, 28), (⟨"PathTrustModel", "remember", "()V"⟩, 28)]
theorem lw_r8 : ∀ q ∈ lw_privs_8, lw_okq q := List.forall_mem_cons.mpr ⟨lw_p112, List.forall_mem_cons.mpr ⟨lw_p113, List.forall_mem_cons.mpr ⟨lw_p114, List.forall_mem_cons.mpr ⟨lw_p115, List.forall_mem_cons.mpr ⟨lw_p116, List.forall_mem_cons.mpr ⟨lw_p117, List.forall_mem_cons.mpr ⟨lw_p118, List.forall_mem_cons.mpr ⟨lw_p119, List.forall_mem_cons.mpr ⟨lw_p120, List.forall_mem_cons.mpr ⟨lw_p121, List.forall_mem_cons.mpr ⟨lw_p122, List.forall_mem_cons.mpr ⟨lw_p123, List.forall_mem_cons.mpr ⟨lw_p124, List.forall_mem_cons.mpr ⟨lw_p125, List.forall_mem_cons.mpr ⟨lw_p126, List.forall_mem_cons.mpr ⟨lw_p127, fun _ h => absurd h List.not_mem_nil⟩⟩⟩⟩⟩⟩⟩⟩⟩⟩⟩⟩⟩⟩⟩⟩
theorem lw_p128 : lw_okq (⟨"PathTrustModel", "agents", "()I"⟩, 28) := ⟨⟨by decide +kernel, by decide +kernel⟩, List.mem_of_getElem? (i := 1271) (by decide +kernel), List.mem_of_getElem? (i := 1571) (by decide +kernel), List.mem_of_getElem? (i := 1572) (by decide +kernel)⟩
theorem lw_p129 : lw_okq (⟨"PathTrustModel", "found", "(II)I"⟩, 28) := ⟨⟨by decide +kernel, by decide +kernel⟩, List.mem_of_getElem? (i := 1271) (by decide +kernel), List.mem_of_getElem? (i := 1587) (by decide +kernel), List.mem_of_getElem? (i := 1588) (by decide +kernel)⟩
theorem lw_p130 : lw_okq (⟨"PathTrustModel", "ways", "()I"⟩, 28) := ⟨⟨by decide +kernel, by decide +kernel⟩, List.mem_of_getElem? (i := 1271) (by decide +kernel), List.mem_of_getElem? (i := 1596) (by decide +kernel), List.mem_of_getElem? (i := 1597) (by decide +kernel)⟩
theorem lw_p131 : lw_okq (⟨"PathTrustModel", "queued", "()I"⟩, 28) := ⟨⟨by decide +kernel, by decide +kernel⟩, List.mem_of_getElem? (i := 1271) (by decide +kernel), List.mem_of_getElem? (i := 1605) (by decide +kernel), List.mem_of_getElem? (i := 1606) (by decide +kernel)⟩
theorem lw_p132 : lw_okq (⟨"PathTrustModel", "links", "()I"⟩, 28) := ⟨⟨by decide +kernel, by decide +kernel⟩, List.mem_of_getElem? (i := 1271) (by decide +kernel), List.mem_of_getElem? (i := 1609) (by decide +kernel), List.mem_of_getElem? (i := 1610) (by decide +kernel)⟩
theorem lw_p133 : lw_okq (⟨"PathTrustModel", "neighborsOf", "(I)I"⟩, 28) := ⟨⟨by decide +kernel, by decide +kernel⟩, List.mem_of_getElem? (i := 1271) (by decide +kernel), List.mem_of_getElem? (i := 1613) (by decide +kernel), List.mem_of_getElem? (i := 1614) (by decide +kernel)⟩
theorem lw_p134 : lw_okq (⟨"PathTrustModel", "areAgents", "(II)Z"⟩, 28) := ⟨⟨by decide +kernel, by decide +kernel⟩, List.mem_of_getElem? (i := 1271) (by decide +kernel), List.mem_of_getElem? (i := 1624) (by decide +kernel), List.mem_of_getElem? (i := 1625) (by decide +kernel)⟩
theorem lw_p135 : lw_okq (⟨"PathTrustModel", "isAgent", "(I)Z"⟩, 28) := ⟨⟨by decide +kernel, by decide +kernel⟩, List.mem_of_getElem? (i := 1271) (by decide +kernel), List.mem_of_getElem? (i := 1628) (by decide +kernel), List.mem_of_getElem? (i := 1629) (by decide +kernel)⟩
theorem lw_p136 : lw_okq (⟨"PathTrustModel", "passes2", "(ZZ)Z"⟩, 28) := ⟨⟨by decide +kernel, by decide +kernel⟩, List.mem_of_getElem? (i := 1271) (by decide +kernel), List.mem_of_getElem? (i := 1653) (by decide +kernel), List.mem_of_getElem? (i := 1654) (by decide +kernel)⟩
theorem lw_p137 : lw_okq (⟨"PathTrustModel", "isReport", "(II)Z"⟩, 28) := ⟨⟨by decide +kernel, by decide +kernel⟩, List.mem_of_getElem? (i := 1271) (by decide +kernel), List.mem_of_getElem? (i := 1665) (by decide +kernel), List.mem_of_getElem? (i := 1666) (by decide +kernel)⟩
theorem lw_p138 : lw_okq (⟨"PathTrustModel", "statusAt", "(II)I"⟩, 28) := ⟨⟨by decide +kernel, by decide +kernel⟩, List.mem_of_getElem? (i := 1271) (by decide +kernel), List.mem_of_getElem? (i := 1673) (by decide +kernel), List.mem_of_getElem? (i := 1674) (by decide +kernel)⟩
theorem lw_p139 : lw_okq (⟨"PathTrustModel", "layBelief", "(II)V"⟩, 28) := ⟨⟨by decide +kernel, by decide +kernel⟩, List.mem_of_getElem? (i := 1271) (by decide +kernel), List.mem_of_getElem? (i := 1677) (by decide +kernel), List.mem_of_getElem? (i := 1678) (by decide +kernel)⟩
theorem lw_p140 : lw_okq (⟨"PathTrustModel", "isOut", "(II)Z"⟩, 28) := ⟨⟨by decide +kernel, by decide +kernel⟩, List.mem_of_getElem? (i := 1271) (by decide +kernel), List.mem_of_getElem? (i := 1681) (by decide +kernel), List.mem_of_getElem? (i := 1682) (by decide +kernel)⟩
theorem lw_p141 : lw_okq (⟨"PathTrustModel", "isOwn", "(II)Z"⟩, 28) := ⟨⟨by decide +kernel, by decide +kernel⟩, List.mem_of_getElem? (i := 1271) (by decide +kernel), List.mem_of_getElem? (i := 1685) (by decide +kernel), List.mem_of_getElem? (i := 1686) (by decide +kernel)⟩
theorem lw_p142 : lw_okq (⟨"PathTrustModel", "trustInVia", "(II)I"⟩, 28) := ⟨⟨by decide +kernel, by decide +kernel⟩, List.mem_of_getElem? (i := 1271) (by decide +kernel), List.mem_of_getElem? (i := 1689) (by decide +kernel), List.mem_of_getElem? (i := 1690) (by decide +kernel)⟩
theorem lw_p143 : lw_okq (⟨"PathTrustModel", "nextReport", "(I)I"⟩, 28) := ⟨⟨by decide +kernel, by decide +kernel⟩, List.mem_of_getElem? (i := 1271) (by decide +kernel), List.mem_of_getElem? (i := 1693) (by decide +kernel), List.mem_of_getElem? (i := 1694) (by decide +kernel)⟩
def lw_privs_9 : List (MethodName × Nat) := [(⟨"PathTrustModel", "agents", "()I"⟩, 28), (⟨"PathTrustModel", "found", "(II)I"⟩, 28), (⟨"PathTrustModel", "ways", "()I"⟩, 28), (⟨"PathTrustModel", "queued", "()I"⟩, 28), (⟨"PathTrustModel", "links", "()I"⟩, 28), (⟨"PathTrustModel", "neighborsOf", "(I)I"⟩, 28), (⟨"PathTrustModel", "areAgents", "(II)Z"⟩, 28), (⟨"PathTrustModel", "isAgent", "(I)Z"⟩, 28), (⟨"PathTrustModel", "passes2", "(ZZ)Z"⟩, 28), (⟨"PathTrustModel", "isReport", "(II)Z"⟩, 28), (⟨"PathTrustModel", "statusAt", "(II)I"⟩, 28), (⟨"PathTrustModel", "layBelief", "(II)V"⟩, 28), (⟨"PathTrustModel", "isOut", "(II)Z"⟩, 28), (⟨"PathTrustModel", "isOwn", "(II)Z"⟩, 28), (⟨"PathTrustModel", "trustInVia", "(II)I"⟩, 28), (⟨"PathTrustModel", "nextReport", "(I)I"⟩, 28)]
theorem lw_r9 : ∀ q ∈ lw_privs_9, lw_okq q := List.forall_mem_cons.mpr ⟨lw_p128, List.forall_mem_cons.mpr ⟨lw_p129, List.forall_mem_cons.mpr ⟨lw_p130, List.forall_mem_cons.mpr ⟨lw_p131, List.forall_mem_cons.mpr ⟨lw_p132, List.forall_mem_cons.mpr ⟨lw_p133, List.forall_mem_cons.mpr ⟨lw_p134, List.forall_mem_cons.mpr ⟨lw_p135, List.forall_mem_cons.mpr ⟨lw_p136, List.forall_mem_cons.mpr ⟨lw_p137, List.forall_mem_cons.mpr ⟨lw_p138, List.forall_mem_cons.mpr ⟨lw_p139, List.forall_mem_cons.mpr ⟨lw_p140, List.forall_mem_cons.mpr ⟨lw_p141, List.forall_mem_cons.mpr ⟨lw_p142, List.forall_mem_cons.mpr ⟨lw_p143, fun _ h => absurd h List.not_mem_nil⟩⟩⟩⟩⟩⟩⟩⟩⟩⟩⟩⟩⟩⟩⟩⟩
theorem lw_p144 : lw_okq (⟨"PathTrustModel", "isAhead", "(III)Z"⟩, 28) := ⟨⟨by decide +kernel, by decide +kernel⟩, List.mem_of_getElem? (i := 1271) (by decide +kernel), List.mem_of_getElem? (i := 1697) (by decide +kernel), List.mem_of_getElem? (i := 1698) (by decide +kernel)⟩
theorem lw_p145 : lw_okq (⟨"PathTrustModel", "movedBy", "(II)I"⟩, 28) := ⟨⟨by decide +kernel, by decide +kernel⟩, List.mem_of_getElem? (i := 1271) (by decide +kernel), List.mem_of_getElem? (i := 1701) (by decide +kernel), List.mem_of_getElem? (i := 1702) (by decide +kernel)⟩
theorem lw_p146 : lw_okq (⟨"PathTrustModel", "areThere", "(II)Z"⟩, 28) := ⟨⟨by decide +kernel, by decide +kernel⟩, List.mem_of_getElem? (i := 1271) (by decide +kernel), List.mem_of_getElem? (i := 1713) (by decide +kernel), List.mem_of_getElem? (i := 1714) (by decide +kernel)⟩
theorem lw_p147 : lw_okq (⟨"PathTrustModel", "isWay", "(I)Z"⟩, 28) := ⟨⟨by decide +kernel, by decide +kernel⟩, List.mem_of_getElem? (i := 1271) (by decide +kernel), List.mem_of_getElem? (i := 1717) (by decide +kernel), List.mem_of_getElem? (i := 1718) (by decide +kernel)⟩
theorem lw_p148 : lw_okq (⟨"PathTrustModel", "ownOf", "(II)I"⟩, 28) := ⟨⟨by decide +kernel, by decide +kernel⟩, List.mem_of_getElem? (i := 1271) (by decide +kernel), List.mem_of_getElem? (i := 1721) (by decide +kernel), List.mem_of_getElem? (i := 1722) (by decide +kernel)⟩
theorem lw_p149 : lw_okq (⟨"PathTrustModel", "boundOf", "(III)I"⟩, 28) := ⟨⟨by decide +kernel, by decide +kernel⟩, List.mem_of_getElem? (i := 1271) (by decide +kernel), List.mem_of_getElem? (i := 1729) (by decide +kernel), List.mem_of_getElem? (i := 1730) (by decide +kernel)⟩
theorem lw_p150 : lw_okq (⟨"PathTrustModel", "originsWith", "(III)I"⟩, 28) := ⟨⟨by decide +kernel, by decide +kernel⟩, List.mem_of_getElem? (i := 1271) (by decide +kernel), List.mem_of_getElem? (i := 1737) (by decide +kernel), List.mem_of_getElem? (i := 1738) (by decide +kernel)⟩
theorem lw_p151 : lw_okq (⟨"PathTrustModel", "bestOf", "(II)I"⟩, 28) := ⟨⟨by decide +kernel, by decide +kernel⟩, List.mem_of_getElem? (i := 1271) (by decide +kernel), List.mem_of_getElem? (i := 1750) (by decide +kernel), List.mem_of_getElem? (i := 1751) (by decide +kernel)⟩
theorem lw_p152 : lw_okq (⟨"PathTrustModel", "valueOf", "(III)I"⟩, 28) := ⟨⟨by decide +kernel, by decide +kernel⟩, List.mem_of_getElem? (i := 1271) (by decide +kernel), List.mem_of_getElem? (i := 1754) (by decide +kernel), List.mem_of_getElem? (i := 1755) (by decide +kernel)⟩
theorem lw_p153 : lw_okq (⟨"PathTrustModel", "rivalsOf", "(I)I"⟩, 28) := ⟨⟨by decide +kernel, by decide +kernel⟩, List.mem_of_getElem? (i := 1271) (by decide +kernel), List.mem_of_getElem? (i := 1762) (by decide +kernel), List.mem_of_getElem? (i := 1763) (by decide +kernel)⟩
theorem lw_p154 : lw_okq (⟨"PathTrustModel", "widthOf", "(II)I"⟩, 28) := ⟨⟨by decide +kernel, by decide +kernel⟩, List.mem_of_getElem? (i := 1271) (by decide +kernel), List.mem_of_getElem? (i := 1770) (by decide +kernel), List.mem_of_getElem? (i := 1771) (by decide +kernel)⟩
theorem lw_p155 : lw_okq (⟨"PathTrustModel", "isMessage", "(I)Z"⟩, 28) := ⟨⟨by decide +kernel, by decide +kernel⟩, List.mem_of_getElem? (i := 1271) (by decide +kernel), List.mem_of_getElem? (i := 1791) (by decide +kernel), List.mem_of_getElem? (i := 1792) (by decide +kernel)⟩
theorem lw_p156 : lw_okq (⟨"PathTrustModel", "ofMessage", "(II)I"⟩, 28) := ⟨⟨by decide +kernel, by decide +kernel⟩, List.mem_of_getElem? (i := 1271) (by decide +kernel), List.mem_of_getElem? (i := 1795) (by decide +kernel), List.mem_of_getElem? (i := 1796) (by decide +kernel)⟩
theorem lw_p157 : lw_okq (⟨"PathTrustModel", "refusalOf", "(I)I"⟩, 28) := ⟨⟨by decide +kernel, by decide +kernel⟩, List.mem_of_getElem? (i := 1271) (by decide +kernel), List.mem_of_getElem? (i := 1802) (by decide +kernel), List.mem_of_getElem? (i := 1803) (by decide +kernel)⟩
theorem lw_p158 : lw_okq (⟨"PathTrustModel", "majorityOf", "(II)I"⟩, 28) := ⟨⟨by decide +kernel, by decide +kernel⟩, List.mem_of_getElem? (i := 1271) (by decide +kernel), List.mem_of_getElem? (i := 1810) (by decide +kernel), List.mem_of_getElem? (i := 1811) (by decide +kernel)⟩
theorem lw_p159 : lw_okq (⟨"PathTrustModel", "agreed", "(II)I"⟩, 28) := ⟨⟨by decide +kernel, by decide +kernel⟩, List.mem_of_getElem? (i := 1271) (by decide +kernel), List.mem_of_getElem? (i := 1814) (by decide +kernel), List.mem_of_getElem? (i := 1815) (by decide +kernel)⟩
def lw_privs_10 : List (MethodName × Nat) := [(⟨"PathTrustModel", "isAhead", "(III)Z"⟩, 28), (⟨"PathTrustModel", "movedBy", "(II)I"⟩, 28), (⟨"PathTrustModel", "areThere", "(II)Z"⟩, 28), (⟨"PathTrustModel", "isWay", "(I)Z"⟩, 28), (⟨"PathTrustModel", "ownOf", "(II)I"⟩, 28), (⟨"PathTrustModel", "boundOf", "(III)I"⟩, 28), (⟨"PathTrustModel", "originsWith", "(III)I"⟩, 28), (⟨"PathTrustModel", "bestOf", "(II)I"⟩, 28), (⟨"PathTrustModel", "valueOf", "(III)I"⟩, 28), (⟨"PathTrustModel", "rivalsOf", "(I)I"⟩, 28), (⟨"PathTrustModel", "widthOf", "(II)I"⟩, 28), (⟨"PathTrustModel", "isMessage", "(I)Z"⟩, 28), (⟨"PathTrustModel", "ofMessage", "(II)I"⟩, 28), (⟨"PathTrustModel", "refusalOf", "(I)I"⟩, 28), (⟨"PathTrustModel", "majorityOf", "(II)I"⟩, 28), (⟨"PathTrustModel", "agreed", "(II)I"⟩, 28)]
theorem lw_r10 : ∀ q ∈ lw_privs_10, lw_okq q := List.forall_mem_cons.mpr ⟨lw_p144, List.forall_mem_cons.mpr ⟨lw_p145, List.forall_mem_cons.mpr ⟨lw_p146, List.forall_mem_cons.mpr ⟨lw_p147, List.forall_mem_cons.mpr ⟨lw_p148, List.forall_mem_cons.mpr ⟨lw_p149, List.forall_mem_cons.mpr ⟨lw_p150, List.forall_mem_cons.mpr ⟨lw_p151, List.forall_mem_cons.mpr ⟨lw_p152, List.forall_mem_cons.mpr ⟨lw_p153, List.forall_mem_cons.mpr ⟨lw_p154, List.forall_mem_cons.mpr ⟨lw_p155, List.forall_mem_cons.mpr ⟨lw_p156, List.forall_mem_cons.mpr ⟨lw_p157, List.forall_mem_cons.mpr ⟨lw_p158, List.forall_mem_cons.mpr ⟨lw_p159, fun _ h => absurd h List.not_mem_nil⟩⟩⟩⟩⟩⟩⟩⟩⟩⟩⟩⟩⟩⟩⟩⟩
theorem lw_p160 : lw_okq (⟨"PathTrustModel", "holding", "(II)I"⟩, 28) := ⟨⟨by decide +kernel, by decide +kernel⟩, List.mem_of_getElem? (i := 1271) (by decide +kernel), List.mem_of_getElem? (i := 1818) (by decide +kernel), List.mem_of_getElem? (i := 1819) (by decide +kernel)⟩
theorem lw_p161 : lw_okq (⟨"PathTrustModel", "reaches", "(III)Z"⟩, 28) := ⟨⟨by decide +kernel, by decide +kernel⟩, List.mem_of_getElem? (i := 1271) (by decide +kernel), List.mem_of_getElem? (i := 1834) (by decide +kernel), List.mem_of_getElem? (i := 1835) (by decide +kernel)⟩
theorem lw_p162 : lw_okq (⟨"PathTrustModel", "keepAside", "()V"⟩, 28) := ⟨⟨by decide +kernel, by decide +kernel⟩, List.mem_of_getElem? (i := 1271) (by decide +kernel), List.mem_of_getElem? (i := 1842) (by decide +kernel), List.mem_of_getElem? (i := 1843) (by decide +kernel)⟩
theorem lw_p163 : lw_okq (⟨"PathTrustModel", "doRound", "()I"⟩, 28) := ⟨⟨by decide +kernel, by decide +kernel⟩, List.mem_of_getElem? (i := 1271) (by decide +kernel), List.mem_of_getElem? (i := 1846) (by decide +kernel), List.mem_of_getElem? (i := 1847) (by decide +kernel)⟩
theorem lw_p164 : lw_okq (⟨"PathTrustModel", "doRelay", "(I)I"⟩, 28) := ⟨⟨by decide +kernel, by decide +kernel⟩, List.mem_of_getElem? (i := 1271) (by decide +kernel), List.mem_of_getElem? (i := 1850) (by decide +kernel), List.mem_of_getElem? (i := 1851) (by decide +kernel)⟩
theorem lw_p165 : lw_okq (⟨"PathTrustModel", "spreads", "(IIII)I"⟩, 28) := ⟨⟨by decide +kernel, by decide +kernel⟩, List.mem_of_getElem? (i := 1271) (by decide +kernel), List.mem_of_getElem? (i := 1854) (by decide +kernel), List.mem_of_getElem? (i := 1855) (by decide +kernel)⟩
theorem lw_p166 : lw_okq (⟨"PathTrustModel", "sends", "(III)Z"⟩, 28) := ⟨⟨by decide +kernel, by decide +kernel⟩, List.mem_of_getElem? (i := 1271) (by decide +kernel), List.mem_of_getElem? (i := 1858) (by decide +kernel), List.mem_of_getElem? (i := 1859) (by decide +kernel)⟩
theorem lw_p167 : lw_okq (⟨"PathTrustModel", "deliverAll", "(I)I"⟩, 28) := ⟨⟨by decide +kernel, by decide +kernel⟩, List.mem_of_getElem? (i := 1271) (by decide +kernel), List.mem_of_getElem? (i := 1862) (by decide +kernel), List.mem_of_getElem? (i := 1863) (by decide +kernel)⟩
theorem lw_p168 : lw_okq (⟨"PathTrustModel", "delivers", "()Z"⟩, 28) := ⟨⟨by decide +kernel, by decide +kernel⟩, List.mem_of_getElem? (i := 1271) (by decide +kernel), List.mem_of_getElem? (i := 1866) (by decide +kernel), List.mem_of_getElem? (i := 1867) (by decide +kernel)⟩
theorem lw_p169 : lw_okq (⟨"PathTrustModel", "dropFirst", "()V"⟩, 28) := ⟨⟨by decide +kernel, by decide +kernel⟩, List.mem_of_getElem? (i := 1271) (by decide +kernel), List.mem_of_getElem? (i := 1870) (by decide +kernel), List.mem_of_getElem? (i := 1871) (by decide +kernel)⟩
theorem lw_p170 : lw_okq (⟨"PathTrustModel", "layBack", "(I)I"⟩, 28) := ⟨⟨by decide +kernel, by decide +kernel⟩, List.mem_of_getElem? (i := 1271) (by decide +kernel), List.mem_of_getElem? (i := 1874) (by decide +kernel), List.mem_of_getElem? (i := 1875) (by decide +kernel)⟩
theorem lw_p171 : lw_okq (⟨"PathTrustModel", "doPass", "(I)I"⟩, 28) := ⟨⟨by decide +kernel, by decide +kernel⟩, List.mem_of_getElem? (i := 1271) (by decide +kernel), List.mem_of_getElem? (i := 1903) (by decide +kernel), List.mem_of_getElem? (i := 1904) (by decide +kernel)⟩
theorem lw_p172 : lw_okq (⟨"PathTrustModel", "widthBut", "(III)I"⟩, 28) := ⟨⟨by decide +kernel, by decide +kernel⟩, List.mem_of_getElem? (i := 1271) (by decide +kernel), List.mem_of_getElem? (i := 1911) (by decide +kernel), List.mem_of_getElem? (i := 1912) (by decide +kernel)⟩
theorem lw_p173 : lw_okq (⟨"PathTrustModel", "write", "(I)V"⟩, 28) := ⟨⟨by decide +kernel, by decide +kernel⟩, List.mem_of_getElem? (i := 1271) (by decide +kernel), List.mem_of_getElem? (i := 1994) (by decide +kernel), List.mem_of_getElem? (i := 1995) (by decide +kernel)⟩
theorem lw_p174 : lw_okq (⟨"PathTrustModel", "writeName", "(I)V"⟩, 28) := ⟨⟨by decide +kernel, by decide +kernel⟩, List.mem_of_getElem? (i := 1271) (by decide +kernel), List.mem_of_getElem? (i := 1998) (by decide +kernel), List.mem_of_getElem? (i := 1999) (by decide +kernel)⟩
theorem lw_p175 : lw_okq (⟨"PathTrustModel", "writeNumber", "(I)V"⟩, 28) := ⟨⟨by decide +kernel, by decide +kernel⟩, List.mem_of_getElem? (i := 1271) (by decide +kernel), List.mem_of_getElem? (i := 2002) (by decide +kernel), List.mem_of_getElem? (i := 2003) (by decide +kernel)⟩
def lw_privs_11 : List (MethodName × Nat) := [(⟨"PathTrustModel", "holding", "(II)I"⟩, 28), (⟨"PathTrustModel", "reaches", "(III)Z"⟩, 28), (⟨"PathTrustModel", "keepAside", "()V"⟩, 28), (⟨"PathTrustModel", "doRound", "()I"⟩, 28), (⟨"PathTrustModel", "doRelay", "(I)I"⟩, 28), (⟨"PathTrustModel", "spreads", "(IIII)I"⟩, 28), (⟨"PathTrustModel", "sends", "(III)Z"⟩, 28), (⟨"PathTrustModel", "deliverAll", "(I)I"⟩, 28), (⟨"PathTrustModel", "delivers", "()Z"⟩, 28), (⟨"PathTrustModel", "dropFirst", "()V"⟩, 28), (⟨"PathTrustModel", "layBack", "(I)I"⟩, 28), (⟨"PathTrustModel", "doPass", "(I)I"⟩, 28), (⟨"PathTrustModel", "widthBut", "(III)I"⟩, 28), (⟨"PathTrustModel", "write", "(I)V"⟩, 28), (⟨"PathTrustModel", "writeName", "(I)V"⟩, 28), (⟨"PathTrustModel", "writeNumber", "(I)V"⟩, 28)]
theorem lw_r11 : ∀ q ∈ lw_privs_11, lw_okq q := List.forall_mem_cons.mpr ⟨lw_p160, List.forall_mem_cons.mpr ⟨lw_p161, List.forall_mem_cons.mpr ⟨lw_p162, List.forall_mem_cons.mpr ⟨lw_p163, List.forall_mem_cons.mpr ⟨lw_p164, List.forall_mem_cons.mpr ⟨lw_p165, List.forall_mem_cons.mpr ⟨lw_p166, List.forall_mem_cons.mpr ⟨lw_p167, List.forall_mem_cons.mpr ⟨lw_p168, List.forall_mem_cons.mpr ⟨lw_p169, List.forall_mem_cons.mpr ⟨lw_p170, List.forall_mem_cons.mpr ⟨lw_p171, List.forall_mem_cons.mpr ⟨lw_p172, List.forall_mem_cons.mpr ⟨lw_p173, List.forall_mem_cons.mpr ⟨lw_p174, List.forall_mem_cons.mpr ⟨lw_p175, fun _ h => absurd h List.not_mem_nil⟩⟩⟩⟩⟩⟩⟩⟩⟩⟩⟩⟩⟩⟩⟩⟩
def lw_privs : List (MethodName × Nat) := lw_privs_1 ++ (lw_privs_2 ++ (lw_privs_3 ++ (lw_privs_4 ++ (lw_privs_5 ++ (lw_privs_6 ++ (lw_privs_7 ++ (lw_privs_8 ++ (lw_privs_9 ++ (lw_privs_10 ++ (lw_privs_11))))))))))
def lw_tbl : List Cond := k2_sels lw_privs ++ tables_1
theorem lw_privs_ok : ∀ q ∈ lw_privs, lw_okq q := by
  show ∀ q ∈ lw_privs_1 ++ (lw_privs_2 ++ (lw_privs_3 ++ (lw_privs_4 ++ (lw_privs_5 ++ (lw_privs_6 ++ (lw_privs_7 ++ (lw_privs_8 ++ (lw_privs_9 ++ (lw_privs_10 ++ (lw_privs_11)))))))))), lw_okq q
  exact List.forall_mem_append.mpr ⟨lw_r1, List.forall_mem_append.mpr ⟨lw_r2, List.forall_mem_append.mpr ⟨lw_r3, List.forall_mem_append.mpr ⟨lw_r4, List.forall_mem_append.mpr ⟨lw_r5, List.forall_mem_append.mpr ⟨lw_r6, List.forall_mem_append.mpr ⟨lw_r7, List.forall_mem_append.mpr ⟨lw_r8, List.forall_mem_append.mpr ⟨lw_r9, List.forall_mem_append.mpr ⟨lw_r10, lw_r11⟩⟩⟩⟩⟩⟩⟩⟩⟩⟩
/-- the streams that the claim lets the run draw from -/
abbrev lw_cs : List Choice := [Jvm.Choice.named "NaN.bits"]
theorem lw_bits : nanBits ∈ lw_cs := by first | decide | exact List.mem_cons_self | simp [lw_cs, nanBits]
-- ===== end of PART A; then your names; then what follows =====
def RX0 : String := "PathTrust$Buffer"
def TX0 : u_T := fun k => match k with
  | 0 => ("PathTrust$Buffer", "bytes", "[B", true)
  | _ => ("PathTrust$Buffer", "length", "I", false)
def tyX0 : Nat → FieldType := fun k => match k with
  | 0 => .array .byte
  | _ => .int
theorem nmX0 : ∀ a, a < 2 → ∀ b, b < 2 → a ≠ b → (TX0 a).2.1 ≠ (TX0 b).2.1 := by decide +kernel
theorem tyX0_ok : ∀ k, k < 2 → parseFieldDescriptor (TX0 k).2.2.1 = some (tyX0 k) := by decide +kernel
abbrev cX0_init : ByteArray := prog_2_method_1_code
def yX0_init : MethodName := ⟨RX0, "<init>", "(I)V"⟩
abbrev cX0_at : ByteArray := prog_2_method_2_code
def yX0_at : MethodName := ⟨RX0, "at", "(I)I"⟩
abbrev cX0_add : ByteArray := prog_2_method_3_code
def yX0_add : MethodName := ⟨RX0, "add", "(I)V"⟩
abbrev cX0_addFour : ByteArray := prog_2_method_4_code
def yX0_addFour : MethodName := ⟨RX0, "addFour", "(I)V"⟩
abbrev cX0_addNumber : ByteArray := prog_2_method_5_code
def yX0_addNumber : MethodName := ⟨RX0, "addNumber", "(I)V"⟩
abbrev cX0_addName : ByteArray := prog_2_method_6_code
def yX0_addName : MethodName := ⟨RX0, "addName", "(I)V"⟩
abbrev cX0_nameCode : ByteArray := prog_2_method_7_code
def yX0_nameCode : MethodName := ⟨RX0, "nameCode", "(II)I"⟩
def RX1 : String := "PathTrust$Desk"
def TX1 : u_T := fun k => match k with
  | 0 => ("PathTrust$Desk", "rules", "[I", true)
  | 1 => ("PathTrust$Desk", "agents", "LPathTrust$Names;", true)
  | 2 => ("PathTrust$Desk", "ways", "LPathTrust$Names;", true)
  | 3 => ("PathTrust$Desk", "trusts", "[I", true)
  | 4 => ("PathTrust$Desk", "lists", "[LPathTrust$Reports;", true)
  | 5 => ("PathTrust$Desk", "emptyList", "LPathTrust$Reports;", true)
  | 6 => ("PathTrust$Desk", "queue", "LPathTrust$Reports;", true)
  | 7 => ("PathTrust$Desk", "accounts", "[I", true)
  | _ => ("PathTrust$Desk", "time", "I", false)
def tyX1 : Nat → FieldType := fun k => match k with
  | 0 => .array .int
  | 1 => .object "PathTrust$Names"
  | 2 => .object "PathTrust$Names"
  | 3 => .array .int
  | 4 => .array (.object "PathTrust$Reports")
  | 5 => .object "PathTrust$Reports"
  | 6 => .object "PathTrust$Reports"
  | 7 => .array .int
  | _ => .int
theorem nmX1 : ∀ a, a < 9 → ∀ b, b < 9 → a ≠ b → (TX1 a).2.1 ≠ (TX1 b).2.1 := by decide +kernel
theorem tyX1_ok : ∀ k, k < 9 → parseFieldDescriptor (TX1 k).2.2.1 = some (tyX1 k) := by decide +kernel
abbrev cX1_init : ByteArray := prog_3_method_1_code
def yX1_init : MethodName := ⟨RX1, "<init>", "()V"⟩
abbrev cX1_reset : ByteArray := prog_3_method_2_code
def yX1_reset : MethodName := ⟨RX1, "reset", "()V"⟩
abbrev cX1_become : ByteArray := prog_3_method_3_code
def yX1_become : MethodName := ⟨RX1, "become", "(LPathTrust$Desk;)V"⟩
abbrev cX1_rule : ByteArray := prog_3_method_4_code
def yX1_rule : MethodName := ⟨RX1, "rule", "(I)I"⟩
abbrev cX1_putRule : ByteArray := prog_3_method_5_code
def yX1_putRule : MethodName := ⟨RX1, "putRule", "(II)V"⟩
abbrev cX1_listOf : ByteArray := prog_3_method_6_code
def yX1_listOf : MethodName := ⟨RX1, "listOf", "(I)LPathTrust$Reports;"⟩
abbrev cX1_trustIn : ByteArray := prog_3_method_7_code
def yX1_trustIn : MethodName := ⟨RX1, "trustIn", "(II)I"⟩
abbrev cX1_putTrust : ByteArray := prog_3_method_8_code
def yX1_putTrust : MethodName := ⟨RX1, "putTrust", "(III)V"⟩
abbrev cX1_isLinked : ByteArray := prog_3_method_9_code
def yX1_isLinked : MethodName := ⟨RX1, "isLinked", "(II)Z"⟩
abbrev cX1_linkCount : ByteArray := prog_3_method_10_code
def yX1_linkCount : MethodName := ⟨RX1, "linkCount", "()I"⟩
abbrev cX1_reachedFrom : ByteArray := prog_3_method_11_code
def yX1_reachedFrom : MethodName := ⟨RX1, "reachedFrom", "(II)I"⟩
abbrev cX1_accountOf : ByteArray := prog_3_method_12_code
def yX1_accountOf : MethodName := ⟨RX1, "accountOf", "(II)I"⟩
abbrev cX1_tally : ByteArray := prog_3_method_13_code
def yX1_tally : MethodName := ⟨RX1, "tally", "(II)V"⟩
abbrev cX1_accountPlace : ByteArray := prog_3_method_14_code
def yX1_accountPlace : MethodName := ⟨RX1, "accountPlace", "(II)I"⟩
abbrev cX1_isTooOld : ByteArray := prog_3_method_15_code
def yX1_isTooOld : MethodName := ⟨RX1, "isTooOld", "(LPathTrust$Reports;I)Z"⟩
abbrev cX1_driftOf : ByteArray := prog_3_method_16_code
def yX1_driftOf : MethodName := ⟨RX1, "driftOf", "(LPathTrust$Reports;I)I"⟩
abbrev cX1_beliefSpread : ByteArray := prog_3_method_17_code
def yX1_beliefSpread : MethodName := ⟨RX1, "beliefSpread", "(II)I"⟩
abbrev cX1_makeProbe : ByteArray := prog_3_method_18_code
def yX1_makeProbe : MethodName := ⟨RX1, "makeProbe", "(IIII)I"⟩
abbrev cX1_judge : ByteArray := prog_3_method_19_code
def yX1_judge : MethodName := ⟨RX1, "judge", "(III)Z"⟩
abbrev cX1_sendReports : ByteArray := prog_3_method_20_code
def yX1_sendReports : MethodName := ⟨RX1, "sendReports", "(II)I"⟩
abbrev cX1_sendReport : ByteArray := prog_3_method_21_code
def yX1_sendReport : MethodName := ⟨RX1, "sendReport", "(ILPathTrust$Reports;I)V"⟩
abbrev cX1_reasonToRefuse : ByteArray := prog_3_method_22_code
def yX1_reasonToRefuse : MethodName := ⟨RX1, "reasonToRefuse", "(I)I"⟩
abbrev cX1_deliverFirst : ByteArray := prog_3_method_23_code
def yX1_deliverFirst : MethodName := ⟨RX1, "deliverFirst", "(I)I"⟩
abbrev cX1_receive : ByteArray := prog_3_method_24_code
def yX1_receive : MethodName := ⟨RX1, "receive", "(I)Z"⟩
abbrev cX1_makeRounds : ByteArray := prog_3_method_25_code
def yX1_makeRounds : MethodName := ⟨RX1, "makeRounds", "(I)I"⟩
abbrev cX1_letPass : ByteArray := prog_3_method_26_code
def yX1_letPass : MethodName := ⟨RX1, "letPass", "(I)I"⟩
def RX2 : String := "PathTrust$History"
def TX2 : u_T := fun k => match k with
  | 0 => ("PathTrust$History", "desks", "[LPathTrust$Desk;", true)
  | _ => ("PathTrust$History", "count", "I", false)
def tyX2 : Nat → FieldType := fun k => match k with
  | 0 => .array (.object "PathTrust$Desk")
  | _ => .int
theorem nmX2 : ∀ a, a < 2 → ∀ b, b < 2 → a ≠ b → (TX2 a).2.1 ≠ (TX2 b).2.1 := by decide +kernel
theorem tyX2_ok : ∀ k, k < 2 → parseFieldDescriptor (TX2 k).2.2.1 = some (tyX2 k) := by decide +kernel
abbrev cX2_init : ByteArray := prog_4_method_1_code
def yX2_init : MethodName := ⟨RX2, "<init>", "()V"⟩
abbrev cX2_push : ByteArray := prog_4_method_2_code
def yX2_push : MethodName := ⟨RX2, "push", "(LPathTrust$Desk;)V"⟩
abbrev cX2_dropOldest : ByteArray := prog_4_method_3_code
def yX2_dropOldest : MethodName := ⟨RX2, "dropOldest", "()V"⟩
abbrev cX2_pop : ByteArray := prog_4_method_4_code
def yX2_pop : MethodName := ⟨RX2, "pop", "(LPathTrust$Desk;)V"⟩
def RX3 : String := "PathTrust$Names"
def TX3 : u_T := fun k => match k with
  | 0 => ("PathTrust$Names", "codes", "[I", true)
  | _ => ("PathTrust$Names", "count", "I", false)
def tyX3 : Nat → FieldType := fun k => match k with
  | 0 => .array .int
  | _ => .int
theorem nmX3 : ∀ a, a < 2 → ∀ b, b < 2 → a ≠ b → (TX3 a).2.1 ≠ (TX3 b).2.1 := by decide +kernel
theorem tyX3_ok : ∀ k, k < 2 → parseFieldDescriptor (TX3 k).2.2.1 = some (tyX3 k) := by decide +kernel
abbrev cX3_init : ByteArray := prog_5_method_1_code
def yX3_init : MethodName := ⟨RX3, "<init>", "()V"⟩
abbrev cX3_find : ByteArray := prog_5_method_2_code
def yX3_find : MethodName := ⟨RX3, "find", "(I)I"⟩
abbrev cX3_add : ByteArray := prog_5_method_3_code
def yX3_add : MethodName := ⟨RX3, "add", "(I)V"⟩
abbrev cX3_get : ByteArray := prog_5_method_4_code
def yX3_get : MethodName := ⟨RX3, "get", "(I)I"⟩
abbrev cX3_copyFrom : ByteArray := prog_5_method_5_code
def yX3_copyFrom : MethodName := ⟨RX3, "copyFrom", "(LPathTrust$Names;)V"⟩
def RX4 : String := "PathTrust$Parser"
def TX4 : u_T := fun k => match k with
  | 0 => ("PathTrust$Parser", "text", "LPathTrust$Buffer;", true)
  | 1 => ("PathTrust$Parser", "desk", "LPathTrust$Desk;", true)
  | 2 => ("PathTrust$Parser", "kind", "I", false)
  | 3 => ("PathTrust$Parser", "start", "I", false)
  | 4 => ("PathTrust$Parser", "end", "I", false)
  | 5 => ("PathTrust$Parser", "value", "I", false)
  | 6 => ("PathTrust$Parser", "code", "I", false)
  | _ => ("PathTrust$Parser", "position", "I", false)
def tyX4 : Nat → FieldType := fun k => match k with
  | 0 => .object "PathTrust$Buffer"
  | 1 => .object "PathTrust$Desk"
  | 2 => .int
  | 3 => .int
  | 4 => .int
  | 5 => .int
  | 6 => .int
  | _ => .int
theorem nmX4 : ∀ a, a < 8 → ∀ b, b < 8 → a ≠ b → (TX4 a).2.1 ≠ (TX4 b).2.1 := by decide +kernel
theorem tyX4_ok : ∀ k, k < 8 → parseFieldDescriptor (TX4 k).2.2.1 = some (tyX4 k) := by decide +kernel
abbrev cX4_init : ByteArray := prog_6_method_1_code
def yX4_init : MethodName := ⟨RX4, "<init>", "(LPathTrust$Buffer;LPathTrust$Desk;)V"⟩
abbrev cX4_parse : ByteArray := prog_6_method_2_code
def yX4_parse : MethodName := ⟨RX4, "parse", "()Z"⟩
abbrev cX4_readRules : ByteArray := prog_6_method_3_code
def yX4_readRules : MethodName := ⟨RX4, "readRules", "()Z"⟩
abbrev cX4_readRule : ByteArray := prog_6_method_4_code
def yX4_readRule : MethodName := ⟨RX4, "readRule", "(Ljava/lang/String;I)Z"⟩
abbrev cX4_readNewName : ByteArray := prog_6_method_5_code
def yX4_readNewName : MethodName := ⟨RX4, "readNewName", "(LPathTrust$Names;)Z"⟩
abbrev cX4_readLink : ByteArray := prog_6_method_6_code
def yX4_readLink : MethodName := ⟨RX4, "readLink", "()Z"⟩
abbrev cX4_readProbe : ByteArray := prog_6_method_7_code
def yX4_readProbe : MethodName := ⟨RX4, "readProbe", "()Z"⟩
abbrev cX4_readWord : ByteArray := prog_6_method_8_code
def yX4_readWord : MethodName := ⟨RX4, "readWord", "(Ljava/lang/String;)Z"⟩
abbrev cX4_readSemicolon : ByteArray := prog_6_method_9_code
def yX4_readSemicolon : MethodName := ⟨RX4, "readSemicolon", "()Z"⟩
abbrev cX4_readNumber : ByteArray := prog_6_method_10_code
def yX4_readNumber : MethodName := ⟨RX4, "readNumber", "(II)Z"⟩
abbrev cX4_isNameOf : ByteArray := prog_6_method_11_code
def yX4_isNameOf : MethodName := ⟨RX4, "isNameOf", "(LPathTrust$Names;)Z"⟩
abbrev cX4_isName : ByteArray := prog_6_method_12_code
def yX4_isName : MethodName := ⟨RX4, "isName", "()Z"⟩
abbrev cX4_isWord : ByteArray := prog_6_method_13_code
def yX4_isWord : MethodName := ⟨RX4, "isWord", "(Ljava/lang/String;)Z"⟩
abbrev cX4_fail : ByteArray := prog_6_method_14_code
def yX4_fail : MethodName := ⟨RX4, "fail", "(I)Z"⟩
abbrev cX4_next : ByteArray := prog_6_method_15_code
def yX4_next : MethodName := ⟨RX4, "next", "()V"⟩
abbrev cX4_kindOf : ByteArray := prog_6_method_16_code
def yX4_kindOf : MethodName := ⟨RX4, "kindOf", "(I)I"⟩
def RX5 : String := "PathTrust$Reports"
def TX5 : u_T := fun k => match k with
  | 0 => ("PathTrust$Reports", "cells", "[I", true)
  | _ => ("PathTrust$Reports", "count", "I", false)
def tyX5 : Nat → FieldType := fun k => match k with
  | 0 => .array .int
  | _ => .int
theorem nmX5 : ∀ a, a < 2 → ∀ b, b < 2 → a ≠ b → (TX5 a).2.1 ≠ (TX5 b).2.1 := by decide +kernel
theorem tyX5_ok : ∀ k, k < 2 → parseFieldDescriptor (TX5 k).2.2.1 = some (tyX5 k) := by decide +kernel
abbrev cX5_init : ByteArray := prog_7_method_1_code
def yX5_init : MethodName := ⟨RX5, "<init>", "(I)V"⟩
abbrev cX5_isFull : ByteArray := prog_7_method_2_code
def yX5_isFull : MethodName := ⟨RX5, "isFull", "()Z"⟩
abbrev cX5_get : ByteArray := prog_7_method_3_code
def yX5_get : MethodName := ⟨RX5, "get", "(II)I"⟩
abbrev cX5_put : ByteArray := prog_7_method_4_code
def yX5_put : MethodName := ⟨RX5, "put", "(III)V"⟩
abbrev cX5_rowOf : ByteArray := prog_7_method_5_code
def yX5_rowOf : MethodName := ⟨RX5, "rowOf", "(II)I"⟩
abbrev cX5_addRow : ByteArray := prog_7_method_6_code
def yX5_addRow : MethodName := ⟨RX5, "addRow", "()I"⟩
abbrev cX5_addCopy : ByteArray := prog_7_method_7_code
def yX5_addCopy : MethodName := ⟨RX5, "addCopy", "(LPathTrust$Reports;I)I"⟩
abbrev cX5_removeRow : ByteArray := prog_7_method_8_code
def yX5_removeRow : MethodName := ⟨RX5, "removeRow", "(I)V"⟩
abbrev cX5_removeFirst : ByteArray := prog_7_method_9_code
def yX5_removeFirst : MethodName := ⟨RX5, "removeFirst", "(I)V"⟩
abbrev cX5_closeGap : ByteArray := prog_7_method_10_code
def yX5_closeGap : MethodName := ⟨RX5, "closeGap", "(II)V"⟩
abbrev cX5_removeAll : ByteArray := prog_7_method_11_code
def yX5_removeAll : MethodName := ⟨RX5, "removeAll", "(II)I"⟩
abbrev cX5_lowMoved : ByteArray := prog_7_method_12_code
def yX5_lowMoved : MethodName := ⟨RX5, "lowMoved", "(II)I"⟩
abbrev cX5_highMoved : ByteArray := prog_7_method_13_code
def yX5_highMoved : MethodName := ⟨RX5, "highMoved", "(II)I"⟩
abbrev cX5_copyFrom : ByteArray := prog_7_method_14_code
def yX5_copyFrom : MethodName := ⟨RX5, "copyFrom", "(LPathTrust$Reports;)V"⟩
def RX6 : String := "PathTrust$View"
def TX6 : u_T := fun k => match k with
  | 0 => ("PathTrust$View", "rows", "[I", true)
  | 1 => ("PathTrust$View", "origins", "[I", true)
  | 2 => ("PathTrust$View", "ranks", "[I", true)
  | 3 => ("PathTrust$View", "lows", "[I", true)
  | 4 => ("PathTrust$View", "highs", "[I", true)
  | 5 => ("PathTrust$View", "statuses", "[I", true)
  | 6 => ("PathTrust$View", "count", "I", false)
  | 7 => ("PathTrust$View", "low", "I", false)
  | _ => ("PathTrust$View", "high", "I", false)
def tyX6 : Nat → FieldType := fun k => match k with
  | 0 => .array .int
  | 1 => .array .int
  | 2 => .array .int
  | 3 => .array .int
  | 4 => .array .int
  | 5 => .array .int
  | 6 => .int
  | 7 => .int
  | _ => .int
theorem nmX6 : ∀ a, a < 9 → ∀ b, b < 9 → a ≠ b → (TX6 a).2.1 ≠ (TX6 b).2.1 := by decide +kernel
theorem tyX6_ok : ∀ k, k < 9 → parseFieldDescriptor (TX6 k).2.2.1 = some (tyX6 k) := by decide +kernel
abbrev cX6_init : ByteArray := prog_8_method_1_code
def yX6_init : MethodName := ⟨RX6, "<init>", "()V"⟩
abbrev cX6_form : ByteArray := prog_8_method_2_code
def yX6_form : MethodName := ⟨RX6, "form", "(LPathTrust$Desk;III)V"⟩
abbrev cX6_note : ByteArray := prog_8_method_3_code
def yX6_note : MethodName := ⟨RX6, "note", "(LPathTrust$Desk;III)V"⟩
abbrev cX6_nextToTake : ByteArray := prog_8_method_4_code
def yX6_nextToTake : MethodName := ⟨RX6, "nextToTake", "()I"⟩
abbrev cX6_take : ByteArray := prog_8_method_5_code
def yX6_take : MethodName := ⟨RX6, "take", "(I)V"⟩
abbrev cX6_statusOf : ByteArray := prog_8_method_6_code
def yX6_statusOf : MethodName := ⟨RX6, "statusOf", "(I)I"⟩
abbrev cX6_originsWith : ByteArray := prog_8_method_7_code
def yX6_originsWith : MethodName := ⟨RX6, "originsWith", "(I)I"⟩
abbrev cX6_largestSet : ByteArray := prog_8_method_8_code
def yX6_largestSet : MethodName := ⟨RX6, "largestSet", "()I"⟩
abbrev cX6_originsAround : ByteArray := prog_8_method_9_code
def yX6_originsAround : MethodName := ⟨RX6, "originsAround", "(I)I"⟩
abbrev cX6_lowOf : ByteArray := prog_8_method_10_code
def yX6_lowOf : MethodName := ⟨RX6, "lowOf", "(I)I"⟩
abbrev cX6_highOf : ByteArray := prog_8_method_11_code
def yX6_highOf : MethodName := ⟨RX6, "highOf", "(I)I"⟩
def RX7 : String := "PathTrust"
def TX7 : u_T := fun k => match k with
  | 0 => ("PathTrust", "input", "LPathTrust$Buffer;", true)
  | 1 => ("PathTrust", "output", "LPathTrust$Buffer;", true)
  | 2 => ("PathTrust", "view", "LPathTrust$View;", true)
  | 3 => ("PathTrust", "now", "LPathTrust$Desk;", true)
  | 4 => ("PathTrust", "trial", "LPathTrust$Desk;", true)
  | 5 => ("PathTrust", "parser", "LPathTrust$Parser;", true)
  | 6 => ("PathTrust", "history", "LPathTrust$History;", true)
  | _ => ("PathTrust", "slots", "[LPathTrust$Desk;", true)
def tyX7 : Nat → FieldType := fun k => match k with
  | 0 => .object "PathTrust$Buffer"
  | 1 => .object "PathTrust$Buffer"
  | 2 => .object "PathTrust$View"
  | 3 => .object "PathTrust$Desk"
  | 4 => .object "PathTrust$Desk"
  | 5 => .object "PathTrust$Parser"
  | 6 => .object "PathTrust$History"
  | _ => .array (.object "PathTrust$Desk")
theorem nmX7 : ∀ a, a < 8 → ∀ b, b < 8 → a ≠ b → (TX7 a).2.1 ≠ (TX7 b).2.1 := by decide +kernel
theorem tyX7_ok : ∀ k, k < 8 → parseFieldDescriptor (TX7 k).2.2.1 = some (tyX7 k) := by decide +kernel
abbrev cX7_init : ByteArray := prog_1_method_1_code
def yX7_init : MethodName := ⟨RX7, "<init>", "()V"⟩
abbrev cX7_append : ByteArray := prog_1_method_2_code
def yX7_append : MethodName := ⟨RX7, "append", "(IIIII)I"⟩
abbrev cX7_truncate : ByteArray := prog_1_method_3_code
def yX7_truncate : MethodName := ⟨RX7, "truncate", "(I)V"⟩
abbrev cX7_load : ByteArray := prog_1_method_4_code
def yX7_load : MethodName := ⟨RX7, "load", "()I"⟩
abbrev cX7_errorCode : ByteArray := prog_1_method_5_code
def yX7_errorCode : MethodName := ⟨RX7, "errorCode", "()I"⟩
abbrev cX7_errorPosition : ByteArray := prog_1_method_6_code
def yX7_errorPosition : MethodName := ⟨RX7, "errorPosition", "()I"⟩
abbrev cX7_findAgent : ByteArray := prog_1_method_7_code
def yX7_findAgent : MethodName := ⟨RX7, "findAgent", "()I"⟩
abbrev cX7_findWay : ByteArray := prog_1_method_8_code
def yX7_findWay : MethodName := ⟨RX7, "findWay", "()I"⟩
abbrev cX7_property : ByteArray := prog_1_method_9_code
def yX7_property : MethodName := ⟨RX7, "property", "(I)I"⟩
abbrev cX7_trust : ByteArray := prog_1_method_10_code
def yX7_trust : MethodName := ⟨RX7, "trust", "(II)I"⟩
abbrev cX7_neighbors : ByteArray := prog_1_method_11_code
def yX7_neighbors : MethodName := ⟨RX7, "neighbors", "(I)I"⟩
abbrev cX7_distance : ByteArray := prog_1_method_12_code
def yX7_distance : MethodName := ⟨RX7, "distance", "(II)I"⟩
abbrev cX7_bottleneck : ByteArray := prog_1_method_13_code
def yX7_bottleneck : MethodName := ⟨RX7, "bottleneck", "(II)I"⟩
abbrev cX7_mostTrusted : ByteArray := prog_1_method_14_code
def yX7_mostTrusted : MethodName := ⟨RX7, "mostTrusted", "(I)I"⟩
abbrev cX7_reports : ByteArray := prog_1_method_15_code
def yX7_reports : MethodName := ⟨RX7, "reports", "(I)I"⟩
abbrev cX7_report : ByteArray := prog_1_method_16_code
def yX7_report : MethodName := ⟨RX7, "report", "(III)I"⟩
abbrev cX7_status : ByteArray := prog_1_method_17_code
def yX7_status : MethodName := ⟨RX7, "status", "(II)I"⟩
abbrev cX7_moved : ByteArray := prog_1_method_18_code
def yX7_moved : MethodName := ⟨RX7, "moved", "(III)I"⟩
abbrev cX7_own : ByteArray := prog_1_method_19_code
def yX7_own : MethodName := ⟨RX7, "own", "(II)I"⟩
abbrev cX7_belief : ByteArray := prog_1_method_20_code
def yX7_belief : MethodName := ⟨RX7, "belief", "(III)I"⟩
abbrev cX7_sources : ByteArray := prog_1_method_21_code
def yX7_sources : MethodName := ⟨RX7, "sources", "(II)I"⟩
abbrev cX7_contradicted : ByteArray := prog_1_method_22_code
def yX7_contradicted : MethodName := ⟨RX7, "contradicted", "(II)I"⟩
abbrev cX7_majority : ByteArray := prog_1_method_23_code
def yX7_majority : MethodName := ⟨RX7, "majority", "(II)I"⟩
abbrev cX7_majorityBound : ByteArray := prog_1_method_24_code
def yX7_majorityBound : MethodName := ⟨RX7, "majorityBound", "(III)I"⟩
abbrev cX7_best : ByteArray := prog_1_method_25_code
def yX7_best : MethodName := ⟨RX7, "best", "(II)I"⟩
abbrev cX7_rivals : ByteArray := prog_1_method_26_code
def yX7_rivals : MethodName := ⟨RX7, "rivals", "(I)I"⟩
abbrev cX7_nextProbe : ByteArray := prog_1_method_27_code
def yX7_nextProbe : MethodName := ⟨RX7, "nextProbe", "(I)I"⟩
abbrev cX7_regret : ByteArray := prog_1_method_28_code
def yX7_regret : MethodName := ⟨RX7, "regret", "(I)I"⟩
abbrev cX7_saved : ByteArray := prog_1_method_29_code
def yX7_saved : MethodName := ⟨RX7, "saved", "(I)I"⟩
abbrev cX7_agreeing : ByteArray := prog_1_method_30_code
def yX7_agreeing : MethodName := ⟨RX7, "agreeing", "(II)I"⟩
abbrev cX7_common : ByteArray := prog_1_method_31_code
def yX7_common : MethodName := ⟨RX7, "common", "(II)I"⟩
abbrev cX7_account : ByteArray := prog_1_method_32_code
def yX7_account : MethodName := ⟨RX7, "account", "(II)I"⟩
abbrev cX7_message : ByteArray := prog_1_method_33_code
def yX7_message : MethodName := ⟨RX7, "message", "(II)I"⟩
abbrev cX7_standing : ByteArray := prog_1_method_34_code
def yX7_standing : MethodName := ⟨RX7, "standing", "(I)F"⟩
abbrev cX7_beliefIf : ByteArray := prog_1_method_35_code
def yX7_beliefIf : MethodName := ⟨RX7, "beliefIf", "(IIIII)I"⟩
abbrev cX7_trustIf : ByteArray := prog_1_method_36_code
def yX7_trustIf : MethodName := ⟨RX7, "trustIf", "(IIIII)I"⟩
abbrev cX7_informed : ByteArray := prog_1_method_37_code
def yX7_informed : MethodName := ⟨RX7, "informed", "(III)I"⟩
abbrev cX7_widthAfter : ByteArray := prog_1_method_38_code
def yX7_widthAfter : MethodName := ⟨RX7, "widthAfter", "(III)I"⟩
abbrev cX7_widthWithout : ByteArray := prog_1_method_39_code
def yX7_widthWithout : MethodName := ⟨RX7, "widthWithout", "(III)I"⟩
abbrev cX7_mostUseful : ByteArray := prog_1_method_40_code
def yX7_mostUseful : MethodName := ⟨RX7, "mostUseful", "(I)I"⟩
abbrev cX7_bestThen : ByteArray := prog_1_method_41_code
def yX7_bestThen : MethodName := ⟨RX7, "bestThen", "(I)I"⟩
abbrev cX7_probe : ByteArray := prog_1_method_42_code
def yX7_probe : MethodName := ⟨RX7, "probe", "(IIII)I"⟩
abbrev cX7_share : ByteArray := prog_1_method_43_code
def yX7_share : MethodName := ⟨RX7, "share", "(I)I"⟩
abbrev cX7_relay : ByteArray := prog_1_method_44_code
def yX7_relay : MethodName := ⟨RX7, "relay", "(I)I"⟩
abbrev cX7_deliver : ByteArray := prog_1_method_45_code
def yX7_deliver : MethodName := ⟨RX7, "deliver", "(I)I"⟩
abbrev cX7_lose : ByteArray := prog_1_method_46_code
def yX7_lose : MethodName := ⟨RX7, "lose", "()I"⟩
abbrev cX7_exchange : ByteArray := prog_1_method_47_code
def yX7_exchange : MethodName := ⟨RX7, "exchange", "(I)I"⟩
abbrev cX7_pass : ByteArray := prog_1_method_48_code
def yX7_pass : MethodName := ⟨RX7, "pass", "(I)I"⟩
abbrev cX7_link : ByteArray := prog_1_method_49_code
def yX7_link : MethodName := ⟨RX7, "link", "(IIZ)Z"⟩
abbrev cX7_setTrust : ByteArray := prog_1_method_50_code
def yX7_setTrust : MethodName := ⟨RX7, "setTrust", "(III)I"⟩
abbrev cX7_setRule : ByteArray := prog_1_method_51_code
def yX7_setRule : MethodName := ⟨RX7, "setRule", "(II)I"⟩
abbrev cX7_forget : ByteArray := prog_1_method_52_code
def yX7_forget : MethodName := ⟨RX7, "forget", "(II)I"⟩
abbrev cX7_cleanse : ByteArray := prog_1_method_53_code
def yX7_cleanse : MethodName := ⟨RX7, "cleanse", "(I)I"⟩
abbrev cX7_keep : ByteArray := prog_1_method_54_code
def yX7_keep : MethodName := ⟨RX7, "keep", "(I)I"⟩
abbrev cX7_restore : ByteArray := prog_1_method_55_code
def yX7_restore : MethodName := ⟨RX7, "restore", "(I)I"⟩
abbrev cX7_undo : ByteArray := prog_1_method_56_code
def yX7_undo : MethodName := ⟨RX7, "undo", "()I"⟩
abbrev cX7_undoCount : ByteArray := prog_1_method_57_code
def yX7_undoCount : MethodName := ⟨RX7, "undoCount", "()I"⟩
abbrev cX7_writeBeliefs : ByteArray := prog_1_method_58_code
def yX7_writeBeliefs : MethodName := ⟨RX7, "writeBeliefs", "(I)I"⟩
abbrev cX7_writeReports : ByteArray := prog_1_method_59_code
def yX7_writeReports : MethodName := ⟨RX7, "writeReports", "(I)I"⟩
abbrev cX7_outputByte : ByteArray := prog_1_method_60_code
def yX7_outputByte : MethodName := ⟨RX7, "outputByte", "(I)I"⟩
abbrev cX7_checkAgent : ByteArray := prog_1_method_61_code
def yX7_checkAgent : MethodName := ⟨RX7, "checkAgent", "(I)V"⟩
abbrev cX7_checkWay : ByteArray := prog_1_method_62_code
def yX7_checkWay : MethodName := ⟨RX7, "checkWay", "(I)V"⟩
abbrev cX7_checkReport : ByteArray := prog_1_method_63_code
def yX7_checkReport : MethodName := ⟨RX7, "checkReport", "(II)V"⟩
abbrev cX7_checkSlot : ByteArray := prog_1_method_64_code
def yX7_checkSlot : MethodName := ⟨RX7, "checkSlot", "(I)V"⟩
abbrev cX7_checkRange : ByteArray := prog_1_method_65_code
def yX7_checkRange : MethodName := ⟨RX7, "checkRange", "(III)V"⟩
abbrev cX7_checkBounds : ByteArray := prog_1_method_66_code
def yX7_checkBounds : MethodName := ⟨RX7, "checkBounds", "(II)V"⟩
abbrev cX7_isRuleValue : ByteArray := prog_1_method_67_code
def yX7_isRuleValue : MethodName := ⟨RX7, "isRuleValue", "(II)Z"⟩
abbrev cX7_contains : ByteArray := prog_1_method_68_code
def yX7_contains : MethodName := ⟨RX7, "contains", "(II)Z"⟩
abbrev cX7_findInput : ByteArray := prog_1_method_69_code
def yX7_findInput : MethodName := ⟨RX7, "findInput", "(LPathTrust$Names;)I"⟩
abbrev cX7_statusIn : ByteArray := prog_1_method_70_code
def yX7_statusIn : MethodName := ⟨RX7, "statusIn", "(II)I"⟩
abbrev cX7_originsOf : ByteArray := prog_1_method_71_code
def yX7_originsOf : MethodName := ⟨RX7, "originsOf", "(III)I"⟩
abbrev cX7_believed : ByteArray := prog_1_method_72_code
def yX7_believed : MethodName := ⟨RX7, "believed", "(LPathTrust$Desk;III)I"⟩
abbrev cX7_widthOf : ByteArray := prog_1_method_73_code
def yX7_widthOf : MethodName := ⟨RX7, "widthOf", "(LPathTrust$Desk;III)I"⟩
abbrev cX7_widthSum : ByteArray := prog_1_method_74_code
def yX7_widthSum : MethodName := ⟨RX7, "widthSum", "(II)I"⟩
abbrev cX7_bestWay : ByteArray := prog_1_method_75_code
def yX7_bestWay : MethodName := ⟨RX7, "bestWay", "(LPathTrust$Desk;II)I"⟩
abbrev cX7_rivalsOf : ByteArray := prog_1_method_76_code
def yX7_rivalsOf : MethodName := ⟨RX7, "rivalsOf", "(II)I"⟩
abbrev cX7_writeBounds : ByteArray := prog_1_method_77_code
def yX7_writeBounds : MethodName := ⟨RX7, "writeBounds", "(II)V"⟩
abbrev cX7_writeStatus : ByteArray := prog_1_method_78_code
def yX7_writeStatus : MethodName := ⟨RX7, "writeStatus", "(I)V"⟩
def RX8 : String := "PathTrustModel"
def TX8 : u_T := fun k => match k with
  | 0 => ("PathTrustModel", "thrown", "I", false)
  | 1 => ("PathTrustModel", "net", "[I", true)
  | 2 => ("PathTrustModel", "draft", "[I", true)
  | 3 => ("PathTrustModel", "row", "[I", false)
  | 4 => ("PathTrustModel", "without", "I", false)
  | 5 => ("PathTrustModel", "low", "I", false)
  | 6 => ("PathTrustModel", "top", "I", false)
  | 7 => ("PathTrustModel", "statusOf", "[I", true)
  | 8 => ("PathTrustModel", "isDone", "[Z", true)
  | 9 => ("PathTrustModel", "aside", "[I", true)
  | 10 => ("PathTrustModel", "input", "[B", true)
  | 11 => ("PathTrustModel", "inputSize", "I", false)
  | 12 => ("PathTrustModel", "textSize", "I", false)
  | 13 => ("PathTrustModel", "next", "I", false)
  | 14 => ("PathTrustModel", "start", "I", false)
  | 15 => ("PathTrustModel", "token", "I", false)
  | 16 => ("PathTrustModel", "value", "I", false)
  | 17 => ("PathTrustModel", "errorFound", "I", false)
  | 18 => ("PathTrustModel", "errorPlace", "I", false)
  | 19 => ("PathTrustModel", "commonLow", "I", false)
  | 20 => ("PathTrustModel", "commonTop", "I", false)
  | 21 => ("PathTrustModel", "isGone", "[Z", true)
  | 22 => ("PathTrustModel", "slots", "[I", true)
  | 23 => ("PathTrustModel", "isKept", "[Z", true)
  | 24 => ("PathTrustModel", "past", "[I", true)
  | 25 => ("PathTrustModel", "remembered", "I", false)
  | 26 => ("PathTrustModel", "output", "[B", true)
  | _ => ("PathTrustModel", "outputSize", "I", false)
def tyX8 : Nat → FieldType := fun k => match k with
  | 0 => .int
  | 1 => .array .int
  | 2 => .array .int
  | 3 => .array .int
  | 4 => .int
  | 5 => .int
  | 6 => .int
  | 7 => .array .int
  | 8 => .array .boolean
  | 9 => .array .int
  | 10 => .array .byte
  | 11 => .int
  | 12 => .int
  | 13 => .int
  | 14 => .int
  | 15 => .int
  | 16 => .int
  | 17 => .int
  | 18 => .int
  | 19 => .int
  | 20 => .int
  | 21 => .array .boolean
  | 22 => .array .int
  | 23 => .array .boolean
  | 24 => .array .int
  | 25 => .int
  | 26 => .array .byte
  | _ => .int
theorem nmX8 : ∀ a, a < 28 → ∀ b, b < 28 → a ≠ b → (TX8 a).2.1 ≠ (TX8 b).2.1 := by decide +kernel
theorem tyX8_ok : ∀ k, k < 28 → parseFieldDescriptor (TX8 k).2.2.1 = some (tyX8 k) := by decide +kernel
abbrev cX8_thrown : ByteArray := prog_10_method_1_code
def yX8_thrown : MethodName := ⟨RX8, "thrown", "()I"⟩
abbrev cX8_in : ByteArray := prog_10_method_2_code
def yX8_in : MethodName := ⟨RX8, "in", "(JJJ)Z"⟩
abbrev cX8_passes3 : ByteArray := prog_10_method_3_code
def yX8_passes3 : MethodName := ⟨RX8, "passes3", "(ZZZ)Z"⟩
abbrev cX8_passes2 : ByteArray := prog_10_method_4_code
def yX8_passes2 : MethodName := ⟨RX8, "passes2", "(ZZ)Z"⟩
abbrev cX8_passes : ByteArray := prog_10_method_5_code
def yX8_passes : MethodName := ⟨RX8, "passes", "(Z)Z"⟩
abbrev cX8_init : ByteArray := prog_10_method_6_code
def yX8_init : MethodName := ⟨RX8, "<init>", "()V"⟩
abbrev cX8_clear : ByteArray := prog_10_method_7_code
def yX8_clear : MethodName := ⟨RX8, "clear", "([I)V"⟩
abbrev cX8_agents : ByteArray := prog_10_method_8_code
def yX8_agents : MethodName := ⟨RX8, "agents", "()I"⟩
abbrev cX8_ways : ByteArray := prog_10_method_9_code
def yX8_ways : MethodName := ⟨RX8, "ways", "()I"⟩
abbrev cX8_rule : ByteArray := prog_10_method_10_code
def yX8_rule : MethodName := ⟨RX8, "rule", "(I)I"⟩
abbrev cX8_isAgent : ByteArray := prog_10_method_11_code
def yX8_isAgent : MethodName := ⟨RX8, "isAgent", "(I)Z"⟩
abbrev cX8_isWay : ByteArray := prog_10_method_12_code
def yX8_isWay : MethodName := ⟨RX8, "isWay", "(I)Z"⟩
abbrev cX8_trustOf : ByteArray := prog_10_method_13_code
def yX8_trustOf : MethodName := ⟨RX8, "trustOf", "(II)I"⟩
abbrev cX8_putTrust : ByteArray := prog_10_method_14_code
def yX8_putTrust : MethodName := ⟨RX8, "putTrust", "(III)V"⟩
abbrev cX8_areLinked : ByteArray := prog_10_method_15_code
def yX8_areLinked : MethodName := ⟨RX8, "areLinked", "(II)Z"⟩
abbrev cX8_listAt : ByteArray := prog_10_method_16_code
def yX8_listAt : MethodName := ⟨RX8, "listAt", "(I)I"⟩
abbrev cX8_manyOf : ByteArray := prog_10_method_17_code
def yX8_manyOf : MethodName := ⟨RX8, "manyOf", "(I)I"⟩
abbrev cX8_reportAt : ByteArray := prog_10_method_18_code
def yX8_reportAt : MethodName := ⟨RX8, "reportAt", "(II)I"⟩
abbrev cX8_ofReport : ByteArray := prog_10_method_19_code
def yX8_ofReport : MethodName := ⟨RX8, "ofReport", "(III)I"⟩
abbrev cX8_isReport : ByteArray := prog_10_method_20_code
def yX8_isReport : MethodName := ⟨RX8, "isReport", "(II)Z"⟩
abbrev cX8_count : ByteArray := prog_10_method_21_code
def yX8_count : MethodName := ⟨RX8, "count", "(II)V"⟩
abbrev cX8_reportOf : ByteArray := prog_10_method_22_code
def yX8_reportOf : MethodName := ⟨RX8, "reportOf", "(III)I"⟩
abbrev cX8_ownOf : ByteArray := prog_10_method_23_code
def yX8_ownOf : MethodName := ⟨RX8, "ownOf", "(II)I"⟩
abbrev cX8_isOwn : ByteArray := prog_10_method_24_code
def yX8_isOwn : MethodName := ⟨RX8, "isOwn", "(II)Z"⟩
abbrev cX8_dropReport : ByteArray := prog_10_method_25_code
def yX8_dropReport : MethodName := ⟨RX8, "dropReport", "(II)V"⟩
abbrev cX8_ageAt : ByteArray := prog_10_method_26_code
def yX8_ageAt : MethodName := ⟨RX8, "ageAt", "(I)I"⟩
abbrev cX8_lower : ByteArray := prog_10_method_27_code
def yX8_lower : MethodName := ⟨RX8, "lower", "(II)I"⟩
abbrev cX8_higher : ByteArray := prog_10_method_28_code
def yX8_higher : MethodName := ⟨RX8, "higher", "(II)I"⟩
abbrev cX8_driftOf : ByteArray := prog_10_method_29_code
def yX8_driftOf : MethodName := ⟨RX8, "driftOf", "(II)I"⟩
abbrev cX8_lowBy : ByteArray := prog_10_method_30_code
def yX8_lowBy : MethodName := ⟨RX8, "lowBy", "(III)I"⟩
abbrev cX8_topBy : ByteArray := prog_10_method_31_code
def yX8_topBy : MethodName := ⟨RX8, "topBy", "(III)I"⟩
abbrev cX8_doMeet : ByteArray := prog_10_method_32_code
def yX8_doMeet : MethodName := ⟨RX8, "doMeet", "(III)Z"⟩
abbrev cX8_judges : ByteArray := prog_10_method_33_code
def yX8_judges : MethodName := ⟨RX8, "judges", "(III)Z"⟩
abbrev cX8_comes : ByteArray := prog_10_method_34_code
def yX8_comes : MethodName := ⟨RX8, "comes", "(IIIIIII)I"⟩
abbrev cX8_doProbe : ByteArray := prog_10_method_35_code
def yX8_doProbe : MethodName := ⟨RX8, "doProbe", "(IIII)I"⟩
abbrev cX8_queued : ByteArray := prog_10_method_36_code
def yX8_queued : MethodName := ⟨RX8, "queued", "()I"⟩
abbrev cX8_messageAt : ByteArray := prog_10_method_37_code
def yX8_messageAt : MethodName := ⟨RX8, "messageAt", "(I)I"⟩
abbrev cX8_ofMessage : ByteArray := prog_10_method_38_code
def yX8_ofMessage : MethodName := ⟨RX8, "ofMessage", "(II)I"⟩
abbrev cX8_isMessage : ByteArray := prog_10_method_39_code
def yX8_isMessage : MethodName := ⟨RX8, "isMessage", "(I)Z"⟩
abbrev cX8_sends : ByteArray := prog_10_method_40_code
def yX8_sends : MethodName := ⟨RX8, "sends", "(III)Z"⟩
abbrev cX8_dropFirst : ByteArray := prog_10_method_41_code
def yX8_dropFirst : MethodName := ⟨RX8, "dropFirst", "()V"⟩
abbrev cX8_refusalOf : ByteArray := prog_10_method_42_code
def yX8_refusalOf : MethodName := ⟨RX8, "refusalOf", "(I)I"⟩
abbrev cX8_delivers : ByteArray := prog_10_method_43_code
def yX8_delivers : MethodName := ⟨RX8, "delivers", "()Z"⟩
abbrev cX8_deliverAll : ByteArray := prog_10_method_44_code
def yX8_deliverAll : MethodName := ⟨RX8, "deliverAll", "(I)I"⟩
abbrev cX8_doPass : ByteArray := prog_10_method_45_code
def yX8_doPass : MethodName := ⟨RX8, "doPass", "(I)I"⟩
abbrev cX8_trustInVia : ByteArray := prog_10_method_46_code
def yX8_trustInVia : MethodName := ⟨RX8, "trustInVia", "(II)I"⟩
abbrev cX8_isOut : ByteArray := prog_10_method_47_code
def yX8_isOut : MethodName := ⟨RX8, "isOut", "(II)Z"⟩
abbrev cX8_movedBy : ByteArray := prog_10_method_48_code
def yX8_movedBy : MethodName := ⟨RX8, "movedBy", "(II)I"⟩
abbrev cX8_isAhead : ByteArray := prog_10_method_49_code
def yX8_isAhead : MethodName := ⟨RX8, "isAhead", "(III)Z"⟩
abbrev cX8_nextReport : ByteArray := prog_10_method_50_code
def yX8_nextReport : MethodName := ⟨RX8, "nextReport", "(I)I"⟩
abbrev cX8_layBelief : ByteArray := prog_10_method_51_code
def yX8_layBelief : MethodName := ⟨RX8, "layBelief", "(II)V"⟩
abbrev cX8_widthOf : ByteArray := prog_10_method_52_code
def yX8_widthOf : MethodName := ⟨RX8, "widthOf", "(II)I"⟩
abbrev cX8_valueOf : ByteArray := prog_10_method_53_code
def yX8_valueOf : MethodName := ⟨RX8, "valueOf", "(III)I"⟩
abbrev cX8_bestOf : ByteArray := prog_10_method_54_code
def yX8_bestOf : MethodName := ⟨RX8, "bestOf", "(II)I"⟩
abbrev cX8_rivalsOf : ByteArray := prog_10_method_55_code
def yX8_rivalsOf : MethodName := ⟨RX8, "rivalsOf", "(I)I"⟩
abbrev cX8_originsWith : ByteArray := prog_10_method_56_code
def yX8_originsWith : MethodName := ⟨RX8, "originsWith", "(III)I"⟩
abbrev cX8_keepAside : ByteArray := prog_10_method_57_code
def yX8_keepAside : MethodName := ⟨RX8, "keepAside", "()V"⟩
abbrev cX8_layBack : ByteArray := prog_10_method_58_code
def yX8_layBack : MethodName := ⟨RX8, "layBack", "(I)I"⟩
abbrev cX8_appendFour : ByteArray := prog_10_method_59_code
def yX8_appendFour : MethodName := ⟨RX8, "appendFour", "(I)V"⟩
abbrev cX8_append : ByteArray := prog_10_method_60_code
def yX8_append : MethodName := ⟨RX8, "append", "(IIIII)I"⟩
abbrev cX8_truncate : ByteArray := prog_10_method_61_code
def yX8_truncate : MethodName := ⟨RX8, "truncate", "(I)V"⟩
abbrev cX8_good : ByteArray := prog_10_method_62_code
def yX8_good : MethodName := ⟨RX8, "good", "()Z"⟩
abbrev cX8_errs : ByteArray := prog_10_method_63_code
def yX8_errs : MethodName := ⟨RX8, "errs", "(I)V"⟩
abbrev cX8_byteAt : ByteArray := prog_10_method_64_code
def yX8_byteAt : MethodName := ⟨RX8, "byteAt", "(I)I"⟩
abbrev cX8_scan : ByteArray := prog_10_method_65_code
def yX8_scan : MethodName := ⟨RX8, "scan", "()V"⟩
abbrev cX8_goOn : ByteArray := prog_10_method_66_code
def yX8_goOn : MethodName := ⟨RX8, "goOn", "()V"⟩
abbrev cX8_isWord : ByteArray := prog_10_method_67_code
def yX8_isWord : MethodName := ⟨RX8, "isWord", "(Ljava/lang/String;)Z"⟩
abbrev cX8_number : ByteArray := prog_10_method_68_code
def yX8_number : MethodName := ⟨RX8, "number", "(II)I"⟩
abbrev cX8_numberBehind : ByteArray := prog_10_method_69_code
def yX8_numberBehind : MethodName := ⟨RX8, "numberBehind", "(Ljava/lang/String;II)I"⟩
abbrev cX8_semicolon : ByteArray := prog_10_method_70_code
def yX8_semicolon : MethodName := ⟨RX8, "semicolon", "()V"⟩
abbrev cX8_isKeyword : ByteArray := prog_10_method_71_code
def yX8_isKeyword : MethodName := ⟨RX8, "isKeyword", "()Z"⟩
abbrev cX8_nameOf : ByteArray := prog_10_method_72_code
def yX8_nameOf : MethodName := ⟨RX8, "nameOf", "([BII)I"⟩
abbrev cX8_nameHere : ByteArray := prog_10_method_73_code
def yX8_nameHere : MethodName := ⟨RX8, "nameHere", "()I"⟩
abbrev cX8_withName : ByteArray := prog_10_method_74_code
def yX8_withName : MethodName := ⟨RX8, "withName", "(III)I"⟩
abbrev cX8_parseRules : ByteArray := prog_10_method_75_code
def yX8_parseRules : MethodName := ⟨RX8, "parseRules", "()V"⟩
abbrev cX8_parseNew : ByteArray := prog_10_method_76_code
def yX8_parseNew : MethodName := ⟨RX8, "parseNew", "(II)V"⟩
abbrev cX8_told : ByteArray := prog_10_method_77_code
def yX8_told : MethodName := ⟨RX8, "told", "(II)I"⟩
abbrev cX8_parseLink : ByteArray := prog_10_method_78_code
def yX8_parseLink : MethodName := ⟨RX8, "parseLink", "()V"⟩
abbrev cX8_parseProbe : ByteArray := prog_10_method_79_code
def yX8_parseProbe : MethodName := ⟨RX8, "parseProbe", "()V"⟩
abbrev cX8_parseStatement : ByteArray := prog_10_method_80_code
def yX8_parseStatement : MethodName := ⟨RX8, "parseStatement", "()V"⟩
abbrev cX8_load : ByteArray := prog_10_method_81_code
def yX8_load : MethodName := ⟨RX8, "load", "()I"⟩
abbrev cX8_errorCode : ByteArray := prog_10_method_82_code
def yX8_errorCode : MethodName := ⟨RX8, "errorCode", "()I"⟩
abbrev cX8_errorPosition : ByteArray := prog_10_method_83_code
def yX8_errorPosition : MethodName := ⟨RX8, "errorPosition", "()I"⟩
abbrev cX8_found : ByteArray := prog_10_method_84_code
def yX8_found : MethodName := ⟨RX8, "found", "(II)I"⟩
abbrev cX8_findAgent : ByteArray := prog_10_method_85_code
def yX8_findAgent : MethodName := ⟨RX8, "findAgent", "()I"⟩
abbrev cX8_findWay : ByteArray := prog_10_method_86_code
def yX8_findWay : MethodName := ⟨RX8, "findWay", "()I"⟩
abbrev cX8_neighborsOf : ByteArray := prog_10_method_87_code
def yX8_neighborsOf : MethodName := ⟨RX8, "neighborsOf", "(I)I"⟩
abbrev cX8_bits : ByteArray := prog_10_method_88_code
def yX8_bits : MethodName := ⟨RX8, "bits", "(I)I"⟩
abbrev cX8_links : ByteArray := prog_10_method_89_code
def yX8_links : MethodName := ⟨RX8, "links", "()I"⟩
abbrev cX8_property : ByteArray := prog_10_method_90_code
def yX8_property : MethodName := ⟨RX8, "property", "(I)I"⟩
abbrev cX8_areAgents : ByteArray := prog_10_method_91_code
def yX8_areAgents : MethodName := ⟨RX8, "areAgents", "(II)Z"⟩
abbrev cX8_trust : ByteArray := prog_10_method_92_code
def yX8_trust : MethodName := ⟨RX8, "trust", "(II)I"⟩
abbrev cX8_neighbors : ByteArray := prog_10_method_93_code
def yX8_neighbors : MethodName := ⟨RX8, "neighbors", "(I)I"⟩
abbrev cX8_distance : ByteArray := prog_10_method_94_code
def yX8_distance : MethodName := ⟨RX8, "distance", "(II)I"⟩
abbrev cX8_mostTrusted : ByteArray := prog_10_method_95_code
def yX8_mostTrusted : MethodName := ⟨RX8, "mostTrusted", "(I)I"⟩
abbrev cX8_standing : ByteArray := prog_10_method_96_code
def yX8_standing : MethodName := ⟨RX8, "standing", "(I)F"⟩
abbrev cX8_account : ByteArray := prog_10_method_97_code
def yX8_account : MethodName := ⟨RX8, "account", "(II)I"⟩
abbrev cX8_reports : ByteArray := prog_10_method_98_code
def yX8_reports : MethodName := ⟨RX8, "reports", "(I)I"⟩
abbrev cX8_report : ByteArray := prog_10_method_99_code
def yX8_report : MethodName := ⟨RX8, "report", "(III)I"⟩
abbrev cX8_statusAt : ByteArray := prog_10_method_100_code
def yX8_statusAt : MethodName := ⟨RX8, "statusAt", "(II)I"⟩
abbrev cX8_status : ByteArray := prog_10_method_101_code
def yX8_status : MethodName := ⟨RX8, "status", "(II)I"⟩
abbrev cX8_moved : ByteArray := prog_10_method_102_code
def yX8_moved : MethodName := ⟨RX8, "moved", "(III)I"⟩
abbrev cX8_areThere : ByteArray := prog_10_method_103_code
def yX8_areThere : MethodName := ⟨RX8, "areThere", "(II)Z"⟩
abbrev cX8_own : ByteArray := prog_10_method_104_code
def yX8_own : MethodName := ⟨RX8, "own", "(II)I"⟩
abbrev cX8_boundOf : ByteArray := prog_10_method_105_code
def yX8_boundOf : MethodName := ⟨RX8, "boundOf", "(III)I"⟩
abbrev cX8_belief : ByteArray := prog_10_method_106_code
def yX8_belief : MethodName := ⟨RX8, "belief", "(III)I"⟩
abbrev cX8_sources : ByteArray := prog_10_method_107_code
def yX8_sources : MethodName := ⟨RX8, "sources", "(II)I"⟩
abbrev cX8_contradicted : ByteArray := prog_10_method_108_code
def yX8_contradicted : MethodName := ⟨RX8, "contradicted", "(II)I"⟩
abbrev cX8_best : ByteArray := prog_10_method_109_code
def yX8_best : MethodName := ⟨RX8, "best", "(II)I"⟩
abbrev cX8_rivals : ByteArray := prog_10_method_110_code
def yX8_rivals : MethodName := ⟨RX8, "rivals", "(I)I"⟩
abbrev cX8_nextProbe : ByteArray := prog_10_method_111_code
def yX8_nextProbe : MethodName := ⟨RX8, "nextProbe", "(I)I"⟩
abbrev cX8_saved : ByteArray := prog_10_method_112_code
def yX8_saved : MethodName := ⟨RX8, "saved", "(I)I"⟩
abbrev cX8_agreeing : ByteArray := prog_10_method_113_code
def yX8_agreeing : MethodName := ⟨RX8, "agreeing", "(II)I"⟩
abbrev cX8_common : ByteArray := prog_10_method_114_code
def yX8_common : MethodName := ⟨RX8, "common", "(II)I"⟩
abbrev cX8_message : ByteArray := prog_10_method_115_code
def yX8_message : MethodName := ⟨RX8, "message", "(II)I"⟩
abbrev cX8_holding : ByteArray := prog_10_method_116_code
def yX8_holding : MethodName := ⟨RX8, "holding", "(II)I"⟩
abbrev cX8_agreed : ByteArray := prog_10_method_117_code
def yX8_agreed : MethodName := ⟨RX8, "agreed", "(II)I"⟩
abbrev cX8_majorityOf : ByteArray := prog_10_method_118_code
def yX8_majorityOf : MethodName := ⟨RX8, "majorityOf", "(II)I"⟩
abbrev cX8_majority : ByteArray := prog_10_method_119_code
def yX8_majority : MethodName := ⟨RX8, "majority", "(II)I"⟩
abbrev cX8_majorityBound : ByteArray := prog_10_method_120_code
def yX8_majorityBound : MethodName := ⟨RX8, "majorityBound", "(III)I"⟩
abbrev cX8_regret : ByteArray := prog_10_method_121_code
def yX8_regret : MethodName := ⟨RX8, "regret", "(I)I"⟩
abbrev cX8_reaches : ByteArray := prog_10_method_122_code
def yX8_reaches : MethodName := ⟨RX8, "reaches", "(III)Z"⟩
abbrev cX8_bottleneck : ByteArray := prog_10_method_123_code
def yX8_bottleneck : MethodName := ⟨RX8, "bottleneck", "(II)I"⟩
abbrev cX8_doRound : ByteArray := prog_10_method_124_code
def yX8_doRound : MethodName := ⟨RX8, "doRound", "()I"⟩
abbrev cX8_informed : ByteArray := prog_10_method_125_code
def yX8_informed : MethodName := ⟨RX8, "informed", "(III)I"⟩
abbrev cX8_exchange : ByteArray := prog_10_method_126_code
def yX8_exchange : MethodName := ⟨RX8, "exchange", "(I)I"⟩
abbrev cX8_cleanse : ByteArray := prog_10_method_127_code
def yX8_cleanse : MethodName := ⟨RX8, "cleanse", "(I)I"⟩
abbrev cX8_areBounds : ByteArray := prog_10_method_128_code
def yX8_areBounds : MethodName := ⟨RX8, "areBounds", "(II)Z"⟩
abbrev cX8_beliefIf : ByteArray := prog_10_method_129_code
def yX8_beliefIf : MethodName := ⟨RX8, "beliefIf", "(IIIII)I"⟩
abbrev cX8_trustIf : ByteArray := prog_10_method_130_code
def yX8_trustIf : MethodName := ⟨RX8, "trustIf", "(IIIII)I"⟩
abbrev cX8_widthAfter : ByteArray := prog_10_method_131_code
def yX8_widthAfter : MethodName := ⟨RX8, "widthAfter", "(III)I"⟩
abbrev cX8_widthBut : ByteArray := prog_10_method_132_code
def yX8_widthBut : MethodName := ⟨RX8, "widthBut", "(III)I"⟩
abbrev cX8_widthWithout : ByteArray := prog_10_method_133_code
def yX8_widthWithout : MethodName := ⟨RX8, "widthWithout", "(III)I"⟩
abbrev cX8_mostUseful : ByteArray := prog_10_method_134_code
def yX8_mostUseful : MethodName := ⟨RX8, "mostUseful", "(I)I"⟩
abbrev cX8_bestThen : ByteArray := prog_10_method_135_code
def yX8_bestThen : MethodName := ⟨RX8, "bestThen", "(I)I"⟩
abbrev cX8_probe : ByteArray := prog_10_method_136_code
def yX8_probe : MethodName := ⟨RX8, "probe", "(IIII)I"⟩
abbrev cX8_spreads : ByteArray := prog_10_method_137_code
def yX8_spreads : MethodName := ⟨RX8, "spreads", "(IIII)I"⟩
abbrev cX8_share : ByteArray := prog_10_method_138_code
def yX8_share : MethodName := ⟨RX8, "share", "(I)I"⟩
abbrev cX8_doRelay : ByteArray := prog_10_method_139_code
def yX8_doRelay : MethodName := ⟨RX8, "doRelay", "(I)I"⟩
abbrev cX8_relay : ByteArray := prog_10_method_140_code
def yX8_relay : MethodName := ⟨RX8, "relay", "(I)I"⟩
abbrev cX8_deliver : ByteArray := prog_10_method_141_code
def yX8_deliver : MethodName := ⟨RX8, "deliver", "(I)I"⟩
abbrev cX8_lose : ByteArray := prog_10_method_142_code
def yX8_lose : MethodName := ⟨RX8, "lose", "()I"⟩
abbrev cX8_pass : ByteArray := prog_10_method_143_code
def yX8_pass : MethodName := ⟨RX8, "pass", "(I)I"⟩
abbrev cX8_link : ByteArray := prog_10_method_144_code
def yX8_link : MethodName := ⟨RX8, "link", "(IIZ)Z"⟩
abbrev cX8_setTrust : ByteArray := prog_10_method_145_code
def yX8_setTrust : MethodName := ⟨RX8, "setTrust", "(III)I"⟩
abbrev cX8_leastOf : ByteArray := prog_10_method_146_code
def yX8_leastOf : MethodName := ⟨RX8, "leastOf", "(I)I"⟩
abbrev cX8_mostOf : ByteArray := prog_10_method_147_code
def yX8_mostOf : MethodName := ⟨RX8, "mostOf", "(I)I"⟩
abbrev cX8_setRule : ByteArray := prog_10_method_148_code
def yX8_setRule : MethodName := ⟨RX8, "setRule", "(II)I"⟩
abbrev cX8_forget : ByteArray := prog_10_method_149_code
def yX8_forget : MethodName := ⟨RX8, "forget", "(II)I"⟩
abbrev cX8_isSlot : ByteArray := prog_10_method_150_code
def yX8_isSlot : MethodName := ⟨RX8, "isSlot", "(I)Z"⟩
abbrev cX8_keep : ByteArray := prog_10_method_151_code
def yX8_keep : MethodName := ⟨RX8, "keep", "(I)I"⟩
abbrev cX8_restore : ByteArray := prog_10_method_152_code
def yX8_restore : MethodName := ⟨RX8, "restore", "(I)I"⟩
abbrev cX8_remember : ByteArray := prog_10_method_153_code
def yX8_remember : MethodName := ⟨RX8, "remember", "()V"⟩
abbrev cX8_undo : ByteArray := prog_10_method_154_code
def yX8_undo : MethodName := ⟨RX8, "undo", "()I"⟩
abbrev cX8_undoCount : ByteArray := prog_10_method_155_code
def yX8_undoCount : MethodName := ⟨RX8, "undoCount", "()I"⟩
abbrev cX8_write : ByteArray := prog_10_method_156_code
def yX8_write : MethodName := ⟨RX8, "write", "(I)V"⟩
abbrev cX8_writeNumber : ByteArray := prog_10_method_157_code
def yX8_writeNumber : MethodName := ⟨RX8, "writeNumber", "(I)V"⟩
abbrev cX8_writeName : ByteArray := prog_10_method_158_code
def yX8_writeName : MethodName := ⟨RX8, "writeName", "(I)V"⟩
abbrev cX8_writeBeliefs : ByteArray := prog_10_method_159_code
def yX8_writeBeliefs : MethodName := ⟨RX8, "writeBeliefs", "(I)I"⟩
abbrev cX8_writeReports : ByteArray := prog_10_method_160_code
def yX8_writeReports : MethodName := ⟨RX8, "writeReports", "(I)I"⟩
abbrev cX8_outputByte : ByteArray := prog_10_method_161_code
def yX8_outputByte : MethodName := ⟨RX8, "outputByte", "(I)I"⟩
def RJx145de : String := "java/io/Serializable"
def TJx145de : u_T := fun k => match k with
  | _ => ("", "", "", false)
def tyJx145de : Nat → FieldType := fun k => match k with
  | _ => .int
theorem nmJx145de : ∀ a, a < 0 → ∀ b, b < 0 → a ≠ b → (TJx145de a).2.1 ≠ (TJx145de b).2.1 := by decide +kernel
theorem tyJx145de_ok : ∀ k, k < 0 → parseFieldDescriptor (TJx145de k).2.2.1 = some (tyJx145de k) := by decide +kernel
def RJx9f9b0 : String := "java/lang/CharSequence"
def TJx9f9b0 : u_T := fun k => match k with
  | _ => ("", "", "", false)
def tyJx9f9b0 : Nat → FieldType := fun k => match k with
  | _ => .int
theorem nmJx9f9b0 : ∀ a, a < 0 → ∀ b, b < 0 → a ≠ b → (TJx9f9b0 a).2.1 ≠ (TJx9f9b0 b).2.1 := by decide +kernel
theorem tyJx9f9b0_ok : ∀ k, k < 0 → parseFieldDescriptor (TJx9f9b0 k).2.2.1 = some (tyJx9f9b0 k) := by decide +kernel
def RJxb160c : String := "java/lang/Comparable"
def TJxb160c : u_T := fun k => match k with
  | _ => ("", "", "", false)
def tyJxb160c : Nat → FieldType := fun k => match k with
  | _ => .int
theorem nmJxb160c : ∀ a, a < 0 → ∀ b, b < 0 → a ≠ b → (TJxb160c a).2.1 ≠ (TJxb160c b).2.1 := by decide +kernel
theorem tyJxb160c_ok : ∀ k, k < 0 → parseFieldDescriptor (TJxb160c k).2.2.1 = some (tyJxb160c k) := by decide +kernel
def RJ6 : String := "java/lang/Integer"
def TJ6 : u_T := fun k => match k with
  | _ => ("", "", "", false)
def tyJ6 : Nat → FieldType := fun k => match k with
  | _ => .int
theorem nmJ6 : ∀ a, a < 0 → ∀ b, b < 0 → a ≠ b → (TJ6 a).2.1 ≠ (TJ6 b).2.1 := by decide +kernel
theorem tyJ6_ok : ∀ k, k < 0 → parseFieldDescriptor (TJ6 k).2.2.1 = some (tyJ6 k) := by decide +kernel
abbrev cJ6_bitCount_0f7a4 : ByteArray := prog_18_method_49_code
def yJ6_bitCount_0f7a4 : MethodName := ⟨RJ6, "bitCount", "(I)I"⟩
def RJ9 : String := "java/lang/Math"
def TJ9 : u_T := fun k => match k with
  | _ => ("", "", "", false)
def tyJ9 : Nat → FieldType := fun k => match k with
  | _ => .int
theorem nmJ9 : ∀ a, a < 0 → ∀ b, b < 0 → a ≠ b → (TJ9 a).2.1 ≠ (TJ9 b).2.1 := by decide +kernel
theorem tyJ9_ok : ∀ k, k < 0 → parseFieldDescriptor (TJ9 k).2.2.1 = some (tyJ9 k) := by decide +kernel
abbrev cJ9_max_7cf53 : ByteArray := prog_19_method_65_code
def yJ9_max_7cf53 : MethodName := ⟨RJ9, "max", "(II)I"⟩
abbrev cJ9_min_7cf53 : ByteArray := prog_19_method_69_code
def yJ9_min_7cf53 : MethodName := ⟨RJ9, "min", "(II)I"⟩
def RJ0 : String := "java/lang/String"
def TJ0 : u_T := fun k => match k with
  | _ => ("", "", "", false)
def tyJ0 : Nat → FieldType := fun k => match k with
  | _ => .int
theorem nmJ0 : ∀ a, a < 0 → ∀ b, b < 0 → a ≠ b → (TJ0 a).2.1 ≠ (TJ0 b).2.1 := by decide +kernel
theorem tyJ0_ok : ∀ k, k < 0 → parseFieldDescriptor (TJ0 k).2.2.1 = some (tyJ0 k) := by decide +kernel
abbrev cJ0_length_8abf5 : ByteArray := prog_21_method_54_code
def yJ0_length_8abf5 : MethodName := ⟨RJ0, "length", "()I"⟩
abbrev cJ0_charAt_5068e : ByteArray := prog_21_method_56_code
def yJ0_charAt_5068e : MethodName := ⟨RJ0, "charAt", "(I)C"⟩
abbrev cJ0_coder_7d493 : ByteArray := prog_21_method_152_code
def yJ0_coder_7d493 : MethodName := ⟨RJ0, "coder", "()B"⟩
abbrev cJ0_isLatin1_aae02 : ByteArray := prog_21_method_154_code
def yJ0_isLatin1_aae02 : MethodName := ⟨RJ0, "isLatin1", "()Z"⟩
abbrev cJ0_checkIndex_df160 : ByteArray := prog_21_method_155_code
def yJ0_checkIndex_df160 : MethodName := ⟨RJ0, "checkIndex", "(II)V"⟩
def RJ1 : String := "java/lang/StringLatin1"
def TJ1 : u_T := fun k => match k with
  | _ => ("", "", "", false)
def tyJ1 : Nat → FieldType := fun k => match k with
  | _ => .int
theorem nmJ1 : ∀ a, a < 0 → ∀ b, b < 0 → a ≠ b → (TJ1 a).2.1 ≠ (TJ1 b).2.1 := by decide +kernel
theorem tyJ1_ok : ∀ k, k < 0 → parseFieldDescriptor (TJ1 k).2.2.1 = some (tyJ1 k) := by decide +kernel
abbrev cJ1_charAt_3b067 : ByteArray := prog_22_method_2_code
def yJ1_charAt_3b067 : MethodName := ⟨RJ1, "charAt", "([BI)C"⟩
def RJ2 : String := "java/lang/StringUTF16"
def TJ2 : u_T := fun k => match k with
  | _ => ("", "", "", false)
def tyJ2 : Nat → FieldType := fun k => match k with
  | _ => .int
theorem nmJ2 : ∀ a, a < 0 → ∀ b, b < 0 → a ≠ b → (TJ2 a).2.1 ≠ (TJ2 b).2.1 := by decide +kernel
theorem tyJ2_ok : ∀ k, k < 0 → parseFieldDescriptor (TJ2 k).2.2.1 = some (tyJ2 k) := by decide +kernel
abbrev cJ2_getChar_3b067 : ByteArray := prog_23_method_5_code
def yJ2_getChar_3b067 : MethodName := ⟨RJ2, "getChar", "([BI)C"⟩
abbrev cJ2_length_9d52b : ByteArray := prog_23_method_6_code
def yJ2_length_9d52b : MethodName := ⟨RJ2, "length", "([B)I"⟩
abbrev cJ2_charAt_3b067 : ByteArray := prog_23_method_83_code
def yJ2_charAt_3b067 : MethodName := ⟨RJ2, "charAt", "([BI)C"⟩
abbrev cJ2_checkIndex_2214a : ByteArray := prog_23_method_91_code
def yJ2_checkIndex_2214a : MethodName := ⟨RJ2, "checkIndex", "(I[B)V"⟩
def RJ10 : String := "java/lang/System"
def TJ10 : u_T := fun k => match k with
  | _ => ("", "", "", false)
def tyJ10 : Nat → FieldType := fun k => match k with
  | _ => .int
theorem nmJ10 : ∀ a, a < 0 → ∀ b, b < 0 → a ≠ b → (TJ10 a).2.1 ≠ (TJ10 b).2.1 := by decide +kernel
theorem tyJ10_ok : ∀ k, k < 0 → parseFieldDescriptor (TJ10 k).2.2.1 = some (tyJ10 k) := by decide +kernel
def RJxfd54e : String := "java/lang/constant/Constable"
def TJxfd54e : u_T := fun k => match k with
  | _ => ("", "", "", false)
def tyJxfd54e : Nat → FieldType := fun k => match k with
  | _ => .int
theorem nmJxfd54e : ∀ a, a < 0 → ∀ b, b < 0 → a ≠ b → (TJxfd54e a).2.1 ≠ (TJxfd54e b).2.1 := by decide +kernel
theorem tyJxfd54e_ok : ∀ k, k < 0 → parseFieldDescriptor (TJxfd54e k).2.2.1 = some (tyJxfd54e k) := by decide +kernel
def RJx3cf43 : String := "java/lang/constant/ConstantDesc"
def TJx3cf43 : u_T := fun k => match k with
  | _ => ("", "", "", false)
def tyJx3cf43 : Nat → FieldType := fun k => match k with
  | _ => .int
theorem nmJx3cf43 : ∀ a, a < 0 → ∀ b, b < 0 → a ≠ b → (TJx3cf43 a).2.1 ≠ (TJx3cf43 b).2.1 := by decide +kernel
theorem tyJx3cf43_ok : ∀ k, k < 0 → parseFieldDescriptor (TJx3cf43 k).2.2.1 = some (tyJx3cf43 k) := by decide +kernel
def RJ7 : String := "java/util/Arrays"
def TJ7 : u_T := fun k => match k with
  | _ => ("", "", "", false)
def tyJ7 : Nat → FieldType := fun k => match k with
  | _ => .int
theorem nmJ7 : ∀ a, a < 0 → ∀ b, b < 0 → a ≠ b → (TJ7 a).2.1 ≠ (TJ7 b).2.1 := by decide +kernel
theorem tyJ7_ok : ∀ k, k < 0 → parseFieldDescriptor (TJ7 k).2.2.1 = some (tyJ7 k) := by decide +kernel
abbrev cJ7_fill_53178 : ByteArray := prog_28_method_103_code
def yJ7_fill_53178 : MethodName := ⟨RJ7, "fill", "([II)V"⟩
def RJ3 : String := "jdk/internal/util/Preconditions"
def TJ3 : u_T := fun k => match k with
  | _ => ("", "", "", false)
def tyJ3 : Nat → FieldType := fun k => match k with
  | _ => .int
theorem nmJ3 : ∀ a, a < 0 → ∀ b, b < 0 → a ≠ b → (TJ3 a).2.1 ≠ (TJ3 b).2.1 := by decide +kernel
theorem tyJ3_ok : ∀ k, k < 0 → parseFieldDescriptor (TJ3 k).2.2.1 = some (tyJ3 k) := by decide +kernel
abbrev cJ3_checkIndex_8e157 : ByteArray := prog_30_method_11_code
def yJ3_checkIndex_8e157 : MethodName := ⟨RJ3, "checkIndex", "(IILjava/util/function/BiFunction;)I"⟩
def RL : String := "PathTrustLaw"
abbrev cL_append : ByteArray := method_3_code
def yL_append : MethodName := ⟨RL, "append", "(LPathTrust;IIIII[J)I"⟩
abbrev cL_truncate : ByteArray := method_4_code
def yL_truncate : MethodName := ⟨RL, "truncate", "(LPathTrust;I)I"⟩
abbrev cL_property : ByteArray := method_5_code
def yL_property : MethodName := ⟨RL, "property", "(LPathTrust;I[J)I"⟩
abbrev cL_trust : ByteArray := method_6_code
def yL_trust : MethodName := ⟨RL, "trust", "(LPathTrust;II[J)I"⟩
abbrev cL_neighbors : ByteArray := method_7_code
def yL_neighbors : MethodName := ⟨RL, "neighbors", "(LPathTrust;I[J)I"⟩
abbrev cL_distance : ByteArray := method_8_code
def yL_distance : MethodName := ⟨RL, "distance", "(LPathTrust;II[J)I"⟩
abbrev cL_bottleneck : ByteArray := method_9_code
def yL_bottleneck : MethodName := ⟨RL, "bottleneck", "(LPathTrust;II[J)I"⟩
abbrev cL_mostTrusted : ByteArray := method_10_code
def yL_mostTrusted : MethodName := ⟨RL, "mostTrusted", "(LPathTrust;I[J)I"⟩
abbrev cL_reports : ByteArray := method_11_code
def yL_reports : MethodName := ⟨RL, "reports", "(LPathTrust;I[J)I"⟩
abbrev cL_report : ByteArray := method_12_code
def yL_report : MethodName := ⟨RL, "report", "(LPathTrust;III[J)I"⟩
abbrev cL_status : ByteArray := method_13_code
def yL_status : MethodName := ⟨RL, "status", "(LPathTrust;II[J)I"⟩
abbrev cL_moved : ByteArray := method_14_code
def yL_moved : MethodName := ⟨RL, "moved", "(LPathTrust;III[J)I"⟩
abbrev cL_own : ByteArray := method_15_code
def yL_own : MethodName := ⟨RL, "own", "(LPathTrust;II[J)I"⟩
abbrev cL_belief : ByteArray := method_16_code
def yL_belief : MethodName := ⟨RL, "belief", "(LPathTrust;III[J)I"⟩
abbrev cL_sources : ByteArray := method_17_code
def yL_sources : MethodName := ⟨RL, "sources", "(LPathTrust;II[J)I"⟩
abbrev cL_contradicted : ByteArray := method_18_code
def yL_contradicted : MethodName := ⟨RL, "contradicted", "(LPathTrust;II[J)I"⟩
abbrev cL_majority : ByteArray := method_19_code
def yL_majority : MethodName := ⟨RL, "majority", "(LPathTrust;II[J)I"⟩
abbrev cL_majorityBound : ByteArray := method_20_code
def yL_majorityBound : MethodName := ⟨RL, "majorityBound", "(LPathTrust;III[J)I"⟩
abbrev cL_best : ByteArray := method_21_code
def yL_best : MethodName := ⟨RL, "best", "(LPathTrust;II[J)I"⟩
abbrev cL_rivals : ByteArray := method_22_code
def yL_rivals : MethodName := ⟨RL, "rivals", "(LPathTrust;I[J)I"⟩
abbrev cL_nextProbe : ByteArray := method_23_code
def yL_nextProbe : MethodName := ⟨RL, "nextProbe", "(LPathTrust;I[J)I"⟩
abbrev cL_regret : ByteArray := method_24_code
def yL_regret : MethodName := ⟨RL, "regret", "(LPathTrust;I[J)I"⟩
abbrev cL_saved : ByteArray := method_25_code
def yL_saved : MethodName := ⟨RL, "saved", "(LPathTrust;I[J)I"⟩
abbrev cL_agreeing : ByteArray := method_26_code
def yL_agreeing : MethodName := ⟨RL, "agreeing", "(LPathTrust;II[J)I"⟩
abbrev cL_common : ByteArray := method_27_code
def yL_common : MethodName := ⟨RL, "common", "(LPathTrust;II[J)I"⟩
abbrev cL_account : ByteArray := method_28_code
def yL_account : MethodName := ⟨RL, "account", "(LPathTrust;II[J)I"⟩
abbrev cL_message : ByteArray := method_29_code
def yL_message : MethodName := ⟨RL, "message", "(LPathTrust;II[J)I"⟩
abbrev cL_standing : ByteArray := method_30_code
def yL_standing : MethodName := ⟨RL, "standing", "(LPathTrust;I[D)I"⟩
abbrev cL_beliefIf : ByteArray := method_31_code
def yL_beliefIf : MethodName := ⟨RL, "beliefIf", "(LPathTrust;IIIII[J)I"⟩
abbrev cL_trustIf : ByteArray := method_32_code
def yL_trustIf : MethodName := ⟨RL, "trustIf", "(LPathTrust;IIIII[J)I"⟩
abbrev cL_informed : ByteArray := method_33_code
def yL_informed : MethodName := ⟨RL, "informed", "(LPathTrust;III[J)I"⟩
abbrev cL_widthAfter : ByteArray := method_34_code
def yL_widthAfter : MethodName := ⟨RL, "widthAfter", "(LPathTrust;III[J)I"⟩
abbrev cL_widthWithout : ByteArray := method_35_code
def yL_widthWithout : MethodName := ⟨RL, "widthWithout", "(LPathTrust;III[J)I"⟩
abbrev cL_mostUseful : ByteArray := method_36_code
def yL_mostUseful : MethodName := ⟨RL, "mostUseful", "(LPathTrust;I[J)I"⟩
abbrev cL_bestThen : ByteArray := method_37_code
def yL_bestThen : MethodName := ⟨RL, "bestThen", "(LPathTrust;I[J)I"⟩
abbrev cL_probe : ByteArray := method_38_code
def yL_probe : MethodName := ⟨RL, "probe", "(LPathTrust;IIII[J)I"⟩
abbrev cL_share : ByteArray := method_39_code
def yL_share : MethodName := ⟨RL, "share", "(LPathTrust;I[J)I"⟩
abbrev cL_relay : ByteArray := method_40_code
def yL_relay : MethodName := ⟨RL, "relay", "(LPathTrust;I[J)I"⟩
abbrev cL_deliver : ByteArray := method_41_code
def yL_deliver : MethodName := ⟨RL, "deliver", "(LPathTrust;I[J)I"⟩
abbrev cL_lose : ByteArray := method_42_code
def yL_lose : MethodName := ⟨RL, "lose", "(LPathTrust;[J)I"⟩
abbrev cL_exchange : ByteArray := method_43_code
def yL_exchange : MethodName := ⟨RL, "exchange", "(LPathTrust;I[J)I"⟩
abbrev cL_pass : ByteArray := method_44_code
def yL_pass : MethodName := ⟨RL, "pass", "(LPathTrust;I[J)I"⟩
abbrev cL_link : ByteArray := method_45_code
def yL_link : MethodName := ⟨RL, "link", "(LPathTrust;IIZ[J)I"⟩
abbrev cL_setTrust : ByteArray := method_46_code
def yL_setTrust : MethodName := ⟨RL, "setTrust", "(LPathTrust;III[J)I"⟩
abbrev cL_setRule : ByteArray := method_47_code
def yL_setRule : MethodName := ⟨RL, "setRule", "(LPathTrust;II[J)I"⟩
abbrev cL_forget : ByteArray := method_48_code
def yL_forget : MethodName := ⟨RL, "forget", "(LPathTrust;II[J)I"⟩
abbrev cL_cleanse : ByteArray := method_49_code
def yL_cleanse : MethodName := ⟨RL, "cleanse", "(LPathTrust;I[J)I"⟩
abbrev cL_keep : ByteArray := method_50_code
def yL_keep : MethodName := ⟨RL, "keep", "(LPathTrust;I[J)I"⟩
abbrev cL_restore : ByteArray := method_51_code
def yL_restore : MethodName := ⟨RL, "restore", "(LPathTrust;I[J)I"⟩
abbrev cL_undo : ByteArray := method_52_code
def yL_undo : MethodName := ⟨RL, "undo", "(LPathTrust;[J)I"⟩
abbrev cL_writeBeliefs : ByteArray := method_53_code
def yL_writeBeliefs : MethodName := ⟨RL, "writeBeliefs", "(LPathTrust;I[J)I"⟩
abbrev cL_writeReports : ByteArray := method_54_code
def yL_writeReports : MethodName := ⟨RL, "writeReports", "(LPathTrust;I[J)I"⟩
abbrev cL_outputByte : ByteArray := method_55_code
def yL_outputByte : MethodName := ⟨RL, "outputByte", "(LPathTrust;I[J)I"⟩
abbrev cL_law : ByteArray := code
def yL_law : MethodName := ⟨RL, "law", "([I)Z"⟩
abbrev vwCl : List vw_C := [(RX0, TX0, 2), (RX1, TX1, 9), (RX2, TX2, 2), (RX3, TX3, 2), (RX4, TX4, 8), (RX5, TX5, 2), (RX6, TX6, 9), (RX7, TX7, 8), (RX8, TX8, 28)]
