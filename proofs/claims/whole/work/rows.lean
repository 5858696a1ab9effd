section
-- ===== PART A: goes FIRST, ahead of the names: the tables' words, and 'selects' of the private methods out of them =====
/-- a private method of a class that the tables say can be made, by its rows of tables_1 -/
def lw_okq (q : MethodName × Nat) : Prop := (q.1.cls ≠ "java/lang/invoke/MethodHandle" ∧ q.1.cls ≠ "java/lang/invoke/VarHandle") ∧ Cond.instantiable q.1.cls q.2 ∈ tables_1 ∧ Cond.privateMethod q.1 ∈ tables_1 ∧ Cond.instanceMethod q.1 ∈ tables_1
theorem lw_p0 : lw_okq (⟨"VersionedTables", "settingsThere", "()I"⟩, 10) := ⟨⟨by decide +kernel, by decide +kernel⟩, List.mem_of_getElem? (i := 24) (by decide +kernel), List.mem_of_getElem? (i := 131) (by decide +kernel), List.mem_of_getElem? (i := 132) (by decide +kernel)⟩
theorem lw_p1 : lw_okq (⟨"VersionedTables$Transactions", "leastOpen", "()I"⟩, 3) := ⟨⟨by decide +kernel, by decide +kernel⟩, List.mem_of_getElem? (i := 34) (by decide +kernel), List.mem_of_getElem? (i := 143) (by decide +kernel), List.mem_of_getElem? (i := 144) (by decide +kernel)⟩
theorem lw_p2 : lw_okq (⟨"VersionedTables", "sweep", "(LVersionedTables$Table;I)I"⟩, 10) := ⟨⟨by decide +kernel, by decide +kernel⟩, List.mem_of_getElem? (i := 24) (by decide +kernel), List.mem_of_getElem? (i := 149) (by decide +kernel), List.mem_of_getElem? (i := 150) (by decide +kernel)⟩
theorem lw_p3 : lw_okq (⟨"VersionedTables", "sweepRow", "(LVersionedTables$Row;I)I"⟩, 10) := ⟨⟨by decide +kernel, by decide +kernel⟩, List.mem_of_getElem? (i := 24) (by decide +kernel), List.mem_of_getElem? (i := 153) (by decide +kernel), List.mem_of_getElem? (i := 154) (by decide +kernel)⟩
theorem lw_p4 : lw_okq (⟨"VersionedTables$Row", "has", "(I)Z"⟩, 1) := ⟨⟨by decide +kernel, by decide +kernel⟩, List.mem_of_getElem? (i := 159) (by decide +kernel), List.mem_of_getElem? (i := 157) (by decide +kernel), List.mem_of_getElem? (i := 158) (by decide +kernel)⟩
theorem lw_p5 : lw_okq (⟨"VersionedTables$Transactions", "is", "(ILVersionedTables$State;)Z"⟩, 3) := ⟨⟨by decide +kernel, by decide +kernel⟩, List.mem_of_getElem? (i := 34) (by decide +kernel), List.mem_of_getElem? (i := 164) (by decide +kernel), List.mem_of_getElem? (i := 165) (by decide +kernel)⟩
theorem lw_p6 : lw_okq (⟨"VersionedTables$Row", "drop", "(I)I"⟩, 1) := ⟨⟨by decide +kernel, by decide +kernel⟩, List.mem_of_getElem? (i := 159) (by decide +kernel), List.mem_of_getElem? (i := 168) (by decide +kernel), List.mem_of_getElem? (i := 169) (by decide +kernel)⟩
theorem lw_p7 : lw_okq (⟨"VersionedTables$Transactions", "howMany", "(LVersionedTables$State;)I"⟩, 3) := ⟨⟨by decide +kernel, by decide +kernel⟩, List.mem_of_getElem? (i := 34) (by decide +kernel), List.mem_of_getElem? (i := 178) (by decide +kernel), List.mem_of_getElem? (i := 179) (by decide +kernel)⟩
theorem lw_p8 : lw_okq (⟨"VersionedTables", "allVersions", "()I"⟩, 10) := ⟨⟨by decide +kernel, by decide +kernel⟩, List.mem_of_getElem? (i := 24) (by decide +kernel), List.mem_of_getElem? (i := 182) (by decide +kernel), List.mem_of_getElem? (i := 183) (by decide +kernel)⟩
theorem lw_p9 : lw_okq (⟨"VersionedTables$Table", "versionsThere", "()I"⟩, 4) := ⟨⟨by decide +kernel, by decide +kernel⟩, List.mem_of_getElem? (i := 188) (by decide +kernel), List.mem_of_getElem? (i := 186) (by decide +kernel), List.mem_of_getElem? (i := 187) (by decide +kernel)⟩
theorem lw_p10 : lw_okq (⟨"VersionedTables$Row", "size", "()I"⟩, 1) := ⟨⟨by decide +kernel, by decide +kernel⟩, List.mem_of_getElem? (i := 159) (by decide +kernel), List.mem_of_getElem? (i := 191) (by decide +kernel), List.mem_of_getElem? (i := 192) (by decide +kernel)⟩
theorem lw_p11 : lw_okq (⟨"VersionedTables", "rowsMade", "(I)I"⟩, 10) := ⟨⟨by decide +kernel, by decide +kernel⟩, List.mem_of_getElem? (i := 24) (by decide +kernel), List.mem_of_getElem? (i := 195) (by decide +kernel), List.mem_of_getElem? (i := 196) (by decide +kernel)⟩
theorem lw_p12 : lw_okq (⟨"java/lang/Throwable", "fillInStackTrace", "(I)Ljava/lang/Throwable;"⟩, 6) := ⟨⟨by decide +kernel, by decide +kernel⟩, List.mem_of_getElem? (i := 249) (by decide +kernel), List.mem_of_getElem? (i := 247) (by decide +kernel), List.mem_of_getElem? (i := 248) (by decide +kernel)⟩
theorem lw_p13 : lw_okq (⟨"VersionedTables$Parser", "readCondition", "()Z"⟩, 5) := ⟨⟨by decide +kernel, by decide +kernel⟩, List.mem_of_getElem? (i := 344) (by decide +kernel), List.mem_of_getElem? (i := 371) (by decide +kernel), List.mem_of_getElem? (i := 372) (by decide +kernel)⟩
theorem lw_p14 : lw_okq (⟨"VersionedTables$Parser", "readAll", "(I)Z"⟩, 5) := ⟨⟨by decide +kernel, by decide +kernel⟩, List.mem_of_getElem? (i := 344) (by decide +kernel), List.mem_of_getElem? (i := 375) (by decide +kernel), List.mem_of_getElem? (i := 376) (by decide +kernel)⟩
theorem lw_p15 : lw_okq (⟨"VersionedTables$Parser", "readPart", "(I)Z"⟩, 5) := ⟨⟨by decide +kernel, by decide +kernel⟩, List.mem_of_getElem? (i := 344) (by decide +kernel), List.mem_of_getElem? (i := 379) (by decide +kernel), List.mem_of_getElem? (i := 380) (by decide +kernel)⟩
def lw_privs_1 : List (MethodName × Nat) := [(⟨"VersionedTables", "settingsThere", "()I"⟩, 10), (⟨"VersionedTables$Transactions", "leastOpen", "()I"⟩, 3), (⟨"VersionedTables", "sweep", "(LVersionedTables$Table;I)I"⟩, 10), (⟨"VersionedTables", "sweepRow", "(LVersionedTables$Row;I)I"⟩, 10), (⟨"VersionedTables$Row", "has", "(I)Z"⟩, 1), (⟨"VersionedTables$Transactions", "is", "(ILVersionedTables$State;)Z"⟩, 3), (⟨"VersionedTables$Row", "drop", "(I)I"⟩, 1), (⟨"VersionedTables$Transactions", "howMany", "(LVersionedTables$State;)I"⟩, 3), (⟨"VersionedTables", "allVersions", "()I"⟩, 10), (⟨"VersionedTables$Table", "versionsThere", "()I"⟩, 4), (⟨"VersionedTables$Row", "size", "()I"⟩, 1), (⟨"VersionedTables", "rowsMade", "(I)I"⟩, 10), (⟨"java/lang/Throwable", "fillInStackTrace", "(I)Ljava/lang/Throwable;"⟩, 6), (⟨"VersionedTables$Parser", "readCondition", "()Z"⟩, 5), (⟨"VersionedTables$Parser", "readAll", "(I)Z"⟩, 5), (⟨"VersionedTables$Parser", "readPart", "(I)Z"⟩, 5)]
theorem lw_r1 : ∀ q ∈ lw_privs_1, lw_okq q := List.forall_mem_cons.mpr ⟨lw_p0, List.forall_mem_cons.mpr ⟨lw_p1, List.forall_mem_cons.mpr ⟨lw_p2, List.forall_mem_cons.mpr ⟨lw_p3, List.forall_mem_cons.mpr ⟨lw_p4, List.forall_mem_cons.mpr ⟨lw_p5, List.forall_mem_cons.mpr ⟨lw_p6, List.forall_mem_cons.mpr ⟨lw_p7, List.forall_mem_cons.mpr ⟨lw_p8, List.forall_mem_cons.mpr ⟨lw_p9, List.forall_mem_cons.mpr ⟨lw_p10, List.forall_mem_cons.mpr ⟨lw_p11, List.forall_mem_cons.mpr ⟨lw_p12, List.forall_mem_cons.mpr ⟨lw_p13, List.forall_mem_cons.mpr ⟨lw_p14, List.forall_mem_cons.mpr ⟨lw_p15, fun _ h => absurd h List.not_mem_nil⟩⟩⟩⟩⟩⟩⟩⟩⟩⟩⟩⟩⟩⟩⟩⟩
theorem lw_p16 : lw_okq (⟨"VersionedTables$Parser", "next", "()I"⟩, 5) := ⟨⟨by decide +kernel, by decide +kernel⟩, List.mem_of_getElem? (i := 344) (by decide +kernel), List.mem_of_getElem? (i := 383) (by decide +kernel), List.mem_of_getElem? (i := 384) (by decide +kernel)⟩
theorem lw_p17 : lw_okq (⟨"VersionedTables$Parser", "readComparison", "()Z"⟩, 5) := ⟨⟨by decide +kernel, by decide +kernel⟩, List.mem_of_getElem? (i := 344) (by decide +kernel), List.mem_of_getElem? (i := 387) (by decide +kernel), List.mem_of_getElem? (i := 388) (by decide +kernel)⟩
theorem lw_p18 : lw_okq (⟨"VersionedTables$Parser", "readTerm", "()Z"⟩, 5) := ⟨⟨by decide +kernel, by decide +kernel⟩, List.mem_of_getElem? (i := 344) (by decide +kernel), List.mem_of_getElem? (i := 391) (by decide +kernel), List.mem_of_getElem? (i := 392) (by decide +kernel)⟩
theorem lw_p19 : lw_okq (⟨"VersionedTables$Parser", "readItem", "()Z"⟩, 5) := ⟨⟨by decide +kernel, by decide +kernel⟩, List.mem_of_getElem? (i := 344) (by decide +kernel), List.mem_of_getElem? (i := 395) (by decide +kernel), List.mem_of_getElem? (i := 396) (by decide +kernel)⟩
theorem lw_p20 : lw_okq (⟨"VersionedTables$Program", "add", "(I)V"⟩, 4) := ⟨⟨by decide +kernel, by decide +kernel⟩, List.mem_of_getElem? (i := 54) (by decide +kernel), List.mem_of_getElem? (i := 402) (by decide +kernel), List.mem_of_getElem? (i := 403) (by decide +kernel)⟩
theorem lw_p21 : lw_okq (⟨"VersionedTables$Parser", "skip", "(I)Z"⟩, 5) := ⟨⟨by decide +kernel, by decide +kernel⟩, List.mem_of_getElem? (i := 344) (by decide +kernel), List.mem_of_getElem? (i := 415) (by decide +kernel), List.mem_of_getElem? (i := 416) (by decide +kernel)⟩
theorem lw_p22 : lw_okq (⟨"VersionedTables", "takeLine", "(LVersionedTables$Parser;Z)V"⟩, 10) := ⟨⟨by decide +kernel, by decide +kernel⟩, List.mem_of_getElem? (i := 24) (by decide +kernel), List.mem_of_getElem? (i := 422) (by decide +kernel), List.mem_of_getElem? (i := 423) (by decide +kernel)⟩
theorem lw_p23 : lw_okq (⟨"VersionedTables$Parser", "readSetting", "()Z"⟩, 5) := ⟨⟨by decide +kernel, by decide +kernel⟩, List.mem_of_getElem? (i := 344) (by decide +kernel), List.mem_of_getElem? (i := 434) (by decide +kernel), List.mem_of_getElem? (i := 435) (by decide +kernel)⟩
theorem lw_p24 : lw_okq (⟨"VersionedTables$Transactions", "beginNext", "()I"⟩, 3) := ⟨⟨by decide +kernel, by decide +kernel⟩, List.mem_of_getElem? (i := 34) (by decide +kernel), List.mem_of_getElem? (i := 446) (by decide +kernel), List.mem_of_getElem? (i := 447) (by decide +kernel)⟩
theorem lw_p25 : lw_okq (⟨"VersionedTables", "mustBeOpen", "(I)V"⟩, 10) := ⟨⟨by decide +kernel, by decide +kernel⟩, List.mem_of_getElem? (i := 24) (by decide +kernel), List.mem_of_getElem? (i := 458) (by decide +kernel), List.mem_of_getElem? (i := 459) (by decide +kernel)⟩
theorem lw_p26 : lw_okq (⟨"VersionedTables$Transactions", "end", "(ILVersionedTables$State;)V"⟩, 3) := ⟨⟨by decide +kernel, by decide +kernel⟩, List.mem_of_getElem? (i := 34) (by decide +kernel), List.mem_of_getElem? (i := 478) (by decide +kernel), List.mem_of_getElem? (i := 479) (by decide +kernel)⟩
theorem lw_p27 : lw_okq (⟨"VersionedTables", "breakOff", "(I)I"⟩, 10) := ⟨⟨by decide +kernel, by decide +kernel⟩, List.mem_of_getElem? (i := 24) (by decide +kernel), List.mem_of_getElem? (i := 489) (by decide +kernel), List.mem_of_getElem? (i := 490) (by decide +kernel)⟩
theorem lw_p28 : lw_okq (⟨"VersionedTables$Table", "dropAllOf", "(I)I"⟩, 4) := ⟨⟨by decide +kernel, by decide +kernel⟩, List.mem_of_getElem? (i := 188) (by decide +kernel), List.mem_of_getElem? (i := 495) (by decide +kernel), List.mem_of_getElem? (i := 496) (by decide +kernel)⟩
theorem lw_p29 : lw_okq (⟨"VersionedTables", "tableThere", "(I)LVersionedTables$Table;"⟩, 10) := ⟨⟨by decide +kernel, by decide +kernel⟩, List.mem_of_getElem? (i := 24) (by decide +kernel), List.mem_of_getElem? (i := 508) (by decide +kernel), List.mem_of_getElem? (i := 509) (by decide +kernel)⟩
theorem lw_p30 : lw_okq (⟨"VersionedTables", "breakTooLate", "(I)V"⟩, 10) := ⟨⟨by decide +kernel, by decide +kernel⟩, List.mem_of_getElem? (i := 24) (by decide +kernel), List.mem_of_getElem? (i := 514) (by decide +kernel), List.mem_of_getElem? (i := 515) (by decide +kernel)⟩
theorem lw_p31 : lw_okq (⟨"VersionedTables$Table", "addRow", "(IIIII)I"⟩, 4) := ⟨⟨by decide +kernel, by decide +kernel⟩, List.mem_of_getElem? (i := 188) (by decide +kernel), List.mem_of_getElem? (i := 534) (by decide +kernel), List.mem_of_getElem? (i := 535) (by decide +kernel)⟩
def lw_privs_2 : List (MethodName × Nat) := [(⟨"VersionedTables$Parser", "next", "()I"⟩, 5), (⟨"VersionedTables$Parser", "readComparison", "()Z"⟩, 5), (⟨"VersionedTables$Parser", "readTerm", "()Z"⟩, 5), (⟨"VersionedTables$Parser", "readItem", "()Z"⟩, 5), (⟨"VersionedTables$Program", "add", "(I)V"⟩, 4), (⟨"VersionedTables$Parser", "skip", "(I)Z"⟩, 5), (⟨"VersionedTables", "takeLine", "(LVersionedTables$Parser;Z)V"⟩, 10), (⟨"VersionedTables$Parser", "readSetting", "()Z"⟩, 5), (⟨"VersionedTables$Transactions", "beginNext", "()I"⟩, 3), (⟨"VersionedTables", "mustBeOpen", "(I)V"⟩, 10), (⟨"VersionedTables$Transactions", "end", "(ILVersionedTables$State;)V"⟩, 3), (⟨"VersionedTables", "breakOff", "(I)I"⟩, 10), (⟨"VersionedTables$Table", "dropAllOf", "(I)I"⟩, 4), (⟨"VersionedTables", "tableThere", "(I)LVersionedTables$Table;"⟩, 10), (⟨"VersionedTables", "breakTooLate", "(I)V"⟩, 10), (⟨"VersionedTables$Table", "addRow", "(IIIII)I"⟩, 4)]
theorem lw_r2 : ∀ q ∈ lw_privs_2, lw_okq q := List.forall_mem_cons.mpr ⟨lw_p16, List.forall_mem_cons.mpr ⟨lw_p17, List.forall_mem_cons.mpr ⟨lw_p18, List.forall_mem_cons.mpr ⟨lw_p19, List.forall_mem_cons.mpr ⟨lw_p20, List.forall_mem_cons.mpr ⟨lw_p21, List.forall_mem_cons.mpr ⟨lw_p22, List.forall_mem_cons.mpr ⟨lw_p23, List.forall_mem_cons.mpr ⟨lw_p24, List.forall_mem_cons.mpr ⟨lw_p25, List.forall_mem_cons.mpr ⟨lw_p26, List.forall_mem_cons.mpr ⟨lw_p27, List.forall_mem_cons.mpr ⟨lw_p28, List.forall_mem_cons.mpr ⟨lw_p29, List.forall_mem_cons.mpr ⟨lw_p30, List.forall_mem_cons.mpr ⟨lw_p31, fun _ h => absurd h List.not_mem_nil⟩⟩⟩⟩⟩⟩⟩⟩⟩⟩⟩⟩⟩⟩⟩⟩
theorem lw_p32 : lw_okq (⟨"VersionedTables$Row", "write", "(I[IZ)V"⟩, 1) := ⟨⟨by decide +kernel, by decide +kernel⟩, List.mem_of_getElem? (i := 159) (by decide +kernel), List.mem_of_getElem? (i := 538) (by decide +kernel), List.mem_of_getElem? (i := 539) (by decide +kernel)⟩
theorem lw_p33 : lw_okq (⟨"VersionedTables$Version", "put", "([IZ)V"⟩, 4) := ⟨⟨by decide +kernel, by decide +kernel⟩, List.mem_of_getElem? (i := 541) (by decide +kernel), List.mem_of_getElem? (i := 565) (by decide +kernel), List.mem_of_getElem? (i := 566) (by decide +kernel)⟩
theorem lw_p34 : lw_okq (⟨"VersionedTables", "choose", "(ILVersionedTables$Table;)V"⟩, 10) := ⟨⟨by decide +kernel, by decide +kernel⟩, List.mem_of_getElem? (i := 24) (by decide +kernel), List.mem_of_getElem? (i := 580) (by decide +kernel), List.mem_of_getElem? (i := 581) (by decide +kernel)⟩
theorem lw_p35 : lw_okq (⟨"VersionedTables$Row", "holding", "(I)LVersionedTables$Version;"⟩, 1) := ⟨⟨by decide +kernel, by decide +kernel⟩, List.mem_of_getElem? (i := 159) (by decide +kernel), List.mem_of_getElem? (i := 584) (by decide +kernel), List.mem_of_getElem? (i := 585) (by decide +kernel)⟩
theorem lw_p36 : lw_okq (⟨"VersionedTables$Program", "holds", "([I)Z"⟩, 4) := ⟨⟨by decide +kernel, by decide +kernel⟩, List.mem_of_getElem? (i := 54) (by decide +kernel), List.mem_of_getElem? (i := 589) (by decide +kernel), List.mem_of_getElem? (i := 590) (by decide +kernel)⟩
theorem lw_p37 : lw_okq (⟨"VersionedTables$Program", "work", "([I)I"⟩, 4) := ⟨⟨by decide +kernel, by decide +kernel⟩, List.mem_of_getElem? (i := 54) (by decide +kernel), List.mem_of_getElem? (i := 593) (by decide +kernel), List.mem_of_getElem? (i := 594) (by decide +kernel)⟩
theorem lw_p38 : lw_okq (⟨"VersionedTables$Program", "workStep", "(I[I)I"⟩, 4) := ⟨⟨by decide +kernel, by decide +kernel⟩, List.mem_of_getElem? (i := 54) (by decide +kernel), List.mem_of_getElem? (i := 597) (by decide +kernel), List.mem_of_getElem? (i := 598) (by decide +kernel)⟩
theorem lw_p39 : lw_okq (⟨"VersionedTables$Program", "pop", "()I"⟩, 4) := ⟨⟨by decide +kernel, by decide +kernel⟩, List.mem_of_getElem? (i := 54) (by decide +kernel), List.mem_of_getElem? (i := 602) (by decide +kernel), List.mem_of_getElem? (i := 603) (by decide +kernel)⟩
theorem lw_p40 : lw_okq (⟨"VersionedTables$Program", "push", "(I)V"⟩, 4) := ⟨⟨by decide +kernel, by decide +kernel⟩, List.mem_of_getElem? (i := 54) (by decide +kernel), List.mem_of_getElem? (i := 631) (by decide +kernel), List.mem_of_getElem? (i := 632) (by decide +kernel)⟩
theorem lw_p41 : lw_okq (⟨"VersionedTables$RowSet", "add", "(I[I)V"⟩, 3) := ⟨⟨by decide +kernel, by decide +kernel⟩, List.mem_of_getElem? (i := 75) (by decide +kernel), List.mem_of_getElem? (i := 635) (by decide +kernel), List.mem_of_getElem? (i := 636) (by decide +kernel)⟩
theorem lw_p42 : lw_okq (⟨"VersionedTables$Table", "markRead", "(I)V"⟩, 4) := ⟨⟨by decide +kernel, by decide +kernel⟩, List.mem_of_getElem? (i := 188) (by decide +kernel), List.mem_of_getElem? (i := 640) (by decide +kernel), List.mem_of_getElem? (i := 641) (by decide +kernel)⟩
theorem lw_p43 : lw_okq (⟨"VersionedTables", "refuseSettingsBeyond", "(I)V"⟩, 10) := ⟨⟨by decide +kernel, by decide +kernel⟩, List.mem_of_getElem? (i := 24) (by decide +kernel), List.mem_of_getElem? (i := 655) (by decide +kernel), List.mem_of_getElem? (i := 656) (by decide +kernel)⟩
theorem lw_p44 : lw_okq (⟨"VersionedTables", "workOutSettings", "()V"⟩, 10) := ⟨⟨by decide +kernel, by decide +kernel⟩, List.mem_of_getElem? (i := 24) (by decide +kernel), List.mem_of_getElem? (i := 660) (by decide +kernel), List.mem_of_getElem? (i := 661) (by decide +kernel)⟩
theorem lw_p45 : lw_okq (⟨"VersionedTables", "write", "(ILVersionedTables$Table;Z)V"⟩, 10) := ⟨⟨by decide +kernel, by decide +kernel⟩, List.mem_of_getElem? (i := 24) (by decide +kernel), List.mem_of_getElem? (i := 666) (by decide +kernel), List.mem_of_getElem? (i := 667) (by decide +kernel)⟩
theorem lw_p46 : lw_okq (⟨"VersionedTables", "isTooLate", "(ILVersionedTables$Table;)Z"⟩, 10) := ⟨⟨by decide +kernel, by decide +kernel⟩, List.mem_of_getElem? (i := 24) (by decide +kernel), List.mem_of_getElem? (i := 670) (by decide +kernel), List.mem_of_getElem? (i := 671) (by decide +kernel)⟩
theorem lw_p47 : lw_okq (⟨"VersionedTables", "mustBeColumn", "(I)V"⟩, 10) := ⟨⟨by decide +kernel, by decide +kernel⟩, List.mem_of_getElem? (i := 24) (by decide +kernel), List.mem_of_getElem? (i := 691) (by decide +kernel), List.mem_of_getElem? (i := 692) (by decide +kernel)⟩
def lw_privs_3 : List (MethodName × Nat) := [(⟨"VersionedTables$Row", "write", "(I[IZ)V"⟩, 1), (⟨"VersionedTables$Version", "put", "([IZ)V"⟩, 4), (⟨"VersionedTables", "choose", "(ILVersionedTables$Table;)V"⟩, 10), (⟨"VersionedTables$Row", "holding", "(I)LVersionedTables$Version;"⟩, 1), (⟨"VersionedTables$Program", "holds", "([I)Z"⟩, 4), (⟨"VersionedTables$Program", "work", "([I)I"⟩, 4), (⟨"VersionedTables$Program", "workStep", "(I[I)I"⟩, 4), (⟨"VersionedTables$Program", "pop", "()I"⟩, 4), (⟨"VersionedTables$Program", "push", "(I)V"⟩, 4), (⟨"VersionedTables$RowSet", "add", "(I[I)V"⟩, 3), (⟨"VersionedTables$Table", "markRead", "(I)V"⟩, 4), (⟨"VersionedTables", "refuseSettingsBeyond", "(I)V"⟩, 10), (⟨"VersionedTables", "workOutSettings", "()V"⟩, 10), (⟨"VersionedTables", "write", "(ILVersionedTables$Table;Z)V"⟩, 10), (⟨"VersionedTables", "isTooLate", "(ILVersionedTables$Table;)Z"⟩, 10), (⟨"VersionedTables", "mustBeColumn", "(I)V"⟩, 10)]
theorem lw_r3 : ∀ q ∈ lw_privs_3, lw_okq q := List.forall_mem_cons.mpr ⟨lw_p32, List.forall_mem_cons.mpr ⟨lw_p33, List.forall_mem_cons.mpr ⟨lw_p34, List.forall_mem_cons.mpr ⟨lw_p35, List.forall_mem_cons.mpr ⟨lw_p36, List.forall_mem_cons.mpr ⟨lw_p37, List.forall_mem_cons.mpr ⟨lw_p38, List.forall_mem_cons.mpr ⟨lw_p39, List.forall_mem_cons.mpr ⟨lw_p40, List.forall_mem_cons.mpr ⟨lw_p41, List.forall_mem_cons.mpr ⟨lw_p42, List.forall_mem_cons.mpr ⟨lw_p43, List.forall_mem_cons.mpr ⟨lw_p44, List.forall_mem_cons.mpr ⟨lw_p45, List.forall_mem_cons.mpr ⟨lw_p46, List.forall_mem_cons.mpr ⟨lw_p47, fun _ h => absurd h List.not_mem_nil⟩⟩⟩⟩⟩⟩⟩⟩⟩⟩⟩⟩⟩⟩⟩⟩
theorem lw_p48 : lw_okq (⟨"VersionedTables$RowSet", "sum", "(I)J"⟩, 3) := ⟨⟨by decide +kernel, by decide +kernel⟩, List.mem_of_getElem? (i := 75) (by decide +kernel), List.mem_of_getElem? (i := 721) (by decide +kernel), List.mem_of_getElem? (i := 722) (by decide +kernel)⟩
theorem lw_p49 : lw_okq (⟨"VersionedTablesModel", "fail", "(I)I"⟩, 29) := ⟨⟨by decide +kernel, by decide +kernel⟩, List.mem_of_getElem? (i := 734) (by decide +kernel), List.mem_of_getElem? (i := 844) (by decide +kernel), List.mem_of_getElem? (i := 845) (by decide +kernel)⟩
theorem lw_p50 : lw_okq (⟨"VersionedTablesModel", "closed", "(I)Z"⟩, 29) := ⟨⟨by decide +kernel, by decide +kernel⟩, List.mem_of_getElem? (i := 734) (by decide +kernel), List.mem_of_getElem? (i := 852) (by decide +kernel), List.mem_of_getElem? (i := 853) (by decide +kernel)⟩
theorem lw_p51 : lw_okq (⟨"VersionedTablesModel", "breakUp", "(I)I"⟩, 29) := ⟨⟨by decide +kernel, by decide +kernel⟩, List.mem_of_getElem? (i := 734) (by decide +kernel), List.mem_of_getElem? (i := 860) (by decide +kernel), List.mem_of_getElem? (i := 861) (by decide +kernel)⟩
theorem lw_p52 : lw_okq (⟨"VersionedTablesModel", "read", "(Z)Z"⟩, 29) := ⟨⟨by decide +kernel, by decide +kernel⟩, List.mem_of_getElem? (i := 734) (by decide +kernel), List.mem_of_getElem? (i := 872) (by decide +kernel), List.mem_of_getElem? (i := 873) (by decide +kernel)⟩
theorem lw_p53 : lw_okq (⟨"VersionedTablesModel", "settingText", "()Z"⟩, 29) := ⟨⟨by decide +kernel, by decide +kernel⟩, List.mem_of_getElem? (i := 734) (by decide +kernel), List.mem_of_getElem? (i := 876) (by decide +kernel), List.mem_of_getElem? (i := 877) (by decide +kernel)⟩
theorem lw_p54 : lw_okq (⟨"VersionedTablesModel", "term", "()Z"⟩, 29) := ⟨⟨by decide +kernel, by decide +kernel⟩, List.mem_of_getElem? (i := 734) (by decide +kernel), List.mem_of_getElem? (i := 880) (by decide +kernel), List.mem_of_getElem? (i := 881) (by decide +kernel)⟩
theorem lw_p55 : lw_okq (⟨"VersionedTablesModel", "item", "()Z"⟩, 29) := ⟨⟨by decide +kernel, by decide +kernel⟩, List.mem_of_getElem? (i := 734) (by decide +kernel), List.mem_of_getElem? (i := 884) (by decide +kernel), List.mem_of_getElem? (i := 885) (by decide +kernel)⟩
theorem lw_p56 : lw_okq (⟨"VersionedTablesModel", "add", "(I)V"⟩, 29) := ⟨⟨by decide +kernel, by decide +kernel⟩, List.mem_of_getElem? (i := 734) (by decide +kernel), List.mem_of_getElem? (i := 888) (by decide +kernel), List.mem_of_getElem? (i := 889) (by decide +kernel)⟩
theorem lw_p57 : lw_okq (⟨"VersionedTablesModel", "condition", "()Z"⟩, 29) := ⟨⟨by decide +kernel, by decide +kernel⟩, List.mem_of_getElem? (i := 734) (by decide +kernel), List.mem_of_getElem? (i := 895) (by decide +kernel), List.mem_of_getElem? (i := 896) (by decide +kernel)⟩
theorem lw_p58 : lw_okq (⟨"VersionedTablesModel", "part", "()Z"⟩, 29) := ⟨⟨by decide +kernel, by decide +kernel⟩, List.mem_of_getElem? (i := 734) (by decide +kernel), List.mem_of_getElem? (i := 899) (by decide +kernel), List.mem_of_getElem? (i := 900) (by decide +kernel)⟩
theorem lw_p59 : lw_okq (⟨"VersionedTablesModel", "push", "(I)V"⟩, 29) := ⟨⟨by decide +kernel, by decide +kernel⟩, List.mem_of_getElem? (i := 734) (by decide +kernel), List.mem_of_getElem? (i := 903) (by decide +kernel), List.mem_of_getElem? (i := 904) (by decide +kernel)⟩
theorem lw_p60 : lw_okq (⟨"VersionedTablesModel", "comparison", "()Z"⟩, 29) := ⟨⟨by decide +kernel, by decide +kernel⟩, List.mem_of_getElem? (i := 734) (by decide +kernel), List.mem_of_getElem? (i := 907) (by decide +kernel), List.mem_of_getElem? (i := 908) (by decide +kernel)⟩
theorem lw_p61 : lw_okq (⟨"VersionedTablesModel", "endPart", "()V"⟩, 29) := ⟨⟨by decide +kernel, by decide +kernel⟩, List.mem_of_getElem? (i := 734) (by decide +kernel), List.mem_of_getElem? (i := 911) (by decide +kernel), List.mem_of_getElem? (i := 912) (by decide +kernel)⟩
theorem lw_p62 : lw_okq (⟨"VersionedTablesModel", "keep", "(I)V"⟩, 29) := ⟨⟨by decide +kernel, by decide +kernel⟩, List.mem_of_getElem? (i := 734) (by decide +kernel), List.mem_of_getElem? (i := 915) (by decide +kernel), List.mem_of_getElem? (i := 916) (by decide +kernel)⟩
theorem lw_p63 : lw_okq (⟨"VersionedTablesModel", "settings", "()I"⟩, 29) := ⟨⟨by decide +kernel, by decide +kernel⟩, List.mem_of_getElem? (i := 734) (by decide +kernel), List.mem_of_getElem? (i := 923) (by decide +kernel), List.mem_of_getElem? (i := 924) (by decide +kernel)⟩
def lw_privs_4 : List (MethodName × Nat) := [(⟨"VersionedTables$RowSet", "sum", "(I)J"⟩, 3), (⟨"VersionedTablesModel", "fail", "(I)I"⟩, 29), (⟨"VersionedTablesModel", "closed", "(I)Z"⟩, 29), (⟨"VersionedTablesModel", "breakUp", "(I)I"⟩, 29), (⟨"VersionedTablesModel", "read", "(Z)Z"⟩, 29), (⟨"VersionedTablesModel", "settingText", "()Z"⟩, 29), (⟨"VersionedTablesModel", "term", "()Z"⟩, 29), (⟨"VersionedTablesModel", "item", "()Z"⟩, 29), (⟨"VersionedTablesModel", "add", "(I)V"⟩, 29), (⟨"VersionedTablesModel", "condition", "()Z"⟩, 29), (⟨"VersionedTablesModel", "part", "()Z"⟩, 29), (⟨"VersionedTablesModel", "push", "(I)V"⟩, 29), (⟨"VersionedTablesModel", "comparison", "()Z"⟩, 29), (⟨"VersionedTablesModel", "endPart", "()V"⟩, 29), (⟨"VersionedTablesModel", "keep", "(I)V"⟩, 29), (⟨"VersionedTablesModel", "settings", "()I"⟩, 29)]
theorem lw_r4 : ∀ q ∈ lw_privs_4, lw_okq q := List.forall_mem_cons.mpr ⟨lw_p48, List.forall_mem_cons.mpr ⟨lw_p49, List.forall_mem_cons.mpr ⟨lw_p50, List.forall_mem_cons.mpr ⟨lw_p51, List.forall_mem_cons.mpr ⟨lw_p52, List.forall_mem_cons.mpr ⟨lw_p53, List.forall_mem_cons.mpr ⟨lw_p54, List.forall_mem_cons.mpr ⟨lw_p55, List.forall_mem_cons.mpr ⟨lw_p56, List.forall_mem_cons.mpr ⟨lw_p57, List.forall_mem_cons.mpr ⟨lw_p58, List.forall_mem_cons.mpr ⟨lw_p59, List.forall_mem_cons.mpr ⟨lw_p60, List.forall_mem_cons.mpr ⟨lw_p61, List.forall_mem_cons.mpr ⟨lw_p62, List.forall_mem_cons.mpr ⟨lw_p63, fun _ h => absurd h List.not_mem_nil⟩⟩⟩⟩⟩⟩⟩⟩⟩⟩⟩⟩⟩⟩⟩⟩
theorem lw_p64 : lw_okq (⟨"VersionedTablesModel", "noTable", "(I)Z"⟩, 29) := ⟨⟨by decide +kernel, by decide +kernel⟩, List.mem_of_getElem? (i := 734) (by decide +kernel), List.mem_of_getElem? (i := 939) (by decide +kernel), List.mem_of_getElem? (i := 940) (by decide +kernel)⟩
theorem lw_p65 : lw_okq (⟨"VersionedTablesModel", "look", "(II)I"⟩, 29) := ⟨⟨by decide +kernel, by decide +kernel⟩, List.mem_of_getElem? (i := 734) (by decide +kernel), List.mem_of_getElem? (i := 943) (by decide +kernel), List.mem_of_getElem? (i := 944) (by decide +kernel)⟩
theorem lw_p66 : lw_okq (⟨"VersionedTablesModel", "held", "(III)I"⟩, 29) := ⟨⟨by decide +kernel, by decide +kernel⟩, List.mem_of_getElem? (i := 734) (by decide +kernel), List.mem_of_getElem? (i := 947) (by decide +kernel), List.mem_of_getElem? (i := 948) (by decide +kernel)⟩
theorem lw_p67 : lw_okq (⟨"VersionedTablesModel", "worked", "(II)I"⟩, 29) := ⟨⟨by decide +kernel, by decide +kernel⟩, List.mem_of_getElem? (i := 734) (by decide +kernel), List.mem_of_getElem? (i := 954) (by decide +kernel), List.mem_of_getElem? (i := 955) (by decide +kernel)⟩
theorem lw_p68 : lw_okq (⟨"VersionedTablesModel", "done", "(III)I"⟩, 29) := ⟨⟨by decide +kernel, by decide +kernel⟩, List.mem_of_getElem? (i := 734) (by decide +kernel), List.mem_of_getElem? (i := 958) (by decide +kernel), List.mem_of_getElem? (i := 959) (by decide +kernel)⟩
theorem lw_p69 : lw_okq (⟨"VersionedTablesModel", "mark", "(II)V"⟩, 29) := ⟨⟨by decide +kernel, by decide +kernel⟩, List.mem_of_getElem? (i := 734) (by decide +kernel), List.mem_of_getElem? (i := 962) (by decide +kernel), List.mem_of_getElem? (i := 963) (by decide +kernel)⟩
theorem lw_p70 : lw_okq (⟨"VersionedTablesModel", "workSettings", "(I)Z"⟩, 29) := ⟨⟨by decide +kernel, by decide +kernel⟩, List.mem_of_getElem? (i := 734) (by decide +kernel), List.mem_of_getElem? (i := 970) (by decide +kernel), List.mem_of_getElem? (i := 971) (by decide +kernel)⟩
theorem lw_p71 : lw_okq (⟨"VersionedTablesModel", "writeAll", "(IIZI)I"⟩, 29) := ⟨⟨by decide +kernel, by decide +kernel⟩, List.mem_of_getElem? (i := 734) (by decide +kernel), List.mem_of_getElem? (i := 974) (by decide +kernel), List.mem_of_getElem? (i := 975) (by decide +kernel)⟩
theorem lw_p72 : lw_okq (⟨"VersionedTablesModel", "tooLate", "(II)Z"⟩, 29) := ⟨⟨by decide +kernel, by decide +kernel⟩, List.mem_of_getElem? (i := 734) (by decide +kernel), List.mem_of_getElem? (i := 978) (by decide +kernel), List.mem_of_getElem? (i := 979) (by decide +kernel)⟩
theorem lw_p73 : lw_okq (⟨"VersionedTablesModel", "broken", "(II)I"⟩, 29) := ⟨⟨by decide +kernel, by decide +kernel⟩, List.mem_of_getElem? (i := 734) (by decide +kernel), List.mem_of_getElem? (i := 982) (by decide +kernel), List.mem_of_getElem? (i := 983) (by decide +kernel)⟩
theorem lw_p74 : lw_okq (⟨"VersionedTablesModel", "write", "(IIIZ)V"⟩, 29) := ⟨⟨by decide +kernel, by decide +kernel⟩, List.mem_of_getElem? (i := 734) (by decide +kernel), List.mem_of_getElem? (i := 986) (by decide +kernel), List.mem_of_getElem? (i := 987) (by decide +kernel)⟩
theorem lw_p75 : lw_okq (⟨"VersionedTablesModel", "versionsOf", "(I)I"⟩, 29) := ⟨⟨by decide +kernel, by decide +kernel⟩, List.mem_of_getElem? (i := 734) (by decide +kernel), List.mem_of_getElem? (i := 1014) (by decide +kernel), List.mem_of_getElem? (i := 1015) (by decide +kernel)⟩
theorem lw_p76 : lw_okq (⟨"VersionedTablesModel", "inState", "(I)I"⟩, 29) := ⟨⟨by decide +kernel, by decide +kernel⟩, List.mem_of_getElem? (i := 734) (by decide +kernel), List.mem_of_getElem? (i := 1022) (by decide +kernel), List.mem_of_getElem? (i := 1023) (by decide +kernel)⟩
def lw_privs_5 : List (MethodName × Nat) := [(⟨"VersionedTablesModel", "noTable", "(I)Z"⟩, 29), (⟨"VersionedTablesModel", "look", "(II)I"⟩, 29), (⟨"VersionedTablesModel", "held", "(III)I"⟩, 29), (⟨"VersionedTablesModel", "worked", "(II)I"⟩, 29), (⟨"VersionedTablesModel", "done", "(III)I"⟩, 29), (⟨"VersionedTablesModel", "mark", "(II)V"⟩, 29), (⟨"VersionedTablesModel", "workSettings", "(I)Z"⟩, 29), (⟨"VersionedTablesModel", "writeAll", "(IIZI)I"⟩, 29), (⟨"VersionedTablesModel", "tooLate", "(II)Z"⟩, 29), (⟨"VersionedTablesModel", "broken", "(II)I"⟩, 29), (⟨"VersionedTablesModel", "write", "(IIIZ)V"⟩, 29), (⟨"VersionedTablesModel", "versionsOf", "(I)I"⟩, 29), (⟨"VersionedTablesModel", "inState", "(I)I"⟩, 29)]
theorem lw_r5 : ∀ q ∈ lw_privs_5, lw_okq q := List.forall_mem_cons.mpr ⟨lw_p64, List.forall_mem_cons.mpr ⟨lw_p65, List.forall_mem_cons.mpr ⟨lw_p66, List.forall_mem_cons.mpr ⟨lw_p67, List.forall_mem_cons.mpr ⟨lw_p68, List.forall_mem_cons.mpr ⟨lw_p69, List.forall_mem_cons.mpr ⟨lw_p70, List.forall_mem_cons.mpr ⟨lw_p71, List.forall_mem_cons.mpr ⟨lw_p72, List.forall_mem_cons.mpr ⟨lw_p73, List.forall_mem_cons.mpr ⟨lw_p74, List.forall_mem_cons.mpr ⟨lw_p75, List.forall_mem_cons.mpr ⟨lw_p76, fun _ h => absurd h List.not_mem_nil⟩⟩⟩⟩⟩⟩⟩⟩⟩⟩⟩⟩⟩
def lw_privs : List (MethodName × Nat) := lw_privs_1 ++ (lw_privs_2 ++ (lw_privs_3 ++ (lw_privs_4 ++ (lw_privs_5))))
def lw_tbl : List Cond := k2_sels lw_privs ++ tables_1
theorem lw_privs_ok : ∀ q ∈ lw_privs, lw_okq q := by
  show ∀ q ∈ lw_privs_1 ++ (lw_privs_2 ++ (lw_privs_3 ++ (lw_privs_4 ++ (lw_privs_5)))), lw_okq q
  exact List.forall_mem_append.mpr ⟨lw_r1, List.forall_mem_append.mpr ⟨lw_r2, List.forall_mem_append.mpr ⟨lw_r3, List.forall_mem_append.mpr ⟨lw_r4, lw_r5⟩⟩⟩⟩
end
section
/-! ===== this claim's classes, array types, words ===== -/
def kR_V : String := "VersionedTables"
def kF_V : u_T := fun k => match k with
  | 0 => ("VersionedTables", "tables", "[LVersionedTables$Table;", true)
  | 1 => ("VersionedTables", "transactions", "LVersionedTables$Transactions;", true)
  | 2 => ("VersionedTables", "line", "[I", true)
  | 3 => ("VersionedTables", "lineLength", "I", false)
  | 4 => ("VersionedTables", "refusedAt", "I", false)
  | 5 => ("VersionedTables", "condition", "LVersionedTables$Program;", false)
  | 6 => ("VersionedTables", "settings", "[LVersionedTables$Program;", true)
  | 7 => ("VersionedTables", "found", "LVersionedTables$RowSet;", false)
  | 8 => ("VersionedTables", "chosen", "LVersionedTables$RowSet;", false)
  | _ => ("VersionedTables", "oldValues", "[I", true)
def kT_V : Nat → FieldType := fun k => match k with
  | 0 => (.array (.object "VersionedTables$Table"))
  | 1 => (.object "VersionedTables$Transactions")
  | 2 => (.array .int)
  | 3 => .int
  | 4 => .int
  | 5 => (.object "VersionedTables$Program")
  | 6 => (.array (.object "VersionedTables$Program"))
  | 7 => (.object "VersionedTables$RowSet")
  | 8 => (.object "VersionedTables$RowSet")
  | _ => (.array .int)
def kR_T : String := "VersionedTables$Transactions"
def kF_T : u_T := fun k => match k with
  | 0 => ("VersionedTables$Transactions", "states", "[LVersionedTables$State;", true)
  | 1 => ("VersionedTables$Transactions", "begun", "I", false)
  | _ => ("VersionedTables$Transactions", "brokenTooLate", "I", false)
def kT_T : Nat → FieldType := fun k => match k with
  | 0 => (.array (.object "VersionedTables$State"))
  | 1 => .int
  | _ => .int
def kR_P : String := "VersionedTables$Program"
def kF_P : u_T := fun k => match k with
  | 0 => ("VersionedTables$Program", "steps", "[I", true)
  | 1 => ("VersionedTables$Program", "stack", "[I", true)
  | 2 => ("VersionedTables$Program", "size", "I", false)
  | _ => ("VersionedTables$Program", "height", "I", false)
def kT_P : Nat → FieldType := fun k => match k with
  | 0 => (.array .int)
  | 1 => (.array .int)
  | 2 => .int
  | _ => .int
def kR_S : String := "VersionedTables$RowSet"
def kF_S : u_T := fun k => match k with
  | 0 => ("VersionedTables$RowSet", "numbers", "[I", true)
  | 1 => ("VersionedTables$RowSet", "values", "[[I", true)
  | _ => ("VersionedTables$RowSet", "size", "I", false)
def kT_S : Nat → FieldType := fun k => match k with
  | 0 => (.array .int)
  | 1 => (.array (.array .int))
  | _ => .int
def kR_B : String := "VersionedTables$Table"
def kF_B : u_T := fun k => match k with
  | 0 => ("VersionedTables$Table", "columns", "I", true)
  | 1 => ("VersionedTables$Table", "rows", "[LVersionedTables$Row;", true)
  | 2 => ("VersionedTables$Table", "made", "I", false)
  | _ => ("VersionedTables$Table", "scanned", "I", false)
def kT_B : Nat → FieldType := fun k => match k with
  | 0 => .int
  | 1 => (.array (.object "VersionedTables$Row"))
  | 2 => .int
  | _ => .int
def kR_R : String := "VersionedTables$Row"
def kF_R : u_T := fun k => match k with
  | _ => ("VersionedTables$Row", "byWriter", "[LVersionedTables$Version;", true)
def kT_R : Nat → FieldType := fun k => match k with
  | _ => (.array (.object "VersionedTables$Version"))
def kR_Q : String := "VersionedTables$Parser"
def kF_Q : u_T := fun k => match k with
  | 0 => ("VersionedTables$Parser", "text", "[I", true)
  | 1 => ("VersionedTables$Parser", "length", "I", true)
  | 2 => ("VersionedTables$Parser", "program", "LVersionedTables$Program;", true)
  | 3 => ("VersionedTables$Parser", "at", "I", false)
  | _ => ("VersionedTables$Parser", "column", "I", false)
def kT_Q : Nat → FieldType := fun k => match k with
  | 0 => (.array .int)
  | 1 => .int
  | 2 => (.object "VersionedTables$Program")
  | 3 => .int
  | _ => .int
def kR_N : String := "VersionedTables$Version"
def kF_N : u_T := fun k => match k with
  | 0 => ("VersionedTables$Version", "writer", "I", true)
  | 1 => ("VersionedTables$Version", "values", "[I", true)
  | 2 => ("VersionedTables$Version", "read", "I", false)
  | _ => ("VersionedTables$Version", "gone", "Z", false)
def kT_N : Nat → FieldType := fun k => match k with
  | 0 => .int
  | 1 => (.array .int)
  | 2 => .int
  | _ => .boolean
def kR_M : String := "VersionedTablesModel"
def kF_M : u_T := fun k => match k with
  | 0 => ("VersionedTablesModel", "thrown", "I", false)
  | 1 => ("VersionedTablesModel", "columns", "[I", true)
  | 2 => ("VersionedTablesModel", "rows", "[I", true)
  | 3 => ("VersionedTablesModel", "scanned", "[I", true)
  | 4 => ("VersionedTablesModel", "version", "[I", true)
  | 5 => ("VersionedTablesModel", "values", "[I", true)
  | 6 => ("VersionedTablesModel", "state", "[I", true)
  | 7 => ("VersionedTablesModel", "begun", "I", false)
  | 8 => ("VersionedTablesModel", "late", "I", false)
  | 9 => ("VersionedTablesModel", "line", "[I", true)
  | 10 => ("VersionedTablesModel", "length", "I", false)
  | 11 => ("VersionedTablesModel", "errorAt", "I", false)
  | 12 => ("VersionedTablesModel", "items", "[I", true)
  | 13 => ("VersionedTablesModel", "sizes", "[I", true)
  | 14 => ("VersionedTablesModel", "isSet", "[Z", true)
  | 15 => ("VersionedTablesModel", "opens", "[I", true)
  | 16 => ("VersionedTablesModel", "stack", "[I", true)
  | 17 => ("VersionedTablesModel", "open", "I", false)
  | 18 => ("VersionedTablesModel", "at", "I", false)
  | 19 => ("VersionedTablesModel", "made", "I", false)
  | 20 => ("VersionedTablesModel", "signs", "I", false)
  | 21 => ("VersionedTablesModel", "waiting", "[I", true)
  | 22 => ("VersionedTablesModel", "divided", "Z", false)
  | 23 => ("VersionedTablesModel", "resultRow", "[I", true)
  | 24 => ("VersionedTablesModel", "resultValues", "[I", true)
  | 25 => ("VersionedTablesModel", "results", "I", false)
  | 26 => ("VersionedTablesModel", "holds", "[I", true)
  | 27 => ("VersionedTablesModel", "news", "[I", true)
  | _ => ("VersionedTablesModel", "matches", "[Z", true)
def kT_M : Nat → FieldType := fun k => match k with
  | 0 => .int
  | 1 => (.array .int)
  | 2 => (.array .int)
  | 3 => (.array .int)
  | 4 => (.array .int)
  | 5 => (.array .int)
  | 6 => (.array .int)
  | 7 => .int
  | 8 => .int
  | 9 => (.array .int)
  | 10 => .int
  | 11 => .int
  | 12 => (.array .int)
  | 13 => (.array .int)
  | 14 => (.array .boolean)
  | 15 => (.array .int)
  | 16 => (.array .int)
  | 17 => .int
  | 18 => .int
  | 19 => .int
  | 20 => .int
  | 21 => (.array .int)
  | 22 => .boolean
  | 23 => (.array .int)
  | 24 => (.array .int)
  | 25 => .int
  | 26 => (.array .int)
  | 27 => (.array .int)
  | _ => (.array .boolean)
def kF_E : u_T := fun _ => ("", "", "", false)
abbrev kx_cl : List vw_C := [(kR_V, kF_V, 10), (kR_T, kF_T, 3), (kR_P, kF_P, 4), (kR_S, kF_S, 3), (kR_B, kF_B, 4), (kR_R, kF_R, 1), (kR_Q, kF_Q, 5), (kR_N, kF_N, 4), (kR_M, kF_M, 29), ("java/lang/IllegalArgumentException", kF_E, 0), ("java/lang/IllegalStateException", kF_E, 0), ("java/util/NoSuchElementException", kF_E, 0), ("java/lang/UnsupportedOperationException", kF_E, 0), ("java/lang/ArithmeticException", kF_E, 0), ("java/lang/IndexOutOfBoundsException", kF_E, 0)]
abbrev kx_at : List FieldType := [.int, (.object "VersionedTables$Table"), (.object "VersionedTables$State"), (.object "VersionedTables$Program"), (.object "VersionedTables$Row"), (.object "VersionedTables$Version"), (.array .int), .boolean, .long, .double]
def kx_nc : List Cond := [.not (.castable "java/lang/IllegalStateException" "java/lang/IllegalArgumentException"), .not (.castable "java/util/NoSuchElementException" "java/lang/IllegalArgumentException"), .not (.castable "java/lang/UnsupportedOperationException" "java/lang/IllegalArgumentException"), .not (.castable "java/lang/ArithmeticException" "java/lang/IllegalArgumentException"), .not (.castable "java/lang/IndexOutOfBoundsException" "java/lang/IllegalArgumentException"), .not (.castable "java/lang/IllegalArgumentException" "java/lang/IllegalStateException"), .not (.castable "java/util/NoSuchElementException" "java/lang/IllegalStateException"), .not (.castable "java/lang/UnsupportedOperationException" "java/lang/IllegalStateException"), .not (.castable "java/lang/ArithmeticException" "java/lang/IllegalStateException"), .not (.castable "java/lang/IndexOutOfBoundsException" "java/lang/IllegalStateException"), .not (.castable "java/lang/IllegalArgumentException" "java/util/NoSuchElementException"), .not (.castable "java/lang/IllegalStateException" "java/util/NoSuchElementException"), .not (.castable "java/lang/UnsupportedOperationException" "java/util/NoSuchElementException"), .not (.castable "java/lang/ArithmeticException" "java/util/NoSuchElementException"), .not (.castable "java/lang/IndexOutOfBoundsException" "java/util/NoSuchElementException"), .not (.castable "java/lang/IllegalArgumentException" "java/lang/UnsupportedOperationException"), .not (.castable "java/lang/IllegalStateException" "java/lang/UnsupportedOperationException"), .not (.castable "java/util/NoSuchElementException" "java/lang/UnsupportedOperationException"), .not (.castable "java/lang/ArithmeticException" "java/lang/UnsupportedOperationException"), .not (.castable "java/lang/IndexOutOfBoundsException" "java/lang/UnsupportedOperationException"), .not (.castable "java/lang/IllegalArgumentException" "java/lang/ArithmeticException"), .not (.castable "java/lang/IllegalStateException" "java/lang/ArithmeticException"), .not (.castable "java/util/NoSuchElementException" "java/lang/ArithmeticException"), .not (.castable "java/lang/UnsupportedOperationException" "java/lang/ArithmeticException"), .not (.castable "java/lang/IndexOutOfBoundsException" "java/lang/ArithmeticException"), .not (.castable "java/lang/IllegalArgumentException" "java/lang/IndexOutOfBoundsException"), .not (.castable "java/lang/IllegalStateException" "java/lang/IndexOutOfBoundsException"), .not (.castable "java/util/NoSuchElementException" "java/lang/IndexOutOfBoundsException"), .not (.castable "java/lang/UnsupportedOperationException" "java/lang/IndexOutOfBoundsException"), .not (.castable "java/lang/ArithmeticException" "java/lang/IndexOutOfBoundsException")]
def kx_tb : List Cond := lw_tbl ++ kx_nc
end
section
/-! ===== what is known of the machine's tables, and stays known ===== -/
def kx_okw (w : Cond) : Bool := (w.onTables && w.keeps) || (match w with
  | .arrayClass _ => true
  | .fieldLinkNest _ _ _ _ _ _ => true
  | .methodLinkNest _ _ _ _ => true
  | .castable _ _ => true
  | .declares _ => true
  | .stringRef _ _ _ => true
  | .arrayOver (.object _) => true
  | .arrayOver (.array _) => true
  | .not (.castable _ _) => true
  | _ => false)
theorem kx_wm {w : Cond} (hk : kx_okw w = true) {A A' : Array Value} {s U : State} (hW : s.WarmedH U.vm) (h : w.before A s = true) : w.before A' U = true := by
  by_cases hb : (w.onTables && w.keeps) = true
  · exact word_at hW (Or.inl hb) h
  · unfold kx_okw at hk
    rw [Bool.or_eq_true] at hk
    rcases hk with hk | hk
    · exact absurd hk hb
    · split at hk
      · exact word_at hW (Or.inr ⟨_, rfl⟩) h
      · exact va_Nw.use rfl (va_Nw.warmF hW (va_Nw.of rfl h))
      · exact va_Nw.use rfl (va_Nw.warmM hW (va_Nw.of rfl h))
      · exact va_Nw.use rfl (va_Nw.warmC hW (va_Nw.of rfl h))
      · exact va_Nw.use rfl (va_Nw.warmD hW (va_Nw.of rfl h))
      · have h9 := Cond.stringRef_warmed hW h
        first
          | exact va_tabs rfl (rfl : (s.setVm U.vm).vm = U.vm) h9
          | (simp only [Cond.before, Cond.holds, Cond.value, State.names, State.poolOf?, State.resolvedAt?] at h9 ⊢; exact h9)
      · exact va_AO.use (va_AO.moved hW.alike (va_AO.of h))
      · exact over_moved hW.alike h
      · obtain ⟨c, t, h1, h2, h3⟩ := va_Nc.moved hW.alike (va_Nc.of h)
        simp [Cond.before, Cond.holds, Cond.value, h1, h2, h3]
      · cases hk
def kx_LS (C n d : String) (A : Nat → Prop) (U : State) (H : Heap) : Prop := ∃ (c : ClassId) (k : Class) (i : Nat) (f : Field) (a : Nat) (cell : Cell), U.vm.findClass C = some c ∧ U.fieldFound? C n d = some (c, k, i, f) ∧ f.isStatic = true ∧ k.statics = some a ∧ H[a]? = some cell ∧ cell.vm.isStatics = true ∧ cell.cls = c ∧ f.slot < cell.slots.size ∧ k.staticTypes[f.slot]? = some f.type ∧ ¬ A a
theorem kx_LS.moved {C n d : String} {A : Nat → Prop} {u U : State} {H H1 : Heap} (hvm : u.vm.Alike U.vm) (hq : ∀ a : Nat, a < H.size → ¬ A a → H1[a]? = H[a]?) (h : kx_LS C n d A u H) : kx_LS C n d A U H1 := by
  obtain ⟨c, k, i, f, a, cell, h1, h2, h3, h4, h5, h6, h7, h8, h9, h10⟩ := h
  obtain ⟨k', hi', he⟩ := State.fieldFound?_setVm hvm h2
  exact ⟨c, k', i, f, a, cell, by rw [hvm.findClass]; exact h1, hi', h3, by rw [he]; exact h4, by rw [hq a (Array.getElem?_eq_some_iff.mp h5).1 h10]; exact h5, h6, h7, h8, by rw [he]; exact h9, h10⟩
theorem kx_LS.word {C n d : String} {A : Nat → Prop} {s : State} {B : Array Value} (h : kx_LS C n d A s s.heap) : (Cond.laysStatic C n d).before B s = true := by
  obtain ⟨c, k, i, f, a, cell, h1, h2, h3, h4, h5, h6, h7, h8, h9, -⟩ := h
  show (Cond.laysStatic C n d).holds B s none s [] = true
  exact Cond.laysStatic_of h1 h2 h3 h4 h5 h6 h7 h8 h9
theorem kx_LS.of {C n d : String} {A : Nat → Prop} {s : State} {B : Array Value} (h : (Cond.laysStatic C n d).before B s = true) (hA : ∀ a : Nat, a < s.heap.size → ¬ A a) : kx_LS C n d A s s.heap := by
  obtain ⟨c, k, i, f, a, cell, h1, h2, h3, h4, h5, h6, h7, h8, h9⟩ := Cond.laysStatic_spec h
  exact ⟨c, k, i, f, a, cell, h1, h2, h3, h4, h5, h6, h7, h8, h9, hA a (Array.getElem?_eq_some_iff.mp h5).1⟩
theorem kx_Zw {C n d : String} {A : Nat → Prop} {s : State} {B : Array Value} (h : va_Zq C n d A s s.heap) : (Cond.isRef (.static C n d)).before B s = true := by
  have key : ∀ v : Value, v.isRef = true → va_Z C n d v A s s.heap → (Cond.isRef (.static C n d)).before B s = true := by
    intro v hv hz
    obtain ⟨cf, kf, fi, f, a, cell, h1, h2, h3, h4, h5, h6, h7, -⟩ := hz
    have he : (Term.static C n d).eval B s none [] s = some v := by
      simp [Term.eval, State.fieldNamed?, h1, h2, h4, h5, h6, h7]
    simp only [Cond.before, Cond.holds, Cond.value, he]
    cases v <;> simp_all [Value.isRef]
  rcases h with h | ⟨t, h⟩
  · exact key _ rfl h
  · exact key _ rfl h
/-- the words that stay -/
def kx_ws : List Cond := kx_tb.filter kx_okw
theorem kx_by {w : Cond} (n : Nat) (h : kx_tb[n]? = some w) (h2 : kx_okw w = true) : w ∈ kx_ws := List.mem_filter.mpr ⟨List.mem_of_getElem? h, h2⟩
/-- where the walk's heap begins; the classes' numbers and slots; the array classes' numbers; the constants' addresses; the script's address, length, ints -/
abbrev kx_G : Type := Nat × va_G × (Nat → ClassId) × (Nat → Nat) × Nat × Nat × (Nat → Int32)
abbrev kx_En (G : kx_G) (U : State) (H : Heap) : Prop := va_En "VersionedTables$State" "LVersionedTables$State;" ["OPEN", "DONE", "BROKEN"] [] G.2.2.2.1 (fun q => G.1 ≤ q) U H
/-- what stood there before the walk, and is never written -/
def kx_St (G : kx_G) (U : State) (H : Heap) : Prop := kx_En G U H ∧ (va_Zq Bundle.tN "UNASSIGNED_STACK" Bundle.steD (fun q => G.1 ≤ q) U H ∧ kx_LS Bundle.tN "UNASSIGNED_STACK" Bundle.steD (fun q => G.1 ≤ q) U H) ∧ (va_Zq Bundle.tN "SUPPRESSED_SENTINEL" Bundle.listD (fun q => G.1 ≤ q) U H ∧ kx_LS Bundle.tN "SUPPRESSED_SENTINEL" Bundle.listD (fun q => G.1 ≤ q) U H) ∧ va_X G.2.2.2.2.1 G.2.2.2.2.2.1 G.2.2.2.2.2.2 U H ∧ G.2.2.2.2.1 < G.1
def kx_wz : List Cond := [.isRef (.static Bundle.tN "UNASSIGNED_STACK" Bundle.steD), .isRef (.static Bundle.tN "SUPPRESSED_SENTINEL" Bundle.listD), .laysStatic Bundle.tN "UNASSIGNED_STACK" Bundle.steD, .laysStatic Bundle.tN "SUPPRESSED_SENTINEL" Bundle.listD]
def kx_tys (G : kx_G) : List (ClassId × FieldType) := (List.range kx_at.length).map fun t => (G.2.2.1 t, kx_at.getD t .int)
theorem kx_tys_at (G : kx_G) {t : Nat} {ty : FieldType} (h : kx_at[t]? = some ty) : (kx_tys G)[t]? = some (G.2.2.1 t, ty) := by
  have hl : t < kx_at.length := (List.getElem?_eq_some_iff.mp h).1
  have h2 : kx_at.getD t .int = ty := by rw [List.getD_eq_getElem?_getD, h]; rfl
  unfold kx_tys
  rw [List.getElem?_map, List.getElem?_range hl]
  simp only [Option.map_some, h2]
/-- what is known of the machine's tables, and of what stood there before the walk -/
def kx_K (G : kx_G) (U : State) : Prop := va_K G.2.1 kx_cl (kx_tys G) U ∧ (∀ w ∈ kx_ws, ∀ A : Array Value, w.before A U = true) ∧ kx_St G U U.heap
theorem kx_St.moved {G : kx_G} {u U : State} {H H1 : Heap} (hvm : u.vm.Alike U.vm) (hq : ∀ a : Nat, a < H.size → ¬ G.1 ≤ a → H1[a]? = H[a]?) (h : kx_St G u H) : kx_St G U H1 := by
  obtain ⟨h1, ⟨h2, h3⟩, ⟨h4, h5⟩, h6, h7⟩ := h
  refine ⟨(h1.kept hq).moved hvm, ⟨(h2.kept hq).moved hvm, h3.moved hvm hq⟩, ⟨(h4.kept hq).moved hvm, h5.moved hvm hq⟩, ?_, h7⟩
  obtain ⟨scr, g1, g2, g3, g4, g5⟩ := h6
  refine ⟨scr, ?_, State.isArrayOf_alike hvm g2, g3, g4, g5⟩
  rw [hq _ (Array.getElem?_eq_some_iff.mp g1).1 (by omega)]
  exact g1
theorem kx_K.moved {G : kx_G} {s U : State} {H : Heap} {locs : List Loc} (h : kx_K G s) (hW : s.WarmedH U.vm) (hT : U.heap = H) (hS : va_S (fun q => G.1 ≤ q) s.heap H locs) (hb : G.1 ≤ s.heap.size) : kx_K G U := by
  refine ⟨va_K.moved hW.alike h.1, fun w hw A => ?_, ?_⟩
  · exact kx_wm (List.mem_filter.mp hw).2 hW (h.2.1 w hw A)
  · rw [hT]
    exact kx_St.moved hW.alike (fun a h1 h2 => hS.2.1 a h1 h2) h.2.2
theorem kx_K.z {G : kx_G} {U : State} (h : kx_K G U) : ∀ w ∈ kx_wz, ∀ A : Array Value, w.before A U = true := by
  intro w hw A
  obtain ⟨-, ⟨h2, h3⟩, ⟨h4, h5⟩, -⟩ := h.2.2
  simp only [kx_wz, List.mem_cons, List.not_mem_nil, or_false] at hw
  rcases hw with rfl | rfl | rfl | rfl
  · exact kx_Zw h2
  · exact kx_Zw h4
  · exact h3.word
  · exact h5.word
theorem kx_K.calling {G : kx_G} {U : State} {g : JFrame} {mk : MethodId} {a : Array Value} (h : kx_K G U) : kx_K G (U.calling g mk a) := by
  refine ⟨va_K.moved (u := U) (U := U.calling g mk a) (Vm.Alike.refl U.vm) h.1, fun w hw A => kx_wm (List.mem_filter.mp hw).2 (State.WarmedH.refl U) (h.2.1 w hw A), ?_⟩
  exact kx_St.moved (u := U) (U := U.calling g mk a) (H := U.heap) (H1 := U.heap) (Vm.Alike.refl U.vm) (fun _ _ _ => rfl) h.2.2
end
section
/-! ===== THE WALK'S OWN HEAP: what the law and all that it calls have made, cell by cell, and one judgement for a method's walk over it ===== -/
abbrev kx_C : Type := (Nat × vp_A) ⊕ (Nat × List Value)
abbrev kx_H : Type := Nat × (Nat → kx_C)
def kx_cv (G : kx_G) (c : kx_C) : va_E := match c with
  | .inl q => .inl (G.2.2.1 q.1, q.2)
  | .inr o => .inr o
def kx_hp (G : kx_G) (h : kx_H) (H : Heap) : Prop := H.size = h.1 ∧ G.1 ≤ h.1 ∧ ∀ a : Nat, G.1 ≤ a → a < h.1 → va_at G.2.1 kx_cl (a, kx_cv G (h.2 a)) H
def kx_set (h : kx_H) (a : Nat) (c : kx_C) : kx_H := (h.1, va_up h.2 a c)
def kx_new (h : kx_H) (c : kx_C) : kx_H := (h.1 + 1, va_up h.2 h.1 c)
/-- a cell that is there -/
def kx_is (G : kx_G) (h : kx_H) (a : Nat) (c : kx_C) : Prop := G.1 ≤ a ∧ a < h.1 ∧ h.2 a = c
theorem kx_is.ne {G : kx_G} {h : kx_H} {a b : Nat} {c c' : kx_C} (k : kx_is G h b c') (n : b ≠ a) : kx_is G (kx_set h a c) b c' :=
  ⟨k.1, k.2.1, by simp only [kx_set, va_up, if_neg n]; exact k.2.2⟩
theorem kx_is.eq {G : kx_G} {h : kx_H} {a : Nat} {c c' : kx_C} (k : kx_is G h a c') : kx_is G (kx_set h a c) a c :=
  ⟨k.1, k.2.1, by simp [kx_set, va_up]⟩
theorem kx_is.old {G : kx_G} {h : kx_H} {b : Nat} {c c' : kx_C} (k : kx_is G h b c') : kx_is G (kx_new h c) b c' :=
  ⟨k.1, Nat.lt_succ_of_lt k.2.1, by simp only [kx_new, va_up, if_neg (Nat.ne_of_lt k.2.1)]; exact k.2.2⟩
theorem kx_is.fresh {G : kx_G} {h : kx_H} {c : kx_C} (k : G.1 ≤ h.1) : kx_is G (kx_new h c) h.1 c :=
  ⟨k, Nat.lt_succ_self _, by simp [kx_new, va_up]⟩
theorem kx_is.apart {G : kx_G} {h : kx_H} {a b : Nat} {c c' : kx_C} (k : kx_is G h a c) (k' : kx_is G h b c') (n : c ≠ c') : a ≠ b := fun e => n (by rw [← k.2.2, ← k'.2.2, e])
theorem kx_hp.at {G : kx_G} {h : kx_H} {H : Heap} {a : Nat} {c : kx_C} (hh : kx_hp G h H) (k : kx_is G h a c) : va_at G.2.1 kx_cl (a, kx_cv G c) H := by
  have := hh.2.2 a k.1 k.2.1
  rw [k.2.2] at this
  exact this
theorem kx_hp.P {G : kx_G} {h : kx_H} {H : Heap} {a : Nat} {c : kx_C} (hh : kx_hp G h H) (k : kx_is G h a c) : va_P G.2.1 kx_cl [(a, kx_cv G c)] H := by
  intro i q hq
  have hi : i < 1 := (List.getElem?_eq_some_iff.mp hq).1
  have h0 : i = 0 := by omega
  subst h0
  cases hq
  exact hh.at k
theorem kx_hp.set {G : kx_G} {h : kx_H} {H H1 : Heap} {a : Nat} {c : kx_C} (hh : kx_hp G h H) (he : va_at G.2.1 kx_cl (a, kx_cv G c) H1) (z : H1.size = H.size) (oq : ∀ q : Nat, q ≠ a → H1[q]? = H[q]?) : kx_hp G (kx_set h a c) H1 := by
  refine ⟨z.trans hh.1, hh.2.1, fun b hb hl => ?_⟩
  by_cases e : b = a
  · subst e
    simp only [kx_set, va_up, if_true]
    exact he
  · simp only [kx_set, va_up, if_neg e]
    exact (hh.2.2 b hb hl).kept (oq b e)
theorem kx_hp.push {G : kx_G} {h : kx_H} {H H1 : Heap} {c : kx_C} (hh : kx_hp G h H) (he : va_at G.2.1 kx_cl (h.1, kx_cv G c) H1) (z : H1.size = H.size + 1) (oq : ∀ q : Nat, q < H.size → H1[q]? = H[q]?) : kx_hp G (kx_new h c) H1 := by
  have h1 := hh.1
  refine ⟨by simp only [kx_new]; omega, Nat.le_succ_of_le hh.2.1, fun b hb hl => ?_⟩
  simp only [kx_new] at hl
  by_cases e : b = h.1
  · subst e
    simp only [kx_new, va_up, if_true]
    exact he
  · simp only [kx_new, va_up, if_neg e]
    exact (hh.2.2 b hb (by omega)).kept (oq b (by omega))
theorem kx_S.set {G : kx_G} {H0 H H1 : Heap} {locs : List Loc} {a i : Nat} (h : va_S (fun q => G.1 ≤ q) H0 H locs) (z : H1.size = H.size) (oq : ∀ q : Nat, q ≠ a → H1[q]? = H[q]?) (ha : G.1 ≤ a) : va_S (fun q => G.1 ≤ q) H0 H1 (locs ++ [⟨a, i⟩]) := h.put z oq ha
theorem kx_S.push {G : kx_G} {H0 H H1 : Heap} {locs : List Loc} (h : va_S (fun q => G.1 ≤ q) H0 H locs) (z : H1.size = H.size + 1) (oq : ∀ q : Nat, q < H.size → H1[q]? = H[q]?) : va_S (fun q => G.1 ≤ q) H0 H1 locs :=
  ⟨Nat.le_trans h.1 (by omega), fun x h1 h2 => (oq x (Nat.lt_of_lt_of_le h1 h.1)).trans (h.2.1 x h1 h2), h.2.2⟩
end
section
/-! ===== instructions that touch neither the heap nor another method ===== -/
abbrev kx_L : Type := List (Nat × Value)
abbrev kx_O : Type := Option (Nat × kx_L × List Value)
def kx_lk : kx_L → Nat → Option Value
  | [], _ => none
  | q :: r, k => if q.1 = k then some q.2 else kx_lk r k
/-- the locals are kept in the order of their places -/
def kx_ins : kx_L → Nat → Value → kx_L
  | [], i, v => [(i, v)]
  | q :: r, i, v => if i < q.1 then (i, v) :: q :: r else q :: kx_ins r i v
theorem kx_ins_mem : ∀ {lv : kx_L} {i : Nat} {v : Value} {q : Nat × Value}, q ∈ kx_ins lv i v → q ∈ (i, v) :: lv
  | [], i, v, q, h => by simpa [kx_ins] using h
  | z :: r, i, v, q, h => by
    simp only [kx_ins] at h
    by_cases e : i < z.1
    · rw [if_pos e] at h
      exact h
    · rw [if_neg e] at h
      rcases List.mem_cons.mp h with g | g
      · rw [g]; simp
      · rcases List.mem_cons.mp (kx_ins_mem g) with y | y
        · rw [y]; simp
        · exact List.mem_cons_of_mem _ (List.mem_cons_of_mem _ y)
theorem kx_ins_has {ls : Array Slot} {nL i : Nat} {v : Value} {lv : kx_L} (h : lv_has ls nL ((i, v) :: lv)) : lv_has ls nL (kx_ins lv i v) := ⟨h.1, h.2.1, fun q hq => h.2.2 q (kx_ins_mem hq)⟩
def kx_f1 (lv : kx_L) (i : Nat) : kx_L := lv.filter (fun q => !(q.1 == i) && !(q.1 + 1 == i && q.2.category == 2))
def kx_f2 (lv : kx_L) (i : Nat) : kx_L := lv.filter (fun q => !(q.1 == i) && (!(q.1 == i + 1) && !(q.1 + 1 == i && q.2.category == 2)))
def kx_s1 (lv : kx_L) (i : Nat) (v : Value) : kx_L := kx_ins (kx_f1 lv i) i v
def kx_s2 (lv : kx_L) (i : Nat) (v : Value) : kx_L := kx_ins (kx_f2 lv i) i v
theorem kx_lk_has {ls : Array Slot} {nL : Nat} : ∀ {lv : kx_L} {k : Nat} {v : Value}, kx_lk lv k = some v → lv_has ls nL lv → ls[k]? = some (.val v)
  | [], k, v, h, _ => by simp [kx_lk] at h
  | q :: r, k, v, h, hl => by
    simp only [kx_lk] at h
    by_cases e : q.1 = k
    · rw [if_pos e] at h
      cases h
      rw [← e]
      exact hl.2.2 q List.mem_cons_self
    · rw [if_neg e] at h
      exact kx_lk_has h ⟨hl.1, hl.2.1, fun z hz => hl.2.2 z (List.mem_cons_of_mem _ hz)⟩
/-- a constant -/
def kx_pu (len n pc : Nat) (lv : kx_L) (st : List Value) (v : Value) : kx_O := if len = n then some (pc + n, lv, v :: st) else none
theorem kx_pu_inv {len n pc : Nat} {lv : kx_L} {st : List Value} {v : Value} {o} (h : kx_pu len n pc lv st v = some o) : len = n ∧ o = (pc + n, lv, v :: st) := by
  unfold kx_pu at h
  by_cases e : len = n
  · rw [if_pos e] at h; exact ⟨e, (Option.some.inj h).symm⟩
  · rw [if_neg e] at h; cases h
/-- a local is read: of a kind (0 int, 1 reference, 2 long, 3 double) -/
def kx_kd (v : Value) : Nat := match v with
  | .int _ => 0
  | .ref _ => 1
  | .null => 1
  | .long _ => 2
  | .double _ => 3
  | _ => 9
def kx_ld (len n pc : Nat) (lv : kx_L) (st : List Value) (kd k : Nat) : kx_O := match kx_lk lv k with
  | some v => if len = n ∧ kx_kd v = kd then some (pc + n, lv, v :: st) else none
  | none => none
theorem kx_ld_inv {len n pc kd k : Nat} {lv : kx_L} {st : List Value} {o} (h : kx_ld len n pc lv st kd k = some o) : ∃ v, kx_lk lv k = some v ∧ len = n ∧ kx_kd v = kd ∧ o = (pc + n, lv, v :: st) := by
  unfold kx_ld at h
  split at h
  · rename_i v hv
    by_cases e : len = n ∧ kx_kd v = kd
    · rw [if_pos e] at h; exact ⟨v, hv, e.1, e.2, (Option.some.inj h).symm⟩
    · rw [if_neg e] at h; cases h
  · cases h
/-- a local is written -/
def kx_sv (len n pc nL : Nat) (lv : kx_L) (st : List Value) (kd k : Nat) : kx_O := match st with
  | v :: r => if len = n ∧ kx_kd v = kd ∧ k < nL then some (pc + n, kx_s1 lv k v, r) else none
  | [] => none
theorem kx_sv_inv {len n pc nL kd k : Nat} {lv : kx_L} {st : List Value} {o} (h : kx_sv len n pc nL lv st kd k = some o) : ∃ v r, st = v :: r ∧ len = n ∧ kx_kd v = kd ∧ k < nL ∧ o = (pc + n, kx_s1 lv k v, r) := by
  unfold kx_sv at h
  split at h
  · rename_i v r
    by_cases e : len = n ∧ kx_kd v = kd ∧ k < nL
    · rw [if_pos e] at h; exact ⟨v, r, rfl, e.1, e.2.1, e.2.2, (Option.some.inj h).symm⟩
    · rw [if_neg e] at h; cases h
  · cases h
def kx_sw (len n pc nL : Nat) (lv : kx_L) (st : List Value) (kd k : Nat) : kx_O := match st with
  | v :: r => if len = n ∧ kx_kd v = kd ∧ k + 1 < nL then some (pc + n, kx_s2 lv k v, r) else none
  | [] => none
theorem kx_sw_inv {len n pc nL kd k : Nat} {lv : kx_L} {st : List Value} {o} (h : kx_sw len n pc nL lv st kd k = some o) : ∃ v r, st = v :: r ∧ len = n ∧ kx_kd v = kd ∧ k + 1 < nL ∧ o = (pc + n, kx_s2 lv k v, r) := by
  unfold kx_sw at h
  split at h
  · rename_i v r
    by_cases e : len = n ∧ kx_kd v = kd ∧ k + 1 < nL
    · rw [if_pos e] at h; exact ⟨v, r, rfl, e.1, e.2.1, e.2.2, (Option.some.inj h).symm⟩
    · rw [if_neg e] at h; cases h
  · cases h
def kx_i2 (len pc : Nat) (lv : kx_L) (st : List Value) (f : Int32 → Int32 → Int32) : kx_O := match st with
  | .int y :: .int x :: r => if len = 1 then some (pc + 1, lv, .int (f x y) :: r) else none
  | _ => none
theorem kx_i2_inv {len pc : Nat} {lv : kx_L} {st : List Value} {f : Int32 → Int32 → Int32} {o} (h : kx_i2 len pc lv st f = some o) : ∃ x y r, st = .int y :: .int x :: r ∧ len = 1 ∧ o = (pc + 1, lv, .int (f x y) :: r) := by
  unfold kx_i2 at h
  split at h
  · rename_i y x r
    by_cases e : len = 1
    · rw [if_pos e] at h; exact ⟨x, y, r, rfl, e, (Option.some.inj h).symm⟩
    · rw [if_neg e] at h; cases h
  · cases h
def kx_l2 (len pc : Nat) (lv : kx_L) (st : List Value) (f : Int64 → Int64 → Int64) : kx_O := match st with
  | .long y :: .long x :: r => if len = 1 then some (pc + 1, lv, .long (f x y) :: r) else none
  | _ => none
theorem kx_l2_inv {len pc : Nat} {lv : kx_L} {st : List Value} {f : Int64 → Int64 → Int64} {o} (h : kx_l2 len pc lv st f = some o) : ∃ x y r, st = .long y :: .long x :: r ∧ len = 1 ∧ o = (pc + 1, lv, .long (f x y) :: r) := by
  unfold kx_l2 at h
  split at h
  · rename_i y x r
    by_cases e : len = 1
    · rw [if_pos e] at h; exact ⟨x, y, r, rfl, e, (Option.some.inj h).symm⟩
    · rw [if_neg e] at h; cases h
  · cases h
/-- one int above is turned -/
def kx_i1 (len pc : Nat) (lv : kx_L) (st : List Value) (f : Int32 → Value) : kx_O := match st with
  | .int x :: r => if len = 1 then some (pc + 1, lv, f x :: r) else none
  | _ => none
theorem kx_i1_inv {len pc : Nat} {lv : kx_L} {st : List Value} {f : Int32 → Value} {o} (h : kx_i1 len pc lv st f = some o) : ∃ x r, st = .int x :: r ∧ len = 1 ∧ o = (pc + 1, lv, f x :: r) := by
  unfold kx_i1 at h
  split at h
  · rename_i x r
    by_cases e : len = 1
    · rw [if_pos e] at h; exact ⟨x, r, rfl, e, (Option.some.inj h).symm⟩
    · rw [if_neg e] at h; cases h
  · cases h
/-- one value of one word above is turned into several -/
def kx_v1 (len pc : Nat) (lv : kx_L) (st : List Value) (f : Value → List Value → List Value) : kx_O := match st with
  | v :: r => if len = 1 ∧ v.category = 1 then some (pc + 1, lv, f v r) else none
  | [] => none
theorem kx_v1_inv {len pc : Nat} {lv : kx_L} {st : List Value} {f : Value → List Value → List Value} {o} (h : kx_v1 len pc lv st f = some o) : ∃ v r, st = v :: r ∧ len = 1 ∧ v.category = 1 ∧ o = (pc + 1, lv, f v r) := by
  unfold kx_v1 at h
  split at h
  · rename_i v r
    by_cases e : len = 1 ∧ v.category = 1
    · rw [if_pos e] at h; exact ⟨v, r, rfl, e.1, e.2, (Option.some.inj h).symm⟩
    · rw [if_neg e] at h; cases h
  · cases h
def kx_v2 (len pc : Nat) (lv : kx_L) (st : List Value) (f : Value → Value → List Value → List Value) : kx_O := match st with
  | v :: w :: r => if len = 1 ∧ v.category = 1 ∧ w.category = 1 then some (pc + 1, lv, f v w r) else none
  | _ => none
theorem kx_v2_inv {len pc : Nat} {lv : kx_L} {st : List Value} {f : Value → Value → List Value → List Value} {o} (h : kx_v2 len pc lv st f = some o) : ∃ v w r, st = v :: w :: r ∧ len = 1 ∧ v.category = 1 ∧ w.category = 1 ∧ o = (pc + 1, lv, f v w r) := by
  unfold kx_v2 at h
  split at h
  · rename_i v w r
    by_cases e : len = 1 ∧ v.category = 1 ∧ w.category = 1
    · rw [if_pos e] at h; exact ⟨v, w, r, rfl, e.1, e.2.1, e.2.2, (Option.some.inj h).symm⟩
    · rw [if_neg e] at h; cases h
  · cases h
def kx_go1 (len pc : Nat) (lv : kx_L) (st : List Value) (off : Int) : kx_O := if len = 3 ∧ 0 ≤ (pc : Int) + off then some (((pc : Int) + off).toNat, lv, st) else none
theorem kx_go1_inv {len pc : Nat} {lv : kx_L} {st : List Value} {off : Int} {o} (h : kx_go1 len pc lv st off = some o) : len = 3 ∧ (pc : Int) + off = ((((pc : Int) + off).toNat : Nat) : Int) ∧ o = (((pc : Int) + off).toNat, lv, st) := by
  unfold kx_go1 at h
  by_cases e : len = 3 ∧ 0 ≤ (pc : Int) + off
  · rw [if_pos e] at h; exact ⟨e.1, (Int.toNat_of_nonneg e.2).symm, (Option.some.inj h).symm⟩
  · rw [if_neg e] at h; cases h
def kx_inc (len pc nL : Nat) (lv : kx_L) (st : List Value) (k : Nat) (n : Int) : kx_O := match kx_lk lv k with
  | some (.int x) => if len = 3 ∧ k < nL then some (pc + 3, kx_s1 lv k (.int (x + Int32.ofInt n)), st) else none
  | _ => none
theorem kx_inc_inv {len pc nL k : Nat} {lv : kx_L} {st : List Value} {n : Int} {o} (h : kx_inc len pc nL lv st k n = some o) : ∃ x, kx_lk lv k = some (.int x) ∧ len = 3 ∧ k < nL ∧ o = (pc + 3, kx_s1 lv k (.int (x + Int32.ofInt n)), st) := by
  unfold kx_inc at h
  split at h
  · rename_i x hv
    by_cases e : len = 3 ∧ k < nL
    · rw [if_pos e] at h; exact ⟨x, hv, e.1, e.2, (Option.some.inj h).symm⟩
    · rw [if_neg e] at h; cases h
  · cases h
/-- one step -/
def kx_st (i : Instr) (len pc nL : Nat) (lv : kx_L) (st : List Value) : kx_O := match i with
  | .iconst n => kx_pu len 1 pc lv st (.int (Int32.ofInt n))
  | .bipush n => kx_pu len 2 pc lv st (.int (Int8.ofInt n).toInt32)
  | .sipush n => kx_pu len 3 pc lv st (.int (Int16.ofInt n).toInt32)
  | .lconst n => kx_pu len 1 pc lv st (.long (Int64.ofNat (n : Nat)))
  | .aconst_null => kx_pu len 1 pc lv st .null
  | .iload_n k => kx_ld len 1 pc lv st 0 k
  | .iload k => kx_ld len 2 pc lv st 0 k
  | .aload_n k => kx_ld len 1 pc lv st 1 k
  | .aload k => kx_ld len 2 pc lv st 1 k
  | .lload_n k => kx_ld len 1 pc lv st 2 k
  | .lload k => kx_ld len 2 pc lv st 2 k
  | .dload_n k => kx_ld len 1 pc lv st 3 k
  | .dload k => kx_ld len 2 pc lv st 3 k
  | .istore_n k => kx_sv len 1 pc nL lv st 0 k
  | .istore k => kx_sv len 2 pc nL lv st 0 k
  | .astore_n k => kx_sv len 1 pc nL lv st 1 k
  | .astore k => kx_sv len 2 pc nL lv st 1 k
  | .lstore_n k => kx_sw len 1 pc nL lv st 2 k
  | .lstore k => kx_sw len 2 pc nL lv st 2 k
  | .dstore_n k => kx_sw len 1 pc nL lv st 3 k
  | .dstore k => kx_sw len 2 pc nL lv st 3 k
  | .iinc k n => kx_inc len pc nL lv st k n
  | .iadd => kx_i2 len pc lv st (fun x y => x + y)
  | .isub => kx_i2 len pc lv st (fun x y => x - y)
  | .imul => kx_i2 len pc lv st (fun x y => x * y)
  | .iand => kx_i2 len pc lv st (fun x y => x &&& y)
  | .ior => kx_i2 len pc lv st (fun x y => x ||| y)
  | .ixor => kx_i2 len pc lv st (fun x y => x ^^^ y)
  | .ishl => kx_i2 len pc lv st (fun x y => x <<< (y &&& 31))
  | .ishr => kx_i2 len pc lv st (fun x y => x >>> (y &&& 31))
  | .ladd => kx_l2 len pc lv st (fun x y => x + y)
  | .ineg => kx_i1 len pc lv st (fun x => .int (-x))
  | .i2l => kx_i1 len pc lv st (fun x => .long x.toInt64)
  | .i2d => kx_i1 len pc lv st (fun x => .double (FP.i2d x))
  | .dup => kx_v1 len pc lv st (fun v r => v :: v :: r)
  | .pop => kx_v1 len pc lv st (fun _ r => r)
  | .dup_x1 => kx_v2 len pc lv st (fun v w r => v :: w :: v :: r)
  | .dup2 => kx_v2 len pc lv st (fun v w r => v :: w :: v :: w :: r)
  | .goto off => kx_go1 len pc lv st off
  | _ => none
section KXP
variable {p : Program} {l : Launch} {e : Env} {R : Room} {s : State} {m : MethodId} {args : Array Value} {below : List Frame} {meth : Method} {c : Code} {H : Heap} {locs : List Loc} {cells slots : Nat} {Q : State → Prop}
variable {cc : ByteArray} {ls : Array Slot}
theorem kx_kd0 {v : Value} (h : kx_kd v = 0) : ∃ x, v = .int x := by cases v <;> simp [kx_kd] at h; exact ⟨_, rfl⟩
theorem kx_kd1 {v : Value} (h : kx_kd v = 1) : v = .null ∨ ∃ x, v = .ref x := by cases v <;> simp [kx_kd] at h <;> simp
theorem kx_kd2 {v : Value} (h : kx_kd v = 2) : ∃ x, v = .long x := by cases v <;> simp [kx_kd] at h; exact ⟨_, rfl⟩
theorem kx_kd3 {v : Value} (h : kx_kd v = 3) : ∃ x, v = .double x := by cases v <;> simp [kx_kd] at h; exact ⟨_, rfl⟩
set_option maxHeartbeats 4000000 in
theorem kx_ps {i : Instr} {len pc nL : Nat} {lv : kx_L} {st : List Value} {o : Nat × kx_L × List Value} (hx : p.tables.exec = Jvm.exec) (hb : c.code = cc) (hd : decode cc pc = .ok (i, len)) (hs : kx_st i len pc nL lv st = some o) (hl : lv_has ls nL lv)
    (kk : ∀ ls' : Array Slot, lv_has ls' nL o.2.1 → W p l e R s m args below meth c H locs cells slots Q (F0 m o.1 ls' o.2.2)) : W p l e R s m args below meth c H locs cells slots Q (F0 m pc ls st) := by
  cases i with
  | iconst n => obtain ⟨rfl, rfl⟩ := kx_pu_inv hs; exact lv_iconst hx hb hd rfl (kk ls hl)
  | bipush n => obtain ⟨rfl, rfl⟩ := kx_pu_inv hs; exact lv_bipush hx hb hd rfl (kk ls hl)
  | sipush n => obtain ⟨rfl, rfl⟩ := kx_pu_inv hs; exact lv_sipush hx hb hd rfl (kk ls hl)
  | lconst n => obtain ⟨rfl, rfl⟩ := kx_pu_inv hs; exact lv_lconst hx hb hd rfl (kk ls hl)
  | aconst_null => obtain ⟨rfl, rfl⟩ := kx_pu_inv hs; exact lv_null hx hb hd (kk ls hl)
  | iload_n k => obtain ⟨v, h1, rfl, h2, rfl⟩ := kx_ld_inv hs; obtain ⟨x, rfl⟩ := kx_kd0 h2; exact lv_iload_n hx hb hd rfl (kx_lk_has h1 hl) (kk ls hl)
  | iload k => obtain ⟨v, h1, rfl, h2, rfl⟩ := kx_ld_inv hs; obtain ⟨x, rfl⟩ := kx_kd0 h2; exact lv_iload hx hb hd (kx_lk_has h1 hl) (kk ls hl)
  | aload_n k =>
    obtain ⟨v, h1, rfl, h2, rfl⟩ := kx_ld_inv hs
    rcases kx_kd1 h2 with rfl | ⟨x, rfl⟩
    · exact lv_aload_nN hx hb hd rfl (kx_lk_has h1 hl) (kk ls hl)
    · exact lv_aload_n hx hb hd rfl (kx_lk_has h1 hl) (kk ls hl)
  | aload k =>
    obtain ⟨v, h1, rfl, h2, rfl⟩ := kx_ld_inv hs
    rcases kx_kd1 h2 with rfl | ⟨x, rfl⟩
    · exact lv_aloadN hx hb hd (kx_lk_has h1 hl) (kk ls hl)
    · exact lv_aload hx hb hd (kx_lk_has h1 hl) (kk ls hl)
  | lload_n k => obtain ⟨v, h1, rfl, h2, rfl⟩ := kx_ld_inv hs; obtain ⟨x, rfl⟩ := kx_kd2 h2; exact lv_lload_n hx hb hd rfl (kx_lk_has h1 hl) (kk ls hl)
  | lload k => obtain ⟨v, h1, rfl, h2, rfl⟩ := kx_ld_inv hs; obtain ⟨x, rfl⟩ := kx_kd2 h2; exact lv_lload hx hb hd (kx_lk_has h1 hl) (kk ls hl)
  | dload_n k => obtain ⟨v, h1, rfl, h2, rfl⟩ := kx_ld_inv hs; obtain ⟨x, rfl⟩ := kx_kd3 h2; exact lv_dload_n hx hb hd rfl (kx_lk_has h1 hl) (kk ls hl)
  | dload k => obtain ⟨v, h1, rfl, h2, rfl⟩ := kx_ld_inv hs; obtain ⟨x, rfl⟩ := kx_kd3 h2; exact lv_dload hx hb hd (kx_lk_has h1 hl) (kk ls hl)
  | istore_n k => obtain ⟨v, r, rfl, rfl, h2, h3, rfl⟩ := kx_sv_inv hs; obtain ⟨x, rfl⟩ := kx_kd0 h2; exact lv_istore_n hx hb hd rfl hl h3 rfl (fun ls' hl' => kk ls' (kx_ins_has hl'))
  | istore k => obtain ⟨v, r, rfl, rfl, h2, h3, rfl⟩ := kx_sv_inv hs; obtain ⟨x, rfl⟩ := kx_kd0 h2; exact lv_istore hx hb hd hl h3 rfl (fun ls' hl' => kk ls' (kx_ins_has hl'))
  | astore_n k =>
    obtain ⟨v, r, rfl, rfl, h2, h3, rfl⟩ := kx_sv_inv hs
    rcases kx_kd1 h2 with rfl | ⟨x, rfl⟩
    · exact lv_astore_nN hx hb hd rfl hl h3 rfl (fun ls' hl' => kk ls' (kx_ins_has hl'))
    · exact lv_astore_n hx hb hd rfl hl h3 rfl (fun ls' hl' => kk ls' (kx_ins_has hl'))
  | astore k =>
    obtain ⟨v, r, rfl, rfl, h2, h3, rfl⟩ := kx_sv_inv hs
    rcases kx_kd1 h2 with rfl | ⟨x, rfl⟩
    · exact lv_astoreN hx hb hd hl h3 rfl (fun ls' hl' => kk ls' (kx_ins_has hl'))
    · exact lv_astore hx hb hd hl h3 rfl (fun ls' hl' => kk ls' (kx_ins_has hl'))
  | lstore_n k => obtain ⟨v, r, rfl, rfl, h2, h3, rfl⟩ := kx_sw_inv hs; obtain ⟨x, rfl⟩ := kx_kd2 h2; exact lv_lstore_n hx hb hd rfl hl h3 rfl (fun ls' hl' => kk ls' (kx_ins_has hl'))
  | lstore k => obtain ⟨v, r, rfl, rfl, h2, h3, rfl⟩ := kx_sw_inv hs; obtain ⟨x, rfl⟩ := kx_kd2 h2; exact lv_lstore hx hb hd hl h3 rfl (fun ls' hl' => kk ls' (kx_ins_has hl'))
  | dstore_n k => obtain ⟨v, r, rfl, rfl, h2, h3, rfl⟩ := kx_sw_inv hs; obtain ⟨x, rfl⟩ := kx_kd3 h2; exact lv_dstore_n hx hb hd rfl hl h3 rfl (fun ls' hl' => kk ls' (kx_ins_has hl'))
  | dstore k => obtain ⟨v, r, rfl, rfl, h2, h3, rfl⟩ := kx_sw_inv hs; obtain ⟨x, rfl⟩ := kx_kd3 h2; exact lv_dstore hx hb hd hl h3 rfl (fun ls' hl' => kk ls' (kx_ins_has hl'))
  | iadd => obtain ⟨x, y, r, rfl, rfl, rfl⟩ := kx_i2_inv hs; exact lv_iadd hx hb hd (kk ls hl)
  | isub => obtain ⟨x, y, r, rfl, rfl, rfl⟩ := kx_i2_inv hs; exact lv_isub hx hb hd (kk ls hl)
  | imul => obtain ⟨x, y, r, rfl, rfl, rfl⟩ := kx_i2_inv hs; exact lv_imul hx hb hd (kk ls hl)
  | iand => obtain ⟨x, y, r, rfl, rfl, rfl⟩ := kx_i2_inv hs; exact lv_iand hx hb hd (kk ls hl)
  | ior => obtain ⟨x, y, r, rfl, rfl, rfl⟩ := kx_i2_inv hs; exact lv_ior hx hb hd (kk ls hl)
  | ixor => obtain ⟨x, y, r, rfl, rfl, rfl⟩ := kx_i2_inv hs; exact lv_ixor hx hb hd (kk ls hl)
  | ishl => obtain ⟨x, y, r, rfl, rfl, rfl⟩ := kx_i2_inv hs; exact lv_ishl hx hb hd (kk ls hl)
  | ishr => obtain ⟨x, y, r, rfl, rfl, rfl⟩ := kx_i2_inv hs; exact lv_ishr hx hb hd (kk ls hl)
  | ladd => obtain ⟨x, y, r, rfl, rfl, rfl⟩ := kx_l2_inv hs; exact lv_ladd hx hb hd (kk ls hl)
  | ineg => obtain ⟨x, r, rfl, rfl, rfl⟩ := kx_i1_inv hs; exact lv_ineg hx hb hd (kk ls hl)
  | i2l => obtain ⟨x, r, rfl, rfl, rfl⟩ := kx_i1_inv hs; exact lv_i2l hx hb hd rfl (kk ls hl)
  | i2d => obtain ⟨x, r, rfl, rfl, rfl⟩ := kx_i1_inv hs; exact lv_i2d hx hb hd (kk ls hl)
  | dup => obtain ⟨v, r, rfl, rfl, h2, rfl⟩ := kx_v1_inv hs; exact lv_dup hx hb hd h2 (kk ls hl)
  | pop => obtain ⟨v, r, rfl, rfl, h2, rfl⟩ := kx_v1_inv hs; exact lv_pop hx hb hd h2 (kk ls hl)
  | dup_x1 => obtain ⟨v, w, r, rfl, rfl, h2, h3, rfl⟩ := kx_v2_inv hs; exact lv_dup_x1 hx hb hd h2 h3 (kk ls hl)
  | dup2 => obtain ⟨v, w, r, rfl, rfl, h2, h3, rfl⟩ := kx_v2_inv hs; exact lv_dup2_11 hx hb hd h2 h3 (kk ls hl)
  | goto off => obtain ⟨rfl, h2, rfl⟩ := kx_go1_inv hs; exact lv_goto hx hb hd h2 (kk ls hl)
  | iinc k n =>
    obtain ⟨x, h1, rfl, h3, rfl⟩ := kx_inc_inv hs
    obtain ⟨q, hq⟩ : ∃ q : Nat, lv[q]? = some (k, .int x) := by
      clear hs hl kk
      induction lv with
      | nil => simp [kx_lk] at h1
      | cons z r ih =>
        simp only [kx_lk] at h1
        by_cases e9 : z.1 = k
        · rw [if_pos e9] at h1
          refine ⟨0, ?_⟩
          obtain ⟨z1, z2⟩ := z
          cases h1
          cases e9
          rfl
        · rw [if_neg e9] at h1
          obtain ⟨q, hq⟩ := ih h1
          exact ⟨q + 1, by simpa using hq⟩
    exact lv_iinc hx hb hd hl hq rfl h3 rfl (fun ls' hl' => kk ls' (kx_ins_has hl'))
  | _ => simp [kx_st] at hs
end KXP
/-- the method's instructions, by their places -/
abbrev kx_T : Type := List (Nat × Instr × Nat)
def kx_tk : kx_T → Nat → Option (Instr × Nat)
  | [], _ => none
  | q :: r, k => if q.1 = k then some q.2 else kx_tk r k
def kx_dec (cc : ByteArray) (t : kx_T) : Prop := ∀ q ∈ t, decode cc q.1 = .ok q.2
theorem kx_tk_dec {cc : ByteArray} : ∀ {t : kx_T} {pc : Nat} {i : Instr × Nat}, kx_tk t pc = some i → kx_dec cc t → decode cc pc = .ok i
  | [], pc, i, h, _ => by simp [kx_tk] at h
  | q :: r, pc, i, h, hd => by
    simp only [kx_tk] at h
    by_cases e : q.1 = pc
    · rw [if_pos e] at h
      cases h
      rw [← e]
      exact hd q List.mem_cons_self
    · rw [if_neg e] at h
      exact kx_tk_dec h (fun z hz => hd z (List.mem_cons_of_mem _ hz))
def kx_run (t : kx_T) (nL : Nat) : Nat → Nat → kx_L → List Value → kx_O
  | 0, pc, lv, st => some (pc, lv, st)
  | n + 1, pc, lv, st => match kx_tk t pc with
    | some i => match kx_st i.1 i.2 pc nL lv st with
      | some o => kx_run t nL n o.1 o.2.1 o.2.2
      | none => none
    | none => none
end
section
/-! ===== the judgement: from here the method's walk comes to its end, with Q of what it answers or throws and of the heap ===== -/
/-- a method: its name, bytes, locals, answer's type, handlers -/
abbrev kx_M : Type := MethodName × ByteArray × Nat × Option FieldType × List (Nat × Nat × Nat × Nat)
def kx_E (st t : State) (L : List Loc) (k n : Nat) : Prop := st.WarmedH t.vm ∧ st.sameButNew ({ t with vm := st.vm } : State) L k n
def kx_Q (G : kx_G) (Q : Outcome → kx_H → Prop) (below : List Frame) (s : State) (R : Room) : State → Prop := fun t =>
  ∃ (o : Outcome) (h' : kx_H), t.status = .running ∧ Ended t below o ∧ Q o h' ∧ kx_hp G h' t.heap ∧ ∃ L : List Loc, kx_E s t L R.cells R.slots ∧ ∀ q ∈ L, G.1 ≤ q.base
/-- the walk of M, d calls deep at the most from here on -/
def kx_X (G : kx_G) (l : Launch) (M : kx_M) (d : Nat) (p : Program) (R : Room) (s : State) (m : MethodId) (meth : Method) (c : Code) : Prop :=
  p.tables.exec = Jvm.exec ∧ c.code = M.2.1 ∧ c.maxLocals = M.2.2.1 ∧ s.vm.findClass M.1.cls = some m.cls ∧ meth.sig.returnType = M.2.2.2.1 ∧ meth.locks = false ∧ meth.name = M.1.name ∧
  c.exceptionTable.toList.map (fun h => (h.startPc, h.endPc, h.handlerPc, h.catchType)) = M.2.2.2.2 ∧ kx_K G s ∧ G.1 ≤ s.heap.size ∧ d + 12 ≤ R.frames ∧ 100 * d + 400 ≤ R.locals ∧ l.stackTraces = false
def kx_w (G : kx_G) (l : Launch) (M : kx_M) (d : Nat) (Q : Outcome → kx_H → Prop) (kc ks pc : Nat) (lv : kx_L) (st : List Value) (h : kx_H) : Prop :=
  ∀ (p : Program) (e : Env) (R : Room) (s : State) (m : MethodId) (args : Array Value) (below : List Frame) (meth : Method) (c : Code), kx_X G l M d p R s m meth c →
  ∀ (H : Heap) (locs : List Loc) (ls : Array Slot) (cells slots : Nat), kx_hp G h H → va_S (fun q => G.1 ≤ q) s.heap H locs → lv_has ls M.2.2.1 lv → cells + kc ≤ R.cells → slots + ks ≤ R.slots →
  W p l e R s m args below meth c H locs cells slots (kx_Q G Q below s R) (F0 m pc ls st)
section KXW
variable {G : kx_G} {l : Launch} {M : kx_M} {d : Nat} {Q : Outcome → kx_H → Prop} {kc ks pc : Nat} {lv : kx_L} {st : List Value} {h : kx_H} {t : kx_T}
theorem kx_p1 {i : Instr} {len : Nat} {o : Nat × kx_L × List Value} (hd : decode M.2.1 pc = .ok (i, len)) (hs : kx_st i len pc M.2.2.1 lv st = some o) (k : kx_w G l M d Q kc ks o.1 o.2.1 o.2.2 h) : kx_w G l M d Q kc ks pc lv st h := by
  intro p e R s m args below meth c X H locs ls cells slots hh hS hl h1 h2
  exact kx_ps X.1 X.2.1 hd hs hl (fun ls' hl' => k p e R s m args below meth c X H locs ls' cells slots hh hS hl' h1 h2)
/-- n steps that touch neither the heap nor another method -/
theorem kx_rn (ht : kx_dec M.2.1 t) : ∀ (n : Nat) {pc : Nat} {lv : kx_L} {st : List Value} (pc' : Nat) (lv' : kx_L) (st' : List Value), kx_run t M.2.2.1 n pc lv st = some (pc', lv', st') → kx_w G l M d Q kc ks pc' lv' st' h → kx_w G l M d Q kc ks pc lv st h
  | 0, pc, lv, st, pc', lv', st', hr, k => by
    simp only [kx_run, Option.some.injEq, Prod.mk.injEq] at hr
    obtain ⟨rfl, rfl, rfl⟩ := hr
    exact k
  | n + 1, pc, lv, st, pc', lv', st', hr, k => by
    simp only [kx_run] at hr
    split at hr
    · rename_i i hi
      split at hr
      · rename_i o ho
        exact kx_p1 (kx_tk_dec hi ht) ho (kx_rn ht n pc' lv' st' hr k)
      · cases hr
    · cases hr
theorem kx_low {kc' ks' : Nat} (h1 : kc' ≤ kc) (h2 : ks' ≤ ks) (k : kx_w G l M d Q kc' ks' pc lv st h) : kx_w G l M d Q kc ks pc lv st h := by
  intro p e R s m args below meth c X H locs ls cells slots hh hS hl q1 q2
  exact k p e R s m args below meth c X H locs ls cells slots hh hS hl (by omega) (by omega)
theorem kx_con {Q' : Outcome → kx_H → Prop} (hq : ∀ o h, Q' o h → Q o h) (k : kx_w G l M d Q' kc ks pc lv st h) : kx_w G l M d Q kc ks pc lv st h := by
  intro p e R s m args below meth c X H locs ls cells slots hh hS hl q1 q2 T hT Y
  obtain ⟨t, a, o, h', b1, b2, b3, b4⟩ := k p e R s m args below meth c X H locs ls cells slots hh hS hl q1 q2 T hT Y
  exact ⟨t, a, o, h', b1, b2, hq o h' b3, b4⟩
theorem kx_loc {lv' : kx_L} (hs : ∀ q ∈ lv', q ∈ lv) (k : kx_w G l M d Q kc ks pc lv' st h) : kx_w G l M d Q kc ks pc lv st h := by
  intro p e R s m args below meth c X H locs ls cells slots hh hS hl q1 q2
  exact k p e R s m args below meth c X H locs ls cells slots hh hS ⟨hl.1, hl.2.1, fun q hq => hl.2.2 q (hs q hq)⟩ q1 q2
/-! branches -/
theorem kx_if {cd : ClassFile.Cond} {x : Int32} {off : Int} {tgt : Nat} (hd : decode M.2.1 pc = .ok (.ifCond cd off, 3)) (ht : (pc : Int) + off = (tgt : Int))
    (kt : (match cd with | .eq => x = 0 | .ne => ¬ x = 0 | .lt => x < 0 | .ge => 0 ≤ x | .gt => 0 < x | .le => x ≤ 0) → kx_w G l M d Q kc ks tgt lv st h)
    (kf : (match cd with | .eq => ¬ x = 0 | .ne => x = 0 | .lt => ¬ x < 0 | .ge => ¬ 0 ≤ x | .gt => ¬ 0 < x | .le => ¬ x ≤ 0) → kx_w G l M d Q kc ks (pc + 3) lv st h) : kx_w G l M d Q kc ks pc lv (.int x :: st) h := by
  intro p e R s m args below meth c X H locs ls cells slots hh hS hl q1 q2
  cases cd
  · exact lv_if_eq X.1 X.2.1 hd ht (fun z => kt z p e R s m args below meth c X H locs ls cells slots hh hS hl q1 q2) (fun z => kf z p e R s m args below meth c X H locs ls cells slots hh hS hl q1 q2)
  · exact lv_if_ne X.1 X.2.1 hd ht (fun z => kt z p e R s m args below meth c X H locs ls cells slots hh hS hl q1 q2) (fun z => kf z p e R s m args below meth c X H locs ls cells slots hh hS hl q1 q2)
  · exact lv_if_lt X.1 X.2.1 hd ht (fun z => kt z p e R s m args below meth c X H locs ls cells slots hh hS hl q1 q2) (fun z => kf z p e R s m args below meth c X H locs ls cells slots hh hS hl q1 q2)
  · exact lv_if_ge X.1 X.2.1 hd ht (fun z => kt z p e R s m args below meth c X H locs ls cells slots hh hS hl q1 q2) (fun z => kf z p e R s m args below meth c X H locs ls cells slots hh hS hl q1 q2)
  · exact lv_if_gt X.1 X.2.1 hd ht (fun z => kt z p e R s m args below meth c X H locs ls cells slots hh hS hl q1 q2) (fun z => kf z p e R s m args below meth c X H locs ls cells slots hh hS hl q1 q2)
  · exact lv_if_le X.1 X.2.1 hd ht (fun z => kt z p e R s m args below meth c X H locs ls cells slots hh hS hl q1 q2) (fun z => kf z p e R s m args below meth c X H locs ls cells slots hh hS hl q1 q2)
theorem kx_ic {cd : ClassFile.Cond} {x y : Int32} {off : Int} {tgt : Nat} (hd : decode M.2.1 pc = .ok (.if_icmp cd off, 3)) (ht : (pc : Int) + off = (tgt : Int))
    (kt : (match cd with | .eq => x = y | .ne => ¬ x = y | .lt => x < y | .ge => y ≤ x | .gt => y < x | .le => x ≤ y) → kx_w G l M d Q kc ks tgt lv st h)
    (kf : (match cd with | .eq => ¬ x = y | .ne => x = y | .lt => ¬ x < y | .ge => ¬ y ≤ x | .gt => ¬ y < x | .le => ¬ x ≤ y) → kx_w G l M d Q kc ks (pc + 3) lv st h) : kx_w G l M d Q kc ks pc lv (.int y :: .int x :: st) h := by
  intro p e R s m args below meth c X H locs ls cells slots hh hS hl q1 q2
  cases cd
  · exact lv_icmp_eq X.1 X.2.1 hd ht (fun z => kt z p e R s m args below meth c X H locs ls cells slots hh hS hl q1 q2) (fun z => kf z p e R s m args below meth c X H locs ls cells slots hh hS hl q1 q2)
  · exact lv_icmp_ne X.1 X.2.1 hd ht (fun z => kt z p e R s m args below meth c X H locs ls cells slots hh hS hl q1 q2) (fun z => kf z p e R s m args below meth c X H locs ls cells slots hh hS hl q1 q2)
  · exact lv_icmp_lt X.1 X.2.1 hd ht (fun z => kt z p e R s m args below meth c X H locs ls cells slots hh hS hl q1 q2) (fun z => kf z p e R s m args below meth c X H locs ls cells slots hh hS hl q1 q2)
  · exact lv_icmp_ge X.1 X.2.1 hd ht (fun z => kt z p e R s m args below meth c X H locs ls cells slots hh hS hl q1 q2) (fun z => kf z p e R s m args below meth c X H locs ls cells slots hh hS hl q1 q2)
  · exact lv_icmp_gt X.1 X.2.1 hd ht (fun z => kt z p e R s m args below meth c X H locs ls cells slots hh hS hl q1 q2) (fun z => kf z p e R s m args below meth c X H locs ls cells slots hh hS hl q1 q2)
  · exact lv_icmp_le X.1 X.2.1 hd ht (fun z => kt z p e R s m args below meth c X H locs ls cells slots hh hS hl q1 q2) (fun z => kf z p e R s m args below meth c X H locs ls cells slots hh hS hl q1 q2)
/-- null or not, as an optional address -/
theorem kx_nul {x : Option Nat} {off : Int} {tgt : Nat} (hd : decode M.2.1 pc = .ok (.ifnull off, 3)) (ht : (pc : Int) + off = (tgt : Int))
    (kt : x = none → kx_w G l M d Q kc ks tgt lv st h) (kf : ∀ a, x = some a → kx_w G l M d Q kc ks (pc + 3) lv st h) : kx_w G l M d Q kc ks pc lv (va_rf x :: st) h := by
  intro p e R s m args below meth c X H locs ls cells slots hh hS hl q1 q2
  cases x with
  | none => exact lv_ifnullN X.1 X.2.1 hd ht (kt rfl p e R s m args below meth c X H locs ls cells slots hh hS hl q1 q2)
  | some a => exact lv_ifnull X.1 X.2.1 hd (kf a rfl p e R s m args below meth c X H locs ls cells slots hh hS hl q1 q2)
theorem kx_nnl {x : Option Nat} {off : Int} {tgt : Nat} (hd : decode M.2.1 pc = .ok (.ifnonnull off, 3)) (ht : (pc : Int) + off = (tgt : Int))
    (kt : ∀ a, x = some a → kx_w G l M d Q kc ks tgt lv st h) (kf : x = none → kx_w G l M d Q kc ks (pc + 3) lv st h) : kx_w G l M d Q kc ks pc lv (va_rf x :: st) h := by
  intro p e R s m args below meth c X H locs ls cells slots hh hS hl q1 q2
  cases x with
  | none => exact lv_ifnonnullN X.1 X.2.1 hd (kf rfl p e R s m args below meth c X H locs ls cells slots hh hS hl q1 q2)
  | some a => exact lv_ifnonnull X.1 X.2.1 hd ht (kt a rfl p e R s m args below meth c X H locs ls cells slots hh hS hl q1 q2)
theorem kx_ane {x y : Option Nat} {off : Int} {tgt : Nat} (hd : decode M.2.1 pc = .ok (.if_acmp .ne off, 3)) (ht : (pc : Int) + off = (tgt : Int))
    (kt : ¬ x = y → kx_w G l M d Q kc ks tgt lv st h) (kf : x = y → kx_w G l M d Q kc ks (pc + 3) lv st h) : kx_w G l M d Q kc ks pc lv (va_rf y :: va_rf x :: st) h := by
  intro p e R s m args below meth c X H locs ls cells slots hh hS hl q1 q2
  exact lv_acmp_ne X.1 X.2.1 hd ht (fun z => kt z p e R s m args below meth c X H locs ls cells slots hh hS hl q1 q2) (fun z => kf z p e R s m args below meth c X H locs ls cells slots hh hS hl q1 q2)
theorem kx_aeq {x y : Option Nat} {off : Int} {tgt : Nat} (hd : decode M.2.1 pc = .ok (.if_acmp .eq off, 3)) (ht : (pc : Int) + off = (tgt : Int))
    (kt : x = y → kx_w G l M d Q kc ks tgt lv st h) (kf : ¬ x = y → kx_w G l M d Q kc ks (pc + 3) lv st h) : kx_w G l M d Q kc ks pc lv (va_rf y :: va_rf x :: st) h := by
  intro p e R s m args below meth c X H locs ls cells slots hh hS hl q1 q2
  exact lv_acmp_eq X.1 X.2.1 hd ht (fun z => kt z p e R s m args below meth c X H locs ls cells slots hh hS hl q1 q2) (fun z => kf z p e R s m args below meth c X H locs ls cells slots hh hS hl q1 q2)
/-! arithmetic that asks something -/
theorem kx_div {x y : Int32} (hd : decode M.2.1 pc = .ok (.idiv, 1)) (hne : ¬ y = 0) (k : kx_w G l M d Q kc ks (pc + 1) lv (.int (x / y) :: st) h) : kx_w G l M d Q kc ks pc lv (.int y :: .int x :: st) h := by
  intro p e R s m args below meth c X H locs ls cells slots hh hS hl q1 q2
  exact lv_idiv X.1 X.2.1 hd hne (k p e R s m args below meth c X H locs ls cells slots hh hS hl q1 q2)
theorem kx_lcmp {x y : Int64} (hd : decode M.2.1 pc = .ok (.lcmp, 1)) (k : kx_w G l M d Q kc ks (pc + 1) lv (.int (lg_cmp x y) :: st) h) : kx_w G l M d Q kc ks pc lv (.long y :: .long x :: st) h := by
  intro p e R s m args below meth c X H locs ls cells slots hh hS hl q1 q2
  exact W.lcmp X.1 X.2.1 hd (k p e R s m args below meth c X H locs ls cells slots hh hS hl q1 q2)
theorem kx_dcmp {x y : UInt64} {op : CmpOp} (hd : decode M.2.1 pc = .ok (.dcmp op, 1)) (k : kx_w G l M d Q kc ks (pc + 1) lv (.int (Op.cmpValue (FP.dcmp x y) op) :: st) h) : kx_w G l M d Q kc ks pc lv (.double y :: .double x :: st) h := by
  intro p e R s m args below meth c X H locs ls cells slots hh hS hl q1 q2
  exact lv_dcmp X.1 X.2.1 hd (k p e R s m args below meth c X H locs ls cells slots hh hS hl q1 q2)
/-! fields -/
theorem kx_getf {a ci k N idx : Nat} {C : String} {T : u_T} {fs : List Value} {v : Value} (hcl : kx_cl[ci]? = some (C, T, N)) (hin : ∀ w ∈ u_ws C T N, w ∈ kx_ws) (hk : k < N) (hln : Cond.fieldLink M.1.cls idx (T k).1 (T k).2.1 (T k).2.2.1 ∈ kx_ws)
    (hd : decode M.2.1 pc = .ok (.getfield idx, 3)) (hc : kx_is G h a (.inr (ci, fs))) (hv : fs[k]? = some v) (kk : kx_w G l M d Q kc ks (pc + 3) lv (v :: st) h) : kx_w G l M d Q kc ks pc lv (.ref a :: st) h := by
  intro p e R s m args below meth c X H locs ls cells slots hh hS hl q1 q2
  obtain ⟨hx, hb, hml, hown, -, -, -, -, hK, -⟩ := id X
  exact va_get (D := G.2.1) (cl := kx_cl) (ws := [(a, kx_cv G (.inr (ci, fs)))]) (Ts := kx_ws) hx hb (fun w hw => hK.2.1 w hw args) hin hown hK.1 (hh.P hc) 0 rfl hcl k hk (hK.2.1 _ hln args) (fun _ z => z) hv hd (kk p e R s m args below meth c X H locs ls cells slots hh hS hl q1 q2)
theorem kx_getn {a ci k N idx : Nat} {C host : String} {T : u_T} {fs : List Value} {v : Value} (hcl : kx_cl[ci]? = some (C, T, N)) (hin : ∀ w ∈ u_ws C T N, w ∈ kx_ws) (hk : k < N) (hln : Cond.fieldLinkNest M.1.cls idx (T k).1 (T k).2.1 (T k).2.2.1 host ∈ kx_ws)
    (hd : decode M.2.1 pc = .ok (.getfield idx, 3)) (hc : kx_is G h a (.inr (ci, fs))) (hv : fs[k]? = some v) (kk : kx_w G l M d Q kc ks (pc + 3) lv (v :: st) h) : kx_w G l M d Q kc ks pc lv (.ref a :: st) h := by
  intro p e R s m args below meth c X H locs ls cells slots hh hS hl q1 q2
  obtain ⟨hx, hb, hml, hown, -, -, -, -, hK, -⟩ := id X
  exact va_getN (D := G.2.1) (cl := kx_cl) (ws := [(a, kx_cv G (.inr (ci, fs)))]) (Ts := kx_ws) hx hb (fun w hw => hK.2.1 w hw args) hin hown hK.1 (hh.P hc) 0 rfl hcl k hk (hK.2.1 _ hln args) (fun _ z => z) hv hd (kk p e R s m args below meth c X H locs ls cells slots hh hS hl q1 q2)
end KXW
end
section
section KXH
variable {G : kx_G} {l : Launch} {M : kx_M} {d : Nat} {Q : Outcome → kx_H → Prop} {kc ks pc : Nat} {lv : kx_L} {st : List Value} {h : kx_H} {t : kx_T}
/-! fields are written -/
theorem kx_putf {a ci k N idx : Nat} {C : String} {T : u_T} {ty0 : Nat → FieldType} {ty : FieldType} {fs : List Value} {v : Value} (hcl : kx_cl[ci]? = some (C, T, N)) (hin : ∀ w ∈ u_ws C T N, w ∈ kx_ws) (hty : ∀ k, k < N → parseFieldDescriptor (T k).2.2.1 = some (ty0 k)) (hnm : ∀ a, a < N → ∀ b, b < N → a ≠ b → (T a).2.1 ≠ (T b).2.1)
    (hk : k < N) (hln : Cond.fieldLink M.1.cls idx (T k).1 (T k).2.1 (T k).2.2.1 ∈ kx_ws) (hfin : (T k).2.2.2 = false) (hd0 : parseFieldDescriptor (T k).2.2.1 = some ty)
    (hd : decode M.2.1 pc = .ok (.putfield idx, 3)) (hc : kx_is G h a (.inr (ci, fs))) (hn : narrow ty v = v) (hfit : fits ty v = true) (hlen : k < fs.length) (kk : kx_w G l M d Q kc ks (pc + 3) lv st (kx_set h a (.inr (ci, fs.set k v)))) : kx_w G l M d Q kc ks pc lv (v :: .ref a :: st) h := by
  intro p e R s m args below meth c X H locs ls cells slots hh hS hl q1 q2
  obtain ⟨hx, hb, hml, hown, -, -, -, -, hK, -⟩ := id X
  have hts : ∀ w ∈ kx_ws, w.before args s = true := fun w hw => hK.2.1 w hw args
  have hap := va_apart (own := M.1.cls) hts hin ty0 hty hnm hK.1 hcl
  obtain ⟨r, g1, cell, g2, g3, g4, g5⟩ := hh.at hc
  have hr : r = (C, T, N) := Option.some.inj (g1.symm.trans hcl)
  subst hr
  obtain ⟨hSl, hfc, kC, hkC, hkind⟩ := hK.1.1 ci _ hcl
  obtain ⟨cf, kf, fi, f, hi, hsl⟩ := hSl k hk
  have hlay := hts _ (hin _ (u_in_lay hk))
  unfold u_lay at hlay
  rw [if_neg (by rw [hfin]; decide)] at hlay
  have hst := (u_facts hfc hkC (u_lays hts hin hk) hi).1
  have h6 := u_store hfc hkC hkind hlay hi hd0 hn hfit
  refine W.putK hx hb (f := f) ⟨hown, hts _ hln, ⟨_, _, _, hi⟩, hst⟩ (by rw [g3]; exact h6) g2 g4 (by rw [hsl]; exact k2_hasslot (g5 k hk)) rfl rfl hd fun H' e1 e2 e3 => ?_
  rw [hsl] at e1 ⊢
  exact kk p e R s m args below meth c X H' _ ls cells slots (hh.set ⟨_, hcl, t_OB.to (V := updV (vp_V fs) k v) ⟨_, e1, g3, g4, t_set g5 hap hk v⟩ (fun j _ => vp_updV_set hlen v j)⟩ e2 e3) (hS.put e2 e3 hc.1) hl q1 q2
theorem kx_putn {a ci k N idx : Nat} {C host : String} {T : u_T} {ty0 : Nat → FieldType} {ty : FieldType} {fs : List Value} {v : Value} (hcl : kx_cl[ci]? = some (C, T, N)) (hin : ∀ w ∈ u_ws C T N, w ∈ kx_ws) (hty : ∀ k, k < N → parseFieldDescriptor (T k).2.2.1 = some (ty0 k)) (hnm : ∀ a, a < N → ∀ b, b < N → a ≠ b → (T a).2.1 ≠ (T b).2.1)
    (hk : k < N) (hln : Cond.fieldLinkNest M.1.cls idx (T k).1 (T k).2.1 (T k).2.2.1 host ∈ kx_ws) (hfin : (T k).2.2.2 = false) (hd0 : parseFieldDescriptor (T k).2.2.1 = some ty)
    (hd : decode M.2.1 pc = .ok (.putfield idx, 3)) (hc : kx_is G h a (.inr (ci, fs))) (hn : narrow ty v = v) (hfit : fits ty v = true) (hlen : k < fs.length) (kk : kx_w G l M d Q kc ks (pc + 3) lv st (kx_set h a (.inr (ci, fs.set k v)))) : kx_w G l M d Q kc ks pc lv (v :: .ref a :: st) h := by
  intro p e R s m args below meth c X H locs ls cells slots hh hS hl q1 q2
  obtain ⟨hx, hb, hml, hown, -, -, -, -, hK, -⟩ := id X
  have hts : ∀ w ∈ kx_ws, w.before args s = true := fun w hw => hK.2.1 w hw args
  have hap := va_apart (own := M.1.cls) hts hin ty0 hty hnm hK.1 hcl
  obtain ⟨r, g1, cell, g2, g3, g4, g5⟩ := hh.at hc
  have hr : r = (C, T, N) := Option.some.inj (g1.symm.trans hcl)
  subst hr
  obtain ⟨hSl, hfc, kC, hkC, hkind⟩ := hK.1.1 ci _ hcl
  obtain ⟨cf, kf, fi, f, hi, hsl⟩ := hSl k hk
  have hlay := hts _ (hin _ (u_in_lay hk))
  unfold u_lay at hlay
  rw [if_neg (by rw [hfin]; decide)] at hlay
  have hst := (u_facts hfc hkC (u_lays hts hin hk) hi).1
  have h6 := u_store hfc hkC hkind hlay hi hd0 hn hfit
  refine va_WputK hx hb (f := f) hown (hts _ hln) hi hst (by rw [g3]; exact h6) g2 g4 (by rw [hsl]; exact k2_hasslot (g5 k hk)) rfl rfl hd fun H' e1 e2 e3 => ?_
  rw [hsl] at e1 ⊢
  exact kk p e R s m args below meth c X H' _ ls cells slots (hh.set ⟨_, hcl, t_OB.to (V := updV (vp_V fs) k v) ⟨_, e1, g3, g4, t_set g5 hap hk v⟩ (fun j _ => vp_updV_set hlen v j)⟩ e2 e3) (hS.put e2 e3 hc.1) hl q1 q2
/-- a final field, in its own constructor -/
theorem kx_puti {a ci k N idx : Nat} {C : String} {T : u_T} {ty0 : Nat → FieldType} {ty : FieldType} {fs : List Value} {v : Value} (hcl : kx_cl[ci]? = some (C, T, N)) (hin : ∀ w ∈ u_ws C T N, w ∈ kx_ws) (hty : ∀ k, k < N → parseFieldDescriptor (T k).2.2.1 = some (ty0 k)) (hnm : ∀ a, a < N → ∀ b, b < N → a ≠ b → (T a).2.1 ≠ (T b).2.1)
    (hk : k < N) (hln : Cond.fieldLink M.1.cls idx (T k).1 (T k).2.1 (T k).2.2.1 ∈ kx_ws) (hfin : (T k).2.2.2 = true) (hnmI : M.1.name = "<init>") (hdecl : (T k).1 = M.1.cls) (hd0 : parseFieldDescriptor (T k).2.2.1 = some ty)
    (hd : decode M.2.1 pc = .ok (.putfield idx, 3)) (hc : kx_is G h a (.inr (ci, fs))) (hn : narrow ty v = v) (hfit : fits ty v = true) (hlen : k < fs.length) (kk : kx_w G l M d Q kc ks (pc + 3) lv st (kx_set h a (.inr (ci, fs.set k v)))) : kx_w G l M d Q kc ks pc lv (v :: .ref a :: st) h := by
  intro p e R s m args below meth c X H locs ls cells slots hh hS hl q1 q2
  obtain ⟨hx, hb, hml, hown, -, -, hmn, -, hK, -⟩ := id X
  have hts : ∀ w ∈ kx_ws, w.before args s = true := fun w hw => hK.2.1 w hw args
  have hap := va_apart (own := M.1.cls) hts hin ty0 hty hnm hK.1 hcl
  obtain ⟨r, g1, cell, g2, g3, g4, g5⟩ := hh.at hc
  have hr : r = (C, T, N) := Option.some.inj (g1.symm.trans hcl)
  subst hr
  obtain ⟨hSl, hfc, kC, hkC, hkind⟩ := hK.1.1 ci _ hcl
  obtain ⟨cf, kf, fi, f, hi, hsl⟩ := hSl k hk
  have hlay := hts _ (hin _ (u_in_lay hk))
  unfold u_lay at hlay
  rw [if_pos hfin] at hlay
  have hst := (u_facts hfc hkC (u_lays hts hin hk) hi).1
  have hcf : m.cls = cf := by
    obtain ⟨_, _, c', _, _, _, -, -, hf', -, -, -, hown2, -⟩ := Cond.laysFinal_spec hlay
    have e1 : c' = cf := by have := hi.symm.trans hf'; simp at this; exact this.1.symm
    rw [hdecl] at hown2
    rw [← e1]; exact Option.some.inj (hown.symm.trans hown2)
  have h6 := u_fits hfc hkC hkind (Or.inr hlay) hi hd0 hn hfit
  refine W.putFinK hx hb hown (hts _ hln) hi hst hcf (hmn.trans hnmI) (by rw [g3]; exact h6) g2 g4 (by rw [hsl]; exact k2_hasslot (g5 k hk)) rfl rfl hd fun H' e1 e2 e3 => ?_
  rw [hsl] at e1 ⊢
  exact kk p e R s m args below meth c X H' _ ls cells slots (hh.set ⟨_, hcl, t_OB.to (V := updV (vp_V fs) k v) ⟨_, e1, g3, g4, t_set g5 hap hk v⟩ (fun j _ => vp_updV_set hlen v j)⟩ e2 e3) (hS.put e2 e3 hc.1) hl q1 q2
/-! arrays -/
theorem kx_tyR {U : State} {t : Nat} {ty : FieldType} (hK : kx_K G U) (ht : kx_at[t]? = some ty) : ArrOfT U (G.2.2.1 t) ty ∧ va_RA U (G.2.2.1 t) ty := hK.1.2 t _ (kx_tys_at G ht)
theorem kx_ild {a t n : Nat} {f : Nat → Int32} {i : Int32} (ht : kx_at[t]? = some .int) (hd : decode M.2.1 pc = .ok (.iaload, 1)) (hc : kx_is G h a (.inl (t, n, .inl f))) (hin : vp_in i n)
    (kk : kx_w G l M d Q kc ks (pc + 1) lv (.int (f i.toNatClampNeg) :: st) h) : kx_w G l M d Q kc ks pc lv (.int i :: .ref a :: st) h := by
  intro p e R s m args below meth c X H locs ls cells slots hh hS hl q1 q2
  obtain ⟨hx, hb, hml, hown, -, -, -, -, hK, -⟩ := id X
  exact va_iald hx hb hK.1 (hh.P hc) 0 t rfl (kx_tys_at G ht) hin hd (kk p e R s m args below meth c X H locs ls cells slots hh hS hl q1 q2)
theorem kx_lld {a t n : Nat} {f : Nat → Int64} {i : Int32} (ht : kx_at[t]? = some .long) (hd : decode M.2.1 pc = .ok (.laload, 1)) (hc : kx_is G h a (.inl (t, n, .inr (.inl f)))) (hin : vp_in i n)
    (kk : kx_w G l M d Q kc ks (pc + 1) lv (.long (f i.toNatClampNeg) :: st) h) : kx_w G l M d Q kc ks pc lv (.int i :: .ref a :: st) h := by
  intro p e R s m args below meth c X H locs ls cells slots hh hS hl q1 q2
  obtain ⟨hx, hb, hml, hown, -, -, -, -, hK, -⟩ := id X
  exact va_lald hx hb hK.1 (hh.P hc) 0 t rfl (kx_tys_at G ht) hin hd (kk p e R s m args below meth c X H locs ls cells slots hh hS hl q1 q2)
theorem kx_dld {a t n : Nat} {f : Nat → UInt64} {i : Int32} (ht : kx_at[t]? = some .double) (hd : decode M.2.1 pc = .ok (.daload, 1)) (hc : kx_is G h a (.inl (t, n, .inr (.inr (.inr (.inl f)))))) (hin : vp_in i n)
    (kk : kx_w G l M d Q kc ks (pc + 1) lv (.double (f i.toNatClampNeg) :: st) h) : kx_w G l M d Q kc ks pc lv (.int i :: .ref a :: st) h := by
  intro p e R s m args below meth c X H locs ls cells slots hh hS hl q1 q2
  obtain ⟨hx, hb, hml, hown, -, -, -, -, hK, -⟩ := id X
  exact va_dald hx hb hK.1 (hh.P hc) 0 t rfl (kx_tys_at G ht) hin hd (kk p e R s m args below meth c X H locs ls cells slots hh hS hl q1 q2)
/-- a reference is read, out of an array of objects or of arrays -/
theorem kx_qld {a t n : Nat} {f : Nat → Option Nat} {i : Int32} {ty : FieldType} (ht : kx_at[t]? = some ty) (hrt : ty.isReference = true) (hd : decode M.2.1 pc = .ok (.aaload, 1)) (hc : kx_is G h a (.inl (t, n, .inr (.inr (.inr (.inr f)))))) (hin : vp_in i n)
    (kk : kx_w G l M d Q kc ks (pc + 1) lv (va_rf (f i.toNatClampNeg) :: st) h) : kx_w G l M d Q kc ks pc lv (.int i :: .ref a :: st) h := by
  intro p e R s m args below meth c X H locs ls cells slots hh hS hl q1 q2
  obtain ⟨hx, hb, hml, hown, -, -, -, -, hK, -⟩ := id X
  have hlt : i.toNatClampNeg < n := Nat.not_le.mp fun q => hin (Or.inr q)
  exact W.aald (v := va_rf (f i.toNatClampNeg)) (ty := ty) hx hb (hh.at hc) ((kx_tyR hK ht).1 n (fun j => va_rf (f j))) hrt (fun q => by cases q) (by show ¬ (i < 0 ∨ (arrV _ _ _).slots.size ≤ _); rw [arrV_size]; exact hin) (by show (arrV _ _ _).slots[_]? = _; rw [arrV_read _ _ hlt]) rfl rfl hd (kk p e R s m args below meth c X H locs ls cells slots hh hS hl q1 q2)
theorem kx_alen {a t : Nat} {x : vp_A} {ty : FieldType} (ht : kx_at[t]? = some ty) (hd : decode M.2.1 pc = .ok (.arraylength, 1)) (hc : kx_is G h a (.inl (t, x)))
    (kk : kx_w G l M d Q kc ks (pc + 1) lv (.int (Int32.ofNat x.1) :: st) h) : kx_w G l M d Q kc ks pc lv (.ref a :: st) h := by
  intro p e R s m args below meth c X H locs ls cells slots hh hS hl q1 q2
  obtain ⟨hx, hb, hml, hown, -, -, -, -, hK, -⟩ := id X
  exact va_alen hx hb hK.1 (hh.P hc) 0 t rfl (kx_tys_at G ht) rfl hd (kk p e R s m args below meth c X H locs ls cells slots hh hS hl q1 q2)
theorem kx_ist {a t n : Nat} {f : Nat → Int32} {i x : Int32} (ht : kx_at[t]? = some .int) (hd : decode M.2.1 pc = .ok (.iastore, 1)) (hc : kx_is G h a (.inl (t, n, .inl f))) (hin : vp_in i n)
    (kk : kx_w G l M d Q kc ks (pc + 1) lv st (kx_set h a (.inl (t, n, .inl (va_up f i.toNatClampNeg x))))) : kx_w G l M d Q kc ks pc lv (.int x :: .int i :: .ref a :: st) h := by
  intro p e R s m args below meth c X H locs ls cells slots hh hS hl q1 q2
  obtain ⟨hx, hb, hml, hown, -, -, -, -, hK, -⟩ := id X
  refine W.iast hx hb (hh.at hc) ((kx_tyR hK ht).1 n (fun j => .int (f j))) (fun q => by cases q) (by show ¬ (i < 0 ∨ (arrV _ _ _).slots.size ≤ _); rw [arrV_size]; exact hin) rfl rfl hd fun H1 e1 z oq => ?_
  refine kk p e R s m args below meth c X H1 _ ls cells slots (hh.set ?_ z oq) (hS.put z oq hc.1) hl q1 q2
  show H1[a]? = some (vp_cell _ _)
  rw [e1]
  show some ((arrV _ _ _).setSlot _ _) = _
  rw [vp_cell_i, arrV_store]
  congr 2
  funext q
  by_cases hq : q = i.toNatClampNeg
  · subst hq
    simp [updV, va_up]
  · simp [updV, va_up, hq]
theorem kx_lst {a t n : Nat} {f : Nat → Int64} {i : Int32} {x : Int64} (ht : kx_at[t]? = some .long) (hd : decode M.2.1 pc = .ok (.lastore, 1)) (hc : kx_is G h a (.inl (t, n, .inr (.inl f)))) (hin : vp_in i n)
    (kk : kx_w G l M d Q kc ks (pc + 1) lv st (kx_set h a (.inl (t, n, .inr (.inl (va_up f i.toNatClampNeg x)))))) : kx_w G l M d Q kc ks pc lv (.long x :: .int i :: .ref a :: st) h := by
  intro p e R s m args below meth c X H locs ls cells slots hh hS hl q1 q2
  obtain ⟨hx, hb, hml, hown, -, -, -, -, hK, -⟩ := id X
  refine W.last hx hb (hh.at hc) ((kx_tyR hK ht).1 n (fun j => .long (f j))) (fun q => by cases q) (by show ¬ (i < 0 ∨ (arrV _ _ _).slots.size ≤ _); rw [arrV_size]; exact hin) rfl rfl hd fun H1 e1 z oq => ?_
  refine kk p e R s m args below meth c X H1 _ ls cells slots (hh.set ?_ z oq) (hS.put z oq hc.1) hl q1 q2
  show H1[a]? = some (vp_cell _ _)
  rw [e1]
  show some ((arrV _ _ _).setSlot _ _) = _
  rw [vp_cell_l, arrV_store]
  congr 2
  funext q
  by_cases hq : q = i.toNatClampNeg
  · subst hq
    simp [updV, va_up]
  · simp [updV, va_up, hq]
theorem kx_dst {a t n : Nat} {f : Nat → UInt64} {i : Int32} {x : UInt64} (ht : kx_at[t]? = some .double) (hd : decode M.2.1 pc = .ok (.dastore, 1)) (hc : kx_is G h a (.inl (t, n, .inr (.inr (.inr (.inl f)))))) (hin : vp_in i n)
    (kk : kx_w G l M d Q kc ks (pc + 1) lv st (kx_set h a (.inl (t, n, .inr (.inr (.inr (.inl (va_up f i.toNatClampNeg x)))))))) : kx_w G l M d Q kc ks pc lv (.double x :: .int i :: .ref a :: st) h := by
  intro p e R s m args below meth c X H locs ls cells slots hh hS hl q1 q2
  obtain ⟨hx, hb, hml, hown, -, -, -, -, hK, -⟩ := id X
  refine W.dast hx hb (hh.at hc) ((kx_tyR hK ht).1 n (fun j => .double (f j))) (fun q => by cases q) (by show ¬ (i < 0 ∨ (arrV _ _ _).slots.size ≤ _); rw [arrV_size]; exact hin) rfl rfl hd fun H1 e1 z oq => ?_
  refine kk p e R s m args below meth c X H1 _ ls cells slots (hh.set ?_ z oq) (hS.put z oq hc.1) hl q1 q2
  show H1[a]? = some (vp_cell _ _)
  rw [e1]
  show some ((arrV _ _ _).setSlot _ _) = _
  rw [vp_cell_d, arrV_store]
  congr 2
  funext q
  by_cases hq : q = i.toNatClampNeg
  · subst hq
    simp [updV, va_up]
  · simp [updV, va_up, hq]
/-- an object of the walk's heap is put into an array of its class -/
theorem kx_qst {a t n v ci N : Nat} {C : String} {T : u_T} {fs : List Value} {f : Nat → Option Nat} {i : Int32} (ht : kx_at[t]? = some (.object C)) (hcl : kx_cl[ci]? = some (C, T, N)) (hd : decode M.2.1 pc = .ok (.aastore, 1)) (hc : kx_is G h a (.inl (t, n, .inr (.inr (.inr (.inr f)))))) (hv : kx_is G h v (.inr (ci, fs))) (hin : vp_in i n)
    (kk : kx_w G l M d Q kc ks (pc + 1) lv st (kx_set h a (.inl (t, n, .inr (.inr (.inr (.inr (va_up f i.toNatClampNeg (some v))))))))) : kx_w G l M d Q kc ks pc lv (.ref v :: .int i :: .ref a :: st) h := by
  intro p e R s m args below meth c X H locs ls cells slots hh hS hl q1 q2
  obtain ⟨hx, hb, hml, hown, -, -, -, -, hK, -⟩ := id X
  have hlt : i.toNatClampNeg < n := Nat.not_le.mp fun q => hin (Or.inr q)
  have h0 : ¬ i < 0 := fun q => hin (Or.inl q)
  obtain ⟨r', hr', cellV, g1, g2, g3, -⟩ := hh.at hv
  have hcls := (hK.1.1 ci _ hcl).2
  obtain ⟨kA, comp, k1, k2, k3, -⟩ := (kx_tyR hK ht).2
  have hcomp : comp = G.2.1.1 ci := Option.some.inj (k3.symm.trans hcls.1)
  subst hcomp
  obtain ⟨kC, hkC, -⟩ := hcls.2
  refine W.aast hx hb (hh.at hc) (fun q h => by cases h) (fun h => by cases h) k1 k2 rfl hkC ⟨h0, by show _ < (arrV _ _ _).slots.size; rw [arrV_size]; exact hlt⟩ g1 (fun q h => by rw [g3] at h; cases h) (by rw [g2]; exact hkC) (by rw [g2]; exact va_assign hcls) rfl rfl hd fun H1 e1 z oq => ?_
  refine kk p e R s m args below meth c X H1 _ ls cells slots (hh.set ?_ z oq) (hS.put z oq hc.1) hl q1 q2
  show H1[a]? = some (vp_cell _ _)
  rw [e1]
  show some ((arrV _ _ _).setSlot _ _) = _
  rw [vp_cell_q, arrV_store]
  congr 2
  funext q
  by_cases hq : q = i.toNatClampNeg
  · subst hq
    simp [updV, va_up, va_rf]
  · simp [updV, va_up, hq]
theorem kx_qstN {a t n : Nat} {C : String} {f : Nat → Option Nat} {i : Int32} (ht : kx_at[t]? = some (.object C)) (hd : decode M.2.1 pc = .ok (.aastore, 1)) (hc : kx_is G h a (.inl (t, n, .inr (.inr (.inr (.inr f)))))) (hin : vp_in i n)
    (kk : kx_w G l M d Q kc ks (pc + 1) lv st (kx_set h a (.inl (t, n, .inr (.inr (.inr (.inr (va_up f i.toNatClampNeg none)))))))) : kx_w G l M d Q kc ks pc lv (.null :: .int i :: .ref a :: st) h := by
  intro p e R s m args below meth c X H locs ls cells slots hh hS hl q1 q2
  obtain ⟨hx, hb, hml, hown, -, -, -, -, hK, -⟩ := id X
  refine va_WaastN (C := C) hx hb (hh.at hc) ((kx_tyR hK ht).1 n (fun j => va_rf (f j))) (fun h => by cases h) (by show ¬ (i < 0 ∨ (arrV _ _ _).slots.size ≤ _); rw [arrV_size]; exact hin) rfl rfl hd fun H1 e1 z oq => ?_
  refine kk p e R s m args below meth c X H1 _ ls cells slots (hh.set ?_ z oq) (hS.put z oq hc.1) hl q1 q2
  show H1[a]? = some (vp_cell _ _)
  rw [e1]
  show some ((arrV _ _ _).setSlot _ _) = _
  rw [vp_cell_q, arrV_store]
  congr 2
  funext q
  by_cases hq : q = i.toNatClampNeg
  · subst hq
    simp [updV, va_up, va_rf]
  · simp [updV, va_up, hq]
/-! new objects and arrays -/
theorem kx_newo {ci N idx : Nat} {C : String} {T : u_T} {ty0 : Nat → FieldType} {fs : List Value} (hcl : kx_cl[ci]? = some (C, T, N)) (hin : ∀ w ∈ u_ws C T N, w ∈ kx_ws) (hty : ∀ k, k < N → parseFieldDescriptor (T k).2.2.1 = some (ty0 k)) (hln : Cond.classLink M.1.cls idx C ∈ kx_ws) (hins : Cond.instantiable C N ∈ kx_ws) (hini : Cond.initialized C ∈ kx_ws) (hfs : ∀ j, j < N → defaultValue (ty0 j) = vp_V fs j)
    (hd : decode M.2.1 pc = .ok (.new idx, 3)) (kk : kx_w G l M d Q kc ks (pc + 3) lv (.ref h.1 :: st) (kx_new h (.inr (ci, fs)))) : kx_w G l M d Q (kc + 1) (ks + N) pc lv st h := by
  intro p e R s m args below meth c X H locs ls cells slots hh hS hl q1 q2
  obtain ⟨hx, hb, hml, hown, -, -, -, -, hK, -⟩ := id X
  have hts : ∀ w ∈ kx_ws, w.before args s = true := fun w hw => hK.2.1 w hw args
  have hKn := hK.1.1 ci _ hcl
  refine W.newcK hx hb hown (hts _ hln) (hts _ hins) (hts _ hini) rfl hd (by omega) (by omega) hKn.2.1 hh.1 fun H1 kC hkC e1 z1 o1 => ?_
  refine kk p e R s m args below meth c X H1 locs ls (cells + 1) (slots + N) (hh.push ⟨_, hcl, (u_born ty0 hts hin hKn hkC e1 hty).to hfs⟩ (by rw [hh.1]; exact z1) (by rw [hh.1]; exact o1)) (kx_S.push hS (by rw [hh.1]; exact z1) (by rw [hh.1]; exact o1)) hl (by omega) (by omega)
theorem kx_newi {t : Nat} {ty : FieldType} {atype : ArrayType} {n : Int32} {N : Nat} {a0 : vp_A} (ht : kx_at[t]? = some ty) (hat : newarray.typeOf atype = ty) (hw : Cond.arrayClass ty ∈ kx_ws) (hnr : va_RA = va_RA ∧ ty.isReference = false) (ha : ∀ cA : ClassId, vp_cell cA a0 = arrV cA N (fun _ => defaultValue ty)) (hn : ¬ n < 0) (hN : n.toNatClampNeg = N) (hby : N * componentBytes ty ≤ 536870912)
    (hd : decode M.2.1 pc = .ok (.newarray atype, 2)) (kk : kx_w G l M d Q kc ks (pc + 2) lv (.ref h.1 :: st) (kx_new h (.inl (t, a0)))) : kx_w G l M d Q (kc + 1) (ks + N) pc lv (.int n :: st) h := by
  subst hat
  intro p e R s m args below meth c X H locs ls cells slots hh hS hl q1 q2
  obtain ⟨hx, hb, hml, hown, -, -, -, -, hK, -⟩ := id X
  refine va_newaK hx hb (hK.2.1 _ hw args) rfl hd rfl hn hN hby (by omega) (by omega) hh.1 fun H1 cA e1 z1 o1 hAr hNm => ?_
  have hcA : cA = G.2.2.1 t := by
    have h9 := (kx_tyR hK ht).2
    cases atype <;> exact Option.some.inj (hNm.symm.trans h9)
  subst hcA
  refine kk p e R s m args below meth c X H1 locs ls (cells + 1) (slots + N) (hh.push ?_ (by rw [hh.1]; exact z1) (by rw [hh.1]; exact o1)) (kx_S.push hS (by rw [hh.1]; exact z1) (by rw [hh.1]; exact o1)) hl (by omega) (by omega)
  show H1[h.1]? = some (vp_cell _ _)
  rw [ha]
  exact e1
theorem kx_newq {t idx : Nat} {C : String} {n : Int32} {N : Nat} (ht : kx_at[t]? = some (.object C)) (hln : Cond.classLink M.1.cls idx C ∈ kx_ws) (hov : Cond.arrayOver (.object C) ∈ kx_ws) (hn : ¬ n < 0) (hN : n.toNatClampNeg = N) (hby : N * 4 ≤ 536870912)
    (hd : decode M.2.1 pc = .ok (.anewarray idx, 3)) (kk : kx_w G l M d Q kc ks (pc + 3) lv (.ref h.1 :: st) (kx_new h (.inl (t, N, .inr (.inr (.inr (.inr (fun _ => none)))))))) : kx_w G l M d Q (kc + 1) (ks + N) pc lv (.int n :: st) h := by
  subst hN
  intro p e R s m args below meth c X H locs ls cells slots hh hS hl q1 q2
  obtain ⟨hx, hb, hml, hown, -, -, -, -, hK, -⟩ := id X
  refine W.anew hx hb hown (hK.2.1 _ hln args) (hK.2.1 _ hov args) rfl hd rfl hn hby (by omega) (by omega) fun cA kA comp f1 f2 f3 f4 => ?_
  have hcA : cA = G.2.2.1 t := by
    obtain ⟨_, _, -, -, -, h9⟩ := (kx_tyR hK ht).2
    exact Option.some.inj (f1.symm.trans h9)
  subst hcA
  generalize hH1 : H.push ({ cls := G.2.2.1 t, slots := Array.replicate n.toNatClampNeg .null, vm := .none } : Cell) = H1
  have z1 : H1.size = H.size + 1 := by rw [← hH1, Array.size_push]
  have e1 : H1[H.size]? = some (arrV (G.2.2.1 t) n.toNatClampNeg (fun _ => .null)) := by rw [← hH1, Array.getElem?_push_size, ← arrV_new]
  have o1 : ∀ q : Nat, q < H.size → H1[q]? = H[q]? := fun q hq => by rw [← hH1, Array.getElem?_push, if_neg (Nat.ne_of_lt hq)]
  have hsz : H.size = h.1 := hh.1
  rw [hsz]
  refine kk p e R s m args below meth c X H1 locs ls (cells + 1) (slots + n.toNatClampNeg) (hh.push ?_ z1 o1) (kx_S.push hS z1 o1) hl (by omega) (by omega)
  show H1[h.1]? = some (vp_cell _ _)
  rw [vp_cell_q, ← hsz]
  exact e1
/-! Object.<init>, Math.max -/
theorem kx_obj {a idx : Nat} (hln : Cond.methodLink M.1.cls idx Lib.objectInit ∈ kx_ws) (hi : Cond.instanceMethod Lib.objectInit ∈ kx_ws) (hcd : Cond.code Lib.objectInit ⟨#[0xb1]⟩ 1 none ∈ kx_ws) (hst : (st.map fun v => v.category).sum ≤ 8)
    (hd : decode M.2.1 pc = .ok (.invokespecial idx, 3)) (kk : kx_w G l M d Q kc ks (pc + 3) lv st h) : kx_w G l M d Q kc ks pc lv (.ref a :: st) h := by
  intro p e R s m args below meth c X H locs ls cells slots hh hS hl q1 q2
  obtain ⟨hx, hb, hml, hown, -, -, -, -, hK, -, hfr, hlo, -⟩ := id X
  refine W.objInit hx hb hown (hK.2.1 _ hln args) (hK.2.1 _ hi args) (hK.2.1 _ hcd args) rfl (by rw [hml]; exact hl.1) rfl hd (by omega) (by show 2 * 0 + _ + 12 ≤ _; omega) ?_
  exact kk p e R s m args below meth c X H locs ls cells slots hh hS hl q1 q2
theorem kx_max {idx : Nat} {x y : Int32} (hln : Cond.methodLink M.1.cls idx Lib.Math.max.name ∈ kx_ws) (hs : Cond.static Lib.Math.max.name ∈ kx_ws) (hi : Cond.initialized "java/lang/Math" ∈ kx_ws) (hcd : Cond.code Lib.Math.max.name Lib.Math.max.code 2 (some .int) ∈ kx_ws) (hst : (st.map fun v => v.category).sum ≤ 8)
    (hd : decode M.2.1 pc = .ok (.invokestatic idx, 3)) (kk : kx_w G l M d Q kc ks (pc + 3) lv (.int (if x < y then y else x) :: st) h) : kx_w G l M d Q kc ks pc lv (.int y :: .int x :: st) h := by
  intro p e R s m args below meth c X H locs ls cells slots hh hS hl q1 q2
  obtain ⟨hx, hb, hml, hown, -, -, -, -, hK, -, hfr, hlo, -⟩ := id X
  exact va_mmax hx hb (by rw [hml]; exact hl.1.symm) hown (hK.2.1 _ hln args) (hK.2.1 _ hs args) (hK.2.1 _ hi args) (hK.2.1 _ hcd args) (by omega) (by omega) (by omega) (by omega) hd (kk p e R s m args below meth c X H locs ls cells slots hh hS hl q1 q2)
/-! the end of a method -/
theorem kx_mq {p : Program} {e : Env} {R : Room} {s : State} {m : MethodId} {args : Array Value} {below : List Frame} {meth : Method} {c : Code} {H : Heap} {locs : List Loc} {cells slots : Nat} {g : JFrame} {r : Option Value} (hc : cells ≤ R.cells) (hs : slots ≤ R.slots) (hh : kx_hp G h H) (hq : Q (.returned r) h)
    (k : W p l e R s m args below meth c H locs R.cells R.slots (MQ below (fun _ _ o t => o = .returned r ∧ t.heap = H) args s R.cells R.slots (fun q => G.1 ≤ q)) g) : W p l e R s m args below meth c H locs cells slots (kx_Q G Q below s R) g := by
  refine W.widen hc hs ?_
  intro T hT X
  obtain ⟨t, a1, o, b1, b2, ⟨b3, b4⟩, L, b5, b6⟩ := k T hT X
  refine ⟨t, a1, o, h, b1, b2, by rw [b3]; exact hq, by rw [b4]; exact hh, L, ⟨b5.2.1, b5.2.2⟩, b6⟩
theorem kx_ret {x : Int32} {ty : FieldType} (hd : decode M.2.1 pc = .ok (.ireturn, 1)) (hr : M.2.2.2.1 = some ty) (hn : narrow ty (.int x) = .int x) (hq : Q (.returned (some (.int x))) h) : kx_w G l M d Q kc ks pc lv [.int x] h := by
  intro p e R s m args below meth c X H locs ls cells slots hh hS hl q1 q2
  obtain ⟨hx, hb, hml, hown, hrt, hlk, -⟩ := id X
  exact kx_mq (by omega) (by omega) hh hq (W.zret hx hb (hrt.trans hr) hn (fun t ht hW => ⟨rfl, ht⟩) hS.2.2 hd hlk)
theorem kx_retv (hd : decode M.2.1 pc = .ok (.return_, 1)) (hr : M.2.2.2.1 = none) (hq : Q (.returned none) h) : kx_w G l M d Q kc ks pc lv [] h := by
  intro p e R s m args below meth c X H locs ls cells slots hh hS hl q1 q2
  obtain ⟨hx, hb, hml, hown, hrt, hlk, -⟩ := id X
  exact kx_mq (by omega) (by omega) hh hq (W.vret hx hb (hrt.trans hr) (fun t ht hW => ⟨rfl, ht⟩) hS.2.2 hd hlk)
theorem kx_reta {x : Option Nat} {ty : FieldType} (hd : decode M.2.1 pc = .ok (.areturn, 1)) (hr : M.2.2.2.1 = some ty) (hty : (∃ n, ty = .object n) ∨ ∃ t, ty = .array t) (hq : Q (.returned (some (va_rf x))) h) : kx_w G l M d Q kc ks pc lv [va_rf x] h := by
  intro p e R s m args below meth c X H locs ls cells slots hh hS hl q1 q2
  obtain ⟨hx, hb, hml, hown, hrt, hlk, -⟩ := id X
  exact kx_mq (by omega) (by omega) hh hq (W.aret hx hb (hrt.trans hr) hty (va_rf_or x) (fun t ht hW => ⟨rfl, ht⟩) hS.2.2 hd hlk)
theorem kx_retl {x : Int64} (hd : decode M.2.1 pc = .ok (.lreturn, 1)) (hr : M.2.2.2.1 = some .long) (hq : Q (.returned (some (.long x))) h) : kx_w G l M d Q kc ks pc lv [.long x] h := by
  intro p e R s m args below meth c X H locs ls cells slots hh hS hl q1 q2
  obtain ⟨hx, hb, hml, hown, hrt, hlk, -⟩ := id X
  exact kx_mq (by omega) (by omega) hh hq (W.lret hx hb (hrt.trans hr) (fun t ht hW => ⟨rfl, ht⟩) hS.2.2 hd hlk)
theorem kx_retd {x : UInt64} (hd : decode M.2.1 pc = .ok (.dreturn, 1)) (hr : M.2.2.2.1 = some .double) (hq : Q (.returned (some (.double x))) h) : kx_w G l M d Q kc ks pc lv [.double x] h := by
  intro p e R s m args below meth c X H locs ls cells slots hh hS hl q1 q2
  obtain ⟨hx, hb, hml, hown, hrt, hlk, -⟩ := id X
  exact kx_mq (by omega) (by omega) hh hq (W.dret hx hb (hrt.trans hr) (fun t ht hW => ⟨rfl, ht⟩) hS.2.2 hd hlk)
end KXH
end
section
theorem kx_S.of {G : kx_G} {p : Program} {l : Launch} {e : Env} {R : Room} {s : State} {m : MethodId} {args : Array Value} {below : List Frame} {meth : Method} {c : Code} {T : State} {locs : List Loc} {cells slots : Nat} (X : Stand p l e R s m args below meth c T locs cells slots) (hA : ∀ q ∈ locs, G.1 ≤ q.base) : va_S (fun q => G.1 ≤ q) s.heap T.heap locs := by
  obtain ⟨-, h2, -, -, -, h6⟩ := X.same
  refine ⟨h2, fun q h1 hn => ?_, hA⟩
  have hq : s.heap[q]? = some s.heap[q] := Array.getElem?_eq_getElem h1
  obtain ⟨c', g1, g2, g3, g4⟩ := h6 q _ hq
  have g5 : T.heap[q]? = some c' := g1
  have g6 : c'.slots = (s.heap[q]).slots := Array.ext_getElem? (fun i => g4 i (fun hm => hn (hA _ hm)))
  have g7 : c' = s.heap[q] := by rw [g2, g6]
  rw [g5, g7]
  exact hq.symm
/-! ===== contracts, and calls that may come back or throw ===== -/
def kx_cd (M : kx_M) : Cond := if M.2.2.2.2 = [] then .code M.1 M.2.1 M.2.2.1 M.2.2.2.1 else .codeWith M.1 M.2.1 M.2.2.1 M.2.2.2.1 M.2.2.2.2
theorem kx_cd_spec {M : kx_M} {A : Array Value} {U : State} (hw : (kx_cd M).before A U = true) : ∃ (m : MethodId) (meth : Method) (c : Code), U.methodNamed? M.1 = some m ∧ U.vm.method? m = some meth ∧ meth.code = some c ∧ c.code = M.2.1 ∧ c.maxLocals = M.2.2.1 ∧
    c.exceptionTable.toList.map (fun h => (h.startPc, h.endPc, h.handlerPc, h.catchType)) = M.2.2.2.2 ∧ meth.sig.returnType = M.2.2.2.1 ∧ meth.locks = false ∧ parseMethodDescriptor M.1.desc = some meth.sig := by
  unfold kx_cd at hw
  by_cases e : M.2.2.2.2 = []
  · rw [if_pos e] at hw
    obtain ⟨mk, hn⟩ := Cond.code_named hw
    obtain ⟨meth, c, h1, h2, h3, h4, h5, h6, h7, h8⟩ := Cond.code_spec hn hw
    refine ⟨mk, meth, c, hn, h1, h2, h3, h4, ?_, h5, h6, h8⟩
    have h9 : c.exceptionTable.toList = [] := by simpa using h7
    rw [h9, e]
    rfl
  · rw [if_neg e] at hw
    exact Cond.codeWith_spec hw
def kx_rm (d mc ms : Nat) : Room := { frames := d + 12, cells := mc, slots := ms, locals := 100 * d + 400 }
def kx_P (G : kx_G) (as : List Value) (h : kx_H) : Array Value → State → Prop := fun v U => v = as.toArray ∧ kx_hp G h U.heap ∧ kx_K G U
/-- from the heap h, with these arguments, d calls deep at the most, M comes to an end with Q, and makes at the most mc cells of ms slots -/
def kx_c (G : kx_G) (l : Launch) (M : kx_M) (d mc ms : Nat) (as : List Value) (h : kx_H) (Q : Outcome → kx_H → Prop) : Prop :=
  MetFree l M.1 (headSpec [kx_cd M] (kx_rm d mc ms)) (kx_P G as h) (fun _ _ _ _ _ => True) (fun _ st o t => ∃ h' : kx_H, Q o h' ∧ kx_hp G h' t.heap ∧ ∃ L : List Loc, kx_E st t L mc ms ∧ ∀ q ∈ L, G.1 ≤ q.base)
theorem kx_in {G : kx_G} {l : Launch} {M : kx_M} {d mc ms : Nat} {as : List Value} {h : kx_H} {Q : Outcome → kx_H → Prop} (hy : plainName M.1.cls = true) (hlen : (lg_sl as).length ≤ M.2.2.1) (hst : l.stackTraces = false)
    (k : kx_w G l M d Q mc ms 0 (lv_args 0 as) [] h) : kx_c G l M d mc ms as h Q := by
  refine MetFree.of_bodyS (code := M.2.1) (maxLocals := M.2.2.1) (ret := M.2.2.2.1) hy ?_ ?_
  · intro args s m hp hn
    obtain ⟨m', meth, c, e0, e1, e2, e3, e4, -, e5, e6, -⟩ := kx_cd_spec (atoms_spec (ws := [kx_cd M]) hp _ List.mem_cons_self)
    cases hn.symm.trans e0
    exact ⟨meth, c, e1, e2, e3, e4, e5, e6⟩
  · intro p e s m args below meth c s₁ B hml hP _
    obtain ⟨rfl, hh, hK⟩ := hP
    have hh0 : s₁.heap = s.heap := by rw [B.state]; rfl
    obtain ⟨m', meth', c', e0, e1, e2, e3, e4, e5, e6, e7, e8⟩ := kx_cd_spec (atoms_spec (ws := [kx_cd M]) B.pre _ List.mem_cons_self)
    cases B.named.symm.trans e0
    cases B.method.symm.trans e1
    cases (Stand.of_body B).code.symm.trans e2
    have X : kx_X G l M d p (kx_rm d mc ms) s m meth c := ⟨B.exec, B.bytes, hml, findClass_of_methodNamed B.named, B.returns, B.notSynchronized, (name_of_methodNamed B.named B.method).1, e5, hK, by rw [hh.1]; exact hh.2.1, Nat.le_refl _, Nat.le_refl _, hst⟩
    have hl := lv_entry as hlen
    have w := k p e (kx_rm d mc ms) s m as.toArray below meth c X s.heap [] _ 0 0 hh va_S.rf hl (by simp [kx_rm]) (by simp [kx_rm])
    obtain ⟨t, a1, o, h', b1, b2, b3, b4, b5⟩ := w s₁ hh0 (Stand.of_body B)
    refine ⟨t, o, ?_, b1, b2, h', b3, b4, b5⟩
    rw [lg_entry_eq]
    exact a1
theorem kx_cc {G : kx_G} {l : Launch} {M : kx_M} {d mc ms : Nat} {as : List Value} {h : kx_H} {Q Q' : Outcome → kx_H → Prop} (hq : ∀ o h, Q' o h → Q o h) (k : kx_c G l M d mc ms as h Q') : kx_c G l M d mc ms as h Q := by
  intro p e ha hc hk s m args below hf happ hP hK
  obtain ⟨n, o, h1, h2, h3, h', h4, h5⟩ := k p e ha hc hk s m args below hf happ hP hK
  exact ⟨n, o, h1, h2, h3, h', hq o h' h4, h5⟩
section KXB
variable {p : Program} {l : Launch} {e : Env} {R : Room} {s : State} {m : MethodId} {args : Array Value} {below : List Frame} {meth : Method} {c : Code} {U : State} {Ls : List Loc} {c0 s0 : Nat}
/-- the callee's run, seen from the caller's frame -/
theorem kx_bk {G : kx_G} {N : kx_M} {d mc ms len : Nat} {as : List Value} {h : kx_H} {Q : Outcome → kx_H → Prop} {g : JFrame} {ig : Instr} {mk : MethodId} (hM : kx_c G l N d mc ms as h Q) (X : Stand p l e R s m args below meth c U Ls c0 s0)
    (hg : g.method = m) (hsize : g.locals.size = c.maxLocals) (hdg : decode c.code g.pc = .ok (ig, len)) (hW : 2 * g.monitorRoom + (g.stack.map fun v => v.category).sum ≤ 8) (hn : U.methodNamed? N.1 = some mk)
    (hfr : d + 1 + 12 ≤ R.frames) (hlo : 100 * (d + 1) + 400 ≤ R.locals) (hmx : N.2.2.1 ≤ 80) (hc0 : c0 + mc ≤ R.cells) (hs0 : s0 + ms ≤ R.slots) (hini : (Cond.initialized N.1.cls).before as.toArray U = true) (hcd : (kx_cd N).before as.toArray U = true) (hP : kx_hp G h U.heap ∧ kx_K G (U.calling g mk as.toArray)) :
    ∃ (o : Outcome) (T' : State) (L : List Loc) (h' : kx_H), Stand p l e R s m args below meth c T' (Ls ++ L) (c0 + mc) (s0 + ms) ∧ (∀ q ∈ L, G.1 ≤ q.base) ∧ Q o h' ∧ kx_hp G h' T'.heap ∧
      (∀ v, o = .returned v → Steps p.tables e below (doInvoke e (U.setTop g) [] mk as.toArray).1 (T'.setTop { g with pc := g.pc + len, stack := v.toList ++ g.stack })) ∧
      (∀ x, o = .threw x → Steps p.tables e below (doInvoke e (U.setTop g) [] mk as.toArray).1 ((T'.setTop g).pushFrame (.throwing x))) := by
  obtain ⟨mk', methN, cN, e0, e1, e2, e3, e4, -, -, -, -⟩ := kx_cd_spec hcd
  cases hn.symm.trans e0
  obtain ⟨kN, hkN, -⟩ := className_of_methodNamed hn
  have hinN : kN.init = .initialized := Cond.initialized_spec (findClass_of_methodNamed hn) hkN hini
  have hA : At U g.method c below := by rw [hg]; exact X.here
  have hroom : (U.calling g mk as.toArray).hasRoom e.platform (kx_rm d mc ms) = true := X.room_calling (g := g) (R' := kx_rm d mc ms) hsize e1 e2 (by have z1 : (kx_rm d mc ms).frames = d + 12 := rfl; omega) (by have z1 : (kx_rm d mc ms).locals = 100 * d + 400 := rfl; omega) hc0 hs0
  have happ : (headSpec [kx_cd N] (kx_rm d mc ms)).appliesLoose N.1 e.platform (U.calling g mk as.toArray) = true :=
    Spec.appliesLoose_calling (g := g) hA hdg hn hkN hinN hroom (atoms_intro (ws := [kx_cd N]) fun w hw => by rw [List.mem_singleton.mp hw]; exact hcd)
  obtain ⟨mid, hmid⟩ := hA.above
  have hframes : (U.setTop g).frames = (.java g :: mid) ++ below := by rw [State.frames_setTop' g hA.top, hmid]; rfl
  obtain ⟨o, t, hgo, -, hend, h', hQ, hheap, L, ⟨hWt, u1, u2, u3, u4, u5, u6⟩, hL⟩ := Steps.callFree hM p X.admits X.cas X.clock (acts := []) hframes happ ⟨rfl, by exact hP.1, hP.2⟩ trivial
  rw [State.frames_setTop' g hA.top] at hend
  have hvm : U.WarmedH t.vm := hWt
  have ht : t = ({ (U.calling g mk as.toArray).setFrames t.frames with heap := t.heap, slotsUsed := t.slotsUsed } : State).setVm t.vm := by
    have z : t = ({ t with vm := (U.calling g mk as.toArray).vm } : State).setVm t.vm := rfl
    rw [show ({ t with vm := (U.calling g mk as.toArray).vm } : State) = { (U.calling g mk as.toArray).setFrames t.frames with heap := t.heap, slotsUsed := t.slotsUsed } from u1] at z
    exact z
  obtain ⟨f0, hf0⟩ := Option.isSome_iff_exists.mp hA.top
  obtain ⟨fr, hfr0⟩ := State.topJava?_eq_some.mp hf0
  have hfr1 : (({ U with heap := t.heap, slotsUsed := t.slotsUsed } : State).setVm t.vm).frames = .java f0 :: fr := hfr0
  have hsame : U.sameButNew ({ U with heap := t.heap, slotsUsed := t.slotsUsed } : State) L mc ms := by
    refine ⟨?_, u2, u3, u4, u5, u6⟩
    obtain ⟨z, hz, -⟩ := State.frames_cons hfr0
    show ({ U with heap := t.heap, slotsUsed := t.slotsUsed } : State) = { U.setFrames U.frames with heap := t.heap, slotsUsed := t.slotsUsed }
    rw [State.setFrames_self hz]
  have X' : Stand p l e R s m args below meth c (({ U with heap := t.heap, slotsUsed := t.slotsUsed } : State).setVm t.vm) (Ls ++ L) (c0 + mc) (s0 + ms) :=
    ⟨X.admits, X.cas, X.clock, X.frames, X.room, X.hears, X.method, X.code, (X.here.setHeapUsed t.heap t.slotsUsed).setVm hvm.alike, X.tail, State.WarmedH.trans X.warmed hvm, X.limits, X.bytes, X.same.trans (hsame.setVm s.vm)⟩
  refine ⟨o, _, L, h', X', hL, hQ, hheap, ?_, ?_⟩
  · intro v ho
    subst ho
    obtain ⟨c2, i2, len2, hc2, hd2, hf2⟩ := hend
    have hcc : c2 = c := by
      have q1 : t.code? g.method = U.code? g.method := by rw [State.code?_eq, State.code?_eq, hvm.alike.method?]
      exact Option.some.inj (hc2.symm.trans (q1.trans hA.code))
    subst hcc
    have hl2 : len2 = len := by rw [hdg] at hd2; cases hd2; rfl
    subst hl2
    have key : t = (({ U with heap := t.heap, slotsUsed := t.slotsUsed } : State).setVm t.vm).setTop { g with pc := g.pc + len2, stack := v.toList ++ g.stack } := by
      refine ht.trans ?_
      rw [hf2, State.calling_eq hA.top, State.setFrames_setFrames, State.setTop_of_frames _ hfr1, hfr0]
      rfl
    rw [← key]
    exact hgo
  · intro x ho
    subst ho
    have hf2 : t.frames = .throwing x :: .java g :: U.frames.tail := hend
    have key : t = ((({ U with heap := t.heap, slotsUsed := t.slotsUsed } : State).setVm t.vm).setTop g).pushFrame (.throwing x) := by
      refine ht.trans ?_
      rw [hf2, State.calling_eq hA.top, State.setFrames_setFrames, State.pushFrame, State.frames_setTop _ hfr1, State.setTop_of_frames _ hfr1, State.setFrames_setFrames, hfr0]
      rfl
    rw [← key]
    exact hgo
end KXB
/-- in M, at pc, the exception x is on its way -/
def kx_t (G : kx_G) (l : Launch) (M : kx_M) (d : Nat) (Q : Outcome → kx_H → Prop) (kc ks pc : Nat) (lv : kx_L) (x : Nat) (h : kx_H) : Prop :=
  ∀ (p : Program) (e : Env) (R : Room) (s : State) (m : MethodId) (args : Array Value) (below : List Frame) (meth : Method) (c : Code), kx_X G l M d p R s m meth c →
  ∀ (H : Heap) (locs : List Loc) (ls : Array Slot) (st : List Value) (cells slots : Nat), kx_hp G h H → va_S (fun q => G.1 ≤ q) s.heap H locs → lv_has ls M.2.2.1 lv → cells + kc ≤ R.cells → slots + ks ≤ R.slots →
  ∀ T : State, T.heap = H → Stand p l e R s m args below meth c T locs cells slots → ∃ t : State, Steps p.tables e below ((T.setTop (F0 m pc ls st)).pushFrame (.throwing x)) t ∧ kx_Q G Q below s R t
/-- how the callee's end is taken up -/
def kx_k (G : kx_G) (l : Launch) (M : kx_M) (d : Nat) (Q : Outcome → kx_H → Prop) (kc ks pc : Nat) (lv : kx_L) (st : List Value) (o : Outcome) (h : kx_H) : Prop := match o with
  | .returned v => kx_w G l M d Q kc ks (pc + 3) lv (v.toList ++ st) h
  | .threw x => kx_t G l M d Q kc ks pc lv x h
section KXC
variable {G : kx_G} {l : Launch} {M N : kx_M} {d mc ms : Nat} {Q Qc : Outcome → kx_H → Prop} {kc ks pc idx b : Nat} {lv : kx_L} {st as : List Value} {h : kx_H}
theorem kx_step {p : Program} {e : Env} {R : Room} {s : State} {m : MethodId} {args : Array Value} {below : List Frame} {meth : Method} {c : Code} {H : Heap} {locs : List Loc} {ls : Array Slot} {cells slots : Nat} {T : State} {vm₁ : Vm} {mk : MethodId} {ig : Instr} {av : List Value}
    (X : kx_X G l M (d + 1) p R s m meth c) (hh : kx_hp G h H) (hS : va_S (fun q => G.1 ≤ q) s.heap H locs) (hl : lv_has ls M.2.2.1 lv) (q1 : cells + (kc + mc) ≤ R.cells) (q2 : slots + (ks + ms) ≤ R.slots) (hT : T.heap = H) (X₁ : Stand p l e R s m args below meth c (T.setVm vm₁) locs cells slots)
    (hM : kx_c G l N d mc ms av h Qc) (hk : ∀ o h', Qc o h' → kx_k G l M (d + 1) Q kc ks pc lv st o h') (hmx : N.2.2.1 ≤ 80) (hst : (st.map fun v => v.category).sum ≤ 8) (hdg : decode c.code pc = .ok (ig, 3)) (hn : s.methodNamed? N.1 = some mk) (hini : Cond.initialized N.1.cls ∈ kx_ws) (hcd : kx_cd N ∈ kx_ws)
    (hsteps : ∀ target, Steps p.tables e below (doInvoke e ((T.setVm vm₁).setTop (F0 m pc ls st)) [] mk av.toArray).1 target → Steps p.tables e below (T.setTop (F0 m pc ls (av.reverse ++ st))) target) : ∃ t : State, Steps p.tables e below (T.setTop (F0 m pc ls (av.reverse ++ st))) t ∧ kx_Q G Q below s R t := by
  have hX := X
  obtain ⟨hx, hb, hml, hown, -, -, -, -, hK, hbs, hfr, hlo, -⟩ := hX
  have hK1 : kx_K G (T.setVm vm₁) := kx_K.moved hK X₁.warmed (H := H) hT hS hbs
  have hK2 : kx_K G ((T.setVm vm₁).calling (F0 m pc ls st) mk av.toArray) := kx_K.calling hK1
  obtain ⟨o, T', L, h', X', hL, hQ, hp', hr, ht⟩ := kx_bk (g := F0 m pc ls st) hM X₁ rfl (by rw [hml]; exact hl.1) hdg (by show 2 * 0 + (st.map fun v => v.category).sum ≤ 8; omega) (X₁.named hn) hfr hlo hmx (by omega) (by omega) (hK1.2.1 _ hini _) (hK1.2.1 _ hcd _) ⟨by rw [show (T.setVm vm₁).heap = H from hT]; exact hh, hK2⟩
  have hS' : va_S (fun q => G.1 ≤ q) s.heap T'.heap (locs ++ L) := kx_S.of X' (fun q hq => by
    rcases List.mem_append.mp hq with z | z
    · exact hS.2.2 q z
    · exact hL q z)
  have hkk := hk o h' hQ
  cases o with
  | returned v =>
    obtain ⟨t, a1, a2⟩ := (hkk : kx_w G l M (d + 1) Q kc ks (pc + 3) lv (v.toList ++ st) h') p e R s m args below meth c X T'.heap (locs ++ L) ls (cells + mc) (slots + ms) hp' hS' hl (by omega) (by omega) T' rfl X'
    exact ⟨t, (hsteps _ (hr v rfl)).trans a1, a2⟩
  | threw x =>
    obtain ⟨t, a1, a2⟩ := (hkk : kx_t G l M (d + 1) Q kc ks pc lv x h') p e R s m args below meth c X T'.heap (locs ++ L) ls st (cells + mc) (slots + ms) hp' hS' hl (by omega) (by omega) T' rfl X'
    exact ⟨t, (hsteps _ (ht x rfl)).trans a1, a2⟩
end KXC
end
section
/-! ===== the calls' own instructions ===== -/
section KXV
variable {G : kx_G} {l : Launch} {M N : kx_M} {d mc ms : Nat} {Q Qc : Outcome → kx_H → Prop} {kc ks pc idx b : Nat} {lv : kx_L} {st sk as : List Value} {h : kx_H}
/-- what a call of N out of M asks of the tables, whatever the instruction -/
def kx_ok (N : kx_M) (n : Nat) : Prop := Cond.initialized N.1.cls ∈ kx_ws ∧ kx_cd N ∈ kx_ws ∧ N.2.2.1 ≤ 80 ∧ (N.1.cls ≠ "java/lang/invoke/MethodHandle" ∧ N.1.cls ≠ "java/lang/invoke/VarHandle") ∧ (parseMethodDescriptor N.1.desc).map (fun z => z.parameters.length) = some n
theorem kx_ok.len {n : Nat} (k : kx_ok N n) {sig : MethodDescriptor} (hs : parseMethodDescriptor N.1.desc = some sig) : n = sig.parameters.length := by
  have h2 := k.2.2.2.2
  rw [hs] at h2
  exact (Option.some.inj h2).symm
theorem kx_inv {ci NN : Nat} {T0 : u_T} {fs : List Value} {host : String} (hk0 : kx_ok N as.length) (hln : Cond.methodLinkNest M.1.cls idx N.1 host ∈ kx_ws ∨ Cond.methodLink M.1.cls idx N.1 ∈ kx_ws) (hin : Cond.instanceMethod N.1 ∈ kx_ws) (hse : Cond.selects N.1.cls N.1 N.1 ∈ kx_ws) (hcl : kx_cl[ci]? = some (N.1.cls, T0, NN)) (hd : decode M.2.1 pc = .ok (.invokevirtual idx, 3))
    (hsk : sk = as.reverse ++ .ref b :: st) (hst : (st.map fun v => v.category).sum ≤ 8) (hb0 : kx_is G h b (.inr (ci, fs))) (hM : kx_c G l N d mc ms (.ref b :: as) h Qc) (hk : ∀ o h', Qc o h' → kx_k G l M (d + 1) Q kc ks pc lv st o h') : kx_w G l M (d + 1) Q (kc + mc) (ks + ms) pc lv sk h := by
  subst hsk
  intro p e R s m args below meth c X H locs ls cells slots hh hS hl q1 q2 T hT Y
  have hX := X
  obtain ⟨hx, hb, hml, hown, -, -, -, -, hK, hbs, hfr, hlo, -⟩ := hX
  obtain ⟨mk, methM, hnamed, hmethM, hstM, habM⟩ := Cond.instanceMethod_spec (hK.2.1 _ hin args)
  obtain ⟨mk', methN, cN, e0, e1, e2, e3, e4, -, -, -, e8⟩ := kx_cd_spec (hK.2.1 _ hk0.2.1 args)
  cases hnamed.symm.trans e0
  cases hmethM.symm.trans e1
  obtain ⟨r', hr', cellB, g1, g2, g3, -⟩ := hh.at hb0
  have hcls : s.vm.findClass N.1.cls = some cellB.cls := by rw [g2]; exact (hK.1.1 ci _ hcl).2.1
  obtain ⟨c2, r2, m2, w1, w2, w3, w4, kP, hkP, hkPi⟩ := Cond.selects_spec (hK.2.1 _ hse args)
  cases hcls.symm.trans w1
  cases (State.methodFound?_of_named hnamed hk0.2.2.2.1).symm.trans w2
  cases hnamed.symm.trans w3
  have hselP : selectMethod e.platform s.vm cellB.cls mk = .method mk := by rw [Launch.admits_selectMethod Y.admits]; exact w4
  have hdg : decode c.code pc = .ok (.invokevirtual idx, 3) := by rw [hb]; exact hd
  have hcT : T.heap[b]? = some cellB := by rw [hT]; exact g1
  have hno : ∀ z, cellB.vm ≠ .statics z := fun z hz => by rw [g3] at hz; cases hz
  obtain ⟨vm₁, X₁, hgo⟩ : ∃ vm₁, Stand p l e R s m args below meth c (T.setVm vm₁) locs cells slots ∧
      ∀ target, (∀ acts, Steps p.tables e below (doInvoke e ((T.setVm vm₁).setTop (F0 m pc ls st)) acts mk (.ref b :: as).toArray).1 target) → Steps p.tables e below (T.setTop (F0 m pc ls (as.reverse ++ .ref b :: st))) target := by
    rcases hln with hln | hln
    · exact Y.invokevirtualNest hx hown (hK.2.1 _ hln args) hnamed hmethM hstM hkP hkPi hk0.2.2.2.1 (a := b) (cell := cellB) hcT hno hselP hmethM habM hkP hkPi (g := F0 m pc ls (as.reverse ++ .ref b :: st)) rfl (argsL := as) (rest := st) (hk0.len e8) rfl hdg
    · exact Y.invokevirtual hx hown (hK.2.1 _ hln args) hnamed hmethM hstM hkP hkPi hk0.2.2.2.1 (a := b) (cell := cellB) hcT hno hselP hmethM habM hkP hkPi (g := F0 m pc ls (as.reverse ++ .ref b :: st)) rfl (argsL := as) (rest := st) (hk0.len e8) rfl hdg
  have ea : (Value.ref b :: as).reverse ++ st = as.reverse ++ .ref b :: st := by simp
  have fin := kx_step (vm₁ := vm₁) (st := st) X hh hS hl (kc := kc) (ks := ks) (by omega) (by omega) hT X₁ hM hk hk0.2.2.1 hst hdg hnamed hk0.1 hk0.2.1 (fun target ht => by rw [ea]; exact hgo target (fun acts => by rw [doInvoke_state]; exact ht))
  rw [ea] at fin
  exact fin
theorem kx_sti {host : String} (hk0 : kx_ok N as.length) (hln : Cond.methodLinkNest M.1.cls idx N.1 host ∈ kx_ws ∨ Cond.methodLink M.1.cls idx N.1 ∈ kx_ws) (hsx : Cond.static N.1 ∈ kx_ws) (hd : decode M.2.1 pc = .ok (.invokestatic idx, 3))
    (hsk : sk = as.reverse ++ st) (hst : (st.map fun v => v.category).sum ≤ 8) (hM : kx_c G l N d mc ms as h Qc) (hk : ∀ o h', Qc o h' → kx_k G l M (d + 1) Q kc ks pc lv st o h') : kx_w G l M (d + 1) Q (kc + mc) (ks + ms) pc lv sk h := by
  subst hsk
  intro p e R s m args below meth c X H locs ls cells slots hh hS hl q1 q2 T hT Y
  have hX := X
  obtain ⟨hx, hb, hml, hown, -, -, -, -, hK, hbs, hfr, hlo, -⟩ := hX
  obtain ⟨mk, methM, cN, hnamed, hmethM, e2, e3, e4, -, -, -, e8⟩ := kx_cd_spec (hK.2.1 _ hk0.2.1 args)
  have hstatic : methM.isStatic = true := Cond.static_spec hnamed hmethM (hK.2.1 _ hsx args)
  obtain ⟨kP, hkP, -⟩ := className_of_methodNamed hnamed
  have hinitP : kP.init = .initialized := Cond.initialized_spec (findClass_of_methodNamed hnamed) hkP (hK.2.1 _ hk0.1 args)
  have hdg : decode c.code pc = .ok (.invokestatic idx, 3) := by rw [hb]; exact hd
  obtain ⟨vm₁, X₁, hgo⟩ : ∃ vm₁, Stand p l e R s m args below meth c (T.setVm vm₁) locs cells slots ∧
      ∀ target, (∀ acts, Steps p.tables e below (doInvoke e ((T.setVm vm₁).setTop (F0 m pc ls st)) acts mk as.toArray).1 target) → Steps p.tables e below (T.setTop (F0 m pc ls (as.reverse ++ st))) target := by
    rcases hln with hln | hln
    · exact Y.invokestaticNest hx hown (hK.2.1 _ hln args) hnamed hmethM hstatic hkP hinitP hk0.2.2.2.1 (g := F0 m pc ls (as.reverse ++ st)) rfl (argsL := as) (rest := st) (hk0.len e8) rfl hdg
    · exact Y.invokestatic hx hown (hK.2.1 _ hln args) hnamed hmethM hstatic hkP hinitP hk0.2.2.2.1 (g := F0 m pc ls (as.reverse ++ st)) rfl (argsL := as) (rest := st) (hk0.len e8) rfl hdg
  exact kx_step (vm₁ := vm₁) (st := st) X hh hS hl (kc := kc) (ks := ks) (by omega) (by omega) hT X₁ hM hk hk0.2.2.1 hst hdg hnamed hk0.1 hk0.2.1 (fun target ht => hgo target (fun acts => by rw [doInvoke_state]; exact ht))
theorem kx_ini {host : String} (hk0 : kx_ok N as.length) (hln : Cond.methodLinkNest M.1.cls idx N.1 host ∈ kx_ws ∨ Cond.methodLink M.1.cls idx N.1 ∈ kx_ws) (hin : Cond.instanceMethod N.1 ∈ kx_ws) (hnm : N.1.name = "<init>") (hnh : N.2.2.2.2 = [] ∧ N.2.2.2.1 = none) (hd : decode M.2.1 pc = .ok (.invokespecial idx, 3))
    (hsk : sk = as.reverse ++ .ref b :: st) (hst : (st.map fun v => v.category).sum ≤ 8) (hM : kx_c G l N d mc ms (.ref b :: as) h Qc) (hk : ∀ o h', Qc o h' → kx_k G l M (d + 1) Q kc ks pc lv st o h') : kx_w G l M (d + 1) Q (kc + mc) (ks + ms) pc lv sk h := by
  subst hsk
  intro p e R s m args below meth c X H locs ls cells slots hh hS hl q1 q2 T hT Y
  have hX := X
  obtain ⟨hx, hb, hml, hown, -, -, -, -, hK, hbs, hfr, hlo, -⟩ := hX
  have hpl : e.platform.magicAccessors = ({} : Platform).magicAccessors := by rw [Y.admits.platform]
  have hcode : (Cond.code N.1 N.2.1 N.2.2.1 none).before args s = true := by
    have z := hK.2.1 _ hk0.2.1 args
    unfold kx_cd at z
    rw [if_pos hnh.1, hnh.2] at z
    exact z
  have hdg : decode c.code pc = .ok (.invokespecial idx, 3) := by rw [hb]; exact hd
  obtain ⟨mk, vm₁, hnamed, X₁, hgo⟩ : ∃ mk vm₁, s.methodNamed? N.1 = some mk ∧ Stand p l e R s m args below meth c (T.setVm vm₁) locs cells slots ∧
      ∀ target, (∀ acts, Steps p.tables e below (doInvoke e ((T.setVm vm₁).setTop (F0 m pc ls st)) acts mk (.ref b :: as).toArray).1 target) → Steps p.tables e below (T.setTop (F0 m pc ls (as.reverse ++ .ref b :: st))) target := by
    rcases hln with hln | hln
    · obtain ⟨mk, methM, cM, kP, vm₁, hnamed, -, -, -, -, -, -, -, hW₁, hstep₁⟩ := Steps.initColdArgsNest (e := e) Y.here hx Y.warmed hpl hown hnm hk0.2.2.2.1 (hK.2.1 _ hln args) (hK.2.1 _ hin args) hcode (f := F0 m pc ls (as.reverse ++ .ref b :: st)) rfl (argsL := as) (rest := st) (fun sig hs => hk0.len hs) rfl hdg
      exact ⟨mk, vm₁, hnamed, Y.noted hW₁, hstep₁⟩
    · obtain ⟨mk, methM, cM, kP, vm₁, hnamed, -, -, -, -, -, -, -, hW₁, hstep₁⟩ := Steps.initColdArgs (e := e) Y.here hx Y.warmed hpl hown hnm hk0.2.2.2.1 (hK.2.1 _ hln args) (hK.2.1 _ hin args) hcode (f := F0 m pc ls (as.reverse ++ .ref b :: st)) rfl (argsL := as) (rest := st) (fun sig hs => hk0.len hs) rfl hdg
      exact ⟨mk, vm₁, hnamed, Y.noted hW₁, hstep₁⟩
  have ea : (Value.ref b :: as).reverse ++ st = as.reverse ++ .ref b :: st := by simp
  have fin := kx_step (vm₁ := vm₁) (st := st) X hh hS hl (kc := kc) (ks := ks) (by omega) (by omega) hT X₁ hM hk hk0.2.2.1 hst hdg hnamed hk0.1 hk0.2.1 (fun target ht => by rw [ea]; exact hgo target (fun acts => by rw [doInvoke_state]; exact ht))
  rw [ea] at fin
  exact fin
end KXV
/-! ===== an exception on its way: out of the method, or into a handler ===== -/
section KXT
variable {G : kx_G} {l : Launch} {M : kx_M} {d : Nat} {Q : Outcome → kx_H → Prop} {kc ks pc x : Nat} {lv : kx_L} {h : kx_H}
theorem kx_cov {c : Code} {pc : Nat} (hT : c.exceptionTable.toList.map (fun h => (h.startPc, h.endPc, h.handlerPc, h.catchType)) = M.2.2.2.2) (hcov : ∀ q ∈ M.2.2.2.2, ¬ (q.1 ≤ pc ∧ pc < q.2.1)) : ∀ z ∈ c.exceptionTable.toList, covers z pc = false := by
  intro z hz
  have h1 : ¬ (z.startPc ≤ pc ∧ pc < z.endPc) := hcov (z.startPc, z.endPc, z.handlerPc, z.catchType) (by rw [← hT]; exact List.mem_map.mpr ⟨z, hz, rfl⟩)
  simp only [covers, Bool.and_eq_false_iff, decide_eq_false_iff_not]
  omega
theorem kx_out (hcov : ∀ q ∈ M.2.2.2.2, ¬ (q.1 ≤ pc ∧ pc < q.2.1)) (hq : Q (.threw x) h) : kx_t G l M d Q kc ks pc lv x h := by
  intro p e R s m args below meth c X H locs ls st cells slots hh hS hl q1 q2 T hT Y
  obtain ⟨-, -, -, -, -, hlk, -, htab, -⟩ := id X
  have Y' := stand_widen Y (show cells ≤ R.cells by omega) (show slots ≤ R.slots by omega)
  obtain ⟨st1, st2, st3, st4, st5⟩ := Y'.leaveThrown x (g := F0 m pc ls st) rfl rfl rfl (kx_cov htab hcov) hlk
  exact ⟨_, st1, .threw x, h, st2, st3, hq, by show kx_hp G h T.heap; rw [hT]; exact hh, locs, ⟨st4, st5⟩, hS.2.2⟩
end KXT
end
section
/-! ===== a handler of the method's own, whose class may have to be linked first ===== -/
section KXF
variable {Q : Handler → Pre} {E : CtlPost} {e : Env} {d : Bool} {acts : List Action} {s : State} {f : JFrame} {a : Addr}
theorem kx_lnk {x : ExceptionTableEntry} {t : List ExceptionTableEntry} {k : ClassId} {cell : Cell} (hx : covers x f.pc = true) (h0 : x.catchType ≠ 0) (hl : s.vm.ClassLinks e.platform f.method.cls x.catchType k) (hcell : s.heap[a]? = some cell) (hobj : ∀ z, cell.vm ≠ .statics z)
    (hk : ∃ z, s.vm.classes[cell.cls]? = some z) (hc : ∃ z, s.vm.classes[k]? = some z) :
    wp (findHandler.go f a (x :: t)) Q E e d acts s ↔ (if s.vm.assignable cell.cls k = true then Q (.found x.handlerPc) d acts (s.setVm (s.vm.noted f.method.cls x.catchType (.cls k))) else wp (findHandler.go f a t) Q E e d acts (s.setVm (s.vm.noted f.method.cls x.catchType (.cls k)))) := by
  simp only [covers] at hx
  obtain ⟨g1, g2⟩ := (resolveClass_links e.toSetting hl).op (op := VmOp.resolveClass f.method.cls x.catchType) rfl
  have hal : s.vm.Alike (s.vm.noted f.method.cls x.catchType (.cls k)) := (Vm.Alike.refl s.vm).noted _ _ _
  obtain ⟨z1, hz1⟩ := hk
  obtain ⟨z2, hz2⟩ := hc
  obtain ⟨y1, hy1, -⟩ := hal.2.2 _ _ hz1
  obtain ⟨y2, hy2, -⟩ := hal.2.2 _ _ hz2
  have has : (s.vm.noted f.method.cls x.catchType (.cls k)).assignable cell.cls k = s.vm.assignable cell.cls k := by rw [hal.assignable]
  cases hv : s.vm.assignable cell.cls k <;>
    (rw [hv] at has; simp [findHandler.go, hx, h0, g1, g2, hcell, hobj, hy1, hy2, has, VmOp.dirties, VmOp.acts])
/-- a row of the table that doesn't take the exception -/
def kx_pas (pl : Platform) (s : State) (D : ClassId) (pc : Nat) (tc : ClassId) (y : ExceptionTableEntry) : Prop := covers y pc = false ∨ (y.catchType ≠ 0 ∧ ∃ k, s.vm.ClassLinks pl D y.catchType k ∧ s.vm.assignable tc k = false)
theorem kx_srch {s0 : State} {cell : Cell} (hobj : ∀ z, cell.vm ≠ .statics z) (hk0 : ∃ z, s0.vm.classes[cell.cls]? = some z) (x : ExceptionTableEntry) (suf : List ExceptionTableEntry) (hx : covers x f.pc = true) (h0 : x.catchType ≠ 0) {k : ClassId} (hl : s0.vm.ClassLinks e.platform f.method.cls x.catchType k) (hy : s0.vm.assignable cell.cls k = true) :
    ∀ (pre : List ExceptionTableEntry) (S : State), s0.WarmedH S.vm → S.heap[a]? = some cell → (∀ y ∈ pre, kx_pas e.platform s0 f.method.cls f.pc cell.cls y) →
      ∃ vm' : Vm, s0.WarmedH vm' ∧ ∀ (Q : Handler → Pre) (E : CtlPost) (d : Bool) (acts : List Action), wp (findHandler.go f a (pre ++ x :: suf)) Q E e d acts S ↔ Q (.found x.handlerPc) d acts (S.setVm vm') := by
  obtain ⟨k0, hk0⟩ := hk0
  intro pre
  induction pre with
  | nil =>
    intro S hW hcell _
    obtain ⟨z0, hz0, -⟩ := hW.alike.2.2 _ _ hk0
    obtain ⟨dk, _, _, kt, hd, _, _, _, _, hkt, _, hopen⟩ := hl.here
    obtain ⟨z1, hz1, -⟩ := hW.alike.2.2 _ _ hkt
    refine ⟨_, hW.noted hd hopen (State.rightAt_cls hl), fun Q E d acts => ?_⟩
    rw [List.nil_append, kx_lnk hx h0 (hW.classLinks hl) hcell hobj ⟨z0, hz0⟩ ⟨z1, hz1⟩, if_pos (by rw [hW.alike.assignable]; exact hy)]
  | cons y ys ih =>
    intro S hW hcell hp
    obtain ⟨z0, hz0, -⟩ := hW.alike.2.2 _ _ hk0
    have hp' : ∀ z ∈ ys, kx_pas e.platform s0 f.method.cls f.pc cell.cls z := fun z hz => hp z (List.mem_cons_of_mem _ hz)
    cases hcov : covers y f.pc with
    | false =>
      obtain ⟨vm', hW', hq⟩ := ih S hW hcell hp'
      refine ⟨vm', hW', fun Q E d acts => ?_⟩
      rw [List.cons_append, W.findHandler_go_skip hcov]
      exact hq Q E d acts
    | true =>
      rcases hp y List.mem_cons_self with hn | ⟨hn0, k1, hl1, hno⟩
      · rw [hn] at hcov; cases hcov
      · obtain ⟨dk, _, _, kt, hd, _, _, _, _, hkt, _, hopen⟩ := hl1.here
        obtain ⟨z1, hz1, -⟩ := hW.alike.2.2 _ _ hkt
        obtain ⟨vm', hW', hq⟩ := ih (S.setVm (S.vm.noted f.method.cls y.catchType (.cls k1))) (hW.noted hd hopen (State.rightAt_cls hl1)) hcell hp'
        refine ⟨vm', hW', fun Q E d acts => ?_⟩
        rw [List.cons_append, kx_lnk hcov hn0 (hW.classLinks hl1) hcell hobj ⟨z0, hz0⟩ ⟨z1, hz1⟩, if_neg (by rw [hW.alike.assignable, hno]; decide)]
        exact hq Q E d acts
theorem kx_stc {r : List Frame} {pc : Nat} {vm' : Vm} (hf : ∀ (Q : Handler → Pre) (E : CtlPost) (d : Bool) (acts : List Action), wp (findHandler f a) Q E e d acts s ↔ Q (.found pc) d acts (s.setVm vm')) :
    (stepThrowing e s a (.java f :: r)).1 = (s.setVm vm').setFrames (.java { f with pc := pc, stack := [.ref a] } :: r) := by
  simp only [stepThrowing, searchFrame, vmDo]
  generalize hr : Sem.go _ e false [] s = res
  obtain ⟨as, rfl, ha⟩ := Sem.eq_ok_of hr (a := Handler.found pc) (s' := s.setVm vm') (acts' := []) (by simp [hf _ _ _ _])
  rfl
end KXF
section KXG
variable {G : kx_G} {l : Launch} {M : kx_M} {d : Nat} {Q : Outcome → kx_H → Prop} {kc ks pc x : Nat} {lv : kx_L} {h : kx_H}
/-- caught by the row whose place in the table is j; those ahead of it don't take it -/
theorem kx_cat {ci NN j : Nat} {E nm : String} {T0 : u_T} {fs : List Value} {q : Nat × Nat × Nat × Nat} (hcl : kx_cl[ci]? = some (E, T0, NN)) (hxc : kx_is G h x (.inr (ci, fs))) (hj : M.2.2.2.2[j]? = some q) (hq1 : q.1 ≤ pc ∧ pc < q.2.1) (hq0 : q.2.2.2 ≠ 0) (hln : Cond.classLink M.1.cls q.2.2.2 nm ∈ kx_ws) (hca : Cond.castable E nm ∈ kx_ws)
    (hpre : ∀ i, i < j → ∀ z, M.2.2.2.2[i]? = some z → ¬ (z.1 ≤ pc ∧ pc < z.2.1) ∨ (z.2.2.2 ≠ 0 ∧ ∃ n9, Cond.classLink M.1.cls z.2.2.2 n9 ∈ kx_ws ∧ Cond.not (.castable E n9) ∈ kx_ws)) (kk : kx_w G l M d Q kc ks q.2.2.1 lv [.ref x] h) : kx_t G l M d Q kc ks pc lv x h := by
  intro p e R s m args below meth c X H locs ls st cells slots hh hS hl q1 q2 T hT Y
  have hX := X
  obtain ⟨hx, hb, hml, hown, -, hlk, -, htab, hK, -⟩ := hX
  have hpl : e.platform.magicAccessors = ({} : Platform).magicAccessors := by rw [Y.admits.platform]
  obtain ⟨r', hr', cell, g1, g2, g3, -⟩ := hh.at hxc
  have hcE : s.vm.findClass E = some cell.cls := by rw [g2]; exact (hK.1.1 ci _ hcl).2.1
  have hobj : ∀ z, cell.vm ≠ .statics z := fun z hz => by rw [g3] at hz; cases hz
  have hk0 : ∃ z, s.vm.classes[cell.cls]? = some z := Vm.classAt_of_findClass hcE
  have hlenT : M.2.2.2.2.length = c.exceptionTable.toList.length := by rw [← htab, List.length_map]
  have hjl : j < c.exceptionTable.toList.length := by rw [← hlenT]; exact (List.getElem?_eq_some_iff.mp hj).1
  have hent : ∀ i (hi : i < c.exceptionTable.toList.length), M.2.2.2.2[i]? = some ((c.exceptionTable.toList[i]).startPc, (c.exceptionTable.toList[i]).endPc, (c.exceptionTable.toList[i]).handlerPc, (c.exceptionTable.toList[i]).catchType) := by
    intro i hi
    rw [← htab, List.getElem?_map, List.getElem?_eq_getElem hi]
    rfl
  have hq : q = ((c.exceptionTable.toList[j]).startPc, (c.exceptionTable.toList[j]).endPc, (c.exceptionTable.toList[j]).handlerPc, (c.exceptionTable.toList[j]).catchType) := Option.some.inj (hj.symm.trans (hent j hjl))
  have hsplit : c.exceptionTable.toList = c.exceptionTable.toList.take j ++ c.exceptionTable.toList[j] :: c.exceptionTable.toList.drop (j + 1) := by
    rw [List.getElem_cons_drop, List.take_append_drop]
  generalize hxe : c.exceptionTable.toList[j] = xe at hq hsplit
  subst hq
  obtain ⟨k5, hk5, hl5⟩ := Cond.classLink_spec hown (hK.2.1 _ hln args) e.platform hpl
  obtain ⟨c3, c4, hc3, hc4, hasg⟩ := Cond.castable_spec (hK.2.1 _ hca args)
  cases Option.some.inj (hc3.symm.trans hcE)
  cases Option.some.inj (hc4.symm.trans hk5)
  have hcovx : covers xe pc = true := by simp only [covers, Bool.and_eq_true, decide_eq_true_eq]; exact hq1
  have hpas : ∀ y ∈ c.exceptionTable.toList.take j, kx_pas e.platform s m.cls pc cell.cls y := by
    intro y hy
    obtain ⟨i, hi, rfl⟩ := List.getElem_of_mem hy
    rw [List.length_take] at hi
    have hil : i < c.exceptionTable.toList.length := by omega
    rw [List.getElem_take]
    rcases hpre i (by omega) _ (hent i hil) with hn | ⟨hn0, n9, hw1, hw2⟩
    · refine Or.inl ?_
      have hn' : ¬ ((c.exceptionTable.toList[i]).startPc ≤ pc ∧ pc < (c.exceptionTable.toList[i]).endPc) := hn
      simp only [covers, Bool.and_eq_false_iff, decide_eq_false_iff_not]
      omega
    · obtain ⟨k6, hk6, hl6⟩ := Cond.classLink_spec hown (hK.2.1 _ hw1 args) e.platform hpl
      obtain ⟨a8, b8, z1, z2, z3⟩ := va_Nc.of (hK.2.1 _ hw2 args)
      cases Option.some.inj (z1.symm.trans hcE)
      cases Option.some.inj (z2.symm.trans hk6)
      exact Or.inr ⟨hn0, _, hl6, z3⟩
  obtain ⟨vm', hW', hfd⟩ := kx_srch (e := e) (f := F0 m pc ls st) (a := x) (s0 := s) hobj hk0 xe _ hcovx hq0 hl5 hasg (c.exceptionTable.toList.take j) ((T.setTop (F0 m pc ls st)).pushFrame (.throwing x)) (by exact Y.warmed) (by show T.heap[x]? = some cell; rw [hT]; exact g1) hpas
  have hgo : ∀ target, Steps p.tables e below ((T.setVm vm').setTop (F0 m xe.handlerPc ls [.ref x])) target → Steps p.tables e below ((T.setTop (F0 m pc ls st)).pushFrame (.throwing x)) target := by
    intro target hrest
    have hA : At T (F0 m pc ls st).method c below := Y.here
    obtain ⟨w1, w2⟩ := hA.throwing x
    refine Steps.head w1 w2 ?_
    rw [stepThread_throwing (frames_entered hA.top _), kx_stc (s := (T.setTop (F0 m pc ls st)).pushFrame (.throwing x)) (pc := xe.handlerPc) (vm' := vm') (fun Q E d acts => by
      rw [W.findHandler_eq (meth := meth) (code := c) (by exact Y.method') Y.code, hsplit]
      exact hfd Q E d acts)]
    obtain ⟨g0, hg0⟩ := Option.isSome_iff_exists.mp hA.top
    obtain ⟨r, hr⟩ := State.topJava?_eq_some.mp hg0
    have hr2 : (T.setVm vm').frames = .java g0 :: r := hr
    rw [State.setTop_of_frames _ hr2] at hrest
    have e9 : (((T.setTop (F0 m pc ls st)).pushFrame (.throwing x)).setVm vm').setFrames (.java { (F0 m pc ls st) with pc := xe.handlerPc, stack := [.ref x] } :: T.frames.tail) = (T.setVm vm').setFrames (.java (F0 m xe.handlerPc ls [.ref x]) :: r) := by
      rw [hr]
      show ((((T.setTop (F0 m pc ls st)).pushFrame (.throwing x)).setVm vm')).setFrames _ = _
      rw [State.pushFrame, State.setTop_of_frames _ hr]
      show (((T.setFrames _).setFrames _).setVm vm').setFrames _ = _
      rw [State.setFrames_setFrames]
      show ((T.setVm vm').setFrames _).setFrames _ = _
      rw [State.setFrames_setFrames]
      rfl
    rw [e9]
    exact hrest
  obtain ⟨t, a1, a2⟩ := kk p e R s m args below meth c X H locs ls cells slots hh hS hl q1 q2 (T.setVm vm') hT (Y.noted hW')
  exact ⟨t, hgo t a1, a2⟩
end KXG
end
section
/-! ===== the constructors of an exception that is thrown on the spot: E(String), which hands on to RuntimeException(String) ===== -/
def kx_atm (own : String) (ic : Nat) (E : String) (idx : Nat) (bytes : ByteArray) : List Cond :=
  Bundle.throwableAtoms ++ Bundle.throwableSAtoms ++ Bundle.passSAtoms E "java/lang/RuntimeException" idx bytes ++ Bundle.chainSAtoms "java/lang/RuntimeException" ["java/lang/Exception"] ++
  [.methodLink own ic (Bundle.initS E), .instantiable E 6, .selects E Bundle.tFill0 Bundle.tFill0, .selects E Bundle.tFill Bundle.tFill, .lays E Bundle.tN "cause" "Ljava/lang/Throwable;", .lays E Bundle.tN "stackTrace" Bundle.steD, .lays E Bundle.tN "suppressedExceptions" Bundle.listD, .lays E Bundle.tN "detailMessage" "Ljava/lang/String;",
   .isRef (.static Bundle.tN "UNASSIGNED_STACK" Bundle.steD), .isRef (.static Bundle.tN "SUPPRESSED_SENTINEL" Bundle.listD), .fieldLink Bundle.tN 198 Bundle.tN "backtrace" "Ljava/lang/Object;", .lays Bundle.tN Bundle.tN "backtrace" "Ljava/lang/Object;", .lays E Bundle.tN "backtrace" "Ljava/lang/Object;"]
section KXQ
variable {p : Program} {l : Launch} {e : Env} {R : Room} {s : State} {m₀ : MethodId} {args : Array Value} {below : List Frame} {meth : Method} {c : Code} {V : State} {locs : List Loc} {cells slots : Nat}
set_option maxHeartbeats 4000000 in
theorem kx_ctor (X : Stand p l e R s m₀ args below meth c V locs cells slots) (hexec : p.tables.exec = Jvm.exec) (htr : e.platform.stackTraces = false) {own E : String} {ic idx : Nat} {bytes : ByteArray} (hown : s.vm.findClass own = some m₀.cls) (hE : Bundle.fit E = true)
    (b0 : decode bytes 0 = .ok (.aload_n 0, 1)) (b1 : decode bytes 1 = .ok (.aload_n 1, 1)) (b2 : decode bytes 2 = .ok (.invokespecial idx, 3)) (b5 : decode bytes 5 = .ok (.return_, 1)) (hat : ∀ w ∈ kx_atm own ic E idx bytes, w.before args s = true) (hlocs : locs = [])
    {a : Addr} {cX : ClassId} {kX : Class} (hfoundX : s.vm.findClass E = some cX) (hkX : s.vm.classes[cX]? = some kX) (hcell : V.heap[a]? = some (freshCell cX kX)) (hnew : s.heap.size ≤ a) {msg : Value} (hmsg : msg.isRef = true)
    {g : JFrame} (hg : g.method = m₀) (hsize : g.locals.size = c.maxLocals) (hlocked : g.locked = none) (hentered : g.entered = []) {rest : List Value} (hstack : g.stack = msg :: .ref a :: .ref a :: rest)
    (hd6 : decode c.code g.pc = .ok (.invokespecial ic, 3)) (hd9 : decode c.code (g.pc + 3) = .ok (.athrow, 1)) (hout : ∀ x ∈ c.exceptionTable.toList, covers x (g.pc + 3) = false)
    (hRf : 5 < R.frames) (hRl : 2 * g.monitorRoom + ((Value.ref a :: rest).map fun v => v.category).sum + 81 ≤ R.locals) (hlocks : meth.locks = false) :
    ∃ U : State, Steps p.tables e below (V.setTop g) U ∧ U.status = .running ∧ Ended U below (.threw a) ∧ s.WarmedH U.vm ∧ s.sameButNew ({ U with vm := s.vm } : State) locs cells slots ∧ ∃ ce : Cell, U.heap[a]? = some ce ∧ s.vm.findClass E = some ce.cls ∧ ce.vm = .none := by
  subst hlocs
  have howns : e.platform.frameOwnsMonitors = true := by rw [X.admits.platform]
  have hfin : e.platform.finalization = false := by rw [X.admits.platform]
  have hpl : e.platform.magicAccessors = ({} : Platform).magicAccessors := by rw [X.admits.platform]
  have hat' : ∀ x, x ∈ kx_atm own ic E idx bytes → x.holds args s none s [] = true := fun x hx => hat x hx
  obtain ⟨Tc, Z0, L, -, Y⟩ := ThrowableC.of_atoms (args := args) howns hfin hpl (fun x hx => hat x (by simp [kx_atm, hx]))
  obtain ⟨Z, Mg, LZ, LM, hnZ⟩ := Init0T.ofS_atoms (args := args) hpl L Y (fun x hx => hat x (by simp [kx_atm, hx]))
  obtain ⟨P1, L1, hP1m, hP1s⟩ := PassC.ofS_atoms (args := args) (s := s) hpl (X := E) (Y := "java/lang/RuntimeException") (Bundle.fit_spec hE).1 (by decide) b0 b1 b2 b5 (fun x hx => hat x (by simp [kx_atm, hx]))
  obtain ⟨P2, Ps, hlen, L2, hL, hP2m, hlink2, hlink⟩ := Bundle.chainS (args := args) hpl hnZ ["java/lang/Exception"] "java/lang/RuntimeException" (by decide +kernel) (by intro n hn; rw [List.mem_singleton.mp hn]; decide +kernel) (fun x hx => hat x (by simp [kx_atm, hx]))
  have hs12 : P1.sup = P2.m := Option.some.inj (hP1s.symm.trans hP2m)
  have hfound : s.vm.findClass E = some P1.m.cls := findClass_of_methodNamed hP1m
  cases Option.some.inj (hfoundX.symm.trans hfound)
  obtain ⟨c1, kX', hc1, hk, hord, -, -, hn6⟩ := Cond.instantiable_spec (hat' (.instantiable E 6) (by simp [kx_atm]))
  cases Option.some.inj (hc1.symm.trans hfound)
  cases Option.some.inj (hkX.symm.trans hk)
  have hsel : ∀ (y : MethodName) (ym : MethodId), s.methodNamed? y = some ym → (y.cls ≠ "java/lang/invoke/MethodHandle" ∧ y.cls ≠ "java/lang/invoke/VarHandle") → (Cond.selects E y y).before args s = true → selectMethod e.platform s.vm P1.m.cls ym = .method ym := by
    intro y ym hy1 hy2 hy3
    obtain ⟨c2, r2, m2, w1, w2, w3, w4, -⟩ := Cond.selects_spec hy3
    cases Option.some.inj (w1.symm.trans hfound)
    cases Option.some.inj (w2.symm.trans (State.methodFound?_of_named hy1 hy2))
    cases Option.some.inj (w3.symm.trans hy1)
    rw [Launch.admits_selectMethod X.admits]
    exact w4
  have hsel0 := hsel _ _ Y.fill0 (by decide) (hat (.selects E Bundle.tFill0 Bundle.tFill0) (by simp [kx_atm]))
  have hselF := hsel _ _ Y.fill (by decide) (hat (.selects E Bundle.tFill Bundle.tFill) (by simp [kx_atm]))
  obtain ⟨cellS0, hcS0, hiss⟩ := Y.statics
  obtain ⟨u0, hu0⟩ := Cond.staticRefV Y.unassigned L.unassignedStatic L.statics hcS0 hiss (hat' (.isRef (.static Bundle.tN "UNASSIGNED_STACK" Bundle.steD)) (by simp [kx_atm]))
  obtain ⟨sen, hsen⟩ := Cond.staticRefV Y.sentinel L.sentinelStatic L.statics hcS0 hiss (hat' (.isRef (.static Bundle.tN "SUPPRESSED_SENTINEL" Bundle.listD)) (by simp [kx_atm]))
  obtain ⟨ci198, i198, fB, hk198, hg198, ha198, hsB, -, hnB, htB, hffB⟩ := Cond.ownField (t := .object "java/lang/Object") Y.found L.cls (by decide +kernel) (hat' (.fieldLink Bundle.tN 198 Bundle.tN "backtrace" "Ljava/lang/Object;") (by simp [kx_atm])) (hat' (.lays Bundle.tN Bundle.tN "backtrace" "Ljava/lang/Object;") (by simp [kx_atm])) e.platform hpl
  obtain ⟨cellS, hcS', heS, -, hkeep⟩ := X.same.2.2.2.2.2 Tc.aS cellS0 hcS0
  have hcellS : V.heap[Tc.aS]? = some cellS := hcS'
  have hknownS : cellS.vm ≠ .unknown := by
    rw [heS]; intro hu
    rw [show cellS0.vm = .unknown from hu] at hiss
    cases hiss
  have hneS : Tc.aS ≠ a := Nat.ne_of_lt (Nat.lt_of_lt_of_le (Array.getElem?_eq_some_iff.mp hcS0).1 hnew)
  obtain ⟨iM, hffM⟩ := Y.msg
  obtain ⟨tyC, dC, hdC, hdnC⟩ := Cond.laysAt hfound hk Y.cause (hat' (.lays E Bundle.tN "cause" "Ljava/lang/Throwable;") (by simp [kx_atm]))
  obtain ⟨tyS, dS, hdS, hdnS⟩ := Cond.laysAt hfound hk Y.stack (hat' (.lays E Bundle.tN "stackTrace" Bundle.steD) (by simp [kx_atm]))
  obtain ⟨tyP, dP, hdP, hdnP⟩ := Cond.laysAt hfound hk Y.supp (hat' (.lays E Bundle.tN "suppressedExceptions" Bundle.listD) (by simp [kx_atm]))
  obtain ⟨tyM, dM, hdM, hdnM⟩ := Cond.laysAt hfound hk hffM (hat' (.lays E Bundle.tN "detailMessage" "Ljava/lang/String;") (by simp [kx_atm]))
  obtain ⟨tyB, dB, hdB, hdnB⟩ := Cond.laysAt hfound hk hffB (hat' (.lays E Bundle.tN "backtrace" "Ljava/lang/Object;") (by simp [kx_atm]))
  have bC := Cond.laysApart hdB hdC hdnB hdnC (by rw [hnB, Y.causeName]; decide)
  have bS := Cond.laysApart hdB hdS hdnB hdnS (by rw [hnB, Y.stackName]; decide)
  have bP := Cond.laysApart hdB hdP hdnB hdnP (by rw [hnB, Y.suppName]; decide)
  have hskip : SkipFacts Tc e.platform s (fun u => u) u0 ((preparedCellV Tc.toThrowableT (freshCell P1.m.cls kX) a u0 sen).withEntry V.cur) :=
    ⟨{ ci198 := ci198, i198 := i198, fBack := fB }, ⟨hk198, hg198, ha198, hsB⟩, by
      have := fresh_default (c := P1.m.cls) tyB
      rw [htB] at this
      simpa [preparedCellV, Cell.setSlot, Cell.withEntry, Array.getElem?_setIfInBounds, bC, bS, bP, bC.symm, bS.symm, bP.symm, defaultValue] using this, fun _ _ => rfl⟩
  obtain ⟨tm, methC, cdC, kC, vm₁, hnC, -, -, -, -, -, -, -, hW₁, st1⟩ := Steps.initColdS (tb := p.tables) (e := e) (below := below) (s := s) (U := V) X.here hexec X.warmed hpl hown (t := Bundle.initS E) rfl rfl (Bundle.fit_spec hE).2
    (hat' (.methodLink own ic (Bundle.initS E)) (by simp [kx_atm])) (hat (.instanceMethod (Bundle.initS E)) (by simp [kx_atm, Bundle.passSAtoms])) (bytes := bytes) (maxL := 2) (hat (.code (Bundle.initS E) bytes 2 none) (by simp [kx_atm, Bundle.passSAtoms]))
    (f := g) hg (a := a) (msg := msg) (rest := .ref a :: rest) hstack hd6
  cases Option.some.inj (hnC.symm.trans hP1m)
  have X₁ := X.noted hW₁
  have hlen2 : Ps.length = 1 := hlen
  obtain ⟨vm₂, X₂, st2⟩ := X₁.ctorMessageOffV hexec (g := { g with stack := .ref a :: rest }) hg hsize Tc L Z LZ Mg LM (P1 :: P2 :: Ps)
    (fun P hP => by
      rcases List.mem_cons.mp hP with rfl | hP
      · exact L1
      · rcases List.mem_cons.mp hP with rfl | hP
        · exact L2
        · exact hL P hP) ⟨hs12, hlink2, hlink⟩ (u0 := u0) (sen := sen) (self := a) hmsg (cell := freshCell P1.m.cls kX) (cellS := cellS)
    hcell (fun _ => by simp) (by simp) rfl rfl hsel0 hselF hcellS hneS hknownS (by rw [hkeep _ (fun hm => nomatch hm)]; exact hu0) (by rw [hkeep _ (fun hm => nomatch hm)]; exact hsen)
    (Takes.of_laid hk hord tyC (by rw [Y.causeType]; rfl)) (Takes.of_laid hk hord tyS (by rw [Y.stackType]; exact fits_refV_array _ u0)) (Takes.of_laid hk hord tyP (by rw [Y.suppType]; exact fits_refV_object _ sen))
    (Takes.of_laid hk hord tyM (by rw [Y.msgType]; exact fits_refV_object _ ⟨msg, hmsg⟩)) Y.objLocals hskip htr [] hd6
    (by simp only [List.length_cons, hlen2]; omega) (by simp only [List.length_cons, hlen2]; exact hRl)
  obtain ⟨hwalk, hrun, hended, hWU, hsame⟩ := X₂.athrowLeaves hexec (g := { g with stack := .ref a :: rest, pc := g.pc + 3 }) hg hlocked hentered hout (a := a) (rest := rest) rfl hd9 hlocks
  have hlt : a < ((V.setVm vm₁).setVm vm₂).heap.size := (Array.getElem?_eq_some_iff.mp hcell).1
  have hU := heapAt_setCell_self (s := (V.setVm vm₁).setVm vm₂) (plainBareV Tc.toThrowableT (freshCell P1.m.cls kX) a u0 sen msg) hlt
  refine ⟨_, st1 _ (fun acts => ?_), hrun, hended, hWU, hsame.weaken (fun y hy hlt' => ?_) (Nat.le_refl _) (Nat.le_refl _), _, hU, hfound, rfl⟩
  · rw [doInvoke_state]
    exact st2 _ hwalk
  · rcases List.mem_append.mp hy with h1 | h1
    · exact h1
    · exfalso
      have hb : y.base = a := by
        simp only [List.mem_cons, List.not_mem_nil, or_false] at h1
        rcases h1 with rfl | rfl | rfl | rfl | rfl <;> rfl
      rw [hb] at hlt'
      exact Nat.not_lt.mpr hnew hlt'
end KXQ
end
section
/-! ===== throw new E("text"): the machine is looked at anew from the place of the throw, so that nothing of the heap is lost ===== -/
section KXN
variable {p : Program} {l : Launch} {e : Env} {R : Room} {s : State} {m : MethodId} {args : Array Value} {below : List Frame} {meth : Method} {c : Code} {T : State} {locs : List Loc} {cells slots : Nat}
theorem kx_anew (X : Stand p l e R s m args below meth c T locs cells slots) {R' : Room} (hf : R'.frames ≤ R.frames) (hl : R'.locals ≤ R.locals) (hc : cells + R'.cells ≤ R.cells) (hs : slots + R'.slots ≤ R.slots) :
    Stand p l e R' ((T.setVm s.vm).setFrames (.invoking m args :: below)) m args below meth c T [] 0 0 := by
  have htop : (T.setVm s.vm).topJava?.isSome := X.here.top
  have hF : ((T.setVm s.vm).setFrames (.invoking m args :: below)).frames = .invoking m args :: below := State.frames_setFrames _ (State.cur_lt_of_top htop)
  obtain ⟨f0, hf0⟩ := Option.isSome_iff_exists.mp htop
  obtain ⟨r, hr⟩ := State.topJava?_eq_some.mp hf0
  have k1 : e.platform.stackLimits (T.setVm s.vm).me = e.platform.stackLimits s.me := X.limits
  have k2 : (T.setVm s.vm).me.stackBytes = s.me.stackBytes := X.bytes
  have hU : ((T.setVm s.vm).setFrames (.invoking m args :: below)).localsInUse = s.localsInUse := by
    rw [State.localsInUse_invoking hF (meth := meth) (c := c) X.method X.code, State.localsInUse_invoking X.frames X.method X.code]
  have hroom : ((T.setVm s.vm).setFrames (.invoking m args :: below)).hasRoom e.platform R' = true := by
    have h := X.room
    have q1 := X.heapSize
    have q2 := X.used
    have q3 := X.book
    simp only [State.hasRoom, Bool.and_eq_true, decide_eq_true_eq] at h ⊢
    obtain ⟨⟨⟨⟨h1, h2, h3, h4, h5, h6⟩, h7⟩, h8⟩, h9⟩ := h
    rw [X.frames, List.length_cons] at h2 h3
    simp only [hF, hU, List.length_cons, State.stackLimits_setFrames, State.stackBytes_setFrames, k1, k2]
    refine ⟨⟨⟨⟨by omega, by omega, by omega, by omega, by omega, h6⟩, ?_⟩, ?_⟩, q3⟩
    · show T.heap.size + R'.cells ≤ e.platform.maxCells
      omega
    · show T.slotsUsed + R'.slots ≤ e.platform.maxSlots
      omega
  have hsame : ((T.setVm s.vm).setFrames (.invoking m args :: below)).sameButNew (T.setVm ((T.setVm s.vm).setFrames (.invoking m args :: below)).vm) [] 0 0 := by
    obtain ⟨t, ht, -⟩ := State.frames_cons hr
    have z : (T.heap.toList.drop T.heap.size) = [] := List.drop_eq_nil_of_le (Nat.le_of_eq Array.length_toList)
    refine ⟨?_, Nat.le_refl _, Nat.le_refl _, ?_, ?_, fun a cl hcl => ⟨cl, hcl, rfl, rfl, fun _ _ => rfl⟩⟩
    · show T.setVm s.vm = { ((T.setVm s.vm).setFrames (.invoking m args :: below)).setFrames (T.setVm s.vm).frames with heap := T.heap, slotsUsed := T.slotsUsed }
      rw [State.setFrames_setFrames, State.setFrames_self ht]
      rfl
    · show T.slotsUsed = T.slotsUsed + ((T.heap.toList.drop T.heap.size).map (·.slots.size)).sum
      rw [z]
      rfl
    · show ((T.heap.toList.drop T.heap.size).map (·.slots.size)).sum ≤ 0
      rw [z]
      exact Nat.le_refl _
  exact ⟨X.admits, X.cas, X.clock, hF, hroom, X.hears, X.method, X.code, X.here, X.tail, X.warmed, by rw [State.stackLimits_setFrames]; rfl, by rw [State.stackBytes_setFrames]; rfl, hsame⟩
theorem kx_ldw (X : Stand p l e R s m args below meth c T locs cells slots) (hexec : p.tables.exec = Jvm.exec) {own text : String} {index : Nat} {a : Addr} (hown : s.vm.findClass own = some m.cls) (hconst : (Cond.stringRef own index text).before args s = true) (hev : (Term.string own index).eval args s none [] s = some (.ref a)) {g : JFrame} (hg : g.method = m) (hdg : decode c.code g.pc = .ok (.ldc_w index, 3)) :
    ∀ target, Steps p.tables e below (T.setTop { g with pc := g.pc + 3, stack := .ref a :: g.stack }) target → Steps p.tables e below (T.setTop g) target := by
  obtain ⟨k, cf, i, a', hk, hcf, hcp, -, hr, hev'⟩ := Cond.stringRef_spec hown hconst
  cases hev.symm.trans hev'
  obtain ⟨k', hk', he⟩ := X.warmed.alike.2.2 _ _ hk
  have hr' : k'.resolved[index]? = some (some (.string a)) := by
    rcases X.warmed.entry hk hk' index with z | ⟨z, -⟩
    · rw [z]; exact hr
    · rw [hr] at z; cases z
  intro target hrest
  subst hg
  jvm_step X.here [hexec, hdg, ldc_w.wp_string (e := e) (s := T) (f := g) X.here.top hk' (by rw [he]; exact hcf) hcp hr']
  exact hrest
end KXN
section KXO
variable {G : kx_G} {l : Launch} {M : kx_M} {d : Nat} {Q : Outcome → kx_H → Prop} {kc ks pc : Nat} {lv : kx_L} {st : List Value} {h : kx_H}
/-- the exception's object is new, and its class's; the heap is else as it was; no handler of this method's covers the throw -/
theorem kx_thr {E text : String} {ci ik is ic w idx : Nat} {bytes : ByteArray} {T0 : u_T} {ld : Instr} (hcl : kx_cl[ci]? = some (E, T0, 0)) (hE : Bundle.fit E = true) (hln : Cond.classLink M.1.cls ik E ∈ kx_ws) (hini : Cond.initialized E ∈ kx_ws) (hsr : Cond.stringRef M.1.cls is text ∈ kx_ws) (b0 : decode bytes 0 = .ok (.aload_n 0, 1)) (b1 : decode bytes 1 = .ok (.aload_n 1, 1)) (b2 : decode bytes 2 = .ok (.invokespecial idx, 3)) (b5 : decode bytes 5 = .ok (.return_, 1)) (hat : ∀ z ∈ kx_atm M.1.cls ic E idx bytes, z ∈ kx_ws ∨ z ∈ kx_wz)
    (hld : (ld = .ldc is ∧ w = 2) ∨ (ld = .ldc_w is ∧ w = 3)) (d0 : decode M.2.1 pc = .ok (.new ik, 3)) (d3 : decode M.2.1 (pc + 3) = .ok (.dup, 1)) (d4 : decode M.2.1 (pc + 4) = .ok (ld, w)) (d6 : decode M.2.1 (pc + 4 + w) = .ok (.invokespecial ic, 3)) (d9 : decode M.2.1 (pc + 4 + w + 3) = .ok (.athrow, 1))
    (hcov : ∀ q ∈ M.2.2.2.2, ¬ (q.1 ≤ pc + 4 + w + 3 ∧ pc + 4 + w + 3 < q.2.1)) (hst : (st.map fun v => v.category).sum ≤ 8) (hq : Q (.threw h.1) (kx_new h (.inr (ci, [])))) : kx_w G l M d Q (kc + 1) (ks + 6) pc lv st h := by
  intro p e R s m args below meth c X H locs ls cells slots hh hS hl q1 q2 T hT Y
  have hX := X
  obtain ⟨hx, hb, hml, hown, -, hlk, -, htab, hK, hbs, hfr, hlo, hst9⟩ := hX
  have htr : e.platform.stackTraces = false := (show e.platform.stackTraces = l.stackTraces by rw [Y.admits.platform]).trans hst9
  have Z := kx_anew Y (R' := { frames := R.frames, locals := R.locals, cells := 1, slots := 6 }) (Nat.le_refl _) (Nat.le_refl _) (by show cells + 1 ≤ _; omega) (by show slots + 6 ≤ _; omega)
  obtain ⟨s', hs'⟩ : ∃ z, z = (T.setVm s.vm).setFrames (.invoking m args :: below) := ⟨_, rfl⟩
  rw [← hs'] at Z
  have hvm : s'.vm = s.vm := by rw [hs']; rfl
  have hhp : s'.heap = H := by rw [hs']; exact hT
  have hW0 : s.WarmedH s'.vm := by rw [hvm]; exact State.WarmedH.refl s
  have hK' : kx_K G s' := kx_K.moved hK hW0 (H := H) hhp hS hbs
  have hown' : s'.vm.findClass M.1.cls = some m.cls := by rw [hvm]; exact hown
  have hall : ∀ z ∈ kx_atm M.1.cls ic E idx bytes, z.before args s' = true := by
    intro z hz
    rcases hat z hz with g | g
    · exact hK'.2.1 z g args
    · exact kx_K.z hK' z g args
  have hins : (Cond.instantiable E 6).before args s' = true := hall _ (by simp [kx_atm])
  obtain ⟨vm₁, cX, kX, hfX, hkX, -, -, X₁, st1⟩ := Z.newCold hx (own := M.1.cls) (C := E) (index := ik) (n := 6) hown' (hK'.2.1 _ hln args) hins (hK'.2.1 _ hini args) (g := F0 m pc ls st) rfl (by rw [hb]; exact d0) (Nat.le_refl _) (Nat.le_refl _)
  generalize hT1 : (T.setVm vm₁).pushCell { cls := cX, slots := kX.instanceTypes.map defaultValue, vm := .none } = T1 at X₁ st1
  have hcellA : T1.heap[T.heap.size]? = some (freshCell cX kX) := by rw [← hT1]; exact State.heap_pushCell_size _ _
  have d3' : decode c.code (pc + 3) = .ok (.dup, 1) := by rw [hb]; exact d3
  have d4' : decode c.code (pc + 4) = .ok (ld, w) := by rw [hb]; exact d4
  obtain ⟨_, _, _, sa, -, -, -, -, -, hev⟩ := Cond.stringRef_spec hown' (hK'.2.1 _ hsr args)
  have hcat : (Value.ref T.heap.size).category = 1 := rfl
  obtain ⟨U, hsteps, hrun, hend, hW, hsame, ce, hce, hOc, hOv⟩ := kx_ctor X₁ hx htr (own := M.1.cls) (E := E) (ic := ic) (idx := idx) (bytes := bytes) hown' hE b0 b1 b2 b5 hall rfl hfX hkX hcellA (by rw [hhp, hT]; exact Nat.le_refl _) (msg := .ref sa) rfl
    (g := { method := m, pc := pc + 4 + w, locals := ls, stack := .ref sa :: .ref T.heap.size :: .ref T.heap.size :: st, locked := none }) rfl (by rw [hml]; exact hl.1) rfl rfl (rest := st) rfl
    (by rw [hb]; exact d6) (by rw [hb]; exact d9) (kx_cov htab hcov) (by show 5 < R.frames; omega) (by simp only [List.map_cons, List.sum_cons, hcat]; show 2 * 0 + _ + _ ≤ R.locals; omega) hlk
  have hU : U.heap.size = H.size + 1 ∧ ∀ q : Nat, q < H.size → U.heap[q]? = H[q]? := by
    obtain ⟨-, u2, u3, -, -, u6⟩ := hsame
    have v3 : U.heap.size ≤ s'.heap.size + (0 + 1) := u3
    have v1 : T.heap.size < U.heap.size := (Array.getElem?_eq_some_iff.mp hce).1
    rw [hhp] at v3
    rw [hT] at v1
    refine ⟨by omega, fun q hq9 => ?_⟩
    have hq1 : s'.heap[q]? = some H[q] := by rw [hhp]; exact Array.getElem?_eq_getElem hq9
    obtain ⟨c', y1, y2, y3, y4⟩ := u6 q _ hq1
    have y0 : U.heap[q]? = some c' := y1
    have y5 : c'.slots = (H[q]).slots := Array.ext_getElem? (fun i => y4 i (fun hm => nomatch hm))
    have y6 : c' = H[q] := by rw [y2, y5]
    rw [y0, y6]
    exact (Array.getElem?_eq_getElem hq9).symm
  have hclE : s.vm.findClass E = some ce.cls := by
    have h9 := hOc
    rw [hvm] at h9
    exact h9
  have hnew : kx_hp G (kx_new h (.inr (ci, []))) U.heap := by
    refine hh.push ⟨_, hcl, ce, ?_, ?_, hOv, fun k hk => absurd hk (Nat.not_lt_zero k)⟩ hU.1 hU.2
    · rw [← hh.1, ← hT]
      exact hce
    · exact Option.some.inj (hclE.symm.trans (hK.1.1 ci _ hcl).2.1)
  have hWs : s.WarmedH U.vm := State.WarmedH.trans hW0 hW
  have hsm : s.sameButNew ({ U with vm := s.vm } : State) locs R.cells R.slots := by
    subst hs'
    obtain ⟨e1, e2⟩ := hsame
    rw [State.setFrames_setFrames] at e1
    have h2 : (T.setVm s.vm).sameButNew ({ U with vm := s.vm } : State) [] (0 + 1) (0 + 6) := ⟨e1, e2⟩
    have h3 := Y.same.trans h2
    rw [List.append_nil] at h3
    exact h3.mono (by omega) (by omega)
  refine ⟨U, ?_, .threw T.heap.size, kx_new h (.inr (ci, [])), hrun, hend, by rw [hT, hh.1]; exact hq, hnew, locs, ⟨hWs, hsm⟩, hS.2.2⟩
  refine st1 _ ?_
  show Steps p.tables e below (T1.setTop { method := m, pc := pc + 3, locals := ls, stack := .ref T.heap.size :: st, locked := none }) _
  jvm_step X₁.here [X₁.here.top, hx, d3', Value.category]
  rcases hld with ⟨rfl, rfl⟩ | ⟨rfl, rfl⟩
  · exact X₁.ldcString hx (own := M.1.cls) (text := text) (index := is) (a := sa) hown' (hK'.2.1 _ hsr args) hev (g := { method := m, pc := pc + 4, locals := ls, stack := .ref T.heap.size :: .ref T.heap.size :: st, locked := none }) rfl d4' _ hsteps
  · exact kx_ldw X₁ hx (own := M.1.cls) (text := text) (index := is) (a := sa) hown' (hK'.2.1 _ hsr args) hev (g := { method := m, pc := pc + 4, locals := ls, stack := .ref T.heap.size :: .ref T.heap.size :: st, locked := none }) rfl d4' _ hsteps
end KXO
end
