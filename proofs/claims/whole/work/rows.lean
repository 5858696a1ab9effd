section
-- ===== PART A: goes FIRST, ahead of the names: the tables' words, and 'selects' of the private methods out of them =====
/-- a private method of a class that the tables say can be made, by its rows of tables_1 -/
def lw_okq (q : MethodName × Nat) : Prop := (q.1.cls ≠ "java/lang/invoke/MethodHandle" ∧ q.1.cls ≠ "java/lang/invoke/VarHandle") ∧ Cond.instantiable q.1.cls q.2 ∈ tables_1 ∧ Cond.privateMethod q.1 ∈ tables_1 ∧ Cond.instanceMethod q.1 ∈ tables_1
theorem lw_p0 : lw_okq (⟨"VersionedTables", "settingsThere", "()I"⟩, 10) := ⟨⟨by decide +kernel, by decide +kernel⟩, List.mem_of_getElem? (i := 24) (by decide +kernel), List.mem_of_getElem? (i := 131) (by decide +kernel), List.mem_of_getElem? (i := 132) (by decide +kernel)⟩
theorem lw_p1 : lw_okq (⟨"VersionedTables$Transactions", "leastOpen", "()I"⟩, 3) := ⟨⟨by decide +kernel, by decide +kernel⟩, List.mem_of_getElem? (i := 34) (by decide +kernel), List.mem_of_getElem? (i := 143) (by decide +kernel), List.mem_of_getElem? (i := 144) (by decide +kernel)⟩
theorem lw_p2 : lw_okq (⟨"VersionedTables", "sweep", "(LVersionedTables$Table;I)I"⟩, 10) := ⟨⟨by decide +kernel, by decide +kernel⟩, List.mem_of_getElem? (i := 24) (by decide +kernel), List.mem_of_getElem? (i := 149) (by decide +kernel), List.mem_of_getElem? (i := 150) (by decide +kernel)⟩
theorem lw_p3 : lw_okq (⟨"VersionedTables", "sweepRow", "(LVersionedTables$Row;I)I"⟩, 10) := ⟨⟨by decide +kernel, by decide +kernel⟩, List.mem_of_getElem? (i := 24) (by decide +kernel), List.mem_of_getElem? (i := 153) (by decide +kernel), List.mem_of_getElem? (i := 154) (by decide +kernel)⟩
theorem lw_p4 : lw_okq (⟨"VersionedTables$Row", "has", "(I)Z"⟩, 1) := ⟨⟨by decide +kernel, by decide +kernel⟩, List.mem_of_getElem? (i := 159) (by decide +kernel), List.mem_of_getElem? (i := 157) (by decide +kernel), List.mem_of_getElem? (i := 158) (by decide +kernel)⟩
theorem lw_p5 : lw_okq (⟨"VersionedTables$Transactions", "is", "(ILVersionedTables$State;)Z"⟩, 3) := ⟨⟨by decide +kernel, by decide +kernel⟩, List.mem_of_getElem? (i := 34) (by decide +kernel), List.mem_of_getElem? (i := 164) (by decide +kernel), List.mem_of_getElem? (i := 165) (by decide +kernel)⟩
theorem lw_p6 : lw_okq (⟨"VersionedTables$Row", "drop", "(I)I"⟩, 1) := ⟨⟨by decide +kernel, by decide +kernel⟩, List.mem_of_getElem? (i := 159) (by decide +kernel), List.mem_of_getElem? (i := 168) (by decide +kernel), List.mem_of_getElem? (i := 169) (by decide +kernel)⟩
theorem lw_p7 : lw_okq (⟨"VersionedTables$Transactions", "howMany", "(LVersionedTables$State;)I"⟩, 3) := ⟨⟨by decide +kernel, by decide +kernel⟩, List.mem_of_getElem? (i := 34) (by decide +kernel), List.mem_of_getElem? (i := 178) (by decide +kernel), List.mem_of_getElem? (i := 179) (by decide +kernel)⟩
theorem lw_p8 : lw_okq (⟨"VersionedTables", "allVersions", "()I"⟩, 10) := ⟨⟨by decide +kernel, by decide +kernel⟩, List.mem_of_getElem? (i := 24) (by decide +kernel), List.mem_of_getElem? (i := 182) (by decide +kernel), List.mem_of_getElem? (i := 183) (by decide +kernel)⟩
theorem lw_p9 : lw_okq (⟨"VersionedTables$Table", "versionsThere", "()I"⟩, 4) := ⟨⟨by decide +kernel, by decide +kernel⟩, List.mem_of_getElem? (i := 188) (by decide +kernel), List.mem_of_getElem? (i := 186) (by decide +kernel), List.mem_of_getElem? (i := 187) (by decide +kernel)⟩
theorem lw_p10 : lw_okq (⟨"VersionedTables$Row", "size", "()I"⟩, 1) := ⟨⟨by decide +kernel, by decide +kernel⟩, List.mem_of_getElem? (i := 159) (by decide +kernel), List.mem_of_getElem? (i := 191) (by decide +kernel), List.mem_of_getElem? (i := 192) (by decide +kernel)⟩
theorem lw_p11 : lw_okq (⟨"VersionedTables", "rowsMade", "(I)I"⟩, 10) := ⟨⟨by decide +kernel, by decide +kernel⟩, List.mem_of_getElem? (i := 24) (by decide +kernel), List.mem_of_getElem? (i := 195) (by decide +kernel), List.mem_of_getElem? (i := 196) (by decide +kernel)⟩
theorem lw_p12 : lw_okq (⟨"java/lang/Throwable", "fillInStackTrace", "(I)Ljava/lang/Throwable;"⟩, 6) := ⟨⟨by decide +kernel, by decide +kernel⟩, List.mem_of_getElem? (i := 249) (by decide +kernel), List.mem_of_getElem? (i := 247) (by decide +kernel), List.mem_of_getElem? (i := 248) (by decide +kernel)⟩
theorem lw_p13 : lw_okq (⟨"VersionedTables$Parser", "readCondition", "()Z"⟩, 5) := ⟨⟨by decide +kernel, by decide +kernel⟩, List.mem_of_getElem? (i := 344) (by decide +kernel), List.mem_of_getElem? (i := 371) (by decide +kernel), List.mem_of_getElem? (i := 372) (by decide +kernel)⟩
theorem lw_p14 : lw_okq (⟨"VersionedTables$Parser", "readAll", "(I)Z"⟩, 5) := ⟨⟨by decide +kernel, by decide +kernel⟩, List.mem_of_getElem? (i := 344) (by decide +kernel), List.mem_of_getElem? (i := 375) (by decide +kernel), List.mem_of_getElem? (i := 376) (by decide +kernel)⟩
theorem lw_p15 : lw_okq (⟨"VersionedTables$Parser", "readPart", "(I)Z"⟩, 5) := ⟨⟨by decide +kernel, by decide +kernel⟩, List.mem_of_getElem? (i := 344) (by decide +kernel), List.mem_of_getElem? (i := 379) (by decide +kernel), List.mem_of_getElem? (i := 380) (by decide +kernel)⟩
def lw_privs_1 : List (MethodName × Nat) := [(⟨"VersionedTables", "settingsThere", "()I"⟩, 10), (⟨"VersionedTables$Transactions", "leastOpen", "()I"⟩, 3), (⟨"VersionedTables", "sweep", "(LVersionedTables$Table;I)I"⟩, 10), (⟨"VersionedTables", "sweepRow", "(LVersionedTables$Row;I)I"⟩, 10), (⟨"VersionedTables$Row", "has", "(I)Z"⟩, 1), (⟨"VersionedTables$Transactions", "is", "(ILVersionedTables$State;)Z"⟩, 3), (⟨"VersionedTables$Row", "drop", "(I)I"⟩, 1), (⟨"VersionedTables$Transactions", "howMany", "(LVersionedTables$State;)I"⟩, 3), (⟨"VersionedTables", "allVersions", "()I"⟩, 10), (⟨"VersionedTables$Table", "versionsThere", "()I"⟩, 4), (⟨"VersionedTables$Row", "size", "()I"⟩, 1), (⟨"VersionedTables", "rowsMade", "(I)I"⟩, 10), (⟨"java/lang/Throwable", "fillInStackTrace", "(I)Ljava/lang/Throwable;"⟩, 6), (⟨"VersionedTables$Parser", "readCondition", "()Z"⟩, 5), (⟨"VersionedTables$Parser", "readAll", "(I)Z"⟩, 5), (⟨"VersionedTables$Parser", "readPart", "(I)Z"⟩, 5)]
theorem lw_r1 : ∀ q ∈ lw_privs_1, lw_okq q := List.forall_mem_cons.mpr ⟨lw_p0, List.forall_mem_cons.mpr ⟨lw_p1, List.forall_mem_cons.mpr ⟨lw_p2, List.forall_mem_cons.mpr ⟨lw_p3, List.forall_mem_cons.mpr ⟨lw_p4, List.forall_mem_cons.mpr ⟨lw_p5, List.forall_mem_cons.mpr ⟨lw_p6, List.forall_mem_cons.mpr ⟨lw_p7, List.forall_mem_cons.mpr ⟨lw_p8, List.forall_mem_cons.mpr ⟨lw_p9, List.forall_mem_cons.mpr ⟨lw_p10, List.forall_mem_cons.mpr ⟨lw_p11, List.forall_mem_cons.mpr ⟨lw_p12, List.forall_mem_cons.mpr ⟨lw_p13, List.forall_mem_cons.mpr ⟨lw_p14, List.forall_mem_cons.mpr ⟨lw_p15, fun _ h => absurd h List.not_mem_nil⟩⟩⟩⟩⟩⟩⟩⟩⟩⟩⟩⟩⟩⟩⟩⟩
theorem lw_p16 : lw_okq (⟨"VersionedTables$Parser", "next", "()I"⟩, 5) := ⟨⟨by decide +kernel, by decide +kernel⟩, List.mem_of_getElem? (i := 344) (by decide +kernel), List.mem_of_getElem? (i := 383) (by decide +kernel), List.mem_of_getElem? (i := 384) (by decide +kernel)⟩
theorem lw_p17 : lw_okq (⟨"VersionedTables$Parser", "readComparison", "()Z"⟩, 5) := ⟨⟨by decide +kernel, by decide +kernel⟩, List.mem_of_getElem? (i := 344) (by decide +kernel), List.mem_of_getElem? (i := 387) (by decide +kernel), List.mem_of_getElem? (i := 388) (by decide +kernel)⟩
theorem lw_p18 : lw_okq (⟨"VersionedTables$Parser", "readTerm", "()Z"⟩, 5) := ⟨⟨by decide +kernel, by decide +kernel⟩, List.mem_of_getElem? (i := 344) (by decide +kernel), List.mem_of_getElem? (i := 391) (by decide +kernel), List.mem_of_getElem? (i := 392) (by decide +kernel)⟩
theorem lw_p19 : lw_okq (⟨"VersionedTables$Parser", "readItem", "()Z"⟩, 5) := ⟨⟨by decide +kernel, by decide +kernel⟩, List.mem_of_getElem? (i := 344) (by decide +kernel), List.mem_of_getElem? (i := 395) (by decide +kernel), List.mem_of_getElem? (i := 396) (by decide +kernel)⟩
theorem lw_p20 : lw_okq (⟨"VersionedTables$Program", "add", "(I)V"⟩, 4) := ⟨⟨by decide +kernel, by decide +kernel⟩, List.mem_of_getElem? (i := 54) (by decide +kernel), List.mem_of_getElem? (i := 402) (by decide +kernel), List.mem_of_getElem? (i := 403) (by decide +kernel)⟩
theorem lw_p21 : lw_okq (⟨"VersionedTables$Parser", "skip", "(I)Z"⟩, 5) := ⟨⟨by decide +kernel, by decide +kernel⟩, List.mem_of_getElem? (i := 344) (by decide +kernel), List.mem_of_getElem? (i := 415) (by decide +kernel), List.mem_of_getElem? (i := 416) (by decide +kernel)⟩
theorem lw_p22 : lw_okq (⟨"VersionedTables", "takeLine", "(LVersionedTables$Parser;Z)V"⟩, 10) := ⟨⟨by decide +kernel, by decide +kernel⟩, List.mem_of_getElem? (i := 24) (by decide +kernel), List.mem_of_getElem? (i := 422) (by decide +kernel), List.mem_of_getElem? (i := 423) (by decide +kernel)⟩
theorem lw_p23 : lw_okq (⟨"VersionedTables$Parser", "readSetting", "()Z"⟩, 5) := ⟨⟨by decide +kernel, by decide +kernel⟩, List.mem_of_getElem? (i := 344) (by decide +kernel), List.mem_of_getElem? (i := 434) (by decide +kernel), List.mem_of_getElem? (i := 435) (by decide +kernel)⟩
theorem lw_p24 : lw_okq (⟨"VersionedTables$Transactions", "beginNext", "()I"⟩, 3) := ⟨⟨by decide +kernel, by decide +kernel⟩, List.mem_of_getElem? (i := 34) (by decide +kernel), List.mem_of_getElem? (i := 446) (by decide +kernel), List.mem_of_getElem? (i := 447) (by decide +kernel)⟩
theorem lw_p25 : lw_okq (⟨"VersionedTables", "mustBeOpen", "(I)V"⟩, 10) := ⟨⟨by decide +kernel, by decide +kernel⟩, List.mem_of_getElem? (i := 24) (by decide +kernel), List.mem_of_getElem? (i := 458) (by decide +kernel), List.mem_of_getElem? (i := 459) (by decide +kernel)⟩
theorem lw_p26 : lw_okq (⟨"VersionedTables$Transactions", "end", "(ILVersionedTables$State;)V"⟩, 3) := ⟨⟨by decide +kernel, by decide +kernel⟩, List.mem_of_getElem? (i := 34) (by decide +kernel), List.mem_of_getElem? (i := 478) (by decide +kernel), List.mem_of_getElem? (i := 479) (by decide +kernel)⟩
theorem lw_p27 : lw_okq (⟨"VersionedTables", "breakOff", "(I)I"⟩, 10) := ⟨⟨by decide +kernel, by decide +kernel⟩, List.mem_of_getElem? (i := 24) (by decide +kernel), List.mem_of_getElem? (i := 489) (by decide +kernel), List.mem_of_getElem? (i := 490) (by decide +kernel)⟩
theorem lw_p28 : lw_okq (⟨"VersionedTables$Table", "dropAllOf", "(I)I"⟩, 4) := ⟨⟨by decide +kernel, by decide +kernel⟩, List.mem_of_getElem? (i := 188) (by decide +kernel), List.mem_of_getElem? (i := 495) (by decide +kernel), List.mem_of_getElem? (i := 496) (by decide +kernel)⟩
theorem lw_p29 : lw_okq (⟨"VersionedTables", "tableThere", "(I)LVersionedTables$Table;"⟩, 10) := ⟨⟨by decide +kernel, by decide +kernel⟩, List.mem_of_getElem? (i := 24) (by decide +kernel), List.mem_of_getElem? (i := 508) (by decide +kernel), List.mem_of_getElem? (i := 509) (by decide +kernel)⟩
theorem lw_p30 : lw_okq (⟨"VersionedTables", "breakTooLate", "(I)V"⟩, 10) := ⟨⟨by decide +kernel, by decide +kernel⟩, List.mem_of_getElem? (i := 24) (by decide +kernel), List.mem_of_getElem? (i := 514) (by decide +kernel), List.mem_of_getElem? (i := 515) (by decide +kernel)⟩
theorem lw_p31 : lw_okq (⟨"VersionedTables$Table", "addRow", "(IIIII)I"⟩, 4) := ⟨⟨by decide +kernel, by decide +kernel⟩, List.mem_of_getElem? (i := 188) (by decide +kernel), List.mem_of_getElem? (i := 534) (by decide +kernel), List.mem_of_getElem? (i := 535) (by decide +kernel)⟩
def lw_privs_2 : List (MethodName × Nat) := [(⟨"VersionedTables$Parser", "next", "()I"⟩, 5), (⟨"VersionedTables$Parser", "readComparison", "()Z"⟩, 5), (⟨"VersionedTables$Parser", "readTerm", "()Z"⟩, 5), (⟨"VersionedTables$Parser", "readItem", "()Z"⟩, 5), (⟨"VersionedTables$Program", "add", "(I)V"⟩, 4), (⟨"VersionedTables$Parser", "skip", "(I)Z"⟩, 5), (⟨"VersionedTables", "takeLine", "(LVersionedTables$Parser;Z)V"⟩, 10), (⟨"VersionedTables$Parser", "readSetting", "()Z"⟩, 5), (⟨"VersionedTables$Transactions", "beginNext", "()I"⟩, 3), (⟨"VersionedTables", "mustBeOpen", "(I)V"⟩, 10), (⟨"VersionedTables$Transactions", "end", "(ILVersionedTables$State;)V"⟩, 3), (⟨"VersionedTables", "breakOff", "(I)I"⟩, 10), (⟨"VersionedTables$Table", "dropAllOf", "(I)I"⟩, 4), (⟨"VersionedTables", "tableThere", "(I)LVersionedTables$Table;"⟩, 10), (⟨"VersionedTables", "breakTooLate", "(I)V"⟩, 10), (⟨"VersionedTables$Table", "addRow", "(IIIII)I"⟩, 4)]
theorem lw_r2 : ∀ q ∈ lw_privs_2, lw_okq q := List.forall_mem_cons.mpr ⟨lw_p16, List.forall_mem_cons.mpr ⟨lw_p17, List.forall_mem_cons.mpr ⟨lw_p18, List.forall_mem_cons.mpr ⟨lw_p19, List.forall_mem_cons.mpr ⟨lw_p20, List.forall_mem_cons.mpr ⟨lw_p21, List.forall_mem_cons.mpr ⟨lw_p22, List.forall_mem_cons.mpr ⟨lw_p23, List.forall_mem_cons.mpr ⟨lw_p24, List.forall_mem_cons.mpr ⟨lw_p25, List.forall_mem_cons.mpr ⟨lw_p26, List.forall_mem_cons.mpr ⟨lw_p27, List.forall_mem_cons.mpr ⟨lw_p28, List.forall_mem_cons.mpr ⟨lw_p29, List.forall_mem_cons.mpr ⟨lw_p30, List.forall_mem_cons.mpr ⟨lw_p31, fun _ h => absurd h List.not_mem_nil⟩⟩⟩⟩⟩⟩⟩⟩⟩⟩⟩⟩⟩⟩⟩⟩
theorem lw_p32 : lw_okq (⟨"VersionedTables$Row", "write", "(I[IZ)V"⟩, 1) := ⟨⟨by decide +kernel, by decide +kernel⟩, List.mem_of_getElem? (i := 159) (by decide +kernel), List.mem_of_getElem? (i := 538) (by decide +kernel), List.mem_of_getElem? (i := 539) (by decide +kernel)⟩
theorem lw_p33 : lw_okq (⟨"VersionedTables$Version", "put", "([IZ)V"⟩, 4) := ⟨⟨by decide +kernel, by decide +kernel⟩, List.mem_of_getElem? (i := 541) (by decide +kernel), List.mem_of_getElem? (i := 565) (by decide +kernel), List.mem_of_getElem? (i := 566) (by decide +kernel)⟩
theorem lw_p34 : lw_okq (⟨"VersionedTables", "choose", "(ILVersionedTables$Table;)V"⟩, 10) := ⟨⟨by decide +kernel, by decide +kernel⟩, List.mem_of_getElem? (i := 24) (by decide +kernel), List.mem_of_getElem? (i := 580) (by decide +kernel), List.mem_of_getElem? (i := 581) (by decide +kernel)⟩
theorem lw_p35 : lw_okq (⟨"VersionedTables$Row", "holding", "(I)LVersionedTables$Version;"⟩, 1) := ⟨⟨by decide +kernel, by decide +kernel⟩, List.mem_of_getElem? (i := 159) (by decide +kernel), List.mem_of_getElem? (i := 584) (by decide +kernel), List.mem_of_getElem? (i := 585) (by decide +kernel)⟩
theorem lw_p36 : lw_okq (⟨"VersionedTables$Program", "holds", "([I)Z"⟩, 4) := ⟨⟨by decide +kernel, by decide +kernel⟩, List.mem_of_getElem? (i := 54) (by decide +kernel), List.mem_of_getElem? (i := 589) (by decide +kernel), List.mem_of_getElem? (i := 590) (by decide +kernel)⟩
theorem lw_p37 : lw_okq (⟨"VersionedTables$Program", "work", "([I)I"⟩, 4) := ⟨⟨by decide +kernel, by decide +kernel⟩, List.mem_of_getElem? (i := 54) (by decide +kernel), List.mem_of_getElem? (i := 593) (by decide +kernel), List.mem_of_getElem? (i := 594) (by decide +kernel)⟩
theorem lw_p38 : lw_okq (⟨"VersionedTables$Program", "workStep", "(I[I)I"⟩, 4) := ⟨⟨by decide +kernel, by decide +kernel⟩, List.mem_of_getElem? (i := 54) (by decide +kernel), List.mem_of_getElem? (i := 597) (by decide +kernel), List.mem_of_getElem? (i := 598) (by decide +kernel)⟩
theorem lw_p39 : lw_okq (⟨"VersionedTables$Program", "pop", "()I"⟩, 4) := ⟨⟨by decide +kernel, by decide +kernel⟩, List.mem_of_getElem? (i := 54) (by decide +kernel), List.mem_of_getElem? (i := 602) (by decide +kernel), List.mem_of_getElem? (i := 603) (by decide +kernel)⟩
theorem lw_p40 : lw_okq (⟨"VersionedTables$Program", "push", "(I)V"⟩, 4) := ⟨⟨by decide +kernel, by decide +kernel⟩, List.mem_of_getElem? (i := 54) (by decide +kernel), List.mem_of_getElem? (i := 631) (by decide +kernel), List.mem_of_getElem? (i := 632) (by decide +kernel)⟩
theorem lw_p41 : lw_okq (⟨"VersionedTables$RowSet", "add", "(I[I)V"⟩, 3) := ⟨⟨by decide +kernel, by decide +kernel⟩, List.mem_of_getElem? (i := 75) (by decide +kernel), List.mem_of_getElem? (i := 635) (by decide +kernel), List.mem_of_getElem? (i := 636) (by decide +kernel)⟩
theorem lw_p42 : lw_okq (⟨"VersionedTables$Table", "markRead", "(I)V"⟩, 4) := ⟨⟨by decide +kernel, by decide +kernel⟩, List.mem_of_getElem? (i := 188) (by decide +kernel), List.mem_of_getElem? (i := 640) (by decide +kernel), List.mem_of_getElem? (i := 641) (by decide +kernel)⟩
theorem lw_p43 : lw_okq (⟨"VersionedTables", "refuseSettingsBeyond", "(I)V"⟩, 10) := ⟨⟨by decide +kernel, by decide +kernel⟩, List.mem_of_getElem? (i := 24) (by decide +kernel), List.mem_of_getElem? (i := 655) (by decide +kernel), List.mem_of_getElem? (i := 656) (by decide +kernel)⟩
theorem lw_p44 : lw_okq (⟨"VersionedTables", "workOutSettings", "()V"⟩, 10) := ⟨⟨by decide +kernel, by decide +kernel⟩, List.mem_of_getElem? (i := 24) (by decide +kernel), List.mem_of_getElem? (i := 660) (by decide +kernel), List.mem_of_getElem? (i := 661) (by decide +kernel)⟩
theorem lw_p45 : lw_okq (⟨"VersionedTables", "write", "(ILVersionedTables$Table;Z)V"⟩, 10) := ⟨⟨by decide +kernel, by decide +kernel⟩, List.mem_of_getElem? (i := 24) (by decide +kernel), List.mem_of_getElem? (i := 666) (by decide +kernel), List.mem_of_getElem? (i := 667) (by decide +kernel)⟩
theorem lw_p46 : lw_okq (⟨"VersionedTables", "isTooLate", "(ILVersionedTables$Table;)Z"⟩, 10) := ⟨⟨by decide +kernel, by decide +kernel⟩, List.mem_of_getElem? (i := 24) (by decide +kernel), List.mem_of_getElem? (i := 670) (by decide +kernel), List.mem_of_getElem? (i := 671) (by decide +kernel)⟩
theorem lw_p47 : lw_okq (⟨"VersionedTables", "mustBeColumn", "(I)V"⟩, 10) := ⟨⟨by decide +kernel, by decide +kernel⟩, List.mem_of_getElem? (i := 24) (by decide +kernel), List.mem_of_getElem? (i := 691) (by decide +kernel), List.mem_of_getElem? (i := 692) (by decide +kernel)⟩
def lw_privs_3 : List (MethodName × Nat) := [(⟨"VersionedTables$Row", "write", "(I[IZ)V"⟩, 1), (⟨"VersionedTables$Version", "put", "([IZ)V"⟩, 4), (⟨"VersionedTables", "choose", "(ILVersionedTables$Table;)V"⟩, 10), (⟨"VersionedTables$Row", "holding", "(I)LVersionedTables$Version;"⟩, 1), (⟨"VersionedTables$Program", "holds", "([I)Z"⟩, 4), (⟨"VersionedTables$Program", "work", "([I)I"⟩, 4), (⟨"VersionedTables$Program", "workStep", "(I[I)I"⟩, 4), (⟨"VersionedTables$Program", "pop", "()I"⟩, 4), (⟨"VersionedTables$Program", "push", "(I)V"⟩, 4), (⟨"VersionedTables$RowSet", "add", "(I[I)V"⟩, 3), (⟨"VersionedTables$Table", "markRead", "(I)V"⟩, 4), (⟨"VersionedTables", "refuseSettingsBeyond", "(I)V"⟩, 10), (⟨"VersionedTables", "workOutSettings", "()V"⟩, 10), (⟨"VersionedTables", "write", "(ILVersionedTables$Table;Z)V"⟩, 10), (⟨"VersionedTables", "isTooLate", "(ILVersionedTables$Table;)Z"⟩, 10), (⟨"VersionedTables", "mustBeColumn", "(I)V"⟩, 10)]
theorem lw_r3 : ∀ q ∈ lw_privs_3, lw_okq q := List.forall_mem_cons.mpr ⟨lw_p32, List.forall_mem_cons.mpr ⟨lw_p33, List.forall_mem_cons.mpr ⟨lw_p34, List.forall_mem_cons.mpr ⟨lw_p35, List.forall_mem_cons.mpr ⟨lw_p36, List.forall_mem_cons.mpr ⟨lw_p37, List.forall_mem_cons.mpr ⟨lw_p38, List.forall_mem_cons.mpr ⟨lw_p39, List.forall_mem_cons.mpr ⟨lw_p40, List.forall_mem_cons.mpr ⟨lw_p41, List.forall_mem_cons.mpr ⟨lw_p42, List.forall_mem_cons.mpr ⟨lw_p43, List.forall_mem_cons.mpr ⟨lw_p44, List.forall_mem_cons.mpr ⟨lw_p45, List.forall_mem_cons.mpr ⟨lw_p46, List.forall_mem_cons.mpr ⟨lw_p47, fun _ h => absurd h List.not_mem_nil⟩⟩⟩⟩⟩⟩⟩⟩⟩⟩⟩⟩⟩⟩⟩⟩
theorem lw_p48 : lw_okq (⟨"VersionedTables$RowSet", "sum", "(I)J"⟩, 3) := ⟨⟨by decide +kernel, by decide +kernel⟩, List.mem_of_getElem? (i := 75) (by decide +kernel), List.mem_of_getElem? (i := 721) (by decide +kernel), List.mem_of_getElem? (i := 722) (by decide +kernel)⟩
theorem lw_p49 : lw_okq (⟨"VersionedTablesModel", "fail", "(I)I"⟩, 29) := ⟨⟨by decide +kernel, by decide +kernel⟩, List.mem_of_getElem? (i := 734) (by decide +kernel), List.mem_of_getElem? (i := 844) (by decide +kernel), List.mem_of_getElem? (i := 845) (by decide +kernel)⟩
theorem lw_p50 : lw_okq (⟨"VersionedTablesModel", "closed", "(I)Z"⟩, 29) := ⟨⟨by decide +kernel, by decide +kernel⟩, List.mem_of_getElem? (i := 734) (by decide +kernel), List.mem_of_getElem? (i := 852) (by decide +kernel), List.mem_of_getElem? (i := 853) (by decide +kernel)⟩
theorem lw_p51 : lw_okq (⟨"VersionedTablesModel", "breakUp", "(I)I"⟩, 29) := ⟨⟨by decide +kernel, by decide +kernel⟩, List.mem_of_getElem? (i := 734) (by decide +kernel), List.mem_of_getElem? (i := 860) (by decide +kernel), List.mem_of_getElem? (i := 861) (by decide +kernel)⟩
theorem lw_p52 : lw_okq (⟨"VersionedTablesModel", "read", "(Z)Z"⟩, 29) := ⟨⟨by decide +kernel, by decide +kernel⟩, List.mem_of_getElem? (i := 734) (by decide +kernel), List.mem_of_getElem? (i := 872) (by decide +kernel), List.mem_of_getElem? (i := 873) (by decide +kernel)⟩
theorem lw_p53 : lw_okq (⟨"VersionedTablesModel", "settingText", "()Z"⟩, 29) := ⟨⟨by decide +kernel, by decide +kernel⟩, List.mem_of_getElem? (i := 734) (by decide +kernel), List.mem_of_getElem? (i := 876) (by decide +kernel), List.mem_of_getElem? (i := 877) (by decide +kernel)⟩
theorem lw_p54 : lw_okq (⟨"VersionedTablesModel", "term", "()Z"⟩, 29) := ⟨⟨by decide +kernel, by decide +kernel⟩, List.mem_of_getElem? (i := 734) (by decide +kernel), List.mem_of_getElem? (i := 880) (by decide +kernel), List.mem_of_getElem? (i := 881) (by decide +kernel)⟩
theorem lw_p55 : lw_okq (⟨"VersionedTablesModel", "item", "()Z"⟩, 29) := ⟨⟨by decide +kernel, by decide +kernel⟩, List.mem_of_getElem? (i := 734) (by decide +kernel), List.mem_of_getElem? (i := 884) (by decide +kernel), List.mem_of_getElem? (i := 885) (by decide +kernel)⟩
theorem lw_p56 : lw_okq (⟨"VersionedTablesModel", "add", "(I)V"⟩, 29) := ⟨⟨by decide +kernel, by decide +kernel⟩, List.mem_of_getElem? (i := 734) (by decide +kernel), List.mem_of_getElem? (i := 888) (by decide +kernel), List.mem_of_getElem? (i := 889) (by decide +kernel)⟩
theorem lw_p57 : lw_okq (⟨"VersionedTablesModel", "condition", "()Z"⟩, 29) := ⟨⟨by decide +kernel, by decide +kernel⟩, List.mem_of_getElem? (i := 734) (by decide +kernel), List.mem_of_getElem? (i := 895) (by decide +kernel), List.mem_of_getElem? (i := 896) (by decide +kernel)⟩
theorem lw_p58 : lw_okq (⟨"VersionedTablesModel", "part", "()Z"⟩, 29) := ⟨⟨by decide +kernel, by decide +kernel⟩, List.mem_of_getElem? (i := 734) (by decide +kernel), List.mem_of_getElem? (i := 899) (by decide +kernel), List.mem_of_getElem? (i := 900) (by decide +kernel)⟩
theorem lw_p59 : lw_okq (⟨"VersionedTablesModel", "push", "(I)V"⟩, 29) := ⟨⟨by decide +kernel, by decide +kernel⟩, List.mem_of_getElem? (i := 734) (by decide +kernel), List.mem_of_getElem? (i := 903) (by decide +kernel), List.mem_of_getElem? (i := 904) (by decide +kernel)⟩
theorem lw_p60 : lw_okq (⟨"VersionedTablesModel", "comparison", "()Z"⟩, 29) := ⟨⟨by decide +kernel, by decide +kernel⟩, List.mem_of_getElem? (i := 734) (by decide +kernel), List.mem_of_getElem? (i := 907) (by decide +kernel), List.mem_of_getElem? (i := 908) (by decide +kernel)⟩
theorem lw_p61 : lw_okq (⟨"VersionedTablesModel", "endPart", "()V"⟩, 29) := ⟨⟨by decide +kernel, by decide +kernel⟩, List.mem_of_getElem? (i := 734) (by decide +kernel), List.mem_of_getElem? (i := 911) (by decide +kernel), List.mem_of_getElem? (i := 912) (by decide +kernel)⟩
theorem lw_p62 : lw_okq (⟨"VersionedTablesModel", "keep", "(I)V"⟩, 29) := ⟨⟨by decide +kernel, by decide +kernel⟩, List.mem_of_getElem? (i := 734) (by decide +kernel), List.mem_of_getElem? (i := 915) (by decide +kernel), List.mem_of_getElem? (i := 916) (by decide +kernel)⟩
theorem lw_p63 : lw_okq (⟨"VersionedTablesModel", "settings", "()I"⟩, 29) := ⟨⟨by decide +kernel, by decide +kernel⟩, List.mem_of_getElem? (i := 734) (by decide +kernel), List.mem_of_getElem? (i := 923) (by decide +kernel), List.mem_of_getElem? (i := 924) (by decide +kernel)⟩
def lw_privs_4 : List (MethodName × Nat) := [(⟨"VersionedTables$RowSet", "sum", "(I)J"⟩, 3), (⟨"VersionedTablesModel", "fail", "(I)I"⟩, 29), (⟨"VersionedTablesModel", "closed", "(I)Z"⟩, 29), (⟨"VersionedTablesModel", "breakUp", "(I)I"⟩, 29), (⟨"VersionedTablesModel", "read", "(Z)Z"⟩, 29), (⟨"VersionedTablesModel", "settingText", "()Z"⟩, 29), (⟨"VersionedTablesModel", "term", "()Z"⟩, 29), (⟨"VersionedTablesModel", "item", "()Z"⟩, 29), (⟨"VersionedTablesModel", "add", "(I)V"⟩, 29), (⟨"VersionedTablesModel", "condition", "()Z"⟩, 29), (⟨"VersionedTablesModel", "part", "()Z"⟩, 29), (⟨"VersionedTablesModel", "push", "(I)V"⟩, 29), (⟨"VersionedTablesModel", "comparison", "()Z"⟩, 29), (⟨"VersionedTablesModel", "endPart", "()V"⟩, 29), (⟨"VersionedTablesModel", "keep", "(I)V"⟩, 29), (⟨"VersionedTablesModel", "settings", "()I"⟩, 29)]
theorem lw_r4 : ∀ q ∈ lw_privs_4, lw_okq q := List.forall_mem_cons.mpr ⟨lw_p48, List.forall_mem_cons.mpr ⟨lw_p49, List.forall_mem_cons.mpr ⟨lw_p50, List.forall_mem_cons.mpr ⟨lw_p51, List.forall_mem_cons.mpr ⟨lw_p52, List.forall_mem_cons.mpr ⟨lw_p53, List.forall_mem_cons.mpr ⟨lw_p54, List.forall_mem_cons.mpr ⟨lw_p55, List.forall_mem_cons.mpr ⟨lw_p56, List.forall_mem_cons.mpr ⟨lw_p57, List.forall_mem_cons.mpr ⟨lw_p58, List.forall_mem_cons.mpr ⟨lw_p59, List.forall_mem_cons.mpr ⟨lw_p60, List.forall_mem_cons.mpr ⟨lw_p61, List.forall_mem_cons.mpr ⟨lw_p62, List.forall_mem_cons.mpr ⟨lw_p63, fun _ h => absurd h List.not_mem_nil⟩⟩⟩⟩⟩⟩⟩⟩⟩⟩⟩⟩⟩⟩⟩⟩
theorem lw_p64 : lw_okq (⟨"VersionedTablesModel", "noTable", "(I)Z"⟩, 29) := ⟨⟨by decide +kernel, by decide +kernel⟩, List.mem_of_getElem? (i := 734) (by decide +kernel), List.mem_of_getElem? (i := 939) (by decide +kernel), List.mem_of_getElem? (i := 940) (by decide +kernel)⟩
theorem lw_p65 : lw_okq (⟨"VersionedTablesModel", "look", "(II)I"⟩, 29) := ⟨⟨by decide +kernel, by decide +kernel⟩, List.mem_of_getElem? (i := 734) (by decide +kernel), List.mem_of_getElem? (i := 943) (by decide +kernel), List.mem_of_getElem? (i := 944) (by decide +kernel)⟩
theorem lw_p66 : lw_okq (⟨"VersionedTablesModel", "held", "(III)I"⟩, 29) := ⟨⟨by decide +kernel, by decide +kernel⟩, List.mem_of_getElem? (i := 734) (by decide +kernel), List.mem_of_getElem? (i := 947) (by decide +kernel), List.mem_of_getElem? (i := 948) (by decide +kernel)⟩
theorem lw_p67 : lw_okq (⟨"VersionedTablesModel", "worked", "(II)I"⟩, 29) := ⟨⟨by decide +kernel, by decide +kernel⟩, List.mem_of_getElem? (i := 734) (by decide +kernel), List.mem_of_getElem? (i := 954) (by decide +kernel), List.mem_of_getElem? (i := 955) (by decide +kernel)⟩
theorem lw_p68 : lw_okq (⟨"VersionedTablesModel", "done", "(III)I"⟩, 29) := ⟨⟨by decide +kernel, by decide +kernel⟩, List.mem_of_getElem? (i := 734) (by decide +kernel), List.mem_of_getElem? (i := 958) (by decide +kernel), List.mem_of_getElem? (i := 959) (by decide +kernel)⟩
theorem lw_p69 : lw_okq (⟨"VersionedTablesModel", "mark", "(II)V"⟩, 29) := ⟨⟨by decide +kernel, by decide +kernel⟩, List.mem_of_getElem? (i := 734) (by decide +kernel), List.mem_of_getElem? (i := 962) (by decide +kernel), List.mem_of_getElem? (i := 963) (by decide +kernel)⟩
theorem lw_p70 : lw_okq (⟨"VersionedTablesModel", "workSettings", "(I)Z"⟩, 29) := ⟨⟨by decide +kernel, by decide +kernel⟩, List.mem_of_getElem? (i := 734) (by decide +kernel), List.mem_of_getElem? (i := 970) (by decide +kernel), List.mem_of_getElem? (i := 971) (by decide +kernel)⟩
theorem lw_p71 : lw_okq (⟨"VersionedTablesModel", "writeAll", "(IIZI)I"⟩, 29) := ⟨⟨by decide +kernel, by decide +kernel⟩, List.mem_of_getElem? (i := 734) (by decide +kernel), List.mem_of_getElem? (i := 974) (by decide +kernel), List.mem_of_getElem? (i := 975) (by decide +kernel)⟩
theorem lw_p72 : lw_okq (⟨"VersionedTablesModel", "tooLate", "(II)Z"⟩, 29) := ⟨⟨by decide +kernel, by decide +kernel⟩, List.mem_of_getElem? (i := 734) (by decide +kernel), List.mem_of_getElem? (i := 978) (by decide +kernel), List.mem_of_getElem? (i := 979) (by decide +kernel)⟩
theorem lw_p73 : lw_okq (⟨"VersionedTablesModel", "broken", "(II)I"⟩, 29) := ⟨⟨by decide +kernel, by decide +kernel⟩, List.mem_of_getElem? (i := 734) (by decide +kernel), List.mem_of_getElem? (i := 982) (by decide +kernel), List.mem_of_getElem? (i := 983) (by decide +kernel)⟩
theorem lw_p74 : lw_okq (⟨"VersionedTablesModel", "write", "(IIIZ)V"⟩, 29) := ⟨⟨by decide +kernel, by decide +kernel⟩, List.mem_of_getElem? (i := 734) (by decide +kernel), List.mem_of_getElem? (i := 986) (by decide +kernel), List.mem_of_getElem? (i := 987) (by decide +kernel)⟩
theorem lw_p75 : lw_okq (⟨"VersionedTablesModel", "versionsOf", "(I)I"⟩, 29) := ⟨⟨by decide +kernel, by decide +kernel⟩, List.mem_of_getElem? (i := 734) (by decide +kernel), List.mem_of_getElem? (i := 1014) (by decide +kernel), List.mem_of_getElem? (i := 1015) (by decide +kernel)⟩
theorem lw_p76 : lw_okq (⟨"VersionedTablesModel", "inState", "(I)I"⟩, 29) := ⟨⟨by decide +kernel, by decide +kernel⟩, List.mem_of_getElem? (i := 734) (by decide +kernel), List.mem_of_getElem? (i := 1022) (by decide +kernel), List.mem_of_getElem? (i := 1023) (by decide +kernel)⟩
def lw_privs_5 : List (MethodName × Nat) := [(⟨"VersionedTablesModel", "noTable", "(I)Z"⟩, 29), (⟨"VersionedTablesModel", "look", "(II)I"⟩, 29), (⟨"VersionedTablesModel", "held", "(III)I"⟩, 29), (⟨"VersionedTablesModel", "worked", "(II)I"⟩, 29), (⟨"VersionedTablesModel", "done", "(III)I"⟩, 29), (⟨"VersionedTablesModel", "mark", "(II)V"⟩, 29), (⟨"VersionedTablesModel", "workSettings", "(I)Z"⟩, 29), (⟨"VersionedTablesModel", "writeAll", "(IIZI)I"⟩, 29), (⟨"VersionedTablesModel", "tooLate", "(II)Z"⟩, 29), (⟨"VersionedTablesModel", "broken", "(II)I"⟩, 29), (⟨"VersionedTablesModel", "write", "(IIIZ)V"⟩, 29), (⟨"VersionedTablesModel", "versionsOf", "(I)I"⟩, 29), (⟨"VersionedTablesModel", "inState", "(I)I"⟩, 29)]
theorem lw_r5 : ∀ q ∈ lw_privs_5, lw_okq q := List.forall_mem_cons.mpr ⟨lw_p64, List.forall_mem_cons.mpr ⟨lw_p65, List.forall_mem_cons.mpr ⟨lw_p66, List.forall_mem_cons.mpr ⟨lw_p67, List.forall_mem_cons.mpr ⟨lw_p68, List.forall_mem_cons.mpr ⟨lw_p69, List.forall_mem_cons.mpr ⟨lw_p70, List.forall_mem_cons.mpr ⟨lw_p71, List.forall_mem_cons.mpr ⟨lw_p72, List.forall_mem_cons.mpr ⟨lw_p73, List.forall_mem_cons.mpr ⟨lw_p74, List.forall_mem_cons.mpr ⟨lw_p75, List.forall_mem_cons.mpr ⟨lw_p76, fun _ h => absurd h List.not_mem_nil⟩⟩⟩⟩⟩⟩⟩⟩⟩⟩⟩⟩⟩
def lw_privs : List (MethodName × Nat) := lw_privs_1 ++ (lw_privs_2 ++ (lw_privs_3 ++ (lw_privs_4 ++ (lw_privs_5))))
def lw_tbl : List Cond := k2_sels lw_privs ++ tables_1
theorem lw_privs_ok : ∀ q ∈ lw_privs, lw_okq q := by
  show ∀ q ∈ lw_privs_1 ++ (lw_privs_2 ++ (lw_privs_3 ++ (lw_privs_4 ++ (lw_privs_5)))), lw_okq q
  exact List.forall_mem_append.mpr ⟨lw_r1, List.forall_mem_append.mpr ⟨lw_r2, List.forall_mem_append.mpr ⟨lw_r3, List.forall_mem_append.mpr ⟨lw_r4, lw_r5⟩⟩⟩⟩
end
section
/-! ===== this claim's classes, array types, words ===== -/
def kR_V : String := "VersionedTables"
def kF_V : u_T := fun k => match k with
  | 0 => ("VersionedTables", "tables", "[LVersionedTables$Table;", true)
  | 1 => ("VersionedTables", "transactions", "LVersionedTables$Transactions;", true)
  | 2 => ("VersionedTables", "line", "[I", true)
  | 3 => ("VersionedTables", "lineLength", "I", false)
  | 4 => ("VersionedTables", "refusedAt", "I", false)
  | 5 => ("VersionedTables", "condition", "LVersionedTables$Program;", false)
  | 6 => ("VersionedTables", "settings", "[LVersionedTables$Program;", true)
  | 7 => ("VersionedTables", "found", "LVersionedTables$RowSet;", false)
  | 8 => ("VersionedTables", "chosen", "LVersionedTables$RowSet;", false)
  | _ => ("VersionedTables", "oldValues", "[I", true)
def kT_V : Nat → FieldType := fun k => match k with
  | 0 => (.array (.object "VersionedTables$Table"))
  | 1 => (.object "VersionedTables$Transactions")
  | 2 => (.array .int)
  | 3 => .int
  | 4 => .int
  | 5 => (.object "VersionedTables$Program")
  | 6 => (.array (.object "VersionedTables$Program"))
  | 7 => (.object "VersionedTables$RowSet")
  | 8 => (.object "VersionedTables$RowSet")
  | _ => (.array .int)
def kR_T : String := "VersionedTables$Transactions"
def kF_T : u_T := fun k => match k with
  | 0 => ("VersionedTables$Transactions", "states", "[LVersionedTables$State;", true)
  | 1 => ("VersionedTables$Transactions", "begun", "I", false)
  | _ => ("VersionedTables$Transactions", "brokenTooLate", "I", false)
def kT_T : Nat → FieldType := fun k => match k with
  | 0 => (.array (.object "VersionedTables$State"))
  | 1 => .int
  | _ => .int
def kR_P : String := "VersionedTables$Program"
def kF_P : u_T := fun k => match k with
  | 0 => ("VersionedTables$Program", "steps", "[I", true)
  | 1 => ("VersionedTables$Program", "stack", "[I", true)
  | 2 => ("VersionedTables$Program", "size", "I", false)
  | _ => ("VersionedTables$Program", "height", "I", false)
def kT_P : Nat → FieldType := fun k => match k with
  | 0 => (.array .int)
  | 1 => (.array .int)
  | 2 => .int
  | _ => .int
def kR_S : String := "VersionedTables$RowSet"
def kF_S : u_T := fun k => match k with
  | 0 => ("VersionedTables$RowSet", "numbers", "[I", true)
  | 1 => ("VersionedTables$RowSet", "values", "[[I", true)
  | _ => ("VersionedTables$RowSet", "size", "I", false)
def kT_S : Nat → FieldType := fun k => match k with
  | 0 => (.array .int)
  | 1 => (.array (.array .int))
  | _ => .int
def kR_B : String := "VersionedTables$Table"
def kF_B : u_T := fun k => match k with
  | 0 => ("VersionedTables$Table", "columns", "I", true)
  | 1 => ("VersionedTables$Table", "rows", "[LVersionedTables$Row;", true)
  | 2 => ("VersionedTables$Table", "made", "I", false)
  | _ => ("VersionedTables$Table", "scanned", "I", false)
def kT_B : Nat → FieldType := fun k => match k with
  | 0 => .int
  | 1 => (.array (.object "VersionedTables$Row"))
  | 2 => .int
  | _ => .int
def kR_R : String := "VersionedTables$Row"
def kF_R : u_T := fun k => match k with
  | _ => ("VersionedTables$Row", "byWriter", "[LVersionedTables$Version;", true)
def kT_R : Nat → FieldType := fun k => match k with
  | _ => (.array (.object "VersionedTables$Version"))
def kR_Q : String := "VersionedTables$Parser"
def kF_Q : u_T := fun k => match k with
  | 0 => ("VersionedTables$Parser", "text", "[I", true)
  | 1 => ("VersionedTables$Parser", "length", "I", true)
  | 2 => ("VersionedTables$Parser", "program", "LVersionedTables$Program;", true)
  | 3 => ("VersionedTables$Parser", "at", "I", false)
  | _ => ("VersionedTables$Parser", "column", "I", false)
def kT_Q : Nat → FieldType := fun k => match k with
  | 0 => (.array .int)
  | 1 => .int
  | 2 => (.object "VersionedTables$Program")
  | 3 => .int
  | _ => .int
def kR_N : String := "VersionedTables$Version"
def kF_N : u_T := fun k => match k with
  | 0 => ("VersionedTables$Version", "writer", "I", true)
  | 1 => ("VersionedTables$Version", "values", "[I", true)
  | 2 => ("VersionedTables$Version", "read", "I", false)
  | _ => ("VersionedTables$Version", "gone", "Z", false)
def kT_N : Nat → FieldType := fun k => match k with
  | 0 => .int
  | 1 => (.array .int)
  | 2 => .int
  | _ => .boolean
def kR_M : String := "VersionedTablesModel"
def kF_M : u_T := fun k => match k with
  | 0 => ("VersionedTablesModel", "thrown", "I", false)
  | 1 => ("VersionedTablesModel", "columns", "[I", true)
  | 2 => ("VersionedTablesModel", "rows", "[I", true)
  | 3 => ("VersionedTablesModel", "scanned", "[I", true)
  | 4 => ("VersionedTablesModel", "version", "[I", true)
  | 5 => ("VersionedTablesModel", "values", "[I", true)
  | 6 => ("VersionedTablesModel", "state", "[I", true)
  | 7 => ("VersionedTablesModel", "begun", "I", false)
  | 8 => ("VersionedTablesModel", "late", "I", false)
  | 9 => ("VersionedTablesModel", "line", "[I", true)
  | 10 => ("VersionedTablesModel", "length", "I", false)
  | 11 => ("VersionedTablesModel", "errorAt", "I", false)
  | 12 => ("VersionedTablesModel", "items", "[I", true)
  | 13 => ("VersionedTablesModel", "sizes", "[I", true)
  | 14 => ("VersionedTablesModel", "isSet", "[Z", true)
  | 15 => ("VersionedTablesModel", "opens", "[I", true)
  | 16 => ("VersionedTablesModel", "stack", "[I", true)
  | 17 => ("VersionedTablesModel", "open", "I", false)
  | 18 => ("VersionedTablesModel", "at", "I", false)
  | 19 => ("VersionedTablesModel", "made", "I", false)
  | 20 => ("VersionedTablesModel", "signs", "I", false)
  | 21 => ("VersionedTablesModel", "waiting", "[I", true)
  | 22 => ("VersionedTablesModel", "divided", "Z", false)
  | 23 => ("VersionedTablesModel", "resultRow", "[I", true)
  | 24 => ("VersionedTablesModel", "resultValues", "[I", true)
  | 25 => ("VersionedTablesModel", "results", "I", false)
  | 26 => ("VersionedTablesModel", "holds", "[I", true)
  | 27 => ("VersionedTablesModel", "news", "[I", true)
  | _ => ("VersionedTablesModel", "matches", "[Z", true)
def kT_M : Nat → FieldType := fun k => match k with
  | 0 => .int
  | 1 => (.array .int)
  | 2 => (.array .int)
  | 3 => (.array .int)
  | 4 => (.array .int)
  | 5 => (.array .int)
  | 6 => (.array .int)
  | 7 => .int
  | 8 => .int
  | 9 => (.array .int)
  | 10 => .int
  | 11 => .int
  | 12 => (.array .int)
  | 13 => (.array .int)
  | 14 => (.array .boolean)
  | 15 => (.array .int)
  | 16 => (.array .int)
  | 17 => .int
  | 18 => .int
  | 19 => .int
  | 20 => .int
  | 21 => (.array .int)
  | 22 => .boolean
  | 23 => (.array .int)
  | 24 => (.array .int)
  | 25 => .int
  | 26 => (.array .int)
  | 27 => (.array .int)
  | _ => (.array .boolean)
def kF_E : u_T := fun _ => ("", "", "", false)
abbrev kx_cl : List vw_C := [(kR_V, kF_V, 10), (kR_T, kF_T, 3), (kR_P, kF_P, 4), (kR_S, kF_S, 3), (kR_B, kF_B, 4), (kR_R, kF_R, 1), (kR_Q, kF_Q, 5), (kR_N, kF_N, 4), (kR_M, kF_M, 29), ("java/lang/IllegalArgumentException", kF_E, 0), ("java/lang/IllegalStateException", kF_E, 0), ("java/util/NoSuchElementException", kF_E, 0), ("java/lang/UnsupportedOperationException", kF_E, 0), ("java/lang/ArithmeticException", kF_E, 0), ("java/lang/IndexOutOfBoundsException", kF_E, 0)]
abbrev kx_at : List FieldType := [.int, (.object "VersionedTables$Table"), (.object "VersionedTables$State"), (.object "VersionedTables$Program"), (.object "VersionedTables$Row"), (.object "VersionedTables$Version"), (.array .int), .boolean, .long, .double]
def kx_nc : List Cond := [.not (.castable "java/lang/IllegalStateException" "java/lang/IllegalArgumentException"), .not (.castable "java/util/NoSuchElementException" "java/lang/IllegalArgumentException"), .not (.castable "java/lang/UnsupportedOperationException" "java/lang/IllegalArgumentException"), .not (.castable "java/lang/ArithmeticException" "java/lang/IllegalArgumentException"), .not (.castable "java/lang/IndexOutOfBoundsException" "java/lang/IllegalArgumentException"), .not (.castable "java/lang/IllegalArgumentException" "java/lang/IllegalStateException"), .not (.castable "java/util/NoSuchElementException" "java/lang/IllegalStateException"), .not (.castable "java/lang/UnsupportedOperationException" "java/lang/IllegalStateException"), .not (.castable "java/lang/ArithmeticException" "java/lang/IllegalStateException"), .not (.castable "java/lang/IndexOutOfBoundsException" "java/lang/IllegalStateException"), .not (.castable "java/lang/IllegalArgumentException" "java/util/NoSuchElementException"), .not (.castable "java/lang/IllegalStateException" "java/util/NoSuchElementException"), .not (.castable "java/lang/UnsupportedOperationException" "java/util/NoSuchElementException"), .not (.castable "java/lang/ArithmeticException" "java/util/NoSuchElementException"), .not (.castable "java/lang/IndexOutOfBoundsException" "java/util/NoSuchElementException"), .not (.castable "java/lang/IllegalArgumentException" "java/lang/UnsupportedOperationException"), .not (.castable "java/lang/IllegalStateException" "java/lang/UnsupportedOperationException"), .not (.castable "java/util/NoSuchElementException" "java/lang/UnsupportedOperationException"), .not (.castable "java/lang/ArithmeticException" "java/lang/UnsupportedOperationException"), .not (.castable "java/lang/IndexOutOfBoundsException" "java/lang/UnsupportedOperationException"), .not (.castable "java/lang/IllegalArgumentException" "java/lang/ArithmeticException"), .not (.castable "java/lang/IllegalStateException" "java/lang/ArithmeticException"), .not (.castable "java/util/NoSuchElementException" "java/lang/ArithmeticException"), .not (.castable "java/lang/UnsupportedOperationException" "java/lang/ArithmeticException"), .not (.castable "java/lang/IndexOutOfBoundsException" "java/lang/ArithmeticException"), .not (.castable "java/lang/IllegalArgumentException" "java/lang/IndexOutOfBoundsException"), .not (.castable "java/lang/IllegalStateException" "java/lang/IndexOutOfBoundsException"), .not (.castable "java/util/NoSuchElementException" "java/lang/IndexOutOfBoundsException"), .not (.castable "java/lang/UnsupportedOperationException" "java/lang/IndexOutOfBoundsException"), .not (.castable "java/lang/ArithmeticException" "java/lang/IndexOutOfBoundsException")]
def kx_tb : List Cond := lw_tbl ++ kx_nc
end
section
/-! ===== what is known of the machine's tables, and stays known ===== -/
def kx_okw (w : Cond) : Bool := (w.onTables && w.keeps) || (match w with
  | .arrayClass _ => true
  | .fieldLinkNest _ _ _ _ _ _ => true
  | .methodLinkNest _ _ _ _ => true
  | .castable _ _ => true
  | .declares _ => true
  | .stringRef _ _ _ => true
  | .arrayOver (.object _) => true
  | .arrayOver (.array _) => true
  | .not (.castable _ _) => true
  | _ => false)
theorem kx_wm {w : Cond} (hk : kx_okw w = true) {A A' : Array Value} {s U : State} (hW : s.WarmedH U.vm) (h : w.before A s = true) : w.before A' U = true := by
  by_cases hb : (w.onTables && w.keeps) = true
  · exact word_at hW (Or.inl hb) h
  · unfold kx_okw at hk
    rw [Bool.or_eq_true] at hk
    rcases hk with hk | hk
    · exact absurd hk hb
    · split at hk
      · exact word_at hW (Or.inr ⟨_, rfl⟩) h
      · exact va_Nw.use rfl (va_Nw.warmF hW (va_Nw.of rfl h))
      · exact va_Nw.use rfl (va_Nw.warmM hW (va_Nw.of rfl h))
      · exact va_Nw.use rfl (va_Nw.warmC hW (va_Nw.of rfl h))
      · exact va_Nw.use rfl (va_Nw.warmD hW (va_Nw.of rfl h))
      · have h9 := Cond.stringRef_warmed hW h
        first
          | exact va_tabs rfl (rfl : (s.setVm U.vm).vm = U.vm) h9
          | (simp only [Cond.before, Cond.holds, Cond.value, State.names, State.poolOf?, State.resolvedAt?] at h9 ⊢; exact h9)
      · exact va_AO.use (va_AO.moved hW.alike (va_AO.of h))
      · exact over_moved hW.alike h
      · obtain ⟨c, t, h1, h2, h3⟩ := va_Nc.moved hW.alike (va_Nc.of h)
        simp [Cond.before, Cond.holds, Cond.value, h1, h2, h3]
      · cases hk
def kx_LS (C n d : String) (A : Nat → Prop) (U : State) (H : Heap) : Prop := ∃ (c : ClassId) (k : Class) (i : Nat) (f : Field) (a : Nat) (cell : Cell), U.vm.findClass C = some c ∧ U.fieldFound? C n d = some (c, k, i, f) ∧ f.isStatic = true ∧ k.statics = some a ∧ H[a]? = some cell ∧ cell.vm.isStatics = true ∧ cell.cls = c ∧ f.slot < cell.slots.size ∧ k.staticTypes[f.slot]? = some f.type ∧ ¬ A a
theorem kx_LS.moved {C n d : String} {A : Nat → Prop} {u U : State} {H H1 : Heap} (hvm : u.vm.Alike U.vm) (hq : ∀ a : Nat, a < H.size → ¬ A a → H1[a]? = H[a]?) (h : kx_LS C n d A u H) : kx_LS C n d A U H1 := by
  obtain ⟨c, k, i, f, a, cell, h1, h2, h3, h4, h5, h6, h7, h8, h9, h10⟩ := h
  obtain ⟨k', hi', he⟩ := State.fieldFound?_setVm hvm h2
  exact ⟨c, k', i, f, a, cell, by rw [hvm.findClass]; exact h1, hi', h3, by rw [he]; exact h4, by rw [hq a (Array.getElem?_eq_some_iff.mp h5).1 h10]; exact h5, h6, h7, h8, by rw [he]; exact h9, h10⟩
theorem kx_LS.word {C n d : String} {A : Nat → Prop} {s : State} {B : Array Value} (h : kx_LS C n d A s s.heap) : (Cond.laysStatic C n d).before B s = true := by
  obtain ⟨c, k, i, f, a, cell, h1, h2, h3, h4, h5, h6, h7, h8, h9, -⟩ := h
  show (Cond.laysStatic C n d).holds B s none s [] = true
  exact Cond.laysStatic_of h1 h2 h3 h4 h5 h6 h7 h8 h9
theorem kx_LS.of {C n d : String} {A : Nat → Prop} {s : State} {B : Array Value} (h : (Cond.laysStatic C n d).before B s = true) (hA : ∀ a : Nat, a < s.heap.size → ¬ A a) : kx_LS C n d A s s.heap := by
  obtain ⟨c, k, i, f, a, cell, h1, h2, h3, h4, h5, h6, h7, h8, h9⟩ := Cond.laysStatic_spec h
  exact ⟨c, k, i, f, a, cell, h1, h2, h3, h4, h5, h6, h7, h8, h9, hA a (Array.getElem?_eq_some_iff.mp h5).1⟩
theorem kx_Zw {C n d : String} {A : Nat → Prop} {s : State} {B : Array Value} (h : va_Zq C n d A s s.heap) : (Cond.isRef (.static C n d)).before B s = true := by
  have key : ∀ v : Value, v.isRef = true → va_Z C n d v A s s.heap → (Cond.isRef (.static C n d)).before B s = true := by
    intro v hv hz
    obtain ⟨cf, kf, fi, f, a, cell, h1, h2, h3, h4, h5, h6, h7, -⟩ := hz
    have he : (Term.static C n d).eval B s none [] s = some v := by
      simp [Term.eval, State.fieldNamed?, h1, h2, h4, h5, h6, h7]
    simp only [Cond.before, Cond.holds, Cond.value, he]
    cases v <;> simp_all [Value.isRef]
  rcases h with h | ⟨t, h⟩
  · exact key _ rfl h
  · exact key _ rfl h
/-- the words that stay -/
def kx_ws : List Cond := kx_tb.filter kx_okw
theorem kx_by {w : Cond} (n : Nat) (h : kx_tb[n]? = some w) (h2 : kx_okw w = true) : w ∈ kx_ws := List.mem_filter.mpr ⟨List.mem_of_getElem? h, h2⟩
/-- where the walk's heap begins; the classes' numbers and slots; the array classes' numbers; the constants' addresses; the script's address, length, ints -/
abbrev kx_G : Type := Nat × va_G × (Nat → ClassId) × (Nat → Nat) × Nat × Nat × (Nat → Int32)
abbrev kx_En (G : kx_G) (U : State) (H : Heap) : Prop := va_En "VersionedTables$State" "LVersionedTables$State;" ["OPEN", "DONE", "BROKEN"] [] G.2.2.2.1 (fun q => G.1 ≤ q) U H
/-- what stood there before the walk, and is never written -/
def kx_St (G : kx_G) (U : State) (H : Heap) : Prop := kx_En G U H ∧ (va_Zq Bundle.tN "UNASSIGNED_STACK" Bundle.steD (fun q => G.1 ≤ q) U H ∧ kx_LS Bundle.tN "UNASSIGNED_STACK" Bundle.steD (fun q => G.1 ≤ q) U H) ∧ (va_Zq Bundle.tN "SUPPRESSED_SENTINEL" Bundle.listD (fun q => G.1 ≤ q) U H ∧ kx_LS Bundle.tN "SUPPRESSED_SENTINEL" Bundle.listD (fun q => G.1 ≤ q) U H) ∧ va_X G.2.2.2.2.1 G.2.2.2.2.2.1 G.2.2.2.2.2.2 U H ∧ G.2.2.2.2.1 < G.1
def kx_wz : List Cond := [.isRef (.static Bundle.tN "UNASSIGNED_STACK" Bundle.steD), .isRef (.static Bundle.tN "SUPPRESSED_SENTINEL" Bundle.listD), .laysStatic Bundle.tN "UNASSIGNED_STACK" Bundle.steD, .laysStatic Bundle.tN "SUPPRESSED_SENTINEL" Bundle.listD]
def kx_tys (G : kx_G) : List (ClassId × FieldType) := (List.range kx_at.length).map fun t => (G.2.2.1 t, kx_at.getD t .int)
theorem kx_tys_at (G : kx_G) {t : Nat} {ty : FieldType} (h : kx_at[t]? = some ty) : (kx_tys G)[t]? = some (G.2.2.1 t, ty) := by
  have hl : t < kx_at.length := (List.getElem?_eq_some_iff.mp h).1
  have h2 : kx_at.getD t .int = ty := by rw [List.getD_eq_getElem?_getD, h]; rfl
  unfold kx_tys
  rw [List.getElem?_map, List.getElem?_range hl]
  simp only [Option.map_some, h2]
/-- what is known of the machine's tables, and of what stood there before the walk -/
def kx_K (G : kx_G) (U : State) : Prop := va_K G.2.1 kx_cl (kx_tys G) U ∧ (∀ w ∈ kx_ws, ∀ A : Array Value, w.before A U = true) ∧ kx_St G U U.heap
theorem kx_St.moved {G : kx_G} {u U : State} {H H1 : Heap} (hvm : u.vm.Alike U.vm) (hq : ∀ a : Nat, a < H.size → ¬ G.1 ≤ a → H1[a]? = H[a]?) (h : kx_St G u H) : kx_St G U H1 := by
  obtain ⟨h1, ⟨h2, h3⟩, ⟨h4, h5⟩, h6, h7⟩ := h
  refine ⟨(h1.kept hq).moved hvm, ⟨(h2.kept hq).moved hvm, h3.moved hvm hq⟩, ⟨(h4.kept hq).moved hvm, h5.moved hvm hq⟩, ?_, h7⟩
  obtain ⟨scr, g1, g2, g3, g4, g5⟩ := h6
  refine ⟨scr, ?_, State.isArrayOf_alike hvm g2, g3, g4, g5⟩
  rw [hq _ (Array.getElem?_eq_some_iff.mp g1).1 (by omega)]
  exact g1
theorem kx_K.moved {G : kx_G} {s U : State} {H : Heap} {locs : List Loc} (h : kx_K G s) (hW : s.WarmedH U.vm) (hT : U.heap = H) (hS : va_S (fun q => G.1 ≤ q) s.heap H locs) (hb : G.1 ≤ s.heap.size) : kx_K G U := by
  refine ⟨va_K.moved hW.alike h.1, fun w hw A => ?_, ?_⟩
  · exact kx_wm (List.mem_filter.mp hw).2 hW (h.2.1 w hw A)
  · rw [hT]
    exact kx_St.moved hW.alike (fun a h1 h2 => hS.2.1 a h1 h2) h.2.2
theorem kx_K.z {G : kx_G} {U : State} (h : kx_K G U) : ∀ w ∈ kx_wz, ∀ A : Array Value, w.before A U = true := by
  intro w hw A
  obtain ⟨-, ⟨h2, h3⟩, ⟨h4, h5⟩, -⟩ := h.2.2
  simp only [kx_wz, List.mem_cons, List.not_mem_nil, or_false] at hw
  rcases hw with rfl | rfl | rfl | rfl
  · exact kx_Zw h2
  · exact kx_Zw h4
  · exact h3.word
  · exact h5.word
theorem kx_K.calling {G : kx_G} {U : State} {g : JFrame} {mk : MethodId} {a : Array Value} (h : kx_K G U) : kx_K G (U.calling g mk a) := by
  refine ⟨va_K.moved (u := U) (U := U.calling g mk a) (Vm.Alike.refl U.vm) h.1, fun w hw A => kx_wm (List.mem_filter.mp hw).2 (State.WarmedH.refl U) (h.2.1 w hw A), ?_⟩
  exact kx_St.moved (u := U) (U := U.calling g mk a) (H := U.heap) (H1 := U.heap) (Vm.Alike.refl U.vm) (fun _ _ _ => rfl) h.2.2
end
section
/-! ===== THE WALK'S OWN HEAP: what the law and all that it calls have made, cell by cell, and one judgement for a method's walk over it ===== -/
abbrev kx_C : Type := (Nat × vp_A) ⊕ (Nat × List Value)
abbrev kx_H : Type := Nat × (Nat → kx_C)
def kx_cv (G : kx_G) (c : kx_C) : va_E := match c with
  | .inl q => .inl (G.2.2.1 q.1, q.2)
  | .inr o => .inr o
def kx_hp (G : kx_G) (h : kx_H) (H : Heap) : Prop := H.size = h.1 ∧ G.1 ≤ h.1 ∧ ∀ a : Nat, G.1 ≤ a → a < h.1 → va_at G.2.1 kx_cl (a, kx_cv G (h.2 a)) H
def kx_set (h : kx_H) (a : Nat) (c : kx_C) : kx_H := (h.1, va_up h.2 a c)
def kx_new (h : kx_H) (c : kx_C) : kx_H := (h.1 + 1, va_up h.2 h.1 c)
/-- a cell that is there -/
def kx_is (G : kx_G) (h : kx_H) (a : Nat) (c : kx_C) : Prop := G.1 ≤ a ∧ a < h.1 ∧ h.2 a = c
theorem kx_is.ne {G : kx_G} {h : kx_H} {a b : Nat} {c c' : kx_C} (k : kx_is G h b c') (n : b ≠ a) : kx_is G (kx_set h a c) b c' :=
  ⟨k.1, k.2.1, by simp only [kx_set, va_up, if_neg n]; exact k.2.2⟩
theorem kx_is.eq {G : kx_G} {h : kx_H} {a : Nat} {c c' : kx_C} (k : kx_is G h a c') : kx_is G (kx_set h a c) a c :=
  ⟨k.1, k.2.1, by simp [kx_set, va_up]⟩
theorem kx_is.old {G : kx_G} {h : kx_H} {b : Nat} {c c' : kx_C} (k : kx_is G h b c') : kx_is G (kx_new h c) b c' :=
  ⟨k.1, Nat.lt_succ_of_lt k.2.1, by simp only [kx_new, va_up, if_neg (Nat.ne_of_lt k.2.1)]; exact k.2.2⟩
theorem kx_is.fresh {G : kx_G} {h : kx_H} {c : kx_C} (k : G.1 ≤ h.1) : kx_is G (kx_new h c) h.1 c :=
  ⟨k, Nat.lt_succ_self _, by simp [kx_new, va_up]⟩
theorem kx_is.apart {G : kx_G} {h : kx_H} {a b : Nat} {c c' : kx_C} (k : kx_is G h a c) (k' : kx_is G h b c') (n : c ≠ c') : a ≠ b := fun e => n (by rw [← k.2.2, ← k'.2.2, e])
theorem kx_hp.at {G : kx_G} {h : kx_H} {H : Heap} {a : Nat} {c : kx_C} (hh : kx_hp G h H) (k : kx_is G h a c) : va_at G.2.1 kx_cl (a, kx_cv G c) H := by
  have := hh.2.2 a k.1 k.2.1
  rw [k.2.2] at this
  exact this
theorem kx_hp.P {G : kx_G} {h : kx_H} {H : Heap} {a : Nat} {c : kx_C} (hh : kx_hp G h H) (k : kx_is G h a c) : va_P G.2.1 kx_cl [(a, kx_cv G c)] H := by
  intro i q hq
  have hi : i < 1 := (List.getElem?_eq_some_iff.mp hq).1
  have h0 : i = 0 := by omega
  subst h0
  cases hq
  exact hh.at k
theorem kx_hp.set {G : kx_G} {h : kx_H} {H H1 : Heap} {a : Nat} {c : kx_C} (hh : kx_hp G h H) (he : va_at G.2.1 kx_cl (a, kx_cv G c) H1) (z : H1.size = H.size) (oq : ∀ q : Nat, q ≠ a → H1[q]? = H[q]?) : kx_hp G (kx_set h a c) H1 := by
  refine ⟨z.trans hh.1, hh.2.1, fun b hb hl => ?_⟩
  by_cases e : b = a
  · subst e
    simp only [kx_set, va_up, if_true]
    exact he
  · simp only [kx_set, va_up, if_neg e]
    exact (hh.2.2 b hb hl).kept (oq b e)
theorem kx_hp.push {G : kx_G} {h : kx_H} {H H1 : Heap} {c : kx_C} (hh : kx_hp G h H) (he : va_at G.2.1 kx_cl (h.1, kx_cv G c) H1) (z : H1.size = H.size + 1) (oq : ∀ q : Nat, q < H.size → H1[q]? = H[q]?) : kx_hp G (kx_new h c) H1 := by
  have h1 := hh.1
  refine ⟨by simp only [kx_new]; omega, Nat.le_succ_of_le hh.2.1, fun b hb hl => ?_⟩
  simp only [kx_new] at hl
  by_cases e : b = h.1
  · subst e
    simp only [kx_new, va_up, if_true]
    exact he
  · simp only [kx_new, va_up, if_neg e]
    exact (hh.2.2 b hb (by omega)).kept (oq b (by omega))
theorem kx_S.set {G : kx_G} {H0 H H1 : Heap} {locs : List Loc} {a i : Nat} (h : va_S (fun q => G.1 ≤ q) H0 H locs) (z : H1.size = H.size) (oq : ∀ q : Nat, q ≠ a → H1[q]? = H[q]?) (ha : G.1 ≤ a) : va_S (fun q => G.1 ≤ q) H0 H1 (locs ++ [⟨a, i⟩]) := h.put z oq ha
theorem kx_S.push {G : kx_G} {H0 H H1 : Heap} {locs : List Loc} (h : va_S (fun q => G.1 ≤ q) H0 H locs) (z : H1.size = H.size + 1) (oq : ∀ q : Nat, q < H.size → H1[q]? = H[q]?) : va_S (fun q => G.1 ≤ q) H0 H1 locs :=
  ⟨Nat.le_trans h.1 (by omega), fun x h1 h2 => (oq x (Nat.lt_of_lt_of_le h1 h.1)).trans (h.2.1 x h1 h2), h.2.2⟩
end
section
/-! ===== instructions that touch neither the heap nor another method ===== -/
abbrev kx_L : Type := List (Nat × Value)
abbrev kx_O : Type := Option (Nat × kx_L × List Value)
def kx_lk : kx_L → Nat → Option Value
  | [], _ => none
  | q :: r, k => if q.1 = k then some q.2 else kx_lk r k
/-- the locals are kept in the order of their places -/
def kx_ins : kx_L → Nat → Value → kx_L
  | [], i, v => [(i, v)]
  | q :: r, i, v => if i < q.1 then (i, v) :: q :: r else q :: kx_ins r i v
theorem kx_ins_mem : ∀ {lv : kx_L} {i : Nat} {v : Value} {q : Nat × Value}, q ∈ kx_ins lv i v → q ∈ (i, v) :: lv
  | [], i, v, q, h => by simpa [kx_ins] using h
  | z :: r, i, v, q, h => by
    simp only [kx_ins] at h
    by_cases e : i < z.1
    · rw [if_pos e] at h
      exact h
    · rw [if_neg e] at h
      rcases List.mem_cons.mp h with g | g
      · rw [g]; simp
      · rcases List.mem_cons.mp (kx_ins_mem g) with y | y
        · rw [y]; simp
        · exact List.mem_cons_of_mem _ (List.mem_cons_of_mem _ y)
theorem kx_ins_has {ls : Array Slot} {nL i : Nat} {v : Value} {lv : kx_L} (h : lv_has ls nL ((i, v) :: lv)) : lv_has ls nL (kx_ins lv i v) := ⟨h.1, h.2.1, fun q hq => h.2.2 q (kx_ins_mem hq)⟩
def kx_f1 (lv : kx_L) (i : Nat) : kx_L := lv.filter (fun q => !(q.1 == i) && !(q.1 + 1 == i && q.2.category == 2))
def kx_f2 (lv : kx_L) (i : Nat) : kx_L := lv.filter (fun q => !(q.1 == i) && (!(q.1 == i + 1) && !(q.1 + 1 == i && q.2.category == 2)))
def kx_s1 (lv : kx_L) (i : Nat) (v : Value) : kx_L := kx_ins (kx_f1 lv i) i v
def kx_s2 (lv : kx_L) (i : Nat) (v : Value) : kx_L := kx_ins (kx_f2 lv i) i v
theorem kx_lk_has {ls : Array Slot} {nL : Nat} : ∀ {lv : kx_L} {k : Nat} {v : Value}, kx_lk lv k = some v → lv_has ls nL lv → ls[k]? = some (.val v)
  | [], k, v, h, _ => by simp [kx_lk] at h
  | q :: r, k, v, h, hl => by
    simp only [kx_lk] at h
    by_cases e : q.1 = k
    · rw [if_pos e] at h
      cases h
      rw [← e]
      exact hl.2.2 q List.mem_cons_self
    · rw [if_neg e] at h
      exact kx_lk_has h ⟨hl.1, hl.2.1, fun z hz => hl.2.2 z (List.mem_cons_of_mem _ hz)⟩
/-- a constant -/
def kx_pu (len n pc : Nat) (lv : kx_L) (st : List Value) (v : Value) : kx_O := if len = n then some (pc + n, lv, v :: st) else none
theorem kx_pu_inv {len n pc : Nat} {lv : kx_L} {st : List Value} {v : Value} {o} (h : kx_pu len n pc lv st v = some o) : len = n ∧ o = (pc + n, lv, v :: st) := by
  unfold kx_pu at h
  by_cases e : len = n
  · rw [if_pos e] at h; exact ⟨e, (Option.some.inj h).symm⟩
  · rw [if_neg e] at h; cases h
/-- a local is read: of a kind (0 int, 1 reference, 2 long, 3 double) -/
def kx_kd (v : Value) : Nat := match v with
  | .int _ => 0
  | .ref _ => 1
  | .null => 1
  | .long _ => 2
  | .double _ => 3
  | _ => 9
def kx_ld (len n pc : Nat) (lv : kx_L) (st : List Value) (kd k : Nat) : kx_O := match kx_lk lv k with
  | some v => if len = n ∧ kx_kd v = kd then some (pc + n, lv, v :: st) else none
  | none => none
theorem kx_ld_inv {len n pc kd k : Nat} {lv : kx_L} {st : List Value} {o} (h : kx_ld len n pc lv st kd k = some o) : ∃ v, kx_lk lv k = some v ∧ len = n ∧ kx_kd v = kd ∧ o = (pc + n, lv, v :: st) := by
  unfold kx_ld at h
  split at h
  · rename_i v hv
    by_cases e : len = n ∧ kx_kd v = kd
    · rw [if_pos e] at h; exact ⟨v, hv, e.1, e.2, (Option.some.inj h).symm⟩
    · rw [if_neg e] at h; cases h
  · cases h
/-- a local is written -/
def kx_sv (len n pc nL : Nat) (lv : kx_L) (st : List Value) (kd k : Nat) : kx_O := match st with
  | v :: r => if len = n ∧ kx_kd v = kd ∧ k < nL then some (pc + n, kx_s1 lv k v, r) else none
  | [] => none
theorem kx_sv_inv {len n pc nL kd k : Nat} {lv : kx_L} {st : List Value} {o} (h : kx_sv len n pc nL lv st kd k = some o) : ∃ v r, st = v :: r ∧ len = n ∧ kx_kd v = kd ∧ k < nL ∧ o = (pc + n, kx_s1 lv k v, r) := by
  unfold kx_sv at h
  split at h
  · rename_i v r
    by_cases e : len = n ∧ kx_kd v = kd ∧ k < nL
    · rw [if_pos e] at h; exact ⟨v, r, rfl, e.1, e.2.1, e.2.2, (Option.some.inj h).symm⟩
    · rw [if_neg e] at h; cases h
  · cases h
def kx_sw (len n pc nL : Nat) (lv : kx_L) (st : List Value) (kd k : Nat) : kx_O := match st with
  | v :: r => if len = n ∧ kx_kd v = kd ∧ k + 1 < nL then some (pc + n, kx_s2 lv k v, r) else none
  | [] => none
theorem kx_sw_inv {len n pc nL kd k : Nat} {lv : kx_L} {st : List Value} {o} (h : kx_sw len n pc nL lv st kd k = some o) : ∃ v r, st = v :: r ∧ len = n ∧ kx_kd v = kd ∧ k + 1 < nL ∧ o = (pc + n, kx_s2 lv k v, r) := by
  unfold kx_sw at h
  split at h
  · rename_i v r
    by_cases e : len = n ∧ kx_kd v = kd ∧ k + 1 < nL
    · rw [if_pos e] at h; exact ⟨v, r, rfl, e.1, e.2.1, e.2.2, (Option.some.inj h).symm⟩
    · rw [if_neg e] at h; cases h
  · cases h
def kx_i2 (len pc : Nat) (lv : kx_L) (st : List Value) (f : Int32 → Int32 → Int32) : kx_O := match st with
  | .int y :: .int x :: r => if len = 1 then some (pc + 1, lv, .int (f x y) :: r) else none
  | _ => none
theorem kx_i2_inv {len pc : Nat} {lv : kx_L} {st : List Value} {f : Int32 → Int32 → Int32} {o} (h : kx_i2 len pc lv st f = some o) : ∃ x y r, st = .int y :: .int x :: r ∧ len = 1 ∧ o = (pc + 1, lv, .int (f x y) :: r) := by
  unfold kx_i2 at h
  split at h
  · rename_i y x r
    by_cases e : len = 1
    · rw [if_pos e] at h; exact ⟨x, y, r, rfl, e, (Option.some.inj h).symm⟩
    · rw [if_neg e] at h; cases h
  · cases h
def kx_l2 (len pc : Nat) (lv : kx_L) (st : List Value) (f : Int64 → Int64 → Int64) : kx_O := match st with
  | .long y :: .long x :: r => if len = 1 then some (pc + 1, lv, .long (f x y) :: r) else none
  | _ => none
theorem kx_l2_inv {len pc : Nat} {lv : kx_L} {st : List Value} {f : Int64 → Int64 → Int64} {o} (h : kx_l2 len pc lv st f = some o) : ∃ x y r, st = .long y :: .long x :: r ∧ len = 1 ∧ o = (pc + 1, lv, .long (f x y) :: r) := by
  unfold kx_l2 at h
  split at h
  · rename_i y x r
    by_cases e : len = 1
    · rw [if_pos e] at h; exact ⟨x, y, r, rfl, e, (Option.some.inj h).symm⟩
    · rw [if_neg e] at h; cases h
  · cases h
/-- one int above is turned -/
def kx_i1 (len pc : Nat) (lv : kx_L) (st : List Value) (f : Int32 → Value) : kx_O := match st with
  | .int x :: r => if len = 1 then some (pc + 1, lv, f x :: r) else none
  | _ => none
theorem kx_i1_inv {len pc : Nat} {lv : kx_L} {st : List Value} {f : Int32 → Value} {o} (h : kx_i1 len pc lv st f = some o) : ∃ x r, st = .int x :: r ∧ len = 1 ∧ o = (pc + 1, lv, f x :: r) := by
  unfold kx_i1 at h
  split at h
  · rename_i x r
    by_cases e : len = 1
    · rw [if_pos e] at h; exact ⟨x, r, rfl, e, (Option.some.inj h).symm⟩
    · rw [if_neg e] at h; cases h
  · cases h
/-- one value of one word above is turned into several -/
def kx_v1 (len pc : Nat) (lv : kx_L) (st : List Value) (f : Value → List Value → List Value) : kx_O := match st with
  | v :: r => if len = 1 ∧ v.category = 1 then some (pc + 1, lv, f v r) else none
  | [] => none
theorem kx_v1_inv {len pc : Nat} {lv : kx_L} {st : List Value} {f : Value → List Value → List Value} {o} (h : kx_v1 len pc lv st f = some o) : ∃ v r, st = v :: r ∧ len = 1 ∧ v.category = 1 ∧ o = (pc + 1, lv, f v r) := by
  unfold kx_v1 at h
  split at h
  · rename_i v r
    by_cases e : len = 1 ∧ v.category = 1
    · rw [if_pos e] at h; exact ⟨v, r, rfl, e.1, e.2, (Option.some.inj h).symm⟩
    · rw [if_neg e] at h; cases h
  · cases h
def kx_v2 (len pc : Nat) (lv : kx_L) (st : List Value) (f : Value → Value → List Value → List Value) : kx_O := match st with
  | v :: w :: r => if len = 1 ∧ v.category = 1 ∧ w.category = 1 then some (pc + 1, lv, f v w r) else none
  | _ => none
theorem kx_v2_inv {len pc : Nat} {lv : kx_L} {st : List Value} {f : Value → Value → List Value → List Value} {o} (h : kx_v2 len pc lv st f = some o) : ∃ v w r, st = v :: w :: r ∧ len = 1 ∧ v.category = 1 ∧ w.category = 1 ∧ o = (pc + 1, lv, f v w r) := by
  unfold kx_v2 at h
  split at h
  · rename_i v w r
    by_cases e : len = 1 ∧ v.category = 1 ∧ w.category = 1
    · rw [if_pos e] at h; exact ⟨v, w, r, rfl, e.1, e.2.1, e.2.2, (Option.some.inj h).symm⟩
    · rw [if_neg e] at h; cases h
  · cases h
def kx_go1 (len pc : Nat) (lv : kx_L) (st : List Value) (off : Int) : kx_O := if len = 3 ∧ 0 ≤ (pc : Int) + off then some (((pc : Int) + off).toNat, lv, st) else none
theorem kx_go1_inv {len pc : Nat} {lv : kx_L} {st : List Value} {off : Int} {o} (h : kx_go1 len pc lv st off = some o) : len = 3 ∧ (pc : Int) + off = ((((pc : Int) + off).toNat : Nat) : Int) ∧ o = (((pc : Int) + off).toNat, lv, st) := by
  unfold kx_go1 at h
  by_cases e : len = 3 ∧ 0 ≤ (pc : Int) + off
  · rw [if_pos e] at h; exact ⟨e.1, (Int.toNat_of_nonneg e.2).symm, (Option.some.inj h).symm⟩
  · rw [if_neg e] at h; cases h
def kx_inc (len pc nL : Nat) (lv : kx_L) (st : List Value) (k : Nat) (n : Int) : kx_O := match kx_lk lv k with
  | some (.int x) => if len = 3 ∧ k < nL then some (pc + 3, kx_s1 lv k (.int (x + Int32.ofInt n)), st) else none
  | _ => none
theorem kx_inc_inv {len pc nL k : Nat} {lv : kx_L} {st : List Value} {n : Int} {o} (h : kx_inc len pc nL lv st k n = some o) : ∃ x, kx_lk lv k = some (.int x) ∧ len = 3 ∧ k < nL ∧ o = (pc + 3, kx_s1 lv k (.int (x + Int32.ofInt n)), st) := by
  unfold kx_inc at h
  split at h
  · rename_i x hv
    by_cases e : len = 3 ∧ k < nL
    · rw [if_pos e] at h; exact ⟨x, hv, e.1, e.2, (Option.some.inj h).symm⟩
    · rw [if_neg e] at h; cases h
  · cases h
/-- one step -/
def kx_st (i : Instr) (len pc nL : Nat) (lv : kx_L) (st : List Value) : kx_O := match i with
  | .iconst n => kx_pu len 1 pc lv st (.int (Int32.ofInt n))
  | .bipush n => kx_pu len 2 pc lv st (.int (Int8.ofInt n).toInt32)
  | .sipush n => kx_pu len 3 pc lv st (.int (Int16.ofInt n).toInt32)
  | .lconst n => kx_pu len 1 pc lv st (.long (Int64.ofNat (n : Nat)))
  | .aconst_null => kx_pu len 1 pc lv st .null
  | .iload_n k => kx_ld len 1 pc lv st 0 k
  | .iload k => kx_ld len 2 pc lv st 0 k
  | .aload_n k => kx_ld len 1 pc lv st 1 k
  | .aload k => kx_ld len 2 pc lv st 1 k
  | .lload_n k => kx_ld len 1 pc lv st 2 k
  | .lload k => kx_ld len 2 pc lv st 2 k
  | .dload_n k => kx_ld len 1 pc lv st 3 k
  | .dload k => kx_ld len 2 pc lv st 3 k
  | .istore_n k => kx_sv len 1 pc nL lv st 0 k
  | .istore k => kx_sv len 2 pc nL lv st 0 k
  | .astore_n k => kx_sv len 1 pc nL lv st 1 k
  | .astore k => kx_sv len 2 pc nL lv st 1 k
  | .lstore_n k => kx_sw len 1 pc nL lv st 2 k
  | .lstore k => kx_sw len 2 pc nL lv st 2 k
  | .dstore_n k => kx_sw len 1 pc nL lv st 3 k
  | .dstore k => kx_sw len 2 pc nL lv st 3 k
  | .iinc k n => kx_inc len pc nL lv st k n
  | .iadd => kx_i2 len pc lv st (fun x y => x + y)
  | .isub => kx_i2 len pc lv st (fun x y => x - y)
  | .imul => kx_i2 len pc lv st (fun x y => x * y)
  | .iand => kx_i2 len pc lv st (fun x y => x &&& y)
  | .ior => kx_i2 len pc lv st (fun x y => x ||| y)
  | .ixor => kx_i2 len pc lv st (fun x y => x ^^^ y)
  | .ishl => kx_i2 len pc lv st (fun x y => x <<< (y &&& 31))
  | .ishr => kx_i2 len pc lv st (fun x y => x >>> (y &&& 31))
  | .ladd => kx_l2 len pc lv st (fun x y => x + y)
  | .ineg => kx_i1 len pc lv st (fun x => .int (-x))
  | .i2l => kx_i1 len pc lv st (fun x => .long x.toInt64)
  | .i2d => kx_i1 len pc lv st (fun x => .double (FP.i2d x))
  | .dup => kx_v1 len pc lv st (fun v r => v :: v :: r)
  | .pop => kx_v1 len pc lv st (fun _ r => r)
  | .dup_x1 => kx_v2 len pc lv st (fun v w r => v :: w :: v :: r)
  | .dup2 => kx_v2 len pc lv st (fun v w r => v :: w :: v :: w :: r)
  | .goto off => kx_go1 len pc lv st off
  | _ => none
section KXP
variable {p : Program} {l : Launch} {e : Env} {R : Room} {s : State} {m : MethodId} {args : Array Value} {below : List Frame} {meth : Method} {c : Code} {H : Heap} {locs : List Loc} {cells slots : Nat} {Q : State → Prop}
variable {cc : ByteArray} {ls : Array Slot}
theorem kx_kd0 {v : Value} (h : kx_kd v = 0) : ∃ x, v = .int x := by cases v <;> simp [kx_kd] at h; exact ⟨_, rfl⟩
theorem kx_kd1 {v : Value} (h : kx_kd v = 1) : v = .null ∨ ∃ x, v = .ref x := by cases v <;> simp [kx_kd] at h <;> simp
theorem kx_kd2 {v : Value} (h : kx_kd v = 2) : ∃ x, v = .long x := by cases v <;> simp [kx_kd] at h; exact ⟨_, rfl⟩
theorem kx_kd3 {v : Value} (h : kx_kd v = 3) : ∃ x, v = .double x := by cases v <;> simp [kx_kd] at h; exact ⟨_, rfl⟩
set_option maxHeartbeats 4000000 in
theorem kx_ps {i : Instr} {len pc nL : Nat} {lv : kx_L} {st : List Value} {o : Nat × kx_L × List Value} (hx : p.tables.exec = Jvm.exec) (hb : c.code = cc) (hd : decode cc pc = .ok (i, len)) (hs : kx_st i len pc nL lv st = some o) (hl : lv_has ls nL lv)
    (kk : ∀ ls' : Array Slot, lv_has ls' nL o.2.1 → W p l e R s m args below meth c H locs cells slots Q (F0 m o.1 ls' o.2.2)) : W p l e R s m args below meth c H locs cells slots Q (F0 m pc ls st) := by
  cases i with
  | iconst n => obtain ⟨rfl, rfl⟩ := kx_pu_inv hs; exact lv_iconst hx hb hd rfl (kk ls hl)
  | bipush n => obtain ⟨rfl, rfl⟩ := kx_pu_inv hs; exact lv_bipush hx hb hd rfl (kk ls hl)
  | sipush n => obtain ⟨rfl, rfl⟩ := kx_pu_inv hs; exact lv_sipush hx hb hd rfl (kk ls hl)
  | lconst n => obtain ⟨rfl, rfl⟩ := kx_pu_inv hs; exact lv_lconst hx hb hd rfl (kk ls hl)
  | aconst_null => obtain ⟨rfl, rfl⟩ := kx_pu_inv hs; exact lv_null hx hb hd (kk ls hl)
  | iload_n k => obtain ⟨v, h1, rfl, h2, rfl⟩ := kx_ld_inv hs; obtain ⟨x, rfl⟩ := kx_kd0 h2; exact lv_iload_n hx hb hd rfl (kx_lk_has h1 hl) (kk ls hl)
  | iload k => obtain ⟨v, h1, rfl, h2, rfl⟩ := kx_ld_inv hs; obtain ⟨x, rfl⟩ := kx_kd0 h2; exact lv_iload hx hb hd (kx_lk_has h1 hl) (kk ls hl)
  | aload_n k =>
    obtain ⟨v, h1, rfl, h2, rfl⟩ := kx_ld_inv hs
    rcases kx_kd1 h2 with rfl | ⟨x, rfl⟩
    · exact lv_aload_nN hx hb hd rfl (kx_lk_has h1 hl) (kk ls hl)
    · exact lv_aload_n hx hb hd rfl (kx_lk_has h1 hl) (kk ls hl)
  | aload k =>
    obtain ⟨v, h1, rfl, h2, rfl⟩ := kx_ld_inv hs
    rcases kx_kd1 h2 with rfl | ⟨x, rfl⟩
    · exact lv_aloadN hx hb hd (kx_lk_has h1 hl) (kk ls hl)
    · exact lv_aload hx hb hd (kx_lk_has h1 hl) (kk ls hl)
  | lload_n k => obtain ⟨v, h1, rfl, h2, rfl⟩ := kx_ld_inv hs; obtain ⟨x, rfl⟩ := kx_kd2 h2; exact lv_lload_n hx hb hd rfl (kx_lk_has h1 hl) (kk ls hl)
  | lload k => obtain ⟨v, h1, rfl, h2, rfl⟩ := kx_ld_inv hs; obtain ⟨x, rfl⟩ := kx_kd2 h2; exact lv_lload hx hb hd (kx_lk_has h1 hl) (kk ls hl)
  | dload_n k => obtain ⟨v, h1, rfl, h2, rfl⟩ := kx_ld_inv hs; obtain ⟨x, rfl⟩ := kx_kd3 h2; exact lv_dload_n hx hb hd rfl (kx_lk_has h1 hl) (kk ls hl)
  | dload k => obtain ⟨v, h1, rfl, h2, rfl⟩ := kx_ld_inv hs; obtain ⟨x, rfl⟩ := kx_kd3 h2; exact lv_dload hx hb hd (kx_lk_has h1 hl) (kk ls hl)
  | istore_n k => obtain ⟨v, r, rfl, rfl, h2, h3, rfl⟩ := kx_sv_inv hs; obtain ⟨x, rfl⟩ := kx_kd0 h2; exact lv_istore_n hx hb hd rfl hl h3 rfl (fun ls' hl' => kk ls' (kx_ins_has hl'))
  | istore k => obtain ⟨v, r, rfl, rfl, h2, h3, rfl⟩ := kx_sv_inv hs; obtain ⟨x, rfl⟩ := kx_kd0 h2; exact lv_istore hx hb hd hl h3 rfl (fun ls' hl' => kk ls' (kx_ins_has hl'))
  | astore_n k =>
    obtain ⟨v, r, rfl, rfl, h2, h3, rfl⟩ := kx_sv_inv hs
    rcases kx_kd1 h2 with rfl | ⟨x, rfl⟩
    · exact lv_astore_nN hx hb hd rfl hl h3 rfl (fun ls' hl' => kk ls' (kx_ins_has hl'))
    · exact lv_astore_n hx hb hd rfl hl h3 rfl (fun ls' hl' => kk ls' (kx_ins_has hl'))
  | astore k =>
    obtain ⟨v, r, rfl, rfl, h2, h3, rfl⟩ := kx_sv_inv hs
    rcases kx_kd1 h2 with rfl | ⟨x, rfl⟩
    · exact lv_astoreN hx hb hd hl h3 rfl (fun ls' hl' => kk ls' (kx_ins_has hl'))
    · exact lv_astore hx hb hd hl h3 rfl (fun ls' hl' => kk ls' (kx_ins_has hl'))
  | lstore_n k => obtain ⟨v, r, rfl, rfl, h2, h3, rfl⟩ := kx_sw_inv hs; obtain ⟨x, rfl⟩ := kx_kd2 h2; exact lv_lstore_n hx hb hd rfl hl h3 rfl (fun ls' hl' => kk ls' (kx_ins_has hl'))
  | lstore k => obtain ⟨v, r, rfl, rfl, h2, h3, rfl⟩ := kx_sw_inv hs; obtain ⟨x, rfl⟩ := kx_kd2 h2; exact lv_lstore hx hb hd hl h3 rfl (fun ls' hl' => kk ls' (kx_ins_has hl'))
  | dstore_n k => obtain ⟨v, r, rfl, rfl, h2, h3, rfl⟩ := kx_sw_inv hs; obtain ⟨x, rfl⟩ := kx_kd3 h2; exact lv_dstore_n hx hb hd rfl hl h3 rfl (fun ls' hl' => kk ls' (kx_ins_has hl'))
  | dstore k => obtain ⟨v, r, rfl, rfl, h2, h3, rfl⟩ := kx_sw_inv hs; obtain ⟨x, rfl⟩ := kx_kd3 h2; exact lv_dstore hx hb hd hl h3 rfl (fun ls' hl' => kk ls' (kx_ins_has hl'))
  | iadd => obtain ⟨x, y, r, rfl, rfl, rfl⟩ := kx_i2_inv hs; exact lv_iadd hx hb hd (kk ls hl)
  | isub => obtain ⟨x, y, r, rfl, rfl, rfl⟩ := kx_i2_inv hs; exact lv_isub hx hb hd (kk ls hl)
  | imul => obtain ⟨x, y, r, rfl, rfl, rfl⟩ := kx_i2_inv hs; exact lv_imul hx hb hd (kk ls hl)
  | iand => obtain ⟨x, y, r, rfl, rfl, rfl⟩ := kx_i2_inv hs; exact lv_iand hx hb hd (kk ls hl)
  | ior => obtain ⟨x, y, r, rfl, rfl, rfl⟩ := kx_i2_inv hs; exact lv_ior hx hb hd (kk ls hl)
  | ixor => obtain ⟨x, y, r, rfl, rfl, rfl⟩ := kx_i2_inv hs; exact lv_ixor hx hb hd (kk ls hl)
  | ishl => obtain ⟨x, y, r, rfl, rfl, rfl⟩ := kx_i2_inv hs; exact lv_ishl hx hb hd (kk ls hl)
  | ishr => obtain ⟨x, y, r, rfl, rfl, rfl⟩ := kx_i2_inv hs; exact lv_ishr hx hb hd (kk ls hl)
  | ladd => obtain ⟨x, y, r, rfl, rfl, rfl⟩ := kx_l2_inv hs; exact lv_ladd hx hb hd (kk ls hl)
  | ineg => obtain ⟨x, r, rfl, rfl, rfl⟩ := kx_i1_inv hs; exact lv_ineg hx hb hd (kk ls hl)
  | i2l => obtain ⟨x, r, rfl, rfl, rfl⟩ := kx_i1_inv hs; exact lv_i2l hx hb hd rfl (kk ls hl)
  | i2d => obtain ⟨x, r, rfl, rfl, rfl⟩ := kx_i1_inv hs; exact lv_i2d hx hb hd (kk ls hl)
  | dup => obtain ⟨v, r, rfl, rfl, h2, rfl⟩ := kx_v1_inv hs; exact lv_dup hx hb hd h2 (kk ls hl)
  | pop => obtain ⟨v, r, rfl, rfl, h2, rfl⟩ := kx_v1_inv hs; exact lv_pop hx hb hd h2 (kk ls hl)
  | dup_x1 => obtain ⟨v, w, r, rfl, rfl, h2, h3, rfl⟩ := kx_v2_inv hs; exact lv_dup_x1 hx hb hd h2 h3 (kk ls hl)
  | dup2 => obtain ⟨v, w, r, rfl, rfl, h2, h3, rfl⟩ := kx_v2_inv hs; exact lv_dup2_11 hx hb hd h2 h3 (kk ls hl)
  | goto off => obtain ⟨rfl, h2, rfl⟩ := kx_go1_inv hs; exact lv_goto hx hb hd h2 (kk ls hl)
  | iinc k n =>
    obtain ⟨x, h1, rfl, h3, rfl⟩ := kx_inc_inv hs
    obtain ⟨q, hq⟩ : ∃ q : Nat, lv[q]? = some (k, .int x) := by
      clear hs hl kk
      induction lv with
      | nil => simp [kx_lk] at h1
      | cons z r ih =>
        simp only [kx_lk] at h1
        by_cases e9 : z.1 = k
        · rw [if_pos e9] at h1
          refine ⟨0, ?_⟩
          obtain ⟨z1, z2⟩ := z
          cases h1
          cases e9
          rfl
        · rw [if_neg e9] at h1
          obtain ⟨q, hq⟩ := ih h1
          exact ⟨q + 1, by simpa using hq⟩
    exact lv_iinc hx hb hd hl hq rfl h3 rfl (fun ls' hl' => kk ls' (kx_ins_has hl'))
  | _ => simp [kx_st] at hs
end KXP
/-- the method's instructions, by their places -/
abbrev kx_T : Type := List (Nat × Instr × Nat)
def kx_tk : kx_T → Nat → Option (Instr × Nat)
  | [], _ => none
  | q :: r, k => if q.1 = k then some q.2 else kx_tk r k
def kx_dec (cc : ByteArray) (t : kx_T) : Prop := ∀ q ∈ t, decode cc q.1 = .ok q.2
theorem kx_tk_dec {cc : ByteArray} : ∀ {t : kx_T} {pc : Nat} {i : Instr × Nat}, kx_tk t pc = some i → kx_dec cc t → decode cc pc = .ok i
  | [], pc, i, h, _ => by simp [kx_tk] at h
  | q :: r, pc, i, h, hd => by
    simp only [kx_tk] at h
    by_cases e : q.1 = pc
    · rw [if_pos e] at h
      cases h
      rw [← e]
      exact hd q List.mem_cons_self
    · rw [if_neg e] at h
      exact kx_tk_dec h (fun z hz => hd z (List.mem_cons_of_mem _ hz))
def kx_run (t : kx_T) (nL : Nat) : Nat → Nat → kx_L → List Value → kx_O
  | 0, pc, lv, st => some (pc, lv, st)
  | n + 1, pc, lv, st => match kx_tk t pc with
    | some i => match kx_st i.1 i.2 pc nL lv st with
      | some o => kx_run t nL n o.1 o.2.1 o.2.2
      | none => none
    | none => none
end
section
/-! ===== the judgement: from here the method's walk comes to its end, with Q of what it answers or throws and of the heap ===== -/
/-- a method: its name, bytes, locals, answer's type, handlers -/
abbrev kx_M : Type := MethodName × ByteArray × Nat × Option FieldType × List (Nat × Nat × Nat × Nat)
def kx_E (st t : State) (L : List Loc) (k n : Nat) : Prop := st.WarmedH t.vm ∧ st.sameButNew ({ t with vm := st.vm } : State) L k n
def kx_Q (G : kx_G) (Q : Outcome → kx_H → Prop) (below : List Frame) (s : State) (R : Room) : State → Prop := fun t =>
  ∃ (o : Outcome) (h' : kx_H), t.status = .running ∧ Ended t below o ∧ Q o h' ∧ kx_hp G h' t.heap ∧ ∃ L : List Loc, kx_E s t L R.cells R.slots ∧ ∀ q ∈ L, G.1 ≤ q.base
/-- the walk of M, d calls deep at the most from here on -/
def kx_X (G : kx_G) (l : Launch) (M : kx_M) (d : Nat) (p : Program) (R : Room) (s : State) (m : MethodId) (meth : Method) (c : Code) : Prop :=
  p.tables.exec = Jvm.exec ∧ c.code = M.2.1 ∧ c.maxLocals = M.2.2.1 ∧ s.vm.findClass M.1.cls = some m.cls ∧ meth.sig.returnType = M.2.2.2.1 ∧ meth.locks = false ∧ meth.name = M.1.name ∧
  c.exceptionTable.toList.map (fun h => (h.startPc, h.endPc, h.handlerPc, h.catchType)) = M.2.2.2.2 ∧ kx_K G s ∧ G.1 ≤ s.heap.size ∧ d + 12 ≤ R.frames ∧ 100 * d + 400 ≤ R.locals ∧ l.stackTraces = false
def kx_w (G : kx_G) (l : Launch) (M : kx_M) (d : Nat) (Q : Outcome → kx_H → Prop) (kc ks pc : Nat) (lv : kx_L) (st : List Value) (h : kx_H) : Prop :=
  ∀ (p : Program) (e : Env) (R : Room) (s : State) (m : MethodId) (args : Array Value) (below : List Frame) (meth : Method) (c : Code), kx_X G l M d p R s m meth c →
  ∀ (H : Heap) (locs : List Loc) (ls : Array Slot) (cells slots : Nat), kx_hp G h H → va_S (fun q => G.1 ≤ q) s.heap H locs → lv_has ls M.2.2.1 lv → cells + kc ≤ R.cells → slots + ks ≤ R.slots →
  W p l e R s m args below meth c H locs cells slots (kx_Q G Q below s R) (F0 m pc ls st)
section KXW
variable {G : kx_G} {l : Launch} {M : kx_M} {d : Nat} {Q : Outcome → kx_H → Prop} {kc ks pc : Nat} {lv : kx_L} {st : List Value} {h : kx_H} {t : kx_T}
theorem kx_p1 {i : Instr} {len : Nat} {o : Nat × kx_L × List Value} (hd : decode M.2.1 pc = .ok (i, len)) (hs : kx_st i len pc M.2.2.1 lv st = some o) (k : kx_w G l M d Q kc ks o.1 o.2.1 o.2.2 h) : kx_w G l M d Q kc ks pc lv st h := by
  intro p e R s m args below meth c X H locs ls cells slots hh hS hl h1 h2
  exact kx_ps X.1 X.2.1 hd hs hl (fun ls' hl' => k p e R s m args below meth c X H locs ls' cells slots hh hS hl' h1 h2)
/-- n steps that touch neither the heap nor another method -/
theorem kx_rn (ht : kx_dec M.2.1 t) : ∀ (n : Nat) {pc : Nat} {lv : kx_L} {st : List Value} (pc' : Nat) (lv' : kx_L) (st' : List Value), kx_run t M.2.2.1 n pc lv st = some (pc', lv', st') → kx_w G l M d Q kc ks pc' lv' st' h → kx_w G l M d Q kc ks pc lv st h
  | 0, pc, lv, st, pc', lv', st', hr, k => by
    simp only [kx_run, Option.some.injEq, Prod.mk.injEq] at hr
    obtain ⟨rfl, rfl, rfl⟩ := hr
    exact k
  | n + 1, pc, lv, st, pc', lv', st', hr, k => by
    simp only [kx_run] at hr
    split at hr
    · rename_i i hi
      split at hr
      · rename_i o ho
        exact kx_p1 (kx_tk_dec hi ht) ho (kx_rn ht n pc' lv' st' hr k)
      · cases hr
    · cases hr
theorem kx_low {kc' ks' : Nat} (h1 : kc' ≤ kc) (h2 : ks' ≤ ks) (k : kx_w G l M d Q kc' ks' pc lv st h) : kx_w G l M d Q kc ks pc lv st h := by
  intro p e R s m args below meth c X H locs ls cells slots hh hS hl q1 q2
  exact k p e R s m args below meth c X H locs ls cells slots hh hS hl (by omega) (by omega)
theorem kx_con {Q' : Outcome → kx_H → Prop} (hq : ∀ o h, Q' o h → Q o h) (k : kx_w G l M d Q' kc ks pc lv st h) : kx_w G l M d Q kc ks pc lv st h := by
  intro p e R s m args below meth c X H locs ls cells slots hh hS hl q1 q2 T hT Y
  obtain ⟨t, a, o, h', b1, b2, b3, b4⟩ := k p e R s m args below meth c X H locs ls cells slots hh hS hl q1 q2 T hT Y
  exact ⟨t, a, o, h', b1, b2, hq o h' b3, b4⟩
theorem kx_loc {lv' : kx_L} (hs : ∀ q ∈ lv', q ∈ lv) (k : kx_w G l M d Q kc ks pc lv' st h) : kx_w G l M d Q kc ks pc lv st h := by
  intro p e R s m args below meth c X H locs ls cells slots hh hS hl q1 q2
  exact k p e R s m args below meth c X H locs ls cells slots hh hS ⟨hl.1, hl.2.1, fun q hq => hl.2.2 q (hs q hq)⟩ q1 q2
/-! branches -/
theorem kx_if {cd : ClassFile.Cond} {x : Int32} {off : Int} {tgt : Nat} (hd : decode M.2.1 pc = .ok (.ifCond cd off, 3)) (ht : (pc : Int) + off = (tgt : Int))
    (kt : (match cd with | .eq => x = 0 | .ne => ¬ x = 0 | .lt => x < 0 | .ge => 0 ≤ x | .gt => 0 < x | .le => x ≤ 0) → kx_w G l M d Q kc ks tgt lv st h)
    (kf : (match cd with | .eq => ¬ x = 0 | .ne => x = 0 | .lt => ¬ x < 0 | .ge => ¬ 0 ≤ x | .gt => ¬ 0 < x | .le => ¬ x ≤ 0) → kx_w G l M d Q kc ks (pc + 3) lv st h) : kx_w G l M d Q kc ks pc lv (.int x :: st) h := by
  intro p e R s m args below meth c X H locs ls cells slots hh hS hl q1 q2
  cases cd
  · exact lv_if_eq X.1 X.2.1 hd ht (fun z => kt z p e R s m args below meth c X H locs ls cells slots hh hS hl q1 q2) (fun z => kf z p e R s m args below meth c X H locs ls cells slots hh hS hl q1 q2)
  · exact lv_if_ne X.1 X.2.1 hd ht (fun z => kt z p e R s m args below meth c X H locs ls cells slots hh hS hl q1 q2) (fun z => kf z p e R s m args below meth c X H locs ls cells slots hh hS hl q1 q2)
  · exact lv_if_lt X.1 X.2.1 hd ht (fun z => kt z p e R s m args below meth c X H locs ls cells slots hh hS hl q1 q2) (fun z => kf z p e R s m args below meth c X H locs ls cells slots hh hS hl q1 q2)
  · exact lv_if_ge X.1 X.2.1 hd ht (fun z => kt z p e R s m args below meth c X H locs ls cells slots hh hS hl q1 q2) (fun z => kf z p e R s m args below meth c X H locs ls cells slots hh hS hl q1 q2)
  · exact lv_if_gt X.1 X.2.1 hd ht (fun z => kt z p e R s m args below meth c X H locs ls cells slots hh hS hl q1 q2) (fun z => kf z p e R s m args below meth c X H locs ls cells slots hh hS hl q1 q2)
  · exact lv_if_le X.1 X.2.1 hd ht (fun z => kt z p e R s m args below meth c X H locs ls cells slots hh hS hl q1 q2) (fun z => kf z p e R s m args below meth c X H locs ls cells slots hh hS hl q1 q2)
theorem kx_ic {cd : ClassFile.Cond} {x y : Int32} {off : Int} {tgt : Nat} (hd : decode M.2.1 pc = .ok (.if_icmp cd off, 3)) (ht : (pc : Int) + off = (tgt : Int))
    (kt : (match cd with | .eq => x = y | .ne => ¬ x = y | .lt => x < y | .ge => y ≤ x | .gt => y < x | .le => x ≤ y) → kx_w G l M d Q kc ks tgt lv st h)
    (kf : (match cd with | .eq => ¬ x = y | .ne => x = y | .lt => ¬ x < y | .ge => ¬ y ≤ x | .gt => ¬ y < x | .le => ¬ x ≤ y) → kx_w G l M d Q kc ks (pc + 3) lv st h) : kx_w G l M d Q kc ks pc lv (.int y :: .int x :: st) h := by
  intro p e R s m args below meth c X H locs ls cells slots hh hS hl q1 q2
  cases cd
  · exact lv_icmp_eq X.1 X.2.1 hd ht (fun z => kt z p e R s m args below meth c X H locs ls cells slots hh hS hl q1 q2) (fun z => kf z p e R s m args below meth c X H locs ls cells slots hh hS hl q1 q2)
  · exact lv_icmp_ne X.1 X.2.1 hd ht (fun z => kt z p e R s m args below meth c X H locs ls cells slots hh hS hl q1 q2) (fun z => kf z p e R s m args below meth c X H locs ls cells slots hh hS hl q1 q2)
  · exact lv_icmp_lt X.1 X.2.1 hd ht (fun z => kt z p e R s m args below meth c X H locs ls cells slots hh hS hl q1 q2) (fun z => kf z p e R s m args below meth c X H locs ls cells slots hh hS hl q1 q2)
  · exact lv_icmp_ge X.1 X.2.1 hd ht (fun z => kt z p e R s m args below meth c X H locs ls cells slots hh hS hl q1 q2) (fun z => kf z p e R s m args below meth c X H locs ls cells slots hh hS hl q1 q2)
  · exact lv_icmp_gt X.1 X.2.1 hd ht (fun z => kt z p e R s m args below meth c X H locs ls cells slots hh hS hl q1 q2) (fun z => kf z p e R s m args below meth c X H locs ls cells slots hh hS hl q1 q2)
  · exact lv_icmp_le X.1 X.2.1 hd ht (fun z => kt z p e R s m args below meth c X H locs ls cells slots hh hS hl q1 q2) (fun z => kf z p e R s m args below meth c X H locs ls cells slots hh hS hl q1 q2)
/-- null or not, as an optional address -/
theorem kx_nul {x : Option Nat} {off : Int} {tgt : Nat} (hd : decode M.2.1 pc = .ok (.ifnull off, 3)) (ht : (pc : Int) + off = (tgt : Int))
    (kt : x = none → kx_w G l M d Q kc ks tgt lv st h) (kf : ∀ a, x = some a → kx_w G l M d Q kc ks (pc + 3) lv st h) : kx_w G l M d Q kc ks pc lv (va_rf x :: st) h := by
  intro p e R s m args below meth c X H locs ls cells slots hh hS hl q1 q2
  cases x with
  | none => exact lv_ifnullN X.1 X.2.1 hd ht (kt rfl p e R s m args below meth c X H locs ls cells slots hh hS hl q1 q2)
  | some a => exact lv_ifnull X.1 X.2.1 hd (kf a rfl p e R s m args below meth c X H locs ls cells slots hh hS hl q1 q2)
theorem kx_nnl {x : Option Nat} {off : Int} {tgt : Nat} (hd : decode M.2.1 pc = .ok (.ifnonnull off, 3)) (ht : (pc : Int) + off = (tgt : Int))
    (kt : ∀ a, x = some a → kx_w G l M d Q kc ks tgt lv st h) (kf : x = none → kx_w G l M d Q kc ks (pc + 3) lv st h) : kx_w G l M d Q kc ks pc lv (va_rf x :: st) h := by
  intro p e R s m args below meth c X H locs ls cells slots hh hS hl q1 q2
  cases x with
  | none => exact lv_ifnonnullN X.1 X.2.1 hd (kf rfl p e R s m args below meth c X H locs ls cells slots hh hS hl q1 q2)
  | some a => exact lv_ifnonnull X.1 X.2.1 hd ht (kt a rfl p e R s m args below meth c X H locs ls cells slots hh hS hl q1 q2)
theorem kx_ane {x y : Option Nat} {off : Int} {tgt : Nat} (hd : decode M.2.1 pc = .ok (.if_acmp .ne off, 3)) (ht : (pc : Int) + off = (tgt : Int))
    (kt : ¬ x = y → kx_w G l M d Q kc ks tgt lv st h) (kf : x = y → kx_w G l M d Q kc ks (pc + 3) lv st h) : kx_w G l M d Q kc ks pc lv (va_rf y :: va_rf x :: st) h := by
  intro p e R s m args below meth c X H locs ls cells slots hh hS hl q1 q2
  exact lv_acmp_ne X.1 X.2.1 hd ht (fun z => kt z p e R s m args below meth c X H locs ls cells slots hh hS hl q1 q2) (fun z => kf z p e R s m args below meth c X H locs ls cells slots hh hS hl q1 q2)
theorem kx_aeq {x y : Option Nat} {off : Int} {tgt : Nat} (hd : decode M.2.1 pc = .ok (.if_acmp .eq off, 3)) (ht : (pc : Int) + off = (tgt : Int))
    (kt : x = y → kx_w G l M d Q kc ks tgt lv st h) (kf : ¬ x = y → kx_w G l M d Q kc ks (pc + 3) lv st h) : kx_w G l M d Q kc ks pc lv (va_rf y :: va_rf x :: st) h := by
  intro p e R s m args below meth c X H locs ls cells slots hh hS hl q1 q2
  exact lv_acmp_eq X.1 X.2.1 hd ht (fun z => kt z p e R s m args below meth c X H locs ls cells slots hh hS hl q1 q2) (fun z => kf z p e R s m args below meth c X H locs ls cells slots hh hS hl q1 q2)
/-! arithmetic that asks something -/
theorem kx_div {x y : Int32} (hd : decode M.2.1 pc = .ok (.idiv, 1)) (hne : ¬ y = 0) (k : kx_w G l M d Q kc ks (pc + 1) lv (.int (x / y) :: st) h) : kx_w G l M d Q kc ks pc lv (.int y :: .int x :: st) h := by
  intro p e R s m args below meth c X H locs ls cells slots hh hS hl q1 q2
  exact lv_idiv X.1 X.2.1 hd hne (k p e R s m args below meth c X H locs ls cells slots hh hS hl q1 q2)
theorem kx_lcmp {x y : Int64} (hd : decode M.2.1 pc = .ok (.lcmp, 1)) (k : kx_w G l M d Q kc ks (pc + 1) lv (.int (lg_cmp x y) :: st) h) : kx_w G l M d Q kc ks pc lv (.long y :: .long x :: st) h := by
  intro p e R s m args below meth c X H locs ls cells slots hh hS hl q1 q2
  exact W.lcmp X.1 X.2.1 hd (k p e R s m args below meth c X H locs ls cells slots hh hS hl q1 q2)
theorem kx_dcmp {x y : UInt64} {op : CmpOp} (hd : decode M.2.1 pc = .ok (.dcmp op, 1)) (k : kx_w G l M d Q kc ks (pc + 1) lv (.int (Op.cmpValue (FP.dcmp x y) op) :: st) h) : kx_w G l M d Q kc ks pc lv (.double y :: .double x :: st) h := by
  intro p e R s m args below meth c X H locs ls cells slots hh hS hl q1 q2
  exact lv_dcmp X.1 X.2.1 hd (k p e R s m args below meth c X H locs ls cells slots hh hS hl q1 q2)
/-! fields -/
theorem kx_getf {a ci k N idx : Nat} {C : String} {T : u_T} {fs : List Value} {v : Value} (hcl : kx_cl[ci]? = some (C, T, N)) (hin : ∀ w ∈ u_ws C T N, w ∈ kx_ws) (hk : k < N) (hln : Cond.fieldLink M.1.cls idx (T k).1 (T k).2.1 (T k).2.2.1 ∈ kx_ws)
    (hd : decode M.2.1 pc = .ok (.getfield idx, 3)) (hc : kx_is G h a (.inr (ci, fs))) (hv : fs[k]? = some v) (kk : kx_w G l M d Q kc ks (pc + 3) lv (v :: st) h) : kx_w G l M d Q kc ks pc lv (.ref a :: st) h := by
  intro p e R s m args below meth c X H locs ls cells slots hh hS hl q1 q2
  obtain ⟨hx, hb, hml, hown, -, -, -, -, hK, -⟩ := id X
  exact va_get (D := G.2.1) (cl := kx_cl) (ws := [(a, kx_cv G (.inr (ci, fs)))]) (Ts := kx_ws) hx hb (fun w hw => hK.2.1 w hw args) hin hown hK.1 (hh.P hc) 0 rfl hcl k hk (hK.2.1 _ hln args) (fun _ z => z) hv hd (kk p e R s m args below meth c X H locs ls cells slots hh hS hl q1 q2)
theorem kx_getn {a ci k N idx : Nat} {C host : String} {T : u_T} {fs : List Value} {v : Value} (hcl : kx_cl[ci]? = some (C, T, N)) (hin : ∀ w ∈ u_ws C T N, w ∈ kx_ws) (hk : k < N) (hln : Cond.fieldLinkNest M.1.cls idx (T k).1 (T k).2.1 (T k).2.2.1 host ∈ kx_ws)
    (hd : decode M.2.1 pc = .ok (.getfield idx, 3)) (hc : kx_is G h a (.inr (ci, fs))) (hv : fs[k]? = some v) (kk : kx_w G l M d Q kc ks (pc + 3) lv (v :: st) h) : kx_w G l M d Q kc ks pc lv (.ref a :: st) h := by
  intro p e R s m args below meth c X H locs ls cells slots hh hS hl q1 q2
  obtain ⟨hx, hb, hml, hown, -, -, -, -, hK, -⟩ := id X
  exact va_getN (D := G.2.1) (cl := kx_cl) (ws := [(a, kx_cv G (.inr (ci, fs)))]) (Ts := kx_ws) hx hb (fun w hw => hK.2.1 w hw args) hin hown hK.1 (hh.P hc) 0 rfl hcl k hk (hK.2.1 _ hln args) (fun _ z => z) hv hd (kk p e R s m args below meth c X H locs ls cells slots hh hS hl q1 q2)
end KXW
end
section
section KXH
variable {G : kx_G} {l : Launch} {M : kx_M} {d : Nat} {Q : Outcome → kx_H → Prop} {kc ks pc : Nat} {lv : kx_L} {st : List Value} {h : kx_H} {t : kx_T}
/-! fields are written -/
theorem kx_putf {a ci k N idx : Nat} {C : String} {T : u_T} {ty0 : Nat → FieldType} {ty : FieldType} {fs : List Value} {v : Value} (hcl : kx_cl[ci]? = some (C, T, N)) (hin : ∀ w ∈ u_ws C T N, w ∈ kx_ws) (hty : ∀ k, k < N → parseFieldDescriptor (T k).2.2.1 = some (ty0 k)) (hnm : ∀ a, a < N → ∀ b, b < N → a ≠ b → (T a).2.1 ≠ (T b).2.1)
    (hk : k < N) (hln : Cond.fieldLink M.1.cls idx (T k).1 (T k).2.1 (T k).2.2.1 ∈ kx_ws) (hfin : (T k).2.2.2 = false) (hd0 : parseFieldDescriptor (T k).2.2.1 = some ty)
    (hd : decode M.2.1 pc = .ok (.putfield idx, 3)) (hc : kx_is G h a (.inr (ci, fs))) (hn : narrow ty v = v) (hfit : fits ty v = true) (hlen : k < fs.length) (kk : kx_w G l M d Q kc ks (pc + 3) lv st (kx_set h a (.inr (ci, fs.set k v)))) : kx_w G l M d Q kc ks pc lv (v :: .ref a :: st) h := by
  intro p e R s m args below meth c X H locs ls cells slots hh hS hl q1 q2
  obtain ⟨hx, hb, hml, hown, -, -, -, -, hK, -⟩ := id X
  have hts : ∀ w ∈ kx_ws, w.before args s = true := fun w hw => hK.2.1 w hw args
  have hap := va_apart (own := M.1.cls) hts hin ty0 hty hnm hK.1 hcl
  obtain ⟨r, g1, cell, g2, g3, g4, g5⟩ := hh.at hc
  have hr : r = (C, T, N) := Option.some.inj (g1.symm.trans hcl)
  subst hr
  obtain ⟨hSl, hfc, kC, hkC, hkind⟩ := hK.1.1 ci _ hcl
  obtain ⟨cf, kf, fi, f, hi, hsl⟩ := hSl k hk
  have hlay := hts _ (hin _ (u_in_lay hk))
  unfold u_lay at hlay
  rw [if_neg (by rw [hfin]; decide)] at hlay
  have hst := (u_facts hfc hkC (u_lays hts hin hk) hi).1
  have h6 := u_store hfc hkC hkind hlay hi hd0 hn hfit
  refine W.putK hx hb (f := f) ⟨hown, hts _ hln, ⟨_, _, _, hi⟩, hst⟩ (by rw [g3]; exact h6) g2 g4 (by rw [hsl]; exact k2_hasslot (g5 k hk)) rfl rfl hd fun H' e1 e2 e3 => ?_
  rw [hsl] at e1 ⊢
  exact kk p e R s m args below meth c X H' _ ls cells slots (hh.set ⟨_, hcl, t_OB.to (V := updV (vp_V fs) k v) ⟨_, e1, g3, g4, t_set g5 hap hk v⟩ (fun j _ => vp_updV_set hlen v j)⟩ e2 e3) (hS.put e2 e3 hc.1) hl q1 q2
theorem kx_putn {a ci k N idx : Nat} {C host : String} {T : u_T} {ty0 : Nat → FieldType} {ty : FieldType} {fs : List Value} {v : Value} (hcl : kx_cl[ci]? = some (C, T, N)) (hin : ∀ w ∈ u_ws C T N, w ∈ kx_ws) (hty : ∀ k, k < N → parseFieldDescriptor (T k).2.2.1 = some (ty0 k)) (hnm : ∀ a, a < N → ∀ b, b < N → a ≠ b → (T a).2.1 ≠ (T b).2.1)
    (hk : k < N) (hln : Cond.fieldLinkNest M.1.cls idx (T k).1 (T k).2.1 (T k).2.2.1 host ∈ kx_ws) (hfin : (T k).2.2.2 = false) (hd0 : parseFieldDescriptor (T k).2.2.1 = some ty)
    (hd : decode M.2.1 pc = .ok (.putfield idx, 3)) (hc : kx_is G h a (.inr (ci, fs))) (hn : narrow ty v = v) (hfit : fits ty v = true) (hlen : k < fs.length) (kk : kx_w G l M d Q kc ks (pc + 3) lv st (kx_set h a (.inr (ci, fs.set k v)))) : kx_w G l M d Q kc ks pc lv (v :: .ref a :: st) h := by
  intro p e R s m args below meth c X H locs ls cells slots hh hS hl q1 q2
  obtain ⟨hx, hb, hml, hown, -, -, -, -, hK, -⟩ := id X
  have hts : ∀ w ∈ kx_ws, w.before args s = true := fun w hw => hK.2.1 w hw args
  have hap := va_apart (own := M.1.cls) hts hin ty0 hty hnm hK.1 hcl
  obtain ⟨r, g1, cell, g2, g3, g4, g5⟩ := hh.at hc
  have hr : r = (C, T, N) := Option.some.inj (g1.symm.trans hcl)
  subst hr
  obtain ⟨hSl, hfc, kC, hkC, hkind⟩ := hK.1.1 ci _ hcl
  obtain ⟨cf, kf, fi, f, hi, hsl⟩ := hSl k hk
  have hlay := hts _ (hin _ (u_in_lay hk))
  unfold u_lay at hlay
  rw [if_neg (by rw [hfin]; decide)] at hlay
  have hst := (u_facts hfc hkC (u_lays hts hin hk) hi).1
  have h6 := u_store hfc hkC hkind hlay hi hd0 hn hfit
  refine va_WputK hx hb (f := f) hown (hts _ hln) hi hst (by rw [g3]; exact h6) g2 g4 (by rw [hsl]; exact k2_hasslot (g5 k hk)) rfl rfl hd fun H' e1 e2 e3 => ?_
  rw [hsl] at e1 ⊢
  exact kk p e R s m args below meth c X H' _ ls cells slots (hh.set ⟨_, hcl, t_OB.to (V := updV (vp_V fs) k v) ⟨_, e1, g3, g4, t_set g5 hap hk v⟩ (fun j _ => vp_updV_set hlen v j)⟩ e2 e3) (hS.put e2 e3 hc.1) hl q1 q2
/-- a final field, in its own constructor -/
theorem kx_puti {a ci k N idx : Nat} {C : String} {T : u_T} {ty0 : Nat → FieldType} {ty : FieldType} {fs : List Value} {v : Value} (hcl : kx_cl[ci]? = some (C, T, N)) (hin : ∀ w ∈ u_ws C T N, w ∈ kx_ws) (hty : ∀ k, k < N → parseFieldDescriptor (T k).2.2.1 = some (ty0 k)) (hnm : ∀ a, a < N → ∀ b, b < N → a ≠ b → (T a).2.1 ≠ (T b).2.1)
    (hk : k < N) (hln : Cond.fieldLink M.1.cls idx (T k).1 (T k).2.1 (T k).2.2.1 ∈ kx_ws) (hfin : (T k).2.2.2 = true) (hnmI : M.1.name = "<init>") (hdecl : (T k).1 = M.1.cls) (hd0 : parseFieldDescriptor (T k).2.2.1 = some ty)
    (hd : decode M.2.1 pc = .ok (.putfield idx, 3)) (hc : kx_is G h a (.inr (ci, fs))) (hn : narrow ty v = v) (hfit : fits ty v = true) (hlen : k < fs.length) (kk : kx_w G l M d Q kc ks (pc + 3) lv st (kx_set h a (.inr (ci, fs.set k v)))) : kx_w G l M d Q kc ks pc lv (v :: .ref a :: st) h := by
  intro p e R s m args below meth c X H locs ls cells slots hh hS hl q1 q2
  obtain ⟨hx, hb, hml, hown, -, -, hmn, -, hK, -⟩ := id X
  have hts : ∀ w ∈ kx_ws, w.before args s = true := fun w hw => hK.2.1 w hw args
  have hap := va_apart (own := M.1.cls) hts hin ty0 hty hnm hK.1 hcl
  obtain ⟨r, g1, cell, g2, g3, g4, g5⟩ := hh.at hc
  have hr : r = (C, T, N) := Option.some.inj (g1.symm.trans hcl)
  subst hr
  obtain ⟨hSl, hfc, kC, hkC, hkind⟩ := hK.1.1 ci _ hcl
  obtain ⟨cf, kf, fi, f, hi, hsl⟩ := hSl k hk
  have hlay := hts _ (hin _ (u_in_lay hk))
  unfold u_lay at hlay
  rw [if_pos hfin] at hlay
  have hst := (u_facts hfc hkC (u_lays hts hin hk) hi).1
  have hcf : m.cls = cf := by
    obtain ⟨_, _, c', _, _, _, -, -, hf', -, -, -, hown2, -⟩ := Cond.laysFinal_spec hlay
    have e1 : c' = cf := by have := hi.symm.trans hf'; simp at this; exact this.1.symm
    rw [hdecl] at hown2
    rw [← e1]; exact Option.some.inj (hown.symm.trans hown2)
  have h6 := u_fits hfc hkC hkind (Or.inr hlay) hi hd0 hn hfit
  refine W.putFinK hx hb hown (hts _ hln) hi hst hcf (hmn.trans hnmI) (by rw [g3]; exact h6) g2 g4 (by rw [hsl]; exact k2_hasslot (g5 k hk)) rfl rfl hd fun H' e1 e2 e3 => ?_
  rw [hsl] at e1 ⊢
  exact kk p e R s m args below meth c X H' _ ls cells slots (hh.set ⟨_, hcl, t_OB.to (V := updV (vp_V fs) k v) ⟨_, e1, g3, g4, t_set g5 hap hk v⟩ (fun j _ => vp_updV_set hlen v j)⟩ e2 e3) (hS.put e2 e3 hc.1) hl q1 q2
/-! arrays -/
theorem kx_tyR {U : State} {t : Nat} {ty : FieldType} (hK : kx_K G U) (ht : kx_at[t]? = some ty) : ArrOfT U (G.2.2.1 t) ty ∧ va_RA U (G.2.2.1 t) ty := hK.1.2 t _ (kx_tys_at G ht)
theorem kx_ild {a t n : Nat} {f : Nat → Int32} {i : Int32} (ht : kx_at[t]? = some .int) (hd : decode M.2.1 pc = .ok (.iaload, 1)) (hc : kx_is G h a (.inl (t, n, .inl f))) (hin : vp_in i n)
    (kk : kx_w G l M d Q kc ks (pc + 1) lv (.int (f i.toNatClampNeg) :: st) h) : kx_w G l M d Q kc ks pc lv (.int i :: .ref a :: st) h := by
  intro p e R s m args below meth c X H locs ls cells slots hh hS hl q1 q2
  obtain ⟨hx, hb, hml, hown, -, -, -, -, hK, -⟩ := id X
  exact va_iald hx hb hK.1 (hh.P hc) 0 t rfl (kx_tys_at G ht) hin hd (kk p e R s m args below meth c X H locs ls cells slots hh hS hl q1 q2)
theorem kx_lld {a t n : Nat} {f : Nat → Int64} {i : Int32} (ht : kx_at[t]? = some .long) (hd : decode M.2.1 pc = .ok (.laload, 1)) (hc : kx_is G h a (.inl (t, n, .inr (.inl f)))) (hin : vp_in i n)
    (kk : kx_w G l M d Q kc ks (pc + 1) lv (.long (f i.toNatClampNeg) :: st) h) : kx_w G l M d Q kc ks pc lv (.int i :: .ref a :: st) h := by
  intro p e R s m args below meth c X H locs ls cells slots hh hS hl q1 q2
  obtain ⟨hx, hb, hml, hown, -, -, -, -, hK, -⟩ := id X
  exact va_lald hx hb hK.1 (hh.P hc) 0 t rfl (kx_tys_at G ht) hin hd (kk p e R s m args below meth c X H locs ls cells slots hh hS hl q1 q2)
theorem kx_dld {a t n : Nat} {f : Nat → UInt64} {i : Int32} (ht : kx_at[t]? = some .double) (hd : decode M.2.1 pc = .ok (.daload, 1)) (hc : kx_is G h a (.inl (t, n, .inr (.inr (.inr (.inl f)))))) (hin : vp_in i n)
    (kk : kx_w G l M d Q kc ks (pc + 1) lv (.double (f i.toNatClampNeg) :: st) h) : kx_w G l M d Q kc ks pc lv (.int i :: .ref a :: st) h := by
  intro p e R s m args below meth c X H locs ls cells slots hh hS hl q1 q2
  obtain ⟨hx, hb, hml, hown, -, -, -, -, hK, -⟩ := id X
  exact va_dald hx hb hK.1 (hh.P hc) 0 t rfl (kx_tys_at G ht) hin hd (kk p e R s m args below meth c X H locs ls cells slots hh hS hl q1 q2)
/-- a reference is read, out of an array of objects or of arrays -/
theorem kx_qld {a t n : Nat} {f : Nat → Option Nat} {i : Int32} {ty : FieldType} (ht : kx_at[t]? = some ty) (hrt : ty.isReference = true) (hd : decode M.2.1 pc = .ok (.aaload, 1)) (hc : kx_is G h a (.inl (t, n, .inr (.inr (.inr (.inr f)))))) (hin : vp_in i n)
    (kk : kx_w G l M d Q kc ks (pc + 1) lv (va_rf (f i.toNatClampNeg) :: st) h) : kx_w G l M d Q kc ks pc lv (.int i :: .ref a :: st) h := by
  intro p e R s m args below meth c X H locs ls cells slots hh hS hl q1 q2
  obtain ⟨hx, hb, hml, hown, -, -, -, -, hK, -⟩ := id X
  have hlt : i.toNatClampNeg < n := Nat.not_le.mp fun q => hin (Or.inr q)
  exact W.aald (v := va_rf (f i.toNatClampNeg)) (ty := ty) hx hb (hh.at hc) ((kx_tyR hK ht).1 n (fun j => va_rf (f j))) hrt (fun q => by cases q) (by show ¬ (i < 0 ∨ (arrV _ _ _).slots.size ≤ _); rw [arrV_size]; exact hin) (by show (arrV _ _ _).slots[_]? = _; rw [arrV_read _ _ hlt]) rfl rfl hd (kk p e R s m args below meth c X H locs ls cells slots hh hS hl q1 q2)
theorem kx_alen {a t : Nat} {x : vp_A} {ty : FieldType} (ht : kx_at[t]? = some ty) (hd : decode M.2.1 pc = .ok (.arraylength, 1)) (hc : kx_is G h a (.inl (t, x)))
    (kk : kx_w G l M d Q kc ks (pc + 1) lv (.int (Int32.ofNat x.1) :: st) h) : kx_w G l M d Q kc ks pc lv (.ref a :: st) h := by
  intro p e R s m args below meth c X H locs ls cells slots hh hS hl q1 q2
  obtain ⟨hx, hb, hml, hown, -, -, -, -, hK, -⟩ := id X
  exact va_alen hx hb hK.1 (hh.P hc) 0 t rfl (kx_tys_at G ht) rfl hd (kk p e R s m args below meth c X H locs ls cells slots hh hS hl q1 q2)
theorem kx_ist {a t n : Nat} {f : Nat → Int32} {i x : Int32} (ht : kx_at[t]? = some .int) (hd : decode M.2.1 pc = .ok (.iastore, 1)) (hc : kx_is G h a (.inl (t, n, .inl f))) (hin : vp_in i n)
    (kk : kx_w G l M d Q kc ks (pc + 1) lv st (kx_set h a (.inl (t, n, .inl (va_up f i.toNatClampNeg x))))) : kx_w G l M d Q kc ks pc lv (.int x :: .int i :: .ref a :: st) h := by
  intro p e R s m args below meth c X H locs ls cells slots hh hS hl q1 q2
  obtain ⟨hx, hb, hml, hown, -, -, -, -, hK, -⟩ := id X
  refine W.iast hx hb (hh.at hc) ((kx_tyR hK ht).1 n (fun j => .int (f j))) (fun q => by cases q) (by show ¬ (i < 0 ∨ (arrV _ _ _).slots.size ≤ _); rw [arrV_size]; exact hin) rfl rfl hd fun H1 e1 z oq => ?_
  refine kk p e R s m args below meth c X H1 _ ls cells slots (hh.set ?_ z oq) (hS.put z oq hc.1) hl q1 q2
  show H1[a]? = some (vp_cell _ _)
  rw [e1]
  show some ((arrV _ _ _).setSlot _ _) = _
  rw [vp_cell_i, arrV_store]
  congr 2
  funext q
  by_cases hq : q = i.toNatClampNeg
  · subst hq
    simp [updV, va_up]
  · simp [updV, va_up, hq]
theorem kx_lst {a t n : Nat} {f : Nat → Int64} {i : Int32} {x : Int64} (ht : kx_at[t]? = some .long) (hd : decode M.2.1 pc = .ok (.lastore, 1)) (hc : kx_is G h a (.inl (t, n, .inr (.inl f)))) (hin : vp_in i n)
    (kk : kx_w G l M d Q kc ks (pc + 1) lv st (kx_set h a (.inl (t, n, .inr (.inl (va_up f i.toNatClampNeg x)))))) : kx_w G l M d Q kc ks pc lv (.long x :: .int i :: .ref a :: st) h := by
  intro p e R s m args below meth c X H locs ls cells slots hh hS hl q1 q2
  obtain ⟨hx, hb, hml, hown, -, -, -, -, hK, -⟩ := id X
  refine W.last hx hb (hh.at hc) ((kx_tyR hK ht).1 n (fun j => .long (f j))) (fun q => by cases q) (by show ¬ (i < 0 ∨ (arrV _ _ _).slots.size ≤ _); rw [arrV_size]; exact hin) rfl rfl hd fun H1 e1 z oq => ?_
  refine kk p e R s m args below meth c X H1 _ ls cells slots (hh.set ?_ z oq) (hS.put z oq hc.1) hl q1 q2
  show H1[a]? = some (vp_cell _ _)
  rw [e1]
  show some ((arrV _ _ _).setSlot _ _) = _
  rw [vp_cell_l, arrV_store]
  congr 2
  funext q
  by_cases hq : q = i.toNatClampNeg
  · subst hq
    simp [updV, va_up]
  · simp [updV, va_up, hq]
theorem kx_dst {a t n : Nat} {f : Nat → UInt64} {i : Int32} {x : UInt64} (ht : kx_at[t]? = some .double) (hd : decode M.2.1 pc = .ok (.dastore, 1)) (hc : kx_is G h a (.inl (t, n, .inr (.inr (.inr (.inl f)))))) (hin : vp_in i n)
    (kk : kx_w G l M d Q kc ks (pc + 1) lv st (kx_set h a (.inl (t, n, .inr (.inr (.inr (.inl (va_up f i.toNatClampNeg x)))))))) : kx_w G l M d Q kc ks pc lv (.double x :: .int i :: .ref a :: st) h := by
  intro p e R s m args below meth c X H locs ls cells slots hh hS hl q1 q2
  obtain ⟨hx, hb, hml, hown, -, -, -, -, hK, -⟩ := id X
  refine W.dast hx hb (hh.at hc) ((kx_tyR hK ht).1 n (fun j => .double (f j))) (fun q => by cases q) (by show ¬ (i < 0 ∨ (arrV _ _ _).slots.size ≤ _); rw [arrV_size]; exact hin) rfl rfl hd fun H1 e1 z oq => ?_
  refine kk p e R s m args below meth c X H1 _ ls cells slots (hh.set ?_ z oq) (hS.put z oq hc.1) hl q1 q2
  show H1[a]? = some (vp_cell _ _)
  rw [e1]
  show some ((arrV _ _ _).setSlot _ _) = _
  rw [vp_cell_d, arrV_store]
  congr 2
  funext q
  by_cases hq : q = i.toNatClampNeg
  · subst hq
    simp [updV, va_up]
  · simp [updV, va_up, hq]
/-- an object of the walk's heap is put into an array of its class -/
theorem kx_qst {a t n v ci N : Nat} {C : String} {T : u_T} {fs : List Value} {f : Nat → Option Nat} {i : Int32} (ht : kx_at[t]? = some (.object C)) (hcl : kx_cl[ci]? = some (C, T, N)) (hd : decode M.2.1 pc = .ok (.aastore, 1)) (hc : kx_is G h a (.inl (t, n, .inr (.inr (.inr (.inr f)))))) (hv : kx_is G h v (.inr (ci, fs))) (hin : vp_in i n)
    (kk : kx_w G l M d Q kc ks (pc + 1) lv st (kx_set h a (.inl (t, n, .inr (.inr (.inr (.inr (va_up f i.toNatClampNeg (some v))))))))) : kx_w G l M d Q kc ks pc lv (.ref v :: .int i :: .ref a :: st) h := by
  intro p e R s m args below meth c X H locs ls cells slots hh hS hl q1 q2
  obtain ⟨hx, hb, hml, hown, -, -, -, -, hK, -⟩ := id X
  have hlt : i.toNatClampNeg < n := Nat.not_le.mp fun q => hin (Or.inr q)
  have h0 : ¬ i < 0 := fun q => hin (Or.inl q)
  obtain ⟨r', hr', cellV, g1, g2, g3, -⟩ := hh.at hv
  have hcls := (hK.1.1 ci _ hcl).2
  obtain ⟨kA, comp, k1, k2, k3, -⟩ := (kx_tyR hK ht).2
  have hcomp : comp = G.2.1.1 ci := Option.some.inj (k3.symm.trans hcls.1)
  subst hcomp
  obtain ⟨kC, hkC, -⟩ := hcls.2
  refine W.aast hx hb (hh.at hc) (fun q h => by cases h) (fun h => by cases h) k1 k2 rfl hkC ⟨h0, by show _ < (arrV _ _ _).slots.size; rw [arrV_size]; exact hlt⟩ g1 (fun q h => by rw [g3] at h; cases h) (by rw [g2]; exact hkC) (by rw [g2]; exact va_assign hcls) rfl rfl hd fun H1 e1 z oq => ?_
  refine kk p e R s m args below meth c X H1 _ ls cells slots (hh.set ?_ z oq) (hS.put z oq hc.1) hl q1 q2
  show H1[a]? = some (vp_cell _ _)
  rw [e1]
  show some ((arrV _ _ _).setSlot _ _) = _
  rw [vp_cell_q, arrV_store]
  congr 2
  funext q
  by_cases hq : q = i.toNatClampNeg
  · subst hq
    simp [updV, va_up, va_rf]
  · simp [updV, va_up, hq]
theorem kx_qstN {a t n : Nat} {C : String} {f : Nat → Option Nat} {i : Int32} (ht : kx_at[t]? = some (.object C)) (hd : decode M.2.1 pc = .ok (.aastore, 1)) (hc : kx_is G h a (.inl (t, n, .inr (.inr (.inr (.inr f)))))) (hin : vp_in i n)
    (kk : kx_w G l M d Q kc ks (pc + 1) lv st (kx_set h a (.inl (t, n, .inr (.inr (.inr (.inr (va_up f i.toNatClampNeg none)))))))) : kx_w G l M d Q kc ks pc lv (.null :: .int i :: .ref a :: st) h := by
  intro p e R s m args below meth c X H locs ls cells slots hh hS hl q1 q2
  obtain ⟨hx, hb, hml, hown, -, -, -, -, hK, -⟩ := id X
  refine va_WaastN (C := C) hx hb (hh.at hc) ((kx_tyR hK ht).1 n (fun j => va_rf (f j))) (fun h => by cases h) (by show ¬ (i < 0 ∨ (arrV _ _ _).slots.size ≤ _); rw [arrV_size]; exact hin) rfl rfl hd fun H1 e1 z oq => ?_
  refine kk p e R s m args below meth c X H1 _ ls cells slots (hh.set ?_ z oq) (hS.put z oq hc.1) hl q1 q2
  show H1[a]? = some (vp_cell _ _)
  rw [e1]
  show some ((arrV _ _ _).setSlot _ _) = _
  rw [vp_cell_q, arrV_store]
  congr 2
  funext q
  by_cases hq : q = i.toNatClampNeg
  · subst hq
    simp [updV, va_up, va_rf]
  · simp [updV, va_up, hq]
/-! new objects and arrays -/
theorem kx_newo {ci N idx : Nat} {C : String} {T : u_T} {ty0 : Nat → FieldType} {fs : List Value} (hcl : kx_cl[ci]? = some (C, T, N)) (hin : ∀ w ∈ u_ws C T N, w ∈ kx_ws) (hty : ∀ k, k < N → parseFieldDescriptor (T k).2.2.1 = some (ty0 k)) (hln : Cond.classLink M.1.cls idx C ∈ kx_ws) (hins : Cond.instantiable C N ∈ kx_ws) (hini : Cond.initialized C ∈ kx_ws) (hfs : ∀ j, j < N → defaultValue (ty0 j) = vp_V fs j)
    (hd : decode M.2.1 pc = .ok (.new idx, 3)) (kk : kx_w G l M d Q kc ks (pc + 3) lv (.ref h.1 :: st) (kx_new h (.inr (ci, fs)))) : kx_w G l M d Q (kc + 1) (ks + N) pc lv st h := by
  intro p e R s m args below meth c X H locs ls cells slots hh hS hl q1 q2
  obtain ⟨hx, hb, hml, hown, -, -, -, -, hK, -⟩ := id X
  have hts : ∀ w ∈ kx_ws, w.before args s = true := fun w hw => hK.2.1 w hw args
  have hKn := hK.1.1 ci _ hcl
  refine W.newcK hx hb hown (hts _ hln) (hts _ hins) (hts _ hini) rfl hd (by omega) (by omega) hKn.2.1 hh.1 fun H1 kC hkC e1 z1 o1 => ?_
  refine kk p e R s m args below meth c X H1 locs ls (cells + 1) (slots + N) (hh.push ⟨_, hcl, (u_born ty0 hts hin hKn hkC e1 hty).to hfs⟩ (by rw [hh.1]; exact z1) (by rw [hh.1]; exact o1)) (kx_S.push hS (by rw [hh.1]; exact z1) (by rw [hh.1]; exact o1)) hl (by omega) (by omega)
theorem kx_newi {t : Nat} {ty : FieldType} {atype : ArrayType} {n : Int32} {N : Nat} {a0 : vp_A} (ht : kx_at[t]? = some ty) (hat : newarray.typeOf atype = ty) (hw : Cond.arrayClass ty ∈ kx_ws) (hnr : va_RA = va_RA ∧ ty.isReference = false) (ha : ∀ cA : ClassId, vp_cell cA a0 = arrV cA N (fun _ => defaultValue ty)) (hn : ¬ n < 0) (hN : n.toNatClampNeg = N) (hby : N * componentBytes ty ≤ 536870912)
    (hd : decode M.2.1 pc = .ok (.newarray atype, 2)) (kk : kx_w G l M d Q kc ks (pc + 2) lv (.ref h.1 :: st) (kx_new h (.inl (t, a0)))) : kx_w G l M d Q (kc + 1) (ks + N) pc lv (.int n :: st) h := by
  subst hat
  intro p e R s m args below meth c X H locs ls cells slots hh hS hl q1 q2
  obtain ⟨hx, hb, hml, hown, -, -, -, -, hK, -⟩ := id X
  refine va_newaK hx hb (hK.2.1 _ hw args) rfl hd rfl hn hN hby (by omega) (by omega) hh.1 fun H1 cA e1 z1 o1 hAr hNm => ?_
  have hcA : cA = G.2.2.1 t := by
    have h9 := (kx_tyR hK ht).2
    cases atype <;> exact Option.some.inj (hNm.symm.trans h9)
  subst hcA
  refine kk p e R s m args below meth c X H1 locs ls (cells + 1) (slots + N) (hh.push ?_ (by rw [hh.1]; exact z1) (by rw [hh.1]; exact o1)) (kx_S.push hS (by rw [hh.1]; exact z1) (by rw [hh.1]; exact o1)) hl (by omega) (by omega)
  show H1[h.1]? = some (vp_cell _ _)
  rw [ha]
  exact e1
theorem kx_newq {t idx : Nat} {C : String} {n : Int32} {N : Nat} (ht : kx_at[t]? = some (.object C)) (hln : Cond.classLink M.1.cls idx C ∈ kx_ws) (hov : Cond.arrayOver (.object C) ∈ kx_ws) (hn : ¬ n < 0) (hN : n.toNatClampNeg = N) (hby : N * 4 ≤ 536870912)
    (hd : decode M.2.1 pc = .ok (.anewarray idx, 3)) (kk : kx_w G l M d Q kc ks (pc + 3) lv (.ref h.1 :: st) (kx_new h (.inl (t, N, .inr (.inr (.inr (.inr (fun _ => none)))))))) : kx_w G l M d Q (kc + 1) (ks + N) pc lv (.int n :: st) h := by
  subst hN
  intro p e R s m args below meth c X H locs ls cells slots hh hS hl q1 q2
  obtain ⟨hx, hb, hml, hown, -, -, -, -, hK, -⟩ := id X
  refine W.anew hx hb hown (hK.2.1 _ hln args) (hK.2.1 _ hov args) rfl hd rfl hn hby (by omega) (by omega) fun cA kA comp f1 f2 f3 f4 => ?_
  have hcA : cA = G.2.2.1 t := by
    obtain ⟨_, _, -, -, -, h9⟩ := (kx_tyR hK ht).2
    exact Option.some.inj (f1.symm.trans h9)
  subst hcA
  generalize hH1 : H.push ({ cls := G.2.2.1 t, slots := Array.replicate n.toNatClampNeg .null, vm := .none } : Cell) = H1
  have z1 : H1.size = H.size + 1 := by rw [← hH1, Array.size_push]
  have e1 : H1[H.size]? = some (arrV (G.2.2.1 t) n.toNatClampNeg (fun _ => .null)) := by rw [← hH1, Array.getElem?_push_size, ← arrV_new]
  have o1 : ∀ q : Nat, q < H.size → H1[q]? = H[q]? := fun q hq => by rw [← hH1, Array.getElem?_push, if_neg (Nat.ne_of_lt hq)]
  have hsz : H.size = h.1 := hh.1
  rw [hsz]
  refine kk p e R s m args below meth c X H1 locs ls (cells + 1) (slots + n.toNatClampNeg) (hh.push ?_ z1 o1) (kx_S.push hS z1 o1) hl (by omega) (by omega)
  show H1[h.1]? = some (vp_cell _ _)
  rw [vp_cell_q, ← hsz]
  exact e1
/-! Object.<init>, Math.max -/
theorem kx_obj {a idx : Nat} (hln : Cond.methodLink M.1.cls idx Lib.objectInit ∈ kx_ws) (hi : Cond.instanceMethod Lib.objectInit ∈ kx_ws) (hcd : Cond.code Lib.objectInit ⟨#[0xb1]⟩ 1 none ∈ kx_ws) (hst : (st.map fun v => v.category).sum ≤ 8)
    (hd : decode M.2.1 pc = .ok (.invokespecial idx, 3)) (kk : kx_w G l M d Q kc ks (pc + 3) lv st h) : kx_w G l M d Q kc ks pc lv (.ref a :: st) h := by
  intro p e R s m args below meth c X H locs ls cells slots hh hS hl q1 q2
  obtain ⟨hx, hb, hml, hown, -, -, -, -, hK, -, hfr, hlo, -⟩ := id X
  refine W.objInit hx hb hown (hK.2.1 _ hln args) (hK.2.1 _ hi args) (hK.2.1 _ hcd args) rfl (by rw [hml]; exact hl.1) rfl hd (by omega) (by show 2 * 0 + _ + 12 ≤ _; omega) ?_
  exact kk p e R s m args below meth c X H locs ls cells slots hh hS hl q1 q2
theorem kx_max {idx : Nat} {x y : Int32} (hln : Cond.methodLink M.1.cls idx Lib.Math.max.name ∈ kx_ws) (hs : Cond.static Lib.Math.max.name ∈ kx_ws) (hi : Cond.initialized "java/lang/Math" ∈ kx_ws) (hcd : Cond.code Lib.Math.max.name Lib.Math.max.code 2 (some .int) ∈ kx_ws) (hst : (st.map fun v => v.category).sum ≤ 8)
    (hd : decode M.2.1 pc = .ok (.invokestatic idx, 3)) (kk : kx_w G l M d Q kc ks (pc + 3) lv (.int (if x < y then y else x) :: st) h) : kx_w G l M d Q kc ks pc lv (.int y :: .int x :: st) h := by
  intro p e R s m args below meth c X H locs ls cells slots hh hS hl q1 q2
  obtain ⟨hx, hb, hml, hown, -, -, -, -, hK, -, hfr, hlo, -⟩ := id X
  exact va_mmax hx hb (by rw [hml]; exact hl.1.symm) hown (hK.2.1 _ hln args) (hK.2.1 _ hs args) (hK.2.1 _ hi args) (hK.2.1 _ hcd args) (by omega) (by omega) (by omega) (by omega) hd (kk p e R s m args below meth c X H locs ls cells slots hh hS hl q1 q2)
/-! the end of a method -/
theorem kx_mq {p : Program} {e : Env} {R : Room} {s : State} {m : MethodId} {args : Array Value} {below : List Frame} {meth : Method} {c : Code} {H : Heap} {locs : List Loc} {cells slots : Nat} {g : JFrame} {r : Option Value} (hc : cells ≤ R.cells) (hs : slots ≤ R.slots) (hh : kx_hp G h H) (hq : Q (.returned r) h)
    (k : W p l e R s m args below meth c H locs R.cells R.slots (MQ below (fun _ _ o t => o = .returned r ∧ t.heap = H) args s R.cells R.slots (fun q => G.1 ≤ q)) g) : W p l e R s m args below meth c H locs cells slots (kx_Q G Q below s R) g := by
  refine W.widen hc hs ?_
  intro T hT X
  obtain ⟨t, a1, o, b1, b2, ⟨b3, b4⟩, L, b5, b6⟩ := k T hT X
  refine ⟨t, a1, o, h, b1, b2, by rw [b3]; exact hq, by rw [b4]; exact hh, L, ⟨b5.2.1, b5.2.2⟩, b6⟩
theorem kx_ret {x : Int32} {ty : FieldType} (hd : decode M.2.1 pc = .ok (.ireturn, 1)) (hr : M.2.2.2.1 = some ty) (hn : narrow ty (.int x) = .int x) (hq : Q (.returned (some (.int x))) h) : kx_w G l M d Q kc ks pc lv [.int x] h := by
  intro p e R s m args below meth c X H locs ls cells slots hh hS hl q1 q2
  obtain ⟨hx, hb, hml, hown, hrt, hlk, -⟩ := id X
  exact kx_mq (by omega) (by omega) hh hq (W.zret hx hb (hrt.trans hr) hn (fun t ht hW => ⟨rfl, ht⟩) hS.2.2 hd hlk)
theorem kx_retv (hd : decode M.2.1 pc = .ok (.return_, 1)) (hr : M.2.2.2.1 = none) (hq : Q (.returned none) h) : kx_w G l M d Q kc ks pc lv [] h := by
  intro p e R s m args below meth c X H locs ls cells slots hh hS hl q1 q2
  obtain ⟨hx, hb, hml, hown, hrt, hlk, -⟩ := id X
  exact kx_mq (by omega) (by omega) hh hq (W.vret hx hb (hrt.trans hr) (fun t ht hW => ⟨rfl, ht⟩) hS.2.2 hd hlk)
theorem kx_reta {x : Option Nat} {ty : FieldType} (hd : decode M.2.1 pc = .ok (.areturn, 1)) (hr : M.2.2.2.1 = some ty) (hty : (∃ n, ty = .object n) ∨ ∃ t, ty = .array t) (hq : Q (.returned (some (va_rf x))) h) : kx_w G l M d Q kc ks pc lv [va_rf x] h := by
  intro p e R s m args below meth c X H locs ls cells slots hh hS hl q1 q2
  obtain ⟨hx, hb, hml, hown, hrt, hlk, -⟩ := id X
  exact kx_mq (by omega) (by omega) hh hq (W.aret hx hb (hrt.trans hr) hty (va_rf_or x) (fun t ht hW => ⟨rfl, ht⟩) hS.2.2 hd hlk)
theorem kx_retl {x : Int64} (hd : decode M.2.1 pc = .ok (.lreturn, 1)) (hr : M.2.2.2.1 = some .long) (hq : Q (.returned (some (.long x))) h) : kx_w G l M d Q kc ks pc lv [.long x] h := by
  intro p e R s m args below meth c X H locs ls cells slots hh hS hl q1 q2
  obtain ⟨hx, hb, hml, hown, hrt, hlk, -⟩ := id X
  exact kx_mq (by omega) (by omega) hh hq (W.lret hx hb (hrt.trans hr) (fun t ht hW => ⟨rfl, ht⟩) hS.2.2 hd hlk)
theorem kx_retd {x : UInt64} (hd : decode M.2.1 pc = .ok (.dreturn, 1)) (hr : M.2.2.2.1 = some .double) (hq : Q (.returned (some (.double x))) h) : kx_w G l M d Q kc ks pc lv [.double x] h := by
  intro p e R s m args below meth c X H locs ls cells slots hh hS hl q1 q2
  obtain ⟨hx, hb, hml, hown, hrt, hlk, -⟩ := id X
  exact kx_mq (by omega) (by omega) hh hq (W.dret hx hb (hrt.trans hr) (fun t ht hW => ⟨rfl, ht⟩) hS.2.2 hd hlk)
end KXH
end
section
theorem kx_S.of {G : kx_G} {p : Program} {l : Launch} {e : Env} {R : Room} {s : State} {m : MethodId} {args : Array Value} {below : List Frame} {meth : Method} {c : Code} {T : State} {locs : List Loc} {cells slots : Nat} (X : Stand p l e R s m args below meth c T locs cells slots) (hA : ∀ q ∈ locs, G.1 ≤ q.base) : va_S (fun q => G.1 ≤ q) s.heap T.heap locs := by
  obtain ⟨-, h2, -, -, -, h6⟩ := X.same
  refine ⟨h2, fun q h1 hn => ?_, hA⟩
  have hq : s.heap[q]? = some s.heap[q] := Array.getElem?_eq_getElem h1
  obtain ⟨c', g1, g2, g3, g4⟩ := h6 q _ hq
  have g5 : T.heap[q]? = some c' := g1
  have g6 : c'.slots = (s.heap[q]).slots := Array.ext_getElem? (fun i => g4 i (fun hm => hn (hA _ hm)))
  have g7 : c' = s.heap[q] := by rw [g2, g6]
  rw [g5, g7]
  exact hq.symm
/-! ===== contracts, and calls that may come back or throw ===== -/
def kx_cd (M : kx_M) : Cond := if M.2.2.2.2 = [] then .code M.1 M.2.1 M.2.2.1 M.2.2.2.1 else .codeWith M.1 M.2.1 M.2.2.1 M.2.2.2.1 M.2.2.2.2
theorem kx_cd_spec {M : kx_M} {A : Array Value} {U : State} (hw : (kx_cd M).before A U = true) : ∃ (m : MethodId) (meth : Method) (c : Code), U.methodNamed? M.1 = some m ∧ U.vm.method? m = some meth ∧ meth.code = some c ∧ c.code = M.2.1 ∧ c.maxLocals = M.2.2.1 ∧
    c.exceptionTable.toList.map (fun h => (h.startPc, h.endPc, h.handlerPc, h.catchType)) = M.2.2.2.2 ∧ meth.sig.returnType = M.2.2.2.1 ∧ meth.locks = false ∧ parseMethodDescriptor M.1.desc = some meth.sig := by
  unfold kx_cd at hw
  by_cases e : M.2.2.2.2 = []
  · rw [if_pos e] at hw
    obtain ⟨mk, hn⟩ := Cond.code_named hw
    obtain ⟨meth, c, h1, h2, h3, h4, h5, h6, h7, h8⟩ := Cond.code_spec hn hw
    refine ⟨mk, meth, c, hn, h1, h2, h3, h4, ?_, h5, h6, h8⟩
    have h9 : c.exceptionTable.toList = [] := by simpa using h7
    rw [h9, e]
    rfl
  · rw [if_neg e] at hw
    exact Cond.codeWith_spec hw
def kx_rm (d mc ms : Nat) : Room := { frames := d + 12, cells := mc, slots := ms, locals := 100 * d + 400 }
def kx_P (G : kx_G) (as : List Value) (h : kx_H) : Array Value → State → Prop := fun v U => v = as.toArray ∧ kx_hp G h U.heap ∧ kx_K G U
/-- from the heap h, with these arguments, d calls deep at the most, M comes to an end with Q, and makes at the most mc cells of ms slots -/
def kx_c (G : kx_G) (l : Launch) (M : kx_M) (d mc ms : Nat) (as : List Value) (h : kx_H) (Q : Outcome → kx_H → Prop) : Prop :=
  MetFree l M.1 (headSpec [kx_cd M] (kx_rm d mc ms)) (kx_P G as h) (fun _ _ _ _ _ => True) (fun _ st o t => ∃ h' : kx_H, Q o h' ∧ kx_hp G h' t.heap ∧ ∃ L : List Loc, kx_E st t L mc ms ∧ ∀ q ∈ L, G.1 ≤ q.base)
theorem kx_in {G : kx_G} {l : Launch} {M : kx_M} {d mc ms : Nat} {as : List Value} {h : kx_H} {Q : Outcome → kx_H → Prop} (hy : plainName M.1.cls = true) (hlen : (lg_sl as).length ≤ M.2.2.1) (hst : l.stackTraces = false)
    (k : kx_w G l M d Q mc ms 0 (lv_args 0 as) [] h) : kx_c G l M d mc ms as h Q := by
  refine MetFree.of_bodyS (code := M.2.1) (maxLocals := M.2.2.1) (ret := M.2.2.2.1) hy ?_ ?_
  · intro args s m hp hn
    obtain ⟨m', meth, c, e0, e1, e2, e3, e4, -, e5, e6, -⟩ := kx_cd_spec (atoms_spec (ws := [kx_cd M]) hp _ List.mem_cons_self)
    cases hn.symm.trans e0
    exact ⟨meth, c, e1, e2, e3, e4, e5, e6⟩
  · intro p e s m args below meth c s₁ B hml hP _
    obtain ⟨rfl, hh, hK⟩ := hP
    have hh0 : s₁.heap = s.heap := by rw [B.state]; rfl
    obtain ⟨m', meth', c', e0, e1, e2, e3, e4, e5, e6, e7, e8⟩ := kx_cd_spec (atoms_spec (ws := [kx_cd M]) B.pre _ List.mem_cons_self)
    cases B.named.symm.trans e0
    cases B.method.symm.trans e1
    cases (Stand.of_body B).code.symm.trans e2
    have X : kx_X G l M d p (kx_rm d mc ms) s m meth c := ⟨B.exec, B.bytes, hml, findClass_of_methodNamed B.named, B.returns, B.notSynchronized, (name_of_methodNamed B.named B.method).1, e5, hK, by rw [hh.1]; exact hh.2.1, Nat.le_refl _, Nat.le_refl _, hst⟩
    have hl := lv_entry as hlen
    have w := k p e (kx_rm d mc ms) s m as.toArray below meth c X s.heap [] _ 0 0 hh va_S.rf hl (by simp [kx_rm]) (by simp [kx_rm])
    obtain ⟨t, a1, o, h', b1, b2, b3, b4, b5⟩ := w s₁ hh0 (Stand.of_body B)
    refine ⟨t, o, ?_, b1, b2, h', b3, b4, b5⟩
    rw [lg_entry_eq]
    exact a1
theorem kx_cc {G : kx_G} {l : Launch} {M : kx_M} {d mc ms : Nat} {as : List Value} {h : kx_H} {Q Q' : Outcome → kx_H → Prop} (hq : ∀ o h, Q' o h → Q o h) (k : kx_c G l M d mc ms as h Q') : kx_c G l M d mc ms as h Q := by
  intro p e ha hc hk s m args below hf happ hP hK
  obtain ⟨n, o, h1, h2, h3, h', h4, h5⟩ := k p e ha hc hk s m args below hf happ hP hK
  exact ⟨n, o, h1, h2, h3, h', hq o h' h4, h5⟩
section KXB
variable {p : Program} {l : Launch} {e : Env} {R : Room} {s : State} {m : MethodId} {args : Array Value} {below : List Frame} {meth : Method} {c : Code} {U : State} {Ls : List Loc} {c0 s0 : Nat}
/-- the callee's run, seen from the caller's frame -/
theorem kx_bk {G : kx_G} {N : kx_M} {d mc ms len : Nat} {as : List Value} {h : kx_H} {Q : Outcome → kx_H → Prop} {g : JFrame} {ig : Instr} {mk : MethodId} (hM : kx_c G l N d mc ms as h Q) (X : Stand p l e R s m args below meth c U Ls c0 s0)
    (hg : g.method = m) (hsize : g.locals.size = c.maxLocals) (hdg : decode c.code g.pc = .ok (ig, len)) (hW : 2 * g.monitorRoom + (g.stack.map fun v => v.category).sum ≤ 8) (hn : U.methodNamed? N.1 = some mk)
    (hfr : d + 1 + 12 ≤ R.frames) (hlo : 100 * (d + 1) + 400 ≤ R.locals) (hmx : N.2.2.1 ≤ 80) (hc0 : c0 + mc ≤ R.cells) (hs0 : s0 + ms ≤ R.slots) (hini : (Cond.initialized N.1.cls).before as.toArray U = true) (hcd : (kx_cd N).before as.toArray U = true) (hP : kx_hp G h U.heap ∧ kx_K G (U.calling g mk as.toArray)) :
    ∃ (o : Outcome) (T' : State) (L : List Loc) (h' : kx_H), Stand p l e R s m args below meth c T' (Ls ++ L) (c0 + mc) (s0 + ms) ∧ (∀ q ∈ L, G.1 ≤ q.base) ∧ Q o h' ∧ kx_hp G h' T'.heap ∧
      (∀ v, o = .returned v → Steps p.tables e below (doInvoke e (U.setTop g) [] mk as.toArray).1 (T'.setTop { g with pc := g.pc + len, stack := v.toList ++ g.stack })) ∧
      (∀ x, o = .threw x → Steps p.tables e below (doInvoke e (U.setTop g) [] mk as.toArray).1 ((T'.setTop g).pushFrame (.throwing x))) := by
  obtain ⟨mk', methN, cN, e0, e1, e2, e3, e4, -, -, -, -⟩ := kx_cd_spec hcd
  cases hn.symm.trans e0
  obtain ⟨kN, hkN, -⟩ := className_of_methodNamed hn
  have hinN : kN.init = .initialized := Cond.initialized_spec (findClass_of_methodNamed hn) hkN hini
  have hA : At U g.method c below := by rw [hg]; exact X.here
  have hroom : (U.calling g mk as.toArray).hasRoom e.platform (kx_rm d mc ms) = true := X.room_calling (g := g) (R' := kx_rm d mc ms) hsize e1 e2 (by have z1 : (kx_rm d mc ms).frames = d + 12 := rfl; omega) (by have z1 : (kx_rm d mc ms).locals = 100 * d + 400 := rfl; omega) hc0 hs0
  have happ : (headSpec [kx_cd N] (kx_rm d mc ms)).appliesLoose N.1 e.platform (U.calling g mk as.toArray) = true :=
    Spec.appliesLoose_calling (g := g) hA hdg hn hkN hinN hroom (atoms_intro (ws := [kx_cd N]) fun w hw => by rw [List.mem_singleton.mp hw]; exact hcd)
  obtain ⟨mid, hmid⟩ := hA.above
  have hframes : (U.setTop g).frames = (.java g :: mid) ++ below := by rw [State.frames_setTop' g hA.top, hmid]; rfl
  obtain ⟨o, t, hgo, -, hend, h', hQ, hheap, L, ⟨hWt, u1, u2, u3, u4, u5, u6⟩, hL⟩ := Steps.callFree hM p X.admits X.cas X.clock (acts := []) hframes happ ⟨rfl, by exact hP.1, hP.2⟩ trivial
  rw [State.frames_setTop' g hA.top] at hend
  have hvm : U.WarmedH t.vm := hWt
  have ht : t = ({ (U.calling g mk as.toArray).setFrames t.frames with heap := t.heap, slotsUsed := t.slotsUsed } : State).setVm t.vm := by
    have z : t = ({ t with vm := (U.calling g mk as.toArray).vm } : State).setVm t.vm := rfl
    rw [show ({ t with vm := (U.calling g mk as.toArray).vm } : State) = { (U.calling g mk as.toArray).setFrames t.frames with heap := t.heap, slotsUsed := t.slotsUsed } from u1] at z
    exact z
  obtain ⟨f0, hf0⟩ := Option.isSome_iff_exists.mp hA.top
  obtain ⟨fr, hfr0⟩ := State.topJava?_eq_some.mp hf0
  have hfr1 : (({ U with heap := t.heap, slotsUsed := t.slotsUsed } : State).setVm t.vm).frames = .java f0 :: fr := hfr0
  have hsame : U.sameButNew ({ U with heap := t.heap, slotsUsed := t.slotsUsed } : State) L mc ms := by
    refine ⟨?_, u2, u3, u4, u5, u6⟩
    obtain ⟨z, hz, -⟩ := State.frames_cons hfr0
    show ({ U with heap := t.heap, slotsUsed := t.slotsUsed } : State) = { U.setFrames U.frames with heap := t.heap, slotsUsed := t.slotsUsed }
    rw [State.setFrames_self hz]
  have X' : Stand p l e R s m args below meth c (({ U with heap := t.heap, slotsUsed := t.slotsUsed } : State).setVm t.vm) (Ls ++ L) (c0 + mc) (s0 + ms) :=
    ⟨X.admits, X.cas, X.clock, X.frames, X.room, X.hears, X.method, X.code, (X.here.setHeapUsed t.heap t.slotsUsed).setVm hvm.alike, X.tail, State.WarmedH.trans X.warmed hvm, X.limits, X.bytes, X.same.trans (hsame.setVm s.vm)⟩
  refine ⟨o, _, L, h', X', hL, hQ, hheap, ?_, ?_⟩
  · intro v ho
    subst ho
    obtain ⟨c2, i2, len2, hc2, hd2, hf2⟩ := hend
    have hcc : c2 = c := by
      have q1 : t.code? g.method = U.code? g.method := by rw [State.code?_eq, State.code?_eq, hvm.alike.method?]
      exact Option.some.inj (hc2.symm.trans (q1.trans hA.code))
    subst hcc
    have hl2 : len2 = len := by rw [hdg] at hd2; cases hd2; rfl
    subst hl2
    have key : t = (({ U with heap := t.heap, slotsUsed := t.slotsUsed } : State).setVm t.vm).setTop { g with pc := g.pc + len2, stack := v.toList ++ g.stack } := by
      refine ht.trans ?_
      rw [hf2, State.calling_eq hA.top, State.setFrames_setFrames, State.setTop_of_frames _ hfr1, hfr0]
      rfl
    rw [← key]
    exact hgo
  · intro x ho
    subst ho
    have hf2 : t.frames = .throwing x :: .java g :: U.frames.tail := hend
    have key : t = ((({ U with heap := t.heap, slotsUsed := t.slotsUsed } : State).setVm t.vm).setTop g).pushFrame (.throwing x) := by
      refine ht.trans ?_
      rw [hf2, State.calling_eq hA.top, State.setFrames_setFrames, State.pushFrame, State.frames_setTop _ hfr1, State.setTop_of_frames _ hfr1, State.setFrames_setFrames, hfr0]
      rfl
    rw [← key]
    exact hgo
end KXB
/-- in M, at pc, the exception x is on its way -/
def kx_t (G : kx_G) (l : Launch) (M : kx_M) (d : Nat) (Q : Outcome → kx_H → Prop) (kc ks pc : Nat) (lv : kx_L) (x : Nat) (h : kx_H) : Prop :=
  ∀ (p : Program) (e : Env) (R : Room) (s : State) (m : MethodId) (args : Array Value) (below : List Frame) (meth : Method) (c : Code), kx_X G l M d p R s m meth c →
  ∀ (H : Heap) (locs : List Loc) (ls : Array Slot) (st : List Value) (cells slots : Nat), kx_hp G h H → va_S (fun q => G.1 ≤ q) s.heap H locs → lv_has ls M.2.2.1 lv → cells + kc ≤ R.cells → slots + ks ≤ R.slots →
  ∀ T : State, T.heap = H → Stand p l e R s m args below meth c T locs cells slots → ∃ t : State, Steps p.tables e below ((T.setTop (F0 m pc ls st)).pushFrame (.throwing x)) t ∧ kx_Q G Q below s R t
/-- how the callee's end is taken up -/
def kx_k (G : kx_G) (l : Launch) (M : kx_M) (d : Nat) (Q : Outcome → kx_H → Prop) (kc ks pc : Nat) (lv : kx_L) (st : List Value) (o : Outcome) (h : kx_H) : Prop := match o with
  | .returned v => kx_w G l M d Q kc ks (pc + 3) lv (v.toList ++ st) h
  | .threw x => kx_t G l M d Q kc ks pc lv x h
section KXC
variable {G : kx_G} {l : Launch} {M N : kx_M} {d mc ms : Nat} {Q Qc : Outcome → kx_H → Prop} {kc ks pc idx b : Nat} {lv : kx_L} {st as : List Value} {h : kx_H}
theorem kx_step {p : Program} {e : Env} {R : Room} {s : State} {m : MethodId} {args : Array Value} {below : List Frame} {meth : Method} {c : Code} {H : Heap} {locs : List Loc} {ls : Array Slot} {cells slots : Nat} {T : State} {vm₁ : Vm} {mk : MethodId} {ig : Instr} {av : List Value}
    (X : kx_X G l M (d + 1) p R s m meth c) (hh : kx_hp G h H) (hS : va_S (fun q => G.1 ≤ q) s.heap H locs) (hl : lv_has ls M.2.2.1 lv) (q1 : cells + (kc + mc) ≤ R.cells) (q2 : slots + (ks + ms) ≤ R.slots) (hT : T.heap = H) (X₁ : Stand p l e R s m args below meth c (T.setVm vm₁) locs cells slots)
    (hM : kx_c G l N d mc ms av h Qc) (hk : ∀ o h', Qc o h' → kx_k G l M (d + 1) Q kc ks pc lv st o h') (hmx : N.2.2.1 ≤ 80) (hst : (st.map fun v => v.category).sum ≤ 8) (hdg : decode c.code pc = .ok (ig, 3)) (hn : s.methodNamed? N.1 = some mk) (hini : Cond.initialized N.1.cls ∈ kx_ws) (hcd : kx_cd N ∈ kx_ws)
    (hsteps : ∀ target, Steps p.tables e below (doInvoke e ((T.setVm vm₁).setTop (F0 m pc ls st)) [] mk av.toArray).1 target → Steps p.tables e below (T.setTop (F0 m pc ls (av.reverse ++ st))) target) : ∃ t : State, Steps p.tables e below (T.setTop (F0 m pc ls (av.reverse ++ st))) t ∧ kx_Q G Q below s R t := by
  have hX := X
  obtain ⟨hx, hb, hml, hown, -, -, -, -, hK, hbs, hfr, hlo, -⟩ := hX
  have hK1 : kx_K G (T.setVm vm₁) := kx_K.moved hK X₁.warmed (H := H) hT hS hbs
  have hK2 : kx_K G ((T.setVm vm₁).calling (F0 m pc ls st) mk av.toArray) := kx_K.calling hK1
  obtain ⟨o, T', L, h', X', hL, hQ, hp', hr, ht⟩ := kx_bk (g := F0 m pc ls st) hM X₁ rfl (by rw [hml]; exact hl.1) hdg (by show 2 * 0 + (st.map fun v => v.category).sum ≤ 8; omega) (X₁.named hn) hfr hlo hmx (by omega) (by omega) (hK1.2.1 _ hini _) (hK1.2.1 _ hcd _) ⟨by rw [show (T.setVm vm₁).heap = H from hT]; exact hh, hK2⟩
  have hS' : va_S (fun q => G.1 ≤ q) s.heap T'.heap (locs ++ L) := kx_S.of X' (fun q hq => by
    rcases List.mem_append.mp hq with z | z
    · exact hS.2.2 q z
    · exact hL q z)
  have hkk := hk o h' hQ
  cases o with
  | returned v =>
    obtain ⟨t, a1, a2⟩ := (hkk : kx_w G l M (d + 1) Q kc ks (pc + 3) lv (v.toList ++ st) h') p e R s m args below meth c X T'.heap (locs ++ L) ls (cells + mc) (slots + ms) hp' hS' hl (by omega) (by omega) T' rfl X'
    exact ⟨t, (hsteps _ (hr v rfl)).trans a1, a2⟩
  | threw x =>
    obtain ⟨t, a1, a2⟩ := (hkk : kx_t G l M (d + 1) Q kc ks pc lv x h') p e R s m args below meth c X T'.heap (locs ++ L) ls st (cells + mc) (slots + ms) hp' hS' hl (by omega) (by omega) T' rfl X'
    exact ⟨t, (hsteps _ (ht x rfl)).trans a1, a2⟩
end KXC
end
section
/-! ===== the calls' own instructions ===== -/
section KXV
variable {G : kx_G} {l : Launch} {M N : kx_M} {d mc ms : Nat} {Q Qc : Outcome → kx_H → Prop} {kc ks pc idx b : Nat} {lv : kx_L} {st sk as : List Value} {h : kx_H}
/-- what a call of N out of M asks of the tables, whatever the instruction -/
def kx_ok (N : kx_M) (n : Nat) : Prop := Cond.initialized N.1.cls ∈ kx_ws ∧ kx_cd N ∈ kx_ws ∧ N.2.2.1 ≤ 80 ∧ (N.1.cls ≠ "java/lang/invoke/MethodHandle" ∧ N.1.cls ≠ "java/lang/invoke/VarHandle") ∧ (parseMethodDescriptor N.1.desc).map (fun z => z.parameters.length) = some n
theorem kx_ok.len {n : Nat} (k : kx_ok N n) {sig : MethodDescriptor} (hs : parseMethodDescriptor N.1.desc = some sig) : n = sig.parameters.length := by
  have h2 := k.2.2.2.2
  rw [hs] at h2
  exact (Option.some.inj h2).symm
theorem kx_inv {ci NN : Nat} {T0 : u_T} {fs : List Value} {host : String} (hk0 : kx_ok N as.length) (hln : Cond.methodLinkNest M.1.cls idx N.1 host ∈ kx_ws ∨ Cond.methodLink M.1.cls idx N.1 ∈ kx_ws) (hin : Cond.instanceMethod N.1 ∈ kx_ws) (hse : Cond.selects N.1.cls N.1 N.1 ∈ kx_ws) (hcl : kx_cl[ci]? = some (N.1.cls, T0, NN)) (hd : decode M.2.1 pc = .ok (.invokevirtual idx, 3))
    (hsk : sk = as.reverse ++ .ref b :: st) (hst : (st.map fun v => v.category).sum ≤ 8) (hb0 : kx_is G h b (.inr (ci, fs))) (hM : kx_c G l N d mc ms (.ref b :: as) h Qc) (hk : ∀ o h', Qc o h' → kx_k G l M (d + 1) Q kc ks pc lv st o h') : kx_w G l M (d + 1) Q (kc + mc) (ks + ms) pc lv sk h := by
  subst hsk
  intro p e R s m args below meth c X H locs ls cells slots hh hS hl q1 q2 T hT Y
  have hX := X
  obtain ⟨hx, hb, hml, hown, -, -, -, -, hK, hbs, hfr, hlo, -⟩ := hX
  obtain ⟨mk, methM, hnamed, hmethM, hstM, habM⟩ := Cond.instanceMethod_spec (hK.2.1 _ hin args)
  obtain ⟨mk', methN, cN, e0, e1, e2, e3, e4, -, -, -, e8⟩ := kx_cd_spec (hK.2.1 _ hk0.2.1 args)
  cases hnamed.symm.trans e0
  cases hmethM.symm.trans e1
  obtain ⟨r', hr', cellB, g1, g2, g3, -⟩ := hh.at hb0
  have hcls : s.vm.findClass N.1.cls = some cellB.cls := by rw [g2]; exact (hK.1.1 ci _ hcl).2.1
  obtain ⟨c2, r2, m2, w1, w2, w3, w4, kP, hkP, hkPi⟩ := Cond.selects_spec (hK.2.1 _ hse args)
  cases hcls.symm.trans w1
  cases (State.methodFound?_of_named hnamed hk0.2.2.2.1).symm.trans w2
  cases hnamed.symm.trans w3
  have hselP : selectMethod e.platform s.vm cellB.cls mk = .method mk := by rw [Launch.admits_selectMethod Y.admits]; exact w4
  have hdg : decode c.code pc = .ok (.invokevirtual idx, 3) := by rw [hb]; exact hd
  have hcT : T.heap[b]? = some cellB := by rw [hT]; exact g1
  have hno : ∀ z, cellB.vm ≠ .statics z := fun z hz => by rw [g3] at hz; cases hz
  obtain ⟨vm₁, X₁, hgo⟩ : ∃ vm₁, Stand p l e R s m args below meth c (T.setVm vm₁) locs cells slots ∧
      ∀ target, (∀ acts, Steps p.tables e below (doInvoke e ((T.setVm vm₁).setTop (F0 m pc ls st)) acts mk (.ref b :: as).toArray).1 target) → Steps p.tables e below (T.setTop (F0 m pc ls (as.reverse ++ .ref b :: st))) target := by
    rcases hln with hln | hln
    · exact Y.invokevirtualNest hx hown (hK.2.1 _ hln args) hnamed hmethM hstM hkP hkPi hk0.2.2.2.1 (a := b) (cell := cellB) hcT hno hselP hmethM habM hkP hkPi (g := F0 m pc ls (as.reverse ++ .ref b :: st)) rfl (argsL := as) (rest := st) (hk0.len e8) rfl hdg
    · exact Y.invokevirtual hx hown (hK.2.1 _ hln args) hnamed hmethM hstM hkP hkPi hk0.2.2.2.1 (a := b) (cell := cellB) hcT hno hselP hmethM habM hkP hkPi (g := F0 m pc ls (as.reverse ++ .ref b :: st)) rfl (argsL := as) (rest := st) (hk0.len e8) rfl hdg
  have ea : (Value.ref b :: as).reverse ++ st = as.reverse ++ .ref b :: st := by simp
  have fin := kx_step (vm₁ := vm₁) (st := st) X hh hS hl (kc := kc) (ks := ks) (by omega) (by omega) hT X₁ hM hk hk0.2.2.1 hst hdg hnamed hk0.1 hk0.2.1 (fun target ht => by rw [ea]; exact hgo target (fun acts => by rw [doInvoke_state]; exact ht))
  rw [ea] at fin
  exact fin
theorem kx_sti {host : String} (hk0 : kx_ok N as.length) (hln : Cond.methodLinkNest M.1.cls idx N.1 host ∈ kx_ws ∨ Cond.methodLink M.1.cls idx N.1 ∈ kx_ws) (hsx : Cond.static N.1 ∈ kx_ws) (hd : decode M.2.1 pc = .ok (.invokestatic idx, 3))
    (hsk : sk = as.reverse ++ st) (hst : (st.map fun v => v.category).sum ≤ 8) (hM : kx_c G l N d mc ms as h Qc) (hk : ∀ o h', Qc o h' → kx_k G l M (d + 1) Q kc ks pc lv st o h') : kx_w G l M (d + 1) Q (kc + mc) (ks + ms) pc lv sk h := by
  subst hsk
  intro p e R s m args below meth c X H locs ls cells slots hh hS hl q1 q2 T hT Y
  have hX := X
  obtain ⟨hx, hb, hml, hown, -, -, -, -, hK, hbs, hfr, hlo, -⟩ := hX
  obtain ⟨mk, methM, cN, hnamed, hmethM, e2, e3, e4, -, -, -, e8⟩ := kx_cd_spec (hK.2.1 _ hk0.2.1 args)
  have hstatic : methM.isStatic = true := Cond.static_spec hnamed hmethM (hK.2.1 _ hsx args)
  obtain ⟨kP, hkP, -⟩ := className_of_methodNamed hnamed
  have hinitP : kP.init = .initialized := Cond.initialized_spec (findClass_of_methodNamed hnamed) hkP (hK.2.1 _ hk0.1 args)
  have hdg : decode c.code pc = .ok (.invokestatic idx, 3) := by rw [hb]; exact hd
  obtain ⟨vm₁, X₁, hgo⟩ : ∃ vm₁, Stand p l e R s m args below meth c (T.setVm vm₁) locs cells slots ∧
      ∀ target, (∀ acts, Steps p.tables e below (doInvoke e ((T.setVm vm₁).setTop (F0 m pc ls st)) acts mk as.toArray).1 target) → Steps p.tables e below (T.setTop (F0 m pc ls (as.reverse ++ st))) target := by
    rcases hln with hln | hln
    · exact Y.invokestaticNest hx hown (hK.2.1 _ hln args) hnamed hmethM hstatic hkP hinitP hk0.2.2.2.1 (g := F0 m pc ls (as.reverse ++ st)) rfl (argsL := as) (rest := st) (hk0.len e8) rfl hdg
    · exact Y.invokestatic hx hown (hK.2.1 _ hln args) hnamed hmethM hstatic hkP hinitP hk0.2.2.2.1 (g := F0 m pc ls (as.reverse ++ st)) rfl (argsL := as) (rest := st) (hk0.len e8) rfl hdg
  exact kx_step (vm₁ := vm₁) (st := st) X hh hS hl (kc := kc) (ks := ks) (by omega) (by omega) hT X₁ hM hk hk0.2.2.1 hst hdg hnamed hk0.1 hk0.2.1 (fun target ht => hgo target (fun acts => by rw [doInvoke_state]; exact ht))
theorem kx_ini {host : String} (hk0 : kx_ok N as.length) (hln : Cond.methodLinkNest M.1.cls idx N.1 host ∈ kx_ws ∨ Cond.methodLink M.1.cls idx N.1 ∈ kx_ws) (hin : Cond.instanceMethod N.1 ∈ kx_ws) (hnm : N.1.name = "<init>") (hnh : N.2.2.2.2 = [] ∧ N.2.2.2.1 = none) (hd : decode M.2.1 pc = .ok (.invokespecial idx, 3))
    (hsk : sk = as.reverse ++ .ref b :: st) (hst : (st.map fun v => v.category).sum ≤ 8) (hM : kx_c G l N d mc ms (.ref b :: as) h Qc) (hk : ∀ o h', Qc o h' → kx_k G l M (d + 1) Q kc ks pc lv st o h') : kx_w G l M (d + 1) Q (kc + mc) (ks + ms) pc lv sk h := by
  subst hsk
  intro p e R s m args below meth c X H locs ls cells slots hh hS hl q1 q2 T hT Y
  have hX := X
  obtain ⟨hx, hb, hml, hown, -, -, -, -, hK, hbs, hfr, hlo, -⟩ := hX
  have hpl : e.platform.magicAccessors = ({} : Platform).magicAccessors := by rw [Y.admits.platform]
  have hcode : (Cond.code N.1 N.2.1 N.2.2.1 none).before args s = true := by
    have z := hK.2.1 _ hk0.2.1 args
    unfold kx_cd at z
    rw [if_pos hnh.1, hnh.2] at z
    exact z
  have hdg : decode c.code pc = .ok (.invokespecial idx, 3) := by rw [hb]; exact hd
  obtain ⟨mk, vm₁, hnamed, X₁, hgo⟩ : ∃ mk vm₁, s.methodNamed? N.1 = some mk ∧ Stand p l e R s m args below meth c (T.setVm vm₁) locs cells slots ∧
      ∀ target, (∀ acts, Steps p.tables e below (doInvoke e ((T.setVm vm₁).setTop (F0 m pc ls st)) acts mk (.ref b :: as).toArray).1 target) → Steps p.tables e below (T.setTop (F0 m pc ls (as.reverse ++ .ref b :: st))) target := by
    rcases hln with hln | hln
    · obtain ⟨mk, methM, cM, kP, vm₁, hnamed, -, -, -, -, -, -, -, hW₁, hstep₁⟩ := Steps.initColdArgsNest (e := e) Y.here hx Y.warmed hpl hown hnm hk0.2.2.2.1 (hK.2.1 _ hln args) (hK.2.1 _ hin args) hcode (f := F0 m pc ls (as.reverse ++ .ref b :: st)) rfl (argsL := as) (rest := st) (fun sig hs => hk0.len hs) rfl hdg
      exact ⟨mk, vm₁, hnamed, Y.noted hW₁, hstep₁⟩
    · obtain ⟨mk, methM, cM, kP, vm₁, hnamed, -, -, -, -, -, -, -, hW₁, hstep₁⟩ := Steps.initColdArgs (e := e) Y.here hx Y.warmed hpl hown hnm hk0.2.2.2.1 (hK.2.1 _ hln args) (hK.2.1 _ hin args) hcode (f := F0 m pc ls (as.reverse ++ .ref b :: st)) rfl (argsL := as) (rest := st) (fun sig hs => hk0.len hs) rfl hdg
      exact ⟨mk, vm₁, hnamed, Y.noted hW₁, hstep₁⟩
  have ea : (Value.ref b :: as).reverse ++ st = as.reverse ++ .ref b :: st := by simp
  have fin := kx_step (vm₁ := vm₁) (st := st) X hh hS hl (kc := kc) (ks := ks) (by omega) (by omega) hT X₁ hM hk hk0.2.2.1 hst hdg hnamed hk0.1 hk0.2.1 (fun target ht => by rw [ea]; exact hgo target (fun acts => by rw [doInvoke_state]; exact ht))
  rw [ea] at fin
  exact fin
end KXV
/-! ===== an exception on its way: out of the method, or into a handler ===== -/
section KXT
variable {G : kx_G} {l : Launch} {M : kx_M} {d : Nat} {Q : Outcome → kx_H → Prop} {kc ks pc x : Nat} {lv : kx_L} {h : kx_H}
theorem kx_cov {c : Code} {pc : Nat} (hT : c.exceptionTable.toList.map (fun h => (h.startPc, h.endPc, h.handlerPc, h.catchType)) = M.2.2.2.2) (hcov : ∀ q ∈ M.2.2.2.2, ¬ (q.1 ≤ pc ∧ pc < q.2.1)) : ∀ z ∈ c.exceptionTable.toList, covers z pc = false := by
  intro z hz
  have h1 : ¬ (z.startPc ≤ pc ∧ pc < z.endPc) := hcov (z.startPc, z.endPc, z.handlerPc, z.catchType) (by rw [← hT]; exact List.mem_map.mpr ⟨z, hz, rfl⟩)
  simp only [covers, Bool.and_eq_false_iff, decide_eq_false_iff_not]
  omega
theorem kx_out (hcov : ∀ q ∈ M.2.2.2.2, ¬ (q.1 ≤ pc ∧ pc < q.2.1)) (hq : Q (.threw x) h) : kx_t G l M d Q kc ks pc lv x h := by
  intro p e R s m args below meth c X H locs ls st cells slots hh hS hl q1 q2 T hT Y
  obtain ⟨-, -, -, -, -, hlk, -, htab, -⟩ := id X
  have Y' := stand_widen Y (show cells ≤ R.cells by omega) (show slots ≤ R.slots by omega)
  obtain ⟨st1, st2, st3, st4, st5⟩ := Y'.leaveThrown x (g := F0 m pc ls st) rfl rfl rfl (kx_cov htab hcov) hlk
  exact ⟨_, st1, .threw x, h, st2, st3, hq, by show kx_hp G h T.heap; rw [hT]; exact hh, locs, ⟨st4, st5⟩, hS.2.2⟩
end KXT
end
section
/-! ===== a handler of the method's own, whose class may have to be linked first ===== -/
section KXF
variable {Q : Handler → Pre} {E : CtlPost} {e : Env} {d : Bool} {acts : List Action} {s : State} {f : JFrame} {a : Addr}
theorem kx_lnk {x : ExceptionTableEntry} {t : List ExceptionTableEntry} {k : ClassId} {cell : Cell} (hx : covers x f.pc = true) (h0 : x.catchType ≠ 0) (hl : s.vm.ClassLinks e.platform f.method.cls x.catchType k) (hcell : s.heap[a]? = some cell) (hobj : ∀ z, cell.vm ≠ .statics z)
    (hk : ∃ z, s.vm.classes[cell.cls]? = some z) (hc : ∃ z, s.vm.classes[k]? = some z) :
    wp (findHandler.go f a (x :: t)) Q E e d acts s ↔ (if s.vm.assignable cell.cls k = true then Q (.found x.handlerPc) d acts (s.setVm (s.vm.noted f.method.cls x.catchType (.cls k))) else wp (findHandler.go f a t) Q E e d acts (s.setVm (s.vm.noted f.method.cls x.catchType (.cls k)))) := by
  simp only [covers] at hx
  obtain ⟨g1, g2⟩ := (resolveClass_links e.toSetting hl).op (op := VmOp.resolveClass f.method.cls x.catchType) rfl
  have hal : s.vm.Alike (s.vm.noted f.method.cls x.catchType (.cls k)) := (Vm.Alike.refl s.vm).noted _ _ _
  obtain ⟨z1, hz1⟩ := hk
  obtain ⟨z2, hz2⟩ := hc
  obtain ⟨y1, hy1, -⟩ := hal.2.2 _ _ hz1
  obtain ⟨y2, hy2, -⟩ := hal.2.2 _ _ hz2
  have has : (s.vm.noted f.method.cls x.catchType (.cls k)).assignable cell.cls k = s.vm.assignable cell.cls k := by rw [hal.assignable]
  cases hv : s.vm.assignable cell.cls k <;>
    (rw [hv] at has; simp [findHandler.go, hx, h0, g1, g2, hcell, hobj, hy1, hy2, has, VmOp.dirties, VmOp.acts])
/-- a row of the table that doesn't take the exception -/
def kx_pas (pl : Platform) (s : State) (D : ClassId) (pc : Nat) (tc : ClassId) (y : ExceptionTableEntry) : Prop := covers y pc = false ∨ (y.catchType ≠ 0 ∧ ∃ k, s.vm.ClassLinks pl D y.catchType k ∧ s.vm.assignable tc k = false)
theorem kx_srch {s0 : State} {cell : Cell} (hobj : ∀ z, cell.vm ≠ .statics z) (hk0 : ∃ z, s0.vm.classes[cell.cls]? = some z) (x : ExceptionTableEntry) (suf : List ExceptionTableEntry) (hx : covers x f.pc = true) (h0 : x.catchType ≠ 0) {k : ClassId} (hl : s0.vm.ClassLinks e.platform f.method.cls x.catchType k) (hy : s0.vm.assignable cell.cls k = true) :
    ∀ (pre : List ExceptionTableEntry) (S : State), s0.WarmedH S.vm → S.heap[a]? = some cell → (∀ y ∈ pre, kx_pas e.platform s0 f.method.cls f.pc cell.cls y) →
      ∃ vm' : Vm, s0.WarmedH vm' ∧ ∀ (Q : Handler → Pre) (E : CtlPost) (d : Bool) (acts : List Action), wp (findHandler.go f a (pre ++ x :: suf)) Q E e d acts S ↔ Q (.found x.handlerPc) d acts (S.setVm vm') := by
  obtain ⟨k0, hk0⟩ := hk0
  intro pre
  induction pre with
  | nil =>
    intro S hW hcell _
    obtain ⟨z0, hz0, -⟩ := hW.alike.2.2 _ _ hk0
    obtain ⟨dk, _, _, kt, hd, _, _, _, _, hkt, _, hopen⟩ := hl.here
    obtain ⟨z1, hz1, -⟩ := hW.alike.2.2 _ _ hkt
    refine ⟨_, hW.noted hd hopen (State.rightAt_cls hl), fun Q E d acts => ?_⟩
    rw [List.nil_append, kx_lnk hx h0 (hW.classLinks hl) hcell hobj ⟨z0, hz0⟩ ⟨z1, hz1⟩, if_pos (by rw [hW.alike.assignable]; exact hy)]
  | cons y ys ih =>
    intro S hW hcell hp
    obtain ⟨z0, hz0, -⟩ := hW.alike.2.2 _ _ hk0
    have hp' : ∀ z ∈ ys, kx_pas e.platform s0 f.method.cls f.pc cell.cls z := fun z hz => hp z (List.mem_cons_of_mem _ hz)
    cases hcov : covers y f.pc with
    | false =>
      obtain ⟨vm', hW', hq⟩ := ih S hW hcell hp'
      refine ⟨vm', hW', fun Q E d acts => ?_⟩
      rw [List.cons_append, W.findHandler_go_skip hcov]
      exact hq Q E d acts
    | true =>
      rcases hp y List.mem_cons_self with hn | ⟨hn0, k1, hl1, hno⟩
      · rw [hn] at hcov; cases hcov
      · obtain ⟨dk, _, _, kt, hd, _, _, _, _, hkt, _, hopen⟩ := hl1.here
        obtain ⟨z1, hz1, -⟩ := hW.alike.2.2 _ _ hkt
        obtain ⟨vm', hW', hq⟩ := ih (S.setVm (S.vm.noted f.method.cls y.catchType (.cls k1))) (hW.noted hd hopen (State.rightAt_cls hl1)) hcell hp'
        refine ⟨vm', hW', fun Q E d acts => ?_⟩
        rw [List.cons_append, kx_lnk hcov hn0 (hW.classLinks hl1) hcell hobj ⟨z0, hz0⟩ ⟨z1, hz1⟩, if_neg (by rw [hW.alike.assignable, hno]; decide)]
        exact hq Q E d acts
theorem kx_stc {r : List Frame} {pc : Nat} {vm' : Vm} (hf : ∀ (Q : Handler → Pre) (E : CtlPost) (d : Bool) (acts : List Action), wp (findHandler f a) Q E e d acts s ↔ Q (.found pc) d acts (s.setVm vm')) :
    (stepThrowing e s a (.java f :: r)).1 = (s.setVm vm').setFrames (.java { f with pc := pc, stack := [.ref a] } :: r) := by
  simp only [stepThrowing, searchFrame, vmDo]
  generalize hr : Sem.go _ e false [] s = res
  obtain ⟨as, rfl, ha⟩ := Sem.eq_ok_of hr (a := Handler.found pc) (s' := s.setVm vm') (acts' := []) (by simp [hf _ _ _ _])
  rfl
end KXF
section KXG
variable {G : kx_G} {l : Launch} {M : kx_M} {d : Nat} {Q : Outcome → kx_H → Prop} {kc ks pc x : Nat} {lv : kx_L} {h : kx_H}
/-- caught by the row whose place in the table is j; those ahead of it don't take it -/
theorem kx_cat {ci NN j : Nat} {E nm : String} {T0 : u_T} {fs : List Value} {q : Nat × Nat × Nat × Nat} (hcl : kx_cl[ci]? = some (E, T0, NN)) (hxc : kx_is G h x (.inr (ci, fs))) (hj : M.2.2.2.2[j]? = some q) (hq1 : q.1 ≤ pc ∧ pc < q.2.1) (hq0 : q.2.2.2 ≠ 0) (hln : Cond.classLink M.1.cls q.2.2.2 nm ∈ kx_ws) (hca : Cond.castable E nm ∈ kx_ws)
    (hpre : ∀ i, i < j → ∀ z, M.2.2.2.2[i]? = some z → ¬ (z.1 ≤ pc ∧ pc < z.2.1) ∨ (z.2.2.2 ≠ 0 ∧ ∃ n9, Cond.classLink M.1.cls z.2.2.2 n9 ∈ kx_ws ∧ Cond.not (.castable E n9) ∈ kx_ws)) (kk : kx_w G l M d Q kc ks q.2.2.1 lv [.ref x] h) : kx_t G l M d Q kc ks pc lv x h := by
  intro p e R s m args below meth c X H locs ls st cells slots hh hS hl q1 q2 T hT Y
  have hX := X
  obtain ⟨hx, hb, hml, hown, -, hlk, -, htab, hK, -⟩ := hX
  have hpl : e.platform.magicAccessors = ({} : Platform).magicAccessors := by rw [Y.admits.platform]
  obtain ⟨r', hr', cell, g1, g2, g3, -⟩ := hh.at hxc
  have hcE : s.vm.findClass E = some cell.cls := by rw [g2]; exact (hK.1.1 ci _ hcl).2.1
  have hobj : ∀ z, cell.vm ≠ .statics z := fun z hz => by rw [g3] at hz; cases hz
  have hk0 : ∃ z, s.vm.classes[cell.cls]? = some z := Vm.classAt_of_findClass hcE
  have hlenT : M.2.2.2.2.length = c.exceptionTable.toList.length := by rw [← htab, List.length_map]
  have hjl : j < c.exceptionTable.toList.length := by rw [← hlenT]; exact (List.getElem?_eq_some_iff.mp hj).1
  have hent : ∀ i (hi : i < c.exceptionTable.toList.length), M.2.2.2.2[i]? = some ((c.exceptionTable.toList[i]).startPc, (c.exceptionTable.toList[i]).endPc, (c.exceptionTable.toList[i]).handlerPc, (c.exceptionTable.toList[i]).catchType) := by
    intro i hi
    rw [← htab, List.getElem?_map, List.getElem?_eq_getElem hi]
    rfl
  have hq : q = ((c.exceptionTable.toList[j]).startPc, (c.exceptionTable.toList[j]).endPc, (c.exceptionTable.toList[j]).handlerPc, (c.exceptionTable.toList[j]).catchType) := Option.some.inj (hj.symm.trans (hent j hjl))
  have hsplit : c.exceptionTable.toList = c.exceptionTable.toList.take j ++ c.exceptionTable.toList[j] :: c.exceptionTable.toList.drop (j + 1) := by
    rw [List.getElem_cons_drop, List.take_append_drop]
  generalize hxe : c.exceptionTable.toList[j] = xe at hq hsplit
  subst hq
  obtain ⟨k5, hk5, hl5⟩ := Cond.classLink_spec hown (hK.2.1 _ hln args) e.platform hpl
  obtain ⟨c3, c4, hc3, hc4, hasg⟩ := Cond.castable_spec (hK.2.1 _ hca args)
  cases Option.some.inj (hc3.symm.trans hcE)
  cases Option.some.inj (hc4.symm.trans hk5)
  have hcovx : covers xe pc = true := by simp only [covers, Bool.and_eq_true, decide_eq_true_eq]; exact hq1
  have hpas : ∀ y ∈ c.exceptionTable.toList.take j, kx_pas e.platform s m.cls pc cell.cls y := by
    intro y hy
    obtain ⟨i, hi, rfl⟩ := List.getElem_of_mem hy
    rw [List.length_take] at hi
    have hil : i < c.exceptionTable.toList.length := by omega
    rw [List.getElem_take]
    rcases hpre i (by omega) _ (hent i hil) with hn | ⟨hn0, n9, hw1, hw2⟩
    · refine Or.inl ?_
      have hn' : ¬ ((c.exceptionTable.toList[i]).startPc ≤ pc ∧ pc < (c.exceptionTable.toList[i]).endPc) := hn
      simp only [covers, Bool.and_eq_false_iff, decide_eq_false_iff_not]
      omega
    · obtain ⟨k6, hk6, hl6⟩ := Cond.classLink_spec hown (hK.2.1 _ hw1 args) e.platform hpl
      obtain ⟨a8, b8, z1, z2, z3⟩ := va_Nc.of (hK.2.1 _ hw2 args)
      cases Option.some.inj (z1.symm.trans hcE)
      cases Option.some.inj (z2.symm.trans hk6)
      exact Or.inr ⟨hn0, _, hl6, z3⟩
  obtain ⟨vm', hW', hfd⟩ := kx_srch (e := e) (f := F0 m pc ls st) (a := x) (s0 := s) hobj hk0 xe _ hcovx hq0 hl5 hasg (c.exceptionTable.toList.take j) ((T.setTop (F0 m pc ls st)).pushFrame (.throwing x)) (by exact Y.warmed) (by show T.heap[x]? = some cell; rw [hT]; exact g1) hpas
  have hgo : ∀ target, Steps p.tables e below ((T.setVm vm').setTop (F0 m xe.handlerPc ls [.ref x])) target → Steps p.tables e below ((T.setTop (F0 m pc ls st)).pushFrame (.throwing x)) target := by
    intro target hrest
    have hA : At T (F0 m pc ls st).method c below := Y.here
    obtain ⟨w1, w2⟩ := hA.throwing x
    refine Steps.head w1 w2 ?_
    rw [stepThread_throwing (frames_entered hA.top _), kx_stc (s := (T.setTop (F0 m pc ls st)).pushFrame (.throwing x)) (pc := xe.handlerPc) (vm' := vm') (fun Q E d acts => by
      rw [W.findHandler_eq (meth := meth) (code := c) (by exact Y.method') Y.code, hsplit]
      exact hfd Q E d acts)]
    obtain ⟨g0, hg0⟩ := Option.isSome_iff_exists.mp hA.top
    obtain ⟨r, hr⟩ := State.topJava?_eq_some.mp hg0
    have hr2 : (T.setVm vm').frames = .java g0 :: r := hr
    rw [State.setTop_of_frames _ hr2] at hrest
    have e9 : (((T.setTop (F0 m pc ls st)).pushFrame (.throwing x)).setVm vm').setFrames (.java { (F0 m pc ls st) with pc := xe.handlerPc, stack := [.ref x] } :: T.frames.tail) = (T.setVm vm').setFrames (.java (F0 m xe.handlerPc ls [.ref x]) :: r) := by
      rw [hr]
      show ((((T.setTop (F0 m pc ls st)).pushFrame (.throwing x)).setVm vm')).setFrames _ = _
      rw [State.pushFrame, State.setTop_of_frames _ hr]
      show (((T.setFrames _).setFrames _).setVm vm').setFrames _ = _
      rw [State.setFrames_setFrames]
      show ((T.setVm vm').setFrames _).setFrames _ = _
      rw [State.setFrames_setFrames]
      rfl
    rw [e9]
    exact hrest
  obtain ⟨t, a1, a2⟩ := kk p e R s m args below meth c X H locs ls cells slots hh hS hl q1 q2 (T.setVm vm') hT (Y.noted hW')
  exact ⟨t, hgo t a1, a2⟩
end KXG
end
section
/-! ===== the constructors of an exception that is thrown on the spot: E(String), which hands on to RuntimeException(String) ===== -/
def kx_atm (own : String) (ic : Nat) (E : String) (idx : Nat) (bytes : ByteArray) : List Cond :=
  Bundle.throwableAtoms ++ Bundle.throwableSAtoms ++ Bundle.passSAtoms E "java/lang/RuntimeException" idx bytes ++ Bundle.chainSAtoms "java/lang/RuntimeException" ["java/lang/Exception"] ++
  [.methodLink own ic (Bundle.initS E), .instantiable E 6, .selects E Bundle.tFill0 Bundle.tFill0, .selects E Bundle.tFill Bundle.tFill, .lays E Bundle.tN "cause" "Ljava/lang/Throwable;", .lays E Bundle.tN "stackTrace" Bundle.steD, .lays E Bundle.tN "suppressedExceptions" Bundle.listD, .lays E Bundle.tN "detailMessage" "Ljava/lang/String;",
   .isRef (.static Bundle.tN "UNASSIGNED_STACK" Bundle.steD), .isRef (.static Bundle.tN "SUPPRESSED_SENTINEL" Bundle.listD), .fieldLink Bundle.tN 198 Bundle.tN "backtrace" "Ljava/lang/Object;", .lays Bundle.tN Bundle.tN "backtrace" "Ljava/lang/Object;", .lays E Bundle.tN "backtrace" "Ljava/lang/Object;"]
section KXQ
variable {p : Program} {l : Launch} {e : Env} {R : Room} {s : State} {m₀ : MethodId} {args : Array Value} {below : List Frame} {meth : Method} {c : Code} {V : State} {locs : List Loc} {cells slots : Nat}
set_option maxHeartbeats 4000000 in
theorem kx_ctor (X : Stand p l e R s m₀ args below meth c V locs cells slots) (hexec : p.tables.exec = Jvm.exec) (htr : e.platform.stackTraces = false) {own E : String} {ic idx : Nat} {bytes : ByteArray} (hown : s.vm.findClass own = some m₀.cls) (hE : Bundle.fit E = true)
    (b0 : decode bytes 0 = .ok (.aload_n 0, 1)) (b1 : decode bytes 1 = .ok (.aload_n 1, 1)) (b2 : decode bytes 2 = .ok (.invokespecial idx, 3)) (b5 : decode bytes 5 = .ok (.return_, 1)) (hat : ∀ w ∈ kx_atm own ic E idx bytes, w.before args s = true) (hlocs : locs = [])
    {a : Addr} {cX : ClassId} {kX : Class} (hfoundX : s.vm.findClass E = some cX) (hkX : s.vm.classes[cX]? = some kX) (hcell : V.heap[a]? = some (freshCell cX kX)) (hnew : s.heap.size ≤ a) {msg : Value} (hmsg : msg.isRef = true)
    {g : JFrame} (hg : g.method = m₀) (hsize : g.locals.size = c.maxLocals) (hlocked : g.locked = none) (hentered : g.entered = []) {rest : List Value} (hstack : g.stack = msg :: .ref a :: .ref a :: rest)
    (hd6 : decode c.code g.pc = .ok (.invokespecial ic, 3)) (hd9 : decode c.code (g.pc + 3) = .ok (.athrow, 1)) (hout : ∀ x ∈ c.exceptionTable.toList, covers x (g.pc + 3) = false)
    (hRf : 5 < R.frames) (hRl : 2 * g.monitorRoom + ((Value.ref a :: rest).map fun v => v.category).sum + 81 ≤ R.locals) (hlocks : meth.locks = false) :
    ∃ U : State, Steps p.tables e below (V.setTop g) U ∧ U.status = .running ∧ Ended U below (.threw a) ∧ s.WarmedH U.vm ∧ s.sameButNew ({ U with vm := s.vm } : State) locs cells slots ∧ ∃ ce : Cell, U.heap[a]? = some ce ∧ s.vm.findClass E = some ce.cls ∧ ce.vm = .none := by
  subst hlocs
  have howns : e.platform.frameOwnsMonitors = true := by rw [X.admits.platform]
  have hfin : e.platform.finalization = false := by rw [X.admits.platform]
  have hpl : e.platform.magicAccessors = ({} : Platform).magicAccessors := by rw [X.admits.platform]
  have hat' : ∀ x, x ∈ kx_atm own ic E idx bytes → x.holds args s none s [] = true := fun x hx => hat x hx
  obtain ⟨Tc, Z0, L, -, Y⟩ := ThrowableC.of_atoms (args := args) howns hfin hpl (fun x hx => hat x (by simp [kx_atm, hx]))
  obtain ⟨Z, Mg, LZ, LM, hnZ⟩ := Init0T.ofS_atoms (args := args) hpl L Y (fun x hx => hat x (by simp [kx_atm, hx]))
  obtain ⟨P1, L1, hP1m, hP1s⟩ := PassC.ofS_atoms (args := args) (s := s) hpl (X := E) (Y := "java/lang/RuntimeException") (Bundle.fit_spec hE).1 (by decide) b0 b1 b2 b5 (fun x hx => hat x (by simp [kx_atm, hx]))
  obtain ⟨P2, Ps, hlen, L2, hL, hP2m, hlink2, hlink⟩ := Bundle.chainS (args := args) hpl hnZ ["java/lang/Exception"] "java/lang/RuntimeException" (by decide +kernel) (by intro n hn; rw [List.mem_singleton.mp hn]; decide +kernel) (fun x hx => hat x (by simp [kx_atm, hx]))
  have hs12 : P1.sup = P2.m := Option.some.inj (hP1s.symm.trans hP2m)
  have hfound : s.vm.findClass E = some P1.m.cls := findClass_of_methodNamed hP1m
  cases Option.some.inj (hfoundX.symm.trans hfound)
  obtain ⟨c1, kX', hc1, hk, hord, -, -, hn6⟩ := Cond.instantiable_spec (hat' (.instantiable E 6) (by simp [kx_atm]))
  cases Option.some.inj (hc1.symm.trans hfound)
  cases Option.some.inj (hkX.symm.trans hk)
  have hsel : ∀ (y : MethodName) (ym : MethodId), s.methodNamed? y = some ym → (y.cls ≠ "java/lang/invoke/MethodHandle" ∧ y.cls ≠ "java/lang/invoke/VarHandle") → (Cond.selects E y y).before args s = true → selectMethod e.platform s.vm P1.m.cls ym = .method ym := by
    intro y ym hy1 hy2 hy3
    obtain ⟨c2, r2, m2, w1, w2, w3, w4, -⟩ := Cond.selects_spec hy3
    cases Option.some.inj (w1.symm.trans hfound)
    cases Option.some.inj (w2.symm.trans (State.methodFound?_of_named hy1 hy2))
    cases Option.some.inj (w3.symm.trans hy1)
    rw [Launch.admits_selectMethod X.admits]
    exact w4
  have hsel0 := hsel _ _ Y.fill0 (by decide) (hat (.selects E Bundle.tFill0 Bundle.tFill0) (by simp [kx_atm]))
  have hselF := hsel _ _ Y.fill (by decide) (hat (.selects E Bundle.tFill Bundle.tFill) (by simp [kx_atm]))
  obtain ⟨cellS0, hcS0, hiss⟩ := Y.statics
  obtain ⟨u0, hu0⟩ := Cond.staticRefV Y.unassigned L.unassignedStatic L.statics hcS0 hiss (hat' (.isRef (.static Bundle.tN "UNASSIGNED_STACK" Bundle.steD)) (by simp [kx_atm]))
  obtain ⟨sen, hsen⟩ := Cond.staticRefV Y.sentinel L.sentinelStatic L.statics hcS0 hiss (hat' (.isRef (.static Bundle.tN "SUPPRESSED_SENTINEL" Bundle.listD)) (by simp [kx_atm]))
  obtain ⟨ci198, i198, fB, hk198, hg198, ha198, hsB, -, hnB, htB, hffB⟩ := Cond.ownField (t := .object "java/lang/Object") Y.found L.cls (by decide +kernel) (hat' (.fieldLink Bundle.tN 198 Bundle.tN "backtrace" "Ljava/lang/Object;") (by simp [kx_atm])) (hat' (.lays Bundle.tN Bundle.tN "backtrace" "Ljava/lang/Object;") (by simp [kx_atm])) e.platform hpl
  obtain ⟨cellS, hcS', heS, -, hkeep⟩ := X.same.2.2.2.2.2 Tc.aS cellS0 hcS0
  have hcellS : V.heap[Tc.aS]? = some cellS := hcS'
  have hknownS : cellS.vm ≠ .unknown := by
    rw [heS]; intro hu
    rw [show cellS0.vm = .unknown from hu] at hiss
    cases hiss
  have hneS : Tc.aS ≠ a := Nat.ne_of_lt (Nat.lt_of_lt_of_le (Array.getElem?_eq_some_iff.mp hcS0).1 hnew)
  obtain ⟨iM, hffM⟩ := Y.msg
  obtain ⟨tyC, dC, hdC, hdnC⟩ := Cond.laysAt hfound hk Y.cause (hat' (.lays E Bundle.tN "cause" "Ljava/lang/Throwable;") (by simp [kx_atm]))
  obtain ⟨tyS, dS, hdS, hdnS⟩ := Cond.laysAt hfound hk Y.stack (hat' (.lays E Bundle.tN "stackTrace" Bundle.steD) (by simp [kx_atm]))
  obtain ⟨tyP, dP, hdP, hdnP⟩ := Cond.laysAt hfound hk Y.supp (hat' (.lays E Bundle.tN "suppressedExceptions" Bundle.listD) (by simp [kx_atm]))
  obtain ⟨tyM, dM, hdM, hdnM⟩ := Cond.laysAt hfound hk hffM (hat' (.lays E Bundle.tN "detailMessage" "Ljava/lang/String;") (by simp [kx_atm]))
  obtain ⟨tyB, dB, hdB, hdnB⟩ := Cond.laysAt hfound hk hffB (hat' (.lays E Bundle.tN "backtrace" "Ljava/lang/Object;") (by simp [kx_atm]))
  have bC := Cond.laysApart hdB hdC hdnB hdnC (by rw [hnB, Y.causeName]; decide)
  have bS := Cond.laysApart hdB hdS hdnB hdnS (by rw [hnB, Y.stackName]; decide)
  have bP := Cond.laysApart hdB hdP hdnB hdnP (by rw [hnB, Y.suppName]; decide)
  have hskip : SkipFacts Tc e.platform s (fun u => u) u0 ((preparedCellV Tc.toThrowableT (freshCell P1.m.cls kX) a u0 sen).withEntry V.cur) :=
    ⟨{ ci198 := ci198, i198 := i198, fBack := fB }, ⟨hk198, hg198, ha198, hsB⟩, by
      have := fresh_default (c := P1.m.cls) tyB
      rw [htB] at this
      simpa [preparedCellV, Cell.setSlot, Cell.withEntry, Array.getElem?_setIfInBounds, bC, bS, bP, bC.symm, bS.symm, bP.symm, defaultValue] using this, fun _ _ => rfl⟩
  obtain ⟨tm, methC, cdC, kC, vm₁, hnC, -, -, -, -, -, -, -, hW₁, st1⟩ := Steps.initColdS (tb := p.tables) (e := e) (below := below) (s := s) (U := V) X.here hexec X.warmed hpl hown (t := Bundle.initS E) rfl rfl (Bundle.fit_spec hE).2
    (hat' (.methodLink own ic (Bundle.initS E)) (by simp [kx_atm])) (hat (.instanceMethod (Bundle.initS E)) (by simp [kx_atm, Bundle.passSAtoms])) (bytes := bytes) (maxL := 2) (hat (.code (Bundle.initS E) bytes 2 none) (by simp [kx_atm, Bundle.passSAtoms]))
    (f := g) hg (a := a) (msg := msg) (rest := .ref a :: rest) hstack hd6
  cases Option.some.inj (hnC.symm.trans hP1m)
  have X₁ := X.noted hW₁
  have hlen2 : Ps.length = 1 := hlen
  obtain ⟨vm₂, X₂, st2⟩ := X₁.ctorMessageOffV hexec (g := { g with stack := .ref a :: rest }) hg hsize Tc L Z LZ Mg LM (P1 :: P2 :: Ps)
    (fun P hP => by
      rcases List.mem_cons.mp hP with rfl | hP
      · exact L1
      · rcases List.mem_cons.mp hP with rfl | hP
        · exact L2
        · exact hL P hP) ⟨hs12, hlink2, hlink⟩ (u0 := u0) (sen := sen) (self := a) hmsg (cell := freshCell P1.m.cls kX) (cellS := cellS)
    hcell (fun _ => by simp) (by simp) rfl rfl hsel0 hselF hcellS hneS hknownS (by rw [hkeep _ (fun hm => nomatch hm)]; exact hu0) (by rw [hkeep _ (fun hm => nomatch hm)]; exact hsen)
    (Takes.of_laid hk hord tyC (by rw [Y.causeType]; rfl)) (Takes.of_laid hk hord tyS (by rw [Y.stackType]; exact fits_refV_array _ u0)) (Takes.of_laid hk hord tyP (by rw [Y.suppType]; exact fits_refV_object _ sen))
    (Takes.of_laid hk hord tyM (by rw [Y.msgType]; exact fits_refV_object _ ⟨msg, hmsg⟩)) Y.objLocals hskip htr [] hd6
    (by simp only [List.length_cons, hlen2]; omega) (by simp only [List.length_cons, hlen2]; exact hRl)
  obtain ⟨hwalk, hrun, hended, hWU, hsame⟩ := X₂.athrowLeaves hexec (g := { g with stack := .ref a :: rest, pc := g.pc + 3 }) hg hlocked hentered hout (a := a) (rest := rest) rfl hd9 hlocks
  have hlt : a < ((V.setVm vm₁).setVm vm₂).heap.size := (Array.getElem?_eq_some_iff.mp hcell).1
  have hU := heapAt_setCell_self (s := (V.setVm vm₁).setVm vm₂) (plainBareV Tc.toThrowableT (freshCell P1.m.cls kX) a u0 sen msg) hlt
  refine ⟨_, st1 _ (fun acts => ?_), hrun, hended, hWU, hsame.weaken (fun y hy hlt' => ?_) (Nat.le_refl _) (Nat.le_refl _), _, hU, hfound, rfl⟩
  · rw [doInvoke_state]
    exact st2 _ hwalk
  · rcases List.mem_append.mp hy with h1 | h1
    · exact h1
    · exfalso
      have hb : y.base = a := by
        simp only [List.mem_cons, List.not_mem_nil, or_false] at h1
        rcases h1 with rfl | rfl | rfl | rfl | rfl <;> rfl
      rw [hb] at hlt'
      exact Nat.not_lt.mpr hnew hlt'
end KXQ
end
section
/-! ===== throw new E("text"): the machine is looked at anew from the place of the throw, so that nothing of the heap is lost ===== -/
section KXN
variable {p : Program} {l : Launch} {e : Env} {R : Room} {s : State} {m : MethodId} {args : Array Value} {below : List Frame} {meth : Method} {c : Code} {T : State} {locs : List Loc} {cells slots : Nat}
theorem kx_anew (X : Stand p l e R s m args below meth c T locs cells slots) {R' : Room} (hf : R'.frames ≤ R.frames) (hl : R'.locals ≤ R.locals) (hc : cells + R'.cells ≤ R.cells) (hs : slots + R'.slots ≤ R.slots) :
    Stand p l e R' ((T.setVm s.vm).setFrames (.invoking m args :: below)) m args below meth c T [] 0 0 := by
  have htop : (T.setVm s.vm).topJava?.isSome := X.here.top
  have hF : ((T.setVm s.vm).setFrames (.invoking m args :: below)).frames = .invoking m args :: below := State.frames_setFrames _ (State.cur_lt_of_top htop)
  obtain ⟨f0, hf0⟩ := Option.isSome_iff_exists.mp htop
  obtain ⟨r, hr⟩ := State.topJava?_eq_some.mp hf0
  have k1 : e.platform.stackLimits (T.setVm s.vm).me = e.platform.stackLimits s.me := X.limits
  have k2 : (T.setVm s.vm).me.stackBytes = s.me.stackBytes := X.bytes
  have hU : ((T.setVm s.vm).setFrames (.invoking m args :: below)).localsInUse = s.localsInUse := by
    rw [State.localsInUse_invoking hF (meth := meth) (c := c) X.method X.code, State.localsInUse_invoking X.frames X.method X.code]
  have hroom : ((T.setVm s.vm).setFrames (.invoking m args :: below)).hasRoom e.platform R' = true := by
    have h := X.room
    have q1 := X.heapSize
    have q2 := X.used
    have q3 := X.book
    simp only [State.hasRoom, Bool.and_eq_true, decide_eq_true_eq] at h ⊢
    obtain ⟨⟨⟨⟨h1, h2, h3, h4, h5, h6⟩, h7⟩, h8⟩, h9⟩ := h
    rw [X.frames, List.length_cons] at h2 h3
    simp only [hF, hU, List.length_cons, State.stackLimits_setFrames, State.stackBytes_setFrames, k1, k2]
    refine ⟨⟨⟨⟨by omega, by omega, by omega, by omega, by omega, h6⟩, ?_⟩, ?_⟩, q3⟩
    · show T.heap.size + R'.cells ≤ e.platform.maxCells
      omega
    · show T.slotsUsed + R'.slots ≤ e.platform.maxSlots
      omega
  have hsame : ((T.setVm s.vm).setFrames (.invoking m args :: below)).sameButNew (T.setVm ((T.setVm s.vm).setFrames (.invoking m args :: below)).vm) [] 0 0 := by
    obtain ⟨t, ht, -⟩ := State.frames_cons hr
    have z : (T.heap.toList.drop T.heap.size) = [] := List.drop_eq_nil_of_le (Nat.le_of_eq Array.length_toList)
    refine ⟨?_, Nat.le_refl _, Nat.le_refl _, ?_, ?_, fun a cl hcl => ⟨cl, hcl, rfl, rfl, fun _ _ => rfl⟩⟩
    · show T.setVm s.vm = { ((T.setVm s.vm).setFrames (.invoking m args :: below)).setFrames (T.setVm s.vm).frames with heap := T.heap, slotsUsed := T.slotsUsed }
      rw [State.setFrames_setFrames, State.setFrames_self ht]
      rfl
    · show T.slotsUsed = T.slotsUsed + ((T.heap.toList.drop T.heap.size).map (·.slots.size)).sum
      rw [z]
      rfl
    · show ((T.heap.toList.drop T.heap.size).map (·.slots.size)).sum ≤ 0
      rw [z]
      exact Nat.le_refl _
  exact ⟨X.admits, X.cas, X.clock, hF, hroom, X.hears, X.method, X.code, X.here, X.tail, X.warmed, by rw [State.stackLimits_setFrames]; rfl, by rw [State.stackBytes_setFrames]; rfl, hsame⟩
theorem kx_ldw (X : Stand p l e R s m args below meth c T locs cells slots) (hexec : p.tables.exec = Jvm.exec) {own text : String} {index : Nat} {a : Addr} (hown : s.vm.findClass own = some m.cls) (hconst : (Cond.stringRef own index text).before args s = true) (hev : (Term.string own index).eval args s none [] s = some (.ref a)) {g : JFrame} (hg : g.method = m) (hdg : decode c.code g.pc = .ok (.ldc_w index, 3)) :
    ∀ target, Steps p.tables e below (T.setTop { g with pc := g.pc + 3, stack := .ref a :: g.stack }) target → Steps p.tables e below (T.setTop g) target := by
  obtain ⟨k, cf, i, a', hk, hcf, hcp, -, hr, hev'⟩ := Cond.stringRef_spec hown hconst
  cases hev.symm.trans hev'
  obtain ⟨k', hk', he⟩ := X.warmed.alike.2.2 _ _ hk
  have hr' : k'.resolved[index]? = some (some (.string a)) := by
    rcases X.warmed.entry hk hk' index with z | ⟨z, -⟩
    · rw [z]; exact hr
    · rw [hr] at z; cases z
  intro target hrest
  subst hg
  jvm_step X.here [hexec, hdg, ldc_w.wp_string (e := e) (s := T) (f := g) X.here.top hk' (by rw [he]; exact hcf) hcp hr']
  exact hrest
end KXN
section KXO
variable {G : kx_G} {l : Launch} {M : kx_M} {d : Nat} {Q : Outcome → kx_H → Prop} {kc ks pc : Nat} {lv : kx_L} {st : List Value} {h : kx_H}
/-- the exception's object is new, and its class's; the heap is else as it was; no handler of this method's covers the throw -/
theorem kx_thr {E text : String} {ci ik is ic w idx : Nat} {bytes : ByteArray} {T0 : u_T} {ld : Instr} (hcl : kx_cl[ci]? = some (E, T0, 0)) (hE : Bundle.fit E = true) (hln : Cond.classLink M.1.cls ik E ∈ kx_ws) (hini : Cond.initialized E ∈ kx_ws) (hsr : Cond.stringRef M.1.cls is text ∈ kx_ws) (b0 : decode bytes 0 = .ok (.aload_n 0, 1)) (b1 : decode bytes 1 = .ok (.aload_n 1, 1)) (b2 : decode bytes 2 = .ok (.invokespecial idx, 3)) (b5 : decode bytes 5 = .ok (.return_, 1)) (hat : ∀ z ∈ kx_atm M.1.cls ic E idx bytes, z ∈ kx_ws ∨ z ∈ kx_wz)
    (hld : (ld = .ldc is ∧ w = 2) ∨ (ld = .ldc_w is ∧ w = 3)) (d0 : decode M.2.1 pc = .ok (.new ik, 3)) (d3 : decode M.2.1 (pc + 3) = .ok (.dup, 1)) (d4 : decode M.2.1 (pc + 4) = .ok (ld, w)) (d6 : decode M.2.1 (pc + 4 + w) = .ok (.invokespecial ic, 3)) (d9 : decode M.2.1 (pc + 4 + w + 3) = .ok (.athrow, 1))
    (hcov : ∀ q ∈ M.2.2.2.2, ¬ (q.1 ≤ pc + 4 + w + 3 ∧ pc + 4 + w + 3 < q.2.1)) (hst : (st.map fun v => v.category).sum ≤ 8) (hq : Q (.threw h.1) (kx_new h (.inr (ci, [])))) : kx_w G l M d Q (kc + 1) (ks + 6) pc lv st h := by
  intro p e R s m args below meth c X H locs ls cells slots hh hS hl q1 q2 T hT Y
  have hX := X
  obtain ⟨hx, hb, hml, hown, -, hlk, -, htab, hK, hbs, hfr, hlo, hst9⟩ := hX
  have htr : e.platform.stackTraces = false := (show e.platform.stackTraces = l.stackTraces by rw [Y.admits.platform]).trans hst9
  have Z := kx_anew Y (R' := { frames := R.frames, locals := R.locals, cells := 1, slots := 6 }) (Nat.le_refl _) (Nat.le_refl _) (by show cells + 1 ≤ _; omega) (by show slots + 6 ≤ _; omega)
  obtain ⟨s', hs'⟩ : ∃ z, z = (T.setVm s.vm).setFrames (.invoking m args :: below) := ⟨_, rfl⟩
  rw [← hs'] at Z
  have hvm : s'.vm = s.vm := by rw [hs']; rfl
  have hhp : s'.heap = H := by rw [hs']; exact hT
  have hW0 : s.WarmedH s'.vm := by rw [hvm]; exact State.WarmedH.refl s
  have hK' : kx_K G s' := kx_K.moved hK hW0 (H := H) hhp hS hbs
  have hown' : s'.vm.findClass M.1.cls = some m.cls := by rw [hvm]; exact hown
  have hall : ∀ z ∈ kx_atm M.1.cls ic E idx bytes, z.before args s' = true := by
    intro z hz
    rcases hat z hz with g | g
    · exact hK'.2.1 z g args
    · exact kx_K.z hK' z g args
  have hins : (Cond.instantiable E 6).before args s' = true := hall _ (by simp [kx_atm])
  obtain ⟨vm₁, cX, kX, hfX, hkX, -, -, X₁, st1⟩ := Z.newCold hx (own := M.1.cls) (C := E) (index := ik) (n := 6) hown' (hK'.2.1 _ hln args) hins (hK'.2.1 _ hini args) (g := F0 m pc ls st) rfl (by rw [hb]; exact d0) (Nat.le_refl _) (Nat.le_refl _)
  generalize hT1 : (T.setVm vm₁).pushCell { cls := cX, slots := kX.instanceTypes.map defaultValue, vm := .none } = T1 at X₁ st1
  have hcellA : T1.heap[T.heap.size]? = some (freshCell cX kX) := by rw [← hT1]; exact State.heap_pushCell_size _ _
  have d3' : decode c.code (pc + 3) = .ok (.dup, 1) := by rw [hb]; exact d3
  have d4' : decode c.code (pc + 4) = .ok (ld, w) := by rw [hb]; exact d4
  obtain ⟨_, _, _, sa, -, -, -, -, -, hev⟩ := Cond.stringRef_spec hown' (hK'.2.1 _ hsr args)
  have hcat : (Value.ref T.heap.size).category = 1 := rfl
  obtain ⟨U, hsteps, hrun, hend, hW, hsame, ce, hce, hOc, hOv⟩ := kx_ctor X₁ hx htr (own := M.1.cls) (E := E) (ic := ic) (idx := idx) (bytes := bytes) hown' hE b0 b1 b2 b5 hall rfl hfX hkX hcellA (by rw [hhp, hT]; exact Nat.le_refl _) (msg := .ref sa) rfl
    (g := { method := m, pc := pc + 4 + w, locals := ls, stack := .ref sa :: .ref T.heap.size :: .ref T.heap.size :: st, locked := none }) rfl (by rw [hml]; exact hl.1) rfl rfl (rest := st) rfl
    (by rw [hb]; exact d6) (by rw [hb]; exact d9) (kx_cov htab hcov) (by show 5 < R.frames; omega) (by simp only [List.map_cons, List.sum_cons, hcat]; show 2 * 0 + _ + _ ≤ R.locals; omega) hlk
  have hU : U.heap.size = H.size + 1 ∧ ∀ q : Nat, q < H.size → U.heap[q]? = H[q]? := by
    obtain ⟨-, u2, u3, -, -, u6⟩ := hsame
    have v3 : U.heap.size ≤ s'.heap.size + (0 + 1) := u3
    have v1 : T.heap.size < U.heap.size := (Array.getElem?_eq_some_iff.mp hce).1
    rw [hhp] at v3
    rw [hT] at v1
    refine ⟨by omega, fun q hq9 => ?_⟩
    have hq1 : s'.heap[q]? = some H[q] := by rw [hhp]; exact Array.getElem?_eq_getElem hq9
    obtain ⟨c', y1, y2, y3, y4⟩ := u6 q _ hq1
    have y0 : U.heap[q]? = some c' := y1
    have y5 : c'.slots = (H[q]).slots := Array.ext_getElem? (fun i => y4 i (fun hm => nomatch hm))
    have y6 : c' = H[q] := by rw [y2, y5]
    rw [y0, y6]
    exact (Array.getElem?_eq_getElem hq9).symm
  have hclE : s.vm.findClass E = some ce.cls := by
    have h9 := hOc
    rw [hvm] at h9
    exact h9
  have hnew : kx_hp G (kx_new h (.inr (ci, []))) U.heap := by
    refine hh.push ⟨_, hcl, ce, ?_, ?_, hOv, fun k hk => absurd hk (Nat.not_lt_zero k)⟩ hU.1 hU.2
    · rw [← hh.1, ← hT]
      exact hce
    · exact Option.some.inj (hclE.symm.trans (hK.1.1 ci _ hcl).2.1)
  have hWs : s.WarmedH U.vm := State.WarmedH.trans hW0 hW
  have hsm : s.sameButNew ({ U with vm := s.vm } : State) locs R.cells R.slots := by
    subst hs'
    obtain ⟨e1, e2⟩ := hsame
    rw [State.setFrames_setFrames] at e1
    have h2 : (T.setVm s.vm).sameButNew ({ U with vm := s.vm } : State) [] (0 + 1) (0 + 6) := ⟨e1, e2⟩
    have h3 := Y.same.trans h2
    rw [List.append_nil] at h3
    exact h3.mono (by omega) (by omega)
  refine ⟨U, ?_, .threw T.heap.size, kx_new h (.inr (ci, [])), hrun, hend, by rw [hT, hh.1]; exact hq, hnew, locs, ⟨hWs, hsm⟩, hS.2.2⟩
  refine st1 _ ?_
  show Steps p.tables e below (T1.setTop { method := m, pc := pc + 3, locals := ls, stack := .ref T.heap.size :: st, locked := none }) _
  jvm_step X₁.here [X₁.here.top, hx, d3', Value.category]
  rcases hld with ⟨rfl, rfl⟩ | ⟨rfl, rfl⟩
  · exact X₁.ldcString hx (own := M.1.cls) (text := text) (index := is) (a := sa) hown' (hK'.2.1 _ hsr args) hev (g := { method := m, pc := pc + 4, locals := ls, stack := .ref T.heap.size :: .ref T.heap.size :: st, locked := none }) rfl d4' _ hsteps
  · exact kx_ldw X₁ hx (own := M.1.cls) (text := text) (index := is) (a := sa) hown' (hK'.2.1 _ hsr args) hev (g := { method := m, pc := pc + 4, locals := ls, stack := .ref T.heap.size :: .ref T.heap.size :: st, locked := none }) rfl d4' _ hsteps
end KXO
end
section
/-! ===== System.arraycopy of ints ===== -/
section KXY
variable {G : kx_G} {l : Launch} {M : kx_M} {d : Nat} {Q : Outcome → kx_H → Prop} {kc ks pc : Nat} {lv : kx_L} {st : List Value} {h : kx_H}
theorem kx_cpy {idx a0 a t n0 n1 : Nat} {f g : Nat → Int32} {sp dp n : Int32} (hln : Cond.methodLink M.1.cls idx arraycopyName ∈ kx_ws) (hnat : Cond.native arraycopyName ∈ kx_ws) (hstt : Cond.static arraycopyName ∈ kx_ws) (hini : Cond.initialized "java/lang/System" ∈ kx_ws) (ht : kx_at[t]? = some .int) (hd : decode M.2.1 pc = .ok (.invokestatic idx, 3)) (hst : (st.map fun v => v.category).sum ≤ 8)
    (hc0 : kx_is G h a0 (.inl (t, n0, .inl f))) (hc1 : kx_is G h a (.inl (t, n1, .inl g))) (h1 : ¬ sp < 0) (h2 : ¬ dp < 0) (h3 : ¬ n < 0) (h4 : sp.toNatClampNeg + n.toNatClampNeg ≤ n0) (h5 : dp.toNatClampNeg + n.toNatClampNeg ≤ n1)
    (kk : kx_w G l M d Q kc ks (pc + 3) lv st (kx_set h a (.inl (t, n1, .inl (va_cpy f g sp.toNatClampNeg dp.toNatClampNeg n.toNatClampNeg))))) : kx_w G l M d Q kc ks pc lv (.int n :: .int dp :: .ref a :: .int sp :: .ref a0 :: st) h := by
  intro p e R s m args below meth c X H locs ls cells slots hh hS hl q1 q2 T hT Y
  have hX := X
  obtain ⟨hx, hb, hml, hown, -, hlk, -, htab, hK, hbs, hfr, hlo, -⟩ := hX
  have nn : ∀ z : Int32, ¬ z < 0 → z.toInt = (z.toNatClampNeg : Int) := by
    intro z hz
    have hz0 : (0 : Int) ≤ z.toInt := by simpa using Int32.le_iff_toInt_le.mp (Int32.not_lt.mp hz)
    show z.toInt = ((z.toInt.toNat : Nat) : Int)
    omega
  have g0 : H[a0]? = some (vp_cell (G.2.2.1 t) (n0, .inl f)) := hh.at hc0
  have g1 : H[a]? = some (vp_cell (G.2.2.1 t) (n1, .inl g)) := hh.at hc1
  obtain ⟨-, k0, hk0, cm0, hkk0⟩ := (kx_tyR hK ht).1 n0 (fun j => .int (f j))
  obtain ⟨-, k1, hk1, cm1, hkk1⟩ := (kx_tyR hK ht).1 n1 (fun j => .int (g j))
  obtain ⟨vm', X', step⟩ := Y.arraycopy hx hown (hK.2.1 _ hln args) (hK.2.1 _ hnat args) (hK.2.1 _ hstt args) (hK.2.1 _ hini args) (src := a0) (dst := a) (cs := vp_cell (G.2.2.1 t) (n0, .inl f)) (cd := vp_cell (G.2.2.1 t) (n1, .inl g)) (srcPos := sp) (destPos := dp) (n := n) (by rw [hT]; exact g0) (by rw [hT]; exact g1)
    (fun _ z => by cases z) (fun _ z => by cases z) (fun z => by cases z) (fun z => by cases z) hk0 hk1 hkk0 hkk1 (by decide) h1 h2 h3
    (by rw [nn sp h1, nn n h3]; show ¬ _ > ((arrV _ n0 (fun j => .int (f j))).slots.size : Int); rw [arrV_size]; omega)
    (by rw [nn dp h2, nn n h3]; show ¬ _ > ((arrV _ n1 (fun j => .int (g j))).slots.size : Int); rw [arrV_size]; omega)
    (fun vm₁ _ i hi => by
      have e9 : (vp_cell (G.2.2.1 t) (n0, .inl f)).slots.getD (sp.toNatClampNeg + i) .null = .int (f (sp.toNatClampNeg + i)) := by
        show (arrV _ n0 (fun j => .int (f j))).slots.getD _ _ = _
        rw [Array.getD_eq_getD_getElem?, arrV_read _ _ (by omega)]
        rfl
      refine ⟨?_, ?_⟩
      · rw [e9]
        rfl
      · rw [e9]
        exact trivial)
    (g := F0 m pc ls (.int n :: .int dp :: .ref a :: .int sp :: .ref a0 :: st)) rfl (by rw [hml]; exact hl.1) (rest := st) rfl (by rw [hb]; exact hd) (by omega) (by show 2 * 0 + _ + (nativeFrameWords "java/lang/System" "arraycopy" 5 + 11) ≤ _; have z9 : nativeFrameWords "java/lang/System" "arraycopy" 5 ≤ 300 := (by decide +kernel); omega)
  have e1 : copied (vp_cell (G.2.2.1 t) (n0, .inl f)) (vp_cell (G.2.2.1 t) (n1, .inl g)) sp dp n = vp_cell (G.2.2.1 t) (n1, .inl (va_cpy f g sp.toNatClampNeg dp.toNatClampNeg n.toNatClampNeg)) := va_copied (fun z => .int z) _ _ f g h4
  rw [e1] at X' step
  generalize hcell : vp_cell (G.2.2.1 t) (n1, .inl (va_cpy f g sp.toNatClampNeg dp.toNatClampNeg n.toNatClampNeg)) = cl at X' step
  have hlt : a < H.size := (Array.getElem?_eq_some_iff.mp g1).1
  have hheap : ((T.setVm vm').setCell a cl).heap = H.setIfInBounds a cl := by rw [← hT]; rfl
  have oq : ∀ q : Nat, q ≠ a → (H.setIfInBounds a cl)[q]? = H[q]? := fun q hq => by simp [Array.getElem?_setIfInBounds, Ne.symm hq]
  have zz : (H.setIfInBounds a cl).size = H.size := by simp
  have hat : va_at G.2.1 kx_cl (a, kx_cv G (.inl (t, n1, .inl (va_cpy f g sp.toNatClampNeg dp.toNatClampNeg n.toNatClampNeg)))) (H.setIfInBounds a cl) := by
    show (H.setIfInBounds a cl)[a]? = some (vp_cell _ _)
    rw [hcell]
    simp [Array.getElem?_setIfInBounds, hlt]
  have hS' : va_S (fun q => G.1 ≤ q) s.heap (H.setIfInBounds a cl) (locs ++ ((vp_cell (G.2.2.1 t) (n0, .inl f)).stretch sp.toNatClampNeg n.toNatClampNeg).zipIdx.map fun q => ⟨a, dp.toNatClampNeg + q.2⟩) := by
    refine ⟨by rw [zz]; exact hS.1, fun q y1 y2 => ?_, fun q hq => ?_⟩
    · rw [oq q (fun e9 => y2 (by rw [e9]; exact hc1.1))]
      exact hS.2.1 q y1 y2
    · rcases List.mem_append.mp hq with z | z
      · exact hS.2.2 q z
      · obtain ⟨z1, -, hz⟩ := List.mem_map.mp z
        rw [← hz]
        exact hc1.1
  obtain ⟨t9, a1, b1⟩ := kk p e R s m args below meth c X (H.setIfInBounds a cl) _ ls cells slots (hh.set hat zz oq) hS' hl q1 q2 _ hheap X'
  exact ⟨t9, step t9 a1, b1⟩
end KXY
end
section
/-! ===== new int[n][k] ===== -/
def kx_mo (c : ClassId) (N b i : Nat) : Cell := arrV c N (fun j => va_rf (if j < i then some (b + 1 + j) else none))
def kx_mf (s : State) (c k : ClassId) (N K : Nat) : Nat → State
  | 0 => s.pushCell (kx_mo c N s.heap.size 0)
  | i + 1 => ((kx_mf s c k N K i).pushCell (arrV k K (fun _ => .int 0))).setCell s.heap.size (kx_mo c N s.heap.size (i + 1))
theorem kx_mo_set (c : ClassId) (N b i : Nat) : (kx_mo c N b i).setSlot i (.ref (b + 1 + i)) = kx_mo c N b (i + 1) := by
  unfold kx_mo
  rw [arrV_store]
  congr 1
  funext j
  by_cases e : j = i
  · subst e
    simp [updV, va_rf]
  · by_cases g : j < i
    · simp [updV, e, g, Nat.lt_succ_of_lt g]
    · simp [updV, e, g, show ¬ j < i + 1 by omega]
theorem kx_mf_f (s : State) (c k : ClassId) (N K : Nat) : ∀ i, (kx_mf s c k N K i).heap.size = s.heap.size + 1 + i ∧ (kx_mf s c k N K i).heap[s.heap.size]? = some (kx_mo c N s.heap.size i) ∧ (kx_mf s c k N K i).vm = s.vm ∧ (kx_mf s c k N K i).slotsUsed = s.slotsUsed + N + i * K
  | 0 => ⟨by simp [kx_mf], by simp [kx_mf], rfl, by simp [kx_mf, kx_mo, arrV_size]⟩
  | i + 1 => by
    obtain ⟨a, b, d, u⟩ := kx_mf_f s c k N K i
    have hlt : s.heap.size < (kx_mf s c k N K i).heap.size := by omega
    have hb' : ((kx_mf s c k N K i).pushCell (arrV k K (fun _ => .int 0))).heap[s.heap.size]? = some (kx_mo c N s.heap.size i) := by rw [State.heap_pushCell_of_lt (h := hlt)]; exact b
    refine ⟨?_, State.heap_setCell_self hb', by simp [kx_mf, d], ?_⟩
    · simp [kx_mf, State.setCell, a]; omega
    · simp [kx_mf, u, arrV_size, Nat.succ_mul]; omega
theorem kx_mf_top (s : State) (f : JFrame) (c k : ClassId) (N K : Nat) : ∀ i, kx_mf (s.setTop f) c k N K i = (kx_mf s c k N K i).setTop f
  | 0 => rfl
  | i + 1 => by simp only [kx_mf, kx_mf_top s f c k N K i, State.heap_setTop, State.pushCell_setTop, State.setCell_setTop]
theorem kx_mf_old (s : State) (c k : ClassId) (N K : Nat) {a : Nat} (ha : a < s.heap.size) : ∀ i, (kx_mf s c k N K i).heap[a]? = s.heap[a]?
  | 0 => State.heap_pushCell_of_lt _ _ ha
  | i + 1 => by
    have f1 := (kx_mf_f s c k N K i).1
    have hlt : a < (kx_mf s c k N K i).heap.size := Nat.lt_of_lt_of_le ha (by rw [f1]; omega)
    show (((kx_mf s c k N K i).pushCell _).setCell s.heap.size _).heap[a]? = _
    rw [State.heap_setCell_other (Nat.ne_of_gt ha), State.heap_pushCell_of_lt (h := hlt)]
    exact kx_mf_old s c k N K ha i
theorem kx_mf_in (s : State) (c k : ClassId) (N K : Nat) : ∀ i j, j < i → (kx_mf s c k N K i).heap[s.heap.size + 1 + j]? = some (arrV k K (fun _ => .int 0))
  | 0, _, h => absurd h (Nat.not_lt_zero _)
  | i + 1, j, h => by
    have f1 := (kx_mf_f s c k N K i).1
    show (((kx_mf s c k N K i).pushCell _).setCell s.heap.size _).heap[s.heap.size + 1 + j]? = _
    rw [State.heap_setCell_other (show s.heap.size ≠ s.heap.size + 1 + j by omega)]
    rcases Nat.lt_or_ge j i with hj | hj
    · have hlt : s.heap.size + 1 + j < (kx_mf s c k N K i).heap.size := by rw [f1]; omega
      rw [State.heap_pushCell_of_lt (h := hlt)]
      exact kx_mf_in s c k N K i j hj
    · have e : j = i := by omega
      subst e
      rw [← f1]
      exact State.heap_pushCell_size _ _
section KXI
variable {E : CtlPost} {e : Env} {d : Bool} {acts : List Action} {s : State}
theorem kx_na {c comp : ClassId} {k : Class} {ty : FieldType} {len : Nat} {v0 : Value} (hk : s.vm.classes[c]? = some k) (hkind : k.kind = .array comp ty) (hlim : ¬ len > e.platform.arrayLengthLimit) (hby : ¬ len * componentBytes ty > e.platform.maxHeapBytes) (hfit : fits ty v0 = true) (hdef : v0.isDefault = true)
    (h1 : s.heap.size < e.platform.maxCells) (h2 : s.slotsUsed + len ≤ e.platform.maxSlots) {Q : Addr → Pre} (hq : Q s.heap.size d acts (s.pushCell (arrV c len (fun _ => v0)))) : wp (Jvm.newArray c len v0) Q E e d acts s := by
  have hfs : ∀ i v, (Array.replicate len v0)[i]? = some v → s.fitsSlot c .none i v = true := by
    intro i v hv
    simp only [Array.getElem?_replicate] at hv
    split at hv
    · cases hv; simp [State.fitsSlot, State.slotType?, hk, hkind, hfit]
    · cases hv
  have hda : allocActs (Array.replicate len v0) s.heap.size acts = acts := by
    have hall : ((Array.replicate len v0).all (·.isDefault)) = true := by
      rw [Array.all_replicate]; split <;> simp [hdef]
    unfold allocActs
    rw [if_pos hall]
  rw [← arrV_new] at hq
  simp only [Jvm.newArray, Jvm.arrayFits, wp_bind', W.ask, W.ite, hlim, if_false, wp_pure', W.theClass, hk, hkind, hby, W.alloc, W.stop, Option.some.injEq, exists_eq_left', Array.size_replicate, hda]
  rw [if_neg (by omega)]
  exact ⟨h1, h2, hfs, hq⟩
theorem kx_mk2 {c comp cc : ClassId} {k kc : Class} {n m : Int32} (hk : s.vm.classes[c]? = some k) (hkind : k.kind = .array comp (.array .int)) (hkc : s.vm.classes[comp]? = some kc) (hkindc : kc.kind = .array cc .int) (hn : ¬ n < 0) (hm : ¬ m < 0)
    (hl1 : ¬ n.toNatClampNeg > e.platform.arrayLengthLimit) (hh1 : ¬ n.toNatClampNeg * componentBytes (.array .int) > e.platform.maxHeapBytes) (hl2 : ¬ m.toNatClampNeg > e.platform.arrayLengthLimit) (hh2 : ¬ m.toNatClampNeg * componentBytes .int > e.platform.maxHeapBytes)
    (hc : s.heap.size + 1 + n.toNatClampNeg ≤ e.platform.maxCells) (hs : s.slotsUsed + n.toNatClampNeg + n.toNatClampNeg * m.toNatClampNeg ≤ e.platform.maxSlots)
    {Q : Addr → Pre} (hq : ∀ d' acts', Q s.heap.size d' acts' (kx_mf s c comp n.toNatClampNeg m.toNatClampNeg n.toNatClampNeg)) : wp (multianewarray.make c [n, m]) Q E e d acts s := by
  have hfind : ([m].find? (· < 0)) = none := by simp [hm]
  rw [multianewarray.make]
  simp only [wp_bind', W.ite, hn, if_false, wp_pure', W.theClass, hk, hkind, Option.some.injEq, exists_eq_left']
  refine kx_na hk hkind hl1 hh1 rfl rfl (by omega) (by have := Nat.zero_le (n.toNatClampNeg * m.toNatClampNeg); omega) ?_
  simp only [hfind]
  rw [ite_self, wp_bind', Std.Legacy.Range.forIn_eq_forIn_range']
  have hsz : ([:n.toNatClampNeg] : Std.Legacy.Range).size = n.toNatClampNeg := by simp [Std.Legacy.Range.size]
  rw [hsz]
  show wp (forIn (List.range' 0 n.toNatClampNeg 1) PUnit.unit _) _ E e d acts _
  refine wp_forIn_inv (fun rest s' => ∃ i, i ≤ n.toNatClampNeg ∧ rest = List.range' i (n.toNatClampNeg - i) ∧ s' = kx_mf s c comp n.toNatClampNeg m.toNatClampNeg i) _ _ ⟨0, Nat.zero_le _, rfl, ?_⟩ ?_ ?_
  · show s.pushCell _ = s.pushCell _
    congr 1
  · rintro x rest s' d' acts' Q' ⟨i, hi, hl, rfl⟩ hnext
    have hlt : i < n.toNatClampNeg := by
      rcases Nat.lt_or_ge i n.toNatClampNeg with g | g
      · exact g
      · rw [show n.toNatClampNeg - i = 0 from by omega] at hl; simp at hl
    obtain ⟨rfl, hrest⟩ : x = i ∧ rest = List.range' (i + 1) (n.toNatClampNeg - (i + 1)) := by
      rw [show n.toNatClampNeg - i = (n.toNatClampNeg - (i + 1)) + 1 from by omega, List.range'_succ] at hl
      exact ⟨(List.cons.inj hl).1, (List.cons.inj hl).2⟩
    obtain ⟨f1, f2, f3, f4⟩ := kx_mf_f s c comp n.toNatClampNeg m.toNatClampNeg x
    have hmul : x * m.toNatClampNeg + m.toNatClampNeg ≤ n.toNatClampNeg * m.toNatClampNeg := by
      have := Nat.mul_le_mul_right m.toNatClampNeg (show x + 1 ≤ n.toNatClampNeg from hlt)
      rw [Nat.succ_mul] at this; exact this
    simp only [wp_bind']
    rw [multianewarray.make]
    simp only [wp_bind', W.ite, hm, if_false, wp_pure', W.theClass, f3, hkc, hkindc, Option.some.injEq, exists_eq_left']
    refine kx_na (by rw [f3]; exact hkc) hkindc hl2 hh2 rfl rfl (by rw [f1]; omega) (by rw [f4]; omega) ?_
    have hlt0 : s.heap.size < (kx_mf s c comp n.toNatClampNeg m.toNatClampNeg x).heap.size := by rw [f1]; omega
    simp only [wp_bind', W.writeLoc, wp_pure']
    refine ⟨kx_mo c n.toNatClampNeg s.heap.size x, by rw [State.heap_pushCell_of_lt (h := hlt0)]; exact f2, by simp [kx_mo, arrV], by simp only [kx_mo, arrV_size]; exact hlt, ?_, hnext _ _ _ ⟨x + 1, hlt, hrest, ?_⟩⟩
    · simp [kx_mo, arrV, State.fitsSlot, State.slotType?, f3, hk, hkind, fits]
    · rw [f1, kx_mo_set]
      rfl
  · rintro s' d' acts' ⟨i, hi, hl, rfl⟩
    have hiN : i = n.toNatClampNeg := by
      rcases Nat.lt_or_ge i n.toNatClampNeg with g | g
      · rw [show n.toNatClampNeg - i = (n.toNatClampNeg - (i + 1)) + 1 from by omega, List.range'_succ] at hl; cases hl
      · omega
    subst hiN
    simp only [wp_pure']
    exact hq _ _
end KXI
section KXJ
variable {p : Program} {l : Launch} {e : Env} {R : Room} {s : State} {m : MethodId} {args : Array Value} {below : List Frame} {meth : Method} {c : Code} {T : State} {locs : List Loc} {cells slots : Nat}
theorem kx_mfS (X : Stand p l e R s m args below meth c T locs cells slots) (cA comp : ClassId) (N K : Nat) :
    ∀ i, Stand p l e R s m args below meth c (kx_mf T cA comp N K i) (locs ++ (List.range i).map fun j => ⟨T.heap.size, j⟩) (cells + 1 + i) (slots + N + i * K)
  | 0 => by
    have h := X.pushed (kx_mo cA N T.heap.size 0)
    rw [show (kx_mo cA N T.heap.size 0).slots.size = N from arrV_size _ _ _] at h
    simpa [kx_mf] using h
  | i + 1 => by
    have Xi := kx_mfS X cA comp N K i
    obtain ⟨f1, f2, f3, f4⟩ := kx_mf_f T cA comp N K i
    have hlt0 : T.heap.size < (kx_mf T cA comp N K i).heap.size := by rw [f1]; omega
    have hcell : ((kx_mf T cA comp N K i).pushCell (arrV comp K (fun _ => .int 0))).heap[T.heap.size]? = some (kx_mo cA N T.heap.size i) := by rw [State.heap_pushCell_of_lt (h := hlt0)]; exact f2
    have h := (Xi.pushed (arrV comp K (fun _ => .int 0))).stored hcell i (.ref (T.heap.size + 1 + i))
    rw [kx_mo_set, arrV_size] at h
    have e2 : (locs ++ (List.range (i + 1)).map fun j => (⟨T.heap.size, j⟩ : Loc)) = (locs ++ (List.range i).map fun j => (⟨T.heap.size, j⟩ : Loc)) ++ [⟨T.heap.size, i⟩] := by simp [List.range_succ, List.append_assoc]
    have e3 : slots + N + (i + 1) * K = slots + N + i * K + K := by rw [Nat.succ_mul]; omega
    rw [e2, e3]
    exact h
end KXJ
theorem kx_aov {A : Array Value} {U : State} (h : (Cond.arrayOver (.array .int)).before A U = true) : ∃ (comp c : ClassId) (k : Class), U.vm.findClass "[I" = some comp ∧ U.vm.classes[c]? = some k ∧ k.kind = .array comp (.array .int) ∧ U.vm.findClass "[[I" = some c := by
  simp only [Cond.before, Cond.holds, Cond.value, beq_iff_eq] at h
  cases hc : U.vm.findClass (FieldType.array .int).toString with
  | none => simp [hc] at h
  | some comp =>
    simp only [hc, Option.bind_some, Option.bind_eq_some_iff, Option.map_eq_some_iff] at h
    obtain ⟨c, hi, k, hk, hb⟩ := h
    obtain ⟨hlt, hp, -⟩ := Array.findIdx?_eq_some_iff_getElem.mp hi
    have hkk : U.vm.classes[c] = k := (Array.getElem?_eq_some_iff.mp hk).2
    rw [hkk] at hp
    cases hkind : k.kind with
    | array component ty =>
      rw [hkind] at hb hp
      simp at hb hp
      exact ⟨comp, c, k, hc, hk, by rw [hkind, hp, hb.1], hb.2⟩
    | _ => rw [hkind] at hb; simp at hb
section KXU
variable {G : kx_G} {l : Launch} {M : kx_M} {d : Nat} {Q : Outcome → kx_H → Prop} {kc ks pc : Nat} {lv : kx_L} {st : List Value} {h : kx_H}
/-- the outer array, then the inner ones behind it -/
def kx_mh (h : kx_H) (to ti N K : Nat) : kx_H := (h.1 + 1 + N, fun a => if a = h.1 then .inl (to, N, .inr (.inr (.inr (.inr (fun j => if j < N then some (h.1 + 1 + j) else none))))) else if h.1 < a ∧ a ≤ h.1 + N then .inl (ti, K, .inl (fun _ => 0)) else h.2 a)
set_option maxHeartbeats 4000000 in
theorem kx_mul {idx to ti : Nat} {n k : Int32} {N K : Nat} (hto : kx_at[to]? = some (.array .int)) (hti : kx_at[ti]? = some .int) (hln : Cond.classLink M.1.cls idx "[[I" ∈ kx_ws) (hov : Cond.arrayOver (.array .int) ∈ kx_ws) (hn : ¬ n < 0) (hk : ¬ k < 0) (hN : n.toNatClampNeg = N) (hK0 : k.toNatClampNeg = K) (hNb : N ≤ 100000) (hKb : K ≤ 100000)
    (hd : decode M.2.1 pc = .ok (.multianewarray idx 2, 4)) (kk : kx_w G l M d Q kc ks (pc + 4) lv (.ref h.1 :: st) (kx_mh h to ti N K)) : kx_w G l M d Q (kc + (1 + N)) (ks + (N + N * K)) pc lv (.int k :: .int n :: st) h := by
  subst hN
  subst hK0
  intro p e R s m args below meth c X H locs ls cells slots hh hS hl q1 q2 T hT Y
  have hX := X
  obtain ⟨hx, hb, hml, hown, -, hlk, -, htab, hK, hbs, hfr, hlo, -⟩ := hX
  have hpl : e.platform.magicAccessors = ({} : Platform).magicAccessors := by rw [Y.admits.platform]
  obtain ⟨hArO, hRAO⟩ := kx_tyR hK hto
  obtain ⟨hArI, hRAI⟩ := kx_tyR hK hti
  have hfo : s.vm.findClass "[[I" = some (G.2.2.1 to) := hRAO
  have hfi : s.vm.findClass "[I" = some (G.2.2.1 ti) := hRAI
  obtain ⟨-, kC, hkC, cc, hkindC⟩ := hArI 0 (fun _ => .null)
  have hkC' : s.vm.classes[G.2.2.1 ti]? = some kC := hkC
  obtain ⟨comp, cO, kA, z1, hkA', hkindA, z2⟩ := kx_aov (hK.2.1 _ hov args)
  cases Option.some.inj (z1.symm.trans hfi)
  cases Option.some.inj (z2.symm.trans hfo)
  obtain ⟨c0, hfc0, hcl⟩ := Cond.classLink_spec hown (hK.2.1 _ hln args) e.platform hpl
  cases Option.some.inj (hfo.symm.trans hfc0)
  obtain ⟨w1, w2, w3⟩ := State.classEntry (e := e) Y.warmed hcl
  generalize T.vm.noted m.cls idx (.cls (G.2.2.1 to)) = vm₁ at w1 w2 w3
  have hal : s.vm.Alike vm₁ := w2.alike
  obtain ⟨kA₁, hkA₁, heA⟩ := hal.2.2 _ _ hkA'
  obtain ⟨kC₁, hkC₁, heC⟩ := hal.2.2 _ _ hkC'
  have hkindA₁ : kA₁.kind = .array (G.2.2.1 ti) (.array .int) := by rw [heA]; exact hkindA
  have hkindC₁ : kC₁.kind = .array cc .int := by rw [heC]; exact hkindC
  have X₁ := Y.noted w2
  have hr1 := Y.cellsAbove (n := 1 + n.toNatClampNeg) (by omega)
  have hr2 := Y.slotsAbove (n := n.toNatClampNeg + n.toNatClampNeg * k.toNatClampNeg) (by omega)
  have XF := kx_mfS X₁ (G.2.2.1 to) (G.2.2.1 ti) n.toNatClampNeg k.toNatClampNeg n.toNatClampNeg
  have hl1 : ¬ n.toNatClampNeg > e.platform.arrayLengthLimit := by rw [Launch.admits_arrayLengthLimit Y.admits]; omega
  have hh1 : ¬ n.toNatClampNeg * componentBytes (.array .int) > e.platform.maxHeapBytes := by
    rw [Launch.admits_maxHeapBytes Y.admits]; show ¬ n.toNatClampNeg * 4 > 536870912; omega
  have hl2 : ¬ k.toNatClampNeg > e.platform.arrayLengthLimit := by rw [Launch.admits_arrayLengthLimit Y.admits]; omega
  have hh2 : ¬ k.toNatClampNeg * componentBytes .int > e.platform.maxHeapBytes := by
    rw [Launch.admits_maxHeapBytes Y.admits]; show ¬ k.toNatClampNeg * 4 > 536870912; omega
  have hTh : (T.setVm vm₁).heap = H := hT
  obtain ⟨f1, f2, -, -⟩ := kx_mf_f (T.setVm vm₁) (G.2.2.1 to) (G.2.2.1 ti) n.toNatClampNeg k.toNatClampNeg n.toNatClampNeg
  have fo : ∀ a : Nat, a < H.size → (kx_mf (T.setVm vm₁) (G.2.2.1 to) (G.2.2.1 ti) n.toNatClampNeg k.toNatClampNeg n.toNatClampNeg).heap[a]? = H[a]? := fun a ha => by
    rw [kx_mf_old (T.setVm vm₁) _ _ _ _ (by rw [hTh]; exact ha), hTh]
  have fi := kx_mf_in (T.setVm vm₁) (G.2.2.1 to) (G.2.2.1 ti) n.toNatClampNeg k.toNatClampNeg n.toNatClampNeg
  have ftop := kx_mf_top (T.setVm vm₁) { (F0 m pc ls (.int k :: .int n :: st)) with stack := st } (G.2.2.1 to) (G.2.2.1 ti) n.toNatClampNeg k.toNatClampNeg n.toNatClampNeg
  rw [hTh] at f1 f2 fi
  have hsz : H.size = h.1 := hh.1
  have hTs : T.heap.size = h.1 := by rw [hT]; exact hsz
  have hnew : kx_hp G (kx_mh h to ti n.toNatClampNeg k.toNatClampNeg) (kx_mf (T.setVm vm₁) (G.2.2.1 to) (G.2.2.1 ti) n.toNatClampNeg k.toNatClampNeg n.toNatClampNeg).heap := by
    refine ⟨by rw [f1, hsz]; rfl, Nat.le_trans hh.2.1 (by show h.1 ≤ h.1 + 1 + n.toNatClampNeg; omega), fun a ha hl9 => ?_⟩
    have hl8 : a < h.1 + 1 + n.toNatClampNeg := hl9
    by_cases e1 : a = h.1
    · subst e1
      simp only [kx_mh, if_true]
      show _ = some (vp_cell _ _)
      rw [← hsz, f2, vp_cell_q, hsz]
      unfold kx_mo
      congr 2
    · by_cases e2 : h.1 < a ∧ a ≤ h.1 + n.toNatClampNeg
      · simp only [kx_mh, if_neg e1, if_pos e2]
        show _ = some (vp_cell _ _)
        obtain ⟨j, rfl⟩ : ∃ j, a = h.1 + 1 + j := ⟨a - h.1 - 1, by omega⟩
        have := fi j (by omega)
        rw [hsz] at this
        rw [this, vp_cell_i]
      · simp only [kx_mh, if_neg e1, if_neg e2]
        exact (hh.2.2 a ha (by omega)).kept (fo a (by omega))
  have hS' : va_S (fun q => G.1 ≤ q) s.heap (kx_mf (T.setVm vm₁) (G.2.2.1 to) (G.2.2.1 ti) n.toNatClampNeg k.toNatClampNeg n.toNatClampNeg).heap (locs ++ (List.range n.toNatClampNeg).map fun j => ⟨(T.setVm vm₁).heap.size, j⟩) := by
    refine ⟨by rw [f1]; have := hS.1; omega, fun x y1 y2 => (fo x (Nat.lt_of_lt_of_le y1 hS.1)).trans (hS.2.1 x y1 y2), fun q hq => ?_⟩
    rcases List.mem_append.mp hq with z | z
    · exact hS.2.2 q z
    · obtain ⟨j, -, hz⟩ := List.mem_map.mp z
      rw [← hz]
      show G.1 ≤ (T.setVm vm₁).heap.size
      rw [hTh, hsz]
      exact hh.2.1
  obtain ⟨t, a1, b1⟩ := kk p e R s m args below meth c X _ _ ls (cells + 1 + n.toNatClampNeg) (slots + n.toNatClampNeg + n.toNatClampNeg * k.toNatClampNeg) hnew hS' hl (by omega) (by omega) _ rfl XF
  refine ⟨t, ?_, b1⟩
  have hdg : decode c.code pc = .ok (.multianewarray idx 2, 4) := by rw [hb]; exact hd
  jvm_step Y.here [hx, hdg]
  simp only [multianewarray.sem, wp_bind', W.resolveClassAt_links (State.method?_setTop (F0 m pc ls (.int k :: .int n :: st)) Y.here.top) w1]
  rw [W.popN, if_neg (by decide)]
  refine ⟨F0 m pc ls (.int k :: .int n :: st), State.topJava?_setTop' (s := T.setVm vm₁) _ Y.here.top, [.int n, .int k], st, rfl, rfl, ?_⟩
  simp only [List.mapM_cons, List.mapM_nil, wp_bind', wp_pure']
  refine kx_mk2 (k := kA₁) (kc := kC₁) (comp := G.2.2.1 ti) (cc := cc) hkA₁ hkindA₁ hkC₁ hkindC₁ hn hk hl1 hh1 hl2 hh2 (by show T.heap.size + 1 + _ ≤ _; omega) (by show T.slotsUsed + _ + _ ≤ _; omega) (fun d' acts' => ?_)
  have eS : ((T.setTop (F0 m pc ls (.int k :: .int n :: st))).setVm vm₁).setTop { (F0 m pc ls (.int k :: .int n :: st)) with stack := st } = (T.setVm vm₁).setTop { (F0 m pc ls (.int k :: .int n :: st)) with stack := st } := by
    show ((T.setVm vm₁).setTop _).setTop _ = _
    rw [State.setTop_setTop]
  rw [eS, ftop]
  simp only [wp_bind', W.mark, W.pushRef, State.topJava?_setTop' _ XF.here.top, Option.some.injEq, exists_eq_left', State.setTop_setTop, State.heap_setTop]
  intro acts
  simp [jvm, XF.here.top]
  rw [hTs]
  exact a1
end KXU
end
section
section KXZ
variable {G : kx_G} {l : Launch} {M : kx_M} {d : Nat} {Q : Outcome → kx_H → Prop} {kc ks pc : Nat} {lv : kx_L} {st : List Value} {h : kx_H} {t : kx_T}
theorem kx_rem {x y : Int32} (hd : decode M.2.1 pc = .ok (.irem, 1)) (hne : ¬ y = 0) (k : kx_w G l M d Q kc ks (pc + 1) lv (.int (x - x / y * y) :: st) h) : kx_w G l M d Q kc ks pc lv (.int y :: .int x :: st) h := by
  intro p e R s m args below meth c X H locs ls cells slots hh hS hl q1 q2
  exact lv_irem X.1 X.2.1 hd hne (k p e R s m args below meth c X H locs ls cells slots hh hS hl q1 q2)
theorem kx_l2d {x : Int64} (hd : decode M.2.1 pc = .ok (.l2d, 1)) (k : kx_w G l M d Q kc ks (pc + 1) lv (.double (FP.l2d x) :: st) h) : kx_w G l M d Q kc ks pc lv (.long x :: st) h := by
  intro p e R s m args below meth c X H locs ls cells slots hh hS hl q1 q2
  exact lv_l2d X.1 X.2.1 hd (k p e R s m args below meth c X H locs ls cells slots hh hS hl q1 q2)
theorem kx_ddiv {x y : UInt64} (hd : decode M.2.1 pc = .ok (.ddiv, 1)) (hne : vf_n64 (FP.ddiv x y)) (k : kx_w G l M d Q kc ks (pc + 1) lv (.double (FP.ddiv x y) :: st) h) : kx_w G l M d Q kc ks pc lv (.double y :: .double x :: st) h := by
  intro p e R s m args below meth c X H locs ls cells slots hh hS hl q1 q2
  exact lv_ddiv X.1 X.2.1 hd hne (k p e R s m args below meth c X H locs ls cells slots hh hS hl q1 q2)
theorem kx_tin {dflt lo hi off : Int} {offs : Array Int} {len tgt : Nat} {x : Int32} (hd : decode M.2.1 pc = .ok (.tableswitch dflt lo hi offs, len)) (h1 : ¬ x.toInt < lo) (h2 : ¬ hi < x.toInt) (ho : offs[(x.toInt - lo).toNat]? = some off) (ht : (pc : Int) + off = (tgt : Int)) (k : kx_w G l M d Q kc ks tgt lv st h) : kx_w G l M d Q kc ks pc lv (.int x :: st) h := by
  intro p e R s m args below meth c X H locs ls cells slots hh hS hl q1 q2
  exact lv_tableIn X.1 X.2.1 hd h1 h2 ho ht (k p e R s m args below meth c X H locs ls cells slots hh hS hl q1 q2)
theorem kx_tout {dflt lo hi : Int} {offs : Array Int} {len tgt : Nat} {x : Int32} (hd : decode M.2.1 pc = .ok (.tableswitch dflt lo hi offs, len)) (h1 : x.toInt < lo ∨ hi < x.toInt) (ht : (pc : Int) + dflt = (tgt : Int)) (k : kx_w G l M d Q kc ks tgt lv st h) : kx_w G l M d Q kc ks pc lv (.int x :: st) h := by
  intro p e R s m args below meth c X H locs ls cells slots hh hS hl q1 q2
  exact lv_tableOut X.1 X.2.1 hd h1 ht (k p e R s m args below meth c X H locs ls cells slots hh hS hl q1 q2)
theorem kx_zld {a t n : Nat} {f : Nat → Int32} {i : Int32} (ht : kx_at[t]? = some .boolean) (hd : decode M.2.1 pc = .ok (.baload, 1)) (hc : kx_is G h a (.inl (t, n, .inl f))) (hin : vp_in i n)
    (kk : kx_w G l M d Q kc ks (pc + 1) lv (.int (f i.toNatClampNeg) :: st) h) : kx_w G l M d Q kc ks pc lv (.int i :: .ref a :: st) h := by
  intro p e R s m args below meth c X H locs ls cells slots hh hS hl q1 q2
  obtain ⟨hx, hb, hml, hown, -, -, -, -, hK, -⟩ := id X
  exact va_zald hx hb hK.1 (hh.P hc) 0 t rfl (kx_tys_at G ht) hin hd (kk p e R s m args below meth c X H locs ls cells slots hh hS hl q1 q2)
theorem kx_zst {a t n : Nat} {f : Nat → Int32} {i x : Int32} (ht : kx_at[t]? = some .boolean) (hd : decode M.2.1 pc = .ok (.bastore, 1)) (hc : kx_is G h a (.inl (t, n, .inl f))) (hin : vp_in i n) (hx0 : vp_nar .boolean x = x)
    (kk : kx_w G l M d Q kc ks (pc + 1) lv st (kx_set h a (.inl (t, n, .inl (va_up f i.toNatClampNeg x))))) : kx_w G l M d Q kc ks pc lv (.int x :: .int i :: .ref a :: st) h := by
  intro p e R s m args below meth c X H locs ls cells slots hh hS hl q1 q2
  obtain ⟨hx, hb, hml, hown, -, -, -, -, hK, -⟩ := id X
  refine W.zast hx hb (hh.at hc) ((kx_tyR hK ht).1 n (fun j => .int (f j))) (fun q => by cases q) (by show ¬ (i < 0 ∨ (arrV _ _ _).slots.size ≤ _); rw [arrV_size]; exact hin) rfl rfl hd fun H1 e1 z oq => ?_
  refine kk p e R s m args below meth c X H1 _ ls cells slots (hh.set ?_ z oq) (hS.put z oq hc.1) hl q1 q2
  show H1[a]? = some (vp_cell _ _)
  rw [e1]
  show some ((arrV _ _ _).setSlot _ _) = _
  rw [vp_cell_i, arrV_store]
  congr 2
  funext q
  by_cases hq : q = i.toNatClampNeg
  · subst hq
    rw [show va_up f i.toNatClampNeg x i.toNatClampNeg = vp_nar .boolean x by rw [va_up_self, hx0]]
    simp [updV, vp_nar]
    try rfl
  · simp [updV, va_up, hq]
/-- a constant of the enum -/
theorem kx_gst {idx k : Nat} {host : String} (hk : k < 3) (hln : Cond.fieldLink M.1.cls idx "VersionedTables$State" (["OPEN", "DONE", "BROKEN"].getD k "") "LVersionedTables$State;" ∈ kx_ws ∨ Cond.fieldLinkNest M.1.cls idx "VersionedTables$State" (["OPEN", "DONE", "BROKEN"].getD k "") "LVersionedTables$State;" host ∈ kx_ws) (hd : decode M.2.1 pc = .ok (.getstatic idx, 3))
    (kk : kx_w G l M d Q kc ks (pc + 3) lv (.ref (G.2.2.2.1 k) :: st) h) : kx_w G l M d Q kc ks pc lv st h := by
  intro p e R s m args below meth c X H locs ls cells slots hh hS hl q1 q2
  obtain ⟨hx, hb, hml, hown, -, -, -, -, hK, -⟩ := id X
  have hz := (hK.2.2.1.1 k hk).1
  rcases hln with hln | hln
  · exact va_gets hx hb hz hS hown (hK.2.1 _ hln args) (fun _ z => z) hd (kk p e R s m args below meth c X H locs ls cells slots hh hS hl q1 q2)
  · exact va_getsN hx hb hz hS hown (hK.2.1 _ hln args) (fun _ z => z) hd (kk p e R s m args below meth c X H locs ls cells slots hh hS hl q1 q2)
/-- a constant is put into an array of the enum -/
theorem kx_est {a t n k : Nat} {f : Nat → Option Nat} {i : Int32} (hk : k < 3) (ht : kx_at[t]? = some (.object "VersionedTables$State")) (hd : decode M.2.1 pc = .ok (.aastore, 1)) (hc : kx_is G h a (.inl (t, n, .inr (.inr (.inr (.inr f)))))) (hin : vp_in i n)
    (kk : kx_w G l M d Q kc ks (pc + 1) lv st (kx_set h a (.inl (t, n, .inr (.inr (.inr (.inr (va_up f i.toNatClampNeg (some (G.2.2.2.1 k)))))))))) : kx_w G l M d Q kc ks pc lv (.ref (G.2.2.2.1 k) :: .int i :: .ref a :: st) h := by
  intro p e R s m args below meth c X H locs ls cells slots hh hS hl q1 q2
  obtain ⟨hx, hb, hml, hown, -, -, -, -, hK, -⟩ := id X
  have hlt : i.toNatClampNeg < n := Nat.not_le.mp fun q => hin (Or.inr q)
  have h0 : ¬ i < 0 := fun q => hin (Or.inl q)
  obtain ⟨cellV, g1, g2, g3, g4⟩ := (hK.2.2.1.1 k hk).2.1
  have hcv : H[G.2.2.2.1 k]? = some cellV := by
    rw [hS.2.1 _ (Array.getElem?_eq_some_iff.mp g1).1 g4]
    exact g1
  obtain ⟨kA, comp, k1, k2, k3, -⟩ := (kx_tyR hK ht).2
  have hcomp : comp = cellV.cls := Option.some.inj (k3.symm.trans g3)
  subst hcomp
  obtain ⟨kE, hkE, -⟩ := Vm.findClass_spec k3
  refine W.aast hx hb (hh.at hc) (fun q h => by cases h) (fun h => by cases h) k1 k2 rfl hkE ⟨h0, by show _ < (arrV _ _ _).slots.size; rw [arrV_size]; exact hlt⟩ hcv (VmData.ne_statics_of g2) hkE (va_asg _ _) rfl rfl hd fun H1 e1 z oq => ?_
  refine kk p e R s m args below meth c X H1 _ ls cells slots (hh.set ?_ z oq) (hS.put z oq hc.1) hl q1 q2
  show H1[a]? = some (vp_cell _ _)
  rw [e1]
  show some ((arrV _ _ _).setSlot _ _) = _
  rw [vp_cell_q, arrV_store]
  congr 2
  funext q
  by_cases hq : q = i.toNatClampNeg
  · subst hq
    simp [updV, va_up, va_rf]
  · simp [updV, va_up, hq]
/-! the script -/
theorem kx_sld {i : Int32} (hd : decode M.2.1 pc = .ok (.iaload, 1)) (hin : vp_in i G.2.2.2.2.2.1)
    (kk : kx_w G l M d Q kc ks (pc + 1) lv (.int (G.2.2.2.2.2.2 i.toNatClampNeg) :: st) h) : kx_w G l M d Q kc ks pc lv (.int i :: .ref G.2.2.2.2.1 :: st) h := by
  intro p e R s m args below meth c X H locs ls cells slots hh hS hl q1 q2
  obtain ⟨hx, hb, hml, hown, -, -, -, -, hK, hbs, -⟩ := id X
  obtain ⟨-, -, -, hX, hlt⟩ := hK.2.2
  exact va_sld hx hb hX (by omega) (by show ¬ G.1 ≤ G.2.2.2.2.1; omega) hS hin hd (kk p e R s m args below meth c X H locs ls cells slots hh hS hl q1 q2)
theorem kx_sle (hd : decode M.2.1 pc = .ok (.arraylength, 1))
    (kk : kx_w G l M d Q kc ks (pc + 1) lv (.int (Int32.ofNat G.2.2.2.2.2.1) :: st) h) : kx_w G l M d Q kc ks pc lv (.ref G.2.2.2.2.1 :: st) h := by
  intro p e R s m args below meth c X H locs ls cells slots hh hS hl q1 q2
  obtain ⟨hx, hb, hml, hown, -, -, -, -, hK, hbs, -⟩ := id X
  obtain ⟨-, -, -, hX, hlt⟩ := hK.2.2
  exact va_slen hx hb hX (by omega) (by show ¬ G.1 ≤ G.2.2.2.2.1; omega) hS hd (kk p e R s m args below meth c X H locs ls cells slots hh hS hl q1 q2)
end KXZ
end
section
theorem kx_all {l : List Cond} (h : (l.all fun w => decide (w ∈ kx_tb) && kx_okw w) = true) : ∀ w ∈ l, w ∈ kx_ws := by
  intro w hw
  have h1 := List.all_eq_true.mp h w hw
  rw [Bool.and_eq_true, decide_eq_true_eq] at h1
  exact List.mem_filter.mpr h1
/-! ===== the classes, their fields ===== -/
theorem kI_V : ∀ w ∈ u_ws kR_V kF_V 10, w ∈ kx_ws := kx_all (by decide +kernel)
theorem kY_V : ∀ k, k < 10 → parseFieldDescriptor (kF_V k).2.2.1 = some (kT_V k) := by decide +kernel
theorem kN_V : ∀ a, a < 10 → ∀ b, b < 10 → a ≠ b → (kF_V a).2.1 ≠ (kF_V b).2.1 := by decide +kernel
theorem kI_T : ∀ w ∈ u_ws kR_T kF_T 3, w ∈ kx_ws := kx_all (by decide +kernel)
theorem kY_T : ∀ k, k < 3 → parseFieldDescriptor (kF_T k).2.2.1 = some (kT_T k) := by decide +kernel
theorem kN_T : ∀ a, a < 3 → ∀ b, b < 3 → a ≠ b → (kF_T a).2.1 ≠ (kF_T b).2.1 := by decide +kernel
theorem kI_P : ∀ w ∈ u_ws kR_P kF_P 4, w ∈ kx_ws := kx_all (by decide +kernel)
theorem kY_P : ∀ k, k < 4 → parseFieldDescriptor (kF_P k).2.2.1 = some (kT_P k) := by decide +kernel
theorem kN_P : ∀ a, a < 4 → ∀ b, b < 4 → a ≠ b → (kF_P a).2.1 ≠ (kF_P b).2.1 := by decide +kernel
theorem kI_S : ∀ w ∈ u_ws kR_S kF_S 3, w ∈ kx_ws := kx_all (by decide +kernel)
theorem kY_S : ∀ k, k < 3 → parseFieldDescriptor (kF_S k).2.2.1 = some (kT_S k) := by decide +kernel
theorem kN_S : ∀ a, a < 3 → ∀ b, b < 3 → a ≠ b → (kF_S a).2.1 ≠ (kF_S b).2.1 := by decide +kernel
theorem kI_B : ∀ w ∈ u_ws kR_B kF_B 4, w ∈ kx_ws := kx_all (by decide +kernel)
theorem kY_B : ∀ k, k < 4 → parseFieldDescriptor (kF_B k).2.2.1 = some (kT_B k) := by decide +kernel
theorem kN_B : ∀ a, a < 4 → ∀ b, b < 4 → a ≠ b → (kF_B a).2.1 ≠ (kF_B b).2.1 := by decide +kernel
theorem kI_R : ∀ w ∈ u_ws kR_R kF_R 1, w ∈ kx_ws := kx_all (by decide +kernel)
theorem kY_R : ∀ k, k < 1 → parseFieldDescriptor (kF_R k).2.2.1 = some (kT_R k) := by decide +kernel
theorem kN_R : ∀ a, a < 1 → ∀ b, b < 1 → a ≠ b → (kF_R a).2.1 ≠ (kF_R b).2.1 := by decide +kernel
theorem kI_Q : ∀ w ∈ u_ws kR_Q kF_Q 5, w ∈ kx_ws := kx_all (by decide +kernel)
theorem kY_Q : ∀ k, k < 5 → parseFieldDescriptor (kF_Q k).2.2.1 = some (kT_Q k) := by decide +kernel
theorem kN_Q : ∀ a, a < 5 → ∀ b, b < 5 → a ≠ b → (kF_Q a).2.1 ≠ (kF_Q b).2.1 := by decide +kernel
theorem kI_N : ∀ w ∈ u_ws kR_N kF_N 4, w ∈ kx_ws := kx_all (by decide +kernel)
theorem kY_N : ∀ k, k < 4 → parseFieldDescriptor (kF_N k).2.2.1 = some (kT_N k) := by decide +kernel
theorem kN_N : ∀ a, a < 4 → ∀ b, b < 4 → a ≠ b → (kF_N a).2.1 ≠ (kF_N b).2.1 := by decide +kernel
theorem kI_M : ∀ w ∈ u_ws kR_M kF_M 29, w ∈ kx_ws := kx_all (by decide +kernel)
theorem kY_M : ∀ k, k < 29 → parseFieldDescriptor (kF_M k).2.2.1 = some (kT_M k) := by decide +kernel
theorem kN_M : ∀ a, a < 29 → ∀ b, b < 29 → a ≠ b → (kF_M a).2.1 ≠ (kF_M b).2.1 := by decide +kernel
end
section
/-! ===== the methods ===== -/
def mV_init : kx_M := (⟨"VersionedTables", "<init>", "()V"⟩, prog_1_method_1_code, 1, none, [])
def tV_init : kx_T := [(0, .aload_n 0, 1), (1, .invokespecial 1, 3), (4, .aload_n 0, 1), (5, .iconst (3), 1), (6, .anewarray 9, 3), (9, .putfield 11, 3), (12, .aload_n 0, 1), (13, .new 15, 3), (16, .dup, 1), (17, .invokespecial 17, 3), (20, .putfield 18, 3), (23, .aload_n 0, 1), (24, .bipush (40), 2), (26, .newarray .int, 2), (28, .putfield 22, 3), (31, .aload_n 0, 1), (32, .iconst (0), 1), (33, .putfield 26, 3), (36, .aload_n 0, 1), (37, .iconst (-1), 1), (38, .putfield 30, 3), (41, .aload_n 0, 1), (42, .new 33, 3), (45, .dup, 1), (46, .invokespecial 35, 3), (49, .putfield 36, 3), (52, .aload_n 0, 1), (53, .iconst (4), 1), (54, .anewarray 33, 3), (57, .putfield 40, 3), (60, .aload_n 0, 1), (61, .new 44, 3), (64, .dup, 1), (65, .invokespecial 46, 3), (68, .putfield 47, 3), (71, .aload_n 0, 1), (72, .new 44, 3), (75, .dup, 1), (76, .invokespecial 46, 3), (79, .putfield 51, 3), (82, .aload_n 0, 1), (83, .iconst (4), 1), (84, .newarray .int, 2), (86, .putfield 54, 3), (89, .return_, 1)]
theorem kV_init : kx_ok mV_init 0 := ⟨kx_by 78 (by decide +kernel) (by decide +kernel), kx_by 104 (by decide +kernel) (by decide +kernel), by decide, ⟨by decide, by decide⟩, by decide +kernel⟩
def mT_init : kx_M := (⟨"VersionedTables$Transactions", "<init>", "()V"⟩, prog_8_method_1_code, 1, none, [])
def tT_init : kx_T := [(0, .aload_n 0, 1), (1, .invokespecial 3, 3), (4, .aload_n 0, 1), (5, .bipush (41), 2), (7, .anewarray 9, 3), (10, .putfield 11, 3), (13, .aload_n 0, 1), (14, .iconst (0), 1), (15, .putfield 17, 3), (18, .aload_n 0, 1), (19, .iconst (0), 1), (20, .putfield 21, 3), (23, .return_, 1)]
theorem kT_init : kx_ok mT_init 0 := ⟨kx_by 79 (by decide +kernel) (by decide +kernel), kx_by 114 (by decide +kernel) (by decide +kernel), by decide, ⟨by decide, by decide⟩, by decide +kernel⟩
def mP_init : kx_M := (⟨"VersionedTables$Program", "<init>", "()V"⟩, prog_3_method_1_code, 1, none, [])
def tP_init : kx_T := [(0, .aload_n 0, 1), (1, .invokespecial 3, 3), (4, .aload_n 0, 1), (5, .bipush (40), 2), (7, .newarray .int, 2), (9, .putfield 9, 3), (12, .aload_n 0, 1), (13, .bipush (40), 2), (15, .newarray .int, 2), (17, .putfield 15, 3), (20, .aload_n 0, 1), (21, .iconst (0), 1), (22, .putfield 18, 3), (25, .aload_n 0, 1), (26, .iconst (0), 1), (27, .putfield 22, 3), (30, .return_, 1)]
theorem kP_init : kx_ok mP_init 0 := ⟨kx_by 80 (by decide +kernel) (by decide +kernel), kx_by 134 (by decide +kernel) (by decide +kernel), by decide, ⟨by decide, by decide⟩, by decide +kernel⟩
def mS_init : kx_M := (⟨"VersionedTables$RowSet", "<init>", "()V"⟩, prog_5_method_1_code, 1, none, [])
def tS_init : kx_T := [(0, .aload_n 0, 1), (1, .invokespecial 3, 3), (4, .aload_n 0, 1), (5, .bipush (24), 2), (7, .newarray .int, 2), (9, .putfield 9, 3), (12, .aload_n 0, 1), (13, .bipush (24), 2), (15, .iconst (4), 1), (16, .multianewarray 15 2, 4), (20, .putfield 17, 3), (23, .aload_n 0, 1), (24, .iconst (0), 1), (25, .putfield 20, 3), (28, .return_, 1)]
theorem kS_init : kx_ok mS_init 0 := ⟨kx_by 81 (by decide +kernel) (by decide +kernel), kx_by 155 (by decide +kernel) (by decide +kernel), by decide, ⟨by decide, by decide⟩, by decide +kernel⟩
def mV_clear : kx_M := (⟨"VersionedTables", "clear", "()I"⟩, prog_1_method_6_code, 3, (some .int), [])
def tV_clear : kx_T := [(0, .aload_n 0, 1), (1, .invokevirtual 98, 3), (4, .istore_n 1, 1), (5, .iconst (0), 1), (6, .istore_n 2, 1), (7, .iload_n 2, 1), (8, .iconst (4), 1), (9, .if_icmp .ge (16), 3), (12, .aload_n 0, 1), (13, .getfield 40, 3), (16, .iload_n 2, 1), (17, .aconst_null, 1), (18, .aastore, 1), (19, .iinc 2 (1), 3), (22, .goto (-15), 3), (25, .iload_n 1, 1), (26, .ireturn, 1)]
theorem kV_clear : kx_ok mV_clear 0 := ⟨kx_by 78 (by decide +kernel) (by decide +kernel), kx_by 206 (by decide +kernel) (by decide +kernel), by decide, ⟨by decide, by decide⟩, by decide +kernel⟩
def mV_settingsThere : kx_M := (⟨"VersionedTables", "settingsThere", "()I"⟩, prog_1_method_21_code, 3, (some .int), [])
def tV_settingsThere : kx_T := [(0, .iconst (0), 1), (1, .istore_n 1, 1), (2, .iconst (0), 1), (3, .istore_n 2, 1), (4, .iload_n 2, 1), (5, .iconst (4), 1), (6, .if_icmp .ge (21), 3), (9, .aload_n 0, 1), (10, .getfield 40, 3), (13, .iload_n 2, 1), (14, .aaload, 1), (15, .ifnull (6), 3), (18, .iinc 1 (1), 3), (21, .iinc 2 (1), 3), (24, .goto (-20), 3), (27, .iload_n 1, 1), (28, .ireturn, 1)]
theorem kV_settingsThere : kx_ok mV_settingsThere 0 := ⟨kx_by 78 (by decide +kernel) (by decide +kernel), kx_by 210 (by decide +kernel) (by decide +kernel), by decide, ⟨by decide, by decide⟩, by decide +kernel⟩
def mV_errorAt : kx_M := (⟨"VersionedTables", "errorAt", "()I"⟩, prog_1_method_7_code, 1, (some .int), [])
def tV_errorAt : kx_T := [(0, .aload_n 0, 1), (1, .getfield 30, 3), (4, .ireturn, 1)]
theorem kV_errorAt : kx_ok mV_errorAt 0 := ⟨kx_by 78 (by decide +kernel) (by decide +kernel), kx_by 214 (by decide +kernel) (by decide +kernel), by decide, ⟨by decide, by decide⟩, by decide +kernel⟩
def mV_vacuum : kx_M := (⟨"VersionedTables", "vacuum", "()I"⟩, prog_1_method_17_code, 4, (some .int), [])
def tV_vacuum : kx_T := [(0, .aload_n 0, 1), (1, .getfield 18, 3), (4, .invokevirtual 198, 3), (7, .istore_n 1, 1), (8, .iconst (0), 1), (9, .istore_n 2, 1), (10, .iconst (0), 1), (11, .istore_n 3, 1), (12, .iload_n 3, 1), (13, .iconst (3), 1), (14, .if_icmp .ge (32), 3), (17, .aload_n 0, 1), (18, .getfield 11, 3), (21, .iload_n 3, 1), (22, .aaload, 1), (23, .ifnull (17), 3), (26, .iload_n 2, 1), (27, .aload_n 0, 1), (28, .aload_n 0, 1), (29, .getfield 11, 3), (32, .iload_n 3, 1), (33, .aaload, 1), (34, .iload_n 1, 1), (35, .invokevirtual 201, 3), (38, .iadd, 1), (39, .istore_n 2, 1), (40, .iinc 3 (1), 3), (43, .goto (-31), 3), (46, .iload_n 2, 1), (47, .ireturn, 1)]
theorem kV_vacuum : kx_ok mV_vacuum 0 := ⟨kx_by 78 (by decide +kernel) (by decide +kernel), kx_by 218 (by decide +kernel) (by decide +kernel), by decide, ⟨by decide, by decide⟩, by decide +kernel⟩
def mT_leastOpen : kx_M := (⟨"VersionedTables$Transactions", "leastOpen", "()I"⟩, prog_8_method_6_code, 2, (some .int), [])
def tT_leastOpen : kx_T := [(0, .iconst (1), 1), (1, .istore_n 1, 1), (2, .iload_n 1, 1), (3, .aload_n 0, 1), (4, .getfield 17, 3), (7, .if_icmp .gt (23), 3), (10, .aload_n 0, 1), (11, .getfield 11, 3), (14, .iload_n 1, 1), (15, .aaload, 1), (16, .getstatic 24, 3), (19, .if_acmp .ne (5), 3), (22, .iload_n 1, 1), (23, .ireturn, 1), (24, .iinc 1 (1), 3), (27, .goto (-25), 3), (30, .aload_n 0, 1), (31, .getfield 17, 3), (34, .ireturn, 1)]
theorem kT_leastOpen : kx_ok mT_leastOpen 0 := ⟨kx_by 79 (by decide +kernel) (by decide +kernel), kx_by 222 (by decide +kernel) (by decide +kernel), by decide, ⟨by decide, by decide⟩, by decide +kernel⟩
def mV_sweep : kx_M := (⟨"VersionedTables", "sweep", "(LVersionedTables$Table;I)I"⟩, prog_1_method_32_code, 5, (some .int), [])
def tV_sweep : kx_T := [(0, .iconst (0), 1), (1, .istore_n 3, 1), (2, .iconst (0), 1), (3, .istore 4, 2), (5, .iload 4, 2), (7, .aload_n 1, 1), (8, .getfield 131, 3), (11, .if_icmp .ge (24), 3), (14, .iload_n 3, 1), (15, .aload_n 0, 1), (16, .aload_n 1, 1), (17, .getfield 207, 3), (20, .iload 4, 2), (22, .aaload, 1), (23, .iload_n 2, 1), (24, .invokevirtual 302, 3), (27, .iadd, 1), (28, .istore_n 3, 1), (29, .iinc 4 (1), 3), (32, .goto (-27), 3), (35, .iload_n 3, 1), (36, .ireturn, 1)]
theorem kV_sweep : kx_ok mV_sweep 2 := ⟨kx_by 78 (by decide +kernel) (by decide +kernel), kx_by 228 (by decide +kernel) (by decide +kernel), by decide, ⟨by decide, by decide⟩, by decide +kernel⟩
def mV_sweepRow : kx_M := (⟨"VersionedTables", "sweepRow", "(LVersionedTables$Row;I)I"⟩, prog_1_method_33_code, 6, (some .int), [])
def tV_sweepRow : kx_T := [(0, .iload_n 2, 1), (1, .istore_n 3, 1), (2, .iload_n 3, 1), (3, .ifCond .le (31), 3), (6, .aload_n 1, 1), (7, .iload_n 3, 1), (8, .invokevirtual 306, 3), (11, .ifCond .eq (17), 3), (14, .aload_n 0, 1), (15, .getfield 18, 3), (18, .iload_n 3, 1), (19, .getstatic 113, 3), (22, .invokevirtual 236, 3), (25, .ifCond .ne (9), 3), (28, .iinc 3 (-1), 3), (31, .goto (-29), 3), (34, .iconst (0), 1), (35, .istore 4, 2), (37, .iconst (1), 1), (38, .istore 5, 2), (40, .iload 5, 2), (42, .iload_n 3, 1), (43, .if_icmp .ge (35), 3), (46, .aload_n 0, 1), (47, .getfield 18, 3), (50, .iload 5, 2), (52, .getstatic 113, 3), (55, .invokevirtual 236, 3), (58, .ifCond .eq (14), 3), (61, .iload 4, 2), (63, .aload_n 1, 1), (64, .iload 5, 2), (66, .invokevirtual 310, 3), (69, .iadd, 1), (70, .istore 4, 2), (72, .iinc 5 (1), 3), (75, .goto (-35), 3), (78, .iload 4, 2), (80, .ireturn, 1)]
theorem kV_sweepRow : kx_ok mV_sweepRow 2 := ⟨kx_by 78 (by decide +kernel) (by decide +kernel), kx_by 232 (by decide +kernel) (by decide +kernel), by decide, ⟨by decide, by decide⟩, by decide +kernel⟩
def mR_has : kx_M := (⟨"VersionedTables$Row", "has", "(I)Z"⟩, prog_4_method_2_code, 2, (some .boolean), [])
def tR_has : kx_T := [(0, .aload_n 0, 1), (1, .getfield 11, 3), (4, .iload_n 1, 1), (5, .aaload, 1), (6, .ifnull (7), 3), (9, .iconst (1), 1), (10, .goto (4), 3), (13, .iconst (0), 1), (14, .ireturn, 1)]
theorem kR_has : kx_ok mR_has 1 := ⟨kx_by 89 (by decide +kernel) (by decide +kernel), kx_by 237 (by decide +kernel) (by decide +kernel), by decide, ⟨by decide, by decide⟩, by decide +kernel⟩
def mT_is : kx_M := (⟨"VersionedTables$Transactions", "is", "(ILVersionedTables$State;)Z"⟩, prog_8_method_4_code, 3, (some .boolean), [])
def tT_is : kx_T := [(0, .iload_n 1, 1), (1, .iconst (1), 1), (2, .if_icmp .lt (25), 3), (5, .iload_n 1, 1), (6, .aload_n 0, 1), (7, .getfield 17, 3), (10, .if_icmp .gt (17), 3), (13, .aload_n 0, 1), (14, .getfield 11, 3), (17, .iload_n 1, 1), (18, .aaload, 1), (19, .aload_n 2, 1), (20, .if_acmp .ne (7), 3), (23, .iconst (1), 1), (24, .goto (4), 3), (27, .iconst (0), 1), (28, .ireturn, 1)]
theorem kT_is : kx_ok mT_is 2 := ⟨kx_by 79 (by decide +kernel) (by decide +kernel), kx_by 243 (by decide +kernel) (by decide +kernel), by decide, ⟨by decide, by decide⟩, by decide +kernel⟩
def mR_drop : kx_M := (⟨"VersionedTables$Row", "drop", "(I)I"⟩, prog_4_method_5_code, 3, (some .int), [])
def tR_drop : kx_T := [(0, .aload_n 0, 1), (1, .iload_n 1, 1), (2, .invokevirtual 24, 3), (5, .ifCond .eq (7), 3), (8, .iconst (1), 1), (9, .goto (4), 3), (12, .iconst (0), 1), (13, .istore_n 2, 1), (14, .aload_n 0, 1), (15, .getfield 11, 3), (18, .iload_n 1, 1), (19, .aconst_null, 1), (20, .aastore, 1), (21, .iload_n 2, 1), (22, .ireturn, 1)]
theorem kR_drop : kx_ok mR_drop 1 := ⟨kx_by 89 (by decide +kernel) (by decide +kernel), kx_by 247 (by decide +kernel) (by decide +kernel), by decide, ⟨by decide, by decide⟩, by decide +kernel⟩
def mV_count : kx_M := (⟨"VersionedTables", "count", "(I)I"⟩, prog_1_method_19_code, 2, (some .int), [])
def tV_count : kx_T := [(0, .iload_n 1, 1), (1, .tableswitch (129) (0) (10) #[59, 67, 78, 89, 97, 102, 107, 112, 120, 120, 120], 59), (60, .aload_n 0, 1), (61, .getfield 18, 3), (64, .getfield 102, 3), (67, .ireturn, 1), (68, .aload_n 0, 1), (69, .getfield 18, 3), (72, .getstatic 215, 3), (75, .invokevirtual 218, 3), (78, .ireturn, 1), (79, .aload_n 0, 1), (80, .getfield 18, 3), (83, .getstatic 113, 3), (86, .invokevirtual 218, 3), (89, .ireturn, 1), (90, .aload_n 0, 1), (91, .getfield 47, 3), (94, .getfield 158, 3), (97, .ireturn, 1), (98, .aload_n 0, 1), (99, .getfield 26, 3), (102, .ireturn, 1), (103, .aload_n 0, 1), (104, .invokevirtual 98, 3), (107, .ireturn, 1), (108, .aload_n 0, 1), (109, .invokevirtual 222, 3), (112, .ireturn, 1), (113, .aload_n 0, 1), (114, .getfield 18, 3), (117, .getfield 225, 3), (120, .ireturn, 1), (121, .aload_n 0, 1), (122, .iload_n 1, 1), (123, .bipush (8), 2), (125, .isub, 1), (126, .invokevirtual 228, 3), (129, .ireturn, 1), (130, .iconst (-1), 1), (131, .ireturn, 1)]
theorem kV_count : kx_ok mV_count 1 := ⟨kx_by 78 (by decide +kernel) (by decide +kernel), kx_by 252 (by decide +kernel) (by decide +kernel), by decide, ⟨by decide, by decide⟩, by decide +kernel⟩
def mT_howMany : kx_M := (⟨"VersionedTables$Transactions", "howMany", "(LVersionedTables$State;)I"⟩, prog_8_method_5_code, 4, (some .int), [])
def tT_howMany : kx_T := [(0, .iconst (0), 1), (1, .istore_n 2, 1), (2, .iconst (1), 1), (3, .istore_n 3, 1), (4, .iload_n 3, 1), (5, .aload_n 0, 1), (6, .getfield 17, 3), (9, .if_icmp .gt (22), 3), (12, .aload_n 0, 1), (13, .getfield 11, 3), (16, .iload_n 3, 1), (17, .aaload, 1), (18, .aload_n 1, 1), (19, .if_acmp .ne (6), 3), (22, .iinc 2 (1), 3), (25, .iinc 3 (1), 3), (28, .goto (-24), 3), (31, .iload_n 2, 1), (32, .ireturn, 1)]
theorem kT_howMany : kx_ok mT_howMany 1 := ⟨kx_by 79 (by decide +kernel) (by decide +kernel), kx_by 257 (by decide +kernel) (by decide +kernel), by decide, ⟨by decide, by decide⟩, by decide +kernel⟩
def mV_allVersions : kx_M := (⟨"VersionedTables", "allVersions", "()I"⟩, prog_1_method_34_code, 3, (some .int), [])
def tV_allVersions : kx_T := [(0, .iconst (0), 1), (1, .istore_n 1, 1), (2, .iconst (0), 1), (3, .istore_n 2, 1), (4, .iload_n 2, 1), (5, .iconst (3), 1), (6, .if_icmp .ge (30), 3), (9, .aload_n 0, 1), (10, .getfield 11, 3), (13, .iload_n 2, 1), (14, .aaload, 1), (15, .ifnull (15), 3), (18, .iload_n 1, 1), (19, .aload_n 0, 1), (20, .getfield 11, 3), (23, .iload_n 2, 1), (24, .aaload, 1), (25, .invokevirtual 313, 3), (28, .iadd, 1), (29, .istore_n 1, 1), (30, .iinc 2 (1), 3), (33, .goto (-29), 3), (36, .iload_n 1, 1), (37, .ireturn, 1)]
theorem kV_allVersions : kx_ok mV_allVersions 0 := ⟨kx_by 78 (by decide +kernel) (by decide +kernel), kx_by 261 (by decide +kernel) (by decide +kernel), by decide, ⟨by decide, by decide⟩, by decide +kernel⟩
def mB_versionsThere : kx_M := (⟨"VersionedTables$Table", "versionsThere", "()I"⟩, prog_7_method_4_code, 3, (some .int), [])
def tB_versionsThere : kx_T := [(0, .iconst (0), 1), (1, .istore_n 1, 1), (2, .iconst (0), 1), (3, .istore_n 2, 1), (4, .iload_n 2, 1), (5, .aload_n 0, 1), (6, .getfield 17, 3), (9, .if_icmp .ge (21), 3), (12, .iload_n 1, 1), (13, .aload_n 0, 1), (14, .getfield 11, 3), (17, .iload_n 2, 1), (18, .aaload, 1), (19, .invokevirtual 36, 3), (22, .iadd, 1), (23, .istore_n 1, 1), (24, .iinc 2 (1), 3), (27, .goto (-23), 3), (30, .iload_n 1, 1), (31, .ireturn, 1)]
theorem kB_versionsThere : kx_ok mB_versionsThere 0 := ⟨kx_by 88 (by decide +kernel) (by decide +kernel), kx_by 266 (by decide +kernel) (by decide +kernel), by decide, ⟨by decide, by decide⟩, by decide +kernel⟩
def mR_size : kx_M := (⟨"VersionedTables$Row", "size", "()I"⟩, prog_4_method_6_code, 3, (some .int), [])
def tR_size : kx_T := [(0, .iconst (0), 1), (1, .istore_n 1, 1), (2, .iconst (1), 1), (3, .istore_n 2, 1), (4, .iload_n 2, 1), (5, .bipush (40), 2), (7, .if_icmp .gt (20), 3), (10, .aload_n 0, 1), (11, .iload_n 2, 1), (12, .invokevirtual 24, 3), (15, .ifCond .eq (6), 3), (18, .iinc 1 (1), 3), (21, .iinc 2 (1), 3), (24, .goto (-20), 3), (27, .iload_n 1, 1), (28, .ireturn, 1)]
theorem kR_size : kx_ok mR_size 0 := ⟨kx_by 89 (by decide +kernel) (by decide +kernel), kx_by 270 (by decide +kernel) (by decide +kernel), by decide, ⟨by decide, by decide⟩, by decide +kernel⟩
def mV_rowsMade : kx_M := (⟨"VersionedTables", "rowsMade", "(I)I"⟩, prog_1_method_35_code, 3, (some .int), [])
def tV_rowsMade : kx_T := [(0, .aload_n 0, 1), (1, .getfield 11, 3), (4, .iload_n 1, 1), (5, .aaload, 1), (6, .astore_n 2, 1), (7, .aload_n 2, 1), (8, .ifnonnull (7), 3), (11, .iconst (0), 1), (12, .goto (7), 3), (15, .aload_n 2, 1), (16, .getfield 131, 3), (19, .ireturn, 1)]
theorem kV_rowsMade : kx_ok mV_rowsMade 1 := ⟨kx_by 78 (by decide +kernel) (by decide +kernel), kx_by 274 (by decide +kernel) (by decide +kernel), by decide, ⟨by decide, by decide⟩, by decide +kernel⟩
def mL_create : kx_M := (⟨"VersionedTablesLaw", "create", "(LVersionedTables;II)I"⟩, method_3_code, 4, (some .int), [(0, 6, 9, 13), (0, 6, 12, 15)])
def tL_create : kx_T := [(0, .aload_n 0, 1), (1, .iload_n 1, 1), (2, .iload_n 2, 1), (3, .invokevirtual 7, 3), (6, .goto (9), 3), (9, .astore_n 3, 1), (10, .iconst (1), 1), (11, .ireturn, 1), (12, .astore_n 3, 1), (13, .iconst (2), 1), (14, .ireturn, 1), (15, .iconst (0), 1), (16, .ireturn, 1)]
theorem kL_create : kx_ok mL_create 3 := ⟨kx_by 77 (by decide +kernel) (by decide +kernel), kx_by 277 (by decide +kernel) (by decide +kernel), by decide, ⟨by decide, by decide⟩, by decide +kernel⟩
def mV_create : kx_M := (⟨"VersionedTables", "create", "(II)V"⟩, prog_1_method_2_code, 3, none, [])
def tV_create : kx_T := [(0, .iload_n 1, 1), (1, .ifCond .lt (18), 3), (4, .iload_n 1, 1), (5, .iconst (3), 1), (6, .if_icmp .ge (13), 3), (9, .iload_n 2, 1), (10, .iconst (1), 1), (11, .if_icmp .lt (8), 3), (14, .iload_n 2, 1), (15, .iconst (4), 1), (16, .if_icmp .le (13), 3), (19, .new 57, 3), (22, .dup, 1), (23, .ldc 59, 2), (25, .invokespecial 61, 3), (28, .athrow, 1), (29, .aload_n 0, 1), (30, .getfield 11, 3), (33, .iload_n 1, 1), (34, .aaload, 1), (35, .ifnull (13), 3), (38, .new 64, 3), (41, .dup, 1), (42, .ldc 66, 2), (44, .invokespecial 68, 3), (47, .athrow, 1), (48, .aload_n 0, 1), (49, .getfield 11, 3), (52, .iload_n 1, 1), (53, .new 9, 3), (56, .dup, 1), (57, .iload_n 2, 1), (58, .invokespecial 69, 3), (61, .aastore, 1), (62, .return_, 1)]
theorem kV_create : kx_ok mV_create 2 := ⟨kx_by 78 (by decide +kernel) (by decide +kernel), kx_by 283 (by decide +kernel) (by decide +kernel), by decide, ⟨by decide, by decide⟩, by decide +kernel⟩
def mB_init : kx_M := (⟨"VersionedTables$Table", "<init>", "(I)V"⟩, prog_7_method_1_code, 3, none, [])
def tB_init : kx_T := [(0, .aload_n 0, 1), (1, .invokespecial 3, 3), (4, .aload_n 0, 1), (5, .bipush (24), 2), (7, .anewarray 9, 3), (10, .putfield 11, 3), (13, .aload_n 0, 1), (14, .iconst (0), 1), (15, .putfield 17, 3), (18, .aload_n 0, 1), (19, .iconst (0), 1), (20, .putfield 21, 3), (23, .aload_n 0, 1), (24, .iload_n 1, 1), (25, .putfield 24, 3), (28, .iconst (0), 1), (29, .istore_n 2, 1), (30, .iload_n 2, 1), (31, .bipush (24), 2), (33, .if_icmp .ge (22), 3), (36, .aload_n 0, 1), (37, .getfield 11, 3), (40, .iload_n 2, 1), (41, .new 9, 3), (44, .dup, 1), (45, .invokespecial 27, 3), (48, .aastore, 1), (49, .iinc 2 (1), 3), (52, .goto (-22), 3), (55, .return_, 1)]
theorem kB_init : kx_ok mB_init 1 := ⟨kx_by 88 (by decide +kernel) (by decide +kernel), kx_by 373 (by decide +kernel) (by decide +kernel), by decide, ⟨by decide, by decide⟩, by decide +kernel⟩
def mR_init : kx_M := (⟨"VersionedTables$Row", "<init>", "()V"⟩, prog_4_method_1_code, 1, none, [])
def tR_init : kx_T := [(0, .aload_n 0, 1), (1, .invokespecial 3, 3), (4, .aload_n 0, 1), (5, .bipush (41), 2), (7, .anewarray 9, 3), (10, .putfield 11, 3), (13, .return_, 1)]
theorem kR_init : kx_ok mR_init 0 := ⟨kx_by 89 (by decide +kernel) (by decide +kernel), kx_by 379 (by decide +kernel) (by decide +kernel), by decide, ⟨by decide, by decide⟩, by decide +kernel⟩
def mL_type : kx_M := (⟨"VersionedTablesLaw", "type", "(LVersionedTables;I[J)I"⟩, method_4_code, 4, (some .int), [(0, 9, 12, 13), (0, 9, 15, 15)])
def tL_type : kx_T := [(0, .aload_n 2, 1), (1, .iconst (0), 1), (2, .aload_n 0, 1), (3, .iload_n 1, 1), (4, .invokevirtual 17, 3), (7, .i2l, 1), (8, .lastore, 1), (9, .goto (9), 3), (12, .astore_n 3, 1), (13, .iconst (1), 1), (14, .ireturn, 1), (15, .astore_n 3, 1), (16, .iconst (2), 1), (17, .ireturn, 1), (18, .iconst (0), 1), (19, .ireturn, 1)]
theorem kL_type : kx_ok mL_type 3 := ⟨kx_by 77 (by decide +kernel) (by decide +kernel), kx_by 406 (by decide +kernel) (by decide +kernel), by decide, ⟨by decide, by decide⟩, by decide +kernel⟩
def mV_type : kx_M := (⟨"VersionedTables", "type", "(I)I"⟩, prog_1_method_3_code, 2, (some .int), [])
def tV_type : kx_T := [(0, .iload_n 1, 1), (1, .ifCond .lt (10), 3), (4, .iload_n 1, 1), (5, .sipush (128), 3), (8, .if_icmp .lt (13), 3), (11, .new 57, 3), (14, .dup, 1), (15, .ldc 72, 2), (17, .invokespecial 61, 3), (20, .athrow, 1), (21, .aload_n 0, 1), (22, .getfield 26, 3), (25, .bipush (40), 2), (27, .if_icmp .lt (13), 3), (30, .new 64, 3), (33, .dup, 1), (34, .ldc 74, 2), (36, .invokespecial 68, 3), (39, .athrow, 1), (40, .aload_n 0, 1), (41, .getfield 22, 3), (44, .aload_n 0, 1), (45, .getfield 26, 3), (48, .iload_n 1, 1), (49, .iastore, 1), (50, .aload_n 0, 1), (51, .dup, 1), (52, .getfield 26, 3), (55, .iconst (1), 1), (56, .iadd, 1), (57, .putfield 26, 3), (60, .aload_n 0, 1), (61, .getfield 26, 3), (64, .ireturn, 1)]
theorem kV_type : kx_ok mV_type 1 := ⟨kx_by 78 (by decide +kernel) (by decide +kernel), kx_by 410 (by decide +kernel) (by decide +kernel), by decide, ⟨by decide, by decide⟩, by decide +kernel⟩
def mL_where : kx_M := (⟨"VersionedTablesLaw", "where", "(LVersionedTables;)I"⟩, method_5_code, 2, (some .int), [(0, 4, 7, 13)])
def tL_where : kx_T := [(0, .aload_n 0, 1), (1, .invokevirtual 21, 3), (4, .goto (6), 3), (7, .astore_n 1, 1), (8, .iconst (1), 1), (9, .ireturn, 1), (10, .iconst (0), 1), (11, .ireturn, 1)]
theorem kL_where : kx_ok mL_where 1 := ⟨kx_by 77 (by decide +kernel) (by decide +kernel), kx_by 415 (by decide +kernel) (by decide +kernel), by decide, ⟨by decide, by decide⟩, by decide +kernel⟩
def mV_where : kx_M := (⟨"VersionedTables", "where", "()V"⟩, prog_1_method_4_code, 2, none, [])
def tV_where : kx_T := [(0, .new 76, 3), (3, .dup, 1), (4, .aload_n 0, 1), (5, .getfield 22, 3), (8, .aload_n 0, 1), (9, .getfield 26, 3), (12, .invokespecial 78, 3), (15, .astore_n 1, 1), (16, .aload_n 0, 1), (17, .aload_n 1, 1), (18, .aload_n 1, 1), (19, .invokevirtual 81, 3), (22, .invokevirtual 85, 3), (25, .aload_n 0, 1), (26, .aload_n 1, 1), (27, .getfield 89, 3), (30, .putfield 36, 3), (33, .return_, 1)]
theorem kV_where : kx_ok mV_where 0 := ⟨kx_by 78 (by decide +kernel) (by decide +kernel), kx_by 419 (by decide +kernel) (by decide +kernel), by decide, ⟨by decide, by decide⟩, by decide +kernel⟩
def mQ_init : kx_M := (⟨"VersionedTables$Parser", "<init>", "([II)V"⟩, prog_2_method_1_code, 3, none, [])
def tQ_init : kx_T := [(0, .aload_n 0, 1), (1, .invokespecial 3, 3), (4, .aload_n 0, 1), (5, .new 9, 3), (8, .dup, 1), (9, .invokespecial 11, 3), (12, .putfield 12, 3), (15, .aload_n 0, 1), (16, .iconst (0), 1), (17, .putfield 18, 3), (20, .aload_n 0, 1), (21, .iconst (0), 1), (22, .putfield 22, 3), (25, .aload_n 0, 1), (26, .aload_n 1, 1), (27, .putfield 25, 3), (30, .aload_n 0, 1), (31, .iload_n 2, 1), (32, .putfield 29, 3), (35, .return_, 1)]
theorem kQ_init : kx_ok mQ_init 2 := ⟨kx_by 90 (by decide +kernel) (by decide +kernel), kx_by 424 (by decide +kernel) (by decide +kernel), by decide, ⟨by decide, by decide⟩, by decide +kernel⟩
def mQ_readCondition : kx_M := (⟨"VersionedTables$Parser", "readCondition", "()Z"⟩, prog_2_method_2_code, 1, (some .boolean), [])
def tQ_readCondition : kx_T := [(0, .aload_n 0, 1), (1, .getfield 29, 3), (4, .ifCond .eq (22), 3), (7, .aload_n 0, 1), (8, .iconst (0), 1), (9, .invokevirtual 32, 3), (12, .ifCond .eq (18), 3), (15, .aload_n 0, 1), (16, .getfield 18, 3), (19, .aload_n 0, 1), (20, .getfield 29, 3), (23, .if_icmp .ne (7), 3), (26, .iconst (1), 1), (27, .goto (4), 3), (30, .iconst (0), 1), (31, .ireturn, 1)]
theorem kQ_readCondition : kx_ok mQ_readCondition 0 := ⟨kx_by 90 (by decide +kernel) (by decide +kernel), kx_by 450 (by decide +kernel) (by decide +kernel), by decide, ⟨by decide, by decide⟩, by decide +kernel⟩
def mQ_readAll : kx_M := (⟨"VersionedTables$Parser", "readAll", "(I)Z"⟩, prog_2_method_4_code, 5, (some .boolean), [])
def tQ_readAll : kx_T := [(0, .aload_n 0, 1), (1, .iload_n 1, 1), (2, .invokevirtual 50, 3), (5, .istore_n 2, 1), (6, .iconst (0), 1), (7, .istore_n 3, 1), (8, .iload_n 3, 1), (9, .bipush (40), 2), (11, .if_icmp .ge (54), 3), (14, .iload_n 2, 1), (15, .ifCond .eq (50), 3), (18, .aload_n 0, 1), (19, .invokevirtual 36, 3), (22, .invokestatic 53, 3), (25, .ifCond .eq (40), 3), (28, .aload_n 0, 1), (29, .invokevirtual 36, 3), (32, .istore 4, 2), (34, .aload_n 0, 1), (35, .dup, 1), (36, .getfield 18, 3), (39, .iconst (1), 1), (40, .iadd, 1), (41, .putfield 18, 3), (44, .aload_n 0, 1), (45, .iload_n 1, 1), (46, .invokevirtual 50, 3), (49, .istore_n 2, 1), (50, .aload_n 0, 1), (51, .getfield 12, 3), (54, .iload 4, 2), (56, .invokevirtual 56, 3), (59, .iinc 3 (1), 3), (62, .goto (-54), 3), (65, .iload_n 2, 1), (66, .ireturn, 1)]
theorem kQ_readAll : kx_ok mQ_readAll 1 := ⟨kx_by 90 (by decide +kernel) (by decide +kernel), kx_by 454 (by decide +kernel) (by decide +kernel), by decide, ⟨by decide, by decide⟩, by decide +kernel⟩
def mQ_readPart : kx_M := (⟨"VersionedTables$Parser", "readPart", "(I)Z"⟩, prog_2_method_5_code, 4, (some .boolean), [])
def tQ_readPart : kx_T := [(0, .aload_n 0, 1), (1, .invokevirtual 36, 3), (4, .istore_n 2, 1), (5, .iload_n 2, 1), (6, .bipush (40), 2), (8, .if_icmp .eq (14), 3), (11, .iload_n 2, 1), (12, .bipush (33), 2), (14, .if_icmp .eq (8), 3), (17, .aload_n 0, 1), (18, .invokevirtual 60, 3), (21, .ireturn, 1), (22, .iload_n 1, 1), (23, .iconst (5), 1), (24, .if_icmp .lt (5), 3), (27, .iconst (0), 1), (28, .ireturn, 1), (29, .aload_n 0, 1), (30, .dup, 1), (31, .getfield 18, 3), (34, .iconst (1), 1), (35, .iadd, 1), (36, .putfield 18, 3), (39, .iload_n 2, 1), (40, .bipush (40), 2), (42, .if_icmp .ne (28), 3), (45, .aload_n 0, 1), (46, .iload_n 1, 1), (47, .iconst (1), 1), (48, .iadd, 1), (49, .invokevirtual 32, 3), (52, .ifCond .eq (16), 3), (55, .aload_n 0, 1), (56, .bipush (41), 2), (58, .invokevirtual 43, 3), (61, .ifCond .eq (7), 3), (64, .iconst (1), 1), (65, .goto (4), 3), (68, .iconst (0), 1), (69, .ireturn, 1), (70, .aload_n 0, 1), (71, .iload_n 1, 1), (72, .iconst (1), 1), (73, .iadd, 1), (74, .invokevirtual 50, 3), (77, .istore_n 3, 1), (78, .aload_n 0, 1), (79, .getfield 12, 3), (82, .bipush (33), 2), (84, .invokevirtual 56, 3), (87, .iload_n 3, 1), (88, .ireturn, 1)]
theorem kQ_readPart : kx_ok mQ_readPart 1 := ⟨kx_by 90 (by decide +kernel) (by decide +kernel), kx_by 458 (by decide +kernel) (by decide +kernel), by decide, ⟨by decide, by decide⟩, by decide +kernel⟩
def mQ_next : kx_M := (⟨"VersionedTables$Parser", "next", "()I"⟩, prog_2_method_10_code, 1, (some .int), [])
def tQ_next : kx_T := [(0, .aload_n 0, 1), (1, .getfield 18, 3), (4, .aload_n 0, 1), (5, .getfield 29, 3), (8, .if_icmp .ge (15), 3), (11, .aload_n 0, 1), (12, .getfield 25, 3), (15, .aload_n 0, 1), (16, .getfield 18, 3), (19, .iaload, 1), (20, .goto (4), 3), (23, .iconst (-1), 1), (24, .ireturn, 1)]
theorem kQ_next : kx_ok mQ_next 0 := ⟨kx_by 90 (by decide +kernel) (by decide +kernel), kx_by 462 (by decide +kernel) (by decide +kernel), by decide, ⟨by decide, by decide⟩, by decide +kernel⟩
def mQ_readComparison : kx_M := (⟨"VersionedTables$Parser", "readComparison", "()Z"⟩, prog_2_method_6_code, 3, (some .boolean), [])
def tQ_readComparison : kx_T := [(0, .aload_n 0, 1), (1, .invokevirtual 46, 3), (4, .ifCond .ne (5), 3), (7, .iconst (0), 1), (8, .ireturn, 1), (9, .aload_n 0, 1), (10, .invokevirtual 36, 3), (13, .istore_n 1, 1), (14, .iload_n 1, 1), (15, .invokestatic 63, 3), (18, .ifCond .ne (5), 3), (21, .iconst (0), 1), (22, .ireturn, 1), (23, .aload_n 0, 1), (24, .dup, 1), (25, .getfield 18, 3), (28, .iconst (1), 1), (29, .iadd, 1), (30, .putfield 18, 3), (33, .aload_n 0, 1), (34, .invokevirtual 46, 3), (37, .istore_n 2, 1), (38, .aload_n 0, 1), (39, .getfield 12, 3), (42, .iload_n 1, 1), (43, .invokevirtual 56, 3), (46, .iload_n 2, 1), (47, .ireturn, 1)]
theorem kQ_readComparison : kx_ok mQ_readComparison 0 := ⟨kx_by 90 (by decide +kernel) (by decide +kernel), kx_by 466 (by decide +kernel) (by decide +kernel), by decide, ⟨by decide, by decide⟩, by decide +kernel⟩
def mQ_readTerm : kx_M := (⟨"VersionedTables$Parser", "readTerm", "()Z"⟩, prog_2_method_7_code, 4, (some .boolean), [])
def tQ_readTerm : kx_T := [(0, .aload_n 0, 1), (1, .invokevirtual 66, 3), (4, .istore_n 1, 1), (5, .iconst (0), 1), (6, .istore_n 2, 1), (7, .iload_n 2, 1), (8, .bipush (40), 2), (10, .if_icmp .ge (51), 3), (13, .iload_n 1, 1), (14, .ifCond .eq (47), 3), (17, .aload_n 0, 1), (18, .invokevirtual 36, 3), (21, .invokestatic 69, 3), (24, .ifCond .eq (37), 3), (27, .aload_n 0, 1), (28, .invokevirtual 36, 3), (31, .istore_n 3, 1), (32, .aload_n 0, 1), (33, .dup, 1), (34, .getfield 18, 3), (37, .iconst (1), 1), (38, .iadd, 1), (39, .putfield 18, 3), (42, .aload_n 0, 1), (43, .invokevirtual 66, 3), (46, .istore_n 1, 1), (47, .aload_n 0, 1), (48, .getfield 12, 3), (51, .iload_n 3, 1), (52, .invokevirtual 56, 3), (55, .iinc 2 (1), 3), (58, .goto (-51), 3), (61, .iload_n 1, 1), (62, .ireturn, 1)]
theorem kQ_readTerm : kx_ok mQ_readTerm 0 := ⟨kx_by 90 (by decide +kernel) (by decide +kernel), kx_by 470 (by decide +kernel) (by decide +kernel), by decide, ⟨by decide, by decide⟩, by decide +kernel⟩
def mQ_readItem : kx_M := (⟨"VersionedTables$Parser", "readItem", "()Z"⟩, prog_2_method_8_code, 3, (some .boolean), [])
def tQ_readItem : kx_T := [(0, .aload_n 0, 1), (1, .invokevirtual 36, 3), (4, .invokestatic 40, 3), (7, .ifCond .eq (26), 3), (10, .aload_n 0, 1), (11, .getfield 12, 3), (14, .aload_n 0, 1), (15, .invokevirtual 36, 3), (18, .invokevirtual 56, 3), (21, .aload_n 0, 1), (22, .dup, 1), (23, .getfield 18, 3), (26, .iconst (1), 1), (27, .iadd, 1), (28, .putfield 18, 3), (31, .iconst (1), 1), (32, .ireturn, 1), (33, .iconst (0), 1), (34, .istore_n 1, 1), (35, .iconst (0), 1), (36, .istore_n 2, 1), (37, .iload_n 2, 1), (38, .iconst (4), 1), (39, .if_icmp .ge (42), 3), (42, .aload_n 0, 1), (43, .invokevirtual 36, 3), (46, .invokestatic 72, 3), (49, .ifCond .eq (32), 3), (52, .iload_n 1, 1), (53, .bipush (10), 2), (55, .imul, 1), (56, .aload_n 0, 1), (57, .invokevirtual 36, 3), (60, .iadd, 1), (61, .bipush (48), 2), (63, .isub, 1), (64, .istore_n 1, 1), (65, .aload_n 0, 1), (66, .dup, 1), (67, .getfield 18, 3), (70, .iconst (1), 1), (71, .iadd, 1), (72, .putfield 18, 3), (75, .iinc 2 (1), 3), (78, .goto (-41), 3), (81, .aload_n 0, 1), (82, .getfield 12, 3), (85, .sipush (128), 3), (88, .iload_n 1, 1), (89, .iadd, 1), (90, .invokevirtual 56, 3), (93, .iload_n 2, 1), (94, .ifCond .le (7), 3), (97, .iconst (1), 1), (98, .goto (4), 3), (101, .iconst (0), 1), (102, .ireturn, 1)]
theorem kQ_readItem : kx_ok mQ_readItem 0 := ⟨kx_by 90 (by decide +kernel) (by decide +kernel), kx_by 474 (by decide +kernel) (by decide +kernel), by decide, ⟨by decide, by decide⟩, by decide +kernel⟩
def mP_isColumn : kx_M := (⟨"VersionedTables$Program", "isColumn", "(I)Z"⟩, prog_3_method_11_code, 1, (some .boolean), [])
def tP_isColumn : kx_T := [(0, .iload_n 0, 1), (1, .bipush (97), 2), (3, .if_icmp .lt (13), 3), (6, .iload_n 0, 1), (7, .bipush (101), 2), (9, .if_icmp .ge (7), 3), (12, .iconst (1), 1), (13, .goto (4), 3), (16, .iconst (0), 1), (17, .ireturn, 1)]
theorem kP_isColumn : kx_ok mP_isColumn 1 := ⟨kx_by 80 (by decide +kernel) (by decide +kernel), kx_by 477 (by decide +kernel) (by decide +kernel), by decide, ⟨by decide, by decide⟩, by decide +kernel⟩
def mP_add : kx_M := (⟨"VersionedTables$Program", "add", "(I)V"⟩, prog_3_method_2_code, 2, none, [])
def tP_add : kx_T := [(0, .aload_n 0, 1), (1, .getfield 18, 3), (4, .bipush (40), 2), (6, .if_icmp .ge (23), 3), (9, .aload_n 0, 1), (10, .getfield 9, 3), (13, .aload_n 0, 1), (14, .getfield 18, 3), (17, .iload_n 1, 1), (18, .iastore, 1), (19, .aload_n 0, 1), (20, .dup, 1), (21, .getfield 18, 3), (24, .iconst (1), 1), (25, .iadd, 1), (26, .putfield 18, 3), (29, .return_, 1)]
theorem kP_add : kx_ok mP_add 1 := ⟨kx_by 80 (by decide +kernel) (by decide +kernel), kx_by 481 (by decide +kernel) (by decide +kernel), by decide, ⟨by decide, by decide⟩, by decide +kernel⟩
def mQ_isDigit : kx_M := (⟨"VersionedTables$Parser", "isDigit", "(I)Z"⟩, prog_2_method_14_code, 1, (some .boolean), [])
def tQ_isDigit : kx_T := [(0, .iload_n 0, 1), (1, .bipush (48), 2), (3, .if_icmp .lt (13), 3), (6, .iload_n 0, 1), (7, .bipush (57), 2), (9, .if_icmp .gt (7), 3), (12, .iconst (1), 1), (13, .goto (4), 3), (16, .iconst (0), 1), (17, .ireturn, 1)]
theorem kQ_isDigit : kx_ok mQ_isDigit 1 := ⟨kx_by 90 (by decide +kernel) (by decide +kernel), kx_by 484 (by decide +kernel) (by decide +kernel), by decide, ⟨by decide, by decide⟩, by decide +kernel⟩
def mQ_isCalculation : kx_M := (⟨"VersionedTables$Parser", "isCalculation", "(I)Z"⟩, prog_2_method_13_code, 1, (some .boolean), [])
def tQ_isCalculation : kx_T := [(0, .iload_n 0, 1), (1, .bipush (43), 2), (3, .if_icmp .eq (21), 3), (6, .iload_n 0, 1), (7, .bipush (45), 2), (9, .if_icmp .eq (15), 3), (12, .iload_n 0, 1), (13, .bipush (42), 2), (15, .if_icmp .eq (9), 3), (18, .iload_n 0, 1), (19, .bipush (47), 2), (21, .if_icmp .ne (7), 3), (24, .iconst (1), 1), (25, .goto (4), 3), (28, .iconst (0), 1), (29, .ireturn, 1)]
theorem kQ_isCalculation : kx_ok mQ_isCalculation 1 := ⟨kx_by 90 (by decide +kernel) (by decide +kernel), kx_by 487 (by decide +kernel) (by decide +kernel), by decide, ⟨by decide, by decide⟩, by decide +kernel⟩
def mQ_isComparison : kx_M := (⟨"VersionedTables$Parser", "isComparison", "(I)Z"⟩, prog_2_method_12_code, 1, (some .boolean), [])
def tQ_isComparison : kx_T := [(0, .iload_n 0, 1), (1, .bipush (61), 2), (3, .if_icmp .eq (21), 3), (6, .iload_n 0, 1), (7, .bipush (35), 2), (9, .if_icmp .eq (15), 3), (12, .iload_n 0, 1), (13, .bipush (60), 2), (15, .if_icmp .eq (9), 3), (18, .iload_n 0, 1), (19, .bipush (62), 2), (21, .if_icmp .ne (7), 3), (24, .iconst (1), 1), (25, .goto (4), 3), (28, .iconst (0), 1), (29, .ireturn, 1)]
theorem kQ_isComparison : kx_ok mQ_isComparison 1 := ⟨kx_by 90 (by decide +kernel) (by decide +kernel), kx_by 490 (by decide +kernel) (by decide +kernel), by decide, ⟨by decide, by decide⟩, by decide +kernel⟩
def mQ_skip : kx_M := (⟨"VersionedTables$Parser", "skip", "(I)Z"⟩, prog_2_method_9_code, 2, (some .boolean), [])
def tQ_skip : kx_T := [(0, .aload_n 0, 1), (1, .invokevirtual 36, 3), (4, .iload_n 1, 1), (5, .if_icmp .eq (5), 3), (8, .iconst (0), 1), (9, .ireturn, 1), (10, .aload_n 0, 1), (11, .dup, 1), (12, .getfield 18, 3), (15, .iconst (1), 1), (16, .iadd, 1), (17, .putfield 18, 3), (20, .iconst (1), 1), (21, .ireturn, 1)]
theorem kQ_skip : kx_ok mQ_skip 1 := ⟨kx_by 90 (by decide +kernel) (by decide +kernel), kx_by 494 (by decide +kernel) (by decide +kernel), by decide, ⟨by decide, by decide⟩, by decide +kernel⟩
def mQ_isJoin : kx_M := (⟨"VersionedTables$Parser", "isJoin", "(I)Z"⟩, prog_2_method_11_code, 1, (some .boolean), [])
def tQ_isJoin : kx_T := [(0, .iload_n 0, 1), (1, .bipush (38), 2), (3, .if_icmp .eq (9), 3), (6, .iload_n 0, 1), (7, .bipush (124), 2), (9, .if_icmp .ne (7), 3), (12, .iconst (1), 1), (13, .goto (4), 3), (16, .iconst (0), 1), (17, .ireturn, 1)]
theorem kQ_isJoin : kx_ok mQ_isJoin 1 := ⟨kx_by 90 (by decide +kernel) (by decide +kernel), kx_by 497 (by decide +kernel) (by decide +kernel), by decide, ⟨by decide, by decide⟩, by decide +kernel⟩
def mV_takeLine : kx_M := (⟨"VersionedTables", "takeLine", "(LVersionedTables$Parser;Z)V"⟩, prog_1_method_20_code, 3, none, [])
def tV_takeLine : kx_T := [(0, .aload_n 0, 1), (1, .iconst (0), 1), (2, .putfield 26, 3), (5, .aload_n 0, 1), (6, .iload_n 2, 1), (7, .ifCond .eq (7), 3), (10, .iconst (-1), 1), (11, .goto (7), 3), (14, .aload_n 1, 1), (15, .getfield 231, 3), (18, .putfield 30, 3), (21, .iload_n 2, 1), (22, .ifCond .ne (13), 3), (25, .new 57, 3), (28, .dup, 1), (29, .ldc 234, 2), (31, .invokespecial 61, 3), (34, .athrow, 1), (35, .return_, 1)]
theorem kV_takeLine : kx_ok mV_takeLine 2 := ⟨kx_by 78 (by decide +kernel) (by decide +kernel), kx_by 501 (by decide +kernel) (by decide +kernel), by decide, ⟨by decide, by decide⟩, by decide +kernel⟩
def mL_setting : kx_M := (⟨"VersionedTablesLaw", "setting", "(LVersionedTables;[J)I"⟩, method_6_code, 3, (some .int), [(0, 8, 11, 13)])
def tL_setting : kx_T := [(0, .aload_n 1, 1), (1, .iconst (0), 1), (2, .aload_n 0, 1), (3, .invokevirtual 24, 3), (6, .i2l, 1), (7, .lastore, 1), (8, .goto (6), 3), (11, .astore_n 2, 1), (12, .iconst (1), 1), (13, .ireturn, 1), (14, .iconst (0), 1), (15, .ireturn, 1)]
theorem kL_setting : kx_ok mL_setting 2 := ⟨kx_by 77 (by decide +kernel) (by decide +kernel), kx_by 505 (by decide +kernel) (by decide +kernel), by decide, ⟨by decide, by decide⟩, by decide +kernel⟩
def mV_setting : kx_M := (⟨"VersionedTables", "setting", "()I"⟩, prog_1_method_5_code, 2, (some .int), [])
def tV_setting : kx_T := [(0, .new 76, 3), (3, .dup, 1), (4, .aload_n 0, 1), (5, .getfield 22, 3), (8, .aload_n 0, 1), (9, .getfield 26, 3), (12, .invokespecial 78, 3), (15, .astore_n 1, 1), (16, .aload_n 0, 1), (17, .aload_n 1, 1), (18, .aload_n 1, 1), (19, .invokevirtual 92, 3), (22, .invokevirtual 85, 3), (25, .aload_n 0, 1), (26, .getfield 40, 3), (29, .aload_n 1, 1), (30, .getfield 95, 3), (33, .aload_n 1, 1), (34, .getfield 89, 3), (37, .aastore, 1), (38, .aload_n 0, 1), (39, .invokevirtual 98, 3), (42, .ireturn, 1)]
theorem kV_setting : kx_ok mV_setting 0 := ⟨kx_by 78 (by decide +kernel) (by decide +kernel), kx_by 509 (by decide +kernel) (by decide +kernel), by decide, ⟨by decide, by decide⟩, by decide +kernel⟩
def mQ_readSetting : kx_M := (⟨"VersionedTables$Parser", "readSetting", "()Z"⟩, prog_2_method_3_code, 1, (some .boolean), [])
def tQ_readSetting : kx_T := [(0, .aload_n 0, 1), (1, .invokevirtual 36, 3), (4, .invokestatic 40, 3), (7, .ifCond .ne (5), 3), (10, .iconst (0), 1), (11, .ireturn, 1), (12, .aload_n 0, 1), (13, .aload_n 0, 1), (14, .invokevirtual 36, 3), (17, .bipush (97), 2), (19, .isub, 1), (20, .putfield 22, 3), (23, .aload_n 0, 1), (24, .dup, 1), (25, .getfield 18, 3), (28, .iconst (1), 1), (29, .iadd, 1), (30, .putfield 18, 3), (33, .aload_n 0, 1), (34, .bipush (61), 2), (36, .invokevirtual 43, 3), (39, .ifCond .eq (25), 3), (42, .aload_n 0, 1), (43, .invokevirtual 46, 3), (46, .ifCond .eq (18), 3), (49, .aload_n 0, 1), (50, .getfield 18, 3), (53, .aload_n 0, 1), (54, .getfield 29, 3), (57, .if_icmp .ne (7), 3), (60, .iconst (1), 1), (61, .goto (4), 3), (64, .iconst (0), 1), (65, .ireturn, 1)]
theorem kQ_readSetting : kx_ok mQ_readSetting 0 := ⟨kx_by 90 (by decide +kernel) (by decide +kernel), kx_by 513 (by decide +kernel) (by decide +kernel), by decide, ⟨by decide, by decide⟩, by decide +kernel⟩
def mL_begin : kx_M := (⟨"VersionedTablesLaw", "begin", "(LVersionedTables;[J)I"⟩, method_7_code, 3, (some .int), [(0, 8, 11, 15)])
def tL_begin : kx_T := [(0, .aload_n 1, 1), (1, .iconst (0), 1), (2, .aload_n 0, 1), (3, .invokevirtual 28, 3), (6, .i2l, 1), (7, .lastore, 1), (8, .goto (6), 3), (11, .astore_n 2, 1), (12, .iconst (1), 1), (13, .ireturn, 1), (14, .iconst (0), 1), (15, .ireturn, 1)]
theorem kL_begin : kx_ok mL_begin 2 := ⟨kx_by 77 (by decide +kernel) (by decide +kernel), kx_by 516 (by decide +kernel) (by decide +kernel), by decide, ⟨by decide, by decide⟩, by decide +kernel⟩
def mV_begin : kx_M := (⟨"VersionedTables", "begin", "()I"⟩, prog_1_method_8_code, 1, (some .int), [])
def tV_begin : kx_T := [(0, .aload_n 0, 1), (1, .getfield 18, 3), (4, .getfield 102, 3), (7, .bipush (40), 2), (9, .if_icmp .lt (13), 3), (12, .new 64, 3), (15, .dup, 1), (16, .ldc 105, 2), (18, .invokespecial 68, 3), (21, .athrow, 1), (22, .aload_n 0, 1), (23, .getfield 18, 3), (26, .invokevirtual 107, 3), (29, .ireturn, 1)]
theorem kV_begin : kx_ok mV_begin 0 := ⟨kx_by 78 (by decide +kernel) (by decide +kernel), kx_by 520 (by decide +kernel) (by decide +kernel), by decide, ⟨by decide, by decide⟩, by decide +kernel⟩
def mT_beginNext : kx_M := (⟨"VersionedTables$Transactions", "beginNext", "()I"⟩, prog_8_method_2_code, 1, (some .int), [])
def tT_beginNext : kx_T := [(0, .aload_n 0, 1), (1, .dup, 1), (2, .getfield 17, 3), (5, .iconst (1), 1), (6, .iadd, 1), (7, .putfield 17, 3), (10, .aload_n 0, 1), (11, .getfield 11, 3), (14, .aload_n 0, 1), (15, .getfield 17, 3), (18, .getstatic 24, 3), (21, .aastore, 1), (22, .aload_n 0, 1), (23, .getfield 17, 3), (26, .ireturn, 1)]
theorem kT_beginNext : kx_ok mT_beginNext 0 := ⟨kx_by 79 (by decide +kernel) (by decide +kernel), kx_by 525 (by decide +kernel) (by decide +kernel), by decide, ⟨by decide, by decide⟩, by decide +kernel⟩
def mL_commit : kx_M := (⟨"VersionedTablesLaw", "commit", "(LVersionedTables;I)I"⟩, method_8_code, 3, (some .int), [(0, 5, 8, 35)])
def tL_commit : kx_T := [(0, .aload_n 0, 1), (1, .iload_n 1, 1), (2, .invokevirtual 31, 3), (5, .goto (6), 3), (8, .astore_n 2, 1), (9, .iconst (1), 1), (10, .ireturn, 1), (11, .iconst (0), 1), (12, .ireturn, 1)]
theorem kL_commit : kx_ok mL_commit 2 := ⟨kx_by 77 (by decide +kernel) (by decide +kernel), kx_by 528 (by decide +kernel) (by decide +kernel), by decide, ⟨by decide, by decide⟩, by decide +kernel⟩
def mV_commit : kx_M := (⟨"VersionedTables", "commit", "(I)V"⟩, prog_1_method_9_code, 2, none, [])
def tV_commit : kx_T := [(0, .aload_n 0, 1), (1, .iload_n 1, 1), (2, .invokevirtual 110, 3), (5, .aload_n 0, 1), (6, .getfield 18, 3), (9, .iload_n 1, 1), (10, .getstatic 113, 3), (13, .invokevirtual 119, 3), (16, .return_, 1)]
theorem kV_commit : kx_ok mV_commit 1 := ⟨kx_by 78 (by decide +kernel) (by decide +kernel), kx_by 533 (by decide +kernel) (by decide +kernel), by decide, ⟨by decide, by decide⟩, by decide +kernel⟩
def mV_mustBeOpen : kx_M := (⟨"VersionedTables", "mustBeOpen", "(I)V"⟩, prog_1_method_22_code, 2, none, [])
def tV_mustBeOpen : kx_T := [(0, .aload_n 0, 1), (1, .getfield 18, 3), (4, .iload_n 1, 1), (5, .getstatic 215, 3), (8, .invokevirtual 236, 3), (11, .ifCond .ne (13), 3), (14, .new 174, 3), (17, .dup, 1), (18, .ldc 240, 2), (20, .invokespecial 178, 3), (23, .athrow, 1), (24, .return_, 1)]
theorem kV_mustBeOpen : kx_ok mV_mustBeOpen 1 := ⟨kx_by 78 (by decide +kernel) (by decide +kernel), kx_by 537 (by decide +kernel) (by decide +kernel), by decide, ⟨by decide, by decide⟩, by decide +kernel⟩
def mT_end : kx_M := (⟨"VersionedTables$Transactions", "end", "(ILVersionedTables$State;)V"⟩, prog_8_method_3_code, 3, none, [])
def tT_end : kx_T := [(0, .aload_n 0, 1), (1, .getfield 11, 3), (4, .iload_n 1, 1), (5, .aload_n 2, 1), (6, .aastore, 1), (7, .return_, 1)]
theorem kT_end : kx_ok mT_end 2 := ⟨kx_by 79 (by decide +kernel) (by decide +kernel), kx_by 557 (by decide +kernel) (by decide +kernel), by decide, ⟨by decide, by decide⟩, by decide +kernel⟩
def mL_abort : kx_M := (⟨"VersionedTablesLaw", "abort", "(LVersionedTables;I[J)I"⟩, method_9_code, 4, (some .int), [(0, 9, 12, 35)])
def tL_abort : kx_T := [(0, .aload_n 2, 1), (1, .iconst (0), 1), (2, .aload_n 0, 1), (3, .iload_n 1, 1), (4, .invokevirtual 37, 3), (7, .i2l, 1), (8, .lastore, 1), (9, .goto (6), 3), (12, .astore_n 3, 1), (13, .iconst (1), 1), (14, .ireturn, 1), (15, .iconst (0), 1), (16, .ireturn, 1)]
theorem kL_abort : kx_ok mL_abort 3 := ⟨kx_by 77 (by decide +kernel) (by decide +kernel), kx_by 560 (by decide +kernel) (by decide +kernel), by decide, ⟨by decide, by decide⟩, by decide +kernel⟩
def mV_abort : kx_M := (⟨"VersionedTables", "abort", "(I)I"⟩, prog_1_method_10_code, 2, (some .int), [])
def tV_abort : kx_T := [(0, .aload_n 0, 1), (1, .iload_n 1, 1), (2, .invokevirtual 110, 3), (5, .aload_n 0, 1), (6, .iload_n 1, 1), (7, .invokevirtual 123, 3), (10, .ireturn, 1)]
theorem kV_abort : kx_ok mV_abort 1 := ⟨kx_by 78 (by decide +kernel) (by decide +kernel), kx_by 564 (by decide +kernel) (by decide +kernel), by decide, ⟨by decide, by decide⟩, by decide +kernel⟩
def mV_breakOff : kx_M := (⟨"VersionedTables", "breakOff", "(I)I"⟩, prog_1_method_31_code, 4, (some .int), [])
def tV_breakOff : kx_T := [(0, .aload_n 0, 1), (1, .getfield 18, 3), (4, .iload_n 1, 1), (5, .getstatic 296, 3), (8, .invokevirtual 119, 3), (11, .iconst (0), 1), (12, .istore_n 2, 1), (13, .iconst (0), 1), (14, .istore_n 3, 1), (15, .iload_n 3, 1), (16, .iconst (3), 1), (17, .if_icmp .ge (31), 3), (20, .aload_n 0, 1), (21, .getfield 11, 3), (24, .iload_n 3, 1), (25, .aaload, 1), (26, .ifnull (16), 3), (29, .iload_n 2, 1), (30, .aload_n 0, 1), (31, .getfield 11, 3), (34, .iload_n 3, 1), (35, .aaload, 1), (36, .iload_n 1, 1), (37, .invokevirtual 299, 3), (40, .iadd, 1), (41, .istore_n 2, 1), (42, .iinc 3 (1), 3), (45, .goto (-30), 3), (48, .iload_n 2, 1), (49, .ireturn, 1)]
theorem kV_breakOff : kx_ok mV_breakOff 1 := ⟨kx_by 78 (by decide +kernel) (by decide +kernel), kx_by 568 (by decide +kernel) (by decide +kernel), by decide, ⟨by decide, by decide⟩, by decide +kernel⟩
def mB_dropAllOf : kx_M := (⟨"VersionedTables$Table", "dropAllOf", "(I)I"⟩, prog_7_method_3_code, 4, (some .int), [])
def tB_dropAllOf : kx_T := [(0, .iconst (0), 1), (1, .istore_n 2, 1), (2, .iconst (0), 1), (3, .istore_n 3, 1), (4, .iload_n 3, 1), (5, .aload_n 0, 1), (6, .getfield 17, 3), (9, .if_icmp .ge (22), 3), (12, .iload_n 2, 1), (13, .aload_n 0, 1), (14, .getfield 11, 3), (17, .iload_n 3, 1), (18, .aaload, 1), (19, .iload_n 1, 1), (20, .invokevirtual 32, 3), (23, .iadd, 1), (24, .istore_n 2, 1), (25, .iinc 3 (1), 3), (28, .goto (-24), 3), (31, .iload_n 2, 1), (32, .ireturn, 1)]
theorem kB_dropAllOf : kx_ok mB_dropAllOf 1 := ⟨kx_by 88 (by decide +kernel) (by decide +kernel), kx_by 574 (by decide +kernel) (by decide +kernel), by decide, ⟨by decide, by decide⟩, by decide +kernel⟩
def mL_insert : kx_M := (⟨"VersionedTablesLaw", "insert", "(LVersionedTables;IIIIII[J)I"⟩, method_10_code, 9, (some .int), [(0, 18, 21, 35), (0, 18, 25, 15), (0, 18, 29, 44)])
def tL_insert : kx_T := [(0, .aload 7, 2), (2, .iconst (0), 1), (3, .aload_n 0, 1), (4, .iload_n 1, 1), (5, .iload_n 2, 1), (6, .iload_n 3, 1), (7, .iload 4, 2), (9, .iload 5, 2), (11, .iload 6, 2), (13, .invokevirtual 40, 3), (16, .i2l, 1), (17, .lastore, 1), (18, .goto (15), 3), (21, .astore 8, 2), (23, .iconst (1), 1), (24, .ireturn, 1), (25, .astore 8, 2), (27, .iconst (2), 1), (28, .ireturn, 1), (29, .astore 8, 2), (31, .iconst (3), 1), (32, .ireturn, 1), (33, .iconst (0), 1), (34, .ireturn, 1)]
theorem kL_insert : kx_ok mL_insert 8 := ⟨kx_by 77 (by decide +kernel) (by decide +kernel), kx_by 578 (by decide +kernel) (by decide +kernel), by decide, ⟨by decide, by decide⟩, by decide +kernel⟩
def mV_insert : kx_M := (⟨"VersionedTables", "insert", "(IIIIII)I"⟩, prog_1_method_11_code, 8, (some .int), [])
def tV_insert : kx_T := [(0, .aload_n 0, 1), (1, .iload_n 1, 1), (2, .invokevirtual 110, 3), (5, .aload_n 0, 1), (6, .iload_n 2, 1), (7, .invokevirtual 127, 3), (10, .astore 7, 2), (12, .aload 7, 2), (14, .getfield 131, 3), (17, .bipush (24), 2), (19, .if_icmp .lt (13), 3), (22, .new 64, 3), (25, .dup, 1), (26, .ldc 134, 2), (28, .invokespecial 68, 3), (31, .athrow, 1), (32, .aload 7, 2), (34, .getfield 136, 3), (37, .iload_n 1, 1), (38, .if_icmp .le (18), 3), (41, .aload_n 0, 1), (42, .iload_n 1, 1), (43, .invokevirtual 139, 3), (46, .new 142, 3), (49, .dup, 1), (50, .ldc 144, 2), (52, .invokespecial 146, 3), (55, .athrow, 1), (56, .aload 7, 2), (58, .iload_n 1, 1), (59, .iload_n 3, 1), (60, .iload 4, 2), (62, .iload 5, 2), (64, .iload 6, 2), (66, .invokevirtual 147, 3), (69, .ireturn, 1)]
theorem kV_insert : kx_ok mV_insert 6 := ⟨kx_by 78 (by decide +kernel) (by decide +kernel), kx_by 583 (by decide +kernel) (by decide +kernel), by decide, ⟨by decide, by decide⟩, by decide +kernel⟩
def mV_tableThere : kx_M := (⟨"VersionedTables", "tableThere", "(I)LVersionedTables$Table;"⟩, prog_1_method_23_code, 2, (some (.object "VersionedTables$Table")), [])
def tV_tableThere : kx_T := [(0, .iload_n 1, 1), (1, .ifCond .lt (17), 3), (4, .iload_n 1, 1), (5, .iconst (3), 1), (6, .if_icmp .ge (12), 3), (9, .aload_n 0, 1), (10, .getfield 11, 3), (13, .iload_n 1, 1), (14, .aaload, 1), (15, .ifnonnull (13), 3), (18, .new 174, 3), (21, .dup, 1), (22, .ldc 242, 2), (24, .invokespecial 178, 3), (27, .athrow, 1), (28, .aload_n 0, 1), (29, .getfield 11, 3), (32, .iload_n 1, 1), (33, .aaload, 1), (34, .areturn, 1)]
theorem kV_tableThere : kx_ok mV_tableThere 1 := ⟨kx_by 78 (by decide +kernel) (by decide +kernel), kx_by 587 (by decide +kernel) (by decide +kernel), by decide, ⟨by decide, by decide⟩, by decide +kernel⟩
def mV_breakTooLate : kx_M := (⟨"VersionedTables", "breakTooLate", "(I)V"⟩, prog_1_method_30_code, 2, none, [])
def tV_breakTooLate : kx_T := [(0, .aload_n 0, 1), (1, .iload_n 1, 1), (2, .invokevirtual 123, 3), (5, .pop, 1), (6, .aload_n 0, 1), (7, .getfield 18, 3), (10, .dup, 1), (11, .getfield 225, 3), (14, .iconst (1), 1), (15, .iadd, 1), (16, .putfield 225, 3), (19, .return_, 1)]
theorem kV_breakTooLate : kx_ok mV_breakTooLate 1 := ⟨kx_by 78 (by decide +kernel) (by decide +kernel), kx_by 593 (by decide +kernel) (by decide +kernel), by decide, ⟨by decide, by decide⟩, by decide +kernel⟩
def mB_addRow : kx_M := (⟨"VersionedTables$Table", "addRow", "(IIIII)I"⟩, prog_7_method_2_code, 8, (some .int), [])
def tB_addRow : kx_T := [(0, .iconst (4), 1), (1, .newarray .int, 2), (3, .dup, 1), (4, .iconst (0), 1), (5, .iload_n 2, 1), (6, .iastore, 1), (7, .dup, 1), (8, .iconst (1), 1), (9, .iload_n 3, 1), (10, .iastore, 1), (11, .dup, 1), (12, .iconst (2), 1), (13, .iload 4, 2), (15, .iastore, 1), (16, .dup, 1), (17, .iconst (3), 1), (18, .iload 5, 2), (20, .iastore, 1), (21, .astore 6, 2), (23, .aload_n 0, 1), (24, .getfield 24, 3), (27, .istore 7, 2), (29, .iload 7, 2), (31, .iconst (4), 1), (32, .if_icmp .ge (15), 3), (35, .aload 6, 2), (37, .iload 7, 2), (39, .iconst (0), 1), (40, .iastore, 1), (41, .iinc 7 (1), 3), (44, .goto (-15), 3), (47, .aload_n 0, 1), (48, .getfield 11, 3), (51, .aload_n 0, 1), (52, .getfield 17, 3), (55, .aaload, 1), (56, .iload_n 1, 1), (57, .aload 6, 2), (59, .iconst (0), 1), (60, .invokevirtual 28, 3), (63, .aload_n 0, 1), (64, .dup, 1), (65, .getfield 17, 3), (68, .iconst (1), 1), (69, .iadd, 1), (70, .putfield 17, 3), (73, .aload_n 0, 1), (74, .getfield 17, 3), (77, .iconst (1), 1), (78, .isub, 1), (79, .ireturn, 1)]
theorem kB_addRow : kx_ok mB_addRow 5 := ⟨kx_by 88 (by decide +kernel) (by decide +kernel), kx_by 613 (by decide +kernel) (by decide +kernel), by decide, ⟨by decide, by decide⟩, by decide +kernel⟩
def mR_write : kx_M := (⟨"VersionedTables$Row", "write", "(I[IZ)V"⟩, prog_4_method_4_code, 4, none, [])
def tR_write : kx_T := [(0, .aload_n 0, 1), (1, .getfield 11, 3), (4, .iload_n 1, 1), (5, .aaload, 1), (6, .ifnonnull (17), 3), (9, .aload_n 0, 1), (10, .getfield 11, 3), (13, .iload_n 1, 1), (14, .new 9, 3), (17, .dup, 1), (18, .iload_n 1, 1), (19, .invokespecial 17, 3), (22, .aastore, 1), (23, .aload_n 0, 1), (24, .getfield 11, 3), (27, .iload_n 1, 1), (28, .aaload, 1), (29, .aload_n 2, 1), (30, .iload_n 3, 1), (31, .invokevirtual 20, 3), (34, .return_, 1)]
theorem kR_write : kx_ok mR_write 3 := ⟨kx_by 89 (by decide +kernel) (by decide +kernel), kx_by 617 (by decide +kernel) (by decide +kernel), by decide, ⟨by decide, by decide⟩, by decide +kernel⟩
def mN_init : kx_M := (⟨"VersionedTables$Version", "<init>", "(I)V"⟩, prog_9_method_1_code, 2, none, [])
def tN_init : kx_T := [(0, .aload_n 0, 1), (1, .invokespecial 3, 3), (4, .aload_n 0, 1), (5, .iconst (4), 1), (6, .newarray .int, 2), (8, .putfield 9, 3), (11, .aload_n 0, 1), (12, .iconst (0), 1), (13, .putfield 15, 3), (16, .aload_n 0, 1), (17, .iload_n 1, 1), (18, .putfield 19, 3), (21, .aload_n 0, 1), (22, .iload_n 1, 1), (23, .putfield 23, 3), (26, .return_, 1)]
theorem kN_init : kx_ok mN_init 1 := ⟨kx_by 95 (by decide +kernel) (by decide +kernel), kx_by 621 (by decide +kernel) (by decide +kernel), by decide, ⟨by decide, by decide⟩, by decide +kernel⟩
def mN_put : kx_M := (⟨"VersionedTables$Version", "put", "([IZ)V"⟩, prog_9_method_2_code, 3, none, [])
def tN_put : kx_T := [(0, .aload_n 1, 1), (1, .iconst (0), 1), (2, .aload_n 0, 1), (3, .getfield 9, 3), (6, .iconst (0), 1), (7, .iconst (4), 1), (8, .invokestatic 26, 3), (11, .aload_n 0, 1), (12, .iload_n 2, 1), (13, .putfield 15, 3), (16, .return_, 1)]
theorem kN_put : kx_ok mN_put 2 := ⟨kx_by 95 (by decide +kernel) (by decide +kernel), kx_by 644 (by decide +kernel) (by decide +kernel), by decide, ⟨by decide, by decide⟩, by decide +kernel⟩
def mL_select : kx_M := (⟨"VersionedTablesLaw", "select", "(LVersionedTables;II[J)I"⟩, method_11_code, 5, (some .int), [(0, 10, 13, 35), (0, 10, 17, 15), (0, 10, 21, 50)])
def tL_select : kx_T := [(0, .aload_n 3, 1), (1, .iconst (0), 1), (2, .aload_n 0, 1), (3, .iload_n 1, 1), (4, .iload_n 2, 1), (5, .invokevirtual 46, 3), (8, .i2l, 1), (9, .lastore, 1), (10, .goto (15), 3), (13, .astore 4, 2), (15, .iconst (1), 1), (16, .ireturn, 1), (17, .astore 4, 2), (19, .iconst (2), 1), (20, .ireturn, 1), (21, .astore 4, 2), (23, .iconst (3), 1), (24, .ireturn, 1), (25, .iconst (0), 1), (26, .ireturn, 1)]
theorem kL_select : kx_ok mL_select 4 := ⟨kx_by 77 (by decide +kernel) (by decide +kernel), kx_by 650 (by decide +kernel) (by decide +kernel), by decide, ⟨by decide, by decide⟩, by decide +kernel⟩
def mV_select : kx_M := (⟨"VersionedTables", "select", "(II)I"⟩, prog_1_method_12_code, 5, (some .int), [])
def tV_select : kx_T := [(0, .aload_n 0, 1), (1, .iload_n 1, 1), (2, .invokevirtual 110, 3), (5, .aload_n 0, 1), (6, .iload_n 2, 1), (7, .invokevirtual 127, 3), (10, .astore_n 3, 1), (11, .aload_n 0, 1), (12, .iload_n 1, 1), (13, .aload_n 3, 1), (14, .invokevirtual 151, 3), (17, .aload_n 3, 1), (18, .iload_n 1, 1), (19, .invokevirtual 155, 3), (22, .aload_n 0, 1), (23, .getfield 47, 3), (26, .astore 4, 2), (28, .aload_n 0, 1), (29, .aload_n 0, 1), (30, .getfield 51, 3), (33, .putfield 47, 3), (36, .aload_n 0, 1), (37, .aload 4, 2), (39, .putfield 51, 3), (42, .aload_n 0, 1), (43, .getfield 47, 3), (46, .getfield 158, 3), (49, .ireturn, 1)]
theorem kV_select : kx_ok mV_select 2 := ⟨kx_by 78 (by decide +kernel) (by decide +kernel), kx_by 655 (by decide +kernel) (by decide +kernel), by decide, ⟨by decide, by decide⟩, by decide +kernel⟩
def mV_choose : kx_M := (⟨"VersionedTables", "choose", "(ILVersionedTables$Table;)V"⟩, prog_1_method_26_code, 5, none, [])
def tV_choose : kx_T := [(0, .aload_n 0, 1), (1, .getfield 51, 3), (4, .iconst (0), 1), (5, .putfield 158, 3), (8, .iconst (0), 1), (9, .istore_n 3, 1), (10, .iload_n 3, 1), (11, .aload_n 2, 1), (12, .getfield 131, 3), (15, .if_icmp .ge (100), 3), (18, .aload_n 2, 1), (19, .getfield 207, 3), (22, .iload_n 3, 1), (23, .aaload, 1), (24, .iload_n 1, 1), (25, .invokevirtual 251, 3), (28, .astore 4, 2), (30, .aload 4, 2), (32, .ifnull (77), 3), (35, .aload 4, 2), (37, .getfield 255, 3), (40, .iload_n 1, 1), (41, .if_icmp .eq (32), 3), (44, .aload_n 0, 1), (45, .getfield 18, 3), (48, .aload 4, 2), (50, .getfield 255, 3), (53, .getstatic 215, 3), (56, .invokevirtual 236, 3), (59, .ifCond .eq (14), 3), (62, .new 64, 3), (65, .dup, 1), (66, .ldc_w 260, 3), (69, .invokespecial 68, 3), (72, .athrow, 1), (73, .aload 4, 2), (75, .getfield 262, 3), (78, .ifCond .ne (31), 3), (81, .aload_n 0, 1), (82, .getfield 36, 3), (85, .aload 4, 2), (87, .getfield 266, 3), (90, .invokevirtual 268, 3), (93, .ifCond .eq (16), 3), (96, .aload_n 0, 1), (97, .getfield 51, 3), (100, .iload_n 3, 1), (101, .aload 4, 2), (103, .getfield 266, 3), (106, .invokevirtual 272, 3), (109, .iinc 3 (1), 3), (112, .goto (-102), 3), (115, .return_, 1)]
theorem kV_choose : kx_ok mV_choose 2 := ⟨kx_by 78 (by decide +kernel) (by decide +kernel), kx_by 659 (by decide +kernel) (by decide +kernel), by decide, ⟨by decide, by decide⟩, by decide +kernel⟩
def mR_holding : kx_M := (⟨"VersionedTables$Row", "holding", "(I)LVersionedTables$Version;"⟩, prog_4_method_3_code, 3, (some (.object "VersionedTables$Version")), [])
def tR_holding : kx_T := [(0, .iload_n 1, 1), (1, .istore_n 2, 1), (2, .iload_n 2, 1), (3, .ifCond .le (25), 3), (6, .aload_n 0, 1), (7, .getfield 11, 3), (10, .iload_n 2, 1), (11, .aaload, 1), (12, .ifnull (10), 3), (15, .aload_n 0, 1), (16, .getfield 11, 3), (19, .iload_n 2, 1), (20, .aaload, 1), (21, .areturn, 1), (22, .iinc 2 (-1), 3), (25, .goto (-23), 3), (28, .aconst_null, 1), (29, .areturn, 1)]
theorem kR_holding : kx_ok mR_holding 1 := ⟨kx_by 89 (by decide +kernel) (by decide +kernel), kx_by 663 (by decide +kernel) (by decide +kernel), by decide, ⟨by decide, by decide⟩, by decide +kernel⟩
def mP_holds : kx_M := (⟨"VersionedTables$Program", "holds", "([I)Z"⟩, prog_3_method_3_code, 2, (some .boolean), [])
def tP_holds : kx_T := [(0, .aload_n 0, 1), (1, .getfield 18, 3), (4, .ifCond .eq (11), 3), (7, .aload_n 0, 1), (8, .aload_n 1, 1), (9, .invokevirtual 25, 3), (12, .ifCond .eq (7), 3), (15, .iconst (1), 1), (16, .goto (4), 3), (19, .iconst (0), 1), (20, .ireturn, 1)]
theorem kP_holds : kx_ok mP_holds 1 := ⟨kx_by 80 (by decide +kernel) (by decide +kernel), kx_by 668 (by decide +kernel) (by decide +kernel), by decide, ⟨by decide, by decide⟩, by decide +kernel⟩
def mP_work : kx_M := (⟨"VersionedTables$Program", "work", "([I)I"⟩, prog_3_method_4_code, 3, (some .int), [])
def tP_work : kx_T := [(0, .aload_n 0, 1), (1, .iconst (0), 1), (2, .putfield 22, 3), (5, .iconst (0), 1), (6, .istore_n 2, 1), (7, .iload_n 2, 1), (8, .aload_n 0, 1), (9, .getfield 18, 3), (12, .if_icmp .ge (24), 3), (15, .aload_n 0, 1), (16, .aload_n 0, 1), (17, .aload_n 0, 1), (18, .getfield 9, 3), (21, .iload_n 2, 1), (22, .iaload, 1), (23, .aload_n 1, 1), (24, .invokevirtual 29, 3), (27, .invokevirtual 33, 3), (30, .iinc 2 (1), 3), (33, .goto (-26), 3), (36, .aload_n 0, 1), (37, .invokevirtual 37, 3), (40, .ireturn, 1)]
theorem kP_work : kx_ok mP_work 1 := ⟨kx_by 80 (by decide +kernel) (by decide +kernel), kx_by 672 (by decide +kernel) (by decide +kernel), by decide, ⟨by decide, by decide⟩, by decide +kernel⟩
def mP_workStep : kx_M := (⟨"VersionedTables$Program", "workStep", "(I[I)I"⟩, prog_3_method_5_code, 4, (some .int), [])
def tP_workStep : kx_T := [(0, .iload_n 1, 1), (1, .sipush (128), 3), (4, .if_icmp .lt (9), 3), (7, .iload_n 1, 1), (8, .sipush (128), 3), (11, .isub, 1), (12, .ireturn, 1), (13, .iload_n 1, 1), (14, .invokestatic 41, 3), (17, .ifCond .eq (10), 3), (20, .aload_n 2, 1), (21, .iload_n 1, 1), (22, .bipush (97), 2), (24, .isub, 1), (25, .iaload, 1), (26, .ireturn, 1), (27, .aload_n 0, 1), (28, .invokevirtual 37, 3), (31, .istore_n 3, 1), (32, .iload_n 1, 1), (33, .bipush (33), 2), (35, .if_icmp .ne (16), 3), (38, .iload_n 3, 1), (39, .ifCond .ne (7), 3), (42, .iconst (1), 1), (43, .goto (4), 3), (46, .iconst (0), 1), (47, .invokestatic 45, 3), (50, .ireturn, 1), (51, .iload_n 1, 1), (52, .aload_n 0, 1), (53, .invokevirtual 37, 3), (56, .iload_n 3, 1), (57, .invokestatic 49, 3), (60, .ireturn, 1)]
theorem kP_workStep : kx_ok mP_workStep 2 := ⟨kx_by 80 (by decide +kernel) (by decide +kernel), kx_by 676 (by decide +kernel) (by decide +kernel), by decide, ⟨by decide, by decide⟩, by decide +kernel⟩
def mP_pop : kx_M := (⟨"VersionedTables$Program", "pop", "()I"⟩, prog_3_method_7_code, 1, (some .int), [])
def tP_pop : kx_T := [(0, .aload_n 0, 1), (1, .getfield 22, 3), (4, .ifCond .ne (5), 3), (7, .iconst (0), 1), (8, .ireturn, 1), (9, .aload_n 0, 1), (10, .dup, 1), (11, .getfield 22, 3), (14, .iconst (1), 1), (15, .isub, 1), (16, .putfield 22, 3), (19, .aload_n 0, 1), (20, .getfield 15, 3), (23, .aload_n 0, 1), (24, .getfield 22, 3), (27, .iaload, 1), (28, .ireturn, 1)]
theorem kP_pop : kx_ok mP_pop 0 := ⟨kx_by 80 (by decide +kernel) (by decide +kernel), kx_by 681 (by decide +kernel) (by decide +kernel), by decide, ⟨by decide, by decide⟩, by decide +kernel⟩
def mP_truth : kx_M := (⟨"VersionedTables$Program", "truth", "(Z)I"⟩, prog_3_method_10_code, 1, (some .int), [])
def tP_truth : kx_T := [(0, .iload_n 0, 1), (1, .ifCond .eq (7), 3), (4, .iconst (1), 1), (5, .goto (4), 3), (8, .iconst (0), 1), (9, .ireturn, 1)]
theorem kP_truth : kx_ok mP_truth 1 := ⟨kx_by 80 (by decide +kernel) (by decide +kernel), kx_by 684 (by decide +kernel) (by decide +kernel), by decide, ⟨by decide, by decide⟩, by decide +kernel⟩
def mP_combine : kx_M := (⟨"VersionedTables$Program", "combine", "(III)I"⟩, prog_3_method_8_code, 3, (some .int), [])
def tP_combine : kx_T := [(0, .iload_n 0, 1), (1, .tableswitch (205) (35) (62) #[159, 205, 205, 201, 205, 205, 205, 135, 127, 205, 131, 205, 139, 205, 205, 205, 205, 205, 205, 205, 205, 205, 205, 205, 205, 173, 145, 187], 127), (128, .iload_n 1, 1), (129, .iload_n 2, 1), (130, .iadd, 1), (131, .ireturn, 1), (132, .iload_n 1, 1), (133, .iload_n 2, 1), (134, .isub, 1), (135, .ireturn, 1), (136, .iload_n 1, 1), (137, .iload_n 2, 1), (138, .imul, 1), (139, .ireturn, 1), (140, .iload_n 1, 1), (141, .iload_n 2, 1), (142, .invokestatic 53, 3), (145, .ireturn, 1), (146, .iload_n 1, 1), (147, .iload_n 2, 1), (148, .if_icmp .ne (7), 3), (151, .iconst (1), 1), (152, .goto (4), 3), (155, .iconst (0), 1), (156, .invokestatic 45, 3), (159, .ireturn, 1), (160, .iload_n 1, 1), (161, .iload_n 2, 1), (162, .if_icmp .eq (7), 3), (165, .iconst (1), 1), (166, .goto (4), 3), (169, .iconst (0), 1), (170, .invokestatic 45, 3), (173, .ireturn, 1), (174, .iload_n 1, 1), (175, .iload_n 2, 1), (176, .if_icmp .ge (7), 3), (179, .iconst (1), 1), (180, .goto (4), 3), (183, .iconst (0), 1), (184, .invokestatic 45, 3), (187, .ireturn, 1), (188, .iload_n 1, 1), (189, .iload_n 2, 1), (190, .if_icmp .le (7), 3), (193, .iconst (1), 1), (194, .goto (4), 3), (197, .iconst (0), 1), (198, .invokestatic 45, 3), (201, .ireturn, 1), (202, .iload_n 1, 1), (203, .iload_n 2, 1), (204, .iand, 1), (205, .ireturn, 1), (206, .iload_n 1, 1), (207, .iload_n 2, 1), (208, .ior, 1), (209, .ireturn, 1)]
theorem kP_combine : kx_ok mP_combine 3 := ⟨kx_by 80 (by decide +kernel) (by decide +kernel), kx_by 687 (by decide +kernel) (by decide +kernel), by decide, ⟨by decide, by decide⟩, by decide +kernel⟩
def mP_divide : kx_M := (⟨"VersionedTables$Program", "divide", "(II)I"⟩, prog_3_method_9_code, 2, (some .int), [])
def tP_divide : kx_T := [(0, .iload_n 1, 1), (1, .ifCond .ne (13), 3), (4, .new 57, 3), (7, .dup, 1), (8, .ldc 59, 2), (10, .invokespecial 61, 3), (13, .athrow, 1), (14, .iload_n 0, 1), (15, .iload_n 1, 1), (16, .idiv, 1), (17, .ireturn, 1)]
theorem kP_divide : kx_ok mP_divide 2 := ⟨kx_by 80 (by decide +kernel) (by decide +kernel), kx_by 690 (by decide +kernel) (by decide +kernel), by decide, ⟨by decide, by decide⟩, by decide +kernel⟩
def mP_push : kx_M := (⟨"VersionedTables$Program", "push", "(I)V"⟩, prog_3_method_6_code, 2, none, [])
def tP_push : kx_T := [(0, .aload_n 0, 1), (1, .getfield 22, 3), (4, .bipush (40), 2), (6, .if_icmp .ge (23), 3), (9, .aload_n 0, 1), (10, .getfield 15, 3), (13, .aload_n 0, 1), (14, .getfield 22, 3), (17, .iload_n 1, 1), (18, .iastore, 1), (19, .aload_n 0, 1), (20, .dup, 1), (21, .getfield 22, 3), (24, .iconst (1), 1), (25, .iadd, 1), (26, .putfield 22, 3), (29, .return_, 1)]
theorem kP_push : kx_ok mP_push 1 := ⟨kx_by 80 (by decide +kernel) (by decide +kernel), kx_by 710 (by decide +kernel) (by decide +kernel), by decide, ⟨by decide, by decide⟩, by decide +kernel⟩
def mS_add : kx_M := (⟨"VersionedTables$RowSet", "add", "(I[I)V"⟩, prog_5_method_2_code, 3, none, [])
def tS_add : kx_T := [(0, .aload_n 0, 1), (1, .getfield 20, 3), (4, .bipush (24), 2), (6, .if_icmp .ge (39), 3), (9, .aload_n 0, 1), (10, .getfield 9, 3), (13, .aload_n 0, 1), (14, .getfield 20, 3), (17, .iload_n 1, 1), (18, .iastore, 1), (19, .aload_n 2, 1), (20, .iconst (0), 1), (21, .aload_n 0, 1), (22, .getfield 17, 3), (25, .aload_n 0, 1), (26, .getfield 20, 3), (29, .aaload, 1), (30, .iconst (0), 1), (31, .iconst (4), 1), (32, .invokestatic 24, 3), (35, .aload_n 0, 1), (36, .dup, 1), (37, .getfield 20, 3), (40, .iconst (1), 1), (41, .iadd, 1), (42, .putfield 20, 3), (45, .return_, 1)]
theorem kS_add : kx_ok mS_add 2 := ⟨kx_by 81 (by decide +kernel) (by decide +kernel), kx_by 714 (by decide +kernel) (by decide +kernel), by decide, ⟨by decide, by decide⟩, by decide +kernel⟩
def mB_markRead : kx_M := (⟨"VersionedTables$Table", "markRead", "(I)V"⟩, prog_7_method_5_code, 4, none, [])
def tB_markRead : kx_T := [(0, .aload_n 0, 1), (1, .aload_n 0, 1), (2, .getfield 21, 3), (5, .iload_n 1, 1), (6, .invokestatic 40, 3), (9, .putfield 21, 3), (12, .iconst (0), 1), (13, .istore_n 2, 1), (14, .iload_n 2, 1), (15, .aload_n 0, 1), (16, .getfield 17, 3), (19, .if_icmp .ge (36), 3), (22, .aload_n 0, 1), (23, .getfield 11, 3), (26, .iload_n 2, 1), (27, .aaload, 1), (28, .iload_n 1, 1), (29, .invokevirtual 46, 3), (32, .astore_n 3, 1), (33, .aload_n 3, 1), (34, .ifnull (15), 3), (37, .aload_n 3, 1), (38, .aload_n 3, 1), (39, .getfield 50, 3), (42, .iload_n 1, 1), (43, .invokestatic 40, 3), (46, .putfield 50, 3), (49, .iinc 2 (1), 3), (52, .goto (-38), 3), (55, .return_, 1)]
theorem kB_markRead : kx_ok mB_markRead 1 := ⟨kx_by 88 (by decide +kernel) (by decide +kernel), kx_by 719 (by decide +kernel) (by decide +kernel), by decide, ⟨by decide, by decide⟩, by decide +kernel⟩
def mL_update : kx_M := (⟨"VersionedTablesLaw", "update", "(LVersionedTables;II[J)I"⟩, method_12_code, 5, (some .int), [(0, 10, 13, 35), (0, 10, 17, 13), (0, 10, 21, 15), (0, 10, 25, 50), (0, 10, 29, 44)])
def tL_update : kx_T := [(0, .aload_n 3, 1), (1, .iconst (0), 1), (2, .aload_n 0, 1), (3, .iload_n 1, 1), (4, .iload_n 2, 1), (5, .invokevirtual 52, 3), (8, .i2l, 1), (9, .lastore, 1), (10, .goto (23), 3), (13, .astore 4, 2), (15, .iconst (1), 1), (16, .ireturn, 1), (17, .astore 4, 2), (19, .iconst (2), 1), (20, .ireturn, 1), (21, .astore 4, 2), (23, .iconst (3), 1), (24, .ireturn, 1), (25, .astore 4, 2), (27, .iconst (4), 1), (28, .ireturn, 1), (29, .astore 4, 2), (31, .iconst (5), 1), (32, .ireturn, 1), (33, .iconst (0), 1), (34, .ireturn, 1)]
theorem kL_update : kx_ok mL_update 4 := ⟨kx_by 77 (by decide +kernel) (by decide +kernel), kx_by 726 (by decide +kernel) (by decide +kernel), by decide, ⟨by decide, by decide⟩, by decide +kernel⟩
def mV_update : kx_M := (⟨"VersionedTables", "update", "(II)I"⟩, prog_1_method_13_code, 4, (some .int), [])
def tV_update : kx_T := [(0, .aload_n 0, 1), (1, .iload_n 1, 1), (2, .invokevirtual 110, 3), (5, .aload_n 0, 1), (6, .iload_n 2, 1), (7, .invokevirtual 127, 3), (10, .astore_n 3, 1), (11, .aload_n 0, 1), (12, .aload_n 3, 1), (13, .getfield 161, 3), (16, .invokevirtual 164, 3), (19, .aload_n 0, 1), (20, .iload_n 1, 1), (21, .aload_n 3, 1), (22, .invokevirtual 151, 3), (25, .aload_n 0, 1), (26, .invokevirtual 167, 3), (29, .aload_n 0, 1), (30, .iload_n 1, 1), (31, .aload_n 3, 1), (32, .iconst (0), 1), (33, .invokevirtual 170, 3), (36, .aload_n 0, 1), (37, .getfield 51, 3), (40, .getfield 158, 3), (43, .ireturn, 1)]
theorem kV_update : kx_ok mV_update 2 := ⟨kx_by 78 (by decide +kernel) (by decide +kernel), kx_by 730 (by decide +kernel) (by decide +kernel), by decide, ⟨by decide, by decide⟩, by decide +kernel⟩
def mV_refuseSettingsBeyond : kx_M := (⟨"VersionedTables", "refuseSettingsBeyond", "(I)V"⟩, prog_1_method_25_code, 3, none, [])
def tV_refuseSettingsBeyond : kx_T := [(0, .iload_n 1, 1), (1, .istore_n 2, 1), (2, .iload_n 2, 1), (3, .iconst (4), 1), (4, .if_icmp .ge (28), 3), (7, .aload_n 0, 1), (8, .getfield 40, 3), (11, .iload_n 2, 1), (12, .aaload, 1), (13, .ifnull (13), 3), (16, .new 57, 3), (19, .dup, 1), (20, .ldc 249, 2), (22, .invokespecial 61, 3), (25, .athrow, 1), (26, .iinc 2 (1), 3), (29, .goto (-27), 3), (32, .return_, 1)]
theorem kV_refuseSettingsBeyond : kx_ok mV_refuseSettingsBeyond 1 := ⟨kx_by 78 (by decide +kernel) (by decide +kernel), kx_by 734 (by decide +kernel) (by decide +kernel), by decide, ⟨by decide, by decide⟩, by decide +kernel⟩
def mV_workOutSettings : kx_M := (⟨"VersionedTables", "workOutSettings", "()V"⟩, prog_1_method_27_code, 5, none, [])
def tV_workOutSettings : kx_T := [(0, .iconst (0), 1), (1, .istore_n 1, 1), (2, .iload_n 1, 1), (3, .aload_n 0, 1), (4, .getfield 51, 3), (7, .getfield 158, 3), (10, .if_icmp .ge (68), 3), (13, .aload_n 0, 1), (14, .getfield 51, 3), (17, .getfield 185, 3), (20, .iload_n 1, 1), (21, .aaload, 1), (22, .astore_n 2, 1), (23, .aload_n 2, 1), (24, .iconst (0), 1), (25, .aload_n 0, 1), (26, .getfield 54, 3), (29, .iconst (0), 1), (30, .iconst (4), 1), (31, .invokestatic 276, 3), (34, .iconst (0), 1), (35, .istore_n 3, 1), (36, .iload_n 3, 1), (37, .iconst (4), 1), (38, .if_icmp .ge (34), 3), (41, .aload_n 0, 1), (42, .getfield 40, 3), (45, .iload_n 3, 1), (46, .aaload, 1), (47, .astore 4, 2), (49, .aload 4, 2), (51, .ifnull (15), 3), (54, .aload_n 2, 1), (55, .iload_n 3, 1), (56, .aload 4, 2), (58, .aload_n 0, 1), (59, .getfield 54, 3), (62, .invokevirtual 282, 3), (65, .iastore, 1), (66, .iinc 3 (1), 3), (69, .goto (-33), 3), (72, .iinc 1 (1), 3), (75, .goto (-73), 3), (78, .return_, 1)]
theorem kV_workOutSettings : kx_ok mV_workOutSettings 0 := ⟨kx_by 78 (by decide +kernel) (by decide +kernel), kx_by 739 (by decide +kernel) (by decide +kernel), by decide, ⟨by decide, by decide⟩, by decide +kernel⟩
def mV_write : kx_M := (⟨"VersionedTables", "write", "(ILVersionedTables$Table;Z)V"⟩, prog_1_method_28_code, 5, none, [])
def tV_write : kx_T := [(0, .aload_n 0, 1), (1, .iload_n 1, 1), (2, .aload_n 2, 1), (3, .invokevirtual 286, 3), (6, .ifCond .eq (18), 3), (9, .aload_n 0, 1), (10, .iload_n 1, 1), (11, .invokevirtual 139, 3), (14, .new 142, 3), (17, .dup, 1), (18, .ldc 144, 2), (20, .invokespecial 146, 3), (23, .athrow, 1), (24, .aload_n 2, 1), (25, .iload_n 1, 1), (26, .invokevirtual 155, 3), (29, .iconst (0), 1), (30, .istore 4, 2), (32, .iload 4, 2), (34, .aload_n 0, 1), (35, .getfield 51, 3), (38, .getfield 158, 3), (41, .if_icmp .ge (39), 3), (44, .aload_n 2, 1), (45, .getfield 207, 3), (48, .aload_n 0, 1), (49, .getfield 51, 3), (52, .getfield 179, 3), (55, .iload 4, 2), (57, .iaload, 1), (58, .aaload, 1), (59, .iload_n 1, 1), (60, .aload_n 0, 1), (61, .getfield 51, 3), (64, .getfield 185, 3), (67, .iload 4, 2), (69, .aaload, 1), (70, .iload_n 3, 1), (71, .invokevirtual 290, 3), (74, .iinc 4 (1), 3), (77, .goto (-45), 3), (80, .return_, 1)]
theorem kV_write : kx_ok mV_write 3 := ⟨kx_by 78 (by decide +kernel) (by decide +kernel), kx_by 745 (by decide +kernel) (by decide +kernel), by decide, ⟨by decide, by decide⟩, by decide +kernel⟩
def mV_isTooLate : kx_M := (⟨"VersionedTables", "isTooLate", "(ILVersionedTables$Table;)Z"⟩, prog_1_method_29_code, 5, (some .boolean), [])
def tV_isTooLate : kx_T := [(0, .iconst (0), 1), (1, .istore_n 3, 1), (2, .iload_n 3, 1), (3, .aload_n 0, 1), (4, .getfield 51, 3), (7, .getfield 158, 3), (10, .if_icmp .ge (45), 3), (13, .aload_n 2, 1), (14, .getfield 207, 3), (17, .aload_n 0, 1), (18, .getfield 51, 3), (21, .getfield 179, 3), (24, .iload_n 3, 1), (25, .iaload, 1), (26, .aaload, 1), (27, .iload_n 1, 1), (28, .invokevirtual 251, 3), (31, .astore 4, 2), (33, .aload 4, 2), (35, .ifnull (14), 3), (38, .aload 4, 2), (40, .getfield 293, 3), (43, .iload_n 1, 1), (44, .if_icmp .le (5), 3), (47, .iconst (1), 1), (48, .ireturn, 1), (49, .iinc 3 (1), 3), (52, .goto (-50), 3), (55, .iconst (0), 1), (56, .ireturn, 1)]
theorem kV_isTooLate : kx_ok mV_isTooLate 2 := ⟨kx_by 78 (by decide +kernel) (by decide +kernel), kx_by 749 (by decide +kernel) (by decide +kernel), by decide, ⟨by decide, by decide⟩, by decide +kernel⟩
def mL_delete : kx_M := (⟨"VersionedTablesLaw", "delete", "(LVersionedTables;II[J)I"⟩, method_13_code, 5, (some .int), [(0, 10, 13, 35), (0, 10, 17, 15), (0, 10, 21, 50), (0, 10, 25, 44)])
def tL_delete : kx_T := [(0, .aload_n 3, 1), (1, .iconst (0), 1), (2, .aload_n 0, 1), (3, .iload_n 1, 1), (4, .iload_n 2, 1), (5, .invokevirtual 55, 3), (8, .i2l, 1), (9, .lastore, 1), (10, .goto (19), 3), (13, .astore 4, 2), (15, .iconst (1), 1), (16, .ireturn, 1), (17, .astore 4, 2), (19, .iconst (2), 1), (20, .ireturn, 1), (21, .astore 4, 2), (23, .iconst (3), 1), (24, .ireturn, 1), (25, .astore 4, 2), (27, .iconst (4), 1), (28, .ireturn, 1), (29, .iconst (0), 1), (30, .ireturn, 1)]
theorem kL_delete : kx_ok mL_delete 4 := ⟨kx_by 77 (by decide +kernel) (by decide +kernel), kx_by 753 (by decide +kernel) (by decide +kernel), by decide, ⟨by decide, by decide⟩, by decide +kernel⟩
def mV_delete : kx_M := (⟨"VersionedTables", "delete", "(II)I"⟩, prog_1_method_14_code, 4, (some .int), [])
def tV_delete : kx_T := [(0, .aload_n 0, 1), (1, .iload_n 1, 1), (2, .invokevirtual 110, 3), (5, .aload_n 0, 1), (6, .iload_n 2, 1), (7, .invokevirtual 127, 3), (10, .astore_n 3, 1), (11, .aload_n 0, 1), (12, .iload_n 1, 1), (13, .aload_n 3, 1), (14, .invokevirtual 151, 3), (17, .aload_n 0, 1), (18, .iload_n 1, 1), (19, .aload_n 3, 1), (20, .iconst (1), 1), (21, .invokevirtual 170, 3), (24, .aload_n 0, 1), (25, .getfield 51, 3), (28, .getfield 158, 3), (31, .ireturn, 1)]
theorem kV_delete : kx_ok mV_delete 2 := ⟨kx_by 78 (by decide +kernel) (by decide +kernel), kx_by 757 (by decide +kernel) (by decide +kernel), by decide, ⟨by decide, by decide⟩, by decide +kernel⟩
def mL_result : kx_M := (⟨"VersionedTablesLaw", "result", "(LVersionedTables;II[J)I"⟩, method_14_code, 5, (some .int), [(0, 10, 13, 35), (0, 10, 17, 61)])
def tL_result : kx_T := [(0, .aload_n 3, 1), (1, .iconst (0), 1), (2, .aload_n 0, 1), (3, .iload_n 1, 1), (4, .iload_n 2, 1), (5, .invokevirtual 58, 3), (8, .i2l, 1), (9, .lastore, 1), (10, .goto (11), 3), (13, .astore 4, 2), (15, .iconst (1), 1), (16, .ireturn, 1), (17, .astore 4, 2), (19, .iconst (2), 1), (20, .ireturn, 1), (21, .iconst (0), 1), (22, .ireturn, 1)]
theorem kL_result : kx_ok mL_result 4 := ⟨kx_by 77 (by decide +kernel) (by decide +kernel), kx_by 760 (by decide +kernel) (by decide +kernel), by decide, ⟨by decide, by decide⟩, by decide +kernel⟩
def mV_result : kx_M := (⟨"VersionedTables", "result", "(II)I"⟩, prog_1_method_15_code, 3, (some .int), [])
def tV_result : kx_T := [(0, .iload_n 1, 1), (1, .ifCond .lt (14), 3), (4, .iload_n 1, 1), (5, .aload_n 0, 1), (6, .getfield 47, 3), (9, .getfield 158, 3), (12, .if_icmp .lt (13), 3), (15, .new 174, 3), (18, .dup, 1), (19, .ldc 176, 2), (21, .invokespecial 178, 3), (24, .athrow, 1), (25, .iload_n 2, 1), (26, .iconst (-1), 1), (27, .if_icmp .ne (13), 3), (30, .aload_n 0, 1), (31, .getfield 47, 3), (34, .getfield 179, 3), (37, .iload_n 1, 1), (38, .iaload, 1), (39, .ireturn, 1), (40, .aload_n 0, 1), (41, .iload_n 2, 1), (42, .invokevirtual 182, 3), (45, .aload_n 0, 1), (46, .getfield 47, 3), (49, .getfield 185, 3), (52, .iload_n 1, 1), (53, .aaload, 1), (54, .iload_n 2, 1), (55, .iaload, 1), (56, .ireturn, 1)]
theorem kV_result : kx_ok mV_result 2 := ⟨kx_by 78 (by decide +kernel) (by decide +kernel), kx_by 765 (by decide +kernel) (by decide +kernel), by decide, ⟨by decide, by decide⟩, by decide +kernel⟩
def mV_mustBeColumn : kx_M := (⟨"VersionedTables", "mustBeColumn", "(I)V"⟩, prog_1_method_24_code, 2, none, [])
def tV_mustBeColumn : kx_T := [(0, .iload_n 1, 1), (1, .ifCond .lt (8), 3), (4, .iload_n 1, 1), (5, .iconst (4), 1), (6, .if_icmp .lt (13), 3), (9, .new 244, 3), (12, .dup, 1), (13, .ldc 246, 2), (15, .invokespecial 248, 3), (18, .athrow, 1), (19, .return_, 1)]
theorem kV_mustBeColumn : kx_ok mV_mustBeColumn 1 := ⟨kx_by 78 (by decide +kernel) (by decide +kernel), kx_by 770 (by decide +kernel) (by decide +kernel), by decide, ⟨by decide, by decide⟩, by decide +kernel⟩
def mL_mean : kx_M := (⟨"VersionedTablesLaw", "mean", "(LVersionedTables;I[D)I"⟩, method_15_code, 4, (some .int), [(0, 8, 11, 61), (0, 8, 14, 50)])
def tL_mean : kx_T := [(0, .aload_n 2, 1), (1, .iconst (0), 1), (2, .aload_n 0, 1), (3, .iload_n 1, 1), (4, .invokevirtual 63, 3), (7, .dastore, 1), (8, .goto (9), 3), (11, .astore_n 3, 1), (12, .iconst (1), 1), (13, .ireturn, 1), (14, .astore_n 3, 1), (15, .iconst (2), 1), (16, .ireturn, 1), (17, .iconst (0), 1), (18, .ireturn, 1)]
theorem kL_mean : kx_ok mL_mean 3 := ⟨kx_by 77 (by decide +kernel) (by decide +kernel), kx_by 789 (by decide +kernel) (by decide +kernel), by decide, ⟨by decide, by decide⟩, by decide +kernel⟩
def mV_mean : kx_M := (⟨"VersionedTables", "mean", "(I)D"⟩, prog_1_method_16_code, 2, (some .double), [])
def tV_mean : kx_T := [(0, .aload_n 0, 1), (1, .iload_n 1, 1), (2, .invokevirtual 182, 3), (5, .aload_n 0, 1), (6, .getfield 47, 3), (9, .getfield 158, 3), (12, .ifCond .ne (13), 3), (15, .new 189, 3), (18, .dup, 1), (19, .ldc 191, 2), (21, .invokespecial 193, 3), (24, .athrow, 1), (25, .aload_n 0, 1), (26, .getfield 47, 3), (29, .iload_n 1, 1), (30, .invokevirtual 194, 3), (33, .l2d, 1), (34, .aload_n 0, 1), (35, .getfield 47, 3), (38, .getfield 158, 3), (41, .i2d, 1), (42, .ddiv, 1), (43, .dreturn, 1)]
theorem kV_mean : kx_ok mV_mean 1 := ⟨kx_by 78 (by decide +kernel) (by decide +kernel), kx_by 793 (by decide +kernel) (by decide +kernel), by decide, ⟨by decide, by decide⟩, by decide +kernel⟩
def mS_sum : kx_M := (⟨"VersionedTables$RowSet", "sum", "(I)J"⟩, prog_5_method_3_code, 5, (some .long), [])
def tS_sum : kx_T := [(0, .lconst 0, 1), (1, .lstore_n 2, 1), (2, .iconst (0), 1), (3, .istore 4, 2), (5, .iload 4, 2), (7, .aload_n 0, 1), (8, .getfield 20, 3), (11, .if_icmp .ge (22), 3), (14, .lload_n 2, 1), (15, .aload_n 0, 1), (16, .getfield 17, 3), (19, .iload 4, 2), (21, .aaload, 1), (22, .iload_n 1, 1), (23, .iaload, 1), (24, .i2l, 1), (25, .ladd, 1), (26, .lstore_n 2, 1), (27, .iinc 4 (1), 3), (30, .goto (-25), 3), (33, .lload_n 2, 1), (34, .lreturn, 1)]
theorem kS_sum : kx_ok mS_sum 1 := ⟨kx_by 81 (by decide +kernel) (by decide +kernel), kx_by 800 (by decide +kernel) (by decide +kernel), by decide, ⟨by decide, by decide⟩, by decide +kernel⟩
def mL_versions : kx_M := (⟨"VersionedTablesLaw", "versions", "(LVersionedTables;II[J)I"⟩, method_16_code, 5, (some .int), [(0, 10, 13, 35)])
def tL_versions : kx_T := [(0, .aload_n 3, 1), (1, .iconst (0), 1), (2, .aload_n 0, 1), (3, .iload_n 1, 1), (4, .iload_n 2, 1), (5, .invokevirtual 67, 3), (8, .i2l, 1), (9, .lastore, 1), (10, .goto (7), 3), (13, .astore 4, 2), (15, .iconst (1), 1), (16, .ireturn, 1), (17, .iconst (0), 1), (18, .ireturn, 1)]
theorem kL_versions : kx_ok mL_versions 4 := ⟨kx_by 77 (by decide +kernel) (by decide +kernel), kx_by 803 (by decide +kernel) (by decide +kernel), by decide, ⟨by decide, by decide⟩, by decide +kernel⟩
def mV_versions : kx_M := (⟨"VersionedTables", "versions", "(II)I"⟩, prog_1_method_18_code, 4, (some .int), [])
def tV_versions : kx_T := [(0, .aload_n 0, 1), (1, .iload_n 1, 1), (2, .invokevirtual 127, 3), (5, .astore_n 3, 1), (6, .iload_n 2, 1), (7, .ifCond .lt (11), 3), (10, .iload_n 2, 1), (11, .aload_n 3, 1), (12, .getfield 131, 3), (15, .if_icmp .lt (13), 3), (18, .new 174, 3), (21, .dup, 1), (22, .ldc 205, 2), (24, .invokespecial 178, 3), (27, .athrow, 1), (28, .aload_n 3, 1), (29, .getfield 207, 3), (32, .iload_n 2, 1), (33, .aaload, 1), (34, .invokevirtual 211, 3), (37, .ireturn, 1)]
theorem kV_versions : kx_ok mV_versions 2 := ⟨kx_by 78 (by decide +kernel) (by decide +kernel), kx_by 807 (by decide +kernel) (by decide +kernel), by decide, ⟨by decide, by decide⟩, by decide +kernel⟩
def mM_init : kx_M := (⟨"VersionedTablesModel", "<init>", "()V"⟩, prog_11_method_1_code, 1, none, [])
def tM_init : kx_T := [(0, .aload_n 0, 1), (1, .invokespecial 1, 3), (4, .aload_n 0, 1), (5, .iconst (3), 1), (6, .newarray .int, 2), (8, .putfield 7, 3), (11, .aload_n 0, 1), (12, .iconst (3), 1), (13, .newarray .int, 2), (15, .putfield 13, 3), (18, .aload_n 0, 1), (19, .iconst (3), 1), (20, .newarray .int, 2), (22, .putfield 16, 3), (25, .aload_n 0, 1), (26, .sipush (2880), 3), (29, .newarray .int, 2), (31, .putfield 19, 3), (34, .aload_n 0, 1), (35, .sipush (11520), 3), (38, .newarray .int, 2), (40, .putfield 22, 3), (43, .aload_n 0, 1), (44, .bipush (41), 2), (46, .newarray .int, 2), (48, .putfield 25, 3), (51, .aload_n 0, 1), (52, .bipush (40), 2), (54, .newarray .int, 2), (56, .putfield 28, 3), (59, .aload_n 0, 1), (60, .iconst (-1), 1), (61, .putfield 31, 3), (64, .aload_n 0, 1), (65, .sipush (264), 3), (68, .newarray .int, 2), (70, .putfield 35, 3), (73, .aload_n 0, 1), (74, .bipush (6), 2), (76, .newarray .int, 2), (78, .putfield 38, 3), (81, .aload_n 0, 1), (82, .iconst (4), 1), (83, .newarray .boolean, 2), (85, .putfield 41, 3), (88, .aload_n 0, 1), (89, .bipush (8), 2), (91, .newarray .int, 2), (93, .putfield 45, 3), (96, .aload_n 0, 1), (97, .bipush (44), 2), (99, .newarray .int, 2), (101, .putfield 48, 3), (104, .aload_n 0, 1), (105, .bipush (44), 2), (107, .newarray .int, 2), (109, .putfield 51, 3), (112, .aload_n 0, 1), (113, .bipush (24), 2), (115, .newarray .int, 2), (117, .putfield 54, 3), (120, .aload_n 0, 1), (121, .bipush (96), 2), (123, .newarray .int, 2), (125, .putfield 57, 3), (128, .aload_n 0, 1), (129, .bipush (24), 2), (131, .newarray .int, 2), (133, .putfield 60, 3), (136, .aload_n 0, 1), (137, .bipush (96), 2), (139, .newarray .int, 2), (141, .putfield 63, 3), (144, .aload_n 0, 1), (145, .bipush (24), 2), (147, .newarray .boolean, 2), (149, .putfield 66, 3), (152, .return_, 1)]
theorem kM_init : kx_ok mM_init 0 := ⟨kx_by 82 (by decide +kernel) (by decide +kernel), kx_by 814 (by decide +kernel) (by decide +kernel), by decide, ⟨by decide, by decide⟩, by decide +kernel⟩
def mM_thrown : kx_M := (⟨"VersionedTablesModel", "thrown", "()I"⟩, prog_11_method_2_code, 1, (some .int), [])
def tM_thrown : kx_T := [(0, .aload_n 0, 1), (1, .getfield 69, 3), (4, .ireturn, 1)]
theorem kM_thrown : kx_ok mM_thrown 0 := ⟨kx_by 82 (by decide +kernel) (by decide +kernel), kx_by 908 (by decide +kernel) (by decide +kernel), by decide, ⟨by decide, by decide⟩, by decide +kernel⟩
def mM_create : kx_M := (⟨"VersionedTablesModel", "create", "(II)V"⟩, prog_11_method_5_code, 3, none, [])
def tM_create : kx_T := [(0, .aload_n 0, 1), (1, .iconst (0), 1), (2, .putfield 69, 3), (5, .iload_n 1, 1), (6, .iconst (3), 1), (7, .invokestatic 72, 3), (10, .ifCond .ne (13), 3), (13, .iload_n 2, 1), (14, .iconst (1), 1), (15, .if_icmp .lt (8), 3), (18, .iload_n 2, 1), (19, .iconst (4), 1), (20, .if_icmp .le (11), 3), (23, .aload_n 0, 1), (24, .iconst (1), 1), (25, .putfield 69, 3), (28, .goto (27), 3), (31, .aload_n 0, 1), (32, .getfield 7, 3), (35, .iload_n 1, 1), (36, .iaload, 1), (37, .ifCond .le (11), 3), (40, .aload_n 0, 1), (41, .iconst (2), 1), (42, .putfield 69, 3), (45, .goto (10), 3), (48, .aload_n 0, 1), (49, .getfield 7, 3), (52, .iload_n 1, 1), (53, .iload_n 2, 1), (54, .iastore, 1), (55, .return_, 1)]
theorem kM_create : kx_ok mM_create 2 := ⟨kx_by 82 (by decide +kernel) (by decide +kernel), kx_by 912 (by decide +kernel) (by decide +kernel), by decide, ⟨by decide, by decide⟩, by decide +kernel⟩
def mM_out : kx_M := (⟨"VersionedTablesModel", "out", "(II)Z"⟩, prog_11_method_4_code, 2, (some .boolean), [])
def tM_out : kx_T := [(0, .iload_n 0, 1), (1, .ifCond .lt (8), 3), (4, .iload_n 0, 1), (5, .iload_n 1, 1), (6, .if_icmp .lt (7), 3), (9, .iconst (1), 1), (10, .goto (4), 3), (13, .iconst (0), 1), (14, .ireturn, 1)]
theorem kM_out : kx_ok mM_out 2 := ⟨kx_by 82 (by decide +kernel) (by decide +kernel), kx_by 915 (by decide +kernel) (by decide +kernel), by decide, ⟨by decide, by decide⟩, by decide +kernel⟩
def mM_begin : kx_M := (⟨"VersionedTablesModel", "begin", "()I"⟩, prog_11_method_8_code, 1, (some .int), [])
def tM_begin : kx_T := [(0, .aload_n 0, 1), (1, .iconst (0), 1), (2, .putfield 69, 3), (5, .aload_n 0, 1), (6, .getfield 76, 3), (9, .bipush (40), 2), (11, .if_icmp .ne (9), 3), (14, .aload_n 0, 1), (15, .iconst (1), 1), (16, .invokevirtual 79, 3), (19, .ireturn, 1), (20, .aload_n 0, 1), (21, .dup, 1), (22, .getfield 76, 3), (25, .iconst (1), 1), (26, .iadd, 1), (27, .putfield 76, 3), (30, .aload_n 0, 1), (31, .getfield 25, 3), (34, .aload_n 0, 1), (35, .getfield 76, 3), (38, .iconst (1), 1), (39, .iastore, 1), (40, .aload_n 0, 1), (41, .getfield 76, 3), (44, .ireturn, 1)]
theorem kM_begin : kx_ok mM_begin 0 := ⟨kx_by 82 (by decide +kernel) (by decide +kernel), kx_by 919 (by decide +kernel) (by decide +kernel), by decide, ⟨by decide, by decide⟩, by decide +kernel⟩
def mM_fail : kx_M := (⟨"VersionedTablesModel", "fail", "(I)I"⟩, prog_11_method_3_code, 2, (some .int), [])
def tM_fail : kx_T := [(0, .aload_n 0, 1), (1, .iload_n 1, 1), (2, .putfield 69, 3), (5, .iconst (0), 1), (6, .ireturn, 1)]
theorem kM_fail : kx_ok mM_fail 1 := ⟨kx_by 82 (by decide +kernel) (by decide +kernel), kx_by 923 (by decide +kernel) (by decide +kernel), by decide, ⟨by decide, by decide⟩, by decide +kernel⟩
def mM_commit : kx_M := (⟨"VersionedTablesModel", "commit", "(I)V"⟩, prog_11_method_9_code, 2, none, [])
def tM_commit : kx_T := [(0, .aload_n 0, 1), (1, .iconst (0), 1), (2, .putfield 69, 3), (5, .aload_n 0, 1), (6, .iload_n 1, 1), (7, .invokevirtual 83, 3), (10, .ifCond .eq (11), 3), (13, .aload_n 0, 1), (14, .iconst (1), 1), (15, .putfield 69, 3), (18, .goto (10), 3), (21, .aload_n 0, 1), (22, .getfield 25, 3), (25, .iload_n 1, 1), (26, .iconst (2), 1), (27, .iastore, 1), (28, .return_, 1)]
theorem kM_commit : kx_ok mM_commit 1 := ⟨kx_by 82 (by decide +kernel) (by decide +kernel), kx_by 927 (by decide +kernel) (by decide +kernel), by decide, ⟨by decide, by decide⟩, by decide +kernel⟩
def mM_closed : kx_M := (⟨"VersionedTablesModel", "closed", "(I)Z"⟩, prog_11_method_6_code, 2, (some .boolean), [])
def tM_closed : kx_T := [(0, .iload_n 1, 1), (1, .iconst (1), 1), (2, .if_icmp .lt (21), 3), (5, .iload_n 1, 1), (6, .aload_n 0, 1), (7, .getfield 76, 3), (10, .if_icmp .gt (13), 3), (13, .aload_n 0, 1), (14, .getfield 25, 3), (17, .iload_n 1, 1), (18, .iaload, 1), (19, .iconst (1), 1), (20, .if_icmp .eq (7), 3), (23, .iconst (1), 1), (24, .goto (4), 3), (27, .iconst (0), 1), (28, .ireturn, 1)]
theorem kM_closed : kx_ok mM_closed 1 := ⟨kx_by 82 (by decide +kernel) (by decide +kernel), kx_by 931 (by decide +kernel) (by decide +kernel), by decide, ⟨by decide, by decide⟩, by decide +kernel⟩
def mM_abort : kx_M := (⟨"VersionedTablesModel", "abort", "(I)I"⟩, prog_11_method_11_code, 2, (some .int), [])
def tM_abort : kx_T := [(0, .aload_n 0, 1), (1, .iconst (0), 1), (2, .putfield 69, 3), (5, .aload_n 0, 1), (6, .iload_n 1, 1), (7, .invokevirtual 83, 3), (10, .ifCond .eq (11), 3), (13, .aload_n 0, 1), (14, .iconst (1), 1), (15, .invokevirtual 79, 3), (18, .goto (8), 3), (21, .aload_n 0, 1), (22, .iload_n 1, 1), (23, .invokevirtual 87, 3), (26, .ireturn, 1)]
theorem kM_abort : kx_ok mM_abort 1 := ⟨kx_by 82 (by decide +kernel) (by decide +kernel), kx_by 935 (by decide +kernel) (by decide +kernel), by decide, ⟨by decide, by decide⟩, by decide +kernel⟩
def mM_breakUp : kx_M := (⟨"VersionedTablesModel", "breakUp", "(I)I"⟩, prog_11_method_10_code, 4, (some .int), [])
def tM_breakUp : kx_T := [(0, .aload_n 0, 1), (1, .getfield 25, 3), (4, .iload_n 1, 1), (5, .iconst (3), 1), (6, .iastore, 1), (7, .iconst (0), 1), (8, .istore_n 2, 1), (9, .iload_n 1, 1), (10, .iconst (1), 1), (11, .isub, 1), (12, .istore_n 3, 1), (13, .iload_n 3, 1), (14, .sipush (2880), 3), (17, .if_icmp .ge (28), 3), (20, .aload_n 0, 1), (21, .getfield 19, 3), (24, .iload_n 3, 1), (25, .iaload, 1), (26, .ifCond .eq (6), 3), (29, .iinc 2 (1), 3), (32, .aload_n 0, 1), (33, .getfield 19, 3), (36, .iload_n 3, 1), (37, .iconst (0), 1), (38, .iastore, 1), (39, .iinc 3 (40), 3), (42, .goto (-29), 3), (45, .iload_n 2, 1), (46, .ireturn, 1)]
theorem kM_breakUp : kx_ok mM_breakUp 1 := ⟨kx_by 82 (by decide +kernel) (by decide +kernel), kx_by 939 (by decide +kernel) (by decide +kernel), by decide, ⟨by decide, by decide⟩, by decide +kernel⟩
def mM_type : kx_M := (⟨"VersionedTablesModel", "type", "(I)I"⟩, prog_11_method_12_code, 2, (some .int), [])
def tM_type : kx_T := [(0, .aload_n 0, 1), (1, .iconst (0), 1), (2, .putfield 69, 3), (5, .iload_n 1, 1), (6, .ifCond .lt (9), 3), (9, .iload_n 1, 1), (10, .bipush (127), 2), (12, .if_icmp .le (9), 3), (15, .aload_n 0, 1), (16, .iconst (1), 1), (17, .invokevirtual 79, 3), (20, .ireturn, 1), (21, .aload_n 0, 1), (22, .getfield 90, 3), (25, .bipush (40), 2), (27, .if_icmp .ne (9), 3), (30, .aload_n 0, 1), (31, .iconst (2), 1), (32, .invokevirtual 79, 3), (35, .ireturn, 1), (36, .aload_n 0, 1), (37, .getfield 28, 3), (40, .aload_n 0, 1), (41, .getfield 90, 3), (44, .iload_n 1, 1), (45, .iastore, 1), (46, .aload_n 0, 1), (47, .dup, 1), (48, .getfield 90, 3), (51, .iconst (1), 1), (52, .iadd, 1), (53, .putfield 90, 3), (56, .aload_n 0, 1), (57, .getfield 90, 3), (60, .ireturn, 1)]
theorem kM_type : kx_ok mM_type 1 := ⟨kx_by 82 (by decide +kernel) (by decide +kernel), kx_by 943 (by decide +kernel) (by decide +kernel), by decide, ⟨by decide, by decide⟩, by decide +kernel⟩
def mM_where : kx_M := (⟨"VersionedTablesModel", "where", "()V"⟩, prog_11_method_25_code, 1, none, [])
def tM_where : kx_T := [(0, .aload_n 0, 1), (1, .iconst (0), 1), (2, .putfield 69, 3), (5, .aload_n 0, 1), (6, .iconst (0), 1), (7, .invokevirtual 137, 3), (10, .ifCond .eq (11), 3), (13, .aload_n 0, 1), (14, .iconst (0), 1), (15, .invokevirtual 141, 3), (18, .goto (8), 3), (21, .aload_n 0, 1), (22, .iconst (1), 1), (23, .putfield 69, 3), (26, .return_, 1)]
theorem kM_where : kx_ok mM_where 0 := ⟨kx_by 82 (by decide +kernel) (by decide +kernel), kx_by 947 (by decide +kernel) (by decide +kernel), by decide, ⟨by decide, by decide⟩, by decide +kernel⟩
def mM_read : kx_M := (⟨"VersionedTablesModel", "read", "(Z)Z"⟩, prog_11_method_23_code, 3, (some .boolean), [])
def tM_read : kx_T := [(0, .aload_n 0, 1), (1, .iconst (0), 1), (2, .putfield 96, 3), (5, .aload_n 0, 1), (6, .iconst (0), 1), (7, .putfield 93, 3), (10, .aload_n 0, 1), (11, .iconst (0), 1), (12, .putfield 110, 3), (15, .aload_n 0, 1), (16, .iconst (0), 1), (17, .putfield 113, 3), (20, .iload_n 1, 1), (21, .ifCond .eq (10), 3), (24, .aload_n 0, 1), (25, .invokevirtual 131, 3), (28, .goto (7), 3), (31, .aload_n 0, 1), (32, .invokevirtual 134, 3), (35, .istore_n 2, 1), (36, .aload_n 0, 1), (37, .iload_n 2, 1), (38, .ifCond .eq (7), 3), (41, .iconst (-1), 1), (42, .goto (7), 3), (45, .aload_n 0, 1), (46, .getfield 96, 3), (49, .putfield 31, 3), (52, .aload_n 0, 1), (53, .iconst (0), 1), (54, .putfield 90, 3), (57, .iload_n 2, 1), (58, .ireturn, 1)]
theorem kM_read : kx_ok mM_read 1 := ⟨kx_by 82 (by decide +kernel) (by decide +kernel), kx_by 951 (by decide +kernel) (by decide +kernel), by decide, ⟨by decide, by decide⟩, by decide +kernel⟩
def mM_settingText : kx_M := (⟨"VersionedTablesModel", "settingText", "()Z"⟩, prog_11_method_22_code, 1, (some .boolean), [])
def tM_settingText : kx_T := [(0, .aload_n 0, 1), (1, .getfield 96, 3), (4, .aload_n 0, 1), (5, .getfield 90, 3), (8, .if_icmp .eq (31), 3), (11, .aload_n 0, 1), (12, .getfield 28, 3), (15, .aload_n 0, 1), (16, .getfield 96, 3), (19, .iaload, 1), (20, .bipush (97), 2), (22, .if_icmp .lt (17), 3), (25, .aload_n 0, 1), (26, .getfield 28, 3), (29, .aload_n 0, 1), (30, .getfield 96, 3), (33, .iaload, 1), (34, .bipush (100), 2), (36, .if_icmp .le (5), 3), (39, .iconst (0), 1), (40, .ireturn, 1), (41, .aload_n 0, 1), (42, .dup, 1), (43, .getfield 96, 3), (46, .iconst (1), 1), (47, .iadd, 1), (48, .putfield 96, 3), (51, .aload_n 0, 1), (52, .getfield 96, 3), (55, .aload_n 0, 1), (56, .getfield 90, 3), (59, .if_icmp .eq (17), 3), (62, .aload_n 0, 1), (63, .getfield 28, 3), (66, .aload_n 0, 1), (67, .getfield 96, 3), (70, .iaload, 1), (71, .bipush (61), 2), (73, .if_icmp .eq (5), 3), (76, .iconst (0), 1), (77, .ireturn, 1), (78, .aload_n 0, 1), (79, .dup, 1), (80, .getfield 96, 3), (83, .iconst (1), 1), (84, .iadd, 1), (85, .putfield 96, 3), (88, .aload_n 0, 1), (89, .invokevirtual 116, 3), (92, .ifCond .eq (18), 3), (95, .aload_n 0, 1), (96, .getfield 96, 3), (99, .aload_n 0, 1), (100, .getfield 90, 3), (103, .if_icmp .ne (7), 3), (106, .iconst (1), 1), (107, .goto (4), 3), (110, .iconst (0), 1), (111, .ireturn, 1)]
theorem kM_settingText : kx_ok mM_settingText 0 := ⟨kx_by 82 (by decide +kernel) (by decide +kernel), kx_by 955 (by decide +kernel) (by decide +kernel), by decide, ⟨by decide, by decide⟩, by decide +kernel⟩
def mM_term : kx_M := (⟨"VersionedTablesModel", "term", "()Z"⟩, prog_11_method_16_code, 2, (some .boolean), [])
def tM_term : kx_T := [(0, .aload_n 0, 1), (1, .invokevirtual 103, 3), (4, .ifCond .ne (5), 3), (7, .iconst (0), 1), (8, .ireturn, 1), (9, .aload_n 0, 1), (10, .getfield 96, 3), (13, .aload_n 0, 1), (14, .getfield 90, 3), (17, .if_icmp .ge (58), 3), (20, .aload_n 0, 1), (21, .getfield 28, 3), (24, .aload_n 0, 1), (25, .getfield 96, 3), (28, .iaload, 1), (29, .invokestatic 107, 3), (32, .ifCond .eq (43), 3), (35, .aload_n 0, 1), (36, .getfield 28, 3), (39, .aload_n 0, 1), (40, .getfield 96, 3), (43, .iaload, 1), (44, .istore_n 1, 1), (45, .aload_n 0, 1), (46, .dup, 1), (47, .getfield 96, 3), (50, .iconst (1), 1), (51, .iadd, 1), (52, .putfield 96, 3), (55, .aload_n 0, 1), (56, .invokevirtual 103, 3), (59, .ifCond .ne (5), 3), (62, .iconst (0), 1), (63, .ireturn, 1), (64, .aload_n 0, 1), (65, .bipush (-100), 2), (67, .iload_n 1, 1), (68, .isub, 1), (69, .invokevirtual 99, 3), (72, .goto (-63), 3), (75, .iconst (1), 1), (76, .ireturn, 1)]
theorem kM_term : kx_ok mM_term 0 := ⟨kx_by 82 (by decide +kernel) (by decide +kernel), kx_by 959 (by decide +kernel) (by decide +kernel), by decide, ⟨by decide, by decide⟩, by decide +kernel⟩
def mM_item : kx_M := (⟨"VersionedTablesModel", "item", "()Z"⟩, prog_11_method_14_code, 4, (some .boolean), [])
def tM_item : kx_T := [(0, .aload_n 0, 1), (1, .getfield 96, 3), (4, .aload_n 0, 1), (5, .getfield 90, 3), (8, .if_icmp .ge (15), 3), (11, .aload_n 0, 1), (12, .getfield 28, 3), (15, .aload_n 0, 1), (16, .getfield 96, 3), (19, .iaload, 1), (20, .goto (4), 3), (23, .iconst (0), 1), (24, .istore_n 1, 1), (25, .iload_n 1, 1), (26, .bipush (97), 2), (28, .if_icmp .lt (29), 3), (31, .iload_n 1, 1), (32, .bipush (100), 2), (34, .if_icmp .gt (23), 3), (37, .aload_n 0, 1), (38, .bipush (96), 2), (40, .iload_n 1, 1), (41, .isub, 1), (42, .invokevirtual 99, 3), (45, .aload_n 0, 1), (46, .dup, 1), (47, .getfield 96, 3), (50, .iconst (1), 1), (51, .iadd, 1), (52, .putfield 96, 3), (55, .iconst (1), 1), (56, .ireturn, 1), (57, .iconst (0), 1), (58, .istore_n 2, 1), (59, .iconst (0), 1), (60, .istore_n 3, 1), (61, .aload_n 0, 1), (62, .getfield 96, 3), (65, .aload_n 0, 1), (66, .getfield 90, 3), (69, .if_icmp .ge (70), 3), (72, .iload_n 3, 1), (73, .iconst (4), 1), (74, .if_icmp .ge (65), 3), (77, .aload_n 0, 1), (78, .getfield 28, 3), (81, .aload_n 0, 1), (82, .getfield 96, 3), (85, .iaload, 1), (86, .bipush (48), 2), (88, .if_icmp .lt (51), 3), (91, .aload_n 0, 1), (92, .getfield 28, 3), (95, .aload_n 0, 1), (96, .getfield 96, 3), (99, .iaload, 1), (100, .bipush (57), 2), (102, .if_icmp .gt (37), 3), (105, .bipush (10), 2), (107, .iload_n 2, 1), (108, .imul, 1), (109, .aload_n 0, 1), (110, .getfield 28, 3), (113, .aload_n 0, 1), (114, .getfield 96, 3), (117, .iaload, 1), (118, .iadd, 1), (119, .bipush (48), 2), (121, .isub, 1), (122, .istore_n 2, 1), (123, .iinc 3 (1), 3), (126, .aload_n 0, 1), (127, .dup, 1), (128, .getfield 96, 3), (131, .iconst (1), 1), (132, .iadd, 1), (133, .putfield 96, 3), (136, .goto (-75), 3), (139, .iload_n 3, 1), (140, .ifCond .ne (5), 3), (143, .iconst (0), 1), (144, .ireturn, 1), (145, .aload_n 0, 1), (146, .iload_n 2, 1), (147, .invokevirtual 99, 3), (150, .aload_n 0, 1), (151, .getfield 96, 3), (154, .aload_n 0, 1), (155, .getfield 90, 3), (158, .if_icmp .eq (31), 3), (161, .aload_n 0, 1), (162, .getfield 28, 3), (165, .aload_n 0, 1), (166, .getfield 96, 3), (169, .iaload, 1), (170, .bipush (48), 2), (172, .if_icmp .lt (17), 3), (175, .aload_n 0, 1), (176, .getfield 28, 3), (179, .aload_n 0, 1), (180, .getfield 96, 3), (183, .iaload, 1), (184, .bipush (57), 2), (186, .if_icmp .le (7), 3), (189, .iconst (1), 1), (190, .goto (4), 3), (193, .iconst (0), 1), (194, .ireturn, 1)]
theorem kM_item : kx_ok mM_item 0 := ⟨kx_by 82 (by decide +kernel) (by decide +kernel), kx_by 963 (by decide +kernel) (by decide +kernel), by decide, ⟨by decide, by decide⟩, by decide +kernel⟩
def mM_add : kx_M := (⟨"VersionedTablesModel", "add", "(I)V"⟩, prog_11_method_13_code, 2, none, [])
def tM_add : kx_T := [(0, .aload_n 0, 1), (1, .getfield 35, 3), (4, .sipush (220), 3), (7, .aload_n 0, 1), (8, .getfield 93, 3), (11, .iadd, 1), (12, .iload_n 1, 1), (13, .iastore, 1), (14, .aload_n 0, 1), (15, .dup, 1), (16, .getfield 93, 3), (19, .iconst (1), 1), (20, .iadd, 1), (21, .putfield 93, 3), (24, .return_, 1)]
theorem kM_add : kx_ok mM_add 1 := ⟨kx_by 82 (by decide +kernel) (by decide +kernel), kx_by 967 (by decide +kernel) (by decide +kernel), by decide, ⟨by decide, by decide⟩, by decide +kernel⟩
def mM_arithmetic : kx_M := (⟨"VersionedTablesModel", "arithmetic", "(I)Z"⟩, prog_11_method_15_code, 1, (some .boolean), [])
def tM_arithmetic : kx_T := [(0, .iload_n 0, 1), (1, .bipush (43), 2), (3, .if_icmp .eq (21), 3), (6, .iload_n 0, 1), (7, .bipush (45), 2), (9, .if_icmp .eq (15), 3), (12, .iload_n 0, 1), (13, .bipush (42), 2), (15, .if_icmp .eq (9), 3), (18, .iload_n 0, 1), (19, .bipush (47), 2), (21, .if_icmp .ne (7), 3), (24, .iconst (1), 1), (25, .goto (4), 3), (28, .iconst (0), 1), (29, .ireturn, 1)]
theorem kM_arithmetic : kx_ok mM_arithmetic 1 := ⟨kx_by 82 (by decide +kernel) (by decide +kernel), kx_by 970 (by decide +kernel) (by decide +kernel), by decide, ⟨by decide, by decide⟩, by decide +kernel⟩
def mM_condition : kx_M := (⟨"VersionedTablesModel", "condition", "()Z"⟩, prog_11_method_21_code, 2, (some .boolean), [])
def tM_condition : kx_T := [(0, .aload_n 0, 1), (1, .getfield 90, 3), (4, .ifCond .ne (5), 3), (7, .iconst (1), 1), (8, .ireturn, 1), (9, .aload_n 0, 1), (10, .invokevirtual 125, 3), (13, .ifCond .ne (5), 3), (16, .iconst (0), 1), (17, .ireturn, 1), (18, .aload_n 0, 1), (19, .invokevirtual 128, 3), (22, .aload_n 0, 1), (23, .getfield 96, 3), (26, .aload_n 0, 1), (27, .getfield 90, 3), (30, .if_icmp .ge (113), 3), (33, .aload_n 0, 1), (34, .getfield 28, 3), (37, .aload_n 0, 1), (38, .getfield 96, 3), (41, .iaload, 1), (42, .istore_n 1, 1), (43, .iload_n 1, 1), (44, .bipush (41), 2), (46, .if_icmp .ne (49), 3), (49, .aload_n 0, 1), (50, .getfield 110, 3), (53, .ifCond .ne (5), 3), (56, .iconst (0), 1), (57, .ireturn, 1), (58, .aload_n 0, 1), (59, .dup, 1), (60, .getfield 110, 3), (63, .iconst (1), 1), (64, .isub, 1), (65, .putfield 110, 3), (68, .aload_n 0, 1), (69, .dup, 1), (70, .getfield 113, 3), (73, .iconst (1), 1), (74, .isub, 1), (75, .putfield 113, 3), (78, .aload_n 0, 1), (79, .dup, 1), (80, .getfield 96, 3), (83, .iconst (1), 1), (84, .iadd, 1), (85, .putfield 96, 3), (88, .aload_n 0, 1), (89, .invokevirtual 128, 3), (92, .goto (48), 3), (95, .iload_n 1, 1), (96, .bipush (38), 2), (98, .if_icmp .eq (9), 3), (101, .iload_n 1, 1), (102, .bipush (124), 2), (104, .if_icmp .ne (34), 3), (107, .aload_n 0, 1), (108, .iload_n 1, 1), (109, .invokevirtual 119, 3), (112, .aload_n 0, 1), (113, .dup, 1), (114, .getfield 96, 3), (117, .iconst (1), 1), (118, .iadd, 1), (119, .putfield 96, 3), (122, .aload_n 0, 1), (123, .invokevirtual 125, 3), (126, .ifCond .ne (5), 3), (129, .iconst (0), 1), (130, .ireturn, 1), (131, .aload_n 0, 1), (132, .invokevirtual 128, 3), (135, .goto (5), 3), (138, .iconst (0), 1), (139, .ireturn, 1), (140, .goto (-118), 3), (143, .aload_n 0, 1), (144, .getfield 110, 3), (147, .ifCond .ne (7), 3), (150, .iconst (1), 1), (151, .goto (4), 3), (154, .iconst (0), 1), (155, .ireturn, 1)]
theorem kM_condition : kx_ok mM_condition 0 := ⟨kx_by 82 (by decide +kernel) (by decide +kernel), kx_by 974 (by decide +kernel) (by decide +kernel), by decide, ⟨by decide, by decide⟩, by decide +kernel⟩
def mM_part : kx_M := (⟨"VersionedTablesModel", "part", "()Z"⟩, prog_11_method_19_code, 1, (some .boolean), [])
def tM_part : kx_T := [(0, .aload_n 0, 1), (1, .getfield 96, 3), (4, .aload_n 0, 1), (5, .getfield 90, 3), (8, .if_icmp .ge (102), 3), (11, .aload_n 0, 1), (12, .getfield 28, 3), (15, .aload_n 0, 1), (16, .getfield 96, 3), (19, .iaload, 1), (20, .bipush (33), 2), (22, .if_icmp .eq (17), 3), (25, .aload_n 0, 1), (26, .getfield 28, 3), (29, .aload_n 0, 1), (30, .getfield 96, 3), (33, .iaload, 1), (34, .bipush (40), 2), (36, .if_icmp .ne (74), 3), (39, .aload_n 0, 1), (40, .getfield 110, 3), (43, .iconst (5), 1), (44, .if_icmp .ne (5), 3), (47, .iconst (0), 1), (48, .ireturn, 1), (49, .aload_n 0, 1), (50, .getfield 45, 3), (53, .aload_n 0, 1), (54, .getfield 110, 3), (57, .aload_n 0, 1), (58, .getfield 28, 3), (61, .aload_n 0, 1), (62, .getfield 96, 3), (65, .iaload, 1), (66, .iastore, 1), (67, .aload_n 0, 1), (68, .dup, 1), (69, .getfield 110, 3), (72, .iconst (1), 1), (73, .iadd, 1), (74, .putfield 110, 3), (77, .aload_n 0, 1), (78, .getfield 28, 3), (81, .aload_n 0, 1), (82, .getfield 96, 3), (85, .iaload, 1), (86, .bipush (40), 2), (88, .if_icmp .ne (9), 3), (91, .aload_n 0, 1), (92, .bipush (40), 2), (94, .invokevirtual 119, 3), (97, .aload_n 0, 1), (98, .dup, 1), (99, .getfield 96, 3), (102, .iconst (1), 1), (103, .iadd, 1), (104, .putfield 96, 3), (107, .goto (-107), 3), (110, .aload_n 0, 1), (111, .invokevirtual 122, 3), (114, .ireturn, 1)]
theorem kM_part : kx_ok mM_part 0 := ⟨kx_by 82 (by decide +kernel) (by decide +kernel), kx_by 978 (by decide +kernel) (by decide +kernel), by decide, ⟨by decide, by decide⟩, by decide +kernel⟩
def mM_push : kx_M := (⟨"VersionedTablesModel", "push", "(I)V"⟩, prog_11_method_20_code, 2, none, [])
def tM_push : kx_T := [(0, .aload_n 0, 1), (1, .getfield 51, 3), (4, .aload_n 0, 1), (5, .getfield 113, 3), (8, .iload_n 1, 1), (9, .iastore, 1), (10, .aload_n 0, 1), (11, .dup, 1), (12, .getfield 113, 3), (15, .iconst (1), 1), (16, .iadd, 1), (17, .putfield 113, 3), (20, .return_, 1)]
theorem kM_push : kx_ok mM_push 1 := ⟨kx_by 82 (by decide +kernel) (by decide +kernel), kx_by 982 (by decide +kernel) (by decide +kernel), by decide, ⟨by decide, by decide⟩, by decide +kernel⟩
def mM_comparison : kx_M := (⟨"VersionedTablesModel", "comparison", "()Z"⟩, prog_11_method_18_code, 2, (some .boolean), [])
def tM_comparison : kx_T := [(0, .aload_n 0, 1), (1, .invokevirtual 116, 3), (4, .ifCond .eq (14), 3), (7, .aload_n 0, 1), (8, .getfield 96, 3), (11, .aload_n 0, 1), (12, .getfield 90, 3), (15, .if_icmp .ne (5), 3), (18, .iconst (0), 1), (19, .ireturn, 1), (20, .aload_n 0, 1), (21, .getfield 28, 3), (24, .aload_n 0, 1), (25, .getfield 96, 3), (28, .iaload, 1), (29, .istore_n 1, 1), (30, .iload_n 1, 1), (31, .bipush (61), 2), (33, .if_icmp .eq (23), 3), (36, .iload_n 1, 1), (37, .bipush (35), 2), (39, .if_icmp .eq (17), 3), (42, .iload_n 1, 1), (43, .bipush (60), 2), (45, .if_icmp .eq (11), 3), (48, .iload_n 1, 1), (49, .bipush (62), 2), (51, .if_icmp .eq (5), 3), (54, .iconst (0), 1), (55, .ireturn, 1), (56, .aload_n 0, 1), (57, .dup, 1), (58, .getfield 96, 3), (61, .iconst (1), 1), (62, .iadd, 1), (63, .putfield 96, 3), (66, .aload_n 0, 1), (67, .invokevirtual 116, 3), (70, .ifCond .ne (5), 3), (73, .iconst (0), 1), (74, .ireturn, 1), (75, .aload_n 0, 1), (76, .bipush (-100), 2), (78, .iload_n 1, 1), (79, .isub, 1), (80, .invokevirtual 99, 3), (83, .iconst (1), 1), (84, .ireturn, 1)]
theorem kM_comparison : kx_ok mM_comparison 0 := ⟨kx_by 82 (by decide +kernel) (by decide +kernel), kx_by 986 (by decide +kernel) (by decide +kernel), by decide, ⟨by decide, by decide⟩, by decide +kernel⟩
def mM_endPart : kx_M := (⟨"VersionedTablesModel", "endPart", "()V"⟩, prog_11_method_17_code, 1, none, [])
def tM_endPart : kx_T := [(0, .aload_n 0, 1), (1, .getfield 110, 3), (4, .ifCond .le (39), 3), (7, .aload_n 0, 1), (8, .getfield 45, 3), (11, .aload_n 0, 1), (12, .getfield 110, 3), (15, .iconst (1), 1), (16, .isub, 1), (17, .iaload, 1), (18, .bipush (33), 2), (20, .if_icmp .ne (23), 3), (23, .aload_n 0, 1), (24, .dup, 1), (25, .getfield 110, 3), (28, .iconst (1), 1), (29, .isub, 1), (30, .putfield 110, 3), (33, .aload_n 0, 1), (34, .sipush (-133), 3), (37, .invokevirtual 99, 3), (40, .goto (-40), 3), (43, .aload_n 0, 1), (44, .getfield 113, 3), (47, .ifCond .le (45), 3), (50, .aload_n 0, 1), (51, .getfield 51, 3), (54, .aload_n 0, 1), (55, .getfield 113, 3), (58, .iconst (1), 1), (59, .isub, 1), (60, .iaload, 1), (61, .bipush (40), 2), (63, .if_icmp .eq (29), 3), (66, .aload_n 0, 1), (67, .dup, 1), (68, .getfield 113, 3), (71, .iconst (1), 1), (72, .isub, 1), (73, .putfield 113, 3), (76, .aload_n 0, 1), (77, .bipush (-100), 2), (79, .aload_n 0, 1), (80, .getfield 51, 3), (83, .aload_n 0, 1), (84, .getfield 113, 3), (87, .iaload, 1), (88, .isub, 1), (89, .invokevirtual 99, 3), (92, .return_, 1)]
theorem kM_endPart : kx_ok mM_endPart 0 := ⟨kx_by 82 (by decide +kernel) (by decide +kernel), kx_by 990 (by decide +kernel) (by decide +kernel), by decide, ⟨by decide, by decide⟩, by decide +kernel⟩
def mM_keep : kx_M := (⟨"VersionedTablesModel", "keep", "(I)V"⟩, prog_11_method_24_code, 3, none, [])
def tM_keep : kx_T := [(0, .iconst (0), 1), (1, .istore_n 2, 1), (2, .iload_n 2, 1), (3, .aload_n 0, 1), (4, .getfield 93, 3), (7, .if_icmp .ge (30), 3), (10, .aload_n 0, 1), (11, .getfield 35, 3), (14, .bipush (44), 2), (16, .iload_n 1, 1), (17, .imul, 1), (18, .iload_n 2, 1), (19, .iadd, 1), (20, .aload_n 0, 1), (21, .getfield 35, 3), (24, .sipush (220), 3), (27, .iload_n 2, 1), (28, .iadd, 1), (29, .iaload, 1), (30, .iastore, 1), (31, .iinc 2 (1), 3), (34, .goto (-32), 3), (37, .aload_n 0, 1), (38, .getfield 38, 3), (41, .iload_n 1, 1), (42, .aload_n 0, 1), (43, .getfield 93, 3), (46, .iastore, 1), (47, .return_, 1)]
theorem kM_keep : kx_ok mM_keep 1 := ⟨kx_by 82 (by decide +kernel) (by decide +kernel), kx_by 994 (by decide +kernel) (by decide +kernel), by decide, ⟨by decide, by decide⟩, by decide +kernel⟩
def mM_setting : kx_M := (⟨"VersionedTablesModel", "setting", "()I"⟩, prog_11_method_26_code, 2, (some .int), [])
def tM_setting : kx_T := [(0, .aload_n 0, 1), (1, .iconst (0), 1), (2, .putfield 69, 3), (5, .aload_n 0, 1), (6, .getfield 28, 3), (9, .iconst (0), 1), (10, .iaload, 1), (11, .bipush (97), 2), (13, .isub, 1), (14, .istore_n 1, 1), (15, .aload_n 0, 1), (16, .iconst (1), 1), (17, .invokevirtual 137, 3), (20, .ifCond .ne (9), 3), (23, .aload_n 0, 1), (24, .iconst (1), 1), (25, .invokevirtual 79, 3), (28, .ireturn, 1), (29, .aload_n 0, 1), (30, .iconst (1), 1), (31, .iload_n 1, 1), (32, .iadd, 1), (33, .invokevirtual 141, 3), (36, .aload_n 0, 1), (37, .getfield 41, 3), (40, .iload_n 1, 1), (41, .iconst (1), 1), (42, .bastore, 1), (43, .aload_n 0, 1), (44, .invokevirtual 144, 3), (47, .ireturn, 1)]
theorem kM_setting : kx_ok mM_setting 0 := ⟨kx_by 82 (by decide +kernel) (by decide +kernel), kx_by 998 (by decide +kernel) (by decide +kernel), by decide, ⟨by decide, by decide⟩, by decide +kernel⟩
def mM_settings : kx_M := (⟨"VersionedTablesModel", "settings", "()I"⟩, prog_11_method_27_code, 3, (some .int), [])
def tM_settings : kx_T := [(0, .iconst (0), 1), (1, .istore_n 1, 1), (2, .iconst (0), 1), (3, .istore_n 2, 1), (4, .iload_n 2, 1), (5, .iconst (4), 1), (6, .if_icmp .ge (21), 3), (9, .aload_n 0, 1), (10, .getfield 41, 3), (13, .iload_n 2, 1), (14, .baload, 1), (15, .ifCond .eq (6), 3), (18, .iinc 1 (1), 3), (21, .iinc 2 (1), 3), (24, .goto (-20), 3), (27, .iload_n 1, 1), (28, .ireturn, 1)]
theorem kM_settings : kx_ok mM_settings 0 := ⟨kx_by 82 (by decide +kernel) (by decide +kernel), kx_by 1002 (by decide +kernel) (by decide +kernel), by decide, ⟨by decide, by decide⟩, by decide +kernel⟩
def mM_clear : kx_M := (⟨"VersionedTablesModel", "clear", "()I"⟩, prog_11_method_28_code, 3, (some .int), [])
def tM_clear : kx_T := [(0, .aload_n 0, 1), (1, .iconst (0), 1), (2, .putfield 69, 3), (5, .aload_n 0, 1), (6, .invokevirtual 144, 3), (9, .istore_n 1, 1), (10, .iconst (0), 1), (11, .istore_n 2, 1), (12, .iload_n 2, 1), (13, .iconst (4), 1), (14, .if_icmp .ge (16), 3), (17, .aload_n 0, 1), (18, .getfield 41, 3), (21, .iload_n 2, 1), (22, .iconst (0), 1), (23, .bastore, 1), (24, .iinc 2 (1), 3), (27, .goto (-15), 3), (30, .iload_n 1, 1), (31, .ireturn, 1)]
theorem kM_clear : kx_ok mM_clear 0 := ⟨kx_by 82 (by decide +kernel) (by decide +kernel), kx_by 1006 (by decide +kernel) (by decide +kernel), by decide, ⟨by decide, by decide⟩, by decide +kernel⟩
def mM_errorAt : kx_M := (⟨"VersionedTablesModel", "errorAt", "()I"⟩, prog_11_method_29_code, 1, (some .int), [])
def tM_errorAt : kx_T := [(0, .aload_n 0, 1), (1, .iconst (0), 1), (2, .putfield 69, 3), (5, .aload_n 0, 1), (6, .getfield 31, 3), (9, .ireturn, 1)]
theorem kM_errorAt : kx_ok mM_errorAt 0 := ⟨kx_by 82 (by decide +kernel) (by decide +kernel), kx_by 1010 (by decide +kernel) (by decide +kernel), by decide, ⟨by decide, by decide⟩, by decide +kernel⟩
def mM_select : kx_M := (⟨"VersionedTablesModel", "select", "(II)I"⟩, prog_11_method_36_code, 6, (some .int), [])
def tM_select : kx_T := [(0, .aload_n 0, 1), (1, .iconst (0), 1), (2, .putfield 69, 3), (5, .aload_n 0, 1), (6, .iload_n 1, 1), (7, .invokevirtual 83, 3), (10, .ifCond .ne (11), 3), (13, .aload_n 0, 1), (14, .iload_n 2, 1), (15, .invokevirtual 166, 3), (18, .ifCond .eq (9), 3), (21, .aload_n 0, 1), (22, .iconst (1), 1), (23, .invokevirtual 79, 3), (26, .ireturn, 1), (27, .aload_n 0, 1), (28, .iload_n 1, 1), (29, .iload_n 2, 1), (30, .invokevirtual 169, 3), (33, .istore_n 3, 1), (34, .iload_n 3, 1), (35, .ifCond .le (11), 3), (38, .aload_n 0, 1), (39, .iconst (1), 1), (40, .iload_n 3, 1), (41, .iadd, 1), (42, .invokevirtual 79, 3), (45, .ireturn, 1), (46, .aload_n 0, 1), (47, .iload_n 1, 1), (48, .iload_n 2, 1), (49, .invokevirtual 172, 3), (52, .aload_n 0, 1), (53, .iconst (0), 1), (54, .putfield 176, 3), (57, .iconst (0), 1), (58, .istore 4, 2), (60, .iload 4, 2), (62, .aload_n 0, 1), (63, .getfield 13, 3), (66, .iload_n 2, 1), (67, .iaload, 1), (68, .if_icmp .ge (89), 3), (71, .aload_n 0, 1), (72, .getfield 66, 3), (75, .iload 4, 2), (77, .baload, 1), (78, .ifCond .ne (6), 3), (81, .goto (70), 3), (84, .aload_n 0, 1), (85, .getfield 54, 3), (88, .aload_n 0, 1), (89, .getfield 176, 3), (92, .iload 4, 2), (94, .iastore, 1), (95, .iconst (0), 1), (96, .istore 5, 2), (98, .iload 5, 2), (100, .iconst (4), 1), (101, .if_icmp .ge (40), 3), (104, .aload_n 0, 1), (105, .getfield 57, 3), (108, .iconst (4), 1), (109, .aload_n 0, 1), (110, .getfield 176, 3), (113, .imul, 1), (114, .iload 5, 2), (116, .iadd, 1), (117, .aload_n 0, 1), (118, .getfield 22, 3), (121, .iconst (4), 1), (122, .aload_n 0, 1), (123, .getfield 60, 3), (126, .iload 4, 2), (128, .iaload, 1), (129, .imul, 1), (130, .iload 5, 2), (132, .iadd, 1), (133, .iaload, 1), (134, .iastore, 1), (135, .iinc 5 (1), 3), (138, .goto (-40), 3), (141, .aload_n 0, 1), (142, .dup, 1), (143, .getfield 176, 3), (146, .iconst (1), 1), (147, .iadd, 1), (148, .putfield 176, 3), (151, .iinc 4 (1), 3), (154, .goto (-94), 3), (157, .aload_n 0, 1), (158, .getfield 176, 3), (161, .ireturn, 1)]
theorem kM_select : kx_ok mM_select 2 := ⟨kx_by 82 (by decide +kernel) (by decide +kernel), kx_by 1014 (by decide +kernel) (by decide +kernel), by decide, ⟨by decide, by decide⟩, by decide +kernel⟩
def mM_noTable : kx_M := (⟨"VersionedTablesModel", "noTable", "(I)Z"⟩, prog_11_method_7_code, 2, (some .boolean), [])
def tM_noTable : kx_T := [(0, .iload_n 1, 1), (1, .iconst (3), 1), (2, .invokestatic 72, 3), (5, .ifCond .ne (12), 3), (8, .aload_n 0, 1), (9, .getfield 7, 3), (12, .iload_n 1, 1), (13, .iaload, 1), (14, .ifCond .ne (7), 3), (17, .iconst (1), 1), (18, .goto (4), 3), (21, .iconst (0), 1), (22, .ireturn, 1)]
theorem kM_noTable : kx_ok mM_noTable 1 := ⟨kx_by 82 (by decide +kernel) (by decide +kernel), kx_by 1018 (by decide +kernel) (by decide +kernel), by decide, ⟨by decide, by decide⟩, by decide +kernel⟩
def mM_look : kx_M := (⟨"VersionedTablesModel", "look", "(II)I"⟩, prog_11_method_34_code, 6, (some .int), [])
def tM_look : kx_T := [(0, .iconst (0), 1), (1, .istore_n 3, 1), (2, .iload_n 3, 1), (3, .aload_n 0, 1), (4, .getfield 13, 3), (7, .iload_n 2, 1), (8, .iaload, 1), (9, .if_icmp .ge (122), 3), (12, .aload_n 0, 1), (13, .iload_n 1, 1), (14, .iload_n 2, 1), (15, .iload_n 3, 1), (16, .invokevirtual 156, 3), (19, .istore 4, 2), (21, .aload_n 0, 1), (22, .getfield 60, 3), (25, .iload_n 3, 1), (26, .iload 4, 2), (28, .iastore, 1), (29, .aload_n 0, 1), (30, .getfield 66, 3), (33, .iload_n 3, 1), (34, .iconst (0), 1), (35, .bastore, 1), (36, .iload 4, 2), (38, .ifCond .ge (6), 3), (41, .goto (84), 3), (44, .iload 4, 2), (46, .bipush (40), 2), (48, .irem, 1), (49, .iconst (1), 1), (50, .iadd, 1), (51, .istore 5, 2), (53, .iload 5, 2), (55, .iload_n 1, 1), (56, .if_icmp .eq (16), 3), (59, .aload_n 0, 1), (60, .getfield 25, 3), (63, .iload 5, 2), (65, .iaload, 1), (66, .iconst (1), 1), (67, .if_icmp .ne (5), 3), (70, .iconst (1), 1), (71, .ireturn, 1), (72, .aload_n 0, 1), (73, .getfield 19, 3), (76, .iload 4, 2), (78, .iaload, 1), (79, .invokestatic 159, 3), (82, .ifCond .eq (6), 3), (85, .goto (40), 3), (88, .aload_n 0, 1), (89, .iconst (0), 1), (90, .putfield 148, 3), (93, .aload_n 0, 1), (94, .getfield 66, 3), (97, .iload_n 3, 1), (98, .aload_n 0, 1), (99, .iconst (0), 1), (100, .iconst (4), 1), (101, .iload 4, 2), (103, .imul, 1), (104, .invokevirtual 162, 3), (107, .ifCond .eq (7), 3), (110, .iconst (1), 1), (111, .goto (4), 3), (114, .iconst (0), 1), (115, .bastore, 1), (116, .aload_n 0, 1), (117, .getfield 148, 3), (120, .ifCond .eq (5), 3), (123, .iconst (2), 1), (124, .ireturn, 1), (125, .iinc 3 (1), 3), (128, .goto (-126), 3), (131, .iconst (0), 1), (132, .ireturn, 1)]
theorem kM_look : kx_ok mM_look 2 := ⟨kx_by 82 (by decide +kernel) (by decide +kernel), kx_by 1022 (by decide +kernel) (by decide +kernel), by decide, ⟨by decide, by decide⟩, by decide +kernel⟩
def mM_held : kx_M := (⟨"VersionedTablesModel", "held", "(III)I"⟩, prog_11_method_32_code, 6, (some .int), [])
def tM_held : kx_T := [(0, .bipush (40), 2), (2, .bipush (24), 2), (4, .iload_n 2, 1), (5, .imul, 1), (6, .iload_n 3, 1), (7, .iadd, 1), (8, .imul, 1), (9, .iload_n 1, 1), (10, .iadd, 1), (11, .iconst (1), 1), (12, .isub, 1), (13, .istore 4, 2), (15, .bipush (40), 2), (17, .bipush (24), 2), (19, .iload_n 2, 1), (20, .imul, 1), (21, .iload_n 3, 1), (22, .iadd, 1), (23, .imul, 1), (24, .istore 5, 2), (26, .iload 4, 2), (28, .iload 5, 2), (30, .if_icmp .lt (19), 3), (33, .aload_n 0, 1), (34, .getfield 19, 3), (37, .iload 4, 2), (39, .iaload, 1), (40, .ifCond .ne (9), 3), (43, .iinc 4 (-1), 3), (46, .goto (-20), 3), (49, .iload 4, 2), (51, .iload 5, 2), (53, .if_icmp .lt (8), 3), (56, .iload 4, 2), (58, .goto (4), 3), (61, .iconst (-1), 1), (62, .ireturn, 1)]
theorem kM_held : kx_ok mM_held 3 := ⟨kx_by 82 (by decide +kernel) (by decide +kernel), kx_by 1026 (by decide +kernel) (by decide +kernel), by decide, ⟨by decide, by decide⟩, by decide +kernel⟩
def mM_gone : kx_M := (⟨"VersionedTablesModel", "gone", "(I)Z"⟩, prog_11_method_33_code, 1, (some .boolean), [])
def tM_gone : kx_T := [(0, .iload_n 0, 1), (1, .iconst (2), 1), (2, .iand, 1), (3, .iconst (2), 1), (4, .if_icmp .ne (7), 3), (7, .iconst (1), 1), (8, .goto (4), 3), (11, .iconst (0), 1), (12, .ireturn, 1)]
theorem kM_gone : kx_ok mM_gone 1 := ⟨kx_by 82 (by decide +kernel) (by decide +kernel), kx_by 1029 (by decide +kernel) (by decide +kernel), by decide, ⟨by decide, by decide⟩, by decide +kernel⟩
def mM_worked : kx_M := (⟨"VersionedTablesModel", "worked", "(II)I"⟩, prog_11_method_31_code, 6, (some .int), [])
def tM_worked : kx_T := [(0, .iconst (0), 1), (1, .istore_n 3, 1), (2, .aload_n 0, 1), (3, .getfield 48, 3), (6, .iconst (0), 1), (7, .iconst (1), 1), (8, .iastore, 1), (9, .iconst (0), 1), (10, .istore 4, 2), (12, .iload 4, 2), (14, .aload_n 0, 1), (15, .getfield 38, 3), (18, .iload_n 1, 1), (19, .iaload, 1), (20, .if_icmp .ge (126), 3), (23, .aload_n 0, 1), (24, .getfield 35, 3), (27, .bipush (44), 2), (29, .iload_n 1, 1), (30, .imul, 1), (31, .iload 4, 2), (33, .iadd, 1), (34, .iaload, 1), (35, .istore 5, 2), (37, .iload 5, 2), (39, .bipush (-4), 2), (41, .if_icmp .lt (36), 3), (44, .aload_n 0, 1), (45, .getfield 48, 3), (48, .iload_n 3, 1), (49, .iload 5, 2), (51, .ifCond .lt (8), 3), (54, .iload 5, 2), (56, .goto (14), 3), (59, .aload_n 0, 1), (60, .getfield 22, 3), (63, .iload_n 2, 1), (64, .iconst (1), 1), (65, .isub, 1), (66, .iload 5, 2), (68, .isub, 1), (69, .iaload, 1), (70, .iastore, 1), (71, .iinc 3 (1), 3), (74, .goto (66), 3), (77, .iload 5, 2), (79, .sipush (-133), 3), (82, .if_icmp .ne (24), 3), (85, .aload_n 0, 1), (86, .getfield 48, 3), (89, .iload_n 3, 1), (90, .iconst (1), 1), (91, .isub, 1), (92, .iconst (1), 1), (93, .aload_n 0, 1), (94, .getfield 48, 3), (97, .iload_n 3, 1), (98, .iconst (1), 1), (99, .isub, 1), (100, .iaload, 1), (101, .isub, 1), (102, .iastore, 1), (103, .goto (37), 3), (106, .iinc 3 (-1), 3), (109, .aload_n 0, 1), (110, .getfield 48, 3), (113, .iload_n 3, 1), (114, .iconst (1), 1), (115, .isub, 1), (116, .aload_n 0, 1), (117, .bipush (-100), 2), (119, .iload 5, 2), (121, .isub, 1), (122, .aload_n 0, 1), (123, .getfield 48, 3), (126, .iload_n 3, 1), (127, .iconst (1), 1), (128, .isub, 1), (129, .iaload, 1), (130, .aload_n 0, 1), (131, .getfield 48, 3), (134, .iload_n 3, 1), (135, .iaload, 1), (136, .invokevirtual 152, 3), (139, .iastore, 1), (140, .iinc 4 (1), 3), (143, .goto (-131), 3), (146, .aload_n 0, 1), (147, .getfield 48, 3), (150, .iconst (0), 1), (151, .iaload, 1), (152, .ireturn, 1)]
theorem kM_worked : kx_ok mM_worked 2 := ⟨kx_by 82 (by decide +kernel) (by decide +kernel), kx_by 1033 (by decide +kernel) (by decide +kernel), by decide, ⟨by decide, by decide⟩, by decide +kernel⟩
def mM_done : kx_M := (⟨"VersionedTablesModel", "done", "(III)I"⟩, prog_11_method_30_code, 4, (some .int), [])
def tM_done : kx_T := [(0, .iload_n 1, 1), (1, .tableswitch (218) (35) (62) #[181, 218, 218, 214, 218, 218, 218, 135, 127, 218, 131, 218, 139, 218, 218, 218, 218, 218, 218, 218, 218, 218, 218, 218, 218, 192, 170, 203], 127), (128, .iload_n 2, 1), (129, .iload_n 3, 1), (130, .iadd, 1), (131, .ireturn, 1), (132, .iload_n 2, 1), (133, .iload_n 3, 1), (134, .isub, 1), (135, .ireturn, 1), (136, .iload_n 2, 1), (137, .iload_n 3, 1), (138, .imul, 1), (139, .ireturn, 1), (140, .iload_n 3, 1), (141, .ifCond .ne (8), 3), (144, .aload_n 0, 1), (145, .iconst (1), 1), (146, .putfield 148, 3), (149, .iload_n 3, 1), (150, .ifCond .ne (7), 3), (153, .iconst (0), 1), (154, .goto (16), 3), (157, .iload_n 3, 1), (158, .iconst (-1), 1), (159, .if_icmp .ne (8), 3), (162, .iload_n 2, 1), (163, .ineg, 1), (164, .goto (6), 3), (167, .iload_n 2, 1), (168, .iload_n 3, 1), (169, .idiv, 1), (170, .ireturn, 1), (171, .iload_n 2, 1), (172, .iload_n 3, 1), (173, .if_icmp .ne (7), 3), (176, .iconst (1), 1), (177, .goto (4), 3), (180, .iconst (0), 1), (181, .ireturn, 1), (182, .iload_n 2, 1), (183, .iload_n 3, 1), (184, .if_icmp .eq (7), 3), (187, .iconst (1), 1), (188, .goto (4), 3), (191, .iconst (0), 1), (192, .ireturn, 1), (193, .iload_n 2, 1), (194, .iload_n 3, 1), (195, .if_icmp .ge (7), 3), (198, .iconst (1), 1), (199, .goto (4), 3), (202, .iconst (0), 1), (203, .ireturn, 1), (204, .iload_n 2, 1), (205, .iload_n 3, 1), (206, .if_icmp .le (7), 3), (209, .iconst (1), 1), (210, .goto (4), 3), (213, .iconst (0), 1), (214, .ireturn, 1), (215, .iload_n 2, 1), (216, .iload_n 3, 1), (217, .iand, 1), (218, .ireturn, 1), (219, .iload_n 2, 1), (220, .iload_n 3, 1), (221, .ior, 1), (222, .ireturn, 1)]
theorem kM_done : kx_ok mM_done 3 := ⟨kx_by 82 (by decide +kernel) (by decide +kernel), kx_by 1037 (by decide +kernel) (by decide +kernel), by decide, ⟨by decide, by decide⟩, by decide +kernel⟩
def mM_mark : kx_M := (⟨"VersionedTablesModel", "mark", "(II)V"⟩, prog_11_method_35_code, 5, none, [])
def tM_mark : kx_T := [(0, .aload_n 0, 1), (1, .getfield 16, 3), (4, .iload_n 2, 1), (5, .iaload, 1), (6, .iload_n 1, 1), (7, .if_icmp .ge (10), 3), (10, .aload_n 0, 1), (11, .getfield 16, 3), (14, .iload_n 2, 1), (15, .iload_n 1, 1), (16, .iastore, 1), (17, .iconst (0), 1), (18, .istore_n 3, 1), (19, .iload_n 3, 1), (20, .aload_n 0, 1), (21, .getfield 13, 3), (24, .iload_n 2, 1), (25, .iaload, 1), (26, .if_icmp .ge (55), 3), (29, .aload_n 0, 1), (30, .getfield 60, 3), (33, .iload_n 3, 1), (34, .iaload, 1), (35, .istore 4, 2), (37, .iload 4, 2), (39, .ifCond .lt (36), 3), (42, .aload_n 0, 1), (43, .getfield 19, 3), (46, .iload 4, 2), (48, .iaload, 1), (49, .iconst (2), 1), (50, .ishr, 1), (51, .iload_n 1, 1), (52, .if_icmp .ge (23), 3), (55, .aload_n 0, 1), (56, .getfield 19, 3), (59, .iload 4, 2), (61, .aload_n 0, 1), (62, .getfield 19, 3), (65, .iload 4, 2), (67, .iaload, 1), (68, .iconst (3), 1), (69, .iand, 1), (70, .iload_n 1, 1), (71, .iconst (2), 1), (72, .ishl, 1), (73, .ior, 1), (74, .iastore, 1), (75, .iinc 3 (1), 3), (78, .goto (-59), 3), (81, .return_, 1)]
theorem kM_mark : kx_ok mM_mark 2 := ⟨kx_by 82 (by decide +kernel) (by decide +kernel), kx_by 1041 (by decide +kernel) (by decide +kernel), by decide, ⟨by decide, by decide⟩, by decide +kernel⟩
def mM_update : kx_M := (⟨"VersionedTablesModel", "update", "(II)I"⟩, prog_11_method_42_code, 4, (some .int), [])
def tM_update : kx_T := [(0, .aload_n 0, 1), (1, .iconst (0), 1), (2, .putfield 69, 3), (5, .aload_n 0, 1), (6, .iload_n 1, 1), (7, .invokevirtual 83, 3), (10, .ifCond .ne (11), 3), (13, .aload_n 0, 1), (14, .iload_n 2, 1), (15, .invokevirtual 166, 3), (18, .ifCond .eq (9), 3), (21, .aload_n 0, 1), (22, .iconst (1), 1), (23, .invokevirtual 79, 3), (26, .ireturn, 1), (27, .aload_n 0, 1), (28, .getfield 7, 3), (31, .iload_n 2, 1), (32, .iaload, 1), (33, .istore_n 3, 1), (34, .iload_n 3, 1), (35, .iconst (4), 1), (36, .if_icmp .ge (24), 3), (39, .aload_n 0, 1), (40, .getfield 41, 3), (43, .iload_n 3, 1), (44, .baload, 1), (45, .ifCond .eq (9), 3), (48, .aload_n 0, 1), (49, .iconst (2), 1), (50, .invokevirtual 79, 3), (53, .ireturn, 1), (54, .iinc 3 (1), 3), (57, .goto (-23), 3), (60, .aload_n 0, 1), (61, .iload_n 1, 1), (62, .iload_n 2, 1), (63, .invokevirtual 169, 3), (66, .istore_n 3, 1), (67, .iload_n 3, 1), (68, .ifCond .le (11), 3), (71, .aload_n 0, 1), (72, .iconst (2), 1), (73, .iload_n 3, 1), (74, .iadd, 1), (75, .invokevirtual 79, 3), (78, .ireturn, 1), (79, .aload_n 0, 1), (80, .iload_n 2, 1), (81, .invokevirtual 192, 3), (84, .ifCond .ne (9), 3), (87, .aload_n 0, 1), (88, .iconst (4), 1), (89, .invokevirtual 79, 3), (92, .ireturn, 1), (93, .aload_n 0, 1), (94, .iload_n 1, 1), (95, .iload_n 2, 1), (96, .iconst (0), 1), (97, .iconst (5), 1), (98, .invokevirtual 195, 3), (101, .ireturn, 1)]
theorem kM_update : kx_ok mM_update 2 := ⟨kx_by 82 (by decide +kernel) (by decide +kernel), kx_by 1045 (by decide +kernel) (by decide +kernel), by decide, ⟨by decide, by decide⟩, by decide +kernel⟩
def mM_workSettings : kx_M := (⟨"VersionedTablesModel", "workSettings", "(I)Z"⟩, prog_11_method_41_code, 4, (some .boolean), [])
def tM_workSettings : kx_T := [(0, .aload_n 0, 1), (1, .iconst (0), 1), (2, .putfield 148, 3), (5, .iconst (0), 1), (6, .istore_n 2, 1), (7, .iload_n 2, 1), (8, .aload_n 0, 1), (9, .getfield 13, 3), (12, .iload_n 1, 1), (13, .iaload, 1), (14, .if_icmp .ge (86), 3), (17, .aload_n 0, 1), (18, .getfield 66, 3), (21, .iload_n 2, 1), (22, .baload, 1), (23, .ifCond .ne (6), 3), (26, .goto (68), 3), (29, .iconst (0), 1), (30, .istore_n 3, 1), (31, .iload_n 3, 1), (32, .iconst (4), 1), (33, .if_icmp .ge (61), 3), (36, .aload_n 0, 1), (37, .getfield 63, 3), (40, .iconst (4), 1), (41, .iload_n 2, 1), (42, .imul, 1), (43, .iload_n 3, 1), (44, .iadd, 1), (45, .aload_n 0, 1), (46, .getfield 41, 3), (49, .iload_n 3, 1), (50, .baload, 1), (51, .ifCond .eq (21), 3), (54, .aload_n 0, 1), (55, .iconst (1), 1), (56, .iload_n 3, 1), (57, .iadd, 1), (58, .iconst (4), 1), (59, .aload_n 0, 1), (60, .getfield 60, 3), (63, .iload_n 2, 1), (64, .iaload, 1), (65, .imul, 1), (66, .invokevirtual 162, 3), (69, .goto (18), 3), (72, .aload_n 0, 1), (73, .getfield 22, 3), (76, .iconst (4), 1), (77, .aload_n 0, 1), (78, .getfield 60, 3), (81, .iload_n 2, 1), (82, .iaload, 1), (83, .imul, 1), (84, .iload_n 3, 1), (85, .iadd, 1), (86, .iaload, 1), (87, .iastore, 1), (88, .iinc 3 (1), 3), (91, .goto (-60), 3), (94, .iinc 2 (1), 3), (97, .goto (-90), 3), (100, .aload_n 0, 1), (101, .getfield 148, 3), (104, .ifCond .ne (7), 3), (107, .iconst (1), 1), (108, .goto (4), 3), (111, .iconst (0), 1), (112, .ireturn, 1)]
theorem kM_workSettings : kx_ok mM_workSettings 1 := ⟨kx_by 82 (by decide +kernel) (by decide +kernel), kx_by 1049 (by decide +kernel) (by decide +kernel), by decide, ⟨by decide, by decide⟩, by decide +kernel⟩
def mM_writeAll : kx_M := (⟨"VersionedTablesModel", "writeAll", "(IIZI)I"⟩, prog_11_method_40_code, 7, (some .int), [])
def tM_writeAll : kx_T := [(0, .aload_n 0, 1), (1, .iload_n 1, 1), (2, .iload_n 2, 1), (3, .invokevirtual 182, 3), (6, .ifCond .eq (11), 3), (9, .aload_n 0, 1), (10, .iload_n 1, 1), (11, .iload 4, 2), (13, .invokevirtual 185, 3), (16, .ireturn, 1), (17, .aload_n 0, 1), (18, .iload_n 1, 1), (19, .iload_n 2, 1), (20, .invokevirtual 172, 3), (23, .iconst (0), 1), (24, .istore 5, 2), (26, .iconst (0), 1), (27, .istore 6, 2), (29, .iload 6, 2), (31, .aload_n 0, 1), (32, .getfield 13, 3), (35, .iload_n 2, 1), (36, .iaload, 1), (37, .if_icmp .ge (34), 3), (40, .aload_n 0, 1), (41, .getfield 66, 3), (44, .iload 6, 2), (46, .baload, 1), (47, .ifCond .ne (6), 3), (50, .goto (15), 3), (53, .aload_n 0, 1), (54, .iload_n 1, 1), (55, .iload_n 2, 1), (56, .iload 6, 2), (58, .iload_n 3, 1), (59, .invokevirtual 188, 3), (62, .iinc 5 (1), 3), (65, .iinc 6 (1), 3), (68, .goto (-39), 3), (71, .iload 5, 2), (73, .ireturn, 1)]
theorem kM_writeAll : kx_ok mM_writeAll 4 := ⟨kx_by 82 (by decide +kernel) (by decide +kernel), kx_by 1053 (by decide +kernel) (by decide +kernel), by decide, ⟨by decide, by decide⟩, by decide +kernel⟩
def mM_tooLate : kx_M := (⟨"VersionedTablesModel", "tooLate", "(II)Z"⟩, prog_11_method_37_code, 4, (some .boolean), [])
def tM_tooLate : kx_T := [(0, .iconst (0), 1), (1, .istore_n 3, 1), (2, .iload_n 3, 1), (3, .aload_n 0, 1), (4, .getfield 13, 3), (7, .iload_n 2, 1), (8, .iaload, 1), (9, .if_icmp .ge (37), 3), (12, .aload_n 0, 1), (13, .getfield 66, 3), (16, .iload_n 3, 1), (17, .baload, 1), (18, .ifCond .eq (22), 3), (21, .aload_n 0, 1), (22, .getfield 19, 3), (25, .aload_n 0, 1), (26, .getfield 60, 3), (29, .iload_n 3, 1), (30, .iaload, 1), (31, .iaload, 1), (32, .iconst (2), 1), (33, .ishr, 1), (34, .iload_n 1, 1), (35, .if_icmp .le (5), 3), (38, .iconst (1), 1), (39, .ireturn, 1), (40, .iinc 3 (1), 3), (43, .goto (-41), 3), (46, .iconst (0), 1), (47, .ireturn, 1)]
theorem kM_tooLate : kx_ok mM_tooLate 2 := ⟨kx_by 82 (by decide +kernel) (by decide +kernel), kx_by 1057 (by decide +kernel) (by decide +kernel), by decide, ⟨by decide, by decide⟩, by decide +kernel⟩
def mM_broken : kx_M := (⟨"VersionedTablesModel", "broken", "(II)I"⟩, prog_11_method_38_code, 3, (some .int), [])
def tM_broken : kx_T := [(0, .aload_n 0, 1), (1, .iload_n 1, 1), (2, .invokevirtual 87, 3), (5, .pop, 1), (6, .aload_n 0, 1), (7, .dup, 1), (8, .getfield 179, 3), (11, .iconst (1), 1), (12, .iadd, 1), (13, .putfield 179, 3), (16, .aload_n 0, 1), (17, .iload_n 2, 1), (18, .invokevirtual 79, 3), (21, .ireturn, 1)]
theorem kM_broken : kx_ok mM_broken 2 := ⟨kx_by 82 (by decide +kernel) (by decide +kernel), kx_by 1061 (by decide +kernel) (by decide +kernel), by decide, ⟨by decide, by decide⟩, by decide +kernel⟩
def mM_write : kx_M := (⟨"VersionedTablesModel", "write", "(IIIZ)V"⟩, prog_11_method_39_code, 8, none, [])
def tM_write : kx_T := [(0, .bipush (40), 2), (2, .bipush (24), 2), (4, .iload_n 2, 1), (5, .imul, 1), (6, .iload_n 3, 1), (7, .iadd, 1), (8, .imul, 1), (9, .iload_n 1, 1), (10, .iadd, 1), (11, .iconst (1), 1), (12, .isub, 1), (13, .istore 5, 2), (15, .aload_n 0, 1), (16, .getfield 19, 3), (19, .iload 5, 2), (21, .iaload, 1), (22, .ifCond .eq (15), 3), (25, .aload_n 0, 1), (26, .getfield 19, 3), (29, .iload 5, 2), (31, .iaload, 1), (32, .iconst (2), 1), (33, .ishr, 1), (34, .goto (4), 3), (37, .iload_n 1, 1), (38, .istore 6, 2), (40, .aload_n 0, 1), (41, .getfield 19, 3), (44, .iload 5, 2), (46, .iconst (1), 1), (47, .iload 4, 2), (49, .ifCond .eq (7), 3), (52, .iconst (2), 1), (53, .goto (4), 3), (56, .iconst (0), 1), (57, .iadd, 1), (58, .iconst (4), 1), (59, .iload 6, 2), (61, .imul, 1), (62, .iadd, 1), (63, .iastore, 1), (64, .iconst (0), 1), (65, .istore 7, 2), (67, .iload 7, 2), (69, .iconst (4), 1), (70, .if_icmp .ge (41), 3), (73, .aload_n 0, 1), (74, .getfield 22, 3), (77, .iconst (4), 1), (78, .iload 5, 2), (80, .imul, 1), (81, .iload 7, 2), (83, .iadd, 1), (84, .iload 4, 2), (86, .ifCond .eq (7), 3), (89, .iconst (0), 1), (90, .goto (14), 3), (93, .aload_n 0, 1), (94, .getfield 63, 3), (97, .iconst (4), 1), (98, .iload_n 3, 1), (99, .imul, 1), (100, .iload 7, 2), (102, .iadd, 1), (103, .iaload, 1), (104, .iastore, 1), (105, .iinc 7 (1), 3), (108, .goto (-41), 3), (111, .return_, 1)]
theorem kM_write : kx_ok mM_write 4 := ⟨kx_by 82 (by decide +kernel) (by decide +kernel), kx_by 1065 (by decide +kernel) (by decide +kernel), by decide, ⟨by decide, by decide⟩, by decide +kernel⟩
def mM_delete : kx_M := (⟨"VersionedTablesModel", "delete", "(II)I"⟩, prog_11_method_43_code, 4, (some .int), [])
def tM_delete : kx_T := [(0, .aload_n 0, 1), (1, .iconst (0), 1), (2, .putfield 69, 3), (5, .aload_n 0, 1), (6, .iload_n 1, 1), (7, .invokevirtual 83, 3), (10, .ifCond .ne (11), 3), (13, .aload_n 0, 1), (14, .iload_n 2, 1), (15, .invokevirtual 166, 3), (18, .ifCond .eq (9), 3), (21, .aload_n 0, 1), (22, .iconst (1), 1), (23, .invokevirtual 79, 3), (26, .ireturn, 1), (27, .aload_n 0, 1), (28, .iload_n 1, 1), (29, .iload_n 2, 1), (30, .invokevirtual 169, 3), (33, .istore_n 3, 1), (34, .iload_n 3, 1), (35, .ifCond .le (11), 3), (38, .aload_n 0, 1), (39, .iconst (1), 1), (40, .iload_n 3, 1), (41, .iadd, 1), (42, .invokevirtual 79, 3), (45, .ireturn, 1), (46, .aload_n 0, 1), (47, .iload_n 1, 1), (48, .iload_n 2, 1), (49, .iconst (1), 1), (50, .iconst (4), 1), (51, .invokevirtual 195, 3), (54, .ireturn, 1)]
theorem kM_delete : kx_ok mM_delete 2 := ⟨kx_by 82 (by decide +kernel) (by decide +kernel), kx_by 1069 (by decide +kernel) (by decide +kernel), by decide, ⟨by decide, by decide⟩, by decide +kernel⟩
def mM_insert : kx_M := (⟨"VersionedTablesModel", "insert", "(IIIIII)I"⟩, prog_11_method_44_code, 8, (some .int), [])
def tM_insert : kx_T := [(0, .aload_n 0, 1), (1, .iconst (0), 1), (2, .putfield 69, 3), (5, .aload_n 0, 1), (6, .iload_n 1, 1), (7, .invokevirtual 83, 3), (10, .ifCond .ne (11), 3), (13, .aload_n 0, 1), (14, .iload_n 2, 1), (15, .invokevirtual 166, 3), (18, .ifCond .eq (9), 3), (21, .aload_n 0, 1), (22, .iconst (1), 1), (23, .invokevirtual 79, 3), (26, .ireturn, 1), (27, .aload_n 0, 1), (28, .getfield 13, 3), (31, .iload_n 2, 1), (32, .iaload, 1), (33, .bipush (24), 2), (35, .if_icmp .ne (9), 3), (38, .aload_n 0, 1), (39, .iconst (2), 1), (40, .invokevirtual 79, 3), (43, .ireturn, 1), (44, .aload_n 0, 1), (45, .getfield 16, 3), (48, .iload_n 2, 1), (49, .iaload, 1), (50, .iload_n 1, 1), (51, .if_icmp .le (10), 3), (54, .aload_n 0, 1), (55, .iload_n 1, 1), (56, .iconst (3), 1), (57, .invokevirtual 185, 3), (60, .ireturn, 1), (61, .aload_n 0, 1), (62, .getfield 13, 3), (65, .iload_n 2, 1), (66, .iaload, 1), (67, .istore 7, 2), (69, .aload_n 0, 1), (70, .getfield 13, 3), (73, .iload_n 2, 1), (74, .dup2, 1), (75, .iaload, 1), (76, .iconst (1), 1), (77, .iadd, 1), (78, .iastore, 1), (79, .aload_n 0, 1), (80, .getfield 63, 3), (83, .iconst (4), 1), (84, .iload 7, 2), (86, .imul, 1), (87, .iload_n 3, 1), (88, .iastore, 1), (89, .aload_n 0, 1), (90, .getfield 63, 3), (93, .iconst (4), 1), (94, .iload 7, 2), (96, .imul, 1), (97, .iconst (1), 1), (98, .iadd, 1), (99, .aload_n 0, 1), (100, .getfield 7, 3), (103, .iload_n 2, 1), (104, .iaload, 1), (105, .iconst (1), 1), (106, .if_icmp .le (8), 3), (109, .iload 4, 2), (111, .goto (4), 3), (114, .iconst (0), 1), (115, .iastore, 1), (116, .aload_n 0, 1), (117, .getfield 63, 3), (120, .iconst (4), 1), (121, .iload 7, 2), (123, .imul, 1), (124, .iconst (2), 1), (125, .iadd, 1), (126, .aload_n 0, 1), (127, .getfield 7, 3), (130, .iload_n 2, 1), (131, .iaload, 1), (132, .iconst (2), 1), (133, .if_icmp .le (8), 3), (136, .iload 5, 2), (138, .goto (4), 3), (141, .iconst (0), 1), (142, .iastore, 1), (143, .aload_n 0, 1), (144, .getfield 63, 3), (147, .iconst (4), 1), (148, .iload 7, 2), (150, .imul, 1), (151, .iconst (3), 1), (152, .iadd, 1), (153, .aload_n 0, 1), (154, .getfield 7, 3), (157, .iload_n 2, 1), (158, .iaload, 1), (159, .iconst (3), 1), (160, .if_icmp .le (8), 3), (163, .iload 6, 2), (165, .goto (4), 3), (168, .iconst (0), 1), (169, .iastore, 1), (170, .aload_n 0, 1), (171, .iload_n 1, 1), (172, .iload_n 2, 1), (173, .iload 7, 2), (175, .iconst (0), 1), (176, .invokevirtual 188, 3), (179, .iload 7, 2), (181, .ireturn, 1)]
theorem kM_insert : kx_ok mM_insert 6 := ⟨kx_by 82 (by decide +kernel) (by decide +kernel), kx_by 1073 (by decide +kernel) (by decide +kernel), by decide, ⟨by decide, by decide⟩, by decide +kernel⟩
def mM_result : kx_M := (⟨"VersionedTablesModel", "result", "(II)I"⟩, prog_11_method_45_code, 3, (some .int), [])
def tM_result : kx_T := [(0, .aload_n 0, 1), (1, .iconst (0), 1), (2, .putfield 69, 3), (5, .iload_n 1, 1), (6, .aload_n 0, 1), (7, .getfield 176, 3), (10, .invokestatic 72, 3), (13, .ifCond .eq (9), 3), (16, .aload_n 0, 1), (17, .iconst (1), 1), (18, .invokevirtual 79, 3), (21, .ireturn, 1), (22, .iload_n 2, 1), (23, .iconst (-1), 1), (24, .if_icmp .lt (8), 3), (27, .iload_n 2, 1), (28, .iconst (3), 1), (29, .if_icmp .le (9), 3), (32, .aload_n 0, 1), (33, .iconst (2), 1), (34, .invokevirtual 79, 3), (37, .ireturn, 1), (38, .iload_n 2, 1), (39, .ifCond .ge (12), 3), (42, .aload_n 0, 1), (43, .getfield 54, 3), (46, .iload_n 1, 1), (47, .iaload, 1), (48, .goto (13), 3), (51, .aload_n 0, 1), (52, .getfield 57, 3), (55, .iconst (4), 1), (56, .iload_n 1, 1), (57, .imul, 1), (58, .iload_n 2, 1), (59, .iadd, 1), (60, .iaload, 1), (61, .ireturn, 1)]
theorem kM_result : kx_ok mM_result 2 := ⟨kx_by 82 (by decide +kernel) (by decide +kernel), kx_by 1077 (by decide +kernel) (by decide +kernel), by decide, ⟨by decide, by decide⟩, by decide +kernel⟩
def mM_mean : kx_M := (⟨"VersionedTablesModel", "mean", "(I)D"⟩, prog_11_method_46_code, 5, (some .double), [])
def tM_mean : kx_T := [(0, .aload_n 0, 1), (1, .iconst (0), 1), (2, .putfield 69, 3), (5, .iload_n 1, 1), (6, .iconst (4), 1), (7, .invokestatic 72, 3), (10, .ifCond .eq (10), 3), (13, .aload_n 0, 1), (14, .iconst (1), 1), (15, .invokevirtual 79, 3), (18, .i2d, 1), (19, .dreturn, 1), (20, .aload_n 0, 1), (21, .getfield 176, 3), (24, .ifCond .ne (10), 3), (27, .aload_n 0, 1), (28, .iconst (2), 1), (29, .invokevirtual 79, 3), (32, .i2d, 1), (33, .dreturn, 1), (34, .lconst 0, 1), (35, .lstore_n 2, 1), (36, .iconst (0), 1), (37, .istore 4, 2), (39, .iload 4, 2), (41, .aload_n 0, 1), (42, .getfield 176, 3), (45, .if_icmp .ge (24), 3), (48, .lload_n 2, 1), (49, .aload_n 0, 1), (50, .getfield 57, 3), (53, .iconst (4), 1), (54, .iload 4, 2), (56, .imul, 1), (57, .iload_n 1, 1), (58, .iadd, 1), (59, .iaload, 1), (60, .i2l, 1), (61, .ladd, 1), (62, .lstore_n 2, 1), (63, .iinc 4 (1), 3), (66, .goto (-27), 3), (69, .lload_n 2, 1), (70, .l2d, 1), (71, .aload_n 0, 1), (72, .getfield 176, 3), (75, .i2d, 1), (76, .ddiv, 1), (77, .dreturn, 1)]
theorem kM_mean : kx_ok mM_mean 1 := ⟨kx_by 82 (by decide +kernel) (by decide +kernel), kx_by 1081 (by decide +kernel) (by decide +kernel), by decide, ⟨by decide, by decide⟩, by decide +kernel⟩
def mM_vacuum : kx_M := (⟨"VersionedTablesModel", "vacuum", "()I"⟩, prog_11_method_47_code, 6, (some .int), [])
def tM_vacuum : kx_T := [(0, .aload_n 0, 1), (1, .iconst (0), 1), (2, .putfield 69, 3), (5, .iconst (1), 1), (6, .istore_n 1, 1), (7, .iload_n 1, 1), (8, .aload_n 0, 1), (9, .getfield 76, 3), (12, .if_icmp .gt (19), 3), (15, .aload_n 0, 1), (16, .getfield 25, 3), (19, .iload_n 1, 1), (20, .iaload, 1), (21, .iconst (1), 1), (22, .if_icmp .eq (9), 3), (25, .iinc 1 (1), 3), (28, .goto (-21), 3), (31, .iconst (0), 1), (32, .istore_n 2, 1), (33, .iconst (0), 1), (34, .istore_n 3, 1), (35, .iload_n 3, 1), (36, .sipush (2880), 3), (39, .if_icmp .ge (84), 3), (42, .iconst (0), 1), (43, .istore 4, 2), (45, .bipush (40), 2), (47, .istore 5, 2), (49, .iload 5, 2), (51, .ifCond .le (66), 3), (54, .aload_n 0, 1), (55, .getfield 19, 3), (58, .iload_n 3, 1), (59, .iload 5, 2), (61, .iadd, 1), (62, .iconst (1), 1), (63, .isub, 1), (64, .iaload, 1), (65, .ifCond .eq (46), 3), (68, .aload_n 0, 1), (69, .getfield 25, 3), (72, .iload 5, 2), (74, .iaload, 1), (75, .iconst (2), 1), (76, .if_icmp .eq (6), 3), (79, .goto (32), 3), (82, .iload 4, 2), (84, .ifCond .eq (18), 3), (87, .aload_n 0, 1), (88, .getfield 19, 3), (91, .iload_n 3, 1), (92, .iload 5, 2), (94, .iadd, 1), (95, .iconst (1), 1), (96, .isub, 1), (97, .iconst (0), 1), (98, .iastore, 1), (99, .iinc 2 (1), 3), (102, .iload 5, 2), (104, .iload_n 1, 1), (105, .if_icmp .gt (6), 3), (108, .iconst (1), 1), (109, .istore 4, 2), (111, .iinc 5 (-1), 3), (114, .goto (-65), 3), (117, .iinc 3 (40), 3), (120, .goto (-85), 3), (123, .iload_n 2, 1), (124, .ireturn, 1)]
theorem kM_vacuum : kx_ok mM_vacuum 0 := ⟨kx_by 82 (by decide +kernel) (by decide +kernel), kx_by 1085 (by decide +kernel) (by decide +kernel), by decide, ⟨by decide, by decide⟩, by decide +kernel⟩
def mM_versions : kx_M := (⟨"VersionedTablesModel", "versions", "(II)I"⟩, prog_11_method_49_code, 3, (some .int), [])
def tM_versions : kx_T := [(0, .aload_n 0, 1), (1, .iconst (0), 1), (2, .putfield 69, 3), (5, .aload_n 0, 1), (6, .iload_n 1, 1), (7, .invokevirtual 166, 3), (10, .ifCond .ne (16), 3), (13, .iload_n 2, 1), (14, .aload_n 0, 1), (15, .getfield 13, 3), (18, .iload_n 1, 1), (19, .iaload, 1), (20, .invokestatic 72, 3), (23, .ifCond .eq (11), 3), (26, .aload_n 0, 1), (27, .iconst (1), 1), (28, .invokevirtual 79, 3), (31, .goto (13), 3), (34, .aload_n 0, 1), (35, .bipush (24), 2), (37, .iload_n 1, 1), (38, .imul, 1), (39, .iload_n 2, 1), (40, .iadd, 1), (41, .invokevirtual 199, 3), (44, .ireturn, 1)]
theorem kM_versions : kx_ok mM_versions 2 := ⟨kx_by 82 (by decide +kernel) (by decide +kernel), kx_by 1089 (by decide +kernel) (by decide +kernel), by decide, ⟨by decide, by decide⟩, by decide +kernel⟩
def mM_versionsOf : kx_M := (⟨"VersionedTablesModel", "versionsOf", "(I)I"⟩, prog_11_method_48_code, 4, (some .int), [])
def tM_versionsOf : kx_T := [(0, .iconst (0), 1), (1, .istore_n 2, 1), (2, .bipush (40), 2), (4, .iload_n 1, 1), (5, .imul, 1), (6, .istore_n 3, 1), (7, .iload_n 3, 1), (8, .bipush (40), 2), (10, .iload_n 1, 1), (11, .imul, 1), (12, .bipush (40), 2), (14, .iadd, 1), (15, .if_icmp .ge (21), 3), (18, .aload_n 0, 1), (19, .getfield 19, 3), (22, .iload_n 3, 1), (23, .iaload, 1), (24, .ifCond .eq (6), 3), (27, .iinc 2 (1), 3), (30, .iinc 3 (1), 3), (33, .goto (-26), 3), (36, .iload_n 2, 1), (37, .ireturn, 1)]
theorem kM_versionsOf : kx_ok mM_versionsOf 1 := ⟨kx_by 82 (by decide +kernel) (by decide +kernel), kx_by 1093 (by decide +kernel) (by decide +kernel), by decide, ⟨by decide, by decide⟩, by decide +kernel⟩
def mM_count : kx_M := (⟨"VersionedTablesModel", "count", "(I)I"⟩, prog_11_method_51_code, 4, (some .int), [])
def tM_count : kx_T := [(0, .aload_n 0, 1), (1, .iconst (0), 1), (2, .putfield 69, 3), (5, .iconst (0), 1), (6, .istore_n 2, 1), (7, .iload_n 1, 1), (8, .tableswitch (131) (0) (10) #[60, 65, 71, 77, 82, 87, 92, 116, 121, 121, 121], 60), (68, .aload_n 0, 1), (69, .getfield 76, 3), (72, .ireturn, 1), (73, .aload_n 0, 1), (74, .iconst (1), 1), (75, .invokevirtual 202, 3), (78, .ireturn, 1), (79, .aload_n 0, 1), (80, .iconst (2), 1), (81, .invokevirtual 202, 3), (84, .ireturn, 1), (85, .aload_n 0, 1), (86, .getfield 176, 3), (89, .ireturn, 1), (90, .aload_n 0, 1), (91, .getfield 90, 3), (94, .ireturn, 1), (95, .aload_n 0, 1), (96, .invokevirtual 144, 3), (99, .ireturn, 1), (100, .iconst (0), 1), (101, .istore_n 3, 1), (102, .iload_n 3, 1), (103, .bipush (72), 2), (105, .if_icmp .ge (17), 3), (108, .iload_n 2, 1), (109, .aload_n 0, 1), (110, .iload_n 3, 1), (111, .invokevirtual 199, 3), (114, .iadd, 1), (115, .istore_n 2, 1), (116, .iinc 3 (1), 3), (119, .goto (-17), 3), (122, .iload_n 2, 1), (123, .ireturn, 1), (124, .aload_n 0, 1), (125, .getfield 179, 3), (128, .ireturn, 1), (129, .aload_n 0, 1), (130, .getfield 13, 3), (133, .iload_n 1, 1), (134, .bipush (8), 2), (136, .isub, 1), (137, .iaload, 1), (138, .ireturn, 1), (139, .iconst (-1), 1), (140, .ireturn, 1)]
theorem kM_count : kx_ok mM_count 1 := ⟨kx_by 82 (by decide +kernel) (by decide +kernel), kx_by 1097 (by decide +kernel) (by decide +kernel), by decide, ⟨by decide, by decide⟩, by decide +kernel⟩
def mM_inState : kx_M := (⟨"VersionedTablesModel", "inState", "(I)I"⟩, prog_11_method_50_code, 4, (some .int), [])
def tM_inState : kx_T := [(0, .iconst (0), 1), (1, .istore_n 2, 1), (2, .iconst (1), 1), (3, .istore_n 3, 1), (4, .iload_n 3, 1), (5, .aload_n 0, 1), (6, .getfield 76, 3), (9, .if_icmp .gt (22), 3), (12, .aload_n 0, 1), (13, .getfield 25, 3), (16, .iload_n 3, 1), (17, .iaload, 1), (18, .iload_n 1, 1), (19, .if_icmp .ne (6), 3), (22, .iinc 2 (1), 3), (25, .iinc 3 (1), 3), (28, .goto (-24), 3), (31, .iload_n 2, 1), (32, .ireturn, 1)]
theorem kM_inState : kx_ok mM_inState 1 := ⟨kx_by 82 (by decide +kernel) (by decide +kernel), kx_by 1101 (by decide +kernel) (by decide +kernel), by decide, ⟨by decide, by decide⟩, by decide +kernel⟩
def mL_law : kx_M := (⟨"VersionedTablesLaw", "law", "([I)Z"⟩, code, 9, (some .boolean), [])
end
section
theorem dV_init : kx_dec mV_init.2.1 tV_init := by
  unfold kx_dec
  decide +kernel
theorem dT_init : kx_dec mT_init.2.1 tT_init := by
  unfold kx_dec
  decide +kernel
theorem dP_init : kx_dec mP_init.2.1 tP_init := by
  unfold kx_dec
  decide +kernel
theorem dS_init : kx_dec mS_init.2.1 tS_init := by
  unfold kx_dec
  decide +kernel
theorem dV_clear : kx_dec mV_clear.2.1 tV_clear := by
  unfold kx_dec
  decide +kernel
theorem dV_settingsThere : kx_dec mV_settingsThere.2.1 tV_settingsThere := by
  unfold kx_dec
  decide +kernel
theorem dV_errorAt : kx_dec mV_errorAt.2.1 tV_errorAt := by
  unfold kx_dec
  decide +kernel
theorem dV_vacuum : kx_dec mV_vacuum.2.1 tV_vacuum := by
  unfold kx_dec
  decide +kernel
theorem dT_leastOpen : kx_dec mT_leastOpen.2.1 tT_leastOpen := by
  unfold kx_dec
  decide +kernel
theorem dV_sweep : kx_dec mV_sweep.2.1 tV_sweep := by
  unfold kx_dec
  decide +kernel
theorem dV_sweepRow : kx_dec mV_sweepRow.2.1 tV_sweepRow := by
  unfold kx_dec
  decide +kernel
theorem dR_has : kx_dec mR_has.2.1 tR_has := by
  unfold kx_dec
  decide +kernel
theorem dT_is : kx_dec mT_is.2.1 tT_is := by
  unfold kx_dec
  decide +kernel
theorem dR_drop : kx_dec mR_drop.2.1 tR_drop := by
  unfold kx_dec
  decide +kernel
theorem dV_count : kx_dec mV_count.2.1 tV_count := by
  unfold kx_dec
  decide +kernel
theorem dT_howMany : kx_dec mT_howMany.2.1 tT_howMany := by
  unfold kx_dec
  decide +kernel
theorem dV_allVersions : kx_dec mV_allVersions.2.1 tV_allVersions := by
  unfold kx_dec
  decide +kernel
theorem dB_versionsThere : kx_dec mB_versionsThere.2.1 tB_versionsThere := by
  unfold kx_dec
  decide +kernel
theorem dR_size : kx_dec mR_size.2.1 tR_size := by
  unfold kx_dec
  decide +kernel
theorem dV_rowsMade : kx_dec mV_rowsMade.2.1 tV_rowsMade := by
  unfold kx_dec
  decide +kernel
theorem dL_create : kx_dec mL_create.2.1 tL_create := by
  unfold kx_dec
  decide +kernel
theorem dV_create : kx_dec mV_create.2.1 tV_create := by
  unfold kx_dec
  decide +kernel
theorem dB_init : kx_dec mB_init.2.1 tB_init := by
  unfold kx_dec
  decide +kernel
theorem dR_init : kx_dec mR_init.2.1 tR_init := by
  unfold kx_dec
  decide +kernel
theorem dL_type : kx_dec mL_type.2.1 tL_type := by
  unfold kx_dec
  decide +kernel
theorem dV_type : kx_dec mV_type.2.1 tV_type := by
  unfold kx_dec
  decide +kernel
theorem dL_where : kx_dec mL_where.2.1 tL_where := by
  unfold kx_dec
  decide +kernel
theorem dV_where : kx_dec mV_where.2.1 tV_where := by
  unfold kx_dec
  decide +kernel
theorem dQ_init : kx_dec mQ_init.2.1 tQ_init := by
  unfold kx_dec
  decide +kernel
theorem dQ_readCondition : kx_dec mQ_readCondition.2.1 tQ_readCondition := by
  unfold kx_dec
  decide +kernel
theorem dQ_readAll : kx_dec mQ_readAll.2.1 tQ_readAll := by
  unfold kx_dec
  decide +kernel
theorem dQ_readPart : kx_dec mQ_readPart.2.1 tQ_readPart := by
  unfold kx_dec
  decide +kernel
theorem dQ_next : kx_dec mQ_next.2.1 tQ_next := by
  unfold kx_dec
  decide +kernel
end
section
theorem dQ_readComparison : kx_dec mQ_readComparison.2.1 tQ_readComparison := by
  unfold kx_dec
  decide +kernel
theorem dQ_readTerm : kx_dec mQ_readTerm.2.1 tQ_readTerm := by
  unfold kx_dec
  decide +kernel
theorem dQ_readItem : kx_dec mQ_readItem.2.1 tQ_readItem := by
  unfold kx_dec
  decide +kernel
theorem dP_isColumn : kx_dec mP_isColumn.2.1 tP_isColumn := by
  unfold kx_dec
  decide +kernel
theorem dP_add : kx_dec mP_add.2.1 tP_add := by
  unfold kx_dec
  decide +kernel
theorem dQ_isDigit : kx_dec mQ_isDigit.2.1 tQ_isDigit := by
  unfold kx_dec
  decide +kernel
theorem dQ_isCalculation : kx_dec mQ_isCalculation.2.1 tQ_isCalculation := by
  unfold kx_dec
  decide +kernel
theorem dQ_isComparison : kx_dec mQ_isComparison.2.1 tQ_isComparison := by
  unfold kx_dec
  decide +kernel
theorem dQ_skip : kx_dec mQ_skip.2.1 tQ_skip := by
  unfold kx_dec
  decide +kernel
theorem dQ_isJoin : kx_dec mQ_isJoin.2.1 tQ_isJoin := by
  unfold kx_dec
  decide +kernel
theorem dV_takeLine : kx_dec mV_takeLine.2.1 tV_takeLine := by
  unfold kx_dec
  decide +kernel
theorem dL_setting : kx_dec mL_setting.2.1 tL_setting := by
  unfold kx_dec
  decide +kernel
theorem dV_setting : kx_dec mV_setting.2.1 tV_setting := by
  unfold kx_dec
  decide +kernel
theorem dQ_readSetting : kx_dec mQ_readSetting.2.1 tQ_readSetting := by
  unfold kx_dec
  decide +kernel
theorem dL_begin : kx_dec mL_begin.2.1 tL_begin := by
  unfold kx_dec
  decide +kernel
theorem dV_begin : kx_dec mV_begin.2.1 tV_begin := by
  unfold kx_dec
  decide +kernel
theorem dT_beginNext : kx_dec mT_beginNext.2.1 tT_beginNext := by
  unfold kx_dec
  decide +kernel
theorem dL_commit : kx_dec mL_commit.2.1 tL_commit := by
  unfold kx_dec
  decide +kernel
theorem dV_commit : kx_dec mV_commit.2.1 tV_commit := by
  unfold kx_dec
  decide +kernel
theorem dV_mustBeOpen : kx_dec mV_mustBeOpen.2.1 tV_mustBeOpen := by
  unfold kx_dec
  decide +kernel
theorem dT_end : kx_dec mT_end.2.1 tT_end := by
  unfold kx_dec
  decide +kernel
theorem dL_abort : kx_dec mL_abort.2.1 tL_abort := by
  unfold kx_dec
  decide +kernel
theorem dV_abort : kx_dec mV_abort.2.1 tV_abort := by
  unfold kx_dec
  decide +kernel
theorem dV_breakOff : kx_dec mV_breakOff.2.1 tV_breakOff := by
  unfold kx_dec
  decide +kernel
theorem dB_dropAllOf : kx_dec mB_dropAllOf.2.1 tB_dropAllOf := by
  unfold kx_dec
  decide +kernel
theorem dL_insert : kx_dec mL_insert.2.1 tL_insert := by
  unfold kx_dec
  decide +kernel
theorem dV_insert : kx_dec mV_insert.2.1 tV_insert := by
  unfold kx_dec
  decide +kernel
theorem dV_tableThere : kx_dec mV_tableThere.2.1 tV_tableThere := by
  unfold kx_dec
  decide +kernel
theorem dV_breakTooLate : kx_dec mV_breakTooLate.2.1 tV_breakTooLate := by
  unfold kx_dec
  decide +kernel
theorem dB_addRow : kx_dec mB_addRow.2.1 tB_addRow := by
  unfold kx_dec
  decide +kernel
theorem dR_write : kx_dec mR_write.2.1 tR_write := by
  unfold kx_dec
  decide +kernel
theorem dN_init : kx_dec mN_init.2.1 tN_init := by
  unfold kx_dec
  decide +kernel
theorem dN_put : kx_dec mN_put.2.1 tN_put := by
  unfold kx_dec
  decide +kernel
theorem dL_select : kx_dec mL_select.2.1 tL_select := by
  unfold kx_dec
  decide +kernel
theorem dV_select : kx_dec mV_select.2.1 tV_select := by
  unfold kx_dec
  decide +kernel
theorem dV_choose : kx_dec mV_choose.2.1 tV_choose := by
  unfold kx_dec
  decide +kernel
end
section
theorem dR_holding : kx_dec mR_holding.2.1 tR_holding := by
  unfold kx_dec
  decide +kernel
theorem dP_holds : kx_dec mP_holds.2.1 tP_holds := by
  unfold kx_dec
  decide +kernel
theorem dP_work : kx_dec mP_work.2.1 tP_work := by
  unfold kx_dec
  decide +kernel
theorem dP_workStep : kx_dec mP_workStep.2.1 tP_workStep := by
  unfold kx_dec
  decide +kernel
theorem dP_pop : kx_dec mP_pop.2.1 tP_pop := by
  unfold kx_dec
  decide +kernel
theorem dP_truth : kx_dec mP_truth.2.1 tP_truth := by
  unfold kx_dec
  decide +kernel
theorem dP_combine : kx_dec mP_combine.2.1 tP_combine := by
  unfold kx_dec
  decide +kernel
theorem dP_divide : kx_dec mP_divide.2.1 tP_divide := by
  unfold kx_dec
  decide +kernel
theorem dP_push : kx_dec mP_push.2.1 tP_push := by
  unfold kx_dec
  decide +kernel
theorem dS_add : kx_dec mS_add.2.1 tS_add := by
  unfold kx_dec
  decide +kernel
theorem dB_markRead : kx_dec mB_markRead.2.1 tB_markRead := by
  unfold kx_dec
  decide +kernel
theorem dL_update : kx_dec mL_update.2.1 tL_update := by
  unfold kx_dec
  decide +kernel
theorem dV_update : kx_dec mV_update.2.1 tV_update := by
  unfold kx_dec
  decide +kernel
theorem dV_refuseSettingsBeyond : kx_dec mV_refuseSettingsBeyond.2.1 tV_refuseSettingsBeyond := by
  unfold kx_dec
  decide +kernel
theorem dV_workOutSettings : kx_dec mV_workOutSettings.2.1 tV_workOutSettings := by
  unfold kx_dec
  decide +kernel
theorem dV_write : kx_dec mV_write.2.1 tV_write := by
  unfold kx_dec
  decide +kernel
theorem dV_isTooLate : kx_dec mV_isTooLate.2.1 tV_isTooLate := by
  unfold kx_dec
  decide +kernel
theorem dL_delete : kx_dec mL_delete.2.1 tL_delete := by
  unfold kx_dec
  decide +kernel
theorem dV_delete : kx_dec mV_delete.2.1 tV_delete := by
  unfold kx_dec
  decide +kernel
theorem dL_result : kx_dec mL_result.2.1 tL_result := by
  unfold kx_dec
  decide +kernel
theorem dV_result : kx_dec mV_result.2.1 tV_result := by
  unfold kx_dec
  decide +kernel
theorem dV_mustBeColumn : kx_dec mV_mustBeColumn.2.1 tV_mustBeColumn := by
  unfold kx_dec
  decide +kernel
theorem dL_mean : kx_dec mL_mean.2.1 tL_mean := by
  unfold kx_dec
  decide +kernel
theorem dV_mean : kx_dec mV_mean.2.1 tV_mean := by
  unfold kx_dec
  decide +kernel
theorem dS_sum : kx_dec mS_sum.2.1 tS_sum := by
  unfold kx_dec
  decide +kernel
theorem dL_versions : kx_dec mL_versions.2.1 tL_versions := by
  unfold kx_dec
  decide +kernel
theorem dV_versions : kx_dec mV_versions.2.1 tV_versions := by
  unfold kx_dec
  decide +kernel
theorem dM_init : kx_dec mM_init.2.1 tM_init := by
  unfold kx_dec
  decide +kernel
end
section
theorem dM_thrown : kx_dec mM_thrown.2.1 tM_thrown := by
  unfold kx_dec
  decide +kernel
theorem dM_create : kx_dec mM_create.2.1 tM_create := by
  unfold kx_dec
  decide +kernel
theorem dM_out : kx_dec mM_out.2.1 tM_out := by
  unfold kx_dec
  decide +kernel
theorem dM_begin : kx_dec mM_begin.2.1 tM_begin := by
  unfold kx_dec
  decide +kernel
theorem dM_fail : kx_dec mM_fail.2.1 tM_fail := by
  unfold kx_dec
  decide +kernel
theorem dM_commit : kx_dec mM_commit.2.1 tM_commit := by
  unfold kx_dec
  decide +kernel
theorem dM_closed : kx_dec mM_closed.2.1 tM_closed := by
  unfold kx_dec
  decide +kernel
theorem dM_abort : kx_dec mM_abort.2.1 tM_abort := by
  unfold kx_dec
  decide +kernel
theorem dM_breakUp : kx_dec mM_breakUp.2.1 tM_breakUp := by
  unfold kx_dec
  decide +kernel
theorem dM_type : kx_dec mM_type.2.1 tM_type := by
  unfold kx_dec
  decide +kernel
theorem dM_where : kx_dec mM_where.2.1 tM_where := by
  unfold kx_dec
  decide +kernel
theorem dM_read : kx_dec mM_read.2.1 tM_read := by
  unfold kx_dec
  decide +kernel
theorem dM_settingText : kx_dec mM_settingText.2.1 tM_settingText := by
  unfold kx_dec
  decide +kernel
theorem dM_term : kx_dec mM_term.2.1 tM_term := by
  unfold kx_dec
  decide +kernel
theorem dM_item : kx_dec mM_item.2.1 tM_item := by
  unfold kx_dec
  decide +kernel
theorem dM_add : kx_dec mM_add.2.1 tM_add := by
  unfold kx_dec
  decide +kernel
theorem dM_arithmetic : kx_dec mM_arithmetic.2.1 tM_arithmetic := by
  unfold kx_dec
  decide +kernel
theorem dM_condition : kx_dec mM_condition.2.1 tM_condition := by
  unfold kx_dec
  decide +kernel
theorem dM_part : kx_dec mM_part.2.1 tM_part := by
  unfold kx_dec
  decide +kernel
theorem dM_push : kx_dec mM_push.2.1 tM_push := by
  unfold kx_dec
  decide +kernel
theorem dM_comparison : kx_dec mM_comparison.2.1 tM_comparison := by
  unfold kx_dec
  decide +kernel
theorem dM_endPart : kx_dec mM_endPart.2.1 tM_endPart := by
  unfold kx_dec
  decide +kernel
end
section
theorem dM_keep : kx_dec mM_keep.2.1 tM_keep := by
  unfold kx_dec
  decide +kernel
theorem dM_setting : kx_dec mM_setting.2.1 tM_setting := by
  unfold kx_dec
  decide +kernel
theorem dM_settings : kx_dec mM_settings.2.1 tM_settings := by
  unfold kx_dec
  decide +kernel
theorem dM_clear : kx_dec mM_clear.2.1 tM_clear := by
  unfold kx_dec
  decide +kernel
theorem dM_errorAt : kx_dec mM_errorAt.2.1 tM_errorAt := by
  unfold kx_dec
  decide +kernel
theorem dM_select : kx_dec mM_select.2.1 tM_select := by
  unfold kx_dec
  decide +kernel
theorem dM_noTable : kx_dec mM_noTable.2.1 tM_noTable := by
  unfold kx_dec
  decide +kernel
theorem dM_look : kx_dec mM_look.2.1 tM_look := by
  unfold kx_dec
  decide +kernel
theorem dM_held : kx_dec mM_held.2.1 tM_held := by
  unfold kx_dec
  decide +kernel
theorem dM_gone : kx_dec mM_gone.2.1 tM_gone := by
  unfold kx_dec
  decide +kernel
theorem dM_worked : kx_dec mM_worked.2.1 tM_worked := by
  unfold kx_dec
  decide +kernel
theorem dM_done : kx_dec mM_done.2.1 tM_done := by
  unfold kx_dec
  decide +kernel
theorem dM_mark : kx_dec mM_mark.2.1 tM_mark := by
  unfold kx_dec
  decide +kernel
theorem dM_update : kx_dec mM_update.2.1 tM_update := by
  unfold kx_dec
  decide +kernel
theorem dM_workSettings : kx_dec mM_workSettings.2.1 tM_workSettings := by
  unfold kx_dec
  decide +kernel
theorem dM_writeAll : kx_dec mM_writeAll.2.1 tM_writeAll := by
  unfold kx_dec
  decide +kernel
end
section
theorem dM_tooLate : kx_dec mM_tooLate.2.1 tM_tooLate := by
  unfold kx_dec
  decide +kernel
theorem dM_broken : kx_dec mM_broken.2.1 tM_broken := by
  unfold kx_dec
  decide +kernel
theorem dM_write : kx_dec mM_write.2.1 tM_write := by
  unfold kx_dec
  decide +kernel
theorem dM_delete : kx_dec mM_delete.2.1 tM_delete := by
  unfold kx_dec
  decide +kernel
theorem dM_insert : kx_dec mM_insert.2.1 tM_insert := by
  unfold kx_dec
  decide +kernel
theorem dM_result : kx_dec mM_result.2.1 tM_result := by
  unfold kx_dec
  decide +kernel
theorem dM_mean : kx_dec mM_mean.2.1 tM_mean := by
  unfold kx_dec
  decide +kernel
theorem dM_vacuum : kx_dec mM_vacuum.2.1 tM_vacuum := by
  unfold kx_dec
  decide +kernel
theorem dM_versions : kx_dec mM_versions.2.1 tM_versions := by
  unfold kx_dec
  decide +kernel
theorem dM_versionsOf : kx_dec mM_versionsOf.2.1 tM_versionsOf := by
  unfold kx_dec
  decide +kernel
theorem dM_count : kx_dec mM_count.2.1 tM_count := by
  unfold kx_dec
  decide +kernel
theorem dM_inState : kx_dec mM_inState.2.1 tM_inState := by
  unfold kx_dec
  decide +kernel
end
section
/-! ===== the entries of the constant pools, each with its rule ===== -/
theorem cV_1 {a : Nat} {G : kx_G} {l : Launch} {M : kx_M} {d : Nat} {Q : Outcome → kx_H → Prop} {kc ks pc : Nat} {lv : kx_L} {st : List Value} {h : kx_H} (hM : M.1.cls = "VersionedTables") (hd : decode M.2.1 pc = .ok (.invokespecial 1, 3)) (hst : (st.map fun v => v.category).sum ≤ 8) (kk : kx_w G l M d Q kc ks (pc + 3) lv st h) : kx_w G l M d Q kc ks pc lv (.ref a :: st) h := kx_obj (by rw [hM]; exact kx_by 105 (by decide +kernel) (by decide +kernel)) (kx_by 106 (by decide +kernel) (by decide +kernel)) (kx_by 107 (by decide +kernel) (by decide +kernel)) hst hd kk
theorem aV_9 {n : Int32} {N : Nat} {G : kx_G} {l : Launch} {M : kx_M} {d : Nat} {Q : Outcome → kx_H → Prop} {kc ks pc : Nat} {lv : kx_L} {st : List Value} {h : kx_H} (hM : M.1.cls = "VersionedTables") (hd : decode M.2.1 pc = .ok (.anewarray 9, 3)) (hn : ¬ n < 0) (hN : n.toNatClampNeg = N) (hby : N * 4 ≤ 536870912) (kk : kx_w G l M d Q kc ks (pc + 3) lv (.ref h.1 :: st) (kx_new h (.inl (1, N, .inr (.inr (.inr (.inr (fun _ => none)))))))) : kx_w G l M d Q (kc + 1) (ks + N) pc lv (.int n :: st) h := kx_newq (C := "VersionedTables$Table") rfl (by rw [hM]; exact kx_by 108 (by decide +kernel) (by decide +kernel)) (kx_by 109 (by decide +kernel) (by decide +kernel)) hn hN hby hd kk
theorem nV_9 {G : kx_G} {l : Launch} {M : kx_M} {d : Nat} {Q : Outcome → kx_H → Prop} {kc ks pc : Nat} {lv : kx_L} {st : List Value} {h : kx_H} (hM : M.1.cls = "VersionedTables") (hd : decode M.2.1 pc = .ok (.new 9, 3)) (kk : kx_w G l M d Q kc ks (pc + 3) lv (.ref h.1 :: st) (kx_new h (.inr (4, [.int 0, .null, .int 0, .int 0])))) : kx_w G l M d Q (kc + 1) (ks + 4) pc lv st h := kx_newo (C := kR_B) (T := kF_B) (N := 4) (ty0 := kT_B) rfl kI_B kY_B (by rw [hM]; exact kx_by 108 (by decide +kernel) (by decide +kernel)) (kx_by 265 (by decide +kernel) (by decide +kernel)) (kx_by 88 (by decide +kernel) (by decide +kernel)) (by decide) hd kk
/-- V.tables -/
theorem pV_11 {a : Nat} {fs : List Value} {v : Value} {G : kx_G} {l : Launch} {M : kx_M} {d : Nat} {Q : Outcome → kx_H → Prop} {kc ks pc : Nat} {lv : kx_L} {st : List Value} {h : kx_H} (hM : M.1.cls = "VersionedTables") (hd : decode M.2.1 pc = .ok (.getfield 11, 3)) (hc : kx_is G h a (.inr (0, fs))) (hv : fs[0]? = some v) (kk : kx_w G l M d Q kc ks (pc + 3) lv (v :: st) h) : kx_w G l M d Q kc ks pc lv (.ref a :: st) h := kx_getf (C := kR_V) (T := kF_V) (N := 10) (k := 0) rfl kI_V (by decide) (by rw [hM]; exact kx_by 172 (by decide +kernel) (by decide +kernel)) hd hc hv kk
/-- V.tables is written -/
theorem qV_11 {a : Nat} {fs : List Value} {v : Value} {G : kx_G} {l : Launch} {M : kx_M} {d : Nat} {Q : Outcome → kx_H → Prop} {kc ks pc : Nat} {lv : kx_L} {st : List Value} {h : kx_H} (hM : M.1.cls = "VersionedTables") (hI : M.1.name = "<init>") (hd : decode M.2.1 pc = .ok (.putfield 11, 3)) (hc : kx_is G h a (.inr (0, fs))) (hn : narrow (.array (.object "VersionedTables$Table")) v = v) (hf : fits (.array (.object "VersionedTables$Table")) v = true) (hlen : 0 < fs.length) (kk : kx_w G l M d Q kc ks (pc + 3) lv st (kx_set h a (.inr (0, fs.set 0 v)))) : kx_w G l M d Q kc ks pc lv (v :: .ref a :: st) h := kx_puti (C := kR_V) (T := kF_V) (N := 10) (k := 0) (ty0 := kT_V) (ty := (.array (.object "VersionedTables$Table"))) rfl kI_V kY_V kN_V (by decide) (by rw [hM]; exact kx_by 172 (by decide +kernel) (by decide +kernel)) rfl (by rw [hI]) (by rw [hM]; rfl) (by decide +kernel) hd hc hn hf hlen kk
theorem nV_15 {G : kx_G} {l : Launch} {M : kx_M} {d : Nat} {Q : Outcome → kx_H → Prop} {kc ks pc : Nat} {lv : kx_L} {st : List Value} {h : kx_H} (hM : M.1.cls = "VersionedTables") (hd : decode M.2.1 pc = .ok (.new 15, 3)) (kk : kx_w G l M d Q kc ks (pc + 3) lv (.ref h.1 :: st) (kx_new h (.inr (1, [.null, .int 0, .int 0])))) : kx_w G l M d Q (kc + 1) (ks + 3) pc lv st h := kx_newo (C := kR_T) (T := kF_T) (N := 3) (ty0 := kT_T) rfl kI_T kY_T (by rw [hM]; exact kx_by 110 (by decide +kernel) (by decide +kernel)) (kx_by 111 (by decide +kernel) (by decide +kernel)) (kx_by 79 (by decide +kernel) (by decide +kernel)) (by decide) hd kk
/-- T_init -/
theorem cV_17 {b : Nat} {sk as : List Value} {G : kx_G} {l : Launch} {M : kx_M} {d mc ms : Nat} {Q Qc : Outcome → kx_H → Prop} {kc ks pc : Nat} {lv : kx_L} {st : List Value} {h : kx_H} (hM : M.1.cls = "VersionedTables") (hd : decode M.2.1 pc = .ok (.invokespecial 17, 3)) (hn : as.length = 0) (hsk : sk = as.reverse ++ .ref b :: st) (hst : (st.map fun v => v.category).sum ≤ 8) (hC : kx_c G l mT_init d mc ms (.ref b :: as) h Qc) (hk : ∀ o h', Qc o h' → kx_k G l M (d + 1) Q kc ks pc lv st o h') : kx_w G l M (d + 1) Q (kc + mc) (ks + ms) pc lv sk h := kx_ini (N := mT_init) (host := "VersionedTables") (by rw [hn]; exact kT_init) (by rw [hM]; exact Or.inl (kx_by 112 (by decide +kernel) (by decide +kernel))) (kx_by 113 (by decide +kernel) (by decide +kernel)) rfl ⟨rfl, rfl⟩ hd hsk hst hC hk
/-- V.transactions -/
theorem pV_18 {a : Nat} {fs : List Value} {v : Value} {G : kx_G} {l : Launch} {M : kx_M} {d : Nat} {Q : Outcome → kx_H → Prop} {kc ks pc : Nat} {lv : kx_L} {st : List Value} {h : kx_H} (hM : M.1.cls = "VersionedTables") (hd : decode M.2.1 pc = .ok (.getfield 18, 3)) (hc : kx_is G h a (.inr (0, fs))) (hv : fs[1]? = some v) (kk : kx_w G l M d Q kc ks (pc + 3) lv (v :: st) h) : kx_w G l M d Q kc ks pc lv (.ref a :: st) h := kx_getf (C := kR_V) (T := kF_V) (N := 10) (k := 1) rfl kI_V (by decide) (by rw [hM]; exact kx_by 173 (by decide +kernel) (by decide +kernel)) hd hc hv kk
/-- V.transactions is written -/
theorem qV_18 {a : Nat} {fs : List Value} {v : Value} {G : kx_G} {l : Launch} {M : kx_M} {d : Nat} {Q : Outcome → kx_H → Prop} {kc ks pc : Nat} {lv : kx_L} {st : List Value} {h : kx_H} (hM : M.1.cls = "VersionedTables") (hI : M.1.name = "<init>") (hd : decode M.2.1 pc = .ok (.putfield 18, 3)) (hc : kx_is G h a (.inr (0, fs))) (hn : narrow (.object "VersionedTables$Transactions") v = v) (hf : fits (.object "VersionedTables$Transactions") v = true) (hlen : 1 < fs.length) (kk : kx_w G l M d Q kc ks (pc + 3) lv st (kx_set h a (.inr (0, fs.set 1 v)))) : kx_w G l M d Q kc ks pc lv (v :: .ref a :: st) h := kx_puti (C := kR_V) (T := kF_V) (N := 10) (k := 1) (ty0 := kT_V) (ty := (.object "VersionedTables$Transactions")) rfl kI_V kY_V kN_V (by decide) (by rw [hM]; exact kx_by 173 (by decide +kernel) (by decide +kernel)) rfl (by rw [hI]) (by rw [hM]; rfl) (by decide +kernel) hd hc hn hf hlen kk
/-- V.line -/
theorem pV_22 {a : Nat} {fs : List Value} {v : Value} {G : kx_G} {l : Launch} {M : kx_M} {d : Nat} {Q : Outcome → kx_H → Prop} {kc ks pc : Nat} {lv : kx_L} {st : List Value} {h : kx_H} (hM : M.1.cls = "VersionedTables") (hd : decode M.2.1 pc = .ok (.getfield 22, 3)) (hc : kx_is G h a (.inr (0, fs))) (hv : fs[2]? = some v) (kk : kx_w G l M d Q kc ks (pc + 3) lv (v :: st) h) : kx_w G l M d Q kc ks pc lv (.ref a :: st) h := kx_getf (C := kR_V) (T := kF_V) (N := 10) (k := 2) rfl kI_V (by decide) (by rw [hM]; exact kx_by 174 (by decide +kernel) (by decide +kernel)) hd hc hv kk
/-- V.line is written -/
theorem qV_22 {a : Nat} {fs : List Value} {v : Value} {G : kx_G} {l : Launch} {M : kx_M} {d : Nat} {Q : Outcome → kx_H → Prop} {kc ks pc : Nat} {lv : kx_L} {st : List Value} {h : kx_H} (hM : M.1.cls = "VersionedTables") (hI : M.1.name = "<init>") (hd : decode M.2.1 pc = .ok (.putfield 22, 3)) (hc : kx_is G h a (.inr (0, fs))) (hn : narrow (.array .int) v = v) (hf : fits (.array .int) v = true) (hlen : 2 < fs.length) (kk : kx_w G l M d Q kc ks (pc + 3) lv st (kx_set h a (.inr (0, fs.set 2 v)))) : kx_w G l M d Q kc ks pc lv (v :: .ref a :: st) h := kx_puti (C := kR_V) (T := kF_V) (N := 10) (k := 2) (ty0 := kT_V) (ty := (.array .int)) rfl kI_V kY_V kN_V (by decide) (by rw [hM]; exact kx_by 174 (by decide +kernel) (by decide +kernel)) rfl (by rw [hI]) (by rw [hM]; rfl) (by decide +kernel) hd hc hn hf hlen kk
/-- V.lineLength -/
theorem pV_26 {a : Nat} {fs : List Value} {v : Value} {G : kx_G} {l : Launch} {M : kx_M} {d : Nat} {Q : Outcome → kx_H → Prop} {kc ks pc : Nat} {lv : kx_L} {st : List Value} {h : kx_H} (hM : M.1.cls = "VersionedTables") (hd : decode M.2.1 pc = .ok (.getfield 26, 3)) (hc : kx_is G h a (.inr (0, fs))) (hv : fs[3]? = some v) (kk : kx_w G l M d Q kc ks (pc + 3) lv (v :: st) h) : kx_w G l M d Q kc ks pc lv (.ref a :: st) h := kx_getf (C := kR_V) (T := kF_V) (N := 10) (k := 3) rfl kI_V (by decide) (by rw [hM]; exact kx_by 175 (by decide +kernel) (by decide +kernel)) hd hc hv kk
/-- V.lineLength is written -/
theorem qV_26 {a : Nat} {fs : List Value} {v : Value} {G : kx_G} {l : Launch} {M : kx_M} {d : Nat} {Q : Outcome → kx_H → Prop} {kc ks pc : Nat} {lv : kx_L} {st : List Value} {h : kx_H} (hM : M.1.cls = "VersionedTables") (hd : decode M.2.1 pc = .ok (.putfield 26, 3)) (hc : kx_is G h a (.inr (0, fs))) (hn : narrow .int v = v) (hf : fits .int v = true) (hlen : 3 < fs.length) (kk : kx_w G l M d Q kc ks (pc + 3) lv st (kx_set h a (.inr (0, fs.set 3 v)))) : kx_w G l M d Q kc ks pc lv (v :: .ref a :: st) h := kx_putf (C := kR_V) (T := kF_V) (N := 10) (k := 3) (ty0 := kT_V) (ty := .int) rfl kI_V kY_V kN_V (by decide) (by rw [hM]; exact kx_by 175 (by decide +kernel) (by decide +kernel)) rfl (by decide +kernel) hd hc hn hf hlen kk
/-- V.refusedAt -/
theorem pV_30 {a : Nat} {fs : List Value} {v : Value} {G : kx_G} {l : Launch} {M : kx_M} {d : Nat} {Q : Outcome → kx_H → Prop} {kc ks pc : Nat} {lv : kx_L} {st : List Value} {h : kx_H} (hM : M.1.cls = "VersionedTables") (hd : decode M.2.1 pc = .ok (.getfield 30, 3)) (hc : kx_is G h a (.inr (0, fs))) (hv : fs[4]? = some v) (kk : kx_w G l M d Q kc ks (pc + 3) lv (v :: st) h) : kx_w G l M d Q kc ks pc lv (.ref a :: st) h := kx_getf (C := kR_V) (T := kF_V) (N := 10) (k := 4) rfl kI_V (by decide) (by rw [hM]; exact kx_by 176 (by decide +kernel) (by decide +kernel)) hd hc hv kk
/-- V.refusedAt is written -/
theorem qV_30 {a : Nat} {fs : List Value} {v : Value} {G : kx_G} {l : Launch} {M : kx_M} {d : Nat} {Q : Outcome → kx_H → Prop} {kc ks pc : Nat} {lv : kx_L} {st : List Value} {h : kx_H} (hM : M.1.cls = "VersionedTables") (hd : decode M.2.1 pc = .ok (.putfield 30, 3)) (hc : kx_is G h a (.inr (0, fs))) (hn : narrow .int v = v) (hf : fits .int v = true) (hlen : 4 < fs.length) (kk : kx_w G l M d Q kc ks (pc + 3) lv st (kx_set h a (.inr (0, fs.set 4 v)))) : kx_w G l M d Q kc ks pc lv (v :: .ref a :: st) h := kx_putf (C := kR_V) (T := kF_V) (N := 10) (k := 4) (ty0 := kT_V) (ty := .int) rfl kI_V kY_V kN_V (by decide) (by rw [hM]; exact kx_by 176 (by decide +kernel) (by decide +kernel)) rfl (by decide +kernel) hd hc hn hf hlen kk
theorem aV_33 {n : Int32} {N : Nat} {G : kx_G} {l : Launch} {M : kx_M} {d : Nat} {Q : Outcome → kx_H → Prop} {kc ks pc : Nat} {lv : kx_L} {st : List Value} {h : kx_H} (hM : M.1.cls = "VersionedTables") (hd : decode M.2.1 pc = .ok (.anewarray 33, 3)) (hn : ¬ n < 0) (hN : n.toNatClampNeg = N) (hby : N * 4 ≤ 536870912) (kk : kx_w G l M d Q kc ks (pc + 3) lv (.ref h.1 :: st) (kx_new h (.inl (3, N, .inr (.inr (.inr (.inr (fun _ => none)))))))) : kx_w G l M d Q (kc + 1) (ks + N) pc lv (.int n :: st) h := kx_newq (C := "VersionedTables$Program") rfl (by rw [hM]; exact kx_by 130 (by decide +kernel) (by decide +kernel)) (kx_by 150 (by decide +kernel) (by decide +kernel)) hn hN hby hd kk
theorem nV_33 {G : kx_G} {l : Launch} {M : kx_M} {d : Nat} {Q : Outcome → kx_H → Prop} {kc ks pc : Nat} {lv : kx_L} {st : List Value} {h : kx_H} (hM : M.1.cls = "VersionedTables") (hd : decode M.2.1 pc = .ok (.new 33, 3)) (kk : kx_w G l M d Q kc ks (pc + 3) lv (.ref h.1 :: st) (kx_new h (.inr (2, [.null, .null, .int 0, .int 0])))) : kx_w G l M d Q (kc + 1) (ks + 4) pc lv st h := kx_newo (C := kR_P) (T := kF_P) (N := 4) (ty0 := kT_P) rfl kI_P kY_P (by rw [hM]; exact kx_by 130 (by decide +kernel) (by decide +kernel)) (kx_by 131 (by decide +kernel) (by decide +kernel)) (kx_by 80 (by decide +kernel) (by decide +kernel)) (by decide) hd kk
/-- P_init -/
theorem cV_35 {b : Nat} {sk as : List Value} {G : kx_G} {l : Launch} {M : kx_M} {d mc ms : Nat} {Q Qc : Outcome → kx_H → Prop} {kc ks pc : Nat} {lv : kx_L} {st : List Value} {h : kx_H} (hM : M.1.cls = "VersionedTables") (hd : decode M.2.1 pc = .ok (.invokespecial 35, 3)) (hn : as.length = 0) (hsk : sk = as.reverse ++ .ref b :: st) (hst : (st.map fun v => v.category).sum ≤ 8) (hC : kx_c G l mP_init d mc ms (.ref b :: as) h Qc) (hk : ∀ o h', Qc o h' → kx_k G l M (d + 1) Q kc ks pc lv st o h') : kx_w G l M (d + 1) Q (kc + mc) (ks + ms) pc lv sk h := kx_ini (N := mP_init) (host := "VersionedTables") (by rw [hn]; exact kP_init) (by rw [hM]; exact Or.inl (kx_by 132 (by decide +kernel) (by decide +kernel))) (kx_by 133 (by decide +kernel) (by decide +kernel)) rfl ⟨rfl, rfl⟩ hd hsk hst hC hk
/-- V.condition -/
theorem pV_36 {a : Nat} {fs : List Value} {v : Value} {G : kx_G} {l : Launch} {M : kx_M} {d : Nat} {Q : Outcome → kx_H → Prop} {kc ks pc : Nat} {lv : kx_L} {st : List Value} {h : kx_H} (hM : M.1.cls = "VersionedTables") (hd : decode M.2.1 pc = .ok (.getfield 36, 3)) (hc : kx_is G h a (.inr (0, fs))) (hv : fs[5]? = some v) (kk : kx_w G l M d Q kc ks (pc + 3) lv (v :: st) h) : kx_w G l M d Q kc ks pc lv (.ref a :: st) h := kx_getf (C := kR_V) (T := kF_V) (N := 10) (k := 5) rfl kI_V (by decide) (by rw [hM]; exact kx_by 177 (by decide +kernel) (by decide +kernel)) hd hc hv kk
/-- V.condition is written -/
theorem qV_36 {a : Nat} {fs : List Value} {v : Value} {G : kx_G} {l : Launch} {M : kx_M} {d : Nat} {Q : Outcome → kx_H → Prop} {kc ks pc : Nat} {lv : kx_L} {st : List Value} {h : kx_H} (hM : M.1.cls = "VersionedTables") (hd : decode M.2.1 pc = .ok (.putfield 36, 3)) (hc : kx_is G h a (.inr (0, fs))) (hn : narrow (.object "VersionedTables$Program") v = v) (hf : fits (.object "VersionedTables$Program") v = true) (hlen : 5 < fs.length) (kk : kx_w G l M d Q kc ks (pc + 3) lv st (kx_set h a (.inr (0, fs.set 5 v)))) : kx_w G l M d Q kc ks pc lv (v :: .ref a :: st) h := kx_putf (C := kR_V) (T := kF_V) (N := 10) (k := 5) (ty0 := kT_V) (ty := (.object "VersionedTables$Program")) rfl kI_V kY_V kN_V (by decide) (by rw [hM]; exact kx_by 177 (by decide +kernel) (by decide +kernel)) rfl (by decide +kernel) hd hc hn hf hlen kk
/-- V.settings -/
theorem pV_40 {a : Nat} {fs : List Value} {v : Value} {G : kx_G} {l : Launch} {M : kx_M} {d : Nat} {Q : Outcome → kx_H → Prop} {kc ks pc : Nat} {lv : kx_L} {st : List Value} {h : kx_H} (hM : M.1.cls = "VersionedTables") (hd : decode M.2.1 pc = .ok (.getfield 40, 3)) (hc : kx_is G h a (.inr (0, fs))) (hv : fs[6]? = some v) (kk : kx_w G l M d Q kc ks (pc + 3) lv (v :: st) h) : kx_w G l M d Q kc ks pc lv (.ref a :: st) h := kx_getf (C := kR_V) (T := kF_V) (N := 10) (k := 6) rfl kI_V (by decide) (by rw [hM]; exact kx_by 178 (by decide +kernel) (by decide +kernel)) hd hc hv kk
/-- V.settings is written -/
theorem qV_40 {a : Nat} {fs : List Value} {v : Value} {G : kx_G} {l : Launch} {M : kx_M} {d : Nat} {Q : Outcome → kx_H → Prop} {kc ks pc : Nat} {lv : kx_L} {st : List Value} {h : kx_H} (hM : M.1.cls = "VersionedTables") (hI : M.1.name = "<init>") (hd : decode M.2.1 pc = .ok (.putfield 40, 3)) (hc : kx_is G h a (.inr (0, fs))) (hn : narrow (.array (.object "VersionedTables$Program")) v = v) (hf : fits (.array (.object "VersionedTables$Program")) v = true) (hlen : 6 < fs.length) (kk : kx_w G l M d Q kc ks (pc + 3) lv st (kx_set h a (.inr (0, fs.set 6 v)))) : kx_w G l M d Q kc ks pc lv (v :: .ref a :: st) h := kx_puti (C := kR_V) (T := kF_V) (N := 10) (k := 6) (ty0 := kT_V) (ty := (.array (.object "VersionedTables$Program"))) rfl kI_V kY_V kN_V (by decide) (by rw [hM]; exact kx_by 178 (by decide +kernel) (by decide +kernel)) rfl (by rw [hI]) (by rw [hM]; rfl) (by decide +kernel) hd hc hn hf hlen kk
theorem nV_44 {G : kx_G} {l : Launch} {M : kx_M} {d : Nat} {Q : Outcome → kx_H → Prop} {kc ks pc : Nat} {lv : kx_L} {st : List Value} {h : kx_H} (hM : M.1.cls = "VersionedTables") (hd : decode M.2.1 pc = .ok (.new 44, 3)) (kk : kx_w G l M d Q kc ks (pc + 3) lv (.ref h.1 :: st) (kx_new h (.inr (3, [.null, .null, .int 0])))) : kx_w G l M d Q (kc + 1) (ks + 3) pc lv st h := kx_newo (C := kR_S) (T := kF_S) (N := 3) (ty0 := kT_S) rfl kI_S kY_S (by rw [hM]; exact kx_by 151 (by decide +kernel) (by decide +kernel)) (kx_by 152 (by decide +kernel) (by decide +kernel)) (kx_by 81 (by decide +kernel) (by decide +kernel)) (by decide) hd kk
/-- S_init -/
theorem cV_46 {b : Nat} {sk as : List Value} {G : kx_G} {l : Launch} {M : kx_M} {d mc ms : Nat} {Q Qc : Outcome → kx_H → Prop} {kc ks pc : Nat} {lv : kx_L} {st : List Value} {h : kx_H} (hM : M.1.cls = "VersionedTables") (hd : decode M.2.1 pc = .ok (.invokespecial 46, 3)) (hn : as.length = 0) (hsk : sk = as.reverse ++ .ref b :: st) (hst : (st.map fun v => v.category).sum ≤ 8) (hC : kx_c G l mS_init d mc ms (.ref b :: as) h Qc) (hk : ∀ o h', Qc o h' → kx_k G l M (d + 1) Q kc ks pc lv st o h') : kx_w G l M (d + 1) Q (kc + mc) (ks + ms) pc lv sk h := kx_ini (N := mS_init) (host := "VersionedTables") (by rw [hn]; exact kS_init) (by rw [hM]; exact Or.inl (kx_by 153 (by decide +kernel) (by decide +kernel))) (kx_by 154 (by decide +kernel) (by decide +kernel)) rfl ⟨rfl, rfl⟩ hd hsk hst hC hk
/-- V.found -/
theorem pV_47 {a : Nat} {fs : List Value} {v : Value} {G : kx_G} {l : Launch} {M : kx_M} {d : Nat} {Q : Outcome → kx_H → Prop} {kc ks pc : Nat} {lv : kx_L} {st : List Value} {h : kx_H} (hM : M.1.cls = "VersionedTables") (hd : decode M.2.1 pc = .ok (.getfield 47, 3)) (hc : kx_is G h a (.inr (0, fs))) (hv : fs[7]? = some v) (kk : kx_w G l M d Q kc ks (pc + 3) lv (v :: st) h) : kx_w G l M d Q kc ks pc lv (.ref a :: st) h := kx_getf (C := kR_V) (T := kF_V) (N := 10) (k := 7) rfl kI_V (by decide) (by rw [hM]; exact kx_by 179 (by decide +kernel) (by decide +kernel)) hd hc hv kk
/-- V.found is written -/
theorem qV_47 {a : Nat} {fs : List Value} {v : Value} {G : kx_G} {l : Launch} {M : kx_M} {d : Nat} {Q : Outcome → kx_H → Prop} {kc ks pc : Nat} {lv : kx_L} {st : List Value} {h : kx_H} (hM : M.1.cls = "VersionedTables") (hd : decode M.2.1 pc = .ok (.putfield 47, 3)) (hc : kx_is G h a (.inr (0, fs))) (hn : narrow (.object "VersionedTables$RowSet") v = v) (hf : fits (.object "VersionedTables$RowSet") v = true) (hlen : 7 < fs.length) (kk : kx_w G l M d Q kc ks (pc + 3) lv st (kx_set h a (.inr (0, fs.set 7 v)))) : kx_w G l M d Q kc ks pc lv (v :: .ref a :: st) h := kx_putf (C := kR_V) (T := kF_V) (N := 10) (k := 7) (ty0 := kT_V) (ty := (.object "VersionedTables$RowSet")) rfl kI_V kY_V kN_V (by decide) (by rw [hM]; exact kx_by 179 (by decide +kernel) (by decide +kernel)) rfl (by decide +kernel) hd hc hn hf hlen kk
/-- V.chosen -/
theorem pV_51 {a : Nat} {fs : List Value} {v : Value} {G : kx_G} {l : Launch} {M : kx_M} {d : Nat} {Q : Outcome → kx_H → Prop} {kc ks pc : Nat} {lv : kx_L} {st : List Value} {h : kx_H} (hM : M.1.cls = "VersionedTables") (hd : decode M.2.1 pc = .ok (.getfield 51, 3)) (hc : kx_is G h a (.inr (0, fs))) (hv : fs[8]? = some v) (kk : kx_w G l M d Q kc ks (pc + 3) lv (v :: st) h) : kx_w G l M d Q kc ks pc lv (.ref a :: st) h := kx_getf (C := kR_V) (T := kF_V) (N := 10) (k := 8) rfl kI_V (by decide) (by rw [hM]; exact kx_by 180 (by decide +kernel) (by decide +kernel)) hd hc hv kk
/-- V.chosen is written -/
theorem qV_51 {a : Nat} {fs : List Value} {v : Value} {G : kx_G} {l : Launch} {M : kx_M} {d : Nat} {Q : Outcome → kx_H → Prop} {kc ks pc : Nat} {lv : kx_L} {st : List Value} {h : kx_H} (hM : M.1.cls = "VersionedTables") (hd : decode M.2.1 pc = .ok (.putfield 51, 3)) (hc : kx_is G h a (.inr (0, fs))) (hn : narrow (.object "VersionedTables$RowSet") v = v) (hf : fits (.object "VersionedTables$RowSet") v = true) (hlen : 8 < fs.length) (kk : kx_w G l M d Q kc ks (pc + 3) lv st (kx_set h a (.inr (0, fs.set 8 v)))) : kx_w G l M d Q kc ks pc lv (v :: .ref a :: st) h := kx_putf (C := kR_V) (T := kF_V) (N := 10) (k := 8) (ty0 := kT_V) (ty := (.object "VersionedTables$RowSet")) rfl kI_V kY_V kN_V (by decide) (by rw [hM]; exact kx_by 180 (by decide +kernel) (by decide +kernel)) rfl (by decide +kernel) hd hc hn hf hlen kk
/-- V.oldValues -/
theorem pV_54 {a : Nat} {fs : List Value} {v : Value} {G : kx_G} {l : Launch} {M : kx_M} {d : Nat} {Q : Outcome → kx_H → Prop} {kc ks pc : Nat} {lv : kx_L} {st : List Value} {h : kx_H} (hM : M.1.cls = "VersionedTables") (hd : decode M.2.1 pc = .ok (.getfield 54, 3)) (hc : kx_is G h a (.inr (0, fs))) (hv : fs[9]? = some v) (kk : kx_w G l M d Q kc ks (pc + 3) lv (v :: st) h) : kx_w G l M d Q kc ks pc lv (.ref a :: st) h := kx_getf (C := kR_V) (T := kF_V) (N := 10) (k := 9) rfl kI_V (by decide) (by rw [hM]; exact kx_by 181 (by decide +kernel) (by decide +kernel)) hd hc hv kk
/-- V.oldValues is written -/
theorem qV_54 {a : Nat} {fs : List Value} {v : Value} {G : kx_G} {l : Launch} {M : kx_M} {d : Nat} {Q : Outcome → kx_H → Prop} {kc ks pc : Nat} {lv : kx_L} {st : List Value} {h : kx_H} (hM : M.1.cls = "VersionedTables") (hI : M.1.name = "<init>") (hd : decode M.2.1 pc = .ok (.putfield 54, 3)) (hc : kx_is G h a (.inr (0, fs))) (hn : narrow (.array .int) v = v) (hf : fits (.array .int) v = true) (hlen : 9 < fs.length) (kk : kx_w G l M d Q kc ks (pc + 3) lv st (kx_set h a (.inr (0, fs.set 9 v)))) : kx_w G l M d Q kc ks pc lv (v :: .ref a :: st) h := kx_puti (C := kR_V) (T := kF_V) (N := 10) (k := 9) (ty0 := kT_V) (ty := (.array .int)) rfl kI_V kY_V kN_V (by decide) (by rw [hM]; exact kx_by 181 (by decide +kernel) (by decide +kernel)) rfl (by rw [hI]) (by rw [hM]; rfl) (by decide +kernel) hd hc hn hf hlen kk
/-- B_init -/
theorem cV_69 {b : Nat} {sk as : List Value} {G : kx_G} {l : Launch} {M : kx_M} {d mc ms : Nat} {Q Qc : Outcome → kx_H → Prop} {kc ks pc : Nat} {lv : kx_L} {st : List Value} {h : kx_H} (hM : M.1.cls = "VersionedTables") (hd : decode M.2.1 pc = .ok (.invokespecial 69, 3)) (hn : as.length = 1) (hsk : sk = as.reverse ++ .ref b :: st) (hst : (st.map fun v => v.category).sum ≤ 8) (hC : kx_c G l mB_init d mc ms (.ref b :: as) h Qc) (hk : ∀ o h', Qc o h' → kx_k G l M (d + 1) Q kc ks pc lv st o h') : kx_w G l M (d + 1) Q (kc + mc) (ks + ms) pc lv sk h := kx_ini (N := mB_init) (host := "VersionedTables") (by rw [hn]; exact kB_init) (by rw [hM]; exact Or.inl (kx_by 371 (by decide +kernel) (by decide +kernel))) (kx_by 372 (by decide +kernel) (by decide +kernel)) rfl ⟨rfl, rfl⟩ hd hsk hst hC hk
theorem nV_76 {G : kx_G} {l : Launch} {M : kx_M} {d : Nat} {Q : Outcome → kx_H → Prop} {kc ks pc : Nat} {lv : kx_L} {st : List Value} {h : kx_H} (hM : M.1.cls = "VersionedTables") (hd : decode M.2.1 pc = .ok (.new 76, 3)) (kk : kx_w G l M d Q kc ks (pc + 3) lv (.ref h.1 :: st) (kx_new h (.inr (6, [.null, .int 0, .null, .int 0, .int 0])))) : kx_w G l M d Q (kc + 1) (ks + 5) pc lv st h := kx_newo (C := kR_Q) (T := kF_Q) (N := 5) (ty0 := kT_Q) rfl kI_Q kY_Q (by rw [hM]; exact kx_by 420 (by decide +kernel) (by decide +kernel)) (kx_by 421 (by decide +kernel) (by decide +kernel)) (kx_by 90 (by decide +kernel) (by decide +kernel)) (by decide) hd kk
/-- Q_init -/
theorem cV_78 {b : Nat} {sk as : List Value} {G : kx_G} {l : Launch} {M : kx_M} {d mc ms : Nat} {Q Qc : Outcome → kx_H → Prop} {kc ks pc : Nat} {lv : kx_L} {st : List Value} {h : kx_H} (hM : M.1.cls = "VersionedTables") (hd : decode M.2.1 pc = .ok (.invokespecial 78, 3)) (hn : as.length = 2) (hsk : sk = as.reverse ++ .ref b :: st) (hst : (st.map fun v => v.category).sum ≤ 8) (hC : kx_c G l mQ_init d mc ms (.ref b :: as) h Qc) (hk : ∀ o h', Qc o h' → kx_k G l M (d + 1) Q kc ks pc lv st o h') : kx_w G l M (d + 1) Q (kc + mc) (ks + ms) pc lv sk h := kx_ini (N := mQ_init) (host := "VersionedTables") (by rw [hn]; exact kQ_init) (by rw [hM]; exact Or.inl (kx_by 422 (by decide +kernel) (by decide +kernel))) (kx_by 423 (by decide +kernel) (by decide +kernel)) rfl ⟨rfl, rfl⟩ hd hsk hst hC hk
/-- Q_readCondition -/
theorem cV_81 {b : Nat} {fs sk as : List Value} {G : kx_G} {l : Launch} {M : kx_M} {d mc ms : Nat} {Q Qc : Outcome → kx_H → Prop} {kc ks pc : Nat} {lv : kx_L} {st : List Value} {h : kx_H} (hM : M.1.cls = "VersionedTables") (hd : decode M.2.1 pc = .ok (.invokevirtual 81, 3)) (hb : kx_is G h b (.inr (6, fs))) (hn : as.length = 0) (hsk : sk = as.reverse ++ .ref b :: st) (hst : (st.map fun v => v.category).sum ≤ 8) (hC : kx_c G l mQ_readCondition d mc ms (.ref b :: as) h Qc) (hk : ∀ o h', Qc o h' → kx_k G l M (d + 1) Q kc ks pc lv st o h') : kx_w G l M (d + 1) Q (kc + mc) (ks + ms) pc lv sk h := kx_inv (N := mQ_readCondition) (host := "VersionedTables") (by rw [hn]; exact kQ_readCondition) (by rw [hM]; exact Or.inl (kx_by 447 (by decide +kernel) (by decide +kernel))) (kx_by 449 (by decide +kernel) (by decide +kernel)) (kx_by 13 (by decide +kernel) (by decide +kernel)) (ci := 6) rfl hd hsk hst hb hC hk
/-- V_takeLine -/
theorem cV_85 {b : Nat} {fs sk as : List Value} {G : kx_G} {l : Launch} {M : kx_M} {d mc ms : Nat} {Q Qc : Outcome → kx_H → Prop} {kc ks pc : Nat} {lv : kx_L} {st : List Value} {h : kx_H} (hM : M.1.cls = "VersionedTables") (hd : decode M.2.1 pc = .ok (.invokevirtual 85, 3)) (hb : kx_is G h b (.inr (0, fs))) (hn : as.length = 2) (hsk : sk = as.reverse ++ .ref b :: st) (hst : (st.map fun v => v.category).sum ≤ 8) (hC : kx_c G l mV_takeLine d mc ms (.ref b :: as) h Qc) (hk : ∀ o h', Qc o h' → kx_k G l M (d + 1) Q kc ks pc lv st o h') : kx_w G l M (d + 1) Q (kc + mc) (ks + ms) pc lv sk h := kx_inv (N := mV_takeLine) (host := "VersionedTables") (by rw [hn]; exact kV_takeLine) (by rw [hM]; exact Or.inr (kx_by 498 (by decide +kernel) (by decide +kernel))) (kx_by 500 (by decide +kernel) (by decide +kernel)) (kx_by 22 (by decide +kernel) (by decide +kernel)) (ci := 0) rfl hd hsk hst hb hC hk
/-- Q.program -/
theorem pV_89 {a : Nat} {fs : List Value} {v : Value} {G : kx_G} {l : Launch} {M : kx_M} {d : Nat} {Q : Outcome → kx_H → Prop} {kc ks pc : Nat} {lv : kx_L} {st : List Value} {h : kx_H} (hM : M.1.cls = "VersionedTables") (hd : decode M.2.1 pc = .ok (.getfield 89, 3)) (hc : kx_is G h a (.inr (6, fs))) (hv : fs[2]? = some v) (kk : kx_w G l M d Q kc ks (pc + 3) lv (v :: st) h) : kx_w G l M d Q kc ks pc lv (.ref a :: st) h := kx_getn (C := kR_Q) (T := kF_Q) (N := 5) (k := 2) (host := "VersionedTables") rfl kI_Q (by decide) (by rw [hM]; exact kx_by 431 (by decide +kernel) (by decide +kernel)) hd hc hv kk
/-- Q_readSetting -/
theorem cV_92 {b : Nat} {fs sk as : List Value} {G : kx_G} {l : Launch} {M : kx_M} {d mc ms : Nat} {Q Qc : Outcome → kx_H → Prop} {kc ks pc : Nat} {lv : kx_L} {st : List Value} {h : kx_H} (hM : M.1.cls = "VersionedTables") (hd : decode M.2.1 pc = .ok (.invokevirtual 92, 3)) (hb : kx_is G h b (.inr (6, fs))) (hn : as.length = 0) (hsk : sk = as.reverse ++ .ref b :: st) (hst : (st.map fun v => v.category).sum ≤ 8) (hC : kx_c G l mQ_readSetting d mc ms (.ref b :: as) h Qc) (hk : ∀ o h', Qc o h' → kx_k G l M (d + 1) Q kc ks pc lv st o h') : kx_w G l M (d + 1) Q (kc + mc) (ks + ms) pc lv sk h := kx_inv (N := mQ_readSetting) (host := "VersionedTables") (by rw [hn]; exact kQ_readSetting) (by rw [hM]; exact Or.inl (kx_by 510 (by decide +kernel) (by decide +kernel))) (kx_by 512 (by decide +kernel) (by decide +kernel)) (kx_by 23 (by decide +kernel) (by decide +kernel)) (ci := 6) rfl hd hsk hst hb hC hk
/-- Q.column -/
theorem pV_95 {a : Nat} {fs : List Value} {v : Value} {G : kx_G} {l : Launch} {M : kx_M} {d : Nat} {Q : Outcome → kx_H → Prop} {kc ks pc : Nat} {lv : kx_L} {st : List Value} {h : kx_H} (hM : M.1.cls = "VersionedTables") (hd : decode M.2.1 pc = .ok (.getfield 95, 3)) (hc : kx_is G h a (.inr (6, fs))) (hv : fs[4]? = some v) (kk : kx_w G l M d Q kc ks (pc + 3) lv (v :: st) h) : kx_w G l M d Q kc ks pc lv (.ref a :: st) h := kx_getn (C := kR_Q) (T := kF_Q) (N := 5) (k := 4) (host := "VersionedTables") rfl kI_Q (by decide) (by rw [hM]; exact kx_by 435 (by decide +kernel) (by decide +kernel)) hd hc hv kk
/-- V_settingsThere -/
theorem cV_98 {b : Nat} {fs sk as : List Value} {G : kx_G} {l : Launch} {M : kx_M} {d mc ms : Nat} {Q Qc : Outcome → kx_H → Prop} {kc ks pc : Nat} {lv : kx_L} {st : List Value} {h : kx_H} (hM : M.1.cls = "VersionedTables") (hd : decode M.2.1 pc = .ok (.invokevirtual 98, 3)) (hb : kx_is G h b (.inr (0, fs))) (hn : as.length = 0) (hsk : sk = as.reverse ++ .ref b :: st) (hst : (st.map fun v => v.category).sum ≤ 8) (hC : kx_c G l mV_settingsThere d mc ms (.ref b :: as) h Qc) (hk : ∀ o h', Qc o h' → kx_k G l M (d + 1) Q kc ks pc lv st o h') : kx_w G l M (d + 1) Q (kc + mc) (ks + ms) pc lv sk h := kx_inv (N := mV_settingsThere) (host := "VersionedTables") (by rw [hn]; exact kV_settingsThere) (by rw [hM]; exact Or.inr (kx_by 207 (by decide +kernel) (by decide +kernel))) (kx_by 209 (by decide +kernel) (by decide +kernel)) (kx_by 0 (by decide +kernel) (by decide +kernel)) (ci := 0) rfl hd hsk hst hb hC hk
/-- T.begun -/
theorem pV_102 {a : Nat} {fs : List Value} {v : Value} {G : kx_G} {l : Launch} {M : kx_M} {d : Nat} {Q : Outcome → kx_H → Prop} {kc ks pc : Nat} {lv : kx_L} {st : List Value} {h : kx_H} (hM : M.1.cls = "VersionedTables") (hd : decode M.2.1 pc = .ok (.getfield 102, 3)) (hc : kx_is G h a (.inr (1, fs))) (hv : fs[1]? = some v) (kk : kx_w G l M d Q kc ks (pc + 3) lv (v :: st) h) : kx_w G l M d Q kc ks pc lv (.ref a :: st) h := kx_getn (C := kR_T) (T := kF_T) (N := 3) (k := 1) (host := "VersionedTables") rfl kI_T (by decide) (by rw [hM]; exact kx_by 120 (by decide +kernel) (by decide +kernel)) hd hc hv kk
/-- T_beginNext -/
theorem cV_107 {b : Nat} {fs sk as : List Value} {G : kx_G} {l : Launch} {M : kx_M} {d mc ms : Nat} {Q Qc : Outcome → kx_H → Prop} {kc ks pc : Nat} {lv : kx_L} {st : List Value} {h : kx_H} (hM : M.1.cls = "VersionedTables") (hd : decode M.2.1 pc = .ok (.invokevirtual 107, 3)) (hb : kx_is G h b (.inr (1, fs))) (hn : as.length = 0) (hsk : sk = as.reverse ++ .ref b :: st) (hst : (st.map fun v => v.category).sum ≤ 8) (hC : kx_c G l mT_beginNext d mc ms (.ref b :: as) h Qc) (hk : ∀ o h', Qc o h' → kx_k G l M (d + 1) Q kc ks pc lv st o h') : kx_w G l M (d + 1) Q (kc + mc) (ks + ms) pc lv sk h := kx_inv (N := mT_beginNext) (host := "VersionedTables") (by rw [hn]; exact kT_beginNext) (by rw [hM]; exact Or.inl (kx_by 522 (by decide +kernel) (by decide +kernel))) (kx_by 524 (by decide +kernel) (by decide +kernel)) (kx_by 24 (by decide +kernel) (by decide +kernel)) (ci := 1) rfl hd hsk hst hb hC hk
/-- V_mustBeOpen -/
theorem cV_110 {b : Nat} {fs sk as : List Value} {G : kx_G} {l : Launch} {M : kx_M} {d mc ms : Nat} {Q Qc : Outcome → kx_H → Prop} {kc ks pc : Nat} {lv : kx_L} {st : List Value} {h : kx_H} (hM : M.1.cls = "VersionedTables") (hd : decode M.2.1 pc = .ok (.invokevirtual 110, 3)) (hb : kx_is G h b (.inr (0, fs))) (hn : as.length = 1) (hsk : sk = as.reverse ++ .ref b :: st) (hst : (st.map fun v => v.category).sum ≤ 8) (hC : kx_c G l mV_mustBeOpen d mc ms (.ref b :: as) h Qc) (hk : ∀ o h', Qc o h' → kx_k G l M (d + 1) Q kc ks pc lv st o h') : kx_w G l M (d + 1) Q (kc + mc) (ks + ms) pc lv sk h := kx_inv (N := mV_mustBeOpen) (host := "VersionedTables") (by rw [hn]; exact kV_mustBeOpen) (by rw [hM]; exact Or.inr (kx_by 534 (by decide +kernel) (by decide +kernel))) (kx_by 536 (by decide +kernel) (by decide +kernel)) (kx_by 25 (by decide +kernel) (by decide +kernel)) (ci := 0) rfl hd hsk hst hb hC hk
theorem pV_113 {G : kx_G} {l : Launch} {M : kx_M} {d : Nat} {Q : Outcome → kx_H → Prop} {kc ks pc : Nat} {lv : kx_L} {st : List Value} {h : kx_H} (hM : M.1.cls = "VersionedTables") (hd : decode M.2.1 pc = .ok (.getstatic 113, 3)) (kk : kx_w G l M d Q kc ks (pc + 3) lv (.ref (G.2.2.2.1 1) :: st) h) : kx_w G l M d Q kc ks pc lv st h := kx_gst (k := 1) (host := "VersionedTables") (by decide) (by rw [hM]; exact Or.inl (kx_by 238 (by decide +kernel) (by decide +kernel))) hd kk
/-- T_end -/
theorem cV_119 {b : Nat} {fs sk as : List Value} {G : kx_G} {l : Launch} {M : kx_M} {d mc ms : Nat} {Q Qc : Outcome → kx_H → Prop} {kc ks pc : Nat} {lv : kx_L} {st : List Value} {h : kx_H} (hM : M.1.cls = "VersionedTables") (hd : decode M.2.1 pc = .ok (.invokevirtual 119, 3)) (hb : kx_is G h b (.inr (1, fs))) (hn : as.length = 2) (hsk : sk = as.reverse ++ .ref b :: st) (hst : (st.map fun v => v.category).sum ≤ 8) (hC : kx_c G l mT_end d mc ms (.ref b :: as) h Qc) (hk : ∀ o h', Qc o h' → kx_k G l M (d + 1) Q kc ks pc lv st o h') : kx_w G l M (d + 1) Q (kc + mc) (ks + ms) pc lv sk h := kx_inv (N := mT_end) (host := "VersionedTables") (by rw [hn]; exact kT_end) (by rw [hM]; exact Or.inl (kx_by 554 (by decide +kernel) (by decide +kernel))) (kx_by 556 (by decide +kernel) (by decide +kernel)) (kx_by 26 (by decide +kernel) (by decide +kernel)) (ci := 1) rfl hd hsk hst hb hC hk
/-- V_breakOff -/
theorem cV_123 {b : Nat} {fs sk as : List Value} {G : kx_G} {l : Launch} {M : kx_M} {d mc ms : Nat} {Q Qc : Outcome → kx_H → Prop} {kc ks pc : Nat} {lv : kx_L} {st : List Value} {h : kx_H} (hM : M.1.cls = "VersionedTables") (hd : decode M.2.1 pc = .ok (.invokevirtual 123, 3)) (hb : kx_is G h b (.inr (0, fs))) (hn : as.length = 1) (hsk : sk = as.reverse ++ .ref b :: st) (hst : (st.map fun v => v.category).sum ≤ 8) (hC : kx_c G l mV_breakOff d mc ms (.ref b :: as) h Qc) (hk : ∀ o h', Qc o h' → kx_k G l M (d + 1) Q kc ks pc lv st o h') : kx_w G l M (d + 1) Q (kc + mc) (ks + ms) pc lv sk h := kx_inv (N := mV_breakOff) (host := "VersionedTables") (by rw [hn]; exact kV_breakOff) (by rw [hM]; exact Or.inr (kx_by 565 (by decide +kernel) (by decide +kernel))) (kx_by 567 (by decide +kernel) (by decide +kernel)) (kx_by 27 (by decide +kernel) (by decide +kernel)) (ci := 0) rfl hd hsk hst hb hC hk
/-- V_tableThere -/
theorem cV_127 {b : Nat} {fs sk as : List Value} {G : kx_G} {l : Launch} {M : kx_M} {d mc ms : Nat} {Q Qc : Outcome → kx_H → Prop} {kc ks pc : Nat} {lv : kx_L} {st : List Value} {h : kx_H} (hM : M.1.cls = "VersionedTables") (hd : decode M.2.1 pc = .ok (.invokevirtual 127, 3)) (hb : kx_is G h b (.inr (0, fs))) (hn : as.length = 1) (hsk : sk = as.reverse ++ .ref b :: st) (hst : (st.map fun v => v.category).sum ≤ 8) (hC : kx_c G l mV_tableThere d mc ms (.ref b :: as) h Qc) (hk : ∀ o h', Qc o h' → kx_k G l M (d + 1) Q kc ks pc lv st o h') : kx_w G l M (d + 1) Q (kc + mc) (ks + ms) pc lv sk h := kx_inv (N := mV_tableThere) (host := "VersionedTables") (by rw [hn]; exact kV_tableThere) (by rw [hM]; exact Or.inr (kx_by 584 (by decide +kernel) (by decide +kernel))) (kx_by 586 (by decide +kernel) (by decide +kernel)) (kx_by 29 (by decide +kernel) (by decide +kernel)) (ci := 0) rfl hd hsk hst hb hC hk
/-- B.made -/
theorem pV_131 {a : Nat} {fs : List Value} {v : Value} {G : kx_G} {l : Launch} {M : kx_M} {d : Nat} {Q : Outcome → kx_H → Prop} {kc ks pc : Nat} {lv : kx_L} {st : List Value} {h : kx_H} (hM : M.1.cls = "VersionedTables") (hd : decode M.2.1 pc = .ok (.getfield 131, 3)) (hc : kx_is G h a (.inr (4, fs))) (hv : fs[2]? = some v) (kk : kx_w G l M d Q kc ks (pc + 3) lv (v :: st) h) : kx_w G l M d Q kc ks pc lv (.ref a :: st) h := kx_getn (C := kR_B) (T := kF_B) (N := 4) (k := 2) (host := "VersionedTables") rfl kI_B (by decide) (by rw [hM]; exact kx_by 392 (by decide +kernel) (by decide +kernel)) hd hc hv kk
/-- B.scanned -/
theorem pV_136 {a : Nat} {fs : List Value} {v : Value} {G : kx_G} {l : Launch} {M : kx_M} {d : Nat} {Q : Outcome → kx_H → Prop} {kc ks pc : Nat} {lv : kx_L} {st : List Value} {h : kx_H} (hM : M.1.cls = "VersionedTables") (hd : decode M.2.1 pc = .ok (.getfield 136, 3)) (hc : kx_is G h a (.inr (4, fs))) (hv : fs[3]? = some v) (kk : kx_w G l M d Q kc ks (pc + 3) lv (v :: st) h) : kx_w G l M d Q kc ks pc lv (.ref a :: st) h := kx_getn (C := kR_B) (T := kF_B) (N := 4) (k := 3) (host := "VersionedTables") rfl kI_B (by decide) (by rw [hM]; exact kx_by 394 (by decide +kernel) (by decide +kernel)) hd hc hv kk
/-- V_breakTooLate -/
theorem cV_139 {b : Nat} {fs sk as : List Value} {G : kx_G} {l : Launch} {M : kx_M} {d mc ms : Nat} {Q Qc : Outcome → kx_H → Prop} {kc ks pc : Nat} {lv : kx_L} {st : List Value} {h : kx_H} (hM : M.1.cls = "VersionedTables") (hd : decode M.2.1 pc = .ok (.invokevirtual 139, 3)) (hb : kx_is G h b (.inr (0, fs))) (hn : as.length = 1) (hsk : sk = as.reverse ++ .ref b :: st) (hst : (st.map fun v => v.category).sum ≤ 8) (hC : kx_c G l mV_breakTooLate d mc ms (.ref b :: as) h Qc) (hk : ∀ o h', Qc o h' → kx_k G l M (d + 1) Q kc ks pc lv st o h') : kx_w G l M (d + 1) Q (kc + mc) (ks + ms) pc lv sk h := kx_inv (N := mV_breakTooLate) (host := "VersionedTables") (by rw [hn]; exact kV_breakTooLate) (by rw [hM]; exact Or.inr (kx_by 590 (by decide +kernel) (by decide +kernel))) (kx_by 592 (by decide +kernel) (by decide +kernel)) (kx_by 30 (by decide +kernel) (by decide +kernel)) (ci := 0) rfl hd hsk hst hb hC hk
/-- B_addRow -/
theorem cV_147 {b : Nat} {fs sk as : List Value} {G : kx_G} {l : Launch} {M : kx_M} {d mc ms : Nat} {Q Qc : Outcome → kx_H → Prop} {kc ks pc : Nat} {lv : kx_L} {st : List Value} {h : kx_H} (hM : M.1.cls = "VersionedTables") (hd : decode M.2.1 pc = .ok (.invokevirtual 147, 3)) (hb : kx_is G h b (.inr (4, fs))) (hn : as.length = 5) (hsk : sk = as.reverse ++ .ref b :: st) (hst : (st.map fun v => v.category).sum ≤ 8) (hC : kx_c G l mB_addRow d mc ms (.ref b :: as) h Qc) (hk : ∀ o h', Qc o h' → kx_k G l M (d + 1) Q kc ks pc lv st o h') : kx_w G l M (d + 1) Q (kc + mc) (ks + ms) pc lv sk h := kx_inv (N := mB_addRow) (host := "VersionedTables") (by rw [hn]; exact kB_addRow) (by rw [hM]; exact Or.inl (kx_by 610 (by decide +kernel) (by decide +kernel))) (kx_by 612 (by decide +kernel) (by decide +kernel)) (kx_by 31 (by decide +kernel) (by decide +kernel)) (ci := 4) rfl hd hsk hst hb hC hk
/-- V_choose -/
theorem cV_151 {b : Nat} {fs sk as : List Value} {G : kx_G} {l : Launch} {M : kx_M} {d mc ms : Nat} {Q Qc : Outcome → kx_H → Prop} {kc ks pc : Nat} {lv : kx_L} {st : List Value} {h : kx_H} (hM : M.1.cls = "VersionedTables") (hd : decode M.2.1 pc = .ok (.invokevirtual 151, 3)) (hb : kx_is G h b (.inr (0, fs))) (hn : as.length = 2) (hsk : sk = as.reverse ++ .ref b :: st) (hst : (st.map fun v => v.category).sum ≤ 8) (hC : kx_c G l mV_choose d mc ms (.ref b :: as) h Qc) (hk : ∀ o h', Qc o h' → kx_k G l M (d + 1) Q kc ks pc lv st o h') : kx_w G l M (d + 1) Q (kc + mc) (ks + ms) pc lv sk h := kx_inv (N := mV_choose) (host := "VersionedTables") (by rw [hn]; exact kV_choose) (by rw [hM]; exact Or.inr (kx_by 656 (by decide +kernel) (by decide +kernel))) (kx_by 658 (by decide +kernel) (by decide +kernel)) (kx_by 34 (by decide +kernel) (by decide +kernel)) (ci := 0) rfl hd hsk hst hb hC hk
/-- B_markRead -/
theorem cV_155 {b : Nat} {fs sk as : List Value} {G : kx_G} {l : Launch} {M : kx_M} {d mc ms : Nat} {Q Qc : Outcome → kx_H → Prop} {kc ks pc : Nat} {lv : kx_L} {st : List Value} {h : kx_H} (hM : M.1.cls = "VersionedTables") (hd : decode M.2.1 pc = .ok (.invokevirtual 155, 3)) (hb : kx_is G h b (.inr (4, fs))) (hn : as.length = 1) (hsk : sk = as.reverse ++ .ref b :: st) (hst : (st.map fun v => v.category).sum ≤ 8) (hC : kx_c G l mB_markRead d mc ms (.ref b :: as) h Qc) (hk : ∀ o h', Qc o h' → kx_k G l M (d + 1) Q kc ks pc lv st o h') : kx_w G l M (d + 1) Q (kc + mc) (ks + ms) pc lv sk h := kx_inv (N := mB_markRead) (host := "VersionedTables") (by rw [hn]; exact kB_markRead) (by rw [hM]; exact Or.inl (kx_by 716 (by decide +kernel) (by decide +kernel))) (kx_by 718 (by decide +kernel) (by decide +kernel)) (kx_by 42 (by decide +kernel) (by decide +kernel)) (ci := 4) rfl hd hsk hst hb hC hk
/-- S.size -/
theorem pV_158 {a : Nat} {fs : List Value} {v : Value} {G : kx_G} {l : Launch} {M : kx_M} {d : Nat} {Q : Outcome → kx_H → Prop} {kc ks pc : Nat} {lv : kx_L} {st : List Value} {h : kx_H} (hM : M.1.cls = "VersionedTables") (hd : decode M.2.1 pc = .ok (.getfield 158, 3)) (hc : kx_is G h a (.inr (3, fs))) (hv : fs[2]? = some v) (kk : kx_w G l M d Q kc ks (pc + 3) lv (v :: st) h) : kx_w G l M d Q kc ks pc lv (.ref a :: st) h := kx_getn (C := kR_S) (T := kF_S) (N := 3) (k := 2) (host := "VersionedTables") rfl kI_S (by decide) (by rw [hM]; exact kx_by 164 (by decide +kernel) (by decide +kernel)) hd hc hv kk
/-- S.size is written -/
theorem qV_158 {a : Nat} {fs : List Value} {v : Value} {G : kx_G} {l : Launch} {M : kx_M} {d : Nat} {Q : Outcome → kx_H → Prop} {kc ks pc : Nat} {lv : kx_L} {st : List Value} {h : kx_H} (hM : M.1.cls = "VersionedTables") (hd : decode M.2.1 pc = .ok (.putfield 158, 3)) (hc : kx_is G h a (.inr (3, fs))) (hn : narrow .int v = v) (hf : fits .int v = true) (hlen : 2 < fs.length) (kk : kx_w G l M d Q kc ks (pc + 3) lv st (kx_set h a (.inr (3, fs.set 2 v)))) : kx_w G l M d Q kc ks pc lv (v :: .ref a :: st) h := kx_putn (C := kR_S) (T := kF_S) (N := 3) (k := 2) (ty0 := kT_S) (ty := .int) (host := "VersionedTables") rfl kI_S kY_S kN_S (by decide) (by rw [hM]; exact kx_by 164 (by decide +kernel) (by decide +kernel)) rfl (by decide +kernel) hd hc hn hf hlen kk
/-- B.columns -/
theorem pV_161 {a : Nat} {fs : List Value} {v : Value} {G : kx_G} {l : Launch} {M : kx_M} {d : Nat} {Q : Outcome → kx_H → Prop} {kc ks pc : Nat} {lv : kx_L} {st : List Value} {h : kx_H} (hM : M.1.cls = "VersionedTables") (hd : decode M.2.1 pc = .ok (.getfield 161, 3)) (hc : kx_is G h a (.inr (4, fs))) (hv : fs[0]? = some v) (kk : kx_w G l M d Q kc ks (pc + 3) lv (v :: st) h) : kx_w G l M d Q kc ks pc lv (.ref a :: st) h := kx_getn (C := kR_B) (T := kF_B) (N := 4) (k := 0) (host := "VersionedTables") rfl kI_B (by decide) (by rw [hM]; exact kx_by 388 (by decide +kernel) (by decide +kernel)) hd hc hv kk
/-- V_refuseSettingsBeyond -/
theorem cV_164 {b : Nat} {fs sk as : List Value} {G : kx_G} {l : Launch} {M : kx_M} {d mc ms : Nat} {Q Qc : Outcome → kx_H → Prop} {kc ks pc : Nat} {lv : kx_L} {st : List Value} {h : kx_H} (hM : M.1.cls = "VersionedTables") (hd : decode M.2.1 pc = .ok (.invokevirtual 164, 3)) (hb : kx_is G h b (.inr (0, fs))) (hn : as.length = 1) (hsk : sk = as.reverse ++ .ref b :: st) (hst : (st.map fun v => v.category).sum ≤ 8) (hC : kx_c G l mV_refuseSettingsBeyond d mc ms (.ref b :: as) h Qc) (hk : ∀ o h', Qc o h' → kx_k G l M (d + 1) Q kc ks pc lv st o h') : kx_w G l M (d + 1) Q (kc + mc) (ks + ms) pc lv sk h := kx_inv (N := mV_refuseSettingsBeyond) (host := "VersionedTables") (by rw [hn]; exact kV_refuseSettingsBeyond) (by rw [hM]; exact Or.inr (kx_by 731 (by decide +kernel) (by decide +kernel))) (kx_by 733 (by decide +kernel) (by decide +kernel)) (kx_by 43 (by decide +kernel) (by decide +kernel)) (ci := 0) rfl hd hsk hst hb hC hk
/-- V_workOutSettings -/
theorem cV_167 {b : Nat} {fs sk as : List Value} {G : kx_G} {l : Launch} {M : kx_M} {d mc ms : Nat} {Q Qc : Outcome → kx_H → Prop} {kc ks pc : Nat} {lv : kx_L} {st : List Value} {h : kx_H} (hM : M.1.cls = "VersionedTables") (hd : decode M.2.1 pc = .ok (.invokevirtual 167, 3)) (hb : kx_is G h b (.inr (0, fs))) (hn : as.length = 0) (hsk : sk = as.reverse ++ .ref b :: st) (hst : (st.map fun v => v.category).sum ≤ 8) (hC : kx_c G l mV_workOutSettings d mc ms (.ref b :: as) h Qc) (hk : ∀ o h', Qc o h' → kx_k G l M (d + 1) Q kc ks pc lv st o h') : kx_w G l M (d + 1) Q (kc + mc) (ks + ms) pc lv sk h := kx_inv (N := mV_workOutSettings) (host := "VersionedTables") (by rw [hn]; exact kV_workOutSettings) (by rw [hM]; exact Or.inr (kx_by 736 (by decide +kernel) (by decide +kernel))) (kx_by 738 (by decide +kernel) (by decide +kernel)) (kx_by 44 (by decide +kernel) (by decide +kernel)) (ci := 0) rfl hd hsk hst hb hC hk
/-- V_write -/
theorem cV_170 {b : Nat} {fs sk as : List Value} {G : kx_G} {l : Launch} {M : kx_M} {d mc ms : Nat} {Q Qc : Outcome → kx_H → Prop} {kc ks pc : Nat} {lv : kx_L} {st : List Value} {h : kx_H} (hM : M.1.cls = "VersionedTables") (hd : decode M.2.1 pc = .ok (.invokevirtual 170, 3)) (hb : kx_is G h b (.inr (0, fs))) (hn : as.length = 3) (hsk : sk = as.reverse ++ .ref b :: st) (hst : (st.map fun v => v.category).sum ≤ 8) (hC : kx_c G l mV_write d mc ms (.ref b :: as) h Qc) (hk : ∀ o h', Qc o h' → kx_k G l M (d + 1) Q kc ks pc lv st o h') : kx_w G l M (d + 1) Q (kc + mc) (ks + ms) pc lv sk h := kx_inv (N := mV_write) (host := "VersionedTables") (by rw [hn]; exact kV_write) (by rw [hM]; exact Or.inr (kx_by 742 (by decide +kernel) (by decide +kernel))) (kx_by 744 (by decide +kernel) (by decide +kernel)) (kx_by 45 (by decide +kernel) (by decide +kernel)) (ci := 0) rfl hd hsk hst hb hC hk
/-- S.numbers -/
theorem pV_179 {a : Nat} {fs : List Value} {v : Value} {G : kx_G} {l : Launch} {M : kx_M} {d : Nat} {Q : Outcome → kx_H → Prop} {kc ks pc : Nat} {lv : kx_L} {st : List Value} {h : kx_H} (hM : M.1.cls = "VersionedTables") (hd : decode M.2.1 pc = .ok (.getfield 179, 3)) (hc : kx_is G h a (.inr (3, fs))) (hv : fs[0]? = some v) (kk : kx_w G l M d Q kc ks (pc + 3) lv (v :: st) h) : kx_w G l M d Q kc ks pc lv (.ref a :: st) h := kx_getn (C := kR_S) (T := kF_S) (N := 3) (k := 0) (host := "VersionedTables") rfl kI_S (by decide) (by rw [hM]; exact kx_by 160 (by decide +kernel) (by decide +kernel)) hd hc hv kk
/-- V_mustBeColumn -/
theorem cV_182 {b : Nat} {fs sk as : List Value} {G : kx_G} {l : Launch} {M : kx_M} {d mc ms : Nat} {Q Qc : Outcome → kx_H → Prop} {kc ks pc : Nat} {lv : kx_L} {st : List Value} {h : kx_H} (hM : M.1.cls = "VersionedTables") (hd : decode M.2.1 pc = .ok (.invokevirtual 182, 3)) (hb : kx_is G h b (.inr (0, fs))) (hn : as.length = 1) (hsk : sk = as.reverse ++ .ref b :: st) (hst : (st.map fun v => v.category).sum ≤ 8) (hC : kx_c G l mV_mustBeColumn d mc ms (.ref b :: as) h Qc) (hk : ∀ o h', Qc o h' → kx_k G l M (d + 1) Q kc ks pc lv st o h') : kx_w G l M (d + 1) Q (kc + mc) (ks + ms) pc lv sk h := kx_inv (N := mV_mustBeColumn) (host := "VersionedTables") (by rw [hn]; exact kV_mustBeColumn) (by rw [hM]; exact Or.inr (kx_by 767 (by decide +kernel) (by decide +kernel))) (kx_by 769 (by decide +kernel) (by decide +kernel)) (kx_by 47 (by decide +kernel) (by decide +kernel)) (ci := 0) rfl hd hsk hst hb hC hk
/-- S.values -/
theorem pV_185 {a : Nat} {fs : List Value} {v : Value} {G : kx_G} {l : Launch} {M : kx_M} {d : Nat} {Q : Outcome → kx_H → Prop} {kc ks pc : Nat} {lv : kx_L} {st : List Value} {h : kx_H} (hM : M.1.cls = "VersionedTables") (hd : decode M.2.1 pc = .ok (.getfield 185, 3)) (hc : kx_is G h a (.inr (3, fs))) (hv : fs[1]? = some v) (kk : kx_w G l M d Q kc ks (pc + 3) lv (v :: st) h) : kx_w G l M d Q kc ks pc lv (.ref a :: st) h := kx_getn (C := kR_S) (T := kF_S) (N := 3) (k := 1) (host := "VersionedTables") rfl kI_S (by decide) (by rw [hM]; exact kx_by 162 (by decide +kernel) (by decide +kernel)) hd hc hv kk
/-- S_sum -/
theorem cV_194 {b : Nat} {fs sk as : List Value} {G : kx_G} {l : Launch} {M : kx_M} {d mc ms : Nat} {Q Qc : Outcome → kx_H → Prop} {kc ks pc : Nat} {lv : kx_L} {st : List Value} {h : kx_H} (hM : M.1.cls = "VersionedTables") (hd : decode M.2.1 pc = .ok (.invokevirtual 194, 3)) (hb : kx_is G h b (.inr (3, fs))) (hn : as.length = 1) (hsk : sk = as.reverse ++ .ref b :: st) (hst : (st.map fun v => v.category).sum ≤ 8) (hC : kx_c G l mS_sum d mc ms (.ref b :: as) h Qc) (hk : ∀ o h', Qc o h' → kx_k G l M (d + 1) Q kc ks pc lv st o h') : kx_w G l M (d + 1) Q (kc + mc) (ks + ms) pc lv sk h := kx_inv (N := mS_sum) (host := "VersionedTables") (by rw [hn]; exact kS_sum) (by rw [hM]; exact Or.inl (kx_by 797 (by decide +kernel) (by decide +kernel))) (kx_by 799 (by decide +kernel) (by decide +kernel)) (kx_by 48 (by decide +kernel) (by decide +kernel)) (ci := 3) rfl hd hsk hst hb hC hk
/-- T_leastOpen -/
theorem cV_198 {b : Nat} {fs sk as : List Value} {G : kx_G} {l : Launch} {M : kx_M} {d mc ms : Nat} {Q Qc : Outcome → kx_H → Prop} {kc ks pc : Nat} {lv : kx_L} {st : List Value} {h : kx_H} (hM : M.1.cls = "VersionedTables") (hd : decode M.2.1 pc = .ok (.invokevirtual 198, 3)) (hb : kx_is G h b (.inr (1, fs))) (hn : as.length = 0) (hsk : sk = as.reverse ++ .ref b :: st) (hst : (st.map fun v => v.category).sum ≤ 8) (hC : kx_c G l mT_leastOpen d mc ms (.ref b :: as) h Qc) (hk : ∀ o h', Qc o h' → kx_k G l M (d + 1) Q kc ks pc lv st o h') : kx_w G l M (d + 1) Q (kc + mc) (ks + ms) pc lv sk h := kx_inv (N := mT_leastOpen) (host := "VersionedTables") (by rw [hn]; exact kT_leastOpen) (by rw [hM]; exact Or.inl (kx_by 219 (by decide +kernel) (by decide +kernel))) (kx_by 221 (by decide +kernel) (by decide +kernel)) (kx_by 1 (by decide +kernel) (by decide +kernel)) (ci := 1) rfl hd hsk hst hb hC hk
/-- V_sweep -/
theorem cV_201 {b : Nat} {fs sk as : List Value} {G : kx_G} {l : Launch} {M : kx_M} {d mc ms : Nat} {Q Qc : Outcome → kx_H → Prop} {kc ks pc : Nat} {lv : kx_L} {st : List Value} {h : kx_H} (hM : M.1.cls = "VersionedTables") (hd : decode M.2.1 pc = .ok (.invokevirtual 201, 3)) (hb : kx_is G h b (.inr (0, fs))) (hn : as.length = 2) (hsk : sk = as.reverse ++ .ref b :: st) (hst : (st.map fun v => v.category).sum ≤ 8) (hC : kx_c G l mV_sweep d mc ms (.ref b :: as) h Qc) (hk : ∀ o h', Qc o h' → kx_k G l M (d + 1) Q kc ks pc lv st o h') : kx_w G l M (d + 1) Q (kc + mc) (ks + ms) pc lv sk h := kx_inv (N := mV_sweep) (host := "VersionedTables") (by rw [hn]; exact kV_sweep) (by rw [hM]; exact Or.inr (kx_by 225 (by decide +kernel) (by decide +kernel))) (kx_by 227 (by decide +kernel) (by decide +kernel)) (kx_by 2 (by decide +kernel) (by decide +kernel)) (ci := 0) rfl hd hsk hst hb hC hk
/-- B.rows -/
theorem pV_207 {a : Nat} {fs : List Value} {v : Value} {G : kx_G} {l : Launch} {M : kx_M} {d : Nat} {Q : Outcome → kx_H → Prop} {kc ks pc : Nat} {lv : kx_L} {st : List Value} {h : kx_H} (hM : M.1.cls = "VersionedTables") (hd : decode M.2.1 pc = .ok (.getfield 207, 3)) (hc : kx_is G h a (.inr (4, fs))) (hv : fs[1]? = some v) (kk : kx_w G l M d Q kc ks (pc + 3) lv (v :: st) h) : kx_w G l M d Q kc ks pc lv (.ref a :: st) h := kx_getn (C := kR_B) (T := kF_B) (N := 4) (k := 1) (host := "VersionedTables") rfl kI_B (by decide) (by rw [hM]; exact kx_by 390 (by decide +kernel) (by decide +kernel)) hd hc hv kk
/-- R_size -/
theorem cV_211 {b : Nat} {fs sk as : List Value} {G : kx_G} {l : Launch} {M : kx_M} {d mc ms : Nat} {Q Qc : Outcome → kx_H → Prop} {kc ks pc : Nat} {lv : kx_L} {st : List Value} {h : kx_H} (hM : M.1.cls = "VersionedTables") (hd : decode M.2.1 pc = .ok (.invokevirtual 211, 3)) (hb : kx_is G h b (.inr (5, fs))) (hn : as.length = 0) (hsk : sk = as.reverse ++ .ref b :: st) (hst : (st.map fun v => v.category).sum ≤ 8) (hC : kx_c G l mR_size d mc ms (.ref b :: as) h Qc) (hk : ∀ o h', Qc o h' → kx_k G l M (d + 1) Q kc ks pc lv st o h') : kx_w G l M (d + 1) Q (kc + mc) (ks + ms) pc lv sk h := kx_inv (N := mR_size) (host := "VersionedTables") (by rw [hn]; exact kR_size) (by rw [hM]; exact Or.inl (kx_by 809 (by decide +kernel) (by decide +kernel))) (kx_by 269 (by decide +kernel) (by decide +kernel)) (kx_by 10 (by decide +kernel) (by decide +kernel)) (ci := 5) rfl hd hsk hst hb hC hk
theorem pV_215 {G : kx_G} {l : Launch} {M : kx_M} {d : Nat} {Q : Outcome → kx_H → Prop} {kc ks pc : Nat} {lv : kx_L} {st : List Value} {h : kx_H} (hM : M.1.cls = "VersionedTables") (hd : decode M.2.1 pc = .ok (.getstatic 215, 3)) (kk : kx_w G l M d Q kc ks (pc + 3) lv (.ref (G.2.2.2.1 0) :: st) h) : kx_w G l M d Q kc ks pc lv st h := kx_gst (k := 0) (host := "VersionedTables") (by decide) (by rw [hM]; exact Or.inl (kx_by 253 (by decide +kernel) (by decide +kernel))) hd kk
/-- T_howMany -/
theorem cV_218 {b : Nat} {fs sk as : List Value} {G : kx_G} {l : Launch} {M : kx_M} {d mc ms : Nat} {Q Qc : Outcome → kx_H → Prop} {kc ks pc : Nat} {lv : kx_L} {st : List Value} {h : kx_H} (hM : M.1.cls = "VersionedTables") (hd : decode M.2.1 pc = .ok (.invokevirtual 218, 3)) (hb : kx_is G h b (.inr (1, fs))) (hn : as.length = 1) (hsk : sk = as.reverse ++ .ref b :: st) (hst : (st.map fun v => v.category).sum ≤ 8) (hC : kx_c G l mT_howMany d mc ms (.ref b :: as) h Qc) (hk : ∀ o h', Qc o h' → kx_k G l M (d + 1) Q kc ks pc lv st o h') : kx_w G l M (d + 1) Q (kc + mc) (ks + ms) pc lv sk h := kx_inv (N := mT_howMany) (host := "VersionedTables") (by rw [hn]; exact kT_howMany) (by rw [hM]; exact Or.inl (kx_by 254 (by decide +kernel) (by decide +kernel))) (kx_by 256 (by decide +kernel) (by decide +kernel)) (kx_by 7 (by decide +kernel) (by decide +kernel)) (ci := 1) rfl hd hsk hst hb hC hk
/-- V_allVersions -/
theorem cV_222 {b : Nat} {fs sk as : List Value} {G : kx_G} {l : Launch} {M : kx_M} {d mc ms : Nat} {Q Qc : Outcome → kx_H → Prop} {kc ks pc : Nat} {lv : kx_L} {st : List Value} {h : kx_H} (hM : M.1.cls = "VersionedTables") (hd : decode M.2.1 pc = .ok (.invokevirtual 222, 3)) (hb : kx_is G h b (.inr (0, fs))) (hn : as.length = 0) (hsk : sk = as.reverse ++ .ref b :: st) (hst : (st.map fun v => v.category).sum ≤ 8) (hC : kx_c G l mV_allVersions d mc ms (.ref b :: as) h Qc) (hk : ∀ o h', Qc o h' → kx_k G l M (d + 1) Q kc ks pc lv st o h') : kx_w G l M (d + 1) Q (kc + mc) (ks + ms) pc lv sk h := kx_inv (N := mV_allVersions) (host := "VersionedTables") (by rw [hn]; exact kV_allVersions) (by rw [hM]; exact Or.inr (kx_by 258 (by decide +kernel) (by decide +kernel))) (kx_by 260 (by decide +kernel) (by decide +kernel)) (kx_by 8 (by decide +kernel) (by decide +kernel)) (ci := 0) rfl hd hsk hst hb hC hk
/-- T.brokenTooLate -/
theorem pV_225 {a : Nat} {fs : List Value} {v : Value} {G : kx_G} {l : Launch} {M : kx_M} {d : Nat} {Q : Outcome → kx_H → Prop} {kc ks pc : Nat} {lv : kx_L} {st : List Value} {h : kx_H} (hM : M.1.cls = "VersionedTables") (hd : decode M.2.1 pc = .ok (.getfield 225, 3)) (hc : kx_is G h a (.inr (1, fs))) (hv : fs[2]? = some v) (kk : kx_w G l M d Q kc ks (pc + 3) lv (v :: st) h) : kx_w G l M d Q kc ks pc lv (.ref a :: st) h := kx_getn (C := kR_T) (T := kF_T) (N := 3) (k := 2) (host := "VersionedTables") rfl kI_T (by decide) (by rw [hM]; exact kx_by 122 (by decide +kernel) (by decide +kernel)) hd hc hv kk
/-- T.brokenTooLate is written -/
theorem qV_225 {a : Nat} {fs : List Value} {v : Value} {G : kx_G} {l : Launch} {M : kx_M} {d : Nat} {Q : Outcome → kx_H → Prop} {kc ks pc : Nat} {lv : kx_L} {st : List Value} {h : kx_H} (hM : M.1.cls = "VersionedTables") (hd : decode M.2.1 pc = .ok (.putfield 225, 3)) (hc : kx_is G h a (.inr (1, fs))) (hn : narrow .int v = v) (hf : fits .int v = true) (hlen : 2 < fs.length) (kk : kx_w G l M d Q kc ks (pc + 3) lv st (kx_set h a (.inr (1, fs.set 2 v)))) : kx_w G l M d Q kc ks pc lv (v :: .ref a :: st) h := kx_putn (C := kR_T) (T := kF_T) (N := 3) (k := 2) (ty0 := kT_T) (ty := .int) (host := "VersionedTables") rfl kI_T kY_T kN_T (by decide) (by rw [hM]; exact kx_by 122 (by decide +kernel) (by decide +kernel)) rfl (by decide +kernel) hd hc hn hf hlen kk
/-- V_rowsMade -/
theorem cV_228 {b : Nat} {fs sk as : List Value} {G : kx_G} {l : Launch} {M : kx_M} {d mc ms : Nat} {Q Qc : Outcome → kx_H → Prop} {kc ks pc : Nat} {lv : kx_L} {st : List Value} {h : kx_H} (hM : M.1.cls = "VersionedTables") (hd : decode M.2.1 pc = .ok (.invokevirtual 228, 3)) (hb : kx_is G h b (.inr (0, fs))) (hn : as.length = 1) (hsk : sk = as.reverse ++ .ref b :: st) (hst : (st.map fun v => v.category).sum ≤ 8) (hC : kx_c G l mV_rowsMade d mc ms (.ref b :: as) h Qc) (hk : ∀ o h', Qc o h' → kx_k G l M (d + 1) Q kc ks pc lv st o h') : kx_w G l M (d + 1) Q (kc + mc) (ks + ms) pc lv sk h := kx_inv (N := mV_rowsMade) (host := "VersionedTables") (by rw [hn]; exact kV_rowsMade) (by rw [hM]; exact Or.inr (kx_by 271 (by decide +kernel) (by decide +kernel))) (kx_by 273 (by decide +kernel) (by decide +kernel)) (kx_by 11 (by decide +kernel) (by decide +kernel)) (ci := 0) rfl hd hsk hst hb hC hk
/-- Q.at -/
theorem pV_231 {a : Nat} {fs : List Value} {v : Value} {G : kx_G} {l : Launch} {M : kx_M} {d : Nat} {Q : Outcome → kx_H → Prop} {kc ks pc : Nat} {lv : kx_L} {st : List Value} {h : kx_H} (hM : M.1.cls = "VersionedTables") (hd : decode M.2.1 pc = .ok (.getfield 231, 3)) (hc : kx_is G h a (.inr (6, fs))) (hv : fs[3]? = some v) (kk : kx_w G l M d Q kc ks (pc + 3) lv (v :: st) h) : kx_w G l M d Q kc ks pc lv (.ref a :: st) h := kx_getn (C := kR_Q) (T := kF_Q) (N := 5) (k := 3) (host := "VersionedTables") rfl kI_Q (by decide) (by rw [hM]; exact kx_by 433 (by decide +kernel) (by decide +kernel)) hd hc hv kk
/-- T_is -/
theorem cV_236 {b : Nat} {fs sk as : List Value} {G : kx_G} {l : Launch} {M : kx_M} {d mc ms : Nat} {Q Qc : Outcome → kx_H → Prop} {kc ks pc : Nat} {lv : kx_L} {st : List Value} {h : kx_H} (hM : M.1.cls = "VersionedTables") (hd : decode M.2.1 pc = .ok (.invokevirtual 236, 3)) (hb : kx_is G h b (.inr (1, fs))) (hn : as.length = 2) (hsk : sk = as.reverse ++ .ref b :: st) (hst : (st.map fun v => v.category).sum ≤ 8) (hC : kx_c G l mT_is d mc ms (.ref b :: as) h Qc) (hk : ∀ o h', Qc o h' → kx_k G l M (d + 1) Q kc ks pc lv st o h') : kx_w G l M (d + 1) Q (kc + mc) (ks + ms) pc lv sk h := kx_inv (N := mT_is) (host := "VersionedTables") (by rw [hn]; exact kT_is) (by rw [hM]; exact Or.inl (kx_by 240 (by decide +kernel) (by decide +kernel))) (kx_by 242 (by decide +kernel) (by decide +kernel)) (kx_by 5 (by decide +kernel) (by decide +kernel)) (ci := 1) rfl hd hsk hst hb hC hk
/-- R_holding -/
theorem cV_251 {b : Nat} {fs sk as : List Value} {G : kx_G} {l : Launch} {M : kx_M} {d mc ms : Nat} {Q Qc : Outcome → kx_H → Prop} {kc ks pc : Nat} {lv : kx_L} {st : List Value} {h : kx_H} (hM : M.1.cls = "VersionedTables") (hd : decode M.2.1 pc = .ok (.invokevirtual 251, 3)) (hb : kx_is G h b (.inr (5, fs))) (hn : as.length = 1) (hsk : sk = as.reverse ++ .ref b :: st) (hst : (st.map fun v => v.category).sum ≤ 8) (hC : kx_c G l mR_holding d mc ms (.ref b :: as) h Qc) (hk : ∀ o h', Qc o h' → kx_k G l M (d + 1) Q kc ks pc lv st o h') : kx_w G l M (d + 1) Q (kc + mc) (ks + ms) pc lv sk h := kx_inv (N := mR_holding) (host := "VersionedTables") (by rw [hn]; exact kR_holding) (by rw [hM]; exact Or.inl (kx_by 660 (by decide +kernel) (by decide +kernel))) (kx_by 662 (by decide +kernel) (by decide +kernel)) (kx_by 35 (by decide +kernel) (by decide +kernel)) (ci := 5) rfl hd hsk hst hb hC hk
/-- N.writer -/
theorem pV_255 {a : Nat} {fs : List Value} {v : Value} {G : kx_G} {l : Launch} {M : kx_M} {d : Nat} {Q : Outcome → kx_H → Prop} {kc ks pc : Nat} {lv : kx_L} {st : List Value} {h : kx_H} (hM : M.1.cls = "VersionedTables") (hd : decode M.2.1 pc = .ok (.getfield 255, 3)) (hc : kx_is G h a (.inr (7, fs))) (hv : fs[0]? = some v) (kk : kx_w G l M d Q kc ks (pc + 3) lv (v :: st) h) : kx_w G l M d Q kc ks pc lv (.ref a :: st) h := kx_getn (C := kR_N) (T := kF_N) (N := 4) (k := 0) (host := "VersionedTables") rfl kI_N (by decide) (by rw [hM]; exact kx_by 624 (by decide +kernel) (by decide +kernel)) hd hc hv kk
/-- N.gone -/
theorem pV_262 {a : Nat} {fs : List Value} {v : Value} {G : kx_G} {l : Launch} {M : kx_M} {d : Nat} {Q : Outcome → kx_H → Prop} {kc ks pc : Nat} {lv : kx_L} {st : List Value} {h : kx_H} (hM : M.1.cls = "VersionedTables") (hd : decode M.2.1 pc = .ok (.getfield 262, 3)) (hc : kx_is G h a (.inr (7, fs))) (hv : fs[3]? = some v) (kk : kx_w G l M d Q kc ks (pc + 3) lv (v :: st) h) : kx_w G l M d Q kc ks pc lv (.ref a :: st) h := kx_getn (C := kR_N) (T := kF_N) (N := 4) (k := 3) (host := "VersionedTables") rfl kI_N (by decide) (by rw [hM]; exact kx_by 631 (by decide +kernel) (by decide +kernel)) hd hc hv kk
/-- N.values -/
theorem pV_266 {a : Nat} {fs : List Value} {v : Value} {G : kx_G} {l : Launch} {M : kx_M} {d : Nat} {Q : Outcome → kx_H → Prop} {kc ks pc : Nat} {lv : kx_L} {st : List Value} {h : kx_H} (hM : M.1.cls = "VersionedTables") (hd : decode M.2.1 pc = .ok (.getfield 266, 3)) (hc : kx_is G h a (.inr (7, fs))) (hv : fs[1]? = some v) (kk : kx_w G l M d Q kc ks (pc + 3) lv (v :: st) h) : kx_w G l M d Q kc ks pc lv (.ref a :: st) h := kx_getn (C := kR_N) (T := kF_N) (N := 4) (k := 1) (host := "VersionedTables") rfl kI_N (by decide) (by rw [hM]; exact kx_by 626 (by decide +kernel) (by decide +kernel)) hd hc hv kk
/-- P_holds -/
theorem cV_268 {b : Nat} {fs sk as : List Value} {G : kx_G} {l : Launch} {M : kx_M} {d mc ms : Nat} {Q Qc : Outcome → kx_H → Prop} {kc ks pc : Nat} {lv : kx_L} {st : List Value} {h : kx_H} (hM : M.1.cls = "VersionedTables") (hd : decode M.2.1 pc = .ok (.invokevirtual 268, 3)) (hb : kx_is G h b (.inr (2, fs))) (hn : as.length = 1) (hsk : sk = as.reverse ++ .ref b :: st) (hst : (st.map fun v => v.category).sum ≤ 8) (hC : kx_c G l mP_holds d mc ms (.ref b :: as) h Qc) (hk : ∀ o h', Qc o h' → kx_k G l M (d + 1) Q kc ks pc lv st o h') : kx_w G l M (d + 1) Q (kc + mc) (ks + ms) pc lv sk h := kx_inv (N := mP_holds) (host := "VersionedTables") (by rw [hn]; exact kP_holds) (by rw [hM]; exact Or.inl (kx_by 665 (by decide +kernel) (by decide +kernel))) (kx_by 667 (by decide +kernel) (by decide +kernel)) (kx_by 36 (by decide +kernel) (by decide +kernel)) (ci := 2) rfl hd hsk hst hb hC hk
/-- S_add -/
theorem cV_272 {b : Nat} {fs sk as : List Value} {G : kx_G} {l : Launch} {M : kx_M} {d mc ms : Nat} {Q Qc : Outcome → kx_H → Prop} {kc ks pc : Nat} {lv : kx_L} {st : List Value} {h : kx_H} (hM : M.1.cls = "VersionedTables") (hd : decode M.2.1 pc = .ok (.invokevirtual 272, 3)) (hb : kx_is G h b (.inr (3, fs))) (hn : as.length = 2) (hsk : sk = as.reverse ++ .ref b :: st) (hst : (st.map fun v => v.category).sum ≤ 8) (hC : kx_c G l mS_add d mc ms (.ref b :: as) h Qc) (hk : ∀ o h', Qc o h' → kx_k G l M (d + 1) Q kc ks pc lv st o h') : kx_w G l M (d + 1) Q (kc + mc) (ks + ms) pc lv sk h := kx_inv (N := mS_add) (host := "VersionedTables") (by rw [hn]; exact kS_add) (by rw [hM]; exact Or.inl (kx_by 711 (by decide +kernel) (by decide +kernel))) (kx_by 713 (by decide +kernel) (by decide +kernel)) (kx_by 41 (by decide +kernel) (by decide +kernel)) (ci := 3) rfl hd hsk hst hb hC hk
theorem cV_276 {a0 a n0 n1 : Nat} {f g : Nat → Int32} {sp dp n : Int32} {G : kx_G} {l : Launch} {M : kx_M} {d : Nat} {Q : Outcome → kx_H → Prop} {kc ks pc : Nat} {lv : kx_L} {st : List Value} {h : kx_H} (hM : M.1.cls = "VersionedTables") (hd : decode M.2.1 pc = .ok (.invokestatic 276, 3)) (hst : (st.map fun v => v.category).sum ≤ 8) (hc0 : kx_is G h a0 (.inl (0, n0, .inl f))) (hc1 : kx_is G h a (.inl (0, n1, .inl g))) (h1 : ¬ sp < 0) (h2 : ¬ dp < 0) (h3 : ¬ n < 0) (h4 : sp.toNatClampNeg + n.toNatClampNeg ≤ n0) (h5 : dp.toNatClampNeg + n.toNatClampNeg ≤ n1) (kk : kx_w G l M d Q kc ks (pc + 3) lv st (kx_set h a (.inl (0, n1, .inl (va_cpy f g sp.toNatClampNeg dp.toNatClampNeg n.toNatClampNeg))))) : kx_w G l M d Q kc ks pc lv (.int n :: .int dp :: .ref a :: .int sp :: .ref a0 :: st) h := kx_cpy (by rw [hM]; exact kx_by 740 (by decide +kernel) (by decide +kernel)) (kx_by 647 (by decide +kernel) (by decide +kernel)) (kx_by 646 (by decide +kernel) (by decide +kernel)) (kx_by 96 (by decide +kernel) (by decide +kernel)) rfl hd hst hc0 hc1 h1 h2 h3 h4 h5 kk
/-- P_work -/
theorem cV_282 {b : Nat} {fs sk as : List Value} {G : kx_G} {l : Launch} {M : kx_M} {d mc ms : Nat} {Q Qc : Outcome → kx_H → Prop} {kc ks pc : Nat} {lv : kx_L} {st : List Value} {h : kx_H} (hM : M.1.cls = "VersionedTables") (hd : decode M.2.1 pc = .ok (.invokevirtual 282, 3)) (hb : kx_is G h b (.inr (2, fs))) (hn : as.length = 1) (hsk : sk = as.reverse ++ .ref b :: st) (hst : (st.map fun v => v.category).sum ≤ 8) (hC : kx_c G l mP_work d mc ms (.ref b :: as) h Qc) (hk : ∀ o h', Qc o h' → kx_k G l M (d + 1) Q kc ks pc lv st o h') : kx_w G l M (d + 1) Q (kc + mc) (ks + ms) pc lv sk h := kx_inv (N := mP_work) (host := "VersionedTables") (by rw [hn]; exact kP_work) (by rw [hM]; exact Or.inl (kx_by 741 (by decide +kernel) (by decide +kernel))) (kx_by 671 (by decide +kernel) (by decide +kernel)) (kx_by 37 (by decide +kernel) (by decide +kernel)) (ci := 2) rfl hd hsk hst hb hC hk
/-- V_isTooLate -/
theorem cV_286 {b : Nat} {fs sk as : List Value} {G : kx_G} {l : Launch} {M : kx_M} {d mc ms : Nat} {Q Qc : Outcome → kx_H → Prop} {kc ks pc : Nat} {lv : kx_L} {st : List Value} {h : kx_H} (hM : M.1.cls = "VersionedTables") (hd : decode M.2.1 pc = .ok (.invokevirtual 286, 3)) (hb : kx_is G h b (.inr (0, fs))) (hn : as.length = 2) (hsk : sk = as.reverse ++ .ref b :: st) (hst : (st.map fun v => v.category).sum ≤ 8) (hC : kx_c G l mV_isTooLate d mc ms (.ref b :: as) h Qc) (hk : ∀ o h', Qc o h' → kx_k G l M (d + 1) Q kc ks pc lv st o h') : kx_w G l M (d + 1) Q (kc + mc) (ks + ms) pc lv sk h := kx_inv (N := mV_isTooLate) (host := "VersionedTables") (by rw [hn]; exact kV_isTooLate) (by rw [hM]; exact Or.inr (kx_by 746 (by decide +kernel) (by decide +kernel))) (kx_by 748 (by decide +kernel) (by decide +kernel)) (kx_by 46 (by decide +kernel) (by decide +kernel)) (ci := 0) rfl hd hsk hst hb hC hk
/-- R_write -/
theorem cV_290 {b : Nat} {fs sk as : List Value} {G : kx_G} {l : Launch} {M : kx_M} {d mc ms : Nat} {Q Qc : Outcome → kx_H → Prop} {kc ks pc : Nat} {lv : kx_L} {st : List Value} {h : kx_H} (hM : M.1.cls = "VersionedTables") (hd : decode M.2.1 pc = .ok (.invokevirtual 290, 3)) (hb : kx_is G h b (.inr (5, fs))) (hn : as.length = 3) (hsk : sk = as.reverse ++ .ref b :: st) (hst : (st.map fun v => v.category).sum ≤ 8) (hC : kx_c G l mR_write d mc ms (.ref b :: as) h Qc) (hk : ∀ o h', Qc o h' → kx_k G l M (d + 1) Q kc ks pc lv st o h') : kx_w G l M (d + 1) Q (kc + mc) (ks + ms) pc lv sk h := kx_inv (N := mR_write) (host := "VersionedTables") (by rw [hn]; exact kR_write) (by rw [hM]; exact Or.inl (kx_by 750 (by decide +kernel) (by decide +kernel))) (kx_by 616 (by decide +kernel) (by decide +kernel)) (kx_by 32 (by decide +kernel) (by decide +kernel)) (ci := 5) rfl hd hsk hst hb hC hk
/-- N.read -/
theorem pV_293 {a : Nat} {fs : List Value} {v : Value} {G : kx_G} {l : Launch} {M : kx_M} {d : Nat} {Q : Outcome → kx_H → Prop} {kc ks pc : Nat} {lv : kx_L} {st : List Value} {h : kx_H} (hM : M.1.cls = "VersionedTables") (hd : decode M.2.1 pc = .ok (.getfield 293, 3)) (hc : kx_is G h a (.inr (7, fs))) (hv : fs[2]? = some v) (kk : kx_w G l M d Q kc ks (pc + 3) lv (v :: st) h) : kx_w G l M d Q kc ks pc lv (.ref a :: st) h := kx_getn (C := kR_N) (T := kF_N) (N := 4) (k := 2) (host := "VersionedTables") rfl kI_N (by decide) (by rw [hM]; exact kx_by 629 (by decide +kernel) (by decide +kernel)) hd hc hv kk
theorem pV_296 {G : kx_G} {l : Launch} {M : kx_M} {d : Nat} {Q : Outcome → kx_H → Prop} {kc ks pc : Nat} {lv : kx_L} {st : List Value} {h : kx_H} (hM : M.1.cls = "VersionedTables") (hd : decode M.2.1 pc = .ok (.getstatic 296, 3)) (kk : kx_w G l M d Q kc ks (pc + 3) lv (.ref (G.2.2.2.1 2) :: st) h) : kx_w G l M d Q kc ks pc lv st h := kx_gst (k := 2) (host := "VersionedTables") (by decide) (by rw [hM]; exact Or.inl (kx_by 569 (by decide +kernel) (by decide +kernel))) hd kk
/-- B_dropAllOf -/
theorem cV_299 {b : Nat} {fs sk as : List Value} {G : kx_G} {l : Launch} {M : kx_M} {d mc ms : Nat} {Q Qc : Outcome → kx_H → Prop} {kc ks pc : Nat} {lv : kx_L} {st : List Value} {h : kx_H} (hM : M.1.cls = "VersionedTables") (hd : decode M.2.1 pc = .ok (.invokevirtual 299, 3)) (hb : kx_is G h b (.inr (4, fs))) (hn : as.length = 1) (hsk : sk = as.reverse ++ .ref b :: st) (hst : (st.map fun v => v.category).sum ≤ 8) (hC : kx_c G l mB_dropAllOf d mc ms (.ref b :: as) h Qc) (hk : ∀ o h', Qc o h' → kx_k G l M (d + 1) Q kc ks pc lv st o h') : kx_w G l M (d + 1) Q (kc + mc) (ks + ms) pc lv sk h := kx_inv (N := mB_dropAllOf) (host := "VersionedTables") (by rw [hn]; exact kB_dropAllOf) (by rw [hM]; exact Or.inl (kx_by 571 (by decide +kernel) (by decide +kernel))) (kx_by 573 (by decide +kernel) (by decide +kernel)) (kx_by 28 (by decide +kernel) (by decide +kernel)) (ci := 4) rfl hd hsk hst hb hC hk
/-- V_sweepRow -/
theorem cV_302 {b : Nat} {fs sk as : List Value} {G : kx_G} {l : Launch} {M : kx_M} {d mc ms : Nat} {Q Qc : Outcome → kx_H → Prop} {kc ks pc : Nat} {lv : kx_L} {st : List Value} {h : kx_H} (hM : M.1.cls = "VersionedTables") (hd : decode M.2.1 pc = .ok (.invokevirtual 302, 3)) (hb : kx_is G h b (.inr (0, fs))) (hn : as.length = 2) (hsk : sk = as.reverse ++ .ref b :: st) (hst : (st.map fun v => v.category).sum ≤ 8) (hC : kx_c G l mV_sweepRow d mc ms (.ref b :: as) h Qc) (hk : ∀ o h', Qc o h' → kx_k G l M (d + 1) Q kc ks pc lv st o h') : kx_w G l M (d + 1) Q (kc + mc) (ks + ms) pc lv sk h := kx_inv (N := mV_sweepRow) (host := "VersionedTables") (by rw [hn]; exact kV_sweepRow) (by rw [hM]; exact Or.inr (kx_by 229 (by decide +kernel) (by decide +kernel))) (kx_by 231 (by decide +kernel) (by decide +kernel)) (kx_by 3 (by decide +kernel) (by decide +kernel)) (ci := 0) rfl hd hsk hst hb hC hk
/-- R_has -/
theorem cV_306 {b : Nat} {fs sk as : List Value} {G : kx_G} {l : Launch} {M : kx_M} {d mc ms : Nat} {Q Qc : Outcome → kx_H → Prop} {kc ks pc : Nat} {lv : kx_L} {st : List Value} {h : kx_H} (hM : M.1.cls = "VersionedTables") (hd : decode M.2.1 pc = .ok (.invokevirtual 306, 3)) (hb : kx_is G h b (.inr (5, fs))) (hn : as.length = 1) (hsk : sk = as.reverse ++ .ref b :: st) (hst : (st.map fun v => v.category).sum ≤ 8) (hC : kx_c G l mR_has d mc ms (.ref b :: as) h Qc) (hk : ∀ o h', Qc o h' → kx_k G l M (d + 1) Q kc ks pc lv st o h') : kx_w G l M (d + 1) Q (kc + mc) (ks + ms) pc lv sk h := kx_inv (N := mR_has) (host := "VersionedTables") (by rw [hn]; exact kR_has) (by rw [hM]; exact Or.inl (kx_by 233 (by decide +kernel) (by decide +kernel))) (kx_by 235 (by decide +kernel) (by decide +kernel)) (kx_by 4 (by decide +kernel) (by decide +kernel)) (ci := 5) rfl hd hsk hst hb hC hk
/-- R_drop -/
theorem cV_310 {b : Nat} {fs sk as : List Value} {G : kx_G} {l : Launch} {M : kx_M} {d mc ms : Nat} {Q Qc : Outcome → kx_H → Prop} {kc ks pc : Nat} {lv : kx_L} {st : List Value} {h : kx_H} (hM : M.1.cls = "VersionedTables") (hd : decode M.2.1 pc = .ok (.invokevirtual 310, 3)) (hb : kx_is G h b (.inr (5, fs))) (hn : as.length = 1) (hsk : sk = as.reverse ++ .ref b :: st) (hst : (st.map fun v => v.category).sum ≤ 8) (hC : kx_c G l mR_drop d mc ms (.ref b :: as) h Qc) (hk : ∀ o h', Qc o h' → kx_k G l M (d + 1) Q kc ks pc lv st o h') : kx_w G l M (d + 1) Q (kc + mc) (ks + ms) pc lv sk h := kx_inv (N := mR_drop) (host := "VersionedTables") (by rw [hn]; exact kR_drop) (by rw [hM]; exact Or.inl (kx_by 244 (by decide +kernel) (by decide +kernel))) (kx_by 246 (by decide +kernel) (by decide +kernel)) (kx_by 6 (by decide +kernel) (by decide +kernel)) (ci := 5) rfl hd hsk hst hb hC hk
/-- B_versionsThere -/
theorem cV_313 {b : Nat} {fs sk as : List Value} {G : kx_G} {l : Launch} {M : kx_M} {d mc ms : Nat} {Q Qc : Outcome → kx_H → Prop} {kc ks pc : Nat} {lv : kx_L} {st : List Value} {h : kx_H} (hM : M.1.cls = "VersionedTables") (hd : decode M.2.1 pc = .ok (.invokevirtual 313, 3)) (hb : kx_is G h b (.inr (4, fs))) (hn : as.length = 0) (hsk : sk = as.reverse ++ .ref b :: st) (hst : (st.map fun v => v.category).sum ≤ 8) (hC : kx_c G l mB_versionsThere d mc ms (.ref b :: as) h Qc) (hk : ∀ o h', Qc o h' → kx_k G l M (d + 1) Q kc ks pc lv st o h') : kx_w G l M (d + 1) Q (kc + mc) (ks + ms) pc lv sk h := kx_inv (N := mB_versionsThere) (host := "VersionedTables") (by rw [hn]; exact kB_versionsThere) (by rw [hM]; exact Or.inl (kx_by 262 (by decide +kernel) (by decide +kernel))) (kx_by 264 (by decide +kernel) (by decide +kernel)) (kx_by 9 (by decide +kernel) (by decide +kernel)) (ci := 4) rfl hd hsk hst hb hC hk
theorem cQ_3 {a : Nat} {G : kx_G} {l : Launch} {M : kx_M} {d : Nat} {Q : Outcome → kx_H → Prop} {kc ks pc : Nat} {lv : kx_L} {st : List Value} {h : kx_H} (hM : M.1.cls = "VersionedTables$Parser") (hd : decode M.2.1 pc = .ok (.invokespecial 3, 3)) (hst : (st.map fun v => v.category).sum ≤ 8) (kk : kx_w G l M d Q kc ks (pc + 3) lv st h) : kx_w G l M d Q kc ks pc lv (.ref a :: st) h := kx_obj (by rw [hM]; exact kx_by 425 (by decide +kernel) (by decide +kernel)) (kx_by 106 (by decide +kernel) (by decide +kernel)) (kx_by 107 (by decide +kernel) (by decide +kernel)) hst hd kk
theorem nQ_9 {G : kx_G} {l : Launch} {M : kx_M} {d : Nat} {Q : Outcome → kx_H → Prop} {kc ks pc : Nat} {lv : kx_L} {st : List Value} {h : kx_H} (hM : M.1.cls = "VersionedTables$Parser") (hd : decode M.2.1 pc = .ok (.new 9, 3)) (kk : kx_w G l M d Q kc ks (pc + 3) lv (.ref h.1 :: st) (kx_new h (.inr (2, [.null, .null, .int 0, .int 0])))) : kx_w G l M d Q (kc + 1) (ks + 4) pc lv st h := kx_newo (C := kR_P) (T := kF_P) (N := 4) (ty0 := kT_P) rfl kI_P kY_P (by rw [hM]; exact kx_by 426 (by decide +kernel) (by decide +kernel)) (kx_by 131 (by decide +kernel) (by decide +kernel)) (kx_by 80 (by decide +kernel) (by decide +kernel)) (by decide) hd kk
/-- P_init -/
theorem cQ_11 {b : Nat} {sk as : List Value} {G : kx_G} {l : Launch} {M : kx_M} {d mc ms : Nat} {Q Qc : Outcome → kx_H → Prop} {kc ks pc : Nat} {lv : kx_L} {st : List Value} {h : kx_H} (hM : M.1.cls = "VersionedTables$Parser") (hd : decode M.2.1 pc = .ok (.invokespecial 11, 3)) (hn : as.length = 0) (hsk : sk = as.reverse ++ .ref b :: st) (hst : (st.map fun v => v.category).sum ≤ 8) (hC : kx_c G l mP_init d mc ms (.ref b :: as) h Qc) (hk : ∀ o h', Qc o h' → kx_k G l M (d + 1) Q kc ks pc lv st o h') : kx_w G l M (d + 1) Q (kc + mc) (ks + ms) pc lv sk h := kx_ini (N := mP_init) (host := "VersionedTables") (by rw [hn]; exact kP_init) (by rw [hM]; exact Or.inl (kx_by 427 (by decide +kernel) (by decide +kernel))) (kx_by 133 (by decide +kernel) (by decide +kernel)) rfl ⟨rfl, rfl⟩ hd hsk hst hC hk
/-- Q.program -/
theorem pQ_12 {a : Nat} {fs : List Value} {v : Value} {G : kx_G} {l : Launch} {M : kx_M} {d : Nat} {Q : Outcome → kx_H → Prop} {kc ks pc : Nat} {lv : kx_L} {st : List Value} {h : kx_H} (hM : M.1.cls = "VersionedTables$Parser") (hd : decode M.2.1 pc = .ok (.getfield 12, 3)) (hc : kx_is G h a (.inr (6, fs))) (hv : fs[2]? = some v) (kk : kx_w G l M d Q kc ks (pc + 3) lv (v :: st) h) : kx_w G l M d Q kc ks pc lv (.ref a :: st) h := kx_getf (C := kR_Q) (T := kF_Q) (N := 5) (k := 2) rfl kI_Q (by decide) (by rw [hM]; exact kx_by 430 (by decide +kernel) (by decide +kernel)) hd hc hv kk
/-- Q.program is written -/
theorem qQ_12 {a : Nat} {fs : List Value} {v : Value} {G : kx_G} {l : Launch} {M : kx_M} {d : Nat} {Q : Outcome → kx_H → Prop} {kc ks pc : Nat} {lv : kx_L} {st : List Value} {h : kx_H} (hM : M.1.cls = "VersionedTables$Parser") (hI : M.1.name = "<init>") (hd : decode M.2.1 pc = .ok (.putfield 12, 3)) (hc : kx_is G h a (.inr (6, fs))) (hn : narrow (.object "VersionedTables$Program") v = v) (hf : fits (.object "VersionedTables$Program") v = true) (hlen : 2 < fs.length) (kk : kx_w G l M d Q kc ks (pc + 3) lv st (kx_set h a (.inr (6, fs.set 2 v)))) : kx_w G l M d Q kc ks pc lv (v :: .ref a :: st) h := kx_puti (C := kR_Q) (T := kF_Q) (N := 5) (k := 2) (ty0 := kT_Q) (ty := (.object "VersionedTables$Program")) rfl kI_Q kY_Q kN_Q (by decide) (by rw [hM]; exact kx_by 430 (by decide +kernel) (by decide +kernel)) rfl (by rw [hI]) (by rw [hM]; rfl) (by decide +kernel) hd hc hn hf hlen kk
/-- Q.at -/
theorem pQ_18 {a : Nat} {fs : List Value} {v : Value} {G : kx_G} {l : Launch} {M : kx_M} {d : Nat} {Q : Outcome → kx_H → Prop} {kc ks pc : Nat} {lv : kx_L} {st : List Value} {h : kx_H} (hM : M.1.cls = "VersionedTables$Parser") (hd : decode M.2.1 pc = .ok (.getfield 18, 3)) (hc : kx_is G h a (.inr (6, fs))) (hv : fs[3]? = some v) (kk : kx_w G l M d Q kc ks (pc + 3) lv (v :: st) h) : kx_w G l M d Q kc ks pc lv (.ref a :: st) h := kx_getf (C := kR_Q) (T := kF_Q) (N := 5) (k := 3) rfl kI_Q (by decide) (by rw [hM]; exact kx_by 432 (by decide +kernel) (by decide +kernel)) hd hc hv kk
/-- Q.at is written -/
theorem qQ_18 {a : Nat} {fs : List Value} {v : Value} {G : kx_G} {l : Launch} {M : kx_M} {d : Nat} {Q : Outcome → kx_H → Prop} {kc ks pc : Nat} {lv : kx_L} {st : List Value} {h : kx_H} (hM : M.1.cls = "VersionedTables$Parser") (hd : decode M.2.1 pc = .ok (.putfield 18, 3)) (hc : kx_is G h a (.inr (6, fs))) (hn : narrow .int v = v) (hf : fits .int v = true) (hlen : 3 < fs.length) (kk : kx_w G l M d Q kc ks (pc + 3) lv st (kx_set h a (.inr (6, fs.set 3 v)))) : kx_w G l M d Q kc ks pc lv (v :: .ref a :: st) h := kx_putf (C := kR_Q) (T := kF_Q) (N := 5) (k := 3) (ty0 := kT_Q) (ty := .int) rfl kI_Q kY_Q kN_Q (by decide) (by rw [hM]; exact kx_by 432 (by decide +kernel) (by decide +kernel)) rfl (by decide +kernel) hd hc hn hf hlen kk
/-- Q.column is written -/
theorem qQ_22 {a : Nat} {fs : List Value} {v : Value} {G : kx_G} {l : Launch} {M : kx_M} {d : Nat} {Q : Outcome → kx_H → Prop} {kc ks pc : Nat} {lv : kx_L} {st : List Value} {h : kx_H} (hM : M.1.cls = "VersionedTables$Parser") (hd : decode M.2.1 pc = .ok (.putfield 22, 3)) (hc : kx_is G h a (.inr (6, fs))) (hn : narrow .int v = v) (hf : fits .int v = true) (hlen : 4 < fs.length) (kk : kx_w G l M d Q kc ks (pc + 3) lv st (kx_set h a (.inr (6, fs.set 4 v)))) : kx_w G l M d Q kc ks pc lv (v :: .ref a :: st) h := kx_putf (C := kR_Q) (T := kF_Q) (N := 5) (k := 4) (ty0 := kT_Q) (ty := .int) rfl kI_Q kY_Q kN_Q (by decide) (by rw [hM]; exact kx_by 434 (by decide +kernel) (by decide +kernel)) rfl (by decide +kernel) hd hc hn hf hlen kk
/-- Q.text -/
theorem pQ_25 {a : Nat} {fs : List Value} {v : Value} {G : kx_G} {l : Launch} {M : kx_M} {d : Nat} {Q : Outcome → kx_H → Prop} {kc ks pc : Nat} {lv : kx_L} {st : List Value} {h : kx_H} (hM : M.1.cls = "VersionedTables$Parser") (hd : decode M.2.1 pc = .ok (.getfield 25, 3)) (hc : kx_is G h a (.inr (6, fs))) (hv : fs[0]? = some v) (kk : kx_w G l M d Q kc ks (pc + 3) lv (v :: st) h) : kx_w G l M d Q kc ks pc lv (.ref a :: st) h := kx_getf (C := kR_Q) (T := kF_Q) (N := 5) (k := 0) rfl kI_Q (by decide) (by rw [hM]; exact kx_by 428 (by decide +kernel) (by decide +kernel)) hd hc hv kk
/-- Q.text is written -/
theorem qQ_25 {a : Nat} {fs : List Value} {v : Value} {G : kx_G} {l : Launch} {M : kx_M} {d : Nat} {Q : Outcome → kx_H → Prop} {kc ks pc : Nat} {lv : kx_L} {st : List Value} {h : kx_H} (hM : M.1.cls = "VersionedTables$Parser") (hI : M.1.name = "<init>") (hd : decode M.2.1 pc = .ok (.putfield 25, 3)) (hc : kx_is G h a (.inr (6, fs))) (hn : narrow (.array .int) v = v) (hf : fits (.array .int) v = true) (hlen : 0 < fs.length) (kk : kx_w G l M d Q kc ks (pc + 3) lv st (kx_set h a (.inr (6, fs.set 0 v)))) : kx_w G l M d Q kc ks pc lv (v :: .ref a :: st) h := kx_puti (C := kR_Q) (T := kF_Q) (N := 5) (k := 0) (ty0 := kT_Q) (ty := (.array .int)) rfl kI_Q kY_Q kN_Q (by decide) (by rw [hM]; exact kx_by 428 (by decide +kernel) (by decide +kernel)) rfl (by rw [hI]) (by rw [hM]; rfl) (by decide +kernel) hd hc hn hf hlen kk
/-- Q.length -/
theorem pQ_29 {a : Nat} {fs : List Value} {v : Value} {G : kx_G} {l : Launch} {M : kx_M} {d : Nat} {Q : Outcome → kx_H → Prop} {kc ks pc : Nat} {lv : kx_L} {st : List Value} {h : kx_H} (hM : M.1.cls = "VersionedTables$Parser") (hd : decode M.2.1 pc = .ok (.getfield 29, 3)) (hc : kx_is G h a (.inr (6, fs))) (hv : fs[1]? = some v) (kk : kx_w G l M d Q kc ks (pc + 3) lv (v :: st) h) : kx_w G l M d Q kc ks pc lv (.ref a :: st) h := kx_getf (C := kR_Q) (T := kF_Q) (N := 5) (k := 1) rfl kI_Q (by decide) (by rw [hM]; exact kx_by 429 (by decide +kernel) (by decide +kernel)) hd hc hv kk
/-- Q.length is written -/
theorem qQ_29 {a : Nat} {fs : List Value} {v : Value} {G : kx_G} {l : Launch} {M : kx_M} {d : Nat} {Q : Outcome → kx_H → Prop} {kc ks pc : Nat} {lv : kx_L} {st : List Value} {h : kx_H} (hM : M.1.cls = "VersionedTables$Parser") (hI : M.1.name = "<init>") (hd : decode M.2.1 pc = .ok (.putfield 29, 3)) (hc : kx_is G h a (.inr (6, fs))) (hn : narrow .int v = v) (hf : fits .int v = true) (hlen : 1 < fs.length) (kk : kx_w G l M d Q kc ks (pc + 3) lv st (kx_set h a (.inr (6, fs.set 1 v)))) : kx_w G l M d Q kc ks pc lv (v :: .ref a :: st) h := kx_puti (C := kR_Q) (T := kF_Q) (N := 5) (k := 1) (ty0 := kT_Q) (ty := .int) rfl kI_Q kY_Q kN_Q (by decide) (by rw [hM]; exact kx_by 429 (by decide +kernel) (by decide +kernel)) rfl (by rw [hI]) (by rw [hM]; rfl) (by decide +kernel) hd hc hn hf hlen kk
/-- Q_readAll -/
theorem cQ_32 {b : Nat} {fs sk as : List Value} {G : kx_G} {l : Launch} {M : kx_M} {d mc ms : Nat} {Q Qc : Outcome → kx_H → Prop} {kc ks pc : Nat} {lv : kx_L} {st : List Value} {h : kx_H} (hM : M.1.cls = "VersionedTables$Parser") (hd : decode M.2.1 pc = .ok (.invokevirtual 32, 3)) (hb : kx_is G h b (.inr (6, fs))) (hn : as.length = 1) (hsk : sk = as.reverse ++ .ref b :: st) (hst : (st.map fun v => v.category).sum ≤ 8) (hC : kx_c G l mQ_readAll d mc ms (.ref b :: as) h Qc) (hk : ∀ o h', Qc o h' → kx_k G l M (d + 1) Q kc ks pc lv st o h') : kx_w G l M (d + 1) Q (kc + mc) (ks + ms) pc lv sk h := kx_inv (N := mQ_readAll) (host := "VersionedTables") (by rw [hn]; exact kQ_readAll) (by rw [hM]; exact Or.inr (kx_by 451 (by decide +kernel) (by decide +kernel))) (kx_by 453 (by decide +kernel) (by decide +kernel)) (kx_by 14 (by decide +kernel) (by decide +kernel)) (ci := 6) rfl hd hsk hst hb hC hk
/-- Q_next -/
theorem cQ_36 {b : Nat} {fs sk as : List Value} {G : kx_G} {l : Launch} {M : kx_M} {d mc ms : Nat} {Q Qc : Outcome → kx_H → Prop} {kc ks pc : Nat} {lv : kx_L} {st : List Value} {h : kx_H} (hM : M.1.cls = "VersionedTables$Parser") (hd : decode M.2.1 pc = .ok (.invokevirtual 36, 3)) (hb : kx_is G h b (.inr (6, fs))) (hn : as.length = 0) (hsk : sk = as.reverse ++ .ref b :: st) (hst : (st.map fun v => v.category).sum ≤ 8) (hC : kx_c G l mQ_next d mc ms (.ref b :: as) h Qc) (hk : ∀ o h', Qc o h' → kx_k G l M (d + 1) Q kc ks pc lv st o h') : kx_w G l M (d + 1) Q (kc + mc) (ks + ms) pc lv sk h := kx_inv (N := mQ_next) (host := "VersionedTables") (by rw [hn]; exact kQ_next) (by rw [hM]; exact Or.inr (kx_by 459 (by decide +kernel) (by decide +kernel))) (kx_by 461 (by decide +kernel) (by decide +kernel)) (kx_by 16 (by decide +kernel) (by decide +kernel)) (ci := 6) rfl hd hsk hst hb hC hk
/-- P_isColumn -/
theorem cQ_40 {sk as : List Value} {G : kx_G} {l : Launch} {M : kx_M} {d mc ms : Nat} {Q Qc : Outcome → kx_H → Prop} {kc ks pc : Nat} {lv : kx_L} {st : List Value} {h : kx_H} (hM : M.1.cls = "VersionedTables$Parser") (hd : decode M.2.1 pc = .ok (.invokestatic 40, 3)) (hn : as.length = 1) (hsk : sk = as.reverse ++ st) (hst : (st.map fun v => v.category).sum ≤ 8) (hC : kx_c G l mP_isColumn d mc ms as h Qc) (hk : ∀ o h', Qc o h' → kx_k G l M (d + 1) Q kc ks pc lv st o h') : kx_w G l M (d + 1) Q (kc + mc) (ks + ms) pc lv sk h := kx_sti (N := mP_isColumn) (host := "VersionedTables") (by rw [hn]; exact kP_isColumn) (by rw [hM]; exact Or.inl (kx_by 475 (by decide +kernel) (by decide +kernel))) (kx_by 476 (by decide +kernel) (by decide +kernel)) hd hsk hst hC hk
/-- Q_skip -/
theorem cQ_43 {b : Nat} {fs sk as : List Value} {G : kx_G} {l : Launch} {M : kx_M} {d mc ms : Nat} {Q Qc : Outcome → kx_H → Prop} {kc ks pc : Nat} {lv : kx_L} {st : List Value} {h : kx_H} (hM : M.1.cls = "VersionedTables$Parser") (hd : decode M.2.1 pc = .ok (.invokevirtual 43, 3)) (hb : kx_is G h b (.inr (6, fs))) (hn : as.length = 1) (hsk : sk = as.reverse ++ .ref b :: st) (hst : (st.map fun v => v.category).sum ≤ 8) (hC : kx_c G l mQ_skip d mc ms (.ref b :: as) h Qc) (hk : ∀ o h', Qc o h' → kx_k G l M (d + 1) Q kc ks pc lv st o h') : kx_w G l M (d + 1) Q (kc + mc) (ks + ms) pc lv sk h := kx_inv (N := mQ_skip) (host := "VersionedTables") (by rw [hn]; exact kQ_skip) (by rw [hM]; exact Or.inr (kx_by 491 (by decide +kernel) (by decide +kernel))) (kx_by 493 (by decide +kernel) (by decide +kernel)) (kx_by 21 (by decide +kernel) (by decide +kernel)) (ci := 6) rfl hd hsk hst hb hC hk
/-- Q_readTerm -/
theorem cQ_46 {b : Nat} {fs sk as : List Value} {G : kx_G} {l : Launch} {M : kx_M} {d mc ms : Nat} {Q Qc : Outcome → kx_H → Prop} {kc ks pc : Nat} {lv : kx_L} {st : List Value} {h : kx_H} (hM : M.1.cls = "VersionedTables$Parser") (hd : decode M.2.1 pc = .ok (.invokevirtual 46, 3)) (hb : kx_is G h b (.inr (6, fs))) (hn : as.length = 0) (hsk : sk = as.reverse ++ .ref b :: st) (hst : (st.map fun v => v.category).sum ≤ 8) (hC : kx_c G l mQ_readTerm d mc ms (.ref b :: as) h Qc) (hk : ∀ o h', Qc o h' → kx_k G l M (d + 1) Q kc ks pc lv st o h') : kx_w G l M (d + 1) Q (kc + mc) (ks + ms) pc lv sk h := kx_inv (N := mQ_readTerm) (host := "VersionedTables") (by rw [hn]; exact kQ_readTerm) (by rw [hM]; exact Or.inr (kx_by 467 (by decide +kernel) (by decide +kernel))) (kx_by 469 (by decide +kernel) (by decide +kernel)) (kx_by 18 (by decide +kernel) (by decide +kernel)) (ci := 6) rfl hd hsk hst hb hC hk
/-- Q_readPart -/
theorem cQ_50 {b : Nat} {fs sk as : List Value} {G : kx_G} {l : Launch} {M : kx_M} {d mc ms : Nat} {Q Qc : Outcome → kx_H → Prop} {kc ks pc : Nat} {lv : kx_L} {st : List Value} {h : kx_H} (hM : M.1.cls = "VersionedTables$Parser") (hd : decode M.2.1 pc = .ok (.invokevirtual 50, 3)) (hb : kx_is G h b (.inr (6, fs))) (hn : as.length = 1) (hsk : sk = as.reverse ++ .ref b :: st) (hst : (st.map fun v => v.category).sum ≤ 8) (hC : kx_c G l mQ_readPart d mc ms (.ref b :: as) h Qc) (hk : ∀ o h', Qc o h' → kx_k G l M (d + 1) Q kc ks pc lv st o h') : kx_w G l M (d + 1) Q (kc + mc) (ks + ms) pc lv sk h := kx_inv (N := mQ_readPart) (host := "VersionedTables") (by rw [hn]; exact kQ_readPart) (by rw [hM]; exact Or.inr (kx_by 455 (by decide +kernel) (by decide +kernel))) (kx_by 457 (by decide +kernel) (by decide +kernel)) (kx_by 15 (by decide +kernel) (by decide +kernel)) (ci := 6) rfl hd hsk hst hb hC hk
/-- Q_isJoin -/
theorem cQ_53 {sk as : List Value} {G : kx_G} {l : Launch} {M : kx_M} {d mc ms : Nat} {Q Qc : Outcome → kx_H → Prop} {kc ks pc : Nat} {lv : kx_L} {st : List Value} {h : kx_H} (hM : M.1.cls = "VersionedTables$Parser") (hd : decode M.2.1 pc = .ok (.invokestatic 53, 3)) (hn : as.length = 1) (hsk : sk = as.reverse ++ st) (hst : (st.map fun v => v.category).sum ≤ 8) (hC : kx_c G l mQ_isJoin d mc ms as h Qc) (hk : ∀ o h', Qc o h' → kx_k G l M (d + 1) Q kc ks pc lv st o h') : kx_w G l M (d + 1) Q (kc + mc) (ks + ms) pc lv sk h := kx_sti (N := mQ_isJoin) (host := "VersionedTables") (by rw [hn]; exact kQ_isJoin) (by rw [hM]; exact Or.inr (kx_by 495 (by decide +kernel) (by decide +kernel))) (kx_by 496 (by decide +kernel) (by decide +kernel)) hd hsk hst hC hk
/-- P_add -/
theorem cQ_56 {b : Nat} {fs sk as : List Value} {G : kx_G} {l : Launch} {M : kx_M} {d mc ms : Nat} {Q Qc : Outcome → kx_H → Prop} {kc ks pc : Nat} {lv : kx_L} {st : List Value} {h : kx_H} (hM : M.1.cls = "VersionedTables$Parser") (hd : decode M.2.1 pc = .ok (.invokevirtual 56, 3)) (hb : kx_is G h b (.inr (2, fs))) (hn : as.length = 1) (hsk : sk = as.reverse ++ .ref b :: st) (hst : (st.map fun v => v.category).sum ≤ 8) (hC : kx_c G l mP_add d mc ms (.ref b :: as) h Qc) (hk : ∀ o h', Qc o h' → kx_k G l M (d + 1) Q kc ks pc lv st o h') : kx_w G l M (d + 1) Q (kc + mc) (ks + ms) pc lv sk h := kx_inv (N := mP_add) (host := "VersionedTables") (by rw [hn]; exact kP_add) (by rw [hM]; exact Or.inl (kx_by 478 (by decide +kernel) (by decide +kernel))) (kx_by 480 (by decide +kernel) (by decide +kernel)) (kx_by 20 (by decide +kernel) (by decide +kernel)) (ci := 2) rfl hd hsk hst hb hC hk
/-- Q_readComparison -/
theorem cQ_60 {b : Nat} {fs sk as : List Value} {G : kx_G} {l : Launch} {M : kx_M} {d mc ms : Nat} {Q Qc : Outcome → kx_H → Prop} {kc ks pc : Nat} {lv : kx_L} {st : List Value} {h : kx_H} (hM : M.1.cls = "VersionedTables$Parser") (hd : decode M.2.1 pc = .ok (.invokevirtual 60, 3)) (hb : kx_is G h b (.inr (6, fs))) (hn : as.length = 0) (hsk : sk = as.reverse ++ .ref b :: st) (hst : (st.map fun v => v.category).sum ≤ 8) (hC : kx_c G l mQ_readComparison d mc ms (.ref b :: as) h Qc) (hk : ∀ o h', Qc o h' → kx_k G l M (d + 1) Q kc ks pc lv st o h') : kx_w G l M (d + 1) Q (kc + mc) (ks + ms) pc lv sk h := kx_inv (N := mQ_readComparison) (host := "VersionedTables") (by rw [hn]; exact kQ_readComparison) (by rw [hM]; exact Or.inr (kx_by 463 (by decide +kernel) (by decide +kernel))) (kx_by 465 (by decide +kernel) (by decide +kernel)) (kx_by 17 (by decide +kernel) (by decide +kernel)) (ci := 6) rfl hd hsk hst hb hC hk
/-- Q_isComparison -/
theorem cQ_63 {sk as : List Value} {G : kx_G} {l : Launch} {M : kx_M} {d mc ms : Nat} {Q Qc : Outcome → kx_H → Prop} {kc ks pc : Nat} {lv : kx_L} {st : List Value} {h : kx_H} (hM : M.1.cls = "VersionedTables$Parser") (hd : decode M.2.1 pc = .ok (.invokestatic 63, 3)) (hn : as.length = 1) (hsk : sk = as.reverse ++ st) (hst : (st.map fun v => v.category).sum ≤ 8) (hC : kx_c G l mQ_isComparison d mc ms as h Qc) (hk : ∀ o h', Qc o h' → kx_k G l M (d + 1) Q kc ks pc lv st o h') : kx_w G l M (d + 1) Q (kc + mc) (ks + ms) pc lv sk h := kx_sti (N := mQ_isComparison) (host := "VersionedTables") (by rw [hn]; exact kQ_isComparison) (by rw [hM]; exact Or.inr (kx_by 488 (by decide +kernel) (by decide +kernel))) (kx_by 489 (by decide +kernel) (by decide +kernel)) hd hsk hst hC hk
/-- Q_readItem -/
theorem cQ_66 {b : Nat} {fs sk as : List Value} {G : kx_G} {l : Launch} {M : kx_M} {d mc ms : Nat} {Q Qc : Outcome → kx_H → Prop} {kc ks pc : Nat} {lv : kx_L} {st : List Value} {h : kx_H} (hM : M.1.cls = "VersionedTables$Parser") (hd : decode M.2.1 pc = .ok (.invokevirtual 66, 3)) (hb : kx_is G h b (.inr (6, fs))) (hn : as.length = 0) (hsk : sk = as.reverse ++ .ref b :: st) (hst : (st.map fun v => v.category).sum ≤ 8) (hC : kx_c G l mQ_readItem d mc ms (.ref b :: as) h Qc) (hk : ∀ o h', Qc o h' → kx_k G l M (d + 1) Q kc ks pc lv st o h') : kx_w G l M (d + 1) Q (kc + mc) (ks + ms) pc lv sk h := kx_inv (N := mQ_readItem) (host := "VersionedTables") (by rw [hn]; exact kQ_readItem) (by rw [hM]; exact Or.inr (kx_by 471 (by decide +kernel) (by decide +kernel))) (kx_by 473 (by decide +kernel) (by decide +kernel)) (kx_by 19 (by decide +kernel) (by decide +kernel)) (ci := 6) rfl hd hsk hst hb hC hk
/-- Q_isCalculation -/
theorem cQ_69 {sk as : List Value} {G : kx_G} {l : Launch} {M : kx_M} {d mc ms : Nat} {Q Qc : Outcome → kx_H → Prop} {kc ks pc : Nat} {lv : kx_L} {st : List Value} {h : kx_H} (hM : M.1.cls = "VersionedTables$Parser") (hd : decode M.2.1 pc = .ok (.invokestatic 69, 3)) (hn : as.length = 1) (hsk : sk = as.reverse ++ st) (hst : (st.map fun v => v.category).sum ≤ 8) (hC : kx_c G l mQ_isCalculation d mc ms as h Qc) (hk : ∀ o h', Qc o h' → kx_k G l M (d + 1) Q kc ks pc lv st o h') : kx_w G l M (d + 1) Q (kc + mc) (ks + ms) pc lv sk h := kx_sti (N := mQ_isCalculation) (host := "VersionedTables") (by rw [hn]; exact kQ_isCalculation) (by rw [hM]; exact Or.inr (kx_by 485 (by decide +kernel) (by decide +kernel))) (kx_by 486 (by decide +kernel) (by decide +kernel)) hd hsk hst hC hk
/-- Q_isDigit -/
theorem cQ_72 {sk as : List Value} {G : kx_G} {l : Launch} {M : kx_M} {d mc ms : Nat} {Q Qc : Outcome → kx_H → Prop} {kc ks pc : Nat} {lv : kx_L} {st : List Value} {h : kx_H} (hM : M.1.cls = "VersionedTables$Parser") (hd : decode M.2.1 pc = .ok (.invokestatic 72, 3)) (hn : as.length = 1) (hsk : sk = as.reverse ++ st) (hst : (st.map fun v => v.category).sum ≤ 8) (hC : kx_c G l mQ_isDigit d mc ms as h Qc) (hk : ∀ o h', Qc o h' → kx_k G l M (d + 1) Q kc ks pc lv st o h') : kx_w G l M (d + 1) Q (kc + mc) (ks + ms) pc lv sk h := kx_sti (N := mQ_isDigit) (host := "VersionedTables") (by rw [hn]; exact kQ_isDigit) (by rw [hM]; exact Or.inr (kx_by 482 (by decide +kernel) (by decide +kernel))) (kx_by 483 (by decide +kernel) (by decide +kernel)) hd hsk hst hC hk
theorem cP_3 {a : Nat} {G : kx_G} {l : Launch} {M : kx_M} {d : Nat} {Q : Outcome → kx_H → Prop} {kc ks pc : Nat} {lv : kx_L} {st : List Value} {h : kx_H} (hM : M.1.cls = "VersionedTables$Program") (hd : decode M.2.1 pc = .ok (.invokespecial 3, 3)) (hst : (st.map fun v => v.category).sum ≤ 8) (kk : kx_w G l M d Q kc ks (pc + 3) lv st h) : kx_w G l M d Q kc ks pc lv (.ref a :: st) h := kx_obj (by rw [hM]; exact kx_by 135 (by decide +kernel) (by decide +kernel)) (kx_by 106 (by decide +kernel) (by decide +kernel)) (kx_by 107 (by decide +kernel) (by decide +kernel)) hst hd kk
/-- P.steps -/
theorem pP_9 {a : Nat} {fs : List Value} {v : Value} {G : kx_G} {l : Launch} {M : kx_M} {d : Nat} {Q : Outcome → kx_H → Prop} {kc ks pc : Nat} {lv : kx_L} {st : List Value} {h : kx_H} (hM : M.1.cls = "VersionedTables$Program") (hd : decode M.2.1 pc = .ok (.getfield 9, 3)) (hc : kx_is G h a (.inr (2, fs))) (hv : fs[0]? = some v) (kk : kx_w G l M d Q kc ks (pc + 3) lv (v :: st) h) : kx_w G l M d Q kc ks pc lv (.ref a :: st) h := kx_getf (C := kR_P) (T := kF_P) (N := 4) (k := 0) rfl kI_P (by decide) (by rw [hM]; exact kx_by 136 (by decide +kernel) (by decide +kernel)) hd hc hv kk
/-- P.steps is written -/
theorem qP_9 {a : Nat} {fs : List Value} {v : Value} {G : kx_G} {l : Launch} {M : kx_M} {d : Nat} {Q : Outcome → kx_H → Prop} {kc ks pc : Nat} {lv : kx_L} {st : List Value} {h : kx_H} (hM : M.1.cls = "VersionedTables$Program") (hI : M.1.name = "<init>") (hd : decode M.2.1 pc = .ok (.putfield 9, 3)) (hc : kx_is G h a (.inr (2, fs))) (hn : narrow (.array .int) v = v) (hf : fits (.array .int) v = true) (hlen : 0 < fs.length) (kk : kx_w G l M d Q kc ks (pc + 3) lv st (kx_set h a (.inr (2, fs.set 0 v)))) : kx_w G l M d Q kc ks pc lv (v :: .ref a :: st) h := kx_puti (C := kR_P) (T := kF_P) (N := 4) (k := 0) (ty0 := kT_P) (ty := (.array .int)) rfl kI_P kY_P kN_P (by decide) (by rw [hM]; exact kx_by 136 (by decide +kernel) (by decide +kernel)) rfl (by rw [hI]) (by rw [hM]; rfl) (by decide +kernel) hd hc hn hf hlen kk
/-- P.stack -/
theorem pP_15 {a : Nat} {fs : List Value} {v : Value} {G : kx_G} {l : Launch} {M : kx_M} {d : Nat} {Q : Outcome → kx_H → Prop} {kc ks pc : Nat} {lv : kx_L} {st : List Value} {h : kx_H} (hM : M.1.cls = "VersionedTables$Program") (hd : decode M.2.1 pc = .ok (.getfield 15, 3)) (hc : kx_is G h a (.inr (2, fs))) (hv : fs[1]? = some v) (kk : kx_w G l M d Q kc ks (pc + 3) lv (v :: st) h) : kx_w G l M d Q kc ks pc lv (.ref a :: st) h := kx_getf (C := kR_P) (T := kF_P) (N := 4) (k := 1) rfl kI_P (by decide) (by rw [hM]; exact kx_by 137 (by decide +kernel) (by decide +kernel)) hd hc hv kk
/-- P.stack is written -/
theorem qP_15 {a : Nat} {fs : List Value} {v : Value} {G : kx_G} {l : Launch} {M : kx_M} {d : Nat} {Q : Outcome → kx_H → Prop} {kc ks pc : Nat} {lv : kx_L} {st : List Value} {h : kx_H} (hM : M.1.cls = "VersionedTables$Program") (hI : M.1.name = "<init>") (hd : decode M.2.1 pc = .ok (.putfield 15, 3)) (hc : kx_is G h a (.inr (2, fs))) (hn : narrow (.array .int) v = v) (hf : fits (.array .int) v = true) (hlen : 1 < fs.length) (kk : kx_w G l M d Q kc ks (pc + 3) lv st (kx_set h a (.inr (2, fs.set 1 v)))) : kx_w G l M d Q kc ks pc lv (v :: .ref a :: st) h := kx_puti (C := kR_P) (T := kF_P) (N := 4) (k := 1) (ty0 := kT_P) (ty := (.array .int)) rfl kI_P kY_P kN_P (by decide) (by rw [hM]; exact kx_by 137 (by decide +kernel) (by decide +kernel)) rfl (by rw [hI]) (by rw [hM]; rfl) (by decide +kernel) hd hc hn hf hlen kk
/-- P.size -/
theorem pP_18 {a : Nat} {fs : List Value} {v : Value} {G : kx_G} {l : Launch} {M : kx_M} {d : Nat} {Q : Outcome → kx_H → Prop} {kc ks pc : Nat} {lv : kx_L} {st : List Value} {h : kx_H} (hM : M.1.cls = "VersionedTables$Program") (hd : decode M.2.1 pc = .ok (.getfield 18, 3)) (hc : kx_is G h a (.inr (2, fs))) (hv : fs[2]? = some v) (kk : kx_w G l M d Q kc ks (pc + 3) lv (v :: st) h) : kx_w G l M d Q kc ks pc lv (.ref a :: st) h := kx_getf (C := kR_P) (T := kF_P) (N := 4) (k := 2) rfl kI_P (by decide) (by rw [hM]; exact kx_by 138 (by decide +kernel) (by decide +kernel)) hd hc hv kk
/-- P.size is written -/
theorem qP_18 {a : Nat} {fs : List Value} {v : Value} {G : kx_G} {l : Launch} {M : kx_M} {d : Nat} {Q : Outcome → kx_H → Prop} {kc ks pc : Nat} {lv : kx_L} {st : List Value} {h : kx_H} (hM : M.1.cls = "VersionedTables$Program") (hd : decode M.2.1 pc = .ok (.putfield 18, 3)) (hc : kx_is G h a (.inr (2, fs))) (hn : narrow .int v = v) (hf : fits .int v = true) (hlen : 2 < fs.length) (kk : kx_w G l M d Q kc ks (pc + 3) lv st (kx_set h a (.inr (2, fs.set 2 v)))) : kx_w G l M d Q kc ks pc lv (v :: .ref a :: st) h := kx_putf (C := kR_P) (T := kF_P) (N := 4) (k := 2) (ty0 := kT_P) (ty := .int) rfl kI_P kY_P kN_P (by decide) (by rw [hM]; exact kx_by 138 (by decide +kernel) (by decide +kernel)) rfl (by decide +kernel) hd hc hn hf hlen kk
/-- P.height -/
theorem pP_22 {a : Nat} {fs : List Value} {v : Value} {G : kx_G} {l : Launch} {M : kx_M} {d : Nat} {Q : Outcome → kx_H → Prop} {kc ks pc : Nat} {lv : kx_L} {st : List Value} {h : kx_H} (hM : M.1.cls = "VersionedTables$Program") (hd : decode M.2.1 pc = .ok (.getfield 22, 3)) (hc : kx_is G h a (.inr (2, fs))) (hv : fs[3]? = some v) (kk : kx_w G l M d Q kc ks (pc + 3) lv (v :: st) h) : kx_w G l M d Q kc ks pc lv (.ref a :: st) h := kx_getf (C := kR_P) (T := kF_P) (N := 4) (k := 3) rfl kI_P (by decide) (by rw [hM]; exact kx_by 139 (by decide +kernel) (by decide +kernel)) hd hc hv kk
/-- P.height is written -/
theorem qP_22 {a : Nat} {fs : List Value} {v : Value} {G : kx_G} {l : Launch} {M : kx_M} {d : Nat} {Q : Outcome → kx_H → Prop} {kc ks pc : Nat} {lv : kx_L} {st : List Value} {h : kx_H} (hM : M.1.cls = "VersionedTables$Program") (hd : decode M.2.1 pc = .ok (.putfield 22, 3)) (hc : kx_is G h a (.inr (2, fs))) (hn : narrow .int v = v) (hf : fits .int v = true) (hlen : 3 < fs.length) (kk : kx_w G l M d Q kc ks (pc + 3) lv st (kx_set h a (.inr (2, fs.set 3 v)))) : kx_w G l M d Q kc ks pc lv (v :: .ref a :: st) h := kx_putf (C := kR_P) (T := kF_P) (N := 4) (k := 3) (ty0 := kT_P) (ty := .int) rfl kI_P kY_P kN_P (by decide) (by rw [hM]; exact kx_by 139 (by decide +kernel) (by decide +kernel)) rfl (by decide +kernel) hd hc hn hf hlen kk
/-- P_work -/
theorem cP_25 {b : Nat} {fs sk as : List Value} {G : kx_G} {l : Launch} {M : kx_M} {d mc ms : Nat} {Q Qc : Outcome → kx_H → Prop} {kc ks pc : Nat} {lv : kx_L} {st : List Value} {h : kx_H} (hM : M.1.cls = "VersionedTables$Program") (hd : decode M.2.1 pc = .ok (.invokevirtual 25, 3)) (hb : kx_is G h b (.inr (2, fs))) (hn : as.length = 1) (hsk : sk = as.reverse ++ .ref b :: st) (hst : (st.map fun v => v.category).sum ≤ 8) (hC : kx_c G l mP_work d mc ms (.ref b :: as) h Qc) (hk : ∀ o h', Qc o h' → kx_k G l M (d + 1) Q kc ks pc lv st o h') : kx_w G l M (d + 1) Q (kc + mc) (ks + ms) pc lv sk h := kx_inv (N := mP_work) (host := "VersionedTables") (by rw [hn]; exact kP_work) (by rw [hM]; exact Or.inr (kx_by 669 (by decide +kernel) (by decide +kernel))) (kx_by 671 (by decide +kernel) (by decide +kernel)) (kx_by 37 (by decide +kernel) (by decide +kernel)) (ci := 2) rfl hd hsk hst hb hC hk
/-- P_workStep -/
theorem cP_29 {b : Nat} {fs sk as : List Value} {G : kx_G} {l : Launch} {M : kx_M} {d mc ms : Nat} {Q Qc : Outcome → kx_H → Prop} {kc ks pc : Nat} {lv : kx_L} {st : List Value} {h : kx_H} (hM : M.1.cls = "VersionedTables$Program") (hd : decode M.2.1 pc = .ok (.invokevirtual 29, 3)) (hb : kx_is G h b (.inr (2, fs))) (hn : as.length = 2) (hsk : sk = as.reverse ++ .ref b :: st) (hst : (st.map fun v => v.category).sum ≤ 8) (hC : kx_c G l mP_workStep d mc ms (.ref b :: as) h Qc) (hk : ∀ o h', Qc o h' → kx_k G l M (d + 1) Q kc ks pc lv st o h') : kx_w G l M (d + 1) Q (kc + mc) (ks + ms) pc lv sk h := kx_inv (N := mP_workStep) (host := "VersionedTables") (by rw [hn]; exact kP_workStep) (by rw [hM]; exact Or.inr (kx_by 673 (by decide +kernel) (by decide +kernel))) (kx_by 675 (by decide +kernel) (by decide +kernel)) (kx_by 38 (by decide +kernel) (by decide +kernel)) (ci := 2) rfl hd hsk hst hb hC hk
/-- P_push -/
theorem cP_33 {b : Nat} {fs sk as : List Value} {G : kx_G} {l : Launch} {M : kx_M} {d mc ms : Nat} {Q Qc : Outcome → kx_H → Prop} {kc ks pc : Nat} {lv : kx_L} {st : List Value} {h : kx_H} (hM : M.1.cls = "VersionedTables$Program") (hd : decode M.2.1 pc = .ok (.invokevirtual 33, 3)) (hb : kx_is G h b (.inr (2, fs))) (hn : as.length = 1) (hsk : sk = as.reverse ++ .ref b :: st) (hst : (st.map fun v => v.category).sum ≤ 8) (hC : kx_c G l mP_push d mc ms (.ref b :: as) h Qc) (hk : ∀ o h', Qc o h' → kx_k G l M (d + 1) Q kc ks pc lv st o h') : kx_w G l M (d + 1) Q (kc + mc) (ks + ms) pc lv sk h := kx_inv (N := mP_push) (host := "VersionedTables") (by rw [hn]; exact kP_push) (by rw [hM]; exact Or.inr (kx_by 707 (by decide +kernel) (by decide +kernel))) (kx_by 709 (by decide +kernel) (by decide +kernel)) (kx_by 40 (by decide +kernel) (by decide +kernel)) (ci := 2) rfl hd hsk hst hb hC hk
/-- P_pop -/
theorem cP_37 {b : Nat} {fs sk as : List Value} {G : kx_G} {l : Launch} {M : kx_M} {d mc ms : Nat} {Q Qc : Outcome → kx_H → Prop} {kc ks pc : Nat} {lv : kx_L} {st : List Value} {h : kx_H} (hM : M.1.cls = "VersionedTables$Program") (hd : decode M.2.1 pc = .ok (.invokevirtual 37, 3)) (hb : kx_is G h b (.inr (2, fs))) (hn : as.length = 0) (hsk : sk = as.reverse ++ .ref b :: st) (hst : (st.map fun v => v.category).sum ≤ 8) (hC : kx_c G l mP_pop d mc ms (.ref b :: as) h Qc) (hk : ∀ o h', Qc o h' → kx_k G l M (d + 1) Q kc ks pc lv st o h') : kx_w G l M (d + 1) Q (kc + mc) (ks + ms) pc lv sk h := kx_inv (N := mP_pop) (host := "VersionedTables") (by rw [hn]; exact kP_pop) (by rw [hM]; exact Or.inr (kx_by 678 (by decide +kernel) (by decide +kernel))) (kx_by 680 (by decide +kernel) (by decide +kernel)) (kx_by 39 (by decide +kernel) (by decide +kernel)) (ci := 2) rfl hd hsk hst hb hC hk
/-- P_isColumn -/
theorem cP_41 {sk as : List Value} {G : kx_G} {l : Launch} {M : kx_M} {d mc ms : Nat} {Q Qc : Outcome → kx_H → Prop} {kc ks pc : Nat} {lv : kx_L} {st : List Value} {h : kx_H} (hM : M.1.cls = "VersionedTables$Program") (hd : decode M.2.1 pc = .ok (.invokestatic 41, 3)) (hn : as.length = 1) (hsk : sk = as.reverse ++ st) (hst : (st.map fun v => v.category).sum ≤ 8) (hC : kx_c G l mP_isColumn d mc ms as h Qc) (hk : ∀ o h', Qc o h' → kx_k G l M (d + 1) Q kc ks pc lv st o h') : kx_w G l M (d + 1) Q (kc + mc) (ks + ms) pc lv sk h := kx_sti (N := mP_isColumn) (host := "VersionedTables") (by rw [hn]; exact kP_isColumn) (by rw [hM]; exact Or.inr (kx_by 677 (by decide +kernel) (by decide +kernel))) (kx_by 476 (by decide +kernel) (by decide +kernel)) hd hsk hst hC hk
/-- P_truth -/
theorem cP_45 {sk as : List Value} {G : kx_G} {l : Launch} {M : kx_M} {d mc ms : Nat} {Q Qc : Outcome → kx_H → Prop} {kc ks pc : Nat} {lv : kx_L} {st : List Value} {h : kx_H} (hM : M.1.cls = "VersionedTables$Program") (hd : decode M.2.1 pc = .ok (.invokestatic 45, 3)) (hn : as.length = 1) (hsk : sk = as.reverse ++ st) (hst : (st.map fun v => v.category).sum ≤ 8) (hC : kx_c G l mP_truth d mc ms as h Qc) (hk : ∀ o h', Qc o h' → kx_k G l M (d + 1) Q kc ks pc lv st o h') : kx_w G l M (d + 1) Q (kc + mc) (ks + ms) pc lv sk h := kx_sti (N := mP_truth) (host := "VersionedTables") (by rw [hn]; exact kP_truth) (by rw [hM]; exact Or.inr (kx_by 682 (by decide +kernel) (by decide +kernel))) (kx_by 683 (by decide +kernel) (by decide +kernel)) hd hsk hst hC hk
/-- P_combine -/
theorem cP_49 {sk as : List Value} {G : kx_G} {l : Launch} {M : kx_M} {d mc ms : Nat} {Q Qc : Outcome → kx_H → Prop} {kc ks pc : Nat} {lv : kx_L} {st : List Value} {h : kx_H} (hM : M.1.cls = "VersionedTables$Program") (hd : decode M.2.1 pc = .ok (.invokestatic 49, 3)) (hn : as.length = 3) (hsk : sk = as.reverse ++ st) (hst : (st.map fun v => v.category).sum ≤ 8) (hC : kx_c G l mP_combine d mc ms as h Qc) (hk : ∀ o h', Qc o h' → kx_k G l M (d + 1) Q kc ks pc lv st o h') : kx_w G l M (d + 1) Q (kc + mc) (ks + ms) pc lv sk h := kx_sti (N := mP_combine) (host := "VersionedTables") (by rw [hn]; exact kP_combine) (by rw [hM]; exact Or.inr (kx_by 685 (by decide +kernel) (by decide +kernel))) (kx_by 686 (by decide +kernel) (by decide +kernel)) hd hsk hst hC hk
/-- P_divide -/
theorem cP_53 {sk as : List Value} {G : kx_G} {l : Launch} {M : kx_M} {d mc ms : Nat} {Q Qc : Outcome → kx_H → Prop} {kc ks pc : Nat} {lv : kx_L} {st : List Value} {h : kx_H} (hM : M.1.cls = "VersionedTables$Program") (hd : decode M.2.1 pc = .ok (.invokestatic 53, 3)) (hn : as.length = 2) (hsk : sk = as.reverse ++ st) (hst : (st.map fun v => v.category).sum ≤ 8) (hC : kx_c G l mP_divide d mc ms as h Qc) (hk : ∀ o h', Qc o h' → kx_k G l M (d + 1) Q kc ks pc lv st o h') : kx_w G l M (d + 1) Q (kc + mc) (ks + ms) pc lv sk h := kx_sti (N := mP_divide) (host := "VersionedTables") (by rw [hn]; exact kP_divide) (by rw [hM]; exact Or.inr (kx_by 688 (by decide +kernel) (by decide +kernel))) (kx_by 689 (by decide +kernel) (by decide +kernel)) hd hsk hst hC hk
theorem cR_3 {a : Nat} {G : kx_G} {l : Launch} {M : kx_M} {d : Nat} {Q : Outcome → kx_H → Prop} {kc ks pc : Nat} {lv : kx_L} {st : List Value} {h : kx_H} (hM : M.1.cls = "VersionedTables$Row") (hd : decode M.2.1 pc = .ok (.invokespecial 3, 3)) (hst : (st.map fun v => v.category).sum ≤ 8) (kk : kx_w G l M d Q kc ks (pc + 3) lv st h) : kx_w G l M d Q kc ks pc lv (.ref a :: st) h := kx_obj (by rw [hM]; exact kx_by 380 (by decide +kernel) (by decide +kernel)) (kx_by 106 (by decide +kernel) (by decide +kernel)) (kx_by 107 (by decide +kernel) (by decide +kernel)) hst hd kk
theorem aR_9 {n : Int32} {N : Nat} {G : kx_G} {l : Launch} {M : kx_M} {d : Nat} {Q : Outcome → kx_H → Prop} {kc ks pc : Nat} {lv : kx_L} {st : List Value} {h : kx_H} (hM : M.1.cls = "VersionedTables$Row") (hd : decode M.2.1 pc = .ok (.anewarray 9, 3)) (hn : ¬ n < 0) (hN : n.toNatClampNeg = N) (hby : N * 4 ≤ 536870912) (kk : kx_w G l M d Q kc ks (pc + 3) lv (.ref h.1 :: st) (kx_new h (.inl (5, N, .inr (.inr (.inr (.inr (fun _ => none)))))))) : kx_w G l M d Q (kc + 1) (ks + N) pc lv (.int n :: st) h := kx_newq (C := "VersionedTables$Version") rfl (by rw [hM]; exact kx_by 381 (by decide +kernel) (by decide +kernel)) (kx_by 382 (by decide +kernel) (by decide +kernel)) hn hN hby hd kk
theorem nR_9 {G : kx_G} {l : Launch} {M : kx_M} {d : Nat} {Q : Outcome → kx_H → Prop} {kc ks pc : Nat} {lv : kx_L} {st : List Value} {h : kx_H} (hM : M.1.cls = "VersionedTables$Row") (hd : decode M.2.1 pc = .ok (.new 9, 3)) (kk : kx_w G l M d Q kc ks (pc + 3) lv (.ref h.1 :: st) (kx_new h (.inr (7, [.int 0, .null, .int 0, .int 0])))) : kx_w G l M d Q (kc + 1) (ks + 4) pc lv st h := kx_newo (C := kR_N) (T := kF_N) (N := 4) (ty0 := kT_N) rfl kI_N kY_N (by rw [hM]; exact kx_by 381 (by decide +kernel) (by decide +kernel)) (kx_by 618 (by decide +kernel) (by decide +kernel)) (kx_by 95 (by decide +kernel) (by decide +kernel)) (by decide) hd kk
/-- R.byWriter -/
theorem pR_11 {a : Nat} {fs : List Value} {v : Value} {G : kx_G} {l : Launch} {M : kx_M} {d : Nat} {Q : Outcome → kx_H → Prop} {kc ks pc : Nat} {lv : kx_L} {st : List Value} {h : kx_H} (hM : M.1.cls = "VersionedTables$Row") (hd : decode M.2.1 pc = .ok (.getfield 11, 3)) (hc : kx_is G h a (.inr (5, fs))) (hv : fs[0]? = some v) (kk : kx_w G l M d Q kc ks (pc + 3) lv (v :: st) h) : kx_w G l M d Q kc ks pc lv (.ref a :: st) h := kx_getf (C := kR_R) (T := kF_R) (N := 1) (k := 0) rfl kI_R (by decide) (by rw [hM]; exact kx_by 383 (by decide +kernel) (by decide +kernel)) hd hc hv kk
/-- R.byWriter is written -/
theorem qR_11 {a : Nat} {fs : List Value} {v : Value} {G : kx_G} {l : Launch} {M : kx_M} {d : Nat} {Q : Outcome → kx_H → Prop} {kc ks pc : Nat} {lv : kx_L} {st : List Value} {h : kx_H} (hM : M.1.cls = "VersionedTables$Row") (hI : M.1.name = "<init>") (hd : decode M.2.1 pc = .ok (.putfield 11, 3)) (hc : kx_is G h a (.inr (5, fs))) (hn : narrow (.array (.object "VersionedTables$Version")) v = v) (hf : fits (.array (.object "VersionedTables$Version")) v = true) (hlen : 0 < fs.length) (kk : kx_w G l M d Q kc ks (pc + 3) lv st (kx_set h a (.inr (5, fs.set 0 v)))) : kx_w G l M d Q kc ks pc lv (v :: .ref a :: st) h := kx_puti (C := kR_R) (T := kF_R) (N := 1) (k := 0) (ty0 := kT_R) (ty := (.array (.object "VersionedTables$Version"))) rfl kI_R kY_R kN_R (by decide) (by rw [hM]; exact kx_by 383 (by decide +kernel) (by decide +kernel)) rfl (by rw [hI]) (by rw [hM]; rfl) (by decide +kernel) hd hc hn hf hlen kk
/-- N_init -/
theorem cR_17 {b : Nat} {sk as : List Value} {G : kx_G} {l : Launch} {M : kx_M} {d mc ms : Nat} {Q Qc : Outcome → kx_H → Prop} {kc ks pc : Nat} {lv : kx_L} {st : List Value} {h : kx_H} (hM : M.1.cls = "VersionedTables$Row") (hd : decode M.2.1 pc = .ok (.invokespecial 17, 3)) (hn : as.length = 1) (hsk : sk = as.reverse ++ .ref b :: st) (hst : (st.map fun v => v.category).sum ≤ 8) (hC : kx_c G l mN_init d mc ms (.ref b :: as) h Qc) (hk : ∀ o h', Qc o h' → kx_k G l M (d + 1) Q kc ks pc lv st o h') : kx_w G l M (d + 1) Q (kc + mc) (ks + ms) pc lv sk h := kx_ini (N := mN_init) (host := "VersionedTables") (by rw [hn]; exact kN_init) (by rw [hM]; exact Or.inl (kx_by 619 (by decide +kernel) (by decide +kernel))) (kx_by 620 (by decide +kernel) (by decide +kernel)) rfl ⟨rfl, rfl⟩ hd hsk hst hC hk
/-- N_put -/
theorem cR_20 {b : Nat} {fs sk as : List Value} {G : kx_G} {l : Launch} {M : kx_M} {d mc ms : Nat} {Q Qc : Outcome → kx_H → Prop} {kc ks pc : Nat} {lv : kx_L} {st : List Value} {h : kx_H} (hM : M.1.cls = "VersionedTables$Row") (hd : decode M.2.1 pc = .ok (.invokevirtual 20, 3)) (hb : kx_is G h b (.inr (7, fs))) (hn : as.length = 2) (hsk : sk = as.reverse ++ .ref b :: st) (hst : (st.map fun v => v.category).sum ≤ 8) (hC : kx_c G l mN_put d mc ms (.ref b :: as) h Qc) (hk : ∀ o h', Qc o h' → kx_k G l M (d + 1) Q kc ks pc lv st o h') : kx_w G l M (d + 1) Q (kc + mc) (ks + ms) pc lv sk h := kx_inv (N := mN_put) (host := "VersionedTables") (by rw [hn]; exact kN_put) (by rw [hM]; exact Or.inl (kx_by 641 (by decide +kernel) (by decide +kernel))) (kx_by 643 (by decide +kernel) (by decide +kernel)) (kx_by 33 (by decide +kernel) (by decide +kernel)) (ci := 7) rfl hd hsk hst hb hC hk
/-- R_has -/
theorem cR_24 {b : Nat} {fs sk as : List Value} {G : kx_G} {l : Launch} {M : kx_M} {d mc ms : Nat} {Q Qc : Outcome → kx_H → Prop} {kc ks pc : Nat} {lv : kx_L} {st : List Value} {h : kx_H} (hM : M.1.cls = "VersionedTables$Row") (hd : decode M.2.1 pc = .ok (.invokevirtual 24, 3)) (hb : kx_is G h b (.inr (5, fs))) (hn : as.length = 1) (hsk : sk = as.reverse ++ .ref b :: st) (hst : (st.map fun v => v.category).sum ≤ 8) (hC : kx_c G l mR_has d mc ms (.ref b :: as) h Qc) (hk : ∀ o h', Qc o h' → kx_k G l M (d + 1) Q kc ks pc lv st o h') : kx_w G l M (d + 1) Q (kc + mc) (ks + ms) pc lv sk h := kx_inv (N := mR_has) (host := "VersionedTables") (by rw [hn]; exact kR_has) (by rw [hM]; exact Or.inr (kx_by 248 (by decide +kernel) (by decide +kernel))) (kx_by 235 (by decide +kernel) (by decide +kernel)) (kx_by 4 (by decide +kernel) (by decide +kernel)) (ci := 5) rfl hd hsk hst hb hC hk
theorem cS_3 {a : Nat} {G : kx_G} {l : Launch} {M : kx_M} {d : Nat} {Q : Outcome → kx_H → Prop} {kc ks pc : Nat} {lv : kx_L} {st : List Value} {h : kx_H} (hM : M.1.cls = "VersionedTables$RowSet") (hd : decode M.2.1 pc = .ok (.invokespecial 3, 3)) (hst : (st.map fun v => v.category).sum ≤ 8) (kk : kx_w G l M d Q kc ks (pc + 3) lv st h) : kx_w G l M d Q kc ks pc lv (.ref a :: st) h := kx_obj (by rw [hM]; exact kx_by 156 (by decide +kernel) (by decide +kernel)) (kx_by 106 (by decide +kernel) (by decide +kernel)) (kx_by 107 (by decide +kernel) (by decide +kernel)) hst hd kk
/-- S.numbers -/
theorem pS_9 {a : Nat} {fs : List Value} {v : Value} {G : kx_G} {l : Launch} {M : kx_M} {d : Nat} {Q : Outcome → kx_H → Prop} {kc ks pc : Nat} {lv : kx_L} {st : List Value} {h : kx_H} (hM : M.1.cls = "VersionedTables$RowSet") (hd : decode M.2.1 pc = .ok (.getfield 9, 3)) (hc : kx_is G h a (.inr (3, fs))) (hv : fs[0]? = some v) (kk : kx_w G l M d Q kc ks (pc + 3) lv (v :: st) h) : kx_w G l M d Q kc ks pc lv (.ref a :: st) h := kx_getf (C := kR_S) (T := kF_S) (N := 3) (k := 0) rfl kI_S (by decide) (by rw [hM]; exact kx_by 159 (by decide +kernel) (by decide +kernel)) hd hc hv kk
/-- S.numbers is written -/
theorem qS_9 {a : Nat} {fs : List Value} {v : Value} {G : kx_G} {l : Launch} {M : kx_M} {d : Nat} {Q : Outcome → kx_H → Prop} {kc ks pc : Nat} {lv : kx_L} {st : List Value} {h : kx_H} (hM : M.1.cls = "VersionedTables$RowSet") (hI : M.1.name = "<init>") (hd : decode M.2.1 pc = .ok (.putfield 9, 3)) (hc : kx_is G h a (.inr (3, fs))) (hn : narrow (.array .int) v = v) (hf : fits (.array .int) v = true) (hlen : 0 < fs.length) (kk : kx_w G l M d Q kc ks (pc + 3) lv st (kx_set h a (.inr (3, fs.set 0 v)))) : kx_w G l M d Q kc ks pc lv (v :: .ref a :: st) h := kx_puti (C := kR_S) (T := kF_S) (N := 3) (k := 0) (ty0 := kT_S) (ty := (.array .int)) rfl kI_S kY_S kN_S (by decide) (by rw [hM]; exact kx_by 159 (by decide +kernel) (by decide +kernel)) rfl (by rw [hI]) (by rw [hM]; rfl) (by decide +kernel) hd hc hn hf hlen kk
theorem uS_15 {n k : Int32} {N K : Nat} {G : kx_G} {l : Launch} {M : kx_M} {d : Nat} {Q : Outcome → kx_H → Prop} {kc ks pc : Nat} {lv : kx_L} {st : List Value} {h : kx_H} (hM : M.1.cls = "VersionedTables$RowSet") (hd : decode M.2.1 pc = .ok (.multianewarray 15 2, 4)) (hn : ¬ n < 0) (hk : ¬ k < 0) (hN : n.toNatClampNeg = N) (hK : k.toNatClampNeg = K) (hNb : N ≤ 100000) (hKb : K ≤ 100000) (kk : kx_w G l M d Q kc ks (pc + 4) lv (.ref h.1 :: st) (kx_mh h 6 0 N K)) : kx_w G l M d Q (kc + (1 + N)) (ks + (N + N * K)) pc lv (.int k :: .int n :: st) h := kx_mul rfl rfl (by rw [hM]; exact kx_by 157 (by decide +kernel) (by decide +kernel)) (kx_by 158 (by decide +kernel) (by decide +kernel)) hn hk hN hK hNb hKb hd kk
/-- S.values -/
theorem pS_17 {a : Nat} {fs : List Value} {v : Value} {G : kx_G} {l : Launch} {M : kx_M} {d : Nat} {Q : Outcome → kx_H → Prop} {kc ks pc : Nat} {lv : kx_L} {st : List Value} {h : kx_H} (hM : M.1.cls = "VersionedTables$RowSet") (hd : decode M.2.1 pc = .ok (.getfield 17, 3)) (hc : kx_is G h a (.inr (3, fs))) (hv : fs[1]? = some v) (kk : kx_w G l M d Q kc ks (pc + 3) lv (v :: st) h) : kx_w G l M d Q kc ks pc lv (.ref a :: st) h := kx_getf (C := kR_S) (T := kF_S) (N := 3) (k := 1) rfl kI_S (by decide) (by rw [hM]; exact kx_by 161 (by decide +kernel) (by decide +kernel)) hd hc hv kk
/-- S.values is written -/
theorem qS_17 {a : Nat} {fs : List Value} {v : Value} {G : kx_G} {l : Launch} {M : kx_M} {d : Nat} {Q : Outcome → kx_H → Prop} {kc ks pc : Nat} {lv : kx_L} {st : List Value} {h : kx_H} (hM : M.1.cls = "VersionedTables$RowSet") (hI : M.1.name = "<init>") (hd : decode M.2.1 pc = .ok (.putfield 17, 3)) (hc : kx_is G h a (.inr (3, fs))) (hn : narrow (.array (.array .int)) v = v) (hf : fits (.array (.array .int)) v = true) (hlen : 1 < fs.length) (kk : kx_w G l M d Q kc ks (pc + 3) lv st (kx_set h a (.inr (3, fs.set 1 v)))) : kx_w G l M d Q kc ks pc lv (v :: .ref a :: st) h := kx_puti (C := kR_S) (T := kF_S) (N := 3) (k := 1) (ty0 := kT_S) (ty := (.array (.array .int))) rfl kI_S kY_S kN_S (by decide) (by rw [hM]; exact kx_by 161 (by decide +kernel) (by decide +kernel)) rfl (by rw [hI]) (by rw [hM]; rfl) (by decide +kernel) hd hc hn hf hlen kk
/-- S.size -/
theorem pS_20 {a : Nat} {fs : List Value} {v : Value} {G : kx_G} {l : Launch} {M : kx_M} {d : Nat} {Q : Outcome → kx_H → Prop} {kc ks pc : Nat} {lv : kx_L} {st : List Value} {h : kx_H} (hM : M.1.cls = "VersionedTables$RowSet") (hd : decode M.2.1 pc = .ok (.getfield 20, 3)) (hc : kx_is G h a (.inr (3, fs))) (hv : fs[2]? = some v) (kk : kx_w G l M d Q kc ks (pc + 3) lv (v :: st) h) : kx_w G l M d Q kc ks pc lv (.ref a :: st) h := kx_getf (C := kR_S) (T := kF_S) (N := 3) (k := 2) rfl kI_S (by decide) (by rw [hM]; exact kx_by 163 (by decide +kernel) (by decide +kernel)) hd hc hv kk
/-- S.size is written -/
theorem qS_20 {a : Nat} {fs : List Value} {v : Value} {G : kx_G} {l : Launch} {M : kx_M} {d : Nat} {Q : Outcome → kx_H → Prop} {kc ks pc : Nat} {lv : kx_L} {st : List Value} {h : kx_H} (hM : M.1.cls = "VersionedTables$RowSet") (hd : decode M.2.1 pc = .ok (.putfield 20, 3)) (hc : kx_is G h a (.inr (3, fs))) (hn : narrow .int v = v) (hf : fits .int v = true) (hlen : 2 < fs.length) (kk : kx_w G l M d Q kc ks (pc + 3) lv st (kx_set h a (.inr (3, fs.set 2 v)))) : kx_w G l M d Q kc ks pc lv (v :: .ref a :: st) h := kx_putf (C := kR_S) (T := kF_S) (N := 3) (k := 2) (ty0 := kT_S) (ty := .int) rfl kI_S kY_S kN_S (by decide) (by rw [hM]; exact kx_by 163 (by decide +kernel) (by decide +kernel)) rfl (by decide +kernel) hd hc hn hf hlen kk
theorem cS_24 {a0 a n0 n1 : Nat} {f g : Nat → Int32} {sp dp n : Int32} {G : kx_G} {l : Launch} {M : kx_M} {d : Nat} {Q : Outcome → kx_H → Prop} {kc ks pc : Nat} {lv : kx_L} {st : List Value} {h : kx_H} (hM : M.1.cls = "VersionedTables$RowSet") (hd : decode M.2.1 pc = .ok (.invokestatic 24, 3)) (hst : (st.map fun v => v.category).sum ≤ 8) (hc0 : kx_is G h a0 (.inl (0, n0, .inl f))) (hc1 : kx_is G h a (.inl (0, n1, .inl g))) (h1 : ¬ sp < 0) (h2 : ¬ dp < 0) (h3 : ¬ n < 0) (h4 : sp.toNatClampNeg + n.toNatClampNeg ≤ n0) (h5 : dp.toNatClampNeg + n.toNatClampNeg ≤ n1) (kk : kx_w G l M d Q kc ks (pc + 3) lv st (kx_set h a (.inl (0, n1, .inl (va_cpy f g sp.toNatClampNeg dp.toNatClampNeg n.toNatClampNeg))))) : kx_w G l M d Q kc ks pc lv (.int n :: .int dp :: .ref a :: .int sp :: .ref a0 :: st) h := kx_cpy (by rw [hM]; exact kx_by 715 (by decide +kernel) (by decide +kernel)) (kx_by 647 (by decide +kernel) (by decide +kernel)) (kx_by 646 (by decide +kernel) (by decide +kernel)) (kx_by 96 (by decide +kernel) (by decide +kernel)) rfl hd hst hc0 hc1 h1 h2 h3 h4 h5 kk
theorem cB_3 {a : Nat} {G : kx_G} {l : Launch} {M : kx_M} {d : Nat} {Q : Outcome → kx_H → Prop} {kc ks pc : Nat} {lv : kx_L} {st : List Value} {h : kx_H} (hM : M.1.cls = "VersionedTables$Table") (hd : decode M.2.1 pc = .ok (.invokespecial 3, 3)) (hst : (st.map fun v => v.category).sum ≤ 8) (kk : kx_w G l M d Q kc ks (pc + 3) lv st h) : kx_w G l M d Q kc ks pc lv (.ref a :: st) h := kx_obj (by rw [hM]; exact kx_by 374 (by decide +kernel) (by decide +kernel)) (kx_by 106 (by decide +kernel) (by decide +kernel)) (kx_by 107 (by decide +kernel) (by decide +kernel)) hst hd kk
theorem aB_9 {n : Int32} {N : Nat} {G : kx_G} {l : Launch} {M : kx_M} {d : Nat} {Q : Outcome → kx_H → Prop} {kc ks pc : Nat} {lv : kx_L} {st : List Value} {h : kx_H} (hM : M.1.cls = "VersionedTables$Table") (hd : decode M.2.1 pc = .ok (.anewarray 9, 3)) (hn : ¬ n < 0) (hN : n.toNatClampNeg = N) (hby : N * 4 ≤ 536870912) (kk : kx_w G l M d Q kc ks (pc + 3) lv (.ref h.1 :: st) (kx_new h (.inl (4, N, .inr (.inr (.inr (.inr (fun _ => none)))))))) : kx_w G l M d Q (kc + 1) (ks + N) pc lv (.int n :: st) h := kx_newq (C := "VersionedTables$Row") rfl (by rw [hM]; exact kx_by 375 (by decide +kernel) (by decide +kernel)) (kx_by 376 (by decide +kernel) (by decide +kernel)) hn hN hby hd kk
theorem nB_9 {G : kx_G} {l : Launch} {M : kx_M} {d : Nat} {Q : Outcome → kx_H → Prop} {kc ks pc : Nat} {lv : kx_L} {st : List Value} {h : kx_H} (hM : M.1.cls = "VersionedTables$Table") (hd : decode M.2.1 pc = .ok (.new 9, 3)) (kk : kx_w G l M d Q kc ks (pc + 3) lv (.ref h.1 :: st) (kx_new h (.inr (5, [.null])))) : kx_w G l M d Q (kc + 1) (ks + 1) pc lv st h := kx_newo (C := kR_R) (T := kF_R) (N := 1) (ty0 := kT_R) rfl kI_R kY_R (by rw [hM]; exact kx_by 375 (by decide +kernel) (by decide +kernel)) (kx_by 236 (by decide +kernel) (by decide +kernel)) (kx_by 89 (by decide +kernel) (by decide +kernel)) (by decide) hd kk
/-- B.rows -/
theorem pB_11 {a : Nat} {fs : List Value} {v : Value} {G : kx_G} {l : Launch} {M : kx_M} {d : Nat} {Q : Outcome → kx_H → Prop} {kc ks pc : Nat} {lv : kx_L} {st : List Value} {h : kx_H} (hM : M.1.cls = "VersionedTables$Table") (hd : decode M.2.1 pc = .ok (.getfield 11, 3)) (hc : kx_is G h a (.inr (4, fs))) (hv : fs[1]? = some v) (kk : kx_w G l M d Q kc ks (pc + 3) lv (v :: st) h) : kx_w G l M d Q kc ks pc lv (.ref a :: st) h := kx_getf (C := kR_B) (T := kF_B) (N := 4) (k := 1) rfl kI_B (by decide) (by rw [hM]; exact kx_by 389 (by decide +kernel) (by decide +kernel)) hd hc hv kk
/-- B.rows is written -/
theorem qB_11 {a : Nat} {fs : List Value} {v : Value} {G : kx_G} {l : Launch} {M : kx_M} {d : Nat} {Q : Outcome → kx_H → Prop} {kc ks pc : Nat} {lv : kx_L} {st : List Value} {h : kx_H} (hM : M.1.cls = "VersionedTables$Table") (hI : M.1.name = "<init>") (hd : decode M.2.1 pc = .ok (.putfield 11, 3)) (hc : kx_is G h a (.inr (4, fs))) (hn : narrow (.array (.object "VersionedTables$Row")) v = v) (hf : fits (.array (.object "VersionedTables$Row")) v = true) (hlen : 1 < fs.length) (kk : kx_w G l M d Q kc ks (pc + 3) lv st (kx_set h a (.inr (4, fs.set 1 v)))) : kx_w G l M d Q kc ks pc lv (v :: .ref a :: st) h := kx_puti (C := kR_B) (T := kF_B) (N := 4) (k := 1) (ty0 := kT_B) (ty := (.array (.object "VersionedTables$Row"))) rfl kI_B kY_B kN_B (by decide) (by rw [hM]; exact kx_by 389 (by decide +kernel) (by decide +kernel)) rfl (by rw [hI]) (by rw [hM]; rfl) (by decide +kernel) hd hc hn hf hlen kk
/-- B.made -/
theorem pB_17 {a : Nat} {fs : List Value} {v : Value} {G : kx_G} {l : Launch} {M : kx_M} {d : Nat} {Q : Outcome → kx_H → Prop} {kc ks pc : Nat} {lv : kx_L} {st : List Value} {h : kx_H} (hM : M.1.cls = "VersionedTables$Table") (hd : decode M.2.1 pc = .ok (.getfield 17, 3)) (hc : kx_is G h a (.inr (4, fs))) (hv : fs[2]? = some v) (kk : kx_w G l M d Q kc ks (pc + 3) lv (v :: st) h) : kx_w G l M d Q kc ks pc lv (.ref a :: st) h := kx_getf (C := kR_B) (T := kF_B) (N := 4) (k := 2) rfl kI_B (by decide) (by rw [hM]; exact kx_by 391 (by decide +kernel) (by decide +kernel)) hd hc hv kk
/-- B.made is written -/
theorem qB_17 {a : Nat} {fs : List Value} {v : Value} {G : kx_G} {l : Launch} {M : kx_M} {d : Nat} {Q : Outcome → kx_H → Prop} {kc ks pc : Nat} {lv : kx_L} {st : List Value} {h : kx_H} (hM : M.1.cls = "VersionedTables$Table") (hd : decode M.2.1 pc = .ok (.putfield 17, 3)) (hc : kx_is G h a (.inr (4, fs))) (hn : narrow .int v = v) (hf : fits .int v = true) (hlen : 2 < fs.length) (kk : kx_w G l M d Q kc ks (pc + 3) lv st (kx_set h a (.inr (4, fs.set 2 v)))) : kx_w G l M d Q kc ks pc lv (v :: .ref a :: st) h := kx_putf (C := kR_B) (T := kF_B) (N := 4) (k := 2) (ty0 := kT_B) (ty := .int) rfl kI_B kY_B kN_B (by decide) (by rw [hM]; exact kx_by 391 (by decide +kernel) (by decide +kernel)) rfl (by decide +kernel) hd hc hn hf hlen kk
/-- B.scanned -/
theorem pB_21 {a : Nat} {fs : List Value} {v : Value} {G : kx_G} {l : Launch} {M : kx_M} {d : Nat} {Q : Outcome → kx_H → Prop} {kc ks pc : Nat} {lv : kx_L} {st : List Value} {h : kx_H} (hM : M.1.cls = "VersionedTables$Table") (hd : decode M.2.1 pc = .ok (.getfield 21, 3)) (hc : kx_is G h a (.inr (4, fs))) (hv : fs[3]? = some v) (kk : kx_w G l M d Q kc ks (pc + 3) lv (v :: st) h) : kx_w G l M d Q kc ks pc lv (.ref a :: st) h := kx_getf (C := kR_B) (T := kF_B) (N := 4) (k := 3) rfl kI_B (by decide) (by rw [hM]; exact kx_by 393 (by decide +kernel) (by decide +kernel)) hd hc hv kk
/-- B.scanned is written -/
theorem qB_21 {a : Nat} {fs : List Value} {v : Value} {G : kx_G} {l : Launch} {M : kx_M} {d : Nat} {Q : Outcome → kx_H → Prop} {kc ks pc : Nat} {lv : kx_L} {st : List Value} {h : kx_H} (hM : M.1.cls = "VersionedTables$Table") (hd : decode M.2.1 pc = .ok (.putfield 21, 3)) (hc : kx_is G h a (.inr (4, fs))) (hn : narrow .int v = v) (hf : fits .int v = true) (hlen : 3 < fs.length) (kk : kx_w G l M d Q kc ks (pc + 3) lv st (kx_set h a (.inr (4, fs.set 3 v)))) : kx_w G l M d Q kc ks pc lv (v :: .ref a :: st) h := kx_putf (C := kR_B) (T := kF_B) (N := 4) (k := 3) (ty0 := kT_B) (ty := .int) rfl kI_B kY_B kN_B (by decide) (by rw [hM]; exact kx_by 393 (by decide +kernel) (by decide +kernel)) rfl (by decide +kernel) hd hc hn hf hlen kk
/-- B.columns -/
theorem pB_24 {a : Nat} {fs : List Value} {v : Value} {G : kx_G} {l : Launch} {M : kx_M} {d : Nat} {Q : Outcome → kx_H → Prop} {kc ks pc : Nat} {lv : kx_L} {st : List Value} {h : kx_H} (hM : M.1.cls = "VersionedTables$Table") (hd : decode M.2.1 pc = .ok (.getfield 24, 3)) (hc : kx_is G h a (.inr (4, fs))) (hv : fs[0]? = some v) (kk : kx_w G l M d Q kc ks (pc + 3) lv (v :: st) h) : kx_w G l M d Q kc ks pc lv (.ref a :: st) h := kx_getf (C := kR_B) (T := kF_B) (N := 4) (k := 0) rfl kI_B (by decide) (by rw [hM]; exact kx_by 387 (by decide +kernel) (by decide +kernel)) hd hc hv kk
/-- B.columns is written -/
theorem qB_24 {a : Nat} {fs : List Value} {v : Value} {G : kx_G} {l : Launch} {M : kx_M} {d : Nat} {Q : Outcome → kx_H → Prop} {kc ks pc : Nat} {lv : kx_L} {st : List Value} {h : kx_H} (hM : M.1.cls = "VersionedTables$Table") (hI : M.1.name = "<init>") (hd : decode M.2.1 pc = .ok (.putfield 24, 3)) (hc : kx_is G h a (.inr (4, fs))) (hn : narrow .int v = v) (hf : fits .int v = true) (hlen : 0 < fs.length) (kk : kx_w G l M d Q kc ks (pc + 3) lv st (kx_set h a (.inr (4, fs.set 0 v)))) : kx_w G l M d Q kc ks pc lv (v :: .ref a :: st) h := kx_puti (C := kR_B) (T := kF_B) (N := 4) (k := 0) (ty0 := kT_B) (ty := .int) rfl kI_B kY_B kN_B (by decide) (by rw [hM]; exact kx_by 387 (by decide +kernel) (by decide +kernel)) rfl (by rw [hI]) (by rw [hM]; rfl) (by decide +kernel) hd hc hn hf hlen kk
/-- R_init -/
theorem cB_27 {b : Nat} {sk as : List Value} {G : kx_G} {l : Launch} {M : kx_M} {d mc ms : Nat} {Q Qc : Outcome → kx_H → Prop} {kc ks pc : Nat} {lv : kx_L} {st : List Value} {h : kx_H} (hM : M.1.cls = "VersionedTables$Table") (hd : decode M.2.1 pc = .ok (.invokespecial 27, 3)) (hn : as.length = 0) (hsk : sk = as.reverse ++ .ref b :: st) (hst : (st.map fun v => v.category).sum ≤ 8) (hC : kx_c G l mR_init d mc ms (.ref b :: as) h Qc) (hk : ∀ o h', Qc o h' → kx_k G l M (d + 1) Q kc ks pc lv st o h') : kx_w G l M (d + 1) Q (kc + mc) (ks + ms) pc lv sk h := kx_ini (N := mR_init) (host := "VersionedTables") (by rw [hn]; exact kR_init) (by rw [hM]; exact Or.inl (kx_by 377 (by decide +kernel) (by decide +kernel))) (kx_by 378 (by decide +kernel) (by decide +kernel)) rfl ⟨rfl, rfl⟩ hd hsk hst hC hk
/-- R_write -/
theorem cB_28 {b : Nat} {fs sk as : List Value} {G : kx_G} {l : Launch} {M : kx_M} {d mc ms : Nat} {Q Qc : Outcome → kx_H → Prop} {kc ks pc : Nat} {lv : kx_L} {st : List Value} {h : kx_H} (hM : M.1.cls = "VersionedTables$Table") (hd : decode M.2.1 pc = .ok (.invokevirtual 28, 3)) (hb : kx_is G h b (.inr (5, fs))) (hn : as.length = 3) (hsk : sk = as.reverse ++ .ref b :: st) (hst : (st.map fun v => v.category).sum ≤ 8) (hC : kx_c G l mR_write d mc ms (.ref b :: as) h Qc) (hk : ∀ o h', Qc o h' → kx_k G l M (d + 1) Q kc ks pc lv st o h') : kx_w G l M (d + 1) Q (kc + mc) (ks + ms) pc lv sk h := kx_inv (N := mR_write) (host := "VersionedTables") (by rw [hn]; exact kR_write) (by rw [hM]; exact Or.inl (kx_by 614 (by decide +kernel) (by decide +kernel))) (kx_by 616 (by decide +kernel) (by decide +kernel)) (kx_by 32 (by decide +kernel) (by decide +kernel)) (ci := 5) rfl hd hsk hst hb hC hk
/-- R_drop -/
theorem cB_32 {b : Nat} {fs sk as : List Value} {G : kx_G} {l : Launch} {M : kx_M} {d mc ms : Nat} {Q Qc : Outcome → kx_H → Prop} {kc ks pc : Nat} {lv : kx_L} {st : List Value} {h : kx_H} (hM : M.1.cls = "VersionedTables$Table") (hd : decode M.2.1 pc = .ok (.invokevirtual 32, 3)) (hb : kx_is G h b (.inr (5, fs))) (hn : as.length = 1) (hsk : sk = as.reverse ++ .ref b :: st) (hst : (st.map fun v => v.category).sum ≤ 8) (hC : kx_c G l mR_drop d mc ms (.ref b :: as) h Qc) (hk : ∀ o h', Qc o h' → kx_k G l M (d + 1) Q kc ks pc lv st o h') : kx_w G l M (d + 1) Q (kc + mc) (ks + ms) pc lv sk h := kx_inv (N := mR_drop) (host := "VersionedTables") (by rw [hn]; exact kR_drop) (by rw [hM]; exact Or.inl (kx_by 575 (by decide +kernel) (by decide +kernel))) (kx_by 246 (by decide +kernel) (by decide +kernel)) (kx_by 6 (by decide +kernel) (by decide +kernel)) (ci := 5) rfl hd hsk hst hb hC hk
/-- R_size -/
theorem cB_36 {b : Nat} {fs sk as : List Value} {G : kx_G} {l : Launch} {M : kx_M} {d mc ms : Nat} {Q Qc : Outcome → kx_H → Prop} {kc ks pc : Nat} {lv : kx_L} {st : List Value} {h : kx_H} (hM : M.1.cls = "VersionedTables$Table") (hd : decode M.2.1 pc = .ok (.invokevirtual 36, 3)) (hb : kx_is G h b (.inr (5, fs))) (hn : as.length = 0) (hsk : sk = as.reverse ++ .ref b :: st) (hst : (st.map fun v => v.category).sum ≤ 8) (hC : kx_c G l mR_size d mc ms (.ref b :: as) h Qc) (hk : ∀ o h', Qc o h' → kx_k G l M (d + 1) Q kc ks pc lv st o h') : kx_w G l M (d + 1) Q (kc + mc) (ks + ms) pc lv sk h := kx_inv (N := mR_size) (host := "VersionedTables") (by rw [hn]; exact kR_size) (by rw [hM]; exact Or.inl (kx_by 267 (by decide +kernel) (by decide +kernel))) (kx_by 269 (by decide +kernel) (by decide +kernel)) (kx_by 10 (by decide +kernel) (by decide +kernel)) (ci := 5) rfl hd hsk hst hb hC hk
theorem cB_40 {x y : Int32} {G : kx_G} {l : Launch} {M : kx_M} {d : Nat} {Q : Outcome → kx_H → Prop} {kc ks pc : Nat} {lv : kx_L} {st : List Value} {h : kx_H} (hM : M.1.cls = "VersionedTables$Table") (hd : decode M.2.1 pc = .ok (.invokestatic 40, 3)) (hst : (st.map fun v => v.category).sum ≤ 8) (kk : kx_w G l M d Q kc ks (pc + 3) lv (.int (if x < y then y else x) :: st) h) : kx_w G l M d Q kc ks pc lv (.int y :: .int x :: st) h := kx_max (by rw [hM]; exact kx_by 720 (by decide +kernel) (by decide +kernel)) (kx_by 721 (by decide +kernel) (by decide +kernel)) (kx_by 98 (by decide +kernel) (by decide +kernel)) (kx_by 722 (by decide +kernel) (by decide +kernel)) hst hd kk
/-- R_holding -/
theorem cB_46 {b : Nat} {fs sk as : List Value} {G : kx_G} {l : Launch} {M : kx_M} {d mc ms : Nat} {Q Qc : Outcome → kx_H → Prop} {kc ks pc : Nat} {lv : kx_L} {st : List Value} {h : kx_H} (hM : M.1.cls = "VersionedTables$Table") (hd : decode M.2.1 pc = .ok (.invokevirtual 46, 3)) (hb : kx_is G h b (.inr (5, fs))) (hn : as.length = 1) (hsk : sk = as.reverse ++ .ref b :: st) (hst : (st.map fun v => v.category).sum ≤ 8) (hC : kx_c G l mR_holding d mc ms (.ref b :: as) h Qc) (hk : ∀ o h', Qc o h' → kx_k G l M (d + 1) Q kc ks pc lv st o h') : kx_w G l M (d + 1) Q (kc + mc) (ks + ms) pc lv sk h := kx_inv (N := mR_holding) (host := "VersionedTables") (by rw [hn]; exact kR_holding) (by rw [hM]; exact Or.inl (kx_by 723 (by decide +kernel) (by decide +kernel))) (kx_by 662 (by decide +kernel) (by decide +kernel)) (kx_by 35 (by decide +kernel) (by decide +kernel)) (ci := 5) rfl hd hsk hst hb hC hk
/-- N.read -/
theorem pB_50 {a : Nat} {fs : List Value} {v : Value} {G : kx_G} {l : Launch} {M : kx_M} {d : Nat} {Q : Outcome → kx_H → Prop} {kc ks pc : Nat} {lv : kx_L} {st : List Value} {h : kx_H} (hM : M.1.cls = "VersionedTables$Table") (hd : decode M.2.1 pc = .ok (.getfield 50, 3)) (hc : kx_is G h a (.inr (7, fs))) (hv : fs[2]? = some v) (kk : kx_w G l M d Q kc ks (pc + 3) lv (v :: st) h) : kx_w G l M d Q kc ks pc lv (.ref a :: st) h := kx_getn (C := kR_N) (T := kF_N) (N := 4) (k := 2) (host := "VersionedTables") rfl kI_N (by decide) (by rw [hM]; exact kx_by 628 (by decide +kernel) (by decide +kernel)) hd hc hv kk
/-- N.read is written -/
theorem qB_50 {a : Nat} {fs : List Value} {v : Value} {G : kx_G} {l : Launch} {M : kx_M} {d : Nat} {Q : Outcome → kx_H → Prop} {kc ks pc : Nat} {lv : kx_L} {st : List Value} {h : kx_H} (hM : M.1.cls = "VersionedTables$Table") (hd : decode M.2.1 pc = .ok (.putfield 50, 3)) (hc : kx_is G h a (.inr (7, fs))) (hn : narrow .int v = v) (hf : fits .int v = true) (hlen : 2 < fs.length) (kk : kx_w G l M d Q kc ks (pc + 3) lv st (kx_set h a (.inr (7, fs.set 2 v)))) : kx_w G l M d Q kc ks pc lv (v :: .ref a :: st) h := kx_putn (C := kR_N) (T := kF_N) (N := 4) (k := 2) (ty0 := kT_N) (ty := .int) (host := "VersionedTables") rfl kI_N kY_N kN_N (by decide) (by rw [hM]; exact kx_by 628 (by decide +kernel) (by decide +kernel)) rfl (by decide +kernel) hd hc hn hf hlen kk
theorem cT_3 {a : Nat} {G : kx_G} {l : Launch} {M : kx_M} {d : Nat} {Q : Outcome → kx_H → Prop} {kc ks pc : Nat} {lv : kx_L} {st : List Value} {h : kx_H} (hM : M.1.cls = "VersionedTables$Transactions") (hd : decode M.2.1 pc = .ok (.invokespecial 3, 3)) (hst : (st.map fun v => v.category).sum ≤ 8) (kk : kx_w G l M d Q kc ks (pc + 3) lv st h) : kx_w G l M d Q kc ks pc lv (.ref a :: st) h := kx_obj (by rw [hM]; exact kx_by 115 (by decide +kernel) (by decide +kernel)) (kx_by 106 (by decide +kernel) (by decide +kernel)) (kx_by 107 (by decide +kernel) (by decide +kernel)) hst hd kk
theorem aT_9 {n : Int32} {N : Nat} {G : kx_G} {l : Launch} {M : kx_M} {d : Nat} {Q : Outcome → kx_H → Prop} {kc ks pc : Nat} {lv : kx_L} {st : List Value} {h : kx_H} (hM : M.1.cls = "VersionedTables$Transactions") (hd : decode M.2.1 pc = .ok (.anewarray 9, 3)) (hn : ¬ n < 0) (hN : n.toNatClampNeg = N) (hby : N * 4 ≤ 536870912) (kk : kx_w G l M d Q kc ks (pc + 3) lv (.ref h.1 :: st) (kx_new h (.inl (2, N, .inr (.inr (.inr (.inr (fun _ => none)))))))) : kx_w G l M d Q (kc + 1) (ks + N) pc lv (.int n :: st) h := kx_newq (C := "VersionedTables$State") rfl (by rw [hM]; exact kx_by 116 (by decide +kernel) (by decide +kernel)) (kx_by 117 (by decide +kernel) (by decide +kernel)) hn hN hby hd kk
/-- T.states -/
theorem pT_11 {a : Nat} {fs : List Value} {v : Value} {G : kx_G} {l : Launch} {M : kx_M} {d : Nat} {Q : Outcome → kx_H → Prop} {kc ks pc : Nat} {lv : kx_L} {st : List Value} {h : kx_H} (hM : M.1.cls = "VersionedTables$Transactions") (hd : decode M.2.1 pc = .ok (.getfield 11, 3)) (hc : kx_is G h a (.inr (1, fs))) (hv : fs[0]? = some v) (kk : kx_w G l M d Q kc ks (pc + 3) lv (v :: st) h) : kx_w G l M d Q kc ks pc lv (.ref a :: st) h := kx_getf (C := kR_T) (T := kF_T) (N := 3) (k := 0) rfl kI_T (by decide) (by rw [hM]; exact kx_by 118 (by decide +kernel) (by decide +kernel)) hd hc hv kk
/-- T.states is written -/
theorem qT_11 {a : Nat} {fs : List Value} {v : Value} {G : kx_G} {l : Launch} {M : kx_M} {d : Nat} {Q : Outcome → kx_H → Prop} {kc ks pc : Nat} {lv : kx_L} {st : List Value} {h : kx_H} (hM : M.1.cls = "VersionedTables$Transactions") (hI : M.1.name = "<init>") (hd : decode M.2.1 pc = .ok (.putfield 11, 3)) (hc : kx_is G h a (.inr (1, fs))) (hn : narrow (.array (.object "VersionedTables$State")) v = v) (hf : fits (.array (.object "VersionedTables$State")) v = true) (hlen : 0 < fs.length) (kk : kx_w G l M d Q kc ks (pc + 3) lv st (kx_set h a (.inr (1, fs.set 0 v)))) : kx_w G l M d Q kc ks pc lv (v :: .ref a :: st) h := kx_puti (C := kR_T) (T := kF_T) (N := 3) (k := 0) (ty0 := kT_T) (ty := (.array (.object "VersionedTables$State"))) rfl kI_T kY_T kN_T (by decide) (by rw [hM]; exact kx_by 118 (by decide +kernel) (by decide +kernel)) rfl (by rw [hI]) (by rw [hM]; rfl) (by decide +kernel) hd hc hn hf hlen kk
/-- T.begun -/
theorem pT_17 {a : Nat} {fs : List Value} {v : Value} {G : kx_G} {l : Launch} {M : kx_M} {d : Nat} {Q : Outcome → kx_H → Prop} {kc ks pc : Nat} {lv : kx_L} {st : List Value} {h : kx_H} (hM : M.1.cls = "VersionedTables$Transactions") (hd : decode M.2.1 pc = .ok (.getfield 17, 3)) (hc : kx_is G h a (.inr (1, fs))) (hv : fs[1]? = some v) (kk : kx_w G l M d Q kc ks (pc + 3) lv (v :: st) h) : kx_w G l M d Q kc ks pc lv (.ref a :: st) h := kx_getf (C := kR_T) (T := kF_T) (N := 3) (k := 1) rfl kI_T (by decide) (by rw [hM]; exact kx_by 119 (by decide +kernel) (by decide +kernel)) hd hc hv kk
/-- T.begun is written -/
theorem qT_17 {a : Nat} {fs : List Value} {v : Value} {G : kx_G} {l : Launch} {M : kx_M} {d : Nat} {Q : Outcome → kx_H → Prop} {kc ks pc : Nat} {lv : kx_L} {st : List Value} {h : kx_H} (hM : M.1.cls = "VersionedTables$Transactions") (hd : decode M.2.1 pc = .ok (.putfield 17, 3)) (hc : kx_is G h a (.inr (1, fs))) (hn : narrow .int v = v) (hf : fits .int v = true) (hlen : 1 < fs.length) (kk : kx_w G l M d Q kc ks (pc + 3) lv st (kx_set h a (.inr (1, fs.set 1 v)))) : kx_w G l M d Q kc ks pc lv (v :: .ref a :: st) h := kx_putf (C := kR_T) (T := kF_T) (N := 3) (k := 1) (ty0 := kT_T) (ty := .int) rfl kI_T kY_T kN_T (by decide) (by rw [hM]; exact kx_by 119 (by decide +kernel) (by decide +kernel)) rfl (by decide +kernel) hd hc hn hf hlen kk
/-- T.brokenTooLate is written -/
theorem qT_21 {a : Nat} {fs : List Value} {v : Value} {G : kx_G} {l : Launch} {M : kx_M} {d : Nat} {Q : Outcome → kx_H → Prop} {kc ks pc : Nat} {lv : kx_L} {st : List Value} {h : kx_H} (hM : M.1.cls = "VersionedTables$Transactions") (hd : decode M.2.1 pc = .ok (.putfield 21, 3)) (hc : kx_is G h a (.inr (1, fs))) (hn : narrow .int v = v) (hf : fits .int v = true) (hlen : 2 < fs.length) (kk : kx_w G l M d Q kc ks (pc + 3) lv st (kx_set h a (.inr (1, fs.set 2 v)))) : kx_w G l M d Q kc ks pc lv (v :: .ref a :: st) h := kx_putf (C := kR_T) (T := kF_T) (N := 3) (k := 2) (ty0 := kT_T) (ty := .int) rfl kI_T kY_T kN_T (by decide) (by rw [hM]; exact kx_by 121 (by decide +kernel) (by decide +kernel)) rfl (by decide +kernel) hd hc hn hf hlen kk
theorem pT_24 {G : kx_G} {l : Launch} {M : kx_M} {d : Nat} {Q : Outcome → kx_H → Prop} {kc ks pc : Nat} {lv : kx_L} {st : List Value} {h : kx_H} (hM : M.1.cls = "VersionedTables$Transactions") (hd : decode M.2.1 pc = .ok (.getstatic 24, 3)) (kk : kx_w G l M d Q kc ks (pc + 3) lv (.ref (G.2.2.2.1 0) :: st) h) : kx_w G l M d Q kc ks pc lv st h := kx_gst (k := 0) (host := "VersionedTables") (by decide) (by rw [hM]; exact Or.inl (kx_by 223 (by decide +kernel) (by decide +kernel))) hd kk
theorem cN_3 {a : Nat} {G : kx_G} {l : Launch} {M : kx_M} {d : Nat} {Q : Outcome → kx_H → Prop} {kc ks pc : Nat} {lv : kx_L} {st : List Value} {h : kx_H} (hM : M.1.cls = "VersionedTables$Version") (hd : decode M.2.1 pc = .ok (.invokespecial 3, 3)) (hst : (st.map fun v => v.category).sum ≤ 8) (kk : kx_w G l M d Q kc ks (pc + 3) lv st h) : kx_w G l M d Q kc ks pc lv (.ref a :: st) h := kx_obj (by rw [hM]; exact kx_by 622 (by decide +kernel) (by decide +kernel)) (kx_by 106 (by decide +kernel) (by decide +kernel)) (kx_by 107 (by decide +kernel) (by decide +kernel)) hst hd kk
/-- N.values -/
theorem pN_9 {a : Nat} {fs : List Value} {v : Value} {G : kx_G} {l : Launch} {M : kx_M} {d : Nat} {Q : Outcome → kx_H → Prop} {kc ks pc : Nat} {lv : kx_L} {st : List Value} {h : kx_H} (hM : M.1.cls = "VersionedTables$Version") (hd : decode M.2.1 pc = .ok (.getfield 9, 3)) (hc : kx_is G h a (.inr (7, fs))) (hv : fs[1]? = some v) (kk : kx_w G l M d Q kc ks (pc + 3) lv (v :: st) h) : kx_w G l M d Q kc ks pc lv (.ref a :: st) h := kx_getf (C := kR_N) (T := kF_N) (N := 4) (k := 1) rfl kI_N (by decide) (by rw [hM]; exact kx_by 625 (by decide +kernel) (by decide +kernel)) hd hc hv kk
/-- N.values is written -/
theorem qN_9 {a : Nat} {fs : List Value} {v : Value} {G : kx_G} {l : Launch} {M : kx_M} {d : Nat} {Q : Outcome → kx_H → Prop} {kc ks pc : Nat} {lv : kx_L} {st : List Value} {h : kx_H} (hM : M.1.cls = "VersionedTables$Version") (hI : M.1.name = "<init>") (hd : decode M.2.1 pc = .ok (.putfield 9, 3)) (hc : kx_is G h a (.inr (7, fs))) (hn : narrow (.array .int) v = v) (hf : fits (.array .int) v = true) (hlen : 1 < fs.length) (kk : kx_w G l M d Q kc ks (pc + 3) lv st (kx_set h a (.inr (7, fs.set 1 v)))) : kx_w G l M d Q kc ks pc lv (v :: .ref a :: st) h := kx_puti (C := kR_N) (T := kF_N) (N := 4) (k := 1) (ty0 := kT_N) (ty := (.array .int)) rfl kI_N kY_N kN_N (by decide) (by rw [hM]; exact kx_by 625 (by decide +kernel) (by decide +kernel)) rfl (by rw [hI]) (by rw [hM]; rfl) (by decide +kernel) hd hc hn hf hlen kk
/-- N.gone is written -/
theorem qN_15 {a : Nat} {fs : List Value} {v : Value} {G : kx_G} {l : Launch} {M : kx_M} {d : Nat} {Q : Outcome → kx_H → Prop} {kc ks pc : Nat} {lv : kx_L} {st : List Value} {h : kx_H} (hM : M.1.cls = "VersionedTables$Version") (hd : decode M.2.1 pc = .ok (.putfield 15, 3)) (hc : kx_is G h a (.inr (7, fs))) (hn : narrow .boolean v = v) (hf : fits .boolean v = true) (hlen : 3 < fs.length) (kk : kx_w G l M d Q kc ks (pc + 3) lv st (kx_set h a (.inr (7, fs.set 3 v)))) : kx_w G l M d Q kc ks pc lv (v :: .ref a :: st) h := kx_putf (C := kR_N) (T := kF_N) (N := 4) (k := 3) (ty0 := kT_N) (ty := .boolean) rfl kI_N kY_N kN_N (by decide) (by rw [hM]; exact kx_by 630 (by decide +kernel) (by decide +kernel)) rfl (by decide +kernel) hd hc hn hf hlen kk
/-- N.writer is written -/
theorem qN_19 {a : Nat} {fs : List Value} {v : Value} {G : kx_G} {l : Launch} {M : kx_M} {d : Nat} {Q : Outcome → kx_H → Prop} {kc ks pc : Nat} {lv : kx_L} {st : List Value} {h : kx_H} (hM : M.1.cls = "VersionedTables$Version") (hI : M.1.name = "<init>") (hd : decode M.2.1 pc = .ok (.putfield 19, 3)) (hc : kx_is G h a (.inr (7, fs))) (hn : narrow .int v = v) (hf : fits .int v = true) (hlen : 0 < fs.length) (kk : kx_w G l M d Q kc ks (pc + 3) lv st (kx_set h a (.inr (7, fs.set 0 v)))) : kx_w G l M d Q kc ks pc lv (v :: .ref a :: st) h := kx_puti (C := kR_N) (T := kF_N) (N := 4) (k := 0) (ty0 := kT_N) (ty := .int) rfl kI_N kY_N kN_N (by decide) (by rw [hM]; exact kx_by 623 (by decide +kernel) (by decide +kernel)) rfl (by rw [hI]) (by rw [hM]; rfl) (by decide +kernel) hd hc hn hf hlen kk
/-- N.read is written -/
theorem qN_23 {a : Nat} {fs : List Value} {v : Value} {G : kx_G} {l : Launch} {M : kx_M} {d : Nat} {Q : Outcome → kx_H → Prop} {kc ks pc : Nat} {lv : kx_L} {st : List Value} {h : kx_H} (hM : M.1.cls = "VersionedTables$Version") (hd : decode M.2.1 pc = .ok (.putfield 23, 3)) (hc : kx_is G h a (.inr (7, fs))) (hn : narrow .int v = v) (hf : fits .int v = true) (hlen : 2 < fs.length) (kk : kx_w G l M d Q kc ks (pc + 3) lv st (kx_set h a (.inr (7, fs.set 2 v)))) : kx_w G l M d Q kc ks pc lv (v :: .ref a :: st) h := kx_putf (C := kR_N) (T := kF_N) (N := 4) (k := 2) (ty0 := kT_N) (ty := .int) rfl kI_N kY_N kN_N (by decide) (by rw [hM]; exact kx_by 627 (by decide +kernel) (by decide +kernel)) rfl (by decide +kernel) hd hc hn hf hlen kk
theorem cN_26 {a0 a n0 n1 : Nat} {f g : Nat → Int32} {sp dp n : Int32} {G : kx_G} {l : Launch} {M : kx_M} {d : Nat} {Q : Outcome → kx_H → Prop} {kc ks pc : Nat} {lv : kx_L} {st : List Value} {h : kx_H} (hM : M.1.cls = "VersionedTables$Version") (hd : decode M.2.1 pc = .ok (.invokestatic 26, 3)) (hst : (st.map fun v => v.category).sum ≤ 8) (hc0 : kx_is G h a0 (.inl (0, n0, .inl f))) (hc1 : kx_is G h a (.inl (0, n1, .inl g))) (h1 : ¬ sp < 0) (h2 : ¬ dp < 0) (h3 : ¬ n < 0) (h4 : sp.toNatClampNeg + n.toNatClampNeg ≤ n0) (h5 : dp.toNatClampNeg + n.toNatClampNeg ≤ n1) (kk : kx_w G l M d Q kc ks (pc + 3) lv st (kx_set h a (.inl (0, n1, .inl (va_cpy f g sp.toNatClampNeg dp.toNatClampNeg n.toNatClampNeg))))) : kx_w G l M d Q kc ks pc lv (.int n :: .int dp :: .ref a :: .int sp :: .ref a0 :: st) h := kx_cpy (by rw [hM]; exact kx_by 645 (by decide +kernel) (by decide +kernel)) (kx_by 647 (by decide +kernel) (by decide +kernel)) (kx_by 646 (by decide +kernel) (by decide +kernel)) (kx_by 96 (by decide +kernel) (by decide +kernel)) rfl hd hst hc0 hc1 h1 h2 h3 h4 h5 kk
/-- V_create -/
theorem cL_7 {b : Nat} {fs sk as : List Value} {G : kx_G} {l : Launch} {M : kx_M} {d mc ms : Nat} {Q Qc : Outcome → kx_H → Prop} {kc ks pc : Nat} {lv : kx_L} {st : List Value} {h : kx_H} (hM : M.1.cls = "VersionedTablesLaw") (hd : decode M.2.1 pc = .ok (.invokevirtual 7, 3)) (hb : kx_is G h b (.inr (0, fs))) (hn : as.length = 2) (hsk : sk = as.reverse ++ .ref b :: st) (hst : (st.map fun v => v.category).sum ≤ 8) (hC : kx_c G l mV_create d mc ms (.ref b :: as) h Qc) (hk : ∀ o h', Qc o h' → kx_k G l M (d + 1) Q kc ks pc lv st o h') : kx_w G l M (d + 1) Q (kc + mc) (ks + ms) pc lv sk h := kx_inv (N := mV_create) (host := "VersionedTables") (by rw [hn]; exact kV_create) (by rw [hM]; exact Or.inr (kx_by 280 (by decide +kernel) (by decide +kernel))) (kx_by 281 (by decide +kernel) (by decide +kernel)) (kx_by 282 (by decide +kernel) (by decide +kernel)) (ci := 0) rfl hd hsk hst hb hC hk
theorem nL_8 {G : kx_G} {l : Launch} {M : kx_M} {d : Nat} {Q : Outcome → kx_H → Prop} {kc ks pc : Nat} {lv : kx_L} {st : List Value} {h : kx_H} (hM : M.1.cls = "VersionedTablesLaw") (hd : decode M.2.1 pc = .ok (.new 8, 3)) (kk : kx_w G l M d Q kc ks (pc + 3) lv (.ref h.1 :: st) (kx_new h (.inr (0, [.null, .null, .null, .int 0, .int 0, .null, .null, .null, .null, .null])))) : kx_w G l M d Q (kc + 1) (ks + 10) pc lv st h := kx_newo (C := kR_V) (T := kF_V) (N := 10) (ty0 := kT_V) rfl kI_V kY_V (by rw [hM]; exact kx_by 100 (by decide +kernel) (by decide +kernel)) (kx_by 101 (by decide +kernel) (by decide +kernel)) (kx_by 78 (by decide +kernel) (by decide +kernel)) (by decide) hd kk
/-- V_type -/
theorem cL_17 {b : Nat} {fs sk as : List Value} {G : kx_G} {l : Launch} {M : kx_M} {d mc ms : Nat} {Q Qc : Outcome → kx_H → Prop} {kc ks pc : Nat} {lv : kx_L} {st : List Value} {h : kx_H} (hM : M.1.cls = "VersionedTablesLaw") (hd : decode M.2.1 pc = .ok (.invokevirtual 17, 3)) (hb : kx_is G h b (.inr (0, fs))) (hn : as.length = 1) (hsk : sk = as.reverse ++ .ref b :: st) (hst : (st.map fun v => v.category).sum ≤ 8) (hC : kx_c G l mV_type d mc ms (.ref b :: as) h Qc) (hk : ∀ o h', Qc o h' → kx_k G l M (d + 1) Q kc ks pc lv st o h') : kx_w G l M (d + 1) Q (kc + mc) (ks + ms) pc lv sk h := kx_inv (N := mV_type) (host := "VersionedTables") (by rw [hn]; exact kV_type) (by rw [hM]; exact Or.inr (kx_by 407 (by decide +kernel) (by decide +kernel))) (kx_by 408 (by decide +kernel) (by decide +kernel)) (kx_by 409 (by decide +kernel) (by decide +kernel)) (ci := 0) rfl hd hsk hst hb hC hk
/-- V_where -/
theorem cL_21 {b : Nat} {fs sk as : List Value} {G : kx_G} {l : Launch} {M : kx_M} {d mc ms : Nat} {Q Qc : Outcome → kx_H → Prop} {kc ks pc : Nat} {lv : kx_L} {st : List Value} {h : kx_H} (hM : M.1.cls = "VersionedTablesLaw") (hd : decode M.2.1 pc = .ok (.invokevirtual 21, 3)) (hb : kx_is G h b (.inr (0, fs))) (hn : as.length = 0) (hsk : sk = as.reverse ++ .ref b :: st) (hst : (st.map fun v => v.category).sum ≤ 8) (hC : kx_c G l mV_where d mc ms (.ref b :: as) h Qc) (hk : ∀ o h', Qc o h' → kx_k G l M (d + 1) Q kc ks pc lv st o h') : kx_w G l M (d + 1) Q (kc + mc) (ks + ms) pc lv sk h := kx_inv (N := mV_where) (host := "VersionedTables") (by rw [hn]; exact kV_where) (by rw [hM]; exact Or.inr (kx_by 416 (by decide +kernel) (by decide +kernel))) (kx_by 417 (by decide +kernel) (by decide +kernel)) (kx_by 418 (by decide +kernel) (by decide +kernel)) (ci := 0) rfl hd hsk hst hb hC hk
/-- V_setting -/
theorem cL_24 {b : Nat} {fs sk as : List Value} {G : kx_G} {l : Launch} {M : kx_M} {d mc ms : Nat} {Q Qc : Outcome → kx_H → Prop} {kc ks pc : Nat} {lv : kx_L} {st : List Value} {h : kx_H} (hM : M.1.cls = "VersionedTablesLaw") (hd : decode M.2.1 pc = .ok (.invokevirtual 24, 3)) (hb : kx_is G h b (.inr (0, fs))) (hn : as.length = 0) (hsk : sk = as.reverse ++ .ref b :: st) (hst : (st.map fun v => v.category).sum ≤ 8) (hC : kx_c G l mV_setting d mc ms (.ref b :: as) h Qc) (hk : ∀ o h', Qc o h' → kx_k G l M (d + 1) Q kc ks pc lv st o h') : kx_w G l M (d + 1) Q (kc + mc) (ks + ms) pc lv sk h := kx_inv (N := mV_setting) (host := "VersionedTables") (by rw [hn]; exact kV_setting) (by rw [hM]; exact Or.inr (kx_by 506 (by decide +kernel) (by decide +kernel))) (kx_by 507 (by decide +kernel) (by decide +kernel)) (kx_by 508 (by decide +kernel) (by decide +kernel)) (ci := 0) rfl hd hsk hst hb hC hk
/-- V_begin -/
theorem cL_28 {b : Nat} {fs sk as : List Value} {G : kx_G} {l : Launch} {M : kx_M} {d mc ms : Nat} {Q Qc : Outcome → kx_H → Prop} {kc ks pc : Nat} {lv : kx_L} {st : List Value} {h : kx_H} (hM : M.1.cls = "VersionedTablesLaw") (hd : decode M.2.1 pc = .ok (.invokevirtual 28, 3)) (hb : kx_is G h b (.inr (0, fs))) (hn : as.length = 0) (hsk : sk = as.reverse ++ .ref b :: st) (hst : (st.map fun v => v.category).sum ≤ 8) (hC : kx_c G l mV_begin d mc ms (.ref b :: as) h Qc) (hk : ∀ o h', Qc o h' → kx_k G l M (d + 1) Q kc ks pc lv st o h') : kx_w G l M (d + 1) Q (kc + mc) (ks + ms) pc lv sk h := kx_inv (N := mV_begin) (host := "VersionedTables") (by rw [hn]; exact kV_begin) (by rw [hM]; exact Or.inr (kx_by 517 (by decide +kernel) (by decide +kernel))) (kx_by 518 (by decide +kernel) (by decide +kernel)) (kx_by 519 (by decide +kernel) (by decide +kernel)) (ci := 0) rfl hd hsk hst hb hC hk
/-- V_commit -/
theorem cL_31 {b : Nat} {fs sk as : List Value} {G : kx_G} {l : Launch} {M : kx_M} {d mc ms : Nat} {Q Qc : Outcome → kx_H → Prop} {kc ks pc : Nat} {lv : kx_L} {st : List Value} {h : kx_H} (hM : M.1.cls = "VersionedTablesLaw") (hd : decode M.2.1 pc = .ok (.invokevirtual 31, 3)) (hb : kx_is G h b (.inr (0, fs))) (hn : as.length = 1) (hsk : sk = as.reverse ++ .ref b :: st) (hst : (st.map fun v => v.category).sum ≤ 8) (hC : kx_c G l mV_commit d mc ms (.ref b :: as) h Qc) (hk : ∀ o h', Qc o h' → kx_k G l M (d + 1) Q kc ks pc lv st o h') : kx_w G l M (d + 1) Q (kc + mc) (ks + ms) pc lv sk h := kx_inv (N := mV_commit) (host := "VersionedTables") (by rw [hn]; exact kV_commit) (by rw [hM]; exact Or.inr (kx_by 530 (by decide +kernel) (by decide +kernel))) (kx_by 531 (by decide +kernel) (by decide +kernel)) (kx_by 532 (by decide +kernel) (by decide +kernel)) (ci := 0) rfl hd hsk hst hb hC hk
/-- V_abort -/
theorem cL_37 {b : Nat} {fs sk as : List Value} {G : kx_G} {l : Launch} {M : kx_M} {d mc ms : Nat} {Q Qc : Outcome → kx_H → Prop} {kc ks pc : Nat} {lv : kx_L} {st : List Value} {h : kx_H} (hM : M.1.cls = "VersionedTablesLaw") (hd : decode M.2.1 pc = .ok (.invokevirtual 37, 3)) (hb : kx_is G h b (.inr (0, fs))) (hn : as.length = 1) (hsk : sk = as.reverse ++ .ref b :: st) (hst : (st.map fun v => v.category).sum ≤ 8) (hC : kx_c G l mV_abort d mc ms (.ref b :: as) h Qc) (hk : ∀ o h', Qc o h' → kx_k G l M (d + 1) Q kc ks pc lv st o h') : kx_w G l M (d + 1) Q (kc + mc) (ks + ms) pc lv sk h := kx_inv (N := mV_abort) (host := "VersionedTables") (by rw [hn]; exact kV_abort) (by rw [hM]; exact Or.inr (kx_by 561 (by decide +kernel) (by decide +kernel))) (kx_by 562 (by decide +kernel) (by decide +kernel)) (kx_by 563 (by decide +kernel) (by decide +kernel)) (ci := 0) rfl hd hsk hst hb hC hk
/-- V_insert -/
theorem cL_40 {b : Nat} {fs sk as : List Value} {G : kx_G} {l : Launch} {M : kx_M} {d mc ms : Nat} {Q Qc : Outcome → kx_H → Prop} {kc ks pc : Nat} {lv : kx_L} {st : List Value} {h : kx_H} (hM : M.1.cls = "VersionedTablesLaw") (hd : decode M.2.1 pc = .ok (.invokevirtual 40, 3)) (hb : kx_is G h b (.inr (0, fs))) (hn : as.length = 6) (hsk : sk = as.reverse ++ .ref b :: st) (hst : (st.map fun v => v.category).sum ≤ 8) (hC : kx_c G l mV_insert d mc ms (.ref b :: as) h Qc) (hk : ∀ o h', Qc o h' → kx_k G l M (d + 1) Q kc ks pc lv st o h') : kx_w G l M (d + 1) Q (kc + mc) (ks + ms) pc lv sk h := kx_inv (N := mV_insert) (host := "VersionedTables") (by rw [hn]; exact kV_insert) (by rw [hM]; exact Or.inr (kx_by 580 (by decide +kernel) (by decide +kernel))) (kx_by 581 (by decide +kernel) (by decide +kernel)) (kx_by 582 (by decide +kernel) (by decide +kernel)) (ci := 0) rfl hd hsk hst hb hC hk
/-- V_select -/
theorem cL_46 {b : Nat} {fs sk as : List Value} {G : kx_G} {l : Launch} {M : kx_M} {d mc ms : Nat} {Q Qc : Outcome → kx_H → Prop} {kc ks pc : Nat} {lv : kx_L} {st : List Value} {h : kx_H} (hM : M.1.cls = "VersionedTablesLaw") (hd : decode M.2.1 pc = .ok (.invokevirtual 46, 3)) (hb : kx_is G h b (.inr (0, fs))) (hn : as.length = 2) (hsk : sk = as.reverse ++ .ref b :: st) (hst : (st.map fun v => v.category).sum ≤ 8) (hC : kx_c G l mV_select d mc ms (.ref b :: as) h Qc) (hk : ∀ o h', Qc o h' → kx_k G l M (d + 1) Q kc ks pc lv st o h') : kx_w G l M (d + 1) Q (kc + mc) (ks + ms) pc lv sk h := kx_inv (N := mV_select) (host := "VersionedTables") (by rw [hn]; exact kV_select) (by rw [hM]; exact Or.inr (kx_by 652 (by decide +kernel) (by decide +kernel))) (kx_by 653 (by decide +kernel) (by decide +kernel)) (kx_by 654 (by decide +kernel) (by decide +kernel)) (ci := 0) rfl hd hsk hst hb hC hk
/-- V_update -/
theorem cL_52 {b : Nat} {fs sk as : List Value} {G : kx_G} {l : Launch} {M : kx_M} {d mc ms : Nat} {Q Qc : Outcome → kx_H → Prop} {kc ks pc : Nat} {lv : kx_L} {st : List Value} {h : kx_H} (hM : M.1.cls = "VersionedTablesLaw") (hd : decode M.2.1 pc = .ok (.invokevirtual 52, 3)) (hb : kx_is G h b (.inr (0, fs))) (hn : as.length = 2) (hsk : sk = as.reverse ++ .ref b :: st) (hst : (st.map fun v => v.category).sum ≤ 8) (hC : kx_c G l mV_update d mc ms (.ref b :: as) h Qc) (hk : ∀ o h', Qc o h' → kx_k G l M (d + 1) Q kc ks pc lv st o h') : kx_w G l M (d + 1) Q (kc + mc) (ks + ms) pc lv sk h := kx_inv (N := mV_update) (host := "VersionedTables") (by rw [hn]; exact kV_update) (by rw [hM]; exact Or.inr (kx_by 727 (by decide +kernel) (by decide +kernel))) (kx_by 728 (by decide +kernel) (by decide +kernel)) (kx_by 729 (by decide +kernel) (by decide +kernel)) (ci := 0) rfl hd hsk hst hb hC hk
/-- V_delete -/
theorem cL_55 {b : Nat} {fs sk as : List Value} {G : kx_G} {l : Launch} {M : kx_M} {d mc ms : Nat} {Q Qc : Outcome → kx_H → Prop} {kc ks pc : Nat} {lv : kx_L} {st : List Value} {h : kx_H} (hM : M.1.cls = "VersionedTablesLaw") (hd : decode M.2.1 pc = .ok (.invokevirtual 55, 3)) (hb : kx_is G h b (.inr (0, fs))) (hn : as.length = 2) (hsk : sk = as.reverse ++ .ref b :: st) (hst : (st.map fun v => v.category).sum ≤ 8) (hC : kx_c G l mV_delete d mc ms (.ref b :: as) h Qc) (hk : ∀ o h', Qc o h' → kx_k G l M (d + 1) Q kc ks pc lv st o h') : kx_w G l M (d + 1) Q (kc + mc) (ks + ms) pc lv sk h := kx_inv (N := mV_delete) (host := "VersionedTables") (by rw [hn]; exact kV_delete) (by rw [hM]; exact Or.inr (kx_by 754 (by decide +kernel) (by decide +kernel))) (kx_by 755 (by decide +kernel) (by decide +kernel)) (kx_by 756 (by decide +kernel) (by decide +kernel)) (ci := 0) rfl hd hsk hst hb hC hk
/-- V_result -/
theorem cL_58 {b : Nat} {fs sk as : List Value} {G : kx_G} {l : Launch} {M : kx_M} {d mc ms : Nat} {Q Qc : Outcome → kx_H → Prop} {kc ks pc : Nat} {lv : kx_L} {st : List Value} {h : kx_H} (hM : M.1.cls = "VersionedTablesLaw") (hd : decode M.2.1 pc = .ok (.invokevirtual 58, 3)) (hb : kx_is G h b (.inr (0, fs))) (hn : as.length = 2) (hsk : sk = as.reverse ++ .ref b :: st) (hst : (st.map fun v => v.category).sum ≤ 8) (hC : kx_c G l mV_result d mc ms (.ref b :: as) h Qc) (hk : ∀ o h', Qc o h' → kx_k G l M (d + 1) Q kc ks pc lv st o h') : kx_w G l M (d + 1) Q (kc + mc) (ks + ms) pc lv sk h := kx_inv (N := mV_result) (host := "VersionedTables") (by rw [hn]; exact kV_result) (by rw [hM]; exact Or.inr (kx_by 762 (by decide +kernel) (by decide +kernel))) (kx_by 763 (by decide +kernel) (by decide +kernel)) (kx_by 764 (by decide +kernel) (by decide +kernel)) (ci := 0) rfl hd hsk hst hb hC hk
/-- V_mean -/
theorem cL_63 {b : Nat} {fs sk as : List Value} {G : kx_G} {l : Launch} {M : kx_M} {d mc ms : Nat} {Q Qc : Outcome → kx_H → Prop} {kc ks pc : Nat} {lv : kx_L} {st : List Value} {h : kx_H} (hM : M.1.cls = "VersionedTablesLaw") (hd : decode M.2.1 pc = .ok (.invokevirtual 63, 3)) (hb : kx_is G h b (.inr (0, fs))) (hn : as.length = 1) (hsk : sk = as.reverse ++ .ref b :: st) (hst : (st.map fun v => v.category).sum ≤ 8) (hC : kx_c G l mV_mean d mc ms (.ref b :: as) h Qc) (hk : ∀ o h', Qc o h' → kx_k G l M (d + 1) Q kc ks pc lv st o h') : kx_w G l M (d + 1) Q (kc + mc) (ks + ms) pc lv sk h := kx_inv (N := mV_mean) (host := "VersionedTables") (by rw [hn]; exact kV_mean) (by rw [hM]; exact Or.inr (kx_by 790 (by decide +kernel) (by decide +kernel))) (kx_by 791 (by decide +kernel) (by decide +kernel)) (kx_by 792 (by decide +kernel) (by decide +kernel)) (ci := 0) rfl hd hsk hst hb hC hk
/-- V_versions -/
theorem cL_67 {b : Nat} {fs sk as : List Value} {G : kx_G} {l : Launch} {M : kx_M} {d mc ms : Nat} {Q Qc : Outcome → kx_H → Prop} {kc ks pc : Nat} {lv : kx_L} {st : List Value} {h : kx_H} (hM : M.1.cls = "VersionedTablesLaw") (hd : decode M.2.1 pc = .ok (.invokevirtual 67, 3)) (hb : kx_is G h b (.inr (0, fs))) (hn : as.length = 2) (hsk : sk = as.reverse ++ .ref b :: st) (hst : (st.map fun v => v.category).sum ≤ 8) (hC : kx_c G l mV_versions d mc ms (.ref b :: as) h Qc) (hk : ∀ o h', Qc o h' → kx_k G l M (d + 1) Q kc ks pc lv st o h') : kx_w G l M (d + 1) Q (kc + mc) (ks + ms) pc lv sk h := kx_inv (N := mV_versions) (host := "VersionedTables") (by rw [hn]; exact kV_versions) (by rw [hM]; exact Or.inr (kx_by 804 (by decide +kernel) (by decide +kernel))) (kx_by 805 (by decide +kernel) (by decide +kernel)) (kx_by 806 (by decide +kernel) (by decide +kernel)) (ci := 0) rfl hd hsk hst hb hC hk
/-- V_init -/
theorem cL_70 {b : Nat} {sk as : List Value} {G : kx_G} {l : Launch} {M : kx_M} {d mc ms : Nat} {Q Qc : Outcome → kx_H → Prop} {kc ks pc : Nat} {lv : kx_L} {st : List Value} {h : kx_H} (hM : M.1.cls = "VersionedTablesLaw") (hd : decode M.2.1 pc = .ok (.invokespecial 70, 3)) (hn : as.length = 0) (hsk : sk = as.reverse ++ .ref b :: st) (hst : (st.map fun v => v.category).sum ≤ 8) (hC : kx_c G l mV_init d mc ms (.ref b :: as) h Qc) (hk : ∀ o h', Qc o h' → kx_k G l M (d + 1) Q kc ks pc lv st o h') : kx_w G l M (d + 1) Q (kc + mc) (ks + ms) pc lv sk h := kx_ini (N := mV_init) (host := "VersionedTables") (by rw [hn]; exact kV_init) (by rw [hM]; exact Or.inr (kx_by 102 (by decide +kernel) (by decide +kernel))) (kx_by 103 (by decide +kernel) (by decide +kernel)) rfl ⟨rfl, rfl⟩ hd hsk hst hC hk
theorem nL_71 {G : kx_G} {l : Launch} {M : kx_M} {d : Nat} {Q : Outcome → kx_H → Prop} {kc ks pc : Nat} {lv : kx_L} {st : List Value} {h : kx_H} (hM : M.1.cls = "VersionedTablesLaw") (hd : decode M.2.1 pc = .ok (.new 71, 3)) (kk : kx_w G l M d Q kc ks (pc + 3) lv (.ref h.1 :: st) (kx_new h (.inr (8, [.int 0, .null, .null, .null, .null, .null, .null, .int 0, .int 0, .null, .int 0, .int 0, .null, .null, .null, .null, .null, .int 0, .int 0, .int 0, .int 0, .null, .int 0, .null, .null, .int 0, .null, .null, .null])))) : kx_w G l M d Q (kc + 1) (ks + 29) pc lv st h := kx_newo (C := kR_M) (T := kF_M) (N := 29) (ty0 := kT_M) rfl kI_M kY_M (by rw [hM]; exact kx_by 810 (by decide +kernel) (by decide +kernel)) (kx_by 811 (by decide +kernel) (by decide +kernel)) (kx_by 82 (by decide +kernel) (by decide +kernel)) (by decide) hd kk
/-- M_init -/
theorem cL_73 {b : Nat} {sk as : List Value} {G : kx_G} {l : Launch} {M : kx_M} {d mc ms : Nat} {Q Qc : Outcome → kx_H → Prop} {kc ks pc : Nat} {lv : kx_L} {st : List Value} {h : kx_H} (hM : M.1.cls = "VersionedTablesLaw") (hd : decode M.2.1 pc = .ok (.invokespecial 73, 3)) (hn : as.length = 0) (hsk : sk = as.reverse ++ .ref b :: st) (hst : (st.map fun v => v.category).sum ≤ 8) (hC : kx_c G l mM_init d mc ms (.ref b :: as) h Qc) (hk : ∀ o h', Qc o h' → kx_k G l M (d + 1) Q kc ks pc lv st o h') : kx_w G l M (d + 1) Q (kc + mc) (ks + ms) pc lv sk h := kx_ini (N := mM_init) (host := "VersionedTables") (by rw [hn]; exact kM_init) (by rw [hM]; exact Or.inr (kx_by 812 (by decide +kernel) (by decide +kernel))) (kx_by 813 (by decide +kernel) (by decide +kernel)) rfl ⟨rfl, rfl⟩ hd hsk hst hC hk
/-- L_create -/
theorem cL_74 {sk as : List Value} {G : kx_G} {l : Launch} {M : kx_M} {d mc ms : Nat} {Q Qc : Outcome → kx_H → Prop} {kc ks pc : Nat} {lv : kx_L} {st : List Value} {h : kx_H} (hM : M.1.cls = "VersionedTablesLaw") (hd : decode M.2.1 pc = .ok (.invokestatic 74, 3)) (hn : as.length = 3) (hsk : sk = as.reverse ++ st) (hst : (st.map fun v => v.category).sum ≤ 8) (hC : kx_c G l mL_create d mc ms as h Qc) (hk : ∀ o h', Qc o h' → kx_k G l M (d + 1) Q kc ks pc lv st o h') : kx_w G l M (d + 1) Q (kc + mc) (ks + ms) pc lv sk h := kx_sti (N := mL_create) (host := "VersionedTables") (by rw [hn]; exact kL_create) (by rw [hM]; exact Or.inr (kx_by 275 (by decide +kernel) (by decide +kernel))) (kx_by 276 (by decide +kernel) (by decide +kernel)) hd hsk hst hC hk
/-- M_create -/
theorem cL_79 {b : Nat} {fs sk as : List Value} {G : kx_G} {l : Launch} {M : kx_M} {d mc ms : Nat} {Q Qc : Outcome → kx_H → Prop} {kc ks pc : Nat} {lv : kx_L} {st : List Value} {h : kx_H} (hM : M.1.cls = "VersionedTablesLaw") (hd : decode M.2.1 pc = .ok (.invokevirtual 79, 3)) (hb : kx_is G h b (.inr (8, fs))) (hn : as.length = 2) (hsk : sk = as.reverse ++ .ref b :: st) (hst : (st.map fun v => v.category).sum ≤ 8) (hC : kx_c G l mM_create d mc ms (.ref b :: as) h Qc) (hk : ∀ o h', Qc o h' → kx_k G l M (d + 1) Q kc ks pc lv st o h') : kx_w G l M (d + 1) Q (kc + mc) (ks + ms) pc lv sk h := kx_inv (N := mM_create) (host := "VersionedTables") (by rw [hn]; exact kM_create) (by rw [hM]; exact Or.inr (kx_by 909 (by decide +kernel) (by decide +kernel))) (kx_by 910 (by decide +kernel) (by decide +kernel)) (kx_by 911 (by decide +kernel) (by decide +kernel)) (ci := 8) rfl hd hsk hst hb hC hk
/-- M_thrown -/
theorem cL_80 {b : Nat} {fs sk as : List Value} {G : kx_G} {l : Launch} {M : kx_M} {d mc ms : Nat} {Q Qc : Outcome → kx_H → Prop} {kc ks pc : Nat} {lv : kx_L} {st : List Value} {h : kx_H} (hM : M.1.cls = "VersionedTablesLaw") (hd : decode M.2.1 pc = .ok (.invokevirtual 80, 3)) (hb : kx_is G h b (.inr (8, fs))) (hn : as.length = 0) (hsk : sk = as.reverse ++ .ref b :: st) (hst : (st.map fun v => v.category).sum ≤ 8) (hC : kx_c G l mM_thrown d mc ms (.ref b :: as) h Qc) (hk : ∀ o h', Qc o h' → kx_k G l M (d + 1) Q kc ks pc lv st o h') : kx_w G l M (d + 1) Q (kc + mc) (ks + ms) pc lv sk h := kx_inv (N := mM_thrown) (host := "VersionedTables") (by rw [hn]; exact kM_thrown) (by rw [hM]; exact Or.inr (kx_by 905 (by decide +kernel) (by decide +kernel))) (kx_by 906 (by decide +kernel) (by decide +kernel)) (kx_by 907 (by decide +kernel) (by decide +kernel)) (ci := 8) rfl hd hsk hst hb hC hk
/-- L_type -/
theorem cL_83 {sk as : List Value} {G : kx_G} {l : Launch} {M : kx_M} {d mc ms : Nat} {Q Qc : Outcome → kx_H → Prop} {kc ks pc : Nat} {lv : kx_L} {st : List Value} {h : kx_H} (hM : M.1.cls = "VersionedTablesLaw") (hd : decode M.2.1 pc = .ok (.invokestatic 83, 3)) (hn : as.length = 3) (hsk : sk = as.reverse ++ st) (hst : (st.map fun v => v.category).sum ≤ 8) (hC : kx_c G l mL_type d mc ms as h Qc) (hk : ∀ o h', Qc o h' → kx_k G l M (d + 1) Q kc ks pc lv st o h') : kx_w G l M (d + 1) Q (kc + mc) (ks + ms) pc lv sk h := kx_sti (N := mL_type) (host := "VersionedTables") (by rw [hn]; exact kL_type) (by rw [hM]; exact Or.inr (kx_by 404 (by decide +kernel) (by decide +kernel))) (kx_by 405 (by decide +kernel) (by decide +kernel)) hd hsk hst hC hk
/-- M_type -/
theorem cL_86 {b : Nat} {fs sk as : List Value} {G : kx_G} {l : Launch} {M : kx_M} {d mc ms : Nat} {Q Qc : Outcome → kx_H → Prop} {kc ks pc : Nat} {lv : kx_L} {st : List Value} {h : kx_H} (hM : M.1.cls = "VersionedTablesLaw") (hd : decode M.2.1 pc = .ok (.invokevirtual 86, 3)) (hb : kx_is G h b (.inr (8, fs))) (hn : as.length = 1) (hsk : sk = as.reverse ++ .ref b :: st) (hst : (st.map fun v => v.category).sum ≤ 8) (hC : kx_c G l mM_type d mc ms (.ref b :: as) h Qc) (hk : ∀ o h', Qc o h' → kx_k G l M (d + 1) Q kc ks pc lv st o h') : kx_w G l M (d + 1) Q (kc + mc) (ks + ms) pc lv sk h := kx_inv (N := mM_type) (host := "VersionedTables") (by rw [hn]; exact kM_type) (by rw [hM]; exact Or.inr (kx_by 940 (by decide +kernel) (by decide +kernel))) (kx_by 941 (by decide +kernel) (by decide +kernel)) (kx_by 942 (by decide +kernel) (by decide +kernel)) (ci := 8) rfl hd hsk hst hb hC hk
/-- L_where -/
theorem cL_87 {sk as : List Value} {G : kx_G} {l : Launch} {M : kx_M} {d mc ms : Nat} {Q Qc : Outcome → kx_H → Prop} {kc ks pc : Nat} {lv : kx_L} {st : List Value} {h : kx_H} (hM : M.1.cls = "VersionedTablesLaw") (hd : decode M.2.1 pc = .ok (.invokestatic 87, 3)) (hn : as.length = 1) (hsk : sk = as.reverse ++ st) (hst : (st.map fun v => v.category).sum ≤ 8) (hC : kx_c G l mL_where d mc ms as h Qc) (hk : ∀ o h', Qc o h' → kx_k G l M (d + 1) Q kc ks pc lv st o h') : kx_w G l M (d + 1) Q (kc + mc) (ks + ms) pc lv sk h := kx_sti (N := mL_where) (host := "VersionedTables") (by rw [hn]; exact kL_where) (by rw [hM]; exact Or.inr (kx_by 413 (by decide +kernel) (by decide +kernel))) (kx_by 414 (by decide +kernel) (by decide +kernel)) hd hsk hst hC hk
/-- M_where -/
theorem cL_90 {b : Nat} {fs sk as : List Value} {G : kx_G} {l : Launch} {M : kx_M} {d mc ms : Nat} {Q Qc : Outcome → kx_H → Prop} {kc ks pc : Nat} {lv : kx_L} {st : List Value} {h : kx_H} (hM : M.1.cls = "VersionedTablesLaw") (hd : decode M.2.1 pc = .ok (.invokevirtual 90, 3)) (hb : kx_is G h b (.inr (8, fs))) (hn : as.length = 0) (hsk : sk = as.reverse ++ .ref b :: st) (hst : (st.map fun v => v.category).sum ≤ 8) (hC : kx_c G l mM_where d mc ms (.ref b :: as) h Qc) (hk : ∀ o h', Qc o h' → kx_k G l M (d + 1) Q kc ks pc lv st o h') : kx_w G l M (d + 1) Q (kc + mc) (ks + ms) pc lv sk h := kx_inv (N := mM_where) (host := "VersionedTables") (by rw [hn]; exact kM_where) (by rw [hM]; exact Or.inr (kx_by 944 (by decide +kernel) (by decide +kernel))) (kx_by 945 (by decide +kernel) (by decide +kernel)) (kx_by 946 (by decide +kernel) (by decide +kernel)) (ci := 8) rfl hd hsk hst hb hC hk
/-- L_setting -/
theorem cL_91 {sk as : List Value} {G : kx_G} {l : Launch} {M : kx_M} {d mc ms : Nat} {Q Qc : Outcome → kx_H → Prop} {kc ks pc : Nat} {lv : kx_L} {st : List Value} {h : kx_H} (hM : M.1.cls = "VersionedTablesLaw") (hd : decode M.2.1 pc = .ok (.invokestatic 91, 3)) (hn : as.length = 2) (hsk : sk = as.reverse ++ st) (hst : (st.map fun v => v.category).sum ≤ 8) (hC : kx_c G l mL_setting d mc ms as h Qc) (hk : ∀ o h', Qc o h' → kx_k G l M (d + 1) Q kc ks pc lv st o h') : kx_w G l M (d + 1) Q (kc + mc) (ks + ms) pc lv sk h := kx_sti (N := mL_setting) (host := "VersionedTables") (by rw [hn]; exact kL_setting) (by rw [hM]; exact Or.inr (kx_by 503 (by decide +kernel) (by decide +kernel))) (kx_by 504 (by decide +kernel) (by decide +kernel)) hd hsk hst hC hk
/-- M_setting -/
theorem cL_94 {b : Nat} {fs sk as : List Value} {G : kx_G} {l : Launch} {M : kx_M} {d mc ms : Nat} {Q Qc : Outcome → kx_H → Prop} {kc ks pc : Nat} {lv : kx_L} {st : List Value} {h : kx_H} (hM : M.1.cls = "VersionedTablesLaw") (hd : decode M.2.1 pc = .ok (.invokevirtual 94, 3)) (hb : kx_is G h b (.inr (8, fs))) (hn : as.length = 0) (hsk : sk = as.reverse ++ .ref b :: st) (hst : (st.map fun v => v.category).sum ≤ 8) (hC : kx_c G l mM_setting d mc ms (.ref b :: as) h Qc) (hk : ∀ o h', Qc o h' → kx_k G l M (d + 1) Q kc ks pc lv st o h') : kx_w G l M (d + 1) Q (kc + mc) (ks + ms) pc lv sk h := kx_inv (N := mM_setting) (host := "VersionedTables") (by rw [hn]; exact kM_setting) (by rw [hM]; exact Or.inr (kx_by 995 (by decide +kernel) (by decide +kernel))) (kx_by 996 (by decide +kernel) (by decide +kernel)) (kx_by 997 (by decide +kernel) (by decide +kernel)) (ci := 8) rfl hd hsk hst hb hC hk
/-- V_clear -/
theorem cL_95 {b : Nat} {fs sk as : List Value} {G : kx_G} {l : Launch} {M : kx_M} {d mc ms : Nat} {Q Qc : Outcome → kx_H → Prop} {kc ks pc : Nat} {lv : kx_L} {st : List Value} {h : kx_H} (hM : M.1.cls = "VersionedTablesLaw") (hd : decode M.2.1 pc = .ok (.invokevirtual 95, 3)) (hb : kx_is G h b (.inr (0, fs))) (hn : as.length = 0) (hsk : sk = as.reverse ++ .ref b :: st) (hst : (st.map fun v => v.category).sum ≤ 8) (hC : kx_c G l mV_clear d mc ms (.ref b :: as) h Qc) (hk : ∀ o h', Qc o h' → kx_k G l M (d + 1) Q kc ks pc lv st o h') : kx_w G l M (d + 1) Q (kc + mc) (ks + ms) pc lv sk h := kx_inv (N := mV_clear) (host := "VersionedTables") (by rw [hn]; exact kV_clear) (by rw [hM]; exact Or.inr (kx_by 203 (by decide +kernel) (by decide +kernel))) (kx_by 204 (by decide +kernel) (by decide +kernel)) (kx_by 205 (by decide +kernel) (by decide +kernel)) (ci := 0) rfl hd hsk hst hb hC hk
/-- M_clear -/
theorem cL_98 {b : Nat} {fs sk as : List Value} {G : kx_G} {l : Launch} {M : kx_M} {d mc ms : Nat} {Q Qc : Outcome → kx_H → Prop} {kc ks pc : Nat} {lv : kx_L} {st : List Value} {h : kx_H} (hM : M.1.cls = "VersionedTablesLaw") (hd : decode M.2.1 pc = .ok (.invokevirtual 98, 3)) (hb : kx_is G h b (.inr (8, fs))) (hn : as.length = 0) (hsk : sk = as.reverse ++ .ref b :: st) (hst : (st.map fun v => v.category).sum ≤ 8) (hC : kx_c G l mM_clear d mc ms (.ref b :: as) h Qc) (hk : ∀ o h', Qc o h' → kx_k G l M (d + 1) Q kc ks pc lv st o h') : kx_w G l M (d + 1) Q (kc + mc) (ks + ms) pc lv sk h := kx_inv (N := mM_clear) (host := "VersionedTables") (by rw [hn]; exact kM_clear) (by rw [hM]; exact Or.inr (kx_by 1003 (by decide +kernel) (by decide +kernel))) (kx_by 1004 (by decide +kernel) (by decide +kernel)) (kx_by 1005 (by decide +kernel) (by decide +kernel)) (ci := 8) rfl hd hsk hst hb hC hk
/-- V_errorAt -/
theorem cL_99 {b : Nat} {fs sk as : List Value} {G : kx_G} {l : Launch} {M : kx_M} {d mc ms : Nat} {Q Qc : Outcome → kx_H → Prop} {kc ks pc : Nat} {lv : kx_L} {st : List Value} {h : kx_H} (hM : M.1.cls = "VersionedTablesLaw") (hd : decode M.2.1 pc = .ok (.invokevirtual 99, 3)) (hb : kx_is G h b (.inr (0, fs))) (hn : as.length = 0) (hsk : sk = as.reverse ++ .ref b :: st) (hst : (st.map fun v => v.category).sum ≤ 8) (hC : kx_c G l mV_errorAt d mc ms (.ref b :: as) h Qc) (hk : ∀ o h', Qc o h' → kx_k G l M (d + 1) Q kc ks pc lv st o h') : kx_w G l M (d + 1) Q (kc + mc) (ks + ms) pc lv sk h := kx_inv (N := mV_errorAt) (host := "VersionedTables") (by rw [hn]; exact kV_errorAt) (by rw [hM]; exact Or.inr (kx_by 211 (by decide +kernel) (by decide +kernel))) (kx_by 212 (by decide +kernel) (by decide +kernel)) (kx_by 213 (by decide +kernel) (by decide +kernel)) (ci := 0) rfl hd hsk hst hb hC hk
/-- M_errorAt -/
theorem cL_102 {b : Nat} {fs sk as : List Value} {G : kx_G} {l : Launch} {M : kx_M} {d mc ms : Nat} {Q Qc : Outcome → kx_H → Prop} {kc ks pc : Nat} {lv : kx_L} {st : List Value} {h : kx_H} (hM : M.1.cls = "VersionedTablesLaw") (hd : decode M.2.1 pc = .ok (.invokevirtual 102, 3)) (hb : kx_is G h b (.inr (8, fs))) (hn : as.length = 0) (hsk : sk = as.reverse ++ .ref b :: st) (hst : (st.map fun v => v.category).sum ≤ 8) (hC : kx_c G l mM_errorAt d mc ms (.ref b :: as) h Qc) (hk : ∀ o h', Qc o h' → kx_k G l M (d + 1) Q kc ks pc lv st o h') : kx_w G l M (d + 1) Q (kc + mc) (ks + ms) pc lv sk h := kx_inv (N := mM_errorAt) (host := "VersionedTables") (by rw [hn]; exact kM_errorAt) (by rw [hM]; exact Or.inr (kx_by 1007 (by decide +kernel) (by decide +kernel))) (kx_by 1008 (by decide +kernel) (by decide +kernel)) (kx_by 1009 (by decide +kernel) (by decide +kernel)) (ci := 8) rfl hd hsk hst hb hC hk
/-- L_begin -/
theorem cL_103 {sk as : List Value} {G : kx_G} {l : Launch} {M : kx_M} {d mc ms : Nat} {Q Qc : Outcome → kx_H → Prop} {kc ks pc : Nat} {lv : kx_L} {st : List Value} {h : kx_H} (hM : M.1.cls = "VersionedTablesLaw") (hd : decode M.2.1 pc = .ok (.invokestatic 103, 3)) (hn : as.length = 2) (hsk : sk = as.reverse ++ st) (hst : (st.map fun v => v.category).sum ≤ 8) (hC : kx_c G l mL_begin d mc ms as h Qc) (hk : ∀ o h', Qc o h' → kx_k G l M (d + 1) Q kc ks pc lv st o h') : kx_w G l M (d + 1) Q (kc + mc) (ks + ms) pc lv sk h := kx_sti (N := mL_begin) (host := "VersionedTables") (by rw [hn]; exact kL_begin) (by rw [hM]; exact Or.inr (kx_by 514 (by decide +kernel) (by decide +kernel))) (kx_by 515 (by decide +kernel) (by decide +kernel)) hd hsk hst hC hk
/-- M_begin -/
theorem cL_105 {b : Nat} {fs sk as : List Value} {G : kx_G} {l : Launch} {M : kx_M} {d mc ms : Nat} {Q Qc : Outcome → kx_H → Prop} {kc ks pc : Nat} {lv : kx_L} {st : List Value} {h : kx_H} (hM : M.1.cls = "VersionedTablesLaw") (hd : decode M.2.1 pc = .ok (.invokevirtual 105, 3)) (hb : kx_is G h b (.inr (8, fs))) (hn : as.length = 0) (hsk : sk = as.reverse ++ .ref b :: st) (hst : (st.map fun v => v.category).sum ≤ 8) (hC : kx_c G l mM_begin d mc ms (.ref b :: as) h Qc) (hk : ∀ o h', Qc o h' → kx_k G l M (d + 1) Q kc ks pc lv st o h') : kx_w G l M (d + 1) Q (kc + mc) (ks + ms) pc lv sk h := kx_inv (N := mM_begin) (host := "VersionedTables") (by rw [hn]; exact kM_begin) (by rw [hM]; exact Or.inr (kx_by 916 (by decide +kernel) (by decide +kernel))) (kx_by 917 (by decide +kernel) (by decide +kernel)) (kx_by 918 (by decide +kernel) (by decide +kernel)) (ci := 8) rfl hd hsk hst hb hC hk
/-- L_commit -/
theorem cL_106 {sk as : List Value} {G : kx_G} {l : Launch} {M : kx_M} {d mc ms : Nat} {Q Qc : Outcome → kx_H → Prop} {kc ks pc : Nat} {lv : kx_L} {st : List Value} {h : kx_H} (hM : M.1.cls = "VersionedTablesLaw") (hd : decode M.2.1 pc = .ok (.invokestatic 106, 3)) (hn : as.length = 2) (hsk : sk = as.reverse ++ st) (hst : (st.map fun v => v.category).sum ≤ 8) (hC : kx_c G l mL_commit d mc ms as h Qc) (hk : ∀ o h', Qc o h' → kx_k G l M (d + 1) Q kc ks pc lv st o h') : kx_w G l M (d + 1) Q (kc + mc) (ks + ms) pc lv sk h := kx_sti (N := mL_commit) (host := "VersionedTables") (by rw [hn]; exact kL_commit) (by rw [hM]; exact Or.inr (kx_by 526 (by decide +kernel) (by decide +kernel))) (kx_by 527 (by decide +kernel) (by decide +kernel)) hd hsk hst hC hk
/-- M_commit -/
theorem cL_109 {b : Nat} {fs sk as : List Value} {G : kx_G} {l : Launch} {M : kx_M} {d mc ms : Nat} {Q Qc : Outcome → kx_H → Prop} {kc ks pc : Nat} {lv : kx_L} {st : List Value} {h : kx_H} (hM : M.1.cls = "VersionedTablesLaw") (hd : decode M.2.1 pc = .ok (.invokevirtual 109, 3)) (hb : kx_is G h b (.inr (8, fs))) (hn : as.length = 1) (hsk : sk = as.reverse ++ .ref b :: st) (hst : (st.map fun v => v.category).sum ≤ 8) (hC : kx_c G l mM_commit d mc ms (.ref b :: as) h Qc) (hk : ∀ o h', Qc o h' → kx_k G l M (d + 1) Q kc ks pc lv st o h') : kx_w G l M (d + 1) Q (kc + mc) (ks + ms) pc lv sk h := kx_inv (N := mM_commit) (host := "VersionedTables") (by rw [hn]; exact kM_commit) (by rw [hM]; exact Or.inr (kx_by 924 (by decide +kernel) (by decide +kernel))) (kx_by 925 (by decide +kernel) (by decide +kernel)) (kx_by 926 (by decide +kernel) (by decide +kernel)) (ci := 8) rfl hd hsk hst hb hC hk
/-- L_abort -/
theorem cL_110 {sk as : List Value} {G : kx_G} {l : Launch} {M : kx_M} {d mc ms : Nat} {Q Qc : Outcome → kx_H → Prop} {kc ks pc : Nat} {lv : kx_L} {st : List Value} {h : kx_H} (hM : M.1.cls = "VersionedTablesLaw") (hd : decode M.2.1 pc = .ok (.invokestatic 110, 3)) (hn : as.length = 3) (hsk : sk = as.reverse ++ st) (hst : (st.map fun v => v.category).sum ≤ 8) (hC : kx_c G l mL_abort d mc ms as h Qc) (hk : ∀ o h', Qc o h' → kx_k G l M (d + 1) Q kc ks pc lv st o h') : kx_w G l M (d + 1) Q (kc + mc) (ks + ms) pc lv sk h := kx_sti (N := mL_abort) (host := "VersionedTables") (by rw [hn]; exact kL_abort) (by rw [hM]; exact Or.inr (kx_by 558 (by decide +kernel) (by decide +kernel))) (kx_by 559 (by decide +kernel) (by decide +kernel)) hd hsk hst hC hk
/-- M_abort -/
theorem cL_112 {b : Nat} {fs sk as : List Value} {G : kx_G} {l : Launch} {M : kx_M} {d mc ms : Nat} {Q Qc : Outcome → kx_H → Prop} {kc ks pc : Nat} {lv : kx_L} {st : List Value} {h : kx_H} (hM : M.1.cls = "VersionedTablesLaw") (hd : decode M.2.1 pc = .ok (.invokevirtual 112, 3)) (hb : kx_is G h b (.inr (8, fs))) (hn : as.length = 1) (hsk : sk = as.reverse ++ .ref b :: st) (hst : (st.map fun v => v.category).sum ≤ 8) (hC : kx_c G l mM_abort d mc ms (.ref b :: as) h Qc) (hk : ∀ o h', Qc o h' → kx_k G l M (d + 1) Q kc ks pc lv st o h') : kx_w G l M (d + 1) Q (kc + mc) (ks + ms) pc lv sk h := kx_inv (N := mM_abort) (host := "VersionedTables") (by rw [hn]; exact kM_abort) (by rw [hM]; exact Or.inr (kx_by 932 (by decide +kernel) (by decide +kernel))) (kx_by 933 (by decide +kernel) (by decide +kernel)) (kx_by 934 (by decide +kernel) (by decide +kernel)) (ci := 8) rfl hd hsk hst hb hC hk
/-- L_insert -/
theorem cL_113 {sk as : List Value} {G : kx_G} {l : Launch} {M : kx_M} {d mc ms : Nat} {Q Qc : Outcome → kx_H → Prop} {kc ks pc : Nat} {lv : kx_L} {st : List Value} {h : kx_H} (hM : M.1.cls = "VersionedTablesLaw") (hd : decode M.2.1 pc = .ok (.invokestatic 113, 3)) (hn : as.length = 8) (hsk : sk = as.reverse ++ st) (hst : (st.map fun v => v.category).sum ≤ 8) (hC : kx_c G l mL_insert d mc ms as h Qc) (hk : ∀ o h', Qc o h' → kx_k G l M (d + 1) Q kc ks pc lv st o h') : kx_w G l M (d + 1) Q (kc + mc) (ks + ms) pc lv sk h := kx_sti (N := mL_insert) (host := "VersionedTables") (by rw [hn]; exact kL_insert) (by rw [hM]; exact Or.inr (kx_by 576 (by decide +kernel) (by decide +kernel))) (kx_by 577 (by decide +kernel) (by decide +kernel)) hd hsk hst hC hk
/-- M_insert -/
theorem cL_116 {b : Nat} {fs sk as : List Value} {G : kx_G} {l : Launch} {M : kx_M} {d mc ms : Nat} {Q Qc : Outcome → kx_H → Prop} {kc ks pc : Nat} {lv : kx_L} {st : List Value} {h : kx_H} (hM : M.1.cls = "VersionedTablesLaw") (hd : decode M.2.1 pc = .ok (.invokevirtual 116, 3)) (hb : kx_is G h b (.inr (8, fs))) (hn : as.length = 6) (hsk : sk = as.reverse ++ .ref b :: st) (hst : (st.map fun v => v.category).sum ≤ 8) (hC : kx_c G l mM_insert d mc ms (.ref b :: as) h Qc) (hk : ∀ o h', Qc o h' → kx_k G l M (d + 1) Q kc ks pc lv st o h') : kx_w G l M (d + 1) Q (kc + mc) (ks + ms) pc lv sk h := kx_inv (N := mM_insert) (host := "VersionedTables") (by rw [hn]; exact kM_insert) (by rw [hM]; exact Or.inr (kx_by 1070 (by decide +kernel) (by decide +kernel))) (kx_by 1071 (by decide +kernel) (by decide +kernel)) (kx_by 1072 (by decide +kernel) (by decide +kernel)) (ci := 8) rfl hd hsk hst hb hC hk
/-- L_select -/
theorem cL_117 {sk as : List Value} {G : kx_G} {l : Launch} {M : kx_M} {d mc ms : Nat} {Q Qc : Outcome → kx_H → Prop} {kc ks pc : Nat} {lv : kx_L} {st : List Value} {h : kx_H} (hM : M.1.cls = "VersionedTablesLaw") (hd : decode M.2.1 pc = .ok (.invokestatic 117, 3)) (hn : as.length = 4) (hsk : sk = as.reverse ++ st) (hst : (st.map fun v => v.category).sum ≤ 8) (hC : kx_c G l mL_select d mc ms as h Qc) (hk : ∀ o h', Qc o h' → kx_k G l M (d + 1) Q kc ks pc lv st o h') : kx_w G l M (d + 1) Q (kc + mc) (ks + ms) pc lv sk h := kx_sti (N := mL_select) (host := "VersionedTables") (by rw [hn]; exact kL_select) (by rw [hM]; exact Or.inr (kx_by 648 (by decide +kernel) (by decide +kernel))) (kx_by 649 (by decide +kernel) (by decide +kernel)) hd hsk hst hC hk
/-- M_select -/
theorem cL_120 {b : Nat} {fs sk as : List Value} {G : kx_G} {l : Launch} {M : kx_M} {d mc ms : Nat} {Q Qc : Outcome → kx_H → Prop} {kc ks pc : Nat} {lv : kx_L} {st : List Value} {h : kx_H} (hM : M.1.cls = "VersionedTablesLaw") (hd : decode M.2.1 pc = .ok (.invokevirtual 120, 3)) (hb : kx_is G h b (.inr (8, fs))) (hn : as.length = 2) (hsk : sk = as.reverse ++ .ref b :: st) (hst : (st.map fun v => v.category).sum ≤ 8) (hC : kx_c G l mM_select d mc ms (.ref b :: as) h Qc) (hk : ∀ o h', Qc o h' → kx_k G l M (d + 1) Q kc ks pc lv st o h') : kx_w G l M (d + 1) Q (kc + mc) (ks + ms) pc lv sk h := kx_inv (N := mM_select) (host := "VersionedTables") (by rw [hn]; exact kM_select) (by rw [hM]; exact Or.inr (kx_by 1011 (by decide +kernel) (by decide +kernel))) (kx_by 1012 (by decide +kernel) (by decide +kernel)) (kx_by 1013 (by decide +kernel) (by decide +kernel)) (ci := 8) rfl hd hsk hst hb hC hk
/-- L_update -/
theorem cL_121 {sk as : List Value} {G : kx_G} {l : Launch} {M : kx_M} {d mc ms : Nat} {Q Qc : Outcome → kx_H → Prop} {kc ks pc : Nat} {lv : kx_L} {st : List Value} {h : kx_H} (hM : M.1.cls = "VersionedTablesLaw") (hd : decode M.2.1 pc = .ok (.invokestatic 121, 3)) (hn : as.length = 4) (hsk : sk = as.reverse ++ st) (hst : (st.map fun v => v.category).sum ≤ 8) (hC : kx_c G l mL_update d mc ms as h Qc) (hk : ∀ o h', Qc o h' → kx_k G l M (d + 1) Q kc ks pc lv st o h') : kx_w G l M (d + 1) Q (kc + mc) (ks + ms) pc lv sk h := kx_sti (N := mL_update) (host := "VersionedTables") (by rw [hn]; exact kL_update) (by rw [hM]; exact Or.inr (kx_by 724 (by decide +kernel) (by decide +kernel))) (kx_by 725 (by decide +kernel) (by decide +kernel)) hd hsk hst hC hk
/-- M_update -/
theorem cL_123 {b : Nat} {fs sk as : List Value} {G : kx_G} {l : Launch} {M : kx_M} {d mc ms : Nat} {Q Qc : Outcome → kx_H → Prop} {kc ks pc : Nat} {lv : kx_L} {st : List Value} {h : kx_H} (hM : M.1.cls = "VersionedTablesLaw") (hd : decode M.2.1 pc = .ok (.invokevirtual 123, 3)) (hb : kx_is G h b (.inr (8, fs))) (hn : as.length = 2) (hsk : sk = as.reverse ++ .ref b :: st) (hst : (st.map fun v => v.category).sum ≤ 8) (hC : kx_c G l mM_update d mc ms (.ref b :: as) h Qc) (hk : ∀ o h', Qc o h' → kx_k G l M (d + 1) Q kc ks pc lv st o h') : kx_w G l M (d + 1) Q (kc + mc) (ks + ms) pc lv sk h := kx_inv (N := mM_update) (host := "VersionedTables") (by rw [hn]; exact kM_update) (by rw [hM]; exact Or.inr (kx_by 1042 (by decide +kernel) (by decide +kernel))) (kx_by 1043 (by decide +kernel) (by decide +kernel)) (kx_by 1044 (by decide +kernel) (by decide +kernel)) (ci := 8) rfl hd hsk hst hb hC hk
/-- L_delete -/
theorem cL_124 {sk as : List Value} {G : kx_G} {l : Launch} {M : kx_M} {d mc ms : Nat} {Q Qc : Outcome → kx_H → Prop} {kc ks pc : Nat} {lv : kx_L} {st : List Value} {h : kx_H} (hM : M.1.cls = "VersionedTablesLaw") (hd : decode M.2.1 pc = .ok (.invokestatic 124, 3)) (hn : as.length = 4) (hsk : sk = as.reverse ++ st) (hst : (st.map fun v => v.category).sum ≤ 8) (hC : kx_c G l mL_delete d mc ms as h Qc) (hk : ∀ o h', Qc o h' → kx_k G l M (d + 1) Q kc ks pc lv st o h') : kx_w G l M (d + 1) Q (kc + mc) (ks + ms) pc lv sk h := kx_sti (N := mL_delete) (host := "VersionedTables") (by rw [hn]; exact kL_delete) (by rw [hM]; exact Or.inr (kx_by 751 (by decide +kernel) (by decide +kernel))) (kx_by 752 (by decide +kernel) (by decide +kernel)) hd hsk hst hC hk
/-- M_delete -/
theorem cL_126 {b : Nat} {fs sk as : List Value} {G : kx_G} {l : Launch} {M : kx_M} {d mc ms : Nat} {Q Qc : Outcome → kx_H → Prop} {kc ks pc : Nat} {lv : kx_L} {st : List Value} {h : kx_H} (hM : M.1.cls = "VersionedTablesLaw") (hd : decode M.2.1 pc = .ok (.invokevirtual 126, 3)) (hb : kx_is G h b (.inr (8, fs))) (hn : as.length = 2) (hsk : sk = as.reverse ++ .ref b :: st) (hst : (st.map fun v => v.category).sum ≤ 8) (hC : kx_c G l mM_delete d mc ms (.ref b :: as) h Qc) (hk : ∀ o h', Qc o h' → kx_k G l M (d + 1) Q kc ks pc lv st o h') : kx_w G l M (d + 1) Q (kc + mc) (ks + ms) pc lv sk h := kx_inv (N := mM_delete) (host := "VersionedTables") (by rw [hn]; exact kM_delete) (by rw [hM]; exact Or.inr (kx_by 1066 (by decide +kernel) (by decide +kernel))) (kx_by 1067 (by decide +kernel) (by decide +kernel)) (kx_by 1068 (by decide +kernel) (by decide +kernel)) (ci := 8) rfl hd hsk hst hb hC hk
/-- L_result -/
theorem cL_127 {sk as : List Value} {G : kx_G} {l : Launch} {M : kx_M} {d mc ms : Nat} {Q Qc : Outcome → kx_H → Prop} {kc ks pc : Nat} {lv : kx_L} {st : List Value} {h : kx_H} (hM : M.1.cls = "VersionedTablesLaw") (hd : decode M.2.1 pc = .ok (.invokestatic 127, 3)) (hn : as.length = 4) (hsk : sk = as.reverse ++ st) (hst : (st.map fun v => v.category).sum ≤ 8) (hC : kx_c G l mL_result d mc ms as h Qc) (hk : ∀ o h', Qc o h' → kx_k G l M (d + 1) Q kc ks pc lv st o h') : kx_w G l M (d + 1) Q (kc + mc) (ks + ms) pc lv sk h := kx_sti (N := mL_result) (host := "VersionedTables") (by rw [hn]; exact kL_result) (by rw [hM]; exact Or.inr (kx_by 758 (by decide +kernel) (by decide +kernel))) (kx_by 759 (by decide +kernel) (by decide +kernel)) hd hsk hst hC hk
/-- M_result -/
theorem cL_129 {b : Nat} {fs sk as : List Value} {G : kx_G} {l : Launch} {M : kx_M} {d mc ms : Nat} {Q Qc : Outcome → kx_H → Prop} {kc ks pc : Nat} {lv : kx_L} {st : List Value} {h : kx_H} (hM : M.1.cls = "VersionedTablesLaw") (hd : decode M.2.1 pc = .ok (.invokevirtual 129, 3)) (hb : kx_is G h b (.inr (8, fs))) (hn : as.length = 2) (hsk : sk = as.reverse ++ .ref b :: st) (hst : (st.map fun v => v.category).sum ≤ 8) (hC : kx_c G l mM_result d mc ms (.ref b :: as) h Qc) (hk : ∀ o h', Qc o h' → kx_k G l M (d + 1) Q kc ks pc lv st o h') : kx_w G l M (d + 1) Q (kc + mc) (ks + ms) pc lv sk h := kx_inv (N := mM_result) (host := "VersionedTables") (by rw [hn]; exact kM_result) (by rw [hM]; exact Or.inr (kx_by 1074 (by decide +kernel) (by decide +kernel))) (kx_by 1075 (by decide +kernel) (by decide +kernel)) (kx_by 1076 (by decide +kernel) (by decide +kernel)) (ci := 8) rfl hd hsk hst hb hC hk
/-- L_mean -/
theorem cL_130 {sk as : List Value} {G : kx_G} {l : Launch} {M : kx_M} {d mc ms : Nat} {Q Qc : Outcome → kx_H → Prop} {kc ks pc : Nat} {lv : kx_L} {st : List Value} {h : kx_H} (hM : M.1.cls = "VersionedTablesLaw") (hd : decode M.2.1 pc = .ok (.invokestatic 130, 3)) (hn : as.length = 3) (hsk : sk = as.reverse ++ st) (hst : (st.map fun v => v.category).sum ≤ 8) (hC : kx_c G l mL_mean d mc ms as h Qc) (hk : ∀ o h', Qc o h' → kx_k G l M (d + 1) Q kc ks pc lv st o h') : kx_w G l M (d + 1) Q (kc + mc) (ks + ms) pc lv sk h := kx_sti (N := mL_mean) (host := "VersionedTables") (by rw [hn]; exact kL_mean) (by rw [hM]; exact Or.inr (kx_by 787 (by decide +kernel) (by decide +kernel))) (kx_by 788 (by decide +kernel) (by decide +kernel)) hd hsk hst hC hk
/-- M_mean -/
theorem cL_133 {b : Nat} {fs sk as : List Value} {G : kx_G} {l : Launch} {M : kx_M} {d mc ms : Nat} {Q Qc : Outcome → kx_H → Prop} {kc ks pc : Nat} {lv : kx_L} {st : List Value} {h : kx_H} (hM : M.1.cls = "VersionedTablesLaw") (hd : decode M.2.1 pc = .ok (.invokevirtual 133, 3)) (hb : kx_is G h b (.inr (8, fs))) (hn : as.length = 1) (hsk : sk = as.reverse ++ .ref b :: st) (hst : (st.map fun v => v.category).sum ≤ 8) (hC : kx_c G l mM_mean d mc ms (.ref b :: as) h Qc) (hk : ∀ o h', Qc o h' → kx_k G l M (d + 1) Q kc ks pc lv st o h') : kx_w G l M (d + 1) Q (kc + mc) (ks + ms) pc lv sk h := kx_inv (N := mM_mean) (host := "VersionedTables") (by rw [hn]; exact kM_mean) (by rw [hM]; exact Or.inr (kx_by 1078 (by decide +kernel) (by decide +kernel))) (kx_by 1079 (by decide +kernel) (by decide +kernel)) (kx_by 1080 (by decide +kernel) (by decide +kernel)) (ci := 8) rfl hd hsk hst hb hC hk
/-- V_vacuum -/
theorem cL_134 {b : Nat} {fs sk as : List Value} {G : kx_G} {l : Launch} {M : kx_M} {d mc ms : Nat} {Q Qc : Outcome → kx_H → Prop} {kc ks pc : Nat} {lv : kx_L} {st : List Value} {h : kx_H} (hM : M.1.cls = "VersionedTablesLaw") (hd : decode M.2.1 pc = .ok (.invokevirtual 134, 3)) (hb : kx_is G h b (.inr (0, fs))) (hn : as.length = 0) (hsk : sk = as.reverse ++ .ref b :: st) (hst : (st.map fun v => v.category).sum ≤ 8) (hC : kx_c G l mV_vacuum d mc ms (.ref b :: as) h Qc) (hk : ∀ o h', Qc o h' → kx_k G l M (d + 1) Q kc ks pc lv st o h') : kx_w G l M (d + 1) Q (kc + mc) (ks + ms) pc lv sk h := kx_inv (N := mV_vacuum) (host := "VersionedTables") (by rw [hn]; exact kV_vacuum) (by rw [hM]; exact Or.inr (kx_by 215 (by decide +kernel) (by decide +kernel))) (kx_by 216 (by decide +kernel) (by decide +kernel)) (kx_by 217 (by decide +kernel) (by decide +kernel)) (ci := 0) rfl hd hsk hst hb hC hk
/-- M_vacuum -/
theorem cL_137 {b : Nat} {fs sk as : List Value} {G : kx_G} {l : Launch} {M : kx_M} {d mc ms : Nat} {Q Qc : Outcome → kx_H → Prop} {kc ks pc : Nat} {lv : kx_L} {st : List Value} {h : kx_H} (hM : M.1.cls = "VersionedTablesLaw") (hd : decode M.2.1 pc = .ok (.invokevirtual 137, 3)) (hb : kx_is G h b (.inr (8, fs))) (hn : as.length = 0) (hsk : sk = as.reverse ++ .ref b :: st) (hst : (st.map fun v => v.category).sum ≤ 8) (hC : kx_c G l mM_vacuum d mc ms (.ref b :: as) h Qc) (hk : ∀ o h', Qc o h' → kx_k G l M (d + 1) Q kc ks pc lv st o h') : kx_w G l M (d + 1) Q (kc + mc) (ks + ms) pc lv sk h := kx_inv (N := mM_vacuum) (host := "VersionedTables") (by rw [hn]; exact kM_vacuum) (by rw [hM]; exact Or.inr (kx_by 1082 (by decide +kernel) (by decide +kernel))) (kx_by 1083 (by decide +kernel) (by decide +kernel)) (kx_by 1084 (by decide +kernel) (by decide +kernel)) (ci := 8) rfl hd hsk hst hb hC hk
/-- L_versions -/
theorem cL_138 {sk as : List Value} {G : kx_G} {l : Launch} {M : kx_M} {d mc ms : Nat} {Q Qc : Outcome → kx_H → Prop} {kc ks pc : Nat} {lv : kx_L} {st : List Value} {h : kx_H} (hM : M.1.cls = "VersionedTablesLaw") (hd : decode M.2.1 pc = .ok (.invokestatic 138, 3)) (hn : as.length = 4) (hsk : sk = as.reverse ++ st) (hst : (st.map fun v => v.category).sum ≤ 8) (hC : kx_c G l mL_versions d mc ms as h Qc) (hk : ∀ o h', Qc o h' → kx_k G l M (d + 1) Q kc ks pc lv st o h') : kx_w G l M (d + 1) Q (kc + mc) (ks + ms) pc lv sk h := kx_sti (N := mL_versions) (host := "VersionedTables") (by rw [hn]; exact kL_versions) (by rw [hM]; exact Or.inr (kx_by 801 (by decide +kernel) (by decide +kernel))) (kx_by 802 (by decide +kernel) (by decide +kernel)) hd hsk hst hC hk
/-- M_versions -/
theorem cL_140 {b : Nat} {fs sk as : List Value} {G : kx_G} {l : Launch} {M : kx_M} {d mc ms : Nat} {Q Qc : Outcome → kx_H → Prop} {kc ks pc : Nat} {lv : kx_L} {st : List Value} {h : kx_H} (hM : M.1.cls = "VersionedTablesLaw") (hd : decode M.2.1 pc = .ok (.invokevirtual 140, 3)) (hb : kx_is G h b (.inr (8, fs))) (hn : as.length = 2) (hsk : sk = as.reverse ++ .ref b :: st) (hst : (st.map fun v => v.category).sum ≤ 8) (hC : kx_c G l mM_versions d mc ms (.ref b :: as) h Qc) (hk : ∀ o h', Qc o h' → kx_k G l M (d + 1) Q kc ks pc lv st o h') : kx_w G l M (d + 1) Q (kc + mc) (ks + ms) pc lv sk h := kx_inv (N := mM_versions) (host := "VersionedTables") (by rw [hn]; exact kM_versions) (by rw [hM]; exact Or.inr (kx_by 1086 (by decide +kernel) (by decide +kernel))) (kx_by 1087 (by decide +kernel) (by decide +kernel)) (kx_by 1088 (by decide +kernel) (by decide +kernel)) (ci := 8) rfl hd hsk hst hb hC hk
/-- V_count -/
theorem cL_141 {b : Nat} {fs sk as : List Value} {G : kx_G} {l : Launch} {M : kx_M} {d mc ms : Nat} {Q Qc : Outcome → kx_H → Prop} {kc ks pc : Nat} {lv : kx_L} {st : List Value} {h : kx_H} (hM : M.1.cls = "VersionedTablesLaw") (hd : decode M.2.1 pc = .ok (.invokevirtual 141, 3)) (hb : kx_is G h b (.inr (0, fs))) (hn : as.length = 1) (hsk : sk = as.reverse ++ .ref b :: st) (hst : (st.map fun v => v.category).sum ≤ 8) (hC : kx_c G l mV_count d mc ms (.ref b :: as) h Qc) (hk : ∀ o h', Qc o h' → kx_k G l M (d + 1) Q kc ks pc lv st o h') : kx_w G l M (d + 1) Q (kc + mc) (ks + ms) pc lv sk h := kx_inv (N := mV_count) (host := "VersionedTables") (by rw [hn]; exact kV_count) (by rw [hM]; exact Or.inr (kx_by 249 (by decide +kernel) (by decide +kernel))) (kx_by 250 (by decide +kernel) (by decide +kernel)) (kx_by 251 (by decide +kernel) (by decide +kernel)) (ci := 0) rfl hd hsk hst hb hC hk
/-- M_count -/
theorem cL_144 {b : Nat} {fs sk as : List Value} {G : kx_G} {l : Launch} {M : kx_M} {d mc ms : Nat} {Q Qc : Outcome → kx_H → Prop} {kc ks pc : Nat} {lv : kx_L} {st : List Value} {h : kx_H} (hM : M.1.cls = "VersionedTablesLaw") (hd : decode M.2.1 pc = .ok (.invokevirtual 144, 3)) (hb : kx_is G h b (.inr (8, fs))) (hn : as.length = 1) (hsk : sk = as.reverse ++ .ref b :: st) (hst : (st.map fun v => v.category).sum ≤ 8) (hC : kx_c G l mM_count d mc ms (.ref b :: as) h Qc) (hk : ∀ o h', Qc o h' → kx_k G l M (d + 1) Q kc ks pc lv st o h') : kx_w G l M (d + 1) Q (kc + mc) (ks + ms) pc lv sk h := kx_inv (N := mM_count) (host := "VersionedTables") (by rw [hn]; exact kM_count) (by rw [hM]; exact Or.inr (kx_by 1094 (by decide +kernel) (by decide +kernel))) (kx_by 1095 (by decide +kernel) (by decide +kernel)) (kx_by 1096 (by decide +kernel) (by decide +kernel)) (ci := 8) rfl hd hsk hst hb hC hk
theorem cM_1 {a : Nat} {G : kx_G} {l : Launch} {M : kx_M} {d : Nat} {Q : Outcome → kx_H → Prop} {kc ks pc : Nat} {lv : kx_L} {st : List Value} {h : kx_H} (hM : M.1.cls = "VersionedTablesModel") (hd : decode M.2.1 pc = .ok (.invokespecial 1, 3)) (hst : (st.map fun v => v.category).sum ≤ 8) (kk : kx_w G l M d Q kc ks (pc + 3) lv st h) : kx_w G l M d Q kc ks pc lv (.ref a :: st) h := kx_obj (by rw [hM]; exact kx_by 815 (by decide +kernel) (by decide +kernel)) (kx_by 106 (by decide +kernel) (by decide +kernel)) (kx_by 107 (by decide +kernel) (by decide +kernel)) hst hd kk
/-- M.columns -/
theorem pM_7 {a : Nat} {fs : List Value} {v : Value} {G : kx_G} {l : Launch} {M : kx_M} {d : Nat} {Q : Outcome → kx_H → Prop} {kc ks pc : Nat} {lv : kx_L} {st : List Value} {h : kx_H} (hM : M.1.cls = "VersionedTablesModel") (hd : decode M.2.1 pc = .ok (.getfield 7, 3)) (hc : kx_is G h a (.inr (8, fs))) (hv : fs[1]? = some v) (kk : kx_w G l M d Q kc ks (pc + 3) lv (v :: st) h) : kx_w G l M d Q kc ks pc lv (.ref a :: st) h := kx_getf (C := kR_M) (T := kF_M) (N := 29) (k := 1) rfl kI_M (by decide) (by rw [hM]; exact kx_by 817 (by decide +kernel) (by decide +kernel)) hd hc hv kk
/-- M.columns is written -/
theorem qM_7 {a : Nat} {fs : List Value} {v : Value} {G : kx_G} {l : Launch} {M : kx_M} {d : Nat} {Q : Outcome → kx_H → Prop} {kc ks pc : Nat} {lv : kx_L} {st : List Value} {h : kx_H} (hM : M.1.cls = "VersionedTablesModel") (hI : M.1.name = "<init>") (hd : decode M.2.1 pc = .ok (.putfield 7, 3)) (hc : kx_is G h a (.inr (8, fs))) (hn : narrow (.array .int) v = v) (hf : fits (.array .int) v = true) (hlen : 1 < fs.length) (kk : kx_w G l M d Q kc ks (pc + 3) lv st (kx_set h a (.inr (8, fs.set 1 v)))) : kx_w G l M d Q kc ks pc lv (v :: .ref a :: st) h := kx_puti (C := kR_M) (T := kF_M) (N := 29) (k := 1) (ty0 := kT_M) (ty := (.array .int)) rfl kI_M kY_M kN_M (by decide) (by rw [hM]; exact kx_by 817 (by decide +kernel) (by decide +kernel)) rfl (by rw [hI]) (by rw [hM]; rfl) (by decide +kernel) hd hc hn hf hlen kk
/-- M.rows -/
theorem pM_13 {a : Nat} {fs : List Value} {v : Value} {G : kx_G} {l : Launch} {M : kx_M} {d : Nat} {Q : Outcome → kx_H → Prop} {kc ks pc : Nat} {lv : kx_L} {st : List Value} {h : kx_H} (hM : M.1.cls = "VersionedTablesModel") (hd : decode M.2.1 pc = .ok (.getfield 13, 3)) (hc : kx_is G h a (.inr (8, fs))) (hv : fs[2]? = some v) (kk : kx_w G l M d Q kc ks (pc + 3) lv (v :: st) h) : kx_w G l M d Q kc ks pc lv (.ref a :: st) h := kx_getf (C := kR_M) (T := kF_M) (N := 29) (k := 2) rfl kI_M (by decide) (by rw [hM]; exact kx_by 818 (by decide +kernel) (by decide +kernel)) hd hc hv kk
/-- M.rows is written -/
theorem qM_13 {a : Nat} {fs : List Value} {v : Value} {G : kx_G} {l : Launch} {M : kx_M} {d : Nat} {Q : Outcome → kx_H → Prop} {kc ks pc : Nat} {lv : kx_L} {st : List Value} {h : kx_H} (hM : M.1.cls = "VersionedTablesModel") (hI : M.1.name = "<init>") (hd : decode M.2.1 pc = .ok (.putfield 13, 3)) (hc : kx_is G h a (.inr (8, fs))) (hn : narrow (.array .int) v = v) (hf : fits (.array .int) v = true) (hlen : 2 < fs.length) (kk : kx_w G l M d Q kc ks (pc + 3) lv st (kx_set h a (.inr (8, fs.set 2 v)))) : kx_w G l M d Q kc ks pc lv (v :: .ref a :: st) h := kx_puti (C := kR_M) (T := kF_M) (N := 29) (k := 2) (ty0 := kT_M) (ty := (.array .int)) rfl kI_M kY_M kN_M (by decide) (by rw [hM]; exact kx_by 818 (by decide +kernel) (by decide +kernel)) rfl (by rw [hI]) (by rw [hM]; rfl) (by decide +kernel) hd hc hn hf hlen kk
/-- M.scanned -/
theorem pM_16 {a : Nat} {fs : List Value} {v : Value} {G : kx_G} {l : Launch} {M : kx_M} {d : Nat} {Q : Outcome → kx_H → Prop} {kc ks pc : Nat} {lv : kx_L} {st : List Value} {h : kx_H} (hM : M.1.cls = "VersionedTablesModel") (hd : decode M.2.1 pc = .ok (.getfield 16, 3)) (hc : kx_is G h a (.inr (8, fs))) (hv : fs[3]? = some v) (kk : kx_w G l M d Q kc ks (pc + 3) lv (v :: st) h) : kx_w G l M d Q kc ks pc lv (.ref a :: st) h := kx_getf (C := kR_M) (T := kF_M) (N := 29) (k := 3) rfl kI_M (by decide) (by rw [hM]; exact kx_by 819 (by decide +kernel) (by decide +kernel)) hd hc hv kk
/-- M.scanned is written -/
theorem qM_16 {a : Nat} {fs : List Value} {v : Value} {G : kx_G} {l : Launch} {M : kx_M} {d : Nat} {Q : Outcome → kx_H → Prop} {kc ks pc : Nat} {lv : kx_L} {st : List Value} {h : kx_H} (hM : M.1.cls = "VersionedTablesModel") (hI : M.1.name = "<init>") (hd : decode M.2.1 pc = .ok (.putfield 16, 3)) (hc : kx_is G h a (.inr (8, fs))) (hn : narrow (.array .int) v = v) (hf : fits (.array .int) v = true) (hlen : 3 < fs.length) (kk : kx_w G l M d Q kc ks (pc + 3) lv st (kx_set h a (.inr (8, fs.set 3 v)))) : kx_w G l M d Q kc ks pc lv (v :: .ref a :: st) h := kx_puti (C := kR_M) (T := kF_M) (N := 29) (k := 3) (ty0 := kT_M) (ty := (.array .int)) rfl kI_M kY_M kN_M (by decide) (by rw [hM]; exact kx_by 819 (by decide +kernel) (by decide +kernel)) rfl (by rw [hI]) (by rw [hM]; rfl) (by decide +kernel) hd hc hn hf hlen kk
/-- M.version -/
theorem pM_19 {a : Nat} {fs : List Value} {v : Value} {G : kx_G} {l : Launch} {M : kx_M} {d : Nat} {Q : Outcome → kx_H → Prop} {kc ks pc : Nat} {lv : kx_L} {st : List Value} {h : kx_H} (hM : M.1.cls = "VersionedTablesModel") (hd : decode M.2.1 pc = .ok (.getfield 19, 3)) (hc : kx_is G h a (.inr (8, fs))) (hv : fs[4]? = some v) (kk : kx_w G l M d Q kc ks (pc + 3) lv (v :: st) h) : kx_w G l M d Q kc ks pc lv (.ref a :: st) h := kx_getf (C := kR_M) (T := kF_M) (N := 29) (k := 4) rfl kI_M (by decide) (by rw [hM]; exact kx_by 820 (by decide +kernel) (by decide +kernel)) hd hc hv kk
/-- M.version is written -/
theorem qM_19 {a : Nat} {fs : List Value} {v : Value} {G : kx_G} {l : Launch} {M : kx_M} {d : Nat} {Q : Outcome → kx_H → Prop} {kc ks pc : Nat} {lv : kx_L} {st : List Value} {h : kx_H} (hM : M.1.cls = "VersionedTablesModel") (hI : M.1.name = "<init>") (hd : decode M.2.1 pc = .ok (.putfield 19, 3)) (hc : kx_is G h a (.inr (8, fs))) (hn : narrow (.array .int) v = v) (hf : fits (.array .int) v = true) (hlen : 4 < fs.length) (kk : kx_w G l M d Q kc ks (pc + 3) lv st (kx_set h a (.inr (8, fs.set 4 v)))) : kx_w G l M d Q kc ks pc lv (v :: .ref a :: st) h := kx_puti (C := kR_M) (T := kF_M) (N := 29) (k := 4) (ty0 := kT_M) (ty := (.array .int)) rfl kI_M kY_M kN_M (by decide) (by rw [hM]; exact kx_by 820 (by decide +kernel) (by decide +kernel)) rfl (by rw [hI]) (by rw [hM]; rfl) (by decide +kernel) hd hc hn hf hlen kk
/-- M.values -/
theorem pM_22 {a : Nat} {fs : List Value} {v : Value} {G : kx_G} {l : Launch} {M : kx_M} {d : Nat} {Q : Outcome → kx_H → Prop} {kc ks pc : Nat} {lv : kx_L} {st : List Value} {h : kx_H} (hM : M.1.cls = "VersionedTablesModel") (hd : decode M.2.1 pc = .ok (.getfield 22, 3)) (hc : kx_is G h a (.inr (8, fs))) (hv : fs[5]? = some v) (kk : kx_w G l M d Q kc ks (pc + 3) lv (v :: st) h) : kx_w G l M d Q kc ks pc lv (.ref a :: st) h := kx_getf (C := kR_M) (T := kF_M) (N := 29) (k := 5) rfl kI_M (by decide) (by rw [hM]; exact kx_by 821 (by decide +kernel) (by decide +kernel)) hd hc hv kk
/-- M.values is written -/
theorem qM_22 {a : Nat} {fs : List Value} {v : Value} {G : kx_G} {l : Launch} {M : kx_M} {d : Nat} {Q : Outcome → kx_H → Prop} {kc ks pc : Nat} {lv : kx_L} {st : List Value} {h : kx_H} (hM : M.1.cls = "VersionedTablesModel") (hI : M.1.name = "<init>") (hd : decode M.2.1 pc = .ok (.putfield 22, 3)) (hc : kx_is G h a (.inr (8, fs))) (hn : narrow (.array .int) v = v) (hf : fits (.array .int) v = true) (hlen : 5 < fs.length) (kk : kx_w G l M d Q kc ks (pc + 3) lv st (kx_set h a (.inr (8, fs.set 5 v)))) : kx_w G l M d Q kc ks pc lv (v :: .ref a :: st) h := kx_puti (C := kR_M) (T := kF_M) (N := 29) (k := 5) (ty0 := kT_M) (ty := (.array .int)) rfl kI_M kY_M kN_M (by decide) (by rw [hM]; exact kx_by 821 (by decide +kernel) (by decide +kernel)) rfl (by rw [hI]) (by rw [hM]; rfl) (by decide +kernel) hd hc hn hf hlen kk
/-- M.state -/
theorem pM_25 {a : Nat} {fs : List Value} {v : Value} {G : kx_G} {l : Launch} {M : kx_M} {d : Nat} {Q : Outcome → kx_H → Prop} {kc ks pc : Nat} {lv : kx_L} {st : List Value} {h : kx_H} (hM : M.1.cls = "VersionedTablesModel") (hd : decode M.2.1 pc = .ok (.getfield 25, 3)) (hc : kx_is G h a (.inr (8, fs))) (hv : fs[6]? = some v) (kk : kx_w G l M d Q kc ks (pc + 3) lv (v :: st) h) : kx_w G l M d Q kc ks pc lv (.ref a :: st) h := kx_getf (C := kR_M) (T := kF_M) (N := 29) (k := 6) rfl kI_M (by decide) (by rw [hM]; exact kx_by 822 (by decide +kernel) (by decide +kernel)) hd hc hv kk
/-- M.state is written -/
theorem qM_25 {a : Nat} {fs : List Value} {v : Value} {G : kx_G} {l : Launch} {M : kx_M} {d : Nat} {Q : Outcome → kx_H → Prop} {kc ks pc : Nat} {lv : kx_L} {st : List Value} {h : kx_H} (hM : M.1.cls = "VersionedTablesModel") (hI : M.1.name = "<init>") (hd : decode M.2.1 pc = .ok (.putfield 25, 3)) (hc : kx_is G h a (.inr (8, fs))) (hn : narrow (.array .int) v = v) (hf : fits (.array .int) v = true) (hlen : 6 < fs.length) (kk : kx_w G l M d Q kc ks (pc + 3) lv st (kx_set h a (.inr (8, fs.set 6 v)))) : kx_w G l M d Q kc ks pc lv (v :: .ref a :: st) h := kx_puti (C := kR_M) (T := kF_M) (N := 29) (k := 6) (ty0 := kT_M) (ty := (.array .int)) rfl kI_M kY_M kN_M (by decide) (by rw [hM]; exact kx_by 822 (by decide +kernel) (by decide +kernel)) rfl (by rw [hI]) (by rw [hM]; rfl) (by decide +kernel) hd hc hn hf hlen kk
/-- M.line -/
theorem pM_28 {a : Nat} {fs : List Value} {v : Value} {G : kx_G} {l : Launch} {M : kx_M} {d : Nat} {Q : Outcome → kx_H → Prop} {kc ks pc : Nat} {lv : kx_L} {st : List Value} {h : kx_H} (hM : M.1.cls = "VersionedTablesModel") (hd : decode M.2.1 pc = .ok (.getfield 28, 3)) (hc : kx_is G h a (.inr (8, fs))) (hv : fs[9]? = some v) (kk : kx_w G l M d Q kc ks (pc + 3) lv (v :: st) h) : kx_w G l M d Q kc ks pc lv (.ref a :: st) h := kx_getf (C := kR_M) (T := kF_M) (N := 29) (k := 9) rfl kI_M (by decide) (by rw [hM]; exact kx_by 825 (by decide +kernel) (by decide +kernel)) hd hc hv kk
/-- M.line is written -/
theorem qM_28 {a : Nat} {fs : List Value} {v : Value} {G : kx_G} {l : Launch} {M : kx_M} {d : Nat} {Q : Outcome → kx_H → Prop} {kc ks pc : Nat} {lv : kx_L} {st : List Value} {h : kx_H} (hM : M.1.cls = "VersionedTablesModel") (hI : M.1.name = "<init>") (hd : decode M.2.1 pc = .ok (.putfield 28, 3)) (hc : kx_is G h a (.inr (8, fs))) (hn : narrow (.array .int) v = v) (hf : fits (.array .int) v = true) (hlen : 9 < fs.length) (kk : kx_w G l M d Q kc ks (pc + 3) lv st (kx_set h a (.inr (8, fs.set 9 v)))) : kx_w G l M d Q kc ks pc lv (v :: .ref a :: st) h := kx_puti (C := kR_M) (T := kF_M) (N := 29) (k := 9) (ty0 := kT_M) (ty := (.array .int)) rfl kI_M kY_M kN_M (by decide) (by rw [hM]; exact kx_by 825 (by decide +kernel) (by decide +kernel)) rfl (by rw [hI]) (by rw [hM]; rfl) (by decide +kernel) hd hc hn hf hlen kk
/-- M.errorAt -/
theorem pM_31 {a : Nat} {fs : List Value} {v : Value} {G : kx_G} {l : Launch} {M : kx_M} {d : Nat} {Q : Outcome → kx_H → Prop} {kc ks pc : Nat} {lv : kx_L} {st : List Value} {h : kx_H} (hM : M.1.cls = "VersionedTablesModel") (hd : decode M.2.1 pc = .ok (.getfield 31, 3)) (hc : kx_is G h a (.inr (8, fs))) (hv : fs[11]? = some v) (kk : kx_w G l M d Q kc ks (pc + 3) lv (v :: st) h) : kx_w G l M d Q kc ks pc lv (.ref a :: st) h := kx_getf (C := kR_M) (T := kF_M) (N := 29) (k := 11) rfl kI_M (by decide) (by rw [hM]; exact kx_by 827 (by decide +kernel) (by decide +kernel)) hd hc hv kk
/-- M.errorAt is written -/
theorem qM_31 {a : Nat} {fs : List Value} {v : Value} {G : kx_G} {l : Launch} {M : kx_M} {d : Nat} {Q : Outcome → kx_H → Prop} {kc ks pc : Nat} {lv : kx_L} {st : List Value} {h : kx_H} (hM : M.1.cls = "VersionedTablesModel") (hd : decode M.2.1 pc = .ok (.putfield 31, 3)) (hc : kx_is G h a (.inr (8, fs))) (hn : narrow .int v = v) (hf : fits .int v = true) (hlen : 11 < fs.length) (kk : kx_w G l M d Q kc ks (pc + 3) lv st (kx_set h a (.inr (8, fs.set 11 v)))) : kx_w G l M d Q kc ks pc lv (v :: .ref a :: st) h := kx_putf (C := kR_M) (T := kF_M) (N := 29) (k := 11) (ty0 := kT_M) (ty := .int) rfl kI_M kY_M kN_M (by decide) (by rw [hM]; exact kx_by 827 (by decide +kernel) (by decide +kernel)) rfl (by decide +kernel) hd hc hn hf hlen kk
/-- M.items -/
theorem pM_35 {a : Nat} {fs : List Value} {v : Value} {G : kx_G} {l : Launch} {M : kx_M} {d : Nat} {Q : Outcome → kx_H → Prop} {kc ks pc : Nat} {lv : kx_L} {st : List Value} {h : kx_H} (hM : M.1.cls = "VersionedTablesModel") (hd : decode M.2.1 pc = .ok (.getfield 35, 3)) (hc : kx_is G h a (.inr (8, fs))) (hv : fs[12]? = some v) (kk : kx_w G l M d Q kc ks (pc + 3) lv (v :: st) h) : kx_w G l M d Q kc ks pc lv (.ref a :: st) h := kx_getf (C := kR_M) (T := kF_M) (N := 29) (k := 12) rfl kI_M (by decide) (by rw [hM]; exact kx_by 828 (by decide +kernel) (by decide +kernel)) hd hc hv kk
/-- M.items is written -/
theorem qM_35 {a : Nat} {fs : List Value} {v : Value} {G : kx_G} {l : Launch} {M : kx_M} {d : Nat} {Q : Outcome → kx_H → Prop} {kc ks pc : Nat} {lv : kx_L} {st : List Value} {h : kx_H} (hM : M.1.cls = "VersionedTablesModel") (hI : M.1.name = "<init>") (hd : decode M.2.1 pc = .ok (.putfield 35, 3)) (hc : kx_is G h a (.inr (8, fs))) (hn : narrow (.array .int) v = v) (hf : fits (.array .int) v = true) (hlen : 12 < fs.length) (kk : kx_w G l M d Q kc ks (pc + 3) lv st (kx_set h a (.inr (8, fs.set 12 v)))) : kx_w G l M d Q kc ks pc lv (v :: .ref a :: st) h := kx_puti (C := kR_M) (T := kF_M) (N := 29) (k := 12) (ty0 := kT_M) (ty := (.array .int)) rfl kI_M kY_M kN_M (by decide) (by rw [hM]; exact kx_by 828 (by decide +kernel) (by decide +kernel)) rfl (by rw [hI]) (by rw [hM]; rfl) (by decide +kernel) hd hc hn hf hlen kk
/-- M.sizes -/
theorem pM_38 {a : Nat} {fs : List Value} {v : Value} {G : kx_G} {l : Launch} {M : kx_M} {d : Nat} {Q : Outcome → kx_H → Prop} {kc ks pc : Nat} {lv : kx_L} {st : List Value} {h : kx_H} (hM : M.1.cls = "VersionedTablesModel") (hd : decode M.2.1 pc = .ok (.getfield 38, 3)) (hc : kx_is G h a (.inr (8, fs))) (hv : fs[13]? = some v) (kk : kx_w G l M d Q kc ks (pc + 3) lv (v :: st) h) : kx_w G l M d Q kc ks pc lv (.ref a :: st) h := kx_getf (C := kR_M) (T := kF_M) (N := 29) (k := 13) rfl kI_M (by decide) (by rw [hM]; exact kx_by 829 (by decide +kernel) (by decide +kernel)) hd hc hv kk
/-- M.sizes is written -/
theorem qM_38 {a : Nat} {fs : List Value} {v : Value} {G : kx_G} {l : Launch} {M : kx_M} {d : Nat} {Q : Outcome → kx_H → Prop} {kc ks pc : Nat} {lv : kx_L} {st : List Value} {h : kx_H} (hM : M.1.cls = "VersionedTablesModel") (hI : M.1.name = "<init>") (hd : decode M.2.1 pc = .ok (.putfield 38, 3)) (hc : kx_is G h a (.inr (8, fs))) (hn : narrow (.array .int) v = v) (hf : fits (.array .int) v = true) (hlen : 13 < fs.length) (kk : kx_w G l M d Q kc ks (pc + 3) lv st (kx_set h a (.inr (8, fs.set 13 v)))) : kx_w G l M d Q kc ks pc lv (v :: .ref a :: st) h := kx_puti (C := kR_M) (T := kF_M) (N := 29) (k := 13) (ty0 := kT_M) (ty := (.array .int)) rfl kI_M kY_M kN_M (by decide) (by rw [hM]; exact kx_by 829 (by decide +kernel) (by decide +kernel)) rfl (by rw [hI]) (by rw [hM]; rfl) (by decide +kernel) hd hc hn hf hlen kk
/-- M.isSet -/
theorem pM_41 {a : Nat} {fs : List Value} {v : Value} {G : kx_G} {l : Launch} {M : kx_M} {d : Nat} {Q : Outcome → kx_H → Prop} {kc ks pc : Nat} {lv : kx_L} {st : List Value} {h : kx_H} (hM : M.1.cls = "VersionedTablesModel") (hd : decode M.2.1 pc = .ok (.getfield 41, 3)) (hc : kx_is G h a (.inr (8, fs))) (hv : fs[14]? = some v) (kk : kx_w G l M d Q kc ks (pc + 3) lv (v :: st) h) : kx_w G l M d Q kc ks pc lv (.ref a :: st) h := kx_getf (C := kR_M) (T := kF_M) (N := 29) (k := 14) rfl kI_M (by decide) (by rw [hM]; exact kx_by 830 (by decide +kernel) (by decide +kernel)) hd hc hv kk
/-- M.isSet is written -/
theorem qM_41 {a : Nat} {fs : List Value} {v : Value} {G : kx_G} {l : Launch} {M : kx_M} {d : Nat} {Q : Outcome → kx_H → Prop} {kc ks pc : Nat} {lv : kx_L} {st : List Value} {h : kx_H} (hM : M.1.cls = "VersionedTablesModel") (hI : M.1.name = "<init>") (hd : decode M.2.1 pc = .ok (.putfield 41, 3)) (hc : kx_is G h a (.inr (8, fs))) (hn : narrow (.array .boolean) v = v) (hf : fits (.array .boolean) v = true) (hlen : 14 < fs.length) (kk : kx_w G l M d Q kc ks (pc + 3) lv st (kx_set h a (.inr (8, fs.set 14 v)))) : kx_w G l M d Q kc ks pc lv (v :: .ref a :: st) h := kx_puti (C := kR_M) (T := kF_M) (N := 29) (k := 14) (ty0 := kT_M) (ty := (.array .boolean)) rfl kI_M kY_M kN_M (by decide) (by rw [hM]; exact kx_by 830 (by decide +kernel) (by decide +kernel)) rfl (by rw [hI]) (by rw [hM]; rfl) (by decide +kernel) hd hc hn hf hlen kk
/-- M.opens -/
theorem pM_45 {a : Nat} {fs : List Value} {v : Value} {G : kx_G} {l : Launch} {M : kx_M} {d : Nat} {Q : Outcome → kx_H → Prop} {kc ks pc : Nat} {lv : kx_L} {st : List Value} {h : kx_H} (hM : M.1.cls = "VersionedTablesModel") (hd : decode M.2.1 pc = .ok (.getfield 45, 3)) (hc : kx_is G h a (.inr (8, fs))) (hv : fs[15]? = some v) (kk : kx_w G l M d Q kc ks (pc + 3) lv (v :: st) h) : kx_w G l M d Q kc ks pc lv (.ref a :: st) h := kx_getf (C := kR_M) (T := kF_M) (N := 29) (k := 15) rfl kI_M (by decide) (by rw [hM]; exact kx_by 831 (by decide +kernel) (by decide +kernel)) hd hc hv kk
/-- M.opens is written -/
theorem qM_45 {a : Nat} {fs : List Value} {v : Value} {G : kx_G} {l : Launch} {M : kx_M} {d : Nat} {Q : Outcome → kx_H → Prop} {kc ks pc : Nat} {lv : kx_L} {st : List Value} {h : kx_H} (hM : M.1.cls = "VersionedTablesModel") (hI : M.1.name = "<init>") (hd : decode M.2.1 pc = .ok (.putfield 45, 3)) (hc : kx_is G h a (.inr (8, fs))) (hn : narrow (.array .int) v = v) (hf : fits (.array .int) v = true) (hlen : 15 < fs.length) (kk : kx_w G l M d Q kc ks (pc + 3) lv st (kx_set h a (.inr (8, fs.set 15 v)))) : kx_w G l M d Q kc ks pc lv (v :: .ref a :: st) h := kx_puti (C := kR_M) (T := kF_M) (N := 29) (k := 15) (ty0 := kT_M) (ty := (.array .int)) rfl kI_M kY_M kN_M (by decide) (by rw [hM]; exact kx_by 831 (by decide +kernel) (by decide +kernel)) rfl (by rw [hI]) (by rw [hM]; rfl) (by decide +kernel) hd hc hn hf hlen kk
/-- M.stack -/
theorem pM_48 {a : Nat} {fs : List Value} {v : Value} {G : kx_G} {l : Launch} {M : kx_M} {d : Nat} {Q : Outcome → kx_H → Prop} {kc ks pc : Nat} {lv : kx_L} {st : List Value} {h : kx_H} (hM : M.1.cls = "VersionedTablesModel") (hd : decode M.2.1 pc = .ok (.getfield 48, 3)) (hc : kx_is G h a (.inr (8, fs))) (hv : fs[16]? = some v) (kk : kx_w G l M d Q kc ks (pc + 3) lv (v :: st) h) : kx_w G l M d Q kc ks pc lv (.ref a :: st) h := kx_getf (C := kR_M) (T := kF_M) (N := 29) (k := 16) rfl kI_M (by decide) (by rw [hM]; exact kx_by 832 (by decide +kernel) (by decide +kernel)) hd hc hv kk
/-- M.stack is written -/
theorem qM_48 {a : Nat} {fs : List Value} {v : Value} {G : kx_G} {l : Launch} {M : kx_M} {d : Nat} {Q : Outcome → kx_H → Prop} {kc ks pc : Nat} {lv : kx_L} {st : List Value} {h : kx_H} (hM : M.1.cls = "VersionedTablesModel") (hI : M.1.name = "<init>") (hd : decode M.2.1 pc = .ok (.putfield 48, 3)) (hc : kx_is G h a (.inr (8, fs))) (hn : narrow (.array .int) v = v) (hf : fits (.array .int) v = true) (hlen : 16 < fs.length) (kk : kx_w G l M d Q kc ks (pc + 3) lv st (kx_set h a (.inr (8, fs.set 16 v)))) : kx_w G l M d Q kc ks pc lv (v :: .ref a :: st) h := kx_puti (C := kR_M) (T := kF_M) (N := 29) (k := 16) (ty0 := kT_M) (ty := (.array .int)) rfl kI_M kY_M kN_M (by decide) (by rw [hM]; exact kx_by 832 (by decide +kernel) (by decide +kernel)) rfl (by rw [hI]) (by rw [hM]; rfl) (by decide +kernel) hd hc hn hf hlen kk
/-- M.waiting -/
theorem pM_51 {a : Nat} {fs : List Value} {v : Value} {G : kx_G} {l : Launch} {M : kx_M} {d : Nat} {Q : Outcome → kx_H → Prop} {kc ks pc : Nat} {lv : kx_L} {st : List Value} {h : kx_H} (hM : M.1.cls = "VersionedTablesModel") (hd : decode M.2.1 pc = .ok (.getfield 51, 3)) (hc : kx_is G h a (.inr (8, fs))) (hv : fs[21]? = some v) (kk : kx_w G l M d Q kc ks (pc + 3) lv (v :: st) h) : kx_w G l M d Q kc ks pc lv (.ref a :: st) h := kx_getf (C := kR_M) (T := kF_M) (N := 29) (k := 21) rfl kI_M (by decide) (by rw [hM]; exact kx_by 837 (by decide +kernel) (by decide +kernel)) hd hc hv kk
/-- M.waiting is written -/
theorem qM_51 {a : Nat} {fs : List Value} {v : Value} {G : kx_G} {l : Launch} {M : kx_M} {d : Nat} {Q : Outcome → kx_H → Prop} {kc ks pc : Nat} {lv : kx_L} {st : List Value} {h : kx_H} (hM : M.1.cls = "VersionedTablesModel") (hI : M.1.name = "<init>") (hd : decode M.2.1 pc = .ok (.putfield 51, 3)) (hc : kx_is G h a (.inr (8, fs))) (hn : narrow (.array .int) v = v) (hf : fits (.array .int) v = true) (hlen : 21 < fs.length) (kk : kx_w G l M d Q kc ks (pc + 3) lv st (kx_set h a (.inr (8, fs.set 21 v)))) : kx_w G l M d Q kc ks pc lv (v :: .ref a :: st) h := kx_puti (C := kR_M) (T := kF_M) (N := 29) (k := 21) (ty0 := kT_M) (ty := (.array .int)) rfl kI_M kY_M kN_M (by decide) (by rw [hM]; exact kx_by 837 (by decide +kernel) (by decide +kernel)) rfl (by rw [hI]) (by rw [hM]; rfl) (by decide +kernel) hd hc hn hf hlen kk
/-- M.resultRow -/
theorem pM_54 {a : Nat} {fs : List Value} {v : Value} {G : kx_G} {l : Launch} {M : kx_M} {d : Nat} {Q : Outcome → kx_H → Prop} {kc ks pc : Nat} {lv : kx_L} {st : List Value} {h : kx_H} (hM : M.1.cls = "VersionedTablesModel") (hd : decode M.2.1 pc = .ok (.getfield 54, 3)) (hc : kx_is G h a (.inr (8, fs))) (hv : fs[23]? = some v) (kk : kx_w G l M d Q kc ks (pc + 3) lv (v :: st) h) : kx_w G l M d Q kc ks pc lv (.ref a :: st) h := kx_getf (C := kR_M) (T := kF_M) (N := 29) (k := 23) rfl kI_M (by decide) (by rw [hM]; exact kx_by 839 (by decide +kernel) (by decide +kernel)) hd hc hv kk
/-- M.resultRow is written -/
theorem qM_54 {a : Nat} {fs : List Value} {v : Value} {G : kx_G} {l : Launch} {M : kx_M} {d : Nat} {Q : Outcome → kx_H → Prop} {kc ks pc : Nat} {lv : kx_L} {st : List Value} {h : kx_H} (hM : M.1.cls = "VersionedTablesModel") (hI : M.1.name = "<init>") (hd : decode M.2.1 pc = .ok (.putfield 54, 3)) (hc : kx_is G h a (.inr (8, fs))) (hn : narrow (.array .int) v = v) (hf : fits (.array .int) v = true) (hlen : 23 < fs.length) (kk : kx_w G l M d Q kc ks (pc + 3) lv st (kx_set h a (.inr (8, fs.set 23 v)))) : kx_w G l M d Q kc ks pc lv (v :: .ref a :: st) h := kx_puti (C := kR_M) (T := kF_M) (N := 29) (k := 23) (ty0 := kT_M) (ty := (.array .int)) rfl kI_M kY_M kN_M (by decide) (by rw [hM]; exact kx_by 839 (by decide +kernel) (by decide +kernel)) rfl (by rw [hI]) (by rw [hM]; rfl) (by decide +kernel) hd hc hn hf hlen kk
/-- M.resultValues -/
theorem pM_57 {a : Nat} {fs : List Value} {v : Value} {G : kx_G} {l : Launch} {M : kx_M} {d : Nat} {Q : Outcome → kx_H → Prop} {kc ks pc : Nat} {lv : kx_L} {st : List Value} {h : kx_H} (hM : M.1.cls = "VersionedTablesModel") (hd : decode M.2.1 pc = .ok (.getfield 57, 3)) (hc : kx_is G h a (.inr (8, fs))) (hv : fs[24]? = some v) (kk : kx_w G l M d Q kc ks (pc + 3) lv (v :: st) h) : kx_w G l M d Q kc ks pc lv (.ref a :: st) h := kx_getf (C := kR_M) (T := kF_M) (N := 29) (k := 24) rfl kI_M (by decide) (by rw [hM]; exact kx_by 840 (by decide +kernel) (by decide +kernel)) hd hc hv kk
/-- M.resultValues is written -/
theorem qM_57 {a : Nat} {fs : List Value} {v : Value} {G : kx_G} {l : Launch} {M : kx_M} {d : Nat} {Q : Outcome → kx_H → Prop} {kc ks pc : Nat} {lv : kx_L} {st : List Value} {h : kx_H} (hM : M.1.cls = "VersionedTablesModel") (hI : M.1.name = "<init>") (hd : decode M.2.1 pc = .ok (.putfield 57, 3)) (hc : kx_is G h a (.inr (8, fs))) (hn : narrow (.array .int) v = v) (hf : fits (.array .int) v = true) (hlen : 24 < fs.length) (kk : kx_w G l M d Q kc ks (pc + 3) lv st (kx_set h a (.inr (8, fs.set 24 v)))) : kx_w G l M d Q kc ks pc lv (v :: .ref a :: st) h := kx_puti (C := kR_M) (T := kF_M) (N := 29) (k := 24) (ty0 := kT_M) (ty := (.array .int)) rfl kI_M kY_M kN_M (by decide) (by rw [hM]; exact kx_by 840 (by decide +kernel) (by decide +kernel)) rfl (by rw [hI]) (by rw [hM]; rfl) (by decide +kernel) hd hc hn hf hlen kk
/-- M.holds -/
theorem pM_60 {a : Nat} {fs : List Value} {v : Value} {G : kx_G} {l : Launch} {M : kx_M} {d : Nat} {Q : Outcome → kx_H → Prop} {kc ks pc : Nat} {lv : kx_L} {st : List Value} {h : kx_H} (hM : M.1.cls = "VersionedTablesModel") (hd : decode M.2.1 pc = .ok (.getfield 60, 3)) (hc : kx_is G h a (.inr (8, fs))) (hv : fs[26]? = some v) (kk : kx_w G l M d Q kc ks (pc + 3) lv (v :: st) h) : kx_w G l M d Q kc ks pc lv (.ref a :: st) h := kx_getf (C := kR_M) (T := kF_M) (N := 29) (k := 26) rfl kI_M (by decide) (by rw [hM]; exact kx_by 842 (by decide +kernel) (by decide +kernel)) hd hc hv kk
/-- M.holds is written -/
theorem qM_60 {a : Nat} {fs : List Value} {v : Value} {G : kx_G} {l : Launch} {M : kx_M} {d : Nat} {Q : Outcome → kx_H → Prop} {kc ks pc : Nat} {lv : kx_L} {st : List Value} {h : kx_H} (hM : M.1.cls = "VersionedTablesModel") (hI : M.1.name = "<init>") (hd : decode M.2.1 pc = .ok (.putfield 60, 3)) (hc : kx_is G h a (.inr (8, fs))) (hn : narrow (.array .int) v = v) (hf : fits (.array .int) v = true) (hlen : 26 < fs.length) (kk : kx_w G l M d Q kc ks (pc + 3) lv st (kx_set h a (.inr (8, fs.set 26 v)))) : kx_w G l M d Q kc ks pc lv (v :: .ref a :: st) h := kx_puti (C := kR_M) (T := kF_M) (N := 29) (k := 26) (ty0 := kT_M) (ty := (.array .int)) rfl kI_M kY_M kN_M (by decide) (by rw [hM]; exact kx_by 842 (by decide +kernel) (by decide +kernel)) rfl (by rw [hI]) (by rw [hM]; rfl) (by decide +kernel) hd hc hn hf hlen kk
/-- M.news -/
theorem pM_63 {a : Nat} {fs : List Value} {v : Value} {G : kx_G} {l : Launch} {M : kx_M} {d : Nat} {Q : Outcome → kx_H → Prop} {kc ks pc : Nat} {lv : kx_L} {st : List Value} {h : kx_H} (hM : M.1.cls = "VersionedTablesModel") (hd : decode M.2.1 pc = .ok (.getfield 63, 3)) (hc : kx_is G h a (.inr (8, fs))) (hv : fs[27]? = some v) (kk : kx_w G l M d Q kc ks (pc + 3) lv (v :: st) h) : kx_w G l M d Q kc ks pc lv (.ref a :: st) h := kx_getf (C := kR_M) (T := kF_M) (N := 29) (k := 27) rfl kI_M (by decide) (by rw [hM]; exact kx_by 843 (by decide +kernel) (by decide +kernel)) hd hc hv kk
/-- M.news is written -/
theorem qM_63 {a : Nat} {fs : List Value} {v : Value} {G : kx_G} {l : Launch} {M : kx_M} {d : Nat} {Q : Outcome → kx_H → Prop} {kc ks pc : Nat} {lv : kx_L} {st : List Value} {h : kx_H} (hM : M.1.cls = "VersionedTablesModel") (hI : M.1.name = "<init>") (hd : decode M.2.1 pc = .ok (.putfield 63, 3)) (hc : kx_is G h a (.inr (8, fs))) (hn : narrow (.array .int) v = v) (hf : fits (.array .int) v = true) (hlen : 27 < fs.length) (kk : kx_w G l M d Q kc ks (pc + 3) lv st (kx_set h a (.inr (8, fs.set 27 v)))) : kx_w G l M d Q kc ks pc lv (v :: .ref a :: st) h := kx_puti (C := kR_M) (T := kF_M) (N := 29) (k := 27) (ty0 := kT_M) (ty := (.array .int)) rfl kI_M kY_M kN_M (by decide) (by rw [hM]; exact kx_by 843 (by decide +kernel) (by decide +kernel)) rfl (by rw [hI]) (by rw [hM]; rfl) (by decide +kernel) hd hc hn hf hlen kk
/-- M.matches -/
theorem pM_66 {a : Nat} {fs : List Value} {v : Value} {G : kx_G} {l : Launch} {M : kx_M} {d : Nat} {Q : Outcome → kx_H → Prop} {kc ks pc : Nat} {lv : kx_L} {st : List Value} {h : kx_H} (hM : M.1.cls = "VersionedTablesModel") (hd : decode M.2.1 pc = .ok (.getfield 66, 3)) (hc : kx_is G h a (.inr (8, fs))) (hv : fs[28]? = some v) (kk : kx_w G l M d Q kc ks (pc + 3) lv (v :: st) h) : kx_w G l M d Q kc ks pc lv (.ref a :: st) h := kx_getf (C := kR_M) (T := kF_M) (N := 29) (k := 28) rfl kI_M (by decide) (by rw [hM]; exact kx_by 844 (by decide +kernel) (by decide +kernel)) hd hc hv kk
/-- M.matches is written -/
theorem qM_66 {a : Nat} {fs : List Value} {v : Value} {G : kx_G} {l : Launch} {M : kx_M} {d : Nat} {Q : Outcome → kx_H → Prop} {kc ks pc : Nat} {lv : kx_L} {st : List Value} {h : kx_H} (hM : M.1.cls = "VersionedTablesModel") (hI : M.1.name = "<init>") (hd : decode M.2.1 pc = .ok (.putfield 66, 3)) (hc : kx_is G h a (.inr (8, fs))) (hn : narrow (.array .boolean) v = v) (hf : fits (.array .boolean) v = true) (hlen : 28 < fs.length) (kk : kx_w G l M d Q kc ks (pc + 3) lv st (kx_set h a (.inr (8, fs.set 28 v)))) : kx_w G l M d Q kc ks pc lv (v :: .ref a :: st) h := kx_puti (C := kR_M) (T := kF_M) (N := 29) (k := 28) (ty0 := kT_M) (ty := (.array .boolean)) rfl kI_M kY_M kN_M (by decide) (by rw [hM]; exact kx_by 844 (by decide +kernel) (by decide +kernel)) rfl (by rw [hI]) (by rw [hM]; rfl) (by decide +kernel) hd hc hn hf hlen kk
/-- M.thrown -/
theorem pM_69 {a : Nat} {fs : List Value} {v : Value} {G : kx_G} {l : Launch} {M : kx_M} {d : Nat} {Q : Outcome → kx_H → Prop} {kc ks pc : Nat} {lv : kx_L} {st : List Value} {h : kx_H} (hM : M.1.cls = "VersionedTablesModel") (hd : decode M.2.1 pc = .ok (.getfield 69, 3)) (hc : kx_is G h a (.inr (8, fs))) (hv : fs[0]? = some v) (kk : kx_w G l M d Q kc ks (pc + 3) lv (v :: st) h) : kx_w G l M d Q kc ks pc lv (.ref a :: st) h := kx_getf (C := kR_M) (T := kF_M) (N := 29) (k := 0) rfl kI_M (by decide) (by rw [hM]; exact kx_by 816 (by decide +kernel) (by decide +kernel)) hd hc hv kk
/-- M.thrown is written -/
theorem qM_69 {a : Nat} {fs : List Value} {v : Value} {G : kx_G} {l : Launch} {M : kx_M} {d : Nat} {Q : Outcome → kx_H → Prop} {kc ks pc : Nat} {lv : kx_L} {st : List Value} {h : kx_H} (hM : M.1.cls = "VersionedTablesModel") (hd : decode M.2.1 pc = .ok (.putfield 69, 3)) (hc : kx_is G h a (.inr (8, fs))) (hn : narrow .int v = v) (hf : fits .int v = true) (hlen : 0 < fs.length) (kk : kx_w G l M d Q kc ks (pc + 3) lv st (kx_set h a (.inr (8, fs.set 0 v)))) : kx_w G l M d Q kc ks pc lv (v :: .ref a :: st) h := kx_putf (C := kR_M) (T := kF_M) (N := 29) (k := 0) (ty0 := kT_M) (ty := .int) rfl kI_M kY_M kN_M (by decide) (by rw [hM]; exact kx_by 816 (by decide +kernel) (by decide +kernel)) rfl (by decide +kernel) hd hc hn hf hlen kk
/-- M_out -/
theorem cM_72 {sk as : List Value} {G : kx_G} {l : Launch} {M : kx_M} {d mc ms : Nat} {Q Qc : Outcome → kx_H → Prop} {kc ks pc : Nat} {lv : kx_L} {st : List Value} {h : kx_H} (hM : M.1.cls = "VersionedTablesModel") (hd : decode M.2.1 pc = .ok (.invokestatic 72, 3)) (hn : as.length = 2) (hsk : sk = as.reverse ++ st) (hst : (st.map fun v => v.category).sum ≤ 8) (hC : kx_c G l mM_out d mc ms as h Qc) (hk : ∀ o h', Qc o h' → kx_k G l M (d + 1) Q kc ks pc lv st o h') : kx_w G l M (d + 1) Q (kc + mc) (ks + ms) pc lv sk h := kx_sti (N := mM_out) (host := "VersionedTables") (by rw [hn]; exact kM_out) (by rw [hM]; exact Or.inr (kx_by 913 (by decide +kernel) (by decide +kernel))) (kx_by 914 (by decide +kernel) (by decide +kernel)) hd hsk hst hC hk
/-- M.begun -/
theorem pM_76 {a : Nat} {fs : List Value} {v : Value} {G : kx_G} {l : Launch} {M : kx_M} {d : Nat} {Q : Outcome → kx_H → Prop} {kc ks pc : Nat} {lv : kx_L} {st : List Value} {h : kx_H} (hM : M.1.cls = "VersionedTablesModel") (hd : decode M.2.1 pc = .ok (.getfield 76, 3)) (hc : kx_is G h a (.inr (8, fs))) (hv : fs[7]? = some v) (kk : kx_w G l M d Q kc ks (pc + 3) lv (v :: st) h) : kx_w G l M d Q kc ks pc lv (.ref a :: st) h := kx_getf (C := kR_M) (T := kF_M) (N := 29) (k := 7) rfl kI_M (by decide) (by rw [hM]; exact kx_by 823 (by decide +kernel) (by decide +kernel)) hd hc hv kk
/-- M.begun is written -/
theorem qM_76 {a : Nat} {fs : List Value} {v : Value} {G : kx_G} {l : Launch} {M : kx_M} {d : Nat} {Q : Outcome → kx_H → Prop} {kc ks pc : Nat} {lv : kx_L} {st : List Value} {h : kx_H} (hM : M.1.cls = "VersionedTablesModel") (hd : decode M.2.1 pc = .ok (.putfield 76, 3)) (hc : kx_is G h a (.inr (8, fs))) (hn : narrow .int v = v) (hf : fits .int v = true) (hlen : 7 < fs.length) (kk : kx_w G l M d Q kc ks (pc + 3) lv st (kx_set h a (.inr (8, fs.set 7 v)))) : kx_w G l M d Q kc ks pc lv (v :: .ref a :: st) h := kx_putf (C := kR_M) (T := kF_M) (N := 29) (k := 7) (ty0 := kT_M) (ty := .int) rfl kI_M kY_M kN_M (by decide) (by rw [hM]; exact kx_by 823 (by decide +kernel) (by decide +kernel)) rfl (by decide +kernel) hd hc hn hf hlen kk
/-- M_fail -/
theorem cM_79 {b : Nat} {fs sk as : List Value} {G : kx_G} {l : Launch} {M : kx_M} {d mc ms : Nat} {Q Qc : Outcome → kx_H → Prop} {kc ks pc : Nat} {lv : kx_L} {st : List Value} {h : kx_H} (hM : M.1.cls = "VersionedTablesModel") (hd : decode M.2.1 pc = .ok (.invokevirtual 79, 3)) (hb : kx_is G h b (.inr (8, fs))) (hn : as.length = 1) (hsk : sk = as.reverse ++ .ref b :: st) (hst : (st.map fun v => v.category).sum ≤ 8) (hC : kx_c G l mM_fail d mc ms (.ref b :: as) h Qc) (hk : ∀ o h', Qc o h' → kx_k G l M (d + 1) Q kc ks pc lv st o h') : kx_w G l M (d + 1) Q (kc + mc) (ks + ms) pc lv sk h := kx_inv (N := mM_fail) (host := "VersionedTables") (by rw [hn]; exact kM_fail) (by rw [hM]; exact Or.inr (kx_by 920 (by decide +kernel) (by decide +kernel))) (kx_by 922 (by decide +kernel) (by decide +kernel)) (kx_by 49 (by decide +kernel) (by decide +kernel)) (ci := 8) rfl hd hsk hst hb hC hk
/-- M_closed -/
theorem cM_83 {b : Nat} {fs sk as : List Value} {G : kx_G} {l : Launch} {M : kx_M} {d mc ms : Nat} {Q Qc : Outcome → kx_H → Prop} {kc ks pc : Nat} {lv : kx_L} {st : List Value} {h : kx_H} (hM : M.1.cls = "VersionedTablesModel") (hd : decode M.2.1 pc = .ok (.invokevirtual 83, 3)) (hb : kx_is G h b (.inr (8, fs))) (hn : as.length = 1) (hsk : sk = as.reverse ++ .ref b :: st) (hst : (st.map fun v => v.category).sum ≤ 8) (hC : kx_c G l mM_closed d mc ms (.ref b :: as) h Qc) (hk : ∀ o h', Qc o h' → kx_k G l M (d + 1) Q kc ks pc lv st o h') : kx_w G l M (d + 1) Q (kc + mc) (ks + ms) pc lv sk h := kx_inv (N := mM_closed) (host := "VersionedTables") (by rw [hn]; exact kM_closed) (by rw [hM]; exact Or.inr (kx_by 928 (by decide +kernel) (by decide +kernel))) (kx_by 930 (by decide +kernel) (by decide +kernel)) (kx_by 50 (by decide +kernel) (by decide +kernel)) (ci := 8) rfl hd hsk hst hb hC hk
/-- M_breakUp -/
theorem cM_87 {b : Nat} {fs sk as : List Value} {G : kx_G} {l : Launch} {M : kx_M} {d mc ms : Nat} {Q Qc : Outcome → kx_H → Prop} {kc ks pc : Nat} {lv : kx_L} {st : List Value} {h : kx_H} (hM : M.1.cls = "VersionedTablesModel") (hd : decode M.2.1 pc = .ok (.invokevirtual 87, 3)) (hb : kx_is G h b (.inr (8, fs))) (hn : as.length = 1) (hsk : sk = as.reverse ++ .ref b :: st) (hst : (st.map fun v => v.category).sum ≤ 8) (hC : kx_c G l mM_breakUp d mc ms (.ref b :: as) h Qc) (hk : ∀ o h', Qc o h' → kx_k G l M (d + 1) Q kc ks pc lv st o h') : kx_w G l M (d + 1) Q (kc + mc) (ks + ms) pc lv sk h := kx_inv (N := mM_breakUp) (host := "VersionedTables") (by rw [hn]; exact kM_breakUp) (by rw [hM]; exact Or.inr (kx_by 936 (by decide +kernel) (by decide +kernel))) (kx_by 938 (by decide +kernel) (by decide +kernel)) (kx_by 51 (by decide +kernel) (by decide +kernel)) (ci := 8) rfl hd hsk hst hb hC hk
/-- M.length -/
theorem pM_90 {a : Nat} {fs : List Value} {v : Value} {G : kx_G} {l : Launch} {M : kx_M} {d : Nat} {Q : Outcome → kx_H → Prop} {kc ks pc : Nat} {lv : kx_L} {st : List Value} {h : kx_H} (hM : M.1.cls = "VersionedTablesModel") (hd : decode M.2.1 pc = .ok (.getfield 90, 3)) (hc : kx_is G h a (.inr (8, fs))) (hv : fs[10]? = some v) (kk : kx_w G l M d Q kc ks (pc + 3) lv (v :: st) h) : kx_w G l M d Q kc ks pc lv (.ref a :: st) h := kx_getf (C := kR_M) (T := kF_M) (N := 29) (k := 10) rfl kI_M (by decide) (by rw [hM]; exact kx_by 826 (by decide +kernel) (by decide +kernel)) hd hc hv kk
/-- M.length is written -/
theorem qM_90 {a : Nat} {fs : List Value} {v : Value} {G : kx_G} {l : Launch} {M : kx_M} {d : Nat} {Q : Outcome → kx_H → Prop} {kc ks pc : Nat} {lv : kx_L} {st : List Value} {h : kx_H} (hM : M.1.cls = "VersionedTablesModel") (hd : decode M.2.1 pc = .ok (.putfield 90, 3)) (hc : kx_is G h a (.inr (8, fs))) (hn : narrow .int v = v) (hf : fits .int v = true) (hlen : 10 < fs.length) (kk : kx_w G l M d Q kc ks (pc + 3) lv st (kx_set h a (.inr (8, fs.set 10 v)))) : kx_w G l M d Q kc ks pc lv (v :: .ref a :: st) h := kx_putf (C := kR_M) (T := kF_M) (N := 29) (k := 10) (ty0 := kT_M) (ty := .int) rfl kI_M kY_M kN_M (by decide) (by rw [hM]; exact kx_by 826 (by decide +kernel) (by decide +kernel)) rfl (by decide +kernel) hd hc hn hf hlen kk
/-- M.made -/
theorem pM_93 {a : Nat} {fs : List Value} {v : Value} {G : kx_G} {l : Launch} {M : kx_M} {d : Nat} {Q : Outcome → kx_H → Prop} {kc ks pc : Nat} {lv : kx_L} {st : List Value} {h : kx_H} (hM : M.1.cls = "VersionedTablesModel") (hd : decode M.2.1 pc = .ok (.getfield 93, 3)) (hc : kx_is G h a (.inr (8, fs))) (hv : fs[19]? = some v) (kk : kx_w G l M d Q kc ks (pc + 3) lv (v :: st) h) : kx_w G l M d Q kc ks pc lv (.ref a :: st) h := kx_getf (C := kR_M) (T := kF_M) (N := 29) (k := 19) rfl kI_M (by decide) (by rw [hM]; exact kx_by 835 (by decide +kernel) (by decide +kernel)) hd hc hv kk
/-- M.made is written -/
theorem qM_93 {a : Nat} {fs : List Value} {v : Value} {G : kx_G} {l : Launch} {M : kx_M} {d : Nat} {Q : Outcome → kx_H → Prop} {kc ks pc : Nat} {lv : kx_L} {st : List Value} {h : kx_H} (hM : M.1.cls = "VersionedTablesModel") (hd : decode M.2.1 pc = .ok (.putfield 93, 3)) (hc : kx_is G h a (.inr (8, fs))) (hn : narrow .int v = v) (hf : fits .int v = true) (hlen : 19 < fs.length) (kk : kx_w G l M d Q kc ks (pc + 3) lv st (kx_set h a (.inr (8, fs.set 19 v)))) : kx_w G l M d Q kc ks pc lv (v :: .ref a :: st) h := kx_putf (C := kR_M) (T := kF_M) (N := 29) (k := 19) (ty0 := kT_M) (ty := .int) rfl kI_M kY_M kN_M (by decide) (by rw [hM]; exact kx_by 835 (by decide +kernel) (by decide +kernel)) rfl (by decide +kernel) hd hc hn hf hlen kk
/-- M.at -/
theorem pM_96 {a : Nat} {fs : List Value} {v : Value} {G : kx_G} {l : Launch} {M : kx_M} {d : Nat} {Q : Outcome → kx_H → Prop} {kc ks pc : Nat} {lv : kx_L} {st : List Value} {h : kx_H} (hM : M.1.cls = "VersionedTablesModel") (hd : decode M.2.1 pc = .ok (.getfield 96, 3)) (hc : kx_is G h a (.inr (8, fs))) (hv : fs[18]? = some v) (kk : kx_w G l M d Q kc ks (pc + 3) lv (v :: st) h) : kx_w G l M d Q kc ks pc lv (.ref a :: st) h := kx_getf (C := kR_M) (T := kF_M) (N := 29) (k := 18) rfl kI_M (by decide) (by rw [hM]; exact kx_by 834 (by decide +kernel) (by decide +kernel)) hd hc hv kk
/-- M.at is written -/
theorem qM_96 {a : Nat} {fs : List Value} {v : Value} {G : kx_G} {l : Launch} {M : kx_M} {d : Nat} {Q : Outcome → kx_H → Prop} {kc ks pc : Nat} {lv : kx_L} {st : List Value} {h : kx_H} (hM : M.1.cls = "VersionedTablesModel") (hd : decode M.2.1 pc = .ok (.putfield 96, 3)) (hc : kx_is G h a (.inr (8, fs))) (hn : narrow .int v = v) (hf : fits .int v = true) (hlen : 18 < fs.length) (kk : kx_w G l M d Q kc ks (pc + 3) lv st (kx_set h a (.inr (8, fs.set 18 v)))) : kx_w G l M d Q kc ks pc lv (v :: .ref a :: st) h := kx_putf (C := kR_M) (T := kF_M) (N := 29) (k := 18) (ty0 := kT_M) (ty := .int) rfl kI_M kY_M kN_M (by decide) (by rw [hM]; exact kx_by 834 (by decide +kernel) (by decide +kernel)) rfl (by decide +kernel) hd hc hn hf hlen kk
/-- M_add -/
theorem cM_99 {b : Nat} {fs sk as : List Value} {G : kx_G} {l : Launch} {M : kx_M} {d mc ms : Nat} {Q Qc : Outcome → kx_H → Prop} {kc ks pc : Nat} {lv : kx_L} {st : List Value} {h : kx_H} (hM : M.1.cls = "VersionedTablesModel") (hd : decode M.2.1 pc = .ok (.invokevirtual 99, 3)) (hb : kx_is G h b (.inr (8, fs))) (hn : as.length = 1) (hsk : sk = as.reverse ++ .ref b :: st) (hst : (st.map fun v => v.category).sum ≤ 8) (hC : kx_c G l mM_add d mc ms (.ref b :: as) h Qc) (hk : ∀ o h', Qc o h' → kx_k G l M (d + 1) Q kc ks pc lv st o h') : kx_w G l M (d + 1) Q (kc + mc) (ks + ms) pc lv sk h := kx_inv (N := mM_add) (host := "VersionedTables") (by rw [hn]; exact kM_add) (by rw [hM]; exact Or.inr (kx_by 964 (by decide +kernel) (by decide +kernel))) (kx_by 966 (by decide +kernel) (by decide +kernel)) (kx_by 56 (by decide +kernel) (by decide +kernel)) (ci := 8) rfl hd hsk hst hb hC hk
/-- M_item -/
theorem cM_103 {b : Nat} {fs sk as : List Value} {G : kx_G} {l : Launch} {M : kx_M} {d mc ms : Nat} {Q Qc : Outcome → kx_H → Prop} {kc ks pc : Nat} {lv : kx_L} {st : List Value} {h : kx_H} (hM : M.1.cls = "VersionedTablesModel") (hd : decode M.2.1 pc = .ok (.invokevirtual 103, 3)) (hb : kx_is G h b (.inr (8, fs))) (hn : as.length = 0) (hsk : sk = as.reverse ++ .ref b :: st) (hst : (st.map fun v => v.category).sum ≤ 8) (hC : kx_c G l mM_item d mc ms (.ref b :: as) h Qc) (hk : ∀ o h', Qc o h' → kx_k G l M (d + 1) Q kc ks pc lv st o h') : kx_w G l M (d + 1) Q (kc + mc) (ks + ms) pc lv sk h := kx_inv (N := mM_item) (host := "VersionedTables") (by rw [hn]; exact kM_item) (by rw [hM]; exact Or.inr (kx_by 960 (by decide +kernel) (by decide +kernel))) (kx_by 962 (by decide +kernel) (by decide +kernel)) (kx_by 55 (by decide +kernel) (by decide +kernel)) (ci := 8) rfl hd hsk hst hb hC hk
/-- M_arithmetic -/
theorem cM_107 {sk as : List Value} {G : kx_G} {l : Launch} {M : kx_M} {d mc ms : Nat} {Q Qc : Outcome → kx_H → Prop} {kc ks pc : Nat} {lv : kx_L} {st : List Value} {h : kx_H} (hM : M.1.cls = "VersionedTablesModel") (hd : decode M.2.1 pc = .ok (.invokestatic 107, 3)) (hn : as.length = 1) (hsk : sk = as.reverse ++ st) (hst : (st.map fun v => v.category).sum ≤ 8) (hC : kx_c G l mM_arithmetic d mc ms as h Qc) (hk : ∀ o h', Qc o h' → kx_k G l M (d + 1) Q kc ks pc lv st o h') : kx_w G l M (d + 1) Q (kc + mc) (ks + ms) pc lv sk h := kx_sti (N := mM_arithmetic) (host := "VersionedTables") (by rw [hn]; exact kM_arithmetic) (by rw [hM]; exact Or.inr (kx_by 968 (by decide +kernel) (by decide +kernel))) (kx_by 969 (by decide +kernel) (by decide +kernel)) hd hsk hst hC hk
/-- M.open -/
theorem pM_110 {a : Nat} {fs : List Value} {v : Value} {G : kx_G} {l : Launch} {M : kx_M} {d : Nat} {Q : Outcome → kx_H → Prop} {kc ks pc : Nat} {lv : kx_L} {st : List Value} {h : kx_H} (hM : M.1.cls = "VersionedTablesModel") (hd : decode M.2.1 pc = .ok (.getfield 110, 3)) (hc : kx_is G h a (.inr (8, fs))) (hv : fs[17]? = some v) (kk : kx_w G l M d Q kc ks (pc + 3) lv (v :: st) h) : kx_w G l M d Q kc ks pc lv (.ref a :: st) h := kx_getf (C := kR_M) (T := kF_M) (N := 29) (k := 17) rfl kI_M (by decide) (by rw [hM]; exact kx_by 833 (by decide +kernel) (by decide +kernel)) hd hc hv kk
/-- M.open is written -/
theorem qM_110 {a : Nat} {fs : List Value} {v : Value} {G : kx_G} {l : Launch} {M : kx_M} {d : Nat} {Q : Outcome → kx_H → Prop} {kc ks pc : Nat} {lv : kx_L} {st : List Value} {h : kx_H} (hM : M.1.cls = "VersionedTablesModel") (hd : decode M.2.1 pc = .ok (.putfield 110, 3)) (hc : kx_is G h a (.inr (8, fs))) (hn : narrow .int v = v) (hf : fits .int v = true) (hlen : 17 < fs.length) (kk : kx_w G l M d Q kc ks (pc + 3) lv st (kx_set h a (.inr (8, fs.set 17 v)))) : kx_w G l M d Q kc ks pc lv (v :: .ref a :: st) h := kx_putf (C := kR_M) (T := kF_M) (N := 29) (k := 17) (ty0 := kT_M) (ty := .int) rfl kI_M kY_M kN_M (by decide) (by rw [hM]; exact kx_by 833 (by decide +kernel) (by decide +kernel)) rfl (by decide +kernel) hd hc hn hf hlen kk
/-- M.signs -/
theorem pM_113 {a : Nat} {fs : List Value} {v : Value} {G : kx_G} {l : Launch} {M : kx_M} {d : Nat} {Q : Outcome → kx_H → Prop} {kc ks pc : Nat} {lv : kx_L} {st : List Value} {h : kx_H} (hM : M.1.cls = "VersionedTablesModel") (hd : decode M.2.1 pc = .ok (.getfield 113, 3)) (hc : kx_is G h a (.inr (8, fs))) (hv : fs[20]? = some v) (kk : kx_w G l M d Q kc ks (pc + 3) lv (v :: st) h) : kx_w G l M d Q kc ks pc lv (.ref a :: st) h := kx_getf (C := kR_M) (T := kF_M) (N := 29) (k := 20) rfl kI_M (by decide) (by rw [hM]; exact kx_by 836 (by decide +kernel) (by decide +kernel)) hd hc hv kk
/-- M.signs is written -/
theorem qM_113 {a : Nat} {fs : List Value} {v : Value} {G : kx_G} {l : Launch} {M : kx_M} {d : Nat} {Q : Outcome → kx_H → Prop} {kc ks pc : Nat} {lv : kx_L} {st : List Value} {h : kx_H} (hM : M.1.cls = "VersionedTablesModel") (hd : decode M.2.1 pc = .ok (.putfield 113, 3)) (hc : kx_is G h a (.inr (8, fs))) (hn : narrow .int v = v) (hf : fits .int v = true) (hlen : 20 < fs.length) (kk : kx_w G l M d Q kc ks (pc + 3) lv st (kx_set h a (.inr (8, fs.set 20 v)))) : kx_w G l M d Q kc ks pc lv (v :: .ref a :: st) h := kx_putf (C := kR_M) (T := kF_M) (N := 29) (k := 20) (ty0 := kT_M) (ty := .int) rfl kI_M kY_M kN_M (by decide) (by rw [hM]; exact kx_by 836 (by decide +kernel) (by decide +kernel)) rfl (by decide +kernel) hd hc hn hf hlen kk
/-- M_term -/
theorem cM_116 {b : Nat} {fs sk as : List Value} {G : kx_G} {l : Launch} {M : kx_M} {d mc ms : Nat} {Q Qc : Outcome → kx_H → Prop} {kc ks pc : Nat} {lv : kx_L} {st : List Value} {h : kx_H} (hM : M.1.cls = "VersionedTablesModel") (hd : decode M.2.1 pc = .ok (.invokevirtual 116, 3)) (hb : kx_is G h b (.inr (8, fs))) (hn : as.length = 0) (hsk : sk = as.reverse ++ .ref b :: st) (hst : (st.map fun v => v.category).sum ≤ 8) (hC : kx_c G l mM_term d mc ms (.ref b :: as) h Qc) (hk : ∀ o h', Qc o h' → kx_k G l M (d + 1) Q kc ks pc lv st o h') : kx_w G l M (d + 1) Q (kc + mc) (ks + ms) pc lv sk h := kx_inv (N := mM_term) (host := "VersionedTables") (by rw [hn]; exact kM_term) (by rw [hM]; exact Or.inr (kx_by 956 (by decide +kernel) (by decide +kernel))) (kx_by 958 (by decide +kernel) (by decide +kernel)) (kx_by 54 (by decide +kernel) (by decide +kernel)) (ci := 8) rfl hd hsk hst hb hC hk
/-- M_push -/
theorem cM_119 {b : Nat} {fs sk as : List Value} {G : kx_G} {l : Launch} {M : kx_M} {d mc ms : Nat} {Q Qc : Outcome → kx_H → Prop} {kc ks pc : Nat} {lv : kx_L} {st : List Value} {h : kx_H} (hM : M.1.cls = "VersionedTablesModel") (hd : decode M.2.1 pc = .ok (.invokevirtual 119, 3)) (hb : kx_is G h b (.inr (8, fs))) (hn : as.length = 1) (hsk : sk = as.reverse ++ .ref b :: st) (hst : (st.map fun v => v.category).sum ≤ 8) (hC : kx_c G l mM_push d mc ms (.ref b :: as) h Qc) (hk : ∀ o h', Qc o h' → kx_k G l M (d + 1) Q kc ks pc lv st o h') : kx_w G l M (d + 1) Q (kc + mc) (ks + ms) pc lv sk h := kx_inv (N := mM_push) (host := "VersionedTables") (by rw [hn]; exact kM_push) (by rw [hM]; exact Or.inr (kx_by 979 (by decide +kernel) (by decide +kernel))) (kx_by 981 (by decide +kernel) (by decide +kernel)) (kx_by 59 (by decide +kernel) (by decide +kernel)) (ci := 8) rfl hd hsk hst hb hC hk
/-- M_comparison -/
theorem cM_122 {b : Nat} {fs sk as : List Value} {G : kx_G} {l : Launch} {M : kx_M} {d mc ms : Nat} {Q Qc : Outcome → kx_H → Prop} {kc ks pc : Nat} {lv : kx_L} {st : List Value} {h : kx_H} (hM : M.1.cls = "VersionedTablesModel") (hd : decode M.2.1 pc = .ok (.invokevirtual 122, 3)) (hb : kx_is G h b (.inr (8, fs))) (hn : as.length = 0) (hsk : sk = as.reverse ++ .ref b :: st) (hst : (st.map fun v => v.category).sum ≤ 8) (hC : kx_c G l mM_comparison d mc ms (.ref b :: as) h Qc) (hk : ∀ o h', Qc o h' → kx_k G l M (d + 1) Q kc ks pc lv st o h') : kx_w G l M (d + 1) Q (kc + mc) (ks + ms) pc lv sk h := kx_inv (N := mM_comparison) (host := "VersionedTables") (by rw [hn]; exact kM_comparison) (by rw [hM]; exact Or.inr (kx_by 983 (by decide +kernel) (by decide +kernel))) (kx_by 985 (by decide +kernel) (by decide +kernel)) (kx_by 60 (by decide +kernel) (by decide +kernel)) (ci := 8) rfl hd hsk hst hb hC hk
/-- M_part -/
theorem cM_125 {b : Nat} {fs sk as : List Value} {G : kx_G} {l : Launch} {M : kx_M} {d mc ms : Nat} {Q Qc : Outcome → kx_H → Prop} {kc ks pc : Nat} {lv : kx_L} {st : List Value} {h : kx_H} (hM : M.1.cls = "VersionedTablesModel") (hd : decode M.2.1 pc = .ok (.invokevirtual 125, 3)) (hb : kx_is G h b (.inr (8, fs))) (hn : as.length = 0) (hsk : sk = as.reverse ++ .ref b :: st) (hst : (st.map fun v => v.category).sum ≤ 8) (hC : kx_c G l mM_part d mc ms (.ref b :: as) h Qc) (hk : ∀ o h', Qc o h' → kx_k G l M (d + 1) Q kc ks pc lv st o h') : kx_w G l M (d + 1) Q (kc + mc) (ks + ms) pc lv sk h := kx_inv (N := mM_part) (host := "VersionedTables") (by rw [hn]; exact kM_part) (by rw [hM]; exact Or.inr (kx_by 975 (by decide +kernel) (by decide +kernel))) (kx_by 977 (by decide +kernel) (by decide +kernel)) (kx_by 58 (by decide +kernel) (by decide +kernel)) (ci := 8) rfl hd hsk hst hb hC hk
/-- M_endPart -/
theorem cM_128 {b : Nat} {fs sk as : List Value} {G : kx_G} {l : Launch} {M : kx_M} {d mc ms : Nat} {Q Qc : Outcome → kx_H → Prop} {kc ks pc : Nat} {lv : kx_L} {st : List Value} {h : kx_H} (hM : M.1.cls = "VersionedTablesModel") (hd : decode M.2.1 pc = .ok (.invokevirtual 128, 3)) (hb : kx_is G h b (.inr (8, fs))) (hn : as.length = 0) (hsk : sk = as.reverse ++ .ref b :: st) (hst : (st.map fun v => v.category).sum ≤ 8) (hC : kx_c G l mM_endPart d mc ms (.ref b :: as) h Qc) (hk : ∀ o h', Qc o h' → kx_k G l M (d + 1) Q kc ks pc lv st o h') : kx_w G l M (d + 1) Q (kc + mc) (ks + ms) pc lv sk h := kx_inv (N := mM_endPart) (host := "VersionedTables") (by rw [hn]; exact kM_endPart) (by rw [hM]; exact Or.inr (kx_by 987 (by decide +kernel) (by decide +kernel))) (kx_by 989 (by decide +kernel) (by decide +kernel)) (kx_by 61 (by decide +kernel) (by decide +kernel)) (ci := 8) rfl hd hsk hst hb hC hk
/-- M_settingText -/
theorem cM_131 {b : Nat} {fs sk as : List Value} {G : kx_G} {l : Launch} {M : kx_M} {d mc ms : Nat} {Q Qc : Outcome → kx_H → Prop} {kc ks pc : Nat} {lv : kx_L} {st : List Value} {h : kx_H} (hM : M.1.cls = "VersionedTablesModel") (hd : decode M.2.1 pc = .ok (.invokevirtual 131, 3)) (hb : kx_is G h b (.inr (8, fs))) (hn : as.length = 0) (hsk : sk = as.reverse ++ .ref b :: st) (hst : (st.map fun v => v.category).sum ≤ 8) (hC : kx_c G l mM_settingText d mc ms (.ref b :: as) h Qc) (hk : ∀ o h', Qc o h' → kx_k G l M (d + 1) Q kc ks pc lv st o h') : kx_w G l M (d + 1) Q (kc + mc) (ks + ms) pc lv sk h := kx_inv (N := mM_settingText) (host := "VersionedTables") (by rw [hn]; exact kM_settingText) (by rw [hM]; exact Or.inr (kx_by 952 (by decide +kernel) (by decide +kernel))) (kx_by 954 (by decide +kernel) (by decide +kernel)) (kx_by 53 (by decide +kernel) (by decide +kernel)) (ci := 8) rfl hd hsk hst hb hC hk
/-- M_condition -/
theorem cM_134 {b : Nat} {fs sk as : List Value} {G : kx_G} {l : Launch} {M : kx_M} {d mc ms : Nat} {Q Qc : Outcome → kx_H → Prop} {kc ks pc : Nat} {lv : kx_L} {st : List Value} {h : kx_H} (hM : M.1.cls = "VersionedTablesModel") (hd : decode M.2.1 pc = .ok (.invokevirtual 134, 3)) (hb : kx_is G h b (.inr (8, fs))) (hn : as.length = 0) (hsk : sk = as.reverse ++ .ref b :: st) (hst : (st.map fun v => v.category).sum ≤ 8) (hC : kx_c G l mM_condition d mc ms (.ref b :: as) h Qc) (hk : ∀ o h', Qc o h' → kx_k G l M (d + 1) Q kc ks pc lv st o h') : kx_w G l M (d + 1) Q (kc + mc) (ks + ms) pc lv sk h := kx_inv (N := mM_condition) (host := "VersionedTables") (by rw [hn]; exact kM_condition) (by rw [hM]; exact Or.inr (kx_by 971 (by decide +kernel) (by decide +kernel))) (kx_by 973 (by decide +kernel) (by decide +kernel)) (kx_by 57 (by decide +kernel) (by decide +kernel)) (ci := 8) rfl hd hsk hst hb hC hk
/-- M_read -/
theorem cM_137 {b : Nat} {fs sk as : List Value} {G : kx_G} {l : Launch} {M : kx_M} {d mc ms : Nat} {Q Qc : Outcome → kx_H → Prop} {kc ks pc : Nat} {lv : kx_L} {st : List Value} {h : kx_H} (hM : M.1.cls = "VersionedTablesModel") (hd : decode M.2.1 pc = .ok (.invokevirtual 137, 3)) (hb : kx_is G h b (.inr (8, fs))) (hn : as.length = 1) (hsk : sk = as.reverse ++ .ref b :: st) (hst : (st.map fun v => v.category).sum ≤ 8) (hC : kx_c G l mM_read d mc ms (.ref b :: as) h Qc) (hk : ∀ o h', Qc o h' → kx_k G l M (d + 1) Q kc ks pc lv st o h') : kx_w G l M (d + 1) Q (kc + mc) (ks + ms) pc lv sk h := kx_inv (N := mM_read) (host := "VersionedTables") (by rw [hn]; exact kM_read) (by rw [hM]; exact Or.inr (kx_by 948 (by decide +kernel) (by decide +kernel))) (kx_by 950 (by decide +kernel) (by decide +kernel)) (kx_by 52 (by decide +kernel) (by decide +kernel)) (ci := 8) rfl hd hsk hst hb hC hk
/-- M_keep -/
theorem cM_141 {b : Nat} {fs sk as : List Value} {G : kx_G} {l : Launch} {M : kx_M} {d mc ms : Nat} {Q Qc : Outcome → kx_H → Prop} {kc ks pc : Nat} {lv : kx_L} {st : List Value} {h : kx_H} (hM : M.1.cls = "VersionedTablesModel") (hd : decode M.2.1 pc = .ok (.invokevirtual 141, 3)) (hb : kx_is G h b (.inr (8, fs))) (hn : as.length = 1) (hsk : sk = as.reverse ++ .ref b :: st) (hst : (st.map fun v => v.category).sum ≤ 8) (hC : kx_c G l mM_keep d mc ms (.ref b :: as) h Qc) (hk : ∀ o h', Qc o h' → kx_k G l M (d + 1) Q kc ks pc lv st o h') : kx_w G l M (d + 1) Q (kc + mc) (ks + ms) pc lv sk h := kx_inv (N := mM_keep) (host := "VersionedTables") (by rw [hn]; exact kM_keep) (by rw [hM]; exact Or.inr (kx_by 991 (by decide +kernel) (by decide +kernel))) (kx_by 993 (by decide +kernel) (by decide +kernel)) (kx_by 62 (by decide +kernel) (by decide +kernel)) (ci := 8) rfl hd hsk hst hb hC hk
/-- M_settings -/
theorem cM_144 {b : Nat} {fs sk as : List Value} {G : kx_G} {l : Launch} {M : kx_M} {d mc ms : Nat} {Q Qc : Outcome → kx_H → Prop} {kc ks pc : Nat} {lv : kx_L} {st : List Value} {h : kx_H} (hM : M.1.cls = "VersionedTablesModel") (hd : decode M.2.1 pc = .ok (.invokevirtual 144, 3)) (hb : kx_is G h b (.inr (8, fs))) (hn : as.length = 0) (hsk : sk = as.reverse ++ .ref b :: st) (hst : (st.map fun v => v.category).sum ≤ 8) (hC : kx_c G l mM_settings d mc ms (.ref b :: as) h Qc) (hk : ∀ o h', Qc o h' → kx_k G l M (d + 1) Q kc ks pc lv st o h') : kx_w G l M (d + 1) Q (kc + mc) (ks + ms) pc lv sk h := kx_inv (N := mM_settings) (host := "VersionedTables") (by rw [hn]; exact kM_settings) (by rw [hM]; exact Or.inr (kx_by 999 (by decide +kernel) (by decide +kernel))) (kx_by 1001 (by decide +kernel) (by decide +kernel)) (kx_by 63 (by decide +kernel) (by decide +kernel)) (ci := 8) rfl hd hsk hst hb hC hk
/-- M.divided -/
theorem pM_148 {a : Nat} {fs : List Value} {v : Value} {G : kx_G} {l : Launch} {M : kx_M} {d : Nat} {Q : Outcome → kx_H → Prop} {kc ks pc : Nat} {lv : kx_L} {st : List Value} {h : kx_H} (hM : M.1.cls = "VersionedTablesModel") (hd : decode M.2.1 pc = .ok (.getfield 148, 3)) (hc : kx_is G h a (.inr (8, fs))) (hv : fs[22]? = some v) (kk : kx_w G l M d Q kc ks (pc + 3) lv (v :: st) h) : kx_w G l M d Q kc ks pc lv (.ref a :: st) h := kx_getf (C := kR_M) (T := kF_M) (N := 29) (k := 22) rfl kI_M (by decide) (by rw [hM]; exact kx_by 838 (by decide +kernel) (by decide +kernel)) hd hc hv kk
/-- M.divided is written -/
theorem qM_148 {a : Nat} {fs : List Value} {v : Value} {G : kx_G} {l : Launch} {M : kx_M} {d : Nat} {Q : Outcome → kx_H → Prop} {kc ks pc : Nat} {lv : kx_L} {st : List Value} {h : kx_H} (hM : M.1.cls = "VersionedTablesModel") (hd : decode M.2.1 pc = .ok (.putfield 148, 3)) (hc : kx_is G h a (.inr (8, fs))) (hn : narrow .boolean v = v) (hf : fits .boolean v = true) (hlen : 22 < fs.length) (kk : kx_w G l M d Q kc ks (pc + 3) lv st (kx_set h a (.inr (8, fs.set 22 v)))) : kx_w G l M d Q kc ks pc lv (v :: .ref a :: st) h := kx_putf (C := kR_M) (T := kF_M) (N := 29) (k := 22) (ty0 := kT_M) (ty := .boolean) rfl kI_M kY_M kN_M (by decide) (by rw [hM]; exact kx_by 838 (by decide +kernel) (by decide +kernel)) rfl (by decide +kernel) hd hc hn hf hlen kk
/-- M_done -/
theorem cM_152 {b : Nat} {fs sk as : List Value} {G : kx_G} {l : Launch} {M : kx_M} {d mc ms : Nat} {Q Qc : Outcome → kx_H → Prop} {kc ks pc : Nat} {lv : kx_L} {st : List Value} {h : kx_H} (hM : M.1.cls = "VersionedTablesModel") (hd : decode M.2.1 pc = .ok (.invokevirtual 152, 3)) (hb : kx_is G h b (.inr (8, fs))) (hn : as.length = 3) (hsk : sk = as.reverse ++ .ref b :: st) (hst : (st.map fun v => v.category).sum ≤ 8) (hC : kx_c G l mM_done d mc ms (.ref b :: as) h Qc) (hk : ∀ o h', Qc o h' → kx_k G l M (d + 1) Q kc ks pc lv st o h') : kx_w G l M (d + 1) Q (kc + mc) (ks + ms) pc lv sk h := kx_inv (N := mM_done) (host := "VersionedTables") (by rw [hn]; exact kM_done) (by rw [hM]; exact Or.inr (kx_by 1034 (by decide +kernel) (by decide +kernel))) (kx_by 1036 (by decide +kernel) (by decide +kernel)) (kx_by 68 (by decide +kernel) (by decide +kernel)) (ci := 8) rfl hd hsk hst hb hC hk
/-- M_held -/
theorem cM_156 {b : Nat} {fs sk as : List Value} {G : kx_G} {l : Launch} {M : kx_M} {d mc ms : Nat} {Q Qc : Outcome → kx_H → Prop} {kc ks pc : Nat} {lv : kx_L} {st : List Value} {h : kx_H} (hM : M.1.cls = "VersionedTablesModel") (hd : decode M.2.1 pc = .ok (.invokevirtual 156, 3)) (hb : kx_is G h b (.inr (8, fs))) (hn : as.length = 3) (hsk : sk = as.reverse ++ .ref b :: st) (hst : (st.map fun v => v.category).sum ≤ 8) (hC : kx_c G l mM_held d mc ms (.ref b :: as) h Qc) (hk : ∀ o h', Qc o h' → kx_k G l M (d + 1) Q kc ks pc lv st o h') : kx_w G l M (d + 1) Q (kc + mc) (ks + ms) pc lv sk h := kx_inv (N := mM_held) (host := "VersionedTables") (by rw [hn]; exact kM_held) (by rw [hM]; exact Or.inr (kx_by 1023 (by decide +kernel) (by decide +kernel))) (kx_by 1025 (by decide +kernel) (by decide +kernel)) (kx_by 66 (by decide +kernel) (by decide +kernel)) (ci := 8) rfl hd hsk hst hb hC hk
/-- M_gone -/
theorem cM_159 {sk as : List Value} {G : kx_G} {l : Launch} {M : kx_M} {d mc ms : Nat} {Q Qc : Outcome → kx_H → Prop} {kc ks pc : Nat} {lv : kx_L} {st : List Value} {h : kx_H} (hM : M.1.cls = "VersionedTablesModel") (hd : decode M.2.1 pc = .ok (.invokestatic 159, 3)) (hn : as.length = 1) (hsk : sk = as.reverse ++ st) (hst : (st.map fun v => v.category).sum ≤ 8) (hC : kx_c G l mM_gone d mc ms as h Qc) (hk : ∀ o h', Qc o h' → kx_k G l M (d + 1) Q kc ks pc lv st o h') : kx_w G l M (d + 1) Q (kc + mc) (ks + ms) pc lv sk h := kx_sti (N := mM_gone) (host := "VersionedTables") (by rw [hn]; exact kM_gone) (by rw [hM]; exact Or.inr (kx_by 1027 (by decide +kernel) (by decide +kernel))) (kx_by 1028 (by decide +kernel) (by decide +kernel)) hd hsk hst hC hk
/-- M_worked -/
theorem cM_162 {b : Nat} {fs sk as : List Value} {G : kx_G} {l : Launch} {M : kx_M} {d mc ms : Nat} {Q Qc : Outcome → kx_H → Prop} {kc ks pc : Nat} {lv : kx_L} {st : List Value} {h : kx_H} (hM : M.1.cls = "VersionedTablesModel") (hd : decode M.2.1 pc = .ok (.invokevirtual 162, 3)) (hb : kx_is G h b (.inr (8, fs))) (hn : as.length = 2) (hsk : sk = as.reverse ++ .ref b :: st) (hst : (st.map fun v => v.category).sum ≤ 8) (hC : kx_c G l mM_worked d mc ms (.ref b :: as) h Qc) (hk : ∀ o h', Qc o h' → kx_k G l M (d + 1) Q kc ks pc lv st o h') : kx_w G l M (d + 1) Q (kc + mc) (ks + ms) pc lv sk h := kx_inv (N := mM_worked) (host := "VersionedTables") (by rw [hn]; exact kM_worked) (by rw [hM]; exact Or.inr (kx_by 1030 (by decide +kernel) (by decide +kernel))) (kx_by 1032 (by decide +kernel) (by decide +kernel)) (kx_by 67 (by decide +kernel) (by decide +kernel)) (ci := 8) rfl hd hsk hst hb hC hk
/-- M_noTable -/
theorem cM_166 {b : Nat} {fs sk as : List Value} {G : kx_G} {l : Launch} {M : kx_M} {d mc ms : Nat} {Q Qc : Outcome → kx_H → Prop} {kc ks pc : Nat} {lv : kx_L} {st : List Value} {h : kx_H} (hM : M.1.cls = "VersionedTablesModel") (hd : decode M.2.1 pc = .ok (.invokevirtual 166, 3)) (hb : kx_is G h b (.inr (8, fs))) (hn : as.length = 1) (hsk : sk = as.reverse ++ .ref b :: st) (hst : (st.map fun v => v.category).sum ≤ 8) (hC : kx_c G l mM_noTable d mc ms (.ref b :: as) h Qc) (hk : ∀ o h', Qc o h' → kx_k G l M (d + 1) Q kc ks pc lv st o h') : kx_w G l M (d + 1) Q (kc + mc) (ks + ms) pc lv sk h := kx_inv (N := mM_noTable) (host := "VersionedTables") (by rw [hn]; exact kM_noTable) (by rw [hM]; exact Or.inr (kx_by 1015 (by decide +kernel) (by decide +kernel))) (kx_by 1017 (by decide +kernel) (by decide +kernel)) (kx_by 64 (by decide +kernel) (by decide +kernel)) (ci := 8) rfl hd hsk hst hb hC hk
/-- M_look -/
theorem cM_169 {b : Nat} {fs sk as : List Value} {G : kx_G} {l : Launch} {M : kx_M} {d mc ms : Nat} {Q Qc : Outcome → kx_H → Prop} {kc ks pc : Nat} {lv : kx_L} {st : List Value} {h : kx_H} (hM : M.1.cls = "VersionedTablesModel") (hd : decode M.2.1 pc = .ok (.invokevirtual 169, 3)) (hb : kx_is G h b (.inr (8, fs))) (hn : as.length = 2) (hsk : sk = as.reverse ++ .ref b :: st) (hst : (st.map fun v => v.category).sum ≤ 8) (hC : kx_c G l mM_look d mc ms (.ref b :: as) h Qc) (hk : ∀ o h', Qc o h' → kx_k G l M (d + 1) Q kc ks pc lv st o h') : kx_w G l M (d + 1) Q (kc + mc) (ks + ms) pc lv sk h := kx_inv (N := mM_look) (host := "VersionedTables") (by rw [hn]; exact kM_look) (by rw [hM]; exact Or.inr (kx_by 1019 (by decide +kernel) (by decide +kernel))) (kx_by 1021 (by decide +kernel) (by decide +kernel)) (kx_by 65 (by decide +kernel) (by decide +kernel)) (ci := 8) rfl hd hsk hst hb hC hk
/-- M_mark -/
theorem cM_172 {b : Nat} {fs sk as : List Value} {G : kx_G} {l : Launch} {M : kx_M} {d mc ms : Nat} {Q Qc : Outcome → kx_H → Prop} {kc ks pc : Nat} {lv : kx_L} {st : List Value} {h : kx_H} (hM : M.1.cls = "VersionedTablesModel") (hd : decode M.2.1 pc = .ok (.invokevirtual 172, 3)) (hb : kx_is G h b (.inr (8, fs))) (hn : as.length = 2) (hsk : sk = as.reverse ++ .ref b :: st) (hst : (st.map fun v => v.category).sum ≤ 8) (hC : kx_c G l mM_mark d mc ms (.ref b :: as) h Qc) (hk : ∀ o h', Qc o h' → kx_k G l M (d + 1) Q kc ks pc lv st o h') : kx_w G l M (d + 1) Q (kc + mc) (ks + ms) pc lv sk h := kx_inv (N := mM_mark) (host := "VersionedTables") (by rw [hn]; exact kM_mark) (by rw [hM]; exact Or.inr (kx_by 1038 (by decide +kernel) (by decide +kernel))) (kx_by 1040 (by decide +kernel) (by decide +kernel)) (kx_by 69 (by decide +kernel) (by decide +kernel)) (ci := 8) rfl hd hsk hst hb hC hk
/-- M.results -/
theorem pM_176 {a : Nat} {fs : List Value} {v : Value} {G : kx_G} {l : Launch} {M : kx_M} {d : Nat} {Q : Outcome → kx_H → Prop} {kc ks pc : Nat} {lv : kx_L} {st : List Value} {h : kx_H} (hM : M.1.cls = "VersionedTablesModel") (hd : decode M.2.1 pc = .ok (.getfield 176, 3)) (hc : kx_is G h a (.inr (8, fs))) (hv : fs[25]? = some v) (kk : kx_w G l M d Q kc ks (pc + 3) lv (v :: st) h) : kx_w G l M d Q kc ks pc lv (.ref a :: st) h := kx_getf (C := kR_M) (T := kF_M) (N := 29) (k := 25) rfl kI_M (by decide) (by rw [hM]; exact kx_by 841 (by decide +kernel) (by decide +kernel)) hd hc hv kk
/-- M.results is written -/
theorem qM_176 {a : Nat} {fs : List Value} {v : Value} {G : kx_G} {l : Launch} {M : kx_M} {d : Nat} {Q : Outcome → kx_H → Prop} {kc ks pc : Nat} {lv : kx_L} {st : List Value} {h : kx_H} (hM : M.1.cls = "VersionedTablesModel") (hd : decode M.2.1 pc = .ok (.putfield 176, 3)) (hc : kx_is G h a (.inr (8, fs))) (hn : narrow .int v = v) (hf : fits .int v = true) (hlen : 25 < fs.length) (kk : kx_w G l M d Q kc ks (pc + 3) lv st (kx_set h a (.inr (8, fs.set 25 v)))) : kx_w G l M d Q kc ks pc lv (v :: .ref a :: st) h := kx_putf (C := kR_M) (T := kF_M) (N := 29) (k := 25) (ty0 := kT_M) (ty := .int) rfl kI_M kY_M kN_M (by decide) (by rw [hM]; exact kx_by 841 (by decide +kernel) (by decide +kernel)) rfl (by decide +kernel) hd hc hn hf hlen kk
/-- M.late -/
theorem pM_179 {a : Nat} {fs : List Value} {v : Value} {G : kx_G} {l : Launch} {M : kx_M} {d : Nat} {Q : Outcome → kx_H → Prop} {kc ks pc : Nat} {lv : kx_L} {st : List Value} {h : kx_H} (hM : M.1.cls = "VersionedTablesModel") (hd : decode M.2.1 pc = .ok (.getfield 179, 3)) (hc : kx_is G h a (.inr (8, fs))) (hv : fs[8]? = some v) (kk : kx_w G l M d Q kc ks (pc + 3) lv (v :: st) h) : kx_w G l M d Q kc ks pc lv (.ref a :: st) h := kx_getf (C := kR_M) (T := kF_M) (N := 29) (k := 8) rfl kI_M (by decide) (by rw [hM]; exact kx_by 824 (by decide +kernel) (by decide +kernel)) hd hc hv kk
/-- M.late is written -/
theorem qM_179 {a : Nat} {fs : List Value} {v : Value} {G : kx_G} {l : Launch} {M : kx_M} {d : Nat} {Q : Outcome → kx_H → Prop} {kc ks pc : Nat} {lv : kx_L} {st : List Value} {h : kx_H} (hM : M.1.cls = "VersionedTablesModel") (hd : decode M.2.1 pc = .ok (.putfield 179, 3)) (hc : kx_is G h a (.inr (8, fs))) (hn : narrow .int v = v) (hf : fits .int v = true) (hlen : 8 < fs.length) (kk : kx_w G l M d Q kc ks (pc + 3) lv st (kx_set h a (.inr (8, fs.set 8 v)))) : kx_w G l M d Q kc ks pc lv (v :: .ref a :: st) h := kx_putf (C := kR_M) (T := kF_M) (N := 29) (k := 8) (ty0 := kT_M) (ty := .int) rfl kI_M kY_M kN_M (by decide) (by rw [hM]; exact kx_by 824 (by decide +kernel) (by decide +kernel)) rfl (by decide +kernel) hd hc hn hf hlen kk
/-- M_tooLate -/
theorem cM_182 {b : Nat} {fs sk as : List Value} {G : kx_G} {l : Launch} {M : kx_M} {d mc ms : Nat} {Q Qc : Outcome → kx_H → Prop} {kc ks pc : Nat} {lv : kx_L} {st : List Value} {h : kx_H} (hM : M.1.cls = "VersionedTablesModel") (hd : decode M.2.1 pc = .ok (.invokevirtual 182, 3)) (hb : kx_is G h b (.inr (8, fs))) (hn : as.length = 2) (hsk : sk = as.reverse ++ .ref b :: st) (hst : (st.map fun v => v.category).sum ≤ 8) (hC : kx_c G l mM_tooLate d mc ms (.ref b :: as) h Qc) (hk : ∀ o h', Qc o h' → kx_k G l M (d + 1) Q kc ks pc lv st o h') : kx_w G l M (d + 1) Q (kc + mc) (ks + ms) pc lv sk h := kx_inv (N := mM_tooLate) (host := "VersionedTables") (by rw [hn]; exact kM_tooLate) (by rw [hM]; exact Or.inr (kx_by 1054 (by decide +kernel) (by decide +kernel))) (kx_by 1056 (by decide +kernel) (by decide +kernel)) (kx_by 72 (by decide +kernel) (by decide +kernel)) (ci := 8) rfl hd hsk hst hb hC hk
/-- M_broken -/
theorem cM_185 {b : Nat} {fs sk as : List Value} {G : kx_G} {l : Launch} {M : kx_M} {d mc ms : Nat} {Q Qc : Outcome → kx_H → Prop} {kc ks pc : Nat} {lv : kx_L} {st : List Value} {h : kx_H} (hM : M.1.cls = "VersionedTablesModel") (hd : decode M.2.1 pc = .ok (.invokevirtual 185, 3)) (hb : kx_is G h b (.inr (8, fs))) (hn : as.length = 2) (hsk : sk = as.reverse ++ .ref b :: st) (hst : (st.map fun v => v.category).sum ≤ 8) (hC : kx_c G l mM_broken d mc ms (.ref b :: as) h Qc) (hk : ∀ o h', Qc o h' → kx_k G l M (d + 1) Q kc ks pc lv st o h') : kx_w G l M (d + 1) Q (kc + mc) (ks + ms) pc lv sk h := kx_inv (N := mM_broken) (host := "VersionedTables") (by rw [hn]; exact kM_broken) (by rw [hM]; exact Or.inr (kx_by 1058 (by decide +kernel) (by decide +kernel))) (kx_by 1060 (by decide +kernel) (by decide +kernel)) (kx_by 73 (by decide +kernel) (by decide +kernel)) (ci := 8) rfl hd hsk hst hb hC hk
/-- M_write -/
theorem cM_188 {b : Nat} {fs sk as : List Value} {G : kx_G} {l : Launch} {M : kx_M} {d mc ms : Nat} {Q Qc : Outcome → kx_H → Prop} {kc ks pc : Nat} {lv : kx_L} {st : List Value} {h : kx_H} (hM : M.1.cls = "VersionedTablesModel") (hd : decode M.2.1 pc = .ok (.invokevirtual 188, 3)) (hb : kx_is G h b (.inr (8, fs))) (hn : as.length = 4) (hsk : sk = as.reverse ++ .ref b :: st) (hst : (st.map fun v => v.category).sum ≤ 8) (hC : kx_c G l mM_write d mc ms (.ref b :: as) h Qc) (hk : ∀ o h', Qc o h' → kx_k G l M (d + 1) Q kc ks pc lv st o h') : kx_w G l M (d + 1) Q (kc + mc) (ks + ms) pc lv sk h := kx_inv (N := mM_write) (host := "VersionedTables") (by rw [hn]; exact kM_write) (by rw [hM]; exact Or.inr (kx_by 1062 (by decide +kernel) (by decide +kernel))) (kx_by 1064 (by decide +kernel) (by decide +kernel)) (kx_by 74 (by decide +kernel) (by decide +kernel)) (ci := 8) rfl hd hsk hst hb hC hk
/-- M_workSettings -/
theorem cM_192 {b : Nat} {fs sk as : List Value} {G : kx_G} {l : Launch} {M : kx_M} {d mc ms : Nat} {Q Qc : Outcome → kx_H → Prop} {kc ks pc : Nat} {lv : kx_L} {st : List Value} {h : kx_H} (hM : M.1.cls = "VersionedTablesModel") (hd : decode M.2.1 pc = .ok (.invokevirtual 192, 3)) (hb : kx_is G h b (.inr (8, fs))) (hn : as.length = 1) (hsk : sk = as.reverse ++ .ref b :: st) (hst : (st.map fun v => v.category).sum ≤ 8) (hC : kx_c G l mM_workSettings d mc ms (.ref b :: as) h Qc) (hk : ∀ o h', Qc o h' → kx_k G l M (d + 1) Q kc ks pc lv st o h') : kx_w G l M (d + 1) Q (kc + mc) (ks + ms) pc lv sk h := kx_inv (N := mM_workSettings) (host := "VersionedTables") (by rw [hn]; exact kM_workSettings) (by rw [hM]; exact Or.inr (kx_by 1046 (by decide +kernel) (by decide +kernel))) (kx_by 1048 (by decide +kernel) (by decide +kernel)) (kx_by 70 (by decide +kernel) (by decide +kernel)) (ci := 8) rfl hd hsk hst hb hC hk
/-- M_writeAll -/
theorem cM_195 {b : Nat} {fs sk as : List Value} {G : kx_G} {l : Launch} {M : kx_M} {d mc ms : Nat} {Q Qc : Outcome → kx_H → Prop} {kc ks pc : Nat} {lv : kx_L} {st : List Value} {h : kx_H} (hM : M.1.cls = "VersionedTablesModel") (hd : decode M.2.1 pc = .ok (.invokevirtual 195, 3)) (hb : kx_is G h b (.inr (8, fs))) (hn : as.length = 4) (hsk : sk = as.reverse ++ .ref b :: st) (hst : (st.map fun v => v.category).sum ≤ 8) (hC : kx_c G l mM_writeAll d mc ms (.ref b :: as) h Qc) (hk : ∀ o h', Qc o h' → kx_k G l M (d + 1) Q kc ks pc lv st o h') : kx_w G l M (d + 1) Q (kc + mc) (ks + ms) pc lv sk h := kx_inv (N := mM_writeAll) (host := "VersionedTables") (by rw [hn]; exact kM_writeAll) (by rw [hM]; exact Or.inr (kx_by 1050 (by decide +kernel) (by decide +kernel))) (kx_by 1052 (by decide +kernel) (by decide +kernel)) (kx_by 71 (by decide +kernel) (by decide +kernel)) (ci := 8) rfl hd hsk hst hb hC hk
/-- M_versionsOf -/
theorem cM_199 {b : Nat} {fs sk as : List Value} {G : kx_G} {l : Launch} {M : kx_M} {d mc ms : Nat} {Q Qc : Outcome → kx_H → Prop} {kc ks pc : Nat} {lv : kx_L} {st : List Value} {h : kx_H} (hM : M.1.cls = "VersionedTablesModel") (hd : decode M.2.1 pc = .ok (.invokevirtual 199, 3)) (hb : kx_is G h b (.inr (8, fs))) (hn : as.length = 1) (hsk : sk = as.reverse ++ .ref b :: st) (hst : (st.map fun v => v.category).sum ≤ 8) (hC : kx_c G l mM_versionsOf d mc ms (.ref b :: as) h Qc) (hk : ∀ o h', Qc o h' → kx_k G l M (d + 1) Q kc ks pc lv st o h') : kx_w G l M (d + 1) Q (kc + mc) (ks + ms) pc lv sk h := kx_inv (N := mM_versionsOf) (host := "VersionedTables") (by rw [hn]; exact kM_versionsOf) (by rw [hM]; exact Or.inr (kx_by 1090 (by decide +kernel) (by decide +kernel))) (kx_by 1092 (by decide +kernel) (by decide +kernel)) (kx_by 75 (by decide +kernel) (by decide +kernel)) (ci := 8) rfl hd hsk hst hb hC hk
/-- M_inState -/
theorem cM_202 {b : Nat} {fs sk as : List Value} {G : kx_G} {l : Launch} {M : kx_M} {d mc ms : Nat} {Q Qc : Outcome → kx_H → Prop} {kc ks pc : Nat} {lv : kx_L} {st : List Value} {h : kx_H} (hM : M.1.cls = "VersionedTablesModel") (hd : decode M.2.1 pc = .ok (.invokevirtual 202, 3)) (hb : kx_is G h b (.inr (8, fs))) (hn : as.length = 1) (hsk : sk = as.reverse ++ .ref b :: st) (hst : (st.map fun v => v.category).sum ≤ 8) (hC : kx_c G l mM_inState d mc ms (.ref b :: as) h Qc) (hk : ∀ o h', Qc o h' → kx_k G l M (d + 1) Q kc ks pc lv st o h') : kx_w G l M (d + 1) Q (kc + mc) (ks + ms) pc lv sk h := kx_inv (N := mM_inState) (host := "VersionedTables") (by rw [hn]; exact kM_inState) (by rw [hM]; exact Or.inr (kx_by 1098 (by decide +kernel) (by decide +kernel))) (kx_by 1100 (by decide +kernel) (by decide +kernel)) (kx_by 76 (by decide +kernel) (by decide +kernel)) (ci := 8) rfl hd hsk hst hb hC hk
end
section
/-! ===== the throws ===== -/
theorem kx_own {l : List Cond} (h : (l.all fun w => (decide (w ∈ kx_tb) && kx_okw w) || decide (w ∈ kx_wz)) = true) : ∀ z ∈ l, z ∈ kx_ws ∨ z ∈ kx_wz := by
  intro w hw
  have h1 := List.all_eq_true.mp h w hw
  rw [Bool.or_eq_true, Bool.and_eq_true, decide_eq_true_eq, decide_eq_true_eq] at h1
  rcases h1 with h1 | h1
  · exact Or.inl (List.mem_filter.mpr h1)
  · exact Or.inr h1
theorem oV_61 : ∀ z ∈ kx_atm "VersionedTables" 61 "java/lang/IllegalArgumentException" 7 prog_15_method_2_code, z ∈ kx_ws ∨ z ∈ kx_wz := kx_own (by decide +kernel)
/-- throw new java/lang/IllegalArgumentException("out of range") -/
theorem xV_59 {t : kx_T} {G : kx_G} {l : Launch} {M : kx_M} {d : Nat} {Q : Outcome → kx_H → Prop} {kc ks pc : Nat} {lv : kx_L} {st : List Value} {h : kx_H} (hM : M.1.cls = "VersionedTables") (ht : kx_dec M.2.1 t) (h0 : kx_tk t pc = some (.new 57, 3)) (h3 : kx_tk t (pc + 3) = some (.dup, 1)) (h4 : kx_tk t (pc + 4) = some (.ldc 59, 2)) (h6 : kx_tk t (pc + 4 + 2) = some (.invokespecial 61, 3)) (h9 : kx_tk t (pc + 4 + 2 + 3) = some (.athrow, 1)) (hcov : ∀ q ∈ M.2.2.2.2, ¬ (q.1 ≤ pc + 4 + 2 + 3 ∧ pc + 4 + 2 + 3 < q.2.1)) (hst : (st.map fun v => v.category).sum ≤ 8) (hq : Q (.threw h.1) (kx_new h (.inr (9, [])))) : kx_w G l M d Q (kc + 1) (ks + 6) pc lv st h := kx_thr (E := "java/lang/IllegalArgumentException") (text := "out of range") (ci := 9) (ik := 57) (is := 59) (ic := 61) (w := 2) (ld := .ldc 59) (idx := 7) (bytes := prog_15_method_2_code) rfl (by decide +kernel) (by rw [hM]; exact kx_by 284 (by decide +kernel) (by decide +kernel)) (kx_by 86 (by decide +kernel) (by decide +kernel)) (by rw [hM]; exact kx_by 328 (by decide +kernel) (by decide +kernel)) (by decide +kernel) (by decide +kernel) (by decide +kernel) (by decide +kernel) (by rw [hM]; exact oV_61) (Or.inl ⟨rfl, rfl⟩) (kx_tk_dec h0 ht) (kx_tk_dec h3 ht) (kx_tk_dec h4 ht) (kx_tk_dec h6 ht) (kx_tk_dec h9 ht) hcov hst hq
theorem oV_68 : ∀ z ∈ kx_atm "VersionedTables" 68 "java/lang/IllegalStateException" 7 prog_16_method_2_code, z ∈ kx_ws ∨ z ∈ kx_wz := kx_own (by decide +kernel)
/-- throw new java/lang/IllegalStateException("the table is there") -/
theorem xV_66 {t : kx_T} {G : kx_G} {l : Launch} {M : kx_M} {d : Nat} {Q : Outcome → kx_H → Prop} {kc ks pc : Nat} {lv : kx_L} {st : List Value} {h : kx_H} (hM : M.1.cls = "VersionedTables") (ht : kx_dec M.2.1 t) (h0 : kx_tk t pc = some (.new 64, 3)) (h3 : kx_tk t (pc + 3) = some (.dup, 1)) (h4 : kx_tk t (pc + 4) = some (.ldc 66, 2)) (h6 : kx_tk t (pc + 4 + 2) = some (.invokespecial 68, 3)) (h9 : kx_tk t (pc + 4 + 2 + 3) = some (.athrow, 1)) (hcov : ∀ q ∈ M.2.2.2.2, ¬ (q.1 ≤ pc + 4 + 2 + 3 ∧ pc + 4 + 2 + 3 < q.2.1)) (hst : (st.map fun v => v.category).sum ≤ 8) (hq : Q (.threw h.1) (kx_new h (.inr (10, [])))) : kx_w G l M d Q (kc + 1) (ks + 6) pc lv st h := kx_thr (E := "java/lang/IllegalStateException") (text := "the table is there") (ci := 10) (ik := 64) (is := 66) (ic := 68) (w := 2) (ld := .ldc 66) (idx := 7) (bytes := prog_16_method_2_code) rfl (by decide +kernel) (by rw [hM]; exact kx_by 355 (by decide +kernel) (by decide +kernel)) (kx_by 87 (by decide +kernel) (by decide +kernel)) (by rw [hM]; exact kx_by 364 (by decide +kernel) (by decide +kernel)) (by decide +kernel) (by decide +kernel) (by decide +kernel) (by decide +kernel) (by rw [hM]; exact oV_68) (Or.inl ⟨rfl, rfl⟩) (kx_tk_dec h0 ht) (kx_tk_dec h3 ht) (kx_tk_dec h4 ht) (kx_tk_dec h6 ht) (kx_tk_dec h9 ht) hcov hst hq
/-- throw new java/lang/IllegalArgumentException("no such character") -/
theorem xV_72 {t : kx_T} {G : kx_G} {l : Launch} {M : kx_M} {d : Nat} {Q : Outcome → kx_H → Prop} {kc ks pc : Nat} {lv : kx_L} {st : List Value} {h : kx_H} (hM : M.1.cls = "VersionedTables") (ht : kx_dec M.2.1 t) (h0 : kx_tk t pc = some (.new 57, 3)) (h3 : kx_tk t (pc + 3) = some (.dup, 1)) (h4 : kx_tk t (pc + 4) = some (.ldc 72, 2)) (h6 : kx_tk t (pc + 4 + 2) = some (.invokespecial 61, 3)) (h9 : kx_tk t (pc + 4 + 2 + 3) = some (.athrow, 1)) (hcov : ∀ q ∈ M.2.2.2.2, ¬ (q.1 ≤ pc + 4 + 2 + 3 ∧ pc + 4 + 2 + 3 < q.2.1)) (hst : (st.map fun v => v.category).sum ≤ 8) (hq : Q (.threw h.1) (kx_new h (.inr (9, [])))) : kx_w G l M d Q (kc + 1) (ks + 6) pc lv st h := kx_thr (E := "java/lang/IllegalArgumentException") (text := "no such character") (ci := 9) (ik := 57) (is := 72) (ic := 61) (w := 2) (ld := .ldc 72) (idx := 7) (bytes := prog_15_method_2_code) rfl (by decide +kernel) (by rw [hM]; exact kx_by 284 (by decide +kernel) (by decide +kernel)) (kx_by 86 (by decide +kernel) (by decide +kernel)) (by rw [hM]; exact kx_by 411 (by decide +kernel) (by decide +kernel)) (by decide +kernel) (by decide +kernel) (by decide +kernel) (by decide +kernel) (by rw [hM]; exact oV_61) (Or.inl ⟨rfl, rfl⟩) (kx_tk_dec h0 ht) (kx_tk_dec h3 ht) (kx_tk_dec h4 ht) (kx_tk_dec h6 ht) (kx_tk_dec h9 ht) hcov hst hq
/-- throw new java/lang/IllegalStateException("the line is full") -/
theorem xV_74 {t : kx_T} {G : kx_G} {l : Launch} {M : kx_M} {d : Nat} {Q : Outcome → kx_H → Prop} {kc ks pc : Nat} {lv : kx_L} {st : List Value} {h : kx_H} (hM : M.1.cls = "VersionedTables") (ht : kx_dec M.2.1 t) (h0 : kx_tk t pc = some (.new 64, 3)) (h3 : kx_tk t (pc + 3) = some (.dup, 1)) (h4 : kx_tk t (pc + 4) = some (.ldc 74, 2)) (h6 : kx_tk t (pc + 4 + 2) = some (.invokespecial 68, 3)) (h9 : kx_tk t (pc + 4 + 2 + 3) = some (.athrow, 1)) (hcov : ∀ q ∈ M.2.2.2.2, ¬ (q.1 ≤ pc + 4 + 2 + 3 ∧ pc + 4 + 2 + 3 < q.2.1)) (hst : (st.map fun v => v.category).sum ≤ 8) (hq : Q (.threw h.1) (kx_new h (.inr (10, [])))) : kx_w G l M d Q (kc + 1) (ks + 6) pc lv st h := kx_thr (E := "java/lang/IllegalStateException") (text := "the line is full") (ci := 10) (ik := 64) (is := 74) (ic := 68) (w := 2) (ld := .ldc 74) (idx := 7) (bytes := prog_16_method_2_code) rfl (by decide +kernel) (by rw [hM]; exact kx_by 355 (by decide +kernel) (by decide +kernel)) (kx_by 87 (by decide +kernel) (by decide +kernel)) (by rw [hM]; exact kx_by 412 (by decide +kernel) (by decide +kernel)) (by decide +kernel) (by decide +kernel) (by decide +kernel) (by decide +kernel) (by rw [hM]; exact oV_68) (Or.inl ⟨rfl, rfl⟩) (kx_tk_dec h0 ht) (kx_tk_dec h3 ht) (kx_tk_dec h4 ht) (kx_tk_dec h6 ht) (kx_tk_dec h9 ht) hcov hst hq
/-- throw new java/lang/IllegalArgumentException("the line is refused") -/
theorem xV_234 {t : kx_T} {G : kx_G} {l : Launch} {M : kx_M} {d : Nat} {Q : Outcome → kx_H → Prop} {kc ks pc : Nat} {lv : kx_L} {st : List Value} {h : kx_H} (hM : M.1.cls = "VersionedTables") (ht : kx_dec M.2.1 t) (h0 : kx_tk t pc = some (.new 57, 3)) (h3 : kx_tk t (pc + 3) = some (.dup, 1)) (h4 : kx_tk t (pc + 4) = some (.ldc 234, 2)) (h6 : kx_tk t (pc + 4 + 2) = some (.invokespecial 61, 3)) (h9 : kx_tk t (pc + 4 + 2 + 3) = some (.athrow, 1)) (hcov : ∀ q ∈ M.2.2.2.2, ¬ (q.1 ≤ pc + 4 + 2 + 3 ∧ pc + 4 + 2 + 3 < q.2.1)) (hst : (st.map fun v => v.category).sum ≤ 8) (hq : Q (.threw h.1) (kx_new h (.inr (9, [])))) : kx_w G l M d Q (kc + 1) (ks + 6) pc lv st h := kx_thr (E := "java/lang/IllegalArgumentException") (text := "the line is refused") (ci := 9) (ik := 57) (is := 234) (ic := 61) (w := 2) (ld := .ldc 234) (idx := 7) (bytes := prog_15_method_2_code) rfl (by decide +kernel) (by rw [hM]; exact kx_by 284 (by decide +kernel) (by decide +kernel)) (kx_by 86 (by decide +kernel) (by decide +kernel)) (by rw [hM]; exact kx_by 502 (by decide +kernel) (by decide +kernel)) (by decide +kernel) (by decide +kernel) (by decide +kernel) (by decide +kernel) (by rw [hM]; exact oV_61) (Or.inl ⟨rfl, rfl⟩) (kx_tk_dec h0 ht) (kx_tk_dec h3 ht) (kx_tk_dec h4 ht) (kx_tk_dec h6 ht) (kx_tk_dec h9 ht) hcov hst hq
/-- throw new java/lang/IllegalStateException("no transaction is left") -/
theorem xV_105 {t : kx_T} {G : kx_G} {l : Launch} {M : kx_M} {d : Nat} {Q : Outcome → kx_H → Prop} {kc ks pc : Nat} {lv : kx_L} {st : List Value} {h : kx_H} (hM : M.1.cls = "VersionedTables") (ht : kx_dec M.2.1 t) (h0 : kx_tk t pc = some (.new 64, 3)) (h3 : kx_tk t (pc + 3) = some (.dup, 1)) (h4 : kx_tk t (pc + 4) = some (.ldc 105, 2)) (h6 : kx_tk t (pc + 4 + 2) = some (.invokespecial 68, 3)) (h9 : kx_tk t (pc + 4 + 2 + 3) = some (.athrow, 1)) (hcov : ∀ q ∈ M.2.2.2.2, ¬ (q.1 ≤ pc + 4 + 2 + 3 ∧ pc + 4 + 2 + 3 < q.2.1)) (hst : (st.map fun v => v.category).sum ≤ 8) (hq : Q (.threw h.1) (kx_new h (.inr (10, [])))) : kx_w G l M d Q (kc + 1) (ks + 6) pc lv st h := kx_thr (E := "java/lang/IllegalStateException") (text := "no transaction is left") (ci := 10) (ik := 64) (is := 105) (ic := 68) (w := 2) (ld := .ldc 105) (idx := 7) (bytes := prog_16_method_2_code) rfl (by decide +kernel) (by rw [hM]; exact kx_by 355 (by decide +kernel) (by decide +kernel)) (kx_by 87 (by decide +kernel) (by decide +kernel)) (by rw [hM]; exact kx_by 521 (by decide +kernel) (by decide +kernel)) (by decide +kernel) (by decide +kernel) (by decide +kernel) (by decide +kernel) (by rw [hM]; exact oV_68) (Or.inl ⟨rfl, rfl⟩) (kx_tk_dec h0 ht) (kx_tk_dec h3 ht) (kx_tk_dec h4 ht) (kx_tk_dec h6 ht) (kx_tk_dec h9 ht) hcov hst hq
theorem oV_178 : ∀ z ∈ kx_atm "VersionedTables" 178 "java/util/NoSuchElementException" 13 prog_24_method_4_code, z ∈ kx_ws ∨ z ∈ kx_wz := kx_own (by decide +kernel)
/-- throw new java/util/NoSuchElementException("no such open transaction") -/
theorem xV_240 {t : kx_T} {G : kx_G} {l : Launch} {M : kx_M} {d : Nat} {Q : Outcome → kx_H → Prop} {kc ks pc : Nat} {lv : kx_L} {st : List Value} {h : kx_H} (hM : M.1.cls = "VersionedTables") (ht : kx_dec M.2.1 t) (h0 : kx_tk t pc = some (.new 174, 3)) (h3 : kx_tk t (pc + 3) = some (.dup, 1)) (h4 : kx_tk t (pc + 4) = some (.ldc 240, 2)) (h6 : kx_tk t (pc + 4 + 2) = some (.invokespecial 178, 3)) (h9 : kx_tk t (pc + 4 + 2 + 3) = some (.athrow, 1)) (hcov : ∀ q ∈ M.2.2.2.2, ¬ (q.1 ≤ pc + 4 + 2 + 3 ∧ pc + 4 + 2 + 3 < q.2.1)) (hst : (st.map fun v => v.category).sum ≤ 8) (hq : Q (.threw h.1) (kx_new h (.inr (11, [])))) : kx_w G l M d Q (kc + 1) (ks + 6) pc lv st h := kx_thr (E := "java/util/NoSuchElementException") (text := "no such open transaction") (ci := 11) (ik := 174) (is := 240) (ic := 178) (w := 2) (ld := .ldc 240) (idx := 13) (bytes := prog_24_method_4_code) rfl (by decide +kernel) (by rw [hM]; exact kx_by 538 (by decide +kernel) (by decide +kernel)) (kx_by 93 (by decide +kernel) (by decide +kernel)) (by rw [hM]; exact kx_by 547 (by decide +kernel) (by decide +kernel)) (by decide +kernel) (by decide +kernel) (by decide +kernel) (by decide +kernel) (by rw [hM]; exact oV_178) (Or.inl ⟨rfl, rfl⟩) (kx_tk_dec h0 ht) (kx_tk_dec h3 ht) (kx_tk_dec h4 ht) (kx_tk_dec h6 ht) (kx_tk_dec h9 ht) hcov hst hq
/-- throw new java/lang/IllegalStateException("no row is left") -/
theorem xV_134 {t : kx_T} {G : kx_G} {l : Launch} {M : kx_M} {d : Nat} {Q : Outcome → kx_H → Prop} {kc ks pc : Nat} {lv : kx_L} {st : List Value} {h : kx_H} (hM : M.1.cls = "VersionedTables") (ht : kx_dec M.2.1 t) (h0 : kx_tk t pc = some (.new 64, 3)) (h3 : kx_tk t (pc + 3) = some (.dup, 1)) (h4 : kx_tk t (pc + 4) = some (.ldc 134, 2)) (h6 : kx_tk t (pc + 4 + 2) = some (.invokespecial 68, 3)) (h9 : kx_tk t (pc + 4 + 2 + 3) = some (.athrow, 1)) (hcov : ∀ q ∈ M.2.2.2.2, ¬ (q.1 ≤ pc + 4 + 2 + 3 ∧ pc + 4 + 2 + 3 < q.2.1)) (hst : (st.map fun v => v.category).sum ≤ 8) (hq : Q (.threw h.1) (kx_new h (.inr (10, [])))) : kx_w G l M d Q (kc + 1) (ks + 6) pc lv st h := kx_thr (E := "java/lang/IllegalStateException") (text := "no row is left") (ci := 10) (ik := 64) (is := 134) (ic := 68) (w := 2) (ld := .ldc 134) (idx := 7) (bytes := prog_16_method_2_code) rfl (by decide +kernel) (by rw [hM]; exact kx_by 355 (by decide +kernel) (by decide +kernel)) (kx_by 87 (by decide +kernel) (by decide +kernel)) (by rw [hM]; exact kx_by 589 (by decide +kernel) (by decide +kernel)) (by decide +kernel) (by decide +kernel) (by decide +kernel) (by decide +kernel) (by rw [hM]; exact oV_68) (Or.inl ⟨rfl, rfl⟩) (kx_tk_dec h0 ht) (kx_tk_dec h3 ht) (kx_tk_dec h4 ht) (kx_tk_dec h6 ht) (kx_tk_dec h9 ht) hcov hst hq
theorem oV_146 : ∀ z ∈ kx_atm "VersionedTables" 146 "java/lang/UnsupportedOperationException" 7 prog_23_method_2_code, z ∈ kx_ws ∨ z ∈ kx_wz := kx_own (by decide +kernel)
/-- throw new java/lang/UnsupportedOperationException("too late") -/
theorem xV_144 {t : kx_T} {G : kx_G} {l : Launch} {M : kx_M} {d : Nat} {Q : Outcome → kx_H → Prop} {kc ks pc : Nat} {lv : kx_L} {st : List Value} {h : kx_H} (hM : M.1.cls = "VersionedTables") (ht : kx_dec M.2.1 t) (h0 : kx_tk t pc = some (.new 142, 3)) (h3 : kx_tk t (pc + 3) = some (.dup, 1)) (h4 : kx_tk t (pc + 4) = some (.ldc 144, 2)) (h6 : kx_tk t (pc + 4 + 2) = some (.invokespecial 146, 3)) (h9 : kx_tk t (pc + 4 + 2 + 3) = some (.athrow, 1)) (hcov : ∀ q ∈ M.2.2.2.2, ¬ (q.1 ≤ pc + 4 + 2 + 3 ∧ pc + 4 + 2 + 3 < q.2.1)) (hst : (st.map fun v => v.category).sum ≤ 8) (hq : Q (.threw h.1) (kx_new h (.inr (12, [])))) : kx_w G l M d Q (kc + 1) (ks + 6) pc lv st h := kx_thr (E := "java/lang/UnsupportedOperationException") (text := "too late") (ci := 12) (ik := 142) (is := 144) (ic := 146) (w := 2) (ld := .ldc 144) (idx := 7) (bytes := prog_23_method_2_code) rfl (by decide +kernel) (by rw [hM]; exact kx_by 594 (by decide +kernel) (by decide +kernel)) (kx_by 94 (by decide +kernel) (by decide +kernel)) (by rw [hM]; exact kx_by 603 (by decide +kernel) (by decide +kernel)) (by decide +kernel) (by decide +kernel) (by decide +kernel) (by decide +kernel) (by rw [hM]; exact oV_146) (Or.inl ⟨rfl, rfl⟩) (kx_tk_dec h0 ht) (kx_tk_dec h3 ht) (kx_tk_dec h4 ht) (kx_tk_dec h6 ht) (kx_tk_dec h9 ht) hcov hst hq
/-- throw new java/util/NoSuchElementException("no such table") -/
theorem xV_242 {t : kx_T} {G : kx_G} {l : Launch} {M : kx_M} {d : Nat} {Q : Outcome → kx_H → Prop} {kc ks pc : Nat} {lv : kx_L} {st : List Value} {h : kx_H} (hM : M.1.cls = "VersionedTables") (ht : kx_dec M.2.1 t) (h0 : kx_tk t pc = some (.new 174, 3)) (h3 : kx_tk t (pc + 3) = some (.dup, 1)) (h4 : kx_tk t (pc + 4) = some (.ldc 242, 2)) (h6 : kx_tk t (pc + 4 + 2) = some (.invokespecial 178, 3)) (h9 : kx_tk t (pc + 4 + 2 + 3) = some (.athrow, 1)) (hcov : ∀ q ∈ M.2.2.2.2, ¬ (q.1 ≤ pc + 4 + 2 + 3 ∧ pc + 4 + 2 + 3 < q.2.1)) (hst : (st.map fun v => v.category).sum ≤ 8) (hq : Q (.threw h.1) (kx_new h (.inr (11, [])))) : kx_w G l M d Q (kc + 1) (ks + 6) pc lv st h := kx_thr (E := "java/util/NoSuchElementException") (text := "no such table") (ci := 11) (ik := 174) (is := 242) (ic := 178) (w := 2) (ld := .ldc 242) (idx := 13) (bytes := prog_24_method_4_code) rfl (by decide +kernel) (by rw [hM]; exact kx_by 538 (by decide +kernel) (by decide +kernel)) (kx_by 93 (by decide +kernel) (by decide +kernel)) (by rw [hM]; exact kx_by 588 (by decide +kernel) (by decide +kernel)) (by decide +kernel) (by decide +kernel) (by decide +kernel) (by decide +kernel) (by rw [hM]; exact oV_178) (Or.inl ⟨rfl, rfl⟩) (kx_tk_dec h0 ht) (kx_tk_dec h3 ht) (kx_tk_dec h4 ht) (kx_tk_dec h6 ht) (kx_tk_dec h9 ht) hcov hst hq
/-- throw new java/lang/IllegalStateException("must wait") -/
theorem xV_260 {t : kx_T} {G : kx_G} {l : Launch} {M : kx_M} {d : Nat} {Q : Outcome → kx_H → Prop} {kc ks pc : Nat} {lv : kx_L} {st : List Value} {h : kx_H} (hM : M.1.cls = "VersionedTables") (ht : kx_dec M.2.1 t) (h0 : kx_tk t pc = some (.new 64, 3)) (h3 : kx_tk t (pc + 3) = some (.dup, 1)) (h4 : kx_tk t (pc + 4) = some (.ldc_w 260, 3)) (h6 : kx_tk t (pc + 4 + 3) = some (.invokespecial 68, 3)) (h9 : kx_tk t (pc + 4 + 3 + 3) = some (.athrow, 1)) (hcov : ∀ q ∈ M.2.2.2.2, ¬ (q.1 ≤ pc + 4 + 3 + 3 ∧ pc + 4 + 3 + 3 < q.2.1)) (hst : (st.map fun v => v.category).sum ≤ 8) (hq : Q (.threw h.1) (kx_new h (.inr (10, [])))) : kx_w G l M d Q (kc + 1) (ks + 6) pc lv st h := kx_thr (E := "java/lang/IllegalStateException") (text := "must wait") (ci := 10) (ik := 64) (is := 260) (ic := 68) (w := 3) (ld := .ldc_w 260) (idx := 7) (bytes := prog_16_method_2_code) rfl (by decide +kernel) (by rw [hM]; exact kx_by 355 (by decide +kernel) (by decide +kernel)) (kx_by 87 (by decide +kernel) (by decide +kernel)) (by rw [hM]; exact kx_by 664 (by decide +kernel) (by decide +kernel)) (by decide +kernel) (by decide +kernel) (by decide +kernel) (by decide +kernel) (by rw [hM]; exact oV_68) (Or.inr ⟨rfl, rfl⟩) (kx_tk_dec h0 ht) (kx_tk_dec h3 ht) (kx_tk_dec h4 ht) (kx_tk_dec h6 ht) (kx_tk_dec h9 ht) hcov hst hq
theorem oP_61 : ∀ z ∈ kx_atm "VersionedTables$Program" 61 "java/lang/ArithmeticException" 7 prog_12_method_2_code, z ∈ kx_ws ∨ z ∈ kx_wz := kx_own (by decide +kernel)
/-- throw new java/lang/ArithmeticException("division by 0") -/
theorem xP_59 {t : kx_T} {G : kx_G} {l : Launch} {M : kx_M} {d : Nat} {Q : Outcome → kx_H → Prop} {kc ks pc : Nat} {lv : kx_L} {st : List Value} {h : kx_H} (hM : M.1.cls = "VersionedTables$Program") (ht : kx_dec M.2.1 t) (h0 : kx_tk t pc = some (.new 57, 3)) (h3 : kx_tk t (pc + 3) = some (.dup, 1)) (h4 : kx_tk t (pc + 4) = some (.ldc 59, 2)) (h6 : kx_tk t (pc + 4 + 2) = some (.invokespecial 61, 3)) (h9 : kx_tk t (pc + 4 + 2 + 3) = some (.athrow, 1)) (hcov : ∀ q ∈ M.2.2.2.2, ¬ (q.1 ≤ pc + 4 + 2 + 3 ∧ pc + 4 + 2 + 3 < q.2.1)) (hst : (st.map fun v => v.category).sum ≤ 8) (hq : Q (.threw h.1) (kx_new h (.inr (13, [])))) : kx_w G l M d Q (kc + 1) (ks + 6) pc lv st h := kx_thr (E := "java/lang/ArithmeticException") (text := "division by 0") (ci := 13) (ik := 57) (is := 59) (ic := 61) (w := 2) (ld := .ldc 59) (idx := 7) (bytes := prog_12_method_2_code) rfl (by decide +kernel) (by rw [hM]; exact kx_by 691 (by decide +kernel) (by decide +kernel)) (kx_by 97 (by decide +kernel) (by decide +kernel)) (by rw [hM]; exact kx_by 700 (by decide +kernel) (by decide +kernel)) (by decide +kernel) (by decide +kernel) (by decide +kernel) (by decide +kernel) (by rw [hM]; exact oP_61) (Or.inl ⟨rfl, rfl⟩) (kx_tk_dec h0 ht) (kx_tk_dec h3 ht) (kx_tk_dec h4 ht) (kx_tk_dec h6 ht) (kx_tk_dec h9 ht) hcov hst hq
/-- throw new java/lang/IllegalArgumentException("a setting of a column that the table does not have") -/
theorem xV_249 {t : kx_T} {G : kx_G} {l : Launch} {M : kx_M} {d : Nat} {Q : Outcome → kx_H → Prop} {kc ks pc : Nat} {lv : kx_L} {st : List Value} {h : kx_H} (hM : M.1.cls = "VersionedTables") (ht : kx_dec M.2.1 t) (h0 : kx_tk t pc = some (.new 57, 3)) (h3 : kx_tk t (pc + 3) = some (.dup, 1)) (h4 : kx_tk t (pc + 4) = some (.ldc 249, 2)) (h6 : kx_tk t (pc + 4 + 2) = some (.invokespecial 61, 3)) (h9 : kx_tk t (pc + 4 + 2 + 3) = some (.athrow, 1)) (hcov : ∀ q ∈ M.2.2.2.2, ¬ (q.1 ≤ pc + 4 + 2 + 3 ∧ pc + 4 + 2 + 3 < q.2.1)) (hst : (st.map fun v => v.category).sum ≤ 8) (hq : Q (.threw h.1) (kx_new h (.inr (9, [])))) : kx_w G l M d Q (kc + 1) (ks + 6) pc lv st h := kx_thr (E := "java/lang/IllegalArgumentException") (text := "a setting of a column that the table does not have") (ci := 9) (ik := 57) (is := 249) (ic := 61) (w := 2) (ld := .ldc 249) (idx := 7) (bytes := prog_15_method_2_code) rfl (by decide +kernel) (by rw [hM]; exact kx_by 284 (by decide +kernel) (by decide +kernel)) (kx_by 86 (by decide +kernel) (by decide +kernel)) (by rw [hM]; exact kx_by 735 (by decide +kernel) (by decide +kernel)) (by decide +kernel) (by decide +kernel) (by decide +kernel) (by decide +kernel) (by rw [hM]; exact oV_61) (Or.inl ⟨rfl, rfl⟩) (kx_tk_dec h0 ht) (kx_tk_dec h3 ht) (kx_tk_dec h4 ht) (kx_tk_dec h6 ht) (kx_tk_dec h9 ht) hcov hst hq
/-- throw new java/util/NoSuchElementException("no such row of the result") -/
theorem xV_176 {t : kx_T} {G : kx_G} {l : Launch} {M : kx_M} {d : Nat} {Q : Outcome → kx_H → Prop} {kc ks pc : Nat} {lv : kx_L} {st : List Value} {h : kx_H} (hM : M.1.cls = "VersionedTables") (ht : kx_dec M.2.1 t) (h0 : kx_tk t pc = some (.new 174, 3)) (h3 : kx_tk t (pc + 3) = some (.dup, 1)) (h4 : kx_tk t (pc + 4) = some (.ldc 176, 2)) (h6 : kx_tk t (pc + 4 + 2) = some (.invokespecial 178, 3)) (h9 : kx_tk t (pc + 4 + 2 + 3) = some (.athrow, 1)) (hcov : ∀ q ∈ M.2.2.2.2, ¬ (q.1 ≤ pc + 4 + 2 + 3 ∧ pc + 4 + 2 + 3 < q.2.1)) (hst : (st.map fun v => v.category).sum ≤ 8) (hq : Q (.threw h.1) (kx_new h (.inr (11, [])))) : kx_w G l M d Q (kc + 1) (ks + 6) pc lv st h := kx_thr (E := "java/util/NoSuchElementException") (text := "no such row of the result") (ci := 11) (ik := 174) (is := 176) (ic := 178) (w := 2) (ld := .ldc 176) (idx := 13) (bytes := prog_24_method_4_code) rfl (by decide +kernel) (by rw [hM]; exact kx_by 538 (by decide +kernel) (by decide +kernel)) (kx_by 93 (by decide +kernel) (by decide +kernel)) (by rw [hM]; exact kx_by 766 (by decide +kernel) (by decide +kernel)) (by decide +kernel) (by decide +kernel) (by decide +kernel) (by decide +kernel) (by rw [hM]; exact oV_178) (Or.inl ⟨rfl, rfl⟩) (kx_tk_dec h0 ht) (kx_tk_dec h3 ht) (kx_tk_dec h4 ht) (kx_tk_dec h6 ht) (kx_tk_dec h9 ht) hcov hst hq
theorem oV_248 : ∀ z ∈ kx_atm "VersionedTables" 248 "java/lang/IndexOutOfBoundsException" 7 prog_17_method_2_code, z ∈ kx_ws ∨ z ∈ kx_wz := kx_own (by decide +kernel)
/-- throw new java/lang/IndexOutOfBoundsException("no such column") -/
theorem xV_246 {t : kx_T} {G : kx_G} {l : Launch} {M : kx_M} {d : Nat} {Q : Outcome → kx_H → Prop} {kc ks pc : Nat} {lv : kx_L} {st : List Value} {h : kx_H} (hM : M.1.cls = "VersionedTables") (ht : kx_dec M.2.1 t) (h0 : kx_tk t pc = some (.new 244, 3)) (h3 : kx_tk t (pc + 3) = some (.dup, 1)) (h4 : kx_tk t (pc + 4) = some (.ldc 246, 2)) (h6 : kx_tk t (pc + 4 + 2) = some (.invokespecial 248, 3)) (h9 : kx_tk t (pc + 4 + 2 + 3) = some (.athrow, 1)) (hcov : ∀ q ∈ M.2.2.2.2, ¬ (q.1 ≤ pc + 4 + 2 + 3 ∧ pc + 4 + 2 + 3 < q.2.1)) (hst : (st.map fun v => v.category).sum ≤ 8) (hq : Q (.threw h.1) (kx_new h (.inr (14, [])))) : kx_w G l M d Q (kc + 1) (ks + 6) pc lv st h := kx_thr (E := "java/lang/IndexOutOfBoundsException") (text := "no such column") (ci := 14) (ik := 244) (is := 246) (ic := 248) (w := 2) (ld := .ldc 246) (idx := 7) (bytes := prog_17_method_2_code) rfl (by decide +kernel) (by rw [hM]; exact kx_by 771 (by decide +kernel) (by decide +kernel)) (kx_by 99 (by decide +kernel) (by decide +kernel)) (by rw [hM]; exact kx_by 780 (by decide +kernel) (by decide +kernel)) (by decide +kernel) (by decide +kernel) (by decide +kernel) (by decide +kernel) (by rw [hM]; exact oV_248) (Or.inl ⟨rfl, rfl⟩) (kx_tk_dec h0 ht) (kx_tk_dec h3 ht) (kx_tk_dec h4 ht) (kx_tk_dec h6 ht) (kx_tk_dec h9 ht) hcov hst hq
theorem oV_193 : ∀ z ∈ kx_atm "VersionedTables" 193 "java/lang/ArithmeticException" 7 prog_12_method_2_code, z ∈ kx_ws ∨ z ∈ kx_wz := kx_own (by decide +kernel)
/-- throw new java/lang/ArithmeticException("the result is empty") -/
theorem xV_191 {t : kx_T} {G : kx_G} {l : Launch} {M : kx_M} {d : Nat} {Q : Outcome → kx_H → Prop} {kc ks pc : Nat} {lv : kx_L} {st : List Value} {h : kx_H} (hM : M.1.cls = "VersionedTables") (ht : kx_dec M.2.1 t) (h0 : kx_tk t pc = some (.new 189, 3)) (h3 : kx_tk t (pc + 3) = some (.dup, 1)) (h4 : kx_tk t (pc + 4) = some (.ldc 191, 2)) (h6 : kx_tk t (pc + 4 + 2) = some (.invokespecial 193, 3)) (h9 : kx_tk t (pc + 4 + 2 + 3) = some (.athrow, 1)) (hcov : ∀ q ∈ M.2.2.2.2, ¬ (q.1 ≤ pc + 4 + 2 + 3 ∧ pc + 4 + 2 + 3 < q.2.1)) (hst : (st.map fun v => v.category).sum ≤ 8) (hq : Q (.threw h.1) (kx_new h (.inr (13, [])))) : kx_w G l M d Q (kc + 1) (ks + 6) pc lv st h := kx_thr (E := "java/lang/ArithmeticException") (text := "the result is empty") (ci := 13) (ik := 189) (is := 191) (ic := 193) (w := 2) (ld := .ldc 191) (idx := 7) (bytes := prog_12_method_2_code) rfl (by decide +kernel) (by rw [hM]; exact kx_by 794 (by decide +kernel) (by decide +kernel)) (kx_by 97 (by decide +kernel) (by decide +kernel)) (by rw [hM]; exact kx_by 795 (by decide +kernel) (by decide +kernel)) (by decide +kernel) (by decide +kernel) (by decide +kernel) (by decide +kernel) (by rw [hM]; exact oV_193) (Or.inl ⟨rfl, rfl⟩) (kx_tk_dec h0 ht) (kx_tk_dec h3 ht) (kx_tk_dec h4 ht) (kx_tk_dec h6 ht) (kx_tk_dec h9 ht) hcov hst hq
/-- throw new java/util/NoSuchElementException("no such row") -/
theorem xV_205 {t : kx_T} {G : kx_G} {l : Launch} {M : kx_M} {d : Nat} {Q : Outcome → kx_H → Prop} {kc ks pc : Nat} {lv : kx_L} {st : List Value} {h : kx_H} (hM : M.1.cls = "VersionedTables") (ht : kx_dec M.2.1 t) (h0 : kx_tk t pc = some (.new 174, 3)) (h3 : kx_tk t (pc + 3) = some (.dup, 1)) (h4 : kx_tk t (pc + 4) = some (.ldc 205, 2)) (h6 : kx_tk t (pc + 4 + 2) = some (.invokespecial 178, 3)) (h9 : kx_tk t (pc + 4 + 2 + 3) = some (.athrow, 1)) (hcov : ∀ q ∈ M.2.2.2.2, ¬ (q.1 ≤ pc + 4 + 2 + 3 ∧ pc + 4 + 2 + 3 < q.2.1)) (hst : (st.map fun v => v.category).sum ≤ 8) (hq : Q (.threw h.1) (kx_new h (.inr (11, [])))) : kx_w G l M d Q (kc + 1) (ks + 6) pc lv st h := kx_thr (E := "java/util/NoSuchElementException") (text := "no such row") (ci := 11) (ik := 174) (is := 205) (ic := 178) (w := 2) (ld := .ldc 205) (idx := 13) (bytes := prog_24_method_4_code) rfl (by decide +kernel) (by rw [hM]; exact kx_by 538 (by decide +kernel) (by decide +kernel)) (kx_by 93 (by decide +kernel) (by decide +kernel)) (by rw [hM]; exact kx_by 808 (by decide +kernel) (by decide +kernel)) (by decide +kernel) (by decide +kernel) (by decide +kernel) (by decide +kernel) (by rw [hM]; exact oV_178) (Or.inl ⟨rfl, rfl⟩) (kx_tk_dec h0 ht) (kx_tk_dec h3 ht) (kx_tk_dec h4 ht) (kx_tk_dec h6 ht) (kx_tk_dec h9 ht) hcov hst hq
end
section
/-! ===== numbers, truth values, places ===== -/
abbrev kIa (n : Nat) (f : Nat → Int32) : kx_C := .inl (0, n, .inl f)
abbrev kQa (t n : Nat) (f : Nat → Option Nat) : kx_C := .inl (t, n, .inr (.inr (.inr (.inr f))))
def b01 (b : Bool) : Int32 := if b then 1 else 0
theorem b01_f {b : Bool} (h : b01 b = 0) : b = false := by cases b with | false => rfl | true => exact absurd h (by decide)
theorem b01_t {b : Bool} (h : ¬ b01 b = 0) : b = true := by cases b with | true => rfl | false => exact absurd rfl h
theorem b01_nar (b : Bool) : vp_nar .boolean (b01 b) = b01 b := by cases b <;> rfl
theorem b01_nr (b : Bool) : narrow .boolean (.int (b01 b)) = .int (b01 b) := by cases b <;> rfl
theorem kn_ad {x y : Int32} {a b : Nat} (h1 : x = nI a) (h2 : y = nI b) : x + y = nI (a + b) := by rw [h1, h2]; exact nI_add a b
theorem kn_mu {x y : Int32} {a b : Nat} (h1 : x = nI a) (h2 : y = nI b) : x * y = nI (a * b) := by rw [h1, h2]; exact (Int32.ofNat_mul a b).symm
theorem kn_su {x y : Int32} {a b : Nat} (h1 : x = nI a) (h2 : y = nI b) (h : b ≤ a) : x - y = nI (a - b) := by
  obtain ⟨c, rfl⟩ : ∃ c, a = c + b := ⟨a - b, by omega⟩
  rw [h1, h2, ← nI_add, Nat.add_sub_cancel]
  exact Int32.add_sub_cancel _ _
theorem kn_sa {x y : Int32} {a b : Nat} (h1 : x = nI a) (h2 : y = -nI b) (h : b ≤ a) : x + y = nI (a - b) := by
  rw [← kn_su h1 rfl h, h2, Int32.sub_eq_add_neg]
theorem va_upup {α : Type} (f : Nat → α) (k : Nat) (v w : α) : va_up (va_up f k v) k w = va_up f k w := by
  funext j
  simp only [va_up]
  split <;> rfl
theorem va_upsame {α : Type} (f : Nat → α) (k : Nat) : va_up f k (f k) = f := by
  funext j
  simp only [va_up]
  split
  · rename_i h; rw [h]
  · rfl
theorem kI_lt {x y : Int32} : x < y ↔ x.toInt < y.toInt := Int32.lt_iff_toInt_lt
theorem kI_le {x y : Int32} : x ≤ y ↔ x.toInt ≤ y.toInt := Int32.le_iff_toInt_le
theorem kI_nat {x : Int32} (h : 0 ≤ x.toInt) : ∃ n : Nat, x = nI n ∧ (n : Int) = x.toInt ∧ n < 2147483648 := by
  have h1 := x.toInt_lt
  refine ⟨x.toInt.toNat, Int32.toInt_inj.mp ?_, by omega, by omega⟩
  rw [nI_toInt (by omega)]
  omega
theorem kx_lsub {G : kx_G} {l : Launch} {M : kx_M} {d : Nat} {Q : Outcome → kx_H → Prop} {kc ks pc : Nat} {lv lv' : kx_L} {st : List Value} {h : kx_H} (hs : List.Sublist lv' lv) (k : kx_w G l M d Q kc ks pc lv' st h) : kx_w G l M d Q kc ks pc lv st h := kx_loc (fun _ hq => hs.subset hq) k
end
section
/-! ===== the reference's cells: the object at m, its arrays at m+1 .. m+18; scalars S by the field's number, arrays A by their place ===== -/
def mLn (k : Nat) : Nat := [0, 3, 3, 3, 2880, 11520, 41, 40, 264, 6, 4, 8, 44, 44, 24, 96, 24, 96, 24].getD k 0
def mTy (k : Nat) : Nat := if k = 10 then 7 else if k = 18 then 7 else 0
def mF (m : Nat) (S : Nat → Int32) : List Value := [.int (S 0), .ref (m + 1), .ref (m + 2), .ref (m + 3), .ref (m + 4), .ref (m + 5), .ref (m + 6), .int (S 7), .int (S 8), .ref (m + 7), .int (S 10), .int (S 11), .ref (m + 8), .ref (m + 9), .ref (m + 10), .ref (m + 11), .ref (m + 12), .int (S 17), .int (S 18), .int (S 19), .int (S 20), .ref (m + 13), .int (S 22), .ref (m + 14), .ref (m + 15), .int (S 25), .ref (m + 16), .ref (m + 17), .ref (m + 18)]
def mC (m : Nat) (S : Nat → Int32) (A : Nat → Nat → Int32) (k : Nat) : kx_C := if k = 0 then .inr (8, mF m S) else .inl (mTy k, mLn k, .inl (A k))
def mH (h0 : kx_H) (m : Nat) (S : Nat → Int32) (A : Nat → Nat → Int32) : kx_H := (h0.1, fun a => if m ≤ a ∧ a ≤ m + 18 then mC m S A (a - m) else h0.2 a)
def mOk (G : kx_G) (h0 : kx_H) (m : Nat) : Prop := G.1 ≤ m ∧ m + 18 < h0.1
section KMH
variable {G : kx_G} {l : Launch} {M : kx_M} {d : Nat} {Q : Outcome → kx_H → Prop} {kc ks pc : Nat} {lv : kx_L} {st : List Value} {h0 : kx_H} {m : Nat} {S : Nat → Int32} {A : Nat → Nat → Int32}
theorem mh_o (hm : mOk G h0 m) : kx_is G (mH h0 m S A) m (.inr (8, mF m S)) := by
  refine ⟨hm.1, by have := hm.2; show m < h0.1; omega, ?_⟩
  simp [mH, mC]
theorem mh_a (hm : mOk G h0 m) {k : Nat} (h1 : 1 ≤ k) (h2 : k ≤ 18) : kx_is G (mH h0 m S A) (m + k) (.inl (mTy k, mLn k, .inl (A k))) := by
  refine ⟨by have := hm.1; omega, by have := hm.2; show m + k < h0.1; omega, ?_⟩
  have e1 : m ≤ m + k ∧ m + k ≤ m + 18 := by omega
  have e2 : m + k - m = k := by omega
  have e3 : ¬ k = 0 := by omega
  simp only [mH, if_pos e1, e2, mC, if_neg e3]
theorem mh_seta {k : Nat} (h1 : 1 ≤ k) (h2 : k ≤ 18) (g : Nat → Int32) : kx_set (mH h0 m S A) (m + k) (.inl (mTy k, mLn k, .inl g)) = mH h0 m S (va_up A k g) := by
  simp only [kx_set, mH, Prod.mk.injEq, true_and]
  funext a
  by_cases e : a = m + k
  · subst e
    have e1 : m ≤ m + k ∧ m + k ≤ m + 18 := by omega
    have e2 : m + k - m = k := by omega
    have e3 : ¬ k = 0 := by omega
    rw [va_up_self, if_pos e1, e2]
    simp only [mC, if_neg e3, va_up_self]
  · rw [va_up_ne _ _ e]
    by_cases e1 : m ≤ a ∧ a ≤ m + 18
    · rw [if_pos e1, if_pos e1]
      simp only [mC]
      by_cases e3 : a - m = 0
      · rw [if_pos e3, if_pos e3]
      · rw [if_neg e3, if_neg e3, va_up_ne _ _ (by omega : a - m ≠ k)]
    · rw [if_neg e1, if_neg e1]
theorem mh_seto (S' : Nat → Int32) : kx_set (mH h0 m S A) m (.inr (8, mF m S')) = mH h0 m S' A := by
  simp only [kx_set, mH, Prod.mk.injEq, true_and]
  funext a
  by_cases e : a = m
  · subst e
    rw [va_up_self, if_pos (by omega), Nat.sub_self]
    simp [mC]
  · rw [va_up_ne _ _ e]
    by_cases e1 : m ≤ a ∧ a ≤ m + 18
    · rw [if_pos e1, if_pos e1]
      simp only [mC, if_neg (by omega : ¬ a - m = 0)]
    · rw [if_neg e1, if_neg e1]
theorem mh_p0 {v : Int32} : kx_set (mH h0 m S A) m (.inr (8, (mF m S).set 0 (.int v))) = mH h0 m (va_up S 0 v) A := mh_seto (va_up S 0 v)
theorem mh_p7 {v : Int32} : kx_set (mH h0 m S A) m (.inr (8, (mF m S).set 7 (.int v))) = mH h0 m (va_up S 7 v) A := mh_seto (va_up S 7 v)
theorem mh_p8 {v : Int32} : kx_set (mH h0 m S A) m (.inr (8, (mF m S).set 8 (.int v))) = mH h0 m (va_up S 8 v) A := mh_seto (va_up S 8 v)
theorem mh_p10 {v : Int32} : kx_set (mH h0 m S A) m (.inr (8, (mF m S).set 10 (.int v))) = mH h0 m (va_up S 10 v) A := mh_seto (va_up S 10 v)
theorem mh_p11 {v : Int32} : kx_set (mH h0 m S A) m (.inr (8, (mF m S).set 11 (.int v))) = mH h0 m (va_up S 11 v) A := mh_seto (va_up S 11 v)
theorem mh_p17 {v : Int32} : kx_set (mH h0 m S A) m (.inr (8, (mF m S).set 17 (.int v))) = mH h0 m (va_up S 17 v) A := mh_seto (va_up S 17 v)
theorem mh_p18 {v : Int32} : kx_set (mH h0 m S A) m (.inr (8, (mF m S).set 18 (.int v))) = mH h0 m (va_up S 18 v) A := mh_seto (va_up S 18 v)
theorem mh_p19 {v : Int32} : kx_set (mH h0 m S A) m (.inr (8, (mF m S).set 19 (.int v))) = mH h0 m (va_up S 19 v) A := mh_seto (va_up S 19 v)
theorem mh_p20 {v : Int32} : kx_set (mH h0 m S A) m (.inr (8, (mF m S).set 20 (.int v))) = mH h0 m (va_up S 20 v) A := mh_seto (va_up S 20 v)
theorem mh_p22 {v : Int32} : kx_set (mH h0 m S A) m (.inr (8, (mF m S).set 22 (.int v))) = mH h0 m (va_up S 22 v) A := mh_seto (va_up S 22 v)
theorem mh_p25 {v : Int32} : kx_set (mH h0 m S A) m (.inr (8, (mF m S).set 25 (.int v))) = mH h0 m (va_up S 25 v) A := mh_seto (va_up S 25 v)
def mIs (k t : Nat) : Bool := decide (1 ≤ k) && decide (k ≤ 18) && (mTy k == t) && decide (mLn k < 20000)
theorem mIs_of {k t : Nat} (h : mIs k t = true) : 1 ≤ k ∧ k ≤ 18 ∧ mTy k = t ∧ mLn k < 20000 := by
  simp only [mIs, Bool.and_eq_true, decide_eq_true_eq, beq_iff_eq] at h
  exact ⟨h.1.1.1, h.1.1.2, h.1.2, h.2⟩
theorem kx_heq {h h' : kx_H} (e : h = h') (kk : kx_w G l M d Q kc ks pc lv st h') : kx_w G l M d Q kc ks pc lv st h := by rw [e]; exact kk
theorem mh_ld {k i : Nat} {x : Int32} (hk : mIs k 0 = true) (hx : A k i = x) (hd : decode M.2.1 pc = .ok (.iaload, 1)) (hm : mOk G h0 m) (hi : i < mLn k) (kk : kx_w G l M d Q kc ks (pc + 1) lv (.int x :: st) (mH h0 m S A)) : kx_w G l M d Q kc ks pc lv (.int (nI i) :: .ref (m + k) :: st) (mH h0 m S A) := by
  obtain ⟨k1, k2, k3, k4⟩ := mIs_of hk
  have hc := mh_a (S := S) (A := A) hm k1 k2
  rw [k3] at hc
  refine kx_ild rfl hd hc (vp_in_nI hi (by omega)) ?_
  rw [nI_clamp (by omega), hx]
  exact kk
theorem mh_st {k i : Nat} {x : Int32} {A' : Nat → Nat → Int32} (hk : mIs k 0 = true) (hd : decode M.2.1 pc = .ok (.iastore, 1)) (hm : mOk G h0 m) (hi : i < mLn k) (hA : va_up A k (va_up (A k) i x) = A') (kk : kx_w G l M d Q kc ks (pc + 1) lv st (mH h0 m S A')) : kx_w G l M d Q kc ks pc lv (.int x :: .int (nI i) :: .ref (m + k) :: st) (mH h0 m S A) := by
  obtain ⟨k1, k2, k3, k4⟩ := mIs_of hk
  have hc := mh_a (S := S) (A := A) hm k1 k2
  have hs := mh_seta (h0 := h0) (m := m) (S := S) (A := A) k1 k2 (va_up (A k) i x)
  rw [k3] at hc hs
  refine kx_ist rfl hd hc (vp_in_nI hi (by omega)) ?_
  rw [nI_clamp (by omega), hs, hA]
  exact kk
theorem mh_zl {k i : Nat} {x : Int32} (hk : mIs k 7 = true) (hx : A k i = x) (hd : decode M.2.1 pc = .ok (.baload, 1)) (hm : mOk G h0 m) (hi : i < mLn k) (kk : kx_w G l M d Q kc ks (pc + 1) lv (.int x :: st) (mH h0 m S A)) : kx_w G l M d Q kc ks pc lv (.int (nI i) :: .ref (m + k) :: st) (mH h0 m S A) := by
  obtain ⟨k1, k2, k3, k4⟩ := mIs_of hk
  have hc := mh_a (S := S) (A := A) hm k1 k2
  rw [k3] at hc
  refine kx_zld rfl hd hc (vp_in_nI hi (by omega)) ?_
  rw [nI_clamp (by omega), hx]
  exact kk
theorem mh_zs {k i : Nat} {x : Int32} {A' : Nat → Nat → Int32} (hk : mIs k 7 = true) (hd : decode M.2.1 pc = .ok (.bastore, 1)) (hm : mOk G h0 m) (hi : i < mLn k) (hA : va_up A k (va_up (A k) i x) = A') (hx : vp_nar .boolean x = x) (kk : kx_w G l M d Q kc ks (pc + 1) lv st (mH h0 m S A')) : kx_w G l M d Q kc ks pc lv (.int x :: .int (nI i) :: .ref (m + k) :: st) (mH h0 m S A) := by
  obtain ⟨k1, k2, k3, k4⟩ := mIs_of hk
  have hc := mh_a (S := S) (A := A) hm k1 k2
  have hs := mh_seta (h0 := h0) (m := m) (S := S) (A := A) k1 k2 (va_up (A k) i x)
  rw [k3] at hc hs
  refine kx_zst rfl hd hc (vp_in_nI hi (by omega)) hx ?_
  rw [nI_clamp (by omega), hs, hA]
  exact kk
end KMH
end
section
/-! ===== the reference: small methods ===== -/
section KM1
variable {G : kx_G} {l : Launch} {d : Nat} {h0 : kx_H} {m : Nat} {S : Nat → Int32} {A : Nat → Nat → Int32}
/-- how many of 0 .. n-1 -/
def cnt (p : Nat → Bool) : Nat → Nat
  | 0 => 0
  | n + 1 => cnt p n + (if p n then 1 else 0)
theorem cnt_le (p : Nat → Bool) : ∀ n, cnt p n ≤ n
  | 0 => Nat.le_refl _
  | n + 1 => by
    have := cnt_le p n
    simp only [cnt]
    split <;> omega
theorem cnt_congr {p q : Nat → Bool} : ∀ {n : Nat}, (∀ i, i < n → p i = q i) → cnt p n = cnt q n
  | 0, _ => rfl
  | n + 1, h => by
    simp only [cnt]
    rw [cnt_congr (n := n) (fun i hi => h i (by omega)), h n (by omega)]
theorem cnt_y {p : Nat → Bool} {n c : Nat} (hc : c = cnt p n) (h : p n = true) : c + 1 = cnt p (n + 1) := by simp only [cnt]; rw [if_pos h, hc]
theorem cnt_n {p : Nat → Bool} {n c : Nat} (hc : c = cnt p n) (h : p n = false) : c = cnt p (n + 1) := by simp only [cnt]; rw [if_neg (by rw [h]; decide), hc]; rfl
/-- t is an open transaction -/
def mOp (A : Nat → Nat → Int32) (bg : Nat) (t : Int32) : Prop := ∃ tn, 1 ≤ tn ∧ tn ≤ bg ∧ t = nI tn ∧ A 6 tn = 1
/-- k is a table that is there -/
def mTb (A : Nat → Nat → Int32) (k : Int32) : Prop := ∃ kn, kn < 3 ∧ k = nI kn ∧ ¬ A 1 kn = 0
theorem cM_out {v n : Int32} {h : kx_H} (hst : l.stackTraces = false) :
    kx_c G l mM_out d 0 0 [.int v, .int n] h (fun o h' => ∃ b : Bool, o = .returned (some (.int (b01 b))) ∧ h' = h ∧ (b = true ↔ (v < 0 ∨ n ≤ v))) := by
  refine kx_in (by decide +kernel) (Nat.le_of_ble_eq_true rfl) hst ?_
  refine kx_rn dM_out 1 1 [(0, .int v), (1, .int n)] [.int v] rfl ?_
  refine kx_if (tgt := 9) (kx_tk_dec rfl dM_out) rfl (fun e1 => ?_) (fun e1 => ?_)
  · skip
    replace e1 : v < 0 := e1
    refine kx_rn dM_out 2 14 [(0, .int v), (1, .int n)] [.int 1] rfl ?_
    refine kx_ret (ty := .boolean) (kx_tk_dec rfl dM_out) rfl rfl ?_
    exact ⟨true, rfl, rfl, fun _ => Or.inl e1, fun _ => rfl⟩
  · skip
    replace e1 : ¬ v < 0 := e1
    refine kx_rn dM_out 2 6 [(0, .int v), (1, .int n)] [.int n, .int v] rfl ?_
    refine kx_ic (tgt := 13) (kx_tk_dec rfl dM_out) rfl (fun e6 => ?_) (fun e6 => ?_)
    · skip
      replace e6 : v < n := e6
      refine kx_rn dM_out 1 14 [(0, .int v), (1, .int n)] [.int 0] rfl ?_
      refine kx_ret (ty := .boolean) (kx_tk_dec rfl dM_out) rfl rfl ?_
      exact ⟨false, rfl, rfl, fun z => (by cases z), fun z => absurd z (fun z => z.elim e1 (fun z => by rw [kI_lt] at e6; rw [kI_le] at z; omega))⟩
    · skip
      replace e6 : ¬ v < n := e6
      refine kx_rn dM_out 2 14 [(0, .int v), (1, .int n)] [.int 1] rfl ?_
      refine kx_ret (ty := .boolean) (kx_tk_dec rfl dM_out) rfl rfl ?_
      exact ⟨true, rfl, rfl, fun _ => Or.inr (by rw [kI_lt] at e6; rw [kI_le]; omega), fun _ => rfl⟩
theorem cM_fail {c : Int32} (hst : l.stackTraces = false) (hm : mOk G h0 m) :
    kx_c G l mM_fail d 0 0 [.ref m, .int c] (mH h0 m S A) (fun o h' => o = .returned (some (.int 0)) ∧ h' = mH h0 m (va_up S 0 c) A) := by
  refine kx_in (by decide +kernel) (Nat.le_of_ble_eq_true rfl) hst ?_
  refine kx_rn dM_fail 2 2 [(0, .ref m), (1, .int c)] [.int c, .ref m] rfl ?_
  refine qM_69 rfl (kx_tk_dec rfl dM_fail) (mh_o hm) rfl rfl (Nat.le_of_ble_eq_true rfl) ?_
  rw [mh_p0]
  refine kx_rn dM_fail 1 6 [(0, .ref m), (1, .int c)] [.int 0] rfl ?_
  refine kx_ret (ty := .int) (kx_tk_dec rfl dM_fail) rfl rfl ?_
  exact ⟨rfl, rfl⟩
theorem cM_thrown (hst : l.stackTraces = false) (hm : mOk G h0 m) :
    kx_c G l mM_thrown d 0 0 [.ref m] (mH h0 m S A) (fun o h' => o = .returned (some (.int (S 0))) ∧ h' = mH h0 m S A) := by
  refine kx_in (by decide +kernel) (Nat.le_of_ble_eq_true rfl) hst ?_
  refine kx_rn dM_thrown 1 1 [(0, .ref m)] [.ref m] rfl ?_
  refine pM_69 (v := .int (S 0)) rfl (kx_tk_dec rfl dM_thrown) (mh_o hm) rfl ?_
  refine kx_ret (ty := .int) (kx_tk_dec rfl dM_thrown) rfl rfl ?_
  exact ⟨rfl, rfl⟩
theorem mcl_lt {t : Int32} {bg : Nat} (h : t < 1) (hbg : bg ≤ 40) : ¬ mOp A bg t := by
  rintro ⟨tn, h1, h2, rfl, h4⟩
  have := (nI_ltI (a := tn) (b := 1) (by omega) (by omega)).mp h
  omega
theorem mcl_gt {t : Int32} {bg : Nat} (h : nI bg < t) (hbg : bg ≤ 40) : ¬ mOp A bg t := by
  rintro ⟨tn, h1, h2, rfl, h4⟩
  have := (nI_ltI (a := bg) (b := tn) (by omega) (by omega)).mp h
  omega
theorem mcl_st {tn bg : Nat} (h : ¬ A 6 tn = 1) (hbg : bg ≤ 40) (ht : tn ≤ bg) : ¬ mOp A bg (nI tn) := by
  rintro ⟨t2, h1, h2, h3, h4⟩
  have := (nI_eq (a := tn) (b := t2) (by omega) (by omega)).mp h3
  subst this
  exact h h4
theorem mcl_in {t : Int32} {bg : Nat} (h1 : ¬ t < 1) (h2 : ¬ nI bg < t) (hbg : bg ≤ 40) : ∃ tn, 1 ≤ tn ∧ tn ≤ bg ∧ t = nI tn := by
  have z : (1 : Int32).toInt = 1 := rfl
  have z1 : ¬ t.toInt < (1 : Int32).toInt := fun q => h1 (kI_lt.mpr q)
  have z2 : ¬ (nI bg).toInt < t.toInt := fun q => h2 (kI_lt.mpr q)
  rw [nI_toInt (by omega)] at z2
  obtain ⟨tn, e0, e1, e2⟩ := kI_nat (x := t) (by omega)
  exact ⟨tn, by omega, by omega, e0⟩
theorem mou_in {k : Int32} {n : Nat} (hn : n < 2147483648) (h : ¬ (k < 0 ∨ nI n ≤ k)) : ∃ kn, kn < n ∧ k = nI kn := by
  have z : (0 : Int32).toInt = 0 := rfl
  have z1 : ¬ k.toInt < (0 : Int32).toInt := fun q => h (Or.inl (kI_lt.mpr q))
  have z2 : ¬ (nI n).toInt ≤ k.toInt := fun q => h (Or.inr (kI_le.mpr q))
  rw [nI_toInt (by omega)] at z2
  obtain ⟨kn, e0, e1, e2⟩ := kI_nat (x := k) (by omega)
  exact ⟨kn, by omega, e0⟩
theorem mou_no {k : Int32} {n kn : Nat} (hn : n < 2147483648) (h : k < 0 ∨ nI n ≤ k) (hk : kn < n) (e : k = nI kn) : False := by
  subst e
  rcases h with h | h
  · exact nI_pos (by omega) h
  · have := (nI_leI (a := n) (b := kn) (by omega) (by omega)).mp h
    omega
theorem mtb_out {k : Int32} (h : k < 0 ∨ 3 ≤ k) : ¬ mTb A k := by
  rintro ⟨kn, h1, h2, h3⟩
  exact mou_no (n := 3) (by omega) h h1 h2
theorem mtb_no {kn : Nat} (hk : kn < 3) (h : A 1 kn = 0) : ¬ mTb A (nI kn) := by
  rintro ⟨k2, h1, h2, h3⟩
  have := (nI_eq (a := kn) (b := k2) (by omega) (by omega)).mp h2
  subst this
  exact h3 h
theorem cM_closed {t : Int32} (hst : l.stackTraces = false) (hm : mOk G h0 m) {bg : Nat} (hb : S 7 = nI bg) (hbg : bg ≤ 40) :
    kx_c G l mM_closed d 0 0 [.ref m, .int t] (mH h0 m S A) (fun o h' => ∃ b : Bool, o = .returned (some (.int (b01 b))) ∧ h' = mH h0 m S A ∧ (b = true ↔ ¬ mOp A bg t)) := by
  refine kx_in (by decide +kernel) (Nat.le_of_ble_eq_true rfl) hst ?_
  refine kx_rn dM_closed 2 2 [(0, .ref m), (1, .int t)] [.int 1, .int t] rfl ?_
  refine kx_ic (tgt := 23) (kx_tk_dec rfl dM_closed) rfl (fun e2 => ?_) (fun e2 => ?_)
  · skip
    replace e2 : t < 1 := e2
    refine kx_rn dM_closed 2 28 [(0, .ref m), (1, .int t)] [.int 1] rfl ?_
    refine kx_ret (ty := .boolean) (kx_tk_dec rfl dM_closed) rfl rfl ?_
    exact ⟨true, rfl, rfl, fun _ => mcl_lt e2 hbg, fun _ => rfl⟩
  · skip
    replace e2 : ¬ t < 1 := e2
    refine kx_rn dM_closed 2 7 [(0, .ref m), (1, .int t)] [.ref m, .int t] rfl ?_
    refine pM_76 (v := .int (S 7)) rfl (kx_tk_dec rfl dM_closed) (mh_o hm) rfl ?_
    rw [hb]
    refine kx_ic (tgt := 23) (kx_tk_dec rfl dM_closed) rfl (fun e10 => ?_) (fun e10 => ?_)
    · skip
      replace e10 : nI bg < t := e10
      refine kx_rn dM_closed 2 28 [(0, .ref m), (1, .int t)] [.int 1] rfl ?_
      refine kx_ret (ty := .boolean) (kx_tk_dec rfl dM_closed) rfl rfl ?_
      exact ⟨true, rfl, rfl, fun _ => mcl_gt e10 hbg, fun _ => rfl⟩
    · skip
      replace e10 : ¬ nI bg < t := e10
      obtain ⟨tn, ht1, ht2, rfl⟩ := mcl_in e2 e10 hbg
      refine kx_rn dM_closed 1 14 [(0, .ref m), (1, .int (nI tn))] [.ref m] rfl ?_
      refine pM_25 (v := .ref (m + 6)) rfl (kx_tk_dec rfl dM_closed) (mh_o hm) rfl ?_
      refine kx_rn dM_closed 1 18 [(0, .ref m), (1, .int (nI tn))] [.int (nI tn), .ref (m + 6)] rfl ?_
      refine mh_ld (k := 6) (x := A 6 tn) (i := tn) rfl rfl (kx_tk_dec rfl dM_closed) hm (by show tn < 41; omega) ?_
      refine kx_rn dM_closed 1 20 [(0, .ref m), (1, .int (nI tn))] [.int 1, .int (A 6 tn)] rfl ?_
      refine kx_ic (tgt := 27) (kx_tk_dec rfl dM_closed) rfl (fun e20 => ?_) (fun e20 => ?_)
      · skip
        replace e20 : A 6 tn = 1 := e20
        refine kx_rn dM_closed 1 28 [(0, .ref m), (1, .int (nI tn))] [.int 0] rfl ?_
        refine kx_ret (ty := .boolean) (kx_tk_dec rfl dM_closed) rfl rfl ?_
        exact ⟨false, rfl, rfl, fun z => (by cases z), fun z => absurd ⟨tn, ht1, ht2, rfl, e20⟩ z⟩
      · skip
        replace e20 : ¬ A 6 tn = 1 := e20
        refine kx_rn dM_closed 2 28 [(0, .ref m), (1, .int (nI tn))] [.int 1] rfl ?_
        refine kx_ret (ty := .boolean) (kx_tk_dec rfl dM_closed) rfl rfl ?_
        exact ⟨true, rfl, rfl, fun _ => mcl_st e20 hbg ht2, fun _ => rfl⟩
theorem cM_noTable {k : Int32} (hst : l.stackTraces = false) (hm : mOk G h0 m) :
    kx_c G l mM_noTable (d + 1) 0 0 [.ref m, .int k] (mH h0 m S A) (fun o h' => ∃ b : Bool, o = .returned (some (.int (b01 b))) ∧ h' = mH h0 m S A ∧ (b = true ↔ ¬ mTb A k)) := by
  refine kx_in (by decide +kernel) (Nat.le_of_ble_eq_true rfl) hst ?_
  refine kx_rn dM_noTable 2 2 [(0, .ref m), (1, .int k)] [.int 3, .int k] rfl ?_
  refine cM_72 (as := [.int k, .int 3]) (st := []) (mc := 0) (ms := 0) (kc := 0) (ks := 0) rfl (kx_tk_dec rfl dM_noTable) rfl rfl (Nat.le_of_ble_eq_true rfl) (cM_out hst) (fun o h' hq => ?_)
  obtain ⟨bo, rfl, rfl, hbo⟩ := hq
  show kx_w _ _ _ _ _ _ _ _ _ _ _
  refine kx_if (tgt := 17) (kx_tk_dec rfl dM_noTable) rfl (fun e5 => ?_) (fun e5 => ?_)
  · skip
    replace e5 : ¬ b01 bo = 0 := e5
    replace e5 : bo = true := b01_t e5
    refine kx_rn dM_noTable 2 22 [(0, .ref m), (1, .int k)] [.int 1] rfl ?_
    refine kx_ret (ty := .boolean) (kx_tk_dec rfl dM_noTable) rfl rfl ?_
    exact ⟨true, rfl, rfl, fun _ => mtb_out (hbo.mp e5), fun _ => rfl⟩
  · skip
    replace e5 : b01 bo = 0 := e5
    replace e5 : bo = false := b01_f e5
    have hb0 : ¬ (k < 0 ∨ nI 3 ≤ k) := fun z => absurd (hbo.mpr z) (by rw [e5]; decide)
    obtain ⟨kn, hk1, rfl⟩ := mou_in (by omega) hb0
    refine kx_rn dM_noTable 1 9 [(0, .ref m), (1, .int (nI kn))] [.ref m] rfl ?_
    refine pM_7 (v := .ref (m + 1)) rfl (kx_tk_dec rfl dM_noTable) (mh_o hm) rfl ?_
    refine kx_rn dM_noTable 1 13 [(0, .ref m), (1, .int (nI kn))] [.int (nI kn), .ref (m + 1)] rfl ?_
    refine mh_ld (k := 1) (x := A 1 kn) (i := kn) rfl rfl (kx_tk_dec rfl dM_noTable) hm (by show kn < 3; omega) ?_
    refine kx_if (tgt := 21) (kx_tk_dec rfl dM_noTable) rfl (fun e14 => ?_) (fun e14 => ?_)
    · skip
      replace e14 : ¬ A 1 kn = 0 := e14
      refine kx_rn dM_noTable 1 22 [(0, .ref m), (1, .int (nI kn))] [.int 0] rfl ?_
      refine kx_ret (ty := .boolean) (kx_tk_dec rfl dM_noTable) rfl rfl ?_
      exact ⟨false, rfl, rfl, fun z => (by cases z), fun z => absurd ⟨kn, hk1, rfl, e14⟩ z⟩
    · skip
      replace e14 : A 1 kn = 0 := e14
      refine kx_rn dM_noTable 2 22 [(0, .ref m), (1, .int (nI kn))] [.int 1] rfl ?_
      refine kx_ret (ty := .boolean) (kx_tk_dec rfl dM_noTable) rfl rfl ?_
      exact ⟨true, rfl, rfl, fun _ => mtb_no hk1 e14, fun _ => rfl⟩
theorem cM_create {k c : Int32} (hst : l.stackTraces = false) (hm : mOk G h0 m) :
    kx_c G l mM_create (d + 1) 0 0 [.ref m, .int k, .int c] (mH h0 m S A) (fun o h' => o = .returned none ∧ ((((k < 0 ∨ 3 ≤ k) ∨ c < 1 ∨ 4 < c) ∧ h' = mH h0 m (va_up S 0 1) A) ∨ ∃ kn, kn < 3 ∧ k = nI kn ∧ ¬ c < 1 ∧ ¬ 4 < c ∧ ((0 < A 1 kn ∧ h' = mH h0 m (va_up S 0 2) A) ∨ (¬ 0 < A 1 kn ∧ h' = mH h0 m (va_up S 0 0) (va_up A 1 (va_up (A 1) kn c)))))) := by
  refine kx_in (by decide +kernel) (Nat.le_of_ble_eq_true rfl) hst ?_
  refine kx_rn dM_create 2 2 [(0, .ref m), (1, .int k), (2, .int c)] [.int 0, .ref m] rfl ?_
  refine qM_69 rfl (kx_tk_dec rfl dM_create) (mh_o hm) rfl rfl (Nat.le_of_ble_eq_true rfl) ?_
  rw [mh_p0]
  refine kx_rn dM_create 2 7 [(0, .ref m), (1, .int k), (2, .int c)] [.int 3, .int k] rfl ?_
  refine cM_72 (as := [.int k, .int 3]) (st := []) (mc := 0) (ms := 0) (kc := 0) (ks := 0) rfl (kx_tk_dec rfl dM_create) rfl rfl (Nat.le_of_ble_eq_true rfl) (cM_out hst) (fun o h' hq => ?_)
  obtain ⟨bo, rfl, rfl, hbo⟩ := hq
  show kx_w _ _ _ _ _ _ _ _ _ _ _
  refine kx_if (tgt := 23) (kx_tk_dec rfl dM_create) rfl (fun e10 => ?_) (fun e10 => ?_)
  · skip
    replace e10 : ¬ b01 bo = 0 := e10
    replace e10 : bo = true := b01_t e10
    refine kx_rn dM_create 2 25 [(0, .ref m), (1, .int k), (2, .int c)] [.int 1, .ref m] rfl ?_
    refine qM_69 rfl (kx_tk_dec rfl dM_create) (mh_o hm) rfl rfl (Nat.le_of_ble_eq_true rfl) ?_
    rw [mh_p0]
    rw [va_upup]
    refine kx_rn dM_create 1 55 [(0, .ref m), (1, .int k), (2, .int c)] [] rfl ?_
    refine kx_retv (kx_tk_dec rfl dM_create) rfl ?_
    exact ⟨rfl, Or.inl ⟨Or.inl (hbo.mp e10), rfl⟩⟩
  · skip
    replace e10 : b01 bo = 0 := e10
    replace e10 : bo = false := b01_f e10
    refine kx_rn dM_create 2 15 [(0, .ref m), (1, .int k), (2, .int c)] [.int 1, .int c] rfl ?_
    refine kx_ic (tgt := 23) (kx_tk_dec rfl dM_create) rfl (fun e15 => ?_) (fun e15 => ?_)
    · skip
      replace e15 : c < 1 := e15
      refine kx_rn dM_create 2 25 [(0, .ref m), (1, .int k), (2, .int c)] [.int 1, .ref m] rfl ?_
      refine qM_69 rfl (kx_tk_dec rfl dM_create) (mh_o hm) rfl rfl (Nat.le_of_ble_eq_true rfl) ?_
      rw [mh_p0]
      rw [va_upup]
      refine kx_rn dM_create 1 55 [(0, .ref m), (1, .int k), (2, .int c)] [] rfl ?_
      refine kx_retv (kx_tk_dec rfl dM_create) rfl ?_
      exact ⟨rfl, Or.inl ⟨Or.inr (Or.inl e15), rfl⟩⟩
    · skip
      replace e15 : ¬ c < 1 := e15
      refine kx_rn dM_create 2 20 [(0, .ref m), (1, .int k), (2, .int c)] [.int 4, .int c] rfl ?_
      refine kx_ic (tgt := 31) (kx_tk_dec rfl dM_create) rfl (fun e20 => ?_) (fun e20 => ?_)
      · skip
        replace e20 : c ≤ 4 := e20
        have hb0 : ¬ (k < 0 ∨ nI 3 ≤ k) := fun z => absurd (hbo.mpr z) (by rw [e10]; decide)
        obtain ⟨kn, hk1, rfl⟩ := mou_in (by omega) hb0
        refine kx_rn dM_create 1 32 [(0, .ref m), (1, .int (nI kn)), (2, .int c)] [.ref m] rfl ?_
        refine pM_7 (v := .ref (m + 1)) rfl (kx_tk_dec rfl dM_create) (mh_o hm) rfl ?_
        refine kx_rn dM_create 1 36 [(0, .ref m), (1, .int (nI kn)), (2, .int c)] [.int (nI kn), .ref (m + 1)] rfl ?_
        refine mh_ld (k := 1) (x := A 1 kn) (i := kn) rfl rfl (kx_tk_dec rfl dM_create) hm (by show kn < 3; omega) ?_
        refine kx_if (tgt := 48) (kx_tk_dec rfl dM_create) rfl (fun e37 => ?_) (fun e37 => ?_)
        · skip
          replace e37 : A 1 kn ≤ 0 := e37
          refine kx_rn dM_create 1 49 [(0, .ref m), (1, .int (nI kn)), (2, .int c)] [.ref m] rfl ?_
          refine pM_7 (v := .ref (m + 1)) rfl (kx_tk_dec rfl dM_create) (mh_o hm) rfl ?_
          refine kx_rn dM_create 2 54 [(0, .ref m), (1, .int (nI kn)), (2, .int c)] [.int c, .int (nI kn), .ref (m + 1)] rfl ?_
          refine mh_st (k := 1) (i := kn) (A' := va_up A 1 (va_up (A 1) kn c)) rfl (kx_tk_dec rfl dM_create) hm (by show kn < 3; omega) rfl ?_
          refine kx_retv (kx_tk_dec rfl dM_create) rfl ?_
          exact ⟨rfl, Or.inr ⟨kn, hk1, rfl, e15, (by rw [kI_le] at e20; rw [kI_lt]; omega), Or.inr ⟨by rw [kI_le] at e37; rw [kI_lt]; omega, rfl⟩⟩⟩
        · skip
          replace e37 : ¬ A 1 kn ≤ 0 := e37
          refine kx_rn dM_create 2 42 [(0, .ref m), (1, .int (nI kn)), (2, .int c)] [.int 2, .ref m] rfl ?_
          refine qM_69 rfl (kx_tk_dec rfl dM_create) (mh_o hm) rfl rfl (Nat.le_of_ble_eq_true rfl) ?_
          rw [mh_p0]
          rw [va_upup]
          refine kx_rn dM_create 1 55 [(0, .ref m), (1, .int (nI kn)), (2, .int c)] [] rfl ?_
          refine kx_retv (kx_tk_dec rfl dM_create) rfl ?_
          exact ⟨rfl, Or.inr ⟨kn, hk1, rfl, e15, (by rw [kI_le] at e20; rw [kI_lt]; omega), Or.inl ⟨by rw [kI_le] at e37; rw [kI_lt]; omega, rfl⟩⟩⟩
      · skip
        replace e20 : ¬ c ≤ 4 := e20
        refine kx_rn dM_create 2 25 [(0, .ref m), (1, .int k), (2, .int c)] [.int 1, .ref m] rfl ?_
        refine qM_69 rfl (kx_tk_dec rfl dM_create) (mh_o hm) rfl rfl (Nat.le_of_ble_eq_true rfl) ?_
        rw [mh_p0]
        rw [va_upup]
        refine kx_rn dM_create 1 55 [(0, .ref m), (1, .int k), (2, .int c)] [] rfl ?_
        refine kx_retv (kx_tk_dec rfl dM_create) rfl ?_
        exact ⟨rfl, Or.inl ⟨Or.inr (Or.inr (by rw [kI_le] at e20; rw [kI_lt]; omega)), rfl⟩⟩
theorem cM_begin (hst : l.stackTraces = false) (hm : mOk G h0 m) {bg : Nat} (hb : S 7 = nI bg) (hbg : bg ≤ 40) :
    kx_c G l mM_begin (d + 1) 0 0 [.ref m] (mH h0 m S A) (fun o h' => (bg = 40 ∧ o = .returned (some (.int 0)) ∧ h' = mH h0 m (va_up S 0 1) A) ∨ (bg < 40 ∧ o = .returned (some (.int (nI (bg + 1)))) ∧ h' = mH h0 m (va_up (va_up S 0 0) 7 (nI (bg + 1))) (va_up A 6 (va_up (A 6) (bg + 1) 1)))) := by
  refine kx_in (by decide +kernel) (Nat.le_of_ble_eq_true rfl) hst ?_
  refine kx_rn dM_begin 2 2 [(0, .ref m)] [.int 0, .ref m] rfl ?_
  refine qM_69 rfl (kx_tk_dec rfl dM_begin) (mh_o hm) rfl rfl (Nat.le_of_ble_eq_true rfl) ?_
  rw [mh_p0]
  refine kx_rn dM_begin 1 6 [(0, .ref m)] [.ref m] rfl ?_
  refine pM_76 (v := .int (S 7)) rfl (kx_tk_dec rfl dM_begin) (mh_o hm) rfl ?_
  rw [hb]
  refine kx_rn dM_begin 1 11 [(0, .ref m)] [.int 40, .int (nI bg)] rfl ?_
  refine kx_ic (tgt := 20) (kx_tk_dec rfl dM_begin) rfl (fun e11 => ?_) (fun e11 => ?_)
  · skip
    replace e11 : ¬ nI bg = 40 := e11
    replace e11 : ¬ bg = 40 := fun z => e11 ((nI_eq (a := bg) (b := 40) (by omega) (by omega)).mpr z)
    refine kx_rn dM_begin 2 22 [(0, .ref m)] [.ref m, .ref m] rfl ?_
    refine pM_76 (v := .int (S 7)) rfl (kx_tk_dec rfl dM_begin) (mh_o hm) rfl ?_
    rw [hb]
    refine kx_rn dM_begin 2 27 [(0, .ref m)] [.int ((nI bg) + 1), .ref m] rfl ?_
    rw [show (nI bg) + 1 = nI (bg + 1) from kn_ad rfl rfl]
    refine qM_76 rfl (kx_tk_dec rfl dM_begin) (mh_o hm) rfl rfl (Nat.le_of_ble_eq_true rfl) ?_
    rw [mh_p7]
    refine kx_rn dM_begin 1 31 [(0, .ref m)] [.ref m] rfl ?_
    refine pM_25 (v := .ref (m + 6)) rfl (kx_tk_dec rfl dM_begin) (mh_o hm) rfl ?_
    refine kx_rn dM_begin 1 35 [(0, .ref m)] [.ref m, .ref (m + 6)] rfl ?_
    refine pM_76 (v := .int (nI (bg + 1))) rfl (kx_tk_dec rfl dM_begin) (mh_o hm) rfl ?_
    refine kx_rn dM_begin 1 39 [(0, .ref m)] [.int 1, .int (nI (bg + 1)), .ref (m + 6)] rfl ?_
    refine mh_st (k := 6) (i := bg + 1) (A' := va_up A 6 (va_up (A 6) (bg + 1) 1)) rfl (kx_tk_dec rfl dM_begin) hm (by show bg + 1 < 41; omega) rfl ?_
    refine kx_rn dM_begin 1 41 [(0, .ref m)] [.ref m] rfl ?_
    refine pM_76 (v := .int (nI (bg + 1))) rfl (kx_tk_dec rfl dM_begin) (mh_o hm) rfl ?_
    refine kx_ret (ty := .int) (kx_tk_dec rfl dM_begin) rfl rfl ?_
    exact Or.inr ⟨by omega, rfl, rfl⟩
  · skip
    replace e11 : nI bg = 40 := e11
    replace e11 : bg = 40 := (nI_eq (a := bg) (b := 40) (by omega) (by omega)).mp e11
    refine kx_rn dM_begin 2 16 [(0, .ref m)] [.int 1, .ref m] rfl ?_
    refine cM_79 (as := [.int 1]) (st := []) (mc := 0) (ms := 0) (kc := 0) (ks := 0) rfl (kx_tk_dec rfl dM_begin) (mh_o hm) rfl rfl (Nat.le_of_ble_eq_true rfl) (cM_fail hst hm) (fun o h' hq => ?_)
    obtain ⟨rfl, rfl⟩ := hq
    show kx_w _ _ _ _ _ _ _ _ _ _ _
    rw [va_upup]
    refine kx_ret (ty := .int) (kx_tk_dec rfl dM_begin) rfl rfl ?_
    exact Or.inl ⟨e11, rfl, rfl⟩
theorem cM_commit {t : Int32} (hst : l.stackTraces = false) (hm : mOk G h0 m) {bg : Nat} (hb : S 7 = nI bg) (hbg : bg ≤ 40) :
    kx_c G l mM_commit (d + 1) 0 0 [.ref m, .int t] (mH h0 m S A) (fun o h' => o = .returned none ∧ ((¬ mOp A bg t ∧ h' = mH h0 m (va_up S 0 1) A) ∨ ∃ tn, 1 ≤ tn ∧ tn ≤ bg ∧ t = nI tn ∧ A 6 tn = 1 ∧ h' = mH h0 m (va_up S 0 0) (va_up A 6 (va_up (A 6) tn 2)))) := by
  refine kx_in (by decide +kernel) (Nat.le_of_ble_eq_true rfl) hst ?_
  refine kx_rn dM_commit 2 2 [(0, .ref m), (1, .int t)] [.int 0, .ref m] rfl ?_
  refine qM_69 rfl (kx_tk_dec rfl dM_commit) (mh_o hm) rfl rfl (Nat.le_of_ble_eq_true rfl) ?_
  rw [mh_p0]
  refine kx_rn dM_commit 2 7 [(0, .ref m), (1, .int t)] [.int t, .ref m] rfl ?_
  refine cM_83 (as := [.int t]) (st := []) (mc := 0) (ms := 0) (kc := 0) (ks := 0) rfl (kx_tk_dec rfl dM_commit) (mh_o hm) rfl rfl (Nat.le_of_ble_eq_true rfl) (cM_closed hst hm (S := va_up S 0 0) hb hbg) (fun o h' hq => ?_)
  obtain ⟨bo, rfl, rfl, hbo⟩ := hq
  show kx_w _ _ _ _ _ _ _ _ _ _ _
  refine kx_if (tgt := 21) (kx_tk_dec rfl dM_commit) rfl (fun e10 => ?_) (fun e10 => ?_)
  · skip
    replace e10 : b01 bo = 0 := e10
    replace e10 : bo = false := b01_f e10
    obtain ⟨tn, ht1, ht2, rfl, ht4⟩ : mOp A bg t := Classical.byContradiction fun z => absurd (hbo.mpr z) (by rw [e10]; decide)
    refine kx_rn dM_commit 1 22 [(0, .ref m), (1, .int (nI tn))] [.ref m] rfl ?_
    refine pM_25 (v := .ref (m + 6)) rfl (kx_tk_dec rfl dM_commit) (mh_o hm) rfl ?_
    refine kx_rn dM_commit 2 27 [(0, .ref m), (1, .int (nI tn))] [.int 2, .int (nI tn), .ref (m + 6)] rfl ?_
    refine mh_st (k := 6) (i := tn) (A' := va_up A 6 (va_up (A 6) tn 2)) rfl (kx_tk_dec rfl dM_commit) hm (by show tn < 41; omega) rfl ?_
    refine kx_retv (kx_tk_dec rfl dM_commit) rfl ?_
    exact ⟨rfl, Or.inr ⟨tn, ht1, ht2, rfl, ht4, rfl⟩⟩
  · skip
    replace e10 : ¬ b01 bo = 0 := e10
    replace e10 : bo = true := b01_t e10
    refine kx_rn dM_commit 2 15 [(0, .ref m), (1, .int t)] [.int 1, .ref m] rfl ?_
    refine qM_69 rfl (kx_tk_dec rfl dM_commit) (mh_o hm) rfl rfl (Nat.le_of_ble_eq_true rfl) ?_
    rw [mh_p0]
    rw [va_upup]
    refine kx_rn dM_commit 1 28 [(0, .ref m), (1, .int t)] [] rfl ?_
    refine kx_retv (kx_tk_dec rfl dM_commit) rfl ?_
    exact ⟨rfl, Or.inl ⟨hbo.mp e10, rfl⟩⟩
theorem cM_type {c : Int32} {ln : Nat} (hst : l.stackTraces = false) (hm : mOk G h0 m) (hl : S 10 = nI ln) (hln : ln ≤ 40) :
    kx_c G l mM_type (d + 1) 0 0 [.ref m, .int c] (mH h0 m S A) (fun o h' => ((c < 0 ∨ 127 < c) ∧ o = .returned (some (.int 0)) ∧ h' = mH h0 m (va_up S 0 1) A) ∨ (¬ c < 0 ∧ ¬ 127 < c ∧ ln = 40 ∧ o = .returned (some (.int 0)) ∧ h' = mH h0 m (va_up S 0 2) A) ∨ (¬ c < 0 ∧ ¬ 127 < c ∧ ln < 40 ∧ o = .returned (some (.int (nI (ln + 1)))) ∧ h' = mH h0 m (va_up (va_up S 0 0) 10 (nI (ln + 1))) (va_up A 7 (va_up (A 7) ln c)))) := by
  refine kx_in (by decide +kernel) (Nat.le_of_ble_eq_true rfl) hst ?_
  refine kx_rn dM_type 2 2 [(0, .ref m), (1, .int c)] [.int 0, .ref m] rfl ?_
  refine qM_69 rfl (kx_tk_dec rfl dM_type) (mh_o hm) rfl rfl (Nat.le_of_ble_eq_true rfl) ?_
  rw [mh_p0]
  refine kx_rn dM_type 1 6 [(0, .ref m), (1, .int c)] [.int c] rfl ?_
  refine kx_if (tgt := 15) (kx_tk_dec rfl dM_type) rfl (fun e6 => ?_) (fun e6 => ?_)
  · skip
    replace e6 : c < 0 := e6
    refine kx_rn dM_type 2 17 [(0, .ref m), (1, .int c)] [.int 1, .ref m] rfl ?_
    refine cM_79 (as := [.int 1]) (st := []) (mc := 0) (ms := 0) (kc := 0) (ks := 0) rfl (kx_tk_dec rfl dM_type) (mh_o hm) rfl rfl (Nat.le_of_ble_eq_true rfl) (cM_fail hst hm) (fun o h' hq => ?_)
    obtain ⟨rfl, rfl⟩ := hq
    show kx_w _ _ _ _ _ _ _ _ _ _ _
    rw [va_upup]
    refine kx_ret (ty := .int) (kx_tk_dec rfl dM_type) rfl rfl ?_
    exact Or.inl ⟨Or.inl e6, rfl, rfl⟩
  · skip
    replace e6 : ¬ c < 0 := e6
    refine kx_rn dM_type 2 12 [(0, .ref m), (1, .int c)] [.int 127, .int c] rfl ?_
    refine kx_ic (tgt := 21) (kx_tk_dec rfl dM_type) rfl (fun e12 => ?_) (fun e12 => ?_)
    · skip
      replace e12 : c ≤ 127 := e12
      refine kx_rn dM_type 1 22 [(0, .ref m), (1, .int c)] [.ref m] rfl ?_
      refine pM_90 (v := .int (S 10)) rfl (kx_tk_dec rfl dM_type) (mh_o hm) rfl ?_
      rw [hl]
      refine kx_rn dM_type 1 27 [(0, .ref m), (1, .int c)] [.int 40, .int (nI ln)] rfl ?_
      refine kx_ic (tgt := 36) (kx_tk_dec rfl dM_type) rfl (fun e27 => ?_) (fun e27 => ?_)
      · skip
        replace e27 : ¬ nI ln = 40 := e27
        replace e27 : ¬ ln = 40 := fun z => e27 ((nI_eq (a := ln) (b := 40) (by omega) (by omega)).mpr z)
        refine kx_rn dM_type 1 37 [(0, .ref m), (1, .int c)] [.ref m] rfl ?_
        refine pM_28 (v := .ref (m + 7)) rfl (kx_tk_dec rfl dM_type) (mh_o hm) rfl ?_
        refine kx_rn dM_type 1 41 [(0, .ref m), (1, .int c)] [.ref m, .ref (m + 7)] rfl ?_
        refine pM_90 (v := .int (S 10)) rfl (kx_tk_dec rfl dM_type) (mh_o hm) rfl ?_
        rw [hl]
        refine kx_rn dM_type 1 45 [(0, .ref m), (1, .int c)] [.int c, .int (nI ln), .ref (m + 7)] rfl ?_
        refine mh_st (k := 7) (i := ln) (A' := va_up A 7 (va_up (A 7) ln c)) rfl (kx_tk_dec rfl dM_type) hm (by show ln < 40; omega) rfl ?_
        refine kx_rn dM_type 2 48 [(0, .ref m), (1, .int c)] [.ref m, .ref m] rfl ?_
        refine pM_90 (v := .int (S 10)) rfl (kx_tk_dec rfl dM_type) (mh_o hm) rfl ?_
        rw [hl]
        refine kx_rn dM_type 2 53 [(0, .ref m), (1, .int c)] [.int ((nI ln) + 1), .ref m] rfl ?_
        rw [show (nI ln) + 1 = nI (ln + 1) from kn_ad rfl rfl]
        refine qM_90 rfl (kx_tk_dec rfl dM_type) (mh_o hm) rfl rfl (Nat.le_of_ble_eq_true rfl) ?_
        rw [mh_p10]
        refine kx_rn dM_type 1 57 [(0, .ref m), (1, .int c)] [.ref m] rfl ?_
        refine pM_90 (v := .int (nI (ln + 1))) rfl (kx_tk_dec rfl dM_type) (mh_o hm) rfl ?_
        refine kx_ret (ty := .int) (kx_tk_dec rfl dM_type) rfl rfl ?_
        exact Or.inr (Or.inr ⟨e6, (by rw [kI_le] at e12; rw [kI_lt]; omega), by omega, rfl, rfl⟩)
      · skip
        replace e27 : nI ln = 40 := e27
        replace e27 : ln = 40 := (nI_eq (a := ln) (b := 40) (by omega) (by omega)).mp e27
        refine kx_rn dM_type 2 32 [(0, .ref m), (1, .int c)] [.int 2, .ref m] rfl ?_
        refine cM_79 (as := [.int 2]) (st := []) (mc := 0) (ms := 0) (kc := 0) (ks := 0) rfl (kx_tk_dec rfl dM_type) (mh_o hm) rfl rfl (Nat.le_of_ble_eq_true rfl) (cM_fail hst hm) (fun o h' hq => ?_)
        obtain ⟨rfl, rfl⟩ := hq
        show kx_w _ _ _ _ _ _ _ _ _ _ _
        rw [va_upup]
        refine kx_ret (ty := .int) (kx_tk_dec rfl dM_type) rfl rfl ?_
        exact Or.inr (Or.inl ⟨e6, (by rw [kI_le] at e12; rw [kI_lt]; omega), e27, rfl, rfl⟩)
    · skip
      replace e12 : ¬ c ≤ 127 := e12
      refine kx_rn dM_type 2 17 [(0, .ref m), (1, .int c)] [.int 1, .ref m] rfl ?_
      refine cM_79 (as := [.int 1]) (st := []) (mc := 0) (ms := 0) (kc := 0) (ks := 0) rfl (kx_tk_dec rfl dM_type) (mh_o hm) rfl rfl (Nat.le_of_ble_eq_true rfl) (cM_fail hst hm) (fun o h' hq => ?_)
      obtain ⟨rfl, rfl⟩ := hq
      show kx_w _ _ _ _ _ _ _ _ _ _ _
      rw [va_upup]
      refine kx_ret (ty := .int) (kx_tk_dec rfl dM_type) rfl rfl ?_
      exact Or.inl ⟨Or.inr (by rw [kI_le] at e12; rw [kI_lt]; omega), rfl, rfl⟩
theorem cM_errorAt (hst : l.stackTraces = false) (hm : mOk G h0 m) :
    kx_c G l mM_errorAt d 0 0 [.ref m] (mH h0 m S A) (fun o h' => o = .returned (some (.int (S 11))) ∧ h' = mH h0 m (va_up S 0 0) A) := by
  refine kx_in (by decide +kernel) (Nat.le_of_ble_eq_true rfl) hst ?_
  refine kx_rn dM_errorAt 2 2 [(0, .ref m)] [.int 0, .ref m] rfl ?_
  refine qM_69 rfl (kx_tk_dec rfl dM_errorAt) (mh_o hm) rfl rfl (Nat.le_of_ble_eq_true rfl) ?_
  rw [mh_p0]
  refine kx_rn dM_errorAt 1 6 [(0, .ref m)] [.ref m] rfl ?_
  refine pM_31 (v := .int (S 11)) rfl (kx_tk_dec rfl dM_errorAt) (mh_o hm) rfl ?_
  refine kx_ret (ty := .int) (kx_tk_dec rfl dM_errorAt) rfl rfl ?_
  exact ⟨rfl, rfl⟩
end KM1
end
section
/-! ===== the reference: versions ===== -/
section KM2
variable {G : kx_G} {l : Launch} {d : Nat} {h0 : kx_H} {m : Nat} {S : Nat → Int32} {A : Nat → Nat → Int32}
theorem va_nIp {F : Nat → Int32} {U : Nat → Nat} (h : ∀ v, F v = nI (U v)) (i x : Nat) : ∀ v, va_up F i (nI x) v = nI (va_up U i x v) := by
  intro v
  simp only [va_up]
  split
  · rfl
  · exact h v
/-- the highest of 1 .. n with f, or 0 -/
def hw (f : Nat → Bool) : Nat → Nat
  | 0 => 0
  | n + 1 => if f (n + 1) then n + 1 else hw f n
theorem hw_le (f : Nat → Bool) : ∀ n, hw f n ≤ n
  | 0 => Nat.le_refl _
  | n + 1 => by
    simp only [hw]
    split
    · exact Nat.le_refl _
    · exact Nat.le_succ_of_le (hw_le f n)
theorem hw_congr {f g : Nat → Bool} : ∀ {n : Nat}, (∀ i, 1 ≤ i → i ≤ n → f i = g i) → hw f n = hw g n
  | 0, _ => rfl
  | n + 1, h => by
    simp only [hw]
    rw [hw_congr (n := n) (fun i h1 h2 => h i h1 (by omega)), h (n + 1) (by omega) (by omega)]
theorem hw_at {f : Nat → Bool} : ∀ {n : Nat}, hw f n ≠ 0 → f (hw f n) = true
  | 0, h => absurd rfl h
  | n + 1, h => by
    simp only [hw] at h ⊢
    split
    · assumption
    · rename_i e; rw [if_neg e] at h; exact hw_at h
def heldJ (low : Nat) : Nat → Int32
  | 0 => nI low - 1
  | w + 1 => nI (low + w)
def heldR (low : Nat) : Nat → Int32
  | 0 => -1
  | w + 1 => nI (low + w)
theorem heldJ_dec {low w : Nat} : nI (low + w) + (-1) = heldJ low w := by
  cases w with
  | zero => show nI low + (-1) = nI low - 1; rw [Int32.sub_eq_add_neg]
  | succ w => show nI (low + w + 1) + (-1) = nI (low + w); rw [← Int32.sub_eq_add_neg]; exact nI_pred _
theorem kn_plt {n : Nat} (h : n < 2147483648) : nI n - 1 < nI n := by
  cases n with
  | zero => decide
  | succ n => rw [nI_pred]; exact nI_lt (by omega) (by omega)
/-- what stays when the writer tn's versions go -/
def vBrk (V : Nat → Nat) (tn v : Nat) : Nat := if v % 40 = tn - 1 ∧ v < 2880 then 0 else V v
theorem cM_breakUp {tn : Nat} (hst : l.stackTraces = false) (hm : mOk G h0 m) (ht1 : 1 ≤ tn) (ht2 : tn ≤ 40) {V : Nat → Nat} (hV : ∀ v, A 4 v = nI (V v)) (hV2 : ∀ v, V v < 256) :
    kx_c G l mM_breakUp d 0 0 [.ref m, .int (nI tn)] (mH h0 m S A) (fun o h' => o = .returned (some (.int (nI (cnt (fun j => decide (¬ V (40 * j + (tn - 1)) = 0)) 72)))) ∧ h' = mH h0 m S (va_up (va_up A 6 (va_up (A 6) tn 3)) 4 (fun v => nI (vBrk V tn v)))) := by
  refine kx_in (by decide +kernel) (Nat.le_of_ble_eq_true rfl) hst ?_
  have loop : ∀ n (j v c : Nat) (F : Nat → Int32) (U : Nat → Nat), j + n = 72 → v = 40 * j + (tn - 1) → c = cnt (fun j => decide (¬ V (40 * j + (tn - 1)) = 0)) j → (∀ v, F v = nI (U v)) → (∀ i, U i = if i % 40 = tn - 1 ∧ i < 40 * j then 0 else V i) → (∀ i, U i < 256) → kx_w G l mM_breakUp d (fun o h' => o = .returned (some (.int (nI (cnt (fun j => decide (¬ V (40 * j + (tn - 1)) = 0)) 72)))) ∧ h' = mH h0 m S (va_up (va_up A 6 (va_up (A 6) tn 3)) 4 (fun v => nI (vBrk V tn v)))) 0 0 13 [(0, .ref m), (1, .int (nI tn)), (2, .int (nI c)), (3, .int (nI v))] [] (mH h0 m S (va_up (va_up A 6 (va_up (A 6) tn 3)) 4 F)) := by
    intro n
    induction n with
    | zero =>
      intro j v c F U hj hv hc hF hU hU2
      refine kx_rn dM_breakUp 2 17 [(0, .ref m), (1, .int (nI tn)), (2, .int (nI c)), (3, .int (nI v))] [.int 2880, .int (nI v)] rfl ?_
      refine kx_ic (tgt := 45) (kx_tk_dec rfl dM_breakUp) rfl (fun e17 => ?_) (fun e17 => ?_)
      · skip
        replace e17 : 2880 ≤ nI v := e17
        replace e17 : 2880 ≤ v := (nI_leI (a := 2880) (b := v) (by omega) (by omega)).mp e17
        refine kx_rn dM_breakUp 1 46 [(0, .ref m), (1, .int (nI tn)), (2, .int (nI c)), (3, .int (nI v))] [.int (nI c)] rfl ?_
        refine kx_ret (ty := .int) (kx_tk_dec rfl dM_breakUp) rfl rfl ?_
        refine ⟨by rw [hc, show j = 72 by omega], ?_⟩
        have z : F = fun v => nI (vBrk V tn v) := by
          funext i
          rw [hF, hU]
          rw [show j = 72 by omega]
          rfl
        rw [z]
      · skip
        replace e17 : ¬ 2880 ≤ nI v := e17
        replace e17 : ¬ 2880 ≤ v := fun z => e17 ((nI_leI (a := 2880) (b := v) (by omega) (by omega)).mpr z)
        exfalso; omega
    | succ n ih =>
      intro j v c F U hj hv hc hF hU hU2
      have hcl := cnt_le (fun j => decide (¬ V (40 * j + (tn - 1)) = 0)) j
      refine kx_rn dM_breakUp 2 17 [(0, .ref m), (1, .int (nI tn)), (2, .int (nI c)), (3, .int (nI v))] [.int 2880, .int (nI v)] rfl ?_
      refine kx_ic (tgt := 45) (kx_tk_dec rfl dM_breakUp) rfl (fun e17 => ?_) (fun e17 => ?_)
      · skip
        replace e17 : 2880 ≤ nI v := e17
        replace e17 : 2880 ≤ v := (nI_leI (a := 2880) (b := v) (by omega) (by omega)).mp e17
        exfalso; omega
      · skip
        replace e17 : ¬ 2880 ≤ nI v := e17
        replace e17 : ¬ 2880 ≤ v := fun z => e17 ((nI_leI (a := 2880) (b := v) (by omega) (by omega)).mpr z)
        refine kx_rn dM_breakUp 1 21 [(0, .ref m), (1, .int (nI tn)), (2, .int (nI c)), (3, .int (nI v))] [.ref m] rfl ?_
        refine pM_19 (v := .ref (m + 4)) rfl (kx_tk_dec rfl dM_breakUp) (mh_o hm) rfl ?_
        refine kx_rn dM_breakUp 1 25 [(0, .ref m), (1, .int (nI tn)), (2, .int (nI c)), (3, .int (nI v))] [.int (nI v), .ref (m + 4)] rfl ?_
        refine mh_ld (k := 4) (x := F v) (i := v) rfl rfl (kx_tk_dec rfl dM_breakUp) hm (by show v < 2880; omega) ?_
        rw [hF v]
        have := hU2 v
        refine kx_if (tgt := 32) (kx_tk_dec rfl dM_breakUp) rfl (fun e26 => ?_) (fun e26 => ?_)
        · skip
          replace e26 : nI (U v) = 0 := e26
          replace e26 : U v = 0 := (nI_eq (a := U v) (b := 0) (by omega) (by omega)).mp e26
          refine kx_rn dM_breakUp 1 33 [(0, .ref m), (1, .int (nI tn)), (2, .int (nI c)), (3, .int (nI v))] [.ref m] rfl ?_
          refine pM_19 (v := .ref (m + 4)) rfl (kx_tk_dec rfl dM_breakUp) (mh_o hm) rfl ?_
          refine kx_rn dM_breakUp 2 38 [(0, .ref m), (1, .int (nI tn)), (2, .int (nI c)), (3, .int (nI v))] [.int 0, .int (nI v), .ref (m + 4)] rfl ?_
          refine mh_st (k := 4) (i := v) (A' := va_up (va_up A 6 (va_up (A 6) tn 3)) 4 (va_up F v 0)) rfl (kx_tk_dec rfl dM_breakUp) hm (by show v < 2880; omega) (va_upup _ _ _ _) ?_
          refine kx_rn dM_breakUp 2 13 [(0, .ref m), (1, .int (nI tn)), (2, .int (nI c)), (3, .int ((nI v) + 40))] [] rfl ?_
          rw [show (nI v) + 40 = nI (v + 40) from kn_ad rfl rfl]
          refine ih (j + 1) (v + 40) c (va_up F v 0) (va_up U v 0) (by omega) (by omega) ?_ (va_nIp hF v 0) ?_ ?_
          · have z : U v = V v := by rw [hU, if_neg (by omega)]
            exact cnt_n hc (by show decide _ = false; rw [decide_eq_false_iff_not, ← hv, ← z]; exact not_not_intro e26)
          · intro i
            simp only [va_up]
            by_cases z : i = v
            · rw [if_pos z, if_pos (by omega)]
            · rw [if_neg z, hU]
              by_cases z2 : i % 40 = tn - 1 ∧ i < 40 * j
              · rw [if_pos z2, if_pos (by omega)]
              · rw [if_neg z2, if_neg (by omega)]
          · intro i
            simp only [va_up]
            split
            · decide
            · exact hU2 i
        · skip
          replace e26 : ¬ nI (U v) = 0 := e26
          replace e26 : ¬ U v = 0 := fun z => e26 ((nI_eq (a := U v) (b := 0) (by omega) (by omega)).mpr z)
          refine kx_rn dM_breakUp 2 33 [(0, .ref m), (1, .int (nI tn)), (2, .int ((nI c) + 1)), (3, .int (nI v))] [.ref m] rfl ?_
          rw [show (nI c) + 1 = nI (c + 1) from kn_ad rfl rfl]
          refine pM_19 (v := .ref (m + 4)) rfl (kx_tk_dec rfl dM_breakUp) (mh_o hm) rfl ?_
          refine kx_rn dM_breakUp 2 38 [(0, .ref m), (1, .int (nI tn)), (2, .int (nI (c + 1))), (3, .int (nI v))] [.int 0, .int (nI v), .ref (m + 4)] rfl ?_
          refine mh_st (k := 4) (i := v) (A' := va_up (va_up A 6 (va_up (A 6) tn 3)) 4 (va_up F v 0)) rfl (kx_tk_dec rfl dM_breakUp) hm (by show v < 2880; omega) (va_upup _ _ _ _) ?_
          refine kx_rn dM_breakUp 2 13 [(0, .ref m), (1, .int (nI tn)), (2, .int (nI (c + 1))), (3, .int ((nI v) + 40))] [] rfl ?_
          rw [show (nI v) + 40 = nI (v + 40) from kn_ad rfl rfl]
          refine ih (j + 1) (v + 40) (c + 1) (va_up F v 0) (va_up U v 0) (by omega) (by omega) ?_ (va_nIp hF v 0) ?_ ?_
          · have z : U v = V v := by rw [hU, if_neg (by omega)]
            exact cnt_y hc (by show decide _ = true; rw [decide_eq_true_eq, ← hv, ← z]; exact e26)
          · intro i
            simp only [va_up]
            by_cases z : i = v
            · rw [if_pos z, if_pos (by omega)]
            · rw [if_neg z, hU]
              by_cases z2 : i % 40 = tn - 1 ∧ i < 40 * j
              · rw [if_pos z2, if_pos (by omega)]
              · rw [if_neg z2, if_neg (by omega)]
          · intro i
            simp only [va_up]
            split
            · decide
            · exact hU2 i
  refine kx_rn dM_breakUp 1 1 [(0, .ref m), (1, .int (nI tn))] [.ref m] rfl ?_
  refine pM_25 (v := .ref (m + 6)) rfl (kx_tk_dec rfl dM_breakUp) (mh_o hm) rfl ?_
  refine kx_rn dM_breakUp 2 6 [(0, .ref m), (1, .int (nI tn))] [.int 3, .int (nI tn), .ref (m + 6)] rfl ?_
  refine mh_st (k := 6) (i := tn) (A' := va_up A 6 (va_up (A 6) tn 3)) rfl (kx_tk_dec rfl dM_breakUp) hm (by show tn < 41; omega) rfl ?_
  refine kx_rn dM_breakUp 6 13 [(0, .ref m), (1, .int (nI tn)), (2, .int 0), (3, .int ((nI tn) - 1))] [] rfl ?_
  rw [show (nI tn) - 1 = nI (tn - 1) from kn_su rfl rfl (by omega)]
  refine kx_heq (congrArg (mH h0 m S) (va_upsame (va_up A 6 (va_up (A 6) tn 3)) 4).symm) ?_
  exact loop 72 0 (tn - 1) 0 _ V rfl (by omega) rfl hV (fun i => by rw [if_neg (by omega)]) hV2
theorem heldR_z {low w : Nat} (h : w = 0) : heldR low w = -1 := by rw [h]; rfl
theorem cM_held {tn kn rn : Nat} (hst : l.stackTraces = false) (hm : mOk G h0 m) (ht1 : 1 ≤ tn) (ht2 : tn ≤ 40) (hk : kn < 3) (hr : rn < 24) {V : Nat → Nat} (hV : ∀ v, A 4 v = nI (V v)) (hV2 : ∀ v, V v < 256) :
    kx_c G l mM_held d 0 0 [.ref m, .int (nI tn), .int (nI kn), .int (nI rn)] (mH h0 m S A) (fun o h' => o = .returned (some (.int (heldR (40 * (24 * kn + rn)) (hw (fun w => decide (¬ V (40 * (24 * kn + rn) + w - 1) = 0)) tn)))) ∧ h' = mH h0 m S A) := by
  refine kx_in (by decide +kernel) (Nat.le_of_ble_eq_true rfl) hst ?_
  have loop : ∀ n : Nat, n ≤ tn → hw (fun w => decide (¬ V (40 * (24 * kn + rn) + w - 1) = 0)) tn = hw (fun w => decide (¬ V (40 * (24 * kn + rn) + w - 1) = 0)) n → kx_w G l mM_held d (fun o h' => o = .returned (some (.int (heldR (40 * (24 * kn + rn)) (hw (fun w => decide (¬ V (40 * (24 * kn + rn) + w - 1) = 0)) tn)))) ∧ h' = mH h0 m S A) 0 0 26 [(0, .ref m), (1, .int (nI tn)), (2, .int (nI kn)), (3, .int (nI rn)), (4, .int (heldJ (40 * (24 * kn + rn)) n)), (5, .int (nI (40 * (24 * kn + rn))))] [] (mH h0 m S A) := by
    intro n
    induction n with
    | zero =>
      intro hw1 hw0
      refine kx_rn dM_held 2 30 [(0, .ref m), (1, .int (nI tn)), (2, .int (nI kn)), (3, .int (nI rn)), (4, .int (nI (40 * (24 * kn + rn)) - 1)), (5, .int (nI (40 * (24 * kn + rn))))] [.int (nI (40 * (24 * kn + rn))), .int (nI (40 * (24 * kn + rn)) - 1)] rfl ?_
      refine kx_ic (tgt := 49) (kx_tk_dec rfl dM_held) rfl (fun e30 => ?_) (fun e30 => ?_)
      · skip
        replace e30 : nI (40 * (24 * kn + rn)) - 1 < nI (40 * (24 * kn + rn)) := e30
        refine kx_rn dM_held 2 53 [(0, .ref m), (1, .int (nI tn)), (2, .int (nI kn)), (3, .int (nI rn)), (4, .int (nI (40 * (24 * kn + rn)) - 1)), (5, .int (nI (40 * (24 * kn + rn))))] [.int (nI (40 * (24 * kn + rn))), .int (nI (40 * (24 * kn + rn)) - 1)] rfl ?_
        refine kx_ic (tgt := 61) (kx_tk_dec rfl dM_held) rfl (fun e53 => ?_) (fun e53 => ?_)
        · skip
          replace e53 : nI (40 * (24 * kn + rn)) - 1 < nI (40 * (24 * kn + rn)) := e53
          refine kx_rn dM_held 1 62 [(0, .ref m), (1, .int (nI tn)), (2, .int (nI kn)), (3, .int (nI rn)), (4, .int (nI (40 * (24 * kn + rn)) - 1)), (5, .int (nI (40 * (24 * kn + rn))))] [.int ((-1))] rfl ?_
          refine kx_ret (ty := .int) (kx_tk_dec rfl dM_held) rfl rfl ?_
          rw [hw0]
          exact ⟨rfl, rfl⟩
        · skip
          replace e53 : ¬ nI (40 * (24 * kn + rn)) - 1 < nI (40 * (24 * kn + rn)) := e53
          exact absurd (kn_plt (by omega)) e53
      · skip
        replace e30 : ¬ nI (40 * (24 * kn + rn)) - 1 < nI (40 * (24 * kn + rn)) := e30
        exact absurd (kn_plt (by omega)) e30
    | succ n ih =>
      intro hw1 hw0
      refine kx_rn dM_held 2 30 [(0, .ref m), (1, .int (nI tn)), (2, .int (nI kn)), (3, .int (nI rn)), (4, .int (nI (40 * (24 * kn + rn) + n))), (5, .int (nI (40 * (24 * kn + rn))))] [.int (nI (40 * (24 * kn + rn))), .int (nI (40 * (24 * kn + rn) + n))] rfl ?_
      refine kx_ic (tgt := 49) (kx_tk_dec rfl dM_held) rfl (fun e30 => ?_) (fun e30 => ?_)
      · skip
        replace e30 : nI (40 * (24 * kn + rn) + n) < nI (40 * (24 * kn + rn)) := e30
        replace e30 : 40 * (24 * kn + rn) + n < 40 * (24 * kn + rn) := (nI_ltI (a := 40 * (24 * kn + rn) + n) (b := 40 * (24 * kn + rn)) (by omega) (by omega)).mp e30
        exfalso; omega
      · skip
        replace e30 : ¬ nI (40 * (24 * kn + rn) + n) < nI (40 * (24 * kn + rn)) := e30
        replace e30 : ¬ 40 * (24 * kn + rn) + n < 40 * (24 * kn + rn) := fun z => e30 ((nI_ltI (a := 40 * (24 * kn + rn) + n) (b := 40 * (24 * kn + rn)) (by omega) (by omega)).mpr z)
        refine kx_rn dM_held 1 34 [(0, .ref m), (1, .int (nI tn)), (2, .int (nI kn)), (3, .int (nI rn)), (4, .int (nI (40 * (24 * kn + rn) + n))), (5, .int (nI (40 * (24 * kn + rn))))] [.ref m] rfl ?_
        refine pM_19 (v := .ref (m + 4)) rfl (kx_tk_dec rfl dM_held) (mh_o hm) rfl ?_
        refine kx_rn dM_held 1 39 [(0, .ref m), (1, .int (nI tn)), (2, .int (nI kn)), (3, .int (nI rn)), (4, .int (nI (40 * (24 * kn + rn) + n))), (5, .int (nI (40 * (24 * kn + rn))))] [.int (nI (40 * (24 * kn + rn) + n)), .ref (m + 4)] rfl ?_
        refine mh_ld (k := 4) (x := A 4 (40 * (24 * kn + rn) + n)) (i := 40 * (24 * kn + rn) + n) rfl rfl (kx_tk_dec rfl dM_held) hm (by show 40 * (24 * kn + rn) + n < 2880; omega) ?_
        rw [hV (40 * (24 * kn + rn) + n)]
        have := hV2 (40 * (24 * kn + rn) + n)
        refine kx_if (tgt := 49) (kx_tk_dec rfl dM_held) rfl (fun e40 => ?_) (fun e40 => ?_)
        · skip
          replace e40 : ¬ nI (V (40 * (24 * kn + rn) + n)) = 0 := e40
          replace e40 : ¬ V (40 * (24 * kn + rn) + n) = 0 := fun z => e40 ((nI_eq (a := V (40 * (24 * kn + rn) + n)) (b := 0) (by omega) (by omega)).mpr z)
          refine kx_rn dM_held 2 53 [(0, .ref m), (1, .int (nI tn)), (2, .int (nI kn)), (3, .int (nI rn)), (4, .int (nI (40 * (24 * kn + rn) + n))), (5, .int (nI (40 * (24 * kn + rn))))] [.int (nI (40 * (24 * kn + rn))), .int (nI (40 * (24 * kn + rn) + n))] rfl ?_
          refine kx_ic (tgt := 61) (kx_tk_dec rfl dM_held) rfl (fun e53 => ?_) (fun e53 => ?_)
          · skip
            replace e53 : nI (40 * (24 * kn + rn) + n) < nI (40 * (24 * kn + rn)) := e53
            replace e53 : 40 * (24 * kn + rn) + n < 40 * (24 * kn + rn) := (nI_ltI (a := 40 * (24 * kn + rn) + n) (b := 40 * (24 * kn + rn)) (by omega) (by omega)).mp e53
            exfalso; omega
          · skip
            replace e53 : ¬ nI (40 * (24 * kn + rn) + n) < nI (40 * (24 * kn + rn)) := e53
            replace e53 : ¬ 40 * (24 * kn + rn) + n < 40 * (24 * kn + rn) := fun z => e53 ((nI_ltI (a := 40 * (24 * kn + rn) + n) (b := 40 * (24 * kn + rn)) (by omega) (by omega)).mpr z)
            refine kx_rn dM_held 2 62 [(0, .ref m), (1, .int (nI tn)), (2, .int (nI kn)), (3, .int (nI rn)), (4, .int (nI (40 * (24 * kn + rn) + n))), (5, .int (nI (40 * (24 * kn + rn))))] [.int (nI (40 * (24 * kn + rn) + n))] rfl ?_
            refine kx_ret (ty := .int) (kx_tk_dec rfl dM_held) rfl rfl ?_
            have z : hw (fun w => decide (¬ V (40 * (24 * kn + rn) + w - 1) = 0)) (n + 1) = n + 1 := by simp only [hw]; rw [if_pos (by simpa using e40)]
            rw [hw0, z]
            exact ⟨rfl, rfl⟩
        · skip
          replace e40 : nI (V (40 * (24 * kn + rn) + n)) = 0 := e40
          replace e40 : V (40 * (24 * kn + rn) + n) = 0 := (nI_eq (a := V (40 * (24 * kn + rn) + n)) (b := 0) (by omega) (by omega)).mp e40
          refine kx_rn dM_held 1 46 [(0, .ref m), (1, .int (nI tn)), (2, .int (nI kn)), (3, .int (nI rn)), (4, .int ((nI (40 * (24 * kn + rn) + n)) + (-1))), (5, .int (nI (40 * (24 * kn + rn))))] [] rfl ?_
          refine kx_rn dM_held 1 26 [(0, .ref m), (1, .int (nI tn)), (2, .int (nI kn)), (3, .int (nI rn)), (4, .int ((nI (40 * (24 * kn + rn) + n)) + (-1))), (5, .int (nI (40 * (24 * kn + rn))))] [] rfl ?_
          rw [heldJ_dec]
          exact ih (by omega) (by rw [hw0]; simp only [hw]; rw [if_neg (by simpa using e40)])
  refine kx_rn dM_held 20 26 [(0, .ref m), (1, .int (nI tn)), (2, .int (nI kn)), (3, .int (nI rn)), (4, .int (((40 * ((24 * (nI kn)) + (nI rn))) + (nI tn)) - 1)), (5, .int (40 * ((24 * (nI kn)) + (nI rn))))] [] rfl ?_
  rw [show ((40 * ((24 * (nI kn)) + (nI rn))) + (nI tn)) - 1 = nI (((40 * ((24 * kn) + rn)) + tn) - 1) from kn_su (kn_ad (kn_mu rfl (kn_ad (kn_mu rfl rfl) rfl)) rfl) rfl (by omega)]
  rw [show 40 * ((24 * (nI kn)) + (nI rn)) = nI (40 * ((24 * kn) + rn)) from kn_mu rfl (kn_ad (kn_mu rfl rfl) rfl)]
  rw [show nI (40 * (24 * kn + rn) + tn - 1) = heldJ (40 * (24 * kn + rn)) tn from by cases tn with | zero => omega | succ q => rfl]
  exact loop tn (Nat.le_refl _) rfl
theorem cM_gone {x : Int32} {h : kx_H} (hst : l.stackTraces = false) :
    kx_c G l mM_gone d 0 0 [.int x] h (fun o h' => ∃ b : Bool, o = .returned (some (.int (b01 b))) ∧ h' = h ∧ (b = true ↔ x &&& 2 = 2)) := by
  refine kx_in (by decide +kernel) (Nat.le_of_ble_eq_true rfl) hst ?_
  refine kx_rn dM_gone 4 4 [(0, .int x)] [.int 2, .int (x &&& (2 : Int32))] rfl ?_
  refine kx_ic (tgt := 11) (kx_tk_dec rfl dM_gone) rfl (fun e4 => ?_) (fun e4 => ?_)
  · skip
    replace e4 : ¬ x &&& (2 : Int32) = 2 := e4
    refine kx_rn dM_gone 1 12 [(0, .int x)] [.int 0] rfl ?_
    refine kx_ret (ty := .boolean) (kx_tk_dec rfl dM_gone) rfl rfl ?_
    exact ⟨false, rfl, rfl, fun z => (by cases z), fun z => absurd z e4⟩
  · skip
    replace e4 : x &&& (2 : Int32) = 2 := e4
    refine kx_rn dM_gone 2 12 [(0, .int x)] [.int 1] rfl ?_
    refine kx_ret (ty := .boolean) (kx_tk_dec rfl dM_gone) rfl rfl ?_
    exact ⟨true, rfl, rfl, fun _ => e4, fun _ => rfl⟩
theorem cM_settings (hst : l.stackTraces = false) (hm : mOk G h0 m) :
    kx_c G l mM_settings d 0 0 [.ref m] (mH h0 m S A) (fun o h' => o = .returned (some (.int (nI (cnt (fun c => decide (¬ A 10 c = 0)) 4)))) ∧ h' = mH h0 m S A) := by
  refine kx_in (by decide +kernel) (Nat.le_of_ble_eq_true rfl) hst ?_
  have loop : ∀ n (j c : Nat), j + n = 4 → c = cnt (fun c => decide (¬ A 10 c = 0)) j → kx_w G l mM_settings d (fun o h' => o = .returned (some (.int (nI (cnt (fun c => decide (¬ A 10 c = 0)) 4)))) ∧ h' = mH h0 m S A) 0 0 4 [(0, .ref m), (1, .int (nI c)), (2, .int (nI j))] [] (mH h0 m S A) := by
    intro n
    induction n with
    | zero =>
      intro j c hj hc
      refine kx_rn dM_settings 2 6 [(0, .ref m), (1, .int (nI c)), (2, .int (nI j))] [.int 4, .int (nI j)] rfl ?_
      refine kx_ic (tgt := 27) (kx_tk_dec rfl dM_settings) rfl (fun e6 => ?_) (fun e6 => ?_)
      · skip
        replace e6 : 4 ≤ nI j := e6
        replace e6 : 4 ≤ j := (nI_leI (a := 4) (b := j) (by omega) (by omega)).mp e6
        refine kx_rn dM_settings 1 28 [(0, .ref m), (1, .int (nI c)), (2, .int (nI j))] [.int (nI c)] rfl ?_
        refine kx_ret (ty := .int) (kx_tk_dec rfl dM_settings) rfl rfl ?_
        exact ⟨by rw [hc, show j = 4 by omega], rfl⟩
      · skip
        replace e6 : ¬ 4 ≤ nI j := e6
        replace e6 : ¬ 4 ≤ j := fun z => e6 ((nI_leI (a := 4) (b := j) (by omega) (by omega)).mpr z)
        exfalso; omega
    | succ n ih =>
      intro j c hj hc
      refine kx_rn dM_settings 2 6 [(0, .ref m), (1, .int (nI c)), (2, .int (nI j))] [.int 4, .int (nI j)] rfl ?_
      refine kx_ic (tgt := 27) (kx_tk_dec rfl dM_settings) rfl (fun e6 => ?_) (fun e6 => ?_)
      · skip
        replace e6 : 4 ≤ nI j := e6
        replace e6 : 4 ≤ j := (nI_leI (a := 4) (b := j) (by omega) (by omega)).mp e6
        exfalso; omega
      · skip
        replace e6 : ¬ 4 ≤ nI j := e6
        replace e6 : ¬ 4 ≤ j := fun z => e6 ((nI_leI (a := 4) (b := j) (by omega) (by omega)).mpr z)
        refine kx_rn dM_settings 1 10 [(0, .ref m), (1, .int (nI c)), (2, .int (nI j))] [.ref m] rfl ?_
        refine pM_41 (v := .ref (m + 10)) rfl (kx_tk_dec rfl dM_settings) (mh_o hm) rfl ?_
        refine kx_rn dM_settings 1 14 [(0, .ref m), (1, .int (nI c)), (2, .int (nI j))] [.int (nI j), .ref (m + 10)] rfl ?_
        refine mh_zl (k := 10) (x := A 10 j) (i := j) rfl rfl (kx_tk_dec rfl dM_settings) hm (by show j < 4; omega) ?_
        refine kx_if (tgt := 21) (kx_tk_dec rfl dM_settings) rfl (fun e15 => ?_) (fun e15 => ?_)
        · skip
          replace e15 : A 10 j = 0 := e15
          refine kx_rn dM_settings 2 4 [(0, .ref m), (1, .int (nI c)), (2, .int ((nI j) + 1))] [] rfl ?_
          rw [show (nI j) + 1 = nI (j + 1) from kn_ad rfl rfl]
          exact ih (j + 1) c (by omega) (by simp only [cnt]; rw [← hc]; simp [e15])
        · skip
          replace e15 : ¬ A 10 j = 0 := e15
          refine kx_rn dM_settings 3 4 [(0, .ref m), (1, .int ((nI c) + 1)), (2, .int ((nI j) + 1))] [] rfl ?_
          rw [show (nI c) + 1 = nI (c + 1) from kn_ad rfl rfl]
          rw [show (nI j) + 1 = nI (j + 1) from kn_ad rfl rfl]
          exact ih (j + 1) (c + 1) (by omega) (by simp only [cnt]; rw [← hc]; simp [e15])
  refine kx_rn dM_settings 4 4 [(0, .ref m), (1, .int 0), (2, .int 0)] [] rfl ?_
  exact loop 4 0 0 rfl rfl
theorem cM_clear (hst : l.stackTraces = false) (hm : mOk G h0 m) :
    kx_c G l mM_clear (d + 1) 0 0 [.ref m] (mH h0 m S A) (fun o h' => o = .returned (some (.int (nI (cnt (fun c => decide (¬ A 10 c = 0)) 4)))) ∧ h' = mH h0 m (va_up S 0 0) (va_up A 10 (fun c => if c < 4 then 0 else A 10 c))) := by
  refine kx_in (by decide +kernel) (Nat.le_of_ble_eq_true rfl) hst ?_
  have loop : ∀ n (j : Nat) (F : Nat → Int32), j + n = 4 → (∀ c, F c = if c < j then 0 else A 10 c) → kx_w G l mM_clear (d + 1) (fun o h' => o = .returned (some (.int (nI (cnt (fun c => decide (¬ A 10 c = 0)) 4)))) ∧ h' = mH h0 m (va_up S 0 0) (va_up A 10 (fun c => if c < 4 then 0 else A 10 c))) 0 0 12 [(0, .ref m), (1, .int (nI ((cnt (fun c => decide (¬ A 10 c = 0)) 4)))), (2, .int (nI j))] [] (mH h0 m (va_up S 0 0) (va_up A 10 F)) := by
    intro n
    induction n with
    | zero =>
      intro j F hj hF
      refine kx_rn dM_clear 2 14 [(0, .ref m), (1, .int (nI ((cnt (fun c => decide (¬ A 10 c = 0)) 4)))), (2, .int (nI j))] [.int 4, .int (nI j)] rfl ?_
      refine kx_ic (tgt := 30) (kx_tk_dec rfl dM_clear) rfl (fun e14 => ?_) (fun e14 => ?_)
      · skip
        replace e14 : 4 ≤ nI j := e14
        replace e14 : 4 ≤ j := (nI_leI (a := 4) (b := j) (by omega) (by omega)).mp e14
        refine kx_rn dM_clear 1 31 [(0, .ref m), (1, .int (nI ((cnt (fun c => decide (¬ A 10 c = 0)) 4)))), (2, .int (nI j))] [.int (nI ((cnt (fun c => decide (¬ A 10 c = 0)) 4)))] rfl ?_
        refine kx_ret (ty := .int) (kx_tk_dec rfl dM_clear) rfl rfl ?_
        refine ⟨rfl, ?_⟩
        rw [show F = fun c => if c < 4 then 0 else A 10 c from funext fun c => by rw [hF, show j = 4 by omega]]
      · skip
        replace e14 : ¬ 4 ≤ nI j := e14
        replace e14 : ¬ 4 ≤ j := fun z => e14 ((nI_leI (a := 4) (b := j) (by omega) (by omega)).mpr z)
        exfalso; omega
    | succ n ih =>
      intro j F hj hF
      refine kx_rn dM_clear 2 14 [(0, .ref m), (1, .int (nI ((cnt (fun c => decide (¬ A 10 c = 0)) 4)))), (2, .int (nI j))] [.int 4, .int (nI j)] rfl ?_
      refine kx_ic (tgt := 30) (kx_tk_dec rfl dM_clear) rfl (fun e14 => ?_) (fun e14 => ?_)
      · skip
        replace e14 : 4 ≤ nI j := e14
        replace e14 : 4 ≤ j := (nI_leI (a := 4) (b := j) (by omega) (by omega)).mp e14
        exfalso; omega
      · skip
        replace e14 : ¬ 4 ≤ nI j := e14
        replace e14 : ¬ 4 ≤ j := fun z => e14 ((nI_leI (a := 4) (b := j) (by omega) (by omega)).mpr z)
        refine kx_rn dM_clear 1 18 [(0, .ref m), (1, .int (nI ((cnt (fun c => decide (¬ A 10 c = 0)) 4)))), (2, .int (nI j))] [.ref m] rfl ?_
        refine pM_41 (v := .ref (m + 10)) rfl (kx_tk_dec rfl dM_clear) (mh_o hm) rfl ?_
        refine kx_rn dM_clear 2 23 [(0, .ref m), (1, .int (nI ((cnt (fun c => decide (¬ A 10 c = 0)) 4)))), (2, .int (nI j))] [.int 0, .int (nI j), .ref (m + 10)] rfl ?_
        refine mh_zs (k := 10) (i := j) (A' := va_up A 10 (va_up F j 0)) rfl (kx_tk_dec rfl dM_clear) hm (by show j < 4; omega) (va_upup _ _ _ _) rfl ?_
        refine kx_rn dM_clear 2 12 [(0, .ref m), (1, .int (nI ((cnt (fun c => decide (¬ A 10 c = 0)) 4)))), (2, .int ((nI j) + 1))] [] rfl ?_
        rw [show (nI j) + 1 = nI (j + 1) from kn_ad rfl rfl]
        exact ih (j + 1) (va_up F j 0) (by omega) (fun c => by simp only [va_up]; rw [hF]; by_cases z : c = j <;> by_cases z2 : c < j <;> simp [z, z2] <;> omega)
  refine kx_rn dM_clear 2 2 [(0, .ref m)] [.int 0, .ref m] rfl ?_
  refine qM_69 rfl (kx_tk_dec rfl dM_clear) (mh_o hm) rfl rfl (Nat.le_of_ble_eq_true rfl) ?_
  rw [mh_p0]
  refine kx_rn dM_clear 1 6 [(0, .ref m)] [.ref m] rfl ?_
  refine cM_144 (as := []) (st := []) (mc := 0) (ms := 0) (kc := 0) (ks := 0) rfl (kx_tk_dec rfl dM_clear) (mh_o hm) rfl rfl (Nat.le_of_ble_eq_true rfl) (cM_settings hst hm) (fun o h' hq => ?_)
  obtain ⟨rfl, rfl⟩ := hq
  show kx_w _ _ _ _ _ _ _ _ _ _ _
  refine kx_rn dM_clear 3 12 [(0, .ref m), (1, .int (nI (cnt (fun c => decide (¬ A 10 c = 0)) 4))), (2, .int 0)] [] rfl ?_
  refine kx_heq (congrArg (mH h0 m (va_up S 0 0)) (va_upsame A 10).symm) ?_
  exact loop 4 0 _ rfl (fun c => by simp)
theorem cM_inState {s : Int32} {bg : Nat} (hst : l.stackTraces = false) (hm : mOk G h0 m) (hb : S 7 = nI bg) (hbg : bg ≤ 40) :
    kx_c G l mM_inState d 0 0 [.ref m, .int s] (mH h0 m S A) (fun o h' => o = .returned (some (.int (nI (cnt (fun j => decide (A 6 (j + 1) = s)) bg)))) ∧ h' = mH h0 m S A) := by
  refine kx_in (by decide +kernel) (Nat.le_of_ble_eq_true rfl) hst ?_
  have loop : ∀ n (j c : Nat), j + n = bg → c = cnt (fun j => decide (A 6 (j + 1) = s)) j → kx_w G l mM_inState d (fun o h' => o = .returned (some (.int (nI (cnt (fun j => decide (A 6 (j + 1) = s)) bg)))) ∧ h' = mH h0 m S A) 0 0 4 [(0, .ref m), (1, .int s), (2, .int (nI c)), (3, .int (nI (j + 1)))] [] (mH h0 m S A) := by
    intro n
    induction n with
    | zero =>
      intro j c hj hc
      refine kx_rn dM_inState 2 6 [(0, .ref m), (1, .int s), (2, .int (nI c)), (3, .int (nI (j + 1)))] [.ref m, .int (nI (j + 1))] rfl ?_
      refine pM_76 (v := .int (S 7)) rfl (kx_tk_dec rfl dM_inState) (mh_o hm) rfl ?_
      rw [hb]
      refine kx_ic (tgt := 31) (kx_tk_dec rfl dM_inState) rfl (fun e9 => ?_) (fun e9 => ?_)
      · skip
        replace e9 : nI bg < nI (j + 1) := e9
        replace e9 : bg < j + 1 := (nI_ltI (a := bg) (b := j + 1) (by omega) (by omega)).mp e9
        refine kx_rn dM_inState 1 32 [(0, .ref m), (1, .int s), (2, .int (nI c)), (3, .int (nI (j + 1)))] [.int (nI c)] rfl ?_
        refine kx_ret (ty := .int) (kx_tk_dec rfl dM_inState) rfl rfl ?_
        exact ⟨by rw [hc, show j = bg by omega], rfl⟩
      · skip
        replace e9 : ¬ nI bg < nI (j + 1) := e9
        replace e9 : ¬ bg < j + 1 := fun z => e9 ((nI_ltI (a := bg) (b := j + 1) (by omega) (by omega)).mpr z)
        exfalso; omega
    | succ n ih =>
      intro j c hj hc
      refine kx_rn dM_inState 2 6 [(0, .ref m), (1, .int s), (2, .int (nI c)), (3, .int (nI (j + 1)))] [.ref m, .int (nI (j + 1))] rfl ?_
      refine pM_76 (v := .int (S 7)) rfl (kx_tk_dec rfl dM_inState) (mh_o hm) rfl ?_
      rw [hb]
      refine kx_ic (tgt := 31) (kx_tk_dec rfl dM_inState) rfl (fun e9 => ?_) (fun e9 => ?_)
      · skip
        replace e9 : nI bg < nI (j + 1) := e9
        replace e9 : bg < j + 1 := (nI_ltI (a := bg) (b := j + 1) (by omega) (by omega)).mp e9
        exfalso; omega
      · skip
        replace e9 : ¬ nI bg < nI (j + 1) := e9
        replace e9 : ¬ bg < j + 1 := fun z => e9 ((nI_ltI (a := bg) (b := j + 1) (by omega) (by omega)).mpr z)
        refine kx_rn dM_inState 1 13 [(0, .ref m), (1, .int s), (2, .int (nI c)), (3, .int (nI (j + 1)))] [.ref m] rfl ?_
        refine pM_25 (v := .ref (m + 6)) rfl (kx_tk_dec rfl dM_inState) (mh_o hm) rfl ?_
        refine kx_rn dM_inState 1 17 [(0, .ref m), (1, .int s), (2, .int (nI c)), (3, .int (nI (j + 1)))] [.int (nI (j + 1)), .ref (m + 6)] rfl ?_
        refine mh_ld (k := 6) (x := A 6 (j + 1)) (i := j + 1) rfl rfl (kx_tk_dec rfl dM_inState) hm (by show j + 1 < 41; omega) ?_
        refine kx_rn dM_inState 1 19 [(0, .ref m), (1, .int s), (2, .int (nI c)), (3, .int (nI (j + 1)))] [.int s, .int (A 6 (j + 1))] rfl ?_
        refine kx_ic (tgt := 25) (kx_tk_dec rfl dM_inState) rfl (fun e19 => ?_) (fun e19 => ?_)
        · skip
          replace e19 : ¬ A 6 (j + 1) = s := e19
          refine kx_rn dM_inState 2 4 [(0, .ref m), (1, .int s), (2, .int (nI c)), (3, .int ((nI (j + 1)) + 1))] [] rfl ?_
          rw [show (nI (j + 1)) + 1 = nI ((j + 1) + 1) from kn_ad rfl rfl]
          exact ih (j + 1) c (by omega) (by simp only [cnt]; rw [← hc]; simp [e19])
        · skip
          replace e19 : A 6 (j + 1) = s := e19
          refine kx_rn dM_inState 3 4 [(0, .ref m), (1, .int s), (2, .int ((nI c) + 1)), (3, .int ((nI (j + 1)) + 1))] [] rfl ?_
          rw [show (nI c) + 1 = nI (c + 1) from kn_ad rfl rfl]
          rw [show (nI (j + 1)) + 1 = nI ((j + 1) + 1) from kn_ad rfl rfl]
          exact ih (j + 1) (c + 1) (by omega) (by simp only [cnt]; rw [← hc]; simp [e19])
  refine kx_rn dM_inState 4 4 [(0, .ref m), (1, .int s), (2, .int 0), (3, .int 1)] [] rfl ?_
  exact loop bg 0 0 (by omega) rfl
theorem cM_versionsOf {q : Nat} (hst : l.stackTraces = false) (hm : mOk G h0 m) (hq : q < 72) {V : Nat → Nat} (hV : ∀ v, A 4 v = nI (V v)) (hV2 : ∀ v, V v < 256) :
    kx_c G l mM_versionsOf d 0 0 [.ref m, .int (nI q)] (mH h0 m S A) (fun o h' => o = .returned (some (.int (nI (cnt (fun j => decide (¬ V (40 * q + j) = 0)) 40)))) ∧ h' = mH h0 m S A) := by
  refine kx_in (by decide +kernel) (Nat.le_of_ble_eq_true rfl) hst ?_
  have loop : ∀ n (j c v : Nat), j + n = 40 → c = cnt (fun j => decide (¬ V (40 * q + j) = 0)) j → v = 40 * q + j → kx_w G l mM_versionsOf d (fun o h' => o = .returned (some (.int (nI (cnt (fun j => decide (¬ V (40 * q + j) = 0)) 40)))) ∧ h' = mH h0 m S A) 0 0 7 [(0, .ref m), (1, .int (nI q)), (2, .int (nI c)), (3, .int (nI v))] [] (mH h0 m S A) := by
    intro n
    induction n with
    | zero =>
      intro j c v hj hc hv
      refine kx_rn dM_versionsOf 6 15 [(0, .ref m), (1, .int (nI q)), (2, .int (nI c)), (3, .int (nI v))] [.int ((40 * (nI q)) + 40), .int (nI v)] rfl ?_
      rw [show (40 * (nI q)) + 40 = nI ((40 * q) + 40) from kn_ad (kn_mu rfl rfl) rfl]
      refine kx_ic (tgt := 36) (kx_tk_dec rfl dM_versionsOf) rfl (fun e15 => ?_) (fun e15 => ?_)
      · skip
        replace e15 : nI ((40 * q) + 40) ≤ nI v := e15
        replace e15 : (40 * q) + 40 ≤ v := (nI_leI (a := (40 * q) + 40) (b := v) (by omega) (by omega)).mp e15
        refine kx_rn dM_versionsOf 1 37 [(0, .ref m), (1, .int (nI q)), (2, .int (nI c)), (3, .int (nI v))] [.int (nI c)] rfl ?_
        refine kx_ret (ty := .int) (kx_tk_dec rfl dM_versionsOf) rfl rfl ?_
        exact ⟨by rw [hc, show j = 40 by omega], rfl⟩
      · skip
        replace e15 : ¬ nI ((40 * q) + 40) ≤ nI v := e15
        replace e15 : ¬ (40 * q) + 40 ≤ v := fun z => e15 ((nI_leI (a := (40 * q) + 40) (b := v) (by omega) (by omega)).mpr z)
        exfalso; omega
    | succ n ih =>
      intro j c v hj hc hv
      refine kx_rn dM_versionsOf 6 15 [(0, .ref m), (1, .int (nI q)), (2, .int (nI c)), (3, .int (nI v))] [.int ((40 * (nI q)) + 40), .int (nI v)] rfl ?_
      rw [show (40 * (nI q)) + 40 = nI ((40 * q) + 40) from kn_ad (kn_mu rfl rfl) rfl]
      refine kx_ic (tgt := 36) (kx_tk_dec rfl dM_versionsOf) rfl (fun e15 => ?_) (fun e15 => ?_)
      · skip
        replace e15 : nI ((40 * q) + 40) ≤ nI v := e15
        replace e15 : (40 * q) + 40 ≤ v := (nI_leI (a := (40 * q) + 40) (b := v) (by omega) (by omega)).mp e15
        exfalso; omega
      · skip
        replace e15 : ¬ nI ((40 * q) + 40) ≤ nI v := e15
        replace e15 : ¬ (40 * q) + 40 ≤ v := fun z => e15 ((nI_leI (a := (40 * q) + 40) (b := v) (by omega) (by omega)).mpr z)
        refine kx_rn dM_versionsOf 1 19 [(0, .ref m), (1, .int (nI q)), (2, .int (nI c)), (3, .int (nI v))] [.ref m] rfl ?_
        refine pM_19 (v := .ref (m + 4)) rfl (kx_tk_dec rfl dM_versionsOf) (mh_o hm) rfl ?_
        refine kx_rn dM_versionsOf 1 23 [(0, .ref m), (1, .int (nI q)), (2, .int (nI c)), (3, .int (nI v))] [.int (nI v), .ref (m + 4)] rfl ?_
        refine mh_ld (k := 4) (x := A 4 v) (i := v) rfl rfl (kx_tk_dec rfl dM_versionsOf) hm (by show v < 2880; omega) ?_
        rw [hV v]
        have := hV2 v
        refine kx_if (tgt := 30) (kx_tk_dec rfl dM_versionsOf) rfl (fun e24 => ?_) (fun e24 => ?_)
        · skip
          replace e24 : nI (V v) = 0 := e24
          replace e24 : V v = 0 := (nI_eq (a := V v) (b := 0) (by omega) (by omega)).mp e24
          refine kx_rn dM_versionsOf 2 7 [(0, .ref m), (1, .int (nI q)), (2, .int (nI c)), (3, .int ((nI v) + 1))] [] rfl ?_
          rw [show (nI v) + 1 = nI (v + 1) from kn_ad rfl rfl]
          exact ih (j + 1) c (v + 1) (by omega) (cnt_n hc (by show decide _ = false; rw [decide_eq_false_iff_not, ← hv]; exact not_not_intro e24)) (by omega)
        · skip
          replace e24 : ¬ nI (V v) = 0 := e24
          replace e24 : ¬ V v = 0 := fun z => e24 ((nI_eq (a := V v) (b := 0) (by omega) (by omega)).mpr z)
          refine kx_rn dM_versionsOf 3 7 [(0, .ref m), (1, .int (nI q)), (2, .int ((nI c) + 1)), (3, .int ((nI v) + 1))] [] rfl ?_
          rw [show (nI c) + 1 = nI (c + 1) from kn_ad rfl rfl]
          rw [show (nI v) + 1 = nI (v + 1) from kn_ad rfl rfl]
          exact ih (j + 1) (c + 1) (v + 1) (by omega) (cnt_y hc (by show decide _ = true; rw [decide_eq_true_eq, ← hv]; exact e24)) (by omega)
  refine kx_rn dM_versionsOf 6 7 [(0, .ref m), (1, .int (nI q)), (2, .int 0), (3, .int (40 * (nI q)))] [] rfl ?_
  rw [show 40 * (nI q) = nI (40 * q) from kn_mu rfl rfl]
  exact loop 40 0 0 _ rfl rfl rfl
end KM2
end
section
/-! ===== the reference: marks, writes ===== -/
section KM3
variable {G : kx_G} {l : Launch} {d : Nat} {h0 : kx_H} {m : Nat} {S : Nat → Int32} {A : Nat → Nat → Int32}
theorem kw_shr {x : Nat} (h : x < 256) : nI x >>> (2 &&& 31) = nI (x / 4) := by
  have : ∀ x : Fin 256, nI x.val >>> (2 &&& 31) = nI (x.val / 4) := by decide +kernel
  exact this ⟨x, h⟩
theorem kw_and3 {x : Nat} (h : x < 256) : nI x &&& 3 = nI (x % 4) := by
  have : ∀ x : Fin 256, nI x.val &&& 3 = nI (x.val % 4) := by decide +kernel
  exact this ⟨x, h⟩
theorem kw_gone {x : Nat} (h : x < 256) : nI x &&& 2 = 2 ↔ x / 2 % 2 = 1 := by
  have : ∀ x : Fin 256, nI x.val &&& 2 = 2 ↔ x.val / 2 % 2 = 1 := by decide +kernel
  exact this ⟨x, h⟩
theorem kw_shl {x : Nat} (h : x < 64) : nI x <<< (2 &&& 31) = nI (4 * x) := by
  have : ∀ x : Fin 64, nI x.val <<< (2 &&& 31) = nI (4 * x.val) := by decide +kernel
  exact this ⟨x, h⟩
theorem kw_or {a x : Nat} (ha : a < 4) (h : x < 64) : nI a ||| nI (4 * x) = nI (a + 4 * x) := by
  have : ∀ (a : Fin 4) (x : Fin 64), nI a.val ||| nI (4 * x.val) = nI (a.val + 4 * x.val) := by decide +kernel
  exact this ⟨a, ha⟩ ⟨x, h⟩
theorem kw_mark {x t : Nat} (h : x < 256) (ht : t < 64) : (nI x &&& 3) ||| (nI t <<< ((2 : Int32) &&& 31)) = nI (x % 4 + 4 * t) := by
  rw [kw_and3 h, kw_shl ht, kw_or (by omega) ht]
theorem cM_abort {t : Int32} (hst : l.stackTraces = false) (hm : mOk G h0 m) {bg : Nat} (hb : S 7 = nI bg) (hbg : bg ≤ 40) {V : Nat → Nat} (hV : ∀ v, A 4 v = nI (V v)) (hV2 : ∀ v, V v < 256) :
    kx_c G l mM_abort (d + 1) 0 0 [.ref m, .int t] (mH h0 m S A) (fun o h' => (¬ mOp A bg t ∧ o = .returned (some (.int 0)) ∧ h' = mH h0 m (va_up S 0 1) A) ∨ ∃ tn, 1 ≤ tn ∧ tn ≤ bg ∧ t = nI tn ∧ A 6 tn = 1 ∧ o = .returned (some (.int (nI (cnt (fun j => decide (¬ V (40 * j + (tn - 1)) = 0)) 72)))) ∧ h' = mH h0 m (va_up S 0 0) (va_up (va_up A 6 (va_up (A 6) tn 3)) 4 (fun v => nI (vBrk V tn v)))) := by
  refine kx_in (by decide +kernel) (Nat.le_of_ble_eq_true rfl) hst ?_
  refine kx_rn dM_abort 2 2 [(0, .ref m), (1, .int t)] [.int 0, .ref m] rfl ?_
  refine qM_69 rfl (kx_tk_dec rfl dM_abort) (mh_o hm) rfl rfl (Nat.le_of_ble_eq_true rfl) ?_
  rw [mh_p0]
  refine kx_rn dM_abort 2 7 [(0, .ref m), (1, .int t)] [.int t, .ref m] rfl ?_
  refine cM_83 (as := [.int t]) (st := []) (mc := 0) (ms := 0) (kc := 0) (ks := 0) rfl (kx_tk_dec rfl dM_abort) (mh_o hm) rfl rfl (Nat.le_of_ble_eq_true rfl) (cM_closed hst hm (S := va_up S 0 0) hb hbg) (fun o h' hq => ?_)
  obtain ⟨bo, rfl, rfl, hbo⟩ := hq
  show kx_w _ _ _ _ _ _ _ _ _ _ _
  refine kx_if (tgt := 21) (kx_tk_dec rfl dM_abort) rfl (fun e10 => ?_) (fun e10 => ?_)
  · skip
    replace e10 : b01 bo = 0 := e10
    replace e10 : bo = false := b01_f e10
    obtain ⟨tn, ht1, ht2, rfl, ht4⟩ : mOp A bg t := Classical.byContradiction fun z => absurd (hbo.mpr z) (by rw [e10]; decide)
    refine kx_rn dM_abort 2 23 [(0, .ref m), (1, .int (nI tn))] [.int (nI tn), .ref m] rfl ?_
    refine cM_87 (as := [.int (nI tn)]) (st := []) (mc := 0) (ms := 0) (kc := 0) (ks := 0) rfl (kx_tk_dec rfl dM_abort) (mh_o hm) rfl rfl (Nat.le_of_ble_eq_true rfl) (cM_breakUp hst hm ht1 (by omega) hV hV2) (fun o h' hq => ?_)
    obtain ⟨rfl, rfl⟩ := hq
    show kx_w _ _ _ _ _ _ _ _ _ _ _
    refine kx_ret (ty := .int) (kx_tk_dec rfl dM_abort) rfl rfl ?_
    exact Or.inr ⟨tn, ht1, ht2, rfl, ht4, rfl, rfl⟩
  · skip
    replace e10 : ¬ b01 bo = 0 := e10
    replace e10 : bo = true := b01_t e10
    refine kx_rn dM_abort 2 15 [(0, .ref m), (1, .int t)] [.int 1, .ref m] rfl ?_
    refine cM_79 (as := [.int 1]) (st := []) (mc := 0) (ms := 0) (kc := 0) (ks := 0) rfl (kx_tk_dec rfl dM_abort) (mh_o hm) rfl rfl (Nat.le_of_ble_eq_true rfl) (cM_fail hst hm) (fun o h' hq => ?_)
    obtain ⟨rfl, rfl⟩ := hq
    show kx_w _ _ _ _ _ _ _ _ _ _ _
    rw [va_upup]
    refine kx_rn dM_abort 1 26 [(0, .ref m), (1, .int t)] [.int 0] rfl ?_
    refine kx_ret (ty := .int) (kx_tk_dec rfl dM_abort) rfl rfl ?_
    exact Or.inl ⟨hbo.mp e10, rfl, rfl⟩
theorem cM_broken {c : Int32} {tn : Nat} (hst : l.stackTraces = false) (hm : mOk G h0 m) (ht1 : 1 ≤ tn) (ht2 : tn ≤ 40) {V : Nat → Nat} (hV : ∀ v, A 4 v = nI (V v)) (hV2 : ∀ v, V v < 256) :
    kx_c G l mM_broken (d + 1) 0 0 [.ref m, .int (nI tn), .int c] (mH h0 m S A) (fun o h' => o = .returned (some (.int 0)) ∧ h' = mH h0 m (va_up (va_up S 8 (S 8 + 1)) 0 c) (va_up (va_up A 6 (va_up (A 6) tn 3)) 4 (fun v => nI (vBrk V tn v)))) := by
  refine kx_in (by decide +kernel) (Nat.le_of_ble_eq_true rfl) hst ?_
  refine kx_rn dM_broken 2 2 [(0, .ref m), (1, .int (nI tn)), (2, .int c)] [.int (nI tn), .ref m] rfl ?_
  refine cM_87 (as := [.int (nI tn)]) (st := []) (mc := 0) (ms := 0) (kc := 0) (ks := 0) rfl (kx_tk_dec rfl dM_broken) (mh_o hm) rfl rfl (Nat.le_of_ble_eq_true rfl) (cM_breakUp hst hm ht1 (by omega) hV hV2) (fun o h' hq => ?_)
  obtain ⟨rfl, rfl⟩ := hq
  show kx_w _ _ _ _ _ _ _ _ _ _ _
  refine kx_rn dM_broken 3 8 [(0, .ref m), (1, .int (nI tn)), (2, .int c)] [.ref m, .ref m] rfl ?_
  refine pM_179 (v := .int (S 8)) rfl (kx_tk_dec rfl dM_broken) (mh_o hm) rfl ?_
  refine kx_rn dM_broken 2 13 [(0, .ref m), (1, .int (nI tn)), (2, .int c)] [.int ((S 8) + 1), .ref m] rfl ?_
  refine qM_179 rfl (kx_tk_dec rfl dM_broken) (mh_o hm) rfl rfl (Nat.le_of_ble_eq_true rfl) ?_
  rw [mh_p8]
  refine kx_rn dM_broken 2 18 [(0, .ref m), (1, .int (nI tn)), (2, .int c)] [.int c, .ref m] rfl ?_
  refine cM_79 (as := [.int c]) (st := []) (mc := 0) (ms := 0) (kc := 0) (ks := 0) rfl (kx_tk_dec rfl dM_broken) (mh_o hm) rfl rfl (Nat.le_of_ble_eq_true rfl) (cM_fail hst hm) (fun o h' hq => ?_)
  obtain ⟨rfl, rfl⟩ := hq
  show kx_w _ _ _ _ _ _ _ _ _ _ _
  refine kx_ret (ty := .int) (kx_tk_dec rfl dM_broken) rfl rfl ?_
  exact ⟨rfl, rfl⟩
/-- the marks of the rows 24 kn .. 24 kn + r - 1 -/
def vMark (V W : Nat → Nat) (kn tn r q w : Nat) : Nat := if 24 * kn ≤ q ∧ q < 24 * kn + r ∧ w + 1 = W q ∧ V (40 * q + w) / 4 < tn then V (40 * q + w) % 4 + 4 * tn else V (40 * q + w)
theorem vMark_lt {V W : Nat → Nat} {kn tn r q w : Nat} (h : ∀ v, V v < 256) (ht : tn ≤ 40) : vMark V W kn tn r q w < 256 := by
  unfold vMark
  split
  · omega
  · exact h _
theorem cM_mark {tn kn rw sc : Nat} (hst : l.stackTraces = false) (hm : mOk G h0 m) (ht1 : 1 ≤ tn) (ht2 : tn ≤ 40) (hk : kn < 3) (hrw : A 2 kn = nI rw) (hrw2 : rw ≤ 24) (hs : A 3 kn = nI sc) (hs2 : sc ≤ 40) {V : Nat → Nat} (hV : ∀ v, A 4 v = nI (V v)) (hV2 : ∀ v, V v < 256) {W : Nat → Nat} (hW : ∀ r, r < rw → A 16 r = heldR (40 * (24 * kn + r)) (W (24 * kn + r))) (hW2 : ∀ q, W q ≤ 40) :
    kx_c G l mM_mark d 0 0 [.ref m, .int (nI tn), .int (nI kn)] (mH h0 m S A) (fun o h' => o = .returned none ∧ ∃ (F : Nat → Int32) (U : Nat → Nat), h' = mH h0 m S (va_up (va_up A 3 (va_up (A 3) kn (nI (max sc tn)))) 4 F) ∧ (∀ v, F v = nI (U v)) ∧ (∀ v, U v < 256) ∧ ∀ q w, w < 40 → U (40 * q + w) = vMark V W kn tn rw q w) := by
  refine kx_in (by decide +kernel) (Nat.le_of_ble_eq_true rfl) hst ?_
  have loop : ∀ n (j : Nat) (F : Nat → Int32) (U : Nat → Nat), j + n = rw → (∀ v, F v = nI (U v)) → (∀ v, U v < 256) → (∀ q w, w < 40 → U (40 * q + w) = vMark V W kn tn j q w) → kx_w G l mM_mark d (fun o h' => o = .returned none ∧ ∃ (F : Nat → Int32) (U : Nat → Nat), h' = mH h0 m S (va_up (va_up A 3 (va_up (A 3) kn (nI (max sc tn)))) 4 F) ∧ (∀ v, F v = nI (U v)) ∧ (∀ v, U v < 256) ∧ ∀ q w, w < 40 → U (40 * q + w) = vMark V W kn tn rw q w) 0 0 19 [(0, .ref m), (1, .int (nI tn)), (2, .int (nI kn)), (3, .int (nI j))] [] (mH h0 m S (va_up (va_up A 3 (va_up (A 3) kn (nI (max sc tn)))) 4 F)) := by
    intro n
    induction n with
    | zero =>
      intro j F U hj hF hU2 hU
      refine kx_rn dM_mark 2 21 [(0, .ref m), (1, .int (nI tn)), (2, .int (nI kn)), (3, .int (nI j))] [.ref m, .int (nI j)] rfl ?_
      refine pM_13 (v := .ref (m + 2)) rfl (kx_tk_dec rfl dM_mark) (mh_o hm) rfl ?_
      refine kx_rn dM_mark 1 25 [(0, .ref m), (1, .int (nI tn)), (2, .int (nI kn)), (3, .int (nI j))] [.int (nI kn), .ref (m + 2), .int (nI j)] rfl ?_
      refine mh_ld (k := 2) (x := A 2 kn) (i := kn) rfl rfl (kx_tk_dec rfl dM_mark) hm (by show kn < 3; omega) ?_
      rw [hrw]
      refine kx_ic (tgt := 81) (kx_tk_dec rfl dM_mark) rfl (fun e26 => ?_) (fun e26 => ?_)
      · skip
        replace e26 : nI rw ≤ nI j := e26
        replace e26 : rw ≤ j := (nI_leI (a := rw) (b := j) (by omega) (by omega)).mp e26
        refine kx_retv (kx_tk_dec rfl dM_mark) rfl ?_
        refine ⟨rfl, F, U, rfl, hF, hU2, fun q w hw => ?_⟩
        rw [hU q w hw, show j = rw by omega]
      · skip
        replace e26 : ¬ nI rw ≤ nI j := e26
        replace e26 : ¬ rw ≤ j := fun z => e26 ((nI_leI (a := rw) (b := j) (by omega) (by omega)).mpr z)
        exfalso; omega
    | succ n ih =>
      intro j F U hj hF hU2 hU
      refine kx_rn dM_mark 2 21 [(0, .ref m), (1, .int (nI tn)), (2, .int (nI kn)), (3, .int (nI j))] [.ref m, .int (nI j)] rfl ?_
      refine pM_13 (v := .ref (m + 2)) rfl (kx_tk_dec rfl dM_mark) (mh_o hm) rfl ?_
      refine kx_rn dM_mark 1 25 [(0, .ref m), (1, .int (nI tn)), (2, .int (nI kn)), (3, .int (nI j))] [.int (nI kn), .ref (m + 2), .int (nI j)] rfl ?_
      refine mh_ld (k := 2) (x := A 2 kn) (i := kn) rfl rfl (kx_tk_dec rfl dM_mark) hm (by show kn < 3; omega) ?_
      rw [hrw]
      refine kx_ic (tgt := 81) (kx_tk_dec rfl dM_mark) rfl (fun e26 => ?_) (fun e26 => ?_)
      · skip
        replace e26 : nI rw ≤ nI j := e26
        replace e26 : rw ≤ j := (nI_leI (a := rw) (b := j) (by omega) (by omega)).mp e26
        exfalso; omega
      · skip
        replace e26 : ¬ nI rw ≤ nI j := e26
        replace e26 : ¬ rw ≤ j := fun z => e26 ((nI_leI (a := rw) (b := j) (by omega) (by omega)).mpr z)
        refine kx_rn dM_mark 1 30 [(0, .ref m), (1, .int (nI tn)), (2, .int (nI kn)), (3, .int (nI j))] [.ref m] rfl ?_
        refine pM_60 (v := .ref (m + 16)) rfl (kx_tk_dec rfl dM_mark) (mh_o hm) rfl ?_
        refine kx_rn dM_mark 1 34 [(0, .ref m), (1, .int (nI tn)), (2, .int (nI kn)), (3, .int (nI j))] [.int (nI j), .ref (m + 16)] rfl ?_
        refine mh_ld (k := 16) (x := A 16 j) (i := j) rfl rfl (kx_tk_dec rfl dM_mark) hm (by show j < 24; omega) ?_
        rw [hW j (by omega)]
        have hW2j := hW2 (24 * kn + j)
        cases hWj : W (24 * kn + j) with
        | zero =>
          refine kx_rn dM_mark 2 39 [(0, .ref m), (1, .int (nI tn)), (2, .int (nI kn)), (3, .int (nI j)), (4, .int ((-1)))] [.int ((-1))] rfl ?_
          refine kx_if (tgt := 75) (kx_tk_dec rfl dM_mark) rfl (fun e39 => ?_) (fun e39 => ?_)
          · skip
            replace e39 : ((-1) : Int32) < 0 := e39
            refine kx_rn dM_mark 2 19 [(0, .ref m), (1, .int (nI tn)), (2, .int (nI kn)), (3, .int ((nI j) + 1)), (4, .int ((-1)))] [] rfl ?_
            rw [show (nI j) + 1 = nI (j + 1) from kn_ad rfl rfl]
            refine kx_lsub (lv' := [(0, .ref m), (1, .int (nI tn)), (2, .int (nI kn)), (3, .int (nI (j + 1)))]) (.cons₂ _ (.cons₂ _ (.cons₂ _ (.cons₂ _ (.cons _ .slnil))))) ?_
            refine ih (j + 1) F U (by omega) hF hU2 (fun q w hw => ?_)
            rw [hU q w hw]
            unfold vMark
            by_cases z : q = 24 * kn + j
            · subst z
              rw [if_neg (by omega), if_neg (by omega)]
            · by_cases z2 : 24 * kn ≤ q ∧ q < 24 * kn + j ∧ w + 1 = W q ∧ V (40 * q + w) / 4 < tn
              · rw [if_pos z2, if_pos (by omega)]
              · rw [if_neg z2, if_neg (by omega)]
          · skip
            replace e39 : ¬ ((-1) : Int32) < 0 := e39
            exact absurd (by decide) e39
        | succ w1 =>
          refine kx_rn dM_mark 2 39 [(0, .ref m), (1, .int (nI tn)), (2, .int (nI kn)), (3, .int (nI j)), (4, .int (nI (40 * (24 * kn + j) + w1)))] [.int (nI (40 * (24 * kn + j) + w1))] rfl ?_
          refine kx_if (tgt := 75) (kx_tk_dec rfl dM_mark) rfl (fun e39 => ?_) (fun e39 => ?_)
          · skip
            replace e39 : nI (40 * (24 * kn + j) + w1) < 0 := e39
            replace e39 : 40 * (24 * kn + j) + w1 < 0 := (nI_ltI (a := 40 * (24 * kn + j) + w1) (b := 0) (by omega) (by omega)).mp e39
            refine kx_rn dM_mark 2 19 [(0, .ref m), (1, .int (nI tn)), (2, .int (nI kn)), (3, .int ((nI j) + 1)), (4, .int (nI (40 * (24 * kn + j) + w1)))] [] rfl ?_
            rw [show (nI j) + 1 = nI (j + 1) from kn_ad rfl rfl]
            refine kx_lsub (lv' := [(0, .ref m), (1, .int (nI tn)), (2, .int (nI kn)), (3, .int (nI (j + 1)))]) (.cons₂ _ (.cons₂ _ (.cons₂ _ (.cons₂ _ (.cons _ .slnil))))) ?_
            refine ih (j + 1) F U (by omega) hF hU2 (fun q w hw => ?_)
            rw [hU q w hw]
            unfold vMark
            by_cases z : q = 24 * kn + j
            · subst z
              rw [if_neg (by omega), if_neg (by omega)]
            · by_cases z2 : 24 * kn ≤ q ∧ q < 24 * kn + j ∧ w + 1 = W q ∧ V (40 * q + w) / 4 < tn
              · rw [if_pos z2, if_pos (by omega)]
              · rw [if_neg z2, if_neg (by omega)]
          · skip
            replace e39 : ¬ nI (40 * (24 * kn + j) + w1) < 0 := e39
            replace e39 : ¬ 40 * (24 * kn + j) + w1 < 0 := fun z => e39 ((nI_ltI (a := 40 * (24 * kn + j) + w1) (b := 0) (by omega) (by omega)).mpr z)
            refine kx_rn dM_mark 1 43 [(0, .ref m), (1, .int (nI tn)), (2, .int (nI kn)), (3, .int (nI j)), (4, .int (nI (40 * (24 * kn + j) + w1)))] [.ref m] rfl ?_
            refine pM_19 (v := .ref (m + 4)) rfl (kx_tk_dec rfl dM_mark) (mh_o hm) rfl ?_
            refine kx_rn dM_mark 1 48 [(0, .ref m), (1, .int (nI tn)), (2, .int (nI kn)), (3, .int (nI j)), (4, .int (nI (40 * (24 * kn + j) + w1)))] [.int (nI (40 * (24 * kn + j) + w1)), .ref (m + 4)] rfl ?_
            refine mh_ld (k := 4) (x := F (40 * (24 * kn + j) + w1)) (i := 40 * (24 * kn + j) + w1) rfl rfl (kx_tk_dec rfl dM_mark) hm (by show 40 * (24 * kn + j) + w1 < 2880; omega) ?_
            rw [hF (40 * (24 * kn + j) + w1)]
            have := hU2 (40 * (24 * kn + j) + w1)
            refine kx_rn dM_mark 2 51 [(0, .ref m), (1, .int (nI tn)), (2, .int (nI kn)), (3, .int (nI j)), (4, .int (nI (40 * (24 * kn + j) + w1)))] [.int ((nI (U (40 * (24 * kn + j) + w1))) >>> ((2 : Int32) &&& 31))] rfl ?_
            rw [kw_shr (hU2 _)]
            refine kx_rn dM_mark 1 52 [(0, .ref m), (1, .int (nI tn)), (2, .int (nI kn)), (3, .int (nI j)), (4, .int (nI (40 * (24 * kn + j) + w1)))] [.int (nI tn), .int (nI ((U (40 * (24 * kn + j) + w1)) / 4))] rfl ?_
            refine kx_ic (tgt := 75) (kx_tk_dec rfl dM_mark) rfl (fun e52 => ?_) (fun e52 => ?_)
            · skip
              replace e52 : nI tn ≤ nI ((U (40 * (24 * kn + j) + w1)) / 4) := e52
              replace e52 : tn ≤ (U (40 * (24 * kn + j) + w1)) / 4 := (nI_leI (a := tn) (b := (U (40 * (24 * kn + j) + w1)) / 4) (by omega) (by omega)).mp e52
              refine kx_rn dM_mark 2 19 [(0, .ref m), (1, .int (nI tn)), (2, .int (nI kn)), (3, .int ((nI j) + 1)), (4, .int (nI (40 * (24 * kn + j) + w1)))] [] rfl ?_
              rw [show (nI j) + 1 = nI (j + 1) from kn_ad rfl rfl]
              refine kx_lsub (lv' := [(0, .ref m), (1, .int (nI tn)), (2, .int (nI kn)), (3, .int (nI (j + 1)))]) (.cons₂ _ (.cons₂ _ (.cons₂ _ (.cons₂ _ (.cons _ .slnil))))) ?_
              have z0 : U (40 * (24 * kn + j) + w1) = V (40 * (24 * kn + j) + w1) := by
                rw [hU _ _ (by omega)]; unfold vMark; rw [if_neg (by omega)]
              refine ih (j + 1) F U (by omega) hF hU2 (fun q w hw => ?_)
              rw [hU q w hw]
              unfold vMark
              by_cases z : q = 24 * kn + j ∧ w = w1
              · obtain ⟨rfl, rfl⟩ := z
                rw [if_neg (by omega), if_neg (by omega)]
              · by_cases z2 : 24 * kn ≤ q ∧ q < 24 * kn + j ∧ w + 1 = W q ∧ V (40 * q + w) / 4 < tn
                · rw [if_pos z2, if_pos (by omega)]
                · rw [if_neg z2, if_neg]
                  rintro ⟨y1, y2, y3, y4⟩
                  by_cases y5 : q = 24 * kn + j
                  · subst y5; omega
                  · omega
            · skip
              replace e52 : ¬ nI tn ≤ nI ((U (40 * (24 * kn + j) + w1)) / 4) := e52
              replace e52 : ¬ tn ≤ (U (40 * (24 * kn + j) + w1)) / 4 := fun z => e52 ((nI_leI (a := tn) (b := (U (40 * (24 * kn + j) + w1)) / 4) (by omega) (by omega)).mpr z)
              refine kx_rn dM_mark 1 56 [(0, .ref m), (1, .int (nI tn)), (2, .int (nI kn)), (3, .int (nI j)), (4, .int (nI (40 * (24 * kn + j) + w1)))] [.ref m] rfl ?_
              refine pM_19 (v := .ref (m + 4)) rfl (kx_tk_dec rfl dM_mark) (mh_o hm) rfl ?_
              refine kx_rn dM_mark 2 62 [(0, .ref m), (1, .int (nI tn)), (2, .int (nI kn)), (3, .int (nI j)), (4, .int (nI (40 * (24 * kn + j) + w1)))] [.ref m, .int (nI (40 * (24 * kn + j) + w1)), .ref (m + 4)] rfl ?_
              refine pM_19 (v := .ref (m + 4)) rfl (kx_tk_dec rfl dM_mark) (mh_o hm) rfl ?_
              refine kx_rn dM_mark 1 67 [(0, .ref m), (1, .int (nI tn)), (2, .int (nI kn)), (3, .int (nI j)), (4, .int (nI (40 * (24 * kn + j) + w1)))] [.int (nI (40 * (24 * kn + j) + w1)), .ref (m + 4), .int (nI (40 * (24 * kn + j) + w1)), .ref (m + 4)] rfl ?_
              refine mh_ld (k := 4) (x := F (40 * (24 * kn + j) + w1)) (i := 40 * (24 * kn + j) + w1) rfl rfl (kx_tk_dec rfl dM_mark) hm (by show 40 * (24 * kn + j) + w1 < 2880; omega) ?_
              rw [hF (40 * (24 * kn + j) + w1)]
              have := hU2 (40 * (24 * kn + j) + w1)
              refine kx_rn dM_mark 6 74 [(0, .ref m), (1, .int (nI tn)), (2, .int (nI kn)), (3, .int (nI j)), (4, .int (nI (40 * (24 * kn + j) + w1)))] [.int (((nI (U (40 * (24 * kn + j) + w1))) &&& (3 : Int32)) ||| ((nI tn) <<< ((2 : Int32) &&& 31))), .int (nI (40 * (24 * kn + j) + w1)), .ref (m + 4)] rfl ?_
              rw [kw_mark (hU2 _) (by omega)]
              refine mh_st (k := 4) (i := 40 * (24 * kn + j) + w1) (A' := va_up (va_up A 3 (va_up (A 3) kn (nI (max sc tn)))) 4 (va_up F (40 * (24 * kn + j) + w1) (nI (U (40 * (24 * kn + j) + w1) % 4 + 4 * tn)))) rfl (kx_tk_dec rfl dM_mark) hm (by show 40 * (24 * kn + j) + w1 < 2880; omega) (va_upup _ _ _ _) ?_
              refine kx_rn dM_mark 2 19 [(0, .ref m), (1, .int (nI tn)), (2, .int (nI kn)), (3, .int ((nI j) + 1)), (4, .int (nI (40 * (24 * kn + j) + w1)))] [] rfl ?_
              rw [show (nI j) + 1 = nI (j + 1) from kn_ad rfl rfl]
              refine kx_lsub (lv' := [(0, .ref m), (1, .int (nI tn)), (2, .int (nI kn)), (3, .int (nI (j + 1)))]) (.cons₂ _ (.cons₂ _ (.cons₂ _ (.cons₂ _ (.cons _ .slnil))))) ?_
              have z0 : U (40 * (24 * kn + j) + w1) = V (40 * (24 * kn + j) + w1) := by
                rw [hU _ _ (by omega)]; unfold vMark; rw [if_neg (by omega)]
              refine ih (j + 1) _ (va_up U (40 * (24 * kn + j) + w1) (U (40 * (24 * kn + j) + w1) % 4 + 4 * tn)) (by omega) (va_nIp hF _ _) (fun v => ?_) (fun q w hw => ?_)
              · simp only [va_up]
                split
                · have := hU2 (40 * (24 * kn + j) + w1); omega
                · exact hU2 v
              · by_cases z : q = 24 * kn + j ∧ w = w1
                · obtain ⟨rfl, rfl⟩ := z
                  rw [va_up_self, z0]
                  unfold vMark
                  rw [if_pos (by omega)]
                · rw [va_up_ne _ _ (by omega), hU q w hw]
                  unfold vMark
                  by_cases z2 : 24 * kn ≤ q ∧ q < 24 * kn + j ∧ w + 1 = W q ∧ V (40 * q + w) / 4 < tn
                  · rw [if_pos z2, if_pos (by omega)]
                  · rw [if_neg z2, if_neg]
                    rintro ⟨y1, y2, y3, y4⟩
                    by_cases y5 : q = 24 * kn + j
                    · subst y5; omega
                    · omega
  refine kx_rn dM_mark 1 1 [(0, .ref m), (1, .int (nI tn)), (2, .int (nI kn))] [.ref m] rfl ?_
  refine pM_16 (v := .ref (m + 3)) rfl (kx_tk_dec rfl dM_mark) (mh_o hm) rfl ?_
  refine kx_rn dM_mark 1 5 [(0, .ref m), (1, .int (nI tn)), (2, .int (nI kn))] [.int (nI kn), .ref (m + 3)] rfl ?_
  refine mh_ld (k := 3) (x := A 3 kn) (i := kn) rfl rfl (kx_tk_dec rfl dM_mark) hm (by show kn < 3; omega) ?_
  rw [hs]
  refine kx_rn dM_mark 1 7 [(0, .ref m), (1, .int (nI tn)), (2, .int (nI kn))] [.int (nI tn), .int (nI sc)] rfl ?_
  refine kx_ic (tgt := 17) (kx_tk_dec rfl dM_mark) rfl (fun e7 => ?_) (fun e7 => ?_)
  · skip
    replace e7 : nI tn ≤ nI sc := e7
    replace e7 : tn ≤ sc := (nI_leI (a := tn) (b := sc) (by omega) (by omega)).mp e7
    refine kx_rn dM_mark 2 19 [(0, .ref m), (1, .int (nI tn)), (2, .int (nI kn)), (3, .int 0)] [] rfl ?_
    refine kx_heq (congrArg (mH h0 m S) (show A = va_up A 3 (va_up (A 3) kn (nI (max sc tn))) by rw [show max sc tn = sc by omega, ← hs, va_upsame, va_upsame])) ?_
    refine kx_heq (congrArg (mH h0 m S) (va_upsame (va_up A 3 (va_up (A 3) kn (nI (max sc tn)))) 4).symm) ?_
    exact loop rw 0 _ V (by omega) hV hV2 (fun q w hw => by unfold vMark; rw [if_neg (by omega)])
  · skip
    replace e7 : ¬ nI tn ≤ nI sc := e7
    replace e7 : ¬ tn ≤ sc := fun z => e7 ((nI_leI (a := tn) (b := sc) (by omega) (by omega)).mpr z)
    refine kx_rn dM_mark 1 11 [(0, .ref m), (1, .int (nI tn)), (2, .int (nI kn))] [.ref m] rfl ?_
    refine pM_16 (v := .ref (m + 3)) rfl (kx_tk_dec rfl dM_mark) (mh_o hm) rfl ?_
    refine kx_rn dM_mark 2 16 [(0, .ref m), (1, .int (nI tn)), (2, .int (nI kn))] [.int (nI tn), .int (nI kn), .ref (m + 3)] rfl ?_
    refine mh_st (k := 3) (i := kn) (A' := va_up A 3 (va_up (A 3) kn (nI tn))) rfl (kx_tk_dec rfl dM_mark) hm (by show kn < 3; omega) rfl ?_
    refine kx_rn dM_mark 2 19 [(0, .ref m), (1, .int (nI tn)), (2, .int (nI kn)), (3, .int 0)] [] rfl ?_
    refine kx_heq (congrArg (mH h0 m S) (show va_up A 3 (va_up (A 3) kn (nI tn)) = va_up A 3 (va_up (A 3) kn (nI (max sc tn))) by rw [show max sc tn = tn by omega])) ?_
    refine kx_heq (congrArg (mH h0 m S) (va_upsame (va_up A 3 (va_up (A 3) kn (nI (max sc tn)))) 4).symm) ?_
    exact loop rw 0 _ V (by omega) hV hV2 (fun q w hw => by unfold vMark; rw [if_neg (by omega)])
end KM3
end
section
/-! ===== the reference: writes, answers ===== -/
section KM4
variable {G : kx_G} {l : Launch} {d : Nat} {h0 : kx_H} {m : Nat} {S : Nat → Int32} {A : Nat → Nat → Int32}
theorem cM_tooLate {tn kn rw : Nat} (hst : l.stackTraces = false) (hm : mOk G h0 m) (ht1 : 1 ≤ tn) (ht2 : tn ≤ 40) (hk : kn < 3) (hrw : A 2 kn = nI rw) (hrw2 : rw ≤ 24) {V : Nat → Nat} (hV : ∀ v, A 4 v = nI (V v)) (hV2 : ∀ v, V v < 256) {W : Nat → Nat} (hW : ∀ r, r < rw → A 16 r = heldR (40 * (24 * kn + r)) (W (24 * kn + r))) (hW2 : ∀ q, W q ≤ 40) (hWm : ∀ r, r < rw → ¬ A 18 r = 0 → ¬ W (24 * kn + r) = 0) :
    kx_c G l mM_tooLate d 0 0 [.ref m, .int (nI tn), .int (nI kn)] (mH h0 m S A) (fun o h' => ∃ b : Bool, o = .returned (some (.int (b01 b))) ∧ h' = mH h0 m S A ∧ (b = true ↔ ∃ r, r < rw ∧ (¬ A 18 r = 0 ∧ tn < V (40 * (24 * kn + r) + (W (24 * kn + r) - 1)) / 4))) := by
  refine kx_in (by decide +kernel) (Nat.le_of_ble_eq_true rfl) hst ?_
  have loop : ∀ n (j : Nat), j + n = rw → (∀ r, r < j → ¬ (¬ A 18 r = 0 ∧ tn < V (40 * (24 * kn + r) + (W (24 * kn + r) - 1)) / 4)) → kx_w G l mM_tooLate d (fun o h' => ∃ b : Bool, o = .returned (some (.int (b01 b))) ∧ h' = mH h0 m S A ∧ (b = true ↔ ∃ r, r < rw ∧ (¬ A 18 r = 0 ∧ tn < V (40 * (24 * kn + r) + (W (24 * kn + r) - 1)) / 4))) 0 0 2 [(0, .ref m), (1, .int (nI tn)), (2, .int (nI kn)), (3, .int (nI j))] [] (mH h0 m S A) := by
    intro n
    induction n with
    | zero =>
      intro j hj hl
      refine kx_rn dM_tooLate 2 4 [(0, .ref m), (1, .int (nI tn)), (2, .int (nI kn)), (3, .int (nI j))] [.ref m, .int (nI j)] rfl ?_
      refine pM_13 (v := .ref (m + 2)) rfl (kx_tk_dec rfl dM_tooLate) (mh_o hm) rfl ?_
      refine kx_rn dM_tooLate 1 8 [(0, .ref m), (1, .int (nI tn)), (2, .int (nI kn)), (3, .int (nI j))] [.int (nI kn), .ref (m + 2), .int (nI j)] rfl ?_
      refine mh_ld (k := 2) (x := A 2 kn) (i := kn) rfl rfl (kx_tk_dec rfl dM_tooLate) hm (by show kn < 3; omega) ?_
      rw [hrw]
      refine kx_ic (tgt := 46) (kx_tk_dec rfl dM_tooLate) rfl (fun e9 => ?_) (fun e9 => ?_)
      · skip
        replace e9 : nI rw ≤ nI j := e9
        replace e9 : rw ≤ j := (nI_leI (a := rw) (b := j) (by omega) (by omega)).mp e9
        refine kx_rn dM_tooLate 1 47 [(0, .ref m), (1, .int (nI tn)), (2, .int (nI kn)), (3, .int (nI j))] [.int 0] rfl ?_
        refine kx_ret (ty := .boolean) (kx_tk_dec rfl dM_tooLate) rfl rfl ?_
        exact ⟨false, rfl, rfl, fun z => (by cases z), fun ⟨r, z1, z2⟩ => absurd z2 (hl r (by omega))⟩
      · skip
        replace e9 : ¬ nI rw ≤ nI j := e9
        replace e9 : ¬ rw ≤ j := fun z => e9 ((nI_leI (a := rw) (b := j) (by omega) (by omega)).mpr z)
        exfalso; omega
    | succ n ih =>
      intro j hj hl
      refine kx_rn dM_tooLate 2 4 [(0, .ref m), (1, .int (nI tn)), (2, .int (nI kn)), (3, .int (nI j))] [.ref m, .int (nI j)] rfl ?_
      refine pM_13 (v := .ref (m + 2)) rfl (kx_tk_dec rfl dM_tooLate) (mh_o hm) rfl ?_
      refine kx_rn dM_tooLate 1 8 [(0, .ref m), (1, .int (nI tn)), (2, .int (nI kn)), (3, .int (nI j))] [.int (nI kn), .ref (m + 2), .int (nI j)] rfl ?_
      refine mh_ld (k := 2) (x := A 2 kn) (i := kn) rfl rfl (kx_tk_dec rfl dM_tooLate) hm (by show kn < 3; omega) ?_
      rw [hrw]
      refine kx_ic (tgt := 46) (kx_tk_dec rfl dM_tooLate) rfl (fun e9 => ?_) (fun e9 => ?_)
      · skip
        replace e9 : nI rw ≤ nI j := e9
        replace e9 : rw ≤ j := (nI_leI (a := rw) (b := j) (by omega) (by omega)).mp e9
        exfalso; omega
      · skip
        replace e9 : ¬ nI rw ≤ nI j := e9
        replace e9 : ¬ rw ≤ j := fun z => e9 ((nI_leI (a := rw) (b := j) (by omega) (by omega)).mpr z)
        refine kx_rn dM_tooLate 1 13 [(0, .ref m), (1, .int (nI tn)), (2, .int (nI kn)), (3, .int (nI j))] [.ref m] rfl ?_
        refine pM_66 (v := .ref (m + 18)) rfl (kx_tk_dec rfl dM_tooLate) (mh_o hm) rfl ?_
        refine kx_rn dM_tooLate 1 17 [(0, .ref m), (1, .int (nI tn)), (2, .int (nI kn)), (3, .int (nI j))] [.int (nI j), .ref (m + 18)] rfl ?_
        refine mh_zl (k := 18) (x := A 18 j) (i := j) rfl rfl (kx_tk_dec rfl dM_tooLate) hm (by show j < 24; omega) ?_
        refine kx_if (tgt := 40) (kx_tk_dec rfl dM_tooLate) rfl (fun e18 => ?_) (fun e18 => ?_)
        · skip
          replace e18 : A 18 j = 0 := e18
          refine kx_rn dM_tooLate 2 2 [(0, .ref m), (1, .int (nI tn)), (2, .int (nI kn)), (3, .int ((nI j) + 1))] [] rfl ?_
          rw [show (nI j) + 1 = nI (j + 1) from kn_ad rfl rfl]
          refine ih (j + 1) (by omega) (fun r hr => ?_)
          by_cases z : r = j
          · subst z; exact fun y => y.1 e18
          · exact hl r (by omega)
        · skip
          replace e18 : ¬ A 18 j = 0 := e18
          refine kx_rn dM_tooLate 1 22 [(0, .ref m), (1, .int (nI tn)), (2, .int (nI kn)), (3, .int (nI j))] [.ref m] rfl ?_
          refine pM_19 (v := .ref (m + 4)) rfl (kx_tk_dec rfl dM_tooLate) (mh_o hm) rfl ?_
          refine kx_rn dM_tooLate 1 26 [(0, .ref m), (1, .int (nI tn)), (2, .int (nI kn)), (3, .int (nI j))] [.ref m, .ref (m + 4)] rfl ?_
          refine pM_60 (v := .ref (m + 16)) rfl (kx_tk_dec rfl dM_tooLate) (mh_o hm) rfl ?_
          refine kx_rn dM_tooLate 1 30 [(0, .ref m), (1, .int (nI tn)), (2, .int (nI kn)), (3, .int (nI j))] [.int (nI j), .ref (m + 16), .ref (m + 4)] rfl ?_
          refine mh_ld (k := 16) (x := A 16 j) (i := j) rfl rfl (kx_tk_dec rfl dM_tooLate) hm (by show j < 24; omega) ?_
          rw [hW j (by omega)]
          have hW2j := hW2 (24 * kn + j)
          cases hWj : W (24 * kn + j) with
          | zero => exact absurd hWj (hWm j (by omega) e18)
          | succ w1 =>
            refine mh_ld (k := 4) (x := A 4 (40 * (24 * kn + j) + w1)) (i := 40 * (24 * kn + j) + w1) rfl rfl (kx_tk_dec rfl dM_tooLate) hm (by show 40 * (24 * kn + j) + w1 < 2880; omega) ?_
            rw [hV (40 * (24 * kn + j) + w1)]
            have := hV2 (40 * (24 * kn + j) + w1)
            refine kx_rn dM_tooLate 2 34 [(0, .ref m), (1, .int (nI tn)), (2, .int (nI kn)), (3, .int (nI j))] [.int ((nI (V (40 * (24 * kn + j) + w1))) >>> ((2 : Int32) &&& 31))] rfl ?_
            rw [kw_shr (hV2 _)]
            refine kx_rn dM_tooLate 1 35 [(0, .ref m), (1, .int (nI tn)), (2, .int (nI kn)), (3, .int (nI j))] [.int (nI tn), .int (nI (V (40 * (24 * kn + j) + w1) / 4))] rfl ?_
            refine kx_ic (tgt := 40) (kx_tk_dec rfl dM_tooLate) rfl (fun e35 => ?_) (fun e35 => ?_)
            · skip
              replace e35 : nI (V (40 * (24 * kn + j) + w1) / 4) ≤ nI tn := e35
              replace e35 : V (40 * (24 * kn + j) + w1) / 4 ≤ tn := (nI_leI (a := V (40 * (24 * kn + j) + w1) / 4) (b := tn) (by omega) (by omega)).mp e35
              refine kx_rn dM_tooLate 2 2 [(0, .ref m), (1, .int (nI tn)), (2, .int (nI kn)), (3, .int ((nI j) + 1))] [] rfl ?_
              rw [show (nI j) + 1 = nI (j + 1) from kn_ad rfl rfl]
              refine ih (j + 1) (by omega) (fun r hr => ?_)
              by_cases z : r = j
              · subst z; rintro ⟨-, y⟩; rw [hWj] at y; exact absurd y (by show ¬ _ < V (_ + (w1 + 1 - 1)) / 4; rw [Nat.add_sub_cancel]; omega)
              · exact hl r (by omega)
            · skip
              replace e35 : ¬ nI (V (40 * (24 * kn + j) + w1) / 4) ≤ nI tn := e35
              replace e35 : ¬ V (40 * (24 * kn + j) + w1) / 4 ≤ tn := fun z => e35 ((nI_leI (a := V (40 * (24 * kn + j) + w1) / 4) (b := tn) (by omega) (by omega)).mpr z)
              refine kx_rn dM_tooLate 1 39 [(0, .ref m), (1, .int (nI tn)), (2, .int (nI kn)), (3, .int (nI j))] [.int 1] rfl ?_
              refine kx_ret (ty := .boolean) (kx_tk_dec rfl dM_tooLate) rfl rfl ?_
              exact ⟨true, rfl, rfl, fun _ => ⟨j, by omega, e18, by rw [hWj]; show _ < V (_ + (w1 + 1 - 1)) / 4; rw [Nat.add_sub_cancel]; omega⟩, fun _ => rfl⟩
  refine kx_rn dM_tooLate 2 2 [(0, .ref m), (1, .int (nI tn)), (2, .int (nI kn)), (3, .int 0)] [] rfl ?_
  exact loop rw 0 (by omega) (fun r hr => absurd hr (by omega))
/-- the word of a version that is written -/
def vWr (x tn : Nat) (g : Bool) : Nat := 1 + (if g then 2 else 0) + 4 * (if x = 0 then tn else x / 4)
/-- the values of a version that is written -/
def vVal (f news : Nat → Int32) (v rn : Nat) (g : Bool) (j i : Nat) : Int32 := if 4 * v ≤ i ∧ i < 4 * v + j then (if g then 0 else news (4 * rn + (i - 4 * v))) else f i
theorem cM_write {tn kn rn : Nat} {g : Bool} (hst : l.stackTraces = false) (hm : mOk G h0 m) (ht1 : 1 ≤ tn) (ht2 : tn ≤ 40) (hk : kn < 3) (hr : rn < 24) {V : Nat → Nat} (hV : ∀ v, A 4 v = nI (V v)) (hV2 : ∀ v, V v < 256) :
    kx_c G l mM_write d 0 0 [.ref m, .int (nI tn), .int (nI kn), .int (nI rn), .int (b01 g)] (mH h0 m S A) (fun o h' => o = .returned none ∧ h' = mH h0 m S (va_up (va_up A 4 (va_up (A 4) (40 * (24 * kn + rn) + tn - 1) (nI (vWr (V (40 * (24 * kn + rn) + tn - 1)) tn g)))) 5 (vVal (A 5) (A 17) (40 * (24 * kn + rn) + tn - 1) rn g 4))) := by
  refine kx_in (by decide +kernel) (Nat.le_of_ble_eq_true rfl) hst ?_
  have loop : ∀ n (j : Nat) (F : Nat → Int32), j + n = 4 → (∀ i, F i = vVal (A 5) (A 17) (40 * (24 * kn + rn) + tn - 1) rn g j i) → kx_w G l mM_write d (fun o h' => o = .returned none ∧ h' = mH h0 m S (va_up (va_up A 4 (va_up (A 4) (40 * (24 * kn + rn) + tn - 1) (nI (vWr (V (40 * (24 * kn + rn) + tn - 1)) tn g)))) 5 (vVal (A 5) (A 17) (40 * (24 * kn + rn) + tn - 1) rn g 4))) 0 0 67 [(0, .ref m), (1, .int (nI tn)), (2, .int (nI kn)), (3, .int (nI rn)), (4, .int (b01 g)), (5, .int (nI (40 * (24 * kn + rn) + tn - 1))), (7, .int (nI j))] [] (mH h0 m S (va_up (va_up A 4 (va_up (A 4) (40 * (24 * kn + rn) + tn - 1) (nI (vWr (V (40 * (24 * kn + rn) + tn - 1)) tn g)))) 5 F)) := by
    intro n
    induction n with
    | zero =>
      intro j F hj hF
      refine kx_rn dM_write 2 70 [(0, .ref m), (1, .int (nI tn)), (2, .int (nI kn)), (3, .int (nI rn)), (4, .int (b01 g)), (5, .int (nI (40 * (24 * kn + rn) + tn - 1))), (7, .int (nI j))] [.int 4, .int (nI j)] rfl ?_
      refine kx_ic (tgt := 111) (kx_tk_dec rfl dM_write) rfl (fun e70 => ?_) (fun e70 => ?_)
      · skip
        replace e70 : 4 ≤ nI j := e70
        replace e70 : 4 ≤ j := (nI_leI (a := 4) (b := j) (by omega) (by omega)).mp e70
        refine kx_retv (kx_tk_dec rfl dM_write) rfl ?_
        refine ⟨rfl, ?_⟩
        rw [show F = vVal (A 5) (A 17) (40 * (24 * kn + rn) + tn - 1) rn g 4 from funext fun i => by rw [hF i, show j = 4 by omega]]
      · skip
        replace e70 : ¬ 4 ≤ nI j := e70
        replace e70 : ¬ 4 ≤ j := fun z => e70 ((nI_leI (a := 4) (b := j) (by omega) (by omega)).mpr z)
        exfalso; omega
    | succ n ih =>
      intro j F hj hF
      refine kx_rn dM_write 2 70 [(0, .ref m), (1, .int (nI tn)), (2, .int (nI kn)), (3, .int (nI rn)), (4, .int (b01 g)), (5, .int (nI (40 * (24 * kn + rn) + tn - 1))), (7, .int (nI j))] [.int 4, .int (nI j)] rfl ?_
      refine kx_ic (tgt := 111) (kx_tk_dec rfl dM_write) rfl (fun e70 => ?_) (fun e70 => ?_)
      · skip
        replace e70 : 4 ≤ nI j := e70
        replace e70 : 4 ≤ j := (nI_leI (a := 4) (b := j) (by omega) (by omega)).mp e70
        exfalso; omega
      · skip
        replace e70 : ¬ 4 ≤ nI j := e70
        replace e70 : ¬ 4 ≤ j := fun z => e70 ((nI_leI (a := 4) (b := j) (by omega) (by omega)).mpr z)
        refine kx_rn dM_write 1 74 [(0, .ref m), (1, .int (nI tn)), (2, .int (nI kn)), (3, .int (nI rn)), (4, .int (b01 g)), (5, .int (nI (40 * (24 * kn + rn) + tn - 1))), (7, .int (nI j))] [.ref m] rfl ?_
        refine pM_22 (v := .ref (m + 5)) rfl (kx_tk_dec rfl dM_write) (mh_o hm) rfl ?_
        refine kx_rn dM_write 6 86 [(0, .ref m), (1, .int (nI tn)), (2, .int (nI kn)), (3, .int (nI rn)), (4, .int (b01 g)), (5, .int (nI (40 * (24 * kn + rn) + tn - 1))), (7, .int (nI j))] [.int (b01 g), .int ((4 * (nI (40 * (24 * kn + rn) + tn - 1))) + (nI j)), .ref (m + 5)] rfl ?_
        rw [show (4 * (nI (40 * (24 * kn + rn) + tn - 1))) + (nI j) = nI ((4 * (40 * (24 * kn + rn) + tn - 1)) + j) from kn_ad (kn_mu rfl rfl) rfl]
        refine kx_if (tgt := 93) (kx_tk_dec rfl dM_write) rfl (fun e86 => ?_) (fun e86 => ?_)
        · skip
          replace e86 : b01 g = 0 := e86
          replace e86 : g = false := b01_f e86
          refine kx_rn dM_write 1 94 [(0, .ref m), (1, .int (nI tn)), (2, .int (nI kn)), (3, .int (nI rn)), (4, .int (b01 g)), (5, .int (nI (40 * (24 * kn + rn) + tn - 1))), (7, .int (nI j))] [.ref m, .int (nI ((4 * (40 * (24 * kn + rn) + tn - 1)) + j)), .ref (m + 5)] rfl ?_
          refine pM_63 (v := .ref (m + 17)) rfl (kx_tk_dec rfl dM_write) (mh_o hm) rfl ?_
          refine kx_rn dM_write 5 103 [(0, .ref m), (1, .int (nI tn)), (2, .int (nI kn)), (3, .int (nI rn)), (4, .int (b01 g)), (5, .int (nI (40 * (24 * kn + rn) + tn - 1))), (7, .int (nI j))] [.int ((4 * (nI rn)) + (nI j)), .ref (m + 17), .int (nI ((4 * (40 * (24 * kn + rn) + tn - 1)) + j)), .ref (m + 5)] rfl ?_
          rw [show (4 * (nI rn)) + (nI j) = nI ((4 * rn) + j) from kn_ad (kn_mu rfl rfl) rfl]
          refine mh_ld (k := 17) (x := A 17 ((4 * rn) + j)) (i := (4 * rn) + j) rfl rfl (kx_tk_dec rfl dM_write) hm (by show (4 * rn) + j < 96; omega) ?_
          refine mh_st (k := 5) (i := (4 * (40 * (24 * kn + rn) + tn - 1)) + j) (A' := va_up (va_up A 4 (va_up (A 4) (40 * (24 * kn + rn) + tn - 1) (nI (vWr (V (40 * (24 * kn + rn) + tn - 1)) tn g)))) 5 (va_up F ((4 * (40 * (24 * kn + rn) + tn - 1)) + j) (A 17 ((4 * rn) + j)))) rfl (kx_tk_dec rfl dM_write) hm (by show (4 * (40 * (24 * kn + rn) + tn - 1)) + j < 11520; omega) (va_upup _ _ _ _) ?_
          refine kx_rn dM_write 2 67 [(0, .ref m), (1, .int (nI tn)), (2, .int (nI kn)), (3, .int (nI rn)), (4, .int (b01 g)), (5, .int (nI (40 * (24 * kn + rn) + tn - 1))), (7, .int ((nI j) + 1))] [] rfl ?_
          rw [show (nI j) + 1 = nI (j + 1) from kn_ad rfl rfl]
          refine ih (j + 1) _ (by omega) (fun i => ?_)
          simp only [va_up, vVal]
          by_cases z : i = 4 * (40 * (24 * kn + rn) + tn - 1) + j
          · rw [if_pos z, if_pos (by omega), e86]
            rw [if_neg (by decide), show 4 * rn + (i - 4 * (40 * (24 * kn + rn) + tn - 1)) = 4 * rn + j by omega]
          · rw [if_neg z, hF i]
            unfold vVal
            by_cases z2 : 4 * (40 * (24 * kn + rn) + tn - 1) ≤ i ∧ i < 4 * (40 * (24 * kn + rn) + tn - 1) + j
            · rw [if_pos z2, if_pos (show 4 * (40 * (24 * kn + rn) + tn - 1) ≤ i ∧ i < 4 * (40 * (24 * kn + rn) + tn - 1) + (j + 1) by omega)]
            · rw [if_neg z2, if_neg (show ¬ (4 * (40 * (24 * kn + rn) + tn - 1) ≤ i ∧ i < 4 * (40 * (24 * kn + rn) + tn - 1) + (j + 1)) by omega)]
        · skip
          replace e86 : ¬ b01 g = 0 := e86
          replace e86 : g = true := b01_t e86
          refine kx_rn dM_write 2 104 [(0, .ref m), (1, .int (nI tn)), (2, .int (nI kn)), (3, .int (nI rn)), (4, .int (b01 g)), (5, .int (nI (40 * (24 * kn + rn) + tn - 1))), (7, .int (nI j))] [.int 0, .int (nI ((4 * (40 * (24 * kn + rn) + tn - 1)) + j)), .ref (m + 5)] rfl ?_
          refine mh_st (k := 5) (i := (4 * (40 * (24 * kn + rn) + tn - 1)) + j) (A' := va_up (va_up A 4 (va_up (A 4) (40 * (24 * kn + rn) + tn - 1) (nI (vWr (V (40 * (24 * kn + rn) + tn - 1)) tn g)))) 5 (va_up F ((4 * (40 * (24 * kn + rn) + tn - 1)) + j) 0)) rfl (kx_tk_dec rfl dM_write) hm (by show (4 * (40 * (24 * kn + rn) + tn - 1)) + j < 11520; omega) (va_upup _ _ _ _) ?_
          refine kx_rn dM_write 2 67 [(0, .ref m), (1, .int (nI tn)), (2, .int (nI kn)), (3, .int (nI rn)), (4, .int (b01 g)), (5, .int (nI (40 * (24 * kn + rn) + tn - 1))), (7, .int ((nI j) + 1))] [] rfl ?_
          rw [show (nI j) + 1 = nI (j + 1) from kn_ad rfl rfl]
          refine ih (j + 1) _ (by omega) (fun i => ?_)
          simp only [va_up, vVal]
          by_cases z : i = 4 * (40 * (24 * kn + rn) + tn - 1) + j
          · rw [if_pos z, if_pos (by omega), e86, if_pos rfl]
          · rw [if_neg z, hF i]
            unfold vVal
            by_cases z2 : 4 * (40 * (24 * kn + rn) + tn - 1) ≤ i ∧ i < 4 * (40 * (24 * kn + rn) + tn - 1) + j
            · rw [if_pos z2, if_pos (show 4 * (40 * (24 * kn + rn) + tn - 1) ≤ i ∧ i < 4 * (40 * (24 * kn + rn) + tn - 1) + (j + 1) by omega)]
            · rw [if_neg z2, if_neg (show ¬ (4 * (40 * (24 * kn + rn) + tn - 1) ≤ i ∧ i < 4 * (40 * (24 * kn + rn) + tn - 1) + (j + 1)) by omega)]
  refine kx_rn dM_write 13 16 [(0, .ref m), (1, .int (nI tn)), (2, .int (nI kn)), (3, .int (nI rn)), (4, .int (b01 g)), (5, .int (((40 * ((24 * (nI kn)) + (nI rn))) + (nI tn)) - 1))] [.ref m] rfl ?_
  rw [show ((40 * ((24 * (nI kn)) + (nI rn))) + (nI tn)) - 1 = nI (((40 * ((24 * kn) + rn)) + tn) - 1) from kn_su (kn_ad (kn_mu rfl (kn_ad (kn_mu rfl rfl) rfl)) rfl) rfl (by omega)]
  refine pM_19 (v := .ref (m + 4)) rfl (kx_tk_dec rfl dM_write) (mh_o hm) rfl ?_
  refine kx_rn dM_write 1 21 [(0, .ref m), (1, .int (nI tn)), (2, .int (nI kn)), (3, .int (nI rn)), (4, .int (b01 g)), (5, .int (nI (((40 * ((24 * kn) + rn)) + tn) - 1)))] [.int (nI (((40 * ((24 * kn) + rn)) + tn) - 1)), .ref (m + 4)] rfl ?_
  refine mh_ld (k := 4) (x := A 4 (((40 * ((24 * kn) + rn)) + tn) - 1)) (i := ((40 * ((24 * kn) + rn)) + tn) - 1) rfl rfl (kx_tk_dec rfl dM_write) hm (by show ((40 * ((24 * kn) + rn)) + tn) - 1 < 2880; omega) ?_
  rw [hV (((40 * ((24 * kn) + rn)) + tn) - 1)]
  have := hV2 (((40 * ((24 * kn) + rn)) + tn) - 1)
  refine kx_if (tgt := 37) (kx_tk_dec rfl dM_write) rfl (fun e22 => ?_) (fun e22 => ?_)
  · skip
    replace e22 : nI (V (((40 * ((24 * kn) + rn)) + tn) - 1)) = 0 := e22
    replace e22 : V (((40 * ((24 * kn) + rn)) + tn) - 1) = 0 := (nI_eq (a := V (((40 * ((24 * kn) + rn)) + tn) - 1)) (b := 0) (by omega) (by omega)).mp e22
    refine kx_rn dM_write 3 41 [(0, .ref m), (1, .int (nI tn)), (2, .int (nI kn)), (3, .int (nI rn)), (4, .int (b01 g)), (5, .int (nI (((40 * ((24 * kn) + rn)) + tn) - 1))), (6, .int (nI tn))] [.ref m] rfl ?_
    refine pM_19 (v := .ref (m + 4)) rfl (kx_tk_dec rfl dM_write) (mh_o hm) rfl ?_
    refine kx_rn dM_write 3 49 [(0, .ref m), (1, .int (nI tn)), (2, .int (nI kn)), (3, .int (nI rn)), (4, .int (b01 g)), (5, .int (nI (((40 * ((24 * kn) + rn)) + tn) - 1))), (6, .int (nI tn))] [.int (b01 g), .int 1, .int (nI (((40 * ((24 * kn) + rn)) + tn) - 1)), .ref (m + 4)] rfl ?_
    refine kx_if (tgt := 56) (kx_tk_dec rfl dM_write) rfl (fun e49 => ?_) (fun e49 => ?_)
    · skip
      replace e49 : b01 g = 0 := e49
      replace e49 : g = false := b01_f e49
      refine kx_rn dM_write 6 63 [(0, .ref m), (1, .int (nI tn)), (2, .int (nI kn)), (3, .int (nI rn)), (4, .int (b01 g)), (5, .int (nI (((40 * ((24 * kn) + rn)) + tn) - 1))), (6, .int (nI tn))] [.int (1 + (4 * (nI tn))), .int (nI (((40 * ((24 * kn) + rn)) + tn) - 1)), .ref (m + 4)] rfl ?_
      rw [show 1 + (4 * (nI tn)) = nI (1 + (4 * tn)) from kn_ad rfl (kn_mu rfl rfl)]
      refine mh_st (k := 4) (i := ((40 * ((24 * kn) + rn)) + tn) - 1) (A' := va_up A 4 (va_up (A 4) (((40 * ((24 * kn) + rn)) + tn) - 1) (nI (1 + (4 * tn))))) rfl (kx_tk_dec rfl dM_write) hm (by show ((40 * ((24 * kn) + rn)) + tn) - 1 < 2880; omega) rfl ?_
      refine kx_rn dM_write 2 67 [(0, .ref m), (1, .int (nI tn)), (2, .int (nI kn)), (3, .int (nI rn)), (4, .int (b01 g)), (5, .int (nI (((40 * ((24 * kn) + rn)) + tn) - 1))), (6, .int (nI tn)), (7, .int 0)] [] rfl ?_
      refine kx_heq (congrArg (fun z => mH h0 m S (va_up A 4 (va_up (A 4) (40 * (24 * kn + rn) + tn - 1) (nI z)))) (show 1 + (4 * tn) = vWr (V (40 * (24 * kn + rn) + tn - 1)) tn g by unfold vWr; simp only [e22, e49]; simp)) ?_
      refine kx_lsub (lv' := [(0, .ref m), (1, .int (nI tn)), (2, .int (nI kn)), (3, .int (nI rn)), (4, .int (b01 g)), (5, .int (nI (((40 * ((24 * kn) + rn)) + tn) - 1))), (7, .int 0)]) (.cons₂ _ (.cons₂ _ (.cons₂ _ (.cons₂ _ (.cons₂ _ (.cons₂ _ (.cons _ (.cons₂ _ .slnil)))))))) ?_
      refine kx_heq (congrArg (mH h0 m S) (va_upsame (va_up A 4 (va_up (A 4) (40 * (24 * kn + rn) + tn - 1) (nI (vWr (V (40 * (24 * kn + rn) + tn - 1)) tn g)))) 5).symm) ?_
      exact loop 4 0 _ rfl (fun i => by unfold vVal; rw [if_neg (by omega)]; rfl)
    · skip
      replace e49 : ¬ b01 g = 0 := e49
      replace e49 : g = true := b01_t e49
      refine kx_rn dM_write 7 63 [(0, .ref m), (1, .int (nI tn)), (2, .int (nI kn)), (3, .int (nI rn)), (4, .int (b01 g)), (5, .int (nI (((40 * ((24 * kn) + rn)) + tn) - 1))), (6, .int (nI tn))] [.int (3 + (4 * (nI tn))), .int (nI (((40 * ((24 * kn) + rn)) + tn) - 1)), .ref (m + 4)] rfl ?_
      rw [show 3 + (4 * (nI tn)) = nI (3 + (4 * tn)) from kn_ad rfl (kn_mu rfl rfl)]
      refine mh_st (k := 4) (i := ((40 * ((24 * kn) + rn)) + tn) - 1) (A' := va_up A 4 (va_up (A 4) (((40 * ((24 * kn) + rn)) + tn) - 1) (nI (3 + (4 * tn))))) rfl (kx_tk_dec rfl dM_write) hm (by show ((40 * ((24 * kn) + rn)) + tn) - 1 < 2880; omega) rfl ?_
      refine kx_rn dM_write 2 67 [(0, .ref m), (1, .int (nI tn)), (2, .int (nI kn)), (3, .int (nI rn)), (4, .int (b01 g)), (5, .int (nI (((40 * ((24 * kn) + rn)) + tn) - 1))), (6, .int (nI tn)), (7, .int 0)] [] rfl ?_
      refine kx_heq (congrArg (fun z => mH h0 m S (va_up A 4 (va_up (A 4) (40 * (24 * kn + rn) + tn - 1) (nI z)))) (show 3 + (4 * tn) = vWr (V (40 * (24 * kn + rn) + tn - 1)) tn g by unfold vWr; simp only [e22, e49]; simp)) ?_
      refine kx_lsub (lv' := [(0, .ref m), (1, .int (nI tn)), (2, .int (nI kn)), (3, .int (nI rn)), (4, .int (b01 g)), (5, .int (nI (((40 * ((24 * kn) + rn)) + tn) - 1))), (7, .int 0)]) (.cons₂ _ (.cons₂ _ (.cons₂ _ (.cons₂ _ (.cons₂ _ (.cons₂ _ (.cons _ (.cons₂ _ .slnil)))))))) ?_
      refine kx_heq (congrArg (mH h0 m S) (va_upsame (va_up A 4 (va_up (A 4) (40 * (24 * kn + rn) + tn - 1) (nI (vWr (V (40 * (24 * kn + rn) + tn - 1)) tn g)))) 5).symm) ?_
      exact loop 4 0 _ rfl (fun i => by unfold vVal; rw [if_neg (by omega)]; rfl)
  · skip
    replace e22 : ¬ nI (V (((40 * ((24 * kn) + rn)) + tn) - 1)) = 0 := e22
    replace e22 : ¬ V (((40 * ((24 * kn) + rn)) + tn) - 1) = 0 := fun z => e22 ((nI_eq (a := V (((40 * ((24 * kn) + rn)) + tn) - 1)) (b := 0) (by omega) (by omega)).mpr z)
    refine kx_rn dM_write 1 26 [(0, .ref m), (1, .int (nI tn)), (2, .int (nI kn)), (3, .int (nI rn)), (4, .int (b01 g)), (5, .int (nI (((40 * ((24 * kn) + rn)) + tn) - 1)))] [.ref m] rfl ?_
    refine pM_19 (v := .ref (m + 4)) rfl (kx_tk_dec rfl dM_write) (mh_o hm) rfl ?_
    refine kx_rn dM_write 1 31 [(0, .ref m), (1, .int (nI tn)), (2, .int (nI kn)), (3, .int (nI rn)), (4, .int (b01 g)), (5, .int (nI (((40 * ((24 * kn) + rn)) + tn) - 1)))] [.int (nI (((40 * ((24 * kn) + rn)) + tn) - 1)), .ref (m + 4)] rfl ?_
    refine mh_ld (k := 4) (x := A 4 (((40 * ((24 * kn) + rn)) + tn) - 1)) (i := ((40 * ((24 * kn) + rn)) + tn) - 1) rfl rfl (kx_tk_dec rfl dM_write) hm (by show ((40 * ((24 * kn) + rn)) + tn) - 1 < 2880; omega) ?_
    rw [hV (((40 * ((24 * kn) + rn)) + tn) - 1)]
    have := hV2 (((40 * ((24 * kn) + rn)) + tn) - 1)
    refine kx_rn dM_write 2 34 [(0, .ref m), (1, .int (nI tn)), (2, .int (nI kn)), (3, .int (nI rn)), (4, .int (b01 g)), (5, .int (nI (((40 * ((24 * kn) + rn)) + tn) - 1)))] [.int ((nI (V (((40 * ((24 * kn) + rn)) + tn) - 1))) >>> ((2 : Int32) &&& 31))] rfl ?_
    rw [kw_shr (hV2 _)]
    refine kx_rn dM_write 3 41 [(0, .ref m), (1, .int (nI tn)), (2, .int (nI kn)), (3, .int (nI rn)), (4, .int (b01 g)), (5, .int (nI (((40 * ((24 * kn) + rn)) + tn) - 1))), (6, .int (nI (V (40 * (24 * kn + rn) + tn - 1) / 4)))] [.ref m] rfl ?_
    refine pM_19 (v := .ref (m + 4)) rfl (kx_tk_dec rfl dM_write) (mh_o hm) rfl ?_
    refine kx_rn dM_write 3 49 [(0, .ref m), (1, .int (nI tn)), (2, .int (nI kn)), (3, .int (nI rn)), (4, .int (b01 g)), (5, .int (nI (((40 * ((24 * kn) + rn)) + tn) - 1))), (6, .int (nI (V (40 * (24 * kn + rn) + tn - 1) / 4)))] [.int (b01 g), .int 1, .int (nI (((40 * ((24 * kn) + rn)) + tn) - 1)), .ref (m + 4)] rfl ?_
    refine kx_if (tgt := 56) (kx_tk_dec rfl dM_write) rfl (fun e49 => ?_) (fun e49 => ?_)
    · skip
      replace e49 : b01 g = 0 := e49
      replace e49 : g = false := b01_f e49
      refine kx_rn dM_write 6 63 [(0, .ref m), (1, .int (nI tn)), (2, .int (nI kn)), (3, .int (nI rn)), (4, .int (b01 g)), (5, .int (nI (((40 * ((24 * kn) + rn)) + tn) - 1))), (6, .int (nI (V (40 * (24 * kn + rn) + tn - 1) / 4)))] [.int (1 + (4 * (nI (V (40 * (24 * kn + rn) + tn - 1) / 4)))), .int (nI (((40 * ((24 * kn) + rn)) + tn) - 1)), .ref (m + 4)] rfl ?_
      rw [show 1 + (4 * (nI (V (40 * (24 * kn + rn) + tn - 1) / 4))) = nI (1 + (4 * (V (40 * (24 * kn + rn) + tn - 1) / 4))) from kn_ad rfl (kn_mu rfl rfl)]
      refine mh_st (k := 4) (i := ((40 * ((24 * kn) + rn)) + tn) - 1) (A' := va_up A 4 (va_up (A 4) (((40 * ((24 * kn) + rn)) + tn) - 1) (nI (1 + (4 * (V (40 * (24 * kn + rn) + tn - 1) / 4)))))) rfl (kx_tk_dec rfl dM_write) hm (by show ((40 * ((24 * kn) + rn)) + tn) - 1 < 2880; omega) rfl ?_
      refine kx_rn dM_write 2 67 [(0, .ref m), (1, .int (nI tn)), (2, .int (nI kn)), (3, .int (nI rn)), (4, .int (b01 g)), (5, .int (nI (((40 * ((24 * kn) + rn)) + tn) - 1))), (6, .int (nI (V (40 * (24 * kn + rn) + tn - 1) / 4))), (7, .int 0)] [] rfl ?_
      refine kx_heq (congrArg (fun z => mH h0 m S (va_up A 4 (va_up (A 4) (40 * (24 * kn + rn) + tn - 1) (nI z)))) (show 1 + (4 * (V (40 * (24 * kn + rn) + tn - 1) / 4)) = vWr (V (40 * (24 * kn + rn) + tn - 1)) tn g by unfold vWr; simp only [e22, e49]; simp)) ?_
      refine kx_lsub (lv' := [(0, .ref m), (1, .int (nI tn)), (2, .int (nI kn)), (3, .int (nI rn)), (4, .int (b01 g)), (5, .int (nI (((40 * ((24 * kn) + rn)) + tn) - 1))), (7, .int 0)]) (.cons₂ _ (.cons₂ _ (.cons₂ _ (.cons₂ _ (.cons₂ _ (.cons₂ _ (.cons _ (.cons₂ _ .slnil)))))))) ?_
      refine kx_heq (congrArg (mH h0 m S) (va_upsame (va_up A 4 (va_up (A 4) (40 * (24 * kn + rn) + tn - 1) (nI (vWr (V (40 * (24 * kn + rn) + tn - 1)) tn g)))) 5).symm) ?_
      exact loop 4 0 _ rfl (fun i => by unfold vVal; rw [if_neg (by omega)]; rfl)
    · skip
      replace e49 : ¬ b01 g = 0 := e49
      replace e49 : g = true := b01_t e49
      refine kx_rn dM_write 7 63 [(0, .ref m), (1, .int (nI tn)), (2, .int (nI kn)), (3, .int (nI rn)), (4, .int (b01 g)), (5, .int (nI (((40 * ((24 * kn) + rn)) + tn) - 1))), (6, .int (nI (V (40 * (24 * kn + rn) + tn - 1) / 4)))] [.int (3 + (4 * (nI (V (40 * (24 * kn + rn) + tn - 1) / 4)))), .int (nI (((40 * ((24 * kn) + rn)) + tn) - 1)), .ref (m + 4)] rfl ?_
      rw [show 3 + (4 * (nI (V (40 * (24 * kn + rn) + tn - 1) / 4))) = nI (3 + (4 * (V (40 * (24 * kn + rn) + tn - 1) / 4))) from kn_ad rfl (kn_mu rfl rfl)]
      refine mh_st (k := 4) (i := ((40 * ((24 * kn) + rn)) + tn) - 1) (A' := va_up A 4 (va_up (A 4) (((40 * ((24 * kn) + rn)) + tn) - 1) (nI (3 + (4 * (V (40 * (24 * kn + rn) + tn - 1) / 4)))))) rfl (kx_tk_dec rfl dM_write) hm (by show ((40 * ((24 * kn) + rn)) + tn) - 1 < 2880; omega) rfl ?_
      refine kx_rn dM_write 2 67 [(0, .ref m), (1, .int (nI tn)), (2, .int (nI kn)), (3, .int (nI rn)), (4, .int (b01 g)), (5, .int (nI (((40 * ((24 * kn) + rn)) + tn) - 1))), (6, .int (nI (V (40 * (24 * kn + rn) + tn - 1) / 4))), (7, .int 0)] [] rfl ?_
      refine kx_heq (congrArg (fun z => mH h0 m S (va_up A 4 (va_up (A 4) (40 * (24 * kn + rn) + tn - 1) (nI z)))) (show 3 + (4 * (V (40 * (24 * kn + rn) + tn - 1) / 4)) = vWr (V (40 * (24 * kn + rn) + tn - 1)) tn g by unfold vWr; simp only [e22, e49]; simp)) ?_
      refine kx_lsub (lv' := [(0, .ref m), (1, .int (nI tn)), (2, .int (nI kn)), (3, .int (nI rn)), (4, .int (b01 g)), (5, .int (nI (((40 * ((24 * kn) + rn)) + tn) - 1))), (7, .int 0)]) (.cons₂ _ (.cons₂ _ (.cons₂ _ (.cons₂ _ (.cons₂ _ (.cons₂ _ (.cons _ (.cons₂ _ .slnil)))))))) ?_
      refine kx_heq (congrArg (mH h0 m S) (va_upsame (va_up A 4 (va_up (A 4) (40 * (24 * kn + rn) + tn - 1) (nI (vWr (V (40 * (24 * kn + rn) + tn - 1)) tn g)))) 5).symm) ?_
      exact loop 4 0 _ rfl (fun i => by unfold vVal; rw [if_neg (by omega)]; rfl)
theorem cM_versions {k r : Int32} (hst : l.stackTraces = false) (hm : mOk G h0 m) {RW : Nat → Nat} (hR : ∀ k, A 2 k = nI (RW k)) (hR2 : ∀ k, RW k ≤ 24) {V : Nat → Nat} (hV : ∀ v, A 4 v = nI (V v)) (hV2 : ∀ v, V v < 256) :
    kx_c G l mM_versions (d + 2) 0 0 [.ref m, .int k, .int r] (mH h0 m S A) (fun o h' => (¬ (∃ kn rn, kn < 3 ∧ k = nI kn ∧ ¬ A 1 kn = 0 ∧ rn < RW kn ∧ r = nI rn) ∧ o = .returned (some (.int 0)) ∧ h' = mH h0 m (va_up S 0 1) A) ∨ ∃ kn rn, kn < 3 ∧ k = nI kn ∧ ¬ A 1 kn = 0 ∧ rn < RW kn ∧ r = nI rn ∧ o = .returned (some (.int (nI (cnt (fun j => decide (¬ V (40 * (24 * kn + rn) + j) = 0)) 40)))) ∧ h' = mH h0 m (va_up S 0 0) A) := by
  refine kx_in (by decide +kernel) (Nat.le_of_ble_eq_true rfl) hst ?_
  refine kx_rn dM_versions 2 2 [(0, .ref m), (1, .int k), (2, .int r)] [.int 0, .ref m] rfl ?_
  refine qM_69 rfl (kx_tk_dec rfl dM_versions) (mh_o hm) rfl rfl (Nat.le_of_ble_eq_true rfl) ?_
  rw [mh_p0]
  refine kx_rn dM_versions 2 7 [(0, .ref m), (1, .int k), (2, .int r)] [.int k, .ref m] rfl ?_
  refine cM_166 (as := [.int k]) (st := []) (mc := 0) (ms := 0) (kc := 0) (ks := 0) rfl (kx_tk_dec rfl dM_versions) (mh_o hm) rfl rfl (Nat.le_of_ble_eq_true rfl) (cM_noTable hst hm) (fun o h' hq => ?_)
  obtain ⟨bt, rfl, rfl, hbt⟩ := hq
  show kx_w _ _ _ _ _ _ _ _ _ _ _
  refine kx_if (tgt := 26) (kx_tk_dec rfl dM_versions) rfl (fun e10 => ?_) (fun e10 => ?_)
  · skip
    replace e10 : ¬ b01 bt = 0 := e10
    replace e10 : bt = true := b01_t e10
    refine kx_rn dM_versions 2 28 [(0, .ref m), (1, .int k), (2, .int r)] [.int 1, .ref m] rfl ?_
    refine cM_79 (as := [.int 1]) (st := []) (mc := 0) (ms := 0) (kc := 0) (ks := 0) rfl (kx_tk_dec rfl dM_versions) (mh_o hm) rfl rfl (Nat.le_of_ble_eq_true rfl) (cM_fail hst hm) (fun o h' hq => ?_)
    obtain ⟨rfl, rfl⟩ := hq
    show kx_w _ _ _ _ _ _ _ _ _ _ _
    rw [va_upup]
    refine kx_rn dM_versions 1 44 [(0, .ref m), (1, .int k), (2, .int r)] [.int 0] rfl ?_
    refine kx_ret (ty := .int) (kx_tk_dec rfl dM_versions) rfl rfl ?_
    exact Or.inl ⟨fun ⟨kn, rn, z1, z2, z3, z4, z5⟩ => (hbt.mp e10) ⟨kn, z1, z2, z3⟩, rfl, rfl⟩
  · skip
    replace e10 : b01 bt = 0 := e10
    replace e10 : bt = false := b01_f e10
    obtain ⟨kn, hk, rfl, hk3⟩ : mTb A k := Classical.byContradiction fun z => absurd (hbt.mpr z) (by rw [e10]; decide)
    have hRk := hR2 kn
    refine kx_rn dM_versions 2 15 [(0, .ref m), (1, .int (nI kn)), (2, .int r)] [.ref m, .int r] rfl ?_
    refine pM_13 (v := .ref (m + 2)) rfl (kx_tk_dec rfl dM_versions) (mh_o hm) rfl ?_
    refine kx_rn dM_versions 1 19 [(0, .ref m), (1, .int (nI kn)), (2, .int r)] [.int (nI kn), .ref (m + 2), .int r] rfl ?_
    refine mh_ld (k := 2) (x := A 2 kn) (i := kn) rfl rfl (kx_tk_dec rfl dM_versions) hm (by show kn < 3; omega) ?_
    rw [hR kn]
    refine cM_72 (as := [.int r, .int (nI (RW kn))]) (st := []) (mc := 0) (ms := 0) (kc := 0) (ks := 0) rfl (kx_tk_dec rfl dM_versions) rfl rfl (Nat.le_of_ble_eq_true rfl) (cM_out hst) (fun o h' hq => ?_)
    obtain ⟨bo, rfl, rfl, hbo⟩ := hq
    show kx_w _ _ _ _ _ _ _ _ _ _ _
    refine kx_if (tgt := 34) (kx_tk_dec rfl dM_versions) rfl (fun e23 => ?_) (fun e23 => ?_)
    · skip
      replace e23 : b01 bo = 0 := e23
      replace e23 : bo = false := b01_f e23
      have hb0 : ¬ (r < 0 ∨ nI (RW kn) ≤ r) := fun z => absurd (hbo.mpr z) (by rw [e23]; decide)
      obtain ⟨rn, hr1, rfl⟩ := mou_in (by omega) hb0
      refine kx_rn dM_versions 6 41 [(0, .ref m), (1, .int (nI kn)), (2, .int (nI rn))] [.int ((24 * (nI kn)) + (nI rn)), .ref m] rfl ?_
      rw [show (24 * (nI kn)) + (nI rn) = nI ((24 * kn) + rn) from kn_ad (kn_mu rfl rfl) rfl]
      refine cM_199 (as := [.int (nI ((24 * kn) + rn))]) (st := []) (mc := 0) (ms := 0) (kc := 0) (ks := 0) rfl (kx_tk_dec rfl dM_versions) (mh_o hm) rfl rfl (Nat.le_of_ble_eq_true rfl) (cM_versionsOf hst hm (by omega) hV hV2) (fun o h' hq => ?_)
      obtain ⟨rfl, rfl⟩ := hq
      show kx_w _ _ _ _ _ _ _ _ _ _ _
      refine kx_ret (ty := .int) (kx_tk_dec rfl dM_versions) rfl rfl ?_
      exact Or.inr ⟨kn, rn, hk, rfl, hk3, hr1, rfl, rfl, rfl⟩
    · skip
      replace e23 : ¬ b01 bo = 0 := e23
      replace e23 : bo = true := b01_t e23
      refine kx_rn dM_versions 2 28 [(0, .ref m), (1, .int (nI kn)), (2, .int r)] [.int 1, .ref m] rfl ?_
      refine cM_79 (as := [.int 1]) (st := []) (mc := 0) (ms := 0) (kc := 0) (ks := 0) rfl (kx_tk_dec rfl dM_versions) (mh_o hm) rfl rfl (Nat.le_of_ble_eq_true rfl) (cM_fail hst hm) (fun o h' hq => ?_)
      obtain ⟨rfl, rfl⟩ := hq
      show kx_w _ _ _ _ _ _ _ _ _ _ _
      rw [va_upup]
      refine kx_rn dM_versions 1 44 [(0, .ref m), (1, .int (nI kn)), (2, .int r)] [.int 0] rfl ?_
      refine kx_ret (ty := .int) (kx_tk_dec rfl dM_versions) rfl rfl ?_
      exact Or.inl ⟨fun ⟨k2, rn, z1, z2, z3, z4, z5⟩ => by
        have z6 := (nI_eq (a := kn) (b := k2) (by omega) (by omega)).mp z2
        subst z6
        exact mou_no (by omega) (hbo.mp e23) z4 z5, rfl, rfl⟩
theorem cM_result {i c : Int32} {rs : Nat} (hst : l.stackTraces = false) (hm : mOk G h0 m) (hs : S 25 = nI rs) (hs2 : rs ≤ 24) :
    kx_c G l mM_result (d + 1) 0 0 [.ref m, .int i, .int c] (mH h0 m S A) (fun o h' => ((i < 0 ∨ nI rs ≤ i) ∧ o = .returned (some (.int 0)) ∧ h' = mH h0 m (va_up S 0 1) A) ∨ ∃ n, n < rs ∧ i = nI n ∧ (((c < -1 ∨ 3 < c) ∧ o = .returned (some (.int 0)) ∧ h' = mH h0 m (va_up S 0 2) A) ∨ (c = -1 ∧ o = .returned (some (.int (A 14 n))) ∧ h' = mH h0 m (va_up S 0 0) A) ∨ ∃ cn, cn < 4 ∧ c = nI cn ∧ o = .returned (some (.int (A 15 (4 * n + cn)))) ∧ h' = mH h0 m (va_up S 0 0) A)) := by
  refine kx_in (by decide +kernel) (Nat.le_of_ble_eq_true rfl) hst ?_
  refine kx_rn dM_result 2 2 [(0, .ref m), (1, .int i), (2, .int c)] [.int 0, .ref m] rfl ?_
  refine qM_69 rfl (kx_tk_dec rfl dM_result) (mh_o hm) rfl rfl (Nat.le_of_ble_eq_true rfl) ?_
  rw [mh_p0]
  refine kx_rn dM_result 2 7 [(0, .ref m), (1, .int i), (2, .int c)] [.ref m, .int i] rfl ?_
  refine pM_176 (v := .int (S 25)) rfl (kx_tk_dec rfl dM_result) (mh_o hm) rfl ?_
  rw [hs]
  refine cM_72 (as := [.int i, .int (nI rs)]) (st := []) (mc := 0) (ms := 0) (kc := 0) (ks := 0) rfl (kx_tk_dec rfl dM_result) rfl rfl (Nat.le_of_ble_eq_true rfl) (cM_out hst) (fun o h' hq => ?_)
  obtain ⟨bo, rfl, rfl, hbo⟩ := hq
  show kx_w _ _ _ _ _ _ _ _ _ _ _
  refine kx_if (tgt := 22) (kx_tk_dec rfl dM_result) rfl (fun e13 => ?_) (fun e13 => ?_)
  · skip
    replace e13 : b01 bo = 0 := e13
    replace e13 : bo = false := b01_f e13
    have hb0 : ¬ (i < 0 ∨ nI rs ≤ i) := fun z => absurd (hbo.mpr z) (by rw [e13]; decide)
    obtain ⟨n, hn1, rfl⟩ := mou_in (by omega) hb0
    refine kx_rn dM_result 2 24 [(0, .ref m), (1, .int (nI n)), (2, .int c)] [.int ((-1)), .int c] rfl ?_
    refine kx_ic (tgt := 32) (kx_tk_dec rfl dM_result) rfl (fun e24 => ?_) (fun e24 => ?_)
    · skip
      replace e24 : c < (-1) := e24
      refine kx_rn dM_result 2 34 [(0, .ref m), (1, .int (nI n)), (2, .int c)] [.int 2, .ref m] rfl ?_
      refine cM_79 (as := [.int 2]) (st := []) (mc := 0) (ms := 0) (kc := 0) (ks := 0) rfl (kx_tk_dec rfl dM_result) (mh_o hm) rfl rfl (Nat.le_of_ble_eq_true rfl) (cM_fail hst hm) (fun o h' hq => ?_)
      obtain ⟨rfl, rfl⟩ := hq
      show kx_w _ _ _ _ _ _ _ _ _ _ _
      rw [va_upup]
      refine kx_ret (ty := .int) (kx_tk_dec rfl dM_result) rfl rfl ?_
      exact Or.inr ⟨n, hn1, rfl, Or.inl ⟨Or.inl e24, rfl, rfl⟩⟩
    · skip
      replace e24 : ¬ c < (-1) := e24
      refine kx_rn dM_result 2 29 [(0, .ref m), (1, .int (nI n)), (2, .int c)] [.int 3, .int c] rfl ?_
      refine kx_ic (tgt := 38) (kx_tk_dec rfl dM_result) rfl (fun e29 => ?_) (fun e29 => ?_)
      · skip
        replace e29 : c ≤ 3 := e29
        refine kx_rn dM_result 1 39 [(0, .ref m), (1, .int (nI n)), (2, .int c)] [.int c] rfl ?_
        refine kx_if (tgt := 51) (kx_tk_dec rfl dM_result) rfl (fun e39 => ?_) (fun e39 => ?_)
        · skip
          replace e39 : 0 ≤ c := e39
          obtain ⟨cn, hc1, rfl⟩ := mou_in (k := c) (n := 4) (by omega) (fun z => z.elim (fun z => by rw [kI_lt] at z; rw [kI_le] at e39; omega) (fun z => by rw [kI_le] at z e29; have y1 : (nI 4).toInt = 4 := rfl; have y2 : (3 : Int32).toInt = 3 := rfl; omega))
          refine kx_rn dM_result 1 52 [(0, .ref m), (1, .int (nI n)), (2, .int (nI cn))] [.ref m] rfl ?_
          refine pM_57 (v := .ref (m + 15)) rfl (kx_tk_dec rfl dM_result) (mh_o hm) rfl ?_
          refine kx_rn dM_result 5 60 [(0, .ref m), (1, .int (nI n)), (2, .int (nI cn))] [.int ((4 * (nI n)) + (nI cn)), .ref (m + 15)] rfl ?_
          rw [show (4 * (nI n)) + (nI cn) = nI ((4 * n) + cn) from kn_ad (kn_mu rfl rfl) rfl]
          refine mh_ld (k := 15) (x := A 15 ((4 * n) + cn)) (i := (4 * n) + cn) rfl rfl (kx_tk_dec rfl dM_result) hm (by show (4 * n) + cn < 96; omega) ?_
          refine kx_ret (ty := .int) (kx_tk_dec rfl dM_result) rfl rfl ?_
          exact Or.inr ⟨n, hn1, rfl, Or.inr (Or.inr ⟨cn, hc1, rfl, rfl, rfl⟩)⟩
        · skip
          replace e39 : ¬ 0 ≤ c := e39
          have hc1 : c = -1 := Int32.toInt_inj.mp (by rw [kI_lt] at e24; rw [kI_le] at e39; have y1 : (-1 : Int32).toInt = -1 := rfl; have y2 : (0 : Int32).toInt = 0 := rfl; omega)
          refine kx_rn dM_result 1 43 [(0, .ref m), (1, .int (nI n)), (2, .int c)] [.ref m] rfl ?_
          refine pM_54 (v := .ref (m + 14)) rfl (kx_tk_dec rfl dM_result) (mh_o hm) rfl ?_
          refine kx_rn dM_result 1 47 [(0, .ref m), (1, .int (nI n)), (2, .int c)] [.int (nI n), .ref (m + 14)] rfl ?_
          refine mh_ld (k := 14) (x := A 14 n) (i := n) rfl rfl (kx_tk_dec rfl dM_result) hm (by show n < 24; omega) ?_
          refine kx_rn dM_result 1 61 [(0, .ref m), (1, .int (nI n)), (2, .int c)] [.int (A 14 n)] rfl ?_
          refine kx_ret (ty := .int) (kx_tk_dec rfl dM_result) rfl rfl ?_
          exact Or.inr ⟨n, hn1, rfl, Or.inr (Or.inl ⟨hc1, rfl, rfl⟩)⟩
      · skip
        replace e29 : ¬ c ≤ 3 := e29
        refine kx_rn dM_result 2 34 [(0, .ref m), (1, .int (nI n)), (2, .int c)] [.int 2, .ref m] rfl ?_
        refine cM_79 (as := [.int 2]) (st := []) (mc := 0) (ms := 0) (kc := 0) (ks := 0) rfl (kx_tk_dec rfl dM_result) (mh_o hm) rfl rfl (Nat.le_of_ble_eq_true rfl) (cM_fail hst hm) (fun o h' hq => ?_)
        obtain ⟨rfl, rfl⟩ := hq
        show kx_w _ _ _ _ _ _ _ _ _ _ _
        rw [va_upup]
        refine kx_ret (ty := .int) (kx_tk_dec rfl dM_result) rfl rfl ?_
        exact Or.inr ⟨n, hn1, rfl, Or.inl ⟨Or.inr (by rw [kI_le] at e29; rw [kI_lt]; omega), rfl, rfl⟩⟩
  · skip
    replace e13 : ¬ b01 bo = 0 := e13
    replace e13 : bo = true := b01_t e13
    refine kx_rn dM_result 2 18 [(0, .ref m), (1, .int i), (2, .int c)] [.int 1, .ref m] rfl ?_
    refine cM_79 (as := [.int 1]) (st := []) (mc := 0) (ms := 0) (kc := 0) (ks := 0) rfl (kx_tk_dec rfl dM_result) (mh_o hm) rfl rfl (Nat.le_of_ble_eq_true rfl) (cM_fail hst hm) (fun o h' hq => ?_)
    obtain ⟨rfl, rfl⟩ := hq
    show kx_w _ _ _ _ _ _ _ _ _ _ _
    rw [va_upup]
    refine kx_ret (ty := .int) (kx_tk_dec rfl dM_result) rfl rfl ?_
    exact Or.inl ⟨hbo.mp e13, rfl, rfl⟩
end KM4
end
section
/-! ===== the reference: insert, vacuum, count, mean ===== -/
section KM5
variable {G : kx_G} {l : Launch} {d : Nat} {h0 : kx_H} {m : Nat} {S : Nat → Int32} {A : Nat → Nat → Int32}
/-- the values that insert lays into its row -/
def vNew (a b c e : Int32) (cl i : Nat) : Int32 := if i = 0 then a else if i = 1 then (if 1 < cl then b else 0) else if i = 2 then (if 2 < cl then c else 0) else (if 3 < cl then e else 0)
/-- news with a row's four values -/
def vNews (f : Nat → Int32) (r : Nat) (g : Nat → Int32) (i : Nat) : Int32 := if 4 * r ≤ i ∧ i < 4 * r + 4 then g (i - 4 * r) else f i
theorem cM_insert {t k a b c e : Int32} (hst : l.stackTraces = false) (hm : mOk G h0 m) {bg : Nat} (hb : S 7 = nI bg) (hbg : bg ≤ 40) {RW : Nat → Nat} (hR : ∀ k, A 2 k = nI (RW k)) (hR2 : ∀ k, RW k ≤ 24) {SC : Nat → Nat} (hSC : ∀ k, A 3 k = nI (SC k)) (hSC2 : ∀ k, SC k ≤ 40) {CL : Nat → Nat} (hCL : ∀ k, A 1 k = nI (CL k)) (hCL2 : ∀ k, CL k ≤ 4) {V : Nat → Nat} (hV : ∀ v, A 4 v = nI (V v)) (hV2 : ∀ v, V v < 256) :
    kx_c G l mM_insert (d + 2) 0 0 [.ref m, .int t, .int k, .int a, .int b, .int c, .int e] (mH h0 m S A) (fun o h' => (¬ (mOp A bg t ∧ mTb A k) ∧ o = .returned (some (.int 0)) ∧ h' = mH h0 m (va_up S 0 1) A) ∨ ∃ tn kn, 1 ≤ tn ∧ tn ≤ bg ∧ t = nI tn ∧ A 6 tn = 1 ∧ kn < 3 ∧ k = nI kn ∧ ¬ A 1 kn = 0 ∧ ((RW kn = 24 ∧ o = .returned (some (.int 0)) ∧ h' = mH h0 m (va_up S 0 2) A) ∨ (RW kn < 24 ∧ tn < SC kn ∧ o = .returned (some (.int 0)) ∧ h' = mH h0 m (va_up (va_up S 8 (S 8 + 1)) 0 3) (va_up (va_up A 6 (va_up (A 6) tn 3)) 4 (fun v => nI (vBrk V tn v)))) ∨ (RW kn < 24 ∧ ¬ tn < SC kn ∧ o = .returned (some (.int (nI (RW kn)))) ∧ h' = mH h0 m (va_up S 0 0) (va_up (va_up (va_up (va_up A 2 (va_up (A 2) kn (nI (RW kn + 1)))) 17 (vNews (A 17) (RW kn) (vNew a b c e (CL kn)))) 4 (va_up (A 4) (40 * (24 * kn + RW kn) + tn - 1) (nI (vWr (V (40 * (24 * kn + RW kn) + tn - 1)) tn false)))) 5 (vVal (A 5) (vNews (A 17) (RW kn) (vNew a b c e (CL kn))) (40 * (24 * kn + RW kn) + tn - 1) (RW kn) false 4))))) := by
  refine kx_in (by decide +kernel) (Nat.le_of_ble_eq_true rfl) hst ?_
  refine kx_rn dM_insert 2 2 [(0, .ref m), (1, .int t), (2, .int k), (3, .int a), (4, .int b), (5, .int c), (6, .int e)] [.int 0, .ref m] rfl ?_
  refine qM_69 rfl (kx_tk_dec rfl dM_insert) (mh_o hm) rfl rfl (Nat.le_of_ble_eq_true rfl) ?_
  rw [mh_p0]
  refine kx_rn dM_insert 2 7 [(0, .ref m), (1, .int t), (2, .int k), (3, .int a), (4, .int b), (5, .int c), (6, .int e)] [.int t, .ref m] rfl ?_
  refine cM_83 (as := [.int t]) (st := []) (mc := 0) (ms := 0) (kc := 0) (ks := 0) rfl (kx_tk_dec rfl dM_insert) (mh_o hm) rfl rfl (Nat.le_of_ble_eq_true rfl) (cM_closed hst hm (S := va_up S 0 0) hb hbg) (fun o h' hq => ?_)
  obtain ⟨bo, rfl, rfl, hbo⟩ := hq
  show kx_w _ _ _ _ _ _ _ _ _ _ _
  refine kx_if (tgt := 21) (kx_tk_dec rfl dM_insert) rfl (fun e10 => ?_) (fun e10 => ?_)
  · skip
    replace e10 : ¬ b01 bo = 0 := e10
    replace e10 : bo = true := b01_t e10
    refine kx_rn dM_insert 2 23 [(0, .ref m), (1, .int t), (2, .int k), (3, .int a), (4, .int b), (5, .int c), (6, .int e)] [.int 1, .ref m] rfl ?_
    refine cM_79 (as := [.int 1]) (st := []) (mc := 0) (ms := 0) (kc := 0) (ks := 0) rfl (kx_tk_dec rfl dM_insert) (mh_o hm) rfl rfl (Nat.le_of_ble_eq_true rfl) (cM_fail hst hm) (fun o h' hq => ?_)
    obtain ⟨rfl, rfl⟩ := hq
    show kx_w _ _ _ _ _ _ _ _ _ _ _
    rw [va_upup]
    refine kx_ret (ty := .int) (kx_tk_dec rfl dM_insert) rfl rfl ?_
    exact Or.inl ⟨fun z => (hbo.mp e10) z.1, rfl, rfl⟩
  · skip
    replace e10 : b01 bo = 0 := e10
    replace e10 : bo = false := b01_f e10
    obtain ⟨tn, ht1, ht2, rfl, ht4⟩ : mOp A bg t := Classical.byContradiction fun z => absurd (hbo.mpr z) (by rw [e10]; decide)
    refine kx_rn dM_insert 2 15 [(0, .ref m), (1, .int (nI tn)), (2, .int k), (3, .int a), (4, .int b), (5, .int c), (6, .int e)] [.int k, .ref m] rfl ?_
    refine cM_166 (as := [.int k]) (st := []) (mc := 0) (ms := 0) (kc := 0) (ks := 0) rfl (kx_tk_dec rfl dM_insert) (mh_o hm) rfl rfl (Nat.le_of_ble_eq_true rfl) (cM_noTable hst hm) (fun o h' hq => ?_)
    obtain ⟨bt, rfl, rfl, hbt⟩ := hq
    show kx_w _ _ _ _ _ _ _ _ _ _ _
    refine kx_if (tgt := 27) (kx_tk_dec rfl dM_insert) rfl (fun e18 => ?_) (fun e18 => ?_)
    · skip
      replace e18 : b01 bt = 0 := e18
      replace e18 : bt = false := b01_f e18
      obtain ⟨kn, hk, rfl, hk3⟩ : mTb A k := Classical.byContradiction fun z => absurd (hbt.mpr z) (by rw [e18]; decide)
      have hRk := hR2 kn
      have hSk := hSC2 kn
      have hCk := hCL2 kn
      refine kx_rn dM_insert 1 28 [(0, .ref m), (1, .int (nI tn)), (2, .int (nI kn)), (3, .int a), (4, .int b), (5, .int c), (6, .int e)] [.ref m] rfl ?_
      refine pM_13 (v := .ref (m + 2)) rfl (kx_tk_dec rfl dM_insert) (mh_o hm) rfl ?_
      refine kx_rn dM_insert 1 32 [(0, .ref m), (1, .int (nI tn)), (2, .int (nI kn)), (3, .int a), (4, .int b), (5, .int c), (6, .int e)] [.int (nI kn), .ref (m + 2)] rfl ?_
      refine mh_ld (k := 2) (x := A 2 kn) (i := kn) rfl rfl (kx_tk_dec rfl dM_insert) hm (by show kn < 3; omega) ?_
      rw [hR kn]
      refine kx_rn dM_insert 1 35 [(0, .ref m), (1, .int (nI tn)), (2, .int (nI kn)), (3, .int a), (4, .int b), (5, .int c), (6, .int e)] [.int 24, .int (nI (RW kn))] rfl ?_
      refine kx_ic (tgt := 44) (kx_tk_dec rfl dM_insert) rfl (fun e35 => ?_) (fun e35 => ?_)
      · skip
        replace e35 : ¬ nI (RW kn) = 24 := e35
        replace e35 : ¬ RW kn = 24 := fun z => e35 ((nI_eq (a := RW kn) (b := 24) (by omega) (by omega)).mpr z)
        refine kx_rn dM_insert 1 45 [(0, .ref m), (1, .int (nI tn)), (2, .int (nI kn)), (3, .int a), (4, .int b), (5, .int c), (6, .int e)] [.ref m] rfl ?_
        refine pM_16 (v := .ref (m + 3)) rfl (kx_tk_dec rfl dM_insert) (mh_o hm) rfl ?_
        refine kx_rn dM_insert 1 49 [(0, .ref m), (1, .int (nI tn)), (2, .int (nI kn)), (3, .int a), (4, .int b), (5, .int c), (6, .int e)] [.int (nI kn), .ref (m + 3)] rfl ?_
        refine mh_ld (k := 3) (x := A 3 kn) (i := kn) rfl rfl (kx_tk_dec rfl dM_insert) hm (by show kn < 3; omega) ?_
        rw [hSC kn]
        refine kx_rn dM_insert 1 51 [(0, .ref m), (1, .int (nI tn)), (2, .int (nI kn)), (3, .int a), (4, .int b), (5, .int c), (6, .int e)] [.int (nI tn), .int (nI (SC kn))] rfl ?_
        refine kx_ic (tgt := 61) (kx_tk_dec rfl dM_insert) rfl (fun e51 => ?_) (fun e51 => ?_)
        · skip
          replace e51 : nI (SC kn) ≤ nI tn := e51
          replace e51 : SC kn ≤ tn := (nI_leI (a := SC kn) (b := tn) (by omega) (by omega)).mp e51
          refine kx_rn dM_insert 1 62 [(0, .ref m), (1, .int (nI tn)), (2, .int (nI kn)), (3, .int a), (4, .int b), (5, .int c), (6, .int e)] [.ref m] rfl ?_
          refine pM_13 (v := .ref (m + 2)) rfl (kx_tk_dec rfl dM_insert) (mh_o hm) rfl ?_
          refine kx_rn dM_insert 1 66 [(0, .ref m), (1, .int (nI tn)), (2, .int (nI kn)), (3, .int a), (4, .int b), (5, .int c), (6, .int e)] [.int (nI kn), .ref (m + 2)] rfl ?_
          refine mh_ld (k := 2) (x := A 2 kn) (i := kn) rfl rfl (kx_tk_dec rfl dM_insert) hm (by show kn < 3; omega) ?_
          rw [hR kn]
          refine kx_rn dM_insert 2 70 [(0, .ref m), (1, .int (nI tn)), (2, .int (nI kn)), (3, .int a), (4, .int b), (5, .int c), (6, .int e), (7, .int (nI (RW kn)))] [.ref m] rfl ?_
          refine pM_13 (v := .ref (m + 2)) rfl (kx_tk_dec rfl dM_insert) (mh_o hm) rfl ?_
          refine kx_rn dM_insert 2 75 [(0, .ref m), (1, .int (nI tn)), (2, .int (nI kn)), (3, .int a), (4, .int b), (5, .int c), (6, .int e), (7, .int (nI (RW kn)))] [.int (nI kn), .ref (m + 2), .int (nI kn), .ref (m + 2)] rfl ?_
          refine mh_ld (k := 2) (x := A 2 kn) (i := kn) rfl rfl (kx_tk_dec rfl dM_insert) hm (by show kn < 3; omega) ?_
          rw [hR kn]
          refine kx_rn dM_insert 2 78 [(0, .ref m), (1, .int (nI tn)), (2, .int (nI kn)), (3, .int a), (4, .int b), (5, .int c), (6, .int e), (7, .int (nI (RW kn)))] [.int ((nI (RW kn)) + 1), .int (nI kn), .ref (m + 2)] rfl ?_
          rw [show (nI (RW kn)) + 1 = nI ((RW kn) + 1) from kn_ad rfl rfl]
          refine mh_st (k := 2) (i := kn) (A' := va_up A 2 (va_up (A 2) kn (nI ((RW kn) + 1)))) rfl (kx_tk_dec rfl dM_insert) hm (by show kn < 3; omega) rfl ?_
          refine kx_rn dM_insert 1 80 [(0, .ref m), (1, .int (nI tn)), (2, .int (nI kn)), (3, .int a), (4, .int b), (5, .int c), (6, .int e), (7, .int (nI (RW kn)))] [.ref m] rfl ?_
          refine pM_63 (v := .ref (m + 17)) rfl (kx_tk_dec rfl dM_insert) (mh_o hm) rfl ?_
          refine kx_rn dM_insert 4 88 [(0, .ref m), (1, .int (nI tn)), (2, .int (nI kn)), (3, .int a), (4, .int b), (5, .int c), (6, .int e), (7, .int (nI (RW kn)))] [.int a, .int (4 * (nI (RW kn))), .ref (m + 17)] rfl ?_
          rw [show 4 * (nI (RW kn)) = nI (4 * (RW kn)) from kn_mu rfl rfl]
          refine mh_st (k := 17) (i := 4 * (RW kn)) (A' := va_up (va_up A 2 (va_up (A 2) kn (nI ((RW kn) + 1)))) 17 (va_up (A 17) (4 * (RW kn)) a)) rfl (kx_tk_dec rfl dM_insert) hm (by show 4 * (RW kn) < 96; omega) rfl ?_
          refine kx_rn dM_insert 1 90 [(0, .ref m), (1, .int (nI tn)), (2, .int (nI kn)), (3, .int a), (4, .int b), (5, .int c), (6, .int e), (7, .int (nI (RW kn)))] [.ref m] rfl ?_
          refine pM_63 (v := .ref (m + 17)) rfl (kx_tk_dec rfl dM_insert) (mh_o hm) rfl ?_
          refine kx_rn dM_insert 6 100 [(0, .ref m), (1, .int (nI tn)), (2, .int (nI kn)), (3, .int a), (4, .int b), (5, .int c), (6, .int e), (7, .int (nI (RW kn)))] [.ref m, .int ((4 * (nI (RW kn))) + 1), .ref (m + 17)] rfl ?_
          rw [show (4 * (nI (RW kn))) + 1 = nI ((4 * (RW kn)) + 1) from kn_ad (kn_mu rfl rfl) rfl]
          refine pM_7 (v := .ref (m + 1)) rfl (kx_tk_dec rfl dM_insert) (mh_o hm) rfl ?_
          refine kx_rn dM_insert 1 104 [(0, .ref m), (1, .int (nI tn)), (2, .int (nI kn)), (3, .int a), (4, .int b), (5, .int c), (6, .int e), (7, .int (nI (RW kn)))] [.int (nI kn), .ref (m + 1), .int (nI ((4 * (RW kn)) + 1)), .ref (m + 17)] rfl ?_
          refine mh_ld (k := 1) (x := A 1 kn) (i := kn) rfl rfl (kx_tk_dec rfl dM_insert) hm (by show kn < 3; omega) ?_
          rw [hCL kn]
          refine kx_rn dM_insert 1 106 [(0, .ref m), (1, .int (nI tn)), (2, .int (nI kn)), (3, .int a), (4, .int b), (5, .int c), (6, .int e), (7, .int (nI (RW kn)))] [.int 1, .int (nI (CL kn)), .int (nI ((4 * (RW kn)) + 1)), .ref (m + 17)] rfl ?_
          refine kx_ic (tgt := 114) (kx_tk_dec rfl dM_insert) rfl (fun e106 => ?_) (fun e106 => ?_)
          · skip
            replace e106 : nI (CL kn) ≤ 1 := e106
            replace e106 : CL kn ≤ 1 := (nI_leI (a := CL kn) (b := 1) (by omega) (by omega)).mp e106
            refine kx_rn dM_insert 1 115 [(0, .ref m), (1, .int (nI tn)), (2, .int (nI kn)), (3, .int a), (4, .int b), (5, .int c), (6, .int e), (7, .int (nI (RW kn)))] [.int 0, .int (nI ((4 * (RW kn)) + 1)), .ref (m + 17)] rfl ?_
            refine mh_st (k := 17) (i := (4 * (RW kn)) + 1) (A' := va_up (va_up A 2 (va_up (A 2) kn (nI ((RW kn) + 1)))) 17 (va_up (va_up (A 17) (4 * (RW kn)) a) ((4 * (RW kn)) + 1) 0)) rfl (kx_tk_dec rfl dM_insert) hm (by show (4 * (RW kn)) + 1 < 96; omega) (va_upup _ _ _ _) ?_
            refine kx_rn dM_insert 1 117 [(0, .ref m), (1, .int (nI tn)), (2, .int (nI kn)), (3, .int a), (4, .int b), (5, .int c), (6, .int e), (7, .int (nI (RW kn)))] [.ref m] rfl ?_
            refine pM_63 (v := .ref (m + 17)) rfl (kx_tk_dec rfl dM_insert) (mh_o hm) rfl ?_
            refine kx_rn dM_insert 6 127 [(0, .ref m), (1, .int (nI tn)), (2, .int (nI kn)), (3, .int a), (4, .int b), (5, .int c), (6, .int e), (7, .int (nI (RW kn)))] [.ref m, .int ((4 * (nI (RW kn))) + 2), .ref (m + 17)] rfl ?_
            rw [show (4 * (nI (RW kn))) + 2 = nI ((4 * (RW kn)) + 2) from kn_ad (kn_mu rfl rfl) rfl]
            refine pM_7 (v := .ref (m + 1)) rfl (kx_tk_dec rfl dM_insert) (mh_o hm) rfl ?_
            refine kx_rn dM_insert 1 131 [(0, .ref m), (1, .int (nI tn)), (2, .int (nI kn)), (3, .int a), (4, .int b), (5, .int c), (6, .int e), (7, .int (nI (RW kn)))] [.int (nI kn), .ref (m + 1), .int (nI ((4 * (RW kn)) + 2)), .ref (m + 17)] rfl ?_
            refine mh_ld (k := 1) (x := A 1 kn) (i := kn) rfl rfl (kx_tk_dec rfl dM_insert) hm (by show kn < 3; omega) ?_
            rw [hCL kn]
            refine kx_rn dM_insert 1 133 [(0, .ref m), (1, .int (nI tn)), (2, .int (nI kn)), (3, .int a), (4, .int b), (5, .int c), (6, .int e), (7, .int (nI (RW kn)))] [.int 2, .int (nI (CL kn)), .int (nI ((4 * (RW kn)) + 2)), .ref (m + 17)] rfl ?_
            refine kx_ic (tgt := 141) (kx_tk_dec rfl dM_insert) rfl (fun e133 => ?_) (fun e133 => ?_)
            · skip
              replace e133 : nI (CL kn) ≤ 2 := e133
              replace e133 : CL kn ≤ 2 := (nI_leI (a := CL kn) (b := 2) (by omega) (by omega)).mp e133
              refine kx_rn dM_insert 1 142 [(0, .ref m), (1, .int (nI tn)), (2, .int (nI kn)), (3, .int a), (4, .int b), (5, .int c), (6, .int e), (7, .int (nI (RW kn)))] [.int 0, .int (nI ((4 * (RW kn)) + 2)), .ref (m + 17)] rfl ?_
              refine mh_st (k := 17) (i := (4 * (RW kn)) + 2) (A' := va_up (va_up A 2 (va_up (A 2) kn (nI ((RW kn) + 1)))) 17 (va_up (va_up (va_up (A 17) (4 * (RW kn)) a) ((4 * (RW kn)) + 1) 0) ((4 * (RW kn)) + 2) 0)) rfl (kx_tk_dec rfl dM_insert) hm (by show (4 * (RW kn)) + 2 < 96; omega) (va_upup _ _ _ _) ?_
              refine kx_rn dM_insert 1 144 [(0, .ref m), (1, .int (nI tn)), (2, .int (nI kn)), (3, .int a), (4, .int b), (5, .int c), (6, .int e), (7, .int (nI (RW kn)))] [.ref m] rfl ?_
              refine pM_63 (v := .ref (m + 17)) rfl (kx_tk_dec rfl dM_insert) (mh_o hm) rfl ?_
              refine kx_rn dM_insert 6 154 [(0, .ref m), (1, .int (nI tn)), (2, .int (nI kn)), (3, .int a), (4, .int b), (5, .int c), (6, .int e), (7, .int (nI (RW kn)))] [.ref m, .int ((4 * (nI (RW kn))) + 3), .ref (m + 17)] rfl ?_
              rw [show (4 * (nI (RW kn))) + 3 = nI ((4 * (RW kn)) + 3) from kn_ad (kn_mu rfl rfl) rfl]
              refine pM_7 (v := .ref (m + 1)) rfl (kx_tk_dec rfl dM_insert) (mh_o hm) rfl ?_
              refine kx_rn dM_insert 1 158 [(0, .ref m), (1, .int (nI tn)), (2, .int (nI kn)), (3, .int a), (4, .int b), (5, .int c), (6, .int e), (7, .int (nI (RW kn)))] [.int (nI kn), .ref (m + 1), .int (nI ((4 * (RW kn)) + 3)), .ref (m + 17)] rfl ?_
              refine mh_ld (k := 1) (x := A 1 kn) (i := kn) rfl rfl (kx_tk_dec rfl dM_insert) hm (by show kn < 3; omega) ?_
              rw [hCL kn]
              refine kx_rn dM_insert 1 160 [(0, .ref m), (1, .int (nI tn)), (2, .int (nI kn)), (3, .int a), (4, .int b), (5, .int c), (6, .int e), (7, .int (nI (RW kn)))] [.int 3, .int (nI (CL kn)), .int (nI ((4 * (RW kn)) + 3)), .ref (m + 17)] rfl ?_
              refine kx_ic (tgt := 168) (kx_tk_dec rfl dM_insert) rfl (fun e160 => ?_) (fun e160 => ?_)
              · skip
                replace e160 : nI (CL kn) ≤ 3 := e160
                replace e160 : CL kn ≤ 3 := (nI_leI (a := CL kn) (b := 3) (by omega) (by omega)).mp e160
                refine kx_rn dM_insert 1 169 [(0, .ref m), (1, .int (nI tn)), (2, .int (nI kn)), (3, .int a), (4, .int b), (5, .int c), (6, .int e), (7, .int (nI (RW kn)))] [.int 0, .int (nI ((4 * (RW kn)) + 3)), .ref (m + 17)] rfl ?_
                refine mh_st (k := 17) (i := (4 * (RW kn)) + 3) (A' := va_up (va_up A 2 (va_up (A 2) kn (nI ((RW kn) + 1)))) 17 (va_up (va_up (va_up (va_up (A 17) (4 * (RW kn)) a) ((4 * (RW kn)) + 1) 0) ((4 * (RW kn)) + 2) 0) ((4 * (RW kn)) + 3) 0)) rfl (kx_tk_dec rfl dM_insert) hm (by show (4 * (RW kn)) + 3 < 96; omega) (va_upup _ _ _ _) ?_
                have hnw : va_up (va_up (va_up (va_up (A 17) (4 * (RW kn)) a) ((4 * (RW kn)) + 1) 0) ((4 * (RW kn)) + 2) 0) ((4 * (RW kn)) + 3) 0 = vNews (A 17) (RW kn) (vNew a b c e (CL kn)) := by
                  funext i
                  simp only [va_up, vNews, vNew]
                  by_cases z3 : i = 4 * RW kn + 3
                  · subst z3; rw [if_pos rfl, if_pos (by omega), show 4 * RW kn + 3 - 4 * RW kn = 3 by omega]; simp only [Nat.reduceEqDiff, if_false]; simp <;> omega
                  · rw [if_neg z3]
                    by_cases z2 : i = 4 * RW kn + 2
                    · subst z2; rw [if_pos rfl, if_pos (by omega), show 4 * RW kn + 2 - 4 * RW kn = 2 by omega]; simp <;> omega
                    · rw [if_neg z2]
                      by_cases z1 : i = 4 * RW kn + 1
                      · subst z1; rw [if_pos rfl, if_pos (by omega), show 4 * RW kn + 1 - 4 * RW kn = 1 by omega]; simp <;> omega
                      · rw [if_neg z1]
                        by_cases z0 : i = 4 * RW kn
                        · subst z0; rw [if_pos rfl, if_pos (by omega), Nat.sub_self]; simp
                        · rw [if_neg z0, if_neg (by omega)]
                refine kx_heq (congrArg (fun z => mH h0 m (va_up S 0 0) (va_up (va_up A 2 (va_up (A 2) kn (nI ((RW kn) + 1)))) 17 z)) hnw) ?_
                refine kx_rn dM_insert 5 176 [(0, .ref m), (1, .int (nI tn)), (2, .int (nI kn)), (3, .int a), (4, .int b), (5, .int c), (6, .int e), (7, .int (nI (RW kn)))] [.int 0, .int (nI (RW kn)), .int (nI kn), .int (nI tn), .ref m] rfl ?_
                refine cM_188 (as := [.int (nI tn), .int (nI kn), .int (nI (RW kn)), .int 0]) (st := []) (mc := 0) (ms := 0) (kc := 0) (ks := 0) rfl (kx_tk_dec rfl dM_insert) (mh_o hm) rfl rfl (Nat.le_of_ble_eq_true rfl) (cM_write (g := false) hst hm ht1 (by omega) hk (by omega) hV hV2) (fun o h' hq => ?_)
                obtain ⟨rfl, rfl⟩ := hq
                show kx_w _ _ _ _ _ _ _ _ _ _ _
                refine kx_rn dM_insert 1 181 [(0, .ref m), (1, .int (nI tn)), (2, .int (nI kn)), (3, .int a), (4, .int b), (5, .int c), (6, .int e), (7, .int (nI (RW kn)))] [.int (nI (RW kn))] rfl ?_
                refine kx_ret (ty := .int) (kx_tk_dec rfl dM_insert) rfl rfl ?_
                exact Or.inr ⟨tn, kn, ht1, ht2, rfl, ht4, hk, rfl, hk3, Or.inr (Or.inr ⟨by omega, by omega, rfl, rfl⟩)⟩
              · skip
                replace e160 : ¬ nI (CL kn) ≤ 3 := e160
                replace e160 : ¬ CL kn ≤ 3 := fun z => e160 ((nI_leI (a := CL kn) (b := 3) (by omega) (by omega)).mpr z)
                refine kx_rn dM_insert 2 169 [(0, .ref m), (1, .int (nI tn)), (2, .int (nI kn)), (3, .int a), (4, .int b), (5, .int c), (6, .int e), (7, .int (nI (RW kn)))] [.int e, .int (nI ((4 * (RW kn)) + 3)), .ref (m + 17)] rfl ?_
                refine mh_st (k := 17) (i := (4 * (RW kn)) + 3) (A' := va_up (va_up A 2 (va_up (A 2) kn (nI ((RW kn) + 1)))) 17 (va_up (va_up (va_up (va_up (A 17) (4 * (RW kn)) a) ((4 * (RW kn)) + 1) 0) ((4 * (RW kn)) + 2) 0) ((4 * (RW kn)) + 3) e)) rfl (kx_tk_dec rfl dM_insert) hm (by show (4 * (RW kn)) + 3 < 96; omega) (va_upup _ _ _ _) ?_
                have hnw : va_up (va_up (va_up (va_up (A 17) (4 * (RW kn)) a) ((4 * (RW kn)) + 1) 0) ((4 * (RW kn)) + 2) 0) ((4 * (RW kn)) + 3) e = vNews (A 17) (RW kn) (vNew a b c e (CL kn)) := by
                  funext i
                  simp only [va_up, vNews, vNew]
                  by_cases z3 : i = 4 * RW kn + 3
                  · subst z3; rw [if_pos rfl, if_pos (by omega), show 4 * RW kn + 3 - 4 * RW kn = 3 by omega]; simp only [Nat.reduceEqDiff, if_false]; simp <;> omega
                  · rw [if_neg z3]
                    by_cases z2 : i = 4 * RW kn + 2
                    · subst z2; rw [if_pos rfl, if_pos (by omega), show 4 * RW kn + 2 - 4 * RW kn = 2 by omega]; simp <;> omega
                    · rw [if_neg z2]
                      by_cases z1 : i = 4 * RW kn + 1
                      · subst z1; rw [if_pos rfl, if_pos (by omega), show 4 * RW kn + 1 - 4 * RW kn = 1 by omega]; simp <;> omega
                      · rw [if_neg z1]
                        by_cases z0 : i = 4 * RW kn
                        · subst z0; rw [if_pos rfl, if_pos (by omega), Nat.sub_self]; simp
                        · rw [if_neg z0, if_neg (by omega)]
                refine kx_heq (congrArg (fun z => mH h0 m (va_up S 0 0) (va_up (va_up A 2 (va_up (A 2) kn (nI ((RW kn) + 1)))) 17 z)) hnw) ?_
                refine kx_rn dM_insert 5 176 [(0, .ref m), (1, .int (nI tn)), (2, .int (nI kn)), (3, .int a), (4, .int b), (5, .int c), (6, .int e), (7, .int (nI (RW kn)))] [.int 0, .int (nI (RW kn)), .int (nI kn), .int (nI tn), .ref m] rfl ?_
                refine cM_188 (as := [.int (nI tn), .int (nI kn), .int (nI (RW kn)), .int 0]) (st := []) (mc := 0) (ms := 0) (kc := 0) (ks := 0) rfl (kx_tk_dec rfl dM_insert) (mh_o hm) rfl rfl (Nat.le_of_ble_eq_true rfl) (cM_write (g := false) hst hm ht1 (by omega) hk (by omega) hV hV2) (fun o h' hq => ?_)
                obtain ⟨rfl, rfl⟩ := hq
                show kx_w _ _ _ _ _ _ _ _ _ _ _
                refine kx_rn dM_insert 1 181 [(0, .ref m), (1, .int (nI tn)), (2, .int (nI kn)), (3, .int a), (4, .int b), (5, .int c), (6, .int e), (7, .int (nI (RW kn)))] [.int (nI (RW kn))] rfl ?_
                refine kx_ret (ty := .int) (kx_tk_dec rfl dM_insert) rfl rfl ?_
                exact Or.inr ⟨tn, kn, ht1, ht2, rfl, ht4, hk, rfl, hk3, Or.inr (Or.inr ⟨by omega, by omega, rfl, rfl⟩)⟩
            · skip
              replace e133 : ¬ nI (CL kn) ≤ 2 := e133
              replace e133 : ¬ CL kn ≤ 2 := fun z => e133 ((nI_leI (a := CL kn) (b := 2) (by omega) (by omega)).mpr z)
              refine kx_rn dM_insert 2 142 [(0, .ref m), (1, .int (nI tn)), (2, .int (nI kn)), (3, .int a), (4, .int b), (5, .int c), (6, .int e), (7, .int (nI (RW kn)))] [.int c, .int (nI ((4 * (RW kn)) + 2)), .ref (m + 17)] rfl ?_
              refine mh_st (k := 17) (i := (4 * (RW kn)) + 2) (A' := va_up (va_up A 2 (va_up (A 2) kn (nI ((RW kn) + 1)))) 17 (va_up (va_up (va_up (A 17) (4 * (RW kn)) a) ((4 * (RW kn)) + 1) 0) ((4 * (RW kn)) + 2) c)) rfl (kx_tk_dec rfl dM_insert) hm (by show (4 * (RW kn)) + 2 < 96; omega) (va_upup _ _ _ _) ?_
              refine kx_rn dM_insert 1 144 [(0, .ref m), (1, .int (nI tn)), (2, .int (nI kn)), (3, .int a), (4, .int b), (5, .int c), (6, .int e), (7, .int (nI (RW kn)))] [.ref m] rfl ?_
              refine pM_63 (v := .ref (m + 17)) rfl (kx_tk_dec rfl dM_insert) (mh_o hm) rfl ?_
              refine kx_rn dM_insert 6 154 [(0, .ref m), (1, .int (nI tn)), (2, .int (nI kn)), (3, .int a), (4, .int b), (5, .int c), (6, .int e), (7, .int (nI (RW kn)))] [.ref m, .int ((4 * (nI (RW kn))) + 3), .ref (m + 17)] rfl ?_
              rw [show (4 * (nI (RW kn))) + 3 = nI ((4 * (RW kn)) + 3) from kn_ad (kn_mu rfl rfl) rfl]
              refine pM_7 (v := .ref (m + 1)) rfl (kx_tk_dec rfl dM_insert) (mh_o hm) rfl ?_
              refine kx_rn dM_insert 1 158 [(0, .ref m), (1, .int (nI tn)), (2, .int (nI kn)), (3, .int a), (4, .int b), (5, .int c), (6, .int e), (7, .int (nI (RW kn)))] [.int (nI kn), .ref (m + 1), .int (nI ((4 * (RW kn)) + 3)), .ref (m + 17)] rfl ?_
              refine mh_ld (k := 1) (x := A 1 kn) (i := kn) rfl rfl (kx_tk_dec rfl dM_insert) hm (by show kn < 3; omega) ?_
              rw [hCL kn]
              refine kx_rn dM_insert 1 160 [(0, .ref m), (1, .int (nI tn)), (2, .int (nI kn)), (3, .int a), (4, .int b), (5, .int c), (6, .int e), (7, .int (nI (RW kn)))] [.int 3, .int (nI (CL kn)), .int (nI ((4 * (RW kn)) + 3)), .ref (m + 17)] rfl ?_
              refine kx_ic (tgt := 168) (kx_tk_dec rfl dM_insert) rfl (fun e160 => ?_) (fun e160 => ?_)
              · skip
                replace e160 : nI (CL kn) ≤ 3 := e160
                replace e160 : CL kn ≤ 3 := (nI_leI (a := CL kn) (b := 3) (by omega) (by omega)).mp e160
                refine kx_rn dM_insert 1 169 [(0, .ref m), (1, .int (nI tn)), (2, .int (nI kn)), (3, .int a), (4, .int b), (5, .int c), (6, .int e), (7, .int (nI (RW kn)))] [.int 0, .int (nI ((4 * (RW kn)) + 3)), .ref (m + 17)] rfl ?_
                refine mh_st (k := 17) (i := (4 * (RW kn)) + 3) (A' := va_up (va_up A 2 (va_up (A 2) kn (nI ((RW kn) + 1)))) 17 (va_up (va_up (va_up (va_up (A 17) (4 * (RW kn)) a) ((4 * (RW kn)) + 1) 0) ((4 * (RW kn)) + 2) c) ((4 * (RW kn)) + 3) 0)) rfl (kx_tk_dec rfl dM_insert) hm (by show (4 * (RW kn)) + 3 < 96; omega) (va_upup _ _ _ _) ?_
                have hnw : va_up (va_up (va_up (va_up (A 17) (4 * (RW kn)) a) ((4 * (RW kn)) + 1) 0) ((4 * (RW kn)) + 2) c) ((4 * (RW kn)) + 3) 0 = vNews (A 17) (RW kn) (vNew a b c e (CL kn)) := by
                  funext i
                  simp only [va_up, vNews, vNew]
                  by_cases z3 : i = 4 * RW kn + 3
                  · subst z3; rw [if_pos rfl, if_pos (by omega), show 4 * RW kn + 3 - 4 * RW kn = 3 by omega]; simp only [Nat.reduceEqDiff, if_false]; simp <;> omega
                  · rw [if_neg z3]
                    by_cases z2 : i = 4 * RW kn + 2
                    · subst z2; rw [if_pos rfl, if_pos (by omega), show 4 * RW kn + 2 - 4 * RW kn = 2 by omega]; simp <;> omega
                    · rw [if_neg z2]
                      by_cases z1 : i = 4 * RW kn + 1
                      · subst z1; rw [if_pos rfl, if_pos (by omega), show 4 * RW kn + 1 - 4 * RW kn = 1 by omega]; simp <;> omega
                      · rw [if_neg z1]
                        by_cases z0 : i = 4 * RW kn
                        · subst z0; rw [if_pos rfl, if_pos (by omega), Nat.sub_self]; simp
                        · rw [if_neg z0, if_neg (by omega)]
                refine kx_heq (congrArg (fun z => mH h0 m (va_up S 0 0) (va_up (va_up A 2 (va_up (A 2) kn (nI ((RW kn) + 1)))) 17 z)) hnw) ?_
                refine kx_rn dM_insert 5 176 [(0, .ref m), (1, .int (nI tn)), (2, .int (nI kn)), (3, .int a), (4, .int b), (5, .int c), (6, .int e), (7, .int (nI (RW kn)))] [.int 0, .int (nI (RW kn)), .int (nI kn), .int (nI tn), .ref m] rfl ?_
                refine cM_188 (as := [.int (nI tn), .int (nI kn), .int (nI (RW kn)), .int 0]) (st := []) (mc := 0) (ms := 0) (kc := 0) (ks := 0) rfl (kx_tk_dec rfl dM_insert) (mh_o hm) rfl rfl (Nat.le_of_ble_eq_true rfl) (cM_write (g := false) hst hm ht1 (by omega) hk (by omega) hV hV2) (fun o h' hq => ?_)
                obtain ⟨rfl, rfl⟩ := hq
                show kx_w _ _ _ _ _ _ _ _ _ _ _
                refine kx_rn dM_insert 1 181 [(0, .ref m), (1, .int (nI tn)), (2, .int (nI kn)), (3, .int a), (4, .int b), (5, .int c), (6, .int e), (7, .int (nI (RW kn)))] [.int (nI (RW kn))] rfl ?_
                refine kx_ret (ty := .int) (kx_tk_dec rfl dM_insert) rfl rfl ?_
                exact Or.inr ⟨tn, kn, ht1, ht2, rfl, ht4, hk, rfl, hk3, Or.inr (Or.inr ⟨by omega, by omega, rfl, rfl⟩)⟩
              · skip
                replace e160 : ¬ nI (CL kn) ≤ 3 := e160
                replace e160 : ¬ CL kn ≤ 3 := fun z => e160 ((nI_leI (a := CL kn) (b := 3) (by omega) (by omega)).mpr z)
                refine kx_rn dM_insert 2 169 [(0, .ref m), (1, .int (nI tn)), (2, .int (nI kn)), (3, .int a), (4, .int b), (5, .int c), (6, .int e), (7, .int (nI (RW kn)))] [.int e, .int (nI ((4 * (RW kn)) + 3)), .ref (m + 17)] rfl ?_
                refine mh_st (k := 17) (i := (4 * (RW kn)) + 3) (A' := va_up (va_up A 2 (va_up (A 2) kn (nI ((RW kn) + 1)))) 17 (va_up (va_up (va_up (va_up (A 17) (4 * (RW kn)) a) ((4 * (RW kn)) + 1) 0) ((4 * (RW kn)) + 2) c) ((4 * (RW kn)) + 3) e)) rfl (kx_tk_dec rfl dM_insert) hm (by show (4 * (RW kn)) + 3 < 96; omega) (va_upup _ _ _ _) ?_
                have hnw : va_up (va_up (va_up (va_up (A 17) (4 * (RW kn)) a) ((4 * (RW kn)) + 1) 0) ((4 * (RW kn)) + 2) c) ((4 * (RW kn)) + 3) e = vNews (A 17) (RW kn) (vNew a b c e (CL kn)) := by
                  funext i
                  simp only [va_up, vNews, vNew]
                  by_cases z3 : i = 4 * RW kn + 3
                  · subst z3; rw [if_pos rfl, if_pos (by omega), show 4 * RW kn + 3 - 4 * RW kn = 3 by omega]; simp only [Nat.reduceEqDiff, if_false]; simp <;> omega
                  · rw [if_neg z3]
                    by_cases z2 : i = 4 * RW kn + 2
                    · subst z2; rw [if_pos rfl, if_pos (by omega), show 4 * RW kn + 2 - 4 * RW kn = 2 by omega]; simp <;> omega
                    · rw [if_neg z2]
                      by_cases z1 : i = 4 * RW kn + 1
                      · subst z1; rw [if_pos rfl, if_pos (by omega), show 4 * RW kn + 1 - 4 * RW kn = 1 by omega]; simp <;> omega
                      · rw [if_neg z1]
                        by_cases z0 : i = 4 * RW kn
                        · subst z0; rw [if_pos rfl, if_pos (by omega), Nat.sub_self]; simp
                        · rw [if_neg z0, if_neg (by omega)]
                refine kx_heq (congrArg (fun z => mH h0 m (va_up S 0 0) (va_up (va_up A 2 (va_up (A 2) kn (nI ((RW kn) + 1)))) 17 z)) hnw) ?_
                refine kx_rn dM_insert 5 176 [(0, .ref m), (1, .int (nI tn)), (2, .int (nI kn)), (3, .int a), (4, .int b), (5, .int c), (6, .int e), (7, .int (nI (RW kn)))] [.int 0, .int (nI (RW kn)), .int (nI kn), .int (nI tn), .ref m] rfl ?_
                refine cM_188 (as := [.int (nI tn), .int (nI kn), .int (nI (RW kn)), .int 0]) (st := []) (mc := 0) (ms := 0) (kc := 0) (ks := 0) rfl (kx_tk_dec rfl dM_insert) (mh_o hm) rfl rfl (Nat.le_of_ble_eq_true rfl) (cM_write (g := false) hst hm ht1 (by omega) hk (by omega) hV hV2) (fun o h' hq => ?_)
                obtain ⟨rfl, rfl⟩ := hq
                show kx_w _ _ _ _ _ _ _ _ _ _ _
                refine kx_rn dM_insert 1 181 [(0, .ref m), (1, .int (nI tn)), (2, .int (nI kn)), (3, .int a), (4, .int b), (5, .int c), (6, .int e), (7, .int (nI (RW kn)))] [.int (nI (RW kn))] rfl ?_
                refine kx_ret (ty := .int) (kx_tk_dec rfl dM_insert) rfl rfl ?_
                exact Or.inr ⟨tn, kn, ht1, ht2, rfl, ht4, hk, rfl, hk3, Or.inr (Or.inr ⟨by omega, by omega, rfl, rfl⟩)⟩
          · skip
            replace e106 : ¬ nI (CL kn) ≤ 1 := e106
            replace e106 : ¬ CL kn ≤ 1 := fun z => e106 ((nI_leI (a := CL kn) (b := 1) (by omega) (by omega)).mpr z)
            refine kx_rn dM_insert 2 115 [(0, .ref m), (1, .int (nI tn)), (2, .int (nI kn)), (3, .int a), (4, .int b), (5, .int c), (6, .int e), (7, .int (nI (RW kn)))] [.int b, .int (nI ((4 * (RW kn)) + 1)), .ref (m + 17)] rfl ?_
            refine mh_st (k := 17) (i := (4 * (RW kn)) + 1) (A' := va_up (va_up A 2 (va_up (A 2) kn (nI ((RW kn) + 1)))) 17 (va_up (va_up (A 17) (4 * (RW kn)) a) ((4 * (RW kn)) + 1) b)) rfl (kx_tk_dec rfl dM_insert) hm (by show (4 * (RW kn)) + 1 < 96; omega) (va_upup _ _ _ _) ?_
            refine kx_rn dM_insert 1 117 [(0, .ref m), (1, .int (nI tn)), (2, .int (nI kn)), (3, .int a), (4, .int b), (5, .int c), (6, .int e), (7, .int (nI (RW kn)))] [.ref m] rfl ?_
            refine pM_63 (v := .ref (m + 17)) rfl (kx_tk_dec rfl dM_insert) (mh_o hm) rfl ?_
            refine kx_rn dM_insert 6 127 [(0, .ref m), (1, .int (nI tn)), (2, .int (nI kn)), (3, .int a), (4, .int b), (5, .int c), (6, .int e), (7, .int (nI (RW kn)))] [.ref m, .int ((4 * (nI (RW kn))) + 2), .ref (m + 17)] rfl ?_
            rw [show (4 * (nI (RW kn))) + 2 = nI ((4 * (RW kn)) + 2) from kn_ad (kn_mu rfl rfl) rfl]
            refine pM_7 (v := .ref (m + 1)) rfl (kx_tk_dec rfl dM_insert) (mh_o hm) rfl ?_
            refine kx_rn dM_insert 1 131 [(0, .ref m), (1, .int (nI tn)), (2, .int (nI kn)), (3, .int a), (4, .int b), (5, .int c), (6, .int e), (7, .int (nI (RW kn)))] [.int (nI kn), .ref (m + 1), .int (nI ((4 * (RW kn)) + 2)), .ref (m + 17)] rfl ?_
            refine mh_ld (k := 1) (x := A 1 kn) (i := kn) rfl rfl (kx_tk_dec rfl dM_insert) hm (by show kn < 3; omega) ?_
            rw [hCL kn]
            refine kx_rn dM_insert 1 133 [(0, .ref m), (1, .int (nI tn)), (2, .int (nI kn)), (3, .int a), (4, .int b), (5, .int c), (6, .int e), (7, .int (nI (RW kn)))] [.int 2, .int (nI (CL kn)), .int (nI ((4 * (RW kn)) + 2)), .ref (m + 17)] rfl ?_
            refine kx_ic (tgt := 141) (kx_tk_dec rfl dM_insert) rfl (fun e133 => ?_) (fun e133 => ?_)
            · skip
              replace e133 : nI (CL kn) ≤ 2 := e133
              replace e133 : CL kn ≤ 2 := (nI_leI (a := CL kn) (b := 2) (by omega) (by omega)).mp e133
              refine kx_rn dM_insert 1 142 [(0, .ref m), (1, .int (nI tn)), (2, .int (nI kn)), (3, .int a), (4, .int b), (5, .int c), (6, .int e), (7, .int (nI (RW kn)))] [.int 0, .int (nI ((4 * (RW kn)) + 2)), .ref (m + 17)] rfl ?_
              refine mh_st (k := 17) (i := (4 * (RW kn)) + 2) (A' := va_up (va_up A 2 (va_up (A 2) kn (nI ((RW kn) + 1)))) 17 (va_up (va_up (va_up (A 17) (4 * (RW kn)) a) ((4 * (RW kn)) + 1) b) ((4 * (RW kn)) + 2) 0)) rfl (kx_tk_dec rfl dM_insert) hm (by show (4 * (RW kn)) + 2 < 96; omega) (va_upup _ _ _ _) ?_
              refine kx_rn dM_insert 1 144 [(0, .ref m), (1, .int (nI tn)), (2, .int (nI kn)), (3, .int a), (4, .int b), (5, .int c), (6, .int e), (7, .int (nI (RW kn)))] [.ref m] rfl ?_
              refine pM_63 (v := .ref (m + 17)) rfl (kx_tk_dec rfl dM_insert) (mh_o hm) rfl ?_
              refine kx_rn dM_insert 6 154 [(0, .ref m), (1, .int (nI tn)), (2, .int (nI kn)), (3, .int a), (4, .int b), (5, .int c), (6, .int e), (7, .int (nI (RW kn)))] [.ref m, .int ((4 * (nI (RW kn))) + 3), .ref (m + 17)] rfl ?_
              rw [show (4 * (nI (RW kn))) + 3 = nI ((4 * (RW kn)) + 3) from kn_ad (kn_mu rfl rfl) rfl]
              refine pM_7 (v := .ref (m + 1)) rfl (kx_tk_dec rfl dM_insert) (mh_o hm) rfl ?_
              refine kx_rn dM_insert 1 158 [(0, .ref m), (1, .int (nI tn)), (2, .int (nI kn)), (3, .int a), (4, .int b), (5, .int c), (6, .int e), (7, .int (nI (RW kn)))] [.int (nI kn), .ref (m + 1), .int (nI ((4 * (RW kn)) + 3)), .ref (m + 17)] rfl ?_
              refine mh_ld (k := 1) (x := A 1 kn) (i := kn) rfl rfl (kx_tk_dec rfl dM_insert) hm (by show kn < 3; omega) ?_
              rw [hCL kn]
              refine kx_rn dM_insert 1 160 [(0, .ref m), (1, .int (nI tn)), (2, .int (nI kn)), (3, .int a), (4, .int b), (5, .int c), (6, .int e), (7, .int (nI (RW kn)))] [.int 3, .int (nI (CL kn)), .int (nI ((4 * (RW kn)) + 3)), .ref (m + 17)] rfl ?_
              refine kx_ic (tgt := 168) (kx_tk_dec rfl dM_insert) rfl (fun e160 => ?_) (fun e160 => ?_)
              · skip
                replace e160 : nI (CL kn) ≤ 3 := e160
                replace e160 : CL kn ≤ 3 := (nI_leI (a := CL kn) (b := 3) (by omega) (by omega)).mp e160
                refine kx_rn dM_insert 1 169 [(0, .ref m), (1, .int (nI tn)), (2, .int (nI kn)), (3, .int a), (4, .int b), (5, .int c), (6, .int e), (7, .int (nI (RW kn)))] [.int 0, .int (nI ((4 * (RW kn)) + 3)), .ref (m + 17)] rfl ?_
                refine mh_st (k := 17) (i := (4 * (RW kn)) + 3) (A' := va_up (va_up A 2 (va_up (A 2) kn (nI ((RW kn) + 1)))) 17 (va_up (va_up (va_up (va_up (A 17) (4 * (RW kn)) a) ((4 * (RW kn)) + 1) b) ((4 * (RW kn)) + 2) 0) ((4 * (RW kn)) + 3) 0)) rfl (kx_tk_dec rfl dM_insert) hm (by show (4 * (RW kn)) + 3 < 96; omega) (va_upup _ _ _ _) ?_
                have hnw : va_up (va_up (va_up (va_up (A 17) (4 * (RW kn)) a) ((4 * (RW kn)) + 1) b) ((4 * (RW kn)) + 2) 0) ((4 * (RW kn)) + 3) 0 = vNews (A 17) (RW kn) (vNew a b c e (CL kn)) := by
                  funext i
                  simp only [va_up, vNews, vNew]
                  by_cases z3 : i = 4 * RW kn + 3
                  · subst z3; rw [if_pos rfl, if_pos (by omega), show 4 * RW kn + 3 - 4 * RW kn = 3 by omega]; simp only [Nat.reduceEqDiff, if_false]; simp <;> omega
                  · rw [if_neg z3]
                    by_cases z2 : i = 4 * RW kn + 2
                    · subst z2; rw [if_pos rfl, if_pos (by omega), show 4 * RW kn + 2 - 4 * RW kn = 2 by omega]; simp <;> omega
                    · rw [if_neg z2]
                      by_cases z1 : i = 4 * RW kn + 1
                      · subst z1; rw [if_pos rfl, if_pos (by omega), show 4 * RW kn + 1 - 4 * RW kn = 1 by omega]; simp <;> omega
                      · rw [if_neg z1]
                        by_cases z0 : i = 4 * RW kn
                        · subst z0; rw [if_pos rfl, if_pos (by omega), Nat.sub_self]; simp
                        · rw [if_neg z0, if_neg (by omega)]
                refine kx_heq (congrArg (fun z => mH h0 m (va_up S 0 0) (va_up (va_up A 2 (va_up (A 2) kn (nI ((RW kn) + 1)))) 17 z)) hnw) ?_
                refine kx_rn dM_insert 5 176 [(0, .ref m), (1, .int (nI tn)), (2, .int (nI kn)), (3, .int a), (4, .int b), (5, .int c), (6, .int e), (7, .int (nI (RW kn)))] [.int 0, .int (nI (RW kn)), .int (nI kn), .int (nI tn), .ref m] rfl ?_
                refine cM_188 (as := [.int (nI tn), .int (nI kn), .int (nI (RW kn)), .int 0]) (st := []) (mc := 0) (ms := 0) (kc := 0) (ks := 0) rfl (kx_tk_dec rfl dM_insert) (mh_o hm) rfl rfl (Nat.le_of_ble_eq_true rfl) (cM_write (g := false) hst hm ht1 (by omega) hk (by omega) hV hV2) (fun o h' hq => ?_)
                obtain ⟨rfl, rfl⟩ := hq
                show kx_w _ _ _ _ _ _ _ _ _ _ _
                refine kx_rn dM_insert 1 181 [(0, .ref m), (1, .int (nI tn)), (2, .int (nI kn)), (3, .int a), (4, .int b), (5, .int c), (6, .int e), (7, .int (nI (RW kn)))] [.int (nI (RW kn))] rfl ?_
                refine kx_ret (ty := .int) (kx_tk_dec rfl dM_insert) rfl rfl ?_
                exact Or.inr ⟨tn, kn, ht1, ht2, rfl, ht4, hk, rfl, hk3, Or.inr (Or.inr ⟨by omega, by omega, rfl, rfl⟩)⟩
              · skip
                replace e160 : ¬ nI (CL kn) ≤ 3 := e160
                replace e160 : ¬ CL kn ≤ 3 := fun z => e160 ((nI_leI (a := CL kn) (b := 3) (by omega) (by omega)).mpr z)
                refine kx_rn dM_insert 2 169 [(0, .ref m), (1, .int (nI tn)), (2, .int (nI kn)), (3, .int a), (4, .int b), (5, .int c), (6, .int e), (7, .int (nI (RW kn)))] [.int e, .int (nI ((4 * (RW kn)) + 3)), .ref (m + 17)] rfl ?_
                refine mh_st (k := 17) (i := (4 * (RW kn)) + 3) (A' := va_up (va_up A 2 (va_up (A 2) kn (nI ((RW kn) + 1)))) 17 (va_up (va_up (va_up (va_up (A 17) (4 * (RW kn)) a) ((4 * (RW kn)) + 1) b) ((4 * (RW kn)) + 2) 0) ((4 * (RW kn)) + 3) e)) rfl (kx_tk_dec rfl dM_insert) hm (by show (4 * (RW kn)) + 3 < 96; omega) (va_upup _ _ _ _) ?_
                have hnw : va_up (va_up (va_up (va_up (A 17) (4 * (RW kn)) a) ((4 * (RW kn)) + 1) b) ((4 * (RW kn)) + 2) 0) ((4 * (RW kn)) + 3) e = vNews (A 17) (RW kn) (vNew a b c e (CL kn)) := by
                  funext i
                  simp only [va_up, vNews, vNew]
                  by_cases z3 : i = 4 * RW kn + 3
                  · subst z3; rw [if_pos rfl, if_pos (by omega), show 4 * RW kn + 3 - 4 * RW kn = 3 by omega]; simp only [Nat.reduceEqDiff, if_false]; simp <;> omega
                  · rw [if_neg z3]
                    by_cases z2 : i = 4 * RW kn + 2
                    · subst z2; rw [if_pos rfl, if_pos (by omega), show 4 * RW kn + 2 - 4 * RW kn = 2 by omega]; simp <;> omega
                    · rw [if_neg z2]
                      by_cases z1 : i = 4 * RW kn + 1
                      · subst z1; rw [if_pos rfl, if_pos (by omega), show 4 * RW kn + 1 - 4 * RW kn = 1 by omega]; simp <;> omega
                      · rw [if_neg z1]
                        by_cases z0 : i = 4 * RW kn
                        · subst z0; rw [if_pos rfl, if_pos (by omega), Nat.sub_self]; simp
                        · rw [if_neg z0, if_neg (by omega)]
                refine kx_heq (congrArg (fun z => mH h0 m (va_up S 0 0) (va_up (va_up A 2 (va_up (A 2) kn (nI ((RW kn) + 1)))) 17 z)) hnw) ?_
                refine kx_rn dM_insert 5 176 [(0, .ref m), (1, .int (nI tn)), (2, .int (nI kn)), (3, .int a), (4, .int b), (5, .int c), (6, .int e), (7, .int (nI (RW kn)))] [.int 0, .int (nI (RW kn)), .int (nI kn), .int (nI tn), .ref m] rfl ?_
                refine cM_188 (as := [.int (nI tn), .int (nI kn), .int (nI (RW kn)), .int 0]) (st := []) (mc := 0) (ms := 0) (kc := 0) (ks := 0) rfl (kx_tk_dec rfl dM_insert) (mh_o hm) rfl rfl (Nat.le_of_ble_eq_true rfl) (cM_write (g := false) hst hm ht1 (by omega) hk (by omega) hV hV2) (fun o h' hq => ?_)
                obtain ⟨rfl, rfl⟩ := hq
                show kx_w _ _ _ _ _ _ _ _ _ _ _
                refine kx_rn dM_insert 1 181 [(0, .ref m), (1, .int (nI tn)), (2, .int (nI kn)), (3, .int a), (4, .int b), (5, .int c), (6, .int e), (7, .int (nI (RW kn)))] [.int (nI (RW kn))] rfl ?_
                refine kx_ret (ty := .int) (kx_tk_dec rfl dM_insert) rfl rfl ?_
                exact Or.inr ⟨tn, kn, ht1, ht2, rfl, ht4, hk, rfl, hk3, Or.inr (Or.inr ⟨by omega, by omega, rfl, rfl⟩)⟩
            · skip
              replace e133 : ¬ nI (CL kn) ≤ 2 := e133
              replace e133 : ¬ CL kn ≤ 2 := fun z => e133 ((nI_leI (a := CL kn) (b := 2) (by omega) (by omega)).mpr z)
              refine kx_rn dM_insert 2 142 [(0, .ref m), (1, .int (nI tn)), (2, .int (nI kn)), (3, .int a), (4, .int b), (5, .int c), (6, .int e), (7, .int (nI (RW kn)))] [.int c, .int (nI ((4 * (RW kn)) + 2)), .ref (m + 17)] rfl ?_
              refine mh_st (k := 17) (i := (4 * (RW kn)) + 2) (A' := va_up (va_up A 2 (va_up (A 2) kn (nI ((RW kn) + 1)))) 17 (va_up (va_up (va_up (A 17) (4 * (RW kn)) a) ((4 * (RW kn)) + 1) b) ((4 * (RW kn)) + 2) c)) rfl (kx_tk_dec rfl dM_insert) hm (by show (4 * (RW kn)) + 2 < 96; omega) (va_upup _ _ _ _) ?_
              refine kx_rn dM_insert 1 144 [(0, .ref m), (1, .int (nI tn)), (2, .int (nI kn)), (3, .int a), (4, .int b), (5, .int c), (6, .int e), (7, .int (nI (RW kn)))] [.ref m] rfl ?_
              refine pM_63 (v := .ref (m + 17)) rfl (kx_tk_dec rfl dM_insert) (mh_o hm) rfl ?_
              refine kx_rn dM_insert 6 154 [(0, .ref m), (1, .int (nI tn)), (2, .int (nI kn)), (3, .int a), (4, .int b), (5, .int c), (6, .int e), (7, .int (nI (RW kn)))] [.ref m, .int ((4 * (nI (RW kn))) + 3), .ref (m + 17)] rfl ?_
              rw [show (4 * (nI (RW kn))) + 3 = nI ((4 * (RW kn)) + 3) from kn_ad (kn_mu rfl rfl) rfl]
              refine pM_7 (v := .ref (m + 1)) rfl (kx_tk_dec rfl dM_insert) (mh_o hm) rfl ?_
              refine kx_rn dM_insert 1 158 [(0, .ref m), (1, .int (nI tn)), (2, .int (nI kn)), (3, .int a), (4, .int b), (5, .int c), (6, .int e), (7, .int (nI (RW kn)))] [.int (nI kn), .ref (m + 1), .int (nI ((4 * (RW kn)) + 3)), .ref (m + 17)] rfl ?_
              refine mh_ld (k := 1) (x := A 1 kn) (i := kn) rfl rfl (kx_tk_dec rfl dM_insert) hm (by show kn < 3; omega) ?_
              rw [hCL kn]
              refine kx_rn dM_insert 1 160 [(0, .ref m), (1, .int (nI tn)), (2, .int (nI kn)), (3, .int a), (4, .int b), (5, .int c), (6, .int e), (7, .int (nI (RW kn)))] [.int 3, .int (nI (CL kn)), .int (nI ((4 * (RW kn)) + 3)), .ref (m + 17)] rfl ?_
              refine kx_ic (tgt := 168) (kx_tk_dec rfl dM_insert) rfl (fun e160 => ?_) (fun e160 => ?_)
              · skip
                replace e160 : nI (CL kn) ≤ 3 := e160
                replace e160 : CL kn ≤ 3 := (nI_leI (a := CL kn) (b := 3) (by omega) (by omega)).mp e160
                refine kx_rn dM_insert 1 169 [(0, .ref m), (1, .int (nI tn)), (2, .int (nI kn)), (3, .int a), (4, .int b), (5, .int c), (6, .int e), (7, .int (nI (RW kn)))] [.int 0, .int (nI ((4 * (RW kn)) + 3)), .ref (m + 17)] rfl ?_
                refine mh_st (k := 17) (i := (4 * (RW kn)) + 3) (A' := va_up (va_up A 2 (va_up (A 2) kn (nI ((RW kn) + 1)))) 17 (va_up (va_up (va_up (va_up (A 17) (4 * (RW kn)) a) ((4 * (RW kn)) + 1) b) ((4 * (RW kn)) + 2) c) ((4 * (RW kn)) + 3) 0)) rfl (kx_tk_dec rfl dM_insert) hm (by show (4 * (RW kn)) + 3 < 96; omega) (va_upup _ _ _ _) ?_
                have hnw : va_up (va_up (va_up (va_up (A 17) (4 * (RW kn)) a) ((4 * (RW kn)) + 1) b) ((4 * (RW kn)) + 2) c) ((4 * (RW kn)) + 3) 0 = vNews (A 17) (RW kn) (vNew a b c e (CL kn)) := by
                  funext i
                  simp only [va_up, vNews, vNew]
                  by_cases z3 : i = 4 * RW kn + 3
                  · subst z3; rw [if_pos rfl, if_pos (by omega), show 4 * RW kn + 3 - 4 * RW kn = 3 by omega]; simp only [Nat.reduceEqDiff, if_false]; simp <;> omega
                  · rw [if_neg z3]
                    by_cases z2 : i = 4 * RW kn + 2
                    · subst z2; rw [if_pos rfl, if_pos (by omega), show 4 * RW kn + 2 - 4 * RW kn = 2 by omega]; simp <;> omega
                    · rw [if_neg z2]
                      by_cases z1 : i = 4 * RW kn + 1
                      · subst z1; rw [if_pos rfl, if_pos (by omega), show 4 * RW kn + 1 - 4 * RW kn = 1 by omega]; simp <;> omega
                      · rw [if_neg z1]
                        by_cases z0 : i = 4 * RW kn
                        · subst z0; rw [if_pos rfl, if_pos (by omega), Nat.sub_self]; simp
                        · rw [if_neg z0, if_neg (by omega)]
                refine kx_heq (congrArg (fun z => mH h0 m (va_up S 0 0) (va_up (va_up A 2 (va_up (A 2) kn (nI ((RW kn) + 1)))) 17 z)) hnw) ?_
                refine kx_rn dM_insert 5 176 [(0, .ref m), (1, .int (nI tn)), (2, .int (nI kn)), (3, .int a), (4, .int b), (5, .int c), (6, .int e), (7, .int (nI (RW kn)))] [.int 0, .int (nI (RW kn)), .int (nI kn), .int (nI tn), .ref m] rfl ?_
                refine cM_188 (as := [.int (nI tn), .int (nI kn), .int (nI (RW kn)), .int 0]) (st := []) (mc := 0) (ms := 0) (kc := 0) (ks := 0) rfl (kx_tk_dec rfl dM_insert) (mh_o hm) rfl rfl (Nat.le_of_ble_eq_true rfl) (cM_write (g := false) hst hm ht1 (by omega) hk (by omega) hV hV2) (fun o h' hq => ?_)
                obtain ⟨rfl, rfl⟩ := hq
                show kx_w _ _ _ _ _ _ _ _ _ _ _
                refine kx_rn dM_insert 1 181 [(0, .ref m), (1, .int (nI tn)), (2, .int (nI kn)), (3, .int a), (4, .int b), (5, .int c), (6, .int e), (7, .int (nI (RW kn)))] [.int (nI (RW kn))] rfl ?_
                refine kx_ret (ty := .int) (kx_tk_dec rfl dM_insert) rfl rfl ?_
                exact Or.inr ⟨tn, kn, ht1, ht2, rfl, ht4, hk, rfl, hk3, Or.inr (Or.inr ⟨by omega, by omega, rfl, rfl⟩)⟩
              · skip
                replace e160 : ¬ nI (CL kn) ≤ 3 := e160
                replace e160 : ¬ CL kn ≤ 3 := fun z => e160 ((nI_leI (a := CL kn) (b := 3) (by omega) (by omega)).mpr z)
                refine kx_rn dM_insert 2 169 [(0, .ref m), (1, .int (nI tn)), (2, .int (nI kn)), (3, .int a), (4, .int b), (5, .int c), (6, .int e), (7, .int (nI (RW kn)))] [.int e, .int (nI ((4 * (RW kn)) + 3)), .ref (m + 17)] rfl ?_
                refine mh_st (k := 17) (i := (4 * (RW kn)) + 3) (A' := va_up (va_up A 2 (va_up (A 2) kn (nI ((RW kn) + 1)))) 17 (va_up (va_up (va_up (va_up (A 17) (4 * (RW kn)) a) ((4 * (RW kn)) + 1) b) ((4 * (RW kn)) + 2) c) ((4 * (RW kn)) + 3) e)) rfl (kx_tk_dec rfl dM_insert) hm (by show (4 * (RW kn)) + 3 < 96; omega) (va_upup _ _ _ _) ?_
                have hnw : va_up (va_up (va_up (va_up (A 17) (4 * (RW kn)) a) ((4 * (RW kn)) + 1) b) ((4 * (RW kn)) + 2) c) ((4 * (RW kn)) + 3) e = vNews (A 17) (RW kn) (vNew a b c e (CL kn)) := by
                  funext i
                  simp only [va_up, vNews, vNew]
                  by_cases z3 : i = 4 * RW kn + 3
                  · subst z3; rw [if_pos rfl, if_pos (by omega), show 4 * RW kn + 3 - 4 * RW kn = 3 by omega]; simp only [Nat.reduceEqDiff, if_false]; simp <;> omega
                  · rw [if_neg z3]
                    by_cases z2 : i = 4 * RW kn + 2
                    · subst z2; rw [if_pos rfl, if_pos (by omega), show 4 * RW kn + 2 - 4 * RW kn = 2 by omega]; simp <;> omega
                    · rw [if_neg z2]
                      by_cases z1 : i = 4 * RW kn + 1
                      · subst z1; rw [if_pos rfl, if_pos (by omega), show 4 * RW kn + 1 - 4 * RW kn = 1 by omega]; simp <;> omega
                      · rw [if_neg z1]
                        by_cases z0 : i = 4 * RW kn
                        · subst z0; rw [if_pos rfl, if_pos (by omega), Nat.sub_self]; simp
                        · rw [if_neg z0, if_neg (by omega)]
                refine kx_heq (congrArg (fun z => mH h0 m (va_up S 0 0) (va_up (va_up A 2 (va_up (A 2) kn (nI ((RW kn) + 1)))) 17 z)) hnw) ?_
                refine kx_rn dM_insert 5 176 [(0, .ref m), (1, .int (nI tn)), (2, .int (nI kn)), (3, .int a), (4, .int b), (5, .int c), (6, .int e), (7, .int (nI (RW kn)))] [.int 0, .int (nI (RW kn)), .int (nI kn), .int (nI tn), .ref m] rfl ?_
                refine cM_188 (as := [.int (nI tn), .int (nI kn), .int (nI (RW kn)), .int 0]) (st := []) (mc := 0) (ms := 0) (kc := 0) (ks := 0) rfl (kx_tk_dec rfl dM_insert) (mh_o hm) rfl rfl (Nat.le_of_ble_eq_true rfl) (cM_write (g := false) hst hm ht1 (by omega) hk (by omega) hV hV2) (fun o h' hq => ?_)
                obtain ⟨rfl, rfl⟩ := hq
                show kx_w _ _ _ _ _ _ _ _ _ _ _
                refine kx_rn dM_insert 1 181 [(0, .ref m), (1, .int (nI tn)), (2, .int (nI kn)), (3, .int a), (4, .int b), (5, .int c), (6, .int e), (7, .int (nI (RW kn)))] [.int (nI (RW kn))] rfl ?_
                refine kx_ret (ty := .int) (kx_tk_dec rfl dM_insert) rfl rfl ?_
                exact Or.inr ⟨tn, kn, ht1, ht2, rfl, ht4, hk, rfl, hk3, Or.inr (Or.inr ⟨by omega, by omega, rfl, rfl⟩)⟩
        · skip
          replace e51 : ¬ nI (SC kn) ≤ nI tn := e51
          replace e51 : ¬ SC kn ≤ tn := fun z => e51 ((nI_leI (a := SC kn) (b := tn) (by omega) (by omega)).mpr z)
          refine kx_rn dM_insert 3 57 [(0, .ref m), (1, .int (nI tn)), (2, .int (nI kn)), (3, .int a), (4, .int b), (5, .int c), (6, .int e)] [.int 3, .int (nI tn), .ref m] rfl ?_
          refine cM_185 (as := [.int (nI tn), .int 3]) (st := []) (mc := 0) (ms := 0) (kc := 0) (ks := 0) rfl (kx_tk_dec rfl dM_insert) (mh_o hm) rfl rfl (Nat.le_of_ble_eq_true rfl) (cM_broken hst hm (S := va_up S 0 0) ht1 (by omega) hV hV2) (fun o h' hq => ?_)
          obtain ⟨rfl, rfl⟩ := hq
          show kx_w _ _ _ _ _ _ _ _ _ _ _
          refine kx_heq (congrArg (fun z => mH h0 m z (va_up (va_up A 6 (va_up (A 6) tn 3)) 4 (fun v => nI (vBrk V tn v)))) (show va_up (va_up (va_up S 0 0) 8 (S 8 + 1)) 0 3 = va_up (va_up S 8 (S 8 + 1)) 0 3 from funext fun z => by simp only [va_up]; split <;> (try split) <;> rfl)) ?_
          refine kx_ret (ty := .int) (kx_tk_dec rfl dM_insert) rfl rfl ?_
          exact Or.inr ⟨tn, kn, ht1, ht2, rfl, ht4, hk, rfl, hk3, Or.inr (Or.inl ⟨by omega, by omega, rfl, rfl⟩)⟩
      · skip
        replace e35 : nI (RW kn) = 24 := e35
        replace e35 : RW kn = 24 := (nI_eq (a := RW kn) (b := 24) (by omega) (by omega)).mp e35
        refine kx_rn dM_insert 2 40 [(0, .ref m), (1, .int (nI tn)), (2, .int (nI kn)), (3, .int a), (4, .int b), (5, .int c), (6, .int e)] [.int 2, .ref m] rfl ?_
        refine cM_79 (as := [.int 2]) (st := []) (mc := 0) (ms := 0) (kc := 0) (ks := 0) rfl (kx_tk_dec rfl dM_insert) (mh_o hm) rfl rfl (Nat.le_of_ble_eq_true rfl) (cM_fail hst hm) (fun o h' hq => ?_)
        obtain ⟨rfl, rfl⟩ := hq
        show kx_w _ _ _ _ _ _ _ _ _ _ _
        rw [va_upup]
        refine kx_ret (ty := .int) (kx_tk_dec rfl dM_insert) rfl rfl ?_
        exact Or.inr ⟨tn, kn, ht1, ht2, rfl, ht4, hk, rfl, hk3, Or.inl ⟨e35, rfl, rfl⟩⟩
    · skip
      replace e18 : ¬ b01 bt = 0 := e18
      replace e18 : bt = true := b01_t e18
      refine kx_rn dM_insert 2 23 [(0, .ref m), (1, .int (nI tn)), (2, .int k), (3, .int a), (4, .int b), (5, .int c), (6, .int e)] [.int 1, .ref m] rfl ?_
      refine cM_79 (as := [.int 1]) (st := []) (mc := 0) (ms := 0) (kc := 0) (ks := 0) rfl (kx_tk_dec rfl dM_insert) (mh_o hm) rfl rfl (Nat.le_of_ble_eq_true rfl) (cM_fail hst hm) (fun o h' hq => ?_)
      obtain ⟨rfl, rfl⟩ := hq
      show kx_w _ _ _ _ _ _ _ _ _ _ _
      rw [va_upup]
      refine kx_ret (ty := .int) (kx_tk_dec rfl dM_insert) rfl rfl ?_
      exact Or.inl ⟨fun z => (hbt.mp e18) z.2, rfl, rfl⟩
end KM5
end
section
/-! ===== the reference: vacuum, count ===== -/
section KM6
variable {G : kx_G} {l : Launch} {d : Nat} {h0 : kx_H} {m : Nat} {S : Nat → Int32} {A : Nat → Nat → Int32}
def nsum (f : Nat → Nat) : Nat → Nat
  | 0 => 0
  | n + 1 => nsum f n + f n
theorem nsum_le {f : Nat → Nat} {b : Nat} (h : ∀ i, f i ≤ b) : ∀ n, nsum f n ≤ n * b
  | 0 => by simp [nsum]
  | n + 1 => by
    have h1 := nsum_le h n
    have h2 := h n
    simp only [nsum]
    rw [Nat.succ_mul]
    omega
theorem nsum_congr {f g : Nat → Nat} : ∀ {n : Nat}, (∀ i, i < n → f i = g i) → nsum f n = nsum g n
  | 0, _ => rfl
  | n + 1, h => by
    simp only [nsum]
    rw [nsum_congr (n := n) (fun i hi => h i (by omega)), h n (by omega)]
theorem hw_ge {f : Nat → Bool} : ∀ {n w : Nat}, 1 ≤ w → w ≤ n → f w = true → w ≤ hw f n
  | 0, w, h1, h2, _ => by omega
  | n + 1, w, h1, h2, h3 => by
    simp only [hw]
    by_cases e : f (n + 1) = true
    · rw [if_pos e]; exact h2
    · rw [if_neg e]
      refine hw_ge h1 ?_ h3
      rcases Nat.lt_or_ge w (n + 1) with z | z
      · omega
      · have : w = n + 1 := by omega
        rw [this] at h3
        exact absurd h3 e
theorem cnt_succ (p : Nat → Bool) (n : Nat) : cnt p (n + 1) = cnt p n + (if p n = true then 1 else 0) := rfl
/-- the least open transaction, or bg + 1 -/
def mLeast (A : Nat → Nat → Int32) (bg ls : Nat) : Prop := 1 ≤ ls ∧ ls ≤ bg + 1 ∧ (∀ t, 1 ≤ t → t < ls → ¬ A 6 t = 1) ∧ (ls ≤ bg → A 6 ls = 1)
/-- the newest version of row q that all see -/
def vKp (A6 : Nat → Int32) (V : Nat → Nat) (ls q : Nat) : Nat := hw (fun w => decide (¬ V (40 * q + w - 1) = 0 ∧ A6 w = 2)) (min ls 40)
def vOut (A6 : Nat → Int32) (V : Nat → Nat) (ls q i : Nat) : Bool := decide (i + 1 < vKp A6 V ls q ∧ ¬ V (40 * q + i) = 0 ∧ A6 (i + 1) = 2)
def vVac (A6 : Nat → Int32) (V : Nat → Nat) (ls q i : Nat) : Nat := if vOut A6 V ls q i = true then 0 else V (40 * q + i)
theorem vKp_step {A6 : Nat → Int32} {V : Nat → Nat} {ls q n : Nat} (hn : n < 40) (h : ¬ (¬ V (40 * q + n) = 0 ∧ A6 (n + 1) = 2 ∧ n + 1 ≤ ls)) : decide (n < vKp A6 V ls q) = decide (n + 1 < vKp A6 V ls q) := by
  have key : ¬ vKp A6 V ls q = n + 1 := by
    intro e
    have h1 := hw_at (f := fun w => decide (¬ V (40 * q + w - 1) = 0 ∧ A6 w = 2)) (n := min ls 40) (by unfold vKp at e; omega)
    have h2 := hw_le (fun w => decide (¬ V (40 * q + w - 1) = 0 ∧ A6 w = 2)) (min ls 40)
    unfold vKp at e
    rw [e] at h1 h2
    rw [decide_eq_true_eq, show 40 * q + (n + 1) - 1 = 40 * q + n by omega] at h1
    exact h ⟨h1.1, h1.2, by omega⟩
  rw [decide_eq_decide]
  omega
theorem vKp_yes {A6 : Nat → Int32} {V : Nat → Nat} {ls q n : Nat} (hn : n < 40) (h1 : ¬ V (40 * q + n) = 0) (h2 : A6 (n + 1) = 2) (h3 : n + 1 ≤ ls) : n < vKp A6 V ls q := by
  have := hw_ge (f := fun w => decide (¬ V (40 * q + w - 1) = 0 ∧ A6 w = 2)) (n := min ls 40) (w := n + 1) (by omega) (by omega) (by rw [decide_eq_true_eq, show 40 * q + (n + 1) - 1 = 40 * q + n by omega]; exact ⟨h1, h2⟩)
  unfold vKp
  omega
theorem cM_vacuum (hst : l.stackTraces = false) (hm : mOk G h0 m) {bg : Nat} (hb : S 7 = nI bg) (hbg : bg ≤ 40) {V : Nat → Nat} (hV : ∀ v, A 4 v = nI (V v)) (hV2 : ∀ v, V v < 256) :
    kx_c G l mM_vacuum d 0 0 [.ref m] (mH h0 m S A) (fun o h' => ∃ ls, mLeast A bg ls ∧ o = .returned (some (.int (nI (nsum (fun q => cnt (vOut (A 6) V ls q) 40) 72)))) ∧ ∃ (F : Nat → Int32) (U : Nat → Nat), h' = mH h0 m (va_up S 0 0) (va_up A 4 F) ∧ (∀ v, F v = nI (U v)) ∧ (∀ v, U v < 256) ∧ ∀ q i, q < 72 → i < 40 → U (40 * q + i) = vVac (A 6) V ls q i) := by
  refine kx_in (by decide +kernel) (Nat.le_of_ble_eq_true rfl) hst ?_
  have vac : ∀ ls, mLeast A bg ls → kx_w G l mM_vacuum d (fun o h' => ∃ ls, mLeast A bg ls ∧ o = .returned (some (.int (nI (nsum (fun q => cnt (vOut (A 6) V ls q) 40) 72)))) ∧ ∃ (F : Nat → Int32) (U : Nat → Nat), h' = mH h0 m (va_up S 0 0) (va_up A 4 F) ∧ (∀ v, F v = nI (U v)) ∧ (∀ v, U v < 256) ∧ ∀ q i, q < 72 → i < 40 → U (40 * q + i) = vVac (A 6) V ls q i) 0 0 35 [(0, .ref m), (1, .int (nI ls)), (2, .int 0), (3, .int 0)] [] (mH h0 m (va_up S 0 0) A) := by
    intro ls hls
    have hls2 := hls.2.1
    have outer : ∀ n (q c0 : Nat) (F : Nat → Int32) (U : Nat → Nat), q + n = 72 → c0 = nsum (fun q => cnt (vOut (A 6) V ls q) 40) q → (∀ v, F v = nI (U v)) → (∀ v, U v < 256) → (∀ p i, i < 40 → U (40 * p + i) = if p < q then vVac (A 6) V ls p i else V (40 * p + i)) → kx_w G l mM_vacuum d (fun o h' => ∃ ls, mLeast A bg ls ∧ o = .returned (some (.int (nI (nsum (fun q => cnt (vOut (A 6) V ls q) 40) 72)))) ∧ ∃ (F : Nat → Int32) (U : Nat → Nat), h' = mH h0 m (va_up S 0 0) (va_up A 4 F) ∧ (∀ v, F v = nI (U v)) ∧ (∀ v, U v < 256) ∧ ∀ q i, q < 72 → i < 40 → U (40 * q + i) = vVac (A 6) V ls q i) 0 0 35 [(0, .ref m), (1, .int (nI ls)), (2, .int (nI c0)), (3, .int (nI (40 * q)))] [] (mH h0 m (va_up S 0 0) (va_up A 4 F)) := by
      intro n
      induction n with
      | zero =>
        intro q c0 F U hq hc0 hF hU2 hU
        refine kx_rn dM_vacuum 2 39 [(0, .ref m), (1, .int (nI ls)), (2, .int (nI c0)), (3, .int (nI (40 * q)))] [.int 2880, .int (nI (40 * q))] rfl ?_
        refine kx_ic (tgt := 123) (kx_tk_dec rfl dM_vacuum) rfl (fun e39 => ?_) (fun e39 => ?_)
        · skip
          replace e39 : 2880 ≤ nI (40 * q) := e39
          replace e39 : 2880 ≤ 40 * q := (nI_leI (a := 2880) (b := 40 * q) (by omega) (by omega)).mp e39
          refine kx_rn dM_vacuum 1 124 [(0, .ref m), (1, .int (nI ls)), (2, .int (nI c0)), (3, .int (nI (40 * q)))] [.int (nI c0)] rfl ?_
          refine kx_ret (ty := .int) (kx_tk_dec rfl dM_vacuum) rfl rfl ?_
          exact ⟨ls, hls, by rw [hc0, show q = 72 by omega], F, U, rfl, hF, hU2, fun p i hp hi => by rw [hU p i hi, if_pos (by omega)]⟩
        · skip
          replace e39 : ¬ 2880 ≤ nI (40 * q) := e39
          replace e39 : ¬ 2880 ≤ 40 * q := fun z => e39 ((nI_leI (a := 2880) (b := 40 * q) (by omega) (by omega)).mpr z)
          exfalso; omega
      | succ n ih =>
        intro q c0 F U hq hc0 hF hU2 hU
        have hc0l := nsum_le (f := fun q => cnt (vOut (A 6) V ls q) 40) (b := 40) (fun q => cnt_le _ 40) q
        have inner : ∀ n (c : Nat) (lt : Bool) (F : Nat → Int32) (U : Nat → Nat), n ≤ 40 → c + cnt (vOut (A 6) V ls q) n = c0 + cnt (vOut (A 6) V ls q) 40 → lt = decide (n < vKp (A 6) V ls q) → (∀ v, F v = nI (U v)) → (∀ v, U v < 256) → (∀ p i, i < 40 → U (40 * p + i) = if p < q ∨ (p = q ∧ n ≤ i) then vVac (A 6) V ls p i else V (40 * p + i)) → kx_w G l mM_vacuum d (fun o h' => ∃ ls, mLeast A bg ls ∧ o = .returned (some (.int (nI (nsum (fun q => cnt (vOut (A 6) V ls q) 40) 72)))) ∧ ∃ (F : Nat → Int32) (U : Nat → Nat), h' = mH h0 m (va_up S 0 0) (va_up A 4 F) ∧ (∀ v, F v = nI (U v)) ∧ (∀ v, U v < 256) ∧ ∀ q i, q < 72 → i < 40 → U (40 * q + i) = vVac (A 6) V ls q i) 0 0 49 [(0, .ref m), (1, .int (nI ls)), (2, .int (nI c)), (3, .int (nI (40 * q))), (4, .int (b01 lt)), (5, .int (nI n))] [] (mH h0 m (va_up S 0 0) (va_up A 4 F)) := by
          intro n
          induction n with
          | zero =>
            intro c lt F U hw40 hc hlt hF hU2 hU
            refine kx_rn dM_vacuum 1 51 [(0, .ref m), (1, .int (nI ls)), (2, .int (nI c)), (3, .int (nI (40 * q))), (4, .int (b01 lt)), (5, .int 0)] [.int 0] rfl ?_
            refine kx_if (tgt := 117) (kx_tk_dec rfl dM_vacuum) rfl (fun e51 => ?_) (fun e51 => ?_)
            · skip
              replace e51 : (0 : Int32) ≤ 0 := e51
              refine kx_rn dM_vacuum 2 35 [(0, .ref m), (1, .int (nI ls)), (2, .int (nI c)), (3, .int ((nI (40 * q)) + 40)), (4, .int (b01 lt)), (5, .int 0)] [] rfl ?_
              rw [show (nI (40 * q)) + 40 = nI ((40 * q) + 40) from kn_ad rfl rfl]
              refine kx_lsub (lv' := [(0, .ref m), (1, .int (nI ls)), (2, .int (nI c)), (3, .int (nI ((40 * q) + 40)))]) (.cons₂ _ (.cons₂ _ (.cons₂ _ (.cons₂ _ (.cons _ (.cons _ .slnil)))))) ?_
              refine ih (q + 1) c F U (by omega) (by have hc2 : c = c0 + cnt (vOut (A 6) V ls q) 40 := hc; rw [hc2, hc0]; rfl) hF hU2 (fun p i hi => ?_)
              rw [hU p i hi]
              by_cases z : p < q + 1
              · rw [if_pos (by omega), if_pos z]
              · rw [if_neg (by omega), if_neg z]
            · skip
              replace e51 : ¬ (0 : Int32) ≤ 0 := e51
              exact absurd (by decide) e51
          | succ n ihw =>
            intro c lt F U hw40 hc hlt hF hU2 hU
            have hcl := cnt_le (vOut (A 6) V ls q) 40
            refine kx_rn dM_vacuum 1 51 [(0, .ref m), (1, .int (nI ls)), (2, .int (nI c)), (3, .int (nI (40 * q))), (4, .int (b01 lt)), (5, .int (nI (n + 1)))] [.int (nI (n + 1))] rfl ?_
            refine kx_if (tgt := 117) (kx_tk_dec rfl dM_vacuum) rfl (fun e51 => ?_) (fun e51 => ?_)
            · skip
              replace e51 : nI (n + 1) ≤ 0 := e51
              replace e51 : n + 1 ≤ 0 := (nI_leI (a := n + 1) (b := 0) (by omega) (by omega)).mp e51
              exfalso; omega
            · skip
              replace e51 : ¬ nI (n + 1) ≤ 0 := e51
              replace e51 : ¬ n + 1 ≤ 0 := fun z => e51 ((nI_leI (a := n + 1) (b := 0) (by omega) (by omega)).mpr z)
              refine kx_rn dM_vacuum 1 55 [(0, .ref m), (1, .int (nI ls)), (2, .int (nI c)), (3, .int (nI (40 * q))), (4, .int (b01 lt)), (5, .int (nI (n + 1)))] [.ref m] rfl ?_
              refine pM_19 (v := .ref (m + 4)) rfl (kx_tk_dec rfl dM_vacuum) (mh_o hm) rfl ?_
              refine kx_rn dM_vacuum 5 64 [(0, .ref m), (1, .int (nI ls)), (2, .int (nI c)), (3, .int (nI (40 * q))), (4, .int (b01 lt)), (5, .int (nI (n + 1)))] [.int (((nI (40 * q)) + (nI (n + 1))) - 1), .ref (m + 4)] rfl ?_
              rw [show ((nI (40 * q)) + (nI (n + 1))) - 1 = nI (((40 * q) + (n + 1)) - 1) from kn_su (kn_ad rfl rfl) rfl (by omega)]
              rw [show 40 * q + (n + 1) - 1 = 40 * q + n from by omega]
              refine mh_ld (k := 4) (x := F (40 * q + n)) (i := 40 * q + n) rfl rfl (kx_tk_dec rfl dM_vacuum) hm (by show 40 * q + n < 2880; omega) ?_
              rw [hF (40 * q + n)]
              have := hU2 (40 * q + n)
              refine kx_if (tgt := 111) (kx_tk_dec rfl dM_vacuum) rfl (fun e65 => ?_) (fun e65 => ?_)
              · skip
                replace e65 : nI (U (40 * q + n)) = 0 := e65
                replace e65 : U (40 * q + n) = 0 := (nI_eq (a := U (40 * q + n)) (b := 0) (by omega) (by omega)).mp e65
                refine kx_rn dM_vacuum 2 49 [(0, .ref m), (1, .int (nI ls)), (2, .int (nI c)), (3, .int (nI (40 * q))), (4, .int (b01 lt)), (5, .int ((nI (n + 1)) + (-1)))] [] rfl ?_
                rw [show (nI (n + 1)) + (-1) = nI ((n + 1) - 1) from kn_sa rfl rfl (by omega)]
                have hU0 : U (40 * q + n) = V (40 * q + n) := by rw [hU q n (by omega), if_neg (by omega)]
                have hno : vOut (A 6) V ls q n = false := by unfold vOut; rw [decide_eq_false_iff_not]; exact (by rw [hU0] at e65; exact fun z => z.2.1 e65)
                have hlt2 : lt = decide (n < vKp (A 6) V ls q) := hlt.trans (vKp_step (n := n) (by omega) (by rw [hU0] at e65; exact fun z => z.1 e65)).symm
                refine ihw c lt F U (by omega) (by rw [cnt_succ, if_neg (by rw [hno]; decide)] at hc; omega) hlt2 hF ?_ (fun p i hi => ?_)
                · exact hU2
                · rw [hU p i hi]
                  by_cases z : p = q ∧ i = n
                  · obtain ⟨rfl, rfl⟩ := z
                    rw [if_neg (by omega), if_pos (by omega)]
                    unfold vVac
                    rw [if_neg (by rw [hno]; decide)]
                  · by_cases z2 : p < q ∨ (p = q ∧ n + 1 ≤ i)
                    · rw [if_pos z2, if_pos (by omega)]
                    · rw [if_neg z2, if_neg (by omega)]
              · skip
                replace e65 : ¬ nI (U (40 * q + n)) = 0 := e65
                replace e65 : ¬ U (40 * q + n) = 0 := fun z => e65 ((nI_eq (a := U (40 * q + n)) (b := 0) (by omega) (by omega)).mpr z)
                refine kx_rn dM_vacuum 1 69 [(0, .ref m), (1, .int (nI ls)), (2, .int (nI c)), (3, .int (nI (40 * q))), (4, .int (b01 lt)), (5, .int (nI (n + 1)))] [.ref m] rfl ?_
                refine pM_25 (v := .ref (m + 6)) rfl (kx_tk_dec rfl dM_vacuum) (mh_o hm) rfl ?_
                refine kx_rn dM_vacuum 1 74 [(0, .ref m), (1, .int (nI ls)), (2, .int (nI c)), (3, .int (nI (40 * q))), (4, .int (b01 lt)), (5, .int (nI (n + 1)))] [.int (nI (n + 1)), .ref (m + 6)] rfl ?_
                refine mh_ld (k := 6) (x := A 6 (n + 1)) (i := n + 1) rfl rfl (kx_tk_dec rfl dM_vacuum) hm (by show n + 1 < 41; omega) ?_
                refine kx_rn dM_vacuum 1 76 [(0, .ref m), (1, .int (nI ls)), (2, .int (nI c)), (3, .int (nI (40 * q))), (4, .int (b01 lt)), (5, .int (nI (n + 1)))] [.int 2, .int (A 6 (n + 1))] rfl ?_
                refine kx_ic (tgt := 82) (kx_tk_dec rfl dM_vacuum) rfl (fun e76 => ?_) (fun e76 => ?_)
                · skip
                  replace e76 : A 6 (n + 1) = 2 := e76
                  refine kx_rn dM_vacuum 1 84 [(0, .ref m), (1, .int (nI ls)), (2, .int (nI c)), (3, .int (nI (40 * q))), (4, .int (b01 lt)), (5, .int (nI (n + 1)))] [.int (b01 lt)] rfl ?_
                  refine kx_if (tgt := 102) (kx_tk_dec rfl dM_vacuum) rfl (fun e84 => ?_) (fun e84 => ?_)
                  · skip
                    replace e84 : b01 lt = 0 := e84
                    replace e84 : lt = false := b01_f e84
                    refine kx_rn dM_vacuum 2 105 [(0, .ref m), (1, .int (nI ls)), (2, .int (nI c)), (3, .int (nI (40 * q))), (4, .int (b01 lt)), (5, .int (nI (n + 1)))] [.int (nI ls), .int (nI (n + 1))] rfl ?_
                    refine kx_ic (tgt := 111) (kx_tk_dec rfl dM_vacuum) rfl (fun e105 => ?_) (fun e105 => ?_)
                    · skip
                      replace e105 : nI ls < nI (n + 1) := e105
                      replace e105 : ls < n + 1 := (nI_ltI (a := ls) (b := n + 1) (by omega) (by omega)).mp e105
                      refine kx_rn dM_vacuum 2 49 [(0, .ref m), (1, .int (nI ls)), (2, .int (nI c)), (3, .int (nI (40 * q))), (4, .int (b01 lt)), (5, .int ((nI (n + 1)) + (-1)))] [] rfl ?_
                      rw [show (nI (n + 1)) + (-1) = nI ((n + 1) - 1) from kn_sa rfl rfl (by omega)]
                      have hU0 : U (40 * q + n) = V (40 * q + n) := by rw [hU q n (by omega), if_neg (by omega)]
                      rw [hU0] at e65
                      have hno : vOut (A 6) V ls q n = false := by unfold vOut; rw [decide_eq_false_iff_not]; rw [hlt, decide_eq_false_iff_not] at e84; exact fun z => e84 z.1
                      have hlt2 : lt = decide (n < vKp (A 6) V ls q) := hlt.trans (vKp_step (n := n) (by omega) (fun z => absurd z.2.2 (by omega))).symm
                      refine ihw c lt F U (by omega) (by rw [cnt_succ, if_neg (by rw [hno]; decide)] at hc; omega) hlt2 hF ?_ (fun p i hi => ?_)
                      · exact hU2
                      · rw [hU p i hi]
                        by_cases z : p = q ∧ i = n
                        · obtain ⟨rfl, rfl⟩ := z
                          rw [if_neg (by omega), if_pos (by omega)]
                          unfold vVac
                          rw [if_neg (by rw [hno]; decide)]
                        · by_cases z2 : p < q ∨ (p = q ∧ n + 1 ≤ i)
                          · rw [if_pos z2, if_pos (by omega)]
                          · rw [if_neg z2, if_neg (by omega)]
                    · skip
                      replace e105 : ¬ nI ls < nI (n + 1) := e105
                      replace e105 : ¬ ls < n + 1 := fun z => e105 ((nI_ltI (a := ls) (b := n + 1) (by omega) (by omega)).mpr z)
                      refine kx_rn dM_vacuum 4 49 [(0, .ref m), (1, .int (nI ls)), (2, .int (nI c)), (3, .int (nI (40 * q))), (4, .int 1), (5, .int ((nI (n + 1)) + (-1)))] [] rfl ?_
                      rw [show (nI (n + 1)) + (-1) = nI ((n + 1) - 1) from kn_sa rfl rfl (by omega)]
                      have hU0 : U (40 * q + n) = V (40 * q + n) := by rw [hU q n (by omega), if_neg (by omega)]
                      rw [hU0] at e65
                      have hno : vOut (A 6) V ls q n = false := by unfold vOut; rw [decide_eq_false_iff_not]; rw [hlt, decide_eq_false_iff_not] at e84; exact fun z => e84 z.1
                      have hlt2 : true = decide (n < vKp (A 6) V ls q) := (decide_eq_true (vKp_yes (by omega) e65 e76 (by omega))).symm
                      refine ihw c true F U (by omega) (by rw [cnt_succ, if_neg (by rw [hno]; decide)] at hc; omega) hlt2 hF ?_ (fun p i hi => ?_)
                      · exact hU2
                      · rw [hU p i hi]
                        by_cases z : p = q ∧ i = n
                        · obtain ⟨rfl, rfl⟩ := z
                          rw [if_neg (by omega), if_pos (by omega)]
                          unfold vVac
                          rw [if_neg (by rw [hno]; decide)]
                        · by_cases z2 : p < q ∨ (p = q ∧ n + 1 ≤ i)
                          · rw [if_pos z2, if_pos (by omega)]
                          · rw [if_neg z2, if_neg (by omega)]
                  · skip
                    replace e84 : ¬ b01 lt = 0 := e84
                    replace e84 : lt = true := b01_t e84
                    refine kx_rn dM_vacuum 1 88 [(0, .ref m), (1, .int (nI ls)), (2, .int (nI c)), (3, .int (nI (40 * q))), (4, .int (b01 lt)), (5, .int (nI (n + 1)))] [.ref m] rfl ?_
                    refine pM_19 (v := .ref (m + 4)) rfl (kx_tk_dec rfl dM_vacuum) (mh_o hm) rfl ?_
                    refine kx_rn dM_vacuum 5 97 [(0, .ref m), (1, .int (nI ls)), (2, .int (nI c)), (3, .int (nI (40 * q))), (4, .int (b01 lt)), (5, .int (nI (n + 1)))] [.int (((nI (40 * q)) + (nI (n + 1))) - 1), .ref (m + 4)] rfl ?_
                    rw [show ((nI (40 * q)) + (nI (n + 1))) - 1 = nI (((40 * q) + (n + 1)) - 1) from kn_su (kn_ad rfl rfl) rfl (by omega)]
                    rw [show 40 * q + (n + 1) - 1 = 40 * q + n from by omega]
                    refine kx_rn dM_vacuum 1 98 [(0, .ref m), (1, .int (nI ls)), (2, .int (nI c)), (3, .int (nI (40 * q))), (4, .int (b01 lt)), (5, .int (nI (n + 1)))] [.int 0, .int (nI (40 * q + n)), .ref (m + 4)] rfl ?_
                    refine mh_st (k := 4) (i := 40 * q + n) (A' := va_up A 4 (va_up F (40 * q + n) 0)) rfl (kx_tk_dec rfl dM_vacuum) hm (by show 40 * q + n < 2880; omega) (va_upup _ _ _ _) ?_
                    refine kx_rn dM_vacuum 3 105 [(0, .ref m), (1, .int (nI ls)), (2, .int ((nI c) + 1)), (3, .int (nI (40 * q))), (4, .int (b01 lt)), (5, .int (nI (n + 1)))] [.int (nI ls), .int (nI (n + 1))] rfl ?_
                    rw [show (nI c) + 1 = nI (c + 1) from kn_ad rfl rfl]
                    refine kx_ic (tgt := 111) (kx_tk_dec rfl dM_vacuum) rfl (fun e105 => ?_) (fun e105 => ?_)
                    · skip
                      replace e105 : nI ls < nI (n + 1) := e105
                      replace e105 : ls < n + 1 := (nI_ltI (a := ls) (b := n + 1) (by omega) (by omega)).mp e105
                      refine kx_rn dM_vacuum 2 49 [(0, .ref m), (1, .int (nI ls)), (2, .int (nI (c + 1))), (3, .int (nI (40 * q))), (4, .int (b01 lt)), (5, .int ((nI (n + 1)) + (-1)))] [] rfl ?_
                      rw [show (nI (n + 1)) + (-1) = nI ((n + 1) - 1) from kn_sa rfl rfl (by omega)]
                      have hU0 : U (40 * q + n) = V (40 * q + n) := by rw [hU q n (by omega), if_neg (by omega)]
                      rw [hU0] at e65
                      have hno : vOut (A 6) V ls q n = true := by unfold vOut; rw [decide_eq_true_eq]; rw [hlt, decide_eq_true_eq] at e84; exact ⟨e84, e65, e76⟩
                      have hlt2 : lt = decide (n < vKp (A 6) V ls q) := hlt.trans (vKp_step (n := n) (by omega) (fun z => absurd z.2.2 (by omega))).symm
                      refine ihw (c + 1) lt (va_up F (40 * q + n) 0) (va_up U (40 * q + n) 0) (by omega) (by rw [cnt_succ, if_pos hno] at hc; omega) hlt2 (va_nIp hF _ 0) ?_ (fun p i hi => ?_)
                      · intro v
                        simp only [va_up]
                        split
                        · decide
                        · exact hU2 v
                      · by_cases z : p = q ∧ i = n
                        · obtain ⟨rfl, rfl⟩ := z
                          rw [va_up_self, if_pos (by omega)]
                          unfold vVac
                          rw [if_pos hno]
                        · rw [va_up_ne _ _ (by omega), hU p i hi]
                          by_cases z2 : p < q ∨ (p = q ∧ n + 1 ≤ i)
                          · rw [if_pos z2, if_pos (by omega)]
                          · rw [if_neg z2, if_neg (by omega)]
                    · skip
                      replace e105 : ¬ nI ls < nI (n + 1) := e105
                      replace e105 : ¬ ls < n + 1 := fun z => e105 ((nI_ltI (a := ls) (b := n + 1) (by omega) (by omega)).mpr z)
                      refine kx_rn dM_vacuum 4 49 [(0, .ref m), (1, .int (nI ls)), (2, .int (nI (c + 1))), (3, .int (nI (40 * q))), (4, .int 1), (5, .int ((nI (n + 1)) + (-1)))] [] rfl ?_
                      rw [show (nI (n + 1)) + (-1) = nI ((n + 1) - 1) from kn_sa rfl rfl (by omega)]
                      have hU0 : U (40 * q + n) = V (40 * q + n) := by rw [hU q n (by omega), if_neg (by omega)]
                      rw [hU0] at e65
                      have hno : vOut (A 6) V ls q n = true := by unfold vOut; rw [decide_eq_true_eq]; rw [hlt, decide_eq_true_eq] at e84; exact ⟨e84, e65, e76⟩
                      have hlt2 : true = decide (n < vKp (A 6) V ls q) := (decide_eq_true (vKp_yes (by omega) e65 e76 (by omega))).symm
                      refine ihw (c + 1) true (va_up F (40 * q + n) 0) (va_up U (40 * q + n) 0) (by omega) (by rw [cnt_succ, if_pos hno] at hc; omega) hlt2 (va_nIp hF _ 0) ?_ (fun p i hi => ?_)
                      · intro v
                        simp only [va_up]
                        split
                        · decide
                        · exact hU2 v
                      · by_cases z : p = q ∧ i = n
                        · obtain ⟨rfl, rfl⟩ := z
                          rw [va_up_self, if_pos (by omega)]
                          unfold vVac
                          rw [if_pos hno]
                        · rw [va_up_ne _ _ (by omega), hU p i hi]
                          by_cases z2 : p < q ∨ (p = q ∧ n + 1 ≤ i)
                          · rw [if_pos z2, if_pos (by omega)]
                          · rw [if_neg z2, if_neg (by omega)]
                · skip
                  replace e76 : ¬ A 6 (n + 1) = 2 := e76
                  refine kx_rn dM_vacuum 3 49 [(0, .ref m), (1, .int (nI ls)), (2, .int (nI c)), (3, .int (nI (40 * q))), (4, .int (b01 lt)), (5, .int ((nI (n + 1)) + (-1)))] [] rfl ?_
                  rw [show (nI (n + 1)) + (-1) = nI ((n + 1) - 1) from kn_sa rfl rfl (by omega)]
                  have hU0 : U (40 * q + n) = V (40 * q + n) := by rw [hU q n (by omega), if_neg (by omega)]
                  have hno : vOut (A 6) V ls q n = false := by unfold vOut; rw [decide_eq_false_iff_not]; exact (fun z => e76 z.2.2)
                  have hlt2 : lt = decide (n < vKp (A 6) V ls q) := hlt.trans (vKp_step (n := n) (by omega) (fun z => e76 z.2.1)).symm
                  refine ihw c lt F U (by omega) (by rw [cnt_succ, if_neg (by rw [hno]; decide)] at hc; omega) hlt2 hF ?_ (fun p i hi => ?_)
                  · exact hU2
                  · rw [hU p i hi]
                    by_cases z : p = q ∧ i = n
                    · obtain ⟨rfl, rfl⟩ := z
                      rw [if_neg (by omega), if_pos (by omega)]
                      unfold vVac
                      rw [if_neg (by rw [hno]; decide)]
                    · by_cases z2 : p < q ∨ (p = q ∧ n + 1 ≤ i)
                      · rw [if_pos z2, if_pos (by omega)]
                      · rw [if_neg z2, if_neg (by omega)]
        refine kx_rn dM_vacuum 2 39 [(0, .ref m), (1, .int (nI ls)), (2, .int (nI c0)), (3, .int (nI (40 * q)))] [.int 2880, .int (nI (40 * q))] rfl ?_
        refine kx_ic (tgt := 123) (kx_tk_dec rfl dM_vacuum) rfl (fun e39 => ?_) (fun e39 => ?_)
        · skip
          replace e39 : 2880 ≤ nI (40 * q) := e39
          replace e39 : 2880 ≤ 40 * q := (nI_leI (a := 2880) (b := 40 * q) (by omega) (by omega)).mp e39
          exfalso; omega
        · skip
          replace e39 : ¬ 2880 ≤ nI (40 * q) := e39
          replace e39 : ¬ 2880 ≤ 40 * q := fun z => e39 ((nI_leI (a := 2880) (b := 40 * q) (by omega) (by omega)).mpr z)
          refine kx_rn dM_vacuum 4 49 [(0, .ref m), (1, .int (nI ls)), (2, .int (nI c0)), (3, .int (nI (40 * q))), (4, .int 0), (5, .int 40)] [] rfl ?_
          refine inner 40 c0 false F U (Nat.le_refl _) rfl ?_ hF hU2 (fun p i hi => ?_)
          · have := hw_le (fun w => decide (¬ V (40 * q + w - 1) = 0 ∧ A 6 w = 2)) (min ls 40)
            exact (decide_eq_false (by unfold vKp; omega)).symm
          · rw [hU p i hi]
            by_cases z : p < q
            · rw [if_pos z, if_pos (by omega)]
            · rw [if_neg z, if_neg (by omega)]
    refine kx_heq (congrArg (mH h0 m (va_up S 0 0)) (va_upsame A 4).symm) ?_
    exact outer 72 0 0 _ V rfl rfl hV hV2 (fun p i hi => by rw [if_neg (by omega)])
  have first : ∀ n (j : Nat), j + n = bg → (∀ t, 1 ≤ t → t ≤ j → ¬ A 6 t = 1) → kx_w G l mM_vacuum d (fun o h' => ∃ ls, mLeast A bg ls ∧ o = .returned (some (.int (nI (nsum (fun q => cnt (vOut (A 6) V ls q) 40) 72)))) ∧ ∃ (F : Nat → Int32) (U : Nat → Nat), h' = mH h0 m (va_up S 0 0) (va_up A 4 F) ∧ (∀ v, F v = nI (U v)) ∧ (∀ v, U v < 256) ∧ ∀ q i, q < 72 → i < 40 → U (40 * q + i) = vVac (A 6) V ls q i) 0 0 7 [(0, .ref m), (1, .int (nI (j + 1)))] [] (mH h0 m (va_up S 0 0) A) := by
    intro n
    induction n with
    | zero =>
      intro j hj hj2
      refine kx_rn dM_vacuum 2 9 [(0, .ref m), (1, .int (nI (j + 1)))] [.ref m, .int (nI (j + 1))] rfl ?_
      refine pM_76 (v := .int (S 7)) rfl (kx_tk_dec rfl dM_vacuum) (mh_o hm) rfl ?_
      rw [hb]
      refine kx_ic (tgt := 31) (kx_tk_dec rfl dM_vacuum) rfl (fun e12 => ?_) (fun e12 => ?_)
      · skip
        replace e12 : nI bg < nI (j + 1) := e12
        replace e12 : bg < j + 1 := (nI_ltI (a := bg) (b := j + 1) (by omega) (by omega)).mp e12
        refine kx_rn dM_vacuum 4 35 [(0, .ref m), (1, .int (nI (j + 1))), (2, .int 0), (3, .int 0)] [] rfl ?_
        exact vac (j + 1) ⟨by omega, by omega, fun t h1 h2 => hj2 t h1 (by omega), fun z => absurd z (by omega)⟩
      · skip
        replace e12 : ¬ nI bg < nI (j + 1) := e12
        replace e12 : ¬ bg < j + 1 := fun z => e12 ((nI_ltI (a := bg) (b := j + 1) (by omega) (by omega)).mpr z)
        exfalso; omega
    | succ n ih =>
      intro j hj hj2
      refine kx_rn dM_vacuum 2 9 [(0, .ref m), (1, .int (nI (j + 1)))] [.ref m, .int (nI (j + 1))] rfl ?_
      refine pM_76 (v := .int (S 7)) rfl (kx_tk_dec rfl dM_vacuum) (mh_o hm) rfl ?_
      rw [hb]
      refine kx_ic (tgt := 31) (kx_tk_dec rfl dM_vacuum) rfl (fun e12 => ?_) (fun e12 => ?_)
      · skip
        replace e12 : nI bg < nI (j + 1) := e12
        replace e12 : bg < j + 1 := (nI_ltI (a := bg) (b := j + 1) (by omega) (by omega)).mp e12
        exfalso; omega
      · skip
        replace e12 : ¬ nI bg < nI (j + 1) := e12
        replace e12 : ¬ bg < j + 1 := fun z => e12 ((nI_ltI (a := bg) (b := j + 1) (by omega) (by omega)).mpr z)
        refine kx_rn dM_vacuum 1 16 [(0, .ref m), (1, .int (nI (j + 1)))] [.ref m] rfl ?_
        refine pM_25 (v := .ref (m + 6)) rfl (kx_tk_dec rfl dM_vacuum) (mh_o hm) rfl ?_
        refine kx_rn dM_vacuum 1 20 [(0, .ref m), (1, .int (nI (j + 1)))] [.int (nI (j + 1)), .ref (m + 6)] rfl ?_
        refine mh_ld (k := 6) (x := A 6 (j + 1)) (i := j + 1) rfl rfl (kx_tk_dec rfl dM_vacuum) hm (by show j + 1 < 41; omega) ?_
        refine kx_rn dM_vacuum 1 22 [(0, .ref m), (1, .int (nI (j + 1)))] [.int 1, .int (A 6 (j + 1))] rfl ?_
        refine kx_ic (tgt := 31) (kx_tk_dec rfl dM_vacuum) rfl (fun e22 => ?_) (fun e22 => ?_)
        · skip
          replace e22 : A 6 (j + 1) = 1 := e22
          refine kx_rn dM_vacuum 4 35 [(0, .ref m), (1, .int (nI (j + 1))), (2, .int 0), (3, .int 0)] [] rfl ?_
          exact vac (j + 1) ⟨by omega, by omega, fun t h1 h2 => hj2 t h1 (by omega), fun _ => e22⟩
        · skip
          replace e22 : ¬ A 6 (j + 1) = 1 := e22
          refine kx_rn dM_vacuum 2 7 [(0, .ref m), (1, .int ((nI (j + 1)) + 1))] [] rfl ?_
          rw [show (nI (j + 1)) + 1 = nI ((j + 1) + 1) from kn_ad rfl rfl]
          exact ih (j + 1) (by omega) (fun t h1 h2 => by
            by_cases z : t = j + 1
            · rw [z]; exact e22
            · exact hj2 t h1 (by omega))
  refine kx_rn dM_vacuum 2 2 [(0, .ref m)] [.int 0, .ref m] rfl ?_
  refine qM_69 rfl (kx_tk_dec rfl dM_vacuum) (mh_o hm) rfl rfl (Nat.le_of_ble_eq_true rfl) ?_
  rw [mh_p0]
  refine kx_rn dM_vacuum 2 7 [(0, .ref m), (1, .int 1)] [] rfl ?_
  exact first bg 0 (by omega) (fun t h1 h2 => absurd h1 (by omega))
/-- what count answers -/
def mCnt (S : Nat → Int32) (A : Nat → Nat → Int32) (V : Nat → Nat) (bg : Nat) (x : Int32) : Int32 := if x = 0 then S 7 else if x = 1 then nI (cnt (fun j => decide (A 6 (j + 1) = 1)) bg) else if x = 2 then nI (cnt (fun j => decide (A 6 (j + 1) = 2)) bg) else if x = 3 then S 25 else if x = 4 then S 10 else if x = 5 then nI (cnt (fun c => decide (¬ A 10 c = 0)) 4) else if x = 6 then nI (nsum (fun q => cnt (fun j => decide (¬ V (40 * q + j) = 0)) 40) 72) else if x = 7 then S 8 else if x = 8 then A 2 0 else if x = 9 then A 2 1 else if x = 10 then A 2 2 else -1
theorem kI_sw {x : Int32} {hi : Nat} (h : ¬ (x.toInt < 0 ∨ (hi : Int) < x.toInt)) : ∃ n : Nat, n ≤ hi ∧ x = nI n := by
  obtain ⟨n, e0, e1, e2⟩ := kI_nat (x := x) (by omega)
  exact ⟨n, by omega, e0⟩
theorem cM_count {x : Int32} (hst : l.stackTraces = false) (hm : mOk G h0 m) {bg : Nat} (hb : S 7 = nI bg) (hbg : bg ≤ 40) {V : Nat → Nat} (hV : ∀ v, A 4 v = nI (V v)) (hV2 : ∀ v, V v < 256) :
    kx_c G l mM_count (d + 1) 0 0 [.ref m, .int x] (mH h0 m S A) (fun o h' => o = .returned (some (.int (mCnt S A V bg x))) ∧ h' = mH h0 m (va_up S 0 0) A) := by
  refine kx_in (by decide +kernel) (Nat.le_of_ble_eq_true rfl) hst ?_
  refine kx_rn dM_count 2 2 [(0, .ref m), (1, .int x)] [.int 0, .ref m] rfl ?_
  refine qM_69 rfl (kx_tk_dec rfl dM_count) (mh_o hm) rfl rfl (Nat.le_of_ble_eq_true rfl) ?_
  rw [mh_p0]
  refine kx_rn dM_count 3 8 [(0, .ref m), (1, .int x), (2, .int 0)] [.int x] rfl ?_
  by_cases hsw : x.toInt < 0 ∨ (10 : Int) < x.toInt
  · skip
    refine kx_tout (tgt := 139) (kx_tk_dec rfl dM_count) hsw rfl ?_
    refine kx_rn dM_count 1 140 [(0, .ref m), (1, .int x), (2, .int 0)] [.int ((-1))] rfl ?_
    refine kx_ret (ty := .int) (kx_tk_dec rfl dM_count) rfl rfl ?_
    refine ⟨?_, rfl⟩
    unfold mCnt
    rw [if_neg, if_neg, if_neg, if_neg, if_neg, if_neg, if_neg, if_neg, if_neg, if_neg, if_neg]
    all_goals (rintro rfl; revert hsw; decide)
  · obtain ⟨n, hn, rfl⟩ := kI_sw (hi := 10) hsw
    clear hsw
    rcases n with _ | n
    · skip
      refine kx_tin (off := 60) (tgt := 68) (kx_tk_dec rfl dM_count) (by decide) (by decide) rfl rfl ?_
      refine kx_rn dM_count 1 69 [(0, .ref m), (1, .int 0), (2, .int 0)] [.ref m] rfl ?_
      refine pM_76 (v := .int (S 7)) rfl (kx_tk_dec rfl dM_count) (mh_o hm) rfl ?_
      rw [hb]
      refine kx_ret (ty := .int) (kx_tk_dec rfl dM_count) rfl rfl ?_
      exact ⟨by rw [← hb]; rfl, rfl⟩
    rcases n with _ | n
    · skip
      refine kx_tin (off := 65) (tgt := 73) (kx_tk_dec rfl dM_count) (by decide) (by decide) rfl rfl ?_
      refine kx_rn dM_count 2 75 [(0, .ref m), (1, .int 1), (2, .int 0)] [.int 1, .ref m] rfl ?_
      refine cM_202 (as := [.int 1]) (st := []) (mc := 0) (ms := 0) (kc := 0) (ks := 0) rfl (kx_tk_dec rfl dM_count) (mh_o hm) rfl rfl (Nat.le_of_ble_eq_true rfl) (cM_inState hst hm (S := va_up S 0 0) hb hbg) (fun o h' hq => ?_)
      obtain ⟨rfl, rfl⟩ := hq
      show kx_w _ _ _ _ _ _ _ _ _ _ _
      refine kx_ret (ty := .int) (kx_tk_dec rfl dM_count) rfl rfl ?_
      exact ⟨rfl, rfl⟩
    rcases n with _ | n
    · skip
      refine kx_tin (off := 71) (tgt := 79) (kx_tk_dec rfl dM_count) (by decide) (by decide) rfl rfl ?_
      refine kx_rn dM_count 2 81 [(0, .ref m), (1, .int 2), (2, .int 0)] [.int 2, .ref m] rfl ?_
      refine cM_202 (as := [.int 2]) (st := []) (mc := 0) (ms := 0) (kc := 0) (ks := 0) rfl (kx_tk_dec rfl dM_count) (mh_o hm) rfl rfl (Nat.le_of_ble_eq_true rfl) (cM_inState hst hm (S := va_up S 0 0) hb hbg) (fun o h' hq => ?_)
      obtain ⟨rfl, rfl⟩ := hq
      show kx_w _ _ _ _ _ _ _ _ _ _ _
      refine kx_ret (ty := .int) (kx_tk_dec rfl dM_count) rfl rfl ?_
      exact ⟨rfl, rfl⟩
    rcases n with _ | n
    · skip
      refine kx_tin (off := 77) (tgt := 85) (kx_tk_dec rfl dM_count) (by decide) (by decide) rfl rfl ?_
      refine kx_rn dM_count 1 86 [(0, .ref m), (1, .int 3), (2, .int 0)] [.ref m] rfl ?_
      refine pM_176 (v := .int (S 25)) rfl (kx_tk_dec rfl dM_count) (mh_o hm) rfl ?_
      refine kx_ret (ty := .int) (kx_tk_dec rfl dM_count) rfl rfl ?_
      exact ⟨rfl, rfl⟩
    rcases n with _ | n
    · skip
      refine kx_tin (off := 82) (tgt := 90) (kx_tk_dec rfl dM_count) (by decide) (by decide) rfl rfl ?_
      refine kx_rn dM_count 1 91 [(0, .ref m), (1, .int 4), (2, .int 0)] [.ref m] rfl ?_
      refine pM_90 (v := .int (S 10)) rfl (kx_tk_dec rfl dM_count) (mh_o hm) rfl ?_
      refine kx_ret (ty := .int) (kx_tk_dec rfl dM_count) rfl rfl ?_
      exact ⟨rfl, rfl⟩
    rcases n with _ | n
    · skip
      refine kx_tin (off := 87) (tgt := 95) (kx_tk_dec rfl dM_count) (by decide) (by decide) rfl rfl ?_
      refine kx_rn dM_count 1 96 [(0, .ref m), (1, .int 5), (2, .int 0)] [.ref m] rfl ?_
      refine cM_144 (as := []) (st := []) (mc := 0) (ms := 0) (kc := 0) (ks := 0) rfl (kx_tk_dec rfl dM_count) (mh_o hm) rfl rfl (Nat.le_of_ble_eq_true rfl) (cM_settings hst hm) (fun o h' hq => ?_)
      obtain ⟨rfl, rfl⟩ := hq
      show kx_w _ _ _ _ _ _ _ _ _ _ _
      refine kx_ret (ty := .int) (kx_tk_dec rfl dM_count) rfl rfl ?_
      exact ⟨rfl, rfl⟩
    rcases n with _ | n
    · skip
      refine kx_tin (off := 92) (tgt := 100) (kx_tk_dec rfl dM_count) (by decide) (by decide) rfl rfl ?_
      refine kx_rn dM_count 2 102 [(0, .ref m), (1, .int 6), (2, .int 0), (3, .int 0)] [] rfl ?_
      have loop : ∀ n (q c : Nat), q + n = 72 → c = nsum (fun q => cnt (fun j => decide (¬ V (40 * q + j) = 0)) 40) q → kx_w G l mM_count (d + 1) (fun o h' => o = .returned (some (.int (mCnt S A V bg 6))) ∧ h' = mH h0 m (va_up S 0 0) A) 0 0 102 [(0, .ref m), (1, .int 6), (2, .int (nI c)), (3, .int (nI q))] [] (mH h0 m (va_up S 0 0) A) := by
        intro n
        induction n with
        | zero =>
          intro q c hq hc
          refine kx_rn dM_count 2 105 [(0, .ref m), (1, .int 6), (2, .int (nI c)), (3, .int (nI q))] [.int 72, .int (nI q)] rfl ?_
          refine kx_ic (tgt := 122) (kx_tk_dec rfl dM_count) rfl (fun e105 => ?_) (fun e105 => ?_)
          · skip
            replace e105 : 72 ≤ nI q := e105
            replace e105 : 72 ≤ q := (nI_leI (a := 72) (b := q) (by omega) (by omega)).mp e105
            refine kx_rn dM_count 1 123 [(0, .ref m), (1, .int 6), (2, .int (nI c)), (3, .int (nI q))] [.int (nI c)] rfl ?_
            refine kx_ret (ty := .int) (kx_tk_dec rfl dM_count) rfl rfl ?_
            exact ⟨by rw [hc, show q = 72 by omega]; rfl, rfl⟩
          · skip
            replace e105 : ¬ 72 ≤ nI q := e105
            replace e105 : ¬ 72 ≤ q := fun z => e105 ((nI_leI (a := 72) (b := q) (by omega) (by omega)).mpr z)
            exfalso; omega
        | succ n ih =>
          intro q c hq hc
          have h1 := cnt_le (fun j => decide (¬ V (40 * q + j) = 0)) 40
          have h2 := nsum_le (f := fun q => cnt (fun j => decide (¬ V (40 * q + j) = 0)) 40) (b := 40) (fun q => cnt_le _ 40) q
          refine kx_rn dM_count 2 105 [(0, .ref m), (1, .int 6), (2, .int (nI c)), (3, .int (nI q))] [.int 72, .int (nI q)] rfl ?_
          refine kx_ic (tgt := 122) (kx_tk_dec rfl dM_count) rfl (fun e105 => ?_) (fun e105 => ?_)
          · skip
            replace e105 : 72 ≤ nI q := e105
            replace e105 : 72 ≤ q := (nI_leI (a := 72) (b := q) (by omega) (by omega)).mp e105
            exfalso; omega
          · skip
            replace e105 : ¬ 72 ≤ nI q := e105
            replace e105 : ¬ 72 ≤ q := fun z => e105 ((nI_leI (a := 72) (b := q) (by omega) (by omega)).mpr z)
            refine kx_rn dM_count 3 111 [(0, .ref m), (1, .int 6), (2, .int (nI c)), (3, .int (nI q))] [.int (nI q), .ref m, .int (nI c)] rfl ?_
            refine cM_199 (as := [.int (nI q)]) (st := [.int (nI c)]) (mc := 0) (ms := 0) (kc := 0) (ks := 0) rfl (kx_tk_dec rfl dM_count) (mh_o hm) rfl rfl (Nat.le_of_ble_eq_true rfl) (cM_versionsOf hst hm (by omega) hV hV2) (fun o h' hq => ?_)
            obtain ⟨rfl, rfl⟩ := hq
            show kx_w _ _ _ _ _ _ _ _ _ _ _
            refine kx_rn dM_count 4 102 [(0, .ref m), (1, .int 6), (2, .int ((nI c) + (nI (cnt (fun j => decide (¬ V (40 * q + j) = 0)) 40)))), (3, .int ((nI q) + 1))] [] rfl ?_
            rw [show (nI c) + (nI (cnt (fun j => decide (¬ V (40 * q + j) = 0)) 40)) = nI (c + (cnt (fun j => decide (¬ V (40 * q + j) = 0)) 40)) from kn_ad rfl rfl]
            rw [show (nI q) + 1 = nI (q + 1) from kn_ad rfl rfl]
            exact ih (q + 1) _ (by omega) (by rw [hc]; rfl)
      exact loop 72 0 0 rfl rfl
    rcases n with _ | n
    · skip
      refine kx_tin (off := 116) (tgt := 124) (kx_tk_dec rfl dM_count) (by decide) (by decide) rfl rfl ?_
      refine kx_rn dM_count 1 125 [(0, .ref m), (1, .int 7), (2, .int 0)] [.ref m] rfl ?_
      refine pM_179 (v := .int (S 8)) rfl (kx_tk_dec rfl dM_count) (mh_o hm) rfl ?_
      refine kx_ret (ty := .int) (kx_tk_dec rfl dM_count) rfl rfl ?_
      exact ⟨rfl, rfl⟩
    rcases n with _ | n
    · skip
      refine kx_tin (off := 121) (tgt := 129) (kx_tk_dec rfl dM_count) (by decide) (by decide) rfl rfl ?_
      refine kx_rn dM_count 1 130 [(0, .ref m), (1, .int 8), (2, .int 0)] [.ref m] rfl ?_
      refine pM_13 (v := .ref (m + 2)) rfl (kx_tk_dec rfl dM_count) (mh_o hm) rfl ?_
      refine kx_rn dM_count 3 137 [(0, .ref m), (1, .int 8), (2, .int 0)] [.int 0, .ref (m + 2)] rfl ?_
      refine mh_ld (k := 2) (x := A 2 0) (i := 0) rfl rfl (kx_tk_dec rfl dM_count) hm (by show 0 < 3; omega) ?_
      refine kx_ret (ty := .int) (kx_tk_dec rfl dM_count) rfl rfl ?_
      exact ⟨rfl, rfl⟩
    rcases n with _ | n
    · skip
      refine kx_tin (off := 121) (tgt := 129) (kx_tk_dec rfl dM_count) (by decide) (by decide) rfl rfl ?_
      refine kx_rn dM_count 1 130 [(0, .ref m), (1, .int 9), (2, .int 0)] [.ref m] rfl ?_
      refine pM_13 (v := .ref (m + 2)) rfl (kx_tk_dec rfl dM_count) (mh_o hm) rfl ?_
      refine kx_rn dM_count 3 137 [(0, .ref m), (1, .int 9), (2, .int 0)] [.int 1, .ref (m + 2)] rfl ?_
      refine mh_ld (k := 2) (x := A 2 1) (i := 1) rfl rfl (kx_tk_dec rfl dM_count) hm (by show 1 < 3; omega) ?_
      refine kx_ret (ty := .int) (kx_tk_dec rfl dM_count) rfl rfl ?_
      exact ⟨rfl, rfl⟩
    rcases n with _ | n
    · skip
      refine kx_tin (off := 121) (tgt := 129) (kx_tk_dec rfl dM_count) (by decide) (by decide) rfl rfl ?_
      refine kx_rn dM_count 1 130 [(0, .ref m), (1, .int 10), (2, .int 0)] [.ref m] rfl ?_
      refine pM_13 (v := .ref (m + 2)) rfl (kx_tk_dec rfl dM_count) (mh_o hm) rfl ?_
      refine kx_rn dM_count 3 137 [(0, .ref m), (1, .int 10), (2, .int 0)] [.int 2, .ref (m + 2)] rfl ?_
      refine mh_ld (k := 2) (x := A 2 2) (i := 2) rfl rfl (kx_tk_dec rfl dM_count) hm (by show 2 < 3; omega) ?_
      refine kx_ret (ty := .int) (kx_tk_dec rfl dM_count) rfl rfl ?_
      exact ⟨rfl, rfl⟩
    omega
end KM6
end
section
/-! ===== the reference: mean; terms and conditions worked out ===== -/
section KM7
variable {G : kx_G} {l : Launch} {d : Nat} {h0 : kx_H} {m : Nat} {S : Nat → Int32} {A : Nat → Nat → Int32}
theorem km_nn (s : Int64) {n : Nat} (h1 : 1 ≤ n) (h2 : n < 2147483648) : vf_n64 (FP.ddiv (FP.l2d s) (FP.i2d (nI n))) := by
  have h3 : FP.Core.dIsNaN (FP.Core.ddiv (FP.Core.l2d s) (FP.Core.i2d (nI n))) = false := FP.Core.ddiv_out (FP.Core.l2d_fin s).notNaN (FP.Core.i2d_fin _) (fun z => FP.Core.i2d_ne_zero (nI_ne0 (by omega) (by omega)) ((FP.Core.zero_bits2 _).mp z))
  have h4 : ¬ 9218868437227405312 < (FP.Core.ddiv (FP.Core.l2d s) (FP.Core.i2d (nI n))).toNat % 2 ^ 63 := fun z => by
    rw [(FP.Core.isNaN_bits _).mpr z] at h3
    cases h3
  show FP.Core.ddiv (FP.Core.l2d s) (FP.Core.i2d (nI n)) &&& 0x7fffffffffffffff ≤ 0x7ff0000000000000
  rw [UInt64.le_iff_toNat_le, UInt64.toNat_and]
  have h5 : (0x7fffffffffffffff : UInt64).toNat = 2 ^ 63 - 1 := rfl
  have h6 : (0x7ff0000000000000 : UInt64).toNat = 9218868437227405312 := rfl
  rw [h5, h6, Nat.and_two_pow_sub_one_eq_mod]
  omega
def lsum (f : Nat → Int32) : Nat → Int64
  | 0 => 0
  | n + 1 => lsum f n + (f n).toInt64
theorem lsum_congr {f g : Nat → Int32} : ∀ {n : Nat}, (∀ i, i < n → f i = g i) → lsum f n = lsum g n
  | 0, _ => rfl
  | n + 1, h => by
    simp only [lsum]
    rw [lsum_congr (n := n) (fun i hi => h i (by omega)), h n (by omega)]
set_option maxRecDepth 100000 in
theorem cM_mean {c : Int32} {rs : Nat} (hst : l.stackTraces = false) (hm : mOk G h0 m) (hs : S 25 = nI rs) (hs2 : rs ≤ 24) :
    kx_c G l mM_mean (d + 1) 0 0 [.ref m, .int c] (mH h0 m S A) (fun o h' => ((c < 0 ∨ 4 ≤ c) ∧ (∃ x, o = .returned (some (.double x))) ∧ h' = mH h0 m (va_up S 0 1) A) ∨ ∃ cn, cn < 4 ∧ c = nI cn ∧ ((rs = 0 ∧ (∃ x, o = .returned (some (.double x))) ∧ h' = mH h0 m (va_up S 0 2) A) ∨ (¬ rs = 0 ∧ o = .returned (some (.double (FP.ddiv (FP.l2d (lsum (fun i => A 15 (4 * i + cn)) rs)) (FP.i2d (nI rs))))) ∧ h' = mH h0 m (va_up S 0 0) A))) := by
  refine kx_in (by decide +kernel) (Nat.le_of_ble_eq_true rfl) hst ?_
  refine kx_rn dM_mean 2 2 [(0, .ref m), (1, .int c)] [.int 0, .ref m] rfl ?_
  refine qM_69 rfl (kx_tk_dec rfl dM_mean) (mh_o hm) rfl rfl (Nat.le_of_ble_eq_true rfl) ?_
  rw [mh_p0]
  refine kx_rn dM_mean 2 7 [(0, .ref m), (1, .int c)] [.int 4, .int c] rfl ?_
  refine cM_72 (as := [.int c, .int 4]) (st := []) (mc := 0) (ms := 0) (kc := 0) (ks := 0) rfl (kx_tk_dec rfl dM_mean) rfl rfl (Nat.le_of_ble_eq_true rfl) (cM_out hst) (fun o h' hq => ?_)
  obtain ⟨bo, rfl, rfl, hbo⟩ := hq
  show kx_w _ _ _ _ _ _ _ _ _ _ _
  refine kx_if (tgt := 20) (kx_tk_dec rfl dM_mean) rfl (fun e10 => ?_) (fun e10 => ?_)
  · skip
    replace e10 : b01 bo = 0 := e10
    replace e10 : bo = false := b01_f e10
    have hb0 : ¬ (c < 0 ∨ nI 4 ≤ c) := fun z => absurd (hbo.mpr z) (by rw [e10]; decide)
    obtain ⟨cn, hn1, rfl⟩ := mou_in (by omega) hb0
    refine kx_rn dM_mean 1 21 [(0, .ref m), (1, .int (nI cn))] [.ref m] rfl ?_
    refine pM_176 (v := .int (S 25)) rfl (kx_tk_dec rfl dM_mean) (mh_o hm) rfl ?_
    rw [hs]
    refine kx_if (tgt := 34) (kx_tk_dec rfl dM_mean) rfl (fun e24 => ?_) (fun e24 => ?_)
    · skip
      replace e24 : ¬ nI rs = 0 := e24
      replace e24 : ¬ rs = 0 := fun z => e24 ((nI_eq (a := rs) (b := 0) (by omega) (by omega)).mpr z)
      refine kx_rn dM_mean 4 39 [(0, .ref m), (1, .int (nI cn)), (2, .long 0), (4, .int 0)] [] rfl ?_
      have loop : ∀ n (j : Nat), j + n = rs → kx_w G l mM_mean (d + 1) (fun o h' => ((nI cn < 0 ∨ 4 ≤ nI cn) ∧ (∃ x, o = .returned (some (.double x))) ∧ h' = mH h0 m (va_up S 0 1) A) ∨ ∃ c2, c2 < 4 ∧ nI cn = nI c2 ∧ ((rs = 0 ∧ (∃ x, o = .returned (some (.double x))) ∧ h' = mH h0 m (va_up S 0 2) A) ∨ (¬ rs = 0 ∧ o = .returned (some (.double (FP.ddiv (FP.l2d (lsum (fun i => A 15 (4 * i + c2)) rs)) (FP.i2d (nI rs))))) ∧ h' = mH h0 m (va_up S 0 0) A))) 0 0 39 [(0, .ref m), (1, .int (nI cn)), (2, .long (lsum (fun i => A 15 (4 * i + cn)) j)), (4, .int (nI j))] [] (mH h0 m (va_up S 0 0) A) := by
        intro n
        induction n with
        | zero =>
          intro j hj
          refine kx_rn dM_mean 2 42 [(0, .ref m), (1, .int (nI cn)), (2, .long (lsum (fun i => A 15 (4 * i + cn)) j)), (4, .int (nI j))] [.ref m, .int (nI j)] rfl ?_
          refine pM_176 (v := .int (S 25)) rfl (kx_tk_dec rfl dM_mean) (mh_o hm) rfl ?_
          rw [hs]
          refine kx_ic (tgt := 69) (kx_tk_dec rfl dM_mean) rfl (fun e45 => ?_) (fun e45 => ?_)
          · skip
            replace e45 : nI rs ≤ nI j := e45
            replace e45 : rs ≤ j := (nI_leI (a := rs) (b := j) (by omega) (by omega)).mp e45
            refine kx_rn dM_mean 1 70 [(0, .ref m), (1, .int (nI cn)), (2, .long (lsum (fun i => A 15 (4 * i + cn)) j)), (4, .int (nI j))] [.long (lsum (fun i => A 15 (4 * i + cn)) j)] rfl ?_
            refine kx_l2d (kx_tk_dec rfl dM_mean) ?_
            refine kx_rn dM_mean 1 72 [(0, .ref m), (1, .int (nI cn)), (2, .long (lsum (fun i => A 15 (4 * i + cn)) j)), (4, .int (nI j))] [.ref m, .double (FP.l2d (lsum (fun i => A 15 (4 * i + cn)) j))] rfl ?_
            refine pM_176 (v := .int (S 25)) rfl (kx_tk_dec rfl dM_mean) (mh_o hm) rfl ?_
            rw [hs]
            refine kx_rn dM_mean 1 76 [(0, .ref m), (1, .int (nI cn)), (2, .long (lsum (fun i => A 15 (4 * i + cn)) j)), (4, .int (nI j))] [.double (FP.i2d (nI rs)), .double (FP.l2d (lsum (fun i => A 15 (4 * i + cn)) j))] rfl ?_
            refine kx_ddiv (kx_tk_dec rfl dM_mean) (km_nn _ (by omega) (by omega)) ?_
            refine kx_retd (kx_tk_dec rfl dM_mean) rfl ?_
            rw [show j = rs by omega]
            exact Or.inr ⟨cn, hn1, rfl, Or.inr ⟨e24, rfl, rfl⟩⟩
          · skip
            replace e45 : ¬ nI rs ≤ nI j := e45
            replace e45 : ¬ rs ≤ j := fun z => e45 ((nI_leI (a := rs) (b := j) (by omega) (by omega)).mpr z)
            exfalso; omega
        | succ n ih =>
          intro j hj
          refine kx_rn dM_mean 2 42 [(0, .ref m), (1, .int (nI cn)), (2, .long (lsum (fun i => A 15 (4 * i + cn)) j)), (4, .int (nI j))] [.ref m, .int (nI j)] rfl ?_
          refine pM_176 (v := .int (S 25)) rfl (kx_tk_dec rfl dM_mean) (mh_o hm) rfl ?_
          rw [hs]
          refine kx_ic (tgt := 69) (kx_tk_dec rfl dM_mean) rfl (fun e45 => ?_) (fun e45 => ?_)
          · skip
            replace e45 : nI rs ≤ nI j := e45
            replace e45 : rs ≤ j := (nI_leI (a := rs) (b := j) (by omega) (by omega)).mp e45
            exfalso; omega
          · skip
            replace e45 : ¬ nI rs ≤ nI j := e45
            replace e45 : ¬ rs ≤ j := fun z => e45 ((nI_leI (a := rs) (b := j) (by omega) (by omega)).mpr z)
            refine kx_rn dM_mean 2 50 [(0, .ref m), (1, .int (nI cn)), (2, .long (lsum (fun i => A 15 (4 * i + cn)) j)), (4, .int (nI j))] [.ref m, .long (lsum (fun i => A 15 (4 * i + cn)) j)] rfl ?_
            refine pM_57 (v := .ref (m + 15)) rfl (kx_tk_dec rfl dM_mean) (mh_o hm) rfl ?_
            refine kx_rn dM_mean 5 59 [(0, .ref m), (1, .int (nI cn)), (2, .long (lsum (fun i => A 15 (4 * i + cn)) j)), (4, .int (nI j))] [.int ((4 * (nI j)) + (nI cn)), .ref (m + 15), .long (lsum (fun i => A 15 (4 * i + cn)) j)] rfl ?_
            rw [show (4 * (nI j)) + (nI cn) = nI ((4 * j) + cn) from kn_ad (kn_mu rfl rfl) rfl]
            refine mh_ld (k := 15) (x := A 15 ((4 * j) + cn)) (i := (4 * j) + cn) rfl rfl (kx_tk_dec rfl dM_mean) hm (by show (4 * j) + cn < 96; omega) ?_
            refine kx_rn dM_mean 5 39 [(0, .ref m), (1, .int (nI cn)), (2, .long ((lsum (fun i => A 15 (4 * i + cn)) j) + ((A 15 ((4 * j) + cn)).toInt64))), (4, .int ((nI j) + 1))] [] rfl ?_
            rw [show (nI j) + 1 = nI (j + 1) from kn_ad rfl rfl]
            exact ih (j + 1) (by omega)
      exact loop rs 0 (by omega)
    · skip
      replace e24 : nI rs = 0 := e24
      replace e24 : rs = 0 := (nI_eq (a := rs) (b := 0) (by omega) (by omega)).mp e24
      refine kx_rn dM_mean 2 29 [(0, .ref m), (1, .int (nI cn))] [.int 2, .ref m] rfl ?_
      refine cM_79 (as := [.int 2]) (st := []) (mc := 0) (ms := 0) (kc := 0) (ks := 0) rfl (kx_tk_dec rfl dM_mean) (mh_o hm) rfl rfl (Nat.le_of_ble_eq_true rfl) (cM_fail hst hm) (fun o h' hq => ?_)
      obtain ⟨rfl, rfl⟩ := hq
      show kx_w _ _ _ _ _ _ _ _ _ _ _
      rw [va_upup]
      refine kx_rn dM_mean 1 33 [(0, .ref m), (1, .int (nI cn))] [.double (FP.i2d 0)] rfl ?_
      refine kx_retd (kx_tk_dec rfl dM_mean) rfl ?_
      exact Or.inr ⟨cn, hn1, rfl, Or.inl ⟨e24, ⟨_, rfl⟩, rfl⟩⟩
  · skip
    replace e10 : ¬ b01 bo = 0 := e10
    replace e10 : bo = true := b01_t e10
    refine kx_rn dM_mean 2 15 [(0, .ref m), (1, .int c)] [.int 1, .ref m] rfl ?_
    refine cM_79 (as := [.int 1]) (st := []) (mc := 0) (ms := 0) (kc := 0) (ks := 0) rfl (kx_tk_dec rfl dM_mean) (mh_o hm) rfl rfl (Nat.le_of_ble_eq_true rfl) (cM_fail hst hm) (fun o h' hq => ?_)
    obtain ⟨rfl, rfl⟩ := hq
    show kx_w _ _ _ _ _ _ _ _ _ _ _
    rw [va_upup]
    refine kx_rn dM_mean 1 19 [(0, .ref m), (1, .int c)] [.double (FP.i2d 0)] rfl ?_
    refine kx_retd (kx_tk_dec rfl dM_mean) rfl ?_
    exact Or.inl ⟨hbo.mp e10, ⟨_, rfl⟩, rfl⟩
/-- a sign worked out -/
def dvO (sg : Nat) (x y : Int32) : Int32 := if sg = 43 then x + y else if sg = 45 then x - y else if sg = 42 then x * y else if sg = 47 then (if y = 0 then 0 else if y = -1 then -x else x / y) else if sg = 61 then (if x = y then 1 else 0) else if sg = 35 then (if x = y then 0 else 1) else if sg = 60 then (if x < y then 1 else 0) else if sg = 62 then (if y < x then 1 else 0) else if sg = 38 then x &&& y else x ||| y
def dvZ (sg : Nat) (y : Int32) : Bool := decide (sg = 47 ∧ y = 0)
def sgns : List Nat := [43, 45, 42, 47, 61, 35, 60, 62, 38, 124]
set_option maxRecDepth 100000 in
theorem cM_done {sg : Nat} {x y : Int32} {dv : Bool} (hst : l.stackTraces = false) (hm : mOk G h0 m) (hsg : sg ∈ sgns) (hdv : S 22 = b01 dv) :
    kx_c G l mM_done d 0 0 [.ref m, .int (nI sg), .int x, .int y] (mH h0 m S A) (fun o h' => o = .returned (some (.int (dvO sg x y))) ∧ h' = mH h0 m (va_up S 22 (b01 (dv || dvZ sg y))) A) := by
  refine kx_in (by decide +kernel) (Nat.le_of_ble_eq_true rfl) hst ?_
  simp only [sgns, List.mem_cons, List.not_mem_nil, or_false] at hsg
  rcases hsg with rfl | rfl | rfl | rfl | rfl | rfl | rfl | rfl | rfl | rfl
  · skip
    refine kx_rn dM_done 1 1 [(0, .ref m), (1, .int 43), (2, .int x), (3, .int y)] [.int 43] rfl ?_
    refine kx_tin (off := 127) (tgt := 128) (kx_tk_dec rfl dM_done) (by decide) (by decide) rfl rfl ?_
    refine kx_rn dM_done 3 131 [(0, .ref m), (1, .int 43), (2, .int x), (3, .int y)] [.int (x + y)] rfl ?_
    refine kx_ret (ty := .int) (kx_tk_dec rfl dM_done) rfl rfl ?_
    exact ⟨rfl, by rw [show (dv || dvZ 43 y) = dv from by simp [dvZ], ← hdv, va_upsame]⟩
  · skip
    refine kx_rn dM_done 1 1 [(0, .ref m), (1, .int 45), (2, .int x), (3, .int y)] [.int 45] rfl ?_
    refine kx_tin (off := 131) (tgt := 132) (kx_tk_dec rfl dM_done) (by decide) (by decide) rfl rfl ?_
    refine kx_rn dM_done 3 135 [(0, .ref m), (1, .int 45), (2, .int x), (3, .int y)] [.int (x - y)] rfl ?_
    refine kx_ret (ty := .int) (kx_tk_dec rfl dM_done) rfl rfl ?_
    exact ⟨rfl, by rw [show (dv || dvZ 45 y) = dv from by simp [dvZ], ← hdv, va_upsame]⟩
  · skip
    refine kx_rn dM_done 1 1 [(0, .ref m), (1, .int 42), (2, .int x), (3, .int y)] [.int 42] rfl ?_
    refine kx_tin (off := 135) (tgt := 136) (kx_tk_dec rfl dM_done) (by decide) (by decide) rfl rfl ?_
    refine kx_rn dM_done 3 139 [(0, .ref m), (1, .int 42), (2, .int x), (3, .int y)] [.int (x * y)] rfl ?_
    refine kx_ret (ty := .int) (kx_tk_dec rfl dM_done) rfl rfl ?_
    exact ⟨rfl, by rw [show (dv || dvZ 42 y) = dv from by simp [dvZ], ← hdv, va_upsame]⟩
  · skip
    refine kx_rn dM_done 1 1 [(0, .ref m), (1, .int 47), (2, .int x), (3, .int y)] [.int 47] rfl ?_
    refine kx_tin (off := 139) (tgt := 140) (kx_tk_dec rfl dM_done) (by decide) (by decide) rfl rfl ?_
    refine kx_rn dM_done 1 141 [(0, .ref m), (1, .int 47), (2, .int x), (3, .int y)] [.int y] rfl ?_
    refine kx_if (tgt := 149) (kx_tk_dec rfl dM_done) rfl (fun e141 => ?_) (fun e141 => ?_)
    · skip
      replace e141 : ¬ y = 0 := e141
      refine kx_rn dM_done 1 150 [(0, .ref m), (1, .int 47), (2, .int x), (3, .int y)] [.int y] rfl ?_
      refine kx_if (tgt := 157) (kx_tk_dec rfl dM_done) rfl (fun e150 => ?_) (fun e150 => ?_)
      · skip
        replace e150 : ¬ y = 0 := e150
        refine kx_rn dM_done 2 159 [(0, .ref m), (1, .int 47), (2, .int x), (3, .int y)] [.int ((-1)), .int y] rfl ?_
        refine kx_ic (tgt := 167) (kx_tk_dec rfl dM_done) rfl (fun e159 => ?_) (fun e159 => ?_)
        · skip
          replace e159 : ¬ y = (-1) := e159
          refine kx_rn dM_done 2 169 [(0, .ref m), (1, .int 47), (2, .int x), (3, .int y)] [.int y, .int x] rfl ?_
          refine kx_div (kx_tk_dec rfl dM_done) (x := x) e150 ?_
          refine kx_ret (ty := .int) (kx_tk_dec rfl dM_done) rfl rfl ?_
          exact ⟨by show _ = Outcome.returned (some (.int (if y = 0 then 0 else if y = -1 then -x else x / y))); rw [if_neg e150, if_neg e159], by rw [show (dv || dvZ 47 y) = dv from by simp [dvZ, e150], ← hdv, va_upsame]⟩
        · skip
          replace e159 : y = (-1) := e159
          refine kx_rn dM_done 3 170 [(0, .ref m), (1, .int 47), (2, .int x), (3, .int y)] [.int (-x)] rfl ?_
          refine kx_ret (ty := .int) (kx_tk_dec rfl dM_done) rfl rfl ?_
          exact ⟨by show _ = Outcome.returned (some (.int (if y = 0 then 0 else if y = -1 then -x else x / y))); rw [if_neg e150, if_pos e159], by rw [show (dv || dvZ 47 y) = dv from by simp [dvZ, e150], ← hdv, va_upsame]⟩
      · skip
        replace e150 : y = 0 := e150
        exact absurd e150 e141
    · skip
      replace e141 : y = 0 := e141
      refine kx_rn dM_done 2 146 [(0, .ref m), (1, .int 47), (2, .int x), (3, .int y)] [.int 1, .ref m] rfl ?_
      refine qM_148 rfl (kx_tk_dec rfl dM_done) (mh_o hm) rfl rfl (Nat.le_of_ble_eq_true rfl) ?_
      rw [mh_p22]
      refine kx_rn dM_done 1 150 [(0, .ref m), (1, .int 47), (2, .int x), (3, .int y)] [.int y] rfl ?_
      refine kx_if (tgt := 157) (kx_tk_dec rfl dM_done) rfl (fun e150 => ?_) (fun e150 => ?_)
      · skip
        replace e150 : ¬ y = 0 := e150
        exact absurd e141 e150
      · skip
        replace e150 : y = 0 := e150
        refine kx_rn dM_done 2 170 [(0, .ref m), (1, .int 47), (2, .int x), (3, .int y)] [.int 0] rfl ?_
        refine kx_ret (ty := .int) (kx_tk_dec rfl dM_done) rfl rfl ?_
        exact ⟨by show _ = Outcome.returned (some (.int (if y = 0 then 0 else if y = -1 then -x else x / y))); rw [if_pos e150], by rw [show (dv || dvZ 47 y) = true from by simp [dvZ, e150]]; rfl⟩
  · skip
    refine kx_rn dM_done 1 1 [(0, .ref m), (1, .int 61), (2, .int x), (3, .int y)] [.int 61] rfl ?_
    refine kx_tin (off := 170) (tgt := 171) (kx_tk_dec rfl dM_done) (by decide) (by decide) rfl rfl ?_
    refine kx_rn dM_done 2 173 [(0, .ref m), (1, .int 61), (2, .int x), (3, .int y)] [.int y, .int x] rfl ?_
    refine kx_ic (tgt := 180) (kx_tk_dec rfl dM_done) rfl (fun e173 => ?_) (fun e173 => ?_)
    · skip
      replace e173 : ¬ x = y := e173
      refine kx_rn dM_done 1 181 [(0, .ref m), (1, .int 61), (2, .int x), (3, .int y)] [.int 0] rfl ?_
      refine kx_ret (ty := .int) (kx_tk_dec rfl dM_done) rfl rfl ?_
      exact ⟨by show _ = Outcome.returned (some (.int (if x = y then 1 else 0))); rw [if_neg e173], by rw [show (dv || dvZ 61 y) = dv from by simp [dvZ], ← hdv, va_upsame]⟩
    · skip
      replace e173 : x = y := e173
      refine kx_rn dM_done 2 181 [(0, .ref m), (1, .int 61), (2, .int x), (3, .int y)] [.int 1] rfl ?_
      refine kx_ret (ty := .int) (kx_tk_dec rfl dM_done) rfl rfl ?_
      exact ⟨by show _ = Outcome.returned (some (.int (if x = y then 1 else 0))); rw [if_pos e173], by rw [show (dv || dvZ 61 y) = dv from by simp [dvZ], ← hdv, va_upsame]⟩
  · skip
    refine kx_rn dM_done 1 1 [(0, .ref m), (1, .int 35), (2, .int x), (3, .int y)] [.int 35] rfl ?_
    refine kx_tin (off := 181) (tgt := 182) (kx_tk_dec rfl dM_done) (by decide) (by decide) rfl rfl ?_
    refine kx_rn dM_done 2 184 [(0, .ref m), (1, .int 35), (2, .int x), (3, .int y)] [.int y, .int x] rfl ?_
    refine kx_ic (tgt := 191) (kx_tk_dec rfl dM_done) rfl (fun e184 => ?_) (fun e184 => ?_)
    · skip
      replace e184 : x = y := e184
      refine kx_rn dM_done 1 192 [(0, .ref m), (1, .int 35), (2, .int x), (3, .int y)] [.int 0] rfl ?_
      refine kx_ret (ty := .int) (kx_tk_dec rfl dM_done) rfl rfl ?_
      exact ⟨by show _ = Outcome.returned (some (.int (if x = y then 0 else 1))); rw [if_pos e184], by rw [show (dv || dvZ 35 y) = dv from by simp [dvZ], ← hdv, va_upsame]⟩
    · skip
      replace e184 : ¬ x = y := e184
      refine kx_rn dM_done 2 192 [(0, .ref m), (1, .int 35), (2, .int x), (3, .int y)] [.int 1] rfl ?_
      refine kx_ret (ty := .int) (kx_tk_dec rfl dM_done) rfl rfl ?_
      exact ⟨by show _ = Outcome.returned (some (.int (if x = y then 0 else 1))); rw [if_neg e184], by rw [show (dv || dvZ 35 y) = dv from by simp [dvZ], ← hdv, va_upsame]⟩
  · skip
    refine kx_rn dM_done 1 1 [(0, .ref m), (1, .int 60), (2, .int x), (3, .int y)] [.int 60] rfl ?_
    refine kx_tin (off := 192) (tgt := 193) (kx_tk_dec rfl dM_done) (by decide) (by decide) rfl rfl ?_
    refine kx_rn dM_done 2 195 [(0, .ref m), (1, .int 60), (2, .int x), (3, .int y)] [.int y, .int x] rfl ?_
    refine kx_ic (tgt := 202) (kx_tk_dec rfl dM_done) rfl (fun e195 => ?_) (fun e195 => ?_)
    · skip
      replace e195 : y ≤ x := e195
      refine kx_rn dM_done 1 203 [(0, .ref m), (1, .int 60), (2, .int x), (3, .int y)] [.int 0] rfl ?_
      refine kx_ret (ty := .int) (kx_tk_dec rfl dM_done) rfl rfl ?_
      exact ⟨by show _ = Outcome.returned (some (.int (if x < y then 1 else 0))); rw [if_neg (by rw [kI_le] at e195; rw [kI_lt]; omega)], by rw [show (dv || dvZ 60 y) = dv from by simp [dvZ], ← hdv, va_upsame]⟩
    · skip
      replace e195 : ¬ y ≤ x := e195
      refine kx_rn dM_done 2 203 [(0, .ref m), (1, .int 60), (2, .int x), (3, .int y)] [.int 1] rfl ?_
      refine kx_ret (ty := .int) (kx_tk_dec rfl dM_done) rfl rfl ?_
      exact ⟨by show _ = Outcome.returned (some (.int (if x < y then 1 else 0))); rw [if_pos (by rw [kI_le] at e195; rw [kI_lt]; omega)], by rw [show (dv || dvZ 60 y) = dv from by simp [dvZ], ← hdv, va_upsame]⟩
  · skip
    refine kx_rn dM_done 1 1 [(0, .ref m), (1, .int 62), (2, .int x), (3, .int y)] [.int 62] rfl ?_
    refine kx_tin (off := 203) (tgt := 204) (kx_tk_dec rfl dM_done) (by decide) (by decide) rfl rfl ?_
    refine kx_rn dM_done 2 206 [(0, .ref m), (1, .int 62), (2, .int x), (3, .int y)] [.int y, .int x] rfl ?_
    refine kx_ic (tgt := 213) (kx_tk_dec rfl dM_done) rfl (fun e206 => ?_) (fun e206 => ?_)
    · skip
      replace e206 : x ≤ y := e206
      refine kx_rn dM_done 1 214 [(0, .ref m), (1, .int 62), (2, .int x), (3, .int y)] [.int 0] rfl ?_
      refine kx_ret (ty := .int) (kx_tk_dec rfl dM_done) rfl rfl ?_
      exact ⟨by show _ = Outcome.returned (some (.int (if y < x then 1 else 0))); rw [if_neg (by rw [kI_le] at e206; rw [kI_lt]; omega)], by rw [show (dv || dvZ 62 y) = dv from by simp [dvZ], ← hdv, va_upsame]⟩
    · skip
      replace e206 : ¬ x ≤ y := e206
      refine kx_rn dM_done 2 214 [(0, .ref m), (1, .int 62), (2, .int x), (3, .int y)] [.int 1] rfl ?_
      refine kx_ret (ty := .int) (kx_tk_dec rfl dM_done) rfl rfl ?_
      exact ⟨by show _ = Outcome.returned (some (.int (if y < x then 1 else 0))); rw [if_pos (by rw [kI_le] at e206; rw [kI_lt]; omega)], by rw [show (dv || dvZ 62 y) = dv from by simp [dvZ], ← hdv, va_upsame]⟩
  · skip
    refine kx_rn dM_done 1 1 [(0, .ref m), (1, .int 38), (2, .int x), (3, .int y)] [.int 38] rfl ?_
    refine kx_tin (off := 214) (tgt := 215) (kx_tk_dec rfl dM_done) (by decide) (by decide) rfl rfl ?_
    refine kx_rn dM_done 3 218 [(0, .ref m), (1, .int 38), (2, .int x), (3, .int y)] [.int (x &&& y)] rfl ?_
    refine kx_ret (ty := .int) (kx_tk_dec rfl dM_done) rfl rfl ?_
    exact ⟨rfl, by rw [show (dv || dvZ 38 y) = dv from by simp [dvZ], ← hdv, va_upsame]⟩
  · skip
    refine kx_rn dM_done 1 1 [(0, .ref m), (1, .int 124), (2, .int x), (3, .int y)] [.int 124] rfl ?_
    refine kx_tout (tgt := 219) (kx_tk_dec rfl dM_done) (by decide) rfl ?_
    refine kx_rn dM_done 3 222 [(0, .ref m), (1, .int 124), (2, .int x), (3, .int y)] [.int (x ||| y)] rfl ?_
    refine kx_ret (ty := .int) (kx_tk_dec rfl dM_done) rfl rfl ?_
    exact ⟨rfl, by rw [show (dv || dvZ 124 y) = dv from by simp [dvZ], ← hdv, va_upsame]⟩
/-- one item worked out: how high, the stack, whether something was divided by 0 -/
def eS (vals : Nat → Int32) (i : Int32) (q : Nat × (Nat → Int32) × Bool) : Nat × (Nat → Int32) × Bool := if i < -4 then (if i = -133 then (q.1, va_up q.2.1 (q.1 - 1) (1 - q.2.1 (q.1 - 1)), q.2.2) else (q.1 - 1, va_up q.2.1 (q.1 - 1 - 1) (dvO (-100 - i).toNatClampNeg (q.2.1 (q.1 - 1 - 1)) (q.2.1 (q.1 - 1))), q.2.2 || dvZ (-100 - i).toNatClampNeg (q.2.1 (q.1 - 1)))) else (q.1 + 1, va_up q.2.1 q.1 (if 0 ≤ i then i else vals (-1 - i).toNatClampNeg), q.2.2)
def eR (vals P : Nat → Int32) (q0 : Nat × (Nat → Int32) × Bool) : Nat → Nat × (Nat → Int32) × Bool
  | 0 => q0
  | k + 1 => eS vals (P k) (eR vals P q0 k)
/-- an item with n values below it -/
def itK (i : Int32) (n : Nat) : Prop := (∃ v, v < 10000 ∧ i = nI v) ∨ (i = -1 ∨ i = -2 ∨ i = -3 ∨ i = -4) ∨ (i = -133 ∧ 1 ≤ n) ∨ ((i = -143 ∨ i = -145 ∨ i = -142 ∨ i = -147 ∨ i = -161 ∨ i = -135 ∨ i = -160 ∨ i = -162 ∨ i = -138 ∨ i = -224) ∧ 2 ≤ n)
/-- how high the values stand after k items -/
def dpt (P : Nat → Int32) : Nat → Nat
  | 0 => 0
  | k + 1 => if P k < -4 then (if P k = -133 then dpt P k else dpt P k - 1) else dpt P k + 1
theorem eR_dpt (vals P : Nat → Int32) (f : Nat → Int32) (b : Bool) : ∀ k, (eR vals P (0, f, b) k).1 = dpt P k
  | 0 => rfl
  | k + 1 => by
    have h := eR_dpt vals P f b k
    simp only [eR, eS, dpt]
    by_cases e1 : P k < -4
    · rw [if_pos e1, if_pos e1]
      by_cases e2 : P k = -133
      · rw [if_pos e2, if_pos e2]; exact h
      · rw [if_neg e2, if_neg e2]; simp only [h]
    · rw [if_neg e1, if_neg e1]; simp only [h]
theorem dpt_le (P : Nat → Int32) : ∀ k, dpt P k ≤ k
  | 0 => Nat.le_refl _
  | k + 1 => by
    have h := dpt_le P k
    simp only [dpt]
    split
    · split <;> omega
    · omega
def wfP (P : Nat → Int32) (sz : Nat) : Prop := sz ≤ 44 ∧ ∀ k, k < sz → itK (P k) (dpt P k)
theorem kn_col {f c : Nat} {x : Int32} (h : x = -1 - nI c) : nI f - 1 - x = nI (f + c) := by
  rw [h, ← nI_add, Int32.sub_sub, Int32.sub_eq_add_neg, Int32.neg_add]
  rw [show (-1 : Int32) - (-1 - nI c) = nI c from by rw [Int32.sub_eq_add_neg, Int32.neg_sub, Int32.add_comm, Int32.sub_add_cancel]]
theorem nI_n4 {v : Nat} (h : v < 10000) : ¬ nI v < -4 := fun z => by
  rw [kI_lt, nI_toInt (by omega)] at z
  have : (-4 : Int32).toInt = -4 := rfl
  omega
set_option maxRecDepth 100000 in
theorem cM_worked {row fr sz : Nat} {dv : Bool} {P : Nat → Int32} (hst : l.stackTraces = false) (hm : mOk G h0 m) (hdv : S 22 = b01 dv) (hrow : row < 5) (hfr : fr ≤ 11516) (hsz : A 9 row = nI sz) (hwf : wfP P sz) (hP : ∀ k, k < sz → A 8 (44 * row + k) = P k) :
    kx_c G l mM_worked (d + 1) 0 0 [.ref m, .int (nI row), .int (nI fr)] (mH h0 m S A) (fun o h' => o = .returned (some (.int ((eR (fun c => A 5 (fr + c)) P (0, va_up (A 12) 0 1, dv) sz).2.1 0))) ∧ h' = mH h0 m (va_up S 22 (b01 (eR (fun c => A 5 (fr + c)) P (0, va_up (A 12) 0 1, dv) sz).2.2)) (va_up A 12 (eR (fun c => A 5 (fr + c)) P (0, va_up (A 12) 0 1, dv) sz).2.1)) := by
  refine kx_in (by decide +kernel) (Nat.le_of_ble_eq_true rfl) hst ?_
  have hsz2 := hwf.1
  have loop : ∀ n (k n1 : Nat) (b : Bool) (F : Nat → Int32), k + n = sz → eR (fun c => A 5 (fr + c)) P (0, va_up (A 12) 0 1, dv) k = (n1, F, b) → kx_w G l mM_worked (d + 1) (fun o h' => o = .returned (some (.int ((eR (fun c => A 5 (fr + c)) P (0, va_up (A 12) 0 1, dv) sz).2.1 0))) ∧ h' = mH h0 m (va_up S 22 (b01 (eR (fun c => A 5 (fr + c)) P (0, va_up (A 12) 0 1, dv) sz).2.2)) (va_up A 12 (eR (fun c => A 5 (fr + c)) P (0, va_up (A 12) 0 1, dv) sz).2.1)) 0 0 12 [(0, .ref m), (1, .int (nI row)), (2, .int (nI fr)), (3, .int (nI n1)), (4, .int (nI k))] [] (mH h0 m (va_up S 22 (b01 b)) (va_up A 12 F)) := by
    intro n
    induction n with
    | zero =>
      intro k n1 b F hk he
      refine kx_rn dM_worked 2 15 [(0, .ref m), (1, .int (nI row)), (2, .int (nI fr)), (3, .int (nI n1)), (4, .int (nI k))] [.ref m, .int (nI k)] rfl ?_
      refine pM_38 (v := .ref (m + 9)) rfl (kx_tk_dec rfl dM_worked) (mh_o hm) rfl ?_
      refine kx_rn dM_worked 1 19 [(0, .ref m), (1, .int (nI row)), (2, .int (nI fr)), (3, .int (nI n1)), (4, .int (nI k))] [.int (nI row), .ref (m + 9), .int (nI k)] rfl ?_
      refine mh_ld (k := 9) (x := A 9 row) (i := row) rfl rfl (kx_tk_dec rfl dM_worked) hm (by show row < 6; omega) ?_
      rw [hsz]
      refine kx_ic (tgt := 146) (kx_tk_dec rfl dM_worked) rfl (fun e20 => ?_) (fun e20 => ?_)
      · skip
        replace e20 : nI sz ≤ nI k := e20
        replace e20 : sz ≤ k := (nI_leI (a := sz) (b := k) (by omega) (by omega)).mp e20
        refine kx_rn dM_worked 1 147 [(0, .ref m), (1, .int (nI row)), (2, .int (nI fr)), (3, .int (nI n1)), (4, .int (nI k))] [.ref m] rfl ?_
        refine pM_48 (v := .ref (m + 12)) rfl (kx_tk_dec rfl dM_worked) (mh_o hm) rfl ?_
        refine kx_rn dM_worked 1 151 [(0, .ref m), (1, .int (nI row)), (2, .int (nI fr)), (3, .int (nI n1)), (4, .int (nI k))] [.int 0, .ref (m + 12)] rfl ?_
        refine mh_ld (k := 12) (x := F 0) (i := 0) rfl rfl (kx_tk_dec rfl dM_worked) hm (by show 0 < 44; omega) ?_
        refine kx_ret (ty := .int) (kx_tk_dec rfl dM_worked) rfl rfl ?_
        rw [show (eR (fun c => A 5 (fr + c)) P (0, va_up (A 12) 0 1, dv) sz) = (n1, F, b) from by rw [← he, show k = sz by omega]]
        exact ⟨rfl, rfl⟩
      · skip
        replace e20 : ¬ nI sz ≤ nI k := e20
        replace e20 : ¬ sz ≤ k := fun z => e20 ((nI_leI (a := sz) (b := k) (by omega) (by omega)).mpr z)
        exfalso; omega
    | succ n ih =>
      intro k n1 b F hk he
      refine kx_rn dM_worked 2 15 [(0, .ref m), (1, .int (nI row)), (2, .int (nI fr)), (3, .int (nI n1)), (4, .int (nI k))] [.ref m, .int (nI k)] rfl ?_
      refine pM_38 (v := .ref (m + 9)) rfl (kx_tk_dec rfl dM_worked) (mh_o hm) rfl ?_
      refine kx_rn dM_worked 1 19 [(0, .ref m), (1, .int (nI row)), (2, .int (nI fr)), (3, .int (nI n1)), (4, .int (nI k))] [.int (nI row), .ref (m + 9), .int (nI k)] rfl ?_
      refine mh_ld (k := 9) (x := A 9 row) (i := row) rfl rfl (kx_tk_dec rfl dM_worked) hm (by show row < 6; omega) ?_
      rw [hsz]
      refine kx_ic (tgt := 146) (kx_tk_dec rfl dM_worked) rfl (fun e20 => ?_) (fun e20 => ?_)
      · skip
        replace e20 : nI sz ≤ nI k := e20
        replace e20 : sz ≤ k := (nI_leI (a := sz) (b := k) (by omega) (by omega)).mp e20
        exfalso; omega
      · skip
        replace e20 : ¬ nI sz ≤ nI k := e20
        replace e20 : ¬ sz ≤ k := fun z => e20 ((nI_leI (a := sz) (b := k) (by omega) (by omega)).mpr z)
        refine kx_rn dM_worked 1 24 [(0, .ref m), (1, .int (nI row)), (2, .int (nI fr)), (3, .int (nI n1)), (4, .int (nI k))] [.ref m] rfl ?_
        refine pM_35 (v := .ref (m + 8)) rfl (kx_tk_dec rfl dM_worked) (mh_o hm) rfl ?_
        refine kx_rn dM_worked 5 34 [(0, .ref m), (1, .int (nI row)), (2, .int (nI fr)), (3, .int (nI n1)), (4, .int (nI k))] [.int ((44 * (nI row)) + (nI k)), .ref (m + 8)] rfl ?_
        rw [show (44 * (nI row)) + (nI k) = nI ((44 * row) + k) from kn_ad (kn_mu rfl rfl) rfl]
        refine mh_ld (k := 8) (x := A 8 ((44 * row) + k)) (i := (44 * row) + k) rfl rfl (kx_tk_dec rfl dM_worked) hm (by show (44 * row) + k < 264; omega) ?_
        rw [hP k (by omega)]
        have hit := hwf.2 k (by omega)
        have hdk := dpt_le P k
        have hn1 : n1 = dpt P k := by rw [← eR_dpt (fun c => A 5 (fr + c)) P (va_up (A 12) 0 1) dv k, he]
        rw [← hn1] at hit
        rcases hit with ⟨v, hv, hPk⟩ | hPk | ⟨hPk, hlo⟩ | ⟨hPk, hlo⟩
        · rw [hPk]
          refine kx_rn dM_worked 3 41 [(0, .ref m), (1, .int (nI row)), (2, .int (nI fr)), (3, .int (nI n1)), (4, .int (nI k)), (5, .int (nI v))] [.int ((-4)), .int (nI v)] rfl ?_
          refine kx_ic (tgt := 77) (kx_tk_dec rfl dM_worked) rfl (fun e41 => ?_) (fun e41 => ?_)
          · skip
            replace e41 : nI v < (-4) := e41
            exact absurd e41 (nI_n4 hv)
          · skip
            replace e41 : ¬ nI v < (-4) := e41
            refine kx_rn dM_worked 1 45 [(0, .ref m), (1, .int (nI row)), (2, .int (nI fr)), (3, .int (nI n1)), (4, .int (nI k)), (5, .int (nI v))] [.ref m] rfl ?_
            refine pM_48 (v := .ref (m + 12)) rfl (kx_tk_dec rfl dM_worked) (mh_o hm) rfl ?_
            refine kx_rn dM_worked 2 51 [(0, .ref m), (1, .int (nI row)), (2, .int (nI fr)), (3, .int (nI n1)), (4, .int (nI k)), (5, .int (nI v))] [.int (nI v), .int (nI n1), .ref (m + 12)] rfl ?_
            refine kx_if (tgt := 59) (kx_tk_dec rfl dM_worked) rfl (fun e51 => ?_) (fun e51 => ?_)
            · skip
              replace e51 : nI v < 0 := e51
              replace e51 : v < 0 := (nI_ltI (a := v) (b := 0) (by omega) (by omega)).mp e51
              exact absurd e51 (Nat.not_lt_zero _)
            · skip
              replace e51 : ¬ nI v < 0 := e51
              replace e51 : ¬ v < 0 := fun z => e51 ((nI_ltI (a := v) (b := 0) (by omega) (by omega)).mpr z)
              refine kx_rn dM_worked 2 70 [(0, .ref m), (1, .int (nI row)), (2, .int (nI fr)), (3, .int (nI n1)), (4, .int (nI k)), (5, .int (nI v))] [.int (nI v), .int (nI n1), .ref (m + 12)] rfl ?_
              refine mh_st (k := 12) (i := n1) (A' := va_up A 12 (va_up F n1 (nI v))) rfl (kx_tk_dec rfl dM_worked) hm (by show n1 < 44; omega) (va_upup _ _ _ _) ?_
              refine kx_rn dM_worked 4 12 [(0, .ref m), (1, .int (nI row)), (2, .int (nI fr)), (3, .int ((nI n1) + 1)), (4, .int ((nI k) + 1)), (5, .int (nI v))] [] rfl ?_
              rw [show (nI n1) + 1 = nI (n1 + 1) from kn_ad rfl rfl]
              rw [show (nI k) + 1 = nI (k + 1) from kn_ad rfl rfl]
              refine kx_lsub (lv' := [(0, .ref m), (1, .int (nI row)), (2, .int (nI fr)), (3, .int (nI (n1 + 1))), (4, .int (nI (k + 1)))]) (.cons₂ _ (.cons₂ _ (.cons₂ _ (.cons₂ _ (.cons₂ _ (.cons _ .slnil)))))) ?_
              refine ih (k + 1) (n1 + 1) _ _ (by omega) ?_
              show eS _ (P k) _ = _
              rw [he, hPk]
              unfold eS
              rw [if_neg (nI_n4 hv), if_pos (by rw [kI_le, nI_toInt (by omega)]; have z : (0 : Int32).toInt = 0 := rfl; omega)]
        · rcases hPk with hPk | hPk | hPk | hPk
          · rw [hPk]
            refine kx_rn dM_worked 3 41 [(0, .ref m), (1, .int (nI row)), (2, .int (nI fr)), (3, .int (nI n1)), (4, .int (nI k)), (5, .int ((-1)))] [.int ((-4)), .int ((-1))] rfl ?_
            refine kx_ic (tgt := 77) (kx_tk_dec rfl dM_worked) rfl (fun e41 => ?_) (fun e41 => ?_)
            · skip
              replace e41 : ((-1) : Int32) < (-4) := e41
              exact absurd e41 (by decide)
            · skip
              replace e41 : ¬ ((-1) : Int32) < (-4) := e41
              refine kx_rn dM_worked 1 45 [(0, .ref m), (1, .int (nI row)), (2, .int (nI fr)), (3, .int (nI n1)), (4, .int (nI k)), (5, .int ((-1)))] [.ref m] rfl ?_
              refine pM_48 (v := .ref (m + 12)) rfl (kx_tk_dec rfl dM_worked) (mh_o hm) rfl ?_
              refine kx_rn dM_worked 2 51 [(0, .ref m), (1, .int (nI row)), (2, .int (nI fr)), (3, .int (nI n1)), (4, .int (nI k)), (5, .int ((-1)))] [.int ((-1)), .int (nI n1), .ref (m + 12)] rfl ?_
              refine kx_if (tgt := 59) (kx_tk_dec rfl dM_worked) rfl (fun e51 => ?_) (fun e51 => ?_)
              · skip
                replace e51 : ((-1) : Int32) < 0 := e51
                refine kx_rn dM_worked 1 60 [(0, .ref m), (1, .int (nI row)), (2, .int (nI fr)), (3, .int (nI n1)), (4, .int (nI k)), (5, .int ((-1)))] [.ref m, .int (nI n1), .ref (m + 12)] rfl ?_
                refine pM_22 (v := .ref (m + 5)) rfl (kx_tk_dec rfl dM_worked) (mh_o hm) rfl ?_
                refine kx_rn dM_worked 5 69 [(0, .ref m), (1, .int (nI row)), (2, .int (nI fr)), (3, .int (nI n1)), (4, .int (nI k)), (5, .int ((-1)))] [.int (((nI fr) - 1) - ((-1))), .ref (m + 5), .int (nI n1), .ref (m + 12)] rfl ?_
                rw [kn_col (f := fr) (c := 0) (x := -1) rfl]
                refine mh_ld (k := 5) (x := A 5 (fr + 0)) (i := fr + 0) rfl rfl (kx_tk_dec rfl dM_worked) hm (by show fr + 0 < 11520; omega) ?_
                refine mh_st (k := 12) (i := n1) (A' := va_up A 12 (va_up F n1 (A 5 (fr + 0)))) rfl (kx_tk_dec rfl dM_worked) hm (by show n1 < 44; omega) (va_upup _ _ _ _) ?_
                refine kx_rn dM_worked 4 12 [(0, .ref m), (1, .int (nI row)), (2, .int (nI fr)), (3, .int ((nI n1) + 1)), (4, .int ((nI k) + 1)), (5, .int ((-1)))] [] rfl ?_
                rw [show (nI n1) + 1 = nI (n1 + 1) from kn_ad rfl rfl]
                rw [show (nI k) + 1 = nI (k + 1) from kn_ad rfl rfl]
                refine kx_lsub (lv' := [(0, .ref m), (1, .int (nI row)), (2, .int (nI fr)), (3, .int (nI (n1 + 1))), (4, .int (nI (k + 1)))]) (.cons₂ _ (.cons₂ _ (.cons₂ _ (.cons₂ _ (.cons₂ _ (.cons _ .slnil)))))) ?_
                refine ih (k + 1) (n1 + 1) _ _ (by omega) ?_
                show eS _ (P k) _ = _
                rw [he, hPk]
                rfl
              · skip
                replace e51 : ¬ ((-1) : Int32) < 0 := e51
                exact absurd (by decide) e51
          · rw [hPk]
            refine kx_rn dM_worked 3 41 [(0, .ref m), (1, .int (nI row)), (2, .int (nI fr)), (3, .int (nI n1)), (4, .int (nI k)), (5, .int ((-2)))] [.int ((-4)), .int ((-2))] rfl ?_
            refine kx_ic (tgt := 77) (kx_tk_dec rfl dM_worked) rfl (fun e41 => ?_) (fun e41 => ?_)
            · skip
              replace e41 : ((-2) : Int32) < (-4) := e41
              exact absurd e41 (by decide)
            · skip
              replace e41 : ¬ ((-2) : Int32) < (-4) := e41
              refine kx_rn dM_worked 1 45 [(0, .ref m), (1, .int (nI row)), (2, .int (nI fr)), (3, .int (nI n1)), (4, .int (nI k)), (5, .int ((-2)))] [.ref m] rfl ?_
              refine pM_48 (v := .ref (m + 12)) rfl (kx_tk_dec rfl dM_worked) (mh_o hm) rfl ?_
              refine kx_rn dM_worked 2 51 [(0, .ref m), (1, .int (nI row)), (2, .int (nI fr)), (3, .int (nI n1)), (4, .int (nI k)), (5, .int ((-2)))] [.int ((-2)), .int (nI n1), .ref (m + 12)] rfl ?_
              refine kx_if (tgt := 59) (kx_tk_dec rfl dM_worked) rfl (fun e51 => ?_) (fun e51 => ?_)
              · skip
                replace e51 : ((-2) : Int32) < 0 := e51
                refine kx_rn dM_worked 1 60 [(0, .ref m), (1, .int (nI row)), (2, .int (nI fr)), (3, .int (nI n1)), (4, .int (nI k)), (5, .int ((-2)))] [.ref m, .int (nI n1), .ref (m + 12)] rfl ?_
                refine pM_22 (v := .ref (m + 5)) rfl (kx_tk_dec rfl dM_worked) (mh_o hm) rfl ?_
                refine kx_rn dM_worked 5 69 [(0, .ref m), (1, .int (nI row)), (2, .int (nI fr)), (3, .int (nI n1)), (4, .int (nI k)), (5, .int ((-2)))] [.int (((nI fr) - 1) - ((-2))), .ref (m + 5), .int (nI n1), .ref (m + 12)] rfl ?_
                rw [kn_col (f := fr) (c := 1) (x := -2) rfl]
                refine mh_ld (k := 5) (x := A 5 (fr + 1)) (i := fr + 1) rfl rfl (kx_tk_dec rfl dM_worked) hm (by show fr + 1 < 11520; omega) ?_
                refine mh_st (k := 12) (i := n1) (A' := va_up A 12 (va_up F n1 (A 5 (fr + 1)))) rfl (kx_tk_dec rfl dM_worked) hm (by show n1 < 44; omega) (va_upup _ _ _ _) ?_
                refine kx_rn dM_worked 4 12 [(0, .ref m), (1, .int (nI row)), (2, .int (nI fr)), (3, .int ((nI n1) + 1)), (4, .int ((nI k) + 1)), (5, .int ((-2)))] [] rfl ?_
                rw [show (nI n1) + 1 = nI (n1 + 1) from kn_ad rfl rfl]
                rw [show (nI k) + 1 = nI (k + 1) from kn_ad rfl rfl]
                refine kx_lsub (lv' := [(0, .ref m), (1, .int (nI row)), (2, .int (nI fr)), (3, .int (nI (n1 + 1))), (4, .int (nI (k + 1)))]) (.cons₂ _ (.cons₂ _ (.cons₂ _ (.cons₂ _ (.cons₂ _ (.cons _ .slnil)))))) ?_
                refine ih (k + 1) (n1 + 1) _ _ (by omega) ?_
                show eS _ (P k) _ = _
                rw [he, hPk]
                rfl
              · skip
                replace e51 : ¬ ((-2) : Int32) < 0 := e51
                exact absurd (by decide) e51
          · rw [hPk]
            refine kx_rn dM_worked 3 41 [(0, .ref m), (1, .int (nI row)), (2, .int (nI fr)), (3, .int (nI n1)), (4, .int (nI k)), (5, .int ((-3)))] [.int ((-4)), .int ((-3))] rfl ?_
            refine kx_ic (tgt := 77) (kx_tk_dec rfl dM_worked) rfl (fun e41 => ?_) (fun e41 => ?_)
            · skip
              replace e41 : ((-3) : Int32) < (-4) := e41
              exact absurd e41 (by decide)
            · skip
              replace e41 : ¬ ((-3) : Int32) < (-4) := e41
              refine kx_rn dM_worked 1 45 [(0, .ref m), (1, .int (nI row)), (2, .int (nI fr)), (3, .int (nI n1)), (4, .int (nI k)), (5, .int ((-3)))] [.ref m] rfl ?_
              refine pM_48 (v := .ref (m + 12)) rfl (kx_tk_dec rfl dM_worked) (mh_o hm) rfl ?_
              refine kx_rn dM_worked 2 51 [(0, .ref m), (1, .int (nI row)), (2, .int (nI fr)), (3, .int (nI n1)), (4, .int (nI k)), (5, .int ((-3)))] [.int ((-3)), .int (nI n1), .ref (m + 12)] rfl ?_
              refine kx_if (tgt := 59) (kx_tk_dec rfl dM_worked) rfl (fun e51 => ?_) (fun e51 => ?_)
              · skip
                replace e51 : ((-3) : Int32) < 0 := e51
                refine kx_rn dM_worked 1 60 [(0, .ref m), (1, .int (nI row)), (2, .int (nI fr)), (3, .int (nI n1)), (4, .int (nI k)), (5, .int ((-3)))] [.ref m, .int (nI n1), .ref (m + 12)] rfl ?_
                refine pM_22 (v := .ref (m + 5)) rfl (kx_tk_dec rfl dM_worked) (mh_o hm) rfl ?_
                refine kx_rn dM_worked 5 69 [(0, .ref m), (1, .int (nI row)), (2, .int (nI fr)), (3, .int (nI n1)), (4, .int (nI k)), (5, .int ((-3)))] [.int (((nI fr) - 1) - ((-3))), .ref (m + 5), .int (nI n1), .ref (m + 12)] rfl ?_
                rw [kn_col (f := fr) (c := 2) (x := -3) rfl]
                refine mh_ld (k := 5) (x := A 5 (fr + 2)) (i := fr + 2) rfl rfl (kx_tk_dec rfl dM_worked) hm (by show fr + 2 < 11520; omega) ?_
                refine mh_st (k := 12) (i := n1) (A' := va_up A 12 (va_up F n1 (A 5 (fr + 2)))) rfl (kx_tk_dec rfl dM_worked) hm (by show n1 < 44; omega) (va_upup _ _ _ _) ?_
                refine kx_rn dM_worked 4 12 [(0, .ref m), (1, .int (nI row)), (2, .int (nI fr)), (3, .int ((nI n1) + 1)), (4, .int ((nI k) + 1)), (5, .int ((-3)))] [] rfl ?_
                rw [show (nI n1) + 1 = nI (n1 + 1) from kn_ad rfl rfl]
                rw [show (nI k) + 1 = nI (k + 1) from kn_ad rfl rfl]
                refine kx_lsub (lv' := [(0, .ref m), (1, .int (nI row)), (2, .int (nI fr)), (3, .int (nI (n1 + 1))), (4, .int (nI (k + 1)))]) (.cons₂ _ (.cons₂ _ (.cons₂ _ (.cons₂ _ (.cons₂ _ (.cons _ .slnil)))))) ?_
                refine ih (k + 1) (n1 + 1) _ _ (by omega) ?_
                show eS _ (P k) _ = _
                rw [he, hPk]
                rfl
              · skip
                replace e51 : ¬ ((-3) : Int32) < 0 := e51
                exact absurd (by decide) e51
          · rw [hPk]
            refine kx_rn dM_worked 3 41 [(0, .ref m), (1, .int (nI row)), (2, .int (nI fr)), (3, .int (nI n1)), (4, .int (nI k)), (5, .int ((-4)))] [.int ((-4)), .int ((-4))] rfl ?_
            refine kx_ic (tgt := 77) (kx_tk_dec rfl dM_worked) rfl (fun e41 => ?_) (fun e41 => ?_)
            · skip
              replace e41 : ((-4) : Int32) < (-4) := e41
              exact absurd e41 (by decide)
            · skip
              replace e41 : ¬ ((-4) : Int32) < (-4) := e41
              refine kx_rn dM_worked 1 45 [(0, .ref m), (1, .int (nI row)), (2, .int (nI fr)), (3, .int (nI n1)), (4, .int (nI k)), (5, .int ((-4)))] [.ref m] rfl ?_
              refine pM_48 (v := .ref (m + 12)) rfl (kx_tk_dec rfl dM_worked) (mh_o hm) rfl ?_
              refine kx_rn dM_worked 2 51 [(0, .ref m), (1, .int (nI row)), (2, .int (nI fr)), (3, .int (nI n1)), (4, .int (nI k)), (5, .int ((-4)))] [.int ((-4)), .int (nI n1), .ref (m + 12)] rfl ?_
              refine kx_if (tgt := 59) (kx_tk_dec rfl dM_worked) rfl (fun e51 => ?_) (fun e51 => ?_)
              · skip
                replace e51 : ((-4) : Int32) < 0 := e51
                refine kx_rn dM_worked 1 60 [(0, .ref m), (1, .int (nI row)), (2, .int (nI fr)), (3, .int (nI n1)), (4, .int (nI k)), (5, .int ((-4)))] [.ref m, .int (nI n1), .ref (m + 12)] rfl ?_
                refine pM_22 (v := .ref (m + 5)) rfl (kx_tk_dec rfl dM_worked) (mh_o hm) rfl ?_
                refine kx_rn dM_worked 5 69 [(0, .ref m), (1, .int (nI row)), (2, .int (nI fr)), (3, .int (nI n1)), (4, .int (nI k)), (5, .int ((-4)))] [.int (((nI fr) - 1) - ((-4))), .ref (m + 5), .int (nI n1), .ref (m + 12)] rfl ?_
                rw [kn_col (f := fr) (c := 3) (x := -4) rfl]
                refine mh_ld (k := 5) (x := A 5 (fr + 3)) (i := fr + 3) rfl rfl (kx_tk_dec rfl dM_worked) hm (by show fr + 3 < 11520; omega) ?_
                refine mh_st (k := 12) (i := n1) (A' := va_up A 12 (va_up F n1 (A 5 (fr + 3)))) rfl (kx_tk_dec rfl dM_worked) hm (by show n1 < 44; omega) (va_upup _ _ _ _) ?_
                refine kx_rn dM_worked 4 12 [(0, .ref m), (1, .int (nI row)), (2, .int (nI fr)), (3, .int ((nI n1) + 1)), (4, .int ((nI k) + 1)), (5, .int ((-4)))] [] rfl ?_
                rw [show (nI n1) + 1 = nI (n1 + 1) from kn_ad rfl rfl]
                rw [show (nI k) + 1 = nI (k + 1) from kn_ad rfl rfl]
                refine kx_lsub (lv' := [(0, .ref m), (1, .int (nI row)), (2, .int (nI fr)), (3, .int (nI (n1 + 1))), (4, .int (nI (k + 1)))]) (.cons₂ _ (.cons₂ _ (.cons₂ _ (.cons₂ _ (.cons₂ _ (.cons _ .slnil)))))) ?_
                refine ih (k + 1) (n1 + 1) _ _ (by omega) ?_
                show eS _ (P k) _ = _
                rw [he, hPk]
                rfl
              · skip
                replace e51 : ¬ ((-4) : Int32) < 0 := e51
                exact absurd (by decide) e51
        · rw [hPk]
          refine kx_rn dM_worked 3 41 [(0, .ref m), (1, .int (nI row)), (2, .int (nI fr)), (3, .int (nI n1)), (4, .int (nI k)), (5, .int ((-133)))] [.int ((-4)), .int ((-133))] rfl ?_
          refine kx_ic (tgt := 77) (kx_tk_dec rfl dM_worked) rfl (fun e41 => ?_) (fun e41 => ?_)
          · skip
            replace e41 : ((-133) : Int32) < (-4) := e41
            refine kx_rn dM_worked 2 82 [(0, .ref m), (1, .int (nI row)), (2, .int (nI fr)), (3, .int (nI n1)), (4, .int (nI k)), (5, .int ((-133)))] [.int ((-133)), .int ((-133))] rfl ?_
            refine kx_ic (tgt := 106) (kx_tk_dec rfl dM_worked) rfl (fun e82 => ?_) (fun e82 => ?_)
            · skip
              replace e82 : ¬ ((-133) : Int32) = (-133) := e82
              exact absurd (by decide) e82
            · skip
              replace e82 : ((-133) : Int32) = (-133) := e82
              refine kx_rn dM_worked 1 86 [(0, .ref m), (1, .int (nI row)), (2, .int (nI fr)), (3, .int (nI n1)), (4, .int (nI k)), (5, .int ((-133)))] [.ref m] rfl ?_
              refine pM_48 (v := .ref (m + 12)) rfl (kx_tk_dec rfl dM_worked) (mh_o hm) rfl ?_
              refine kx_rn dM_worked 5 94 [(0, .ref m), (1, .int (nI row)), (2, .int (nI fr)), (3, .int (nI n1)), (4, .int (nI k)), (5, .int ((-133)))] [.ref m, .int 1, .int ((nI n1) - 1), .ref (m + 12)] rfl ?_
              rw [show (nI n1) - 1 = nI (n1 - 1) from kn_su rfl rfl (by omega)]
              refine pM_48 (v := .ref (m + 12)) rfl (kx_tk_dec rfl dM_worked) (mh_o hm) rfl ?_
              refine kx_rn dM_worked 3 100 [(0, .ref m), (1, .int (nI row)), (2, .int (nI fr)), (3, .int (nI n1)), (4, .int (nI k)), (5, .int ((-133)))] [.int ((nI n1) - 1), .ref (m + 12), .int 1, .int (nI (n1 - 1)), .ref (m + 12)] rfl ?_
              rw [show (nI n1) - 1 = nI (n1 - 1) from kn_su rfl rfl (by omega)]
              refine mh_ld (k := 12) (x := F (n1 - 1)) (i := n1 - 1) rfl rfl (kx_tk_dec rfl dM_worked) hm (by show n1 - 1 < 44; omega) ?_
              refine kx_rn dM_worked 1 102 [(0, .ref m), (1, .int (nI row)), (2, .int (nI fr)), (3, .int (nI n1)), (4, .int (nI k)), (5, .int ((-133)))] [.int (1 - (F (n1 - 1))), .int (nI (n1 - 1)), .ref (m + 12)] rfl ?_
              refine mh_st (k := 12) (i := n1 - 1) (A' := va_up A 12 (va_up F (n1 - 1) (1 - (F (n1 - 1))))) rfl (kx_tk_dec rfl dM_worked) hm (by show n1 - 1 < 44; omega) (va_upup _ _ _ _) ?_
              refine kx_rn dM_worked 3 12 [(0, .ref m), (1, .int (nI row)), (2, .int (nI fr)), (3, .int (nI n1)), (4, .int ((nI k) + 1)), (5, .int ((-133)))] [] rfl ?_
              rw [show (nI k) + 1 = nI (k + 1) from kn_ad rfl rfl]
              refine kx_lsub (lv' := [(0, .ref m), (1, .int (nI row)), (2, .int (nI fr)), (3, .int (nI n1)), (4, .int (nI (k + 1)))]) (.cons₂ _ (.cons₂ _ (.cons₂ _ (.cons₂ _ (.cons₂ _ (.cons _ .slnil)))))) ?_
              refine ih (k + 1) n1 _ _ (by omega) ?_
              show eS _ (P k) _ = _
              rw [he, hPk]
              rfl
          · skip
            replace e41 : ¬ ((-133) : Int32) < (-4) := e41
            exact absurd (by decide) e41
        · rcases hPk with hPk | hPk | hPk | hPk | hPk | hPk | hPk | hPk | hPk | hPk
          · rw [hPk]
            refine kx_rn dM_worked 3 41 [(0, .ref m), (1, .int (nI row)), (2, .int (nI fr)), (3, .int (nI n1)), (4, .int (nI k)), (5, .int ((-143)))] [.int ((-4)), .int ((-143))] rfl ?_
            refine kx_ic (tgt := 77) (kx_tk_dec rfl dM_worked) rfl (fun e41 => ?_) (fun e41 => ?_)
            · skip
              replace e41 : ((-143) : Int32) < (-4) := e41
              refine kx_rn dM_worked 2 82 [(0, .ref m), (1, .int (nI row)), (2, .int (nI fr)), (3, .int (nI n1)), (4, .int (nI k)), (5, .int ((-143)))] [.int ((-133)), .int ((-143))] rfl ?_
              refine kx_ic (tgt := 106) (kx_tk_dec rfl dM_worked) rfl (fun e82 => ?_) (fun e82 => ?_)
              · skip
                replace e82 : ¬ ((-143) : Int32) = (-133) := e82
                refine kx_rn dM_worked 2 110 [(0, .ref m), (1, .int (nI row)), (2, .int (nI fr)), (3, .int ((nI n1) + (-1))), (4, .int (nI k)), (5, .int ((-143)))] [.ref m] rfl ?_
                rw [show (nI n1) + (-1) = nI (n1 - 1) from kn_sa rfl rfl (by omega)]
                refine pM_48 (v := .ref (m + 12)) rfl (kx_tk_dec rfl dM_worked) (mh_o hm) rfl ?_
                refine kx_rn dM_worked 8 123 [(0, .ref m), (1, .int (nI row)), (2, .int (nI fr)), (3, .int (nI (n1 - 1))), (4, .int (nI k)), (5, .int ((-143)))] [.ref m, .int 43, .ref m, .int ((nI (n1 - 1)) - 1), .ref (m + 12)] rfl ?_
                rw [show (nI (n1 - 1)) - 1 = nI ((n1 - 1) - 1) from kn_su rfl rfl (by omega)]
                refine pM_48 (v := .ref (m + 12)) rfl (kx_tk_dec rfl dM_worked) (mh_o hm) rfl ?_
                refine kx_rn dM_worked 3 129 [(0, .ref m), (1, .int (nI row)), (2, .int (nI fr)), (3, .int (nI (n1 - 1))), (4, .int (nI k)), (5, .int ((-143)))] [.int ((nI (n1 - 1)) - 1), .ref (m + 12), .int 43, .ref m, .int (nI ((n1 - 1) - 1)), .ref (m + 12)] rfl ?_
                rw [show (nI (n1 - 1)) - 1 = nI ((n1 - 1) - 1) from kn_su rfl rfl (by omega)]
                refine mh_ld (k := 12) (x := F ((n1 - 1) - 1)) (i := (n1 - 1) - 1) rfl rfl (kx_tk_dec rfl dM_worked) hm (by show (n1 - 1) - 1 < 44; omega) ?_
                refine kx_rn dM_worked 1 131 [(0, .ref m), (1, .int (nI row)), (2, .int (nI fr)), (3, .int (nI (n1 - 1))), (4, .int (nI k)), (5, .int ((-143)))] [.ref m, .int (F ((n1 - 1) - 1)), .int 43, .ref m, .int (nI ((n1 - 1) - 1)), .ref (m + 12)] rfl ?_
                refine pM_48 (v := .ref (m + 12)) rfl (kx_tk_dec rfl dM_worked) (mh_o hm) rfl ?_
                refine kx_rn dM_worked 1 135 [(0, .ref m), (1, .int (nI row)), (2, .int (nI fr)), (3, .int (nI (n1 - 1))), (4, .int (nI k)), (5, .int ((-143)))] [.int (nI (n1 - 1)), .ref (m + 12), .int (F ((n1 - 1) - 1)), .int 43, .ref m, .int (nI ((n1 - 1) - 1)), .ref (m + 12)] rfl ?_
                refine mh_ld (k := 12) (x := F (n1 - 1)) (i := n1 - 1) rfl rfl (kx_tk_dec rfl dM_worked) hm (by show n1 - 1 < 44; omega) ?_
                refine cM_152 (as := [.int 43, .int (F ((n1 - 1) - 1)), .int (F (n1 - 1))]) (st := [.int (nI ((n1 - 1) - 1)), .ref (m + 12)]) (mc := 0) (ms := 0) (kc := 0) (ks := 0) rfl (kx_tk_dec rfl dM_worked) (mh_o hm) rfl rfl (Nat.le_of_ble_eq_true rfl) (cM_done (sg := 43) (dv := b) hst hm (by decide) rfl) (fun o h' hq => ?_)
                obtain ⟨rfl, rfl⟩ := hq
                show kx_w _ _ _ _ _ _ _ _ _ _ _
                rw [va_upup]
                refine mh_st (k := 12) (i := (n1 - 1) - 1) (A' := va_up A 12 (va_up F ((n1 - 1) - 1) (dvO 43 (F ((n1 - 1) - 1)) (F (n1 - 1))))) rfl (kx_tk_dec rfl dM_worked) hm (by show (n1 - 1) - 1 < 44; omega) (va_upup _ _ _ _) ?_
                refine kx_rn dM_worked 2 12 [(0, .ref m), (1, .int (nI row)), (2, .int (nI fr)), (3, .int (nI (n1 - 1))), (4, .int ((nI k) + 1)), (5, .int ((-143)))] [] rfl ?_
                rw [show (nI k) + 1 = nI (k + 1) from kn_ad rfl rfl]
                refine kx_lsub (lv' := [(0, .ref m), (1, .int (nI row)), (2, .int (nI fr)), (3, .int (nI (n1 - 1))), (4, .int (nI (k + 1)))]) (.cons₂ _ (.cons₂ _ (.cons₂ _ (.cons₂ _ (.cons₂ _ (.cons _ .slnil)))))) ?_
                refine ih (k + 1) (n1 - 1) _ _ (by omega) ?_
                show eS _ (P k) _ = _
                rw [he, hPk]
                rfl
              · skip
                replace e82 : ((-143) : Int32) = (-133) := e82
                exact absurd e82 (by decide)
            · skip
              replace e41 : ¬ ((-143) : Int32) < (-4) := e41
              exact absurd (by decide) e41
          · rw [hPk]
            refine kx_rn dM_worked 3 41 [(0, .ref m), (1, .int (nI row)), (2, .int (nI fr)), (3, .int (nI n1)), (4, .int (nI k)), (5, .int ((-145)))] [.int ((-4)), .int ((-145))] rfl ?_
            refine kx_ic (tgt := 77) (kx_tk_dec rfl dM_worked) rfl (fun e41 => ?_) (fun e41 => ?_)
            · skip
              replace e41 : ((-145) : Int32) < (-4) := e41
              refine kx_rn dM_worked 2 82 [(0, .ref m), (1, .int (nI row)), (2, .int (nI fr)), (3, .int (nI n1)), (4, .int (nI k)), (5, .int ((-145)))] [.int ((-133)), .int ((-145))] rfl ?_
              refine kx_ic (tgt := 106) (kx_tk_dec rfl dM_worked) rfl (fun e82 => ?_) (fun e82 => ?_)
              · skip
                replace e82 : ¬ ((-145) : Int32) = (-133) := e82
                refine kx_rn dM_worked 2 110 [(0, .ref m), (1, .int (nI row)), (2, .int (nI fr)), (3, .int ((nI n1) + (-1))), (4, .int (nI k)), (5, .int ((-145)))] [.ref m] rfl ?_
                rw [show (nI n1) + (-1) = nI (n1 - 1) from kn_sa rfl rfl (by omega)]
                refine pM_48 (v := .ref (m + 12)) rfl (kx_tk_dec rfl dM_worked) (mh_o hm) rfl ?_
                refine kx_rn dM_worked 8 123 [(0, .ref m), (1, .int (nI row)), (2, .int (nI fr)), (3, .int (nI (n1 - 1))), (4, .int (nI k)), (5, .int ((-145)))] [.ref m, .int 45, .ref m, .int ((nI (n1 - 1)) - 1), .ref (m + 12)] rfl ?_
                rw [show (nI (n1 - 1)) - 1 = nI ((n1 - 1) - 1) from kn_su rfl rfl (by omega)]
                refine pM_48 (v := .ref (m + 12)) rfl (kx_tk_dec rfl dM_worked) (mh_o hm) rfl ?_
                refine kx_rn dM_worked 3 129 [(0, .ref m), (1, .int (nI row)), (2, .int (nI fr)), (3, .int (nI (n1 - 1))), (4, .int (nI k)), (5, .int ((-145)))] [.int ((nI (n1 - 1)) - 1), .ref (m + 12), .int 45, .ref m, .int (nI ((n1 - 1) - 1)), .ref (m + 12)] rfl ?_
                rw [show (nI (n1 - 1)) - 1 = nI ((n1 - 1) - 1) from kn_su rfl rfl (by omega)]
                refine mh_ld (k := 12) (x := F ((n1 - 1) - 1)) (i := (n1 - 1) - 1) rfl rfl (kx_tk_dec rfl dM_worked) hm (by show (n1 - 1) - 1 < 44; omega) ?_
                refine kx_rn dM_worked 1 131 [(0, .ref m), (1, .int (nI row)), (2, .int (nI fr)), (3, .int (nI (n1 - 1))), (4, .int (nI k)), (5, .int ((-145)))] [.ref m, .int (F ((n1 - 1) - 1)), .int 45, .ref m, .int (nI ((n1 - 1) - 1)), .ref (m + 12)] rfl ?_
                refine pM_48 (v := .ref (m + 12)) rfl (kx_tk_dec rfl dM_worked) (mh_o hm) rfl ?_
                refine kx_rn dM_worked 1 135 [(0, .ref m), (1, .int (nI row)), (2, .int (nI fr)), (3, .int (nI (n1 - 1))), (4, .int (nI k)), (5, .int ((-145)))] [.int (nI (n1 - 1)), .ref (m + 12), .int (F ((n1 - 1) - 1)), .int 45, .ref m, .int (nI ((n1 - 1) - 1)), .ref (m + 12)] rfl ?_
                refine mh_ld (k := 12) (x := F (n1 - 1)) (i := n1 - 1) rfl rfl (kx_tk_dec rfl dM_worked) hm (by show n1 - 1 < 44; omega) ?_
                refine cM_152 (as := [.int 45, .int (F ((n1 - 1) - 1)), .int (F (n1 - 1))]) (st := [.int (nI ((n1 - 1) - 1)), .ref (m + 12)]) (mc := 0) (ms := 0) (kc := 0) (ks := 0) rfl (kx_tk_dec rfl dM_worked) (mh_o hm) rfl rfl (Nat.le_of_ble_eq_true rfl) (cM_done (sg := 45) (dv := b) hst hm (by decide) rfl) (fun o h' hq => ?_)
                obtain ⟨rfl, rfl⟩ := hq
                show kx_w _ _ _ _ _ _ _ _ _ _ _
                rw [va_upup]
                refine mh_st (k := 12) (i := (n1 - 1) - 1) (A' := va_up A 12 (va_up F ((n1 - 1) - 1) (dvO 45 (F ((n1 - 1) - 1)) (F (n1 - 1))))) rfl (kx_tk_dec rfl dM_worked) hm (by show (n1 - 1) - 1 < 44; omega) (va_upup _ _ _ _) ?_
                refine kx_rn dM_worked 2 12 [(0, .ref m), (1, .int (nI row)), (2, .int (nI fr)), (3, .int (nI (n1 - 1))), (4, .int ((nI k) + 1)), (5, .int ((-145)))] [] rfl ?_
                rw [show (nI k) + 1 = nI (k + 1) from kn_ad rfl rfl]
                refine kx_lsub (lv' := [(0, .ref m), (1, .int (nI row)), (2, .int (nI fr)), (3, .int (nI (n1 - 1))), (4, .int (nI (k + 1)))]) (.cons₂ _ (.cons₂ _ (.cons₂ _ (.cons₂ _ (.cons₂ _ (.cons _ .slnil)))))) ?_
                refine ih (k + 1) (n1 - 1) _ _ (by omega) ?_
                show eS _ (P k) _ = _
                rw [he, hPk]
                rfl
              · skip
                replace e82 : ((-145) : Int32) = (-133) := e82
                exact absurd e82 (by decide)
            · skip
              replace e41 : ¬ ((-145) : Int32) < (-4) := e41
              exact absurd (by decide) e41
          · rw [hPk]
            refine kx_rn dM_worked 3 41 [(0, .ref m), (1, .int (nI row)), (2, .int (nI fr)), (3, .int (nI n1)), (4, .int (nI k)), (5, .int ((-142)))] [.int ((-4)), .int ((-142))] rfl ?_
            refine kx_ic (tgt := 77) (kx_tk_dec rfl dM_worked) rfl (fun e41 => ?_) (fun e41 => ?_)
            · skip
              replace e41 : ((-142) : Int32) < (-4) := e41
              refine kx_rn dM_worked 2 82 [(0, .ref m), (1, .int (nI row)), (2, .int (nI fr)), (3, .int (nI n1)), (4, .int (nI k)), (5, .int ((-142)))] [.int ((-133)), .int ((-142))] rfl ?_
              refine kx_ic (tgt := 106) (kx_tk_dec rfl dM_worked) rfl (fun e82 => ?_) (fun e82 => ?_)
              · skip
                replace e82 : ¬ ((-142) : Int32) = (-133) := e82
                refine kx_rn dM_worked 2 110 [(0, .ref m), (1, .int (nI row)), (2, .int (nI fr)), (3, .int ((nI n1) + (-1))), (4, .int (nI k)), (5, .int ((-142)))] [.ref m] rfl ?_
                rw [show (nI n1) + (-1) = nI (n1 - 1) from kn_sa rfl rfl (by omega)]
                refine pM_48 (v := .ref (m + 12)) rfl (kx_tk_dec rfl dM_worked) (mh_o hm) rfl ?_
                refine kx_rn dM_worked 8 123 [(0, .ref m), (1, .int (nI row)), (2, .int (nI fr)), (3, .int (nI (n1 - 1))), (4, .int (nI k)), (5, .int ((-142)))] [.ref m, .int 42, .ref m, .int ((nI (n1 - 1)) - 1), .ref (m + 12)] rfl ?_
                rw [show (nI (n1 - 1)) - 1 = nI ((n1 - 1) - 1) from kn_su rfl rfl (by omega)]
                refine pM_48 (v := .ref (m + 12)) rfl (kx_tk_dec rfl dM_worked) (mh_o hm) rfl ?_
                refine kx_rn dM_worked 3 129 [(0, .ref m), (1, .int (nI row)), (2, .int (nI fr)), (3, .int (nI (n1 - 1))), (4, .int (nI k)), (5, .int ((-142)))] [.int ((nI (n1 - 1)) - 1), .ref (m + 12), .int 42, .ref m, .int (nI ((n1 - 1) - 1)), .ref (m + 12)] rfl ?_
                rw [show (nI (n1 - 1)) - 1 = nI ((n1 - 1) - 1) from kn_su rfl rfl (by omega)]
                refine mh_ld (k := 12) (x := F ((n1 - 1) - 1)) (i := (n1 - 1) - 1) rfl rfl (kx_tk_dec rfl dM_worked) hm (by show (n1 - 1) - 1 < 44; omega) ?_
                refine kx_rn dM_worked 1 131 [(0, .ref m), (1, .int (nI row)), (2, .int (nI fr)), (3, .int (nI (n1 - 1))), (4, .int (nI k)), (5, .int ((-142)))] [.ref m, .int (F ((n1 - 1) - 1)), .int 42, .ref m, .int (nI ((n1 - 1) - 1)), .ref (m + 12)] rfl ?_
                refine pM_48 (v := .ref (m + 12)) rfl (kx_tk_dec rfl dM_worked) (mh_o hm) rfl ?_
                refine kx_rn dM_worked 1 135 [(0, .ref m), (1, .int (nI row)), (2, .int (nI fr)), (3, .int (nI (n1 - 1))), (4, .int (nI k)), (5, .int ((-142)))] [.int (nI (n1 - 1)), .ref (m + 12), .int (F ((n1 - 1) - 1)), .int 42, .ref m, .int (nI ((n1 - 1) - 1)), .ref (m + 12)] rfl ?_
                refine mh_ld (k := 12) (x := F (n1 - 1)) (i := n1 - 1) rfl rfl (kx_tk_dec rfl dM_worked) hm (by show n1 - 1 < 44; omega) ?_
                refine cM_152 (as := [.int 42, .int (F ((n1 - 1) - 1)), .int (F (n1 - 1))]) (st := [.int (nI ((n1 - 1) - 1)), .ref (m + 12)]) (mc := 0) (ms := 0) (kc := 0) (ks := 0) rfl (kx_tk_dec rfl dM_worked) (mh_o hm) rfl rfl (Nat.le_of_ble_eq_true rfl) (cM_done (sg := 42) (dv := b) hst hm (by decide) rfl) (fun o h' hq => ?_)
                obtain ⟨rfl, rfl⟩ := hq
                show kx_w _ _ _ _ _ _ _ _ _ _ _
                rw [va_upup]
                refine mh_st (k := 12) (i := (n1 - 1) - 1) (A' := va_up A 12 (va_up F ((n1 - 1) - 1) (dvO 42 (F ((n1 - 1) - 1)) (F (n1 - 1))))) rfl (kx_tk_dec rfl dM_worked) hm (by show (n1 - 1) - 1 < 44; omega) (va_upup _ _ _ _) ?_
                refine kx_rn dM_worked 2 12 [(0, .ref m), (1, .int (nI row)), (2, .int (nI fr)), (3, .int (nI (n1 - 1))), (4, .int ((nI k) + 1)), (5, .int ((-142)))] [] rfl ?_
                rw [show (nI k) + 1 = nI (k + 1) from kn_ad rfl rfl]
                refine kx_lsub (lv' := [(0, .ref m), (1, .int (nI row)), (2, .int (nI fr)), (3, .int (nI (n1 - 1))), (4, .int (nI (k + 1)))]) (.cons₂ _ (.cons₂ _ (.cons₂ _ (.cons₂ _ (.cons₂ _ (.cons _ .slnil)))))) ?_
                refine ih (k + 1) (n1 - 1) _ _ (by omega) ?_
                show eS _ (P k) _ = _
                rw [he, hPk]
                rfl
              · skip
                replace e82 : ((-142) : Int32) = (-133) := e82
                exact absurd e82 (by decide)
            · skip
              replace e41 : ¬ ((-142) : Int32) < (-4) := e41
              exact absurd (by decide) e41
          · rw [hPk]
            refine kx_rn dM_worked 3 41 [(0, .ref m), (1, .int (nI row)), (2, .int (nI fr)), (3, .int (nI n1)), (4, .int (nI k)), (5, .int ((-147)))] [.int ((-4)), .int ((-147))] rfl ?_
            refine kx_ic (tgt := 77) (kx_tk_dec rfl dM_worked) rfl (fun e41 => ?_) (fun e41 => ?_)
            · skip
              replace e41 : ((-147) : Int32) < (-4) := e41
              refine kx_rn dM_worked 2 82 [(0, .ref m), (1, .int (nI row)), (2, .int (nI fr)), (3, .int (nI n1)), (4, .int (nI k)), (5, .int ((-147)))] [.int ((-133)), .int ((-147))] rfl ?_
              refine kx_ic (tgt := 106) (kx_tk_dec rfl dM_worked) rfl (fun e82 => ?_) (fun e82 => ?_)
              · skip
                replace e82 : ¬ ((-147) : Int32) = (-133) := e82
                refine kx_rn dM_worked 2 110 [(0, .ref m), (1, .int (nI row)), (2, .int (nI fr)), (3, .int ((nI n1) + (-1))), (4, .int (nI k)), (5, .int ((-147)))] [.ref m] rfl ?_
                rw [show (nI n1) + (-1) = nI (n1 - 1) from kn_sa rfl rfl (by omega)]
                refine pM_48 (v := .ref (m + 12)) rfl (kx_tk_dec rfl dM_worked) (mh_o hm) rfl ?_
                refine kx_rn dM_worked 8 123 [(0, .ref m), (1, .int (nI row)), (2, .int (nI fr)), (3, .int (nI (n1 - 1))), (4, .int (nI k)), (5, .int ((-147)))] [.ref m, .int 47, .ref m, .int ((nI (n1 - 1)) - 1), .ref (m + 12)] rfl ?_
                rw [show (nI (n1 - 1)) - 1 = nI ((n1 - 1) - 1) from kn_su rfl rfl (by omega)]
                refine pM_48 (v := .ref (m + 12)) rfl (kx_tk_dec rfl dM_worked) (mh_o hm) rfl ?_
                refine kx_rn dM_worked 3 129 [(0, .ref m), (1, .int (nI row)), (2, .int (nI fr)), (3, .int (nI (n1 - 1))), (4, .int (nI k)), (5, .int ((-147)))] [.int ((nI (n1 - 1)) - 1), .ref (m + 12), .int 47, .ref m, .int (nI ((n1 - 1) - 1)), .ref (m + 12)] rfl ?_
                rw [show (nI (n1 - 1)) - 1 = nI ((n1 - 1) - 1) from kn_su rfl rfl (by omega)]
                refine mh_ld (k := 12) (x := F ((n1 - 1) - 1)) (i := (n1 - 1) - 1) rfl rfl (kx_tk_dec rfl dM_worked) hm (by show (n1 - 1) - 1 < 44; omega) ?_
                refine kx_rn dM_worked 1 131 [(0, .ref m), (1, .int (nI row)), (2, .int (nI fr)), (3, .int (nI (n1 - 1))), (4, .int (nI k)), (5, .int ((-147)))] [.ref m, .int (F ((n1 - 1) - 1)), .int 47, .ref m, .int (nI ((n1 - 1) - 1)), .ref (m + 12)] rfl ?_
                refine pM_48 (v := .ref (m + 12)) rfl (kx_tk_dec rfl dM_worked) (mh_o hm) rfl ?_
                refine kx_rn dM_worked 1 135 [(0, .ref m), (1, .int (nI row)), (2, .int (nI fr)), (3, .int (nI (n1 - 1))), (4, .int (nI k)), (5, .int ((-147)))] [.int (nI (n1 - 1)), .ref (m + 12), .int (F ((n1 - 1) - 1)), .int 47, .ref m, .int (nI ((n1 - 1) - 1)), .ref (m + 12)] rfl ?_
                refine mh_ld (k := 12) (x := F (n1 - 1)) (i := n1 - 1) rfl rfl (kx_tk_dec rfl dM_worked) hm (by show n1 - 1 < 44; omega) ?_
                refine cM_152 (as := [.int 47, .int (F ((n1 - 1) - 1)), .int (F (n1 - 1))]) (st := [.int (nI ((n1 - 1) - 1)), .ref (m + 12)]) (mc := 0) (ms := 0) (kc := 0) (ks := 0) rfl (kx_tk_dec rfl dM_worked) (mh_o hm) rfl rfl (Nat.le_of_ble_eq_true rfl) (cM_done (sg := 47) (dv := b) hst hm (by decide) rfl) (fun o h' hq => ?_)
                obtain ⟨rfl, rfl⟩ := hq
                show kx_w _ _ _ _ _ _ _ _ _ _ _
                rw [va_upup]
                refine mh_st (k := 12) (i := (n1 - 1) - 1) (A' := va_up A 12 (va_up F ((n1 - 1) - 1) (dvO 47 (F ((n1 - 1) - 1)) (F (n1 - 1))))) rfl (kx_tk_dec rfl dM_worked) hm (by show (n1 - 1) - 1 < 44; omega) (va_upup _ _ _ _) ?_
                refine kx_rn dM_worked 2 12 [(0, .ref m), (1, .int (nI row)), (2, .int (nI fr)), (3, .int (nI (n1 - 1))), (4, .int ((nI k) + 1)), (5, .int ((-147)))] [] rfl ?_
                rw [show (nI k) + 1 = nI (k + 1) from kn_ad rfl rfl]
                refine kx_lsub (lv' := [(0, .ref m), (1, .int (nI row)), (2, .int (nI fr)), (3, .int (nI (n1 - 1))), (4, .int (nI (k + 1)))]) (.cons₂ _ (.cons₂ _ (.cons₂ _ (.cons₂ _ (.cons₂ _ (.cons _ .slnil)))))) ?_
                refine ih (k + 1) (n1 - 1) _ _ (by omega) ?_
                show eS _ (P k) _ = _
                rw [he, hPk]
                rfl
              · skip
                replace e82 : ((-147) : Int32) = (-133) := e82
                exact absurd e82 (by decide)
            · skip
              replace e41 : ¬ ((-147) : Int32) < (-4) := e41
              exact absurd (by decide) e41
          · rw [hPk]
            refine kx_rn dM_worked 3 41 [(0, .ref m), (1, .int (nI row)), (2, .int (nI fr)), (3, .int (nI n1)), (4, .int (nI k)), (5, .int ((-161)))] [.int ((-4)), .int ((-161))] rfl ?_
            refine kx_ic (tgt := 77) (kx_tk_dec rfl dM_worked) rfl (fun e41 => ?_) (fun e41 => ?_)
            · skip
              replace e41 : ((-161) : Int32) < (-4) := e41
              refine kx_rn dM_worked 2 82 [(0, .ref m), (1, .int (nI row)), (2, .int (nI fr)), (3, .int (nI n1)), (4, .int (nI k)), (5, .int ((-161)))] [.int ((-133)), .int ((-161))] rfl ?_
              refine kx_ic (tgt := 106) (kx_tk_dec rfl dM_worked) rfl (fun e82 => ?_) (fun e82 => ?_)
              · skip
                replace e82 : ¬ ((-161) : Int32) = (-133) := e82
                refine kx_rn dM_worked 2 110 [(0, .ref m), (1, .int (nI row)), (2, .int (nI fr)), (3, .int ((nI n1) + (-1))), (4, .int (nI k)), (5, .int ((-161)))] [.ref m] rfl ?_
                rw [show (nI n1) + (-1) = nI (n1 - 1) from kn_sa rfl rfl (by omega)]
                refine pM_48 (v := .ref (m + 12)) rfl (kx_tk_dec rfl dM_worked) (mh_o hm) rfl ?_
                refine kx_rn dM_worked 8 123 [(0, .ref m), (1, .int (nI row)), (2, .int (nI fr)), (3, .int (nI (n1 - 1))), (4, .int (nI k)), (5, .int ((-161)))] [.ref m, .int 61, .ref m, .int ((nI (n1 - 1)) - 1), .ref (m + 12)] rfl ?_
                rw [show (nI (n1 - 1)) - 1 = nI ((n1 - 1) - 1) from kn_su rfl rfl (by omega)]
                refine pM_48 (v := .ref (m + 12)) rfl (kx_tk_dec rfl dM_worked) (mh_o hm) rfl ?_
                refine kx_rn dM_worked 3 129 [(0, .ref m), (1, .int (nI row)), (2, .int (nI fr)), (3, .int (nI (n1 - 1))), (4, .int (nI k)), (5, .int ((-161)))] [.int ((nI (n1 - 1)) - 1), .ref (m + 12), .int 61, .ref m, .int (nI ((n1 - 1) - 1)), .ref (m + 12)] rfl ?_
                rw [show (nI (n1 - 1)) - 1 = nI ((n1 - 1) - 1) from kn_su rfl rfl (by omega)]
                refine mh_ld (k := 12) (x := F ((n1 - 1) - 1)) (i := (n1 - 1) - 1) rfl rfl (kx_tk_dec rfl dM_worked) hm (by show (n1 - 1) - 1 < 44; omega) ?_
                refine kx_rn dM_worked 1 131 [(0, .ref m), (1, .int (nI row)), (2, .int (nI fr)), (3, .int (nI (n1 - 1))), (4, .int (nI k)), (5, .int ((-161)))] [.ref m, .int (F ((n1 - 1) - 1)), .int 61, .ref m, .int (nI ((n1 - 1) - 1)), .ref (m + 12)] rfl ?_
                refine pM_48 (v := .ref (m + 12)) rfl (kx_tk_dec rfl dM_worked) (mh_o hm) rfl ?_
                refine kx_rn dM_worked 1 135 [(0, .ref m), (1, .int (nI row)), (2, .int (nI fr)), (3, .int (nI (n1 - 1))), (4, .int (nI k)), (5, .int ((-161)))] [.int (nI (n1 - 1)), .ref (m + 12), .int (F ((n1 - 1) - 1)), .int 61, .ref m, .int (nI ((n1 - 1) - 1)), .ref (m + 12)] rfl ?_
                refine mh_ld (k := 12) (x := F (n1 - 1)) (i := n1 - 1) rfl rfl (kx_tk_dec rfl dM_worked) hm (by show n1 - 1 < 44; omega) ?_
                refine cM_152 (as := [.int 61, .int (F ((n1 - 1) - 1)), .int (F (n1 - 1))]) (st := [.int (nI ((n1 - 1) - 1)), .ref (m + 12)]) (mc := 0) (ms := 0) (kc := 0) (ks := 0) rfl (kx_tk_dec rfl dM_worked) (mh_o hm) rfl rfl (Nat.le_of_ble_eq_true rfl) (cM_done (sg := 61) (dv := b) hst hm (by decide) rfl) (fun o h' hq => ?_)
                obtain ⟨rfl, rfl⟩ := hq
                show kx_w _ _ _ _ _ _ _ _ _ _ _
                rw [va_upup]
                refine mh_st (k := 12) (i := (n1 - 1) - 1) (A' := va_up A 12 (va_up F ((n1 - 1) - 1) (dvO 61 (F ((n1 - 1) - 1)) (F (n1 - 1))))) rfl (kx_tk_dec rfl dM_worked) hm (by show (n1 - 1) - 1 < 44; omega) (va_upup _ _ _ _) ?_
                refine kx_rn dM_worked 2 12 [(0, .ref m), (1, .int (nI row)), (2, .int (nI fr)), (3, .int (nI (n1 - 1))), (4, .int ((nI k) + 1)), (5, .int ((-161)))] [] rfl ?_
                rw [show (nI k) + 1 = nI (k + 1) from kn_ad rfl rfl]
                refine kx_lsub (lv' := [(0, .ref m), (1, .int (nI row)), (2, .int (nI fr)), (3, .int (nI (n1 - 1))), (4, .int (nI (k + 1)))]) (.cons₂ _ (.cons₂ _ (.cons₂ _ (.cons₂ _ (.cons₂ _ (.cons _ .slnil)))))) ?_
                refine ih (k + 1) (n1 - 1) _ _ (by omega) ?_
                show eS _ (P k) _ = _
                rw [he, hPk]
                rfl
              · skip
                replace e82 : ((-161) : Int32) = (-133) := e82
                exact absurd e82 (by decide)
            · skip
              replace e41 : ¬ ((-161) : Int32) < (-4) := e41
              exact absurd (by decide) e41
          · rw [hPk]
            refine kx_rn dM_worked 3 41 [(0, .ref m), (1, .int (nI row)), (2, .int (nI fr)), (3, .int (nI n1)), (4, .int (nI k)), (5, .int ((-135)))] [.int ((-4)), .int ((-135))] rfl ?_
            refine kx_ic (tgt := 77) (kx_tk_dec rfl dM_worked) rfl (fun e41 => ?_) (fun e41 => ?_)
            · skip
              replace e41 : ((-135) : Int32) < (-4) := e41
              refine kx_rn dM_worked 2 82 [(0, .ref m), (1, .int (nI row)), (2, .int (nI fr)), (3, .int (nI n1)), (4, .int (nI k)), (5, .int ((-135)))] [.int ((-133)), .int ((-135))] rfl ?_
              refine kx_ic (tgt := 106) (kx_tk_dec rfl dM_worked) rfl (fun e82 => ?_) (fun e82 => ?_)
              · skip
                replace e82 : ¬ ((-135) : Int32) = (-133) := e82
                refine kx_rn dM_worked 2 110 [(0, .ref m), (1, .int (nI row)), (2, .int (nI fr)), (3, .int ((nI n1) + (-1))), (4, .int (nI k)), (5, .int ((-135)))] [.ref m] rfl ?_
                rw [show (nI n1) + (-1) = nI (n1 - 1) from kn_sa rfl rfl (by omega)]
                refine pM_48 (v := .ref (m + 12)) rfl (kx_tk_dec rfl dM_worked) (mh_o hm) rfl ?_
                refine kx_rn dM_worked 8 123 [(0, .ref m), (1, .int (nI row)), (2, .int (nI fr)), (3, .int (nI (n1 - 1))), (4, .int (nI k)), (5, .int ((-135)))] [.ref m, .int 35, .ref m, .int ((nI (n1 - 1)) - 1), .ref (m + 12)] rfl ?_
                rw [show (nI (n1 - 1)) - 1 = nI ((n1 - 1) - 1) from kn_su rfl rfl (by omega)]
                refine pM_48 (v := .ref (m + 12)) rfl (kx_tk_dec rfl dM_worked) (mh_o hm) rfl ?_
                refine kx_rn dM_worked 3 129 [(0, .ref m), (1, .int (nI row)), (2, .int (nI fr)), (3, .int (nI (n1 - 1))), (4, .int (nI k)), (5, .int ((-135)))] [.int ((nI (n1 - 1)) - 1), .ref (m + 12), .int 35, .ref m, .int (nI ((n1 - 1) - 1)), .ref (m + 12)] rfl ?_
                rw [show (nI (n1 - 1)) - 1 = nI ((n1 - 1) - 1) from kn_su rfl rfl (by omega)]
                refine mh_ld (k := 12) (x := F ((n1 - 1) - 1)) (i := (n1 - 1) - 1) rfl rfl (kx_tk_dec rfl dM_worked) hm (by show (n1 - 1) - 1 < 44; omega) ?_
                refine kx_rn dM_worked 1 131 [(0, .ref m), (1, .int (nI row)), (2, .int (nI fr)), (3, .int (nI (n1 - 1))), (4, .int (nI k)), (5, .int ((-135)))] [.ref m, .int (F ((n1 - 1) - 1)), .int 35, .ref m, .int (nI ((n1 - 1) - 1)), .ref (m + 12)] rfl ?_
                refine pM_48 (v := .ref (m + 12)) rfl (kx_tk_dec rfl dM_worked) (mh_o hm) rfl ?_
                refine kx_rn dM_worked 1 135 [(0, .ref m), (1, .int (nI row)), (2, .int (nI fr)), (3, .int (nI (n1 - 1))), (4, .int (nI k)), (5, .int ((-135)))] [.int (nI (n1 - 1)), .ref (m + 12), .int (F ((n1 - 1) - 1)), .int 35, .ref m, .int (nI ((n1 - 1) - 1)), .ref (m + 12)] rfl ?_
                refine mh_ld (k := 12) (x := F (n1 - 1)) (i := n1 - 1) rfl rfl (kx_tk_dec rfl dM_worked) hm (by show n1 - 1 < 44; omega) ?_
                refine cM_152 (as := [.int 35, .int (F ((n1 - 1) - 1)), .int (F (n1 - 1))]) (st := [.int (nI ((n1 - 1) - 1)), .ref (m + 12)]) (mc := 0) (ms := 0) (kc := 0) (ks := 0) rfl (kx_tk_dec rfl dM_worked) (mh_o hm) rfl rfl (Nat.le_of_ble_eq_true rfl) (cM_done (sg := 35) (dv := b) hst hm (by decide) rfl) (fun o h' hq => ?_)
                obtain ⟨rfl, rfl⟩ := hq
                show kx_w _ _ _ _ _ _ _ _ _ _ _
                rw [va_upup]
                refine mh_st (k := 12) (i := (n1 - 1) - 1) (A' := va_up A 12 (va_up F ((n1 - 1) - 1) (dvO 35 (F ((n1 - 1) - 1)) (F (n1 - 1))))) rfl (kx_tk_dec rfl dM_worked) hm (by show (n1 - 1) - 1 < 44; omega) (va_upup _ _ _ _) ?_
                refine kx_rn dM_worked 2 12 [(0, .ref m), (1, .int (nI row)), (2, .int (nI fr)), (3, .int (nI (n1 - 1))), (4, .int ((nI k) + 1)), (5, .int ((-135)))] [] rfl ?_
                rw [show (nI k) + 1 = nI (k + 1) from kn_ad rfl rfl]
                refine kx_lsub (lv' := [(0, .ref m), (1, .int (nI row)), (2, .int (nI fr)), (3, .int (nI (n1 - 1))), (4, .int (nI (k + 1)))]) (.cons₂ _ (.cons₂ _ (.cons₂ _ (.cons₂ _ (.cons₂ _ (.cons _ .slnil)))))) ?_
                refine ih (k + 1) (n1 - 1) _ _ (by omega) ?_
                show eS _ (P k) _ = _
                rw [he, hPk]
                rfl
              · skip
                replace e82 : ((-135) : Int32) = (-133) := e82
                exact absurd e82 (by decide)
            · skip
              replace e41 : ¬ ((-135) : Int32) < (-4) := e41
              exact absurd (by decide) e41
          · rw [hPk]
            refine kx_rn dM_worked 3 41 [(0, .ref m), (1, .int (nI row)), (2, .int (nI fr)), (3, .int (nI n1)), (4, .int (nI k)), (5, .int ((-160)))] [.int ((-4)), .int ((-160))] rfl ?_
            refine kx_ic (tgt := 77) (kx_tk_dec rfl dM_worked) rfl (fun e41 => ?_) (fun e41 => ?_)
            · skip
              replace e41 : ((-160) : Int32) < (-4) := e41
              refine kx_rn dM_worked 2 82 [(0, .ref m), (1, .int (nI row)), (2, .int (nI fr)), (3, .int (nI n1)), (4, .int (nI k)), (5, .int ((-160)))] [.int ((-133)), .int ((-160))] rfl ?_
              refine kx_ic (tgt := 106) (kx_tk_dec rfl dM_worked) rfl (fun e82 => ?_) (fun e82 => ?_)
              · skip
                replace e82 : ¬ ((-160) : Int32) = (-133) := e82
                refine kx_rn dM_worked 2 110 [(0, .ref m), (1, .int (nI row)), (2, .int (nI fr)), (3, .int ((nI n1) + (-1))), (4, .int (nI k)), (5, .int ((-160)))] [.ref m] rfl ?_
                rw [show (nI n1) + (-1) = nI (n1 - 1) from kn_sa rfl rfl (by omega)]
                refine pM_48 (v := .ref (m + 12)) rfl (kx_tk_dec rfl dM_worked) (mh_o hm) rfl ?_
                refine kx_rn dM_worked 8 123 [(0, .ref m), (1, .int (nI row)), (2, .int (nI fr)), (3, .int (nI (n1 - 1))), (4, .int (nI k)), (5, .int ((-160)))] [.ref m, .int 60, .ref m, .int ((nI (n1 - 1)) - 1), .ref (m + 12)] rfl ?_
                rw [show (nI (n1 - 1)) - 1 = nI ((n1 - 1) - 1) from kn_su rfl rfl (by omega)]
                refine pM_48 (v := .ref (m + 12)) rfl (kx_tk_dec rfl dM_worked) (mh_o hm) rfl ?_
                refine kx_rn dM_worked 3 129 [(0, .ref m), (1, .int (nI row)), (2, .int (nI fr)), (3, .int (nI (n1 - 1))), (4, .int (nI k)), (5, .int ((-160)))] [.int ((nI (n1 - 1)) - 1), .ref (m + 12), .int 60, .ref m, .int (nI ((n1 - 1) - 1)), .ref (m + 12)] rfl ?_
                rw [show (nI (n1 - 1)) - 1 = nI ((n1 - 1) - 1) from kn_su rfl rfl (by omega)]
                refine mh_ld (k := 12) (x := F ((n1 - 1) - 1)) (i := (n1 - 1) - 1) rfl rfl (kx_tk_dec rfl dM_worked) hm (by show (n1 - 1) - 1 < 44; omega) ?_
                refine kx_rn dM_worked 1 131 [(0, .ref m), (1, .int (nI row)), (2, .int (nI fr)), (3, .int (nI (n1 - 1))), (4, .int (nI k)), (5, .int ((-160)))] [.ref m, .int (F ((n1 - 1) - 1)), .int 60, .ref m, .int (nI ((n1 - 1) - 1)), .ref (m + 12)] rfl ?_
                refine pM_48 (v := .ref (m + 12)) rfl (kx_tk_dec rfl dM_worked) (mh_o hm) rfl ?_
                refine kx_rn dM_worked 1 135 [(0, .ref m), (1, .int (nI row)), (2, .int (nI fr)), (3, .int (nI (n1 - 1))), (4, .int (nI k)), (5, .int ((-160)))] [.int (nI (n1 - 1)), .ref (m + 12), .int (F ((n1 - 1) - 1)), .int 60, .ref m, .int (nI ((n1 - 1) - 1)), .ref (m + 12)] rfl ?_
                refine mh_ld (k := 12) (x := F (n1 - 1)) (i := n1 - 1) rfl rfl (kx_tk_dec rfl dM_worked) hm (by show n1 - 1 < 44; omega) ?_
                refine cM_152 (as := [.int 60, .int (F ((n1 - 1) - 1)), .int (F (n1 - 1))]) (st := [.int (nI ((n1 - 1) - 1)), .ref (m + 12)]) (mc := 0) (ms := 0) (kc := 0) (ks := 0) rfl (kx_tk_dec rfl dM_worked) (mh_o hm) rfl rfl (Nat.le_of_ble_eq_true rfl) (cM_done (sg := 60) (dv := b) hst hm (by decide) rfl) (fun o h' hq => ?_)
                obtain ⟨rfl, rfl⟩ := hq
                show kx_w _ _ _ _ _ _ _ _ _ _ _
                rw [va_upup]
                refine mh_st (k := 12) (i := (n1 - 1) - 1) (A' := va_up A 12 (va_up F ((n1 - 1) - 1) (dvO 60 (F ((n1 - 1) - 1)) (F (n1 - 1))))) rfl (kx_tk_dec rfl dM_worked) hm (by show (n1 - 1) - 1 < 44; omega) (va_upup _ _ _ _) ?_
                refine kx_rn dM_worked 2 12 [(0, .ref m), (1, .int (nI row)), (2, .int (nI fr)), (3, .int (nI (n1 - 1))), (4, .int ((nI k) + 1)), (5, .int ((-160)))] [] rfl ?_
                rw [show (nI k) + 1 = nI (k + 1) from kn_ad rfl rfl]
                refine kx_lsub (lv' := [(0, .ref m), (1, .int (nI row)), (2, .int (nI fr)), (3, .int (nI (n1 - 1))), (4, .int (nI (k + 1)))]) (.cons₂ _ (.cons₂ _ (.cons₂ _ (.cons₂ _ (.cons₂ _ (.cons _ .slnil)))))) ?_
                refine ih (k + 1) (n1 - 1) _ _ (by omega) ?_
                show eS _ (P k) _ = _
                rw [he, hPk]
                rfl
              · skip
                replace e82 : ((-160) : Int32) = (-133) := e82
                exact absurd e82 (by decide)
            · skip
              replace e41 : ¬ ((-160) : Int32) < (-4) := e41
              exact absurd (by decide) e41
          · rw [hPk]
            refine kx_rn dM_worked 3 41 [(0, .ref m), (1, .int (nI row)), (2, .int (nI fr)), (3, .int (nI n1)), (4, .int (nI k)), (5, .int ((-162)))] [.int ((-4)), .int ((-162))] rfl ?_
            refine kx_ic (tgt := 77) (kx_tk_dec rfl dM_worked) rfl (fun e41 => ?_) (fun e41 => ?_)
            · skip
              replace e41 : ((-162) : Int32) < (-4) := e41
              refine kx_rn dM_worked 2 82 [(0, .ref m), (1, .int (nI row)), (2, .int (nI fr)), (3, .int (nI n1)), (4, .int (nI k)), (5, .int ((-162)))] [.int ((-133)), .int ((-162))] rfl ?_
              refine kx_ic (tgt := 106) (kx_tk_dec rfl dM_worked) rfl (fun e82 => ?_) (fun e82 => ?_)
              · skip
                replace e82 : ¬ ((-162) : Int32) = (-133) := e82
                refine kx_rn dM_worked 2 110 [(0, .ref m), (1, .int (nI row)), (2, .int (nI fr)), (3, .int ((nI n1) + (-1))), (4, .int (nI k)), (5, .int ((-162)))] [.ref m] rfl ?_
                rw [show (nI n1) + (-1) = nI (n1 - 1) from kn_sa rfl rfl (by omega)]
                refine pM_48 (v := .ref (m + 12)) rfl (kx_tk_dec rfl dM_worked) (mh_o hm) rfl ?_
                refine kx_rn dM_worked 8 123 [(0, .ref m), (1, .int (nI row)), (2, .int (nI fr)), (3, .int (nI (n1 - 1))), (4, .int (nI k)), (5, .int ((-162)))] [.ref m, .int 62, .ref m, .int ((nI (n1 - 1)) - 1), .ref (m + 12)] rfl ?_
                rw [show (nI (n1 - 1)) - 1 = nI ((n1 - 1) - 1) from kn_su rfl rfl (by omega)]
                refine pM_48 (v := .ref (m + 12)) rfl (kx_tk_dec rfl dM_worked) (mh_o hm) rfl ?_
                refine kx_rn dM_worked 3 129 [(0, .ref m), (1, .int (nI row)), (2, .int (nI fr)), (3, .int (nI (n1 - 1))), (4, .int (nI k)), (5, .int ((-162)))] [.int ((nI (n1 - 1)) - 1), .ref (m + 12), .int 62, .ref m, .int (nI ((n1 - 1) - 1)), .ref (m + 12)] rfl ?_
                rw [show (nI (n1 - 1)) - 1 = nI ((n1 - 1) - 1) from kn_su rfl rfl (by omega)]
                refine mh_ld (k := 12) (x := F ((n1 - 1) - 1)) (i := (n1 - 1) - 1) rfl rfl (kx_tk_dec rfl dM_worked) hm (by show (n1 - 1) - 1 < 44; omega) ?_
                refine kx_rn dM_worked 1 131 [(0, .ref m), (1, .int (nI row)), (2, .int (nI fr)), (3, .int (nI (n1 - 1))), (4, .int (nI k)), (5, .int ((-162)))] [.ref m, .int (F ((n1 - 1) - 1)), .int 62, .ref m, .int (nI ((n1 - 1) - 1)), .ref (m + 12)] rfl ?_
                refine pM_48 (v := .ref (m + 12)) rfl (kx_tk_dec rfl dM_worked) (mh_o hm) rfl ?_
                refine kx_rn dM_worked 1 135 [(0, .ref m), (1, .int (nI row)), (2, .int (nI fr)), (3, .int (nI (n1 - 1))), (4, .int (nI k)), (5, .int ((-162)))] [.int (nI (n1 - 1)), .ref (m + 12), .int (F ((n1 - 1) - 1)), .int 62, .ref m, .int (nI ((n1 - 1) - 1)), .ref (m + 12)] rfl ?_
                refine mh_ld (k := 12) (x := F (n1 - 1)) (i := n1 - 1) rfl rfl (kx_tk_dec rfl dM_worked) hm (by show n1 - 1 < 44; omega) ?_
                refine cM_152 (as := [.int 62, .int (F ((n1 - 1) - 1)), .int (F (n1 - 1))]) (st := [.int (nI ((n1 - 1) - 1)), .ref (m + 12)]) (mc := 0) (ms := 0) (kc := 0) (ks := 0) rfl (kx_tk_dec rfl dM_worked) (mh_o hm) rfl rfl (Nat.le_of_ble_eq_true rfl) (cM_done (sg := 62) (dv := b) hst hm (by decide) rfl) (fun o h' hq => ?_)
                obtain ⟨rfl, rfl⟩ := hq
                show kx_w _ _ _ _ _ _ _ _ _ _ _
                rw [va_upup]
                refine mh_st (k := 12) (i := (n1 - 1) - 1) (A' := va_up A 12 (va_up F ((n1 - 1) - 1) (dvO 62 (F ((n1 - 1) - 1)) (F (n1 - 1))))) rfl (kx_tk_dec rfl dM_worked) hm (by show (n1 - 1) - 1 < 44; omega) (va_upup _ _ _ _) ?_
                refine kx_rn dM_worked 2 12 [(0, .ref m), (1, .int (nI row)), (2, .int (nI fr)), (3, .int (nI (n1 - 1))), (4, .int ((nI k) + 1)), (5, .int ((-162)))] [] rfl ?_
                rw [show (nI k) + 1 = nI (k + 1) from kn_ad rfl rfl]
                refine kx_lsub (lv' := [(0, .ref m), (1, .int (nI row)), (2, .int (nI fr)), (3, .int (nI (n1 - 1))), (4, .int (nI (k + 1)))]) (.cons₂ _ (.cons₂ _ (.cons₂ _ (.cons₂ _ (.cons₂ _ (.cons _ .slnil)))))) ?_
                refine ih (k + 1) (n1 - 1) _ _ (by omega) ?_
                show eS _ (P k) _ = _
                rw [he, hPk]
                rfl
              · skip
                replace e82 : ((-162) : Int32) = (-133) := e82
                exact absurd e82 (by decide)
            · skip
              replace e41 : ¬ ((-162) : Int32) < (-4) := e41
              exact absurd (by decide) e41
          · rw [hPk]
            refine kx_rn dM_worked 3 41 [(0, .ref m), (1, .int (nI row)), (2, .int (nI fr)), (3, .int (nI n1)), (4, .int (nI k)), (5, .int ((-138)))] [.int ((-4)), .int ((-138))] rfl ?_
            refine kx_ic (tgt := 77) (kx_tk_dec rfl dM_worked) rfl (fun e41 => ?_) (fun e41 => ?_)
            · skip
              replace e41 : ((-138) : Int32) < (-4) := e41
              refine kx_rn dM_worked 2 82 [(0, .ref m), (1, .int (nI row)), (2, .int (nI fr)), (3, .int (nI n1)), (4, .int (nI k)), (5, .int ((-138)))] [.int ((-133)), .int ((-138))] rfl ?_
              refine kx_ic (tgt := 106) (kx_tk_dec rfl dM_worked) rfl (fun e82 => ?_) (fun e82 => ?_)
              · skip
                replace e82 : ¬ ((-138) : Int32) = (-133) := e82
                refine kx_rn dM_worked 2 110 [(0, .ref m), (1, .int (nI row)), (2, .int (nI fr)), (3, .int ((nI n1) + (-1))), (4, .int (nI k)), (5, .int ((-138)))] [.ref m] rfl ?_
                rw [show (nI n1) + (-1) = nI (n1 - 1) from kn_sa rfl rfl (by omega)]
                refine pM_48 (v := .ref (m + 12)) rfl (kx_tk_dec rfl dM_worked) (mh_o hm) rfl ?_
                refine kx_rn dM_worked 8 123 [(0, .ref m), (1, .int (nI row)), (2, .int (nI fr)), (3, .int (nI (n1 - 1))), (4, .int (nI k)), (5, .int ((-138)))] [.ref m, .int 38, .ref m, .int ((nI (n1 - 1)) - 1), .ref (m + 12)] rfl ?_
                rw [show (nI (n1 - 1)) - 1 = nI ((n1 - 1) - 1) from kn_su rfl rfl (by omega)]
                refine pM_48 (v := .ref (m + 12)) rfl (kx_tk_dec rfl dM_worked) (mh_o hm) rfl ?_
                refine kx_rn dM_worked 3 129 [(0, .ref m), (1, .int (nI row)), (2, .int (nI fr)), (3, .int (nI (n1 - 1))), (4, .int (nI k)), (5, .int ((-138)))] [.int ((nI (n1 - 1)) - 1), .ref (m + 12), .int 38, .ref m, .int (nI ((n1 - 1) - 1)), .ref (m + 12)] rfl ?_
                rw [show (nI (n1 - 1)) - 1 = nI ((n1 - 1) - 1) from kn_su rfl rfl (by omega)]
                refine mh_ld (k := 12) (x := F ((n1 - 1) - 1)) (i := (n1 - 1) - 1) rfl rfl (kx_tk_dec rfl dM_worked) hm (by show (n1 - 1) - 1 < 44; omega) ?_
                refine kx_rn dM_worked 1 131 [(0, .ref m), (1, .int (nI row)), (2, .int (nI fr)), (3, .int (nI (n1 - 1))), (4, .int (nI k)), (5, .int ((-138)))] [.ref m, .int (F ((n1 - 1) - 1)), .int 38, .ref m, .int (nI ((n1 - 1) - 1)), .ref (m + 12)] rfl ?_
                refine pM_48 (v := .ref (m + 12)) rfl (kx_tk_dec rfl dM_worked) (mh_o hm) rfl ?_
                refine kx_rn dM_worked 1 135 [(0, .ref m), (1, .int (nI row)), (2, .int (nI fr)), (3, .int (nI (n1 - 1))), (4, .int (nI k)), (5, .int ((-138)))] [.int (nI (n1 - 1)), .ref (m + 12), .int (F ((n1 - 1) - 1)), .int 38, .ref m, .int (nI ((n1 - 1) - 1)), .ref (m + 12)] rfl ?_
                refine mh_ld (k := 12) (x := F (n1 - 1)) (i := n1 - 1) rfl rfl (kx_tk_dec rfl dM_worked) hm (by show n1 - 1 < 44; omega) ?_
                refine cM_152 (as := [.int 38, .int (F ((n1 - 1) - 1)), .int (F (n1 - 1))]) (st := [.int (nI ((n1 - 1) - 1)), .ref (m + 12)]) (mc := 0) (ms := 0) (kc := 0) (ks := 0) rfl (kx_tk_dec rfl dM_worked) (mh_o hm) rfl rfl (Nat.le_of_ble_eq_true rfl) (cM_done (sg := 38) (dv := b) hst hm (by decide) rfl) (fun o h' hq => ?_)
                obtain ⟨rfl, rfl⟩ := hq
                show kx_w _ _ _ _ _ _ _ _ _ _ _
                rw [va_upup]
                refine mh_st (k := 12) (i := (n1 - 1) - 1) (A' := va_up A 12 (va_up F ((n1 - 1) - 1) (dvO 38 (F ((n1 - 1) - 1)) (F (n1 - 1))))) rfl (kx_tk_dec rfl dM_worked) hm (by show (n1 - 1) - 1 < 44; omega) (va_upup _ _ _ _) ?_
                refine kx_rn dM_worked 2 12 [(0, .ref m), (1, .int (nI row)), (2, .int (nI fr)), (3, .int (nI (n1 - 1))), (4, .int ((nI k) + 1)), (5, .int ((-138)))] [] rfl ?_
                rw [show (nI k) + 1 = nI (k + 1) from kn_ad rfl rfl]
                refine kx_lsub (lv' := [(0, .ref m), (1, .int (nI row)), (2, .int (nI fr)), (3, .int (nI (n1 - 1))), (4, .int (nI (k + 1)))]) (.cons₂ _ (.cons₂ _ (.cons₂ _ (.cons₂ _ (.cons₂ _ (.cons _ .slnil)))))) ?_
                refine ih (k + 1) (n1 - 1) _ _ (by omega) ?_
                show eS _ (P k) _ = _
                rw [he, hPk]
                rfl
              · skip
                replace e82 : ((-138) : Int32) = (-133) := e82
                exact absurd e82 (by decide)
            · skip
              replace e41 : ¬ ((-138) : Int32) < (-4) := e41
              exact absurd (by decide) e41
          · rw [hPk]
            refine kx_rn dM_worked 3 41 [(0, .ref m), (1, .int (nI row)), (2, .int (nI fr)), (3, .int (nI n1)), (4, .int (nI k)), (5, .int ((-224)))] [.int ((-4)), .int ((-224))] rfl ?_
            refine kx_ic (tgt := 77) (kx_tk_dec rfl dM_worked) rfl (fun e41 => ?_) (fun e41 => ?_)
            · skip
              replace e41 : ((-224) : Int32) < (-4) := e41
              refine kx_rn dM_worked 2 82 [(0, .ref m), (1, .int (nI row)), (2, .int (nI fr)), (3, .int (nI n1)), (4, .int (nI k)), (5, .int ((-224)))] [.int ((-133)), .int ((-224))] rfl ?_
              refine kx_ic (tgt := 106) (kx_tk_dec rfl dM_worked) rfl (fun e82 => ?_) (fun e82 => ?_)
              · skip
                replace e82 : ¬ ((-224) : Int32) = (-133) := e82
                refine kx_rn dM_worked 2 110 [(0, .ref m), (1, .int (nI row)), (2, .int (nI fr)), (3, .int ((nI n1) + (-1))), (4, .int (nI k)), (5, .int ((-224)))] [.ref m] rfl ?_
                rw [show (nI n1) + (-1) = nI (n1 - 1) from kn_sa rfl rfl (by omega)]
                refine pM_48 (v := .ref (m + 12)) rfl (kx_tk_dec rfl dM_worked) (mh_o hm) rfl ?_
                refine kx_rn dM_worked 8 123 [(0, .ref m), (1, .int (nI row)), (2, .int (nI fr)), (3, .int (nI (n1 - 1))), (4, .int (nI k)), (5, .int ((-224)))] [.ref m, .int 124, .ref m, .int ((nI (n1 - 1)) - 1), .ref (m + 12)] rfl ?_
                rw [show (nI (n1 - 1)) - 1 = nI ((n1 - 1) - 1) from kn_su rfl rfl (by omega)]
                refine pM_48 (v := .ref (m + 12)) rfl (kx_tk_dec rfl dM_worked) (mh_o hm) rfl ?_
                refine kx_rn dM_worked 3 129 [(0, .ref m), (1, .int (nI row)), (2, .int (nI fr)), (3, .int (nI (n1 - 1))), (4, .int (nI k)), (5, .int ((-224)))] [.int ((nI (n1 - 1)) - 1), .ref (m + 12), .int 124, .ref m, .int (nI ((n1 - 1) - 1)), .ref (m + 12)] rfl ?_
                rw [show (nI (n1 - 1)) - 1 = nI ((n1 - 1) - 1) from kn_su rfl rfl (by omega)]
                refine mh_ld (k := 12) (x := F ((n1 - 1) - 1)) (i := (n1 - 1) - 1) rfl rfl (kx_tk_dec rfl dM_worked) hm (by show (n1 - 1) - 1 < 44; omega) ?_
                refine kx_rn dM_worked 1 131 [(0, .ref m), (1, .int (nI row)), (2, .int (nI fr)), (3, .int (nI (n1 - 1))), (4, .int (nI k)), (5, .int ((-224)))] [.ref m, .int (F ((n1 - 1) - 1)), .int 124, .ref m, .int (nI ((n1 - 1) - 1)), .ref (m + 12)] rfl ?_
                refine pM_48 (v := .ref (m + 12)) rfl (kx_tk_dec rfl dM_worked) (mh_o hm) rfl ?_
                refine kx_rn dM_worked 1 135 [(0, .ref m), (1, .int (nI row)), (2, .int (nI fr)), (3, .int (nI (n1 - 1))), (4, .int (nI k)), (5, .int ((-224)))] [.int (nI (n1 - 1)), .ref (m + 12), .int (F ((n1 - 1) - 1)), .int 124, .ref m, .int (nI ((n1 - 1) - 1)), .ref (m + 12)] rfl ?_
                refine mh_ld (k := 12) (x := F (n1 - 1)) (i := n1 - 1) rfl rfl (kx_tk_dec rfl dM_worked) hm (by show n1 - 1 < 44; omega) ?_
                refine cM_152 (as := [.int 124, .int (F ((n1 - 1) - 1)), .int (F (n1 - 1))]) (st := [.int (nI ((n1 - 1) - 1)), .ref (m + 12)]) (mc := 0) (ms := 0) (kc := 0) (ks := 0) rfl (kx_tk_dec rfl dM_worked) (mh_o hm) rfl rfl (Nat.le_of_ble_eq_true rfl) (cM_done (sg := 124) (dv := b) hst hm (by decide) rfl) (fun o h' hq => ?_)
                obtain ⟨rfl, rfl⟩ := hq
                show kx_w _ _ _ _ _ _ _ _ _ _ _
                rw [va_upup]
                refine mh_st (k := 12) (i := (n1 - 1) - 1) (A' := va_up A 12 (va_up F ((n1 - 1) - 1) (dvO 124 (F ((n1 - 1) - 1)) (F (n1 - 1))))) rfl (kx_tk_dec rfl dM_worked) hm (by show (n1 - 1) - 1 < 44; omega) (va_upup _ _ _ _) ?_
                refine kx_rn dM_worked 2 12 [(0, .ref m), (1, .int (nI row)), (2, .int (nI fr)), (3, .int (nI (n1 - 1))), (4, .int ((nI k) + 1)), (5, .int ((-224)))] [] rfl ?_
                rw [show (nI k) + 1 = nI (k + 1) from kn_ad rfl rfl]
                refine kx_lsub (lv' := [(0, .ref m), (1, .int (nI row)), (2, .int (nI fr)), (3, .int (nI (n1 - 1))), (4, .int (nI (k + 1)))]) (.cons₂ _ (.cons₂ _ (.cons₂ _ (.cons₂ _ (.cons₂ _ (.cons _ .slnil)))))) ?_
                refine ih (k + 1) (n1 - 1) _ _ (by omega) ?_
                show eS _ (P k) _ = _
                rw [he, hPk]
                rfl
              · skip
                replace e82 : ((-224) : Int32) = (-133) := e82
                exact absurd e82 (by decide)
            · skip
              replace e41 : ¬ ((-224) : Int32) < (-4) := e41
              exact absurd (by decide) e41
  refine kx_rn dM_worked 3 3 [(0, .ref m), (1, .int (nI row)), (2, .int (nI fr)), (3, .int 0)] [.ref m] rfl ?_
  refine pM_48 (v := .ref (m + 12)) rfl (kx_tk_dec rfl dM_worked) (mh_o hm) rfl ?_
  refine kx_rn dM_worked 2 8 [(0, .ref m), (1, .int (nI row)), (2, .int (nI fr)), (3, .int 0)] [.int 1, .int 0, .ref (m + 12)] rfl ?_
  refine mh_st (k := 12) (i := 0) (A' := va_up A 12 (va_up (A 12) 0 1)) rfl (kx_tk_dec rfl dM_worked) hm (by show 0 < 44; omega) rfl ?_
  refine kx_rn dM_worked 2 12 [(0, .ref m), (1, .int (nI row)), (2, .int (nI fr)), (3, .int 0), (4, .int 0)] [] rfl ?_
  refine kx_heq (congrArg (fun z => mH h0 m z (va_up A 12 (va_up (A 12) 0 1))) (show S = va_up S 22 (b01 dv) by rw [← hdv, va_upsame])) ?_
  exact loop sz 0 0 dv _ (by omega) rfl
end KM7
end
section
/-! ===== the reference: look ===== -/
section KM8
variable {G : kx_G} {l : Launch} {d : Nat} {h0 : kx_H} {m : Nat} {S : Nat → Int32} {A : Nat → Nat → Int32}
theorem eR_ind {vals P f g : Nat → Int32} {b : Bool} {sz : Nat} (hwf : ∀ k, k < sz → itK (P k) (dpt P k)) (h0 : f 0 = g 0) : ∀ k, k ≤ sz → (eR vals P (0, f, b) k).2.2 = (eR vals P (0, g, b) k).2.2 ∧ ∀ j, j < max (dpt P k) 1 → (eR vals P (0, f, b) k).2.1 j = (eR vals P (0, g, b) k).2.1 j
  | 0, _ => ⟨rfl, fun j hj => by
      have : j = 0 := by simp only [dpt] at hj; omega
      subst this; exact h0⟩
  | k + 1, hk => by
    obtain ⟨h1, h2⟩ := eR_ind hwf h0 k (by omega)
    have hf := eR_dpt vals P f b k
    have hg := eR_dpt vals P g b k
    have hit := hwf k (by omega)
    simp only [eR]
    generalize eR vals P (0, f, b) k = qf at *
    generalize eR vals P (0, g, b) k = qg at *
    obtain ⟨nf, ff, bf⟩ := qf
    obtain ⟨ng, gg, bg⟩ := qg
    simp only at hf hg h1 h2
    subst h1
    unfold eS
    simp only [dpt, hf, hg]
    by_cases e1 : P k < -4
    · rw [if_pos e1, if_pos e1, if_pos e1]
      by_cases e2 : P k = -133
      · rw [if_pos e2, if_pos e2, if_pos e2]
        refine ⟨rfl, fun j hj => ?_⟩
        simp only [va_up]
        by_cases z : j = dpt P k - 1
        · rw [if_pos z, if_pos z, h2 _ (by omega)]
        · rw [if_neg z, if_neg z, h2 _ hj]
      · rw [if_neg e2, if_neg e2, if_neg e2]
        have hlo : 2 ≤ dpt P k := by
          rcases hit with ⟨v, hv, h⟩ | h | ⟨h, -⟩ | ⟨-, h⟩
          · rw [h] at e1; exact absurd e1 (nI_n4 hv)
          · rcases h with h | h | h | h <;> (rw [h] at e1; exact absurd e1 (by decide))
          · exact absurd h e2
          · exact h
        refine ⟨by simp only [h2 (dpt P k - 1) (by omega)], fun j hj => ?_⟩
        simp only [va_up]
        by_cases z : j = dpt P k - 1 - 1
        · rw [if_pos z, if_pos z, h2 _ (by omega), h2 _ (by omega)]
        · rw [if_neg z, if_neg z, h2 _ (by omega)]
    · rw [if_neg e1, if_neg e1, if_neg e1]
      refine ⟨rfl, fun j hj => ?_⟩
      simp only [va_up]
      by_cases z : j = dpt P k
      · rw [if_pos z, if_pos z]
      · rw [if_neg z, if_neg z, h2 _ (by omega)]
theorem eR_dv {vals P f : Nat → Int32} {b : Bool} : ∀ k, (eR vals P (0, f, b) k).1 = (eR vals P (0, f, false) k).1 ∧ (eR vals P (0, f, b) k).2.1 = (eR vals P (0, f, false) k).2.1 ∧ (eR vals P (0, f, b) k).2.2 = (b || (eR vals P (0, f, false) k).2.2)
  | 0 => ⟨rfl, rfl, by simp [eR]⟩
  | k + 1 => by
    obtain ⟨h1, h2, h3⟩ := eR_dv (vals := vals) (P := P) (f := f) (b := b) k
    simp only [eR]
    generalize eR vals P (0, f, b) k = qf at *
    generalize eR vals P (0, f, false) k = qg at *
    obtain ⟨nf, ff, bf⟩ := qf
    obtain ⟨ng, gg, bg⟩ := qg
    simp only at h1 h2 h3
    subst h1 h2 h3
    unfold eS
    by_cases e1 : P k < -4
    · rw [if_pos e1, if_pos e1]
      by_cases e2 : P k = -133
      · rw [if_pos e2, if_pos e2]; exact ⟨rfl, rfl, rfl⟩
      · rw [if_neg e2, if_neg e2]; exact ⟨rfl, rfl, by simp [Bool.or_assoc]⟩
    · rw [if_neg e1, if_neg e1]; exact ⟨rfl, rfl, rfl⟩
/-- a program's answer, and whether it divides by 0 -/
def evC (P : Nat → Int32) (sz : Nat) (vals : Nat → Int32) : Int32 × Bool := ((eR vals P (0, va_up (fun _ => 0) 0 1, false) sz).2.1 0, (eR vals P (0, va_up (fun _ => 0) 0 1, false) sz).2.2)
theorem evC_of {vals P f : Nat → Int32} {b : Bool} {sz : Nat} (hwf : wfP P sz) (h0 : f 0 = 1) : (eR vals P (0, f, b) sz).2.1 0 = (evC P sz vals).1 ∧ (eR vals P (0, f, b) sz).2.2 = (b || (evC P sz vals).2) := by
  obtain ⟨h1, h2, h3⟩ := eR_dv (vals := vals) (P := P) (f := f) (b := b) sz
  obtain ⟨h4, h5⟩ := eR_ind (vals := vals) (f := f) (g := va_up (fun _ => 0) 0 1) (b := false) hwf.2 (by rw [h0]; rfl) sz (Nat.le_refl _)
  refine ⟨?_, ?_⟩
  · rw [h2, h5 0 (by omega)]; rfl
  · rw [h3, h4]; rfl
theorem cM_work {row fr sz : Nat} {dv : Bool} {P : Nat → Int32} (hst : l.stackTraces = false) (hm : mOk G h0 m) (hdv : S 22 = b01 dv) (hrow : row < 5) (hfr : fr ≤ 11516) (hsz : A 9 row = nI sz) (hwf : wfP P sz) (hP : ∀ k, k < sz → A 8 (44 * row + k) = P k) :
    kx_c G l mM_worked (d + 1) 0 0 [.ref m, .int (nI row), .int (nI fr)] (mH h0 m S A) (fun o h' => o = .returned (some (.int (evC P sz (fun c => A 5 (fr + c))).1)) ∧ ∃ F, h' = mH h0 m (va_up S 22 (b01 (dv || (evC P sz (fun c => A 5 (fr + c))).2))) (va_up A 12 F)) := by
  refine kx_cc (fun o h' hq => ?_) (cM_worked hst hm hdv hrow hfr hsz hwf hP)
  obtain ⟨h1, h2⟩ := evC_of (vals := fun c => A 5 (fr + c)) (f := va_up (A 12) 0 1) (b := dv) hwf rfl
  rw [h1, h2] at hq
  exact ⟨hq.1, _, hq.2⟩
def hwq (V : Nat → Nat) (tn q : Nat) : Nat := hw (fun w => decide (¬ V (40 * q + w - 1) = 0)) tn
/-- what look finds of row q: 0 no match, 1 a match, 2 must wait, 3 a division by 0 -/
def vdct (V : Nat → Nat) (A6 A5 P : Nat → Int32) (sz tn q : Nat) : Nat := if hwq V tn q = 0 then 0 else if ¬ hwq V tn q = tn ∧ A6 (hwq V tn q) = 1 then 2 else if V (40 * q + (hwq V tn q - 1)) / 2 % 2 = 1 then 0 else if (evC P sz (fun c => A5 (4 * (40 * q + (hwq V tn q - 1)) + c))).2 = true then 3 else if (evC P sz (fun c => A5 (4 * (40 * q + (hwq V tn q - 1)) + c))).1 = 0 then 0 else 1
theorem kn_rem40 {q w : Nat} (hq : q < 72) (hw : w < 40) : nI (40 * q + w) - nI (40 * q + w) / 40 * 40 = nI w := by
  have : ∀ (q : Fin 72) (w : Fin 40), nI (40 * q.val + w.val) - nI (40 * q.val + w.val) / 40 * 40 = nI w.val := by decide +kernel
  exact this ⟨q, hq⟩ ⟨w, hw⟩
def lookQ (h0 : kx_H) (m : Nat) (S : Nat → Int32) (A : Nat → Nat → Int32) (V : Nat → Nat) (P : Nat → Int32) (sz tn kn rw : Nat) : Outcome → kx_H → Prop := fun o h' => ∃ (S1 : Nat → Int32) (A1 : Nat → Nat → Int32) (code : Nat), o = .returned (some (.int (nI code))) ∧ h' = mH h0 m S1 A1 ∧ (∀ k, k ≠ 22 → S1 k = S k) ∧ (∀ k, k ≠ 12 → k ≠ 16 → k ≠ 18 → A1 k = A k) ∧ ((code = 0 ∧ (∀ r, r < rw → vdct V (A 6) (A 5) P sz tn (24 * kn + r) ≤ 1 ∧ A1 16 r = heldR (40 * (24 * kn + r)) (hwq V tn (24 * kn + r)) ∧ A1 18 r = b01 (decide (vdct V (A 6) (A 5) P sz tn (24 * kn + r) = 1)))) ∨ (code = 1 ∧ (∃ r, r < rw ∧ vdct V (A 6) (A 5) P sz tn (24 * kn + r) = 2 ∧ ∀ p, p < r → vdct V (A 6) (A 5) P sz tn (24 * kn + p) ≤ 1)) ∨ (code = 2 ∧ (∃ r, r < rw ∧ vdct V (A 6) (A 5) P sz tn (24 * kn + r) = 3 ∧ ∀ p, p < r → vdct V (A 6) (A 5) P sz tn (24 * kn + p) ≤ 1)))
set_option maxRecDepth 100000 in
theorem cM_look {tn kn rw : Nat} (hst : l.stackTraces = false) (hm : mOk G h0 m) (ht1 : 1 ≤ tn) (ht2 : tn ≤ 40) (hk : kn < 3) (hrw : A 2 kn = nI rw) (hrw2 : rw ≤ 24) {V : Nat → Nat} (hV : ∀ v, A 4 v = nI (V v)) (hV2 : ∀ v, V v < 256) {P : Nat → Int32} {sz : Nat} (hsz : A 9 0 = nI sz) (hwf : wfP P sz) (hP : ∀ k, k < sz → A 8 (44 * 0 + k) = P k) :
    kx_c G l mM_look (d + 2) 0 0 [.ref m, .int (nI tn), .int (nI kn)] (mH h0 m S A) (lookQ h0 m S A V P sz tn kn rw) := by
  refine kx_in (by decide +kernel) (Nat.le_of_ble_eq_true rfl) hst ?_
  have loop : ∀ n (j : Nat) (S1 : Nat → Int32) (A1 : Nat → Nat → Int32), j + n = rw → (∀ k, k ≠ 22 → S1 k = S k) → (∀ k, k ≠ 12 → k ≠ 16 → k ≠ 18 → A1 k = A k) → (∀ r, r < j → vdct V (A 6) (A 5) P sz tn (24 * kn + r) ≤ 1 ∧ A1 16 r = heldR (40 * (24 * kn + r)) (hwq V tn (24 * kn + r)) ∧ A1 18 r = b01 (decide (vdct V (A 6) (A 5) P sz tn (24 * kn + r) = 1))) → kx_w G l mM_look (d + 2) (lookQ h0 m S A V P sz tn kn rw) 0 0 2 [(0, .ref m), (1, .int (nI tn)), (2, .int (nI kn)), (3, .int (nI j))] [] (mH h0 m S1 A1) := by
    intro n
    induction n with
    | zero =>
      intro j S1 A1 hj hS1 hA1 hspec
      have hrw1 : A1 2 kn = nI rw := by rw [hA1 2 (by decide) (by decide) (by decide)]; exact hrw
      have hV1 : ∀ v, A1 4 v = nI (V v) := fun v => by rw [hA1 4 (by decide) (by decide) (by decide)]; exact hV v
      have hsz1 : A1 9 0 = nI sz := by rw [hA1 9 (by decide) (by decide) (by decide)]; exact hsz
      have hP1 : ∀ k, k < sz → A1 8 (44 * 0 + k) = P k := fun k hk => by rw [hA1 8 (by decide) (by decide) (by decide)]; exact hP k hk
      have hA61 : A1 6 = A 6 := hA1 6 (by decide) (by decide) (by decide)
      have hA51 : A1 5 = A 5 := hA1 5 (by decide) (by decide) (by decide)
      refine kx_rn dM_look 2 4 [(0, .ref m), (1, .int (nI tn)), (2, .int (nI kn)), (3, .int (nI j))] [.ref m, .int (nI j)] rfl ?_
      refine pM_13 (v := .ref (m + 2)) rfl (kx_tk_dec rfl dM_look) (mh_o hm) rfl ?_
      refine kx_rn dM_look 1 8 [(0, .ref m), (1, .int (nI tn)), (2, .int (nI kn)), (3, .int (nI j))] [.int (nI kn), .ref (m + 2), .int (nI j)] rfl ?_
      refine mh_ld (k := 2) (x := A1 2 kn) (i := kn) rfl rfl (kx_tk_dec rfl dM_look) hm (by show kn < 3; omega) ?_
      rw [hrw1]
      refine kx_ic (tgt := 131) (kx_tk_dec rfl dM_look) rfl (fun e9 => ?_) (fun e9 => ?_)
      · skip
        replace e9 : nI rw ≤ nI j := e9
        replace e9 : rw ≤ j := (nI_leI (a := rw) (b := j) (by omega) (by omega)).mp e9
        refine kx_rn dM_look 1 132 [(0, .ref m), (1, .int (nI tn)), (2, .int (nI kn)), (3, .int (nI j))] [.int 0] rfl ?_
        refine kx_ret (ty := .int) (kx_tk_dec rfl dM_look) rfl rfl ?_
        exact ⟨S1, A1, 0, rfl, rfl, hS1, hA1, Or.inl ⟨rfl, fun r hr => hspec r (by omega)⟩⟩
      · skip
        replace e9 : ¬ nI rw ≤ nI j := e9
        replace e9 : ¬ rw ≤ j := fun z => e9 ((nI_leI (a := rw) (b := j) (by omega) (by omega)).mpr z)
        exfalso; omega
    | succ n ih =>
      intro j S1 A1 hj hS1 hA1 hspec
      have hrw1 : A1 2 kn = nI rw := by rw [hA1 2 (by decide) (by decide) (by decide)]; exact hrw
      have hV1 : ∀ v, A1 4 v = nI (V v) := fun v => by rw [hA1 4 (by decide) (by decide) (by decide)]; exact hV v
      have hsz1 : A1 9 0 = nI sz := by rw [hA1 9 (by decide) (by decide) (by decide)]; exact hsz
      have hP1 : ∀ k, k < sz → A1 8 (44 * 0 + k) = P k := fun k hk => by rw [hA1 8 (by decide) (by decide) (by decide)]; exact hP k hk
      have hA61 : A1 6 = A 6 := hA1 6 (by decide) (by decide) (by decide)
      have hA51 : A1 5 = A 5 := hA1 5 (by decide) (by decide) (by decide)
      refine kx_rn dM_look 2 4 [(0, .ref m), (1, .int (nI tn)), (2, .int (nI kn)), (3, .int (nI j))] [.ref m, .int (nI j)] rfl ?_
      refine pM_13 (v := .ref (m + 2)) rfl (kx_tk_dec rfl dM_look) (mh_o hm) rfl ?_
      refine kx_rn dM_look 1 8 [(0, .ref m), (1, .int (nI tn)), (2, .int (nI kn)), (3, .int (nI j))] [.int (nI kn), .ref (m + 2), .int (nI j)] rfl ?_
      refine mh_ld (k := 2) (x := A1 2 kn) (i := kn) rfl rfl (kx_tk_dec rfl dM_look) hm (by show kn < 3; omega) ?_
      rw [hrw1]
      refine kx_ic (tgt := 131) (kx_tk_dec rfl dM_look) rfl (fun e9 => ?_) (fun e9 => ?_)
      · skip
        replace e9 : nI rw ≤ nI j := e9
        replace e9 : rw ≤ j := (nI_leI (a := rw) (b := j) (by omega) (by omega)).mp e9
        exfalso; omega
      · skip
        replace e9 : ¬ nI rw ≤ nI j := e9
        replace e9 : ¬ rw ≤ j := fun z => e9 ((nI_leI (a := rw) (b := j) (by omega) (by omega)).mpr z)
        refine kx_rn dM_look 4 16 [(0, .ref m), (1, .int (nI tn)), (2, .int (nI kn)), (3, .int (nI j))] [.int (nI j), .int (nI kn), .int (nI tn), .ref m] rfl ?_
        refine cM_156 (as := [.int (nI tn), .int (nI kn), .int (nI j)]) (st := []) (mc := 0) (ms := 0) (kc := 0) (ks := 0) rfl (kx_tk_dec rfl dM_look) (mh_o hm) rfl rfl (Nat.le_of_ble_eq_true rfl) (cM_held hst hm ht1 ht2 hk (by omega) hV1 hV2) (fun o h' hq => ?_)
        obtain ⟨rfl, rfl⟩ := hq
        show kx_w _ _ _ _ _ _ _ _ _ _ _
        have hW2j : hwq V tn (24 * kn + j) ≤ tn := hw_le _ _
        rw [show heldR (40 * (24 * kn + j)) (hw (fun w => decide (¬ V (40 * (24 * kn + j) + w - 1) = 0)) tn) = heldR (40 * (24 * kn + j)) (hwq V tn (24 * kn + j)) from rfl]
        cases hWj : hwq V tn (24 * kn + j) with
        | zero =>
          refine kx_rn dM_look 2 22 [(0, .ref m), (1, .int (nI tn)), (2, .int (nI kn)), (3, .int (nI j)), (4, .int ((-1)))] [.ref m] rfl ?_
          refine pM_60 (v := .ref (m + 16)) rfl (kx_tk_dec rfl dM_look) (mh_o hm) rfl ?_
          refine kx_rn dM_look 2 28 [(0, .ref m), (1, .int (nI tn)), (2, .int (nI kn)), (3, .int (nI j)), (4, .int ((-1)))] [.int ((-1)), .int (nI j), .ref (m + 16)] rfl ?_
          refine mh_st (k := 16) (i := j) (A' := va_up A1 16 (va_up (A1 16) j ((-1)))) rfl (kx_tk_dec rfl dM_look) hm (by show j < 24; omega) rfl ?_
          refine kx_rn dM_look 1 30 [(0, .ref m), (1, .int (nI tn)), (2, .int (nI kn)), (3, .int (nI j)), (4, .int ((-1)))] [.ref m] rfl ?_
          refine pM_66 (v := .ref (m + 18)) rfl (kx_tk_dec rfl dM_look) (mh_o hm) rfl ?_
          refine kx_rn dM_look 2 35 [(0, .ref m), (1, .int (nI tn)), (2, .int (nI kn)), (3, .int (nI j)), (4, .int ((-1)))] [.int 0, .int (nI j), .ref (m + 18)] rfl ?_
          refine mh_zs (k := 18) (i := j) (A' := va_up (va_up A1 16 (va_up (A1 16) j ((-1)))) 18 (va_up (A1 18) j 0)) rfl (kx_tk_dec rfl dM_look) hm (by show j < 24; omega) rfl rfl ?_
          refine kx_rn dM_look 1 38 [(0, .ref m), (1, .int (nI tn)), (2, .int (nI kn)), (3, .int (nI j)), (4, .int ((-1)))] [.int ((-1))] rfl ?_
          refine kx_if (tgt := 44) (kx_tk_dec rfl dM_look) rfl (fun e38 => ?_) (fun e38 => ?_)
          · skip
            replace e38 : 0 ≤ ((-1) : Int32) := e38
            exact absurd e38 (by decide)
          · skip
            replace e38 : ¬ 0 ≤ ((-1) : Int32) := e38
            refine kx_rn dM_look 3 2 [(0, .ref m), (1, .int (nI tn)), (2, .int (nI kn)), (3, .int ((nI j) + 1)), (4, .int ((-1)))] [] rfl ?_
            rw [show (nI j) + 1 = nI (j + 1) from kn_ad rfl rfl]
            refine kx_lsub (lv' := [(0, .ref m), (1, .int (nI tn)), (2, .int (nI kn)), (3, .int (nI (j + 1)))]) (.cons₂ _ (.cons₂ _ (.cons₂ _ (.cons₂ _ (.cons _ .slnil))))) ?_
            have hvd : vdct V (A 6) (A 5) P sz tn (24 * kn + j) = 0 := by unfold vdct; rw [if_pos hWj]
            refine ih (j + 1) S1 (va_up (va_up A1 16 (va_up (A1 16) j ((-1)))) 18 (va_up (A1 18) j 0)) (by omega) hS1 (fun k h12 h16 h18 => by simp only [va_up]; simp only [if_neg h12, if_neg h16, if_neg h18]; exact hA1 k h12 h16 h18) (fun r hr => ?_)
            by_cases z : r = j
            · rw [z]
              refine ⟨by rw [hvd]; decide, ?_, ?_⟩
              · show va_up _ j _ j = _; rw [va_up_self, hWj]; rfl
              · show va_up _ j _ j = _; rw [va_up_self, hvd]; rfl
            · obtain ⟨z1, z2, z3⟩ := hspec r (by omega)
              exact ⟨z1, by show va_up _ j _ r = _; rw [va_up_ne _ _ z]; exact z2, by show va_up _ j _ r = _; rw [va_up_ne _ _ z]; first | exact z3 | (rw [va_up_ne _ _ z]; exact z3)⟩
        | succ w1 =>
          refine kx_rn dM_look 2 22 [(0, .ref m), (1, .int (nI tn)), (2, .int (nI kn)), (3, .int (nI j)), (4, .int (nI (40 * (24 * kn + j) + w1)))] [.ref m] rfl ?_
          refine pM_60 (v := .ref (m + 16)) rfl (kx_tk_dec rfl dM_look) (mh_o hm) rfl ?_
          refine kx_rn dM_look 2 28 [(0, .ref m), (1, .int (nI tn)), (2, .int (nI kn)), (3, .int (nI j)), (4, .int (nI (40 * (24 * kn + j) + w1)))] [.int (nI (40 * (24 * kn + j) + w1)), .int (nI j), .ref (m + 16)] rfl ?_
          refine mh_st (k := 16) (i := j) (A' := va_up A1 16 (va_up (A1 16) j (nI (40 * (24 * kn + j) + w1)))) rfl (kx_tk_dec rfl dM_look) hm (by show j < 24; omega) rfl ?_
          refine kx_rn dM_look 1 30 [(0, .ref m), (1, .int (nI tn)), (2, .int (nI kn)), (3, .int (nI j)), (4, .int (nI (40 * (24 * kn + j) + w1)))] [.ref m] rfl ?_
          refine pM_66 (v := .ref (m + 18)) rfl (kx_tk_dec rfl dM_look) (mh_o hm) rfl ?_
          refine kx_rn dM_look 2 35 [(0, .ref m), (1, .int (nI tn)), (2, .int (nI kn)), (3, .int (nI j)), (4, .int (nI (40 * (24 * kn + j) + w1)))] [.int 0, .int (nI j), .ref (m + 18)] rfl ?_
          refine mh_zs (k := 18) (i := j) (A' := va_up (va_up A1 16 (va_up (A1 16) j (nI (40 * (24 * kn + j) + w1)))) 18 (va_up (A1 18) j 0)) rfl (kx_tk_dec rfl dM_look) hm (by show j < 24; omega) rfl rfl ?_
          refine kx_rn dM_look 1 38 [(0, .ref m), (1, .int (nI tn)), (2, .int (nI kn)), (3, .int (nI j)), (4, .int (nI (40 * (24 * kn + j) + w1)))] [.int (nI (40 * (24 * kn + j) + w1))] rfl ?_
          refine kx_if (tgt := 44) (kx_tk_dec rfl dM_look) rfl (fun e38 => ?_) (fun e38 => ?_)
          · skip
            replace e38 : 0 ≤ nI (40 * (24 * kn + j) + w1) := e38
            replace e38 : 0 ≤ 40 * (24 * kn + j) + w1 := (nI_leI (a := 0) (b := 40 * (24 * kn + j) + w1) (by omega) (by omega)).mp e38
            refine kx_rn dM_look 2 48 [(0, .ref m), (1, .int (nI tn)), (2, .int (nI kn)), (3, .int (nI j)), (4, .int (nI (40 * (24 * kn + j) + w1)))] [.int 40, .int (nI (40 * (24 * kn + j) + w1))] rfl ?_
            refine kx_rem (kx_tk_dec rfl dM_look) (by decide) ?_
            rw [show nI (40 * (24 * kn + j) + w1) - nI (40 * (24 * kn + j) + w1) / 40 * 40 = nI w1 from kn_rem40 (by omega) (by omega)]
            refine kx_rn dM_look 5 56 [(0, .ref m), (1, .int (nI tn)), (2, .int (nI kn)), (3, .int (nI j)), (4, .int (nI (40 * (24 * kn + j) + w1))), (5, .int ((nI w1) + 1))] [.int (nI tn), .int ((nI w1) + 1)] rfl ?_
            rw [show (nI w1) + 1 = nI (w1 + 1) from kn_ad rfl rfl]
            refine kx_ic (tgt := 72) (kx_tk_dec rfl dM_look) rfl (fun e56 => ?_) (fun e56 => ?_)
            · skip
              replace e56 : nI (w1 + 1) = nI tn := e56
              replace e56 : w1 + 1 = tn := (nI_eq (a := w1 + 1) (b := tn) (by omega) (by omega)).mp e56
              refine kx_rn dM_look 1 73 [(0, .ref m), (1, .int (nI tn)), (2, .int (nI kn)), (3, .int (nI j)), (4, .int (nI (40 * (24 * kn + j) + w1))), (5, .int (nI (w1 + 1)))] [.ref m] rfl ?_
              refine pM_19 (v := .ref (m + 4)) rfl (kx_tk_dec rfl dM_look) (mh_o hm) rfl ?_
              refine kx_rn dM_look 1 78 [(0, .ref m), (1, .int (nI tn)), (2, .int (nI kn)), (3, .int (nI j)), (4, .int (nI (40 * (24 * kn + j) + w1))), (5, .int (nI (w1 + 1)))] [.int (nI (40 * (24 * kn + j) + w1)), .ref (m + 4)] rfl ?_
              refine mh_ld (k := 4) (x := A1 4 (40 * (24 * kn + j) + w1)) (i := 40 * (24 * kn + j) + w1) rfl rfl (kx_tk_dec rfl dM_look) hm (by show 40 * (24 * kn + j) + w1 < 2880; omega) ?_
              rw [hV1 (40 * (24 * kn + j) + w1)]
              have := hV2 (40 * (24 * kn + j) + w1)
              refine cM_159 (as := [.int (nI (V (40 * (24 * kn + j) + w1)))]) (st := []) (mc := 0) (ms := 0) (kc := 0) (ks := 0) rfl (kx_tk_dec rfl dM_look) rfl rfl (Nat.le_of_ble_eq_true rfl) (cM_gone hst) (fun o h' hq => ?_)
              obtain ⟨bg0, rfl, rfl, hbg0⟩ := hq
              show kx_w _ _ _ _ _ _ _ _ _ _ _
              rw [kw_gone (hV2 _)] at hbg0
              refine kx_if (tgt := 88) (kx_tk_dec rfl dM_look) rfl (fun e82 => ?_) (fun e82 => ?_)
              · skip
                replace e82 : b01 bg0 = 0 := e82
                replace e82 : bg0 = false := b01_f e82
                refine kx_rn dM_look 2 90 [(0, .ref m), (1, .int (nI tn)), (2, .int (nI kn)), (3, .int (nI j)), (4, .int (nI (40 * (24 * kn + j) + w1))), (5, .int (nI (w1 + 1)))] [.int 0, .ref m] rfl ?_
                refine qM_148 rfl (kx_tk_dec rfl dM_look) (mh_o hm) rfl rfl (Nat.le_of_ble_eq_true rfl) ?_
                rw [mh_p22]
                refine kx_rn dM_look 1 94 [(0, .ref m), (1, .int (nI tn)), (2, .int (nI kn)), (3, .int (nI j)), (4, .int (nI (40 * (24 * kn + j) + w1))), (5, .int (nI (w1 + 1)))] [.ref m] rfl ?_
                refine pM_66 (v := .ref (m + 18)) rfl (kx_tk_dec rfl dM_look) (mh_o hm) rfl ?_
                refine kx_rn dM_look 6 104 [(0, .ref m), (1, .int (nI tn)), (2, .int (nI kn)), (3, .int (nI j)), (4, .int (nI (40 * (24 * kn + j) + w1))), (5, .int (nI (w1 + 1)))] [.int (4 * (nI (40 * (24 * kn + j) + w1))), .int 0, .ref m, .int (nI j), .ref (m + 18)] rfl ?_
                rw [show 4 * (nI (40 * (24 * kn + j) + w1)) = nI (4 * (40 * (24 * kn + j) + w1)) from kn_mu rfl rfl]
                have hwk := cM_work (d := d) (row := 0) (S := va_up S1 22 0) (A := va_up (va_up A1 16 (va_up (A1 16) j (nI (40 * (24 * kn + j) + w1)))) 18 (va_up (A1 18) j 0)) (fr := 4 * (40 * (24 * kn + j) + w1)) (dv := false) hst hm rfl (by decide) (by omega) hsz1 hwf hP1
                rw [show (fun c => (va_up (va_up A1 16 (va_up (A1 16) j (nI (40 * (24 * kn + j) + w1)))) 18 (va_up (A1 18) j 0)) 5 (4 * (40 * (24 * kn + j) + w1) + c)) = (fun c => A 5 (4 * (40 * (24 * kn + j) + w1) + c)) from by funext c; show A1 5 _ = _; rw [hA51]] at hwk
                simp only [Bool.false_or] at hwk
                refine cM_162 (as := [.int 0, .int (nI (4 * (40 * (24 * kn + j) + w1)))]) (st := [.int (nI j), .ref (m + 18)]) (mc := 0) (ms := 0) (kc := 0) (ks := 0) rfl (kx_tk_dec rfl dM_look) (mh_o hm) rfl rfl (Nat.le_of_ble_eq_true rfl) (hwk) (fun o h' hq => ?_)
                obtain ⟨rfl, Fs, rfl⟩ := hq
                show kx_w _ _ _ _ _ _ _ _ _ _ _
                rw [va_upup]
                refine kx_if (tgt := 114) (kx_tk_dec rfl dM_look) rfl (fun e107 => ?_) (fun e107 => ?_)
                · skip
                  replace e107 : (evC P sz (fun c => A 5 (4 * (40 * (24 * kn + j) + w1) + c))).1 = 0 := e107
                  refine kx_rn dM_look 1 115 [(0, .ref m), (1, .int (nI tn)), (2, .int (nI kn)), (3, .int (nI j)), (4, .int (nI (40 * (24 * kn + j) + w1))), (5, .int (nI (w1 + 1)))] [.int 0, .int (nI j), .ref (m + 18)] rfl ?_
                  refine mh_zs (k := 18) (i := j) (A' := va_up (va_up (va_up (va_up A1 16 (va_up (A1 16) j (nI (40 * (24 * kn + j) + w1)))) 18 (va_up (A1 18) j 0)) 12 Fs) 18 (va_up (va_up (A1 18) j 0) j 0)) rfl (kx_tk_dec rfl dM_look) hm (by show j < 24; omega) rfl rfl ?_
                  refine kx_rn dM_look 1 117 [(0, .ref m), (1, .int (nI tn)), (2, .int (nI kn)), (3, .int (nI j)), (4, .int (nI (40 * (24 * kn + j) + w1))), (5, .int (nI (w1 + 1)))] [.ref m] rfl ?_
                  refine pM_148 (v := .int (b01 (evC P sz (fun c => A 5 (4 * (40 * (24 * kn + j) + w1) + c))).2)) rfl (kx_tk_dec rfl dM_look) (mh_o hm) rfl ?_
                  refine kx_if (tgt := 125) (kx_tk_dec rfl dM_look) rfl (fun e120 => ?_) (fun e120 => ?_)
                  · skip
                    replace e120 : b01 ((evC P sz (fun c => A 5 (4 * (40 * (24 * kn + j) + w1) + c))).2) = 0 := e120
                    replace e120 : (evC P sz (fun c => A 5 (4 * (40 * (24 * kn + j) + w1) + c))).2 = false := b01_f e120
                    refine kx_rn dM_look 2 2 [(0, .ref m), (1, .int (nI tn)), (2, .int (nI kn)), (3, .int ((nI j) + 1)), (4, .int (nI (40 * (24 * kn + j) + w1))), (5, .int (nI (w1 + 1)))] [] rfl ?_
                    rw [show (nI j) + 1 = nI (j + 1) from kn_ad rfl rfl]
                    refine kx_lsub (lv' := [(0, .ref m), (1, .int (nI tn)), (2, .int (nI kn)), (3, .int (nI (j + 1)))]) (.cons₂ _ (.cons₂ _ (.cons₂ _ (.cons₂ _ (.cons _ (.cons _ .slnil)))))) ?_
                    have hvd : vdct V (A 6) (A 5) P sz tn (24 * kn + j) = 0 := by unfold vdct; rw [if_neg (by rw [hWj]; omega), if_neg (by rw [hWj]; exact fun z => z.1 e56), hWj, show w1 + 1 - 1 = w1 from rfl, if_neg (fun z => absurd (hbg0.mpr z) (by rw [e82]; decide)), if_neg (by rw [e120]; decide), if_pos e107]
                    refine ih (j + 1) (va_up S1 22 (b01 (evC P sz (fun c => A 5 (4 * (40 * (24 * kn + j) + w1) + c))).2)) (va_up (va_up (va_up (va_up A1 16 (va_up (A1 16) j (nI (40 * (24 * kn + j) + w1)))) 18 (va_up (A1 18) j 0)) 12 Fs) 18 (va_up (va_up (A1 18) j 0) j 0)) (by omega) (fun k hk => by simp only [va_up]; rw [if_neg hk]; exact hS1 k hk) (fun k h12 h16 h18 => by simp only [va_up]; simp only [if_neg h12, if_neg h16, if_neg h18]; exact hA1 k h12 h16 h18) (fun r hr => ?_)
                    by_cases z : r = j
                    · rw [z]
                      refine ⟨by rw [hvd]; decide, ?_, ?_⟩
                      · show va_up _ j _ j = _; rw [va_up_self, hWj]; rfl
                      · show va_up _ j _ j = _; rw [va_up_self, hvd]; rfl
                    · obtain ⟨z1, z2, z3⟩ := hspec r (by omega)
                      exact ⟨z1, by show va_up _ j _ r = _; rw [va_up_ne _ _ z]; exact z2, by show va_up _ j _ r = _; rw [va_up_ne _ _ z]; first | exact z3 | (rw [va_up_ne _ _ z]; exact z3)⟩
                  · skip
                    replace e120 : ¬ b01 ((evC P sz (fun c => A 5 (4 * (40 * (24 * kn + j) + w1) + c))).2) = 0 := e120
                    replace e120 : (evC P sz (fun c => A 5 (4 * (40 * (24 * kn + j) + w1) + c))).2 = true := b01_t e120
                    refine kx_rn dM_look 1 124 [(0, .ref m), (1, .int (nI tn)), (2, .int (nI kn)), (3, .int (nI j)), (4, .int (nI (40 * (24 * kn + j) + w1))), (5, .int (nI (w1 + 1)))] [.int 2] rfl ?_
                    have hvd : vdct V (A 6) (A 5) P sz tn (24 * kn + j) = 3 := by unfold vdct; rw [if_neg (by rw [hWj]; omega), if_neg (by rw [hWj]; exact fun z => z.1 e56), hWj, show w1 + 1 - 1 = w1 from rfl, if_neg (fun z => absurd (hbg0.mpr z) (by rw [e82]; decide)), if_pos e120]
                    refine kx_ret (ty := .int) (kx_tk_dec rfl dM_look) rfl rfl ?_
                    refine ⟨va_up S1 22 (b01 (evC P sz (fun c => A 5 (4 * (40 * (24 * kn + j) + w1) + c))).2), va_up (va_up (va_up (va_up A1 16 (va_up (A1 16) j (nI (40 * (24 * kn + j) + w1)))) 18 (va_up (A1 18) j 0)) 12 Fs) 18 (va_up (va_up (A1 18) j 0) j 0), 2, rfl, rfl, fun k hk => by simp only [va_up]; rw [if_neg hk]; exact hS1 k hk, fun k h12 h16 h18 => by simp only [va_up]; simp only [if_neg h12, if_neg h16, if_neg h18]; exact hA1 k h12 h16 h18, ?_⟩
                    exact Or.inr (Or.inr ⟨rfl, j, by omega, hvd, fun p hp => (hspec p hp).1⟩)
                · skip
                  replace e107 : ¬ (evC P sz (fun c => A 5 (4 * (40 * (24 * kn + j) + w1) + c))).1 = 0 := e107
                  refine kx_rn dM_look 2 115 [(0, .ref m), (1, .int (nI tn)), (2, .int (nI kn)), (3, .int (nI j)), (4, .int (nI (40 * (24 * kn + j) + w1))), (5, .int (nI (w1 + 1)))] [.int 1, .int (nI j), .ref (m + 18)] rfl ?_
                  refine mh_zs (k := 18) (i := j) (A' := va_up (va_up (va_up (va_up A1 16 (va_up (A1 16) j (nI (40 * (24 * kn + j) + w1)))) 18 (va_up (A1 18) j 0)) 12 Fs) 18 (va_up (va_up (A1 18) j 0) j 1)) rfl (kx_tk_dec rfl dM_look) hm (by show j < 24; omega) rfl rfl ?_
                  refine kx_rn dM_look 1 117 [(0, .ref m), (1, .int (nI tn)), (2, .int (nI kn)), (3, .int (nI j)), (4, .int (nI (40 * (24 * kn + j) + w1))), (5, .int (nI (w1 + 1)))] [.ref m] rfl ?_
                  refine pM_148 (v := .int (b01 (evC P sz (fun c => A 5 (4 * (40 * (24 * kn + j) + w1) + c))).2)) rfl (kx_tk_dec rfl dM_look) (mh_o hm) rfl ?_
                  refine kx_if (tgt := 125) (kx_tk_dec rfl dM_look) rfl (fun e120 => ?_) (fun e120 => ?_)
                  · skip
                    replace e120 : b01 ((evC P sz (fun c => A 5 (4 * (40 * (24 * kn + j) + w1) + c))).2) = 0 := e120
                    replace e120 : (evC P sz (fun c => A 5 (4 * (40 * (24 * kn + j) + w1) + c))).2 = false := b01_f e120
                    refine kx_rn dM_look 2 2 [(0, .ref m), (1, .int (nI tn)), (2, .int (nI kn)), (3, .int ((nI j) + 1)), (4, .int (nI (40 * (24 * kn + j) + w1))), (5, .int (nI (w1 + 1)))] [] rfl ?_
                    rw [show (nI j) + 1 = nI (j + 1) from kn_ad rfl rfl]
                    refine kx_lsub (lv' := [(0, .ref m), (1, .int (nI tn)), (2, .int (nI kn)), (3, .int (nI (j + 1)))]) (.cons₂ _ (.cons₂ _ (.cons₂ _ (.cons₂ _ (.cons _ (.cons _ .slnil)))))) ?_
                    have hvd : vdct V (A 6) (A 5) P sz tn (24 * kn + j) = 1 := by unfold vdct; rw [if_neg (by rw [hWj]; omega), if_neg (by rw [hWj]; exact fun z => z.1 e56), hWj, show w1 + 1 - 1 = w1 from rfl, if_neg (fun z => absurd (hbg0.mpr z) (by rw [e82]; decide)), if_neg (by rw [e120]; decide), if_neg e107]
                    refine ih (j + 1) (va_up S1 22 (b01 (evC P sz (fun c => A 5 (4 * (40 * (24 * kn + j) + w1) + c))).2)) (va_up (va_up (va_up (va_up A1 16 (va_up (A1 16) j (nI (40 * (24 * kn + j) + w1)))) 18 (va_up (A1 18) j 0)) 12 Fs) 18 (va_up (va_up (A1 18) j 0) j 1)) (by omega) (fun k hk => by simp only [va_up]; rw [if_neg hk]; exact hS1 k hk) (fun k h12 h16 h18 => by simp only [va_up]; simp only [if_neg h12, if_neg h16, if_neg h18]; exact hA1 k h12 h16 h18) (fun r hr => ?_)
                    by_cases z : r = j
                    · rw [z]
                      refine ⟨by rw [hvd]; decide, ?_, ?_⟩
                      · show va_up _ j _ j = _; rw [va_up_self, hWj]; rfl
                      · show va_up _ j _ j = _; rw [va_up_self, hvd]; rfl
                    · obtain ⟨z1, z2, z3⟩ := hspec r (by omega)
                      exact ⟨z1, by show va_up _ j _ r = _; rw [va_up_ne _ _ z]; exact z2, by show va_up _ j _ r = _; rw [va_up_ne _ _ z]; first | exact z3 | (rw [va_up_ne _ _ z]; exact z3)⟩
                  · skip
                    replace e120 : ¬ b01 ((evC P sz (fun c => A 5 (4 * (40 * (24 * kn + j) + w1) + c))).2) = 0 := e120
                    replace e120 : (evC P sz (fun c => A 5 (4 * (40 * (24 * kn + j) + w1) + c))).2 = true := b01_t e120
                    refine kx_rn dM_look 1 124 [(0, .ref m), (1, .int (nI tn)), (2, .int (nI kn)), (3, .int (nI j)), (4, .int (nI (40 * (24 * kn + j) + w1))), (5, .int (nI (w1 + 1)))] [.int 2] rfl ?_
                    have hvd : vdct V (A 6) (A 5) P sz tn (24 * kn + j) = 3 := by unfold vdct; rw [if_neg (by rw [hWj]; omega), if_neg (by rw [hWj]; exact fun z => z.1 e56), hWj, show w1 + 1 - 1 = w1 from rfl, if_neg (fun z => absurd (hbg0.mpr z) (by rw [e82]; decide)), if_pos e120]
                    refine kx_ret (ty := .int) (kx_tk_dec rfl dM_look) rfl rfl ?_
                    refine ⟨va_up S1 22 (b01 (evC P sz (fun c => A 5 (4 * (40 * (24 * kn + j) + w1) + c))).2), va_up (va_up (va_up (va_up A1 16 (va_up (A1 16) j (nI (40 * (24 * kn + j) + w1)))) 18 (va_up (A1 18) j 0)) 12 Fs) 18 (va_up (va_up (A1 18) j 0) j 1), 2, rfl, rfl, fun k hk => by simp only [va_up]; rw [if_neg hk]; exact hS1 k hk, fun k h12 h16 h18 => by simp only [va_up]; simp only [if_neg h12, if_neg h16, if_neg h18]; exact hA1 k h12 h16 h18, ?_⟩
                    exact Or.inr (Or.inr ⟨rfl, j, by omega, hvd, fun p hp => (hspec p hp).1⟩)
              · skip
                replace e82 : ¬ b01 bg0 = 0 := e82
                replace e82 : bg0 = true := b01_t e82
                refine kx_rn dM_look 3 2 [(0, .ref m), (1, .int (nI tn)), (2, .int (nI kn)), (3, .int ((nI j) + 1)), (4, .int (nI (40 * (24 * kn + j) + w1))), (5, .int (nI (w1 + 1)))] [] rfl ?_
                rw [show (nI j) + 1 = nI (j + 1) from kn_ad rfl rfl]
                refine kx_lsub (lv' := [(0, .ref m), (1, .int (nI tn)), (2, .int (nI kn)), (3, .int (nI (j + 1)))]) (.cons₂ _ (.cons₂ _ (.cons₂ _ (.cons₂ _ (.cons _ (.cons _ .slnil)))))) ?_
                have hvd : vdct V (A 6) (A 5) P sz tn (24 * kn + j) = 0 := by unfold vdct; rw [if_neg (by rw [hWj]; omega), if_neg (by rw [hWj]; exact fun z => z.1 e56), hWj, show w1 + 1 - 1 = w1 from rfl, if_pos (hbg0.mp e82)]
                refine ih (j + 1) S1 (va_up (va_up A1 16 (va_up (A1 16) j (nI (40 * (24 * kn + j) + w1)))) 18 (va_up (A1 18) j 0)) (by omega) hS1 (fun k h12 h16 h18 => by simp only [va_up]; simp only [if_neg h12, if_neg h16, if_neg h18]; exact hA1 k h12 h16 h18) (fun r hr => ?_)
                by_cases z : r = j
                · rw [z]
                  refine ⟨by rw [hvd]; decide, ?_, ?_⟩
                  · show va_up _ j _ j = _; rw [va_up_self, hWj]; rfl
                  · show va_up _ j _ j = _; rw [va_up_self, hvd]; rfl
                · obtain ⟨z1, z2, z3⟩ := hspec r (by omega)
                  exact ⟨z1, by show va_up _ j _ r = _; rw [va_up_ne _ _ z]; exact z2, by show va_up _ j _ r = _; rw [va_up_ne _ _ z]; first | exact z3 | (rw [va_up_ne _ _ z]; exact z3)⟩
            · skip
              replace e56 : ¬ nI (w1 + 1) = nI tn := e56
              replace e56 : ¬ w1 + 1 = tn := fun z => e56 ((nI_eq (a := w1 + 1) (b := tn) (by omega) (by omega)).mpr z)
              refine kx_rn dM_look 1 60 [(0, .ref m), (1, .int (nI tn)), (2, .int (nI kn)), (3, .int (nI j)), (4, .int (nI (40 * (24 * kn + j) + w1))), (5, .int (nI (w1 + 1)))] [.ref m] rfl ?_
              refine pM_25 (v := .ref (m + 6)) rfl (kx_tk_dec rfl dM_look) (mh_o hm) rfl ?_
              refine kx_rn dM_look 1 65 [(0, .ref m), (1, .int (nI tn)), (2, .int (nI kn)), (3, .int (nI j)), (4, .int (nI (40 * (24 * kn + j) + w1))), (5, .int (nI (w1 + 1)))] [.int (nI (w1 + 1)), .ref (m + 6)] rfl ?_
              refine mh_ld (k := 6) (x := A1 6 (w1 + 1)) (i := w1 + 1) rfl rfl (kx_tk_dec rfl dM_look) hm (by show w1 + 1 < 41; omega) ?_
              rw [hA61]
              refine kx_rn dM_look 1 67 [(0, .ref m), (1, .int (nI tn)), (2, .int (nI kn)), (3, .int (nI j)), (4, .int (nI (40 * (24 * kn + j) + w1))), (5, .int (nI (w1 + 1)))] [.int 1, .int (A 6 (w1 + 1))] rfl ?_
              refine kx_ic (tgt := 72) (kx_tk_dec rfl dM_look) rfl (fun e67 => ?_) (fun e67 => ?_)
              · skip
                replace e67 : ¬ A 6 (w1 + 1) = 1 := e67
                refine kx_rn dM_look 1 73 [(0, .ref m), (1, .int (nI tn)), (2, .int (nI kn)), (3, .int (nI j)), (4, .int (nI (40 * (24 * kn + j) + w1))), (5, .int (nI (w1 + 1)))] [.ref m] rfl ?_
                refine pM_19 (v := .ref (m + 4)) rfl (kx_tk_dec rfl dM_look) (mh_o hm) rfl ?_
                refine kx_rn dM_look 1 78 [(0, .ref m), (1, .int (nI tn)), (2, .int (nI kn)), (3, .int (nI j)), (4, .int (nI (40 * (24 * kn + j) + w1))), (5, .int (nI (w1 + 1)))] [.int (nI (40 * (24 * kn + j) + w1)), .ref (m + 4)] rfl ?_
                refine mh_ld (k := 4) (x := A1 4 (40 * (24 * kn + j) + w1)) (i := 40 * (24 * kn + j) + w1) rfl rfl (kx_tk_dec rfl dM_look) hm (by show 40 * (24 * kn + j) + w1 < 2880; omega) ?_
                rw [hV1 (40 * (24 * kn + j) + w1)]
                have := hV2 (40 * (24 * kn + j) + w1)
                refine cM_159 (as := [.int (nI (V (40 * (24 * kn + j) + w1)))]) (st := []) (mc := 0) (ms := 0) (kc := 0) (ks := 0) rfl (kx_tk_dec rfl dM_look) rfl rfl (Nat.le_of_ble_eq_true rfl) (cM_gone hst) (fun o h' hq => ?_)
                obtain ⟨bg0, rfl, rfl, hbg0⟩ := hq
                show kx_w _ _ _ _ _ _ _ _ _ _ _
                rw [kw_gone (hV2 _)] at hbg0
                refine kx_if (tgt := 88) (kx_tk_dec rfl dM_look) rfl (fun e82 => ?_) (fun e82 => ?_)
                · skip
                  replace e82 : b01 bg0 = 0 := e82
                  replace e82 : bg0 = false := b01_f e82
                  refine kx_rn dM_look 2 90 [(0, .ref m), (1, .int (nI tn)), (2, .int (nI kn)), (3, .int (nI j)), (4, .int (nI (40 * (24 * kn + j) + w1))), (5, .int (nI (w1 + 1)))] [.int 0, .ref m] rfl ?_
                  refine qM_148 rfl (kx_tk_dec rfl dM_look) (mh_o hm) rfl rfl (Nat.le_of_ble_eq_true rfl) ?_
                  rw [mh_p22]
                  refine kx_rn dM_look 1 94 [(0, .ref m), (1, .int (nI tn)), (2, .int (nI kn)), (3, .int (nI j)), (4, .int (nI (40 * (24 * kn + j) + w1))), (5, .int (nI (w1 + 1)))] [.ref m] rfl ?_
                  refine pM_66 (v := .ref (m + 18)) rfl (kx_tk_dec rfl dM_look) (mh_o hm) rfl ?_
                  refine kx_rn dM_look 6 104 [(0, .ref m), (1, .int (nI tn)), (2, .int (nI kn)), (3, .int (nI j)), (4, .int (nI (40 * (24 * kn + j) + w1))), (5, .int (nI (w1 + 1)))] [.int (4 * (nI (40 * (24 * kn + j) + w1))), .int 0, .ref m, .int (nI j), .ref (m + 18)] rfl ?_
                  rw [show 4 * (nI (40 * (24 * kn + j) + w1)) = nI (4 * (40 * (24 * kn + j) + w1)) from kn_mu rfl rfl]
                  have hwk := cM_work (d := d) (row := 0) (S := va_up S1 22 0) (A := va_up (va_up A1 16 (va_up (A1 16) j (nI (40 * (24 * kn + j) + w1)))) 18 (va_up (A1 18) j 0)) (fr := 4 * (40 * (24 * kn + j) + w1)) (dv := false) hst hm rfl (by decide) (by omega) hsz1 hwf hP1
                  rw [show (fun c => (va_up (va_up A1 16 (va_up (A1 16) j (nI (40 * (24 * kn + j) + w1)))) 18 (va_up (A1 18) j 0)) 5 (4 * (40 * (24 * kn + j) + w1) + c)) = (fun c => A 5 (4 * (40 * (24 * kn + j) + w1) + c)) from by funext c; show A1 5 _ = _; rw [hA51]] at hwk
                  simp only [Bool.false_or] at hwk
                  refine cM_162 (as := [.int 0, .int (nI (4 * (40 * (24 * kn + j) + w1)))]) (st := [.int (nI j), .ref (m + 18)]) (mc := 0) (ms := 0) (kc := 0) (ks := 0) rfl (kx_tk_dec rfl dM_look) (mh_o hm) rfl rfl (Nat.le_of_ble_eq_true rfl) (hwk) (fun o h' hq => ?_)
                  obtain ⟨rfl, Fs, rfl⟩ := hq
                  show kx_w _ _ _ _ _ _ _ _ _ _ _
                  rw [va_upup]
                  refine kx_if (tgt := 114) (kx_tk_dec rfl dM_look) rfl (fun e107 => ?_) (fun e107 => ?_)
                  · skip
                    replace e107 : (evC P sz (fun c => A 5 (4 * (40 * (24 * kn + j) + w1) + c))).1 = 0 := e107
                    refine kx_rn dM_look 1 115 [(0, .ref m), (1, .int (nI tn)), (2, .int (nI kn)), (3, .int (nI j)), (4, .int (nI (40 * (24 * kn + j) + w1))), (5, .int (nI (w1 + 1)))] [.int 0, .int (nI j), .ref (m + 18)] rfl ?_
                    refine mh_zs (k := 18) (i := j) (A' := va_up (va_up (va_up (va_up A1 16 (va_up (A1 16) j (nI (40 * (24 * kn + j) + w1)))) 18 (va_up (A1 18) j 0)) 12 Fs) 18 (va_up (va_up (A1 18) j 0) j 0)) rfl (kx_tk_dec rfl dM_look) hm (by show j < 24; omega) rfl rfl ?_
                    refine kx_rn dM_look 1 117 [(0, .ref m), (1, .int (nI tn)), (2, .int (nI kn)), (3, .int (nI j)), (4, .int (nI (40 * (24 * kn + j) + w1))), (5, .int (nI (w1 + 1)))] [.ref m] rfl ?_
                    refine pM_148 (v := .int (b01 (evC P sz (fun c => A 5 (4 * (40 * (24 * kn + j) + w1) + c))).2)) rfl (kx_tk_dec rfl dM_look) (mh_o hm) rfl ?_
                    refine kx_if (tgt := 125) (kx_tk_dec rfl dM_look) rfl (fun e120 => ?_) (fun e120 => ?_)
                    · skip
                      replace e120 : b01 ((evC P sz (fun c => A 5 (4 * (40 * (24 * kn + j) + w1) + c))).2) = 0 := e120
                      replace e120 : (evC P sz (fun c => A 5 (4 * (40 * (24 * kn + j) + w1) + c))).2 = false := b01_f e120
                      refine kx_rn dM_look 2 2 [(0, .ref m), (1, .int (nI tn)), (2, .int (nI kn)), (3, .int ((nI j) + 1)), (4, .int (nI (40 * (24 * kn + j) + w1))), (5, .int (nI (w1 + 1)))] [] rfl ?_
                      rw [show (nI j) + 1 = nI (j + 1) from kn_ad rfl rfl]
                      refine kx_lsub (lv' := [(0, .ref m), (1, .int (nI tn)), (2, .int (nI kn)), (3, .int (nI (j + 1)))]) (.cons₂ _ (.cons₂ _ (.cons₂ _ (.cons₂ _ (.cons _ (.cons _ .slnil)))))) ?_
                      have hvd : vdct V (A 6) (A 5) P sz tn (24 * kn + j) = 0 := by unfold vdct; rw [if_neg (by rw [hWj]; omega), if_neg (by rw [hWj]; exact fun z => e67 z.2), hWj, show w1 + 1 - 1 = w1 from rfl, if_neg (fun z => absurd (hbg0.mpr z) (by rw [e82]; decide)), if_neg (by rw [e120]; decide), if_pos e107]
                      refine ih (j + 1) (va_up S1 22 (b01 (evC P sz (fun c => A 5 (4 * (40 * (24 * kn + j) + w1) + c))).2)) (va_up (va_up (va_up (va_up A1 16 (va_up (A1 16) j (nI (40 * (24 * kn + j) + w1)))) 18 (va_up (A1 18) j 0)) 12 Fs) 18 (va_up (va_up (A1 18) j 0) j 0)) (by omega) (fun k hk => by simp only [va_up]; rw [if_neg hk]; exact hS1 k hk) (fun k h12 h16 h18 => by simp only [va_up]; simp only [if_neg h12, if_neg h16, if_neg h18]; exact hA1 k h12 h16 h18) (fun r hr => ?_)
                      by_cases z : r = j
                      · rw [z]
                        refine ⟨by rw [hvd]; decide, ?_, ?_⟩
                        · show va_up _ j _ j = _; rw [va_up_self, hWj]; rfl
                        · show va_up _ j _ j = _; rw [va_up_self, hvd]; rfl
                      · obtain ⟨z1, z2, z3⟩ := hspec r (by omega)
                        exact ⟨z1, by show va_up _ j _ r = _; rw [va_up_ne _ _ z]; exact z2, by show va_up _ j _ r = _; rw [va_up_ne _ _ z]; first | exact z3 | (rw [va_up_ne _ _ z]; exact z3)⟩
                    · skip
                      replace e120 : ¬ b01 ((evC P sz (fun c => A 5 (4 * (40 * (24 * kn + j) + w1) + c))).2) = 0 := e120
                      replace e120 : (evC P sz (fun c => A 5 (4 * (40 * (24 * kn + j) + w1) + c))).2 = true := b01_t e120
                      refine kx_rn dM_look 1 124 [(0, .ref m), (1, .int (nI tn)), (2, .int (nI kn)), (3, .int (nI j)), (4, .int (nI (40 * (24 * kn + j) + w1))), (5, .int (nI (w1 + 1)))] [.int 2] rfl ?_
                      have hvd : vdct V (A 6) (A 5) P sz tn (24 * kn + j) = 3 := by unfold vdct; rw [if_neg (by rw [hWj]; omega), if_neg (by rw [hWj]; exact fun z => e67 z.2), hWj, show w1 + 1 - 1 = w1 from rfl, if_neg (fun z => absurd (hbg0.mpr z) (by rw [e82]; decide)), if_pos e120]
                      refine kx_ret (ty := .int) (kx_tk_dec rfl dM_look) rfl rfl ?_
                      refine ⟨va_up S1 22 (b01 (evC P sz (fun c => A 5 (4 * (40 * (24 * kn + j) + w1) + c))).2), va_up (va_up (va_up (va_up A1 16 (va_up (A1 16) j (nI (40 * (24 * kn + j) + w1)))) 18 (va_up (A1 18) j 0)) 12 Fs) 18 (va_up (va_up (A1 18) j 0) j 0), 2, rfl, rfl, fun k hk => by simp only [va_up]; rw [if_neg hk]; exact hS1 k hk, fun k h12 h16 h18 => by simp only [va_up]; simp only [if_neg h12, if_neg h16, if_neg h18]; exact hA1 k h12 h16 h18, ?_⟩
                      exact Or.inr (Or.inr ⟨rfl, j, by omega, hvd, fun p hp => (hspec p hp).1⟩)
                  · skip
                    replace e107 : ¬ (evC P sz (fun c => A 5 (4 * (40 * (24 * kn + j) + w1) + c))).1 = 0 := e107
                    refine kx_rn dM_look 2 115 [(0, .ref m), (1, .int (nI tn)), (2, .int (nI kn)), (3, .int (nI j)), (4, .int (nI (40 * (24 * kn + j) + w1))), (5, .int (nI (w1 + 1)))] [.int 1, .int (nI j), .ref (m + 18)] rfl ?_
                    refine mh_zs (k := 18) (i := j) (A' := va_up (va_up (va_up (va_up A1 16 (va_up (A1 16) j (nI (40 * (24 * kn + j) + w1)))) 18 (va_up (A1 18) j 0)) 12 Fs) 18 (va_up (va_up (A1 18) j 0) j 1)) rfl (kx_tk_dec rfl dM_look) hm (by show j < 24; omega) rfl rfl ?_
                    refine kx_rn dM_look 1 117 [(0, .ref m), (1, .int (nI tn)), (2, .int (nI kn)), (3, .int (nI j)), (4, .int (nI (40 * (24 * kn + j) + w1))), (5, .int (nI (w1 + 1)))] [.ref m] rfl ?_
                    refine pM_148 (v := .int (b01 (evC P sz (fun c => A 5 (4 * (40 * (24 * kn + j) + w1) + c))).2)) rfl (kx_tk_dec rfl dM_look) (mh_o hm) rfl ?_
                    refine kx_if (tgt := 125) (kx_tk_dec rfl dM_look) rfl (fun e120 => ?_) (fun e120 => ?_)
                    · skip
                      replace e120 : b01 ((evC P sz (fun c => A 5 (4 * (40 * (24 * kn + j) + w1) + c))).2) = 0 := e120
                      replace e120 : (evC P sz (fun c => A 5 (4 * (40 * (24 * kn + j) + w1) + c))).2 = false := b01_f e120
                      refine kx_rn dM_look 2 2 [(0, .ref m), (1, .int (nI tn)), (2, .int (nI kn)), (3, .int ((nI j) + 1)), (4, .int (nI (40 * (24 * kn + j) + w1))), (5, .int (nI (w1 + 1)))] [] rfl ?_
                      rw [show (nI j) + 1 = nI (j + 1) from kn_ad rfl rfl]
                      refine kx_lsub (lv' := [(0, .ref m), (1, .int (nI tn)), (2, .int (nI kn)), (3, .int (nI (j + 1)))]) (.cons₂ _ (.cons₂ _ (.cons₂ _ (.cons₂ _ (.cons _ (.cons _ .slnil)))))) ?_
                      have hvd : vdct V (A 6) (A 5) P sz tn (24 * kn + j) = 1 := by unfold vdct; rw [if_neg (by rw [hWj]; omega), if_neg (by rw [hWj]; exact fun z => e67 z.2), hWj, show w1 + 1 - 1 = w1 from rfl, if_neg (fun z => absurd (hbg0.mpr z) (by rw [e82]; decide)), if_neg (by rw [e120]; decide), if_neg e107]
                      refine ih (j + 1) (va_up S1 22 (b01 (evC P sz (fun c => A 5 (4 * (40 * (24 * kn + j) + w1) + c))).2)) (va_up (va_up (va_up (va_up A1 16 (va_up (A1 16) j (nI (40 * (24 * kn + j) + w1)))) 18 (va_up (A1 18) j 0)) 12 Fs) 18 (va_up (va_up (A1 18) j 0) j 1)) (by omega) (fun k hk => by simp only [va_up]; rw [if_neg hk]; exact hS1 k hk) (fun k h12 h16 h18 => by simp only [va_up]; simp only [if_neg h12, if_neg h16, if_neg h18]; exact hA1 k h12 h16 h18) (fun r hr => ?_)
                      by_cases z : r = j
                      · rw [z]
                        refine ⟨by rw [hvd]; decide, ?_, ?_⟩
                        · show va_up _ j _ j = _; rw [va_up_self, hWj]; rfl
                        · show va_up _ j _ j = _; rw [va_up_self, hvd]; rfl
                      · obtain ⟨z1, z2, z3⟩ := hspec r (by omega)
                        exact ⟨z1, by show va_up _ j _ r = _; rw [va_up_ne _ _ z]; exact z2, by show va_up _ j _ r = _; rw [va_up_ne _ _ z]; first | exact z3 | (rw [va_up_ne _ _ z]; exact z3)⟩
                    · skip
                      replace e120 : ¬ b01 ((evC P sz (fun c => A 5 (4 * (40 * (24 * kn + j) + w1) + c))).2) = 0 := e120
                      replace e120 : (evC P sz (fun c => A 5 (4 * (40 * (24 * kn + j) + w1) + c))).2 = true := b01_t e120
                      refine kx_rn dM_look 1 124 [(0, .ref m), (1, .int (nI tn)), (2, .int (nI kn)), (3, .int (nI j)), (4, .int (nI (40 * (24 * kn + j) + w1))), (5, .int (nI (w1 + 1)))] [.int 2] rfl ?_
                      have hvd : vdct V (A 6) (A 5) P sz tn (24 * kn + j) = 3 := by unfold vdct; rw [if_neg (by rw [hWj]; omega), if_neg (by rw [hWj]; exact fun z => e67 z.2), hWj, show w1 + 1 - 1 = w1 from rfl, if_neg (fun z => absurd (hbg0.mpr z) (by rw [e82]; decide)), if_pos e120]
                      refine kx_ret (ty := .int) (kx_tk_dec rfl dM_look) rfl rfl ?_
                      refine ⟨va_up S1 22 (b01 (evC P sz (fun c => A 5 (4 * (40 * (24 * kn + j) + w1) + c))).2), va_up (va_up (va_up (va_up A1 16 (va_up (A1 16) j (nI (40 * (24 * kn + j) + w1)))) 18 (va_up (A1 18) j 0)) 12 Fs) 18 (va_up (va_up (A1 18) j 0) j 1), 2, rfl, rfl, fun k hk => by simp only [va_up]; rw [if_neg hk]; exact hS1 k hk, fun k h12 h16 h18 => by simp only [va_up]; simp only [if_neg h12, if_neg h16, if_neg h18]; exact hA1 k h12 h16 h18, ?_⟩
                      exact Or.inr (Or.inr ⟨rfl, j, by omega, hvd, fun p hp => (hspec p hp).1⟩)
                · skip
                  replace e82 : ¬ b01 bg0 = 0 := e82
                  replace e82 : bg0 = true := b01_t e82
                  refine kx_rn dM_look 3 2 [(0, .ref m), (1, .int (nI tn)), (2, .int (nI kn)), (3, .int ((nI j) + 1)), (4, .int (nI (40 * (24 * kn + j) + w1))), (5, .int (nI (w1 + 1)))] [] rfl ?_
                  rw [show (nI j) + 1 = nI (j + 1) from kn_ad rfl rfl]
                  refine kx_lsub (lv' := [(0, .ref m), (1, .int (nI tn)), (2, .int (nI kn)), (3, .int (nI (j + 1)))]) (.cons₂ _ (.cons₂ _ (.cons₂ _ (.cons₂ _ (.cons _ (.cons _ .slnil)))))) ?_
                  have hvd : vdct V (A 6) (A 5) P sz tn (24 * kn + j) = 0 := by unfold vdct; rw [if_neg (by rw [hWj]; omega), if_neg (by rw [hWj]; exact fun z => e67 z.2), hWj, show w1 + 1 - 1 = w1 from rfl, if_pos (hbg0.mp e82)]
                  refine ih (j + 1) S1 (va_up (va_up A1 16 (va_up (A1 16) j (nI (40 * (24 * kn + j) + w1)))) 18 (va_up (A1 18) j 0)) (by omega) hS1 (fun k h12 h16 h18 => by simp only [va_up]; simp only [if_neg h12, if_neg h16, if_neg h18]; exact hA1 k h12 h16 h18) (fun r hr => ?_)
                  by_cases z : r = j
                  · rw [z]
                    refine ⟨by rw [hvd]; decide, ?_, ?_⟩
                    · show va_up _ j _ j = _; rw [va_up_self, hWj]; rfl
                    · show va_up _ j _ j = _; rw [va_up_self, hvd]; rfl
                  · obtain ⟨z1, z2, z3⟩ := hspec r (by omega)
                    exact ⟨z1, by show va_up _ j _ r = _; rw [va_up_ne _ _ z]; exact z2, by show va_up _ j _ r = _; rw [va_up_ne _ _ z]; first | exact z3 | (rw [va_up_ne _ _ z]; exact z3)⟩
              · skip
                replace e67 : A 6 (w1 + 1) = 1 := e67
                refine kx_rn dM_look 1 71 [(0, .ref m), (1, .int (nI tn)), (2, .int (nI kn)), (3, .int (nI j)), (4, .int (nI (40 * (24 * kn + j) + w1))), (5, .int (nI (w1 + 1)))] [.int 1] rfl ?_
                have hvd : vdct V (A 6) (A 5) P sz tn (24 * kn + j) = 2 := by unfold vdct; rw [if_neg (by rw [hWj]; omega), if_pos (by rw [hWj]; exact ⟨e56, e67⟩)]
                refine kx_ret (ty := .int) (kx_tk_dec rfl dM_look) rfl rfl ?_
                refine ⟨S1, va_up (va_up A1 16 (va_up (A1 16) j (nI (40 * (24 * kn + j) + w1)))) 18 (va_up (A1 18) j 0), 1, rfl, rfl, hS1, fun k h12 h16 h18 => by simp only [va_up]; simp only [if_neg h12, if_neg h16, if_neg h18]; exact hA1 k h12 h16 h18, ?_⟩
                exact Or.inr (Or.inl ⟨rfl, j, by omega, hvd, fun p hp => (hspec p hp).1⟩)
          · skip
            replace e38 : ¬ 0 ≤ nI (40 * (24 * kn + j) + w1) := e38
            replace e38 : ¬ 0 ≤ 40 * (24 * kn + j) + w1 := fun z => e38 ((nI_leI (a := 0) (b := 40 * (24 * kn + j) + w1) (by omega) (by omega)).mpr z)
            exfalso; omega
  refine kx_rn dM_look 2 2 [(0, .ref m), (1, .int (nI tn)), (2, .int (nI kn)), (3, .int 0)] [] rfl ?_
  exact loop rw 0 S A (by omega) (fun _ _ => rfl) (fun _ _ _ _ => rfl) (fun r hr => absurd hr (by omega))
end KM8
end
