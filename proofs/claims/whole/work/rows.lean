section
-- ===== PART A: goes FIRST, ahead of the names: the tables' words, and 'selects' of the private methods out of them =====
/-- a private method of a class that the tables say can be made, by its rows of tables_1 -/
def lw_okq (q : MethodName × Nat) : Prop := (q.1.cls ≠ "java/lang/invoke/MethodHandle" ∧ q.1.cls ≠ "java/lang/invoke/VarHandle") ∧ Cond.instantiable q.1.cls q.2 ∈ tables_1 ∧ Cond.privateMethod q.1 ∈ tables_1 ∧ Cond.instanceMethod q.1 ∈ tables_1
theorem lw_p0 : lw_okq (⟨"ExtentShelf$Table", "serial", "()I"⟩, 1) := ⟨⟨by decide +kernel, by decide +kernel⟩, List.mem_of_getElem? (i := 44) (by decide +kernel), List.mem_of_getElem? (i := 105) (by decide +kernel), List.mem_of_getElem? (i := 106) (by decide +kernel)⟩
theorem lw_p1 : lw_okq (⟨"ExtentShelf", "requirePower", "()V"⟩, 6) := ⟨⟨by decide +kernel, by decide +kernel⟩, List.mem_of_getElem? (i := 17) (by decide +kernel), List.mem_of_getElem? (i := 119) (by decide +kernel), List.mem_of_getElem? (i := 120) (by decide +kernel)⟩
theorem lw_p2 : lw_okq (⟨"java/lang/Throwable", "fillInStackTrace", "(I)Ljava/lang/Throwable;"⟩, 6) := ⟨⟨by decide +kernel, by decide +kernel⟩, List.mem_of_getElem? (i := 163) (by decide +kernel), List.mem_of_getElem? (i := 161) (by decide +kernel), List.mem_of_getElem? (i := 162) (by decide +kernel)⟩
theorem lw_p3 : lw_okq (⟨"ExtentShelf$Table", "lists", "(I)Z"⟩, 1) := ⟨⟨by decide +kernel, by decide +kernel⟩, List.mem_of_getElem? (i := 44) (by decide +kernel), List.mem_of_getElem? (i := 216) (by decide +kernel), List.mem_of_getElem? (i := 217) (by decide +kernel)⟩
theorem lw_p4 : lw_okq (⟨"ExtentShelf$Table", "extentsOf", "(I)I"⟩, 1) := ⟨⟨by decide +kernel, by decide +kernel⟩, List.mem_of_getElem? (i := 44) (by decide +kernel), List.mem_of_getElem? (i := 220) (by decide +kernel), List.mem_of_getElem? (i := 221) (by decide +kernel)⟩
theorem lw_p5 : lw_okq (⟨"ExtentShelf$Disks", "isAbsent", "(I)Z"⟩, 3) := ⟨⟨by decide +kernel, by decide +kernel⟩, List.mem_of_getElem? (i := 25) (by decide +kernel), List.mem_of_getElem? (i := 224) (by decide +kernel), List.mem_of_getElem? (i := 225) (by decide +kernel)⟩
theorem lw_p6 : lw_okq (⟨"ExtentShelf", "requireListedPresent", "()V"⟩, 6) := ⟨⟨by decide +kernel, by decide +kernel⟩, List.mem_of_getElem? (i := 17) (by decide +kernel), List.mem_of_getElem? (i := 244) (by decide +kernel), List.mem_of_getElem? (i := 245) (by decide +kernel)⟩
theorem lw_p7 : lw_okq (⟨"ExtentShelf", "isAnyListedAbsent", "()Z"⟩, 6) := ⟨⟨by decide +kernel, by decide +kernel⟩, List.mem_of_getElem? (i := 17) (by decide +kernel), List.mem_of_getElem? (i := 248) (by decide +kernel), List.mem_of_getElem? (i := 249) (by decide +kernel)⟩
theorem lw_p8 : lw_okq (⟨"ExtentShelf$Disks", "clearExtents", "(I)V"⟩, 3) := ⟨⟨by decide +kernel, by decide +kernel⟩, List.mem_of_getElem? (i := 25) (by decide +kernel), List.mem_of_getElem? (i := 253) (by decide +kernel), List.mem_of_getElem? (i := 254) (by decide +kernel)⟩
theorem lw_p9 : lw_okq (⟨"ExtentShelf", "beginDraft", "()V"⟩, 6) := ⟨⟨by decide +kernel, by decide +kernel⟩, List.mem_of_getElem? (i := 17) (by decide +kernel), List.mem_of_getElem? (i := 257) (by decide +kernel), List.mem_of_getElem? (i := 258) (by decide +kernel)⟩
theorem lw_p10 : lw_okq (⟨"ExtentShelf$Table", "takeFrom", "([II)V"⟩, 1) := ⟨⟨by decide +kernel, by decide +kernel⟩, List.mem_of_getElem? (i := 44) (by decide +kernel), List.mem_of_getElem? (i := 261) (by decide +kernel), List.mem_of_getElem? (i := 262) (by decide +kernel)⟩
theorem lw_p11 : lw_okq (⟨"ExtentShelf$Table", "setExtents", "(II)V"⟩, 1) := ⟨⟨by decide +kernel, by decide +kernel⟩, List.mem_of_getElem? (i := 44) (by decide +kernel), List.mem_of_getElem? (i := 268) (by decide +kernel), List.mem_of_getElem? (i := 269) (by decide +kernel)⟩
theorem lw_p12 : lw_okq (⟨"ExtentShelf", "commitDraft", "()V"⟩, 6) := ⟨⟨by decide +kernel, by decide +kernel⟩, List.mem_of_getElem? (i := 17) (by decide +kernel), List.mem_of_getElem? (i := 272) (by decide +kernel), List.mem_of_getElem? (i := 273) (by decide +kernel)⟩
theorem lw_p13 : lw_okq (⟨"ExtentShelf$Table", "seal", "(I)V"⟩, 1) := ⟨⟨by decide +kernel, by decide +kernel⟩, List.mem_of_getElem? (i := 44) (by decide +kernel), List.mem_of_getElem? (i := 276) (by decide +kernel), List.mem_of_getElem? (i := 277) (by decide +kernel)⟩
theorem lw_p14 : lw_okq (⟨"ExtentShelf", "isListedAndPresent", "(LExtentShelf$Table;I)Z"⟩, 6) := ⟨⟨by decide +kernel, by decide +kernel⟩, List.mem_of_getElem? (i := 17) (by decide +kernel), List.mem_of_getElem? (i := 283) (by decide +kernel), List.mem_of_getElem? (i := 284) (by decide +kernel)⟩
theorem lw_p15 : lw_okq (⟨"ExtentShelf", "writeTable", "(LExtentShelf$Table;I)V"⟩, 6) := ⟨⟨by decide +kernel, by decide +kernel⟩, List.mem_of_getElem? (i := 17) (by decide +kernel), List.mem_of_getElem? (i := 287) (by decide +kernel), List.mem_of_getElem? (i := 288) (by decide +kernel)⟩
def lw_privs_1 : List (MethodName × Nat) := [(⟨"ExtentShelf$Table", "serial", "()I"⟩, 1), (⟨"ExtentShelf", "requirePower", "()V"⟩, 6), (⟨"java/lang/Throwable", "fillInStackTrace", "(I)Ljava/lang/Throwable;"⟩, 6), (⟨"ExtentShelf$Table", "lists", "(I)Z"⟩, 1), (⟨"ExtentShelf$Table", "extentsOf", "(I)I"⟩, 1), (⟨"ExtentShelf$Disks", "isAbsent", "(I)Z"⟩, 3), (⟨"ExtentShelf", "requireListedPresent", "()V"⟩, 6), (⟨"ExtentShelf", "isAnyListedAbsent", "()Z"⟩, 6), (⟨"ExtentShelf$Disks", "clearExtents", "(I)V"⟩, 3), (⟨"ExtentShelf", "beginDraft", "()V"⟩, 6), (⟨"ExtentShelf$Table", "takeFrom", "([II)V"⟩, 1), (⟨"ExtentShelf$Table", "setExtents", "(II)V"⟩, 1), (⟨"ExtentShelf", "commitDraft", "()V"⟩, 6), (⟨"ExtentShelf$Table", "seal", "(I)V"⟩, 1), (⟨"ExtentShelf", "isListedAndPresent", "(LExtentShelf$Table;I)Z"⟩, 6), (⟨"ExtentShelf", "writeTable", "(LExtentShelf$Table;I)V"⟩, 6)]
theorem lw_r1 : ∀ q ∈ lw_privs_1, lw_okq q := List.forall_mem_cons.mpr ⟨lw_p0, List.forall_mem_cons.mpr ⟨lw_p1, List.forall_mem_cons.mpr ⟨lw_p2, List.forall_mem_cons.mpr ⟨lw_p3, List.forall_mem_cons.mpr ⟨lw_p4, List.forall_mem_cons.mpr ⟨lw_p5, List.forall_mem_cons.mpr ⟨lw_p6, List.forall_mem_cons.mpr ⟨lw_p7, List.forall_mem_cons.mpr ⟨lw_p8, List.forall_mem_cons.mpr ⟨lw_p9, List.forall_mem_cons.mpr ⟨lw_p10, List.forall_mem_cons.mpr ⟨lw_p11, List.forall_mem_cons.mpr ⟨lw_p12, List.forall_mem_cons.mpr ⟨lw_p13, List.forall_mem_cons.mpr ⟨lw_p14, List.forall_mem_cons.mpr ⟨lw_p15, fun _ h => absurd h List.not_mem_nil⟩⟩⟩⟩⟩⟩⟩⟩⟩⟩⟩⟩⟩⟩⟩⟩
theorem lw_p16 : lw_okq (⟨"ExtentShelf$Disks", "slotToWrite", "(I)I"⟩, 3) := ⟨⟨by decide +kernel, by decide +kernel⟩, List.mem_of_getElem? (i := 25) (by decide +kernel), List.mem_of_getElem? (i := 291) (by decide +kernel), List.mem_of_getElem? (i := 292) (by decide +kernel)⟩
theorem lw_p17 : lw_okq (⟨"ExtentShelf$Disks", "wholeSerial", "(II)I"⟩, 3) := ⟨⟨by decide +kernel, by decide +kernel⟩, List.mem_of_getElem? (i := 25) (by decide +kernel), List.mem_of_getElem? (i := 295) (by decide +kernel), List.mem_of_getElem? (i := 296) (by decide +kernel)⟩
theorem lw_p18 : lw_okq (⟨"ExtentShelf", "spendWord", "()V"⟩, 6) := ⟨⟨by decide +kernel, by decide +kernel⟩, List.mem_of_getElem? (i := 17) (by decide +kernel), List.mem_of_getElem? (i := 303) (by decide +kernel), List.mem_of_getElem? (i := 304) (by decide +kernel)⟩
theorem lw_p19 : lw_okq (⟨"ExtentShelf", "losePower", "()V"⟩, 6) := ⟨⟨by decide +kernel, by decide +kernel⟩, List.mem_of_getElem? (i := 17) (by decide +kernel), List.mem_of_getElem? (i := 307) (by decide +kernel), List.mem_of_getElem? (i := 308) (by decide +kernel)⟩
theorem lw_p20 : lw_okq (⟨"ExtentShelf$Move", "end", "()V"⟩, 4) := ⟨⟨by decide +kernel, by decide +kernel⟩, List.mem_of_getElem? (i := 55) (by decide +kernel), List.mem_of_getElem? (i := 311) (by decide +kernel), List.mem_of_getElem? (i := 312) (by decide +kernel)⟩
theorem lw_p21 : lw_okq (⟨"ExtentShelf$Disks", "setSlotWord", "(IIII)V"⟩, 3) := ⟨⟨by decide +kernel, by decide +kernel⟩, List.mem_of_getElem? (i := 25) (by decide +kernel), List.mem_of_getElem? (i := 316) (by decide +kernel), List.mem_of_getElem? (i := 317) (by decide +kernel)⟩
theorem lw_p22 : lw_okq (⟨"ExtentShelf$Table", "spotOf", "(I)I"⟩, 1) := ⟨⟨by decide +kernel, by decide +kernel⟩, List.mem_of_getElem? (i := 44) (by decide +kernel), List.mem_of_getElem? (i := 320) (by decide +kernel), List.mem_of_getElem? (i := 321) (by decide +kernel)⟩
theorem lw_p23 : lw_okq (⟨"ExtentShelf$Move", "endCopy", "()V"⟩, 4) := ⟨⟨by decide +kernel, by decide +kernel⟩, List.mem_of_getElem? (i := 55) (by decide +kernel), List.mem_of_getElem? (i := 324) (by decide +kernel), List.mem_of_getElem? (i := 325) (by decide +kernel)⟩
theorem lw_p24 : lw_okq (⟨"ExtentShelf", "requireListed", "(I)V"⟩, 6) := ⟨⟨by decide +kernel, by decide +kernel⟩, List.mem_of_getElem? (i := 17) (by decide +kernel), List.mem_of_getElem? (i := 335) (by decide +kernel), List.mem_of_getElem? (i := 336) (by decide +kernel)⟩
theorem lw_p25 : lw_okq (⟨"ExtentShelf$Table", "legsOn", "(I)I"⟩, 1) := ⟨⟨by decide +kernel, by decide +kernel⟩, List.mem_of_getElem? (i := 44) (by decide +kernel), List.mem_of_getElem? (i := 340) (by decide +kernel), List.mem_of_getElem? (i := 341) (by decide +kernel)⟩
theorem lw_p26 : lw_okq (⟨"ExtentShelf$Table", "countListed", "()I"⟩, 1) := ⟨⟨by decide +kernel, by decide +kernel⟩, List.mem_of_getElem? (i := 44) (by decide +kernel), List.mem_of_getElem? (i := 350) (by decide +kernel), List.mem_of_getElem? (i := 351) (by decide +kernel)⟩
theorem lw_p27 : lw_okq (⟨"ExtentShelf", "isAnyListedPresent", "()Z"⟩, 6) := ⟨⟨by decide +kernel, by decide +kernel⟩, List.mem_of_getElem? (i := 17) (by decide +kernel), List.mem_of_getElem? (i := 363) (by decide +kernel), List.mem_of_getElem? (i := 364) (by decide +kernel)⟩
theorem lw_p28 : lw_okq (⟨"ExtentShelf$Table", "loseLegsOn", "(I)V"⟩, 1) := ⟨⟨by decide +kernel, by decide +kernel⟩, List.mem_of_getElem? (i := 44) (by decide +kernel), List.mem_of_getElem? (i := 368) (by decide +kernel), List.mem_of_getElem? (i := 369) (by decide +kernel)⟩
theorem lw_p29 : lw_okq (⟨"ExtentShelf$Table", "setSpot", "(II)V"⟩, 1) := ⟨⟨by decide +kernel, by decide +kernel⟩, List.mem_of_getElem? (i := 44) (by decide +kernel), List.mem_of_getElem? (i := 372) (by decide +kernel), List.mem_of_getElem? (i := 373) (by decide +kernel)⟩
theorem lw_p30 : lw_okq (⟨"ExtentShelf$Table", "leastUnusedVolume", "()I"⟩, 1) := ⟨⟨by decide +kernel, by decide +kernel⟩, List.mem_of_getElem? (i := 44) (by decide +kernel), List.mem_of_getElem? (i := 390) (by decide +kernel), List.mem_of_getElem? (i := 391) (by decide +kernel)⟩
theorem lw_p31 : lw_okq (⟨"ExtentShelf$Table", "has", "(I)Z"⟩, 1) := ⟨⟨by decide +kernel, by decide +kernel⟩, List.mem_of_getElem? (i := 44) (by decide +kernel), List.mem_of_getElem? (i := 394) (by decide +kernel), List.mem_of_getElem? (i := 395) (by decide +kernel)⟩
def lw_privs_2 : List (MethodName × Nat) := [(⟨"ExtentShelf$Disks", "slotToWrite", "(I)I"⟩, 3), (⟨"ExtentShelf$Disks", "wholeSerial", "(II)I"⟩, 3), (⟨"ExtentShelf", "spendWord", "()V"⟩, 6), (⟨"ExtentShelf", "losePower", "()V"⟩, 6), (⟨"ExtentShelf$Move", "end", "()V"⟩, 4), (⟨"ExtentShelf$Disks", "setSlotWord", "(IIII)V"⟩, 3), (⟨"ExtentShelf$Table", "spotOf", "(I)I"⟩, 1), (⟨"ExtentShelf$Move", "endCopy", "()V"⟩, 4), (⟨"ExtentShelf", "requireListed", "(I)V"⟩, 6), (⟨"ExtentShelf$Table", "legsOn", "(I)I"⟩, 1), (⟨"ExtentShelf$Table", "countListed", "()I"⟩, 1), (⟨"ExtentShelf", "isAnyListedPresent", "()Z"⟩, 6), (⟨"ExtentShelf$Table", "loseLegsOn", "(I)V"⟩, 1), (⟨"ExtentShelf$Table", "setSpot", "(II)V"⟩, 1), (⟨"ExtentShelf$Table", "leastUnusedVolume", "()I"⟩, 1), (⟨"ExtentShelf$Table", "has", "(I)Z"⟩, 1)]
theorem lw_r2 : ∀ q ∈ lw_privs_2, lw_okq q := List.forall_mem_cons.mpr ⟨lw_p16, List.forall_mem_cons.mpr ⟨lw_p17, List.forall_mem_cons.mpr ⟨lw_p18, List.forall_mem_cons.mpr ⟨lw_p19, List.forall_mem_cons.mpr ⟨lw_p20, List.forall_mem_cons.mpr ⟨lw_p21, List.forall_mem_cons.mpr ⟨lw_p22, List.forall_mem_cons.mpr ⟨lw_p23, List.forall_mem_cons.mpr ⟨lw_p24, List.forall_mem_cons.mpr ⟨lw_p25, List.forall_mem_cons.mpr ⟨lw_p26, List.forall_mem_cons.mpr ⟨lw_p27, List.forall_mem_cons.mpr ⟨lw_p28, List.forall_mem_cons.mpr ⟨lw_p29, List.forall_mem_cons.mpr ⟨lw_p30, List.forall_mem_cons.mpr ⟨lw_p31, fun _ h => absurd h List.not_mem_nil⟩⟩⟩⟩⟩⟩⟩⟩⟩⟩⟩⟩⟩⟩⟩⟩
theorem lw_p32 : lw_okq (⟨"ExtentShelf$Table", "describe", "(IIII)V"⟩, 1) := ⟨⟨by decide +kernel, by decide +kernel⟩, List.mem_of_getElem? (i := 44) (by decide +kernel), List.mem_of_getElem? (i := 399) (by decide +kernel), List.mem_of_getElem? (i := 400) (by decide +kernel)⟩
theorem lw_p33 : lw_okq (⟨"ExtentShelf", "fillElements", "(II)V"⟩, 6) := ⟨⟨by decide +kernel, by decide +kernel⟩, List.mem_of_getElem? (i := 17) (by decide +kernel), List.mem_of_getElem? (i := 403) (by decide +kernel), List.mem_of_getElem? (i := 404) (by decide +kernel)⟩
theorem lw_p34 : lw_okq (⟨"ExtentShelf$Table", "kindOf", "(I)I"⟩, 1) := ⟨⟨by decide +kernel, by decide +kernel⟩, List.mem_of_getElem? (i := 44) (by decide +kernel), List.mem_of_getElem? (i := 407) (by decide +kernel), List.mem_of_getElem? (i := 408) (by decide +kernel)⟩
theorem lw_p35 : lw_okq (⟨"ExtentShelf$Table", "elementsOf", "(I)I"⟩, 1) := ⟨⟨by decide +kernel, by decide +kernel⟩, List.mem_of_getElem? (i := 44) (by decide +kernel), List.mem_of_getElem? (i := 411) (by decide +kernel), List.mem_of_getElem? (i := 412) (by decide +kernel)⟩
theorem lw_p36 : lw_okq (⟨"ExtentShelf", "giveRoom", "(III)V"⟩, 6) := ⟨⟨by decide +kernel, by decide +kernel⟩, List.mem_of_getElem? (i := 17) (by decide +kernel), List.mem_of_getElem? (i := 415) (by decide +kernel), List.mem_of_getElem? (i := 416) (by decide +kernel)⟩
theorem lw_p37 : lw_okq (⟨"ExtentShelf", "findRoom", "(IIII)I"⟩, 6) := ⟨⟨by decide +kernel, by decide +kernel⟩, List.mem_of_getElem? (i := 17) (by decide +kernel), List.mem_of_getElem? (i := 419) (by decide +kernel), List.mem_of_getElem? (i := 420) (by decide +kernel)⟩
theorem lw_p38 : lw_okq (⟨"ExtentShelf", "groupDisks", "(III)I"⟩, 6) := ⟨⟨by decide +kernel, by decide +kernel⟩, List.mem_of_getElem? (i := 17) (by decide +kernel), List.mem_of_getElem? (i := 423) (by decide +kernel), List.mem_of_getElem? (i := 424) (by decide +kernel)⟩
theorem lw_p39 : lw_okq (⟨"ExtentShelf$Table", "columnsOf", "(I)I"⟩, 1) := ⟨⟨by decide +kernel, by decide +kernel⟩, List.mem_of_getElem? (i := 44) (by decide +kernel), List.mem_of_getElem? (i := 427) (by decide +kernel), List.mem_of_getElem? (i := 428) (by decide +kernel)⟩
theorem lw_p40 : lw_okq (⟨"ExtentShelf", "disksOfLeg", "(I)I"⟩, 6) := ⟨⟨by decide +kernel, by decide +kernel⟩, List.mem_of_getElem? (i := 17) (by decide +kernel), List.mem_of_getElem? (i := 437) (by decide +kernel), List.mem_of_getElem? (i := 438) (by decide +kernel)⟩
theorem lw_p41 : lw_okq (⟨"ExtentShelf", "countFree", "(LExtentShelf$Table;I)I"⟩, 6) := ⟨⟨by decide +kernel, by decide +kernel⟩, List.mem_of_getElem? (i := 17) (by decide +kernel), List.mem_of_getElem? (i := 444) (by decide +kernel), List.mem_of_getElem? (i := 445) (by decide +kernel)⟩
theorem lw_p42 : lw_okq (⟨"ExtentShelf", "leastFreeSpot", "(I)I"⟩, 6) := ⟨⟨by decide +kernel, by decide +kernel⟩, List.mem_of_getElem? (i := 17) (by decide +kernel), List.mem_of_getElem? (i := 449) (by decide +kernel), List.mem_of_getElem? (i := 450) (by decide +kernel)⟩
theorem lw_p43 : lw_okq (⟨"ExtentShelf$Table", "isUsed", "(I)Z"⟩, 1) := ⟨⟨by decide +kernel, by decide +kernel⟩, List.mem_of_getElem? (i := 44) (by decide +kernel), List.mem_of_getElem? (i := 453) (by decide +kernel), List.mem_of_getElem? (i := 454) (by decide +kernel)⟩
theorem lw_p44 : lw_okq (⟨"ExtentShelf", "clearLeg", "(I)V"⟩, 6) := ⟨⟨by decide +kernel, by decide +kernel⟩, List.mem_of_getElem? (i := 17) (by decide +kernel), List.mem_of_getElem? (i := 459) (by decide +kernel), List.mem_of_getElem? (i := 460) (by decide +kernel)⟩
theorem lw_p45 : lw_okq (⟨"ExtentShelf", "putWord", "(III)V"⟩, 6) := ⟨⟨by decide +kernel, by decide +kernel⟩, List.mem_of_getElem? (i := 17) (by decide +kernel), List.mem_of_getElem? (i := 463) (by decide +kernel), List.mem_of_getElem? (i := 464) (by decide +kernel)⟩
theorem lw_p46 : lw_okq (⟨"ExtentShelf$Disks", "setExtentWord", "(III)V"⟩, 3) := ⟨⟨by decide +kernel, by decide +kernel⟩, List.mem_of_getElem? (i := 25) (by decide +kernel), List.mem_of_getElem? (i := 467) (by decide +kernel), List.mem_of_getElem? (i := 468) (by decide +kernel)⟩
theorem lw_p47 : lw_okq (⟨"ExtentShelf", "requireVolume", "(I)V"⟩, 6) := ⟨⟨by decide +kernel, by decide +kernel⟩, List.mem_of_getElem? (i := 17) (by decide +kernel), List.mem_of_getElem? (i := 479) (by decide +kernel), List.mem_of_getElem? (i := 480) (by decide +kernel)⟩
def lw_privs_3 : List (MethodName × Nat) := [(⟨"ExtentShelf$Table", "describe", "(IIII)V"⟩, 1), (⟨"ExtentShelf", "fillElements", "(II)V"⟩, 6), (⟨"ExtentShelf$Table", "kindOf", "(I)I"⟩, 1), (⟨"ExtentShelf$Table", "elementsOf", "(I)I"⟩, 1), (⟨"ExtentShelf", "giveRoom", "(III)V"⟩, 6), (⟨"ExtentShelf", "findRoom", "(IIII)I"⟩, 6), (⟨"ExtentShelf", "groupDisks", "(III)I"⟩, 6), (⟨"ExtentShelf$Table", "columnsOf", "(I)I"⟩, 1), (⟨"ExtentShelf", "disksOfLeg", "(I)I"⟩, 6), (⟨"ExtentShelf", "countFree", "(LExtentShelf$Table;I)I"⟩, 6), (⟨"ExtentShelf", "leastFreeSpot", "(I)I"⟩, 6), (⟨"ExtentShelf$Table", "isUsed", "(I)Z"⟩, 1), (⟨"ExtentShelf", "clearLeg", "(I)V"⟩, 6), (⟨"ExtentShelf", "putWord", "(III)V"⟩, 6), (⟨"ExtentShelf$Disks", "setExtentWord", "(III)V"⟩, 3), (⟨"ExtentShelf", "requireVolume", "(I)V"⟩, 6)]
theorem lw_r3 : ∀ q ∈ lw_privs_3, lw_okq q := List.forall_mem_cons.mpr ⟨lw_p32, List.forall_mem_cons.mpr ⟨lw_p33, List.forall_mem_cons.mpr ⟨lw_p34, List.forall_mem_cons.mpr ⟨lw_p35, List.forall_mem_cons.mpr ⟨lw_p36, List.forall_mem_cons.mpr ⟨lw_p37, List.forall_mem_cons.mpr ⟨lw_p38, List.forall_mem_cons.mpr ⟨lw_p39, List.forall_mem_cons.mpr ⟨lw_p40, List.forall_mem_cons.mpr ⟨lw_p41, List.forall_mem_cons.mpr ⟨lw_p42, List.forall_mem_cons.mpr ⟨lw_p43, List.forall_mem_cons.mpr ⟨lw_p44, List.forall_mem_cons.mpr ⟨lw_p45, List.forall_mem_cons.mpr ⟨lw_p46, List.forall_mem_cons.mpr ⟨lw_p47, fun _ h => absurd h List.not_mem_nil⟩⟩⟩⟩⟩⟩⟩⟩⟩⟩⟩⟩⟩⟩⟩⟩
theorem lw_p48 : lw_okq (⟨"ExtentShelf$Table", "loseElements", "(II)V"⟩, 1) := ⟨⟨by decide +kernel, by decide +kernel⟩, List.mem_of_getElem? (i := 44) (by decide +kernel), List.mem_of_getElem? (i := 507) (by decide +kernel), List.mem_of_getElem? (i := 508) (by decide +kernel)⟩
theorem lw_p49 : lw_okq (⟨"ExtentShelf$Table", "forget", "(I)V"⟩, 1) := ⟨⟨by decide +kernel, by decide +kernel⟩, List.mem_of_getElem? (i := 44) (by decide +kernel), List.mem_of_getElem? (i := 519) (by decide +kernel), List.mem_of_getElem? (i := 520) (by decide +kernel)⟩
theorem lw_p50 : lw_okq (⟨"ExtentShelf", "findRoomForLostLegs", "(I)I"⟩, 6) := ⟨⟨by decide +kernel, by decide +kernel⟩, List.mem_of_getElem? (i := 17) (by decide +kernel), List.mem_of_getElem? (i := 532) (by decide +kernel), List.mem_of_getElem? (i := 533) (by decide +kernel)⟩
theorem lw_p51 : lw_okq (⟨"ExtentShelf", "lostLeg", "(II)I"⟩, 6) := ⟨⟨by decide +kernel, by decide +kernel⟩, List.mem_of_getElem? (i := 17) (by decide +kernel), List.mem_of_getElem? (i := 536) (by decide +kernel), List.mem_of_getElem? (i := 537) (by decide +kernel)⟩
theorem lw_p52 : lw_okq (⟨"ExtentShelf", "copyToNewLegs", "(I)V"⟩, 6) := ⟨⟨by decide +kernel, by decide +kernel⟩, List.mem_of_getElem? (i := 17) (by decide +kernel), List.mem_of_getElem? (i := 540) (by decide +kernel), List.mem_of_getElem? (i := 541) (by decide +kernel)⟩
theorem lw_p53 : lw_okq (⟨"ExtentShelf", "copyExtent", "(II)V"⟩, 6) := ⟨⟨by decide +kernel, by decide +kernel⟩, List.mem_of_getElem? (i := 17) (by decide +kernel), List.mem_of_getElem? (i := 544) (by decide +kernel), List.mem_of_getElem? (i := 545) (by decide +kernel)⟩
theorem lw_p54 : lw_okq (⟨"ExtentShelf$Disks", "extentWord", "(II)I"⟩, 3) := ⟨⟨by decide +kernel, by decide +kernel⟩, List.mem_of_getElem? (i := 25) (by decide +kernel), List.mem_of_getElem? (i := 548) (by decide +kernel), List.mem_of_getElem? (i := 549) (by decide +kernel)⟩
theorem lw_p55 : lw_okq (⟨"ExtentShelf", "requireWord", "(II)V"⟩, 6) := ⟨⟨by decide +kernel, by decide +kernel⟩, List.mem_of_getElem? (i := 17) (by decide +kernel), List.mem_of_getElem? (i := 560) (by decide +kernel), List.mem_of_getElem? (i := 561) (by decide +kernel)⟩
theorem lw_p56 : lw_okq (⟨"ExtentShelf", "countWords", "(I)I"⟩, 6) := ⟨⟨by decide +kernel, by decide +kernel⟩, List.mem_of_getElem? (i := 17) (by decide +kernel), List.mem_of_getElem? (i := 564) (by decide +kernel), List.mem_of_getElem? (i := 565) (by decide +kernel)⟩
theorem lw_p57 : lw_okq (⟨"ExtentShelf", "elementOfWord", "(II)I"⟩, 6) := ⟨⟨by decide +kernel, by decide +kernel⟩, List.mem_of_getElem? (i := 17) (by decide +kernel), List.mem_of_getElem? (i := 584) (by decide +kernel), List.mem_of_getElem? (i := 585) (by decide +kernel)⟩
theorem lw_p58 : lw_okq (⟨"ExtentShelf", "leastReadableLeg", "(II)I"⟩, 6) := ⟨⟨by decide +kernel, by decide +kernel⟩, List.mem_of_getElem? (i := 17) (by decide +kernel), List.mem_of_getElem? (i := 588) (by decide +kernel), List.mem_of_getElem? (i := 589) (by decide +kernel)⟩
theorem lw_p59 : lw_okq (⟨"ExtentShelf", "isReadable", "(I)Z"⟩, 6) := ⟨⟨by decide +kernel, by decide +kernel⟩, List.mem_of_getElem? (i := 17) (by decide +kernel), List.mem_of_getElem? (i := 592) (by decide +kernel), List.mem_of_getElem? (i := 593) (by decide +kernel)⟩
theorem lw_p60 : lw_okq (⟨"ExtentShelf", "loseAbsentLeg", "(II)V"⟩, 6) := ⟨⟨by decide +kernel, by decide +kernel⟩, List.mem_of_getElem? (i := 17) (by decide +kernel), List.mem_of_getElem? (i := 597) (by decide +kernel), List.mem_of_getElem? (i := 598) (by decide +kernel)⟩
theorem lw_p61 : lw_okq (⟨"ExtentShelf", "placeOfWord", "(II)I"⟩, 6) := ⟨⟨by decide +kernel, by decide +kernel⟩, List.mem_of_getElem? (i := 17) (by decide +kernel), List.mem_of_getElem? (i := 601) (by decide +kernel), List.mem_of_getElem? (i := 602) (by decide +kernel)⟩
theorem lw_p62 : lw_okq (⟨"ExtentShelf", "putLegWord", "(III)V"⟩, 6) := ⟨⟨by decide +kernel, by decide +kernel⟩, List.mem_of_getElem? (i := 17) (by decide +kernel), List.mem_of_getElem? (i := 605) (by decide +kernel), List.mem_of_getElem? (i := 606) (by decide +kernel)⟩
theorem lw_p63 : lw_okq (⟨"ExtentShelf$Move", "hasCopied", "(II)Z"⟩, 4) := ⟨⟨by decide +kernel, by decide +kernel⟩, List.mem_of_getElem? (i := 55) (by decide +kernel), List.mem_of_getElem? (i := 609) (by decide +kernel), List.mem_of_getElem? (i := 610) (by decide +kernel)⟩
def lw_privs_4 : List (MethodName × Nat) := [(⟨"ExtentShelf$Table", "loseElements", "(II)V"⟩, 1), (⟨"ExtentShelf$Table", "forget", "(I)V"⟩, 1), (⟨"ExtentShelf", "findRoomForLostLegs", "(I)I"⟩, 6), (⟨"ExtentShelf", "lostLeg", "(II)I"⟩, 6), (⟨"ExtentShelf", "copyToNewLegs", "(I)V"⟩, 6), (⟨"ExtentShelf", "copyExtent", "(II)V"⟩, 6), (⟨"ExtentShelf$Disks", "extentWord", "(II)I"⟩, 3), (⟨"ExtentShelf", "requireWord", "(II)V"⟩, 6), (⟨"ExtentShelf", "countWords", "(I)I"⟩, 6), (⟨"ExtentShelf", "elementOfWord", "(II)I"⟩, 6), (⟨"ExtentShelf", "leastReadableLeg", "(II)I"⟩, 6), (⟨"ExtentShelf", "isReadable", "(I)Z"⟩, 6), (⟨"ExtentShelf", "loseAbsentLeg", "(II)V"⟩, 6), (⟨"ExtentShelf", "placeOfWord", "(II)I"⟩, 6), (⟨"ExtentShelf", "putLegWord", "(III)V"⟩, 6), (⟨"ExtentShelf$Move", "hasCopied", "(II)Z"⟩, 4)]
theorem lw_r4 : ∀ q ∈ lw_privs_4, lw_okq q := List.forall_mem_cons.mpr ⟨lw_p48, List.forall_mem_cons.mpr ⟨lw_p49, List.forall_mem_cons.mpr ⟨lw_p50, List.forall_mem_cons.mpr ⟨lw_p51, List.forall_mem_cons.mpr ⟨lw_p52, List.forall_mem_cons.mpr ⟨lw_p53, List.forall_mem_cons.mpr ⟨lw_p54, List.forall_mem_cons.mpr ⟨lw_p55, List.forall_mem_cons.mpr ⟨lw_p56, List.forall_mem_cons.mpr ⟨lw_p57, List.forall_mem_cons.mpr ⟨lw_p58, List.forall_mem_cons.mpr ⟨lw_p59, List.forall_mem_cons.mpr ⟨lw_p60, List.forall_mem_cons.mpr ⟨lw_p61, List.forall_mem_cons.mpr ⟨lw_p62, List.forall_mem_cons.mpr ⟨lw_p63, fun _ h => absurd h List.not_mem_nil⟩⟩⟩⟩⟩⟩⟩⟩⟩⟩⟩⟩⟩⟩⟩⟩
theorem lw_p64 : lw_okq (⟨"ExtentShelf$Move", "begin", "(I)V"⟩, 4) := ⟨⟨by decide +kernel, by decide +kernel⟩, List.mem_of_getElem? (i := 55) (by decide +kernel), List.mem_of_getElem? (i := 629) (by decide +kernel), List.mem_of_getElem? (i := 630) (by decide +kernel)⟩
theorem lw_p65 : lw_okq (⟨"ExtentShelf$Table", "firstLegOn", "(I)I"⟩, 1) := ⟨⟨by decide +kernel, by decide +kernel⟩, List.mem_of_getElem? (i := 44) (by decide +kernel), List.mem_of_getElem? (i := 641) (by decide +kernel), List.mem_of_getElem? (i := 642) (by decide +kernel)⟩
theorem lw_p66 : lw_okq (⟨"ExtentShelf", "findRoomToMove", "(I)I"⟩, 6) := ⟨⟨by decide +kernel, by decide +kernel⟩, List.mem_of_getElem? (i := 17) (by decide +kernel), List.mem_of_getElem? (i := 645) (by decide +kernel), List.mem_of_getElem? (i := 646) (by decide +kernel)⟩
theorem lw_p67 : lw_okq (⟨"ExtentShelf$Move", "beginCopy", "(II)V"⟩, 4) := ⟨⟨by decide +kernel, by decide +kernel⟩, List.mem_of_getElem? (i := 55) (by decide +kernel), List.mem_of_getElem? (i := 649) (by decide +kernel), List.mem_of_getElem? (i := 650) (by decide +kernel)⟩
theorem lw_p68 : lw_okq (⟨"ExtentShelf", "copyNextWord", "()V"⟩, 6) := ⟨⟨by decide +kernel, by decide +kernel⟩, List.mem_of_getElem? (i := 17) (by decide +kernel), List.mem_of_getElem? (i := 653) (by decide +kernel), List.mem_of_getElem? (i := 654) (by decide +kernel)⟩
theorem lw_p69 : lw_okq (⟨"ExtentShelf", "requireNoPower", "()V"⟩, 6) := ⟨⟨by decide +kernel, by decide +kernel⟩, List.mem_of_getElem? (i := 17) (by decide +kernel), List.mem_of_getElem? (i := 701) (by decide +kernel), List.mem_of_getElem? (i := 702) (by decide +kernel)⟩
theorem lw_p70 : lw_okq (⟨"ExtentShelf$Disks", "setAbsent", "(IZ)V"⟩, 3) := ⟨⟨by decide +kernel, by decide +kernel⟩, List.mem_of_getElem? (i := 25) (by decide +kernel), List.mem_of_getElem? (i := 706) (by decide +kernel), List.mem_of_getElem? (i := 707) (by decide +kernel)⟩
theorem lw_p71 : lw_okq (⟨"ExtentShelf", "loadNewestTable", "()V"⟩, 6) := ⟨⟨by decide +kernel, by decide +kernel⟩, List.mem_of_getElem? (i := 17) (by decide +kernel), List.mem_of_getElem? (i := 717) (by decide +kernel), List.mem_of_getElem? (i := 718) (by decide +kernel)⟩
theorem lw_p72 : lw_okq (⟨"ExtentShelf$Disks", "newestWholeSlot", "()I"⟩, 3) := ⟨⟨by decide +kernel, by decide +kernel⟩, List.mem_of_getElem? (i := 25) (by decide +kernel), List.mem_of_getElem? (i := 721) (by decide +kernel), List.mem_of_getElem? (i := 722) (by decide +kernel)⟩
theorem lw_p73 : lw_okq (⟨"ExtentShelf$Table", "clear", "()V"⟩, 1) := ⟨⟨by decide +kernel, by decide +kernel⟩, List.mem_of_getElem? (i := 44) (by decide +kernel), List.mem_of_getElem? (i := 726) (by decide +kernel), List.mem_of_getElem? (i := 727) (by decide +kernel)⟩
theorem lw_p74 : lw_okq (⟨"ExtentShelf$Disks", "hasWhole", "(II)Z"⟩, 3) := ⟨⟨by decide +kernel, by decide +kernel⟩, List.mem_of_getElem? (i := 25) (by decide +kernel), List.mem_of_getElem? (i := 730) (by decide +kernel), List.mem_of_getElem? (i := 731) (by decide +kernel)⟩
theorem lw_p75 : lw_okq (⟨"ExtentShelf", "alignTwins", "(II)V"⟩, 6) := ⟨⟨by decide +kernel, by decide +kernel⟩, List.mem_of_getElem? (i := 17) (by decide +kernel), List.mem_of_getElem? (i := 734) (by decide +kernel), List.mem_of_getElem? (i := 735) (by decide +kernel)⟩
theorem lw_p76 : lw_okq (⟨"ExtentShelf$Disks", "slotWord", "(III)I"⟩, 3) := ⟨⟨by decide +kernel, by decide +kernel⟩, List.mem_of_getElem? (i := 25) (by decide +kernel), List.mem_of_getElem? (i := 745) (by decide +kernel), List.mem_of_getElem? (i := 746) (by decide +kernel)⟩
theorem lw_p77 : lw_okq (⟨"ExtentShelfModel", "isOneAbsent", "()Z"⟩, 13) := ⟨⟨by decide +kernel, by decide +kernel⟩, List.mem_of_getElem? (i := 749) (by decide +kernel), List.mem_of_getElem? (i := 806) (by decide +kernel), List.mem_of_getElem? (i := 807) (by decide +kernel)⟩
theorem lw_p78 : lw_okq (⟨"ExtentShelfModel", "begin", "()V"⟩, 13) := ⟨⟨by decide +kernel, by decide +kernel⟩, List.mem_of_getElem? (i := 749) (by decide +kernel), List.mem_of_getElem? (i := 810) (by decide +kernel), List.mem_of_getElem? (i := 811) (by decide +kernel)⟩
theorem lw_p79 : lw_okq (⟨"ExtentShelfModel", "change", "()V"⟩, 13) := ⟨⟨by decide +kernel, by decide +kernel⟩, List.mem_of_getElem? (i := 749) (by decide +kernel), List.mem_of_getElem? (i := 814) (by decide +kernel), List.mem_of_getElem? (i := 815) (by decide +kernel)⟩
def lw_privs_5 : List (MethodName × Nat) := [(⟨"ExtentShelf$Move", "begin", "(I)V"⟩, 4), (⟨"ExtentShelf$Table", "firstLegOn", "(I)I"⟩, 1), (⟨"ExtentShelf", "findRoomToMove", "(I)I"⟩, 6), (⟨"ExtentShelf$Move", "beginCopy", "(II)V"⟩, 4), (⟨"ExtentShelf", "copyNextWord", "()V"⟩, 6), (⟨"ExtentShelf", "requireNoPower", "()V"⟩, 6), (⟨"ExtentShelf$Disks", "setAbsent", "(IZ)V"⟩, 3), (⟨"ExtentShelf", "loadNewestTable", "()V"⟩, 6), (⟨"ExtentShelf$Disks", "newestWholeSlot", "()I"⟩, 3), (⟨"ExtentShelf$Table", "clear", "()V"⟩, 1), (⟨"ExtentShelf$Disks", "hasWhole", "(II)Z"⟩, 3), (⟨"ExtentShelf", "alignTwins", "(II)V"⟩, 6), (⟨"ExtentShelf$Disks", "slotWord", "(III)I"⟩, 3), (⟨"ExtentShelfModel", "isOneAbsent", "()Z"⟩, 13), (⟨"ExtentShelfModel", "begin", "()V"⟩, 13), (⟨"ExtentShelfModel", "change", "()V"⟩, 13)]
theorem lw_r5 : ∀ q ∈ lw_privs_5, lw_okq q := List.forall_mem_cons.mpr ⟨lw_p64, List.forall_mem_cons.mpr ⟨lw_p65, List.forall_mem_cons.mpr ⟨lw_p66, List.forall_mem_cons.mpr ⟨lw_p67, List.forall_mem_cons.mpr ⟨lw_p68, List.forall_mem_cons.mpr ⟨lw_p69, List.forall_mem_cons.mpr ⟨lw_p70, List.forall_mem_cons.mpr ⟨lw_p71, List.forall_mem_cons.mpr ⟨lw_p72, List.forall_mem_cons.mpr ⟨lw_p73, List.forall_mem_cons.mpr ⟨lw_p74, List.forall_mem_cons.mpr ⟨lw_p75, List.forall_mem_cons.mpr ⟨lw_p76, List.forall_mem_cons.mpr ⟨lw_p77, List.forall_mem_cons.mpr ⟨lw_p78, List.forall_mem_cons.mpr ⟨lw_p79, fun _ h => absurd h List.not_mem_nil⟩⟩⟩⟩⟩⟩⟩⟩⟩⟩⟩⟩⟩⟩⟩⟩
theorem lw_p80 : lw_okq (⟨"ExtentShelfModel", "writeTo", "(I[I)V"⟩, 13) := ⟨⟨by decide +kernel, by decide +kernel⟩, List.mem_of_getElem? (i := 749) (by decide +kernel), List.mem_of_getElem? (i := 818) (by decide +kernel), List.mem_of_getElem? (i := 819) (by decide +kernel)⟩
theorem lw_p81 : lw_okq (⟨"ExtentShelfModel", "slotToWrite", "(I)I"⟩, 13) := ⟨⟨by decide +kernel, by decide +kernel⟩, List.mem_of_getElem? (i := 749) (by decide +kernel), List.mem_of_getElem? (i := 822) (by decide +kernel), List.mem_of_getElem? (i := 823) (by decide +kernel)⟩
theorem lw_p82 : lw_okq (⟨"ExtentShelfModel", "numberOf", "(II)I"⟩, 13) := ⟨⟨by decide +kernel, by decide +kernel⟩, List.mem_of_getElem? (i := 749) (by decide +kernel), List.mem_of_getElem? (i := 826) (by decide +kernel), List.mem_of_getElem? (i := 827) (by decide +kernel)⟩
theorem lw_p83 : lw_okq (⟨"ExtentShelfModel", "mayWrite", "()Z"⟩, 13) := ⟨⟨by decide +kernel, by decide +kernel⟩, List.mem_of_getElem? (i := 749) (by decide +kernel), List.mem_of_getElem? (i := 830) (by decide +kernel), List.mem_of_getElem? (i := 831) (by decide +kernel)⟩
theorem lw_p84 : lw_okq (⟨"ExtentShelfModel", "ended", "(I)I"⟩, 13) := ⟨⟨by decide +kernel, by decide +kernel⟩, List.mem_of_getElem? (i := 749) (by decide +kernel), List.mem_of_getElem? (i := 834) (by decide +kernel), List.mem_of_getElem? (i := 835) (by decide +kernel)⟩
theorem lw_p85 : lw_okq (⟨"ExtentShelfModel", "legsOn", "(I)I"⟩, 13) := ⟨⟨by decide +kernel, by decide +kernel⟩, List.mem_of_getElem? (i := 749) (by decide +kernel), List.mem_of_getElem? (i := 842) (by decide +kernel), List.mem_of_getElem? (i := 843) (by decide +kernel)⟩
theorem lw_p86 : lw_okq (⟨"ExtentShelfModel", "listed", "()I"⟩, 13) := ⟨⟨by decide +kernel, by decide +kernel⟩, List.mem_of_getElem? (i := 749) (by decide +kernel), List.mem_of_getElem? (i := 846) (by decide +kernel), List.mem_of_getElem? (i := 847) (by decide +kernel)⟩
theorem lw_p87 : lw_okq (⟨"ExtentShelfModel", "find", "(II)Z"⟩, 13) := ⟨⟨by decide +kernel, by decide +kernel⟩, List.mem_of_getElem? (i := 749) (by decide +kernel), List.mem_of_getElem? (i := 861) (by decide +kernel), List.mem_of_getElem? (i := 862) (by decide +kernel)⟩
theorem lw_p88 : lw_okq (⟨"ExtentShelfModel", "room", "([IIII)I"⟩, 13) := ⟨⟨by decide +kernel, by decide +kernel⟩, List.mem_of_getElem? (i := 749) (by decide +kernel), List.mem_of_getElem? (i := 871) (by decide +kernel), List.mem_of_getElem? (i := 872) (by decide +kernel)⟩
theorem lw_p89 : lw_okq (⟨"ExtentShelfModel", "meets", "([IIII)Z"⟩, 13) := ⟨⟨by decide +kernel, by decide +kernel⟩, List.mem_of_getElem? (i := 749) (by decide +kernel), List.mem_of_getElem? (i := 875) (by decide +kernel), List.mem_of_getElem? (i := 876) (by decide +kernel)⟩
theorem lw_p90 : lw_okq (⟨"ExtentShelfModel", "freeOn", "([II)I"⟩, 13) := ⟨⟨by decide +kernel, by decide +kernel⟩, List.mem_of_getElem? (i := 749) (by decide +kernel), List.mem_of_getElem? (i := 885) (by decide +kernel), List.mem_of_getElem? (i := 886) (by decide +kernel)⟩
theorem lw_p91 : lw_okq (⟨"ExtentShelfModel", "isFree", "([II)Z"⟩, 13) := ⟨⟨by decide +kernel, by decide +kernel⟩, List.mem_of_getElem? (i := 749) (by decide +kernel), List.mem_of_getElem? (i := 889) (by decide +kernel), List.mem_of_getElem? (i := 890) (by decide +kernel)⟩
theorem lw_p92 : lw_okq (⟨"ExtentShelfModel", "clear", "(II)V"⟩, 13) := ⟨⟨by decide +kernel, by decide +kernel⟩, List.mem_of_getElem? (i := 749) (by decide +kernel), List.mem_of_getElem? (i := 896) (by decide +kernel), List.mem_of_getElem? (i := 897) (by decide +kernel)⟩
theorem lw_p93 : lw_okq (⟨"ExtentShelfModel", "put", "(III)V"⟩, 13) := ⟨⟨by decide +kernel, by decide +kernel⟩, List.mem_of_getElem? (i := 749) (by decide +kernel), List.mem_of_getElem? (i := 900) (by decide +kernel), List.mem_of_getElem? (i := 901) (by decide +kernel)⟩
theorem lw_p94 : lw_okq (⟨"ExtentShelfModel", "isVolume", "(I)Z"⟩, 13) := ⟨⟨by decide +kernel, by decide +kernel⟩, List.mem_of_getElem? (i := 749) (by decide +kernel), List.mem_of_getElem? (i := 908) (by decide +kernel), List.mem_of_getElem? (i := 909) (by decide +kernel)⟩
theorem lw_p95 : lw_okq (⟨"ExtentShelfModel", "get", "(II)I"⟩, 13) := ⟨⟨by decide +kernel, by decide +kernel⟩, List.mem_of_getElem? (i := 749) (by decide +kernel), List.mem_of_getElem? (i := 927) (by decide +kernel), List.mem_of_getElem? (i := 928) (by decide +kernel)⟩
def lw_privs_6 : List (MethodName × Nat) := [(⟨"ExtentShelfModel", "writeTo", "(I[I)V"⟩, 13), (⟨"ExtentShelfModel", "slotToWrite", "(I)I"⟩, 13), (⟨"ExtentShelfModel", "numberOf", "(II)I"⟩, 13), (⟨"ExtentShelfModel", "mayWrite", "()Z"⟩, 13), (⟨"ExtentShelfModel", "ended", "(I)I"⟩, 13), (⟨"ExtentShelfModel", "legsOn", "(I)I"⟩, 13), (⟨"ExtentShelfModel", "listed", "()I"⟩, 13), (⟨"ExtentShelfModel", "find", "(II)Z"⟩, 13), (⟨"ExtentShelfModel", "room", "([IIII)I"⟩, 13), (⟨"ExtentShelfModel", "meets", "([IIII)Z"⟩, 13), (⟨"ExtentShelfModel", "freeOn", "([II)I"⟩, 13), (⟨"ExtentShelfModel", "isFree", "([II)Z"⟩, 13), (⟨"ExtentShelfModel", "clear", "(II)V"⟩, 13), (⟨"ExtentShelfModel", "put", "(III)V"⟩, 13), (⟨"ExtentShelfModel", "isVolume", "(I)Z"⟩, 13), (⟨"ExtentShelfModel", "get", "(II)I"⟩, 13)]
theorem lw_r6 : ∀ q ∈ lw_privs_6, lw_okq q := List.forall_mem_cons.mpr ⟨lw_p80, List.forall_mem_cons.mpr ⟨lw_p81, List.forall_mem_cons.mpr ⟨lw_p82, List.forall_mem_cons.mpr ⟨lw_p83, List.forall_mem_cons.mpr ⟨lw_p84, List.forall_mem_cons.mpr ⟨lw_p85, List.forall_mem_cons.mpr ⟨lw_p86, List.forall_mem_cons.mpr ⟨lw_p87, List.forall_mem_cons.mpr ⟨lw_p88, List.forall_mem_cons.mpr ⟨lw_p89, List.forall_mem_cons.mpr ⟨lw_p90, List.forall_mem_cons.mpr ⟨lw_p91, List.forall_mem_cons.mpr ⟨lw_p92, List.forall_mem_cons.mpr ⟨lw_p93, List.forall_mem_cons.mpr ⟨lw_p94, List.forall_mem_cons.mpr ⟨lw_p95, fun _ h => absurd h List.not_mem_nil⟩⟩⟩⟩⟩⟩⟩⟩⟩⟩⟩⟩⟩⟩⟩⟩
theorem lw_p96 : lw_okq (⟨"ExtentShelfModel", "elementOf", "(II)I"⟩, 13) := ⟨⟨by decide +kernel, by decide +kernel⟩, List.mem_of_getElem? (i := 749) (by decide +kernel), List.mem_of_getElem? (i := 935) (by decide +kernel), List.mem_of_getElem? (i := 936) (by decide +kernel)⟩
theorem lw_p97 : lw_okq (⟨"ExtentShelfModel", "isReadable", "(I)Z"⟩, 13) := ⟨⟨by decide +kernel, by decide +kernel⟩, List.mem_of_getElem? (i := 749) (by decide +kernel), List.mem_of_getElem? (i := 939) (by decide +kernel), List.mem_of_getElem? (i := 940) (by decide +kernel)⟩
theorem lw_p98 : lw_okq (⟨"ExtentShelfModel", "wordOf", "(II)I"⟩, 13) := ⟨⟨by decide +kernel, by decide +kernel⟩, List.mem_of_getElem? (i := 749) (by decide +kernel), List.mem_of_getElem? (i := 943) (by decide +kernel), List.mem_of_getElem? (i := 944) (by decide +kernel)⟩
def lw_privs_7 : List (MethodName × Nat) := [(⟨"ExtentShelfModel", "elementOf", "(II)I"⟩, 13), (⟨"ExtentShelfModel", "isReadable", "(I)Z"⟩, 13), (⟨"ExtentShelfModel", "wordOf", "(II)I"⟩, 13)]
theorem lw_r7 : ∀ q ∈ lw_privs_7, lw_okq q := List.forall_mem_cons.mpr ⟨lw_p96, List.forall_mem_cons.mpr ⟨lw_p97, List.forall_mem_cons.mpr ⟨lw_p98, fun _ h => absurd h List.not_mem_nil⟩⟩⟩
def lw_privs : List (MethodName × Nat) := lw_privs_1 ++ (lw_privs_2 ++ (lw_privs_3 ++ (lw_privs_4 ++ (lw_privs_5 ++ (lw_privs_6 ++ (lw_privs_7))))))
def lw_tbl : List Cond := k2_sels lw_privs ++ tables_1
theorem lw_privs_ok : ∀ q ∈ lw_privs, lw_okq q := by
  show ∀ q ∈ lw_privs_1 ++ (lw_privs_2 ++ (lw_privs_3 ++ (lw_privs_4 ++ (lw_privs_5 ++ (lw_privs_6 ++ (lw_privs_7)))))), lw_okq q
  exact List.forall_mem_append.mpr ⟨lw_r1, List.forall_mem_append.mpr ⟨lw_r2, List.forall_mem_append.mpr ⟨lw_r3, List.forall_mem_append.mpr ⟨lw_r4, List.forall_mem_append.mpr ⟨lw_r5, List.forall_mem_append.mpr ⟨lw_r6, lw_r7⟩⟩⟩⟩⟩⟩
end
section
/-! ===== BEGIN words of one list among another's, by their places ===== -/
theorem goodIn_r {big : List Cond} (ws : List Cond) (ps : List Nat) (hp : ws = ps.filterMap (fun i => big[i]?)) (h : ws.all goodWord = true) : GoodIn big ws := by
  intro w hw
  have h1 := List.all_eq_true.mp h w hw
  rw [hp] at hw
  obtain ⟨i, -, hi⟩ := List.mem_filterMap.mp hw
  have hm : w ∈ big := by first | exact List.mem_of_getElem? hi | exact List.getElem?_mem hi
  exact ⟨hm, good_of_word h1⟩
theorem goodIn_app {big a b : List Cond} (ha : GoodIn big a) (hb : GoodIn big b) : GoodIn big (a ++ b) := fun w h => (List.mem_append.mp h).elim (ha w) (hb w)
theorem goodIn_ca {big a b : List Cond} {c : Cond} (ha : GoodIn big (c :: a)) (hb : GoodIn big b) : GoodIn big (c :: (a ++ b)) := fun w h => (List.mem_cons.mp h).elim (fun e => ha w (List.mem_cons.mpr (Or.inl e))) (fun h => (List.mem_append.mp h).elim (fun h => ha w (List.mem_cons.mpr (Or.inr h))) (hb w))
theorem goodIn_sub {big ws : List Cond} (hm : ∀ w ∈ ws, w ∈ big) (h : ws.all goodWord = true) : GoodIn big ws := fun w hw => ⟨hm w hw, good_of_word (List.all_eq_true.mp h w hw)⟩
/-! ===== END ===== -/

/-! ===== BEGIN exceptions that leave a method, and their catching by the caller (launches without stack traces) ===== -/
section VXA
/-! The laws vx_back, vx_callV, vx_callS, vx_callSW, vx_throw0, vx_throwS follow proofs of the library, with one case more: JvmDerived/Free/Laws.lean (Back.of_free), Shelf42/LK1.lean (callV, callS), Shelf/KitTraced.lean (throwNew0V, throwNewS). -/
/-- where a method has thrown q: the class by its name, the cell, what was written, the world -/
def vx_T (XC : String → State → State → Prop) (st : State) (q : Addr) (t : State) (mc ms : Nat) (free : Addr → Prop) : Prop :=
  ∃ (E : String) (ce : Cell) (L : List Loc), XC E st t ∧ t.heap[q]? = some ce ∧ ce.vm = .none ∧ st.vm.findClass E = some ce.cls ∧ st.WarmedH t.vm ∧ st.sameButNew ({ t with vm := st.vm } : State) L mc ms ∧ ∀ z ∈ L, free z.base
def vx_Q (Qc : Array Value → State → Outcome → State → Prop) (XC : String → State → State → Prop) (mc ms : Nat) (free : Addr → Prop) : Array Value → State → Outcome → State → Prop := fun a st o t =>
  (Qc a st o t ∧ ∃ L, FrameEnd st o t L mc ms ∧ ∀ q ∈ L, free q.base) ∨ ∃ q, o = .threw q ∧ vx_T XC st q t mc ms free
/-- a callee that returns or throws -/
def vx_Met (l : Launch) (y : MethodName) (ws : List Cond) (rm : Room) (Pc : Array Value → State → Prop) (Qc : Array Value → State → Outcome → State → Prop) (XC : String → State → State → Prop) (mc ms : Nat) (free : Addr → Prop) : Prop :=
  MetFree l y (headSpec ws rm) Pc (fun _ _ _ _ _ => True) (vx_Q Qc XC mc ms free)
def vx_Post (XC : String → State → State → Prop) (mc ms : Nat) (free : Addr → Prop) : Pt → Array Value → Addr → Pt → Prop := fun A a q B =>
  ∃ (g : JFrame) (mk : MethodId) (t : State) (L : List Loc) (E : String) (ce : Cell), B.U.heap = t.heap ∧ B.U.vm = t.vm ∧ XC E (A.U.calling g mk a) t ∧ t.heap[q]? = some ce ∧ ce.vm = .none ∧ A.U.vm.findClass E = some ce.cls ∧ B.locs = A.locs ++ L ∧ (∀ z ∈ L, free z.base) ∧ B.cells = A.cells + mc ∧ B.slots = A.slots + ms
def vx_Back (l : Launch) (R : Room) (p : Program) (e : Env) (below : List Frame) (s : State) (sargs : Array Value) (y : MethodName) (len W9 : Nat)
    (Pre : Pt → Array Value → Prop) (Post : Pt → Array Value → Option Value → Pt → Prop) (PostX : Pt → Array Value → Addr → Pt → Prop) : Prop :=
  ∀ (m : MethodId) (meth : Method) (c : Code) (A : Pt) (g : JFrame) (ig : Instr) (mk : MethodId) (a : Array Value),
    Stand p l e R s m sargs below meth c A.U A.locs A.cells A.slots → g.method = m → g.locals.size = c.maxLocals → decode c.code g.pc = .ok (ig, len) →
    2 * g.monitorRoom + (g.stack.map fun v => v.category).sum ≤ W9 → A.U.methodNamed? y = some mk → Pre A a →
    (∃ (v : Option Value) (B : Pt), Stand p l e R s m sargs below meth c B.U B.locs B.cells B.slots ∧ Post A a v B ∧
      Steps p.tables e below (doInvoke e (A.U.setTop g) [] mk a).1 (B.U.setTop { g with pc := g.pc + len, stack := v.toList ++ g.stack })) ∨
    (∃ (q : Addr) (B : Pt), Stand p l e R s m sargs below meth c B.U B.locs B.cells B.slots ∧ PostX A a q B ∧
      Steps p.tables e below (doInvoke e (A.U.setTop g) [] mk a).1 ((B.U.setTop g).pushFrame (.throwing q)))
section Payer
variable {l : Launch} {R : Room} {p : Program} {e : Env} {below : List Frame} {s : State} {sargs : Array Value} {y : MethodName} {len W9 : Nat}
theorem vx_back {ws : List Cond} {rm : Room} {Pc : Array Value → State → Prop} {Qc : Array Value → State → Outcome → State → Prop} {XC : String → State → State → Prop} {mc ms : Nat} {free : Addr → Prop} {bytes : ByteArray} {maxL : Nat} {ret : Option FieldType}
    (hM : vx_Met l y ws rm Pc Qc XC mc ms free) (hblind : FrameBlind Pc) (hrc : rm.cells = mc) (hrs : rm.slots = ms)
    (hframes : rm.frames + 1 ≤ R.frames) (hlocals : W9 + (maxL + 11) + rm.locals ≤ R.locals)
    (hws : ∀ w ∈ ws, ∀ a' U, s.WarmedH U.vm → w.before a' U = true) (hcode : Cond.code y bytes maxL ret ∈ ws) (hinit : ∀ a' U, s.WarmedH U.vm → (Cond.initialized y.cls).before a' U = true) :
    vx_Back l R p e below s sargs y len W9 (PreOf R mc ms Pc) (PostOf Qc mc ms free) (vx_Post XC mc ms free) := by
  intro m meth c A g ig mk a X hg hsize hdg hW hn hp
  have h1 : (headSpec ws rm).pre.before a A.U = true := atoms_intro fun w hw => hws w hw _ _ X.warmed
  have h2 : (Cond.code y bytes maxL ret).before a A.U = true := hws _ hcode _ _ X.warmed
  have h3 : (Cond.initialized y.cls).before a A.U = true := hinit _ _ X.warmed
  have h4 : A.cells + (headSpec ws rm).room.cells ≤ R.cells := by rw [show (headSpec ws rm).room.cells = mc from hrc]; exact hp.1
  have h5 : A.slots + (headSpec ws rm).room.slots ≤ R.slots := by rw [show (headSpec ws rm).room.slots = ms from hrs]; exact hp.2.1
  have hPc : Pc a (A.U.calling g mk a) := hblind _ _ _ _ hp.2.2
  obtain ⟨U, Ls, c0, s0⟩ := A
  dsimp only [Pt.U, Pt.locs, Pt.cells, Pt.slots] at h1 h2 h3 h4 h5 X hn hPc ⊢
  obtain ⟨methY, cY, hmY, hcY, -, hlY, -, -, -, -⟩ := Cond.code_spec hn h2
  obtain ⟨kY, hkY, -⟩ := className_of_methodNamed hn
  have hinitY : kY.init = .initialized := Cond.initialized_spec (findClass_of_methodNamed hn) hkY h3
  have h : At U g.method c below := by rw [hg]; exact X.here
  have hlocals9 : W9 + (maxL + 11) + (headSpec ws rm).room.locals ≤ R.locals := hlocals
  have happ : (headSpec ws rm).appliesLoose y e.platform (U.calling g mk a) = true :=
    Spec.appliesLoose_calling (g := g) h hdg hn hkY hinitY
      (X.room_calling (g := g) (R' := (headSpec ws rm).room) hsize hmY hcY hframes (by rw [hlY]; omega) h4 h5) h1
  obtain ⟨mid, hmid⟩ := h.above
  have hfr : (U.setTop g).frames = (.java g :: mid) ++ below := by rw [State.frames_setTop' g h.top, hmid]; rfl
  obtain ⟨o, s₂, hsteps, -, hend, hq⟩ := Steps.callFree hM p X.admits X.cas X.clock (acts := []) hfr happ hPc trivial
  have hq' : vx_Q Qc XC mc ms free a (U.calling g mk a) o s₂ := hq
  rw [State.frames_setTop' g h.top] at hend
  obtain ⟨g₀, hg0⟩ := Option.isSome_iff_exists.mp h.top
  obtain ⟨r, hr⟩ := State.topJava?_eq_some.mp hg0
  have hr' : (({ U with heap := s₂.heap, slotsUsed := s₂.slotsUsed } : State).setVm s₂.vm).frames = .java g₀ :: r := hr
  rcases hq' with ⟨hqc, L, hfe, hL⟩ | ⟨q, rfl, E, ce, L, hx, hce, hcv, hcl, hW₂, hsm, hL⟩
  · obtain ⟨⟨v, rfl⟩, hW₂, e2, q2, q3, q4, q5, q6⟩ := id hfe
    have e3 : s₂ = ({ (U.calling g mk a).setFrames s₂.frames with heap := s₂.heap, slotsUsed := s₂.slotsUsed } : State).setVm s₂.vm := by
      have : s₂ = ({ s₂ with vm := (U.calling g mk a).vm } : State).setVm s₂.vm := rfl
      rw [e2] at this
      exact this
    obtain ⟨c₂, i₂, len₂, hc₂, hd₂, hf₂⟩ := hend
    have hW' : U.WarmedH s₂.vm := hW₂
    have hcc : c₂ = c := by
      have h1 : s₂.code? g.method = U.code? g.method := by
        rw [State.code?_eq, State.code?_eq, hW'.alike.method?]
      exact Option.some.inj (hc₂.symm.trans (h1.trans h.code))
    subst hcc
    have hlen : len₂ = len := by rw [hdg] at hd₂; cases hd₂; rfl
    subst hlen
    have hs₂ : s₂ = (({ U with heap := s₂.heap, slotsUsed := s₂.slotsUsed } : State).setVm s₂.vm).setTop { g with pc := g.pc + len₂, stack := v.toList ++ g.stack } := by
      refine e3.trans ?_
      rw [hf₂, State.calling_eq h.top, State.setFrames_setFrames, State.setTop_of_frames _ hr', hr]
      rfl
    have hsame : U.sameButNew ({ U with heap := s₂.heap, slotsUsed := s₂.slotsUsed } : State) L mc ms := by
      refine ⟨?_, q2, q3, q4, q5, q6⟩
      obtain ⟨t, ht, -⟩ := State.frames_cons hr
      show ({ U with heap := s₂.heap, slotsUsed := s₂.slotsUsed } : State) = { U.setFrames U.frames with heap := s₂.heap, slotsUsed := s₂.slotsUsed }
      rw [State.setFrames_self ht]
    subst hg
    refine Or.inl ⟨v, ⟨(({ U with heap := s₂.heap, slotsUsed := s₂.slotsUsed } : State).setVm s₂.vm), Ls ++ L, c0 + mc, s0 + ms⟩,
      ⟨X.admits, X.cas, X.clock, X.frames, X.room, X.hears, X.method, X.code, (X.here.setHeapUsed s₂.heap s₂.slotsUsed).setVm hW'.alike, X.tail, State.WarmedH.trans X.warmed hW', X.limits, X.bytes, X.same.trans (hsame.setVm s.vm)⟩,
      ⟨g, mk, s₂, L, rfl, rfl, hqc, rfl, hL, rfl, rfl⟩, ?_⟩
    show Steps p.tables e below _ ((({ U with heap := s₂.heap, slotsUsed := s₂.slotsUsed } : State).setVm s₂.vm).setTop { g with pc := g.pc + len₂, stack := v.toList ++ g.stack })
    rw [← hs₂]
    exact hsteps
  · obtain ⟨e2, q2, q3, q4, q5, q6⟩ := id hsm
    have e3 : s₂ = ({ (U.calling g mk a).setFrames s₂.frames with heap := s₂.heap, slotsUsed := s₂.slotsUsed } : State).setVm s₂.vm := by
      have : s₂ = ({ s₂ with vm := (U.calling g mk a).vm } : State).setVm s₂.vm := rfl
      rw [e2] at this
      exact this
    have hf₂ : s₂.frames = .throwing q :: .java g :: U.frames.tail := hend
    have hW' : U.WarmedH s₂.vm := hW₂
    have hs₂ : s₂ = ((({ U with heap := s₂.heap, slotsUsed := s₂.slotsUsed } : State).setVm s₂.vm).setTop g).pushFrame (.throwing q) := by
      refine e3.trans ?_
      rw [hf₂, State.calling_eq h.top, State.setFrames_setFrames, State.pushFrame, State.frames_setTop _ hr', State.setTop_of_frames _ hr', State.setFrames_setFrames, hr]
      rfl
    have hsame : U.sameButNew ({ U with heap := s₂.heap, slotsUsed := s₂.slotsUsed } : State) L mc ms := by
      refine ⟨?_, q2, q3, q4, q5, q6⟩
      obtain ⟨t, ht, -⟩ := State.frames_cons hr
      show ({ U with heap := s₂.heap, slotsUsed := s₂.slotsUsed } : State) = { U.setFrames U.frames with heap := s₂.heap, slotsUsed := s₂.slotsUsed }
      rw [State.setFrames_self ht]
    subst hg
    refine Or.inr ⟨q, ⟨(({ U with heap := s₂.heap, slotsUsed := s₂.slotsUsed } : State).setVm s₂.vm), Ls ++ L, c0 + mc, s0 + ms⟩,
      ⟨X.admits, X.cas, X.clock, X.frames, X.room, X.hears, X.method, X.code, (X.here.setHeapUsed s₂.heap s₂.slotsUsed).setVm hW'.alike, X.tail, State.WarmedH.trans X.warmed hW', X.limits, X.bytes, X.same.trans (hsame.setVm s.vm)⟩,
      ⟨g, mk, s₂, L, E, ce, rfl, rfl, hx, hce, hcv, hcl, rfl, hL, rfl, rfl⟩, ?_⟩
    show Steps p.tables e below _ (((({ U with heap := s₂.heap, slotsUsed := s₂.slotsUsed } : State).setVm s₂.vm).setTop g).pushFrame (.throwing q))
    rw [← hs₂]
    exact hsteps
end Payer
section Calls
variable {p : Program} {l : Launch} {e : Env} {R : Room} {s : State} {m : MethodId} {args : Array Value} {below : List Frame} {meth : Method} {c : Code} {T : State} {locs : List Loc} {cells slots : Nat}
theorem vx_callV (X : Stand p l e R s m args below meth c T locs cells slots) (hexec : p.tables.exec = Jvm.exec) {own C : String} {index : Nat} {y : MethodName} {bytes : ByteArray} {maxL : Nat} {ret : Option FieldType}
    (hown : s.vm.findClass own = some m.cls) (hlink : (Cond.methodLink own index y).before args s = true) (hinst : (Cond.instanceMethod y).before args s = true) (hsel : (Cond.selects C y y).before args s = true)
    (hcode : (Cond.code y bytes maxL ret).before args s = true) (hy : y.cls ≠ "java/lang/invoke/MethodHandle" ∧ y.cls ≠ "java/lang/invoke/VarHandle")
    {W9 : Nat} {Pre : Pt → Array Value → Prop} {Post : Pt → Array Value → Option Value → Pt → Prop} {PostX : Pt → Array Value → Addr → Pt → Prop} (hK : vx_Back l R p e below s args y 3 W9 Pre Post PostX)
    {b : Addr} {cellB : Cell} (hcell : T.heap[b]? = some cellB) (hobj : cellB.vm.isStatics = false) (hcls : s.vm.findClass C = some cellB.cls)
    {g : JFrame} (hg : g.method = m) (hsize : g.locals.size = c.maxLocals) {argsL rest : List Value} (hlen : ∀ sig, parseMethodDescriptor y.desc = some sig → argsL.length = sig.parameters.length)
    (hstack : g.stack = argsL.reverse ++ .ref b :: rest) (hW : 2 * g.monitorRoom + (rest.map fun v => v.category).sum ≤ W9) (hdg : decode c.code g.pc = .ok (.invokevirtual index, 3))
    (hpre : ∀ vm₁, s.WarmedH vm₁ → Pre ⟨T.setVm vm₁, locs, cells, slots⟩ (Value.ref b :: argsL).toArray) :
    (∃ (v : Option Value) (vm₁ : Vm) (B : Pt), s.WarmedH vm₁ ∧ Stand p l e R s m args below meth c B.U B.locs B.cells B.slots ∧ Post ⟨T.setVm vm₁, locs, cells, slots⟩ (Value.ref b :: argsL).toArray v B ∧
      ∀ target, Steps p.tables e below (B.U.setTop { g with pc := g.pc + 3, stack := v.toList ++ rest }) target → Steps p.tables e below (T.setTop g) target) ∨
    (∃ (q : Addr) (vm₁ : Vm) (B : Pt), s.WarmedH vm₁ ∧ Stand p l e R s m args below meth c B.U B.locs B.cells B.slots ∧ PostX ⟨T.setVm vm₁, locs, cells, slots⟩ (Value.ref b :: argsL).toArray q B ∧
      Steps p.tables e below (T.setTop g) ((B.U.setTop { g with stack := rest }).pushFrame (.throwing q))) := by
  obtain ⟨mk, methM, hnamed, hmethM, hstM, habM⟩ := Cond.instanceMethod_spec hinst
  obtain ⟨methM', cM, hmethM', -, -, -, -, -, -, hsigM⟩ := Cond.code_spec hnamed hcode
  cases hmethM.symm.trans hmethM'
  obtain ⟨c2, r2, m2, q1, q2, q3, q4, kP, hkP, hkPi⟩ := Cond.selects_spec hsel
  cases hcls.symm.trans q1
  cases (State.methodFound?_of_named hnamed hy).symm.trans q2
  cases hnamed.symm.trans q3
  have hselP : selectMethod e.platform s.vm cellB.cls mk = .method mk := by rw [Launch.admits_selectMethod X.admits]; exact q4
  obtain ⟨vm₁, X₁, hstep₁⟩ := X.invokevirtual hexec hown hlink hnamed hmethM hstM hkP hkPi hy (a := b) (cell := cellB) hcell
    (fun z h => by rw [h] at hobj; cases hobj) hselP hmethM habM hkP hkPi (g := g) hg (argsL := argsL) (rest := rest) (hlen _ hsigM) hstack hdg
  rcases hK m meth c ⟨T.setVm vm₁, locs, cells, slots⟩ { g with stack := rest } (.invokevirtual index) mk (Value.ref b :: argsL).toArray X₁ hg hsize hdg hW (X₁.named hnamed) (hpre vm₁ X₁.warmed) with ⟨v, B, X', hpost, hsteps⟩ | ⟨q, B, X', hpost, hsteps⟩
  · exact Or.inl ⟨v, vm₁, B, X₁.warmed, X', hpost, fun target h => hstep₁ _ fun acts => by rw [doInvoke_state]; exact hsteps.trans h⟩
  · exact Or.inr ⟨q, vm₁, B, X₁.warmed, X', hpost, hstep₁ _ fun acts => by rw [doInvoke_state]; exact hsteps⟩
theorem vx_callS (X : Stand p l e R s m args below meth c T locs cells slots) (hexec : p.tables.exec = Jvm.exec) {own : String} {index : Nat} {y : MethodName} {bytes : ByteArray} {maxL : Nat} {ret : Option FieldType}
    (hown : s.vm.findClass own = some m.cls) (hlink : (Cond.methodLink own index y).before args s = true) (hstat : (Cond.static y).before args s = true) (hinit : (Cond.initialized y.cls).before args s = true)
    (hcode : (Cond.code y bytes maxL ret).before args s = true) (hy : y.cls ≠ "java/lang/invoke/MethodHandle" ∧ y.cls ≠ "java/lang/invoke/VarHandle")
    {W9 : Nat} {Pre : Pt → Array Value → Prop} {Post : Pt → Array Value → Option Value → Pt → Prop} {PostX : Pt → Array Value → Addr → Pt → Prop} (hK : vx_Back l R p e below s args y 3 W9 Pre Post PostX)
    {g : JFrame} (hg : g.method = m) (hsize : g.locals.size = c.maxLocals) {argsL rest : List Value} (hlen : ∀ sig, parseMethodDescriptor y.desc = some sig → argsL.length = sig.parameters.length)
    (hstack : g.stack = argsL.reverse ++ rest) (hW : 2 * g.monitorRoom + (rest.map fun v => v.category).sum ≤ W9) (hdg : decode c.code g.pc = .ok (.invokestatic index, 3))
    (hpre : ∀ vm₁, s.WarmedH vm₁ → Pre ⟨T.setVm vm₁, locs, cells, slots⟩ argsL.toArray) :
    (∃ (v : Option Value) (vm₁ : Vm) (B : Pt), s.WarmedH vm₁ ∧ Stand p l e R s m args below meth c B.U B.locs B.cells B.slots ∧ Post ⟨T.setVm vm₁, locs, cells, slots⟩ argsL.toArray v B ∧
      ∀ target, Steps p.tables e below (B.U.setTop { g with pc := g.pc + 3, stack := v.toList ++ rest }) target → Steps p.tables e below (T.setTop g) target) ∨
    (∃ (q : Addr) (vm₁ : Vm) (B : Pt), s.WarmedH vm₁ ∧ Stand p l e R s m args below meth c B.U B.locs B.cells B.slots ∧ PostX ⟨T.setVm vm₁, locs, cells, slots⟩ argsL.toArray q B ∧
      Steps p.tables e below (T.setTop g) ((B.U.setTop { g with stack := rest }).pushFrame (.throwing q))) := by
  obtain ⟨mk, hnamed⟩ := Cond.code_named hcode
  obtain ⟨methM, cM, hmethM, -, -, -, -, -, -, hsigM⟩ := Cond.code_spec hnamed hcode
  have hstatic : methM.isStatic = true := Cond.static_spec hnamed hmethM hstat
  obtain ⟨kP, hkP, -⟩ := className_of_methodNamed hnamed
  have hinitP : kP.init = .initialized := Cond.initialized_spec (findClass_of_methodNamed hnamed) hkP hinit
  obtain ⟨vm₁, X₁, hstep₁⟩ := X.invokestatic hexec hown hlink hnamed hmethM hstatic hkP hinitP hy (g := g) hg (argsL := argsL) (rest := rest) (hlen _ hsigM) hstack hdg
  rcases hK m meth c ⟨T.setVm vm₁, locs, cells, slots⟩ { g with stack := rest } (.invokestatic index) mk argsL.toArray X₁ hg hsize hdg hW (X₁.named hnamed) (hpre vm₁ X₁.warmed) with ⟨v, B, X', hpost, hsteps⟩ | ⟨q, B, X', hpost, hsteps⟩
  · exact Or.inl ⟨v, vm₁, B, X₁.warmed, X', hpost, fun target h => hstep₁ _ fun acts => by rw [doInvoke_state]; exact hsteps.trans h⟩
  · exact Or.inr ⟨q, vm₁, B, X₁.warmed, X', hpost, hstep₁ _ fun acts => by rw [doInvoke_state]; exact hsteps⟩
end Calls
theorem vx_cls {s : State} {T : State} {vm₁ : Vm} {E : String} {k : ClassId} (hW : s.WarmedH vm₁) (h : (T.setVm vm₁).vm.findClass E = some k) : s.vm.findClass E = some k := by
  have h1 : vm₁.findClass E = some k := h
  rw [hW.alike.findClass] at h1
  exact h1
/-- the method's frame g, with q thrown over it -/
def vx_W (p : Program) (l : Launch) (e : Env) (R : Room) (s : State) (m : MethodId) (args : Array Value) (below : List Frame) (meth : Method) (c : Code) (H : Heap) (locs : List Loc) (cells slots : Nat) (Q : State → Prop) (g : JFrame) (q : Addr) : Prop :=
  ∀ T : State, T.heap = H → Stand p l e R s m args below meth c T locs cells slots → ∃ t, Steps p.tables e below ((T.setTop g).pushFrame (.throwing q)) t ∧ Q t
def vx_Run (p : Program) (l : Launch) (e : Env) (R : Room) (s : State) (m : MethodId) (args : Array Value) (below : List Frame) (meth : Method) (c : Code) (H : Heap) (locs : List Loc) (cells slots mc ms : Nat) (g : JFrame) (rest : List Value) (Qa : State → Outcome → State → Prop) (XC : String → State → State → Prop) (free : Addr → Prop) : Prop :=
  ∀ T : State, T.heap = H → Stand p l e R s m args below meth c T locs cells slots →
    (∃ (v : Option Value) (st₀ t T' : State) (L : List Loc), st₀.heap = H ∧ Stand p l e R s m args below meth c T' (locs ++ L) (cells + mc) (slots + ms) ∧ (∀ q ∈ L, free q.base) ∧ T'.heap = t.heap ∧ T'.vm = t.vm ∧ Qa st₀ (.returned v) t ∧
      Goes p e below T g T' { g with pc := g.pc + 3, stack := v.toList ++ rest }) ∨
    (∃ (q : Addr) (st₀ t T' : State) (L : List Loc) (E : String) (ce : Cell), st₀.heap = H ∧ Stand p l e R s m args below meth c T' (locs ++ L) (cells + mc) (slots + ms) ∧ (∀ z ∈ L, free z.base) ∧ T'.heap = t.heap ∧ T'.vm = t.vm ∧ XC E st₀ t ∧ t.heap[q]? = some ce ∧ ce.vm = .none ∧ s.vm.findClass E = some ce.cls ∧
      Steps p.tables e below (T.setTop g) ((T'.setTop { g with stack := rest }).pushFrame (.throwing q)))
def vx_X {S : Type} (px : S → Prop) (B : String → S → State → Prop) (A : Nat → Prop) : String → State → State → Prop := fun E st t => ∃ u : S, px u ∧ B E u t ∧ va_F A st t
section Runs
variable {p : Program} {l : Launch} {e : Env} {R : Room} {s : State} {m : MethodId} {args : Array Value} {below : List Frame} {meth : Method} {c : Code} {H : Heap} {locs : List Loc} {cells slots : Nat}
variable {y : MethodName} {bytes cc : ByteArray} {maxL nL mc ms n index : Nat} {ret : Option FieldType} {ws : List Cond} {rm : Room} {Pc : Array Value → State → Prop} {Qc : Array Value → State → Outcome → State → Prop} {XC : String → State → State → Prop} {free : Addr → Prop} {Ts : List Cond} {own C : String} {b : Addr} {As rest : List Value} {g : JFrame}
theorem vx_callBack (cb : CallB R s args own index y bytes maxL ret ws rm mc ms n) (hM : vx_Met l y ws rm Pc Qc XC mc ms free) (hbl : FrameBlind Pc) : vx_Back l R p e below s args y 3 8 (PreOf R mc ms Pc) (PostOf Qc mc ms free) (vx_Post XC mc ms free) := by
  obtain ⟨hrc, hrs, hfr, hlo, hws, hcw, -, hini, -⟩ := cb
  exact vx_back (bytes := bytes) (maxL := maxL) (ret := ret) hM hbl hrc hrs hfr hlo hws hcw (fun a' U hW => word_at hW (Or.inl (by first | rfl | simp [Cond.onTables, Cond.keeps, Cond.steady])) hini)
theorem vx_runV (S : CallFix p m c cc nL s args Ts own) (hM : vx_Met l y ws rm Pc Qc XC mc ms free) (cw : CallW R s args own C index y bytes maxL ret ws rm mc ms n) (hp : PreV s H C b Pc As)
    (hg : g.method = m) (hn : As.length = n) (hsize : g.locals.size = nL) (hstack : g.stack = As.reverse ++ .ref b :: rest) (hW : 2 * g.monitorRoom + (rest.map fun v => v.category).sum ≤ 8) (hdg : decode cc g.pc = .ok (.invokevirtual index, 3)) (hf : cells + mc ≤ R.cells ∧ slots + ms ≤ R.slots) :
    vx_Run p l e R s m args below meth c H locs cells slots mc ms g rest (Qc (Value.ref b :: As).toArray) XC free := by
  have hK : vx_Back l R p e below s args y 3 8 (PreOf R mc ms Pc) (PostOf Qc mc ms free) (vx_Post XC mc ms free) := vx_callBack cw.1 hM hp.1
  obtain ⟨⟨-, -, -, -, -, -, hcode, -, hy, hlen, hl⟩, hin, hse⟩ := cw
  obtain ⟨hx, hb, hml, ho, -⟩ := S
  obtain ⟨-, ⟨cellB, hcB, hoB, hclB⟩, hPc⟩ := hp
  intro T hT X
  rcases vx_callV X hx (C := C) (bytes := bytes) (maxL := maxL) (ret := ret) ho hl hin hse hcode hy hK (by rw [hT]; exact hcB) hoB hclB hg (hsize.trans hml.symm) (argsL := As) (rest := rest) (fun sig h => hn.trans (hlen sig h)) hstack hW (by rw [hb]; exact hdg)
    (fun vm₁ hW₁ => ⟨hf.1, hf.2, hPc (T.setVm vm₁) hT hW₁⟩) with ⟨v, vm₁, ⟨U', l2, c2, s2⟩, hW₁, X', ⟨g', mk, t, L, e1, e2, hq, h1, hL, h2, h3⟩, st⟩ | ⟨q, vm₁, ⟨U', l2, c2, s2⟩, hW₁, X', ⟨g', mk, t, L, E, ce, e1, e2, hq, hce, hcv, hcl, h1, hL, h2, h3⟩, st⟩
  · dsimp only [Pt.U, Pt.locs, Pt.cells, Pt.slots] at X' e1 e2 h1 h2 h3 st
    subst h1; subst h2; subst h3
    exact Or.inl ⟨v, (T.setVm vm₁).calling g' mk (Value.ref b :: As).toArray, t, U', L, hT, X', hL, e1, e2, hq, st⟩
  · dsimp only [Pt.U, Pt.locs, Pt.cells, Pt.slots] at X' e1 e2 h1 h2 h3 st hcl
    subst h1; subst h2; subst h3
    exact Or.inr ⟨q, (T.setVm vm₁).calling g' mk (Value.ref b :: As).toArray, t, U', L, E, ce, hT, X', hL, e1, e2, hq, hce, hcv, vx_cls hW₁ hcl, st⟩
theorem vx_runS (S : CallFix p m c cc nL s args Ts own) (hM : vx_Met l y ws rm Pc Qc XC mc ms free) (cw : CallB R s args own index y bytes maxL ret ws rm mc ms n ∧ (Cond.static y).before args s = true) (hp : PreS s H Pc As)
    (hg : g.method = m) (hn : As.length = n) (hsize : g.locals.size = nL) (hstack : g.stack = As.reverse ++ rest) (hW : 2 * g.monitorRoom + (rest.map fun v => v.category).sum ≤ 8) (hdg : decode cc g.pc = .ok (.invokestatic index, 3)) (hf : cells + mc ≤ R.cells ∧ slots + ms ≤ R.slots) :
    vx_Run p l e R s m args below meth c H locs cells slots mc ms g rest (Qc As.toArray) XC free := by
  have hK : vx_Back l R p e below s args y 3 8 (PreOf R mc ms Pc) (PostOf Qc mc ms free) (vx_Post XC mc ms free) := vx_callBack cw.1 hM hp.1
  obtain ⟨⟨-, -, -, -, -, -, hcode, hini, hy, hlen, hl⟩, hstt⟩ := cw
  obtain ⟨hx, hb, hml, ho, -⟩ := S
  intro T hT X
  rcases vx_callS X hx (bytes := bytes) (maxL := maxL) (ret := ret) ho hl hstt hini hcode hy hK hg (hsize.trans hml.symm) (argsL := As) (rest := rest) (fun sig h => hn.trans (hlen sig h)) hstack hW (by rw [hb]; exact hdg)
    (fun vm₁ hW₁ => ⟨hf.1, hf.2, hp.2 (T.setVm vm₁) hT hW₁⟩) with ⟨v, vm₁, ⟨U', l2, c2, s2⟩, hW₁, X', ⟨g', mk, t, L, e1, e2, hq, h1, hL, h2, h3⟩, st⟩ | ⟨q, vm₁, ⟨U', l2, c2, s2⟩, hW₁, X', ⟨g', mk, t, L, E, ce, e1, e2, hq, hce, hcv, hcl, h1, hL, h2, h3⟩, st⟩
  · dsimp only [Pt.U, Pt.locs, Pt.cells, Pt.slots] at X' e1 e2 h1 h2 h3 st
    subst h1; subst h2; subst h3
    exact Or.inl ⟨v, (T.setVm vm₁).calling g' mk As.toArray, t, U', L, hT, X', hL, e1, e2, hq, st⟩
  · dsimp only [Pt.U, Pt.locs, Pt.cells, Pt.slots] at X' e1 e2 h1 h2 h3 st hcl
    subst h1; subst h2; subst h3
    exact Or.inr ⟨q, (T.setVm vm₁).calling g' mk As.toArray, t, U', L, E, ce, hT, X', hL, e1, e2, hq, hce, hcv, vx_cls hW₁ hcl, st⟩
end Runs
section Rows
variable {p : Program} {l : Launch} {e : Env} {R : Room} {s : State} {m : MethodId} {args : Array Value} {below : List Frame} {meth : Method} {c : Code} {H : Heap} {locs : List Loc} {cells slots : Nat} {Q : State → Prop}
variable {mc ms : Nat} {free : Addr → Prop} {A0 A1 : Nat → Prop} {H0 : Heap} {a : Array Value} {pc : Nat} {ls : Array Slot} {st0 rest : List Value}
theorem vx_keep {st₀ t T' : State} {L : List Loc} (h0 : st₀.heap = H) (e1 : T'.heap = t.heap) (hS : va_S A0 H0 H locs) (hA : ∀ q, q < H.size → A1 q → A0 q) (hf : ∀ q, free q → A0 q) (hL : ∀ q ∈ L, free q.base) (hF : va_F A1 st₀ t) :
    H.size ≤ T'.heap.size ∧ (∀ q : Nat, q < H.size → ¬ A1 q → T'.heap[q]? = H[q]?) ∧ va_S A0 H0 T'.heap (locs ++ L) := by
  obtain ⟨hz, hk⟩ := hF
  rw [h0] at hz hk
  exact ⟨by rw [e1]; exact hz, fun q h1 h2 => by rw [e1]; exact hk q h1 h2,
    ⟨Nat.le_trans hS.1 (by rw [e1]; exact hz), fun q h1 h2 => by rw [e1, hk q (Nat.lt_of_lt_of_le h1 hS.1) (fun z => h2 (hA q (Nat.lt_of_lt_of_le h1 hS.1) z))]; exact hS.2.1 q h1 h2, fun q hq => by
      rcases List.mem_append.mp hq with h | h
      · exact hS.2.2 q h
      · exact hf _ (hL q h)⟩⟩
theorem vx_calli {S SX : Type} {post : Int32 → S → Prop} {px : SX → Prop} {B : S → State → Prop} {BX : String → SX → State → Prop} {AX : Nat → Prop} (hr : vx_Run p l e R s m args below meth c H locs cells slots mc ms (F0 m pc ls st0) rest (va_Qi post B A1 a) (vx_X px BX AX) free) (hS : va_S A0 H0 H locs) (hA : ∀ q, q < H.size → A1 q → A0 q) (hf : ∀ q, free q → A0 q) (hAX : ∀ q, q < H.size → AX q → A0 q)
    (kx : ∀ (E : String) (ce : Cell) (q9 : Addr) (u : SX) (t : State) (H1 : Heap) (locs1 : List Loc), t.heap = H1 → s.vm.Alike t.vm → px u → BX E u t → H.size ≤ H1.size → (∀ q : Nat, q < H.size → ¬ AX q → H1[q]? = H[q]?) → va_S A0 H0 H1 locs1 → H1[q9]? = some ce → ce.vm = .none → s.vm.findClass E = some ce.cls → vx_W p l e R s m args below meth c H1 locs1 (cells + mc) (slots + ms) Q (F0 m pc ls rest) q9)
    (kk : ∀ (r : Int32) (u : S) (t : State) (H1 : Heap) (locs1 : List Loc), t.heap = H1 → s.vm.Alike t.vm → post r u → B u t → H.size ≤ H1.size → (∀ q : Nat, q < H.size → ¬ A1 q → H1[q]? = H[q]?) → va_S A0 H0 H1 locs1 → W p l e R s m args below meth c H1 locs1 (cells + mc) (slots + ms) Q (F0 m (pc + 3) ls (.int r :: rest))) : W p l e R s m args below meth c H locs cells slots Q (F0 m pc ls st0) := by
  intro T hT X
  rcases hr T hT X with ⟨v, st₀, t, T', L, h0, X', hL, e1, e2, ⟨⟨r, u, hv, hp, hb⟩, hF⟩, st⟩ | ⟨q, st₀, t, T', L, E, ce, h0, X', hL, e1, e2, ⟨u, hp, hb, hF⟩, hce, hcv, hcl, st⟩
  · cases hv
    obtain ⟨k1, k2, k3⟩ := vx_keep h0 e1 hS hA hf hL hF
    obtain ⟨t2, a1, b1⟩ := kk r u t T'.heap (locs ++ L) e1.symm (by rw [← e2]; exact X'.warmed.alike) hp hb k1 k2 k3 T' rfl X'
    exact ⟨t2, st t2 a1, b1⟩
  · obtain ⟨k1, k2, k3⟩ := vx_keep h0 e1 hS hAX hf hL hF
    obtain ⟨t2, a1, b1⟩ := kx E ce q u t T'.heap (locs ++ L) e1.symm (by rw [← e2]; exact X'.warmed.alike) hp hb k1 k2 k3 (by rw [e1]; exact hce) hcv hcl T' rfl X'
    exact ⟨t2, st.trans a1, b1⟩
theorem vx_calll {S SX : Type} {post : Int64 → S → Prop} {px : SX → Prop} {B : S → State → Prop} {BX : String → SX → State → Prop} {AX : Nat → Prop} (hr : vx_Run p l e R s m args below meth c H locs cells slots mc ms (F0 m pc ls st0) rest (va_Ql post B A1 a) (vx_X px BX AX) free) (hS : va_S A0 H0 H locs) (hA : ∀ q, q < H.size → A1 q → A0 q) (hf : ∀ q, free q → A0 q) (hAX : ∀ q, q < H.size → AX q → A0 q)
    (kx : ∀ (E : String) (ce : Cell) (q9 : Addr) (u : SX) (t : State) (H1 : Heap) (locs1 : List Loc), t.heap = H1 → s.vm.Alike t.vm → px u → BX E u t → H.size ≤ H1.size → (∀ q : Nat, q < H.size → ¬ AX q → H1[q]? = H[q]?) → va_S A0 H0 H1 locs1 → H1[q9]? = some ce → ce.vm = .none → s.vm.findClass E = some ce.cls → vx_W p l e R s m args below meth c H1 locs1 (cells + mc) (slots + ms) Q (F0 m pc ls rest) q9)
    (kk : ∀ (r : Int64) (u : S) (t : State) (H1 : Heap) (locs1 : List Loc), t.heap = H1 → s.vm.Alike t.vm → post r u → B u t → H.size ≤ H1.size → (∀ q : Nat, q < H.size → ¬ A1 q → H1[q]? = H[q]?) → va_S A0 H0 H1 locs1 → W p l e R s m args below meth c H1 locs1 (cells + mc) (slots + ms) Q (F0 m (pc + 3) ls (.long r :: rest))) : W p l e R s m args below meth c H locs cells slots Q (F0 m pc ls st0) := by
  intro T hT X
  rcases hr T hT X with ⟨v, st₀, t, T', L, h0, X', hL, e1, e2, ⟨⟨r, u, hv, hp, hb⟩, hF⟩, st⟩ | ⟨q, st₀, t, T', L, E, ce, h0, X', hL, e1, e2, ⟨u, hp, hb, hF⟩, hce, hcv, hcl, st⟩
  · cases hv
    obtain ⟨k1, k2, k3⟩ := vx_keep h0 e1 hS hA hf hL hF
    obtain ⟨t2, a1, b1⟩ := kk r u t T'.heap (locs ++ L) e1.symm (by rw [← e2]; exact X'.warmed.alike) hp hb k1 k2 k3 T' rfl X'
    exact ⟨t2, st t2 a1, b1⟩
  · obtain ⟨k1, k2, k3⟩ := vx_keep h0 e1 hS hAX hf hL hF
    obtain ⟨t2, a1, b1⟩ := kx E ce q u t T'.heap (locs ++ L) e1.symm (by rw [← e2]; exact X'.warmed.alike) hp hb k1 k2 k3 (by rw [e1]; exact hce) hcv hcl T' rfl X'
    exact ⟨t2, st.trans a1, b1⟩
theorem vx_callf {S SX : Type} {post : UInt32 → S → Prop} {px : SX → Prop} {B : S → State → Prop} {BX : String → SX → State → Prop} {AX : Nat → Prop} (hr : vx_Run p l e R s m args below meth c H locs cells slots mc ms (F0 m pc ls st0) rest (va_Qf post B A1 a) (vx_X px BX AX) free) (hS : va_S A0 H0 H locs) (hA : ∀ q, q < H.size → A1 q → A0 q) (hf : ∀ q, free q → A0 q) (hAX : ∀ q, q < H.size → AX q → A0 q)
    (kx : ∀ (E : String) (ce : Cell) (q9 : Addr) (u : SX) (t : State) (H1 : Heap) (locs1 : List Loc), t.heap = H1 → s.vm.Alike t.vm → px u → BX E u t → H.size ≤ H1.size → (∀ q : Nat, q < H.size → ¬ AX q → H1[q]? = H[q]?) → va_S A0 H0 H1 locs1 → H1[q9]? = some ce → ce.vm = .none → s.vm.findClass E = some ce.cls → vx_W p l e R s m args below meth c H1 locs1 (cells + mc) (slots + ms) Q (F0 m pc ls rest) q9)
    (kk : ∀ (r : UInt32) (u : S) (t : State) (H1 : Heap) (locs1 : List Loc), t.heap = H1 → s.vm.Alike t.vm → post r u → B u t → H.size ≤ H1.size → (∀ q : Nat, q < H.size → ¬ A1 q → H1[q]? = H[q]?) → va_S A0 H0 H1 locs1 → W p l e R s m args below meth c H1 locs1 (cells + mc) (slots + ms) Q (F0 m (pc + 3) ls (.float r :: rest))) : W p l e R s m args below meth c H locs cells slots Q (F0 m pc ls st0) := by
  intro T hT X
  rcases hr T hT X with ⟨v, st₀, t, T', L, h0, X', hL, e1, e2, ⟨⟨r, u, hv, hp, hb⟩, hF⟩, st⟩ | ⟨q, st₀, t, T', L, E, ce, h0, X', hL, e1, e2, ⟨u, hp, hb, hF⟩, hce, hcv, hcl, st⟩
  · cases hv
    obtain ⟨k1, k2, k3⟩ := vx_keep h0 e1 hS hA hf hL hF
    obtain ⟨t2, a1, b1⟩ := kk r u t T'.heap (locs ++ L) e1.symm (by rw [← e2]; exact X'.warmed.alike) hp hb k1 k2 k3 T' rfl X'
    exact ⟨t2, st t2 a1, b1⟩
  · obtain ⟨k1, k2, k3⟩ := vx_keep h0 e1 hS hAX hf hL hF
    obtain ⟨t2, a1, b1⟩ := kx E ce q u t T'.heap (locs ++ L) e1.symm (by rw [← e2]; exact X'.warmed.alike) hp hb k1 k2 k3 (by rw [e1]; exact hce) hcv hcl T' rfl X'
    exact ⟨t2, st.trans a1, b1⟩
theorem vx_calld {S SX : Type} {post : UInt64 → S → Prop} {px : SX → Prop} {B : S → State → Prop} {BX : String → SX → State → Prop} {AX : Nat → Prop} (hr : vx_Run p l e R s m args below meth c H locs cells slots mc ms (F0 m pc ls st0) rest (va_Qd post B A1 a) (vx_X px BX AX) free) (hS : va_S A0 H0 H locs) (hA : ∀ q, q < H.size → A1 q → A0 q) (hf : ∀ q, free q → A0 q) (hAX : ∀ q, q < H.size → AX q → A0 q)
    (kx : ∀ (E : String) (ce : Cell) (q9 : Addr) (u : SX) (t : State) (H1 : Heap) (locs1 : List Loc), t.heap = H1 → s.vm.Alike t.vm → px u → BX E u t → H.size ≤ H1.size → (∀ q : Nat, q < H.size → ¬ AX q → H1[q]? = H[q]?) → va_S A0 H0 H1 locs1 → H1[q9]? = some ce → ce.vm = .none → s.vm.findClass E = some ce.cls → vx_W p l e R s m args below meth c H1 locs1 (cells + mc) (slots + ms) Q (F0 m pc ls rest) q9)
    (kk : ∀ (r : UInt64) (u : S) (t : State) (H1 : Heap) (locs1 : List Loc), t.heap = H1 → s.vm.Alike t.vm → post r u → B u t → H.size ≤ H1.size → (∀ q : Nat, q < H.size → ¬ A1 q → H1[q]? = H[q]?) → va_S A0 H0 H1 locs1 → W p l e R s m args below meth c H1 locs1 (cells + mc) (slots + ms) Q (F0 m (pc + 3) ls (.double r :: rest))) : W p l e R s m args below meth c H locs cells slots Q (F0 m pc ls st0) := by
  intro T hT X
  rcases hr T hT X with ⟨v, st₀, t, T', L, h0, X', hL, e1, e2, ⟨⟨r, u, hv, hp, hb⟩, hF⟩, st⟩ | ⟨q, st₀, t, T', L, E, ce, h0, X', hL, e1, e2, ⟨u, hp, hb, hF⟩, hce, hcv, hcl, st⟩
  · cases hv
    obtain ⟨k1, k2, k3⟩ := vx_keep h0 e1 hS hA hf hL hF
    obtain ⟨t2, a1, b1⟩ := kk r u t T'.heap (locs ++ L) e1.symm (by rw [← e2]; exact X'.warmed.alike) hp hb k1 k2 k3 T' rfl X'
    exact ⟨t2, st t2 a1, b1⟩
  · obtain ⟨k1, k2, k3⟩ := vx_keep h0 e1 hS hAX hf hL hF
    obtain ⟨t2, a1, b1⟩ := kx E ce q u t T'.heap (locs ++ L) e1.symm (by rw [← e2]; exact X'.warmed.alike) hp hb k1 k2 k3 (by rw [e1]; exact hce) hcv hcl T' rfl X'
    exact ⟨t2, st.trans a1, b1⟩
theorem vx_callv {S SX : Type} {post : S → Prop} {px : SX → Prop} {B : S → State → Prop} {BX : String → SX → State → Prop} {AX : Nat → Prop} (hr : vx_Run p l e R s m args below meth c H locs cells slots mc ms (F0 m pc ls st0) rest (va_Qv post B A1 a) (vx_X px BX AX) free) (hS : va_S A0 H0 H locs) (hA : ∀ q, q < H.size → A1 q → A0 q) (hf : ∀ q, free q → A0 q) (hAX : ∀ q, q < H.size → AX q → A0 q)
    (kx : ∀ (E : String) (ce : Cell) (q9 : Addr) (u : SX) (t : State) (H1 : Heap) (locs1 : List Loc), t.heap = H1 → s.vm.Alike t.vm → px u → BX E u t → H.size ≤ H1.size → (∀ q : Nat, q < H.size → ¬ AX q → H1[q]? = H[q]?) → va_S A0 H0 H1 locs1 → H1[q9]? = some ce → ce.vm = .none → s.vm.findClass E = some ce.cls → vx_W p l e R s m args below meth c H1 locs1 (cells + mc) (slots + ms) Q (F0 m pc ls rest) q9)
    (kk : ∀ (u : S) (t : State) (H1 : Heap) (locs1 : List Loc), t.heap = H1 → s.vm.Alike t.vm → post u → B u t → H.size ≤ H1.size → (∀ q : Nat, q < H.size → ¬ A1 q → H1[q]? = H[q]?) → va_S A0 H0 H1 locs1 → W p l e R s m args below meth c H1 locs1 (cells + mc) (slots + ms) Q (F0 m (pc + 3) ls (rest))) : W p l e R s m args below meth c H locs cells slots Q (F0 m pc ls st0) := by
  intro T hT X
  rcases hr T hT X with ⟨v, st₀, t, T', L, h0, X', hL, e1, e2, ⟨⟨u, hv, hp, hb⟩, hF⟩, st⟩ | ⟨q, st₀, t, T', L, E, ce, h0, X', hL, e1, e2, ⟨u, hp, hb, hF⟩, hce, hcv, hcl, st⟩
  · cases hv
    obtain ⟨k1, k2, k3⟩ := vx_keep h0 e1 hS hA hf hL hF
    obtain ⟨t2, a1, b1⟩ := kk u t T'.heap (locs ++ L) e1.symm (by rw [← e2]; exact X'.warmed.alike) hp hb k1 k2 k3 T' rfl X'
    exact ⟨t2, st t2 a1, b1⟩
  · obtain ⟨k1, k2, k3⟩ := vx_keep h0 e1 hS hAX hf hL hF
    obtain ⟨t2, a1, b1⟩ := kx E ce q u t T'.heap (locs ++ L) e1.symm (by rw [← e2]; exact X'.warmed.alike) hp hb k1 k2 k3 (by rw [e1]; exact hce) hcv hcl T' rfl X'
    exact ⟨t2, st.trans a1, b1⟩
/-- caught by the row x of this method's table; the rows ahead don't take it -/
theorem vx_catch {own name : String} {E : String} {ce : Cell} {q : Addr} (hown : s.vm.findClass own = some m.cls) (pre : List ExceptionTableEntry) (x : ExceptionTableEntry) (suf : List ExceptionTableEntry) (hsplit : c.exceptionTable.toList = pre ++ x :: suf)
    (hpass : ∀ z ∈ pre, covers z pc = false ∨ (z.catchType ≠ 0 ∧ ∃ nm : String, (Cond.classLink own z.catchType nm).before args s = true ∧ va_Nc E nm s)) (hx : covers x pc = true) (h0 : x.catchType ≠ 0)
    (hlink : (Cond.classLink own x.catchType name).before args s = true) (hcast : (Cond.castable E name).before args s = true) (hcell : H[q]? = some ce) (hv : ce.vm = .none) (hcl : s.vm.findClass E = some ce.cls)
    (kk : W p l e R s m args below meth c H locs cells slots Q (F0 m x.handlerPc ls [.ref q])) : vx_W p l e R s m args below meth c H locs cells slots Q (F0 m pc ls rest) q := by
  intro T hT X
  have hpl : e.platform.magicAccessors = ({} : Platform).magicAccessors := by rw [X.admits.platform]
  obtain ⟨c3, c4, hc3, hc4, hasg⟩ := Cond.castable_spec hcast
  cases Option.some.inj (hc3.symm.trans hcl)
  obtain ⟨c5, hc5, hcl5⟩ := Cond.classLink_spec hown hlink e.platform hpl
  cases Option.some.inj (hc4.symm.trans hc5)
  obtain ⟨vm', X', st⟩ := X.thenCaughtThrough q (g := F0 m pc ls rest) rfl (Steps.refl _) (by rw [hT]; exact hcell) (by rw [hv]; rfl) (by obtain ⟨k9, h9, -⟩ := Vm.findClass_spec hcl; exact ⟨k9, h9⟩) pre x suf hsplit
    (fun z hz => by
      rcases hpass z hz with h | ⟨hz0, nm, hl1, hn1⟩
      · exact Or.inl h
      · obtain ⟨c6, hc6, hcl6⟩ := Cond.classLink_spec hown hl1 e.platform hpl
        obtain ⟨a8, b8, h1, h2, h3⟩ := hn1
        cases Option.some.inj (h1.symm.trans hcl)
        cases Option.some.inj (h2.symm.trans hc6)
        exact Or.inr ⟨hz0, _, hcl6, h3⟩) hx (Or.inr ⟨h0, c4, hcl5, hasg⟩)
  obtain ⟨t, a1, b1⟩ := kk (T.setVm vm') hT X'
  exact ⟨t, st.trans a1, b1⟩
end Rows
section Ends
variable {p : Program} {l : Launch} {e : Env} {R : Room} {s : State} {m : MethodId} {args : Array Value} {below : List Frame} {meth : Method} {c : Code} {H : Heap} {locs : List Loc} {cells slots : Nat} {Q : State → Prop}
variable {mc ms : Nat} {free : Addr → Prop} {A0 A1 : Nat → Prop} {H0 : Heap} {a : Array Value} {ls : Array Slot} {st0 rest : List Value}
variable {Qc : Array Value → State → Outcome → State → Prop} {XC : String → State → State → Prop}
/-- what a body that may throw owes at its end -/
def vx_MQ (below : List Frame) (Qc : Array Value → State → Outcome → State → Prop) (XC : String → State → State → Prop) (a : Array Value) (s : State) (mc ms : Nat) (free : Addr → Prop) : State → Prop := fun t =>
  ∃ o, t.status = .running ∧ Ended t below o ∧ vx_Q Qc XC mc ms free a s o t
theorem vx_ret {g : JFrame} {mc ms : Nat} (k : W p l e R s m args below meth c H locs cells slots (MQ below Qc args s mc ms free) g) : W p l e R s m args below meth c H locs cells slots (vx_MQ below Qc XC args s mc ms free) g := by
  intro T hT X
  obtain ⟨t, a1, o, b1, b2, b3, b4⟩ := k T hT X
  exact ⟨t, a1, o, b1, b2, Or.inl ⟨b3, b4⟩⟩
/-- not caught here: it goes on to the caller -/
theorem vx_widen {g : JFrame} {q : Addr} {k n : Nat} (h1 : cells ≤ k) (h2 : slots ≤ n) (kk : vx_W p l e R s m args below meth c H locs k n Q g q) : vx_W p l e R s m args below meth c H locs cells slots Q g q := fun T hT X => kk T hT (stand_widen X h1 h2)
theorem vx_out {pc : Nat} {E : String} {ce : Cell} {q : Addr} {mc ms : Nat} (hout : ∀ x ∈ c.exceptionTable.toList, covers x pc = false) (hlocks : meth.locks = false) (hcell : H[q]? = some ce) (hv : ce.vm = .none) (hcl : s.vm.findClass E = some ce.cls)
    (hx : ∀ t : State, t.heap = H → s.vm.Alike t.vm → XC E s t) (hf : ∀ z ∈ locs, free z.base) (hc : cells ≤ mc) (hs : slots ≤ ms) :
    vx_W p l e R s m args below meth c H locs cells slots (vx_MQ below Qc XC args s mc ms free) (F0 m pc ls rest) q := by
  intro T hT X
  obtain ⟨st1, hrun, hend, hW, hsm⟩ := X.leaveThrown q (g := F0 m pc ls rest) rfl rfl rfl hout hlocks
  have hcell9 : (T.setFrames (.throwing q :: below)).heap[q]? = some ce := by
    show T.heap[q]? = some ce
    rw [hT]; exact hcell
  exact ⟨_, st1, .threw q, hrun, hend, Or.inr ⟨q, rfl, E, ce, locs, hx _ hT hW.alike, hcell9, hv, hcl, hW, hsm.mono hc hs, hf⟩⟩
theorem vx_frame {U : State} {k n : Nat} (h : s.sameButNew ({ U with vm := s.vm } : State) locs k n) : s.heap.size ≤ U.heap.size ∧ ∀ q : Nat, q < s.heap.size → (∀ z ∈ locs, z.base ≠ q) → U.heap[q]? = s.heap[q]? := by
  obtain ⟨-, h2, -, -, -, h6⟩ := h
  refine ⟨h2, fun q hq hz => ?_⟩
  obtain ⟨c9, e1, e2, e3, e4⟩ := h6 q _ (Array.getElem?_eq_getElem hq)
  have hs : c9.slots = (s.heap[q]).slots := Array.ext_getElem? fun i => e4 i fun hm => hz _ hm rfl
  have h9 : c9 = s.heap[q] := by
    rw [hs] at e2
    exact e2
  have e5 : U.heap[q]? = some c9 := e1
  rw [e5, h9, Array.getElem?_eq_getElem hq]
/-- the words of a throw but the four that speak of the heap -/
def vx_no (w : Cond) : Bool := decide (w ≠ .isRef (.static Bundle.tN "UNASSIGNED_STACK" Bundle.steD)) && decide (w ≠ .isRef (.static Bundle.tN "SUPPRESSED_SENTINEL" Bundle.listD)) && decide (w ≠ .laysStatic Bundle.tN "UNASSIGNED_STACK" Bundle.steD) && decide (w ≠ .laysStatic Bundle.tN "SUPPRESSED_SENTINEL" Bundle.listD)
def vx_at0 (own : String) (ic : Nat) (X : String) (names : List String) : List Cond := (Bundle.ownAtoms0 own ic X names).filter vx_no
def vx_atS (own : String) (ic : Nat) (X : String) (names : List String) : List Cond := (Bundle.ownAtoms own ic X names).filter vx_no
/-- a word that the tables alone decide, or a good one -/
def vx_ot (w : Cond) : Bool := w.onTables || goodWord w
theorem vx_ot_at {args a' : Array Value} {s U : State} {w : Cond} (hW : s.WarmedH U.vm) (hvm : s.vm = U.vm) (hg : vx_ot w = true) (h : w.before args s = true) : w.before a' U = true := by
  simp only [vx_ot, Bool.or_eq_true] at hg
  rcases hg with hg | hg
  · exact va_tabs hg hvm h
  · exact word_at hW (good_of_word hg) h
/-- a list's words: the good ones out of the method's own list, the others by premises of their own -/
theorem vx_hat {args : Array Value} {s : State} {L B : List Cond} (h1 : ∀ w ∈ L.filter goodWord, w.before args s = true) (h2 : ∀ w ∈ L.filter (fun w => !goodWord w), w ∈ B) (h3 : ∀ w ∈ B, w.before args s = true) : ∀ w ∈ L, w.before args s = true := by
  intro w hw
  by_cases g : goodWord w = true
  · exact h1 w (List.mem_filter.mpr ⟨hw, g⟩)
  · refine h3 w (h2 w (List.mem_filter.mpr ⟨hw, ?_⟩))
    show (!goodWord w) = true
    cases hgw : goodWord w
    · rfl
    · exact absurd hgw g
theorem vx_c {args : Array Value} {s : State} {w : Cond} {B : List Cond} (h : w.before args s = true) (t : ∀ w ∈ B, w.before args s = true) : ∀ w' ∈ w :: B, w'.before args s = true := fun w' h' => (List.mem_cons.mp h').elim (fun e => by rw [e]; exact h) (t w')
theorem vx_n {args : Array Value} {s : State} : ∀ w ∈ ([] : List Cond), w.before args s = true := fun _ h => nomatch h
theorem vx_own {args : Array Value} {s : State} {L : List Cond} (h1 : ∀ w ∈ L.filter vx_no, w.before args s = true)
    (hU : (Cond.isRef (.static Bundle.tN "UNASSIGNED_STACK" Bundle.steD)).before args s = true) (hN : (Cond.isRef (.static Bundle.tN "SUPPRESSED_SENTINEL" Bundle.listD)).before args s = true)
    (lU : (Cond.laysStatic Bundle.tN "UNASSIGNED_STACK" Bundle.steD).before args s = true) (lN : (Cond.laysStatic Bundle.tN "SUPPRESSED_SENTINEL" Bundle.listD).before args s = true) : ∀ w ∈ L, w.before args s = true := by
  intro w hw
  by_cases e1 : w = .isRef (.static Bundle.tN "UNASSIGNED_STACK" Bundle.steD)
  · rw [e1]; exact hU
  · by_cases e2 : w = .isRef (.static Bundle.tN "SUPPRESSED_SENTINEL" Bundle.listD)
    · rw [e2]; exact hN
    · by_cases e3 : w = .laysStatic Bundle.tN "UNASSIGNED_STACK" Bundle.steD
      · rw [e3]; exact lU
      · by_cases e4 : w = .laysStatic Bundle.tN "SUPPRESSED_SENTINEL" Bundle.listD
        · rw [e4]; exact lN
        · exact h1 w (List.mem_filter.mpr ⟨hw, by unfold vx_no; rw [decide_eq_true e1, decide_eq_true e2, decide_eq_true e3, decide_eq_true e4]; rfl⟩)
/-- where a static field lies, its class's statics cell in H -/
def vx_L (C n d : String) (A : Nat → Prop) (U : State) (H : Heap) : Prop := ∃ (c : ClassId) (k : Class) (i : Nat) (f : Field) (a : Nat) (cell : Cell), U.vm.findClass C = some c ∧ U.fieldFound? C n d = some (c, k, i, f) ∧ f.isStatic = true ∧ k.statics = some a ∧ H[a]? = some cell ∧ cell.vm.isStatics = true ∧ cell.cls = c ∧ f.slot < cell.slots.size ∧ k.staticTypes[f.slot]? = some f.type ∧ ¬ A a
theorem vx_L.moved {C n d : String} {A : Nat → Prop} {u U : State} {H : Heap} (hvm : u.vm.Alike U.vm) (h : vx_L C n d A u H) : vx_L C n d A U H := by
  obtain ⟨c, k, i, f, a, cell, h1, h2, h3, h4, h5, h6, h7, h8, h9, h10⟩ := h
  obtain ⟨k', hi', he⟩ := State.fieldFound?_setVm hvm h2
  exact ⟨c, k', i, f, a, cell, by rw [hvm.findClass]; exact h1, hi', h3, by rw [he]; exact h4, h5, h6, h7, h8, by rw [he]; exact h9, h10⟩
theorem vx_L.kept {C n d : String} {A : Nat → Prop} {U : State} {H H1 : Heap} (h : vx_L C n d A U H) (hq : ∀ a : Nat, a < H.size → ¬ A a → H1[a]? = H[a]?) : vx_L C n d A U H1 := by
  obtain ⟨c, k, i, f, a, cell, h1, h2, h3, h4, h5, h6, h7, h8, h9, h10⟩ := h
  exact ⟨c, k, i, f, a, cell, h1, h2, h3, h4, by rw [hq a (Array.getElem?_eq_some_iff.mp h5).1 h10]; exact h5, h6, h7, h8, h9, h10⟩
theorem vx_L.narrow {C n d : String} {A B : Nat → Prop} {U : State} {H : Heap} (h : vx_L C n d A U H) (hAB : ∀ q, B q → A q) : vx_L C n d B U H := by
  obtain ⟨c, k, i, f, a, cell, h1, h2, h3, h4, h5, h6, h7, h8, h9, h10⟩ := h
  exact ⟨c, k, i, f, a, cell, h1, h2, h3, h4, h5, h6, h7, h8, h9, fun z => h10 (hAB _ z)⟩
theorem vx_L.word {C n d : String} {A : Nat → Prop} {s : State} {args : Array Value} (h : vx_L C n d A s s.heap) : (Cond.laysStatic C n d).before args s = true := by
  obtain ⟨c, k, i, f, a, cell, h1, h2, h3, h4, h5, h6, h7, h8, h9, -⟩ := h
  show (Cond.laysStatic C n d).holds args s none s [] = true
  exact Cond.laysStatic_of h1 h2 h3 h4 h5 h6 h7 h8 h9
/-- .. and what it holds: null or some reference -/
def vx_Zq (C n d : String) (A : Nat → Prop) (U : State) (H : Heap) : Prop := va_Zq C n d A U H ∧ vx_L C n d A U H
theorem vx_Zq.moved {C n d : String} {A : Nat → Prop} {u U : State} {H : Heap} (hvm : u.vm.Alike U.vm) (h : vx_Zq C n d A u H) : vx_Zq C n d A U H := ⟨va_Zq.moved hvm h.1, vx_L.moved hvm h.2⟩
theorem vx_Zq.kept {C n d : String} {A : Nat → Prop} {U : State} {H H1 : Heap} (h : vx_Zq C n d A U H) (hq : ∀ a : Nat, a < H.size → ¬ A a → H1[a]? = H[a]?) : vx_Zq C n d A U H1 := ⟨va_Zq.kept h.1 hq, vx_L.kept h.2 hq⟩
theorem vx_Zq.narrow {C n d : String} {A B : Nat → Prop} {U : State} {H : Heap} (h : vx_Zq C n d A U H) (hAB : ∀ q, B q → A q) : vx_Zq C n d B U H := ⟨va_Zq.narrow h.1 hAB, vx_L.narrow h.2 hAB⟩
theorem vx_Zqof {args : Array Value} {s : State} {C n d : String} {A : Nat → Prop} (hl : (Cond.laysStatic C n d).before args s = true) (hini : (Cond.initialized C).before args s = true) (h : (Cond.isRef (.static C n d)).before args s = true) (hA : ∀ a : Nat, a < s.heap.size → ¬ A a) : vx_Zq C n d A s s.heap := by
  refine ⟨va_Zqof hl hini h hA, ?_⟩
  obtain ⟨c, k, i, f, a, cell, h1, h2, h3, h4, h5, h6, h7, h8, h9⟩ := Cond.laysStatic_spec hl
  exact ⟨c, k, i, f, a, cell, h1, h2, h3, h4, h5, h6, h7, h8, h9, hA a (Array.getElem?_eq_some_iff.mp h5).1⟩
theorem vx_isRef {C n d : String} {v : Value} {A : Nat → Prop} {s : State} {args : Array Value} (h : va_Z C n d v A s s.heap) (hv : v.isRef = true) : (Cond.isRef (.static C n d)).before args s = true := by
  obtain ⟨cf, kf, fi, f, a, cell, h1, h2, h3, h4, h5, h6, h7, -⟩ := h
  have he : (Term.static C n d).eval args s none [] s = some v := by
    simp [Term.eval, State.fieldNamed?, h1, h2, h4, h5, h6, h7]
  simp only [Cond.before, Cond.holds, Cond.value, he]
  cases v <;> simp_all [Value.isRef]
theorem vx_isRefq {C n d : String} {A : Nat → Prop} {s : State} {args : Array Value} (h : va_Zq C n d A s s.heap) : (Cond.isRef (.static C n d)).before args s = true := by
  rcases h with h | ⟨t, h⟩
  · exact vx_isRef h rfl
  · exact vx_isRef h rfl
/-- the same frame, seen from here: as if the method were called anew in this heap -/
theorem vx_rebase {T : State} (X : Stand p l e R s m args below meth c T locs cells slots) {R' : Room} (hf : R'.frames ≤ R.frames) (hl : R'.locals ≤ R.locals) (hc : cells + R'.cells ≤ R.cells) (hs : slots + R'.slots ≤ R.slots) :
    Stand p l e R' ((T.setVm s.vm).setFrames (.invoking m args :: below)) m args below meth c T [] 0 0 := by
  have htop : (T.setVm s.vm).topJava?.isSome := X.here.top
  have hF : ((T.setVm s.vm).setFrames (.invoking m args :: below)).frames = .invoking m args :: below := State.frames_setFrames _ (State.cur_lt_of_top htop)
  obtain ⟨g₀, hg0⟩ := Option.isSome_iff_exists.mp htop
  obtain ⟨r, hr⟩ := State.topJava?_eq_some.mp hg0
  have hl9 : e.platform.stackLimits (T.setVm s.vm).me = e.platform.stackLimits s.me := X.limits
  have hb9 : (T.setVm s.vm).me.stackBytes = s.me.stackBytes := X.bytes
  refine ⟨X.admits, X.cas, X.clock, hF, ?_, X.hears, X.method, X.code, X.here, X.tail, X.warmed, ?_, ?_, ?_⟩
  · have h := X.room
    have hU : ((T.setVm s.vm).setFrames (.invoking m args :: below)).localsInUse = s.localsInUse := by
      rw [State.localsInUse_invoking hF (meth := meth) (c := c) X.method X.code, State.localsInUse_invoking X.frames X.method X.code]
    simp only [State.hasRoom, Bool.and_eq_true, decide_eq_true_eq] at h ⊢
    obtain ⟨⟨⟨⟨h1, h2, h3, h4, h5, h6⟩, h7⟩, h8⟩, h9⟩ := h
    rw [X.frames, List.length_cons] at h2 h3
    have q1 := X.heapSize
    have q2 := X.used
    simp only [hF, hU, List.length_cons, State.stackLimits_setFrames, State.stackBytes_setFrames, hl9, hb9]
    refine ⟨⟨⟨⟨by omega, by omega, by omega, by omega, by omega, h6⟩, ?_⟩, ?_⟩, X.book⟩
    · show T.heap.size + R'.cells ≤ e.platform.maxCells
      omega
    · show T.slotsUsed + R'.slots ≤ e.platform.maxSlots
      omega
  · rw [State.stackLimits_setFrames]; rfl
  · rw [State.stackBytes_setFrames]; rfl
  · refine ⟨?_, Nat.le_refl _, Nat.le_refl _, ?_, ?_, fun a c9 h9 => ⟨c9, h9, rfl, rfl, fun _ _ => rfl⟩⟩
    · obtain ⟨t, ht, -⟩ := State.frames_cons hr
      show T.setVm s.vm = { ((T.setVm s.vm).setFrames (.invoking m args :: below)).setFrames (T.setVm s.vm).frames with heap := T.heap, slotsUsed := T.slotsUsed }
      rw [State.setFrames_setFrames, State.setFrames_self ht]
      rfl
    · show T.slotsUsed = T.slotsUsed + ((T.heap.toList.drop T.heap.size).map (·.slots.size)).sum
      rw [List.drop_eq_nil_of_le (Nat.le_of_eq Array.length_toList)]
      rfl
    · show ((T.heap.toList.drop T.heap.size).map (·.slots.size)).sum ≤ 0
      rw [List.drop_eq_nil_of_le (Nat.le_of_eq Array.length_toList)]
      exact Nat.le_refl _
/-- 'throw new E()': new; dup; invokespecial; athrow -/
theorem vx_throw0 {cc : ByteArray} {pc : Nat} (hexec : p.tables.exec = Jvm.exec) (hb : c.code = cc) (hl : l.stackTraces = false) {own cls : String} {names : List String} {ik ic mc ms : Nat} {A : Nat → Prop}
    (hown : s.vm.findClass own = some m.cls) (hcls : Bundle.fit cls = true) (hnames : ∀ n ∈ names, Bundle.fit n = true)
    (hk : (Cond.classLink own ik cls).before args s = true) (hini : (Cond.initialized cls).before args s = true) (hat : ∀ w ∈ vx_at0 own ic cls names, w.before args s = true)
    (hgood : ∀ w ∈ Cond.classLink own ik cls :: Cond.initialized cls :: vx_at0 own ic cls names, vx_ot w = true)
    (hU : vx_Zq Bundle.tN "UNASSIGNED_STACK" Bundle.steD A s s.heap) (hN : vx_Zq Bundle.tN "SUPPRESSED_SENTINEL" Bundle.listD A s s.heap) (hS : va_S A s.heap H locs) (hsize : ls.size = c.maxLocals)
    (d0 : decode cc pc = .ok (.new ik, 3)) (d3 : decode cc (pc + 3) = .ok (.dup, 1)) (d4 : decode cc (pc + 4) = .ok (.invokespecial ic, 3)) (d7 : decode cc (pc + 7) = .ok (.athrow, 1))
    (hout : ∀ x ∈ c.exceptionTable.toList, covers x (pc + 7) = false)
    (hRframes : names.length + 3 < R.frames) (hRlocals : (rest.map fun v => v.category).sum + (13 * (names.length + 1) + 42) ≤ R.locals) (hRcells : cells + 1 ≤ R.cells) (hRslots : slots + 6 ≤ R.slots) (hlocks : meth.locks = false)
    (hx : ∀ t : State, s.vm.Alike t.vm → H.size ≤ t.heap.size → (∀ q : Nat, q < H.size → t.heap[q]? = H[q]?) → XC cls s t)
    (hf : ∀ z ∈ locs, free z.base) (hc : cells + 1 ≤ mc) (hs : slots + 6 ≤ ms) :
    W p l e R s m args below meth c H locs cells slots (vx_MQ below Qc XC args s mc ms free) (F0 m pc ls rest) := by
  intro T hT X
  have htr : e.platform.stackTraces = false := (show e.platform.stackTraces = l.stackTraces by rw [X.admits.platform]).trans hl
  have Y := vx_rebase X (R' := { frames := R.frames, locals := R.locals, cells := 1, slots := 6 }) (Nat.le_refl _) (Nat.le_refl _) hRcells hRslots
  obtain ⟨s', hA⟩ : ∃ z, z = (T.setVm s.vm).setFrames (.invoking m args :: below) := ⟨_, rfl⟩
  rw [← hA] at Y
  have hvm : s'.vm = s.vm := by rw [hA]; rfl
  have hhp : s'.heap = H := by rw [hA]; exact hT
  have hW0 : s.WarmedH s'.vm := by rw [hvm]; exact State.WarmedH.refl s
  have hat' : ∀ w ∈ vx_at0 own ic cls names, w.before args s' = true := fun w hw => vx_ot_at hW0 hvm.symm (hgood w (List.mem_cons_of_mem _ (List.mem_cons_of_mem _ hw))) (hat w hw)
  have hk' : (Cond.classLink own ik cls).before args s' = true := vx_ot_at hW0 hvm.symm (hgood _ List.mem_cons_self) hk
  have hini' : (Cond.initialized cls).before args s' = true := vx_ot_at hW0 hvm.symm (hgood _ (List.mem_cons_of_mem _ List.mem_cons_self)) hini
  have hU' : vx_Zq Bundle.tN "UNASSIGNED_STACK" Bundle.steD A s' s'.heap := by rw [hhp]; exact vx_Zq.moved hW0.alike (hU.kept hS.2.1)
  have hN' : vx_Zq Bundle.tN "SUPPRESSED_SENTINEL" Bundle.listD A s' s'.heap := by rw [hhp]; exact vx_Zq.moved hW0.alike (hN.kept hS.2.1)
  have h : ∀ w ∈ Bundle.ownAtoms0 own ic cls names, w.before args s' = true := vx_own hat' (vx_isRefq hU'.1) (vx_isRefq hN'.1) hU'.2.word hN'.2.word
  have hown' : s'.vm.findClass own = some m.cls := by rw [hvm]; exact hown
  have hins : (Cond.instantiable cls 6).before args s' = true := h _ (by simp [Bundle.ownAtoms0])
  obtain ⟨vm₁, cX, kX, hfX, hkX, -, -, X₁, st1⟩ := Y.newCold hexec (own := own) (C := cls) (index := ik) (n := 6) hown' hk' hins hini'
    (g := F0 m pc ls rest) rfl (by rw [hb]; exact d0) (Nat.le_refl _) (Nat.le_refl _)
  generalize hT1 : (T.setVm vm₁).pushCell { cls := cX, slots := kX.instanceTypes.map defaultValue, vm := .none } = T1 at X₁ st1
  have hcat : (Value.ref T.heap.size).category = 1 := rfl
  have hcellA : T1.heap[T.heap.size]? = some (freshCell cX kX) := by rw [← hT1]; exact State.heap_pushCell_size _ _
  have d3' : decode c.code (pc + 3) = .ok (.dup, 1) := by rw [hb]; exact d3
  obtain ⟨U, hsteps, hrun, hend, hW, hsame, ce, hce, hO⟩ := X₁.ctorThrow0 hexec htr (own := own) (cls := cls) (names := names) (ic := ic) hown' hcls hnames h (fun x hx => nomatch hx) hfX hkX hcellA (by rw [hhp, hT]; exact Nat.le_refl _)
    (g := { method := m, pc := pc + 4, locals := ls, stack := .ref T.heap.size :: .ref T.heap.size :: rest, locked := none }) rfl hsize rfl rfl (rest := rest) rfl
    (by rw [hb]; exact d4) (by rw [hb]; exact d7) hout hRframes (by simp only [List.map_cons, List.sum_cons, hcat]; omega) hlocks
  obtain ⟨f1, f2⟩ := vx_frame hsame
  rw [hhp] at f1 f2
  have hWs : s.WarmedH U.vm := State.WarmedH.trans hW0 hW
  have hcl : s.vm.findClass cls = some ce.cls := by
    have h9 := hO.cls
    rw [hvm] at h9
    exact h9
  have hall : s.sameButNew ({ U with vm := s.vm } : State) locs mc ms := by
    subst hA
    obtain ⟨e1, e2⟩ := hsame
    rw [State.setFrames_setFrames] at e1
    have h2 : (T.setVm s.vm).sameButNew ({ U with vm := s.vm } : State) [] (0 + 1) (0 + 6) := ⟨e1, e2⟩
    have h3 := X.same.trans h2
    rw [List.append_nil] at h3
    exact h3.mono hc hs
  refine ⟨U, ?_, .threw T.heap.size, hrun, hend, Or.inr ⟨T.heap.size, rfl, cls, ce, locs, hx U hWs.alike f1 (fun q hq => f2 q hq (fun z hz => nomatch hz)), hce, hO.vm, hcl, hWs, hall, hf⟩⟩
  refine st1 _ ?_
  show Steps p.tables e below (T1.setTop { method := m, pc := pc + 3, locals := ls, stack := .ref T.heap.size :: rest, locked := none }) _
  jvm_step X₁.here [X₁.here.top, hexec, d3', Value.category]
  exact hsteps
/-- 'throw new E("text")': new; dup; ldc; invokespecial; athrow -/
theorem vx_throwS {cc : ByteArray} {pc : Nat} (hexec : p.tables.exec = Jvm.exec) (hb : c.code = cc) (hl : l.stackTraces = false) {own cls text : String} {names : List String} {ik is ic mc ms sa : Nat} {A : Nat → Prop}
    (hown : s.vm.findClass own = some m.cls) (hcls : Bundle.fit cls = true) (hnames : ∀ n ∈ names, Bundle.fit n = true)
    (hk : (Cond.classLink own ik cls).before args s = true) (hini : (Cond.initialized cls).before args s = true) (hstr : vk_R own is text sa s) (hat : ∀ w ∈ vx_atS own ic cls names, w.before args s = true)
    (hgood : ∀ w ∈ Cond.classLink own ik cls :: Cond.initialized cls :: vx_atS own ic cls names, vx_ot w = true)
    (hU : vx_Zq Bundle.tN "UNASSIGNED_STACK" Bundle.steD A s s.heap) (hN : vx_Zq Bundle.tN "SUPPRESSED_SENTINEL" Bundle.listD A s s.heap) (hS : va_S A s.heap H locs) (hsize : ls.size = c.maxLocals)
    (d0 : decode cc pc = .ok (.new ik, 3)) (d3 : decode cc (pc + 3) = .ok (.dup, 1)) (d4 : decode cc (pc + 4) = .ok (.ldc is, 2)) (d6 : decode cc (pc + 6) = .ok (.invokespecial ic, 3)) (d9 : decode cc (pc + 9) = .ok (.athrow, 1))
    (hout : ∀ x ∈ c.exceptionTable.toList, covers x (pc + 9) = false)
    (hRframes : names.length + 3 < R.frames) (hRlocals : (rest.map fun v => v.category).sum + (13 * (names.length + 1) + 43) ≤ R.locals) (hRcells : cells + 1 ≤ R.cells) (hRslots : slots + 6 ≤ R.slots) (hlocks : meth.locks = false)
    (hx : ∀ t : State, s.vm.Alike t.vm → H.size ≤ t.heap.size → (∀ q : Nat, q < H.size → t.heap[q]? = H[q]?) → XC cls s t)
    (hf : ∀ z ∈ locs, free z.base) (hc : cells + 1 ≤ mc) (hs : slots + 6 ≤ ms) :
    W p l e R s m args below meth c H locs cells slots (vx_MQ below Qc XC args s mc ms free) (F0 m pc ls rest) := by
  intro T hT X
  have htr : e.platform.stackTraces = false := (show e.platform.stackTraces = l.stackTraces by rw [X.admits.platform]).trans hl
  have Y := vx_rebase X (R' := { frames := R.frames, locals := R.locals, cells := 1, slots := 6 }) (Nat.le_refl _) (Nat.le_refl _) hRcells hRslots
  obtain ⟨s', hA⟩ : ∃ z, z = (T.setVm s.vm).setFrames (.invoking m args :: below) := ⟨_, rfl⟩
  rw [← hA] at Y
  have hvm : s'.vm = s.vm := by rw [hA]; rfl
  have hhp : s'.heap = H := by rw [hA]; exact hT
  have hW0 : s.WarmedH s'.vm := by rw [hvm]; exact State.WarmedH.refl s
  have hat' : ∀ w ∈ vx_atS own ic cls names, w.before args s' = true := fun w hw => vx_ot_at hW0 hvm.symm (hgood w (List.mem_cons_of_mem _ (List.mem_cons_of_mem _ hw))) (hat w hw)
  have hk' : (Cond.classLink own ik cls).before args s' = true := vx_ot_at hW0 hvm.symm (hgood _ List.mem_cons_self) hk
  have hini' : (Cond.initialized cls).before args s' = true := vx_ot_at hW0 hvm.symm (hgood _ (List.mem_cons_of_mem _ List.mem_cons_self)) hini
  have hU' : vx_Zq Bundle.tN "UNASSIGNED_STACK" Bundle.steD A s' s'.heap := by rw [hhp]; exact vx_Zq.moved hW0.alike (hU.kept hS.2.1)
  have hN' : vx_Zq Bundle.tN "SUPPRESSED_SENTINEL" Bundle.listD A s' s'.heap := by rw [hhp]; exact vx_Zq.moved hW0.alike (hN.kept hS.2.1)
  have h : ∀ w ∈ Bundle.ownAtoms own ic cls names, w.before args s' = true := vx_own hat' (vx_isRefq hU'.1) (vx_isRefq hN'.1) hU'.2.word hN'.2.word
  have hown' : s'.vm.findClass own = some m.cls := by rw [hvm]; exact hown
  have hins : (Cond.instantiable cls 6).before args s' = true := h _ (by simp [Bundle.ownAtoms])
  obtain ⟨vm₁, cX, kX, hfX, hkX, -, -, X₁, st1⟩ := Y.newCold hexec (own := own) (C := cls) (index := ik) (n := 6) hown' hk' hins hini'
    (g := F0 m pc ls rest) rfl (by rw [hb]; exact d0) (Nat.le_refl _) (Nat.le_refl _)
  generalize hT1 : (T.setVm vm₁).pushCell { cls := cX, slots := kX.instanceTypes.map defaultValue, vm := .none } = T1 at X₁ st1
  have hcat : (Value.ref T.heap.size).category = 1 := rfl
  have hcellA : T1.heap[T.heap.size]? = some (freshCell cX kX) := by rw [← hT1]; exact State.heap_pushCell_size _ _
  have d3' : decode c.code (pc + 3) = .ok (.dup, 1) := by rw [hb]; exact d3
  have d4' : decode c.code (pc + 4) = .ok (.ldc is, 2) := by rw [hb]; exact d4
  have hstr' : vk_R own is text sa s' := vk_R.warm hW0 hstr
  obtain ⟨U, hsteps, hrun, hend, hW, hsame, ce, hce, hO⟩ := X₁.ctorThrowS hexec htr (own := own) (cls := cls) (names := names) (ic := ic) hown' hcls hnames h (fun x hx => nomatch hx) hfX hkX hcellA (by rw [hhp, hT]; exact Nat.le_refl _) (msg := .ref sa) rfl
    (g := { method := m, pc := pc + 6, locals := ls, stack := .ref sa :: .ref T.heap.size :: .ref T.heap.size :: rest, locked := none }) rfl hsize rfl rfl (rest := rest) rfl
    (by rw [hb]; exact d6) (by rw [hb]; exact d9) hout hRframes (by simp only [List.map_cons, List.sum_cons, hcat]; omega) hlocks
  obtain ⟨f1, f2⟩ := vx_frame hsame
  rw [hhp] at f1 f2
  have hWs : s.WarmedH U.vm := State.WarmedH.trans hW0 hW
  have hcl : s.vm.findClass cls = some ce.cls := by
    have h9 := hO.cls
    rw [hvm] at h9
    exact h9
  have hall : s.sameButNew ({ U with vm := s.vm } : State) locs mc ms := by
    subst hA
    obtain ⟨e1, e2⟩ := hsame
    rw [State.setFrames_setFrames] at e1
    have h2 : (T.setVm s.vm).sameButNew ({ U with vm := s.vm } : State) [] (0 + 1) (0 + 6) := ⟨e1, e2⟩
    have h3 := X.same.trans h2
    rw [List.append_nil] at h3
    exact h3.mono hc hs
  refine ⟨U, ?_, .threw T.heap.size, hrun, hend, Or.inr ⟨T.heap.size, rfl, cls, ce, locs, hx U hWs.alike f1 (fun q hq => f2 q hq (fun z hz => nomatch hz)), hce, hO.vm, hcl, hWs, hall, hf⟩⟩
  refine st1 _ ?_
  show Steps p.tables e below (T1.setTop { method := m, pc := pc + 3, locals := ls, stack := .ref T.heap.size :: rest, locked := none }) _
  jvm_step X₁.here [X₁.here.top, hexec, d3', Value.category]
  exact X₁.ldcString hexec (own := own) (text := text) (index := is) (a := sa) hown' hstr'.1 hstr'.2
    (g := { method := m, pc := pc + 4, locals := ls, stack := .ref T.heap.size :: .ref T.heap.size :: rest, locked := none }) rfl d4' _ hsteps
/-- 'throw new E("text")', the text by a wide index -/
theorem vx_throwSW {cc : ByteArray} {pc : Nat} (hexec : p.tables.exec = Jvm.exec) (hb : c.code = cc) (hl : l.stackTraces = false) {own cls text : String} {names : List String} {ik is ic mc ms sa : Nat} {A : Nat → Prop}
    (hown : s.vm.findClass own = some m.cls) (hcls : Bundle.fit cls = true) (hnames : ∀ n ∈ names, Bundle.fit n = true)
    (hk : (Cond.classLink own ik cls).before args s = true) (hini : (Cond.initialized cls).before args s = true) (hstr : vk_R own is text sa s) (hat : ∀ w ∈ vx_atS own ic cls names, w.before args s = true)
    (hgood : ∀ w ∈ Cond.classLink own ik cls :: Cond.initialized cls :: vx_atS own ic cls names, vx_ot w = true)
    (hU : vx_Zq Bundle.tN "UNASSIGNED_STACK" Bundle.steD A s s.heap) (hN : vx_Zq Bundle.tN "SUPPRESSED_SENTINEL" Bundle.listD A s s.heap) (hS : va_S A s.heap H locs) (hsize : ls.size = c.maxLocals)
    (d0 : decode cc pc = .ok (.new ik, 3)) (d3 : decode cc (pc + 3) = .ok (.dup, 1)) (d4 : decode cc (pc + 4) = .ok (.ldc_w is, 3)) (d7 : decode cc (pc + 7) = .ok (.invokespecial ic, 3)) (d10 : decode cc (pc + 10) = .ok (.athrow, 1))
    (hout : ∀ x ∈ c.exceptionTable.toList, covers x (pc + 10) = false)
    (hRframes : names.length + 3 < R.frames) (hRlocals : (rest.map fun v => v.category).sum + (13 * (names.length + 1) + 43) ≤ R.locals) (hRcells : cells + 1 ≤ R.cells) (hRslots : slots + 6 ≤ R.slots) (hlocks : meth.locks = false)
    (hx : ∀ t : State, s.vm.Alike t.vm → H.size ≤ t.heap.size → (∀ q : Nat, q < H.size → t.heap[q]? = H[q]?) → XC cls s t)
    (hf : ∀ z ∈ locs, free z.base) (hc : cells + 1 ≤ mc) (hs : slots + 6 ≤ ms) :
    W p l e R s m args below meth c H locs cells slots (vx_MQ below Qc XC args s mc ms free) (F0 m pc ls rest) := by
  intro T hT X
  have htr : e.platform.stackTraces = false := (show e.platform.stackTraces = l.stackTraces by rw [X.admits.platform]).trans hl
  have Y := vx_rebase X (R' := { frames := R.frames, locals := R.locals, cells := 1, slots := 6 }) (Nat.le_refl _) (Nat.le_refl _) hRcells hRslots
  obtain ⟨s', hA⟩ : ∃ z, z = (T.setVm s.vm).setFrames (.invoking m args :: below) := ⟨_, rfl⟩
  rw [← hA] at Y
  have hvm : s'.vm = s.vm := by rw [hA]; rfl
  have hhp : s'.heap = H := by rw [hA]; exact hT
  have hW0 : s.WarmedH s'.vm := by rw [hvm]; exact State.WarmedH.refl s
  have hat' : ∀ w ∈ vx_atS own ic cls names, w.before args s' = true := fun w hw => vx_ot_at hW0 hvm.symm (hgood w (List.mem_cons_of_mem _ (List.mem_cons_of_mem _ hw))) (hat w hw)
  have hk' : (Cond.classLink own ik cls).before args s' = true := vx_ot_at hW0 hvm.symm (hgood _ List.mem_cons_self) hk
  have hini' : (Cond.initialized cls).before args s' = true := vx_ot_at hW0 hvm.symm (hgood _ (List.mem_cons_of_mem _ List.mem_cons_self)) hini
  have hU' : vx_Zq Bundle.tN "UNASSIGNED_STACK" Bundle.steD A s' s'.heap := by rw [hhp]; exact vx_Zq.moved hW0.alike (hU.kept hS.2.1)
  have hN' : vx_Zq Bundle.tN "SUPPRESSED_SENTINEL" Bundle.listD A s' s'.heap := by rw [hhp]; exact vx_Zq.moved hW0.alike (hN.kept hS.2.1)
  have h : ∀ w ∈ Bundle.ownAtoms own ic cls names, w.before args s' = true := vx_own hat' (vx_isRefq hU'.1) (vx_isRefq hN'.1) hU'.2.word hN'.2.word
  have hown' : s'.vm.findClass own = some m.cls := by rw [hvm]; exact hown
  have hins : (Cond.instantiable cls 6).before args s' = true := h _ (by simp [Bundle.ownAtoms])
  obtain ⟨vm₁, cX, kX, hfX, hkX, -, -, X₁, st1⟩ := Y.newCold hexec (own := own) (C := cls) (index := ik) (n := 6) hown' hk' hins hini'
    (g := F0 m pc ls rest) rfl (by rw [hb]; exact d0) (Nat.le_refl _) (Nat.le_refl _)
  generalize hT1 : (T.setVm vm₁).pushCell { cls := cX, slots := kX.instanceTypes.map defaultValue, vm := .none } = T1 at X₁ st1
  have hcat : (Value.ref T.heap.size).category = 1 := rfl
  have hcellA : T1.heap[T.heap.size]? = some (freshCell cX kX) := by rw [← hT1]; exact State.heap_pushCell_size _ _
  have d3' : decode c.code (pc + 3) = .ok (.dup, 1) := by rw [hb]; exact d3
  have d4' : decode c.code (pc + 4) = .ok (.ldc_w is, 3) := by rw [hb]; exact d4
  have hstr' : vk_R own is text sa s' := vk_R.warm hW0 hstr
  obtain ⟨U, hsteps, hrun, hend, hW, hsame, ce, hce, hO⟩ := X₁.ctorThrowS hexec htr (own := own) (cls := cls) (names := names) (ic := ic) hown' hcls hnames h (fun x hx => nomatch hx) hfX hkX hcellA (by rw [hhp, hT]; exact Nat.le_refl _) (msg := .ref sa) rfl
    (g := { method := m, pc := pc + 7, locals := ls, stack := .ref sa :: .ref T.heap.size :: .ref T.heap.size :: rest, locked := none }) rfl hsize rfl rfl (rest := rest) rfl
    (by rw [hb]; exact d7) (by rw [hb]; exact d10) hout hRframes (by simp only [List.map_cons, List.sum_cons, hcat]; omega) hlocks
  obtain ⟨f1, f2⟩ := vx_frame hsame
  rw [hhp] at f1 f2
  have hWs : s.WarmedH U.vm := State.WarmedH.trans hW0 hW
  have hcl : s.vm.findClass cls = some ce.cls := by
    have h9 := hO.cls
    rw [hvm] at h9
    exact h9
  have hall : s.sameButNew ({ U with vm := s.vm } : State) locs mc ms := by
    subst hA
    obtain ⟨e1, e2⟩ := hsame
    rw [State.setFrames_setFrames] at e1
    have h2 : (T.setVm s.vm).sameButNew ({ U with vm := s.vm } : State) [] (0 + 1) (0 + 6) := ⟨e1, e2⟩
    have h3 := X.same.trans h2
    rw [List.append_nil] at h3
    exact h3.mono hc hs
  refine ⟨U, ?_, .threw T.heap.size, hrun, hend, Or.inr ⟨T.heap.size, rfl, cls, ce, locs, hx U hWs.alike f1 (fun q hq => f2 q hq (fun z hz => nomatch hz)), hce, hO.vm, hcl, hWs, hall, hf⟩⟩
  refine st1 _ ?_
  show Steps p.tables e below (T1.setTop { method := m, pc := pc + 3, locals := ls, stack := .ref T.heap.size :: rest, locked := none }) _
  jvm_step X₁.here [X₁.here.top, hexec, d3', Value.category]
  exact X₁.ldcStringW hexec (own := own) (text := text) (index := is) (a := sa) hown' hstr'.1 hstr'.2
    (g := { method := m, pc := pc + 4, locals := ls, stack := .ref T.heap.size :: .ref T.heap.size :: rest, locked := none }) rfl d4' _ hsteps
end Ends
section Bodies
variable {l : Launch}
theorem vx_ofW {y : MethodName} {ws ws' : List Cond} {rm : Room} {Pc : Array Value → State → Prop} {Qc : Array Value → State → Outcome → State → Prop} {XC : String → State → State → Prop} {mc ms : Nat} {free : Addr → Prop} {cc : ByteArray} {maxL : Nat} {ret : Option FieldType}
    (hy : plainName y.cls = true) (hw : ws = Cond.code y cc maxL ret :: ws')
    (body : ∀ p e s m args below meth c s₁, BodyLoose p l y (headSpec ws rm) cc maxL ret e s m args below meth c s₁ → c.maxLocals = maxL → (∀ x ∈ c.exceptionTable.toList, False) → Pc args s →
      W p l e (headSpec ws rm).room s m args below meth c s.heap [] 0 0 (vx_MQ below Qc XC args s mc ms free) (entryFrame m args maxL)) : vx_Met l y ws rm Pc Qc XC mc ms free := by
  refine MetFree.of_bodyS (code := cc) (maxLocals := maxL) (ret := ret) hy ?_ ?_
  · intro args s m h hn
    obtain ⟨meth, c, h1, h2, h3, h4, h5, h6, -, -⟩ := Cond.code_spec hn (atoms_spec (ws := ws) h _ (by rw [hw]; exact List.mem_cons_self))
    exact ⟨meth, c, h1, h2, h3, h4, h5, h6⟩
  · intro p e s m args below meth c s₁ B hml hP _
    have hh0 : s₁.heap = s.heap := by rw [B.state]; rfl
    have ht : ∀ x ∈ c.exceptionTable.toList, False := by
      obtain ⟨meth9, c9, h1, h2, -, -, -, -, h7, -⟩ := Cond.code_spec B.named (atoms_spec (ws := ws) B.pre _ (by rw [hw]; exact List.mem_cons_self))
      cases Option.some.inj (h1.symm.trans B.method)
      cases Option.some.inj (h2.symm.trans (Stand.of_body B).code)
      intro x hx
      rw [Array.isEmpty_iff.mp h7] at hx
      cases hx
    obtain ⟨t, a1, o, b1, b2, b3⟩ := body p e s m args below meth c s₁ B hml ht hP s₁ hh0 (Stand.of_body B)
    exact ⟨t, o, a1, b1, b2, b3⟩
/-- the table of a body with handlers -/
theorem vx_table {p : Program} {x y : MethodName} {S : Spec} {cc bytes : ByteArray} {maxL maxL' : Nat} {ret ret' : Option FieldType} {e : Env} {s s₁ : State} {m : MethodId} {args : Array Value} {below : List Frame} {meth : Method} {c : Code} {hh : List (Nat × Nat × Nat × Nat)}
    (B : BodyLoose p l y S cc maxL ret e s m args below meth c s₁) (h : (Cond.codeWith y bytes maxL' ret' hh).before args s = true) : c.exceptionTable.toList = tableOf hh := by
  obtain ⟨m9, meth9, c9, hn9, h1, h2, -, -, h6, -⟩ := Cond.codeWith_spec h
  cases Option.some.inj (hn9.symm.trans B.named)
  cases Option.some.inj (h1.symm.trans B.method)
  cases Option.some.inj (h2.symm.trans (Stand.of_body B).code)
  rw [← h6, table_eq]
end Bodies
end VXA
/-! ===== END ===== -/
/-! ===== BEGIN a static call of a method with an exception table ===== -/
section VXS
variable {p : Program} {l : Launch} {e : Env} {R : Room} {s : State} {m : MethodId} {args : Array Value} {below : List Frame} {meth : Method} {c : Code} {T : State} {H : Heap} {locs : List Loc} {cells slots : Nat}
abbrev vx_CSW (R : Room) (s : State) (args : Array Value) (own : String) (index : Nat) (y : MethodName) (bytes : ByteArray) (maxL : Nat) (ret : Option FieldType) (hh : List (Nat × Nat × Nat × Nat)) (ws : List Cond) (rm : Room) (mc ms n : Nat) : Prop :=
  (rm.cells = mc ∧ rm.slots = ms ∧ rm.frames + 1 ≤ R.frames ∧ 8 + (maxL + 11) + rm.locals ≤ R.locals ∧ (∀ w ∈ ws, ∀ (a' : Array Value) (U : State), s.WarmedH U.vm → w.before a' U = true) ∧ Cond.codeWith y bytes maxL ret hh ∈ ws) ∧
  (Cond.codeWith y bytes maxL ret hh).before args s = true ∧ (Cond.initialized y.cls).before args s = true ∧ (y.cls ≠ "java/lang/invoke/MethodHandle" ∧ y.cls ≠ "java/lang/invoke/VarHandle") ∧
  (∀ sig, parseMethodDescriptor y.desc = some sig → n = sig.parameters.length) ∧ (Cond.methodLink own index y).before args s = true ∧ (Cond.static y).before args s = true
theorem vx_cwSW {own : String} {index maxL mc ms : Nat} {y : MethodName} {bytes : ByteArray} {ret : Option FieldType} {hh : List (Nat × Nat × Nat × Nat)} {Ts ws ws' : List Cond} {rm : Room} (n : Nat) (ht : ∀ w ∈ Ts, w.before args s = true) (hT : GoodIn Ts (va_wsS own index y ws)) (hw : ws = Cond.codeWith y bytes maxL ret hh :: ws') (hrc : rm.cells = mc) (hrs : rm.slots = ms)
    (hd : y.cls ≠ "java/lang/invoke/MethodHandle" ∧ y.cls ≠ "java/lang/invoke/VarHandle" ∧ (parseMethodDescriptor y.desc).map (fun d => d.parameters.length) = some n) (hR : rm.frames + 1 ≤ R.frames ∧ 8 + (maxL + 11) + rm.locals ≤ R.locals) :
    vx_CSW R s args own index y bytes maxL ret hh ws rm mc ms n := by
  have ok : ∀ w ∈ va_wsS own index y ws, w.before args s = true := fun w h => ht w (hT w h).1
  have hG : GoodIn Ts ws := fun w h => hT w (by unfold va_wsS; exact List.mem_append_right _ h)
  have hc : Cond.codeWith y bytes maxL ret hh ∈ ws := by rw [hw]; exact List.mem_cons_self
  refine ⟨⟨hrc, hrs, hR.1, hR.2, pay_in ht hG, hc⟩, ht _ (hG _ hc).1, ok _ (by simp [va_wsS]), ⟨hd.1, hd.2.1⟩, fun sig h => ?_, ok _ (by simp [va_wsS]), ok _ (by simp [va_wsS])⟩
  have h2 := hd.2.2
  rw [h] at h2
  exact (Option.some.inj h2).symm
theorem vx_callSW (X : Stand p l e R s m args below meth c T locs cells slots) (hexec : p.tables.exec = Jvm.exec) {own : String} {index : Nat} {y : MethodName} {bytes : ByteArray} {maxL : Nat} {ret : Option FieldType} {hh : List (Nat × Nat × Nat × Nat)}
    (hown : s.vm.findClass own = some m.cls) (hlink : (Cond.methodLink own index y).before args s = true) (hstat : (Cond.static y).before args s = true) (hinit : (Cond.initialized y.cls).before args s = true)
    (hcode : (Cond.codeWith y bytes maxL ret hh).before args s = true) (hy : y.cls ≠ "java/lang/invoke/MethodHandle" ∧ y.cls ≠ "java/lang/invoke/VarHandle")
    {W9 : Nat} {Pre : Pt → Array Value → Prop} {Post : Pt → Array Value → Option Value → Pt → Prop} (hK : Back l R p e below s args y 3 W9 Pre Post)
    {g : JFrame} (hg : g.method = m) (hsize : g.locals.size = c.maxLocals) {argsL rest : List Value} (hlen : ∀ sig, parseMethodDescriptor y.desc = some sig → argsL.length = sig.parameters.length)
    (hstack : g.stack = argsL.reverse ++ rest) (hW : 2 * g.monitorRoom + (rest.map fun v => v.category).sum ≤ W9) (hdg : decode c.code g.pc = .ok (.invokestatic index, 3))
    (hpre : ∀ vm₁, s.WarmedH vm₁ → Pre ⟨T.setVm vm₁, locs, cells, slots⟩ argsL.toArray) :
    ∃ (v : Option Value) (vm₁ : Vm) (B : Pt), s.WarmedH vm₁ ∧ Stand p l e R s m args below meth c B.U B.locs B.cells B.slots ∧ Post ⟨T.setVm vm₁, locs, cells, slots⟩ argsL.toArray v B ∧
      ∀ target, Steps p.tables e below (B.U.setTop { g with pc := g.pc + 3, stack := v.toList ++ rest }) target → Steps p.tables e below (T.setTop g) target := by
  obtain ⟨mk, methM, cM, hnamed, hmethM, -, -, -, -, -, -, hsigM⟩ := Cond.codeWith_spec hcode
  have hstatic : methM.isStatic = true := Cond.static_spec hnamed hmethM hstat
  obtain ⟨kP, hkP, -⟩ := className_of_methodNamed hnamed
  have hinitP : kP.init = .initialized := Cond.initialized_spec (findClass_of_methodNamed hnamed) hkP hinit
  obtain ⟨vm₁, X₁, hstep₁⟩ := X.invokestatic hexec hown hlink hnamed hmethM hstatic hkP hinitP hy (g := g) hg (argsL := argsL) (rest := rest) (hlen _ hsigM) hstack hdg
  obtain ⟨v, B, X', hpost, hsteps⟩ := hK m meth c ⟨T.setVm vm₁, locs, cells, slots⟩ { g with stack := rest } (.invokestatic index) mk argsL.toArray X₁ hg hsize hdg hW (X₁.named hnamed) (hpre vm₁ X₁.warmed)
  exact ⟨v, vm₁, B, X₁.warmed, X', hpost, fun target h => hstep₁ _ fun acts => by rw [doInvoke_state]; exact hsteps.trans h⟩
theorem vx_runSW {y : MethodName} {bytes cc : ByteArray} {maxL nL mc ms n index : Nat} {ret : Option FieldType} {hh : List (Nat × Nat × Nat × Nat)} {ws : List Cond} {rm : Room} {Pc : Array Value → State → Prop} {Qc : Array Value → State → Outcome → State → Prop} {free : Addr → Prop} {Ts : List Cond} {own : String} {As rest : List Value} {g : JFrame}
    (S : CallFix p m c cc nL s args Ts own) (hM : Met l y ws rm Pc Qc mc ms free) (cw : vx_CSW R s args own index y bytes maxL ret hh ws rm mc ms n) (hp : PreS s H Pc As)
    (hg : g.method = m) (hn : As.length = n) (hsize : g.locals.size = nL) (hstack : g.stack = As.reverse ++ rest) (hW : 2 * g.monitorRoom + (rest.map fun v => v.category).sum ≤ 8) (hdg : decode cc g.pc = .ok (.invokestatic index, 3)) (hf : cells + mc ≤ R.cells ∧ slots + ms ≤ R.slots) :
    va_Run p l e R s m args below meth c H locs cells slots mc ms g rest (Qc As.toArray) (free) := by
  obtain ⟨⟨hrc, hrs, hfr, hlo, hws, hcw⟩, hcode, hini, hy, hlen, hl, hstt⟩ := cw
  have hK : Back l R p e below s args y 3 8 (PreOf R mc ms Pc) (PostOf Qc mc ms free) := va_backW (hh := hh) (bytes := bytes) (maxL := maxL) (ret := ret) hM hp.1 hrc hrs hfr hlo hws hcw (fun a' U hW => word_at hW (Or.inl (by first | rfl | simp [Cond.onTables, Cond.keeps, Cond.steady])) hini)
  obtain ⟨hx, hb, hml, ho, -⟩ := S
  intro T hT X
  obtain ⟨v, vm₁, ⟨U', l2, c2, s2⟩, hW₁, X', ⟨g', mk, t, L, e1, e2, hq, h1, hL, h2, h3⟩, st⟩ := vx_callSW X hx (hh := hh) (bytes := bytes) (maxL := maxL) (ret := ret) ho hl hstt hini hcode hy hK hg (hsize.trans hml.symm) (argsL := As) (rest := rest) (fun sig h => hn.trans (hlen sig h)) hstack hW (by rw [hb]; exact hdg)
    (fun vm₁ hW₁ => ⟨hf.1, hf.2, hp.2 (T.setVm vm₁) hT hW₁⟩)
  dsimp only [Pt.U, Pt.locs, Pt.cells, Pt.slots] at X' e1 e2 h1 h2 h3 st
  subst h1; subst h2; subst h3
  exact ⟨v, (T.setVm vm₁).calling g' mk As.toArray, t, U', L, hT, X', hL, e1, e2, hq, st⟩
/-- not caught here, past rows that name other classes: it goes on to the caller -/
theorem vx_outP {p : Program} {l : Launch} {e : Env} {R : Room} {s : State} {m : MethodId} {args : Array Value} {below : List Frame} {meth : Method} {c : Code} {H : Heap} {locs : List Loc} {cells slots : Nat} {free : Addr → Prop} {ls : Array Slot} {rest : List Value} {Qc : Array Value → State → Outcome → State → Prop} {XC : String → State → State → Prop}
    {pc : Nat} {own E : String} {ce : Cell} {q : Addr} {mc ms : Nat} (hown : s.vm.findClass own = some m.cls) (hlocks : meth.locks = false)
    (hpass : ∀ z ∈ c.exceptionTable.toList, covers z pc = false ∨ (z.catchType ≠ 0 ∧ ∃ nm : String, (Cond.classLink own z.catchType nm).before args s = true ∧ va_Nc E nm s)) (hcell : H[q]? = some ce) (hv : ce.vm = .none) (hcl : s.vm.findClass E = some ce.cls)
    (hx : ∀ t : State, t.heap = H → s.vm.Alike t.vm → XC E s t) (hf : ∀ z ∈ locs, free z.base) (hc : cells ≤ mc) (hs : slots ≤ ms) :
    vx_W p l e R s m args below meth c H locs cells slots (vx_MQ below Qc XC args s mc ms free) (F0 m pc ls rest) q := by
  intro T hT X
  have hpl : e.platform.magicAccessors = ({} : Platform).magicAccessors := by rw [X.admits.platform]
  obtain ⟨vm', hW', X', st⟩ := X.outThrough hlocks q (g := F0 m pc ls rest) rfl rfl rfl (cell := ce) (by rw [hT]; exact hcell) (by rw [hv]; rfl)
    (by obtain ⟨k9, h9, -⟩ := Vm.findClass_spec hcl; exact ⟨k9, h9⟩) (fun z hz => by
      rcases hpass z hz with h | ⟨hz0, nm, hl1, hn1⟩
      · exact Or.inl h
      · obtain ⟨c6, hc6, hcl6⟩ := Cond.classLink_spec hown hl1 e.platform hpl
        obtain ⟨a8, b8, h1, h2, h3⟩ := hn1
        cases Option.some.inj (h1.symm.trans hcl)
        cases Option.some.inj (h2.symm.trans hc6)
        exact Or.inr ⟨hz0, _, hcl6, h3⟩)
  obtain ⟨g₀, hfr⟩ := X'.frames_eq
  have hcell9 : ((T.setVm vm').setFrames (.throwing q :: below)).heap[q]? = some ce := by
    show T.heap[q]? = some ce
    rw [hT]; exact hcell
  have hend : Ended ((T.setVm vm').setFrames (.throwing q :: below)) below (.threw q) := State.frames_setFrames _ (State.cur_lt_of_frames hfr)
  refine ⟨(T.setVm vm').setFrames (.throwing q :: below), ?_, .threw q, X'.here.running, hend, Or.inr ⟨q, rfl, E, ce, locs, hx _ hT (X'.ends _).1.alike, hcell9, hv, hcl, (X'.ends _).1, (X'.ends _).2.mono hc hs, hf⟩⟩
  rw [X.pushThrowing_eq]
  exact st
/-- a thing of a world lies in the heap -/
theorem vx_lt {D : va_G} {cl : List vw_C} {ws : va_W} {H1 : Heap} (h : va_P D cl ws H1) {k : Nat} {q : Nat × va_E} (hk : ws[k]? = some q) : q.1 < H1.size := (h k q hk).lt
end VXS
/-! ===== END ===== -/
/-! ===== BEGIN methods with a table of their own: called by a name, returning or throwing ===== -/
section VXH
/-! vx_backW, vx_callVX, vx_callSX, vx_callVW, vx_runVW, vx_runVX, vx_runSX, vx_ofWH follow the same proofs as their sisters above (Free/Laws.lean, Shelf42/LK1.lean); vx_outP calls Shelf42/NT130.lean (outThrough). -/
section
variable {l : Launch} {R : Room} {p : Program} {e : Env} {below : List Frame} {s : State} {sargs : Array Value} {y : MethodName} {len W9 : Nat}
theorem vx_backW {ws : List Cond} {rm : Room} {Pc : Array Value → State → Prop} {Qc : Array Value → State → Outcome → State → Prop} {XC : String → State → State → Prop} {mc ms : Nat} {free : Addr → Prop} {bytes : ByteArray} {maxL : Nat} {ret : Option FieldType} {hh : List (Nat × Nat × Nat × Nat)}
    (hM : vx_Met l y ws rm Pc Qc XC mc ms free) (hblind : FrameBlind Pc) (hrc : rm.cells = mc) (hrs : rm.slots = ms)
    (hframes : rm.frames + 1 ≤ R.frames) (hlocals : W9 + (maxL + 11) + rm.locals ≤ R.locals)
    (hws : ∀ w ∈ ws, ∀ a' U, s.WarmedH U.vm → w.before a' U = true) (hcode : Cond.codeWith y bytes maxL ret hh ∈ ws) (hinit : ∀ a' U, s.WarmedH U.vm → (Cond.initialized y.cls).before a' U = true) :
    vx_Back l R p e below s sargs y len W9 (PreOf R mc ms Pc) (PostOf Qc mc ms free) (vx_Post XC mc ms free) := by
  intro m meth c A g ig mk a X hg hsize hdg hW hn hp
  have h1 : (headSpec ws rm).pre.before a A.U = true := atoms_intro fun w hw => hws w hw _ _ X.warmed
  have h2 : (Cond.codeWith y bytes maxL ret hh).before a A.U = true := hws _ hcode _ _ X.warmed
  have h3 : (Cond.initialized y.cls).before a A.U = true := hinit _ _ X.warmed
  have h4 : A.cells + (headSpec ws rm).room.cells ≤ R.cells := by rw [show (headSpec ws rm).room.cells = mc from hrc]; exact hp.1
  have h5 : A.slots + (headSpec ws rm).room.slots ≤ R.slots := by rw [show (headSpec ws rm).room.slots = ms from hrs]; exact hp.2.1
  have hPc : Pc a (A.U.calling g mk a) := hblind _ _ _ _ hp.2.2
  obtain ⟨U, Ls, c0, s0⟩ := A
  dsimp only [Pt.U, Pt.locs, Pt.cells, Pt.slots] at h1 h2 h3 h4 h5 X hn hPc ⊢
  obtain ⟨m9, methY, cY, hn9, hmY, hcY, -, hlY, -⟩ := Cond.codeWith_spec h2
  cases Option.some.inj (hn9.symm.trans hn)
  obtain ⟨kY, hkY, -⟩ := className_of_methodNamed hn
  have hinitY : kY.init = .initialized := Cond.initialized_spec (findClass_of_methodNamed hn) hkY h3
  have h : At U g.method c below := by rw [hg]; exact X.here
  have hlocals9 : W9 + (maxL + 11) + (headSpec ws rm).room.locals ≤ R.locals := hlocals
  have happ : (headSpec ws rm).appliesLoose y e.platform (U.calling g mk a) = true :=
    Spec.appliesLoose_calling (g := g) h hdg hn hkY hinitY
      (X.room_calling (g := g) (R' := (headSpec ws rm).room) hsize hmY hcY hframes (by rw [hlY]; omega) h4 h5) h1
  obtain ⟨mid, hmid⟩ := h.above
  have hfr : (U.setTop g).frames = (.java g :: mid) ++ below := by rw [State.frames_setTop' g h.top, hmid]; rfl
  obtain ⟨o, s₂, hsteps, -, hend, hq⟩ := Steps.callFree hM p X.admits X.cas X.clock (acts := []) hfr happ hPc trivial
  have hq' : vx_Q Qc XC mc ms free a (U.calling g mk a) o s₂ := hq
  rw [State.frames_setTop' g h.top] at hend
  obtain ⟨g₀, hg0⟩ := Option.isSome_iff_exists.mp h.top
  obtain ⟨r, hr⟩ := State.topJava?_eq_some.mp hg0
  have hr' : (({ U with heap := s₂.heap, slotsUsed := s₂.slotsUsed } : State).setVm s₂.vm).frames = .java g₀ :: r := hr
  rcases hq' with ⟨hqc, L, hfe, hL⟩ | ⟨q, rfl, E, ce, L, hx, hce, hcv, hcl, hW₂, hsm, hL⟩
  · obtain ⟨⟨v, rfl⟩, hW₂, e2, q2, q3, q4, q5, q6⟩ := id hfe
    have e3 : s₂ = ({ (U.calling g mk a).setFrames s₂.frames with heap := s₂.heap, slotsUsed := s₂.slotsUsed } : State).setVm s₂.vm := by
      have : s₂ = ({ s₂ with vm := (U.calling g mk a).vm } : State).setVm s₂.vm := rfl
      rw [e2] at this
      exact this
    obtain ⟨c₂, i₂, len₂, hc₂, hd₂, hf₂⟩ := hend
    have hW' : U.WarmedH s₂.vm := hW₂
    have hcc : c₂ = c := by
      have h1 : s₂.code? g.method = U.code? g.method := by
        rw [State.code?_eq, State.code?_eq, hW'.alike.method?]
      exact Option.some.inj (hc₂.symm.trans (h1.trans h.code))
    subst hcc
    have hlen : len₂ = len := by rw [hdg] at hd₂; cases hd₂; rfl
    subst hlen
    have hs₂ : s₂ = (({ U with heap := s₂.heap, slotsUsed := s₂.slotsUsed } : State).setVm s₂.vm).setTop { g with pc := g.pc + len₂, stack := v.toList ++ g.stack } := by
      refine e3.trans ?_
      rw [hf₂, State.calling_eq h.top, State.setFrames_setFrames, State.setTop_of_frames _ hr', hr]
      rfl
    have hsame : U.sameButNew ({ U with heap := s₂.heap, slotsUsed := s₂.slotsUsed } : State) L mc ms := by
      refine ⟨?_, q2, q3, q4, q5, q6⟩
      obtain ⟨t, ht, -⟩ := State.frames_cons hr
      show ({ U with heap := s₂.heap, slotsUsed := s₂.slotsUsed } : State) = { U.setFrames U.frames with heap := s₂.heap, slotsUsed := s₂.slotsUsed }
      rw [State.setFrames_self ht]
    subst hg
    refine Or.inl ⟨v, ⟨(({ U with heap := s₂.heap, slotsUsed := s₂.slotsUsed } : State).setVm s₂.vm), Ls ++ L, c0 + mc, s0 + ms⟩,
      ⟨X.admits, X.cas, X.clock, X.frames, X.room, X.hears, X.method, X.code, (X.here.setHeapUsed s₂.heap s₂.slotsUsed).setVm hW'.alike, X.tail, State.WarmedH.trans X.warmed hW', X.limits, X.bytes, X.same.trans (hsame.setVm s.vm)⟩,
      ⟨g, mk, s₂, L, rfl, rfl, hqc, rfl, hL, rfl, rfl⟩, ?_⟩
    show Steps p.tables e below _ ((({ U with heap := s₂.heap, slotsUsed := s₂.slotsUsed } : State).setVm s₂.vm).setTop { g with pc := g.pc + len₂, stack := v.toList ++ g.stack })
    rw [← hs₂]
    exact hsteps
  · obtain ⟨e2, q2, q3, q4, q5, q6⟩ := id hsm
    have e3 : s₂ = ({ (U.calling g mk a).setFrames s₂.frames with heap := s₂.heap, slotsUsed := s₂.slotsUsed } : State).setVm s₂.vm := by
      have : s₂ = ({ s₂ with vm := (U.calling g mk a).vm } : State).setVm s₂.vm := rfl
      rw [e2] at this
      exact this
    have hf₂ : s₂.frames = .throwing q :: .java g :: U.frames.tail := hend
    have hW' : U.WarmedH s₂.vm := hW₂
    have hs₂ : s₂ = ((({ U with heap := s₂.heap, slotsUsed := s₂.slotsUsed } : State).setVm s₂.vm).setTop g).pushFrame (.throwing q) := by
      refine e3.trans ?_
      rw [hf₂, State.calling_eq h.top, State.setFrames_setFrames, State.pushFrame, State.frames_setTop _ hr', State.setTop_of_frames _ hr', State.setFrames_setFrames, hr]
      rfl
    have hsame : U.sameButNew ({ U with heap := s₂.heap, slotsUsed := s₂.slotsUsed } : State) L mc ms := by
      refine ⟨?_, q2, q3, q4, q5, q6⟩
      obtain ⟨t, ht, -⟩ := State.frames_cons hr
      show ({ U with heap := s₂.heap, slotsUsed := s₂.slotsUsed } : State) = { U.setFrames U.frames with heap := s₂.heap, slotsUsed := s₂.slotsUsed }
      rw [State.setFrames_self ht]
    subst hg
    refine Or.inr ⟨q, ⟨(({ U with heap := s₂.heap, slotsUsed := s₂.slotsUsed } : State).setVm s₂.vm), Ls ++ L, c0 + mc, s0 + ms⟩,
      ⟨X.admits, X.cas, X.clock, X.frames, X.room, X.hears, X.method, X.code, (X.here.setHeapUsed s₂.heap s₂.slotsUsed).setVm hW'.alike, X.tail, State.WarmedH.trans X.warmed hW', X.limits, X.bytes, X.same.trans (hsame.setVm s.vm)⟩,
      ⟨g, mk, s₂, L, E, ce, rfl, rfl, hx, hce, hcv, hcl, rfl, hL, rfl, rfl⟩, ?_⟩
    show Steps p.tables e below _ (((({ U with heap := s₂.heap, slotsUsed := s₂.slotsUsed } : State).setVm s₂.vm).setTop g).pushFrame (.throwing q))
    rw [← hs₂]
    exact hsteps
end
variable {p : Program} {l : Launch} {e : Env} {R : Room} {s : State} {m : MethodId} {args : Array Value} {below : List Frame} {meth : Method} {c : Code} {T : State} {H : Heap} {locs : List Loc} {cells slots : Nat}
theorem vx_callVX (X : Stand p l e R s m args below meth c T locs cells slots) (hexec : p.tables.exec = Jvm.exec) {own C : String} {index : Nat} {y : MethodName} {bytes : ByteArray} {maxL : Nat} {ret : Option FieldType} {hh : List (Nat × Nat × Nat × Nat)}
    (hown : s.vm.findClass own = some m.cls) (hlink : (Cond.methodLink own index y).before args s = true) (hinst : (Cond.instanceMethod y).before args s = true) (hsel : (Cond.selects C y y).before args s = true)
    (hcode : (Cond.codeWith y bytes maxL ret hh).before args s = true) (hy : y.cls ≠ "java/lang/invoke/MethodHandle" ∧ y.cls ≠ "java/lang/invoke/VarHandle")
    {W9 : Nat} {Pre : Pt → Array Value → Prop} {Post : Pt → Array Value → Option Value → Pt → Prop} {PostX : Pt → Array Value → Addr → Pt → Prop} (hK : vx_Back l R p e below s args y 3 W9 Pre Post PostX)
    {b : Addr} {cellB : Cell} (hcell : T.heap[b]? = some cellB) (hobj : cellB.vm.isStatics = false) (hcls : s.vm.findClass C = some cellB.cls)
    {g : JFrame} (hg : g.method = m) (hsize : g.locals.size = c.maxLocals) {argsL rest : List Value} (hlen : ∀ sig, parseMethodDescriptor y.desc = some sig → argsL.length = sig.parameters.length)
    (hstack : g.stack = argsL.reverse ++ .ref b :: rest) (hW : 2 * g.monitorRoom + (rest.map fun v => v.category).sum ≤ W9) (hdg : decode c.code g.pc = .ok (.invokevirtual index, 3))
    (hpre : ∀ vm₁, s.WarmedH vm₁ → Pre ⟨T.setVm vm₁, locs, cells, slots⟩ (Value.ref b :: argsL).toArray) :
    (∃ (v : Option Value) (vm₁ : Vm) (B : Pt), s.WarmedH vm₁ ∧ Stand p l e R s m args below meth c B.U B.locs B.cells B.slots ∧ Post ⟨T.setVm vm₁, locs, cells, slots⟩ (Value.ref b :: argsL).toArray v B ∧
      ∀ target, Steps p.tables e below (B.U.setTop { g with pc := g.pc + 3, stack := v.toList ++ rest }) target → Steps p.tables e below (T.setTop g) target) ∨
    (∃ (q : Addr) (vm₁ : Vm) (B : Pt), s.WarmedH vm₁ ∧ Stand p l e R s m args below meth c B.U B.locs B.cells B.slots ∧ PostX ⟨T.setVm vm₁, locs, cells, slots⟩ (Value.ref b :: argsL).toArray q B ∧
      Steps p.tables e below (T.setTop g) ((B.U.setTop { g with stack := rest }).pushFrame (.throwing q))) := by
  obtain ⟨mk, methM, hnamed, hmethM, hstM, habM⟩ := Cond.instanceMethod_spec hinst
  obtain ⟨m8, methM', cM, hn8, hmethM', -, -, -, -, -, -, hsigM⟩ := Cond.codeWith_spec hcode
  cases Option.some.inj (hn8.symm.trans hnamed)
  cases hmethM.symm.trans hmethM'
  obtain ⟨c2, r2, m2, q1, q2, q3, q4, kP, hkP, hkPi⟩ := Cond.selects_spec hsel
  cases hcls.symm.trans q1
  cases (State.methodFound?_of_named hnamed hy).symm.trans q2
  cases hnamed.symm.trans q3
  have hselP : selectMethod e.platform s.vm cellB.cls mk = .method mk := by rw [Launch.admits_selectMethod X.admits]; exact q4
  obtain ⟨vm₁, X₁, hstep₁⟩ := X.invokevirtual hexec hown hlink hnamed hmethM hstM hkP hkPi hy (a := b) (cell := cellB) hcell
    (fun z h => by rw [h] at hobj; cases hobj) hselP hmethM habM hkP hkPi (g := g) hg (argsL := argsL) (rest := rest) (hlen _ hsigM) hstack hdg
  rcases hK m meth c ⟨T.setVm vm₁, locs, cells, slots⟩ { g with stack := rest } (.invokevirtual index) mk (Value.ref b :: argsL).toArray X₁ hg hsize hdg hW (X₁.named hnamed) (hpre vm₁ X₁.warmed) with ⟨v, B, X', hpost, hsteps⟩ | ⟨q, B, X', hpost, hsteps⟩
  · exact Or.inl ⟨v, vm₁, B, X₁.warmed, X', hpost, fun target h => hstep₁ _ fun acts => by rw [doInvoke_state]; exact hsteps.trans h⟩
  · exact Or.inr ⟨q, vm₁, B, X₁.warmed, X', hpost, hstep₁ _ fun acts => by rw [doInvoke_state]; exact hsteps⟩
theorem vx_callSX (X : Stand p l e R s m args below meth c T locs cells slots) (hexec : p.tables.exec = Jvm.exec) {own : String} {index : Nat} {y : MethodName} {bytes : ByteArray} {maxL : Nat} {ret : Option FieldType} {hh : List (Nat × Nat × Nat × Nat)}
    (hown : s.vm.findClass own = some m.cls) (hlink : (Cond.methodLink own index y).before args s = true) (hstat : (Cond.static y).before args s = true) (hinit : (Cond.initialized y.cls).before args s = true)
    (hcode : (Cond.codeWith y bytes maxL ret hh).before args s = true) (hy : y.cls ≠ "java/lang/invoke/MethodHandle" ∧ y.cls ≠ "java/lang/invoke/VarHandle")
    {W9 : Nat} {Pre : Pt → Array Value → Prop} {Post : Pt → Array Value → Option Value → Pt → Prop} {PostX : Pt → Array Value → Addr → Pt → Prop} (hK : vx_Back l R p e below s args y 3 W9 Pre Post PostX)
    {g : JFrame} (hg : g.method = m) (hsize : g.locals.size = c.maxLocals) {argsL rest : List Value} (hlen : ∀ sig, parseMethodDescriptor y.desc = some sig → argsL.length = sig.parameters.length)
    (hstack : g.stack = argsL.reverse ++ rest) (hW : 2 * g.monitorRoom + (rest.map fun v => v.category).sum ≤ W9) (hdg : decode c.code g.pc = .ok (.invokestatic index, 3))
    (hpre : ∀ vm₁, s.WarmedH vm₁ → Pre ⟨T.setVm vm₁, locs, cells, slots⟩ argsL.toArray) :
    (∃ (v : Option Value) (vm₁ : Vm) (B : Pt), s.WarmedH vm₁ ∧ Stand p l e R s m args below meth c B.U B.locs B.cells B.slots ∧ Post ⟨T.setVm vm₁, locs, cells, slots⟩ argsL.toArray v B ∧
      ∀ target, Steps p.tables e below (B.U.setTop { g with pc := g.pc + 3, stack := v.toList ++ rest }) target → Steps p.tables e below (T.setTop g) target) ∨
    (∃ (q : Addr) (vm₁ : Vm) (B : Pt), s.WarmedH vm₁ ∧ Stand p l e R s m args below meth c B.U B.locs B.cells B.slots ∧ PostX ⟨T.setVm vm₁, locs, cells, slots⟩ argsL.toArray q B ∧
      Steps p.tables e below (T.setTop g) ((B.U.setTop { g with stack := rest }).pushFrame (.throwing q))) := by
  obtain ⟨mk, methM, cM, hnamed, hmethM, -, -, -, -, -, -, hsigM⟩ := Cond.codeWith_spec hcode
  have hstatic : methM.isStatic = true := Cond.static_spec hnamed hmethM hstat
  obtain ⟨kP, hkP, -⟩ := className_of_methodNamed hnamed
  have hinitP : kP.init = .initialized := Cond.initialized_spec (findClass_of_methodNamed hnamed) hkP hinit
  obtain ⟨vm₁, X₁, hstep₁⟩ := X.invokestatic hexec hown hlink hnamed hmethM hstatic hkP hinitP hy (g := g) hg (argsL := argsL) (rest := rest) (hlen _ hsigM) hstack hdg
  rcases hK m meth c ⟨T.setVm vm₁, locs, cells, slots⟩ { g with stack := rest } (.invokestatic index) mk argsL.toArray X₁ hg hsize hdg hW (X₁.named hnamed) (hpre vm₁ X₁.warmed) with ⟨v, B, X', hpost, hsteps⟩ | ⟨q, B, X', hpost, hsteps⟩
  · exact Or.inl ⟨v, vm₁, B, X₁.warmed, X', hpost, fun target h => hstep₁ _ fun acts => by rw [doInvoke_state]; exact hsteps.trans h⟩
  · exact Or.inr ⟨q, vm₁, B, X₁.warmed, X', hpost, hstep₁ _ fun acts => by rw [doInvoke_state]; exact hsteps⟩
theorem vx_callVW (X : Stand p l e R s m args below meth c T locs cells slots) (hexec : p.tables.exec = Jvm.exec) {own C : String} {index : Nat} {y : MethodName} {bytes : ByteArray} {maxL : Nat} {ret : Option FieldType} {hh : List (Nat × Nat × Nat × Nat)}
    (hown : s.vm.findClass own = some m.cls) (hlink : (Cond.methodLink own index y).before args s = true) (hinst : (Cond.instanceMethod y).before args s = true) (hsel : (Cond.selects C y y).before args s = true)
    (hcode : (Cond.codeWith y bytes maxL ret hh).before args s = true) (hy : y.cls ≠ "java/lang/invoke/MethodHandle" ∧ y.cls ≠ "java/lang/invoke/VarHandle")
    {W9 : Nat} {Pre : Pt → Array Value → Prop} {Post : Pt → Array Value → Option Value → Pt → Prop} (hK : Back l R p e below s args y 3 W9 Pre Post)
    {b : Addr} {cellB : Cell} (hcell : T.heap[b]? = some cellB) (hobj : cellB.vm.isStatics = false) (hcls : s.vm.findClass C = some cellB.cls)
    {g : JFrame} (hg : g.method = m) (hsize : g.locals.size = c.maxLocals) {argsL rest : List Value} (hlen : ∀ sig, parseMethodDescriptor y.desc = some sig → argsL.length = sig.parameters.length)
    (hstack : g.stack = argsL.reverse ++ .ref b :: rest) (hW : 2 * g.monitorRoom + (rest.map fun v => v.category).sum ≤ W9) (hdg : decode c.code g.pc = .ok (.invokevirtual index, 3))
    (hpre : ∀ vm₁, s.WarmedH vm₁ → Pre ⟨T.setVm vm₁, locs, cells, slots⟩ (Value.ref b :: argsL).toArray) :
    ∃ (v : Option Value) (vm₁ : Vm) (B : Pt), s.WarmedH vm₁ ∧ Stand p l e R s m args below meth c B.U B.locs B.cells B.slots ∧ Post ⟨T.setVm vm₁, locs, cells, slots⟩ (Value.ref b :: argsL).toArray v B ∧
      ∀ target, Steps p.tables e below (B.U.setTop { g with pc := g.pc + 3, stack := v.toList ++ rest }) target → Steps p.tables e below (T.setTop g) target := by
  obtain ⟨mk, methM, hnamed, hmethM, hstM, habM⟩ := Cond.instanceMethod_spec hinst
  obtain ⟨m8, methM', cM, hn8, hmethM', -, -, -, -, -, -, hsigM⟩ := Cond.codeWith_spec hcode
  cases Option.some.inj (hn8.symm.trans hnamed)
  cases hmethM.symm.trans hmethM'
  obtain ⟨c2, r2, m2, q1, q2, q3, q4, kP, hkP, hkPi⟩ := Cond.selects_spec hsel
  cases hcls.symm.trans q1
  cases (State.methodFound?_of_named hnamed hy).symm.trans q2
  cases hnamed.symm.trans q3
  have hselP : selectMethod e.platform s.vm cellB.cls mk = .method mk := by rw [Launch.admits_selectMethod X.admits]; exact q4
  obtain ⟨vm₁, X₁, hstep₁⟩ := X.invokevirtual hexec hown hlink hnamed hmethM hstM hkP hkPi hy (a := b) (cell := cellB) hcell
    (fun z h => by rw [h] at hobj; cases hobj) hselP hmethM habM hkP hkPi (g := g) hg (argsL := argsL) (rest := rest) (hlen _ hsigM) hstack hdg
  obtain ⟨v, B, X', hpost, hsteps⟩ := hK m meth c ⟨T.setVm vm₁, locs, cells, slots⟩ { g with stack := rest } (.invokevirtual index) mk (Value.ref b :: argsL).toArray X₁ hg hsize hdg hW (X₁.named hnamed) (hpre vm₁ X₁.warmed)
  exact ⟨v, vm₁, B, X₁.warmed, X', hpost, fun target h => hstep₁ _ fun acts => by rw [doInvoke_state]; exact hsteps.trans h⟩
abbrev vx_CVW (R : Room) (s : State) (args : Array Value) (own C : String) (index : Nat) (y : MethodName) (bytes : ByteArray) (maxL : Nat) (ret : Option FieldType) (hh : List (Nat × Nat × Nat × Nat)) (ws : List Cond) (rm : Room) (mc ms n : Nat) : Prop :=
  (rm.cells = mc ∧ rm.slots = ms ∧ rm.frames + 1 ≤ R.frames ∧ 8 + (maxL + 11) + rm.locals ≤ R.locals ∧ (∀ w ∈ ws, ∀ (a' : Array Value) (U : State), s.WarmedH U.vm → w.before a' U = true) ∧ Cond.codeWith y bytes maxL ret hh ∈ ws) ∧
  (Cond.codeWith y bytes maxL ret hh).before args s = true ∧ (Cond.initialized y.cls).before args s = true ∧ (y.cls ≠ "java/lang/invoke/MethodHandle" ∧ y.cls ≠ "java/lang/invoke/VarHandle") ∧
  (∀ sig, parseMethodDescriptor y.desc = some sig → n = sig.parameters.length) ∧ (Cond.methodLink own index y).before args s = true ∧ (Cond.instanceMethod y).before args s = true ∧ (Cond.selects C y y).before args s = true
theorem vx_cwVW {own C : String} {index maxL mc ms : Nat} {y : MethodName} {bytes : ByteArray} {ret : Option FieldType} {hh : List (Nat × Nat × Nat × Nat)} {Ts ws ws' : List Cond} {rm : Room} (n : Nat) (ht : ∀ w ∈ Ts, w.before args s = true) (hT : GoodIn Ts (wsV own index C y ws)) (hw : ws = Cond.codeWith y bytes maxL ret hh :: ws') (hrc : rm.cells = mc) (hrs : rm.slots = ms)
    (hd : y.cls = C ∧ y.cls ≠ "java/lang/invoke/MethodHandle" ∧ y.cls ≠ "java/lang/invoke/VarHandle" ∧ (parseMethodDescriptor y.desc).map (fun d => d.parameters.length) = some n) (hR : rm.frames + 1 ≤ R.frames ∧ 8 + (maxL + 11) + rm.locals ≤ R.locals) :
    vx_CVW R s args own C index y bytes maxL ret hh ws rm mc ms n := by
  obtain ⟨hC, hd⟩ := hd
  subst hC
  have ok : ∀ w ∈ wsV own index y.cls y ws, w.before args s = true := fun w h => ht w (hT w h).1
  have hG : GoodIn Ts ws := fun w h => hT w (by unfold wsV; exact List.mem_append_right _ h)
  have hc : Cond.codeWith y bytes maxL ret hh ∈ ws := by rw [hw]; exact List.mem_cons_self
  refine ⟨⟨hrc, hrs, hR.1, hR.2, pay_in ht hG, hc⟩, ht _ (hG _ hc).1, ok _ (by simp [wsV]), ⟨hd.1, hd.2.1⟩, fun sig h => ?_, ok _ (by simp [wsV]), ok _ (by simp [wsV]), ok _ (by simp [wsV])⟩
  have h2 := hd.2.2
  rw [h] at h2
  exact (Option.some.inj h2).symm
theorem vx_runVW {y : MethodName} {bytes cc : ByteArray} {maxL nL mc ms n index : Nat} {ret : Option FieldType} {hh : List (Nat × Nat × Nat × Nat)} {ws : List Cond} {rm : Room} {Pc : Array Value → State → Prop} {Qc : Array Value → State → Outcome → State → Prop} {free : Addr → Prop} {Ts : List Cond} {own C : String} {b : Addr} {As rest : List Value} {g : JFrame}
    (S : CallFix p m c cc nL s args Ts own) (hM : Met l y ws rm Pc Qc mc ms free) (cw : vx_CVW R s args own C index y bytes maxL ret hh ws rm mc ms n) (hp : PreV s H C b Pc As)
    (hg : g.method = m) (hn : As.length = n) (hsize : g.locals.size = nL) (hstack : g.stack = As.reverse ++ .ref b :: rest) (hW : 2 * g.monitorRoom + (rest.map fun v => v.category).sum ≤ 8) (hdg : decode cc g.pc = .ok (.invokevirtual index, 3)) (hf : cells + mc ≤ R.cells ∧ slots + ms ≤ R.slots) :
    va_Run p l e R s m args below meth c H locs cells slots mc ms g rest (Qc (Value.ref b :: As).toArray) free := by
  obtain ⟨⟨hrc, hrs, hfr, hlo, hws, hcw⟩, hcode, hini, hy, hlen, hl, hin, hse⟩ := cw
  have hK : Back l R p e below s args y 3 8 (PreOf R mc ms Pc) (PostOf Qc mc ms free) := va_backW (hh := hh) (bytes := bytes) (maxL := maxL) (ret := ret) hM hp.1 hrc hrs hfr hlo hws hcw (fun a' U hW => word_at hW (Or.inl (by first | rfl | simp [Cond.onTables, Cond.keeps, Cond.steady])) hini)
  obtain ⟨hx, hb, hml, ho, -⟩ := S
  obtain ⟨-, ⟨cellB, hcB, hoB, hclB⟩, hPc⟩ := hp
  intro T hT X
  obtain ⟨v, vm₁, ⟨U', l2, c2, s2⟩, hW₁, X', ⟨g', mk, t, L, e1, e2, hq, h1, hL, h2, h3⟩, st⟩ := vx_callVW X hx (C := C) (hh := hh) (bytes := bytes) (maxL := maxL) (ret := ret) ho hl hin hse hcode hy hK (by rw [hT]; exact hcB) hoB hclB hg (hsize.trans hml.symm) (argsL := As) (rest := rest) (fun sig h => hn.trans (hlen sig h)) hstack hW (by rw [hb]; exact hdg)
    (fun vm₁ hW₁ => ⟨hf.1, hf.2, hPc (T.setVm vm₁) hT hW₁⟩)
  dsimp only [Pt.U, Pt.locs, Pt.cells, Pt.slots] at X' e1 e2 h1 h2 h3 st
  subst h1; subst h2; subst h3
  exact ⟨v, (T.setVm vm₁).calling g' mk (Value.ref b :: As).toArray, t, U', L, hT, X', hL, e1, e2, hq, st⟩
section
variable {y : MethodName} {bytes cc : ByteArray} {maxL nL mc ms n index : Nat} {ret : Option FieldType} {ws : List Cond} {rm : Room} {Pc : Array Value → State → Prop} {Qc : Array Value → State → Outcome → State → Prop} {XC : String → State → State → Prop} {free : Addr → Prop} {Ts : List Cond} {own C : String} {b : Addr} {As rest : List Value} {g : JFrame}
theorem vx_runVX {hh : List (Nat × Nat × Nat × Nat)} (S : CallFix p m c cc nL s args Ts own) (hM : vx_Met l y ws rm Pc Qc XC mc ms free) (cw : vx_CVW R s args own C index y bytes maxL ret hh ws rm mc ms n) (hp : PreV s H C b Pc As)
    (hg : g.method = m) (hn : As.length = n) (hsize : g.locals.size = nL) (hstack : g.stack = As.reverse ++ .ref b :: rest) (hW : 2 * g.monitorRoom + (rest.map fun v => v.category).sum ≤ 8) (hdg : decode cc g.pc = .ok (.invokevirtual index, 3)) (hf : cells + mc ≤ R.cells ∧ slots + ms ≤ R.slots) :
    vx_Run p l e R s m args below meth c H locs cells slots mc ms g rest (Qc (Value.ref b :: As).toArray) XC free := by
  obtain ⟨⟨hrc, hrs, hfr, hlo, hws, hcw⟩, hcode, hini, hy, hlen, hl, hin, hse⟩ := cw
  have hK : vx_Back l R p e below s args y 3 8 (PreOf R mc ms Pc) (PostOf Qc mc ms free) (vx_Post XC mc ms free) := vx_backW (hh := hh) (bytes := bytes) (maxL := maxL) (ret := ret) hM hp.1 hrc hrs hfr hlo hws hcw (fun a' U hW => word_at hW (Or.inl (by first | rfl | simp [Cond.onTables, Cond.keeps, Cond.steady])) hini)
  obtain ⟨hx, hb, hml, ho, -⟩ := S
  obtain ⟨-, ⟨cellB, hcB, hoB, hclB⟩, hPc⟩ := hp
  intro T hT X
  rcases vx_callVX X hx (C := C) (hh := hh) (bytes := bytes) (maxL := maxL) (ret := ret) ho hl hin hse hcode hy hK (by rw [hT]; exact hcB) hoB hclB hg (hsize.trans hml.symm) (argsL := As) (rest := rest) (fun sig h => hn.trans (hlen sig h)) hstack hW (by rw [hb]; exact hdg)
    (fun vm₁ hW₁ => ⟨hf.1, hf.2, hPc (T.setVm vm₁) hT hW₁⟩) with ⟨v, vm₁, ⟨U', l2, c2, s2⟩, hW₁, X', ⟨g', mk, t, L, e1, e2, hq, h1, hL, h2, h3⟩, st⟩ | ⟨q, vm₁, ⟨U', l2, c2, s2⟩, hW₁, X', ⟨g', mk, t, L, E, ce, e1, e2, hq, hce, hcv, hcl, h1, hL, h2, h3⟩, st⟩
  · dsimp only [Pt.U, Pt.locs, Pt.cells, Pt.slots] at X' e1 e2 h1 h2 h3 st
    subst h1; subst h2; subst h3
    exact Or.inl ⟨v, (T.setVm vm₁).calling g' mk (Value.ref b :: As).toArray, t, U', L, hT, X', hL, e1, e2, hq, st⟩
  · dsimp only [Pt.U, Pt.locs, Pt.cells, Pt.slots] at X' e1 e2 h1 h2 h3 st hcl
    subst h1; subst h2; subst h3
    exact Or.inr ⟨q, (T.setVm vm₁).calling g' mk (Value.ref b :: As).toArray, t, U', L, E, ce, hT, X', hL, e1, e2, hq, hce, hcv, vx_cls hW₁ hcl, st⟩
theorem vx_runSX {hh : List (Nat × Nat × Nat × Nat)} (S : CallFix p m c cc nL s args Ts own) (hM : vx_Met l y ws rm Pc Qc XC mc ms free) (cw : vx_CSW R s args own index y bytes maxL ret hh ws rm mc ms n) (hp : PreS s H Pc As)
    (hg : g.method = m) (hn : As.length = n) (hsize : g.locals.size = nL) (hstack : g.stack = As.reverse ++ rest) (hW : 2 * g.monitorRoom + (rest.map fun v => v.category).sum ≤ 8) (hdg : decode cc g.pc = .ok (.invokestatic index, 3)) (hf : cells + mc ≤ R.cells ∧ slots + ms ≤ R.slots) :
    vx_Run p l e R s m args below meth c H locs cells slots mc ms g rest (Qc As.toArray) XC free := by
  obtain ⟨⟨hrc, hrs, hfr, hlo, hws, hcw⟩, hcode, hini, hy, hlen, hl, hstt⟩ := cw
  have hK : vx_Back l R p e below s args y 3 8 (PreOf R mc ms Pc) (PostOf Qc mc ms free) (vx_Post XC mc ms free) := vx_backW (hh := hh) (bytes := bytes) (maxL := maxL) (ret := ret) hM hp.1 hrc hrs hfr hlo hws hcw (fun a' U hW => word_at hW (Or.inl (by first | rfl | simp [Cond.onTables, Cond.keeps, Cond.steady])) hini)
  obtain ⟨hx, hb, hml, ho, -⟩ := S
  intro T hT X
  rcases vx_callSX X hx (hh := hh) (bytes := bytes) (maxL := maxL) (ret := ret) ho hl hstt hini hcode hy hK hg (hsize.trans hml.symm) (argsL := As) (rest := rest) (fun sig h => hn.trans (hlen sig h)) hstack hW (by rw [hb]; exact hdg)
    (fun vm₁ hW₁ => ⟨hf.1, hf.2, hp.2 (T.setVm vm₁) hT hW₁⟩) with ⟨v, vm₁, ⟨U', l2, c2, s2⟩, hW₁, X', ⟨g', mk, t, L, e1, e2, hq, h1, hL, h2, h3⟩, st⟩ | ⟨q, vm₁, ⟨U', l2, c2, s2⟩, hW₁, X', ⟨g', mk, t, L, E, ce, e1, e2, hq, hce, hcv, hcl, h1, hL, h2, h3⟩, st⟩
  · dsimp only [Pt.U, Pt.locs, Pt.cells, Pt.slots] at X' e1 e2 h1 h2 h3 st
    subst h1; subst h2; subst h3
    exact Or.inl ⟨v, (T.setVm vm₁).calling g' mk As.toArray, t, U', L, hT, X', hL, e1, e2, hq, st⟩
  · dsimp only [Pt.U, Pt.locs, Pt.cells, Pt.slots] at X' e1 e2 h1 h2 h3 st hcl
    subst h1; subst h2; subst h3
    exact Or.inr ⟨q, (T.setVm vm₁).calling g' mk As.toArray, t, U', L, E, ce, hT, X', hL, e1, e2, hq, hce, hcv, vx_cls hW₁ hcl, st⟩
end
end VXH
theorem vx_ofWH {l : Launch} {y : MethodName} {ws ws' : List Cond} {rm : Room} {Pc : Array Value → State → Prop} {Qc : Array Value → State → Outcome → State → Prop} {XC : String → State → State → Prop} {mc ms : Nat} {free : Addr → Prop} {cc : ByteArray} {maxL : Nat} {ret : Option FieldType} {hh : List (Nat × Nat × Nat × Nat)}
    (hy : plainName y.cls = true) (hw : ws = Cond.codeWith y cc maxL ret hh :: ws')
    (body : ∀ p e s m args below meth c s₁, BodyLoose p l y (headSpec ws rm) cc maxL ret e s m args below meth c s₁ → c.maxLocals = maxL → Pc args s →
      W p l e (headSpec ws rm).room s m args below meth c s.heap [] 0 0 (vx_MQ below Qc XC args s mc ms free) (entryFrame m args maxL)) : vx_Met l y ws rm Pc Qc XC mc ms free := by
  refine MetFree.of_bodyS (code := cc) (maxLocals := maxL) (ret := ret) hy ?_ ?_
  · intro args s m h hn
    obtain ⟨m9, meth, c, hn9, h1, h2, h3, h4, -, h5, h6, -⟩ := Cond.codeWith_spec (atoms_spec (ws := ws) h _ (by rw [hw]; exact List.mem_cons_self))
    cases hn.symm.trans hn9
    exact ⟨meth, c, h1, h2, h3, h4, h5, h6⟩
  · intro p e s m args below meth c s₁ B hml hP _
    have hh0 : s₁.heap = s.heap := by rw [B.state]; rfl
    obtain ⟨t, a1, o, b1, b2, b3⟩ := body p e s m args below meth c s₁ B hml hP s₁ hh0 (Stand.of_body B)
    exact ⟨t, o, a1, b1, b2, b3⟩
/-! ===== END ===== -/
end
section
/-! 'throw new E("text")' where E's own constructor passes the text on by another entry of its pool than the library's law has it (NoSuchElementException: 13, not 7). The proof goes as that of JvmDerived/BundleOwnThrow.lean (ctorThrowS), with its first link free, and with nothing written before. -/
section XgThrow
def xg_tail (own : String) (ic : Nat) (X : String) : List Cond :=
  [.methodLink own ic (Bundle.initS X), .instantiable X 6, .castable X X, .selects X Bundle.tFill0 Bundle.tFill0, .selects X Bundle.tFill Bundle.tFill, .lays X Bundle.tN "cause" "Ljava/lang/Throwable;", .lays X Bundle.tN "stackTrace" Bundle.steD, .lays X Bundle.tN "suppressedExceptions" Bundle.listD, .lays X Bundle.tN "detailMessage" "Ljava/lang/String;",
   .fieldLink Bundle.tN 198 Bundle.tN "backtrace" "Ljava/lang/Object;", .lays Bundle.tN Bundle.tN "backtrace" "Ljava/lang/Object;", .lays X Bundle.tN "backtrace" "Ljava/lang/Object;"]
def xg_atoms (own : String) (ic : Nat) (X Y : String) (ip : Nat) (bytes : ByteArray) (names : List String) : List Cond :=
  (Bundle.throwableAtoms ++ Bundle.throwableSAtoms ++ Bundle.passSAtoms X Y ip bytes ++ Bundle.chainSAtoms Y names ++ xg_tail own ic X).filter vx_no
variable {p : Program} {l : Launch} {e : Env} {R : Room} {s : State} {m : MethodId} {args : Array Value} {below : List Frame} {meth : Method} {c : Code} {cells slots : Nat}
set_option maxHeartbeats 4000000 in
theorem xg_ctor {V : State} (X : Stand p l e R s m args below meth c V [] cells slots) (hexec : p.tables.exec = Jvm.exec) (htr : e.platform.stackTraces = false) {own cls Y : String} {names : List String} {ic ip : Nat} {bytes : ByteArray}
    (hown : s.vm.findClass own = some m.cls) (hcls : Bundle.fit cls = true) (hY : Bundle.fit Y = true) (hnames : ∀ n ∈ names, Bundle.fit n = true)
    (b0 : decode bytes 0 = .ok (.aload_n 0, 1)) (b1 : decode bytes 1 = .ok (.aload_n 1, 1)) (b2 : decode bytes 2 = .ok (.invokespecial ip, 3)) (b5 : decode bytes 5 = .ok (.return_, 1))
    (hT : ∀ q ∈ Bundle.throwableAtoms, q.before args s = true) (hTS : ∀ q ∈ Bundle.throwableSAtoms, q.before args s = true) (hPa : ∀ q ∈ Bundle.passSAtoms cls Y ip bytes, q.before args s = true) (hCh : ∀ q ∈ Bundle.chainSAtoms Y names, q.before args s = true) (hTl : ∀ q ∈ xg_tail own ic cls, q.before args s = true)
    (hUn : (Cond.isRef (.static Bundle.tN "UNASSIGNED_STACK" Bundle.steD)).before args s = true) (hSe : (Cond.isRef (.static Bundle.tN "SUPPRESSED_SENTINEL" Bundle.listD)).before args s = true)
    {a : Addr} {cX : ClassId} {kX : Class} (hfoundX : s.vm.findClass cls = some cX) (hkX : s.vm.classes[cX]? = some kX) (hcell : V.heap[a]? = some (freshCell cX kX)) (hnew : s.heap.size ≤ a) {msg : Value} (hmsg : msg.isRef = true)
    {g : JFrame} (hg : g.method = m) (hsize : g.locals.size = c.maxLocals) (hlocked : g.locked = none) (hentered : g.entered = []) {rest : List Value} (hstack : g.stack = msg :: .ref a :: .ref a :: rest)
    (hd6 : decode c.code g.pc = .ok (.invokespecial ic, 3)) (hd9 : decode c.code (g.pc + 3) = .ok (.athrow, 1)) (hout : ∀ x ∈ c.exceptionTable.toList, covers x (g.pc + 3) = false)
    (hRf : names.length + 4 < R.frames) (hRl : 2 * g.monitorRoom + ((Value.ref a :: rest).map fun v => v.category).sum + (13 * (names.length + 2) + 42) ≤ R.locals) (hlocks : meth.locks = false) :
    ∃ U : State, Steps p.tables e below (V.setTop g) U ∧ U.status = .running ∧ Ended U below (.threw a) ∧ s.WarmedH U.vm ∧ s.sameButNew ({ U with vm := s.vm } : State) [] cells slots ∧ ∃ ce : Cell, U.heap[a]? = some ce ∧ ce.vm = .none ∧ s.vm.findClass cls = some ce.cls := by
  have howns : e.platform.frameOwnsMonitors = true := by rw [X.admits.platform]
  have hfin : e.platform.finalization = false := by rw [X.admits.platform]
  have hpl : e.platform.magicAccessors = ({} : Platform).magicAccessors := by rw [X.admits.platform]
  have tl : ∀ q, q ∈ xg_tail own ic cls → q.holds args s none s [] = true := fun q hq => hTl q hq
  obtain ⟨T, Z0, L, -, K⟩ := ThrowableC.of_atoms (args := args) howns hfin hpl hT
  obtain ⟨Z, M, LZ, LM, hnZ⟩ := Init0T.ofS_atoms (args := args) hpl L K hTS
  obtain ⟨P2, Ps, hlen, L2, hL, hP2m, hlink2, hlink⟩ := Bundle.chainS (args := args) hpl hnZ names Y hY hnames hCh
  obtain ⟨P1, L1, hP1m, hP1s⟩ := PassC.ofS_atoms (args := args) hpl (X := cls) (Y := Y) (index := ip) (bytes := bytes) (Bundle.fit_spec hcls).1 (Bundle.fit_spec hY).2 b0 b1 b2 b5 hPa
  have hsup : P1.sup = P2.m := Option.some.inj (hP1s.symm.trans hP2m)
  have hfound : s.vm.findClass cls = some P1.m.cls := findClass_of_methodNamed hP1m
  cases Option.some.inj (hfoundX.symm.trans hfound)
  obtain ⟨c1, kX', hc1, hk, hord, -, -, hn6⟩ := Cond.instantiable_spec (tl (.instantiable cls 6) (by simp [xg_tail]))
  cases Option.some.inj (hc1.symm.trans hfound)
  cases Option.some.inj (hkX.symm.trans hk)
  have hsel0 : selectMethod e.platform s.vm P1.m.cls T.fill0 = .method T.fill0 := by
    obtain ⟨c2, r2, m2, q1, q2, q3, q4, -⟩ := Cond.selects_spec (tl (.selects cls Bundle.tFill0 Bundle.tFill0) (by simp [xg_tail]))
    cases Option.some.inj (q1.symm.trans hfound)
    cases Option.some.inj (q2.symm.trans (State.methodFound?_of_named K.fill0 (by decide)))
    cases Option.some.inj (q3.symm.trans K.fill0)
    rw [Launch.admits_selectMethod X.admits]; exact q4
  have hselF : selectMethod e.platform s.vm P1.m.cls T.fill = .method T.fill := by
    obtain ⟨c2, r2, m2, q1, q2, q3, q4, -⟩ := Cond.selects_spec (tl (.selects cls Bundle.tFill Bundle.tFill) (by simp [xg_tail]))
    cases Option.some.inj (q1.symm.trans hfound)
    cases Option.some.inj (q2.symm.trans (State.methodFound?_of_named K.fill (by decide)))
    cases Option.some.inj (q3.symm.trans K.fill)
    rw [Launch.admits_selectMethod X.admits]; exact q4
  obtain ⟨cellS0, hcS0, hiss⟩ := K.statics
  obtain ⟨u0, hu0⟩ := Cond.staticRefV K.unassigned L.unassignedStatic L.statics hcS0 hiss hUn
  obtain ⟨sen, hsen⟩ := Cond.staticRefV K.sentinel L.sentinelStatic L.statics hcS0 hiss hSe
  obtain ⟨ci198, i198, fB, hk198, hg198, ha198, hsB, -, hnB, htB, hffB⟩ := Cond.ownField (t := .object "java/lang/Object") K.found L.cls (by decide +kernel) (tl (.fieldLink Bundle.tN 198 Bundle.tN "backtrace" "Ljava/lang/Object;") (by simp [xg_tail])) (tl (.lays Bundle.tN Bundle.tN "backtrace" "Ljava/lang/Object;") (by simp [xg_tail])) e.platform hpl
  obtain ⟨cellS, hcS', heS, -, hkeep⟩ := X.same.2.2.2.2.2 T.aS cellS0 hcS0
  have hcellS : V.heap[T.aS]? = some cellS := hcS'
  have hknownS : cellS.vm ≠ .unknown := by
    rw [heS]; intro hu
    rw [show cellS0.vm = .unknown from hu] at hiss
    cases hiss
  have hneS : T.aS ≠ a := Nat.ne_of_lt (Nat.lt_of_lt_of_le (Array.getElem?_eq_some_iff.mp hcS0).1 hnew)
  obtain ⟨iM, hffM⟩ := K.msg
  obtain ⟨tyC, dC, hdC, hdnC⟩ := Cond.laysAt hfound hk K.cause (tl (.lays cls Bundle.tN "cause" "Ljava/lang/Throwable;") (by simp [xg_tail]))
  obtain ⟨tyS, dS, hdS, hdnS⟩ := Cond.laysAt hfound hk K.stack (tl (.lays cls Bundle.tN "stackTrace" Bundle.steD) (by simp [xg_tail]))
  obtain ⟨tyP, dP, hdP, hdnP⟩ := Cond.laysAt hfound hk K.supp (tl (.lays cls Bundle.tN "suppressedExceptions" Bundle.listD) (by simp [xg_tail]))
  obtain ⟨tyM, dM, hdM, hdnM⟩ := Cond.laysAt hfound hk hffM (tl (.lays cls Bundle.tN "detailMessage" "Ljava/lang/String;") (by simp [xg_tail]))
  obtain ⟨tyB, dB, hdB, hdnB⟩ := Cond.laysAt hfound hk hffB (tl (.lays cls Bundle.tN "backtrace" "Ljava/lang/Object;") (by simp [xg_tail]))
  have bC := Cond.laysApart hdB hdC hdnB hdnC (by rw [hnB, K.causeName]; decide)
  have bS := Cond.laysApart hdB hdS hdnB hdnS (by rw [hnB, K.stackName]; decide)
  have bP := Cond.laysApart hdB hdP hdnB hdnP (by rw [hnB, K.suppName]; decide)
  have hskip : SkipFacts T e.platform s (fun u => u) u0 ((preparedCellV T.toThrowableT (freshCell P1.m.cls kX) a u0 sen).withEntry V.cur) :=
    ⟨{ ci198 := ci198, i198 := i198, fBack := fB }, ⟨hk198, hg198, ha198, hsB⟩, by
      have h9 := fresh_default (c := P1.m.cls) tyB
      rw [htB] at h9
      simpa [preparedCellV, Cell.setSlot, Cell.withEntry, Array.getElem?_setIfInBounds, bC, bS, bP, bC.symm, bS.symm, bP.symm, defaultValue] using h9, fun _ _ => rfl⟩
  obtain ⟨tm, methC, cdC, kC, vm₁, hnC, -, -, -, -, -, -, -, hW₁, st1⟩ := Steps.initColdS (tb := p.tables) (e := e) (below := below) (s := s) (U := V) X.here hexec X.warmed hpl hown (t := Bundle.initS cls) rfl rfl (Bundle.fit_spec hcls).2
    (tl (.methodLink own ic (Bundle.initS cls)) (by simp [xg_tail])) (hPa (.instanceMethod (Bundle.initS cls)) (by simp [Bundle.passSAtoms])) (bytes := bytes) (maxL := 2) (hPa (.code (Bundle.initS cls) bytes 2 none) (by simp [Bundle.passSAtoms]))
    (f := g) hg (a := a) (msg := msg) (rest := .ref a :: rest) hstack hd6
  cases Option.some.inj (hnC.symm.trans hP1m)
  have X₁ := X.noted hW₁
  obtain ⟨vm₂, X₂, st2⟩ := X₁.ctorMessageOffV hexec (g := { g with stack := .ref a :: rest }) hg hsize T L Z LZ M LM (P1 :: P2 :: Ps)
    (fun P hP => by
      rcases List.mem_cons.mp hP with rfl | hP
      · exact L1
      · rcases List.mem_cons.mp hP with rfl | hP
        · exact L2
        · exact hL P hP) ⟨hsup, hlink2, hlink⟩ (u0 := u0) (sen := sen) (self := a) hmsg (cell := freshCell P1.m.cls kX) (cellS := cellS)
    hcell (fun _ => by simp) (by simp) rfl rfl hsel0 hselF hcellS hneS hknownS (by rw [hkeep _ (by simp)]; exact hu0) (by rw [hkeep _ (by simp)]; exact hsen)
    (Takes.of_laid hk hord tyC (by rw [K.causeType]; rfl)) (Takes.of_laid hk hord tyS (by rw [K.stackType]; exact fits_refV_array _ u0)) (Takes.of_laid hk hord tyP (by rw [K.suppType]; exact fits_refV_object _ sen))
    (Takes.of_laid hk hord tyM (by rw [K.msgType]; exact fits_refV_object _ ⟨msg, hmsg⟩)) K.objLocals hskip htr [] hd6
    (by simp only [List.length_cons, hlen]; omega) (by simp only [List.length_cons, hlen]; exact hRl)
  obtain ⟨hwalk, hrun, hended, hWU, hsame⟩ := X₂.athrowLeaves hexec (g := { g with stack := .ref a :: rest, pc := g.pc + 3 }) hg hlocked hentered hout (a := a) (rest := rest) rfl hd9 hlocks
  have hlt : a < ((V.setVm vm₁).setVm vm₂).heap.size := (Array.getElem?_eq_some_iff.mp hcell).1
  have hU := heapAt_setCell_self (s := (V.setVm vm₁).setVm vm₂) (plainBareV T.toThrowableT (freshCell P1.m.cls kX) a u0 sen msg) hlt
  refine ⟨_, st1 _ (fun acts => ?_), hrun, hended, hWU, hsame.weaken (fun y hy hlt' => ?_) (Nat.le_refl _) (Nat.le_refl _), _, hU, rfl, hfound⟩
  · rw [doInvoke_state]
    exact st2 _ hwalk
  · exfalso
    have hb : y.base = a := by
      simp only [List.nil_append, List.mem_cons, List.not_mem_nil, or_false] at hy
      rcases hy with rfl | rfl | rfl | rfl | rfl <;> rfl
    rw [hb] at hlt'
    exact Nat.not_lt.mpr hnew hlt'
/-- the words of such a throw, before the four that speak of the heap are taken away -/
def xg_all (own : String) (ic : Nat) (X Y : String) (ip : Nat) (bytes : ByteArray) (names : List String) : List Cond := Bundle.throwableAtoms ++ Bundle.throwableSAtoms ++ Bundle.passSAtoms X Y ip bytes ++ Bundle.chainSAtoms Y names ++ xg_tail own ic X
set_option maxHeartbeats 4000000 in
theorem xg_throwS {cc : ByteArray} {pc : Nat} {H : Heap} {locs : List Loc} {ls : Array Slot} (hexec : p.tables.exec = Jvm.exec) (hb : c.code = cc) (hl : l.stackTraces = false) {own cls Y text : String} {names : List String} {ik is ic ip sa : Nat} {bytes : ByteArray} {A : Nat → Prop}
    (hown : s.vm.findClass own = some m.cls) (hcls : Bundle.fit cls = true) (hY : Bundle.fit Y = true) (hnames : ∀ n ∈ names, Bundle.fit n = true)
    (b0 : decode bytes 0 = .ok (.aload_n 0, 1)) (b1 : decode bytes 1 = .ok (.aload_n 1, 1)) (b2 : decode bytes 2 = .ok (.invokespecial ip, 3)) (b5 : decode bytes 5 = .ok (.return_, 1))
    (hk : (Cond.classLink own ik cls).before args s = true) (hini : (Cond.initialized cls).before args s = true) (hstr : vk_R own is text sa s) (hat : ∀ w ∈ xg_atoms own ic cls Y ip bytes names, w.before args s = true)
    (hgood : ∀ w ∈ Cond.classLink own ik cls :: Cond.initialized cls :: xg_atoms own ic cls Y ip bytes names, vx_ot w = true)
    (hU : vx_Zq Bundle.tN "UNASSIGNED_STACK" Bundle.steD A s s.heap) (hN : vx_Zq Bundle.tN "SUPPRESSED_SENTINEL" Bundle.listD A s s.heap) (hS : va_S A s.heap H locs) (hsize : ls.size = c.maxLocals)
    (d0 : decode cc pc = .ok (.new ik, 3)) (d3 : decode cc (pc + 3) = .ok (.dup, 1)) (d4 : decode cc (pc + 4) = .ok (.ldc is, 2)) (d6 : decode cc (pc + 6) = .ok (.invokespecial ic, 3)) (d9 : decode cc (pc + 9) = .ok (.athrow, 1))
    (hout : ∀ x ∈ c.exceptionTable.toList, covers x (pc + 9) = false) (hRf : names.length + 4 < R.frames) (hRl : 13 * (names.length + 2) + 43 ≤ R.locals) (hRcells : cells + 1 ≤ R.cells) (hRslots : slots + 6 ≤ R.slots) (hlocks : meth.locks = false) :
    W p l e R s m args below meth c H locs cells slots (fun U => ∃ (a : Nat) (ce : Cell), U.status = .running ∧ Ended U below (.threw a) ∧ s.WarmedH U.vm ∧ s.sameButNew ({ U with vm := s.vm } : State) locs (cells + 1) (slots + 6) ∧ H.size ≤ U.heap.size ∧ (∀ q : Nat, q < H.size → U.heap[q]? = H[q]?) ∧ U.heap[a]? = some ce ∧ ce.vm = .none ∧ s.vm.findClass cls = some ce.cls) (F0 m pc ls []) := by
  intro T hT X
  have htr : e.platform.stackTraces = false := (show e.platform.stackTraces = l.stackTraces by rw [X.admits.platform]).trans hl
  have Z := vx_rebase X (R' := { frames := R.frames, locals := R.locals, cells := 1, slots := 6 }) (Nat.le_refl _) (Nat.le_refl _) hRcells hRslots
  generalize hA : (T.setVm s.vm).setFrames (.invoking m args :: below) = s' at Z
  have hvm : s'.vm = s.vm := by rw [← hA]; rfl
  have hhp : s'.heap = H := by rw [← hA]; exact hT
  have hW0 : s.WarmedH s'.vm := by rw [hvm]; exact State.WarmedH.refl s
  have at1 : ∀ w ∈ xg_atoms own ic cls Y ip bytes names, w.before args s' = true := fun w hw => vx_ot_at hW0 hvm.symm (hgood w (List.mem_cons_of_mem _ (List.mem_cons_of_mem _ hw))) (hat w hw)
  have hk' : (Cond.classLink own ik cls).before args s' = true := vx_ot_at hW0 hvm.symm (hgood _ List.mem_cons_self) hk
  have hini' : (Cond.initialized cls).before args s' = true := vx_ot_at hW0 hvm.symm (hgood _ (List.mem_cons_of_mem _ List.mem_cons_self)) hini
  have hU' : vx_Zq Bundle.tN "UNASSIGNED_STACK" Bundle.steD A s' s'.heap := by rw [hhp]; exact vx_Zq.moved hW0.alike (hU.kept hS.2.1)
  have hN' : vx_Zq Bundle.tN "SUPPRESSED_SENTINEL" Bundle.listD A s' s'.heap := by rw [hhp]; exact vx_Zq.moved hW0.alike (hN.kept hS.2.1)
  have full : ∀ w ∈ xg_all own ic cls Y ip bytes names, w.before args s' = true := vx_own at1 (vx_isRefq hU'.1) (vx_isRefq hN'.1) hU'.2.word hN'.2.word
  have hown' : s'.vm.findClass own = some m.cls := by rw [hvm]; exact hown
  have hstr' : vk_R own is text sa s' := vk_R.warm hW0 hstr
  have hins : (Cond.instantiable cls 6).before args s' = true := full _ (by simp [xg_all, xg_tail])
  have key : W p l e { frames := R.frames, locals := R.locals, cells := 1, slots := 6 } s' m args below meth c T.heap [] 0 0
      (fun U => U.status = .running ∧ Ended U below (.threw T.heap.size) ∧ s'.WarmedH U.vm ∧ s'.sameButNew ({ U with vm := s'.vm } : State) [] 1 6 ∧ ∃ ce : Cell, U.heap[T.heap.size]? = some ce ∧ ce.vm = .none ∧ s'.vm.findClass cls = some ce.cls) (F0 m pc ls []) := by
    refine W.newc hexec hb hown' hk' hins hini' (g := F0 m pc ls []) rfl d0 (Nat.le_refl _) (Nat.le_refl _) (fun cX kX hfX hkX hkd hsz => ?_)
    refine lv_dup hexec hb d3 rfl ?_
    refine va_ldcS hexec hb hown' hstr' d4 ?_
    intro T2 hT2 X2
    obtain ⟨U, st1, u1, u2, u3, u4, ce, u5, u6, u7⟩ := xg_ctor X2 hexec htr hown' hcls hY hnames b0 b1 b2 b5 (fun q hq => full q (by simp [xg_all, hq])) (fun q hq => full q (by simp [xg_all, hq])) (fun q hq => full q (by simp [xg_all, hq])) (fun q hq => full q (by simp [xg_all, hq])) (fun q hq => full q (by simp [xg_all, hq]))
      (vx_isRefq hU'.1) (vx_isRefq hN'.1) (ic := ic) (a := T.heap.size) hfX hkX (by rw [hT2]; simp [freshCell]) (by rw [hhp, hT]; exact Nat.le_refl _) (msg := .ref sa) rfl
      (g := F0 m (pc + 3 + 1 + 2) ls [.ref sa, .ref T.heap.size, .ref T.heap.size]) rfl hsize rfl rfl rfl (by rw [hb]; exact d6) (by rw [hb]; exact d9) hout
      (by show names.length + 4 < R.frames; exact hRf) (by show 2 * 0 + (1 + 0) + _ ≤ R.locals; omega) hlocks
    exact ⟨U, st1, u1, u2, u3, u4, ce, u5, u6, u7⟩
  obtain ⟨U, st1, u1, u2, u3, u4, ce, u5, u6, u7⟩ := key T rfl Z
  obtain ⟨f1, f2⟩ := vx_frame u4
  rw [hhp] at f1 f2
  have hall : s.sameButNew ({ U with vm := s.vm } : State) locs (cells + 1) (slots + 6) := by
    subst hA
    obtain ⟨e1, e2⟩ := u4
    rw [State.setFrames_setFrames] at e1
    have h2 : (T.setVm s.vm).sameButNew ({ U with vm := s.vm } : State) [] 1 6 := ⟨e1, e2⟩
    have h3 := X.same.trans h2
    rw [List.append_nil] at h3
    exact h3
  refine ⟨U, st1, T.heap.size, ce, u1, u2, State.WarmedH.trans hW0 u3, hall, f1, fun q hq => f2 q hq (fun z hz => nomatch hz), u5, u6, ?_⟩
  rw [← hvm]
  exact u7
end XgThrow
end
section
/-! Contracts that return or throw, and a call by such a contract. -/
section XkCalls
/-- what a method leaves, whichever way it ends: the tables are warmer; nothing has moved but the frames, the slots L, and at most k new cells of n slots -/
def xk_End (first t : State) (L : List Loc) (k n : Nat) : Prop := first.WarmedH t.vm ∧ first.sameButNew ({ t with vm := first.vm } : State) L k n
/-- a contract that may end either way -/
def xk_Kn (l : Launch) (y : MethodName) (ws : List Cond) (rm : Room) (Pc : Array Value → State → Prop) (Qc : Array Value → State → Outcome → State → Prop) (mc ms : Nat) (free : Addr → Prop) : Prop :=
  MetFree l y (headSpec ws rm) Pc (fun _ _ _ _ _ => True) (fun a st o t => Qc a st o t ∧ ∃ L, xk_End st t L mc ms ∧ ∀ q ∈ L, free q.base)
/-- the goal of a walk of such a method -/
def xk_MQ (below : List Frame) (Qc : Array Value → State → Outcome → State → Prop) (a : Array Value) (s : State) (mc ms : Nat) (free : Addr → Prop) : State → Prop := fun t =>
  ∃ o, t.status = .running ∧ Ended t below o ∧ Qc a s o t ∧ ∃ L, xk_End s t L mc ms ∧ ∀ q ∈ L, free q.base
/-- where the caller stands behind a call -/
def xk_after (B : State) (g : JFrame) (len : Nat) (o : Outcome) : State := match o with
  | .returned v => B.setTop { g with pc := g.pc + len, stack := v.toList ++ g.stack }
  | .threw x => (B.setTop g).pushFrame (.throwing x)
variable {l : Launch} {R : Room} {p : Program} {e : Env} {below : List Frame} {s : State} {sargs : Array Value}
theorem xk_Kn.ofW {y : MethodName} {ws : List Cond} {rm : Room} {Pc : Array Value → State → Prop} {Qc : Array Value → State → Outcome → State → Prop} {mc ms : Nat} {free : Addr → Prop} {cc : ByteArray} {maxL : Nat} {ret : Option FieldType}
    (hy : plainName y.cls = true)
    (his : ∀ (args : Array Value) (s : State) (m : MethodId), (∀ w ∈ ws, w.before args s = true) → s.methodNamed? y = some m → ∃ meth c, s.vm.method? m = some meth ∧ meth.code = some c ∧ c.code = cc ∧ c.maxLocals = maxL ∧ meth.sig.returnType = ret ∧ meth.locks = false)
    (body : ∀ p e s m args below meth c s₁, BodyLoose p l y (headSpec ws rm) cc maxL ret e s m args below meth c s₁ → c.maxLocals = maxL → Pc args s →
      W p l e (headSpec ws rm).room s m args below meth c s.heap [] 0 0 (xk_MQ below Qc args s mc ms free) (entryFrame m args maxL)) : xk_Kn l y ws rm Pc Qc mc ms free := by
  refine MetFree.of_bodyS (code := cc) (maxLocals := maxL) (ret := ret) hy ?_ ?_
  · intro args s m h hn
    exact his args s m (fun w hw => atoms_spec (ws := ws) h w hw) hn
  · intro p e s m args below meth c s₁ B hml hP _
    have hh0 : s₁.heap = s.heap := by rw [B.state]; rfl
    obtain ⟨t, a1, o, b1, b2, b3, b4⟩ := body p e s m args below meth c s₁ B hml hP s₁ hh0 (Stand.of_body B)
    exact ⟨t, o, a1, b1, b2, b3, b4⟩
/-- a goal may be weakened -/
theorem xk_Wmono {m : MethodId} {args : Array Value} {meth : Method} {c : Code} {H : Heap} {locs : List Loc} {cells slots : Nat} {Q Q' : State → Prop} {g : JFrame} (h : ∀ t, Q t → Q' t)
    (k : W p l e R s m args below meth c H locs cells slots Q g) : W p l e R s m args below meth c H locs cells slots Q' g := fun T hT X => by
  obtain ⟨t, a, b⟩ := k T hT X
  exact ⟨t, a, h t b⟩
theorem xk_MQ.of {Qc : Array Value → State → Outcome → State → Prop} {a : Array Value} {mc ms : Nat} {free : Addr → Prop} {t : State} (h : MQ below Qc a s mc ms free t) : xk_MQ below Qc a s mc ms free t := by
  obtain ⟨o, h1, h2, h3, L, ⟨-, h4, h5⟩, h6⟩ := h
  exact ⟨o, h1, h2, h3, L, ⟨h4, h5⟩, h6⟩
set_option maxHeartbeats 2000000 in
/-- **a call by a contract**, behind the invoking instruction's own step, whichever way the callee ends -/
theorem xk_call {m : MethodId} {meth : Method} {c : Code} {U : State} {locs : List Loc} {cells slots : Nat} (X : Stand p l e R s m sargs below meth c U locs cells slots)
    {y : MethodName} {ws : List Cond} {rm : Room} {Pc : Array Value → State → Prop} {Qc : Array Value → State → Outcome → State → Prop} {mc ms : Nat} {free : Addr → Prop} (hM : xk_Kn l y ws rm Pc Qc mc ms free)
    {g : JFrame} (hg : g.method = m) (hsize : g.locals.size = c.maxLocals) {ig : Instr} {len : Nat} (hdg : decode c.code g.pc = .ok (ig, len)) (hW : 2 * g.monitorRoom + (g.stack.map fun v => v.category).sum ≤ 8)
    {mk : MethodId} (hn : U.methodNamed? y = some mk) {methY : Method} {cY : Code} {maxL : Nat} (hmY : U.vm.method? mk = some methY) (hcY : methY.code = some cY) (hlY : cY.maxLocals = maxL)
    (hws : ∀ (a' : Array Value), ∀ w ∈ ws, w.before a' U = true) (hini : ∀ a' : Array Value, (Cond.initialized y.cls).before a' U = true)
    (hfr : rm.frames + 1 ≤ R.frames) (hlo : 8 + (maxL + 11) + rm.locals ≤ R.locals) (hrc : cells + rm.cells ≤ R.cells) (hrs : slots + rm.slots ≤ R.slots)
    {a : Array Value} (hP : ∀ (g : JFrame) (mk : MethodId), Pc a (U.calling g mk a)) :
    ∃ (o : Outcome) (t B : State) (L : List Loc), Stand p l e R s m sargs below meth c B (locs ++ L) (cells + mc) (slots + ms) ∧ (∀ q ∈ L, free q.base) ∧ B.heap = t.heap ∧ B.vm = t.vm ∧ Qc a (U.calling g mk a) o t ∧
      Steps p.tables e below (doInvoke e (U.setTop g) [] mk a).1 (xk_after B g len o) := by
  obtain ⟨kY, hkY, -⟩ := className_of_methodNamed hn
  have hinitY : kY.init = .initialized := Cond.initialized_spec (findClass_of_methodNamed hn) hkY (hini a)
  have h : At U g.method c below := by rw [hg]; exact X.here
  have happ : (headSpec ws rm).appliesLoose y e.platform (U.calling g mk a) = true :=
    Spec.appliesLoose_calling (g := g) h hdg hn hkY hinitY
      (X.room_calling (g := g) (R' := rm) hsize hmY hcY hfr (by rw [hlY]; omega) hrc hrs) (atoms_intro (hws a))
  obtain ⟨mid, hmid⟩ := h.above
  have hfrs : (U.setTop g).frames = (.java g :: mid) ++ below := by rw [State.frames_setTop' g h.top, hmid]; rfl
  obtain ⟨o, t, hsteps, -, hend, hq, L, ⟨hW2, e2, q2, q3, q4, q5, q6⟩, hL⟩ := Steps.callFree hM p X.admits X.cas X.clock (acts := []) hfrs happ (hP g mk) trivial
  have hq : Qc a (U.calling g mk a) o t := hq
  have hW' : U.WarmedH t.vm := hW2
  rw [State.frames_setTop' g h.top] at hend
  obtain ⟨g₀, hg0⟩ := Option.isSome_iff_exists.mp h.top
  obtain ⟨r, hr⟩ := State.topJava?_eq_some.mp hg0
  -- the state behind, but for its frames
  have e3 : t = ({ (U.calling g mk a).setFrames t.frames with heap := t.heap, slotsUsed := t.slotsUsed } : State).setVm t.vm := by
    have h9 : t = ({ t with vm := (U.calling g mk a).vm } : State).setVm t.vm := rfl
    exact h9.trans (congrArg (fun z : State => z.setVm t.vm) e2)
  have hsame : U.sameButNew ({ U with heap := t.heap, slotsUsed := t.slotsUsed } : State) L mc ms := by
    refine ⟨?_, q2, q3, q4, q5, q6⟩
    obtain ⟨th, hth, -⟩ := State.frames_cons hr
    show ({ U with heap := t.heap, slotsUsed := t.slotsUsed } : State) = { U.setFrames U.frames with heap := t.heap, slotsUsed := t.slotsUsed }
    rw [State.setFrames_self hth]
  have hrB : (({ U with heap := t.heap, slotsUsed := t.slotsUsed } : State).setVm t.vm).frames = .java g₀ :: r := hr
  subst hg
  refine ⟨o, t, ({ U with heap := t.heap, slotsUsed := t.slotsUsed } : State).setVm t.vm, L,
    ⟨X.admits, X.cas, X.clock, X.frames, X.room, X.hears, X.method, X.code, (X.here.setHeapUsed t.heap t.slotsUsed).setVm hW'.alike, X.tail, State.WarmedH.trans X.warmed hW', X.limits, X.bytes, X.same.trans (hsame.setVm s.vm)⟩, hL, rfl, rfl, hq, ?_⟩
  have key : t = xk_after (({ U with heap := t.heap, slotsUsed := t.slotsUsed } : State).setVm t.vm) g len o := by
    cases o with
    | returned v =>
      obtain ⟨c₂, i₂, len₂, hc₂, hd₂, hf₂⟩ := hend
      have hcc : c₂ = c := by
        have h1 : t.code? g.method = U.code? g.method := by rw [State.code?_eq, State.code?_eq, hW'.alike.method?]
        exact Option.some.inj (hc₂.symm.trans (h1.trans h.code))
      subst hcc
      have hlen : len₂ = len := by rw [hdg] at hd₂; cases hd₂; rfl
      subst hlen
      show t = State.setTop _ _
      rw [State.setTop_of_frames _ hrB]
      refine e3.trans ?_
      rw [hf₂, State.calling_eq h.top, State.setFrames_setFrames, hr]
      rfl
    | threw x =>
      have hf₂ : t.frames = .throwing x :: .java g :: U.frames.tail := hend
      show t = (State.setTop _ _).pushFrame _
      rw [State.pushFrame, State.frames_setTop _ hrB, State.setTop_of_frames _ hrB, State.setFrames_setFrames]
      refine e3.trans ?_
      rw [hf₂, State.calling_eq h.top, State.setFrames_setFrames, hr]
      rfl
  rw [← key]
  exact hsteps
end XkCalls
end
section
/-! Worlds whose references are places, and the walk's rows over them. -/
section XkWorld
/-- a value: a reference is a place in the world, 'ad' has the places' addresses -/
def xk_v (ad : Nat → Nat) (v : Value) : Value := match v with
  | .ref k => .ref (ad k)
  | v => v
/-- a cell of the world: an array (its kind, its length, what it holds), or an object (its class's number, its fields) -/
abbrev xk_E : Type := (Nat × Nat × ((Nat → Int32) ⊕ (Nat → Int64))) ⊕ (Nat × List Value)
abbrev xk_W : Type := List xk_E
def xk_e (dA : Nat → ClassId) (ad : Nat → Nat) (x : xk_E) : va_E := match x with
  | .inl (t, n, .inl f) => .inl (dA t, n, .inl f)
  | .inl (t, n, .inr f) => .inl (dA t, n, .inr (.inl f))
  | .inr (c, fs) => .inr (c, fs.map (xk_v ad))
def xk_w (dA : Nat → ClassId) (ad : Nat → Nat) (w : xk_W) : va_W := w.mapIdx (fun i x => (ad i, xk_e dA ad x))
theorem xk_w_get (dA : Nat → ClassId) (ad : Nat → Nat) (w : xk_W) (i : Nat) : (xk_w dA ad w)[i]? = (w[i]?).map (fun x => (ad i, xk_e dA ad x)) := by
  simp [xk_w]
theorem xk_w_at {dA : Nat → ClassId} {ad : Nat → Nat} {w : xk_W} {i : Nat} {x : xk_E} (h : w[i]? = some x) : (xk_w dA ad w)[i]? = some (ad i, xk_e dA ad x) := by
  rw [xk_w_get, h]; rfl
theorem xk_w_set (dA : Nat → ClassId) (ad : Nat → Nat) (w : xk_W) (i : Nat) (x : xk_E) : xk_w dA ad (w.set i x) = (xk_w dA ad w).set i (ad i, xk_e dA ad x) := by
  apply List.ext_getElem?
  intro j
  rw [xk_w_get, List.getElem?_set, List.getElem?_set, xk_w_get]
  by_cases h : i = j
  · subst h
    by_cases h2 : i < w.length
    · simp [h2, xk_w]
    · simp [h2, xk_w]
  · simp [h]
theorem xk_w_len (dA : Nat → ClassId) (ad : Nat → Nat) (w : xk_W) : (xk_w dA ad w).length = w.length := by simp [xk_w]
/-- a local variable's value, if it is one that the walk reads -/
def xk_c (ad : Nat → Nat) (v : Value) : Option Value := match v with
  | .int x => some (.int x)
  | .ref k => some (.ref (ad k))
  | .null => some .null
  | _ => none
def xk_l (ad : Nat → Nat) (L : List Value) : List (Nat × Value) := (List.range L.length).filterMap (fun i => (L[i]?.bind (xk_c ad)).map (fun v => (i, v)))
theorem xk_l_mem {ad : Nat → Nat} {L : List Value} {i : Nat} {v : Value} : (i, v) ∈ xk_l ad L ↔ ∃ u, L[i]? = some u ∧ xk_c ad u = some v := by
  unfold xk_l
  rw [List.mem_filterMap]
  constructor
  · rintro ⟨j, hj, h⟩
    rw [Option.map_eq_some_iff] at h
    obtain ⟨v2, h2, h3⟩ := h
    cases h3
    rw [Option.bind_eq_some_iff] at h2
    exact h2
  · rintro ⟨u, h1, h2⟩
    refine ⟨i, List.mem_range.mpr (List.getElem?_eq_some_iff.mp h1).1, ?_⟩
    rw [h1]
    simp [h2]
theorem xk_c_cat {ad : Nat → Nat} {u v : Value} (h : xk_c ad u = some v) : v.category = 1 := by
  cases u <;> simp only [xk_c, Option.some.injEq, reduceCtorEq] at h <;> subst h <;> rfl
theorem xk_l_at {ad : Nat → Nat} {L : List Value} {ls : Array Slot} {nL i : Nat} {u v : Value} (h : lv_has ls nL (xk_l ad L)) (h1 : L[i]? = some u) (h2 : xk_c ad u = some v) : ls[i]? = some (.val v) :=
  h.2.2 (i, v) (xk_l_mem.mpr ⟨u, h1, h2⟩)
theorem xk_l_set {ad : Nat → Nat} {L : List Value} {ls : Array Slot} {nL i : Nat} {u v : Value} (hi : i < L.length) (h2 : xk_c ad u = some v)
    (h : lv_has ls nL ((i, v) :: (xk_l ad L).filter (fun q => !(q.1 == i) && !(q.1 + 1 == i && q.2.category == 2)))) : lv_has ls nL (xk_l ad (L.set i u)) := by
  refine ⟨h.1, h.2.1, fun q hq => h.2.2 q ?_⟩
  obtain ⟨j, v2⟩ := q
  obtain ⟨u2, g1, g2⟩ := xk_l_mem.mp hq
  rw [List.getElem?_set] at g1
  by_cases hij : i = j
  · subst hij
    rw [if_pos rfl, if_pos hi] at g1
    cases g1
    rw [h2] at g2
    cases g2
    exact List.mem_cons_self
  · rw [if_neg hij] at g1
    refine List.mem_cons_of_mem _ (List.mem_filter.mpr ⟨xk_l_mem.mpr ⟨u2, g1, g2⟩, ?_⟩)
    have hc := xk_c_cat g2
    have hji : ¬ j = i := fun e => hij e.symm
    simp [hji, hc]
variable {p : Program} {l : Launch} {e : Env} {R : Room} {s : State} {m : MethodId} {args : Array Value} {below : List Frame} {meth : Method} {c : Code}
/-- **the judgement**: the walk of this invocation, at pc with these locals, this stack and this world, comes to a state with Q, over every heap that holds the world -/
def xk_J (p : Program) (l : Launch) (e : Env) (R : Room) (s : State) (m : MethodId) (args : Array Value) (below : List Frame) (meth : Method) (c : Code) (Q : State → Prop) (nL : Nat) (D : va_G) (dA : Nat → ClassId) (ad : Nat → Nat) (A : Nat → Prop) (cl : List vw_C)
    (cells slots : Nat) (pc : Nat) (L st : List Value) (w : xk_W) : Prop :=
  ∀ (ls : Array Slot) (H : Heap) (locs : List Loc), lv_has ls nL (xk_l ad L) → va_P D cl (xk_w dA ad w) H → va_D A (xk_w dA ad w) → va_S A s.heap H locs →
    W p l e R s m args below meth c H locs cells slots Q (F0 m pc ls (st.map (xk_v ad)))
variable {Q : State → Prop} {nL : Nat} {D : va_G} {dA : Nat → ClassId} {ad : Nat → Nat} {A : Nat → Prop} {cl : List vw_C} {cells slots : Nat} {pc : Nat} {L st r : List Value} {w : xk_W} {cc : ByteArray}
theorem xk_iconst (hexec : p.tables.exec = Jvm.exec) (hb : c.code = cc) {n : Int} {v : Int32} (hd : decode cc pc = .ok (.iconst n, 1)) (hv : Int32.ofInt n = v)
    (k : xk_J p l e R s m args below meth c Q nL D dA ad A cl cells slots (pc + 1) L (.int v :: st) w) : xk_J p l e R s m args below meth c Q nL D dA ad A cl cells slots pc L st w :=
  fun ls H locs h1 h2 h3 h4 => lv_iconst hexec hb hd hv (k ls H locs h1 h2 h3 h4)
theorem xk_bipush (hexec : p.tables.exec = Jvm.exec) (hb : c.code = cc) {n : Int} {v : Int32} (hd : decode cc pc = .ok (.bipush n, 2)) (hv : (Int8.ofInt n).toInt32 = v)
    (k : xk_J p l e R s m args below meth c Q nL D dA ad A cl cells slots (pc + 2) L (.int v :: st) w) : xk_J p l e R s m args below meth c Q nL D dA ad A cl cells slots pc L st w :=
  fun ls H locs h1 h2 h3 h4 => lv_bipush hexec hb hd hv (k ls H locs h1 h2 h3 h4)
theorem xk_sipush (hexec : p.tables.exec = Jvm.exec) (hb : c.code = cc) {n : Int} {v : Int32} (hd : decode cc pc = .ok (.sipush n, 3)) (hv : (Int16.ofInt n).toInt32 = v)
    (k : xk_J p l e R s m args below meth c Q nL D dA ad A cl cells slots (pc + 3) L (.int v :: st) w) : xk_J p l e R s m args below meth c Q nL D dA ad A cl cells slots pc L st w :=
  fun ls H locs h1 h2 h3 h4 => lv_sipush hexec hb hd hv (k ls H locs h1 h2 h3 h4)
theorem xk_lconst (hexec : p.tables.exec = Jvm.exec) (hb : c.code = cc) {n : Fin 2} {v : Int64} (hd : decode cc pc = .ok (.lconst n, 1)) (hv : Int64.ofNat (n : Nat) = v)
    (k : xk_J p l e R s m args below meth c Q nL D dA ad A cl cells slots (pc + 1) L (.long v :: st) w) : xk_J p l e R s m args below meth c Q nL D dA ad A cl cells slots pc L st w :=
  fun ls H locs h1 h2 h3 h4 => lv_lconst hexec hb hd hv (k ls H locs h1 h2 h3 h4)
theorem xk_iload (hexec : p.tables.exec = Jvm.exec) (hb : c.code = cc) {i : Nat} {x : Int32} {d : Nat} (hd : (decode cc pc = .ok (.iload i, 2) ∧ d = 2) ∨ ∃ k : Fin 4, (k : Nat) = i ∧ decode cc pc = .ok (.iload_n k, 1) ∧ d = 1) (hi : L[i]? = some (.int x))
    (k : xk_J p l e R s m args below meth c Q nL D dA ad A cl cells slots (pc + d) L (.int x :: st) w) : xk_J p l e R s m args below meth c Q nL D dA ad A cl cells slots pc L st w := by
  intro ls H locs h1 h2 h3 h4
  have hg := xk_l_at h1 hi rfl
  rcases hd with ⟨hd, rfl⟩ | ⟨q, hq, hd, rfl⟩
  · exact lv_iload hexec hb hd hg (k ls H locs h1 h2 h3 h4)
  · exact lv_iload_n hexec hb hd hq hg (k ls H locs h1 h2 h3 h4)
theorem xk_aload (hexec : p.tables.exec = Jvm.exec) (hb : c.code = cc) {i : Nat} {x : Nat} {d : Nat} (hd : (decode cc pc = .ok (.aload i, 2) ∧ d = 2) ∨ ∃ k : Fin 4, (k : Nat) = i ∧ decode cc pc = .ok (.aload_n k, 1) ∧ d = 1) (hi : L[i]? = some (.ref x))
    (k : xk_J p l e R s m args below meth c Q nL D dA ad A cl cells slots (pc + d) L (.ref x :: st) w) : xk_J p l e R s m args below meth c Q nL D dA ad A cl cells slots pc L st w := by
  intro ls H locs h1 h2 h3 h4
  have hg := xk_l_at h1 hi rfl
  rcases hd with ⟨hd, rfl⟩ | ⟨q, hq, hd, rfl⟩
  · exact lv_aload hexec hb hd hg (k ls H locs h1 h2 h3 h4)
  · exact lv_aload_n hexec hb hd hq hg (k ls H locs h1 h2 h3 h4)
theorem xk_istore (hexec : p.tables.exec = Jvm.exec) (hb : c.code = cc) {i : Nat} {x : Int32} {d : Nat} (hd : (decode cc pc = .ok (.istore i, 2) ∧ d = 2) ∨ ∃ k : Fin 4, (k : Nat) = i ∧ decode cc pc = .ok (.istore_n k, 1) ∧ d = 1) (hi : i < L.length) (hn : i < nL)
    (k : xk_J p l e R s m args below meth c Q nL D dA ad A cl cells slots (pc + d) (L.set i (.int x)) r w) : xk_J p l e R s m args below meth c Q nL D dA ad A cl cells slots pc L (.int x :: r) w := by
  intro ls H locs h1 h2 h3 h4
  rcases hd with ⟨hd, rfl⟩ | ⟨q, hq, hd, rfl⟩
  · exact lv_istore hexec hb hd h1 hn rfl (fun ls' h' => k ls' H locs (xk_l_set hi rfl h') h2 h3 h4)
  · exact lv_istore_n hexec hb hd hq h1 hn rfl (fun ls' h' => k ls' H locs (xk_l_set hi rfl h') h2 h3 h4)
theorem xk_astore (hexec : p.tables.exec = Jvm.exec) (hb : c.code = cc) {i : Nat} {x : Nat} {d : Nat} (hd : (decode cc pc = .ok (.astore i, 2) ∧ d = 2) ∨ ∃ k : Fin 4, (k : Nat) = i ∧ decode cc pc = .ok (.astore_n k, 1) ∧ d = 1) (hi : i < L.length) (hn : i < nL)
    (k : xk_J p l e R s m args below meth c Q nL D dA ad A cl cells slots (pc + d) (L.set i (.ref x)) r w) : xk_J p l e R s m args below meth c Q nL D dA ad A cl cells slots pc L (.ref x :: r) w := by
  intro ls H locs h1 h2 h3 h4
  rcases hd with ⟨hd, rfl⟩ | ⟨q, hq, hd, rfl⟩
  · exact lv_astore hexec hb hd h1 hn rfl (fun ls' h' => k ls' H locs (xk_l_set hi rfl h') h2 h3 h4)
  · exact lv_astore_n hexec hb hd hq h1 hn rfl (fun ls' h' => k ls' H locs (xk_l_set hi rfl h') h2 h3 h4)
theorem xk_iinc (hexec : p.tables.exec = Jvm.exec) (hb : c.code = cc) {i : Nat} {n : Int} {x : Int32} (hd : decode cc pc = .ok (.iinc i n, 3)) (hx : L[i]? = some (.int x)) (hn : i < nL)
    (k : xk_J p l e R s m args below meth c Q nL D dA ad A cl cells slots (pc + 3) (L.set i (.int (x + Int32.ofInt n))) st w) : xk_J p l e R s m args below meth c Q nL D dA ad A cl cells slots pc L st w := by
  intro ls H locs h1 h2 h3 h4
  obtain ⟨j, hj⟩ := List.getElem?_of_mem (xk_l_mem.mpr ⟨_, hx, rfl⟩ : (i, Value.int x) ∈ xk_l ad L)
  exact lv_iinc hexec hb hd h1 hj rfl hn rfl (fun ls' h' => k ls' H locs (xk_l_set (List.getElem?_eq_some_iff.mp hx).1 rfl h') h2 h3 h4)
theorem xk_iadd (hexec : p.tables.exec = Jvm.exec) (hb : c.code = cc) {x y : Int32} (hd : decode cc pc = .ok (.iadd, 1)) (k : xk_J p l e R s m args below meth c Q nL D dA ad A cl cells slots (pc + 1) L (.int (x + y) :: r) w) : xk_J p l e R s m args below meth c Q nL D dA ad A cl cells slots pc L (.int y :: .int x :: r) w :=
  fun ls H locs h1 h2 h3 h4 => lv_iadd hexec hb hd (k ls H locs h1 h2 h3 h4)
theorem xk_isub (hexec : p.tables.exec = Jvm.exec) (hb : c.code = cc) {x y : Int32} (hd : decode cc pc = .ok (.isub, 1)) (k : xk_J p l e R s m args below meth c Q nL D dA ad A cl cells slots (pc + 1) L (.int (x - y) :: r) w) : xk_J p l e R s m args below meth c Q nL D dA ad A cl cells slots pc L (.int y :: .int x :: r) w :=
  fun ls H locs h1 h2 h3 h4 => lv_isub hexec hb hd (k ls H locs h1 h2 h3 h4)
theorem xk_imul (hexec : p.tables.exec = Jvm.exec) (hb : c.code = cc) {x y : Int32} (hd : decode cc pc = .ok (.imul, 1)) (k : xk_J p l e R s m args below meth c Q nL D dA ad A cl cells slots (pc + 1) L (.int (x * y) :: r) w) : xk_J p l e R s m args below meth c Q nL D dA ad A cl cells slots pc L (.int y :: .int x :: r) w :=
  fun ls H locs h1 h2 h3 h4 => lv_imul hexec hb hd (k ls H locs h1 h2 h3 h4)
theorem xk_iand (hexec : p.tables.exec = Jvm.exec) (hb : c.code = cc) {x y : Int32} (hd : decode cc pc = .ok (.iand, 1)) (k : xk_J p l e R s m args below meth c Q nL D dA ad A cl cells slots (pc + 1) L (.int (x &&& y) :: r) w) : xk_J p l e R s m args below meth c Q nL D dA ad A cl cells slots pc L (.int y :: .int x :: r) w :=
  fun ls H locs h1 h2 h3 h4 => lv_iand hexec hb hd (k ls H locs h1 h2 h3 h4)
theorem xk_ior (hexec : p.tables.exec = Jvm.exec) (hb : c.code = cc) {x y : Int32} (hd : decode cc pc = .ok (.ior, 1)) (k : xk_J p l e R s m args below meth c Q nL D dA ad A cl cells slots (pc + 1) L (.int (x ||| y) :: r) w) : xk_J p l e R s m args below meth c Q nL D dA ad A cl cells slots pc L (.int y :: .int x :: r) w :=
  fun ls H locs h1 h2 h3 h4 => lv_ior hexec hb hd (k ls H locs h1 h2 h3 h4)
theorem xk_ixor (hexec : p.tables.exec = Jvm.exec) (hb : c.code = cc) {x y : Int32} (hd : decode cc pc = .ok (.ixor, 1)) (k : xk_J p l e R s m args below meth c Q nL D dA ad A cl cells slots (pc + 1) L (.int (x ^^^ y) :: r) w) : xk_J p l e R s m args below meth c Q nL D dA ad A cl cells slots pc L (.int y :: .int x :: r) w :=
  fun ls H locs h1 h2 h3 h4 => lv_ixor hexec hb hd (k ls H locs h1 h2 h3 h4)
theorem xk_ishl (hexec : p.tables.exec = Jvm.exec) (hb : c.code = cc) {x y : Int32} (hd : decode cc pc = .ok (.ishl, 1)) (k : xk_J p l e R s m args below meth c Q nL D dA ad A cl cells slots (pc + 1) L (.int (x <<< (y &&& 31)) :: r) w) : xk_J p l e R s m args below meth c Q nL D dA ad A cl cells slots pc L (.int y :: .int x :: r) w :=
  fun ls H locs h1 h2 h3 h4 => lv_ishl hexec hb hd (k ls H locs h1 h2 h3 h4)
theorem xk_ishr (hexec : p.tables.exec = Jvm.exec) (hb : c.code = cc) {x y : Int32} (hd : decode cc pc = .ok (.ishr, 1)) (k : xk_J p l e R s m args below meth c Q nL D dA ad A cl cells slots (pc + 1) L (.int (x >>> (y &&& 31)) :: r) w) : xk_J p l e R s m args below meth c Q nL D dA ad A cl cells slots pc L (.int y :: .int x :: r) w :=
  fun ls H locs h1 h2 h3 h4 => lv_ishr hexec hb hd (k ls H locs h1 h2 h3 h4)
theorem xk_iushr (hexec : p.tables.exec = Jvm.exec) (hb : c.code = cc) {x y : Int32} (hd : decode cc pc = .ok (.iushr, 1)) (k : xk_J p l e R s m args below meth c Q nL D dA ad A cl cells slots (pc + 1) L (.int (x.toUInt32 >>> (y.toUInt32 &&& Int32.toUInt32 31)).toInt32 :: r) w) : xk_J p l e R s m args below meth c Q nL D dA ad A cl cells slots pc L (.int y :: .int x :: r) w :=
  fun ls H locs h1 h2 h3 h4 => lv_iushr hexec hb hd rfl (k ls H locs h1 h2 h3 h4)
theorem xk_idiv (hexec : p.tables.exec = Jvm.exec) (hb : c.code = cc) {x y : Int32} (hd : decode cc pc = .ok (.idiv, 1)) (hy : ¬ y = 0) (k : xk_J p l e R s m args below meth c Q nL D dA ad A cl cells slots (pc + 1) L (.int (x / y) :: r) w) : xk_J p l e R s m args below meth c Q nL D dA ad A cl cells slots pc L (.int y :: .int x :: r) w :=
  fun ls H locs h1 h2 h3 h4 => lv_idiv hexec hb hd hy (k ls H locs h1 h2 h3 h4)
theorem xk_irem (hexec : p.tables.exec = Jvm.exec) (hb : c.code = cc) {x y : Int32} (hd : decode cc pc = .ok (.irem, 1)) (hy : ¬ y = 0) (k : xk_J p l e R s m args below meth c Q nL D dA ad A cl cells slots (pc + 1) L (.int (x % y) :: r) w) : xk_J p l e R s m args below meth c Q nL D dA ad A cl cells slots pc L (.int y :: .int x :: r) w := by
  intro ls H locs h1 h2 h3 h4
  refine lv_irem hexec hb hd hy ?_
  rw [irem_eq_mod]
  exact k ls H locs h1 h2 h3 h4
theorem xk_ineg (hexec : p.tables.exec = Jvm.exec) (hb : c.code = cc) {x : Int32} (hd : decode cc pc = .ok (.ineg, 1)) (k : xk_J p l e R s m args below meth c Q nL D dA ad A cl cells slots (pc + 1) L (.int (-x) :: r) w) : xk_J p l e R s m args below meth c Q nL D dA ad A cl cells slots pc L (.int x :: r) w :=
  fun ls H locs h1 h2 h3 h4 => lv_ineg hexec hb hd (k ls H locs h1 h2 h3 h4)
theorem xk_i2l (hexec : p.tables.exec = Jvm.exec) (hb : c.code = cc) {x : Int32} (hd : decode cc pc = .ok (.i2l, 1)) (k : xk_J p l e R s m args below meth c Q nL D dA ad A cl cells slots (pc + 1) L (.long x.toInt64 :: r) w) : xk_J p l e R s m args below meth c Q nL D dA ad A cl cells slots pc L (.int x :: r) w :=
  fun ls H locs h1 h2 h3 h4 => lv_i2l hexec hb hd rfl (k ls H locs h1 h2 h3 h4)
theorem xk_lcmp (hexec : p.tables.exec = Jvm.exec) (hb : c.code = cc) {x y : Int64} (hd : decode cc pc = .ok (.lcmp, 1)) (k : xk_J p l e R s m args below meth c Q nL D dA ad A cl cells slots (pc + 1) L (.int (lg_cmp x y) :: r) w) : xk_J p l e R s m args below meth c Q nL D dA ad A cl cells slots pc L (.long y :: .long x :: r) w :=
  fun ls H locs h1 h2 h3 h4 => W.lcmp hexec hb hd (k ls H locs h1 h2 h3 h4)
theorem xk_cat {u : Value} (h : (match u with
  | .long _ => false
  | .double _ => false
  | _ => true) = true) : (xk_v ad u).category = 1 := by
  cases u <;> simp_all [xk_v, Value.category]
/-- what fills one place of the stack -/
def xk_one (u : Value) : Bool := match u with
  | .int _ => true
  | .ref _ => true
  | _ => false
theorem xk_one_cat {u : Value} (h : xk_one u = true) : (xk_v ad u).category = 1 := by
  cases u <;> first | rfl | simp [xk_one] at h
theorem xk_dup (hexec : p.tables.exec = Jvm.exec) (hb : c.code = cc) {u : Value} (hd : decode cc pc = .ok (.dup, 1)) (hu : xk_one u = true) (k : xk_J p l e R s m args below meth c Q nL D dA ad A cl cells slots (pc + 1) L (u :: u :: r) w) : xk_J p l e R s m args below meth c Q nL D dA ad A cl cells slots pc L (u :: r) w :=
  fun ls H locs h1 h2 h3 h4 => lv_dup hexec hb hd (xk_one_cat hu) (k ls H locs h1 h2 h3 h4)
theorem xk_pop (hexec : p.tables.exec = Jvm.exec) (hb : c.code = cc) {u : Value} (hd : decode cc pc = .ok (.pop, 1)) (hu : xk_one u = true) (k : xk_J p l e R s m args below meth c Q nL D dA ad A cl cells slots (pc + 1) L r w) : xk_J p l e R s m args below meth c Q nL D dA ad A cl cells slots pc L (u :: r) w :=
  fun ls H locs h1 h2 h3 h4 => lv_pop hexec hb hd (xk_one_cat hu) (k ls H locs h1 h2 h3 h4)
theorem xk_dup_x1 (hexec : p.tables.exec = Jvm.exec) (hb : c.code = cc) {u v : Value} (hd : decode cc pc = .ok (.dup_x1, 1)) (hu : xk_one u = true) (hv : xk_one v = true) (k : xk_J p l e R s m args below meth c Q nL D dA ad A cl cells slots (pc + 1) L (u :: v :: u :: r) w) : xk_J p l e R s m args below meth c Q nL D dA ad A cl cells slots pc L (u :: v :: r) w :=
  fun ls H locs h1 h2 h3 h4 => lv_dup_x1 hexec hb hd (xk_one_cat hu) (xk_one_cat hv) (k ls H locs h1 h2 h3 h4)
theorem xk_dup2 (hexec : p.tables.exec = Jvm.exec) (hb : c.code = cc) {u v : Value} (hd : decode cc pc = .ok (.dup2, 1)) (hu : xk_one u = true) (hv : xk_one v = true) (k : xk_J p l e R s m args below meth c Q nL D dA ad A cl cells slots (pc + 1) L (u :: v :: u :: v :: r) w) : xk_J p l e R s m args below meth c Q nL D dA ad A cl cells slots pc L (u :: v :: r) w :=
  fun ls H locs h1 h2 h3 h4 => lv_dup2_11 hexec hb hd (xk_one_cat hu) (xk_one_cat hv) (k ls H locs h1 h2 h3 h4)
theorem xk_goto (hexec : p.tables.exec = Jvm.exec) (hb : c.code = cc) {off : Int} {tgt : Nat} (hd : decode cc pc = .ok (.goto off, 3)) (ht : (pc : Int) + off = (tgt : Int)) (k : xk_J p l e R s m args below meth c Q nL D dA ad A cl cells slots tgt L st w) : xk_J p l e R s m args below meth c Q nL D dA ad A cl cells slots pc L st w :=
  fun ls H locs h1 h2 h3 h4 => lv_goto hexec hb hd ht (k ls H locs h1 h2 h3 h4)
theorem xk_icmp_eq (hexec : p.tables.exec = Jvm.exec) (hb : c.code = cc) {x y : Int32} {off : Int} {tgt : Nat} (hd : decode cc pc = .ok (.if_icmp .eq off, 3)) (ht : (pc : Int) + off = (tgt : Int)) (kt : x = y → xk_J p l e R s m args below meth c Q nL D dA ad A cl cells slots tgt L r w) (kf : ¬ x = y → xk_J p l e R s m args below meth c Q nL D dA ad A cl cells slots (pc + 3) L r w) : xk_J p l e R s m args below meth c Q nL D dA ad A cl cells slots pc L (.int y :: .int x :: r) w :=
  fun ls H locs h1 h2 h3 h4 => lv_icmp_eq hexec hb hd ht (fun q => kt q ls H locs h1 h2 h3 h4) (fun q => kf q ls H locs h1 h2 h3 h4)
theorem xk_if_eq (hexec : p.tables.exec = Jvm.exec) (hb : c.code = cc) {x : Int32} {off : Int} {tgt : Nat} (hd : decode cc pc = .ok (.ifCond .eq off, 3)) (ht : (pc : Int) + off = (tgt : Int)) (kt : x = 0 → xk_J p l e R s m args below meth c Q nL D dA ad A cl cells slots tgt L r w) (kf : ¬ x = 0 → xk_J p l e R s m args below meth c Q nL D dA ad A cl cells slots (pc + 3) L r w) : xk_J p l e R s m args below meth c Q nL D dA ad A cl cells slots pc L (.int x :: r) w :=
  fun ls H locs h1 h2 h3 h4 => lv_if_eq hexec hb hd ht (fun q => kt q ls H locs h1 h2 h3 h4) (fun q => kf q ls H locs h1 h2 h3 h4)
theorem xk_icmp_ne (hexec : p.tables.exec = Jvm.exec) (hb : c.code = cc) {x y : Int32} {off : Int} {tgt : Nat} (hd : decode cc pc = .ok (.if_icmp .ne off, 3)) (ht : (pc : Int) + off = (tgt : Int)) (kt : ¬ x = y → xk_J p l e R s m args below meth c Q nL D dA ad A cl cells slots tgt L r w) (kf : x = y → xk_J p l e R s m args below meth c Q nL D dA ad A cl cells slots (pc + 3) L r w) : xk_J p l e R s m args below meth c Q nL D dA ad A cl cells slots pc L (.int y :: .int x :: r) w :=
  fun ls H locs h1 h2 h3 h4 => lv_icmp_ne hexec hb hd ht (fun q => kt q ls H locs h1 h2 h3 h4) (fun q => kf q ls H locs h1 h2 h3 h4)
theorem xk_if_ne (hexec : p.tables.exec = Jvm.exec) (hb : c.code = cc) {x : Int32} {off : Int} {tgt : Nat} (hd : decode cc pc = .ok (.ifCond .ne off, 3)) (ht : (pc : Int) + off = (tgt : Int)) (kt : ¬ x = 0 → xk_J p l e R s m args below meth c Q nL D dA ad A cl cells slots tgt L r w) (kf : x = 0 → xk_J p l e R s m args below meth c Q nL D dA ad A cl cells slots (pc + 3) L r w) : xk_J p l e R s m args below meth c Q nL D dA ad A cl cells slots pc L (.int x :: r) w :=
  fun ls H locs h1 h2 h3 h4 => lv_if_ne hexec hb hd ht (fun q => kt q ls H locs h1 h2 h3 h4) (fun q => kf q ls H locs h1 h2 h3 h4)
theorem xk_icmp_lt (hexec : p.tables.exec = Jvm.exec) (hb : c.code = cc) {x y : Int32} {off : Int} {tgt : Nat} (hd : decode cc pc = .ok (.if_icmp .lt off, 3)) (ht : (pc : Int) + off = (tgt : Int)) (kt : x < y → xk_J p l e R s m args below meth c Q nL D dA ad A cl cells slots tgt L r w) (kf : ¬ x < y → xk_J p l e R s m args below meth c Q nL D dA ad A cl cells slots (pc + 3) L r w) : xk_J p l e R s m args below meth c Q nL D dA ad A cl cells slots pc L (.int y :: .int x :: r) w :=
  fun ls H locs h1 h2 h3 h4 => lv_icmp_lt hexec hb hd ht (fun q => kt q ls H locs h1 h2 h3 h4) (fun q => kf q ls H locs h1 h2 h3 h4)
theorem xk_if_lt (hexec : p.tables.exec = Jvm.exec) (hb : c.code = cc) {x : Int32} {off : Int} {tgt : Nat} (hd : decode cc pc = .ok (.ifCond .lt off, 3)) (ht : (pc : Int) + off = (tgt : Int)) (kt : x < 0 → xk_J p l e R s m args below meth c Q nL D dA ad A cl cells slots tgt L r w) (kf : ¬ x < 0 → xk_J p l e R s m args below meth c Q nL D dA ad A cl cells slots (pc + 3) L r w) : xk_J p l e R s m args below meth c Q nL D dA ad A cl cells slots pc L (.int x :: r) w :=
  fun ls H locs h1 h2 h3 h4 => lv_if_lt hexec hb hd ht (fun q => kt q ls H locs h1 h2 h3 h4) (fun q => kf q ls H locs h1 h2 h3 h4)
theorem xk_icmp_ge (hexec : p.tables.exec = Jvm.exec) (hb : c.code = cc) {x y : Int32} {off : Int} {tgt : Nat} (hd : decode cc pc = .ok (.if_icmp .ge off, 3)) (ht : (pc : Int) + off = (tgt : Int)) (kt : y ≤ x → xk_J p l e R s m args below meth c Q nL D dA ad A cl cells slots tgt L r w) (kf : ¬ y ≤ x → xk_J p l e R s m args below meth c Q nL D dA ad A cl cells slots (pc + 3) L r w) : xk_J p l e R s m args below meth c Q nL D dA ad A cl cells slots pc L (.int y :: .int x :: r) w :=
  fun ls H locs h1 h2 h3 h4 => lv_icmp_ge hexec hb hd ht (fun q => kt q ls H locs h1 h2 h3 h4) (fun q => kf q ls H locs h1 h2 h3 h4)
theorem xk_if_ge (hexec : p.tables.exec = Jvm.exec) (hb : c.code = cc) {x : Int32} {off : Int} {tgt : Nat} (hd : decode cc pc = .ok (.ifCond .ge off, 3)) (ht : (pc : Int) + off = (tgt : Int)) (kt : 0 ≤ x → xk_J p l e R s m args below meth c Q nL D dA ad A cl cells slots tgt L r w) (kf : ¬ 0 ≤ x → xk_J p l e R s m args below meth c Q nL D dA ad A cl cells slots (pc + 3) L r w) : xk_J p l e R s m args below meth c Q nL D dA ad A cl cells slots pc L (.int x :: r) w :=
  fun ls H locs h1 h2 h3 h4 => lv_if_ge hexec hb hd ht (fun q => kt q ls H locs h1 h2 h3 h4) (fun q => kf q ls H locs h1 h2 h3 h4)
theorem xk_icmp_gt (hexec : p.tables.exec = Jvm.exec) (hb : c.code = cc) {x y : Int32} {off : Int} {tgt : Nat} (hd : decode cc pc = .ok (.if_icmp .gt off, 3)) (ht : (pc : Int) + off = (tgt : Int)) (kt : y < x → xk_J p l e R s m args below meth c Q nL D dA ad A cl cells slots tgt L r w) (kf : ¬ y < x → xk_J p l e R s m args below meth c Q nL D dA ad A cl cells slots (pc + 3) L r w) : xk_J p l e R s m args below meth c Q nL D dA ad A cl cells slots pc L (.int y :: .int x :: r) w :=
  fun ls H locs h1 h2 h3 h4 => lv_icmp_gt hexec hb hd ht (fun q => kt q ls H locs h1 h2 h3 h4) (fun q => kf q ls H locs h1 h2 h3 h4)
theorem xk_if_gt (hexec : p.tables.exec = Jvm.exec) (hb : c.code = cc) {x : Int32} {off : Int} {tgt : Nat} (hd : decode cc pc = .ok (.ifCond .gt off, 3)) (ht : (pc : Int) + off = (tgt : Int)) (kt : 0 < x → xk_J p l e R s m args below meth c Q nL D dA ad A cl cells slots tgt L r w) (kf : ¬ 0 < x → xk_J p l e R s m args below meth c Q nL D dA ad A cl cells slots (pc + 3) L r w) : xk_J p l e R s m args below meth c Q nL D dA ad A cl cells slots pc L (.int x :: r) w :=
  fun ls H locs h1 h2 h3 h4 => lv_if_gt hexec hb hd ht (fun q => kt q ls H locs h1 h2 h3 h4) (fun q => kf q ls H locs h1 h2 h3 h4)
theorem xk_icmp_le (hexec : p.tables.exec = Jvm.exec) (hb : c.code = cc) {x y : Int32} {off : Int} {tgt : Nat} (hd : decode cc pc = .ok (.if_icmp .le off, 3)) (ht : (pc : Int) + off = (tgt : Int)) (kt : x ≤ y → xk_J p l e R s m args below meth c Q nL D dA ad A cl cells slots tgt L r w) (kf : ¬ x ≤ y → xk_J p l e R s m args below meth c Q nL D dA ad A cl cells slots (pc + 3) L r w) : xk_J p l e R s m args below meth c Q nL D dA ad A cl cells slots pc L (.int y :: .int x :: r) w :=
  fun ls H locs h1 h2 h3 h4 => lv_icmp_le hexec hb hd ht (fun q => kt q ls H locs h1 h2 h3 h4) (fun q => kf q ls H locs h1 h2 h3 h4)
theorem xk_if_le (hexec : p.tables.exec = Jvm.exec) (hb : c.code = cc) {x : Int32} {off : Int} {tgt : Nat} (hd : decode cc pc = .ok (.ifCond .le off, 3)) (ht : (pc : Int) + off = (tgt : Int)) (kt : x ≤ 0 → xk_J p l e R s m args below meth c Q nL D dA ad A cl cells slots tgt L r w) (kf : ¬ x ≤ 0 → xk_J p l e R s m args below meth c Q nL D dA ad A cl cells slots (pc + 3) L r w) : xk_J p l e R s m args below meth c Q nL D dA ad A cl cells slots pc L (.int x :: r) w :=
  fun ls H locs h1 h2 h3 h4 => lv_if_le hexec hb hd ht (fun q => kt q ls H locs h1 h2 h3 h4) (fun q => kf q ls H locs h1 h2 h3 h4)
variable {tys : List (ClassId × FieldType)}
theorem xk_get (hexec : p.tables.exec = Jvm.exec) (hb : c.code = cc) {own ref C : String} {T : u_T} {N ci index : Nat} {Ts : List Cond} (hts : ∀ q ∈ Ts, q.before args s = true) (hin : ∀ q ∈ u_ws C T N, q ∈ Ts) (hown : s.vm.findClass own = some m.cls) (hK : va_K D cl tys s) {a : Nat} {fs : List Value} (he : w[a]? = some (.inr (ci, fs))) (hc : cl[ci]? = some (C, T, N)) (k : Nat) (hk : k < N)
    (hlink : (Cond.fieldLink own index ref (T k).2.1 (T k).2.2.1).before args s = true ∨ ∃ host, (Cond.fieldLinkNest own index ref (T k).2.1 (T k).2.2.1 host).before args s = true) (hsame : ref = (T k).1) {v : Value} (hv : fs[k]? = some v) (hd : decode cc pc = .ok (.getfield index, 3))
    (kk : xk_J p l e R s m args below meth c Q nL D dA ad A cl cells slots (pc + 3) L (v :: r) w) : xk_J p l e R s m args below meth c Q nL D dA ad A cl cells slots pc L (.ref a :: r) w := by
  intro ls H locs h1 h2 h3 h4
  have hv' : (fs.map (xk_v ad))[k]? = some (xk_v ad v) := by rw [List.getElem?_map, hv]; rfl
  rcases hlink with hlink | ⟨host, hlink⟩
  · exact va_get hexec hb hts hin hown hK h2 a (xk_w_at he) hc k hk hlink (fun x hx => by rw [hsame]; exact hx) hv' hd (kk ls H locs h1 h2 h3 h4)
  · exact va_getN hexec hb hts hin hown hK h2 a (xk_w_at he) hc k hk hlink (fun x hx => by rw [hsame]; exact hx) hv' hd (kk ls H locs h1 h2 h3 h4)
theorem xk_put (hexec : p.tables.exec = Jvm.exec) (hb : c.code = cc) {own ref C : String} {T : u_T} {N ci index : Nat} {Ts : List Cond} (hts : ∀ q ∈ Ts, q.before args s = true) (hin : ∀ q ∈ u_ws C T N, q ∈ Ts) (ty0 : Nat → FieldType) (hty : ∀ k, k < N → parseFieldDescriptor (T k).2.2.1 = some (ty0 k)) (hnm : ∀ a, a < N → ∀ b, b < N → a ≠ b → (T a).2.1 ≠ (T b).2.1) (hown : s.vm.findClass own = some m.cls) (hK : va_K D cl tys s) {a : Nat} {fs : List Value} (he : w[a]? = some (.inr (ci, fs))) (hc : cl[ci]? = some (C, T, N)) (k : Nat) (hk : k < N)
    (hlink : (Cond.fieldLink own index ref (T k).2.1 (T k).2.2.1).before args s = true ∨ ∃ host, (Cond.fieldLinkNest own index ref (T k).2.1 (T k).2.2.1 host).before args s = true) (hsame : ref = (T k).1) (hfin : (T k).2.2.2 = false) {x : Int32} (hn : narrow (ty0 k) (.int x) = .int x) (hfit : fits (ty0 k) (.int x) = true) (hl : k < fs.length) (hd : decode cc pc = .ok (.putfield index, 3))
    (kk : xk_J p l e R s m args below meth c Q nL D dA ad A cl cells slots (pc + 3) L r (w.set a (.inr (ci, fs.set k (.int x))))) : xk_J p l e R s m args below meth c Q nL D dA ad A cl cells slots pc L (.int x :: .ref a :: r) w := by
  intro ls H locs h1 h2 h3 h4
  have hl' : k < (fs.map (xk_v ad)).length := by simpa using hl
  have hset : (xk_w dA ad w).set a (ad a, .inr (ci, (fs.map (xk_v ad)).set k (.int x))) = xk_w dA ad (w.set a (.inr (ci, fs.set k (.int x)))) := by
    rw [xk_w_set]
    show _ = (xk_w dA ad w).set a (ad a, .inr (ci, (fs.set k (.int x)).map (xk_v ad)))
    rw [List.map_set]
    rfl
  rcases hlink with hlink | ⟨host, hlink⟩
  · exact va_put hexec hb hts hin ty0 hty hnm hown hK h2 h3 h4 a (xk_w_at he) hc k hk hlink (fun x hx => by rw [hsame]; exact hx) hfin (hty k hk) hn hfit hl' hd (fun H1 locs1 g2 g3 g4 => kk ls H1 locs1 h1 (by rw [← hset]; exact g2) (by rw [← hset]; exact g3) g4)
  · exact va_putN hexec hb hts hin ty0 hty hnm hown hK h2 h3 h4 a (xk_w_at he) hc k hk hlink (fun x hx => by rw [hsame]; exact hx) hfin (hty k hk) hn hfit hl' hd (fun H1 locs1 g2 g3 g4 => kk ls H1 locs1 h1 (by rw [← hset]; exact g2) (by rw [← hset]; exact g3) g4)
theorem xk_iald (hexec : p.tables.exec = Jvm.exec) (hb : c.code = cc) (hK : va_K D cl tys s) {a t n : Nat} {f : Nat → Int32} (ha : w[a]? = some (.inl (t, n, .inl f))) (ht : tys[t]? = some (dA t, .int)) {i : Int32} (hin : vp_in i n) (hd : decode cc pc = .ok (.iaload, 1))
    (kk : xk_J p l e R s m args below meth c Q nL D dA ad A cl cells slots (pc + 1) L (.int (f i.toNatClampNeg) :: r) w) : xk_J p l e R s m args below meth c Q nL D dA ad A cl cells slots pc L (.int i :: .ref a :: r) w :=
  fun ls H locs h1 h2 h3 h4 => va_iald hexec hb hK h2 a t (xk_w_at ha) ht hin hd (kk ls H locs h1 h2 h3 h4)
theorem xk_zald (hexec : p.tables.exec = Jvm.exec) (hb : c.code = cc) (hK : va_K D cl tys s) {a t n : Nat} {f : Nat → Int32} (ha : w[a]? = some (.inl (t, n, .inl f))) (ht : tys[t]? = some (dA t, .boolean)) {i : Int32} (hin : vp_in i n) (hd : decode cc pc = .ok (.baload, 1))
    (kk : xk_J p l e R s m args below meth c Q nL D dA ad A cl cells slots (pc + 1) L (.int (f i.toNatClampNeg) :: r) w) : xk_J p l e R s m args below meth c Q nL D dA ad A cl cells slots pc L (.int i :: .ref a :: r) w :=
  fun ls H locs h1 h2 h3 h4 => va_zald hexec hb hK h2 a t (xk_w_at ha) ht hin hd (kk ls H locs h1 h2 h3 h4)
theorem xk_lald (hexec : p.tables.exec = Jvm.exec) (hb : c.code = cc) (hK : va_K D cl tys s) {a t n : Nat} {f : Nat → Int64} (ha : w[a]? = some (.inl (t, n, .inr f))) (ht : tys[t]? = some (dA t, .long)) {i : Int32} (hin : vp_in i n) (hd : decode cc pc = .ok (.laload, 1))
    (kk : xk_J p l e R s m args below meth c Q nL D dA ad A cl cells slots (pc + 1) L (.long (f i.toNatClampNeg) :: r) w) : xk_J p l e R s m args below meth c Q nL D dA ad A cl cells slots pc L (.int i :: .ref a :: r) w :=
  fun ls H locs h1 h2 h3 h4 => va_lald hexec hb hK h2 a t (xk_w_at ha) ht hin hd (kk ls H locs h1 h2 h3 h4)
theorem xk_iast (hexec : p.tables.exec = Jvm.exec) (hb : c.code = cc) (hK : va_K D cl tys s) {a t n : Nat} {f : Nat → Int32} (ha : w[a]? = some (.inl (t, n, .inl f))) (ht : tys[t]? = some (dA t, .int)) {i x : Int32} (hin : vp_in i n) (hd : decode cc pc = .ok (.iastore, 1))
    (kk : xk_J p l e R s m args below meth c Q nL D dA ad A cl cells slots (pc + 1) L r (w.set a (.inl (t, n, .inl (upd f i.toNatClampNeg x))))) : xk_J p l e R s m args below meth c Q nL D dA ad A cl cells slots pc L (.int x :: .int i :: .ref a :: r) w :=
  fun ls H locs h1 h2 h3 h4 => va_iast hexec hb hK h2 h3 h4 a t (xk_w_at ha) ht hin hd (fun H1 locs1 g2 g3 g4 => kk ls H1 locs1 h1 (by rw [xk_w_set]; exact g2) (by rw [xk_w_set]; exact g3) g4)
theorem xk_zast (hexec : p.tables.exec = Jvm.exec) (hb : c.code = cc) (hK : va_K D cl tys s) {a t n : Nat} {f : Nat → Int32} (ha : w[a]? = some (.inl (t, n, .inl f))) (ht : tys[t]? = some (dA t, .boolean)) {i x : Int32} (hin : vp_in i n) (hd : decode cc pc = .ok (.bastore, 1))
    (kk : xk_J p l e R s m args below meth c Q nL D dA ad A cl cells slots (pc + 1) L r (w.set a (.inl (t, n, .inl (upd f i.toNatClampNeg (vp_nar .boolean x)))))) : xk_J p l e R s m args below meth c Q nL D dA ad A cl cells slots pc L (.int x :: .int i :: .ref a :: r) w :=
  fun ls H locs h1 h2 h3 h4 => va_zast hexec hb hK h2 h3 h4 a t (xk_w_at ha) ht hin hd (fun H1 locs1 g2 g3 g4 => kk ls H1 locs1 h1 (by rw [xk_w_set]; exact g2) (by rw [xk_w_set]; exact g3) g4)
theorem xk_last (hexec : p.tables.exec = Jvm.exec) (hb : c.code = cc) (hK : va_K D cl tys s) {a t n : Nat} {f : Nat → Int64} (ha : w[a]? = some (.inl (t, n, .inr f))) (ht : tys[t]? = some (dA t, .long)) {i : Int32} {x : Int64} (hin : vp_in i n) (hd : decode cc pc = .ok (.lastore, 1))
    (kk : xk_J p l e R s m args below meth c Q nL D dA ad A cl cells slots (pc + 1) L r (w.set a (.inl (t, n, .inr (vp_updL f i.toNatClampNeg x))))) : xk_J p l e R s m args below meth c Q nL D dA ad A cl cells slots pc L (.long x :: .int i :: .ref a :: r) w :=
  fun ls H locs h1 h2 h3 h4 => va_last hexec hb hK h2 h3 h4 a t (xk_w_at ha) ht hin hd (fun H1 locs1 g2 g3 g4 => kk ls H1 locs1 h1 (by rw [xk_w_set]; exact g2) (by rw [xk_w_set]; exact g3) g4)
theorem xk_alen (hexec : p.tables.exec = Jvm.exec) (hb : c.code = cc) (hK : va_K D cl tys s) {a t n : Nat} {f : Nat → Int32} (ha : w[a]? = some (.inl (t, n, .inl f))) {ty : FieldType} (ht : tys[t]? = some (dA t, ty)) (hd : decode cc pc = .ok (.arraylength, 1))
    (kk : xk_J p l e R s m args below meth c Q nL D dA ad A cl cells slots (pc + 1) L (.int (Int32.ofNat n) :: r) w) : xk_J p l e R s m args below meth c Q nL D dA ad A cl cells slots pc L (.ref a :: r) w :=
  fun ls H locs h1 h2 h3 h4 => va_alen hexec hb hK h2 a t (xk_w_at ha) ht rfl hd (kk ls H locs h1 h2 h3 h4)
theorem xk_catsum (ad : Nat → Nat) : ∀ q : List Value, ((q.map (xk_v ad)).map fun v => v.category).sum ≤ 2 * q.length
  | [] => Nat.le_refl _
  | u :: q => by
    have ih := xk_catsum ad q
    have h9 : (xk_v ad u).category ≤ 2 := by cases u <;> simp [xk_v, Value.category]
    simp only [List.map_cons, List.sum_cons, List.length_cons]
    omega
theorem xk_max (hexec : p.tables.exec = Jvm.exec) (hb : c.code = cc) (hml : c.maxLocals = nL) {own : String} {index : Nat} (hown : s.vm.findClass own = some m.cls) (hlink : (Cond.methodLink own index Lib.Math.max.name).before args s = true) (hstat : (Cond.static Lib.Math.max.name).before args s = true) (hini : (Cond.initialized "java/lang/Math").before args s = true) (hcode : (Cond.code Lib.Math.max.name Lib.Math.max.code 2 (some .int)).before args s = true)
    (hframes : 1 ≤ R.frames) (hlocals : 21 ≤ R.locals) (hc : cells ≤ R.cells) (hs : slots ≤ R.slots) (hr : r.length ≤ 4) {x y : Int32} (hd : decode cc pc = .ok (.invokestatic index, 3))
    (kk : xk_J p l e R s m args below meth c Q nL D dA ad A cl cells slots (pc + 3) L (.int (if x < y then y else x) :: r) w) : xk_J p l e R s m args below meth c Q nL D dA ad A cl cells slots pc L (.int y :: .int x :: r) w := by
  intro ls H locs h1 h2 h3 h4
  have := xk_catsum ad r
  exact va_mmax hexec hb (hml.trans h1.1.symm) hown hlink hstat hini hcode hframes (by omega) hc hs hd (kk ls H locs h1 h2 h3 h4)
theorem xk_copy (hexec : p.tables.exec = Jvm.exec) (hb : c.code = cc) (hml : c.maxLocals = nL) {own : String} {index : Nat} (hown : s.vm.findClass own = some m.cls) (hlink : (Cond.methodLink own index arraycopyName).before args s = true) (hnat : (Cond.native arraycopyName).before args s = true) (hstat : (Cond.static arraycopyName).before args s = true) (hini : (Cond.initialized "java/lang/System").before args s = true) (hK : va_K D cl tys s)
    {a b na nb : Nat} {f g : Nat → Int32} (ha : w[a]? = some (.inl (0, na, .inl f))) (hbb : w[b]? = some (.inl (0, nb, .inl g))) (ht : tys[0]? = some (dA 0, .int)) {sp dp n : Int32} (h1 : 0 ≤ sp) (h2 : 0 ≤ dp) (h3 : 0 ≤ n) (h4 : sp.toNatClampNeg + n.toNatClampNeg ≤ na) (h5 : dp.toNatClampNeg + n.toNatClampNeg ≤ nb)
    (hframes : 1 ≤ R.frames) (hlocals : 26 ≤ R.locals) (hr : r.length ≤ 4) (hd : decode cc pc = .ok (.invokestatic index, 3))
    (kk : xk_J p l e R s m args below meth c Q nL D dA ad A cl cells slots (pc + 3) L r (w.set b (.inl (0, nb, .inl (va_cpy f g sp.toNatClampNeg dp.toNatClampNeg n.toNatClampNeg))))) : xk_J p l e R s m args below meth c Q nL D dA ad A cl cells slots pc L (.int n :: .int dp :: .ref b :: .int sp :: .ref a :: r) w := by
  intro ls H locs g1 g2 g3 g4
  have h9 := xk_catsum ad r
  have nn : ∀ z : Int32, 0 ≤ z → ¬ z < 0 := fun z hz hz2 => by
    have q1 := Int32.le_iff_toInt_le.mp hz
    have q2 := Int32.lt_iff_toInt_lt.mp hz2
    omega
  exact va_copyi hexec hb (hml.trans g1.1.symm) hown hlink hnat hstat hini hK g2 g3 g4 a b 0 0 (xk_w_at ha) (xk_w_at hbb) ht ht rfl (nn sp h1) (nn dp h2) (nn n h3) h4 h5 (fun i _ => rfl) hframes
    (by show _ + (7 + 11) ≤ R.locals; omega) hd (fun H1 locs1 q2 q3 q4 => kk ls H1 locs1 g1 (by rw [xk_w_set]; exact q2) (by rw [xk_w_set]; exact q3) q4)
end XkWorld
end
section
/-! An interpreter of resolved instructions over worlds. Instr's constructors serve as tags: 'iload n', 'aload n', 'istore n', 'astore n' of either length; 'iconst v' any constant; branches name the place of their target in the list; 'getfield x', 'putfield x' with x = 32 * class + field ('putstatic x': the same for a boolean field);
'invokeinterface j n': a call of method j with n values; 'invokedynamic 0': Math.max; 'invokedynamic 1': System.arraycopy of ints; 'new x': an exception of the kind x is made and thrown; 'freturn': ireturn of a boolean. -/
section XkInterp
abbrev xk_C : Type := Nat × List Value × List Value × xk_W
/-- an index within -/
def xk_ix (j : Int32) (n : Nat) : Bool := decide (0 ≤ j) && decide (j.toNatClampNeg < n)
abbrev xk_R : Type := (Option Value ⊕ Nat) × Nat × xk_W
/-- one plain instruction; sc: the law's script, which lies outside the world, at the place 999 -/
def xk_step (sc : Option (Nat × (Nat → Int32))) (mi : Instr) (i : Nat) (L st : List Value) (w : xk_W) : Option xk_C := match mi with
  | .iconst v => some (i + 1, L, .int (Int32.ofInt v) :: st, w)
  | .lconst v => some (i + 1, L, .long (Int64.ofNat v.val) :: st, w)
  | .iload n => match L[n]? with
    | some (.int x) => some (i + 1, L, .int x :: st, w)
    | _ => none
  | .aload n => match L[n]? with
    | some (.ref x) => some (i + 1, L, .ref x :: st, w)
    | _ => none
  | .istore n => match st with
    | .int x :: r => if n < L.length then some (i + 1, L.set n (.int x), r, w) else none
    | _ => none
  | .astore n => match st with
    | .ref x :: r => if n < L.length then some (i + 1, L.set n (.ref x), r, w) else none
    | _ => none
  | .iinc n v => match L[n]? with
    | some (.int x) => some (i + 1, L.set n (.int (x + Int32.ofInt v)), st, w)
    | _ => none
  | .iadd => match st with
    | .int y :: .int x :: r => some (i + 1, L, .int (x + y) :: r, w)
    | _ => none
  | .isub => match st with
    | .int y :: .int x :: r => some (i + 1, L, .int (x - y) :: r, w)
    | _ => none
  | .imul => match st with
    | .int y :: .int x :: r => some (i + 1, L, .int (x * y) :: r, w)
    | _ => none
  | .iand => match st with
    | .int y :: .int x :: r => some (i + 1, L, .int (x &&& y) :: r, w)
    | _ => none
  | .ior => match st with
    | .int y :: .int x :: r => some (i + 1, L, .int (x ||| y) :: r, w)
    | _ => none
  | .ixor => match st with
    | .int y :: .int x :: r => some (i + 1, L, .int (x ^^^ y) :: r, w)
    | _ => none
  | .ishl => match st with
    | .int y :: .int x :: r => some (i + 1, L, .int (x <<< (y &&& 31)) :: r, w)
    | _ => none
  | .ishr => match st with
    | .int y :: .int x :: r => some (i + 1, L, .int (x >>> (y &&& 31)) :: r, w)
    | _ => none
  | .iushr => match st with
    | .int y :: .int x :: r => some (i + 1, L, .int ((x.toUInt32 >>> (y.toUInt32 &&& Int32.toUInt32 31)).toInt32) :: r, w)
    | _ => none
  | .idiv => match st with
    | .int y :: .int x :: r => if y = 0 then none else some (i + 1, L, .int (x / y) :: r, w)
    | _ => none
  | .irem => match st with
    | .int y :: .int x :: r => if y = 0 then none else some (i + 1, L, .int (x % y) :: r, w)
    | _ => none
  | .ineg => match st with
    | .int x :: r => some (i + 1, L, .int (-x) :: r, w)
    | _ => none
  | .i2l => match st with
    | .int x :: r => some (i + 1, L, .long x.toInt64 :: r, w)
    | _ => none
  | .lcmp => match st with
    | .long y :: .long x :: r => some (i + 1, L, .int (lg_cmp x y) :: r, w)
    | _ => none
  | .dup => match st with
    | u :: r => if xk_one u then some (i + 1, L, u :: u :: r, w) else none
    | _ => none
  | .pop => match st with
    | u :: r => if xk_one u then some (i + 1, L, r, w) else none
    | _ => none
  | .dup_x1 => match st with
    | u :: v :: r => if xk_one u && xk_one v then some (i + 1, L, u :: v :: u :: r, w) else none
    | _ => none
  | .dup2 => match st with
    | u :: v :: r => if xk_one u && xk_one v then some (i + 1, L, u :: v :: u :: v :: r, w) else none
    | _ => none
  | .goto t => some (t.toNat, L, st, w)
  | .ifCond cd t => match st with
    | .int x :: r => match cd with
      | .eq => if x = 0 then some (t.toNat, L, r, w) else some (i + 1, L, r, w)
      | .ne => if x = 0 then some (i + 1, L, r, w) else some (t.toNat, L, r, w)
      | .lt => if x < 0 then some (t.toNat, L, r, w) else some (i + 1, L, r, w)
      | .ge => if 0 ≤ x then some (t.toNat, L, r, w) else some (i + 1, L, r, w)
      | .gt => if 0 < x then some (t.toNat, L, r, w) else some (i + 1, L, r, w)
      | .le => if x ≤ 0 then some (t.toNat, L, r, w) else some (i + 1, L, r, w)
    | _ => none
  | .if_icmp cd t => match st with
    | .int y :: .int x :: r => match cd with
      | .eq => if x = y then some (t.toNat, L, r, w) else some (i + 1, L, r, w)
      | .ne => if x = y then some (i + 1, L, r, w) else some (t.toNat, L, r, w)
      | .lt => if x < y then some (t.toNat, L, r, w) else some (i + 1, L, r, w)
      | .ge => if y ≤ x then some (t.toNat, L, r, w) else some (i + 1, L, r, w)
      | .gt => if y < x then some (t.toNat, L, r, w) else some (i + 1, L, r, w)
      | .le => if x ≤ y then some (t.toNat, L, r, w) else some (i + 1, L, r, w)
    | _ => none
  | .tableswitch d lo hi ts => match st with
    | .int x :: r => if x.toInt < lo ∨ hi < x.toInt then some (d.toNat, L, r, w) else match ts[(x.toInt - lo).toNat]? with
      | some t => some (t.toNat, L, r, w)
      | none => none
    | _ => none
  | .getfield x => match st with
    | .ref a :: r => match w[a]? with
      | some (.inr (ci, fs)) => if ci = x / 32 then (match fs[x % 32]? with
        | some v => some (i + 1, L, v :: r, w)
        | none => none) else none
      | _ => none
    | _ => none
  | .putfield x => match st with
    | .int v :: .ref a :: r => match w[a]? with
      | some (.inr (ci, fs)) => if ci = x / 32 ∧ x % 32 < fs.length then some (i + 1, L, r, w.set a (.inr (ci, fs.set (x % 32) (.int v)))) else none
      | _ => none
    | _ => none
  | .putstatic x => match st with
    | .int v :: .ref a :: r => match w[a]? with
      | some (.inr (ci, fs)) => if ci = x / 32 ∧ x % 32 < fs.length then (if v = 0 ∨ v = 1 then some (i + 1, L, r, w.set a (.inr (ci, fs.set (x % 32) (.int v)))) else none) else none
      | _ => none
    | _ => none
  | .iaload => match st with
    | .int j :: .ref a :: r => match w[a]? with
      | some (.inl (0, n, .inl f)) => if xk_ix j n then some (i + 1, L, .int (f j.toNatClampNeg) :: r, w) else none
      | none => if a = 999 then (match sc with
        | some (n, f) => if xk_ix j n then some (i + 1, L, .int (f j.toNatClampNeg) :: r, w) else none
        | none => none) else none
      | _ => none
    | _ => none
  | .arraylength => match st with
    | .ref a :: r => if a = 999 then (match sc with
        | some (n, _) => some (i + 1, L, .int (Int32.ofNat n) :: r, w)
        | none => none) else none
    | _ => none
  | .baload => match st with
    | .int j :: .ref a :: r => match w[a]? with
      | some (.inl (1, n, .inl f)) => if xk_ix j n then some (i + 1, L, .int (f j.toNatClampNeg) :: r, w) else none
      | _ => none
    | _ => none
  | .laload => match st with
    | .int j :: .ref a :: r => match w[a]? with
      | some (.inl (2, n, .inr f)) => if xk_ix j n then some (i + 1, L, .long (f j.toNatClampNeg) :: r, w) else none
      | _ => none
    | _ => none
  | .iastore => match st with
    | .int x :: .int j :: .ref a :: r => match w[a]? with
      | some (.inl (0, n, .inl f)) => if xk_ix j n then some (i + 1, L, r, w.set a (.inl (0, n, .inl (upd f j.toNatClampNeg x)))) else none
      | _ => none
    | _ => none
  | .bastore => match st with
    | .int x :: .int j :: .ref a :: r => match w[a]? with
      | some (.inl (1, n, .inl f)) => if xk_ix j n then some (i + 1, L, r, w.set a (.inl (1, n, .inl (upd f j.toNatClampNeg (vp_nar .boolean x))))) else none
      | _ => none
    | _ => none
  | .lastore => match st with
    | .long x :: .int j :: .ref a :: r => match w[a]? with
      | some (.inl (2, n, .inr f)) => if xk_ix j n then some (i + 1, L, r, w.set a (.inl (2, n, .inr (vp_updL f j.toNatClampNeg x)))) else none
      | _ => none
    | _ => none
  | .invokedynamic k => match k, st with
    | 0, .int y :: .int x :: r => if r.length ≤ 4 then some (i + 1, L, .int (if x < y then y else x) :: r, w) else none
    | 1, .int n :: .int dp :: .ref b :: .int sp :: .ref a :: r => match w[a]?, w[b]? with
      | some (.inl (0, na, .inl f)), some (.inl (0, nb, .inl g)) => if r.length ≤ 4 ∧ 0 ≤ sp ∧ 0 ≤ dp ∧ 0 ≤ n ∧ sp.toNatClampNeg + n.toNatClampNeg ≤ na ∧ dp.toNatClampNeg + n.toNatClampNeg ≤ nb then
          some (i + 1, L, r, w.set b (.inl (0, nb, .inl (va_cpy f g sp.toNatClampNeg dp.toNatClampNeg n.toNatClampNeg)))) else none
      | _, _ => none
    | _, _ => none
  | _ => none
/-- a method: its instructions, how many locals, the class of its receiver (none: static), its handlers: exception's kind, answer; the script, if it reads it -/
abbrev xk_M : Type := List Instr × Nat × Option Nat × List (Nat × Int) × Option (Nat × (Nat → Int32))
def xk_fit (P : Nat → xk_M) (j na : Nat) (st : List Value) (w : xk_W) : Bool :=
  decide (na ≤ st.length) && decide (st.length ≤ na + 4) && decide (na ≤ (P j).2.1) && (st.take na).all xk_one && (match (P j).2.2.1 with
    | none => true
    | some ci => match (st.take na).reverse with
      | .ref a :: _ => (match w[a]? with
        | some (.inr (c, _)) => decide (c = ci)
        | _ => false)
      | _ => false)
def xk_in (P : Nat → xk_M) (j na : Nat) (st : List Value) : List Value := (st.take na).reverse ++ List.replicate ((P j).2.1 - na) (.retAddr 0)
def xk_body (P : Nat → xk_M) (f : Nat → Nat → List Value → List Value → xk_W → Option xk_R) (k i : Nat) (L st : List Value) (w : xk_W) : Option xk_R :=
  match (P k).1[i]? with
  | none => none
  | some mi => match mi with
    | .return_ => match st with
      | [] => some (.inl none, 0, w)
      | _ => none
    | .ireturn => match st with
      | [.int x] => some (.inl (some (.int x)), 0, w)
      | _ => none
    | .freturn => match st with
      | [.int x] => if x = 0 ∨ x = 1 then some (.inl (some (.int x)), 0, w) else none
      | _ => none
    | .new x => match st with
      | [] => some (.inr x, 1, w)
      | _ => none
    | .invokeinterface j na => if xk_fit P j na st w then (match f j 0 (xk_in P j na st) [] w with
        | none => none
        | some (.inl v, d, w1) => match f k (i + 1) L (v.toList ++ st.drop na) w1 with
          | none => none
          | some (o, d2, w2) => some (o, d + d2, w2)
        | some (.inr x, d, w1) => if (P k).2.2.2.1.isEmpty then some (.inr x, d, w1) else match (P k).2.2.2.1.find? (fun q => q.1 == x) with
          | none => none
          | some q => some (.inl (some (.int (Int32.ofInt q.2))), d, w1)) else none
    | mi => match xk_step (P k).2.2.2.2 mi i L st w with
      | none => none
      | some (i1, L1, st1, w1) => f k i1 L1 st1 w1
def xk_run (P : Nat → xk_M) : Nat → Nat → Nat → List Value → List Value → xk_W → Option xk_R
  | 0 => fun _ _ _ _ _ => none
  | n + 1 => xk_body P (xk_run P n)
end XkInterp
end
section
/-! The interpreter is sound: what it says of a method, the machine does. -/
section XkSound
/-- of a method: its name, bytes, type of answer, the instructions' places in the bytes, the room that it needs: frames, words; its exception table -/
abbrev xk_F : Type := MethodName × ByteArray × Option FieldType × List Nat × Nat × Nat × List (Nat × Nat × Nat × Nat)
def xf_pc (F : Nat → xk_F) (k i : Nat) : Nat := (F k).2.2.2.1.getD i 0
/-- an instruction stands in the bytes -/
def xf_in (F : Nat → xk_F) (k i : Nat) (mi : Instr) (len : Nat) : Prop := decode (F k).2.1 (xf_pc F k i) = .ok (mi, len)
def xf_nx (F : Nat → xk_F) (k i len : Nat) : Prop := xf_pc F k (i + 1) = xf_pc F k i + len
def xf_to (F : Nat → xk_F) (k i : Nat) (off t : Int) : Prop := (xf_pc F k i : Int) + off = (xf_pc F k t.toNat : Int)
/-- a field's words -/
def xf_fd (cl : List vw_C) (BW NW : List Cond) (own : String) (idx x : Nat) : Prop :=
  ∃ (C : String) (T : u_T) (N : Nat), cl[x / 32]? = some (C, T, N) ∧ x % 32 < N ∧ (∀ q ∈ u_ws C T N, q ∈ BW) ∧
    (Cond.fieldLink own idx (T (x % 32)).1 (T (x % 32)).2.1 (T (x % 32)).2.2.1 ∈ BW ∨ ∃ host, Cond.fieldLinkNest own idx (T (x % 32)).1 (T (x % 32)).2.1 (T (x % 32)).2.2.1 host ∈ NW)
def xf_pf (cl : List vw_C) (x : Nat) (ty : FieldType) : Prop :=
  ∀ (C : String) (T : u_T) (N : Nat), cl[x / 32]? = some (C, T, N) → (T (x % 32)).2.2.2 = false ∧ ∃ ty0 : Nat → FieldType, ty0 (x % 32) = ty ∧ (∀ k, k < N → parseFieldDescriptor (T k).2.2.1 = some (ty0 k)) ∧ ∀ a, a < N → ∀ b, b < N → a ≠ b → (T a).2.1 ≠ (T b).2.1
/-- a plain instruction of the list is the one in the bytes -/
def xk_Ok (F : Nat → xk_F) (cl : List vw_C) (BW NW : List Cond) (k i : Nat) (mi : Instr) : Prop := match mi with
  | .iconst v => (xf_in F k i (.iconst v) 1 ∧ xf_nx F k i 1) ∨ (xf_in F k i (.bipush v) 2 ∧ (Int8.ofInt v).toInt32 = Int32.ofInt v ∧ xf_nx F k i 2) ∨ (xf_in F k i (.sipush v) 3 ∧ (Int16.ofInt v).toInt32 = Int32.ofInt v ∧ xf_nx F k i 3)
  | .iload n => (xf_in F k i (.iload n) 2 ∧ xf_nx F k i 2) ∨ ∃ q : Fin 4, (q : Nat) = n ∧ xf_in F k i (.iload_n q) 1 ∧ xf_nx F k i 1
  | .aload n => (xf_in F k i (.aload n) 2 ∧ xf_nx F k i 2) ∨ ∃ q : Fin 4, (q : Nat) = n ∧ xf_in F k i (.aload_n q) 1 ∧ xf_nx F k i 1
  | .istore n => (xf_in F k i (.istore n) 2 ∧ xf_nx F k i 2) ∨ ∃ q : Fin 4, (q : Nat) = n ∧ xf_in F k i (.istore_n q) 1 ∧ xf_nx F k i 1
  | .astore n => (xf_in F k i (.astore n) 2 ∧ xf_nx F k i 2) ∨ ∃ q : Fin 4, (q : Nat) = n ∧ xf_in F k i (.astore_n q) 1 ∧ xf_nx F k i 1
  | .iinc n v => xf_in F k i (.iinc n v) 3 ∧ xf_nx F k i 3
  | .goto t => ∃ off, xf_in F k i (.goto off) 3 ∧ xf_to F k i off t
  | .ifCond cd t => ∃ off, xf_in F k i (.ifCond cd off) 3 ∧ xf_to F k i off t ∧ xf_nx F k i 3
  | .if_icmp cd t => ∃ off, xf_in F k i (.if_icmp cd off) 3 ∧ xf_to F k i off t ∧ xf_nx F k i 3
  | .tableswitch d lo hi ts => ∃ (d0 : Int) (ts0 : Array Int) (len : Nat), xf_in F k i (.tableswitch d0 lo hi ts0) len ∧ xf_to F k i d0 d ∧ ∀ (j : Nat) (t : Int), ts[j]? = some t → ∃ t0, ts0[j]? = some t0 ∧ xf_to F k i t0 t
  | .getfield x => ∃ idx, xf_in F k i (.getfield idx) 3 ∧ xf_nx F k i 3 ∧ xf_fd cl BW NW (F k).1.cls idx x
  | .putfield x => ∃ idx, xf_in F k i (.putfield idx) 3 ∧ xf_nx F k i 3 ∧ xf_fd cl BW NW (F k).1.cls idx x ∧ xf_pf cl x .int
  | .putstatic x => ∃ idx, xf_in F k i (.putfield idx) 3 ∧ xf_nx F k i 3 ∧ xf_fd cl BW NW (F k).1.cls idx x ∧ xf_pf cl x .boolean
  | .invokedynamic q => ∃ idx, xf_in F k i (.invokestatic idx) 3 ∧ xf_nx F k i 3 ∧ 1 ≤ (F k).2.2.2.2.1 ∧ 26 ≤ (F k).2.2.2.2.2.1 ∧
      ((q = 0 ∧ Cond.methodLink (F k).1.cls idx Lib.Math.max.name ∈ BW ∧ Cond.static Lib.Math.max.name ∈ BW ∧ Cond.initialized "java/lang/Math" ∈ BW ∧ Cond.code Lib.Math.max.name Lib.Math.max.code 2 (some .int) ∈ BW) ∨
       (q = 1 ∧ Cond.methodLink (F k).1.cls idx arraycopyName ∈ BW ∧ Cond.native arraycopyName ∈ BW ∧ Cond.static arraycopyName ∈ BW ∧ Cond.initialized "java/lang/System" ∈ BW))
  | .lconst v => xf_in F k i (.lconst v) 1 ∧ xf_nx F k i 1
  | .iadd => xf_in F k i .iadd 1 ∧ xf_nx F k i 1
  | .isub => xf_in F k i .isub 1 ∧ xf_nx F k i 1
  | .imul => xf_in F k i .imul 1 ∧ xf_nx F k i 1
  | .iand => xf_in F k i .iand 1 ∧ xf_nx F k i 1
  | .ior => xf_in F k i .ior 1 ∧ xf_nx F k i 1
  | .ixor => xf_in F k i .ixor 1 ∧ xf_nx F k i 1
  | .ishl => xf_in F k i .ishl 1 ∧ xf_nx F k i 1
  | .ishr => xf_in F k i .ishr 1 ∧ xf_nx F k i 1
  | .iushr => xf_in F k i .iushr 1 ∧ xf_nx F k i 1
  | .idiv => xf_in F k i .idiv 1 ∧ xf_nx F k i 1
  | .irem => xf_in F k i .irem 1 ∧ xf_nx F k i 1
  | .ineg => xf_in F k i .ineg 1 ∧ xf_nx F k i 1
  | .i2l => xf_in F k i .i2l 1 ∧ xf_nx F k i 1
  | .lcmp => xf_in F k i .lcmp 1 ∧ xf_nx F k i 1
  | .dup => xf_in F k i .dup 1 ∧ xf_nx F k i 1
  | .pop => xf_in F k i .pop 1 ∧ xf_nx F k i 1
  | .dup_x1 => xf_in F k i .dup_x1 1 ∧ xf_nx F k i 1
  | .dup2 => xf_in F k i .dup2 1 ∧ xf_nx F k i 1
  | .iaload => xf_in F k i .iaload 1 ∧ xf_nx F k i 1
  | .arraylength => xf_in F k i .arraylength 1 ∧ xf_nx F k i 1
  | .baload => xf_in F k i .baload 1 ∧ xf_nx F k i 1
  | .laload => xf_in F k i .laload 1 ∧ xf_nx F k i 1
  | .iastore => xf_in F k i .iastore 1 ∧ xf_nx F k i 1
  | .bastore => xf_in F k i .bastore 1 ∧ xf_nx F k i 1
  | .lastore => xf_in F k i .lastore 1 ∧ xf_nx F k i 1
  | _ => False
def xk_t (dA : Nat → ClassId) : List (ClassId × FieldType) := [(dA 0, .int), (dA 1, .boolean), (dA 2, .long)]
/-- what is carried beside the words: links of nest mates, string constants, the two statics of Throwable that its constructor reads -/
def xk_G (NW : List Cond) (SW : List (String × Nat × String)) (A : Nat → Prop) (U : State) (H : Heap) : Prop :=
  (∀ q ∈ NW, va_Nw q U) ∧ (∀ q ∈ SW, ∃ a, vk_R q.1 q.2.1 q.2.2 a U) ∧ vx_Zq Bundle.tN "UNASSIGNED_STACK" Bundle.steD A U H ∧ vx_Zq Bundle.tN "SUPPRESSED_SENTINEL" Bundle.listD A U H
/-- the words that are carried beside: links of nest mates, what can't be cast, and what stays true under warmer tables -/
def xk_nest (q : Cond) : Bool := match q with
  | .fieldLinkNest .. => true
  | .methodLinkNest .. => true
  | .not (.castable ..) => true
  | q => q.onTables && q.keepsCast
theorem xk_nest_tabs {q : Cond} (h : xk_nest q = true) {B B' : Array Value} {u U : State} (hv : u.vm = U.vm) (hb : q.before B u = true) : q.before B' U = true := by
  unfold xk_nest at h
  split at h
  · exact va_tabs rfl hv hb
  · exact va_tabs rfl hv hb
  · simp only [Cond.before, Cond.holds, Cond.value] at hb ⊢
    rw [← hv]
    exact hb
  · exact va_tabs (Bool.and_eq_true_iff.mp h).1 hv hb
theorem xk_nest_warm {q : Cond} (h : xk_nest q = true) {s U : State} (hW : s.WarmedH U.vm) (hZ : va_Nw q s) : va_Nw q U := by
  have h0 := h
  unfold xk_nest at h
  split at h
  · exact va_Nw.warmF hW hZ
  · exact va_Nw.warmM hW hZ
  · exact xk_nest_tabs h0 (rfl : (s.setVm U.vm).vm = U.vm) (Cond.castAtom_setVm hW.alike _ rfl hZ)
  · exact xk_nest_tabs h0 (rfl : (s.setVm U.vm).vm = U.vm) (Cond.before_shiftedCast (State.Shifted.of_warmed hW) _ (Bool.and_eq_true_iff.mp h).2 hZ)
theorem xk_G.go {NW : List Cond} {SW : List (String × Nat × String)} {A B : Nat → Prop} {s U : State} {H : Heap} (hn : ∀ q ∈ NW, xk_nest q = true) (h : xk_G NW SW A s s.heap) (hW : s.WarmedH U.vm) (hH : ∀ a : Nat, a < s.heap.size → ¬ A a → H[a]? = s.heap[a]?) (hB : ∀ q, B q → A q) : xk_G NW SW B U H :=
  ⟨fun q hq => xk_nest_warm (hn q hq) hW (h.1 q hq), fun q hq => by
    obtain ⟨a, ha⟩ := h.2.1 q hq
    exact ⟨a, ha.warm hW⟩, ((h.2.2.1.moved hW.alike).kept hH).narrow hB, ((h.2.2.2.moved hW.alike).kept hH).narrow hB⟩
theorem xk_G.same {NW : List Cond} {SW : List (String × Nat × String)} {A : Nat → Prop} {u U : State} {H : Heap} (hn : ∀ q ∈ NW, xk_nest q = true) (h : xk_G NW SW A u H) (hv : U.vm = u.vm) : xk_G NW SW A U H :=
  ⟨fun q hq => xk_nest_tabs (hn q hq) hv.symm (h.1 q hq), fun q hq => by
    obtain ⟨a, ha⟩ := h.2.1 q hq
    exact ⟨a, ha.same hv⟩, h.2.2.1.moved (by rw [hv]; exact Vm.Alike.refl _), h.2.2.2.moved (by rw [hv]; exact Vm.Alike.refl _)⟩
/-- what holds of an invocation of the method k -/
def xk_X (F : Nat → xk_F) (P : Nat → xk_M) (cl : List vw_C) (BW NW : List Cond) (SW : List (String × Nat × String)) (D : va_G) (dA : Nat → ClassId) (ad : Nat → Nat) (A : Nat → Prop) (k : Nat) (p : Program) (R : Room) (s : State) (m : MethodId) (args : Array Value) (meth : Method) (c : Code) : Prop :=
  p.tables.exec = Jvm.exec ∧ c.code = (F k).2.1 ∧ c.maxLocals = (P k).2.1 ∧ s.vm.findClass (F k).1.cls = some m.cls ∧ (∀ q ∈ BW, q.before args s = true) ∧ (∀ q ∈ NW, q.before args s = true) ∧ va_K D cl (xk_t dA) s ∧ xk_G NW SW A s s.heap ∧
  (∀ q : Nat, s.heap.size ≤ q → A q) ∧ (F k).2.2.2.2.1 ≤ R.frames ∧ (F k).2.2.2.2.2.1 ≤ R.locals ∧ meth.locks = false ∧ meth.sig.returnType = (F k).2.2.1 ∧ c.exceptionTable.toList.map (fun h => (h.startPc, h.endPc, h.handlerPc, h.catchType)) = (F k).2.2.2.2.2.2 ∧
  ∀ (n : Nat) (f : Nat → Int32), (P k).2.2.2.2 = some (n, f) → va_X (ad 999) n f s s.heap ∧ ad 999 < s.heap.size ∧ ¬ A (ad 999)
variable {p : Program} {l : Launch} {e : Env} {R : Room} {s : State} {m : MethodId} {args : Array Value} {below : List Frame} {meth : Method} {c : Code} {Q : State → Prop} {D : va_G} {dA : Nat → ClassId} {ad : Nat → Nat} {A : Nat → Prop} {cl : List vw_C} {cells slots : Nat}
variable {F : Nat → xk_F} {P : Nat → xk_M} {BW NW : List Cond} {SW : List (String × Nat × String)} {k i i1 : Nat} {L L1 st st1 : List Value} {w w1 : xk_W} {mi : Instr}
theorem xk_Jat {nL pc pc' : Nat} (h : pc = pc') (kk : xk_J p l e R s m args below meth c Q nL D dA ad A cl cells slots pc L st w) : xk_J p l e R s m args below meth c Q nL D dA ad A cl cells slots pc' L st w := h ▸ kk
theorem xk_ix_in {j : Int32} {n : Nat} (h : xk_ix j n = true) : vp_in j n := by
  simp only [xk_ix, Bool.and_eq_true, decide_eq_true_eq] at h
  intro h2
  rcases h2 with h2 | h2
  · have h3 := Int32.le_iff_toInt_le.mp h.1
    have h4 := Int32.lt_iff_toInt_lt.mp h2
    omega
  · omega
set_option maxHeartbeats 4000000 in
set_option maxRecDepth 10000 in
theorem xk_step_sound (hx : xk_X F P cl BW NW SW D dA ad A k p R s m args meth c) (hok : xk_Ok F cl BW NW k i mi) (hL : L.length = (P k).2.1) (hcr : cells ≤ R.cells ∧ slots ≤ R.slots) (hs : xk_step (P k).2.2.2.2 mi i L st w = some (i1, L1, st1, w1))
    (kk : xk_J p l e R s m args below meth c Q (P k).2.1 D dA ad A cl cells slots (xf_pc F k i1) L1 st1 w1) : xk_J p l e R s m args below meth c Q (P k).2.1 D dA ad A cl cells slots (xf_pc F k i) L st w := by
  obtain ⟨hexec, hb, hml, hown, hts, hN, hK, hG, hA, hRf, hRl, hlk, hrt, hxt, hsc⟩ := hx
  cases mi
  all_goals first
    | exact False.elim hok
    | skip
  case iconst v =>
    simp only [xk_step, Option.some.injEq, Prod.mk.injEq] at hs
    obtain ⟨rfl, rfl, rfl, rfl⟩ := hs
    rcases hok with ⟨h1, h2⟩ | ⟨h1, h3, h2⟩ | ⟨h1, h3, h2⟩
    · exact xk_iconst hexec hb h1 rfl (xk_Jat h2 kk)
    · exact xk_bipush hexec hb h1 h3 (xk_Jat h2 kk)
    · exact xk_sipush hexec hb h1 h3 (xk_Jat h2 kk)
  case lconst v =>
    simp only [xk_step, Option.some.injEq, Prod.mk.injEq] at hs
    obtain ⟨rfl, rfl, rfl, rfl⟩ := hs
    exact xk_lconst hexec hb hok.1 rfl (xk_Jat hok.2 kk)
  case iload n =>
    simp only [xk_step] at hs
    split at hs
    · rename_i x hl
      simp only [Option.some.injEq, Prod.mk.injEq] at hs
      obtain ⟨rfl, rfl, rfl, rfl⟩ := hs
      rcases hok with ⟨h1, h2⟩ | ⟨q, hq, h1, h2⟩
      · exact xk_iload hexec hb (Or.inl ⟨h1, rfl⟩) hl (xk_Jat h2 kk)
      · exact xk_iload hexec hb (Or.inr ⟨q, hq, h1, rfl⟩) hl (xk_Jat h2 kk)
    · cases hs
  case aload n =>
    simp only [xk_step] at hs
    split at hs
    · rename_i x hl
      simp only [Option.some.injEq, Prod.mk.injEq] at hs
      obtain ⟨rfl, rfl, rfl, rfl⟩ := hs
      rcases hok with ⟨h1, h2⟩ | ⟨q, hq, h1, h2⟩
      · exact xk_aload hexec hb (Or.inl ⟨h1, rfl⟩) hl (xk_Jat h2 kk)
      · exact xk_aload hexec hb (Or.inr ⟨q, hq, h1, rfl⟩) hl (xk_Jat h2 kk)
    · cases hs
  case istore n =>
    simp only [xk_step] at hs
    split at hs
    · split at hs
      · rename_i hn
        simp only [Option.some.injEq, Prod.mk.injEq] at hs
        obtain ⟨rfl, rfl, rfl, rfl⟩ := hs
        rcases hok with ⟨h1, h2⟩ | ⟨q, hq, h1, h2⟩
        · exact xk_istore hexec hb (Or.inl ⟨h1, rfl⟩) hn (hL ▸ hn) (xk_Jat h2 kk)
        · exact xk_istore hexec hb (Or.inr ⟨q, hq, h1, rfl⟩) hn (hL ▸ hn) (xk_Jat h2 kk)
      · cases hs
    · cases hs
  case astore n =>
    simp only [xk_step] at hs
    split at hs
    · split at hs
      · rename_i hn
        simp only [Option.some.injEq, Prod.mk.injEq] at hs
        obtain ⟨rfl, rfl, rfl, rfl⟩ := hs
        rcases hok with ⟨h1, h2⟩ | ⟨q, hq, h1, h2⟩
        · exact xk_astore hexec hb (Or.inl ⟨h1, rfl⟩) hn (hL ▸ hn) (xk_Jat h2 kk)
        · exact xk_astore hexec hb (Or.inr ⟨q, hq, h1, rfl⟩) hn (hL ▸ hn) (xk_Jat h2 kk)
      · cases hs
    · cases hs
  case iinc n v =>
    simp only [xk_step] at hs
    split at hs
    · rename_i x hl
      simp only [Option.some.injEq, Prod.mk.injEq] at hs
      obtain ⟨rfl, rfl, rfl, rfl⟩ := hs
      exact xk_iinc hexec hb hok.1 hl (hL ▸ (List.getElem?_eq_some_iff.mp hl).1) (xk_Jat hok.2 kk)
    · cases hs
  case iadd =>
    simp only [xk_step] at hs
    split at hs
    · simp only [Option.some.injEq, Prod.mk.injEq] at hs
      obtain ⟨rfl, rfl, rfl, rfl⟩ := hs
      exact xk_iadd hexec hb hok.1 (xk_Jat hok.2 kk)
    · cases hs
  case isub =>
    simp only [xk_step] at hs
    split at hs
    · simp only [Option.some.injEq, Prod.mk.injEq] at hs
      obtain ⟨rfl, rfl, rfl, rfl⟩ := hs
      exact xk_isub hexec hb hok.1 (xk_Jat hok.2 kk)
    · cases hs
  case imul =>
    simp only [xk_step] at hs
    split at hs
    · simp only [Option.some.injEq, Prod.mk.injEq] at hs
      obtain ⟨rfl, rfl, rfl, rfl⟩ := hs
      exact xk_imul hexec hb hok.1 (xk_Jat hok.2 kk)
    · cases hs
  case iand =>
    simp only [xk_step] at hs
    split at hs
    · simp only [Option.some.injEq, Prod.mk.injEq] at hs
      obtain ⟨rfl, rfl, rfl, rfl⟩ := hs
      exact xk_iand hexec hb hok.1 (xk_Jat hok.2 kk)
    · cases hs
  case ior =>
    simp only [xk_step] at hs
    split at hs
    · simp only [Option.some.injEq, Prod.mk.injEq] at hs
      obtain ⟨rfl, rfl, rfl, rfl⟩ := hs
      exact xk_ior hexec hb hok.1 (xk_Jat hok.2 kk)
    · cases hs
  case ixor =>
    simp only [xk_step] at hs
    split at hs
    · simp only [Option.some.injEq, Prod.mk.injEq] at hs
      obtain ⟨rfl, rfl, rfl, rfl⟩ := hs
      exact xk_ixor hexec hb hok.1 (xk_Jat hok.2 kk)
    · cases hs
  case ishl =>
    simp only [xk_step] at hs
    split at hs
    · simp only [Option.some.injEq, Prod.mk.injEq] at hs
      obtain ⟨rfl, rfl, rfl, rfl⟩ := hs
      exact xk_ishl hexec hb hok.1 (xk_Jat hok.2 kk)
    · cases hs
  case ishr =>
    simp only [xk_step] at hs
    split at hs
    · simp only [Option.some.injEq, Prod.mk.injEq] at hs
      obtain ⟨rfl, rfl, rfl, rfl⟩ := hs
      exact xk_ishr hexec hb hok.1 (xk_Jat hok.2 kk)
    · cases hs
  case iushr =>
    simp only [xk_step] at hs
    split at hs
    · simp only [Option.some.injEq, Prod.mk.injEq] at hs
      obtain ⟨rfl, rfl, rfl, rfl⟩ := hs
      exact xk_iushr hexec hb hok.1 (xk_Jat hok.2 kk)
    · cases hs
  case idiv =>
    simp only [xk_step] at hs
    split at hs
    · split at hs
      · cases hs
      · rename_i hy
        simp only [Option.some.injEq, Prod.mk.injEq] at hs
        obtain ⟨rfl, rfl, rfl, rfl⟩ := hs
        exact xk_idiv hexec hb hok.1 hy (xk_Jat hok.2 kk)
    · cases hs
  case irem =>
    simp only [xk_step] at hs
    split at hs
    · split at hs
      · cases hs
      · rename_i hy
        simp only [Option.some.injEq, Prod.mk.injEq] at hs
        obtain ⟨rfl, rfl, rfl, rfl⟩ := hs
        exact xk_irem hexec hb hok.1 hy (xk_Jat hok.2 kk)
    · cases hs
  case ineg =>
    simp only [xk_step] at hs
    split at hs
    · simp only [Option.some.injEq, Prod.mk.injEq] at hs
      obtain ⟨rfl, rfl, rfl, rfl⟩ := hs
      exact xk_ineg hexec hb hok.1 (xk_Jat hok.2 kk)
    · cases hs
  case i2l =>
    simp only [xk_step] at hs
    split at hs
    · simp only [Option.some.injEq, Prod.mk.injEq] at hs
      obtain ⟨rfl, rfl, rfl, rfl⟩ := hs
      exact xk_i2l hexec hb hok.1 (xk_Jat hok.2 kk)
    · cases hs
  case lcmp =>
    simp only [xk_step] at hs
    split at hs
    · simp only [Option.some.injEq, Prod.mk.injEq] at hs
      obtain ⟨rfl, rfl, rfl, rfl⟩ := hs
      exact xk_lcmp hexec hb hok.1 (xk_Jat hok.2 kk)
    · cases hs
  case dup =>
    simp only [xk_step] at hs
    split at hs
    · split at hs
      · rename_i hu
        simp only [Option.some.injEq, Prod.mk.injEq] at hs
        obtain ⟨rfl, rfl, rfl, rfl⟩ := hs
        exact xk_dup hexec hb hok.1 hu (xk_Jat hok.2 kk)
      · cases hs
    · cases hs
  case pop =>
    simp only [xk_step] at hs
    split at hs
    · split at hs
      · rename_i hu
        simp only [Option.some.injEq, Prod.mk.injEq] at hs
        obtain ⟨rfl, rfl, rfl, rfl⟩ := hs
        exact xk_pop hexec hb hok.1 hu (xk_Jat hok.2 kk)
      · cases hs
    · cases hs
  case dup_x1 =>
    simp only [xk_step] at hs
    split at hs
    · split at hs
      · rename_i hu
        simp only [Option.some.injEq, Prod.mk.injEq] at hs
        obtain ⟨rfl, rfl, rfl, rfl⟩ := hs
        exact xk_dup_x1 hexec hb hok.1 (Bool.and_eq_true_iff.mp hu).1 (Bool.and_eq_true_iff.mp hu).2 (xk_Jat hok.2 kk)
      · cases hs
    · cases hs
  case dup2 =>
    simp only [xk_step] at hs
    split at hs
    · split at hs
      · rename_i hu
        simp only [Option.some.injEq, Prod.mk.injEq] at hs
        obtain ⟨rfl, rfl, rfl, rfl⟩ := hs
        exact xk_dup2 hexec hb hok.1 (Bool.and_eq_true_iff.mp hu).1 (Bool.and_eq_true_iff.mp hu).2 (xk_Jat hok.2 kk)
      · cases hs
    · cases hs
  case goto t =>
    simp only [xk_step, Option.some.injEq, Prod.mk.injEq] at hs
    obtain ⟨rfl, rfl, rfl, rfl⟩ := hs
    obtain ⟨off, h1, h2⟩ := hok
    exact xk_goto hexec hb h1 h2 kk
  case ifCond cd t =>
    obtain ⟨off, h1, h2, h3⟩ := hok
    simp only [xk_step] at hs
    split at hs
    · cases cd
      case eq =>
        dsimp only at hs
        refine xk_if_eq hexec hb h1 h2 (fun hq => ?_) (fun hq => ?_)
        · rw [if_pos hq] at hs
          cases hs
          exact kk
        · rw [if_neg hq] at hs
          cases hs
          exact xk_Jat h3 kk
      case ne =>
        dsimp only at hs
        refine xk_if_ne hexec hb h1 h2 (fun hq => ?_) (fun hq => ?_)
        · rw [if_neg hq] at hs
          cases hs
          exact kk
        · rw [if_pos hq] at hs
          cases hs
          exact xk_Jat h3 kk
      case lt =>
        dsimp only at hs
        refine xk_if_lt hexec hb h1 h2 (fun hq => ?_) (fun hq => ?_)
        · rw [if_pos hq] at hs
          cases hs
          exact kk
        · rw [if_neg hq] at hs
          cases hs
          exact xk_Jat h3 kk
      case ge =>
        dsimp only at hs
        refine xk_if_ge hexec hb h1 h2 (fun hq => ?_) (fun hq => ?_)
        · rw [if_pos hq] at hs
          cases hs
          exact kk
        · rw [if_neg hq] at hs
          cases hs
          exact xk_Jat h3 kk
      case gt =>
        dsimp only at hs
        refine xk_if_gt hexec hb h1 h2 (fun hq => ?_) (fun hq => ?_)
        · rw [if_pos hq] at hs
          cases hs
          exact kk
        · rw [if_neg hq] at hs
          cases hs
          exact xk_Jat h3 kk
      case le =>
        dsimp only at hs
        refine xk_if_le hexec hb h1 h2 (fun hq => ?_) (fun hq => ?_)
        · rw [if_pos hq] at hs
          cases hs
          exact kk
        · rw [if_neg hq] at hs
          cases hs
          exact xk_Jat h3 kk
    · cases hs
  case if_icmp cd t =>
    obtain ⟨off, h1, h2, h3⟩ := hok
    simp only [xk_step] at hs
    split at hs
    · cases cd
      case eq =>
        dsimp only at hs
        refine xk_icmp_eq hexec hb h1 h2 (fun hq => ?_) (fun hq => ?_)
        · rw [if_pos hq] at hs
          cases hs
          exact kk
        · rw [if_neg hq] at hs
          cases hs
          exact xk_Jat h3 kk
      case ne =>
        dsimp only at hs
        refine xk_icmp_ne hexec hb h1 h2 (fun hq => ?_) (fun hq => ?_)
        · rw [if_neg hq] at hs
          cases hs
          exact kk
        · rw [if_pos hq] at hs
          cases hs
          exact xk_Jat h3 kk
      case lt =>
        dsimp only at hs
        refine xk_icmp_lt hexec hb h1 h2 (fun hq => ?_) (fun hq => ?_)
        · rw [if_pos hq] at hs
          cases hs
          exact kk
        · rw [if_neg hq] at hs
          cases hs
          exact xk_Jat h3 kk
      case ge =>
        dsimp only at hs
        refine xk_icmp_ge hexec hb h1 h2 (fun hq => ?_) (fun hq => ?_)
        · rw [if_pos hq] at hs
          cases hs
          exact kk
        · rw [if_neg hq] at hs
          cases hs
          exact xk_Jat h3 kk
      case gt =>
        dsimp only at hs
        refine xk_icmp_gt hexec hb h1 h2 (fun hq => ?_) (fun hq => ?_)
        · rw [if_pos hq] at hs
          cases hs
          exact kk
        · rw [if_neg hq] at hs
          cases hs
          exact xk_Jat h3 kk
      case le =>
        dsimp only at hs
        refine xk_icmp_le hexec hb h1 h2 (fun hq => ?_) (fun hq => ?_)
        · rw [if_pos hq] at hs
          cases hs
          exact kk
        · rw [if_neg hq] at hs
          cases hs
          exact xk_Jat h3 kk
    · cases hs
  case tableswitch d lo hi ts =>
    obtain ⟨d0, ts0, len, h1, h2, h3⟩ := hok
    simp only [xk_step] at hs
    split at hs
    · split at hs
      · rename_i hq
        simp only [Option.some.injEq, Prod.mk.injEq] at hs
        obtain ⟨rfl, rfl, rfl, rfl⟩ := hs
        exact fun ls H locs g1 g2 g3 g4 => lv_tableOut hexec hb h1 hq h2 (kk ls H locs g1 g2 g3 g4)
      · rename_i hq
        split at hs
        · rename_i t ht
          simp only [Option.some.injEq, Prod.mk.injEq] at hs
          obtain ⟨rfl, rfl, rfl, rfl⟩ := hs
          obtain ⟨t0, h4, h5⟩ := h3 _ _ ht
          exact fun ls H locs g1 g2 g3 g4 => lv_tableIn hexec hb h1 (fun z => hq (Or.inl z)) (fun z => hq (Or.inr z)) h4 h5 (kk ls H locs g1 g2 g3 g4)
        · cases hs
    · cases hs
  case getfield x =>
    obtain ⟨idx, h1, h2, C, T, N, h3, h4, h5, h6⟩ := hok
    simp only [xk_step] at hs
    split at hs
    · split at hs
      · rename_i ci fs he
        split at hs
        · rename_i hci
          subst hci
          split at hs
          · rename_i v hv
            simp only [Option.some.injEq, Prod.mk.injEq] at hs
            obtain ⟨rfl, rfl, rfl, rfl⟩ := hs
            exact xk_get hexec hb hts h5 hown hK he h3 (x % 32) h4 (h6.imp (fun z => hts _ z) (fun ⟨host, z⟩ => ⟨host, hN _ z⟩)) rfl hv h1 (xk_Jat h2 kk)
          · cases hs
        · cases hs
      · cases hs
    · cases hs
  case putfield x =>
    obtain ⟨idx, h1, h2, ⟨C, T, N, h3, h4, h5, h6⟩, hpf⟩ := hok
    obtain ⟨h7, ty0, h8, h9, h10⟩ := hpf C T N h3
    simp only [xk_step] at hs
    split at hs
    · rename_i v a r
      split at hs
      · rename_i ci fs he
        split at hs
        · rename_i hci
          obtain ⟨hc1, hc2⟩ := id hci
          subst hc1
          simp only [Option.some.injEq, Prod.mk.injEq] at hs
          obtain ⟨rfl, rfl, rfl, rfl⟩ := hs
          exact xk_put hexec hb hts h5 ty0 h9 h10 hown hK he h3 (x % 32) h4 (h6.imp (fun z => hts _ z) (fun ⟨host, z⟩ => ⟨host, hN _ z⟩)) rfl h7 (by rw [h8]; rfl) (by rw [h8]; rfl) hci.2 h1 (xk_Jat h2 kk)
        · cases hs
      · cases hs
    · cases hs
  case putstatic x =>
    obtain ⟨idx, h1, h2, ⟨C, T, N, h3, h4, h5, h6⟩, hpf⟩ := hok
    obtain ⟨h7, ty0, h8, h9, h10⟩ := hpf C T N h3
    simp only [xk_step] at hs
    split at hs
    · rename_i v a r
      split at hs
      · rename_i ci fs he
        split at hs
        · rename_i hci
          obtain ⟨hc1, hc2⟩ := id hci
          subst hc1
          split at hs
          · rename_i hv
            simp only [Option.some.injEq, Prod.mk.injEq] at hs
            obtain ⟨rfl, rfl, rfl, rfl⟩ := hs
            have hn : narrow .boolean (.int v) = .int v := by rcases hv with rfl | rfl <;> rfl
            have hf : fits .boolean (.int v) = true := by rcases hv with rfl | rfl <;> rfl
            exact xk_put hexec hb hts h5 ty0 h9 h10 hown hK he h3 (x % 32) h4 (h6.imp (fun z => hts _ z) (fun ⟨host, z⟩ => ⟨host, hN _ z⟩)) rfl h7 (by rw [h8]; exact hn) (by rw [h8]; exact hf) hci.2 h1 (xk_Jat h2 kk)
          · cases hs
        · cases hs
      · cases hs
    · cases hs
  case iaload =>
    simp only [xk_step] at hs
    split at hs
    · split at hs
      · rename_i he
        split at hs
        · rename_i hix
          simp only [Option.some.injEq, Prod.mk.injEq] at hs
          obtain ⟨rfl, rfl, rfl, rfl⟩ := hs
          exact xk_iald hexec hb hK he rfl (xk_ix_in hix) hok.1 (xk_Jat hok.2 kk)
        · cases hs
      · split at hs
        · rename_i ha
          subst ha
          split at hs
          · rename_i n f hsc1
            split at hs
            · rename_i hix
              simp only [Option.some.injEq, Prod.mk.injEq] at hs
              obtain ⟨rfl, rfl, rfl, rfl⟩ := hs
              obtain ⟨x1, x2, x3⟩ := hsc n f hsc1
              have k2 := xk_Jat hok.2 kk
              exact fun ls H locs g1 g2 g3 g4 => va_sld hexec hb x1 x2 x3 g4 (xk_ix_in hix) hok.1 (k2 ls H locs g1 g2 g3 g4)
            · cases hs
          · cases hs
        · cases hs
      · cases hs
    · cases hs
  case arraylength =>
    simp only [xk_step] at hs
    split at hs
    · split at hs
      · rename_i ha
        subst ha
        split at hs
        · rename_i n f hsc1
          simp only [Option.some.injEq, Prod.mk.injEq] at hs
          obtain ⟨rfl, rfl, rfl, rfl⟩ := hs
          obtain ⟨x1, x2, x3⟩ := hsc n f hsc1
          have k2 := xk_Jat hok.2 kk
          exact fun ls H locs g1 g2 g3 g4 => va_slen hexec hb x1 x2 x3 g4 hok.1 (k2 ls H locs g1 g2 g3 g4)
        · cases hs
      · cases hs
    · cases hs
  case baload =>
    simp only [xk_step] at hs
    split at hs
    · split at hs
      · rename_i he
        split at hs
        · rename_i hix
          simp only [Option.some.injEq, Prod.mk.injEq] at hs
          obtain ⟨rfl, rfl, rfl, rfl⟩ := hs
          exact xk_zald hexec hb hK he rfl (xk_ix_in hix) hok.1 (xk_Jat hok.2 kk)
        · cases hs
      · cases hs
    · cases hs
  case laload =>
    simp only [xk_step] at hs
    split at hs
    · split at hs
      · rename_i he
        split at hs
        · rename_i hix
          simp only [Option.some.injEq, Prod.mk.injEq] at hs
          obtain ⟨rfl, rfl, rfl, rfl⟩ := hs
          exact xk_lald hexec hb hK he rfl (xk_ix_in hix) hok.1 (xk_Jat hok.2 kk)
        · cases hs
      · cases hs
    · cases hs
  case iastore =>
    simp only [xk_step] at hs
    split at hs
    · split at hs
      · rename_i he
        split at hs
        · rename_i hix
          simp only [Option.some.injEq, Prod.mk.injEq] at hs
          obtain ⟨rfl, rfl, rfl, rfl⟩ := hs
          exact xk_iast hexec hb hK he rfl (xk_ix_in hix) hok.1 (xk_Jat hok.2 kk)
        · cases hs
      · cases hs
    · cases hs
  case bastore =>
    simp only [xk_step] at hs
    split at hs
    · split at hs
      · rename_i he
        split at hs
        · rename_i hix
          simp only [Option.some.injEq, Prod.mk.injEq] at hs
          obtain ⟨rfl, rfl, rfl, rfl⟩ := hs
          exact xk_zast hexec hb hK he rfl (xk_ix_in hix) hok.1 (xk_Jat hok.2 kk)
        · cases hs
      · cases hs
    · cases hs
  case lastore =>
    simp only [xk_step] at hs
    split at hs
    · split at hs
      · rename_i he
        split at hs
        · rename_i hix
          simp only [Option.some.injEq, Prod.mk.injEq] at hs
          obtain ⟨rfl, rfl, rfl, rfl⟩ := hs
          exact xk_last hexec hb hK he rfl (xk_ix_in hix) hok.1 (xk_Jat hok.2 kk)
        · cases hs
      · cases hs
    · cases hs
  case invokedynamic q =>
    obtain ⟨idx, h1, h2, h3, h4, h5⟩ := hok
    simp only [xk_step] at hs
    split at hs
    · split at hs
      · rename_i hr
        cases hs
        rcases h5 with ⟨-, h5, h6, h7, h8⟩ | ⟨h5, -⟩
        · exact xk_max hexec hb hml hown (hts _ h5) (hts _ h6) (hts _ h7) (hts _ h8) (by omega) (by omega) hcr.1 hcr.2 hr h1 (xk_Jat h2 kk)
        · cases h5
      · cases hs
    · split at hs
      · rename_i ha hbb
        split at hs
        · rename_i hq
          cases hs
          rcases h5 with ⟨h5, -⟩ | ⟨-, h5, h6, h7, h8⟩
          · cases h5
          · exact xk_copy hexec hb hml hown (hts _ h5) (hts _ h6) (hts _ h7) (hts _ h8) hK ha hbb rfl hq.2.1 hq.2.2.1 hq.2.2.2.1 hq.2.2.2.2.1 hq.2.2.2.2.2 (by omega) (by omega) hq.1 h1 (xk_Jat h2 kk)
        · cases hs
      · cases hs
    · cases hs
end XkSound
end
section
/-! Calls of the interpreter's methods. -/
section XkCall2
variable {p : Program} {l : Launch} {e : Env} {R : Room} {s : State} {m : MethodId} {args : Array Value} {below : List Frame} {meth : Method} {c : Code} {Q : State → Prop} {D : va_G} {dA : Nat → ClassId} {ad : Nat → Nat} {A : Nat → Prop} {cl : List vw_C} {cells slots : Nat}
variable {F : Nat → xk_F} {P : Nat → xk_M} {BW NW : List Cond} {SW : List (String × Nat × String)} {k i j na : Nat} {L st : List Value} {w w1 : xk_W}
/-- a method's code stands in the words -/
def xf_cd (F : Nat → xk_F) (P : Nat → xk_M) (BW : List Cond) (j : Nat) : Prop := (Cond.code (F j).1 (F j).2.1 (P j).2.1 (F j).2.2.1 ∈ BW ∧ (F j).2.2.2.2.2.2 = []) ∨ Cond.codeWith (F j).1 (F j).2.1 (P j).2.1 (F j).2.2.1 (F j).2.2.2.2.2.2 ∈ BW
theorem xf_cd.spec (h : xf_cd F P BW j) {U : State} {a : Array Value} (hts : ∀ q ∈ BW, q.before a U = true) : ∃ mk methY cY, U.methodNamed? (F j).1 = some mk ∧ U.vm.method? mk = some methY ∧ methY.code = some cY ∧ cY.code = (F j).2.1 ∧ cY.maxLocals = (P j).2.1 ∧ methY.sig.returnType = (F j).2.2.1 ∧ methY.locks = false ∧ parseMethodDescriptor (F j).1.desc = some methY.sig ∧ cY.exceptionTable.toList.map (fun h => (h.startPc, h.endPc, h.handlerPc, h.catchType)) = (F j).2.2.2.2.2.2 := by
  rcases h with ⟨h, h0⟩ | h
  · have h1 := hts _ h
    obtain ⟨mk, hn⟩ := Cond.code_named h1
    obtain ⟨methY, cY, a1, a2, a3, a4, a5, a6, a8, a7⟩ := Cond.code_spec hn h1
    refine ⟨mk, methY, cY, hn, a1, a2, a3, a4, a5, a6, a7, ?_⟩
    have h2 : cY.exceptionTable.size = 0 := by simpa [Array.isEmpty] using a8
    have h3 : cY.exceptionTable.toList = [] := List.eq_nil_of_length_eq_zero (by simpa using h2)
    rw [h0, h3]
    rfl
  · obtain ⟨mk, methY, cY, hn, a1, a2, a3, a4, a8, a5, a6, a7⟩ := Cond.codeWith_spec (hts _ h)
    exact ⟨mk, methY, cY, hn, a1, a2, a3, a4, a5, a6, a7, a8⟩
def xf_lk (BW NW : List Cond) (own : String) (idx : Nat) (y : MethodName) : Prop := Cond.methodLink own idx y ∈ BW ∨ ∃ host, Cond.methodLinkNest own idx y host ∈ NW
/-- a call's words -/
def xk_Oc (F : Nat → xk_F) (P : Nat → xk_M) (cl : List vw_C) (BW NW : List Cond) (k i j na : Nat) : Prop :=
  xf_nx F k i 3 ∧ xf_cd F P BW j ∧ (P j).2.2.2.2 = none ∧ xf_pc F j 0 = 0 ∧ Cond.initialized (F j).1.cls ∈ BW ∧ ((F j).1.cls ≠ "java/lang/invoke/MethodHandle" ∧ (F j).1.cls ≠ "java/lang/invoke/VarHandle") ∧ (F j).2.2.2.2.1 + 1 ≤ (F k).2.2.2.2.1 ∧ 8 + ((P j).2.1 + 11) + (F j).2.2.2.2.2.1 ≤ (F k).2.2.2.2.2.1 ∧
  ∃ idx, xf_lk BW NW (F k).1.cls idx (F j).1 ∧
    ((xf_in F k i (.invokestatic idx) 3 ∧ Cond.static (F j).1 ∈ BW ∧ (P j).2.2.1 = none ∧ (parseMethodDescriptor (F j).1.desc).map (fun d => d.parameters.length) = some na) ∨
     (xf_in F k i (.invokevirtual idx) 3 ∧ Cond.instanceMethod (F j).1 ∈ BW ∧ Cond.selects (F j).1.cls (F j).1 (F j).1 ∈ BW ∧ (∃ ci T N, (P j).2.2.1 = some ci ∧ cl[ci]? = some ((F j).1.cls, T, N)) ∧ (parseMethodDescriptor (F j).1.desc).map (fun d => d.parameters.length + 1) = some na))
theorem xk_recv {a ci : Nat} {fs : List Value} {T : u_T} {N : Nat} {C : String} {H : Heap} (hK : va_K D cl (xk_t dA) s) (hP : va_P D cl (xk_w dA ad w) H) (he : w[a]? = some (.inr (ci, fs))) (hc : cl[ci]? = some (C, T, N)) :
    ∃ cell : Cell, H[ad a]? = some cell ∧ cell.vm.isStatics = false ∧ s.vm.findClass C = some cell.cls := by
  obtain ⟨r, h1, cell, q1, q2, q3, -⟩ := hP a _ (xk_w_at he)
  obtain ⟨-, hfc, -⟩ := hK.1 ci _ hc
  exact ⟨cell, q1, by rw [q3]; rfl, by rw [q2]; exact hfc⟩
set_option maxHeartbeats 2000000 in
/-- the invoking instruction's own step -/
theorem xk_invoke {T : State} {locs : List Loc} (X : Stand p l e R s m args below meth c T locs cells slots) (hx : xk_X F P cl BW NW SW D dA ad A k p R s m args meth c) (hc : xk_Oc F P cl BW NW k i j na) (hP : va_P D cl (xk_w dA ad w) T.heap)
    (hf : xk_fit P j na st w = true) {ls : Array Slot} :
    ∃ (mk : MethodId) (methY : Method) (cY : Code) (vm₁ : Vm), Stand p l e R s m args below meth c (T.setVm vm₁) locs cells slots ∧ (T.setVm vm₁).methodNamed? (F j).1 = some mk ∧ (T.setVm vm₁).vm.method? mk = some methY ∧ methY.code = some cY ∧ cY.maxLocals = (P j).2.1 ∧
      ∃ ig, decode c.code (xf_pc F k i) = .ok (ig, 3) ∧
      ∀ target, (∀ acts, Steps p.tables e below (doInvoke e ((T.setVm vm₁).setTop (F0 m (xf_pc F k i) ls ((st.drop na).map (xk_v ad)))) acts mk (((st.take na).reverse).map (xk_v ad)).toArray).1 target) →
        Steps p.tables e below (T.setTop (F0 m (xf_pc F k i) ls (st.map (xk_v ad)))) target := by
  obtain ⟨hexec, hb, hml, hown, hts, hN, hK, hG, hA, hRf, hRl, hlk, hrt, hxt, hsc⟩ := hx
  obtain ⟨hnx, hcd, -, -, hini, hy, hr1, hr2, idx, hlink, hkind⟩ := hc
  obtain ⟨mk, methY, cY, hn, a1, a2, a3, a4, a5, a6, a7, -⟩ := hcd.spec hts
  obtain ⟨kY, hkY, -⟩ := className_of_methodNamed hn
  have hinitY : kY.init = .initialized := Cond.initialized_spec (findClass_of_methodNamed hn) hkY (hts _ hini)
  simp only [xk_fit, Bool.and_eq_true, decide_eq_true_eq] at hf
  obtain ⟨⟨⟨⟨f1, f2⟩, f3⟩, f4⟩, f5⟩ := hf
  have hst : st.map (xk_v ad) = (((st.take na).reverse).map (xk_v ad)).reverse ++ (st.drop na).map (xk_v ad) := by
    rw [← List.map_reverse, List.reverse_reverse, ← List.map_append, List.take_append_drop]
  rcases hkind with ⟨hin, hstat, hrc, hlen⟩ | ⟨hin, hinst, hsel, ⟨ci, TT, N, hrc, hcl⟩, hlen⟩
  · have hlen2 : (((st.take na).reverse).map (xk_v ad)).length = methY.sig.parameters.length := by
      rw [a7] at hlen
      have := Option.some.inj hlen
      rw [List.length_map, List.length_reverse, List.length_take, Nat.min_eq_left f1]
      exact this.symm
    have hstatic : methY.isStatic = true := Cond.static_spec hn a1 (hts _ hstat)
    rcases hlink with hlink | ⟨host, hlink⟩
    · obtain ⟨vm₁, X₁, step⟩ := X.invokestatic hexec hown (hts _ hlink) hn a1 hstatic hkY hinitY hy (g := F0 m (xf_pc F k i) ls (st.map (xk_v ad))) rfl hlen2 hst (by rw [hb]; exact hin)
      exact ⟨mk, methY, cY, vm₁, X₁, X₁.named hn, by rw [X₁.warmed.alike.method?]; exact a1, a2, a4, _, by rw [hb]; exact hin, step⟩
    · obtain ⟨vm₁, X₁, step⟩ := X.invokestaticNest hexec hown (hN _ hlink) hn a1 hstatic hkY hinitY hy (g := F0 m (xf_pc F k i) ls (st.map (xk_v ad))) rfl hlen2 hst (by rw [hb]; exact hin)
      exact ⟨mk, methY, cY, vm₁, X₁, X₁.named hn, by rw [X₁.warmed.alike.method?]; exact a1, a2, a4, _, by rw [hb]; exact hin, step⟩
  · rw [hrc] at f5
    dsimp only at f5
    split at f5
    · rename_i a vs hvs
      split at f5
      · rename_i c0 fs he
        have hc0 : c0 = ci := of_decide_eq_true f5
        subst hc0
        obtain ⟨cellB, hcB, hoB, hclB⟩ := xk_recv hK hP he hcl
        obtain ⟨mk', methM, hnamed, hmethM, hstM, habM⟩ := Cond.instanceMethod_spec (hts _ hinst)
        cases hn.symm.trans hnamed
        cases a1.symm.trans hmethM
        obtain ⟨c2, r2, m2, q1, q2, q3, q4, kP, hkP, hkPi⟩ := Cond.selects_spec (hts _ hsel)
        cases hclB.symm.trans q1
        cases (State.methodFound?_of_named hn hy).symm.trans q2
        cases hn.symm.trans q3
        have hselP : selectMethod e.platform s.vm cellB.cls mk = .method mk := by rw [Launch.admits_selectMethod X.admits]; exact q4
        have hlen2 : (vs.map (xk_v ad)).length = methY.sig.parameters.length := by
          rw [a7] at hlen
          have h8 := Option.some.inj hlen
          have h9 : ((st.take na).reverse).length = na := by rw [List.length_reverse, List.length_take, Nat.min_eq_left f1]
          rw [hvs] at h9
          simp only [List.length_cons] at h9
          rw [List.length_map]
          have h8 : methY.sig.parameters.length + 1 = na := h8
          omega
        have hst2 : st.map (xk_v ad) = (vs.map (xk_v ad)).reverse ++ .ref (ad a) :: (st.drop na).map (xk_v ad) := by
          rw [hst, hvs]
          simp [xk_v]
        have hvv : (((st.take na).reverse).map (xk_v ad)) = .ref (ad a) :: vs.map (xk_v ad) := by rw [hvs]; rfl
        rw [hvv]
        rcases hlink with hlink | ⟨host, hlink⟩
        · obtain ⟨vm₁, X₁, step⟩ := X.invokevirtual hexec hown (hts _ hlink) hn a1 hstM hkP hkPi hy (a := ad a) (cell := cellB) hcB (fun z h => by rw [h] at hoB; cases hoB) hselP a1 habM hkP hkPi (g := F0 m (xf_pc F k i) ls (st.map (xk_v ad))) rfl hlen2 hst2 (by rw [hb]; exact hin)
          exact ⟨mk, methY, cY, vm₁, X₁, X₁.named hn, by rw [X₁.warmed.alike.method?]; exact a1, a2, a4, _, by rw [hb]; exact hin, step⟩
        · obtain ⟨vm₁, X₁, step⟩ := X.invokevirtualNest hexec hown (hN _ hlink) hn a1 hstM hkP hkPi hy (a := ad a) (cell := cellB) hcB (fun z h => by rw [h] at hoB; cases hoB) hselP a1 habM hkP hkPi (g := F0 m (xf_pc F k i) ls (st.map (xk_v ad))) rfl hlen2 hst2 (by rw [hb]; exact hin)
          exact ⟨mk, methY, cY, vm₁, X₁, X₁.named hn, by rw [X₁.warmed.alike.method?]; exact a1, a2, a4, _, by rw [hb]; exact hin, step⟩
      · cases f5
    · cases f5
/-- a contract's start -/
def xk_Pc (cl : List vw_C) (NW : List Cond) (SW : List (String × Nat × String)) (D : va_G) (dA : Nat → ClassId) (ad : Nat → Nat) (w : xk_W) (sz : Nat) (vs : List Value) : Array Value → State → Prop := fun a U =>
  a = (vs.map (xk_v ad)).toArray ∧ U.heap.size = sz ∧ va_P D cl (xk_w dA ad w) U.heap ∧ va_K D cl (xk_t dA) U ∧ va_D (fun _ => True) (xk_w dA ad w) ∧ xk_G NW SW (va_A (xk_w dA ad w) sz) U U.heap
/-- and its end: 'exn x' is the name of the exceptions of the kind x -/
def xk_Qc (cl : List vw_C) (exn : Nat → String) (D : va_G) (dA : Nat → ClassId) (ad : Nat → Nat) (B : Nat → Prop) (o : Option Value ⊕ Nat) (w1 : xk_W) : Array Value → State → Outcome → State → Prop := fun _ st oc t =>
  va_F B st t ∧ va_P D cl (xk_w dA ad w1) t.heap ∧ (match o with
    | .inl v => oc = .returned (v.map (xk_v ad))
    | .inr x => ∃ (a : Nat) (ce : Cell), oc = .threw a ∧ t.heap[a]? = some ce ∧ ce.vm = .none ∧ t.vm.findClass (exn x) = some ce.cls)
def xk_rm (F : Nat → xk_F) (j d : Nat) : Room := { frames := (F j).2.2.2.2.1, cells := d, slots := 6 * d, locals := (F j).2.2.2.2.2.1 }
/-- **the contract** of the method j on these values and this world -/
def xk_Con (l : Launch) (F : Nat → xk_F) (cl : List vw_C) (BW NW : List Cond) (SW : List (String × Nat × String)) (exn : Nat → String) (j : Nat) (vs : List Value) (w : xk_W) (o : Option Value ⊕ Nat) (d : Nat) (w1 : xk_W) : Prop :=
  ∀ (D : va_G) (dA : Nat → ClassId) (ad : Nat → Nat) (sz : Nat), xk_Kn l (F j).1 BW (xk_rm F j d) (xk_Pc cl NW SW D dA ad w sz vs) (xk_Qc cl exn D dA ad (va_A (xk_w dA ad w) sz) o w1) d (6 * d) (va_A (xk_w dA ad w) sz)
/-- the walk, where an exception of the kind x has come to it -/
def xk_T (p : Program) (l : Launch) (e : Env) (R : Room) (s : State) (m : MethodId) (args : Array Value) (below : List Frame) (meth : Method) (c : Code) (Q : State → Prop) (nL : Nat) (D : va_G) (dA : Nat → ClassId) (ad : Nat → Nat) (A : Nat → Prop) (cl : List vw_C) (exn : Nat → String)
    (cells slots : Nat) (pc : Nat) (L st : List Value) (x : Nat) (w : xk_W) : Prop :=
  ∀ (ls : Array Slot) (H : Heap) (locs : List Loc) (a : Nat) (ce : Cell), lv_has ls nL (xk_l ad L) → va_P D cl (xk_w dA ad w) H → va_D A (xk_w dA ad w) → va_S A s.heap H locs → H[a]? = some ce → ce.vm = .none → s.vm.findClass (exn x) = some ce.cls →
    ∀ T : State, T.heap = H → Stand p l e R s m args below meth c T locs cells slots → ∃ t, Steps p.tables e below ((T.setTop (F0 m pc ls (st.map (xk_v ad)))).pushFrame (.throwing a)) t ∧ Q t
variable {exn : Nat → String}
theorem xk_D_len {B : Nat → Prop} (h : va_D B (xk_w dA ad w)) (hl : w1.length = w.length) : va_D B (xk_w dA ad w1) := by
  have key : ∀ (i : Nat) (q : Nat × va_E), (xk_w dA ad w1)[i]? = some q → ∃ q', (xk_w dA ad w)[i]? = some q' ∧ q'.1 = q.1 := by
    intro i q hq
    rw [xk_w_get, Option.map_eq_some_iff] at hq
    obtain ⟨x, hx, rfl⟩ := hq
    have hi : i < w.length := by rw [← hl]; exact (List.getElem?_eq_some_iff.mp hx).1
    exact ⟨_, xk_w_at (List.getElem?_eq_getElem hi), rfl⟩
  refine ⟨fun i j p q hp hq hpq => ?_, fun i q hq => ?_⟩
  · obtain ⟨p', hp', e1⟩ := key i p hp
    obtain ⟨q', hq', e2⟩ := key j q hq
    exact h.1 i j p' q' hp' hq' (by rw [e1, e2, hpq])
  · obtain ⟨q', hq', e2⟩ := key i q hq
    rw [← e2]
    exact h.2 i q' hq'
set_option maxHeartbeats 2000000 in
/-- **a call** -/
theorem xk_J_call {o : Option Value ⊕ Nat} {d : Nat} (hx : xk_X F P cl BW NW SW D dA ad A k p R s m args meth c) (hgood : ∀ q ∈ BW, goodWord q = true) (hgn : ∀ q ∈ NW, xk_nest q = true)
    (hc : xk_Oc F P cl BW NW k i j na) (hf : xk_fit P j na st w = true) (hM : xk_Con l F cl BW NW SW exn j ((st.take na).reverse) w o d w1) (hl : w1.length = w.length) (hr : cells + d ≤ R.cells ∧ slots + 6 * d ≤ R.slots)
    (kr : ∀ v, o = .inl v → xk_J p l e R s m args below meth c Q (P k).2.1 D dA ad A cl (cells + d) (slots + 6 * d) (xf_pc F k (i + 1)) L (v.toList ++ st.drop na) w1)
    (kt : ∀ x, o = .inr x → xk_T p l e R s m args below meth c Q (P k).2.1 D dA ad A cl exn (cells + d) (slots + 6 * d) (xf_pc F k i) L (st.drop na) x w1) :
    xk_J p l e R s m args below meth c Q (P k).2.1 D dA ad A cl cells slots (xf_pc F k i) L st w := by
  intro ls H locs g1 g2 g3 g4 T hT X
  subst hT
  obtain ⟨mk, methY, cY, vm₁, X₁, hn, a1, a2, a4, ig, hdg, step⟩ := xk_invoke X hx hc g2 hf (ls := ls)
  have hx0 := hx
  have hf0 := hf
  obtain ⟨hexec, hb, hml, hown, hts, hN, hK, hG, hA, hRf, hRl, hlk, hrt, hxt, hsc⟩ := hx
  obtain ⟨hnx, hcd, -, -, hini, hy, hr1, hr2, -⟩ := hc
  simp only [xk_fit, Bool.and_eq_true, decide_eq_true_eq] at hf
  obtain ⟨⟨⟨⟨f1, f2⟩, f3⟩, f4⟩, f5⟩ := hf
  have hcat : ∀ q : List Value, ((q.map (xk_v ad)).map fun v => v.category).sum ≤ 2 * q.length := by
    intro q
    induction q with
    | nil => exact Nat.le_refl _
    | cons u q ih =>
      have h9 : (xk_v ad u).category ≤ 2 := by cases u <;> simp [xk_v, Value.category]
      simp only [List.map_cons, List.sum_cons, List.length_cons]
      omega
  have hW : 2 * (F0 m (xf_pc F k i) ls ((st.drop na).map (xk_v ad))).monitorRoom + (((F0 m (xf_pc F k i) ls ((st.drop na).map (xk_v ad))).stack).map fun v => v.category).sum ≤ 8 := by
    show 2 * 0 + (((st.drop na).map (xk_v ad)).map fun v => v.category).sum ≤ 8
    have := hcat (st.drop na)
    rw [List.length_drop] at this
    omega
  have hAA : ∀ q, va_A (xk_w dA ad w) T.heap.size q → A q := by
    rintro q (⟨k9, e9, h9⟩ | h9)
    · exact g3.2 k9 _ h9
    · exact hA q (Nat.le_trans g4.1 h9)
  obtain ⟨o', t, B, L', XB, hL', hBh, hBv, hq, hsteps⟩ := xk_call X₁ (hM D dA ad T.heap.size) (g := F0 m (xf_pc F k i) ls ((st.drop na).map (xk_v ad))) rfl (by rw [hml]; exact g1.1) hdg hW hn a1 a2 a4
    (fun a' q hq => word_at X₁.warmed (good_of_word (hgood q hq)) (hts q hq)) (fun a' => word_at X₁.warmed (good_of_word (hgood _ hini)) (hts _ hini))
    (by show (F j).2.2.2.2.1 + 1 ≤ R.frames; omega) (by show 8 + ((P j).2.1 + 11) + (F j).2.2.2.2.2.1 ≤ R.locals; omega) (by show cells + d ≤ _; exact hr.1) (by show slots + 6 * d ≤ _; exact hr.2)
    (a := (((st.take na).reverse).map (xk_v ad)).toArray)
    (fun g mk => ⟨rfl, rfl, g2, va_K.moved (u := s) (U := (T.setVm vm₁).calling g mk _) X₁.warmed.alike hK, g3.weaken (fun _ _ _ _ => trivial),
      xk_G.same (u := T.setVm vm₁) hgn (hG.go hgn X₁.warmed (fun q h1 h2 => g4.2.1 q h1 h2) hAA) rfl⟩)
  obtain ⟨hF, hP1, ho⟩ := hq
  have hF1 : T.heap.size ≤ t.heap.size := hF.1
  have hF2 : ∀ q : Nat, q < T.heap.size → ¬ va_A (xk_w dA ad w) T.heap.size q → t.heap[q]? = T.heap[q]? := hF.2
  have hS1 : va_S A s.heap t.heap (locs ++ L') := by
    refine ⟨Nat.le_trans g4.1 hF1, fun q h1 h2 => ?_, fun q hq => ?_⟩
    · rw [hF2 q (Nat.lt_of_lt_of_le h1 g4.1) (fun z => h2 (hAA q z))]
      exact g4.2.1 q h1 h2
    · rcases List.mem_append.mp hq with h | h
      · exact g4.2.2 q h
      · exact hAA _ (hL' q h)
  have hD1 : va_D A (xk_w dA ad w1) := xk_D_len g3 hl
  cases o with
  | inl v =>
    dsimp only at ho
    subst ho
    obtain ⟨t2, s2, q2⟩ := kr v rfl ls t.heap (locs ++ L') g1 hP1 hD1 hS1 B hBh XB
    refine ⟨t2, step t2 (fun acts => ?_), q2⟩
    rw [doInvoke_state]
    refine hsteps.trans ?_
    have e1 : xk_after B (F0 m (xf_pc F k i) ls ((st.drop na).map (xk_v ad))) 3 (.returned (v.map (xk_v ad))) = B.setTop (F0 m (xf_pc F k (i + 1)) ls ((v.toList ++ st.drop na).map (xk_v ad))) := by
      have e2 : xf_pc F k (i + 1) = xf_pc F k i + 3 := hnx
      rw [e2]
      cases v <;> rfl
    rw [e1]
    exact s2
  | inr x =>
    obtain ⟨a, ce, rfl, h1, h2, h3⟩ := ho
    obtain ⟨t2, s2, q2⟩ := kt x rfl ls t.heap (locs ++ L') a ce g1 hP1 hD1 hS1 h1 h2 (by rw [← XB.warmed.alike.findClass, hBv]; exact h3) B hBh XB
    refine ⟨t2, step t2 (fun acts => ?_), q2⟩
    rw [doInvoke_state]
    exact hsteps.trans s2
end XkCall2
end
section
/-! The interpreter is sound: the whole. -/
section XkMain
variable {p : Program} {l : Launch} {e : Env} {R : Room} {s : State} {m : MethodId} {args : Array Value} {below : List Frame} {meth : Method} {c : Code} {Q : State → Prop} {D : va_G} {dA : Nat → ClassId} {ad : Nat → Nat} {A : Nat → Prop} {cl : List vw_C} {cells slots : Nat}
variable {F : Nat → xk_F} {P : Nat → xk_M} {BW NW : List Cond} {SW : List (String × Nat × String)} {exn : Nat → String} {k i j na : Nat} {L st : List Value} {w w1 : xk_W}
/-- a throwing place's words: new, dup, ldc, invokespecial, athrow -/
def xk_On (F : Nat → xk_F) (BW NW : List Cond) (SW : List (String × Nat × String)) (exn : Nat → String) (k i x : Nat) : Prop :=
  ∃ (ix is ic : Nat) (tx : String) (names : List String), xf_in F k i (.new ix) 3 ∧ decode (F k).2.1 (xf_pc F k i + 3) = .ok (.dup, 1) ∧
    ((F k).1.cls, is, tx) ∈ SW ∧ Cond.classLink (F k).1.cls ix (exn x) ∈ BW ∧ Cond.initialized (exn x) ∈ BW ∧ Bundle.fit (exn x) = true ∧ (∀ n ∈ names, Bundle.fit n = true) ∧ (F k).2.2.2.2.2.2 = [] ∧
    (((∀ q ∈ vx_atS (F k).1.cls ic (exn x) names, q ∈ BW ∨ q ∈ NW) ∧ (∀ q ∈ Cond.classLink (F k).1.cls ix (exn x) :: Cond.initialized (exn x) :: vx_atS (F k).1.cls ic (exn x) names, vx_ot q = true) ∧
      names.length + 3 < (F k).2.2.2.2.1 ∧ 13 * (names.length + 1) + 43 ≤ (F k).2.2.2.2.2.1 ∧
      ((decode (F k).2.1 (xf_pc F k i + 4) = .ok (.ldc is, 2) ∧ decode (F k).2.1 (xf_pc F k i + 6) = .ok (.invokespecial ic, 3) ∧ decode (F k).2.1 (xf_pc F k i + 9) = .ok (.athrow, 1)) ∨
       (decode (F k).2.1 (xf_pc F k i + 4) = .ok (.ldc_w is, 3) ∧ decode (F k).2.1 (xf_pc F k i + 7) = .ok (.invokespecial ic, 3) ∧ decode (F k).2.1 (xf_pc F k i + 10) = .ok (.athrow, 1)))) ∨
     ∃ (Y : String) (ip : Nat) (bytes : ByteArray), Bundle.fit Y = true ∧ decode bytes 0 = .ok (.aload_n 0, 1) ∧ decode bytes 1 = .ok (.aload_n 1, 1) ∧ decode bytes 2 = .ok (.invokespecial ip, 3) ∧ decode bytes 5 = .ok (.return_, 1) ∧
      (∀ q ∈ xg_atoms (F k).1.cls ic (exn x) Y ip bytes names, q ∈ BW ∨ q ∈ NW) ∧ (∀ q ∈ Cond.classLink (F k).1.cls ix (exn x) :: Cond.initialized (exn x) :: xg_atoms (F k).1.cls ic (exn x) Y ip bytes names, vx_ot q = true) ∧
      names.length + 4 < (F k).2.2.2.2.1 ∧ 13 * (names.length + 2) + 43 ≤ (F k).2.2.2.2.2.1 ∧
      decode (F k).2.1 (xf_pc F k i + 4) = .ok (.ldc is, 2) ∧ decode (F k).2.1 (xf_pc F k i + 6) = .ok (.invokespecial ic, 3) ∧ decode (F k).2.1 (xf_pc F k i + 9) = .ok (.athrow, 1))
/-- the end of a method that throws: what its goal asks -/
def xk_ET (below : List Frame) (s : State) (Q : State → Prop) (D : va_G) (dA : Nat → ClassId) (ad : Nat → Nat) (A : Nat → Prop) (cl : List vw_C) (exn : Nat → String) (cells slots x : Nat) (w : xk_W) : Prop :=
  ∀ (U : State) (a : Nat) (ce : Cell) (locs : List Loc), U.status = .running → Ended U below (.threw a) → s.WarmedH U.vm → s.sameButNew ({ U with vm := s.vm } : State) locs cells slots → va_P D cl (xk_w dA ad w) U.heap → va_S A s.heap U.heap locs → U.heap[a]? = some ce → ce.vm = .none → U.vm.findClass (exn x) = some ce.cls → Q U
/-- out of a method that has no handlers -/
theorem xk_T_out {pc x : Nat} (hx : xk_X F P cl BW NW SW D dA ad A k p R s m args meth c) (h0 : (F k).2.2.2.2.2.2 = []) (h : xk_ET below s Q D dA ad A cl exn cells slots x w) : xk_T p l e R s m args below meth c Q (P k).2.1 D dA ad A cl exn cells slots pc L st x w := by
  obtain ⟨hexec, hb, hml, hown, hts, hN, hK, hG, hA, hRf, hRl, hlk, hrt, hxt, hsc⟩ := hx
  intro ls H locs a ce g1 g2 g3 g4 h2 h3 h4 T hT X
  subst hT
  have hE : c.exceptionTable.toList = [] := by rw [h0] at hxt; exact List.map_eq_nil_iff.mp hxt
  obtain ⟨q1, q2, q3, q4, q5⟩ := X.leaveThrown a (g := F0 m pc ls (st.map (xk_v ad))) rfl rfl rfl (fun y hy => by rw [hE] at hy; cases hy) hlk
  exact ⟨_, q1, h _ a ce locs q2 q3 q4 q5 g2 g4 h2 h3 (by rw [show (T.setFrames (.throwing a :: below)).vm = T.vm from rfl, X.warmed.alike.findClass]; exact h4)⟩
set_option maxHeartbeats 4000000 in
/-- **an exception is made and thrown** -/
theorem xk_J_throw {x : Nat} (hx : xk_X F P cl BW NW SW D dA ad A k p R s m args meth c) (hgood : ∀ q ∈ BW, goodWord q = true) (htr : l.stackTraces = false) (hn : xk_On F BW NW SW exn k i x) (hr : cells + 1 ≤ R.cells ∧ slots + 6 ≤ R.slots)
    (h : xk_ET below s Q D dA ad A cl exn (cells + 1) (slots + 6) x w) : xk_J p l e R s m args below meth c Q (P k).2.1 D dA ad A cl cells slots (xf_pc F k i) L [] w := by
  obtain ⟨hexec, hb, hml, hown, hts, hN, hK, hG, hA, hRf, hRl, hlk, hrt, hxt, hsc⟩ := hx
  obtain ⟨ix, is, ic, tx, names, d1, d2, hsw, hcl, hini, hfx, hfn, h0, hcase⟩ := hn
  intro ls H locs g1 g2 g3 g4
  have hE : c.exceptionTable.toList = [] := by rw [h0] at hxt; exact List.map_eq_nil_iff.mp hxt
  obtain ⟨qs, hqs⟩ := hG.2.1 _ hsw
  have hB : ∀ l0 : List Cond, (∀ q ∈ l0, q ∈ BW ∨ q ∈ NW) → ∀ q ∈ l0, q.before args s = true := fun l0 h9 q hq => (h9 q hq).elim (hts q) (hN q)
  have key : W p l e R s m args below meth c H locs cells slots (fun U => ∃ (a : Nat) (ce : Cell) (L2 : List Loc), U.status = .running ∧ Ended U below (.threw a) ∧ s.WarmedH U.vm ∧ s.sameButNew ({ U with vm := s.vm } : State) L2 (cells + 1) (slots + 6) ∧ (∀ z ∈ L2, A z.base) ∧ H.size ≤ U.heap.size ∧ (∀ q : Nat, q < H.size → U.heap[q]? = H[q]?) ∧ U.heap[a]? = some ce ∧ ce.vm = .none ∧ s.vm.findClass (exn x) = some ce.cls) (F0 m (xf_pc F k i) ls []) := by
    rcases hcase with ⟨hat, hot, hr1, hr2, dd⟩ | ⟨Y, ip, bytes, hfy, b0, b1, b2, b5, hat, hot, hr1, hr2, d3, d4, d5⟩
    · have k2 : W p l e R s m args below meth c H locs cells slots (vx_MQ below (fun _ _ _ _ => False) (fun E st t => E = exn x ∧ H.size ≤ t.heap.size ∧ ∀ q : Nat, q < H.size → t.heap[q]? = H[q]?) args s (cells + 1) (slots + 6) A) (F0 m (xf_pc F k i) ls []) := by
        rcases dd with ⟨d3, d4, d5⟩ | ⟨d3, d4, d5⟩
        · exact vx_throwS hexec hb htr hown hfx hfn (hts _ hcl) (hts _ hini) hqs (hB _ hat) hot hG.2.2.1 hG.2.2.2 g4 (by rw [hml]; exact g1.1) d1 d2 d3 d4 d5 (fun y hy => by rw [hE] at hy; cases hy) (by omega) (by show 0 + _ ≤ _; omega) hr.1 hr.2 hlk (fun t h1 h2 h3 => ⟨rfl, h2, h3⟩) g4.2.2 (Nat.le_refl _) (Nat.le_refl _)
        · exact vx_throwSW hexec hb htr hown hfx hfn (hts _ hcl) (hts _ hini) hqs (hB _ hat) hot hG.2.2.1 hG.2.2.2 g4 (by rw [hml]; exact g1.1) d1 d2 d3 d4 d5 (fun y hy => by rw [hE] at hy; cases hy) (by omega) (by show 0 + _ ≤ _; omega) hr.1 hr.2 hlk (fun t h1 h2 h3 => ⟨rfl, h2, h3⟩) g4.2.2 (Nat.le_refl _) (Nat.le_refl _)
      refine xk_Wmono (fun U hU => ?_) k2
      obtain ⟨o, u1, u2, u3⟩ := hU
      rcases u3 with ⟨u3, -⟩ | ⟨a, rfl, E, ce, L2, ⟨rfl, v1, v2⟩, v3, v4, v5, v6, v7, v8⟩
      · exact u3.elim
      · exact ⟨a, ce, L2, u1, u2, v6, v7, v8, v1, v2, v3, v4, v5⟩
    · refine xk_Wmono (fun U hU => ?_) (xg_throwS hexec hb htr hown hfx hfy hfn b0 b1 b2 b5 (hts _ hcl) (hts _ hini) hqs (hB _ hat) hot hG.2.2.1 hG.2.2.2 g4 (by rw [hml]; exact g1.1) d1 d2 d3 d4 d5 (fun y hy => by rw [hE] at hy; cases hy) (by omega) (by omega) hr.1 hr.2 hlk)
      obtain ⟨a, ce, u1, u2, u3, u4, u5, u6, u7, u8, u9⟩ := hU
      exact ⟨a, ce, locs, u1, u2, u3, u4, g4.2.2, u5, u6, u7, u8, u9⟩
  refine xk_Wmono (fun U hU => ?_) key
  obtain ⟨a, ce, L2, u1, u2, v6, v7, v8, v1, v2, v3, v4, v5⟩ := hU
  refine h U a ce L2 u1 u2 v6 v7 ?_ ?_ v3 v4 ?_
  · exact g2.kept (fun k9 q9 h9 => v2 _ (g2 k9 q9 h9).lt)
  · refine ⟨Nat.le_trans g4.1 v1, fun q q1 q2 => ?_, v8⟩
    rw [v2 q (Nat.lt_of_lt_of_le q1 g4.1)]
    exact g4.2.1 q q1 q2
  · rw [v6.alike.findClass]
    exact v5
end XkMain
end
section
/-! What the interpreter answers, said without its fuel. -/
section XkEv
variable {P : Nat → xk_M} {k i i1 j na N : Nat} {L L1 st st1 : List Value} {w w1 w2 : xk_W} {r : xk_R} {mi : Instr}
def xk_Ev (P : Nat → xk_M) (k i : Nat) (L st : List Value) (w : xk_W) (r : xk_R) : Prop := ∃ n, ∀ q, n ≤ q → xk_run P q k i L st w = some r
set_option maxHeartbeats 2000000 in
theorem xk_body_step {f : Nat → Nat → List Value → List Value → xk_W → Option xk_R} (h : (P k).1[i]? = some mi) (hs : xk_step (P k).2.2.2.2 mi i L st w = some (i1, L1, st1, w1)) : xk_body P f k i L st w = f k i1 L1 st1 w1 := by
  unfold xk_body
  rw [h]
  cases mi <;> first
    | (dsimp only; rw [hs])
    | (simp only [xk_step] at hs; cases hs)
theorem xk_Ev.step (h : (P k).1[i]? = some mi) (hs : xk_step (P k).2.2.2.2 mi i L st w = some (i1, L1, st1, w1)) (hk : xk_Ev P k i1 L1 st1 w1 r) : xk_Ev P k i L st w r := by
  obtain ⟨n, hn⟩ := hk
  refine ⟨n + 1, fun q hq => ?_⟩
  obtain ⟨q', rfl⟩ : ∃ q', q = q' + 1 := ⟨q - 1, by omega⟩
  show xk_body P (xk_run P q') k i L st w = some r
  rw [xk_body_step h hs]
  exact hn q' (by omega)
/-- several plain instructions -/
def xk_go (P : Nat → xk_M) (k : Nat) : Nat → xk_C → Option xk_C
  | 0, c => some c
  | n + 1, (i, L, st, w) => match (P k).1[i]? with
    | none => none
    | some mi => match xk_step (P k).2.2.2.2 mi i L st w with
      | none => none
      | some c' => xk_go P k n c'
theorem xk_Ev.go' : ∀ (N : Nat) (c c' : xk_C), xk_go P k N c = some c' → xk_Ev P k c'.1 c'.2.1 c'.2.2.1 c'.2.2.2 r → xk_Ev P k c.1 c.2.1 c.2.2.1 c.2.2.2 r
  | 0, c, c', h, hk => by
    have e : c = c' := Option.some.inj h
    rw [e]
    exact hk
  | N + 1, (i, L, st, w), c', h, hk => by
    unfold xk_go at h
    split at h
    · cases h
    · rename_i mi hm
      split at h
      · cases h
      · rename_i c1 hs
        exact xk_Ev.step hm hs (xk_Ev.go' N c1 c' h hk)
theorem xk_Ev.go (N : Nat) (h : xk_go P k N (i, L, st, w) = some (i1, L1, st1, w1)) (hk : xk_Ev P k i1 L1 st1 w1 r) : xk_Ev P k i L st w r := xk_Ev.go' N _ _ h hk
/-- a branch -/
theorem xk_Ev.br {b : Prop} [Decidable b] {i2 : Nat} {L2 st2 : List Value} {w2 : xk_W} (h : (P k).1[i]? = some mi) (hs : xk_step (P k).2.2.2.2 mi i L st w = if b then some (i1, L1, st1, w1) else some (i2, L2, st2, w2)) (ht : b → xk_Ev P k i1 L1 st1 w1 r) (hf : ¬ b → xk_Ev P k i2 L2 st2 w2 r) : xk_Ev P k i L st w r := by
  by_cases hb : b
  · rw [if_pos hb] at hs
    exact xk_Ev.step h hs (ht hb)
  · rw [if_neg hb] at hs
    exact xk_Ev.step h hs (hf hb)
/-- an instruction that asks something -/
theorem xk_Ev.ok {b : Prop} [Decidable b] (hb : b) (h : (P k).1[i]? = some mi) (hs : xk_step (P k).2.2.2.2 mi i L st w = if b then some (i1, L1, st1, w1) else none) (hk : xk_Ev P k i1 L1 st1 w1 r) : xk_Ev P k i L st w r := by
  rw [if_pos hb] at hs
  exact xk_Ev.step h hs hk
theorem xk_Ev.no {b : Prop} [Decidable b] (hb : ¬ b) (h : (P k).1[i]? = some mi) (hs : xk_step (P k).2.2.2.2 mi i L st w = if b then none else some (i1, L1, st1, w1)) (hk : xk_Ev P k i1 L1 st1 w1 r) : xk_Ev P k i L st w r := by
  rw [if_neg hb] at hs
  exact xk_Ev.step h hs hk
theorem xk_Ev.ret (h : (P k).1[i]? = some .return_) : xk_Ev P k i L [] w (.inl none, 0, w) :=
  ⟨1, fun q hq => by
    obtain ⟨q', rfl⟩ : ∃ q', q = q' + 1 := ⟨q - 1, by omega⟩
    show xk_body P (xk_run P q') k i L [] w = _
    unfold xk_body
    rw [h]⟩
theorem xk_Ev.iret {x : Int32} (h : (P k).1[i]? = some .ireturn) : xk_Ev P k i L [.int x] w (.inl (some (.int x)), 0, w) :=
  ⟨1, fun q hq => by
    obtain ⟨q', rfl⟩ : ∃ q', q = q' + 1 := ⟨q - 1, by omega⟩
    show xk_body P (xk_run P q') k i L [.int x] w = _
    unfold xk_body
    rw [h]⟩
theorem xk_Ev.zret {x : Int32} (h : (P k).1[i]? = some .freturn) (hx : x = 0 ∨ x = 1) : xk_Ev P k i L [.int x] w (.inl (some (.int x)), 0, w) :=
  ⟨1, fun q hq => by
    obtain ⟨q', rfl⟩ : ∃ q', q = q' + 1 := ⟨q - 1, by omega⟩
    show xk_body P (xk_run P q') k i L [.int x] w = _
    unfold xk_body
    rw [h]
    dsimp only
    rw [if_pos hx]⟩
theorem xk_Ev.thr {x : Nat} (h : (P k).1[i]? = some (.new x)) : xk_Ev P k i L [] w (.inr x, 1, w) :=
  ⟨1, fun q hq => by
    obtain ⟨q', rfl⟩ : ∃ q', q = q' + 1 := ⟨q - 1, by omega⟩
    show xk_body P (xk_run P q') k i L [] w = _
    unfold xk_body
    rw [h]⟩
/-- a call that returns -/
theorem xk_Ev.call {v : Option Value} {d d2 : Nat} {o : Option Value ⊕ Nat} (h : (P k).1[i]? = some (.invokeinterface j na)) (hf : xk_fit P j na st w = true) (hc : xk_Ev P j 0 (xk_in P j na st) [] w (.inl v, d, w1)) (hk : xk_Ev P k (i + 1) L (v.toList ++ st.drop na) w1 (o, d2, w2)) : xk_Ev P k i L st w (o, d + d2, w2) := by
  obtain ⟨n1, h1⟩ := hc
  obtain ⟨n2, h2⟩ := hk
  refine ⟨n1 + n2 + 1, fun q hq => ?_⟩
  obtain ⟨q', rfl⟩ : ∃ q', q = q' + 1 := ⟨q - 1, by omega⟩
  show xk_body P (xk_run P q') k i L st w = _
  unfold xk_body
  rw [h]
  dsimp only
  rw [if_pos hf, h1 q' (by omega)]
  dsimp only
  rw [h2 q' (by omega)]
/-- a call that throws, where nobody catches -/
theorem xk_Ev.callT {x d : Nat} (h : (P k).1[i]? = some (.invokeinterface j na)) (hf : xk_fit P j na st w = true) (hc : xk_Ev P j 0 (xk_in P j na st) [] w (.inr x, d, w1)) (hh : (P k).2.2.2.1.isEmpty = true) : xk_Ev P k i L st w (.inr x, d, w1) := by
  obtain ⟨n1, h1⟩ := hc
  refine ⟨n1 + 1, fun q hq => ?_⟩
  obtain ⟨q', rfl⟩ : ∃ q', q = q' + 1 := ⟨q - 1, by omega⟩
  show xk_body P (xk_run P q') k i L st w = _
  unfold xk_body
  rw [h]
  dsimp only
  rw [if_pos hf, h1 q' (by omega)]
  dsimp only
  rw [if_pos hh]
/-- a call that throws what is caught -/
theorem xk_Ev.callC {x d : Nat} {z : Nat × Int} (h : (P k).1[i]? = some (.invokeinterface j na)) (hf : xk_fit P j na st w = true) (hc : xk_Ev P j 0 (xk_in P j na st) [] w (.inr x, d, w1)) (hh : (P k).2.2.2.1.find? (fun q => q.1 == x) = some z) : xk_Ev P k i L st w (.inl (some (.int (Int32.ofInt z.2))), d, w1) := by
  obtain ⟨n1, h1⟩ := hc
  refine ⟨n1 + 1, fun q hq => ?_⟩
  obtain ⟨q', rfl⟩ : ∃ q', q = q' + 1 := ⟨q - 1, by omega⟩
  show xk_body P (xk_run P q') k i L st w = _
  unfold xk_body
  rw [h]
  dsimp only
  rw [if_pos hf, h1 q' (by omega)]
  have he : ¬ (P k).2.2.2.1.isEmpty = true := by
    intro h9
    rw [List.isEmpty_iff.mp h9] at hh
    cases hh
  dsimp only
  rw [if_neg he, hh]
theorem xk_Ev.cv0 {r0 : List Value} {q : xk_R} (h : (P k).1[i]? = some (.invokeinterface j 0)) (hf : xk_fit P j 0 (r0) w = true) (hc : xk_Ev P j 0 (List.replicate ((P j).2.1 - 0) (.retAddr 0)) [] w (.inl (none), 0, w1)) (hk : xk_Ev P k (i + 1) L (r0) w1 q) : xk_Ev P k i L (r0) w q := by
  obtain ⟨o, d2, w2⟩ := q
  have h9 := xk_Ev.call (st := r0) (v := none) h hf hc hk
  rw [Nat.zero_add] at h9
  exact h9
theorem xk_Ev.ci0 {x : Value} {r0 : List Value} {q : xk_R} (h : (P k).1[i]? = some (.invokeinterface j 0)) (hf : xk_fit P j 0 (r0) w = true) (hc : xk_Ev P j 0 (List.replicate ((P j).2.1 - 0) (.retAddr 0)) [] w (.inl (some x), 0, w1)) (hk : xk_Ev P k (i + 1) L (x :: r0) w1 q) : xk_Ev P k i L (r0) w q := by
  obtain ⟨o, d2, w2⟩ := q
  have h9 := xk_Ev.call (st := r0) (v := some x) h hf hc hk
  rw [Nat.zero_add] at h9
  exact h9
theorem xk_Ev.ct0 {r0 : List Value} {x dd : Nat} (h : (P k).1[i]? = some (.invokeinterface j 0)) (hf : xk_fit P j 0 (r0) w = true) (hc : xk_Ev P j 0 (List.replicate ((P j).2.1 - 0) (.retAddr 0)) [] w (.inr x, dd, w1)) (hh : (P k).2.2.2.1.isEmpty = true) : xk_Ev P k i L (r0) w (.inr x, dd, w1) := xk_Ev.callT (st := r0) h hf hc hh
theorem xk_Ev.cv1 {a : Value} {r0 : List Value} {q : xk_R} (h : (P k).1[i]? = some (.invokeinterface j 1)) (hf : xk_fit P j 1 (a :: r0) w = true) (hc : xk_Ev P j 0 (a :: List.replicate ((P j).2.1 - 1) (.retAddr 0)) [] w (.inl (none), 0, w1)) (hk : xk_Ev P k (i + 1) L (r0) w1 q) : xk_Ev P k i L (a :: r0) w q := by
  obtain ⟨o, d2, w2⟩ := q
  have h9 := xk_Ev.call (st := a :: r0) (v := none) h hf hc hk
  rw [Nat.zero_add] at h9
  exact h9
theorem xk_Ev.ci1 {a : Value} {x : Value} {r0 : List Value} {q : xk_R} (h : (P k).1[i]? = some (.invokeinterface j 1)) (hf : xk_fit P j 1 (a :: r0) w = true) (hc : xk_Ev P j 0 (a :: List.replicate ((P j).2.1 - 1) (.retAddr 0)) [] w (.inl (some x), 0, w1)) (hk : xk_Ev P k (i + 1) L (x :: r0) w1 q) : xk_Ev P k i L (a :: r0) w q := by
  obtain ⟨o, d2, w2⟩ := q
  have h9 := xk_Ev.call (st := a :: r0) (v := some x) h hf hc hk
  rw [Nat.zero_add] at h9
  exact h9
theorem xk_Ev.ct1 {a : Value} {r0 : List Value} {x dd : Nat} (h : (P k).1[i]? = some (.invokeinterface j 1)) (hf : xk_fit P j 1 (a :: r0) w = true) (hc : xk_Ev P j 0 (a :: List.replicate ((P j).2.1 - 1) (.retAddr 0)) [] w (.inr x, dd, w1)) (hh : (P k).2.2.2.1.isEmpty = true) : xk_Ev P k i L (a :: r0) w (.inr x, dd, w1) := xk_Ev.callT (st := a :: r0) h hf hc hh
theorem xk_Ev.cv2 {a b : Value} {r0 : List Value} {q : xk_R} (h : (P k).1[i]? = some (.invokeinterface j 2)) (hf : xk_fit P j 2 (b :: a :: r0) w = true) (hc : xk_Ev P j 0 (a :: b :: List.replicate ((P j).2.1 - 2) (.retAddr 0)) [] w (.inl (none), 0, w1)) (hk : xk_Ev P k (i + 1) L (r0) w1 q) : xk_Ev P k i L (b :: a :: r0) w q := by
  obtain ⟨o, d2, w2⟩ := q
  have h9 := xk_Ev.call (st := b :: a :: r0) (v := none) h hf hc hk
  rw [Nat.zero_add] at h9
  exact h9
theorem xk_Ev.ci2 {a b : Value} {x : Value} {r0 : List Value} {q : xk_R} (h : (P k).1[i]? = some (.invokeinterface j 2)) (hf : xk_fit P j 2 (b :: a :: r0) w = true) (hc : xk_Ev P j 0 (a :: b :: List.replicate ((P j).2.1 - 2) (.retAddr 0)) [] w (.inl (some x), 0, w1)) (hk : xk_Ev P k (i + 1) L (x :: r0) w1 q) : xk_Ev P k i L (b :: a :: r0) w q := by
  obtain ⟨o, d2, w2⟩ := q
  have h9 := xk_Ev.call (st := b :: a :: r0) (v := some x) h hf hc hk
  rw [Nat.zero_add] at h9
  exact h9
theorem xk_Ev.ct2 {a b : Value} {r0 : List Value} {x dd : Nat} (h : (P k).1[i]? = some (.invokeinterface j 2)) (hf : xk_fit P j 2 (b :: a :: r0) w = true) (hc : xk_Ev P j 0 (a :: b :: List.replicate ((P j).2.1 - 2) (.retAddr 0)) [] w (.inr x, dd, w1)) (hh : (P k).2.2.2.1.isEmpty = true) : xk_Ev P k i L (b :: a :: r0) w (.inr x, dd, w1) := xk_Ev.callT (st := b :: a :: r0) h hf hc hh
theorem xk_Ev.cv3 {a b c : Value} {r0 : List Value} {q : xk_R} (h : (P k).1[i]? = some (.invokeinterface j 3)) (hf : xk_fit P j 3 (c :: b :: a :: r0) w = true) (hc : xk_Ev P j 0 (a :: b :: c :: List.replicate ((P j).2.1 - 3) (.retAddr 0)) [] w (.inl (none), 0, w1)) (hk : xk_Ev P k (i + 1) L (r0) w1 q) : xk_Ev P k i L (c :: b :: a :: r0) w q := by
  obtain ⟨o, d2, w2⟩ := q
  have h9 := xk_Ev.call (st := c :: b :: a :: r0) (v := none) h hf hc hk
  rw [Nat.zero_add] at h9
  exact h9
theorem xk_Ev.ci3 {a b c : Value} {x : Value} {r0 : List Value} {q : xk_R} (h : (P k).1[i]? = some (.invokeinterface j 3)) (hf : xk_fit P j 3 (c :: b :: a :: r0) w = true) (hc : xk_Ev P j 0 (a :: b :: c :: List.replicate ((P j).2.1 - 3) (.retAddr 0)) [] w (.inl (some x), 0, w1)) (hk : xk_Ev P k (i + 1) L (x :: r0) w1 q) : xk_Ev P k i L (c :: b :: a :: r0) w q := by
  obtain ⟨o, d2, w2⟩ := q
  have h9 := xk_Ev.call (st := c :: b :: a :: r0) (v := some x) h hf hc hk
  rw [Nat.zero_add] at h9
  exact h9
theorem xk_Ev.ct3 {a b c : Value} {r0 : List Value} {x dd : Nat} (h : (P k).1[i]? = some (.invokeinterface j 3)) (hf : xk_fit P j 3 (c :: b :: a :: r0) w = true) (hc : xk_Ev P j 0 (a :: b :: c :: List.replicate ((P j).2.1 - 3) (.retAddr 0)) [] w (.inr x, dd, w1)) (hh : (P k).2.2.2.1.isEmpty = true) : xk_Ev P k i L (c :: b :: a :: r0) w (.inr x, dd, w1) := xk_Ev.callT (st := c :: b :: a :: r0) h hf hc hh
theorem xk_Ev.cv4 {a b c d : Value} {r0 : List Value} {q : xk_R} (h : (P k).1[i]? = some (.invokeinterface j 4)) (hf : xk_fit P j 4 (d :: c :: b :: a :: r0) w = true) (hc : xk_Ev P j 0 (a :: b :: c :: d :: List.replicate ((P j).2.1 - 4) (.retAddr 0)) [] w (.inl (none), 0, w1)) (hk : xk_Ev P k (i + 1) L (r0) w1 q) : xk_Ev P k i L (d :: c :: b :: a :: r0) w q := by
  obtain ⟨o, d2, w2⟩ := q
  have h9 := xk_Ev.call (st := d :: c :: b :: a :: r0) (v := none) h hf hc hk
  rw [Nat.zero_add] at h9
  exact h9
theorem xk_Ev.ci4 {a b c d : Value} {x : Value} {r0 : List Value} {q : xk_R} (h : (P k).1[i]? = some (.invokeinterface j 4)) (hf : xk_fit P j 4 (d :: c :: b :: a :: r0) w = true) (hc : xk_Ev P j 0 (a :: b :: c :: d :: List.replicate ((P j).2.1 - 4) (.retAddr 0)) [] w (.inl (some x), 0, w1)) (hk : xk_Ev P k (i + 1) L (x :: r0) w1 q) : xk_Ev P k i L (d :: c :: b :: a :: r0) w q := by
  obtain ⟨o, d2, w2⟩ := q
  have h9 := xk_Ev.call (st := d :: c :: b :: a :: r0) (v := some x) h hf hc hk
  rw [Nat.zero_add] at h9
  exact h9
theorem xk_Ev.ct4 {a b c d : Value} {r0 : List Value} {x dd : Nat} (h : (P k).1[i]? = some (.invokeinterface j 4)) (hf : xk_fit P j 4 (d :: c :: b :: a :: r0) w = true) (hc : xk_Ev P j 0 (a :: b :: c :: d :: List.replicate ((P j).2.1 - 4) (.retAddr 0)) [] w (.inr x, dd, w1)) (hh : (P k).2.2.2.1.isEmpty = true) : xk_Ev P k i L (d :: c :: b :: a :: r0) w (.inr x, dd, w1) := xk_Ev.callT (st := d :: c :: b :: a :: r0) h hf hc hh
theorem xk_Ev.cv5 {a b c d e : Value} {r0 : List Value} {q : xk_R} (h : (P k).1[i]? = some (.invokeinterface j 5)) (hf : xk_fit P j 5 (e :: d :: c :: b :: a :: r0) w = true) (hc : xk_Ev P j 0 (a :: b :: c :: d :: e :: List.replicate ((P j).2.1 - 5) (.retAddr 0)) [] w (.inl (none), 0, w1)) (hk : xk_Ev P k (i + 1) L (r0) w1 q) : xk_Ev P k i L (e :: d :: c :: b :: a :: r0) w q := by
  obtain ⟨o, d2, w2⟩ := q
  have h9 := xk_Ev.call (st := e :: d :: c :: b :: a :: r0) (v := none) h hf hc hk
  rw [Nat.zero_add] at h9
  exact h9
theorem xk_Ev.ci5 {a b c d e : Value} {x : Value} {r0 : List Value} {q : xk_R} (h : (P k).1[i]? = some (.invokeinterface j 5)) (hf : xk_fit P j 5 (e :: d :: c :: b :: a :: r0) w = true) (hc : xk_Ev P j 0 (a :: b :: c :: d :: e :: List.replicate ((P j).2.1 - 5) (.retAddr 0)) [] w (.inl (some x), 0, w1)) (hk : xk_Ev P k (i + 1) L (x :: r0) w1 q) : xk_Ev P k i L (e :: d :: c :: b :: a :: r0) w q := by
  obtain ⟨o, d2, w2⟩ := q
  have h9 := xk_Ev.call (st := e :: d :: c :: b :: a :: r0) (v := some x) h hf hc hk
  rw [Nat.zero_add] at h9
  exact h9
theorem xk_Ev.ct5 {a b c d e : Value} {r0 : List Value} {x dd : Nat} (h : (P k).1[i]? = some (.invokeinterface j 5)) (hf : xk_fit P j 5 (e :: d :: c :: b :: a :: r0) w = true) (hc : xk_Ev P j 0 (a :: b :: c :: d :: e :: List.replicate ((P j).2.1 - 5) (.retAddr 0)) [] w (.inr x, dd, w1)) (hh : (P k).2.2.2.1.isEmpty = true) : xk_Ev P k i L (e :: d :: c :: b :: a :: r0) w (.inr x, dd, w1) := xk_Ev.callT (st := e :: d :: c :: b :: a :: r0) h hf hc hh
end XkEv
end
section
/-! The interpreter is sound: the induction. -/
section XkSound2
variable {l : Launch} {cl : List vw_C} {F : Nat → xk_F} {P : Nat → xk_M} {BW NW : List Cond} {SW : List (String × Nat × String)} {exn : Nat → String}
/-- a return stands there, and fits the answer -/
def xk_rt (cc : ByteArray) (pc : Nat) (ret : Option FieldType) (v : Option Value) : Prop :=
  (v = none ∧ ret = none ∧ decode cc pc = .ok (.return_, 1)) ∨ ∃ x : Int32, v = some (.int x) ∧ decode cc pc = .ok (.ireturn, 1) ∧ (ret = some .int ∨ (ret = some .boolean ∧ (x = 0 ∨ x = 1)))
def xk_OkA (F : Nat → xk_F) (P : Nat → xk_M) (cl : List vw_C) (BW NW : List Cond) (SW : List (String × Nat × String)) (exn : Nat → String) (k i : Nat) (mi : Instr) : Prop := match mi with
  | .return_ => xf_in F k i .return_ 1 ∧ (F k).2.2.1 = none
  | .ireturn => xf_in F k i .ireturn 1 ∧ (F k).2.2.1 = some .int
  | .freturn => xf_in F k i .ireturn 1 ∧ (F k).2.2.1 = some .boolean
  | .new x => xk_On F BW NW SW exn k i x
  | .invokeinterface j na => xk_Oc F P cl BW NW k i j na
  | mi => xk_Ok F cl BW NW k i mi
set_option maxHeartbeats 2000000 in
theorem xk_OkA.plain {sc : Option (Nat × (Nat → Int32))} {k i : Nat} {mi : Instr} {L st : List Value} {w : xk_W} {q : xk_C} (hs : xk_step sc mi i L st w = some q) (h : xk_OkA F P cl BW NW SW exn k i mi) : xk_Ok F cl BW NW k i mi := by
  cases mi <;> first
    | exact h
    | (simp only [xk_step] at hs; cases hs)
set_option maxHeartbeats 4000000 in
theorem xk_step_len {sc : Option (Nat × (Nat → Int32))} {i i1 : Nat} {mi : Instr} {L L1 st st1 : List Value} {w w1 : xk_W} (hs : xk_step sc mi i L st w = some (i1, L1, st1, w1)) : L1.length = L.length ∧ w1.length = w.length := by
  cases mi <;> first
    | (simp only [xk_step] at hs; cases hs; done)
    | (simp only [xk_step] at hs
       repeat' (first
         | (cases hs; done)
         | (cases hs; simp; done)
         | split at hs))
theorem xk_run_len : ∀ (n k i : Nat) (L st : List Value) (w : xk_W) (o : Option Value ⊕ Nat) (d : Nat) (w' : xk_W), xk_run P n k i L st w = some (o, d, w') → w'.length = w.length
  | 0, k, i, L, st, w, o, d, w', h => by cases h
  | n + 1, k, i, L, st, w, o, d, w', h => by
    have h : xk_body P (xk_run P n) k i L st w = some (o, d, w') := h
    unfold xk_body at h
    split at h
    · cases h
    · split at h
      · split at h
        · cases h; rfl
        · cases h
      · split at h
        · cases h; rfl
        · cases h
      · split at h
        · split at h
          · cases h; rfl
          · cases h
        · cases h
      · split at h
        · cases h; rfl
        · cases h
      · split at h
        · split at h
          · cases h
          · rename_i h1
            split at h
            · cases h
            · rename_i h2
              cases h
              rw [xk_run_len n _ _ _ _ _ _ _ _ h2, xk_run_len n _ _ _ _ _ _ _ _ h1]
          · rename_i h1
            split at h
            · cases h
              exact xk_run_len n _ _ _ _ _ _ _ _ h1
            · split at h
              · cases h
              · cases h
                exact xk_run_len n _ _ _ _ _ _ _ _ h1
        · cases h
      · split at h
        · cases h
        · rename_i h1
          rw [xk_run_len n _ _ _ _ _ _ _ _ h, (xk_step_len h1).2]
/-- the program is linked as its tables say -/
def xk_Good (l : Launch) (F : Nat → xk_F) (P : Nat → xk_M) (cl : List vw_C) (BW NW : List Cond) (SW : List (String × Nat × String)) (exn : Nat → String) : Prop :=
  (∀ k i mi, (P k).1[i]? = some mi → xk_OkA F P cl BW NW SW exn k i mi) ∧ (∀ q ∈ BW, goodWord q = true) ∧ (∀ q ∈ NW, xk_nest q = true) ∧ l.stackTraces = false ∧ (∀ k, plainName (F k).1.cls = true) ∧ (∀ k, (P k).2.2.2.1 = [] → (F k).2.2.2.2.2.2 = [])
/-- what is caught -/
def xk_Cat (l : Launch) (F : Nat → xk_F) (P : Nat → xk_M) (cl : List vw_C) (BW NW : List Cond) (SW : List (String × Nat × String)) (exn : Nat → String) : Prop :=
  ∀ (k i j na x : Nat) (z : Nat × Int), (P k).1[i]? = some (.invokeinterface j na) → (P k).2.2.2.1.find? (fun q => q.1 == x) = some z →
    ∀ (p : Program) (e : Env) (R : Room) (s : State) (m : MethodId) (args : Array Value) (below : List Frame) (meth : Method) (c : Code) (Q : State → Prop) (D : va_G) (dA : Nat → ClassId) (ad : Nat → Nat) (A : Nat → Prop) (cells slots : Nat) (L st : List Value) (w : xk_W),
      xk_X F P cl BW NW SW D dA ad A k p R s m args meth c → (∀ pc L', xk_rt (F k).2.1 pc (F k).2.2.1 (some (.int (Int32.ofInt z.2))) → xk_J p l e R s m args below meth c Q (P k).2.1 D dA ad A cl cells slots pc L' [.int (Int32.ofInt z.2)] w) →
      xk_T p l e R s m args below meth c Q (P k).2.1 D dA ad A cl exn cells slots (xf_pc F k i) L st x w
/-- what the soundness of n steps says -/
def xk_Snd (l : Launch) (F : Nat → xk_F) (P : Nat → xk_M) (cl : List vw_C) (BW NW : List Cond) (SW : List (String × Nat × String)) (exn : Nat → String) (n : Nat) : Prop :=
  ∀ (k i : Nat) (L st : List Value) (w : xk_W) (o : Option Value ⊕ Nat) (d : Nat) (w' : xk_W), xk_run P n k i L st w = some (o, d, w') → L.length = (P k).2.1 →
    ∀ (p : Program) (e : Env) (R : Room) (s : State) (m : MethodId) (args : Array Value) (below : List Frame) (meth : Method) (c : Code) (Q : State → Prop) (D : va_G) (dA : Nat → ClassId) (ad : Nat → Nat) (A : Nat → Prop) (cells slots : Nat),
      xk_X F P cl BW NW SW D dA ad A k p R s m args meth c → cells + d ≤ R.cells ∧ slots + 6 * d ≤ R.slots →
      (∀ pc L' v, o = .inl v → xk_rt (F k).2.1 pc (F k).2.2.1 v → xk_J p l e R s m args below meth c Q (P k).2.1 D dA ad A cl (cells + d) (slots + 6 * d) pc L' v.toList w') →
      (∀ x, o = .inr x → xk_ET below s Q D dA ad A cl exn (cells + d) (slots + 6 * d) x w') →
      xk_J p l e R s m args below meth c Q (P k).2.1 D dA ad A cl cells slots (xf_pc F k i) L st w
theorem xk_args_mem {ad : Nat → Nat} : ∀ (vs : List Value) (a : Nat), (∀ v ∈ vs, xk_one v = true) → ∀ (j : Nat) (u v : Value), vs[j]? = some u → xk_c ad u = some v → (a + j, v) ∈ lv_args a (vs.map (xk_v ad))
  | [], a, _, j, u, v, h, _ => by simp at h
  | x :: vs, a, hv, j, u, v, h, h2 => by
    have hx := xk_one_cat (ad := ad) (hv x (List.mem_cons_self))
    show (a + j, v) ∈ (a, xk_v ad x) :: lv_args (if (xk_v ad x).category = 2 then a + 2 else a + 1) (vs.map (xk_v ad))
    rw [if_neg (by omega)]
    cases j with
    | zero =>
      have e1 : x = u := by simpa using h
      subst e1
      have e2 : xk_v ad x = v := by
        cases x <;> simp only [xk_c, Option.some.injEq, reduceCtorEq] at h2 <;> subst h2 <;> rfl
      rw [e2]
      exact List.mem_cons_self
    | succ j =>
      have := xk_args_mem vs (a + 1) (fun y hy => hv y (List.mem_cons_of_mem _ hy)) j u v (by simpa using h) h2
      rw [show a + (j + 1) = a + 1 + j by omega]
      exact List.mem_cons_of_mem _ this
theorem xk_sl_len {ad : Nat → Nat} : ∀ (vs : List Value), (∀ v ∈ vs, xk_one v = true) → (lg_sl (vs.map (xk_v ad))).length = vs.length
  | [], _ => rfl
  | x :: vs, hv => by
    have hx := xk_one_cat (ad := ad) (hv x (List.mem_cons_self))
    have ih := xk_sl_len (ad := ad) vs (fun y hy => hv y (List.mem_cons_of_mem _ hy))
    have e1 : lg_sl ((x :: vs).map (xk_v ad)) = [.val (xk_v ad x)] ++ lg_sl (vs.map (xk_v ad)) := by
      unfold lg_sl
      rw [List.map_cons, List.flatMap_cons, if_neg (by omega)]
    rw [e1, List.length_append, ih]
    simp [Nat.add_comm]
theorem xk_entry {ad : Nat → Nat} {vs : List Value} {n : Nat} (hv : ∀ v ∈ vs, xk_one v = true) (hn : vs.length ≤ n) :
    lv_has ((lg_sl (vs.map (xk_v ad)) ++ List.replicate (n - (lg_sl (vs.map (xk_v ad))).length) Slot.unset).toArray) n (xk_l ad (vs ++ List.replicate (n - vs.length) (.retAddr 0))) := by
  have h := lv_entry (vs.map (xk_v ad)) (n := n) (by rw [xk_sl_len vs hv]; exact hn)
  refine ⟨h.1, h.2.1, fun q hq => h.2.2 q ?_⟩
  obtain ⟨j, v⟩ := q
  obtain ⟨u, g1, g2⟩ := xk_l_mem.mp hq
  by_cases hj : j < vs.length
  · rw [List.getElem?_append_left hj] at g1
    have := xk_args_mem vs 0 hv j u v g1 g2
    rw [Nat.zero_add] at this
    exact this
  · rw [List.getElem?_append_right (by omega)] at g1
    have e1 := List.eq_of_mem_replicate (List.mem_of_getElem? g1)
    subst e1
    simp [xk_c] at g2
set_option maxHeartbeats 4000000 in
/-- from the soundness of n steps to a method's contract -/
theorem xk_con_of (hg : xk_Good l F P cl BW NW SW exn) {n j : Nat} (hcd : xf_cd F P BW j) (hns : (P j).2.2.2.2 = none) (hpc0 : xf_pc F j 0 = 0) (hS : xk_Snd l F P cl BW NW SW exn n) {vs : List Value} {w w1 : xk_W} {o : Option Value ⊕ Nat} {d : Nat} (hv : ∀ v ∈ vs, xk_one v = true) (hn : vs.length ≤ (P j).2.1)
    (hrun : xk_run P n j 0 (vs ++ List.replicate ((P j).2.1 - vs.length) (.retAddr 0)) [] w = some (o, d, w1)) : xk_Con l F cl BW NW SW exn j vs w o d w1 := by
  obtain ⟨hOk, hgood, hnest, htr, hplain, hnoh⟩ := hg
  intro D dA ad sz
  refine xk_Kn.ofW (cc := (F j).2.1) (maxL := (P j).2.1) (ret := (F j).2.2.1) (hplain j) (fun args s m hw hnm => ?_) ?_
  · obtain ⟨mk, methY, cY, h1, h2, h3, h4, h5, h6, h7, -⟩ := hcd.spec hw
    cases hnm.symm.trans h1
    exact ⟨methY, cY, h2, h3, h4, h5, h6, h7⟩
  · intro p e s m args below meth c s₁ B hml hPc
    obtain ⟨rfl, rfl, hP, hK, hD, hG⟩ := hPc
    have hts : ∀ q ∈ BW, q.before (vs.map (xk_v ad)).toArray s = true := fun q hq => atoms_spec (ws := BW) B.pre q hq
    obtain ⟨mk, methY, cY, h1, h2, h3, h4, h5, h6, h7, -, h8⟩ := hcd.spec hts
    cases B.named.symm.trans h1
    cases B.method.symm.trans h2
    have hcc : c = cY := Option.some.inj ((Stand.of_body B).code.symm.trans h3)
    subst hcc
    have hl := xk_entry (ad := ad) hv hn
    rw [lg_entry_eq]
    have hx : xk_X F P cl BW NW SW D dA ad (va_A (xk_w dA ad w) s.heap.size) j p (headSpec BW (xk_rm F j d)).room s m (vs.map (xk_v ad)).toArray meth c :=
      ⟨B.exec, B.bytes, hml, findClass_of_methodNamed B.named, hts, fun q hq => xk_nest_tabs (hnest q hq) rfl (hG.1 q hq), hK, hG, fun q hq => Or.inr hq, Nat.le_refl _, Nat.le_refl _, B.notSynchronized, B.returns, h8, fun n f hnf => by rw [hns] at hnf; cases hnf⟩
    have key := hS j 0 _ [] w o d w1 hrun (by rw [List.length_append, List.length_replicate]; omega) p e (headSpec BW (xk_rm F j d)).room s m (vs.map (xk_v ad)).toArray below meth c
      (xk_MQ below (xk_Qc cl exn D dA ad (va_A (xk_w dA ad w) s.heap.size) o w1) (vs.map (xk_v ad)).toArray s d (6 * d) (va_A (xk_w dA ad w) s.heap.size)) D dA ad (va_A (xk_w dA ad w) s.heap.size) 0 0 hx (by constructor <;> (rw [Nat.zero_add]; exact Nat.le_refl _)) ?_ ?_
    · have k2 := key _ s.heap [] hl hP hD.self va_S.rf
      rw [hpc0] at k2
      exact k2
    · intro pc L' v ho hrt ls H locs g1 g2 g3 g4
      subst ho
      rw [Nat.zero_add, Nat.zero_add]
      refine xk_Wmono (fun t ht => xk_MQ.of ht) ?_
      rcases hrt with ⟨rfl, hr, hd⟩ | ⟨x, rfl, hd, hr⟩
      · exact W.vret B.exec B.bytes (B.returns.trans hr) (fun t ht hW => ⟨g4.F ht, by rw [ht]; exact g2, rfl⟩) g4.2.2 hd
      · rcases hr with hr | ⟨hr, hx01⟩
        · exact W.iret B.exec B.bytes (B.returns.trans hr) (fun t ht hW => ⟨g4.F ht, by rw [ht]; exact g2, rfl⟩) g4.2.2 hd
        · exact W.zret B.exec B.bytes (B.returns.trans hr) (by rcases hx01 with rfl | rfl <;> rfl) (fun t ht hW => ⟨g4.F ht, by rw [ht]; exact g2, rfl⟩) g4.2.2 hd
    · intro x ho U a ce locs u1 u2 u3 u4 u5 u6 u7 u8 u9
      subst ho
      rw [Nat.zero_add, Nat.zero_add] at u4
      exact ⟨.threw a, u1, u2, ⟨u6.F rfl, u5, a, ce, rfl, u7, u8, u9⟩, locs, ⟨u3, u4⟩, u6.2.2⟩
set_option maxHeartbeats 4000000 in
theorem xk_sound (hg : xk_Good l F P cl BW NW SW exn) (hcat : xk_Cat l F P cl BW NW SW exn) : ∀ n, xk_Snd l F P cl BW NW SW exn n
  | 0 => fun k i L st w o d w' h => by cases h
  | n + 1 => by
    intro k i L st w o d w' h hL p e R s m args below meth c Q D dA ad A cells slots hx hr hR hT
    have ih := xk_sound hg hcat n
    have hg0 := hg
    obtain ⟨hOk, hgood, hnest, htr, hplain, hnoh⟩ := hg
    have h : xk_body P (xk_run P n) k i L st w = some (o, d, w') := h
    unfold xk_body at h
    split at h
    · cases h
    · rename_i mi hmi
      have hok := hOk k i mi hmi
      split at h
      · split at h
        · cases h
          have hok : xf_in F k i .return_ 1 ∧ (F k).2.2.1 = none := hok
          exact hR (xf_pc F k i) L none rfl (Or.inl ⟨rfl, hok.2, hok.1⟩)
        · cases h
      · split at h
        · cases h
          rename_i x
          have hok : xf_in F k i .ireturn 1 ∧ (F k).2.2.1 = some .int := hok
          exact hR (xf_pc F k i) L (some (.int x)) rfl (Or.inr ⟨x, rfl, hok.1, Or.inl hok.2⟩)
        · cases h
      · split at h
        · split at h
          · rename_i hx01
            cases h
            have hok : xf_in F k i .ireturn 1 ∧ (F k).2.2.1 = some .boolean := hok
            exact hR (xf_pc F k i) L _ rfl (Or.inr ⟨_, rfl, hok.1, Or.inr ⟨hok.2, hx01⟩⟩)
          · cases h
        · cases h
      · split at h
        · cases h
          exact xk_J_throw hx hgood htr hok hr (hT _ rfl)
        · cases h
      · rename_i j na
        have hok : xk_Oc F P cl BW NW k i j na := hok
        split at h
        · rename_i hf
          have hf0 := hf
          simp only [xk_fit, Bool.and_eq_true, decide_eq_true_eq] at hf
          obtain ⟨⟨⟨⟨f1, f2⟩, f3⟩, f4⟩, -⟩ := hf
          have hlen : ((st.take na).reverse).length = na := by rw [List.length_reverse, List.length_take, Nat.min_eq_left f1]
          have hone : ∀ v ∈ (st.take na).reverse, xk_one v = true := fun v hv => List.all_eq_true.mp f4 v (List.mem_reverse.mp hv)
          split at h
          · cases h
          · rename_i v d1 w1 h1
            split at h
            · cases h
            · rename_i o2 d2 w2 h2
              cases h
              have hcon : xk_Con l F cl BW NW SW exn j ((st.take na).reverse) w (.inl v) d1 w1 := xk_con_of hg0 hok.2.1 hok.2.2.1 hok.2.2.2.1 ih hone (by rw [hlen]; exact f3) (by rw [hlen]; exact h1)
              refine xk_J_call hx hgood hnest hok hf0 hcon (xk_run_len _ _ _ _ _ _ _ _ _ h1) (by constructor <;> omega) (fun v2 e2 => ?_) (fun x e2 => by cases e2)
              cases e2
              refine ih k (i + 1) L _ w1 _ d2 _ h2 hL p e R s m args below meth c Q D dA ad A (cells + d1) (slots + 6 * d1) hx (by constructor <;> omega) (fun pc L' v e3 e4 => ?_) (fun x e3 => ?_)
              · have := hR pc L' v e3 e4
                rw [show cells + d1 + d2 = cells + (d1 + d2) by omega, show slots + 6 * d1 + 6 * d2 = slots + 6 * (d1 + d2) by omega]
                exact this
              · have := hT x e3
                rw [show cells + d1 + d2 = cells + (d1 + d2) by omega, show slots + 6 * d1 + 6 * d2 = slots + 6 * (d1 + d2) by omega]
                exact this
          · rename_i x d1 w1 h1
            have hcon : xk_Con l F cl BW NW SW exn j ((st.take na).reverse) w (.inr x) d1 w1 := xk_con_of hg0 hok.2.1 hok.2.2.1 hok.2.2.2.1 ih hone (by rw [hlen]; exact f3) (by rw [hlen]; exact h1)
            split at h
            · rename_i hh
              cases h
              refine xk_J_call hx hgood hnest hok hf0 hcon (xk_run_len _ _ _ _ _ _ _ _ _ h1) hr (fun v2 e2 => by cases e2) (fun x2 e2 => ?_)
              cases e2
              exact xk_T_out hx (hnoh k (List.isEmpty_iff.mp hh)) (hT _ rfl)
            · split at h
              · cases h
              · rename_i z hh
                cases h
                refine xk_J_call hx hgood hnest hok hf0 hcon (xk_run_len _ _ _ _ _ _ _ _ _ h1) hr (fun v2 e2 => by cases e2) (fun x2 e2 => ?_)
                cases e2
                exact hcat k i j na x z hmi hh p e R s m args below meth c Q D dA ad A _ _ L _ w' hx (fun pc L' e3 => hR pc L' _ rfl e3)
        · cases h
      · split at h
        · cases h
        · rename_i i1 L1 st1 w1 hs
          have hok2 := xk_OkA.plain hs hok
          refine xk_step_sound hx hok2 hL (by constructor <;> omega) hs ?_
          exact ih k i1 L1 st1 w1 o d w' h ((xk_step_len hs).1.trans hL) p e R s m args below meth c Q D dA ad A cells slots hx hr hR hT
end XkSound2
end
section
/-! What the law's helpers catch. -/
section XkCatch
variable {l : Launch} {cl : List vw_C} {F : Nat → xk_F} {P : Nat → xk_M} {BW NW : List Cond} {SW : List (String × Nat × String)} {exn : Nat → String}
/-- the kind x is caught in the method k at the place i, and answered with z -/
def xk_Oh (F : Nat → xk_F) (P : Nat → xk_M) (BW NW : List Cond) (exn : Nat → String) (k i x : Nat) (z : Int) : Prop :=
  ∃ (pre suf : List (Nat × Nat × Nat × Nat)) (a b h ct : Nat) (nm : String) (lc d : Nat), (F k).2.2.2.2.2.2 = pre ++ (a, b, h, ct) :: suf ∧ a ≤ xf_pc F k i ∧ xf_pc F k i < b ∧ ct ≠ 0 ∧ Cond.classLink (F k).1.cls ct nm ∈ BW ∧ Cond.castable (exn x) nm ∈ NW ∧
    (∀ q ∈ pre, q.2.2.2 ≠ 0 ∧ ∃ n2, Cond.classLink (F k).1.cls q.2.2.2 n2 ∈ BW ∧ Cond.not (.castable (exn x) n2) ∈ NW) ∧
    ((decode (F k).2.1 h = .ok (.astore lc, 2) ∧ d = 2) ∨ ∃ q : Fin 4, (q : Nat) = lc ∧ decode (F k).2.1 h = .ok (.astore_n q, 1) ∧ d = 1) ∧ lc < (P k).2.1 ∧
    decode (F k).2.1 (h + d) = .ok (.iconst z, 1) ∧ decode (F k).2.1 (h + d + 1) = .ok (.ireturn, 1) ∧ (F k).2.2.1 = some .int
theorem xk_split {l0 : List ExceptionTableEntry} {pre suf : List (Nat × Nat × Nat × Nat)} {y : Nat × Nat × Nat × Nat} (h : l0.map (fun h => (h.startPc, h.endPc, h.handlerPc, h.catchType)) = pre ++ y :: suf) :
    ∃ (p1 : List ExceptionTableEntry) (y1 : ExceptionTableEntry) (s1 : List ExceptionTableEntry), l0 = p1 ++ y1 :: s1 ∧ p1.map (fun h => (h.startPc, h.endPc, h.handlerPc, h.catchType)) = pre ∧ (y1.startPc, y1.endPc, y1.handlerPc, y1.catchType) = y := by
  obtain ⟨p1, r1, e1, e2, e3⟩ := List.map_eq_append_iff.mp h
  obtain ⟨y1, s1, e4, e5, e6⟩ := List.map_eq_cons_iff.mp e3
  exact ⟨p1, y1, s1, by rw [e1, e4], e2, e5⟩
set_option maxHeartbeats 2000000 in
theorem xk_cat_of (h : ∀ (k i j na x : Nat) (z : Nat × Int), (P k).1[i]? = some (.invokeinterface j na) → (P k).2.2.2.1.find? (fun q => q.1 == x) = some z → xk_Oh F P BW NW exn k i x z.2) : xk_Cat l F P cl BW NW SW exn := by
  intro k i j na x z hi hz p e R s m args below meth c Q D dA ad A cells slots L st w hx hR
  obtain ⟨pre, suf, a, b, hp, ct, nm, lc, d, h1, h2, h3, h4, h5, h6, h7, h8, h9, h10, h11, h12⟩ := h k i j na x z hi hz
  obtain ⟨hexec, hb, hml, hown, hts, hN, hK, hG, hA, hRf, hRl, hlk, hrt, hxt, hsc⟩ := hx
  rw [h1] at hxt
  obtain ⟨p1, y1, s1, e1, e2, e3⟩ := xk_split hxt
  cases e3
  intro ls H locs q ce g1 g2 g3 g4 v1 v2 v3
  refine vx_catch hown p1 y1 s1 e1 (fun u hu => ?_) (by simp [covers]; exact ⟨h2, h3⟩) h4 (hts _ h5) (hN _ h6) v1 v2 v3 ?_
  · have hu2 : (u.startPc, u.endPc, u.handlerPc, u.catchType) ∈ pre := by rw [← e2]; exact List.mem_map_of_mem hu
    obtain ⟨w1, n2, w2, w3⟩ := h7 _ hu2
    exact Or.inr ⟨w1, n2, hts _ w2, va_Nc.of (hN _ w3)⟩
  · have key : ∀ ls' : Array Slot, lv_has ls' (P k).2.1 [] → W p l e R s m args below meth c H locs cells slots Q (F0 m (y1.handlerPc + d) ls' []) := by
      intro ls' hl
      refine lv_iconst hexec hb h10 rfl ?_
      have h0 : lv_has ls' (P k).2.1 (xk_l ad []) := ⟨hl.1, hl.2.1, fun q hq => by simp [xk_l] at hq⟩
      exact hR _ [] (Or.inr ⟨_, rfl, h11, Or.inl h12⟩) ls' H locs h0 g2 g3 g4
    rcases h8 with ⟨h8, rfl⟩ | ⟨q9, hq9, h8, rfl⟩
    · exact lv_astore hexec hb h8 g1 h9 rfl (fun ls' h' => key ls' ⟨h'.1, h'.2.1, fun q hq => by cases hq⟩)
    · exact lv_astore_n hexec hb h8 hq9 g1 h9 rfl (fun ls' h' => key ls' ⟨h'.1, h'.2.1, fun q hq => by cases hq⟩)
end XkCatch
end
section
/-! The program, for the interpreter: written by wip/whole/gen_tables.py out of the claim's own files. -/
section XkTables
def xp_exn (k : Nat) : String := match k with
  | 0 => "java/lang/IllegalStateException"
  | 1 => "java/lang/IllegalArgumentException"
  | 2 => "java/lang/UnsupportedOperationException"
  | 3 => "java/util/NoSuchElementException"
  | _ => "java/lang/IndexOutOfBoundsException"
def xp_nc : List Cond := [.not (.castable "java/lang/IllegalArgumentException" "java/lang/IllegalStateException"), .not (.castable "java/lang/UnsupportedOperationException" "java/lang/IllegalStateException"), .not (.castable "java/util/NoSuchElementException" "java/lang/IllegalStateException"), .not (.castable "java/lang/IndexOutOfBoundsException" "java/lang/IllegalStateException"), .not (.castable "java/lang/IllegalStateException" "java/lang/IllegalArgumentException"), .not (.castable "java/lang/UnsupportedOperationException" "java/lang/IllegalArgumentException"), .not (.castable "java/util/NoSuchElementException" "java/lang/IllegalArgumentException"), .not (.castable "java/lang/IndexOutOfBoundsException" "java/lang/IllegalArgumentException"), .not (.castable "java/lang/IllegalStateException" "java/lang/UnsupportedOperationException"), .not (.castable "java/lang/IllegalArgumentException" "java/lang/UnsupportedOperationException"), .not (.castable "java/util/NoSuchElementException" "java/lang/UnsupportedOperationException"), .not (.castable "java/lang/IndexOutOfBoundsException" "java/lang/UnsupportedOperationException"), .not (.castable "java/lang/IllegalStateException" "java/util/NoSuchElementException"), .not (.castable "java/lang/IllegalArgumentException" "java/util/NoSuchElementException"), .not (.castable "java/lang/UnsupportedOperationException" "java/util/NoSuchElementException"), .not (.castable "java/lang/IndexOutOfBoundsException" "java/util/NoSuchElementException"), .not (.castable "java/lang/IllegalStateException" "java/lang/IndexOutOfBoundsException"), .not (.castable "java/lang/IllegalArgumentException" "java/lang/IndexOutOfBoundsException"), .not (.castable "java/lang/UnsupportedOperationException" "java/lang/IndexOutOfBoundsException"), .not (.castable "java/util/NoSuchElementException" "java/lang/IndexOutOfBoundsException")]
def xp_BW : List Cond := lw_tbl.filter goodWord
def xp_NW : List Cond := tables_1.filter (fun q => !goodWord q && xk_nest q) ++ xp_nc
def xp_SW : List (String × Nat × String) := [("ExtentShelf", 281, "the power is off"), ("ExtentShelf", 286, "there is no such disk"), ("ExtentShelf", 50, "a disk has 2 to 8 extents"), ("ExtentShelf", 64, "the disk is listed or absent"), ("ExtentShelf", 293, "a listed disk is absent"), ("ExtentShelf", 301, "the power went off"), ("ExtentShelf", 288, "the disk is not listed"), ("ExtentShelf", 96, "the disk is in use"), ("ExtentShelf", 102, "it is the only disk"), ("ExtentShelf", 114, "the disk is present, or no other one is"), ("ExtentShelf", 126, "there is no such volume"), ("ExtentShelf", 131, "there are four volumes"), ("ExtentShelf", 360, "there is no room"), ("ExtentShelf", 149, "there may not be so many elements"), ("ExtentShelf", 160, "the volume is not twinned"), ("ExtentShelf", 273, "there is no such word"), ("ExtentShelf", 178, "no leg can be written"), ("ExtentShelf", 197, "no leg can be read"), ("ExtentShelf", 205, "a move is under way"), ("ExtentShelf", 210, "no move is under way"), ("ExtentShelf", 230, "what is 0 to 3"), ("ExtentShelf", 236, "n is below NONE"), ("ExtentShelf", 284, "the power is on")]
theorem xw_t {q : Cond} (i : Nat) (h : tables_1[i]? = some q) (hg : goodWord q = true) : q ∈ xp_BW := List.mem_filter.mpr ⟨List.mem_append_right _ (List.mem_of_getElem? h), hg⟩
theorem xw_s {q : Cond} (i : Nat) (h : (k2_sels lw_privs)[i]? = some q) (hg : goodWord q = true) : q ∈ xp_BW := List.mem_filter.mpr ⟨List.mem_append_left _ (List.mem_of_getElem? h), hg⟩
theorem xw_n {q : Cond} (i : Nat) (h : tables_1[i]? = some q) (hg : (!goodWord q && xk_nest q) = true) : q ∈ xp_NW := List.mem_append_left _ (List.mem_filter.mpr ⟨List.mem_of_getElem? h, hg⟩)
theorem xw_c {q : Cond} (i : Nat) (h : xp_nc[i]? = some q) : q ∈ xp_NW := List.mem_append_right _ (List.mem_of_getElem? h)
def xT_0 : u_T := fun k => match k with
  | 0 => ("ExtentShelf$Disks", "slots", "[I", true)
  | 1 => ("ExtentShelf$Disks", "extents", "[I", true)
  | _ => ("ExtentShelf$Disks", "absent", "[Z", true)
def xY_0 : Nat → FieldType := fun k => match k with
  | 0 => .array .int
  | 1 => .array .int
  | _ => .array .boolean
theorem xn_0 : ∀ a, a < 3 → ∀ b, b < 3 → a ≠ b → (xT_0 a).2.1 ≠ (xT_0 b).2.1 := by decide +kernel
theorem xy_0 : ∀ k, k < 3 → parseFieldDescriptor (xT_0 k).2.2.1 = some (xY_0 k) := by decide +kernel
def xT_1 : u_T := fun k => match k with
  | 0 => ("ExtentShelf$Move", "disk", "I", false)
  | 1 => ("ExtentShelf$Move", "leg", "I", false)
  | 2 => ("ExtentShelf$Move", "target", "I", false)
  | _ => ("ExtentShelf$Move", "copied", "I", false)
def xY_1 : Nat → FieldType := fun k => match k with
  | 0 => .int
  | 1 => .int
  | 2 => .int
  | _ => .int
theorem xn_1 : ∀ a, a < 4 → ∀ b, b < 4 → a ≠ b → (xT_1 a).2.1 ≠ (xT_1 b).2.1 := by decide +kernel
theorem xy_1 : ∀ k, k < 4 → parseFieldDescriptor (xT_1 k).2.2.1 = some (xY_1 k) := by decide +kernel
def xT_2 : u_T := fun k => match k with
  | _ => ("ExtentShelf$Table", "words", "[I", true)
def xY_2 : Nat → FieldType := fun k => match k with
  | _ => .array .int
theorem xn_2 : ∀ a, a < 1 → ∀ b, b < 1 → a ≠ b → (xT_2 a).2.1 ≠ (xT_2 b).2.1 := by decide +kernel
theorem xy_2 : ∀ k, k < 1 → parseFieldDescriptor (xT_2 k).2.2.1 = some (xY_2 k) := by decide +kernel
def xT_3 : u_T := fun k => match k with
  | 0 => ("ExtentShelf", "disks", "LExtentShelf$Disks;", true)
  | 1 => ("ExtentShelf", "table", "LExtentShelf$Table;", true)
  | 2 => ("ExtentShelf", "draft", "LExtentShelf$Table;", true)
  | 3 => ("ExtentShelf", "move", "LExtentShelf$Move;", true)
  | 4 => ("ExtentShelf", "powerOn", "Z", false)
  | _ => ("ExtentShelf", "wordsBeforeCut", "I", false)
def xY_3 : Nat → FieldType := fun k => match k with
  | 0 => .object "ExtentShelf$Disks"
  | 1 => .object "ExtentShelf$Table"
  | 2 => .object "ExtentShelf$Table"
  | 3 => .object "ExtentShelf$Move"
  | 4 => .boolean
  | _ => .int
theorem xn_3 : ∀ a, a < 6 → ∀ b, b < 6 → a ≠ b → (xT_3 a).2.1 ≠ (xT_3 b).2.1 := by decide +kernel
theorem xy_3 : ∀ k, k < 6 → parseFieldDescriptor (xT_3 k).2.2.1 = some (xY_3 k) := by decide +kernel
def xT_4 : u_T := fun k => match k with
  | 0 => ("ExtentShelfModel", "thrown", "I", false)
  | 1 => ("ExtentShelfModel", "present", "[Z", true)
  | 2 => ("ExtentShelfModel", "slots", "[I", true)
  | 3 => ("ExtentShelfModel", "data", "[I", true)
  | 4 => ("ExtentShelfModel", "on", "Z", false)
  | 5 => ("ExtentShelfModel", "left", "I", false)
  | 6 => ("ExtentShelfModel", "table", "[I", true)
  | 7 => ("ExtentShelfModel", "next", "[I", true)
  | 8 => ("ExtentShelfModel", "moved", "I", false)
  | 9 => ("ExtentShelfModel", "copyVolume", "I", false)
  | 10 => ("ExtentShelfModel", "copyLeg", "I", false)
  | 11 => ("ExtentShelfModel", "copyTo", "I", false)
  | _ => ("ExtentShelfModel", "copied", "I", false)
def xY_4 : Nat → FieldType := fun k => match k with
  | 0 => .int
  | 1 => .array .boolean
  | 2 => .array .int
  | 3 => .array .int
  | 4 => .boolean
  | 5 => .int
  | 6 => .array .int
  | 7 => .array .int
  | 8 => .int
  | 9 => .int
  | 10 => .int
  | 11 => .int
  | _ => .int
theorem xn_4 : ∀ a, a < 13 → ∀ b, b < 13 → a ≠ b → (xT_4 a).2.1 ≠ (xT_4 b).2.1 := by decide +kernel
theorem xy_4 : ∀ k, k < 13 → parseFieldDescriptor (xT_4 k).2.2.1 = some (xY_4 k) := by decide +kernel
def xp_cl : List vw_C := [("ExtentShelf$Disks", xT_0, 3), ("ExtentShelf$Move", xT_1, 4), ("ExtentShelf$Table", xT_2, 1), ("ExtentShelf", xT_3, 6), ("ExtentShelfModel", xT_4, 13)]
-- 0: ExtentShelf$Disks.isAbsent(I)Z
def xc_0 : List Instr := [.aload 0, .getfield 2, .iload 1, .baload, .freturn]
def xq_0 : List Nat := [0, 1, 4, 5, 6]
-- 1: ExtentShelf$Disks.setAbsent(IZ)V
def xc_1 : List Instr := [.aload 0, .getfield 2, .iload 1, .iload 2, .bastore, .return_]
def xq_1 : List Nat := [0, 1, 4, 5, 6, 7]
-- 2: ExtentShelf$Disks.startOfSlot(II)I
def xc_2 : List Instr := [.iload 0, .iconst 2, .imul, .iload 1, .iadd, .iconst 51, .imul, .ireturn]
def xq_2 : List Nat := [0, 1, 2, 3, 4, 5, 7, 8]
-- 3: ExtentShelf$Disks.slotWord(III)I
def xc_3 : List Instr := [.aload 0, .getfield 0, .iload 1, .iload 2, .invokeinterface 2 2, .iload 3, .iadd, .iaload, .ireturn]
def xq_3 : List Nat := [0, 1, 4, 5, 6, 9, 10, 11, 12]
-- 4: ExtentShelf$Disks.setSlotWord(IIII)V
def xc_4 : List Instr := [.aload 0, .getfield 0, .iload 1, .iload 2, .invokeinterface 2 2, .iload 3, .iadd, .iload 4, .iastore, .return_]
def xq_4 : List Nat := [0, 1, 4, 5, 6, 9, 10, 11, 13, 14]
-- 5: ExtentShelf$Disks.wholeSerial(II)I
def xc_5 : List Instr := [.iload 1, .iload 2, .invokeinterface 2 2, .istore 3, .aload 0, .getfield 0, .iload 3, .iaload, .istore 4, .aload 0, .getfield 0, .iload 3, .iconst 50, .iadd, .iaload, .iload 4, .if_icmp .ne 30, .aload 0, .getfield 0, .iload 3, .iconst 49, .iadd, .iaload, .aload 0, .getfield 0, .iload 3, .invokeinterface 20 2, .if_icmp .ne 30, .iconst 1, .goto 31, .iconst 0, .istore 5, .iload 5, .ifCond .eq 38, .iload 4, .ifCond .le 38, .iload 4, .goto 39, .iconst 0, .ireturn]
def xq_5 : List Nat := [0, 1, 2, 5, 6, 7, 10, 11, 12, 14, 15, 18, 19, 21, 22, 23, 25, 28, 29, 32, 33, 35, 36, 37, 38, 41, 42, 45, 48, 49, 52, 53, 55, 57, 60, 62, 65, 67, 70, 71]
-- 6: ExtentShelf$Disks.hasWhole(II)Z
def xc_6 : List Instr := [.aload 0, .iload 1, .iconst 0, .invokeinterface 5 3, .iload 2, .if_icmp .eq 12, .aload 0, .iload 1, .iconst 1, .invokeinterface 5 3, .iload 2, .if_icmp .ne 14, .iconst 1, .goto 15, .iconst 0, .freturn]
def xq_6 : List Nat := [0, 1, 2, 3, 6, 7, 10, 11, 12, 13, 16, 17, 20, 21, 24, 25]
-- 7: ExtentShelf$Disks.slotToWrite(I)I
def xc_7 : List Instr := [.aload 0, .iload 1, .iconst 0, .invokeinterface 5 3, .aload 0, .iload 1, .iconst 1, .invokeinterface 5 3, .if_icmp .gt 11, .iconst 0, .goto 12, .iconst 1, .ireturn]
def xq_7 : List Nat := [0, 1, 2, 3, 6, 7, 8, 9, 12, 15, 16, 19, 20]
-- 8: ExtentShelf$Disks.newestWholeSlot()I
def xc_8 : List Instr := [.iconst (-1), .istore 1, .iconst 0, .istore 2, .iconst 0, .istore 3, .iload 3, .iconst 4, .if_icmp .ge 36, .iconst 0, .istore 4, .iload 4, .iconst 2, .if_icmp .ge 34, .aload 0, .iload 3, .iload 4, .invokeinterface 5 3, .istore 5, .aload 0, .iload 3, .invokeinterface 0 2, .ifCond .ne 32, .iload 5, .iload 2, .if_icmp .le 32, .iload 3, .iload 4, .invokeinterface 2 2, .istore 1, .iload 5, .istore 2, .iinc 4 (1), .goto 11, .iinc 3 (1), .goto 6, .iload 1, .ireturn]
def xq_8 : List Nat := [0, 1, 2, 3, 4, 5, 6, 7, 8, 11, 12, 14, 16, 17, 20, 21, 22, 24, 27, 29, 30, 31, 34, 37, 39, 40, 43, 44, 46, 49, 50, 52, 53, 56, 59, 62, 65, 66]
-- 9: ExtentShelf$Disks.extentWord(II)I
def xc_9 : List Instr := [.aload 0, .getfield 1, .iload 1, .iconst 4, .imul, .iload 2, .iadd, .iaload, .ireturn]
def xq_9 : List Nat := [0, 1, 4, 5, 6, 7, 8, 9, 10]
-- 10: ExtentShelf$Disks.setExtentWord(III)V
def xc_10 : List Instr := [.aload 0, .getfield 1, .iload 1, .iconst 4, .imul, .iload 2, .iadd, .iload 3, .iastore, .return_]
def xq_10 : List Nat := [0, 1, 4, 5, 6, 7, 8, 9, 10, 11]
-- 11: ExtentShelf$Disks.clearExtents(I)V
def xc_11 : List Instr := [.iload 1, .iconst 32, .imul, .istore 2, .iload 2, .iload 1, .iconst 1, .iadd, .iconst 32, .imul, .if_icmp .ge 18, .aload 0, .getfield 1, .iload 2, .iconst 0, .iastore, .iinc 2 (1), .goto 4, .return_]
def xq_11 : List Nat := [0, 1, 3, 4, 5, 6, 7, 8, 9, 11, 12, 15, 16, 19, 20, 21, 22, 25, 28]
-- 12: ExtentShelf$Move.begin(I)V
def xc_12 : List Instr := [.aload 0, .iload 1, .putfield 32, .return_]
def xq_12 : List Nat := [0, 1, 2, 5]
-- 13: ExtentShelf$Move.end()V
def xc_13 : List Instr := [.aload 0, .iconst (-1), .putfield 32, .aload 0, .iconst (-1), .putfield 33, .aload 0, .iconst (-1), .putfield 34, .return_]
def xq_13 : List Nat := [0, 1, 2, 5, 6, 7, 10, 11, 12, 15]
-- 14: ExtentShelf$Move.beginCopy(II)V
def xc_14 : List Instr := [.aload 0, .iload 1, .putfield 33, .aload 0, .iload 2, .putfield 34, .aload 0, .iconst 0, .putfield 35, .return_]
def xq_14 : List Nat := [0, 1, 2, 5, 6, 7, 10, 11, 12, 15]
-- 15: ExtentShelf$Move.endCopy()V
def xc_15 : List Instr := [.aload 0, .iconst (-1), .putfield 33, .aload 0, .iconst (-1), .putfield 34, .return_]
def xq_15 : List Nat := [0, 1, 2, 5, 6, 7, 10]
-- 16: ExtentShelf$Move.hasCopied(II)Z
def xc_16 : List Instr := [.aload 0, .getfield 33, .iload 1, .if_icmp .ne 10, .iload 2, .aload 0, .getfield 35, .if_icmp .ge 10, .iconst 1, .goto 11, .iconst 0, .freturn]
def xq_16 : List Nat := [0, 1, 4, 5, 8, 9, 10, 13, 16, 17, 20, 21]
-- 17: ExtentShelf$Table.takeFrom([II)V
def xc_17 : List Instr := [.aload 1, .iload 2, .aload 0, .getfield 64, .iconst 0, .iconst 51, .invokedynamic 1, .return_]
def xq_17 : List Nat := [0, 1, 2, 3, 6, 7, 9, 12]
-- 18: ExtentShelf$Table.clear()V
def xc_18 : List Instr := [.iconst 0, .istore 1, .iload 1, .iconst 51, .if_icmp .ge 12, .aload 0, .getfield 64, .iload 1, .iconst 0, .iastore, .iinc 1 (1), .goto 2, .return_]
def xq_18 : List Nat := [0, 1, 2, 3, 5, 8, 9, 12, 13, 14, 15, 18, 21]
-- 19: ExtentShelf$Table.seal(I)V
def xc_19 : List Instr := [.aload 0, .getfield 64, .iconst 0, .iload 1, .iastore, .aload 0, .getfield 64, .iconst 49, .aload 0, .getfield 64, .iconst 0, .invokeinterface 20 2, .iastore, .aload 0, .getfield 64, .iconst 50, .iload 1, .iastore, .return_]
def xq_19 : List Nat := [0, 1, 4, 5, 6, 7, 8, 11, 13, 14, 17, 18, 21, 22, 23, 26, 28, 29, 30]
-- 20: ExtentShelf$Table.sumOf([II)I
def xc_20 : List Instr := [.iconst 0, .istore 2, .iconst 0, .istore 3, .iload 3, .iconst 49, .if_icmp .ge 21, .iload 2, .aload 0, .iload 1, .iload 3, .iadd, .iaload, .iload 3, .iconst 1, .iadd, .imul, .iadd, .istore 2, .iinc 3 (1), .goto 4, .iload 2, .ireturn]
def xq_20 : List Nat := [0, 1, 2, 3, 4, 5, 7, 10, 11, 12, 13, 14, 15, 16, 17, 18, 19, 20, 21, 22, 25, 28, 29]
-- 21: ExtentShelf$Table.serial()I
def xc_21 : List Instr := [.aload 0, .getfield 64, .iconst 0, .iaload, .ireturn]
def xq_21 : List Nat := [0, 1, 4, 5, 6]
-- 22: ExtentShelf$Table.lists(I)Z
def xc_22 : List Instr := [.aload 0, .iload 1, .invokeinterface 23 2, .ifCond .eq 6, .iconst 1, .goto 7, .iconst 0, .freturn]
def xq_22 : List Nat := [0, 1, 2, 5, 8, 9, 12, 13]
-- 23: ExtentShelf$Table.extentsOf(I)I
def xc_23 : List Instr := [.aload 0, .getfield 64, .iconst 1, .iload 1, .iadd, .iaload, .ireturn]
def xq_23 : List Nat := [0, 1, 4, 5, 6, 7, 8]
-- 24: ExtentShelf$Table.setExtents(II)V
def xc_24 : List Instr := [.aload 0, .getfield 64, .iconst 1, .iload 1, .iadd, .iload 2, .iastore, .return_]
def xq_24 : List Nat := [0, 1, 4, 5, 6, 7, 8, 9]
-- 25: ExtentShelf$Table.countListed()I
def xc_25 : List Instr := [.iconst 0, .istore 1, .iconst 0, .istore 2, .iload 2, .iconst 4, .if_icmp .ge 14, .aload 0, .iload 2, .invokeinterface 22 2, .ifCond .eq 12, .iinc 1 (1), .iinc 2 (1), .goto 4, .iload 1, .ireturn]
def xq_25 : List Nat := [0, 1, 2, 3, 4, 5, 6, 9, 10, 11, 14, 17, 20, 23, 26, 27]
-- 26: ExtentShelf$Table.has(I)Z
def xc_26 : List Instr := [.aload 0, .getfield 64, .iconst 5, .iload 1, .iadd, .iaload, .ifCond .eq 9, .iconst 1, .goto 10, .iconst 0, .freturn]
def xq_26 : List Nat := [0, 1, 4, 5, 6, 7, 8, 11, 12, 15, 16]
-- 27: ExtentShelf$Table.leastUnusedVolume()I
def xc_27 : List Instr := [.iconst 0, .istore 1, .iload 1, .iconst 4, .if_icmp .ge 13, .aload 0, .iload 1, .invokeinterface 26 2, .ifCond .ne 11, .iload 1, .ireturn, .iinc 1 (1), .goto 2, .iconst (-1), .ireturn]
def xq_27 : List Nat := [0, 1, 2, 3, 4, 7, 8, 9, 12, 15, 16, 17, 20, 23, 24]
-- 28: ExtentShelf$Table.describe(IIII)V
def xc_28 : List Instr := [.aload 0, .getfield 64, .iconst 5, .iload 1, .iadd, .iconst 1, .iload 2, .iadd, .iconst 4, .iload 3, .imul, .iadd, .iconst 32, .iload 4, .imul, .iadd, .iastore, .return_]
def xq_28 : List Nat := [0, 1, 4, 5, 6, 7, 8, 9, 10, 11, 12, 13, 14, 16, 18, 19, 20, 21]
-- 29: ExtentShelf$Table.kindOf(I)I
def xc_29 : List Instr := [.aload 0, .getfield 64, .iconst 5, .iload 1, .iadd, .iaload, .iconst 4, .irem, .iconst 1, .isub, .ireturn]
def xq_29 : List Nat := [0, 1, 4, 5, 6, 7, 8, 9, 10, 11, 12]
-- 30: ExtentShelf$Table.columnsOf(I)I
def xc_30 : List Instr := [.iconst 1, .aload 0, .getfield 64, .iconst 5, .iload 1, .iadd, .iaload, .iconst 32, .irem, .iconst 4, .idiv, .invokedynamic 0, .ireturn]
def xq_30 : List Nat := [0, 1, 2, 5, 6, 7, 8, 9, 11, 12, 13, 14, 17]
-- 31: ExtentShelf$Table.elementsOf(I)I
def xc_31 : List Instr := [.aload 0, .getfield 64, .iconst 5, .iload 1, .iadd, .iaload, .iconst 32, .idiv, .ireturn]
def xq_31 : List Nat := [0, 1, 4, 5, 6, 7, 8, 10, 11]
-- 32: ExtentShelf$Table.forget(I)V
def xc_32 : List Instr := [.aload 0, .getfield 64, .iconst 5, .iload 1, .iadd, .iconst 0, .iastore, .aload 0, .iload 1, .iconst 0, .invokeinterface 33 3, .return_]
def xq_32 : List Nat := [0, 1, 4, 5, 6, 7, 8, 9, 10, 11, 12, 15]
-- 33: ExtentShelf$Table.loseElements(II)V
def xc_33 : List Instr := [.iload 1, .iload 2, .iconst 0, .invokeinterface 74 3, .istore 3, .iload 3, .iload 1, .iconst 1, .iadd, .iconst 0, .iconst 0, .invokeinterface 74 3, .if_icmp .ge 19, .aload 0, .iload 3, .iconst (-1), .invokeinterface 35 3, .iinc 3 (1), .goto 5, .return_]
def xq_33 : List Nat := [0, 1, 2, 3, 6, 7, 8, 9, 10, 11, 12, 13, 16, 19, 20, 21, 22, 25, 28, 31]
-- 34: ExtentShelf$Table.spotOf(I)I
def xc_34 : List Instr := [.aload 0, .getfield 64, .iconst 9, .iload 1, .iadd, .iaload, .iconst 1, .isub, .ireturn]
def xq_34 : List Nat := [0, 1, 4, 6, 7, 8, 9, 10, 11]
-- 35: ExtentShelf$Table.setSpot(II)V
def xc_35 : List Instr := [.aload 0, .getfield 64, .iconst 9, .iload 1, .iadd, .iload 2, .iconst 1, .iadd, .iastore, .return_]
def xq_35 : List Nat := [0, 1, 4, 6, 7, 8, 9, 10, 11, 12]
-- 36: ExtentShelf$Table.isUsed(I)Z
def xc_36 : List Instr := [.iconst 0, .istore 2, .iload 2, .iconst 40, .if_icmp .ge 14, .aload 0, .iload 2, .invokeinterface 34 2, .iload 1, .if_icmp .ne 12, .iconst 1, .freturn, .iinc 2 (1), .goto 2, .iconst 0, .freturn]
def xq_36 : List Nat := [0, 1, 2, 3, 5, 8, 9, 10, 13, 14, 17, 18, 19, 22, 25, 26]
-- 37: ExtentShelf$Table.legsOn(I)I
def xc_37 : List Instr := [.iconst 0, .istore 2, .iconst 0, .istore 3, .iload 3, .iconst 40, .if_icmp .ge 16, .aload 0, .iload 3, .invokeinterface 34 2, .invokeinterface 75 1, .iload 1, .if_icmp .ne 14, .iinc 2 (1), .iinc 3 (1), .goto 4, .iload 2, .ireturn]
def xq_37 : List Nat := [0, 1, 2, 3, 4, 5, 7, 10, 11, 12, 15, 18, 19, 22, 25, 28, 31, 32]
-- 38: ExtentShelf$Table.firstLegOn(I)I
def xc_38 : List Instr := [.iconst 0, .istore 2, .iload 2, .iconst 40, .if_icmp .ge 15, .aload 0, .iload 2, .invokeinterface 34 2, .invokeinterface 75 1, .iload 1, .if_icmp .ne 13, .iload 2, .ireturn, .iinc 2 (1), .goto 2, .iconst (-1), .ireturn]
def xq_38 : List Nat := [0, 1, 2, 3, 5, 8, 9, 10, 13, 16, 17, 20, 21, 22, 25, 28, 29]
-- 39: ExtentShelf$Table.loseLegsOn(I)V
def xc_39 : List Instr := [.iconst 0, .istore 2, .iload 2, .iconst 40, .if_icmp .ge 17, .aload 0, .iload 2, .invokeinterface 34 2, .invokeinterface 75 1, .iload 1, .if_icmp .ne 15, .aload 0, .iload 2, .iconst (-1), .invokeinterface 35 3, .iinc 2 (1), .goto 2, .return_]
def xq_39 : List Nat := [0, 1, 2, 3, 5, 8, 9, 10, 13, 16, 17, 20, 21, 22, 23, 26, 29, 32]
-- 40: ExtentShelf.add(II)V
def xc_40 : List Instr := [.aload 0, .invokeinterface 62 1, .iload 1, .invokeinterface 65 1, .iload 2, .iconst 2, .if_icmp .lt 10, .iload 2, .iconst 8, .if_icmp .le 11, .new 1, .aload 0, .getfield 97, .iload 1, .invokeinterface 22 2, .ifCond .ne 21, .aload 0, .getfield 96, .iload 1, .invokeinterface 0 2, .ifCond .eq 22, .new 2, .aload 0, .invokeinterface 67 1, .aload 0, .getfield 96, .iload 1, .invokeinterface 11 2, .aload 0, .invokeinterface 85 1, .aload 0, .getfield 98, .iload 1, .iload 2, .invokeinterface 24 3, .aload 0, .invokeinterface 86 1, .return_]
def xq_40 : List Nat := [0, 1, 4, 5, 8, 9, 10, 13, 14, 16, 19, 29, 30, 33, 34, 37, 40, 41, 44, 45, 48, 51, 61, 62, 65, 66, 69, 70, 73, 74, 77, 78, 81, 82, 83, 86, 87, 90]
-- 41: ExtentShelf.remove(I)V
def xc_41 : List Instr := [.aload 0, .invokeinterface 62 1, .iload 1, .invokeinterface 65 1, .aload 0, .iload 1, .invokeinterface 66 2, .aload 0, .getfield 97, .iload 1, .invokeinterface 37 2, .ifCond .gt 18, .aload 0, .getfield 99, .getfield 34, .invokeinterface 75 1, .iload 1, .if_icmp .ne 19, .new 2, .aload 0, .getfield 97, .invokeinterface 25 1, .iconst 1, .if_icmp .ne 25, .new 2, .aload 0, .invokeinterface 67 1, .aload 0, .invokeinterface 85 1, .aload 0, .getfield 98, .iload 1, .iconst 0, .invokeinterface 24 3, .aload 0, .invokeinterface 86 1, .aload 0, .getfield 99, .getfield 32, .iload 1, .if_icmp .ne 44, .aload 0, .getfield 99, .invokeinterface 13 1, .return_]
def xq_41 : List Nat := [0, 1, 4, 5, 8, 9, 10, 13, 14, 17, 18, 21, 24, 25, 28, 31, 34, 35, 38, 48, 49, 52, 55, 56, 59, 69, 70, 73, 74, 77, 78, 81, 82, 83, 86, 87, 90, 91, 94, 97, 98, 101, 102, 105, 108]
-- 42: ExtentShelf.drop(I)I
def xc_42 : List Instr := [.aload 0, .invokeinterface 62 1, .iload 1, .invokeinterface 65 1, .aload 0, .iload 1, .invokeinterface 66 2, .aload 0, .getfield 96, .iload 1, .invokeinterface 0 2, .ifCond .eq 15, .aload 0, .invokeinterface 71 1, .ifCond .ne 16, .new 2, .aload 0, .getfield 97, .iload 1, .invokeinterface 37 2, .istore 2, .aload 0, .invokeinterface 85 1, .aload 0, .getfield 98, .iload 1, .iconst 0, .invokeinterface 24 3, .aload 0, .getfield 98, .iload 1, .invokeinterface 39 2, .aload 0, .invokeinterface 86 1, .iload 2, .ireturn]
def xq_42 : List Nat := [0, 1, 4, 5, 8, 9, 10, 13, 14, 17, 18, 21, 24, 25, 28, 31, 41, 42, 45, 46, 49, 50, 51, 54, 55, 58, 59, 60, 63, 64, 67, 68, 71, 72, 75, 76]
-- 43: ExtentShelf.make(III)I
def xc_43 : List Instr := [.aload 0, .invokeinterface 62 1, .iload 1, .iload 2, .invokeinterface 72 2, .ifCond .eq 10, .iload 2, .iload 3, .invokeinterface 73 2, .ifCond .ne 11, .new 1, .aload 0, .invokeinterface 67 1, .aload 0, .getfield 97, .invokeinterface 27 1, .istore 4, .iload 4, .iconst (-1), .if_icmp .ne 21, .new 2, .aload 0, .invokeinterface 85 1, .aload 0, .getfield 98, .iload 4, .iload 1, .iload 2, .iload 3, .invokeinterface 28 5, .aload 0, .iload 4, .iconst 0, .invokeinterface 97 3, .iload 4, .ireturn]
def xq_43 : List Nat := [0, 1, 4, 5, 6, 9, 12, 13, 14, 17, 20, 30, 31, 34, 35, 38, 41, 43, 45, 46, 49, 59, 60, 63, 64, 67, 69, 70, 71, 72, 75, 76, 78, 79, 82, 84]
-- 44: ExtentShelf.grow(II)I
def xc_44 : List Instr := [.aload 0, .invokeinterface 62 1, .aload 0, .iload 1, .invokeinterface 68 2, .aload 0, .getfield 97, .iload 1, .invokeinterface 31 2, .istore 3, .iload 2, .iconst 1, .if_icmp .lt 25, .iload 2, .iconst 5, .if_icmp .gt 25, .aload 0, .getfield 97, .iload 1, .invokeinterface 30 2, .iload 3, .iload 2, .iadd, .invokeinterface 73 2, .ifCond .ne 26, .new 1, .aload 0, .invokeinterface 67 1, .aload 0, .invokeinterface 85 1, .aload 0, .getfield 98, .iload 1, .aload 0, .getfield 97, .iload 1, .invokeinterface 29 2, .aload 0, .getfield 97, .iload 1, .invokeinterface 30 2, .iload 3, .iload 2, .iadd, .invokeinterface 28 5, .aload 0, .iload 1, .iload 3, .invokeinterface 97 3, .iload 3, .iload 2, .iadd, .ireturn]
def xq_44 : List Nat := [0, 1, 4, 5, 6, 9, 10, 13, 14, 17, 18, 19, 20, 23, 24, 25, 28, 29, 32, 33, 36, 37, 38, 39, 42, 45, 55, 56, 59, 60, 63, 64, 67, 68, 69, 72, 73, 76, 77, 80, 81, 84, 85, 86, 87, 90, 91, 92, 93, 96, 97, 98, 99]
-- 45: ExtentShelf.shrink(II)I
def xc_45 : List Instr := [.aload 0, .invokeinterface 62 1, .aload 0, .iload 1, .invokeinterface 68 2, .aload 0, .getfield 97, .iload 1, .invokeinterface 31 2, .istore 3, .iload 2, .iload 3, .if_icmp .ge 20, .aload 0, .getfield 97, .iload 1, .invokeinterface 30 2, .iload 2, .invokeinterface 73 2, .ifCond .ne 21, .new 1, .aload 0, .invokeinterface 67 1, .aload 0, .invokeinterface 85 1, .aload 0, .getfield 98, .iload 1, .aload 0, .getfield 97, .iload 1, .invokeinterface 29 2, .aload 0, .getfield 97, .iload 1, .invokeinterface 30 2, .iload 2, .invokeinterface 28 5, .aload 0, .getfield 98, .iload 1, .iload 2, .invokeinterface 33 3, .aload 0, .invokeinterface 86 1, .iload 3, .iload 2, .isub, .ireturn]
def xq_45 : List Nat := [0, 1, 4, 5, 6, 9, 10, 13, 14, 17, 18, 19, 20, 23, 24, 27, 28, 31, 32, 35, 38, 48, 49, 52, 53, 56, 57, 60, 61, 62, 65, 66, 69, 70, 73, 74, 77, 78, 81, 82, 85, 86, 87, 90, 91, 94, 95, 96, 97]
-- 46: ExtentShelf.delete(I)V
def xc_46 : List Instr := [.aload 0, .invokeinterface 62 1, .aload 0, .iload 1, .invokeinterface 68 2, .aload 0, .invokeinterface 67 1, .aload 0, .invokeinterface 85 1, .aload 0, .getfield 98, .iload 1, .invokeinterface 32 2, .aload 0, .invokeinterface 86 1, .return_]
def xq_46 : List Nat := [0, 1, 4, 5, 6, 9, 10, 13, 14, 17, 18, 21, 22, 25, 26, 29]
-- 47: ExtentShelf.mend(I)I
def xc_47 : List Instr := [.aload 0, .invokeinterface 62 1, .aload 0, .iload 1, .invokeinterface 68 2, .aload 0, .getfield 97, .iload 1, .invokeinterface 29 2, .iconst 2, .if_icmp .eq 12, .new 1, .aload 0, .invokeinterface 67 1, .aload 0, .invokeinterface 85 1, .aload 0, .iload 1, .invokeinterface 99 2, .istore 2, .iload 2, .ifCond .le 27, .aload 0, .iload 1, .invokeinterface 101 2, .aload 0, .invokeinterface 86 1, .iload 2, .ireturn]
def xq_47 : List Nat := [0, 1, 4, 5, 6, 9, 10, 13, 14, 17, 18, 21, 31, 32, 35, 36, 39, 40, 41, 44, 45, 46, 49, 50, 51, 54, 55, 58, 59]
-- 48: ExtentShelf.write(III)I
def xc_48 : List Instr := [.aload 0, .invokeinterface 62 1, .aload 0, .iload 1, .invokeinterface 68 2, .aload 0, .iload 1, .iload 2, .invokeinterface 69 3, .aload 0, .iload 1, .iload 2, .invokeinterface 77 3, .istore 4, .aload 0, .iload 1, .iload 4, .invokeinterface 80 3, .iconst (-1), .if_icmp .ne 21, .new 2, .aload 0, .iload 1, .iload 4, .invokeinterface 89 3, .aload 0, .iload 1, .iload 2, .invokeinterface 78 3, .istore 5, .iconst 0, .istore 6, .iconst 0, .istore 7, .iload 7, .iconst 2, .if_icmp .ge 54, .iload 1, .iload 4, .iload 7, .invokeinterface 74 3, .istore 8, .aload 0, .iload 8, .invokeinterface 79 2, .ifCond .eq 52, .aload 0, .iload 8, .iload 5, .iload 3, .invokeinterface 84 4, .iinc 6 (1), .iinc 7 (1), .goto 34, .iload 6, .ireturn]
def xq_48 : List Nat := [0, 1, 4, 5, 6, 9, 10, 11, 12, 15, 16, 17, 18, 21, 23, 24, 25, 27, 30, 31, 34, 44, 45, 46, 48, 51, 52, 53, 54, 57, 59, 60, 62, 63, 65, 67, 68, 71, 72, 74, 76, 79, 81, 82, 84, 87, 90, 91, 93, 95, 96, 99, 102, 105, 108, 110]
-- 49: ExtentShelf.read(II)I
def xc_49 : List Instr := [.aload 0, .invokeinterface 62 1, .aload 0, .iload 1, .invokeinterface 68 2, .aload 0, .iload 1, .iload 2, .invokeinterface 69 3, .aload 0, .iload 1, .aload 0, .iload 1, .iload 2, .invokeinterface 77 3, .invokeinterface 80 3, .istore 3, .iload 3, .iconst (-1), .if_icmp .ne 21, .new 2, .aload 0, .getfield 96, .aload 0, .getfield 97, .iload 3, .invokeinterface 34 2, .aload 0, .iload 1, .iload 2, .invokeinterface 78 3, .invokeinterface 9 3, .ireturn]
def xq_49 : List Nat := [0, 1, 4, 5, 6, 9, 10, 11, 12, 15, 16, 17, 18, 19, 20, 23, 26, 27, 28, 29, 32, 42, 43, 46, 47, 50, 51, 54, 55, 56, 57, 60, 63]
-- 50: ExtentShelf.empty(I)I
def xc_50 : List Instr := [.aload 0, .invokeinterface 62 1, .iload 1, .invokeinterface 65 1, .aload 0, .iload 1, .invokeinterface 66 2, .aload 0, .getfield 99, .getfield 32, .iconst (-1), .if_icmp .eq 13, .new 2, .aload 0, .invokeinterface 67 1, .aload 0, .getfield 99, .iload 1, .invokeinterface 12 2, .aload 0, .getfield 97, .iload 1, .invokeinterface 37 2, .ireturn]
def xq_50 : List Nat := [0, 1, 4, 5, 8, 9, 10, 13, 14, 17, 20, 21, 24, 34, 35, 38, 39, 42, 43, 46, 47, 50, 51, 54]
-- 51: ExtentShelf.step()I
def xc_51 : List Instr := [.aload 0, .invokeinterface 62 1, .aload 0, .getfield 99, .getfield 32, .iconst (-1), .if_icmp .ne 8, .new 2, .aload 0, .getfield 99, .getfield 33, .iconst (-1), .if_icmp .ne 47, .aload 0, .getfield 97, .aload 0, .getfield 99, .getfield 32, .invokeinterface 38 2, .istore 1, .iload 1, .iconst (-1), .if_icmp .ne 25, .iconst (-1), .goto 28, .aload 0, .iload 1, .invokeinterface 103 2, .istore 2, .iload 2, .iconst (-1), .if_icmp .ne 42, .aload 0, .getfield 99, .invokeinterface 13 1, .iload 1, .iconst (-1), .if_icmp .ne 40, .iconst 0, .goto 41, .iconst (-1), .ireturn, .aload 0, .getfield 99, .iload 1, .iload 2, .invokeinterface 14 3, .aload 0, .invokeinterface 104 1, .aload 0, .getfield 97, .aload 0, .getfield 99, .getfield 32, .invokeinterface 37 2, .istore 1, .iload 1, .ifCond .ne 61, .aload 0, .getfield 99, .invokeinterface 13 1, .iload 1, .ireturn]
def xq_51 : List Nat := [0, 1, 4, 5, 8, 11, 12, 15, 25, 26, 29, 32, 33, 36, 37, 40, 41, 44, 47, 50, 51, 52, 53, 56, 57, 60, 61, 62, 65, 66, 67, 68, 71, 72, 75, 78, 79, 80, 83, 84, 87, 88, 89, 90, 93, 94, 95, 98, 99, 102, 103, 106, 107, 110, 113, 116, 117, 118, 121, 122, 125, 128, 129]
-- 52: ExtentShelf.moving()I
def xc_52 : List Instr := [.aload 0, .getfield 99, .getfield 32, .ireturn]
def xq_52 : List Nat := [0, 1, 4, 7]
-- 53: ExtentShelf.volume(II)I
def xc_53 : List Instr := [.aload 0, .invokeinterface 62 1, .aload 0, .iload 1, .invokeinterface 68 2, .iload 2, .tableswitch 26 0 3 #[7, 12, 17, 22], .aload 0, .getfield 97, .iload 1, .invokeinterface 29 2, .ireturn, .aload 0, .getfield 97, .iload 1, .invokeinterface 30 2, .ireturn, .aload 0, .getfield 97, .iload 1, .invokeinterface 31 2, .ireturn, .aload 0, .iload 1, .invokeinterface 76 2, .ireturn, .new 1]
def xq_53 : List Nat := [0, 1, 4, 5, 6, 9, 10, 40, 41, 44, 45, 48, 49, 50, 53, 54, 57, 58, 59, 62, 63, 66, 67, 68, 69, 72, 73]
-- 54: ExtentShelf.where(III)I
def xc_54 : List Instr := [.aload 0, .invokeinterface 62 1, .aload 0, .iload 1, .invokeinterface 68 2, .iload 2, .ifCond .lt 15, .iload 2, .iconst 5, .if_icmp .ge 15, .iload 3, .ifCond .lt 15, .iload 3, .iconst 2, .if_icmp .lt 17, .iconst (-1), .ireturn, .aload 0, .getfield 97, .iload 1, .iload 2, .iload 3, .invokeinterface 74 3, .invokeinterface 34 2, .ireturn]
def xq_54 : List Nat := [0, 1, 4, 5, 6, 9, 10, 13, 14, 15, 18, 19, 22, 23, 24, 27, 28, 29, 30, 33, 34, 35, 36, 39, 42]
-- 55: ExtentShelf.free(I)I
def xc_55 : List Instr := [.aload 0, .invokeinterface 62 1, .iload 1, .invokeinterface 65 1, .aload 0, .getfield 97, .iload 1, .invokeinterface 22 2, .ifCond .eq 15, .aload 0, .aload 0, .getfield 97, .iload 1, .invokeinterface 90 3, .goto 16, .iconst (-1), .ireturn]
def xq_55 : List Nat := [0, 1, 4, 5, 8, 9, 12, 13, 16, 19, 20, 21, 24, 25, 28, 31, 32]
-- 56: ExtentShelf.cut(I)V
def xc_56 : List Instr := [.aload 0, .invokeinterface 62 1, .iload 1, .iconst (-1), .if_icmp .ge 6, .new 1, .aload 0, .iload 1, .putfield 101, .return_]
def xq_56 : List Nat := [0, 1, 4, 5, 6, 9, 19, 20, 21, 24]
-- 57: ExtentShelf.off()V
def xc_57 : List Instr := [.aload 0, .invokeinterface 62 1, .aload 0, .invokeinterface 81 1, .return_]
def xq_57 : List Nat := [0, 1, 4, 5, 8]
-- 58: ExtentShelf.plug(IZ)Z
def xc_58 : List Instr := [.aload 0, .invokeinterface 63 1, .iload 1, .invokeinterface 65 1, .iload 2, .aload 0, .getfield 96, .iload 1, .invokeinterface 0 2, .if_icmp .ne 12, .iconst 1, .goto 13, .iconst 0, .istore 3, .aload 0, .getfield 96, .iload 1, .iload 2, .ifCond .ne 21, .iconst 1, .goto 22, .iconst 0, .invokeinterface 1 3, .iload 3, .freturn]
def xq_58 : List Nat := [0, 1, 4, 5, 8, 9, 10, 13, 14, 17, 20, 21, 24, 25, 26, 27, 30, 31, 32, 35, 36, 39, 40, 43, 44]
-- 59: ExtentShelf.start()I
def xc_59 : List Instr := [.aload 0, .invokeinterface 63 1, .aload 0, .iconst 1, .putstatic 100, .aload 0, .invokeinterface 105 1, .iconst 0, .istore 1, .iload 1, .iconst 4, .if_icmp .ge 33, .aload 0, .aload 0, .getfield 97, .iload 1, .invokeinterface 87 3, .ifCond .eq 31, .aload 0, .getfield 96, .iload 1, .aload 0, .getfield 97, .invokeinterface 21 1, .invokeinterface 6 3, .ifCond .ne 31, .aload 0, .aload 0, .getfield 97, .iload 1, .invokeinterface 88 3, .iinc 1 (1), .goto 9, .iconst 0, .istore 1, .iload 1, .iconst 40, .if_icmp .ge 46, .aload 0, .iload 1, .iload 1, .iconst 1, .iadd, .invokeinterface 106 3, .iinc 1 (2), .goto 35, .aload 0, .getfield 97, .invokeinterface 21 1, .ireturn]
def xq_59 : List Nat := [0, 1, 4, 5, 6, 9, 10, 13, 14, 15, 16, 17, 20, 21, 22, 25, 26, 29, 32, 33, 36, 37, 38, 41, 44, 47, 50, 51, 52, 55, 56, 59, 62, 65, 66, 67, 68, 70, 73, 74, 75, 76, 77, 78, 81, 84, 87, 88, 91, 94]
-- 60: ExtentShelf.number()I
def xc_60 : List Instr := [.aload 0, .getfield 100, .ifCond .eq 7, .aload 0, .getfield 97, .invokeinterface 21 1, .goto 8, .iconst (-1), .ireturn]
def xq_60 : List Nat := [0, 1, 4, 7, 8, 11, 14, 17, 18]
-- 61: ExtentShelf.look(III)I
def xc_61 : List Instr := [.iload 2, .ifCond .lt 12, .iload 2, .iconst 2, .if_icmp .ge 12, .iload 3, .ifCond .lt 12, .iload 3, .iconst 51, .if_icmp .ge 12, .iconst 1, .goto 13, .iconst 0, .istore 4, .iload 2, .iconst 2, .if_icmp .ne 24, .iload 3, .ifCond .lt 24, .iload 3, .iconst 32, .if_icmp .ge 24, .iconst 1, .goto 25, .iconst 0, .istore 5, .iload 1, .invokeinterface 64 1, .ifCond .eq 33, .iload 4, .ifCond .ne 34, .iload 5, .ifCond .ne 34, .new 4, .iload 4, .ifCond .eq 43, .aload 0, .getfield 96, .iload 1, .iload 2, .iload 3, .invokeinterface 3 4, .goto 50, .aload 0, .getfield 96, .iload 1, .iconst 8, .imul, .iload 3, .invokeinterface 9 3, .ireturn]
def xq_61 : List Nat := [0, 1, 4, 5, 6, 9, 10, 13, 14, 16, 19, 20, 23, 24, 26, 27, 28, 31, 32, 35, 36, 38, 41, 42, 45, 46, 48, 49, 52, 55, 57, 60, 62, 65, 76, 78, 81, 82, 85, 86, 87, 88, 91, 94, 95, 98, 99, 101, 102, 103, 106]
-- 62: ExtentShelf.requirePower()V
def xc_62 : List Instr := [.aload 0, .getfield 100, .ifCond .ne 4, .new 0, .return_]
def xq_62 : List Nat := [0, 1, 4, 7, 18]
-- 63: ExtentShelf.requireNoPower()V
def xc_63 : List Instr := [.aload 0, .getfield 100, .ifCond .eq 4, .new 0, .return_]
def xq_63 : List Nat := [0, 1, 4, 7, 18]
-- 64: ExtentShelf.isDisk(I)Z
def xc_64 : List Instr := [.iload 0, .ifCond .lt 7, .iload 0, .iconst 4, .if_icmp .ge 7, .iconst 1, .goto 8, .iconst 0, .freturn]
def xq_64 : List Nat := [0, 1, 4, 5, 6, 9, 10, 13, 14]
-- 65: ExtentShelf.requireDisk(I)V
def xc_65 : List Instr := [.iload 0, .invokeinterface 64 1, .ifCond .ne 4, .new 1, .return_]
def xq_65 : List Nat := [0, 1, 4, 7, 18]
-- 66: ExtentShelf.requireListed(I)V
def xc_66 : List Instr := [.aload 0, .getfield 97, .iload 1, .invokeinterface 22 2, .ifCond .ne 6, .new 2, .return_]
def xq_66 : List Nat := [0, 1, 4, 5, 8, 11, 22]
-- 67: ExtentShelf.requireListedPresent()V
def xc_67 : List Instr := [.aload 0, .invokeinterface 70 1, .ifCond .eq 4, .new 2, .return_]
def xq_67 : List Nat := [0, 1, 4, 7, 18]
-- 68: ExtentShelf.requireVolume(I)V
def xc_68 : List Instr := [.iload 1, .ifCond .lt 10, .iload 1, .iconst 4, .if_icmp .ge 10, .aload 0, .getfield 97, .iload 1, .invokeinterface 26 2, .ifCond .ne 11, .new 3, .return_]
def xq_68 : List Nat := [0, 1, 4, 5, 6, 9, 10, 13, 14, 17, 20, 30]
-- 69: ExtentShelf.requireWord(II)V
def xc_69 : List Instr := [.iload 2, .ifCond .lt 7, .iload 2, .aload 0, .iload 1, .invokeinterface 76 2, .if_icmp .lt 8, .new 4, .return_]
def xq_69 : List Nat := [0, 1, 4, 5, 6, 7, 10, 13, 24]
-- 70: ExtentShelf.isAnyListedAbsent()Z
def xc_70 : List Instr := [.iconst 0, .istore 1, .iload 1, .iconst 4, .if_icmp .ge 19, .aload 0, .getfield 97, .iload 1, .invokeinterface 22 2, .ifCond .eq 17, .aload 0, .getfield 96, .iload 1, .invokeinterface 0 2, .ifCond .eq 17, .iconst 1, .freturn, .iinc 1 (1), .goto 2, .iconst 0, .freturn]
def xq_70 : List Nat := [0, 1, 2, 3, 4, 7, 8, 11, 12, 15, 18, 19, 22, 23, 26, 29, 30, 31, 34, 37, 38]
-- 71: ExtentShelf.isAnyListedPresent()Z
def xc_71 : List Instr := [.iconst 0, .istore 1, .iload 1, .iconst 4, .if_icmp .ge 15, .aload 0, .aload 0, .getfield 97, .iload 1, .invokeinterface 87 3, .ifCond .eq 13, .iconst 1, .freturn, .iinc 1 (1), .goto 2, .iconst 0, .freturn]
def xq_71 : List Nat := [0, 1, 2, 3, 4, 7, 8, 9, 12, 13, 16, 19, 20, 21, 24, 27, 28]
-- 72: ExtentShelf.isShape(II)Z
def xc_72 : List Instr := [.iload 0, .iconst 1, .if_icmp .ne 13, .iload 1, .iconst 2, .if_icmp .eq 9, .iload 1, .iconst 3, .if_icmp .ne 11, .iconst 1, .goto 12, .iconst 0, .freturn, .iload 0, .ifCond .eq 18, .iload 0, .iconst 2, .if_icmp .ne 23, .iload 1, .iconst 1, .if_icmp .ne 23, .iconst 1, .goto 24, .iconst 0, .freturn]
def xq_72 : List Nat := [0, 1, 2, 5, 6, 7, 10, 11, 12, 15, 16, 19, 20, 21, 22, 25, 26, 27, 30, 31, 32, 35, 36, 39, 40]
-- 73: ExtentShelf.mayHave(II)Z
def xc_73 : List Instr := [.iload 1, .iconst 1, .if_icmp .lt 15, .iload 1, .iconst 5, .if_icmp .gt 15, .iload 0, .iconst 1, .if_icmp .lt 15, .iload 1, .iload 0, .irem, .ifCond .ne 15, .iconst 1, .goto 16, .iconst 0, .freturn]
def xq_73 : List Nat := [0, 1, 2, 5, 6, 7, 10, 11, 12, 15, 16, 17, 18, 21, 22, 25, 26]
-- 74: ExtentShelf.legOf(III)I
def xc_74 : List Instr := [.iload 0, .iconst 10, .imul, .iload 1, .iconst 2, .imul, .iadd, .iload 2, .iadd, .ireturn]
def xq_74 : List Nat := [0, 1, 3, 4, 5, 6, 7, 8, 9, 10]
-- 75: ExtentShelf.diskOf(I)I
def xc_75 : List Instr := [.iload 0, .iconst (-1), .if_icmp .ne 5, .iconst (-1), .goto 8, .iload 0, .iconst 8, .idiv, .ireturn]
def xq_75 : List Nat := [0, 1, 2, 5, 6, 9, 10, 12, 13]
-- 76: ExtentShelf.countWords(I)I
def xc_76 : List Instr := [.aload 0, .getfield 97, .iload 1, .invokeinterface 31 2, .iconst 4, .imul, .ireturn]
def xq_76 : List Nat := [0, 1, 4, 5, 8, 9, 10]
-- 77: ExtentShelf.elementOfWord(II)I
def xc_77 : List Instr := [.aload 0, .getfield 97, .iload 1, .invokeinterface 30 2, .istore 3, .iload 3, .iload 2, .iconst 4, .iload 3, .imul, .idiv, .imul, .iload 2, .iload 3, .irem, .iadd, .ireturn]
def xq_77 : List Nat := [0, 1, 4, 5, 8, 9, 10, 11, 12, 13, 14, 15, 16, 17, 18, 19, 20]
-- 78: ExtentShelf.placeOfWord(II)I
def xc_78 : List Instr := [.aload 0, .getfield 97, .iload 1, .invokeinterface 30 2, .istore 3, .iload 2, .iconst 4, .iload 3, .imul, .irem, .iload 3, .idiv, .ireturn]
def xq_78 : List Nat := [0, 1, 4, 5, 8, 9, 10, 11, 12, 13, 14, 15, 16]
-- 79: ExtentShelf.isReadable(I)Z
def xc_79 : List Instr := [.aload 0, .getfield 97, .iload 1, .invokeinterface 34 2, .istore 2, .iload 2, .iconst (-1), .if_icmp .eq 16, .aload 0, .getfield 96, .iload 2, .invokeinterface 75 1, .invokeinterface 0 2, .ifCond .ne 16, .iconst 1, .goto 17, .iconst 0, .freturn]
def xq_79 : List Nat := [0, 1, 4, 5, 8, 9, 10, 11, 14, 15, 18, 19, 22, 25, 28, 29, 32, 33]
-- 80: ExtentShelf.leastReadableLeg(II)I
def xc_80 : List Instr := [.iconst 0, .istore 3, .iload 3, .iconst 2, .if_icmp .ge 18, .iload 1, .iload 2, .iload 3, .invokeinterface 74 3, .istore 4, .aload 0, .iload 4, .invokeinterface 79 2, .ifCond .eq 16, .iload 4, .ireturn, .iinc 3 (1), .goto 2, .iconst (-1), .ireturn]
def xq_80 : List Nat := [0, 1, 2, 3, 4, 7, 8, 9, 10, 13, 15, 16, 18, 21, 24, 26, 27, 30, 33, 34]
-- 81: ExtentShelf.losePower()V
def xc_81 : List Instr := [.aload 0, .iconst 0, .putstatic 100, .aload 0, .iconst (-1), .putfield 101, .aload 0, .getfield 99, .invokeinterface 13 1, .return_]
def xq_81 : List Nat := [0, 1, 2, 5, 6, 7, 10, 11, 14, 17]
-- 82: ExtentShelf.spendWord()V
def xc_82 : List Instr := [.aload 0, .getfield 101, .ifCond .ne 6, .aload 0, .invokeinterface 81 1, .new 0, .aload 0, .getfield 101, .ifCond .le 15, .aload 0, .dup, .getfield 101, .iconst 1, .isub, .putfield 101, .return_]
def xq_82 : List Nat := [0, 1, 4, 7, 8, 11, 22, 23, 26, 29, 30, 31, 34, 35, 36, 39]
-- 83: ExtentShelf.putWord(III)V
def xc_83 : List Instr := [.aload 0, .invokeinterface 82 1, .aload 0, .getfield 96, .iload 1, .iload 2, .iload 3, .invokeinterface 10 4, .return_]
def xq_83 : List Nat := [0, 1, 4, 5, 8, 9, 10, 11, 14]
-- 84: ExtentShelf.putLegWord(III)V
def xc_84 : List Instr := [.aload 0, .aload 0, .getfield 97, .iload 1, .invokeinterface 34 2, .iload 2, .iload 3, .invokeinterface 83 4, .aload 0, .getfield 99, .iload 1, .iload 2, .invokeinterface 16 3, .ifCond .eq 21, .aload 0, .aload 0, .getfield 99, .getfield 34, .iload 2, .iload 3, .invokeinterface 83 4, .return_]
def xq_84 : List Nat := [0, 1, 2, 5, 6, 9, 10, 11, 14, 15, 18, 19, 20, 23, 26, 27, 28, 31, 34, 35, 36, 39]
-- 85: ExtentShelf.beginDraft()V
def xc_85 : List Instr := [.aload 0, .getfield 98, .aload 0, .getfield 97, .getfield 64, .iconst 0, .invokeinterface 17 3, .return_]
def xq_85 : List Nat := [0, 1, 4, 5, 8, 11, 12, 15]
-- 86: ExtentShelf.commitDraft()V
def xc_86 : List Instr := [.aload 0, .getfield 98, .aload 0, .getfield 97, .invokeinterface 21 1, .aload 0, .invokeinterface 70 1, .ifCond .eq 10, .iconst 2, .goto 11, .iconst 1, .iadd, .invokeinterface 19 2, .iconst 0, .istore 1, .iload 1, .iconst 4, .if_icmp .ge 31, .aload 0, .aload 0, .getfield 98, .iload 1, .invokeinterface 87 3, .ifCond .eq 29, .aload 0, .aload 0, .getfield 98, .iload 1, .invokeinterface 88 3, .iinc 1 (1), .goto 15, .aload 0, .getfield 97, .aload 0, .getfield 98, .getfield 64, .iconst 0, .invokeinterface 17 3, .aload 0, .getfield 99, .getfield 33, .iconst (-1), .if_icmp .eq 54, .aload 0, .getfield 97, .aload 0, .getfield 99, .getfield 33, .invokeinterface 34 2, .iconst (-1), .if_icmp .ne 54, .aload 0, .getfield 99, .invokeinterface 15 1, .return_]
def xq_86 : List Nat := [0, 1, 4, 5, 8, 11, 12, 15, 18, 19, 22, 23, 24, 27, 28, 29, 30, 31, 34, 35, 36, 39, 40, 43, 46, 47, 48, 51, 52, 55, 58, 61, 62, 65, 66, 69, 72, 73, 76, 77, 80, 83, 84, 87, 88, 91, 92, 95, 98, 101, 102, 105, 106, 109, 112]
-- 87: ExtentShelf.isListedAndPresent(LExtentShelf$Table;I)Z
def xc_87 : List Instr := [.aload 1, .iload 2, .invokeinterface 22 2, .ifCond .eq 11, .aload 0, .getfield 96, .iload 2, .invokeinterface 0 2, .ifCond .ne 11, .iconst 1, .goto 12, .iconst 0, .freturn]
def xq_87 : List Nat := [0, 1, 2, 5, 8, 9, 12, 13, 16, 19, 20, 23, 24]
-- 88: ExtentShelf.writeTable(LExtentShelf$Table;I)V
def xc_88 : List Instr := [.aload 0, .getfield 96, .iload 2, .invokeinterface 7 2, .istore 3, .iconst 0, .istore 4, .iload 4, .iconst 51, .if_icmp .ge 24, .aload 0, .invokeinterface 82 1, .aload 0, .getfield 96, .iload 2, .iload 3, .iload 4, .aload 1, .getfield 64, .iload 4, .iaload, .invokeinterface 4 5, .iinc 4 (1), .goto 7, .return_]
def xq_88 : List Nat := [0, 1, 4, 5, 8, 9, 10, 12, 14, 16, 19, 20, 23, 24, 27, 28, 29, 31, 32, 35, 37, 38, 41, 44, 47]
-- 89: ExtentShelf.loseAbsentLeg(II)V
def xc_89 : List Instr := [.iconst 0, .istore 3, .iload 3, .iconst 2, .if_icmp .ge 31, .iload 1, .iload 2, .iload 3, .invokeinterface 74 3, .istore 4, .aload 0, .getfield 97, .iload 4, .invokeinterface 34 2, .iconst (-1), .if_icmp .eq 29, .aload 0, .iload 4, .invokeinterface 79 2, .ifCond .ne 29, .aload 0, .invokeinterface 85 1, .aload 0, .getfield 98, .iload 4, .iconst (-1), .invokeinterface 35 3, .aload 0, .invokeinterface 86 1, .iinc 3 (1), .goto 2, .return_]
def xq_89 : List Nat := [0, 1, 2, 3, 4, 7, 8, 9, 10, 13, 15, 16, 19, 21, 24, 25, 28, 29, 31, 34, 37, 38, 41, 42, 45, 47, 48, 51, 52, 55, 58, 61]
-- 90: ExtentShelf.countFree(LExtentShelf$Table;I)I
def xc_90 : List Instr := [.aload 1, .iload 2, .invokeinterface 23 2, .aload 1, .iload 2, .invokeinterface 37 2, .isub, .aload 0, .getfield 99, .getfield 34, .invokeinterface 75 1, .iload 2, .if_icmp .ne 15, .iconst 1, .goto 16, .iconst 0, .isub, .ireturn]
def xq_90 : List Nat := [0, 1, 2, 5, 6, 7, 10, 11, 12, 15, 18, 21, 22, 25, 26, 29, 30, 31]
-- 91: ExtentShelf.findRoom(IIII)I
def xc_91 : List Instr := [.iload 4, .aload 0, .iload 1, .iload 2, .iload 3, .invokeinterface 93 4, .ior, .istore 5, .iconst (-1), .istore 6, .iconst 0, .istore 7, .iconst 0, .istore 8, .iload 8, .iconst 4, .if_icmp .ge 44, .aload 0, .aload 0, .getfield 98, .iload 8, .invokeinterface 90 3, .istore 9, .aload 0, .aload 0, .getfield 98, .iload 8, .invokeinterface 87 3, .ifCond .eq 42, .iload 5, .iload 8, .ishr, .iconst 1, .iand, .ifCond .ne 42, .iload 9, .iload 7, .if_icmp .le 42, .iload 8, .istore 6, .iload 9, .istore 7, .iinc 8 (1), .goto 14, .iload 6, .iconst (-1), .if_icmp .ne 49, .iconst (-1), .goto 52, .aload 0, .iload 6, .invokeinterface 92 2, .ireturn]
def xq_91 : List Nat := [0, 2, 3, 4, 5, 6, 9, 10, 12, 13, 15, 16, 18, 19, 21, 23, 24, 27, 28, 29, 32, 34, 37, 39, 40, 41, 44, 46, 49, 52, 54, 56, 57, 58, 59, 62, 64, 66, 69, 71, 73, 75, 77, 80, 83, 85, 86, 89, 90, 93, 94, 96, 99]
-- 92: ExtentShelf.leastFreeSpot(I)I
def xc_92 : List Instr := [.iload 1, .iconst 8, .imul, .istore 2, .iload 2, .istore 3, .iload 3, .iload 2, .aload 0, .getfield 98, .iload 1, .invokeinterface 23 2, .iadd, .if_icmp .ge 28, .iload 3, .aload 0, .getfield 99, .getfield 34, .if_icmp .eq 26, .aload 0, .getfield 98, .iload 3, .invokeinterface 36 2, .ifCond .ne 26, .iload 3, .ireturn, .iinc 3 (1), .goto 6, .iconst (-1), .ireturn]
def xq_92 : List Nat := [0, 1, 3, 4, 5, 6, 7, 8, 9, 10, 13, 14, 17, 18, 21, 22, 23, 26, 29, 32, 33, 36, 37, 40, 43, 44, 45, 48, 51, 52]
-- 93: ExtentShelf.groupDisks(III)I
def xc_93 : List Instr := [.aload 0, .getfield 98, .iload 1, .invokeinterface 30 2, .istore 4, .iload 2, .iload 2, .iload 4, .irem, .isub, .istore 5, .iconst 0, .istore 6, .iload 5, .istore 7, .iload 7, .iload 5, .iload 4, .iadd, .if_icmp .ge 44, .iconst 0, .istore 8, .iload 8, .iconst 2, .if_icmp .ge 42, .iload 7, .iload 2, .if_icmp .ne 31, .iload 8, .iload 3, .if_icmp .eq 40, .iload 6, .aload 0, .iload 1, .iload 7, .iload 8, .invokeinterface 74 3, .invokeinterface 94 2, .ior, .istore 6, .iinc 8 (1), .goto 22, .iinc 7 (1), .goto 15, .iload 6, .ireturn]
def xq_93 : List Nat := [0, 1, 4, 5, 8, 10, 11, 12, 14, 15, 16, 18, 19, 21, 23, 25, 27, 29, 31, 32, 35, 36, 38, 40, 41, 44, 46, 47, 50, 52, 53, 56, 58, 59, 60, 62, 64, 67, 70, 71, 73, 76, 79, 82, 85, 87]
-- 94: ExtentShelf.disksOfLeg(I)I
def xc_94 : List Instr := [.aload 0, .getfield 98, .iload 1, .invokeinterface 34 2, .invokeinterface 95 1, .istore 2, .aload 0, .getfield 99, .getfield 33, .iload 1, .if_icmp .ne 18, .iload 2, .aload 0, .getfield 99, .getfield 34, .invokeinterface 95 1, .ior, .goto 19, .iload 2, .ireturn]
def xq_94 : List Nat := [0, 1, 4, 5, 8, 11, 12, 13, 16, 19, 20, 23, 24, 25, 28, 31, 34, 35, 38, 39]
-- 95: ExtentShelf.bitOfDisk(I)I
def xc_95 : List Instr := [.iload 0, .iconst (-1), .if_icmp .ne 5, .iconst 0, .goto 10, .iconst 1, .iload 0, .iconst 8, .idiv, .ishl, .ireturn]
def xq_95 : List Nat := [0, 1, 2, 5, 6, 9, 10, 11, 13, 14, 15]
-- 96: ExtentShelf.giveRoom(III)V
def xc_96 : List Instr := [.aload 0, .iload 1, .iload 2, .iload 3, .iconst 0, .invokeinterface 91 5, .istore 4, .iload 4, .iconst (-1), .if_icmp .ne 11, .new 2, .aload 0, .getfield 98, .iload 1, .iload 2, .iload 3, .invokeinterface 74 3, .iload 4, .invokeinterface 35 3, .return_]
def xq_96 : List Nat := [0, 1, 2, 3, 4, 5, 8, 10, 12, 13, 16, 27, 28, 31, 32, 33, 34, 37, 39, 42]
-- 97: ExtentShelf.fillElements(II)V
def xc_97 : List Instr := [.aload 0, .getfield 98, .iload 1, .invokeinterface 29 2, .iconst 2, .if_icmp .ne 8, .iconst 2, .goto 9, .iconst 1, .istore 3, .aload 0, .getfield 98, .iload 1, .invokeinterface 31 2, .istore 4, .iload 2, .istore 5, .iload 5, .iload 4, .if_icmp .ge 34, .iconst 0, .istore 6, .iload 6, .iload 3, .if_icmp .ge 32, .aload 0, .iload 1, .iload 5, .iload 6, .invokeinterface 96 4, .iinc 6 (1), .goto 22, .iinc 5 (1), .goto 17, .iload 2, .istore 5, .iload 5, .iload 4, .if_icmp .ge 54, .iconst 0, .istore 6, .iload 6, .iload 3, .if_icmp .ge 52, .aload 0, .iload 1, .iload 5, .iload 6, .invokeinterface 74 3, .invokeinterface 98 2, .iinc 6 (1), .goto 41, .iinc 5 (1), .goto 36, .aload 0, .invokeinterface 86 1, .return_]
def xq_97 : List Nat := [0, 1, 4, 5, 8, 9, 12, 13, 16, 17, 18, 19, 22, 23, 26, 28, 29, 31, 33, 35, 38, 39, 41, 43, 44, 47, 48, 49, 51, 53, 56, 59, 62, 65, 68, 69, 71, 73, 75, 78, 79, 81, 83, 84, 87, 88, 89, 91, 93, 96, 99, 102, 105, 108, 111, 112, 115]
-- 98: ExtentShelf.clearLeg(I)V
def xc_98 : List Instr := [.iconst 0, .istore 2, .iload 2, .iconst 4, .if_icmp .ge 15, .aload 0, .aload 0, .getfield 98, .iload 1, .invokeinterface 34 2, .iload 2, .iconst 0, .invokeinterface 83 4, .iinc 2 (1), .goto 2, .return_]
def xq_98 : List Nat := [0, 1, 2, 3, 4, 7, 8, 9, 12, 13, 16, 17, 18, 21, 24, 27]
-- 99: ExtentShelf.findRoomForLostLegs(I)I
def xc_99 : List Instr := [.iconst 0, .istore 2, .iconst 0, .istore 3, .iload 3, .aload 0, .getfield 97, .iload 1, .invokeinterface 31 2, .if_icmp .ge 26, .aload 0, .iload 1, .iload 3, .invokeinterface 100 3, .istore 4, .iload 4, .iconst (-1), .if_icmp .eq 24, .aload 0, .iload 1, .iload 3, .iload 4, .invokeinterface 96 4, .iinc 2 (1), .iinc 3 (1), .goto 4, .iload 2, .ireturn]
def xq_99 : List Nat := [0, 1, 2, 3, 4, 5, 6, 9, 10, 13, 16, 17, 18, 19, 22, 24, 26, 27, 30, 31, 32, 33, 35, 38, 41, 44, 47, 48]
-- 100: ExtentShelf.lostLeg(II)I
def xc_100 : List Instr := [.aload 0, .getfield 97, .iload 1, .iload 2, .iconst 0, .invokeinterface 74 3, .invokeinterface 34 2, .iconst (-1), .if_icmp .eq 11, .iconst 1, .goto 12, .iconst 0, .istore 3, .aload 0, .getfield 97, .iload 1, .iload 2, .iconst 1, .invokeinterface 74 3, .invokeinterface 34 2, .iconst (-1), .if_icmp .eq 24, .iconst 1, .goto 25, .iconst 0, .istore 4, .iload 3, .iload 4, .if_icmp .ne 31, .iconst (-1), .ireturn, .iload 3, .ifCond .eq 35, .iconst 1, .goto 36, .iconst 0, .ireturn]
def xq_100 : List Nat := [0, 1, 4, 5, 6, 7, 10, 13, 14, 17, 18, 21, 22, 23, 24, 27, 28, 29, 30, 33, 36, 37, 40, 41, 44, 45, 47, 48, 50, 53, 54, 55, 56, 59, 60, 63, 64]
-- 101: ExtentShelf.copyToNewLegs(I)V
def xc_101 : List Instr := [.iconst 0, .istore 2, .iload 2, .aload 0, .getfield 97, .iload 1, .invokeinterface 31 2, .if_icmp .ge 38, .aload 0, .iload 1, .iload 2, .invokeinterface 100 3, .istore 3, .iload 3, .iconst (-1), .if_icmp .eq 36, .aload 0, .getfield 97, .iload 1, .iload 2, .iconst 1, .iload 3, .isub, .invokeinterface 74 3, .invokeinterface 34 2, .istore 4, .aload 0, .iload 4, .aload 0, .getfield 98, .iload 1, .iload 2, .iload 3, .invokeinterface 74 3, .invokeinterface 34 2, .invokeinterface 102 3, .iinc 2 (1), .goto 2, .return_]
def xq_101 : List Nat := [0, 1, 2, 3, 4, 7, 8, 11, 14, 15, 16, 17, 20, 21, 22, 23, 26, 27, 30, 31, 32, 33, 34, 35, 38, 41, 43, 44, 46, 47, 50, 51, 52, 53, 56, 59, 62, 65, 68]
-- 102: ExtentShelf.copyExtent(II)V
def xc_102 : List Instr := [.iconst 0, .istore 3, .iload 3, .iconst 4, .if_icmp .ge 16, .aload 0, .iload 2, .iload 3, .aload 0, .getfield 96, .iload 1, .iload 3, .invokeinterface 9 3, .invokeinterface 83 4, .iinc 3 (1), .goto 2, .return_]
def xq_102 : List Nat := [0, 1, 2, 3, 4, 7, 8, 9, 10, 11, 14, 15, 16, 19, 22, 25, 28]
-- 103: ExtentShelf.findRoomToMove(I)I
def xc_103 : List Instr := [.aload 0, .invokeinterface 85 1, .iload 1, .iconst 10, .idiv, .istore 2, .iload 1, .iconst 10, .irem, .iconst 2, .idiv, .istore 3, .aload 0, .iload 2, .iload 3, .iload 1, .iconst 2, .irem, .iconst 1, .aload 0, .getfield 99, .getfield 32, .ishl, .invokeinterface 91 5, .ireturn]
def xq_103 : List Nat := [0, 1, 4, 5, 7, 8, 9, 10, 12, 13, 14, 15, 16, 17, 18, 19, 20, 21, 22, 23, 24, 27, 30, 31, 34]
-- 104: ExtentShelf.copyNextWord()V
def xc_104 : List Instr := [.aload 0, .getfield 97, .aload 0, .getfield 99, .getfield 33, .invokeinterface 34 2, .istore 1, .aload 0, .aload 0, .getfield 99, .getfield 34, .aload 0, .getfield 99, .getfield 35, .aload 0, .getfield 96, .iload 1, .aload 0, .getfield 99, .getfield 35, .invokeinterface 9 3, .invokeinterface 83 4, .aload 0, .getfield 99, .dup, .getfield 35, .iconst 1, .iadd, .putfield 35, .aload 0, .getfield 99, .getfield 35, .iconst 4, .if_icmp .ne 50, .aload 0, .invokeinterface 85 1, .aload 0, .getfield 98, .aload 0, .getfield 99, .getfield 33, .aload 0, .getfield 99, .getfield 34, .invokeinterface 35 3, .aload 0, .invokeinterface 86 1, .aload 0, .getfield 99, .invokeinterface 15 1, .return_]
def xq_104 : List Nat := [0, 1, 4, 5, 8, 11, 14, 15, 16, 17, 20, 23, 24, 27, 30, 31, 34, 35, 36, 39, 42, 45, 48, 49, 52, 53, 56, 57, 58, 61, 62, 65, 68, 69, 72, 73, 76, 77, 80, 81, 84, 87, 88, 91, 94, 97, 98, 101, 102, 105, 108]
-- 105: ExtentShelf.loadNewestTable()V
def xc_105 : List Instr := [.aload 0, .getfield 96, .invokeinterface 8 1, .istore 1, .iload 1, .iconst (-1), .if_icmp .ne 11, .aload 0, .getfield 97, .invokeinterface 18 1, .goto 18, .aload 0, .getfield 97, .aload 0, .getfield 96, .getfield 0, .iload 1, .invokeinterface 17 3, .return_]
def xq_105 : List Nat := [0, 1, 4, 7, 8, 9, 10, 13, 14, 17, 20, 23, 24, 27, 28, 31, 34, 35, 38]
-- 106: ExtentShelf.alignTwins(II)V
def xc_106 : List Instr := [.aload 0, .iload 1, .invokeinterface 79 2, .ifCond .eq 18, .aload 0, .iload 2, .invokeinterface 79 2, .ifCond .eq 18, .aload 0, .aload 0, .getfield 97, .iload 1, .invokeinterface 34 2, .aload 0, .getfield 97, .iload 2, .invokeinterface 34 2, .invokeinterface 102 3, .return_]
def xq_106 : List Nat := [0, 1, 2, 5, 8, 9, 10, 13, 16, 17, 18, 21, 22, 25, 26, 29, 30, 33, 36]
-- 107: ExtentShelfModel.thrown()I
def xc_107 : List Instr := [.aload 0, .getfield 128, .ireturn]
def xq_107 : List Nat := [0, 1, 4]
-- 108: ExtentShelfModel.isDisk(I)Z
def xc_108 : List Instr := [.iload 0, .ifCond .lt 7, .iload 0, .iconst 4, .if_icmp .ge 7, .iconst 1, .goto 8, .iconst 0, .freturn]
def xq_108 : List Nat := [0, 1, 4, 5, 6, 9, 10, 13, 14]
-- 109: ExtentShelfModel.mayWrite()Z
def xc_109 : List Instr := [.aload 0, .getfield 132, .ifCond .ne 5, .iconst 0, .freturn, .aload 0, .getfield 133, .ifCond .ne 19, .aload 0, .iconst 0, .putstatic 132, .aload 0, .iconst (-1), .putfield 133, .aload 0, .iconst (-1), .putfield 136, .iconst 0, .freturn, .aload 0, .aload 0, .getfield 133, .ifCond .le 28, .aload 0, .getfield 133, .iconst 1, .isub, .goto 30, .aload 0, .getfield 133, .putfield 133, .iconst 1, .freturn]
def xq_109 : List Nat := [0, 1, 4, 7, 8, 9, 10, 13, 16, 17, 18, 21, 22, 23, 26, 27, 28, 31, 32, 33, 34, 35, 38, 41, 42, 45, 46, 47, 50, 51, 54, 57, 58]
-- 110: ExtentShelfModel.put(III)V
def xc_110 : List Instr := [.aload 0, .invokeinterface 109 1, .ifCond .eq 14, .aload 0, .getfield 131, .iconst 4, .iload 1, .iconst 1, .isub, .imul, .iload 2, .iadd, .iload 3, .iastore, .return_]
def xq_110 : List Nat := [0, 1, 4, 7, 8, 11, 12, 13, 14, 15, 16, 17, 18, 19, 20]
-- 111: ExtentShelfModel.get(II)I
def xc_111 : List Instr := [.aload 0, .getfield 131, .iconst 4, .iload 1, .iconst 1, .isub, .imul, .iload 2, .iadd, .iaload, .ireturn]
def xq_111 : List Nat := [0, 1, 4, 5, 6, 7, 8, 9, 10, 11, 12]
-- 112: ExtentShelfModel.kindOf([II)I
def xc_112 : List Instr := [.aload 0, .iconst 5, .iload 1, .iadd, .iaload, .ifCond .ne 8, .iconst (-1), .goto 17, .aload 0, .iconst 5, .iload 1, .iadd, .iaload, .iconst 4, .irem, .iconst 1, .isub, .ireturn]
def xq_112 : List Nat := [0, 1, 2, 3, 4, 5, 8, 9, 12, 13, 14, 15, 16, 17, 18, 19, 20, 21]
-- 113: ExtentShelfModel.columnsOf([II)I
def xc_113 : List Instr := [.aload 0, .iconst 5, .iload 1, .iadd, .iaload, .iconst 4, .idiv, .iconst 8, .irem, .ireturn]
def xq_113 : List Nat := [0, 1, 2, 3, 4, 5, 6, 7, 9, 10]
-- 114: ExtentShelfModel.elementsOf([II)I
def xc_114 : List Instr := [.aload 0, .iconst 5, .iload 1, .iadd, .iaload, .iconst 32, .idiv, .ireturn]
def xq_114 : List Nat := [0, 1, 2, 3, 4, 5, 7, 8]
-- 115: ExtentShelfModel.isVolume(I)Z
def xc_115 : List Instr := [.iload 1, .ifCond .lt 14, .iload 1, .iconst 4, .if_icmp .ge 14, .aload 0, .getfield 134, .iconst 5, .iload 1, .iadd, .iaload, .ifCond .eq 14, .iconst 1, .goto 15, .iconst 0, .freturn]
def xq_115 : List Nat := [0, 1, 4, 5, 6, 9, 10, 13, 14, 15, 16, 17, 20, 21, 24, 25]
-- 116: ExtentShelfModel.holds([II)Z
def xc_116 : List Instr := [.iconst 0, .istore 2, .iconst 9, .istore 3, .iload 3, .iconst 49, .if_icmp .ge 20, .iload 2, .ifCond .ne 14, .aload 0, .iload 3, .iaload, .iload 1, .if_icmp .ne 16, .iconst 1, .goto 17, .iconst 0, .istore 2, .iinc 3 (1), .goto 4, .iload 2, .freturn]
def xq_116 : List Nat := [0, 1, 2, 4, 5, 6, 8, 11, 12, 15, 16, 17, 18, 19, 22, 23, 26, 27, 28, 31, 34, 35]
-- 117: ExtentShelfModel.legsOn(I)I
def xc_117 : List Instr := [.iconst 0, .istore 2, .iconst 9, .istore 3, .iload 3, .iconst 49, .if_icmp .ge 30, .aload 0, .getfield 134, .iload 3, .iaload, .ifCond .le 26, .aload 0, .getfield 134, .iload 3, .iaload, .iconst 1, .isub, .iconst 8, .idiv, .iload 1, .if_icmp .ne 26, .iload 2, .iconst 1, .iadd, .goto 27, .iload 2, .istore 2, .iinc 3 (1), .goto 4, .iload 2, .ireturn]
def xq_117 : List Nat := [0, 1, 2, 4, 5, 6, 8, 11, 12, 15, 16, 17, 20, 21, 24, 25, 26, 27, 28, 30, 31, 32, 35, 36, 37, 38, 41, 42, 43, 46, 49, 50]
-- 118: ExtentShelfModel.isOneAbsent()Z
def xc_118 : List Instr := [.iconst 0, .istore 1, .iconst 0, .istore 2, .iload 2, .iconst 4, .if_icmp .ge 27, .iload 1, .ifCond .ne 21, .aload 0, .getfield 134, .iconst 1, .iload 2, .iadd, .iaload, .ifCond .le 23, .aload 0, .getfield 129, .iload 2, .baload, .ifCond .ne 23, .iconst 1, .goto 24, .iconst 0, .istore 1, .iinc 2 (1), .goto 4, .iload 1, .freturn]
def xq_118 : List Nat := [0, 1, 2, 3, 4, 5, 6, 9, 10, 13, 14, 17, 18, 19, 20, 21, 24, 25, 28, 29, 30, 33, 34, 37, 38, 39, 42, 45, 46]
-- 119: ExtentShelfModel.begin()V
def xc_119 : List Instr := [.iconst 0, .istore 1, .iload 1, .iconst 51, .if_icmp .ge 15, .aload 0, .getfield 135, .iload 1, .aload 0, .getfield 134, .iload 1, .iaload, .iastore, .iinc 1 (1), .goto 2, .return_]
def xq_119 : List Nat := [0, 1, 2, 3, 5, 8, 9, 12, 13, 14, 17, 18, 19, 20, 23, 26]
-- 120: ExtentShelfModel.numberOf(II)I
def xc_120 : List Instr := [.iconst 102, .iload 1, .imul, .iconst 51, .iload 2, .imul, .iadd, .istore 3, .iconst 0, .istore 4, .iconst 0, .istore 5, .iload 5, .iconst 49, .if_icmp .ge 30, .iload 4, .aload 0, .getfield 130, .iload 3, .iload 5, .iadd, .iaload, .iload 5, .iconst 1, .iadd, .imul, .iadd, .istore 4, .iinc 5 (1), .goto 12, .iload 4, .aload 0, .getfield 130, .iload 3, .iconst 49, .iadd, .iaload, .if_icmp .ne 56, .aload 0, .getfield 130, .iload 3, .iconst 50, .iadd, .iaload, .aload 0, .getfield 130, .iload 3, .iaload, .if_icmp .ne 56, .aload 0, .getfield 130, .iload 3, .iaload, .ifCond .le 56, .iconst 1, .goto 57, .iconst 0, .istore 5, .iload 5, .ifCond .eq 65, .aload 0, .getfield 130, .iload 3, .iaload, .goto 66, .iconst 0, .ireturn]
def xq_120 : List Nat := [0, 2, 3, 4, 6, 7, 8, 9, 10, 11, 13, 14, 16, 18, 20, 23, 25, 26, 29, 30, 32, 33, 34, 36, 37, 38, 39, 40, 42, 45, 48, 50, 51, 54, 55, 57, 58, 59, 62, 63, 66, 67, 69, 70, 71, 72, 75, 76, 77, 80, 81, 84, 85, 86, 89, 90, 93, 94, 96, 98, 101, 102, 105, 106, 107, 110, 111]
-- 121: ExtentShelfModel.slotToWrite(I)I
def xc_121 : List Instr := [.aload 0, .iload 1, .iconst 0, .invokeinterface 120 3, .istore 2, .aload 0, .iload 1, .iconst 1, .invokeinterface 120 3, .istore 3, .iload 2, .ifCond .eq 14, .iload 3, .ifCond .ne 20, .iload 2, .ifCond .ne 18, .iconst 0, .goto 19, .iconst 1, .ireturn, .iload 2, .iload 3, .if_icmp .ge 25, .iconst 0, .goto 26, .iconst 1, .ireturn]
def xq_121 : List Nat := [0, 1, 2, 3, 6, 7, 8, 9, 10, 13, 14, 15, 18, 19, 22, 23, 26, 27, 30, 31, 32, 33, 34, 37, 38, 41, 42]
-- 122: ExtentShelfModel.writeTo(I[I)V
def xc_122 : List Instr := [.iconst 102, .iload 1, .imul, .iconst 51, .aload 0, .iload 1, .invokeinterface 121 2, .imul, .iadd, .istore 3, .iconst 0, .istore 4, .iload 4, .iconst 51, .if_icmp .ge 32, .aload 0, .getfield 132, .ifCond .eq 32, .aload 0, .invokeinterface 109 1, .ifCond .eq 30, .aload 0, .getfield 130, .iload 3, .iload 4, .iadd, .aload 2, .iload 4, .iaload, .iastore, .iinc 4 (1), .goto 12, .return_]
def xq_122 : List Nat := [0, 2, 3, 4, 6, 7, 8, 11, 12, 13, 14, 15, 17, 19, 21, 24, 25, 28, 31, 32, 35, 38, 39, 42, 43, 45, 46, 47, 49, 50, 51, 54, 57]
-- 123: ExtentShelfModel.change()V
def xc_123 : List Instr := [.aload 0, .getfield 135, .iconst 0, .aload 0, .getfield 134, .iconst 0, .iaload, .aload 0, .invokeinterface 118 1, .ifCond .eq 12, .iconst 2, .goto 13, .iconst 1, .iadd, .iastore, .aload 0, .getfield 135, .iconst 50, .aload 0, .getfield 135, .iconst 0, .iaload, .iastore, .aload 0, .getfield 135, .iconst 49, .iconst 0, .iastore, .iconst 0, .istore 1, .iload 1, .iconst 49, .if_icmp .ge 52, .aload 0, .getfield 135, .iconst 49, .aload 0, .getfield 135, .iconst 49, .iaload, .aload 0, .getfield 135, .iload 1, .iaload, .iload 1, .iconst 1, .iadd, .imul, .iadd, .iastore, .iinc 1 (1), .goto 30, .iconst 0, .istore 1, .iload 1, .iconst 4, .if_icmp .ge 79, .aload 0, .getfield 132, .ifCond .eq 79, .aload 0, .getfield 135, .iconst 1, .iload 1, .iadd, .iaload, .ifCond .le 77, .aload 0, .getfield 129, .iload 1, .baload, .ifCond .eq 77, .aload 0, .iload 1, .aload 0, .getfield 135, .invokeinterface 122 3, .iinc 1 (1), .goto 54, .aload 0, .getfield 132, .ifCond .ne 83, .return_, .iconst 9, .iconst 10, .aload 0, .getfield 137, .imul, .iadd, .aload 0, .getfield 138, .iadd, .istore 1, .aload 0, .aload 0, .getfield 139, .ifCond .le 108, .aload 0, .getfield 135, .iload 1, .iaload, .aload 0, .getfield 134, .iload 1, .iaload, .if_icmp .eq 108, .iconst 0, .goto 110, .aload 0, .getfield 139, .putfield 139, .iconst 0, .istore 2, .iload 2, .iconst 51, .if_icmp .ge 126, .aload 0, .getfield 134, .iload 2, .aload 0, .getfield 135, .iload 2, .iaload, .iastore, .iinc 2 (1), .goto 113, .return_]
def xq_123 : List Nat := [0, 1, 4, 5, 6, 9, 10, 11, 12, 15, 18, 19, 22, 23, 24, 25, 26, 29, 31, 32, 35, 36, 37, 38, 39, 42, 44, 45, 46, 47, 48, 49, 51, 54, 55, 58, 60, 61, 64, 66, 67, 68, 71, 72, 73, 74, 75, 76, 77, 78, 79, 82, 85, 86, 87, 88, 89, 92, 93, 96, 99, 100, 103, 104, 105, 106, 107, 110, 111, 114, 115, 116, 119, 120, 121, 122, 125, 128, 131, 134, 135, 138, 141, 142, 144, 146, 147, 150, 151, 152, 153, 156, 157, 158, 159, 160, 163, 166, 167, 170, 171, 172, 173, 176, 177, 178, 181, 182, 185, 186, 189, 192, 193, 194, 195, 197, 200, 201, 204, 205, 206, 209, 210, 211, 212, 215, 218]
-- 124: ExtentShelfModel.ended(I)I
def xc_124 : List Instr := [.aload 0, .aload 0, .getfield 132, .ifCond .eq 6, .iconst 0, .goto 7, .iconst 1, .putfield 128, .aload 0, .getfield 132, .ifCond .eq 13, .iload 1, .goto 14, .iconst 0, .ireturn]
def xq_124 : List Nat := [0, 1, 2, 5, 8, 9, 12, 13, 16, 17, 20, 23, 24, 27, 28]
-- 125: ExtentShelfModel.isFree([II)Z
def xc_125 : List Instr := [.aload 1, .iload 2, .invokeinterface 116 2, .ifCond .ne 13, .aload 0, .getfield 136, .ifCond .lt 11, .aload 0, .getfield 139, .iload 2, .if_icmp .eq 13, .iconst 1, .goto 14, .iconst 0, .freturn]
def xq_125 : List Nat := [0, 1, 2, 5, 8, 9, 12, 15, 16, 19, 20, 23, 24, 27, 28]
-- 126: ExtentShelfModel.freeOn([II)I
def xc_126 : List Instr := [.iconst 0, .istore 3, .iconst 0, .istore 4, .iload 4, .aload 1, .iconst 1, .iload 2, .iadd, .iaload, .if_icmp .ge 30, .aload 0, .aload 1, .iconst 1, .iconst 8, .iload 2, .imul, .iadd, .iload 4, .iadd, .invokeinterface 125 3, .ifCond .eq 26, .iload 3, .iconst 1, .iadd, .goto 27, .iload 3, .istore 3, .iinc 4 (1), .goto 4, .iload 3, .ireturn]
def xq_126 : List Nat := [0, 1, 2, 3, 5, 7, 8, 9, 10, 11, 12, 15, 16, 17, 18, 20, 21, 22, 23, 25, 26, 29, 32, 33, 34, 35, 38, 39, 40, 43, 46, 47]
-- 127: ExtentShelfModel.isBeside([IIII)Z
def xc_127 : List Instr := [.aload 0, .iload 1, .invokeinterface 112 2, .istore 4, .iload 4, .iconst 1, .if_icmp .ne 33, .iload 2, .iconst 2, .idiv, .aload 0, .iload 1, .invokeinterface 113 2, .idiv, .iload 3, .iconst 2, .idiv, .aload 0, .iload 1, .invokeinterface 113 2, .idiv, .if_icmp .ne 31, .iload 2, .iconst 2, .idiv, .iload 3, .iconst 2, .idiv, .if_icmp .eq 31, .iconst 1, .goto 49, .iconst 0, .goto 49, .iload 4, .iconst 2, .if_icmp .ne 48, .iload 2, .iconst 2, .idiv, .iload 3, .iconst 2, .idiv, .if_icmp .ne 48, .iload 2, .iload 3, .if_icmp .eq 48, .iconst 1, .goto 49, .iconst 0, .freturn]
def xq_127 : List Nat := [0, 1, 2, 5, 7, 9, 10, 13, 14, 15, 16, 17, 18, 21, 22, 23, 24, 25, 26, 27, 30, 31, 34, 35, 36, 37, 38, 39, 40, 43, 44, 47, 48, 51, 53, 54, 57, 58, 59, 60, 61, 62, 63, 66, 67, 68, 71, 72, 75, 76]
-- 128: ExtentShelfModel.meets([IIII)Z
def xc_128 : List Instr := [.aload 0, .getfield 136, .ifCond .lt 27, .aload 0, .getfield 139, .ifCond .le 27, .aload 0, .getfield 137, .iload 2, .if_icmp .ne 27, .aload 0, .getfield 139, .iconst 1, .isub, .iconst 8, .idiv, .iload 4, .if_icmp .ne 27, .aload 1, .iload 2, .aload 0, .getfield 138, .iload 3, .invokeinterface 127 4, .ifCond .eq 27, .iconst 1, .goto 28, .iconst 0, .istore 5, .iconst 0, .istore 6, .iload 6, .iconst 2, .aload 1, .iload 2, .invokeinterface 114 2, .imul, .if_icmp .ge 71, .aload 1, .iconst 9, .iconst 10, .iload 2, .imul, .iadd, .iload 6, .iadd, .iaload, .istore 7, .iload 5, .ifCond .ne 65, .aload 1, .iload 2, .iload 6, .iload 3, .invokeinterface 127 4, .ifCond .eq 67, .iload 7, .ifCond .le 67, .iload 7, .iconst 1, .isub, .iconst 8, .idiv, .iload 4, .if_icmp .ne 67, .iconst 1, .goto 68, .iconst 0, .istore 5, .iinc 6 (1), .goto 31, .iload 5, .freturn]
def xq_128 : List Nat := [0, 1, 4, 7, 8, 11, 14, 15, 18, 19, 22, 23, 26, 27, 28, 30, 31, 33, 36, 37, 38, 39, 42, 43, 46, 49, 50, 53, 54, 56, 57, 59, 61, 62, 63, 64, 67, 68, 71, 72, 74, 76, 77, 78, 79, 81, 82, 83, 85, 87, 90, 91, 92, 94, 95, 98, 101, 103, 106, 108, 109, 110, 112, 113, 115, 118, 119, 122, 123, 125, 128, 131, 133]
-- 129: ExtentShelfModel.room([IIII)I
def xc_129 : List Instr := [.iconst (-1), .istore 5, .iconst 0, .istore 6, .iconst 3, .istore 7, .iload 7, .ifCond .lt 48, .iload 7, .iload 4, .if_icmp .eq 23, .aload 0, .getfield 129, .iload 7, .baload, .ifCond .eq 23, .aload 0, .aload 1, .iload 2, .iload 3, .iload 7, .invokeinterface 128 5, .ifCond .eq 25, .iconst 0, .goto 29, .aload 0, .aload 1, .iload 7, .invokeinterface 126 3, .istore 8, .iload 8, .ifCond .le 37, .iload 8, .iload 6, .if_icmp .lt 37, .iload 7, .goto 38, .iload 5, .istore 5, .iload 8, .iload 6, .if_icmp .le 44, .iload 8, .goto 45, .iload 6, .istore 6, .iinc 7 (-1), .goto 6, .iload 5, .ifCond .ge 52, .iconst 0, .ireturn, .iconst 0, .istore 7, .iload 7, .iconst 8, .if_icmp .ge 78, .aload 0, .aload 1, .iconst 1, .iconst 8, .iload 5, .imul, .iadd, .iload 7, .iadd, .invokeinterface 125 3, .ifCond .eq 76, .iconst 1, .iconst 8, .iload 5, .imul, .iadd, .iload 7, .iadd, .ireturn, .iinc 7 (1), .goto 54, .iconst 0, .ireturn]
def xq_129 : List Nat := [0, 1, 3, 4, 6, 7, 9, 11, 14, 16, 18, 21, 22, 25, 27, 28, 31, 32, 33, 34, 35, 37, 40, 43, 44, 47, 48, 49, 51, 54, 56, 58, 61, 63, 65, 68, 70, 73, 75, 77, 79, 81, 84, 86, 89, 91, 93, 96, 99, 101, 104, 105, 106, 107, 109, 111, 113, 116, 117, 118, 119, 121, 123, 124, 125, 127, 128, 131, 134, 135, 137, 139, 140, 141, 143, 144, 145, 148, 151, 152]
-- 130: ExtentShelfModel.find(II)Z
def xc_130 : List Instr := [.aload 0, .getfield 135, .iload 1, .invokeinterface 114 2, .istore 3, .iconst 2, .iload 2, .imul, .istore 4, .iload 4, .iconst 2, .iload 3, .imul, .if_icmp .ge 56, .iload 4, .iconst 2, .irem, .ifCond .eq 24, .aload 0, .getfield 135, .iload 1, .invokeinterface 112 2, .iconst 2, .if_icmp .ne 54, .aload 0, .getfield 135, .iconst 9, .iconst 10, .iload 1, .imul, .iadd, .iload 4, .iadd, .aload 0, .aload 0, .getfield 135, .iload 1, .iload 4, .iconst (-1), .invokeinterface 129 5, .iastore, .aload 0, .getfield 135, .iconst 9, .iconst 10, .iload 1, .imul, .iadd, .iload 4, .iadd, .iaload, .ifCond .ne 54, .iconst 0, .freturn, .iinc 4 (1), .goto 9, .iconst 1, .freturn]
def xq_130 : List Nat := [0, 1, 4, 5, 8, 9, 10, 11, 12, 14, 16, 17, 18, 19, 22, 24, 25, 26, 29, 30, 33, 34, 37, 38, 41, 42, 45, 47, 49, 50, 51, 52, 54, 55, 56, 57, 60, 61, 63, 64, 67, 68, 69, 72, 74, 76, 77, 78, 79, 81, 82, 83, 86, 87, 88, 91, 94, 95]
-- 131: ExtentShelfModel.clear(II)V
def xc_131 : List Instr := [.iconst 2, .iload 2, .imul, .istore 3, .iload 3, .iconst 2, .aload 0, .getfield 135, .iload 1, .invokeinterface 114 2, .imul, .if_icmp .ge 46, .iconst 0, .istore 4, .iload 4, .iconst 4, .if_icmp .ge 44, .aload 0, .getfield 135, .iconst 9, .iconst 10, .iload 1, .imul, .iadd, .iload 3, .iadd, .iaload, .ifCond .le 44, .aload 0, .aload 0, .getfield 135, .iconst 9, .iconst 10, .iload 1, .imul, .iadd, .iload 3, .iadd, .iaload, .iload 4, .iconst 0, .invokeinterface 110 4, .iinc 4 (1), .goto 14, .iinc 3 (1), .goto 4, .return_]
def xq_131 : List Nat := [0, 1, 2, 3, 4, 5, 6, 7, 10, 11, 14, 15, 18, 19, 21, 23, 24, 27, 28, 31, 33, 35, 36, 37, 38, 39, 40, 41, 44, 45, 46, 49, 51, 53, 54, 55, 56, 57, 58, 59, 61, 62, 65, 68, 71, 74, 77]
-- 132: ExtentShelfModel.listed()I
def xc_132 : List Instr := [.iconst 0, .istore 1, .iconst 0, .istore 2, .iload 2, .iconst 4, .if_icmp .ge 22, .aload 0, .getfield 134, .iconst 1, .iload 2, .iadd, .iaload, .ifCond .le 18, .iload 1, .iconst 1, .iadd, .goto 19, .iload 1, .istore 1, .iinc 2 (1), .goto 4, .iload 1, .ireturn]
def xq_132 : List Nat := [0, 1, 2, 3, 4, 5, 6, 9, 10, 13, 14, 15, 16, 17, 20, 21, 22, 23, 26, 27, 28, 31, 34, 35]
-- 133: ExtentShelfModel.add(II)V
def xc_133 : List Instr := [.aload 0, .aload 0, .getfield 132, .ifCond .ne 6, .iconst 1, .goto 35, .iload 1, .invokeinterface 108 1, .ifCond .eq 15, .iload 2, .iconst 2, .if_icmp .lt 15, .iload 2, .iconst 8, .if_icmp .le 17, .iconst 2, .goto 35, .aload 0, .getfield 134, .iconst 1, .iload 1, .iadd, .iaload, .ifCond .gt 32, .aload 0, .getfield 129, .iload 1, .baload, .ifCond .eq 32, .aload 0, .invokeinterface 118 1, .ifCond .eq 34, .iconst 3, .goto 35, .iconst 0, .putfield 128, .aload 0, .getfield 128, .ifCond .le 40, .return_, .iconst 0, .istore 3, .iload 3, .iconst 32, .if_icmp .ge 56, .aload 0, .getfield 131, .iconst 32, .iload 1, .imul, .iload 3, .iadd, .iconst 0, .iastore, .iinc 3 (1), .goto 42, .aload 0, .invokeinterface 119 1, .aload 0, .getfield 135, .iconst 1, .iload 1, .iadd, .iload 2, .iastore, .aload 0, .invokeinterface 123 1, .aload 0, .aload 0, .iconst 0, .invokeinterface 124 2, .ifCond .ne 77, .aload 0, .getfield 132, .ifCond .eq 77, .iconst 0, .goto 78, .iconst 1, .putfield 128, .return_]
def xq_133 : List Nat := [0, 1, 2, 5, 8, 9, 12, 13, 16, 19, 20, 21, 24, 25, 27, 30, 31, 34, 35, 38, 39, 40, 41, 42, 45, 46, 49, 50, 51, 54, 55, 58, 61, 62, 65, 66, 69, 70, 73, 76, 77, 78, 79, 80, 82, 85, 86, 89, 91, 92, 93, 94, 95, 96, 97, 100, 103, 104, 107, 108, 111, 112, 113, 114, 115, 116, 117, 120, 121, 122, 123, 126, 129, 130, 133, 136, 137, 140, 141, 144]
-- 134: ExtentShelfModel.remove(I)V
def xc_134 : List Instr := [.aload 0, .aload 0, .getfield 132, .ifCond .ne 6, .iconst 1, .goto 12, .iload 1, .invokeinterface 108 1, .ifCond .ne 11, .iconst 2, .goto 12, .iconst 0, .putfield 128, .aload 0, .getfield 128, .ifCond .le 17, .return_, .aload 0, .getfield 136, .ifCond .lt 33, .aload 0, .getfield 139, .ifCond .le 33, .aload 0, .getfield 139, .iconst 1, .isub, .iconst 8, .idiv, .iload 1, .if_icmp .ne 33, .iconst 1, .goto 34, .iconst 0, .istore 2, .aload 0, .aload 0, .getfield 134, .iconst 1, .iload 1, .iadd, .iaload, .ifCond .eq 56, .aload 0, .iload 1, .invokeinterface 117 2, .ifCond .gt 56, .iload 2, .ifCond .ne 56, .aload 0, .invokeinterface 132 1, .iconst 2, .if_icmp .lt 56, .aload 0, .invokeinterface 118 1, .ifCond .eq 58, .iconst 3, .goto 59, .iconst 0, .putfield 128, .aload 0, .getfield 128, .ifCond .le 64, .return_, .aload 0, .invokeinterface 119 1, .aload 0, .getfield 135, .iconst 1, .iload 1, .iadd, .iconst 0, .iastore, .aload 0, .invokeinterface 123 1, .aload 0, .aload 0, .getfield 136, .iload 1, .if_icmp .ne 82, .iconst (-1), .goto 84, .aload 0, .getfield 136, .putfield 136, .aload 0, .aload 0, .getfield 132, .ifCond .eq 91, .iconst 0, .goto 92, .iconst 1, .putfield 128, .return_]
def xq_134 : List Nat := [0, 1, 2, 5, 8, 9, 12, 13, 16, 19, 20, 23, 24, 27, 28, 31, 34, 35, 36, 39, 42, 43, 46, 49, 50, 53, 54, 55, 57, 58, 59, 62, 63, 66, 67, 68, 69, 70, 73, 74, 75, 76, 77, 80, 81, 82, 85, 88, 89, 92, 93, 96, 97, 100, 101, 104, 107, 108, 111, 112, 115, 116, 119, 122, 123, 124, 127, 128, 131, 132, 133, 134, 135, 136, 137, 140, 141, 142, 145, 146, 149, 150, 153, 154, 157, 160, 161, 162, 165, 168, 169, 172, 173, 176]
-- 135: ExtentShelfModel.drop(I)I
def xc_135 : List Instr := [.aload 0, .aload 0, .getfield 132, .ifCond .ne 6, .iconst 1, .goto 12, .iload 1, .invokeinterface 108 1, .ifCond .ne 11, .iconst 2, .goto 12, .iconst 0, .putfield 128, .aload 0, .getfield 128, .ifCond .le 18, .iconst 0, .ireturn, .iconst 0, .istore 2, .iconst 0, .istore 3, .iload 3, .iconst 4, .if_icmp .ge 45, .iload 2, .ifCond .ne 39, .aload 0, .getfield 134, .iconst 1, .iload 3, .iadd, .iaload, .ifCond .le 41, .aload 0, .getfield 129, .iload 3, .baload, .ifCond .eq 41, .iconst 1, .goto 42, .iconst 0, .istore 2, .iinc 3 (1), .goto 22, .aload 0, .aload 0, .getfield 134, .iconst 1, .iload 1, .iadd, .iaload, .ifCond .eq 60, .aload 0, .getfield 129, .iload 1, .baload, .ifCond .ne 60, .iload 2, .ifCond .ne 62, .iconst 3, .goto 63, .iconst 0, .putfield 128, .aload 0, .getfield 128, .ifCond .le 69, .iconst 0, .ireturn, .aload 0, .invokeinterface 119 1, .aload 0, .getfield 135, .iconst 1, .iload 1, .iadd, .iconst 0, .iastore, .iconst 0, .istore 3, .iconst 9, .istore 4, .iload 4, .iconst 49, .if_icmp .ge 108, .aload 0, .getfield 135, .iload 4, .iaload, .ifCond .le 106, .aload 0, .getfield 135, .iload 4, .iaload, .iconst 1, .isub, .iconst 8, .idiv, .iload 1, .if_icmp .ne 106, .aload 0, .getfield 135, .iload 4, .iconst 0, .iastore, .iinc 3 (1), .iinc 4 (1), .goto 82, .aload 0, .invokeinterface 123 1, .aload 0, .iload 3, .invokeinterface 124 2, .ireturn]
def xq_135 : List Nat := [0, 1, 2, 5, 8, 9, 12, 13, 16, 19, 20, 23, 24, 27, 28, 31, 34, 35, 36, 37, 38, 39, 40, 41, 42, 45, 46, 49, 50, 53, 54, 55, 56, 57, 60, 61, 64, 65, 66, 69, 70, 73, 74, 75, 78, 81, 82, 83, 86, 87, 88, 89, 90, 93, 94, 97, 98, 99, 102, 103, 106, 107, 110, 111, 114, 115, 118, 121, 122, 123, 124, 127, 128, 131, 132, 133, 134, 135, 136, 137, 138, 140, 142, 144, 146, 149, 150, 153, 155, 156, 159, 160, 163, 165, 166, 167, 168, 170, 171, 172, 175, 176, 179, 181, 182, 183, 186, 189, 192, 193, 196, 197, 198, 201]
-- 136: ExtentShelfModel.fits(II)Z
def xc_136 : List Instr := [.iload 1, .iconst 1, .if_icmp .lt 12, .iload 1, .iconst 5, .if_icmp .gt 12, .iload 1, .iload 0, .irem, .ifCond .ne 12, .iconst 1, .goto 13, .iconst 0, .freturn]
def xq_136 : List Nat := [0, 1, 2, 5, 6, 7, 10, 11, 12, 13, 16, 17, 20, 21]
-- 137: ExtentShelfModel.make(III)I
def xc_137 : List Instr := [.iload 1, .ifCond .lt 20, .iload 1, .iconst 3, .if_icmp .ge 20, .iload 1, .iconst 1, .if_icmp .ne 15, .iload 2, .iconst 2, .if_icmp .eq 18, .iload 2, .iconst 3, .if_icmp .ne 20, .goto 18, .iload 2, .iconst 1, .if_icmp .ne 20, .iconst 1, .goto 21, .iconst 0, .istore 4, .aload 0, .aload 0, .getfield 132, .ifCond .ne 28, .iconst 1, .goto 42, .iload 4, .ifCond .eq 34, .iload 2, .iload 3, .invokeinterface 136 2, .ifCond .ne 36, .iconst 2, .goto 42, .aload 0, .invokeinterface 118 1, .ifCond .eq 41, .iconst 3, .goto 42, .iconst 0, .putfield 128, .aload 0, .getfield 128, .ifCond .le 48, .iconst 0, .ireturn, .iconst 0, .istore 5, .iload 5, .iconst 4, .if_icmp .ge 62, .aload 0, .getfield 134, .iconst 5, .iload 5, .iadd, .iaload, .ifCond .eq 62, .iinc 5 (1), .goto 50, .aload 0, .invokeinterface 119 1, .iload 5, .iconst 4, .if_icmp .ge 84, .aload 0, .getfield 135, .iconst 5, .iload 5, .iadd, .iconst 1, .iload 1, .iadd, .iconst 4, .iload 2, .imul, .iadd, .iconst 32, .iload 3, .imul, .iadd, .iastore, .iload 5, .iconst 4, .if_icmp .eq 92, .aload 0, .iload 5, .iconst 0, .invokeinterface 130 3, .ifCond .ne 97, .aload 0, .iconst 3, .putfield 128, .iconst 0, .ireturn, .aload 0, .iload 5, .iconst 0, .invokeinterface 131 3, .aload 0, .invokeinterface 123 1, .aload 0, .iload 5, .invokeinterface 124 2, .ireturn]
def xq_137 : List Nat := [0, 1, 4, 5, 6, 9, 10, 11, 14, 15, 16, 19, 20, 21, 24, 27, 28, 29, 32, 33, 36, 37, 39, 40, 41, 44, 47, 48, 51, 53, 56, 57, 58, 61, 64, 65, 68, 69, 72, 75, 76, 79, 80, 83, 84, 87, 90, 91, 92, 93, 95, 97, 98, 101, 102, 105, 106, 108, 109, 110, 113, 116, 119, 120, 123, 125, 126, 129, 130, 133, 134, 136, 137, 138, 139, 140, 141, 142, 143, 144, 146, 147, 148, 149, 150, 152, 153, 156, 157, 159, 160, 163, 166, 167, 168, 171, 172, 173, 174, 176, 177, 180, 181, 184, 185, 187, 190]
-- 138: ExtentShelfModel.grow(II)I
def xc_138 : List Instr := [.aload 0, .aload 0, .getfield 132, .ifCond .ne 6, .iconst 1, .goto 13, .aload 0, .iload 1, .invokeinterface 115 2, .ifCond .ne 12, .iconst 2, .goto 13, .iconst 0, .putfield 128, .aload 0, .getfield 128, .ifCond .le 19, .iconst 0, .ireturn, .aload 0, .getfield 134, .iload 1, .invokeinterface 114 2, .istore 3, .aload 0, .iload 2, .iconst 1, .if_icmp .lt 40, .iload 2, .iconst 5, .if_icmp .gt 40, .aload 0, .getfield 134, .iload 1, .invokeinterface 113 2, .iload 3, .iload 2, .iadd, .invokeinterface 136 2, .ifCond .ne 42, .iconst 3, .goto 48, .aload 0, .invokeinterface 118 1, .ifCond .eq 47, .iconst 4, .goto 48, .iconst 0, .putfield 128, .aload 0, .getfield 128, .ifCond .le 54, .iconst 0, .ireturn, .aload 0, .invokeinterface 119 1, .aload 0, .getfield 135, .iconst 5, .iload 1, .iadd, .aload 0, .getfield 135, .iconst 5, .iload 1, .iadd, .iaload, .iconst 32, .iload 2, .imul, .iadd, .iastore, .aload 0, .iload 1, .iload 3, .invokeinterface 130 3, .ifCond .ne 82, .aload 0, .iconst 4, .putfield 128, .iconst 0, .ireturn, .aload 0, .iload 1, .iload 3, .invokeinterface 131 3, .aload 0, .invokeinterface 123 1, .aload 0, .iload 3, .iload 2, .iadd, .invokeinterface 124 2, .ireturn]
def xq_138 : List Nat := [0, 1, 2, 5, 8, 9, 12, 13, 14, 17, 20, 21, 24, 25, 28, 29, 32, 35, 36, 37, 38, 41, 42, 45, 46, 47, 48, 49, 52, 53, 54, 57, 58, 61, 62, 65, 66, 67, 68, 71, 74, 75, 78, 79, 82, 85, 86, 89, 90, 93, 94, 97, 100, 101, 102, 103, 106, 107, 110, 111, 112, 113, 114, 117, 118, 119, 120, 121, 123, 124, 125, 126, 127, 128, 129, 130, 133, 136, 137, 138, 141, 142, 143, 144, 145, 146, 149, 150, 153, 154, 155, 156, 157, 160]
-- 139: ExtentShelfModel.shrink(II)I
def xc_139 : List Instr := [.aload 0, .aload 0, .getfield 132, .ifCond .ne 6, .iconst 1, .goto 13, .aload 0, .iload 1, .invokeinterface 115 2, .ifCond .ne 12, .iconst 2, .goto 13, .iconst 0, .putfield 128, .aload 0, .getfield 128, .ifCond .le 19, .iconst 0, .ireturn, .aload 0, .getfield 134, .iload 1, .invokeinterface 114 2, .istore 3, .aload 0, .iload 2, .iload 3, .if_icmp .ge 35, .aload 0, .getfield 134, .iload 1, .invokeinterface 113 2, .iload 2, .invokeinterface 136 2, .ifCond .ne 37, .iconst 3, .goto 43, .aload 0, .invokeinterface 118 1, .ifCond .eq 42, .iconst 4, .goto 43, .iconst 0, .putfield 128, .aload 0, .getfield 128, .ifCond .le 49, .iconst 0, .ireturn, .aload 0, .invokeinterface 119 1, .aload 0, .getfield 135, .iconst 5, .iload 1, .iadd, .aload 0, .getfield 135, .iconst 5, .iload 1, .iadd, .iaload, .iconst 32, .iload 3, .iload 2, .isub, .imul, .isub, .iastore, .iconst 2, .iload 2, .imul, .istore 4, .iload 4, .iconst 10, .if_icmp .ge 89, .aload 0, .getfield 135, .iconst 9, .iconst 10, .iload 1, .imul, .iadd, .iload 4, .iadd, .iconst 0, .iastore, .iinc 4 (1), .goto 73, .aload 0, .invokeinterface 123 1, .aload 0, .iload 3, .iload 2, .isub, .invokeinterface 124 2, .ireturn]
def xq_139 : List Nat := [0, 1, 2, 5, 8, 9, 12, 13, 14, 17, 20, 21, 24, 25, 28, 29, 32, 35, 36, 37, 38, 41, 42, 45, 46, 47, 48, 49, 52, 53, 56, 57, 60, 61, 64, 67, 68, 71, 72, 75, 78, 79, 82, 83, 86, 87, 90, 93, 94, 95, 96, 99, 100, 103, 104, 105, 106, 107, 110, 111, 112, 113, 114, 116, 117, 118, 119, 120, 121, 122, 123, 124, 125, 127, 129, 131, 134, 135, 138, 140, 142, 143, 144, 145, 147, 148, 149, 150, 153, 156, 157, 160, 161, 162, 163, 164, 167]
-- 140: ExtentShelfModel.delete(I)V
def xc_140 : List Instr := [.aload 0, .aload 0, .getfield 132, .ifCond .ne 6, .iconst 1, .goto 18, .aload 0, .iload 1, .invokeinterface 115 2, .ifCond .ne 12, .iconst 2, .goto 18, .aload 0, .invokeinterface 118 1, .ifCond .eq 17, .iconst 3, .goto 18, .iconst 0, .putfield 128, .aload 0, .getfield 128, .ifCond .le 23, .return_, .aload 0, .invokeinterface 119 1, .aload 0, .getfield 135, .iconst 5, .iload 1, .iadd, .iconst 0, .iastore, .iconst 0, .istore 2, .iload 2, .iconst 10, .if_icmp .ge 50, .aload 0, .getfield 135, .iconst 9, .iconst 10, .iload 1, .imul, .iadd, .iload 2, .iadd, .iconst 0, .iastore, .iinc 2 (1), .goto 34, .aload 0, .invokeinterface 123 1, .aload 0, .aload 0, .getfield 132, .ifCond .eq 58, .iconst 0, .goto 59, .iconst 1, .putfield 128, .return_]
def xq_140 : List Nat := [0, 1, 2, 5, 8, 9, 12, 13, 14, 17, 20, 21, 24, 25, 28, 31, 32, 35, 36, 39, 40, 43, 46, 47, 48, 51, 52, 55, 56, 57, 58, 59, 60, 61, 62, 63, 65, 68, 69, 72, 74, 76, 77, 78, 79, 80, 81, 82, 83, 86, 89, 90, 93, 94, 95, 98, 101, 102, 105, 106, 109]
-- 141: ExtentShelfModel.twin(I)I
def xc_141 : List Instr := [.iload 0, .iconst 2, .irem, .ifCond .ne 8, .iload 0, .iconst 1, .iadd, .goto 11, .iload 0, .iconst 1, .isub, .ireturn]
def xq_141 : List Nat := [0, 1, 2, 3, 6, 7, 8, 9, 12, 13, 14, 15]
-- 142: ExtentShelfModel.mend(I)I
def xc_142 : List Instr := [.aload 0, .aload 0, .getfield 132, .ifCond .ne 6, .iconst 1, .goto 26, .aload 0, .iload 1, .invokeinterface 115 2, .ifCond .ne 12, .iconst 2, .goto 26, .aload 0, .getfield 134, .iload 1, .invokeinterface 112 2, .iconst 2, .if_icmp .eq 20, .iconst 3, .goto 26, .aload 0, .invokeinterface 118 1, .ifCond .eq 25, .iconst 4, .goto 26, .iconst 0, .putfield 128, .aload 0, .getfield 128, .ifCond .le 32, .iconst 0, .ireturn, .aload 0, .invokeinterface 119 1, .iconst 9, .iconst 10, .iload 1, .imul, .iadd, .istore 2, .iconst 0, .istore 3, .iconst 0, .istore 4, .iload 4, .iconst 2, .aload 0, .getfield 134, .iload 1, .invokeinterface 114 2, .imul, .if_icmp .ge 95, .aload 0, .getfield 134, .iload 2, .iload 4, .iadd, .iaload, .ifCond .ne 93, .aload 0, .getfield 134, .iload 2, .iload 4, .invokeinterface 141 1, .iadd, .iaload, .ifCond .le 93, .aload 0, .getfield 135, .iload 2, .iload 4, .iadd, .aload 0, .aload 0, .getfield 135, .iload 1, .iload 4, .iconst (-1), .invokeinterface 129 5, .iastore, .iinc 3 (1), .aload 0, .getfield 135, .iload 2, .iload 4, .iadd, .iaload, .ifCond .ne 93, .aload 0, .iconst 4, .putfield 128, .iconst 0, .ireturn, .iinc 4 (1), .goto 44, .iload 3, .ifCond .ne 99, .iconst 0, .ireturn, .iconst 0, .istore 4, .iload 4, .iconst 10, .if_icmp .ge 145, .iconst 0, .istore 5, .iload 5, .iconst 4, .if_icmp .ge 143, .aload 0, .getfield 135, .iload 2, .iload 4, .iadd, .iaload, .aload 0, .getfield 134, .iload 2, .iload 4, .iadd, .iaload, .if_icmp .eq 143, .aload 0, .aload 0, .getfield 135, .iload 2, .iload 4, .iadd, .iaload, .iload 5, .aload 0, .aload 0, .getfield 134, .iload 2, .iload 4, .invokeinterface 141 1, .iadd, .iaload, .iload 5, .invokeinterface 111 3, .invokeinterface 110 4, .iinc 5 (1), .goto 106, .iinc 4 (1), .goto 101, .aload 0, .invokeinterface 123 1, .aload 0, .iload 3, .invokeinterface 124 2, .ireturn]
def xq_142 : List Nat := [0, 1, 2, 5, 8, 9, 12, 13, 14, 17, 20, 21, 24, 25, 28, 29, 32, 33, 36, 37, 40, 41, 44, 47, 48, 51, 52, 55, 56, 59, 62, 63, 64, 65, 68, 70, 72, 73, 74, 75, 76, 77, 78, 79, 81, 83, 84, 85, 88, 89, 92, 93, 96, 97, 100, 101, 103, 104, 105, 108, 109, 112, 113, 115, 118, 119, 120, 123, 124, 127, 128, 130, 131, 132, 133, 136, 137, 139, 140, 143, 144, 147, 148, 151, 152, 154, 155, 156, 159, 160, 161, 164, 165, 166, 169, 172, 173, 176, 177, 178, 179, 181, 183, 185, 188, 189, 191, 193, 194, 197, 198, 201, 202, 204, 205, 206, 207, 210, 211, 213, 214, 215, 218, 219, 220, 223, 224, 226, 227, 228, 230, 231, 232, 235, 236, 238, 241, 242, 243, 245, 248, 251, 254, 257, 260, 263, 264, 267, 268, 269, 272]
-- 143: ExtentShelfModel.isReadable(I)Z
def xc_143 : List Instr := [.iload 1, .ifCond .le 13, .aload 0, .getfield 129, .iload 1, .iconst 1, .isub, .iconst 8, .idiv, .baload, .ifCond .eq 13, .iconst 1, .goto 14, .iconst 0, .freturn]
def xq_143 : List Nat := [0, 1, 4, 5, 8, 9, 10, 11, 13, 14, 15, 18, 19, 22, 23]
-- 144: ExtentShelfModel.elementOf(II)I
def xc_144 : List Instr := [.aload 0, .getfield 134, .iload 1, .invokeinterface 113 2, .istore 3, .iload 3, .iload 2, .iconst 4, .iload 3, .imul, .idiv, .imul, .iload 2, .iload 3, .irem, .iadd, .ireturn]
def xq_144 : List Nat := [0, 1, 4, 5, 8, 9, 10, 11, 12, 13, 14, 15, 16, 17, 18, 19, 20]
-- 145: ExtentShelfModel.wordOf(II)I
def xc_145 : List Instr := [.aload 0, .getfield 134, .iload 1, .invokeinterface 113 2, .istore 3, .iload 2, .iconst 4, .iload 3, .imul, .irem, .iload 3, .idiv, .ireturn]
def xq_145 : List Nat := [0, 1, 4, 5, 8, 9, 10, 11, 12, 13, 14, 15, 16]
-- 146: ExtentShelfModel.write(III)I
def xc_146 : List Instr := [.aload 0, .aload 0, .getfield 132, .ifCond .ne 6, .iconst 1, .goto 25, .aload 0, .iload 1, .invokeinterface 115 2, .ifCond .ne 12, .iconst 2, .goto 25, .iload 2, .ifCond .lt 22, .iload 2, .iconst 4, .aload 0, .getfield 134, .iload 1, .invokeinterface 114 2, .imul, .if_icmp .lt 24, .iconst 3, .goto 25, .iconst 0, .putfield 128, .aload 0, .getfield 128, .ifCond .le 31, .iconst 0, .ireturn, .iconst 9, .iconst 10, .iload 1, .imul, .iadd, .iconst 2, .aload 0, .iload 1, .iload 2, .invokeinterface 144 3, .imul, .iadd, .istore 4, .aload 0, .aload 0, .getfield 134, .iload 4, .iaload, .invokeinterface 143 2, .ifCond .eq 53, .iconst 1, .goto 54, .iconst 0, .aload 0, .aload 0, .getfield 134, .iload 4, .iconst 1, .iadd, .iaload, .invokeinterface 143 2, .ifCond .eq 65, .iconst 1, .goto 66, .iconst 0, .iadd, .istore 5, .iload 5, .ifCond .ne 75, .aload 0, .iconst 4, .putfield 128, .iconst 0, .ireturn, .aload 0, .aload 0, .getfield 134, .iload 4, .iaload, .invokeinterface 143 2, .ifCond .eq 86, .iload 4, .iconst 1, .iadd, .goto 87, .iload 4, .istore 6, .iload 5, .iconst 1, .if_icmp .ne 105, .aload 0, .getfield 134, .iload 6, .iaload, .ifCond .le 105, .aload 0, .invokeinterface 119 1, .aload 0, .getfield 135, .iload 6, .iconst 0, .iastore, .aload 0, .invokeinterface 123 1, .aload 0, .iload 1, .iload 2, .invokeinterface 145 3, .istore 7, .iload 4, .istore 8, .iload 8, .iload 4, .iconst 2, .iadd, .if_icmp .ge 173, .aload 0, .getfield 132, .ifCond .eq 173, .aload 0, .getfield 134, .iload 8, .iaload, .ifCond .le 127, .iconst 1, .goto 128, .iconst 0, .istore 9, .iload 9, .ifCond .eq 139, .aload 0, .aload 0, .getfield 134, .iload 8, .iaload, .iload 7, .iload 3, .invokeinterface 110 4, .iload 9, .ifCond .eq 171, .aload 0, .getfield 132, .ifCond .eq 171, .aload 0, .getfield 136, .ifCond .lt 171, .aload 0, .getfield 139, .ifCond .le 171, .iload 8, .iconst 9, .iconst 10, .aload 0, .getfield 137, .imul, .iadd, .aload 0, .getfield 138, .iadd, .if_icmp .ne 171, .iload 7, .aload 0, .getfield 140, .if_icmp .ge 171, .aload 0, .aload 0, .getfield 139, .iload 7, .iload 3, .invokeinterface 110 4, .iinc 8 (1), .goto 112, .aload 0, .iload 5, .invokeinterface 124 2, .ireturn]
def xq_146 : List Nat := [0, 1, 2, 5, 8, 9, 12, 13, 14, 17, 20, 21, 24, 25, 28, 29, 30, 31, 34, 35, 38, 39, 42, 43, 46, 47, 50, 51, 54, 57, 58, 59, 61, 63, 64, 65, 66, 67, 68, 69, 70, 73, 74, 75, 77, 78, 79, 82, 84, 85, 88, 91, 92, 95, 96, 97, 98, 101, 103, 104, 105, 106, 109, 112, 113, 116, 117, 118, 120, 122, 125, 126, 127, 130, 131, 132, 133, 134, 137, 139, 140, 143, 146, 148, 149, 150, 153, 155, 157, 159, 160, 163, 164, 167, 169, 170, 173, 174, 177, 178, 181, 183, 184, 185, 186, 189, 190, 191, 192, 195, 197, 199, 201, 203, 205, 206, 207, 210, 211, 214, 217, 218, 221, 223, 224, 227, 228, 231, 232, 234, 236, 239, 240, 241, 244, 246, 247, 249, 250, 253, 255, 258, 259, 262, 265, 266, 269, 272, 273, 276, 279, 281, 283, 285, 286, 289, 290, 291, 292, 295, 296, 299, 301, 302, 305, 308, 309, 310, 313, 315, 316, 319, 322, 325, 326, 328, 331]
-- 147: ExtentShelfModel.read(II)I
def xc_147 : List Instr := [.aload 0, .aload 0, .getfield 132, .ifCond .ne 6, .iconst 1, .goto 25, .aload 0, .iload 1, .invokeinterface 115 2, .ifCond .ne 12, .iconst 2, .goto 25, .iload 2, .ifCond .lt 22, .iload 2, .iconst 4, .aload 0, .getfield 134, .iload 1, .invokeinterface 114 2, .imul, .if_icmp .lt 24, .iconst 3, .goto 25, .iconst 0, .putfield 128, .aload 0, .getfield 128, .ifCond .le 31, .iconst 0, .ireturn, .iconst 9, .iconst 10, .iload 1, .imul, .iadd, .iconst 2, .aload 0, .iload 1, .iload 2, .invokeinterface 144 3, .imul, .iadd, .istore 3, .aload 0, .aload 0, .getfield 134, .iload 3, .iaload, .invokeinterface 143 2, .ifCond .eq 56, .aload 0, .getfield 134, .iload 3, .iaload, .goto 62, .aload 0, .getfield 134, .iload 3, .iconst 1, .iadd, .iaload, .istore 4, .aload 0, .aload 0, .iload 4, .invokeinterface 143 2, .ifCond .eq 70, .iconst 0, .goto 71, .iconst 4, .putfield 128, .aload 0, .getfield 128, .ifCond .le 77, .iconst 0, .goto 84, .aload 0, .iload 4, .aload 0, .iload 1, .iload 2, .invokeinterface 145 3, .invokeinterface 111 3, .ireturn]
def xq_147 : List Nat := [0, 1, 2, 5, 8, 9, 12, 13, 14, 17, 20, 21, 24, 25, 28, 29, 30, 31, 34, 35, 38, 39, 42, 43, 46, 47, 50, 51, 54, 57, 58, 59, 61, 63, 64, 65, 66, 67, 68, 69, 70, 73, 74, 75, 76, 77, 78, 81, 82, 83, 86, 89, 90, 93, 94, 95, 98, 99, 102, 103, 104, 105, 106, 108, 109, 110, 112, 115, 118, 119, 122, 123, 126, 127, 130, 133, 134, 137, 138, 140, 141, 142, 143, 146, 149]
-- 148: ExtentShelfModel.empty(I)I
def xc_148 : List Instr := [.aload 0, .aload 0, .getfield 132, .ifCond .ne 6, .iconst 1, .goto 27, .iload 1, .invokeinterface 108 1, .ifCond .ne 11, .iconst 2, .goto 27, .aload 0, .getfield 134, .iconst 1, .iload 1, .iadd, .iaload, .ifCond .eq 24, .aload 0, .getfield 136, .ifCond .ge 24, .aload 0, .invokeinterface 118 1, .ifCond .eq 26, .iconst 3, .goto 27, .iconst 0, .putfield 128, .aload 0, .getfield 128, .ifCond .le 33, .iconst 0, .ireturn, .aload 0, .iload 1, .putfield 136, .aload 0, .iconst 0, .putfield 139, .aload 0, .iload 1, .invokeinterface 117 2, .ireturn]
def xq_148 : List Nat := [0, 1, 2, 5, 8, 9, 12, 13, 16, 19, 20, 23, 24, 27, 28, 29, 30, 31, 34, 35, 38, 41, 42, 45, 48, 49, 52, 53, 56, 57, 60, 63, 64, 65, 66, 67, 70, 71, 72, 75, 76, 77, 80]
-- 149: ExtentShelfModel.step()I
def xc_149 : List Instr := [.aload 0, .aload 0, .getfield 132, .ifCond .ne 6, .iconst 1, .goto 12, .aload 0, .getfield 136, .ifCond .ge 11, .iconst 2, .goto 12, .iconst 0, .putfield 128, .aload 0, .getfield 128, .ifCond .le 18, .iconst 0, .ireturn, .aload 0, .getfield 139, .ifCond .ne 89, .iconst 9, .istore 1, .iload 1, .iconst 49, .if_icmp .ge 44, .aload 0, .getfield 134, .iload 1, .iaload, .ifCond .eq 42, .aload 0, .getfield 134, .iload 1, .iaload, .iconst 1, .isub, .iconst 8, .idiv, .aload 0, .getfield 136, .if_icmp .eq 44, .iinc 1 (1), .goto 23, .iload 1, .iconst 49, .if_icmp .ne 52, .aload 0, .iconst (-1), .putfield 136, .iconst 0, .ireturn, .aload 0, .iload 1, .iconst 9, .isub, .iconst 10, .idiv, .putfield 137, .aload 0, .iload 1, .iconst 9, .isub, .iconst 10, .irem, .putfield 138, .aload 0, .iconst 0, .putfield 140, .aload 0, .aload 0, .aload 0, .getfield 134, .aload 0, .getfield 137, .aload 0, .getfield 138, .aload 0, .getfield 136, .invokeinterface 129 5, .putfield 139, .aload 0, .getfield 139, .ifCond .ne 89, .aload 0, .iconst (-1), .putfield 136, .iconst (-1), .ireturn, .iconst 9, .iconst 10, .aload 0, .getfield 137, .imul, .iadd, .aload 0, .getfield 138, .iadd, .istore 1, .aload 0, .aload 0, .getfield 139, .aload 0, .getfield 140, .aload 0, .aload 0, .getfield 134, .iload 1, .iaload, .aload 0, .getfield 140, .invokeinterface 111 3, .invokeinterface 110 4, .aload 0, .dup, .getfield 140, .iconst 1, .iadd, .putfield 140, .aload 0, .getfield 132, .ifCond .eq 136, .aload 0, .getfield 140, .iconst 4, .if_icmp .ne 136, .aload 0, .invokeinterface 119 1, .aload 0, .getfield 135, .iload 1, .aload 0, .getfield 139, .iastore, .aload 0, .invokeinterface 123 1, .aload 0, .getfield 136, .ifCond .ge 141, .iconst 0, .goto 145, .aload 0, .aload 0, .getfield 136, .invokeinterface 117 2, .istore 2, .aload 0, .iload 2, .ifCond .ne 151, .iconst (-1), .goto 153, .aload 0, .getfield 136, .putfield 136, .aload 0, .iload 2, .invokeinterface 124 2, .ireturn]
def xq_149 : List Nat := [0, 1, 2, 5, 8, 9, 12, 13, 16, 19, 20, 23, 24, 27, 28, 31, 34, 35, 36, 37, 40, 43, 45, 46, 47, 49, 52, 53, 56, 57, 58, 61, 62, 65, 66, 67, 68, 69, 71, 72, 73, 76, 79, 82, 85, 86, 88, 91, 92, 93, 96, 97, 98, 99, 100, 102, 103, 105, 106, 109, 110, 111, 113, 114, 116, 117, 120, 121, 122, 125, 126, 127, 128, 131, 132, 135, 136, 139, 140, 143, 146, 149, 150, 153, 156, 157, 158, 161, 162, 163, 165, 167, 168, 171, 172, 173, 174, 177, 178, 179, 180, 181, 184, 185, 188, 189, 190, 193, 194, 195, 196, 199, 202, 205, 206, 207, 210, 211, 212, 215, 216, 219, 222, 223, 226, 227, 230, 231, 234, 235, 238, 239, 240, 243, 244, 245, 248, 249, 252, 255, 256, 259, 260, 261, 264, 267, 268, 269, 270, 273, 274, 277, 278, 281, 284, 285, 286, 289]
-- 150: ExtentShelfModel.moving()I
def xc_150 : List Instr := [.aload 0, .iconst 0, .putfield 128, .aload 0, .getfield 132, .ifCond .eq 9, .aload 0, .getfield 136, .goto 10, .iconst (-1), .ireturn]
def xq_150 : List Nat := [0, 1, 2, 5, 6, 9, 12, 13, 16, 19, 20]
-- 151: ExtentShelfModel.volume(II)I
def xc_151 : List Instr := [.aload 0, .aload 0, .getfield 132, .ifCond .ne 6, .iconst 1, .goto 20, .aload 0, .iload 1, .invokeinterface 115 2, .ifCond .ne 12, .iconst 2, .goto 20, .iload 2, .ifCond .lt 17, .iload 2, .iconst 3, .if_icmp .le 19, .iconst 3, .goto 20, .iconst 0, .putfield 128, .aload 0, .getfield 128, .ifCond .le 26, .iconst 0, .ireturn, .aload 0, .getfield 134, .iload 1, .invokeinterface 114 2, .istore 3, .iload 2, .ifCond .ne 38, .aload 0, .getfield 134, .iload 1, .invokeinterface 112 2, .goto 54, .iload 2, .iconst 1, .if_icmp .ne 46, .aload 0, .getfield 134, .iload 1, .invokeinterface 113 2, .goto 54, .iload 2, .iconst 2, .if_icmp .ne 51, .iload 3, .goto 54, .iconst 4, .iload 3, .imul, .ireturn]
def xq_151 : List Nat := [0, 1, 2, 5, 8, 9, 12, 13, 14, 17, 20, 21, 24, 25, 28, 29, 30, 33, 34, 37, 38, 41, 42, 45, 48, 49, 50, 51, 54, 55, 58, 59, 60, 63, 64, 67, 68, 71, 74, 75, 76, 79, 80, 83, 84, 87, 90, 91, 92, 95, 96, 99, 100, 101, 102]
-- 152: ExtentShelfModel.where(III)I
def xc_152 : List Instr := [.aload 0, .aload 0, .getfield 132, .ifCond .ne 6, .iconst 1, .goto 13, .aload 0, .iload 1, .invokeinterface 115 2, .ifCond .ne 12, .iconst 2, .goto 13, .iconst 0, .putfield 128, .aload 0, .getfield 128, .ifCond .gt 30, .iload 2, .ifCond .lt 30, .iload 2, .aload 0, .getfield 134, .iload 1, .invokeinterface 114 2, .if_icmp .ge 30, .iload 3, .ifCond .lt 30, .iload 3, .iconst 1, .if_icmp .le 37, .aload 0, .getfield 128, .ifCond .le 35, .iconst 0, .goto 36, .iconst (-1), .ireturn, .aload 0, .getfield 134, .iconst 9, .iconst 10, .iload 1, .imul, .iadd, .iconst 2, .iload 2, .imul, .iadd, .iload 3, .iadd, .iaload, .iconst 1, .isub, .ireturn]
def xq_152 : List Nat := [0, 1, 2, 5, 8, 9, 12, 13, 14, 17, 20, 21, 24, 25, 28, 29, 32, 35, 36, 39, 40, 41, 44, 45, 48, 51, 52, 55, 56, 57, 60, 61, 64, 67, 68, 71, 72, 73, 74, 77, 79, 81, 82, 83, 84, 85, 86, 87, 88, 89, 90, 91, 92, 93]
-- 153: ExtentShelfModel.free(I)I
def xc_153 : List Instr := [.aload 0, .aload 0, .getfield 132, .ifCond .ne 6, .iconst 1, .goto 12, .iload 1, .invokeinterface 108 1, .ifCond .ne 11, .iconst 2, .goto 12, .iconst 0, .putfield 128, .aload 0, .getfield 128, .ifCond .le 18, .iconst 0, .goto 32, .aload 0, .getfield 134, .iconst 1, .iload 1, .iadd, .iaload, .ifCond .ne 27, .iconst (-1), .goto 32, .aload 0, .aload 0, .getfield 134, .iload 1, .invokeinterface 126 3, .ireturn]
def xq_153 : List Nat := [0, 1, 2, 5, 8, 9, 12, 13, 16, 19, 20, 23, 24, 27, 28, 31, 34, 35, 38, 39, 42, 43, 44, 45, 46, 49, 50, 53, 54, 55, 58, 59, 62]
-- 154: ExtentShelfModel.number()I
def xc_154 : List Instr := [.aload 0, .iconst 0, .putfield 128, .aload 0, .getfield 132, .ifCond .eq 11, .aload 0, .getfield 134, .iconst 0, .iaload, .goto 12, .iconst (-1), .ireturn]
def xq_154 : List Nat := [0, 1, 2, 5, 6, 9, 12, 13, 16, 17, 18, 21, 22]
-- 155: ExtentShelfModel.look(III)I
def xc_155 : List Instr := [.iload 1, .invokeinterface 108 1, .ifCond .eq 20, .iload 2, .ifCond .lt 20, .iload 2, .iconst 3, .if_icmp .ge 20, .iload 3, .ifCond .lt 20, .iload 3, .iload 2, .iconst 2, .if_icmp .ne 16, .iconst 32, .goto 17, .iconst 51, .if_icmp .ge 20, .iconst 1, .goto 21, .iconst 0, .istore 4, .aload 0, .iload 4, .ifCond .eq 27, .iconst 0, .goto 28, .iconst 1, .putfield 128, .iload 4, .ifCond .ne 33, .iconst 0, .goto 57, .iload 2, .iconst 2, .if_icmp .ne 45, .aload 0, .getfield 131, .iconst 32, .iload 1, .imul, .iload 3, .iadd, .iaload, .goto 57, .aload 0, .getfield 130, .iconst 102, .iload 1, .imul, .iconst 51, .iload 2, .imul, .iadd, .iload 3, .iadd, .iaload, .ireturn]
def xq_155 : List Nat := [0, 1, 4, 7, 8, 11, 12, 13, 16, 17, 20, 21, 22, 23, 26, 28, 31, 33, 36, 37, 40, 41, 43, 44, 46, 49, 50, 53, 54, 57, 59, 62, 63, 66, 67, 68, 71, 72, 75, 77, 78, 79, 80, 81, 82, 85, 86, 89, 91, 92, 93, 95, 96, 97, 98, 99, 100, 101]
-- 156: ExtentShelfModel.cut(I)V
def xc_156 : List Instr := [.aload 0, .aload 0, .getfield 132, .ifCond .ne 6, .iconst 1, .goto 12, .iload 1, .iconst (-1), .if_icmp .ge 11, .iconst 2, .goto 12, .iconst 0, .putfield 128, .aload 0, .aload 0, .getfield 128, .ifCond .le 20, .aload 0, .getfield 133, .goto 21, .iload 1, .putfield 133, .return_]
def xq_156 : List Nat := [0, 1, 2, 5, 8, 9, 12, 13, 14, 17, 18, 21, 22, 25, 26, 27, 30, 33, 34, 37, 40, 41, 44]
-- 157: ExtentShelfModel.off()V
def xc_157 : List Instr := [.aload 0, .aload 0, .getfield 132, .ifCond .eq 6, .iconst 0, .goto 7, .iconst 1, .putfield 128, .aload 0, .iconst 0, .putstatic 132, .aload 0, .iconst (-1), .putfield 133, .aload 0, .iconst (-1), .putfield 136, .return_]
def xq_157 : List Nat := [0, 1, 2, 5, 8, 9, 12, 13, 16, 17, 18, 21, 22, 23, 26, 27, 28, 31]
-- 158: ExtentShelfModel.plug(IZ)Z
def xc_158 : List Instr := [.aload 0, .aload 0, .getfield 132, .ifCond .eq 6, .iconst 1, .goto 12, .iload 1, .invokeinterface 108 1, .ifCond .ne 11, .iconst 2, .goto 12, .iconst 0, .putfield 128, .aload 0, .getfield 128, .ifCond .le 18, .iconst 0, .freturn, .aload 0, .getfield 129, .iload 1, .baload, .iload 2, .if_icmp .eq 26, .iconst 1, .goto 27, .iconst 0, .istore 3, .aload 0, .getfield 129, .iload 1, .iload 2, .bastore, .iload 3, .freturn]
def xq_158 : List Nat := [0, 1, 2, 5, 8, 9, 12, 13, 16, 19, 20, 23, 24, 27, 28, 31, 34, 35, 36, 37, 40, 41, 42, 43, 46, 47, 50, 51, 52, 53, 56, 57, 58, 59, 60]
-- 159: ExtentShelfModel.start()I
def xc_159 : List Instr := [.aload 0, .aload 0, .getfield 132, .ifCond .eq 6, .iconst 1, .goto 7, .iconst 0, .putfield 128, .aload 0, .getfield 132, .ifCond .eq 13, .iconst 0, .ireturn, .aload 0, .iconst 1, .putstatic 132, .aload 0, .iconst (-1), .putfield 136, .aload 0, .iconst 0, .putfield 139, .iconst 0, .istore 1, .iconst 0, .istore 2, .iload 2, .iconst 51, .if_icmp .ge 36, .aload 0, .getfield 134, .iload 2, .iconst 0, .iastore, .iinc 2 (1), .goto 26, .iconst 0, .istore 2, .iload 2, .iconst 4, .if_icmp .ge 89, .iconst 0, .istore 3, .iload 3, .iconst 2, .if_icmp .ge 87, .aload 0, .getfield 129, .iload 2, .baload, .ifCond .eq 87, .aload 0, .iload 2, .iload 3, .invokeinterface 120 3, .iload 1, .if_icmp .le 85, .aload 0, .iload 2, .iload 3, .invokeinterface 120 3, .istore 1, .iconst 0, .istore 4, .iload 4, .iconst 51, .if_icmp .ge 85, .aload 0, .getfield 134, .iload 4, .aload 0, .getfield 130, .iconst 102, .iload 2, .imul, .iconst 51, .iload 3, .imul, .iadd, .iload 4, .iadd, .iaload, .iastore, .iinc 4 (1), .goto 64, .iinc 3 (1), .goto 43, .iinc 2 (1), .goto 38, .iconst 0, .istore 2, .iload 2, .iconst 4, .if_icmp .ge 125, .aload 0, .getfield 134, .iconst 1, .iload 2, .iadd, .iaload, .ifCond .le 123, .aload 0, .getfield 129, .iload 2, .baload, .ifCond .eq 123, .aload 0, .iload 2, .iconst 0, .invokeinterface 120 3, .iload 1, .if_icmp .eq 123, .aload 0, .iload 2, .iconst 1, .invokeinterface 120 3, .iload 1, .if_icmp .eq 123, .aload 0, .iload 2, .aload 0, .getfield 134, .invokeinterface 122 3, .iinc 2 (1), .goto 91, .iconst 9, .istore 2, .iload 2, .iconst 49, .if_icmp .ge 177, .iconst 0, .istore 3, .iload 3, .iconst 4, .if_icmp .ge 175, .aload 0, .aload 0, .getfield 134, .iload 2, .iaload, .invokeinterface 143 2, .ifCond .eq 175, .aload 0, .aload 0, .getfield 134, .iload 2, .iconst 1, .iadd, .iaload, .invokeinterface 143 2, .ifCond .eq 175, .aload 0, .getfield 131, .iconst 4, .aload 0, .getfield 134, .iload 2, .iconst 1, .iadd, .iaload, .iconst 1, .isub, .imul, .iload 3, .iadd, .aload 0, .aload 0, .getfield 134, .iload 2, .iaload, .iload 3, .invokeinterface 111 3, .iastore, .iinc 3 (1), .goto 132, .iinc 2 (2), .goto 127, .iload 1, .ireturn]
def xq_159 : List Nat := [0, 1, 2, 5, 8, 9, 12, 13, 16, 17, 20, 23, 24, 25, 26, 27, 30, 31, 32, 35, 36, 37, 40, 41, 42, 43, 44, 45, 47, 50, 51, 54, 55, 56, 57, 60, 63, 64, 65, 66, 67, 70, 71, 72, 73, 74, 77, 78, 81, 82, 83, 86, 87, 88, 89, 92, 93, 96, 97, 98, 99, 102, 103, 104, 106, 108, 110, 113, 114, 117, 119, 120, 123, 125, 126, 127, 129, 130, 131, 132, 134, 135, 136, 137, 140, 143, 146, 149, 152, 155, 156, 157, 158, 159, 162, 163, 166, 167, 168, 169, 170, 173, 174, 177, 178, 179, 182, 183, 184, 185, 188, 189, 192, 193, 194, 195, 198, 199, 202, 203, 204, 205, 208, 211, 214, 217, 219, 220, 221, 223, 226, 227, 228, 229, 230, 233, 234, 235, 238, 239, 240, 243, 246, 247, 248, 251, 252, 253, 254, 255, 258, 261, 262, 265, 266, 267, 270, 271, 272, 273, 274, 275, 276, 277, 278, 279, 280, 281, 284, 285, 286, 287, 290, 291, 294, 297, 300, 303, 304]
-- 160: ExtentShelfLaw.add(LExtentShelf;II)I
def xc_160 : List Instr := [.aload 0, .iload 1, .iload 2, .invokeinterface 40 3, .goto 14, .astore 3, .iconst 1, .ireturn, .astore 3, .iconst 2, .ireturn, .astore 3, .iconst 3, .ireturn, .iconst 0, .ireturn]
def xq_160 : List Nat := [0, 1, 2, 3, 6, 9, 10, 11, 12, 13, 14, 15, 16, 17, 18, 19]
-- 161: ExtentShelfLaw.remove(LExtentShelf;I)I
def xc_161 : List Instr := [.aload 0, .iload 1, .invokeinterface 41 2, .goto 13, .astore 2, .iconst 1, .ireturn, .astore 2, .iconst 2, .ireturn, .astore 2, .iconst 3, .ireturn, .iconst 0, .ireturn]
def xq_161 : List Nat := [0, 1, 2, 5, 8, 9, 10, 11, 12, 13, 14, 15, 16, 17, 18]
-- 162: ExtentShelfLaw.drop(LExtentShelf;I[J)I
def xc_162 : List Instr := [.aload 2, .iconst 0, .aload 0, .iload 1, .invokeinterface 42 2, .i2l, .lastore, .goto 17, .astore 3, .iconst 1, .ireturn, .astore 3, .iconst 2, .ireturn, .astore 3, .iconst 3, .ireturn, .iconst 0, .ireturn]
def xq_162 : List Nat := [0, 1, 2, 3, 4, 7, 8, 9, 12, 13, 14, 15, 16, 17, 18, 19, 20, 21, 22]
-- 163: ExtentShelfLaw.make(LExtentShelf;III[J)I
def xc_163 : List Instr := [.aload 4, .iconst 0, .aload 0, .iload 1, .iload 2, .iload 3, .invokeinterface 43 4, .i2l, .lastore, .goto 19, .astore 5, .iconst 1, .ireturn, .astore 5, .iconst 2, .ireturn, .astore 5, .iconst 3, .ireturn, .iconst 0, .ireturn]
def xq_163 : List Nat := [0, 2, 3, 4, 5, 6, 7, 10, 11, 12, 15, 17, 18, 19, 21, 22, 23, 25, 26, 27, 28]
-- 164: ExtentShelfLaw.grow(LExtentShelf;II[J)I
def xc_164 : List Instr := [.aload 3, .iconst 0, .aload 0, .iload 1, .iload 2, .invokeinterface 44 3, .i2l, .lastore, .goto 21, .astore 4, .iconst 1, .ireturn, .astore 4, .iconst 2, .ireturn, .astore 4, .iconst 3, .ireturn, .astore 4, .iconst 4, .ireturn, .iconst 0, .ireturn]
def xq_164 : List Nat := [0, 1, 2, 3, 4, 5, 8, 9, 10, 13, 15, 16, 17, 19, 20, 21, 23, 24, 25, 27, 28, 29, 30]
-- 165: ExtentShelfLaw.shrink(LExtentShelf;II[J)I
def xc_165 : List Instr := [.aload 3, .iconst 0, .aload 0, .iload 1, .iload 2, .invokeinterface 45 3, .i2l, .lastore, .goto 21, .astore 4, .iconst 1, .ireturn, .astore 4, .iconst 2, .ireturn, .astore 4, .iconst 3, .ireturn, .astore 4, .iconst 4, .ireturn, .iconst 0, .ireturn]
def xq_165 : List Nat := [0, 1, 2, 3, 4, 5, 8, 9, 10, 13, 15, 16, 17, 19, 20, 21, 23, 24, 25, 27, 28, 29, 30]
-- 166: ExtentShelfLaw.delete(LExtentShelf;I)I
def xc_166 : List Instr := [.aload 0, .iload 1, .invokeinterface 46 2, .goto 13, .astore 2, .iconst 1, .ireturn, .astore 2, .iconst 2, .ireturn, .astore 2, .iconst 3, .ireturn, .iconst 0, .ireturn]
def xq_166 : List Nat := [0, 1, 2, 5, 8, 9, 10, 11, 12, 13, 14, 15, 16, 17, 18]
-- 167: ExtentShelfLaw.mend(LExtentShelf;I[J)I
def xc_167 : List Instr := [.aload 2, .iconst 0, .aload 0, .iload 1, .invokeinterface 47 2, .i2l, .lastore, .goto 20, .astore 3, .iconst 1, .ireturn, .astore 3, .iconst 2, .ireturn, .astore 3, .iconst 3, .ireturn, .astore 3, .iconst 4, .ireturn, .iconst 0, .ireturn]
def xq_167 : List Nat := [0, 1, 2, 3, 4, 7, 8, 9, 12, 13, 14, 15, 16, 17, 18, 19, 20, 21, 22, 23, 24, 25]
-- 168: ExtentShelfLaw.write(LExtentShelf;III[J)I
def xc_168 : List Instr := [.aload 4, .iconst 0, .aload 0, .iload 1, .iload 2, .iload 3, .invokeinterface 48 4, .i2l, .lastore, .goto 22, .astore 5, .iconst 1, .ireturn, .astore 5, .iconst 2, .ireturn, .astore 5, .iconst 3, .ireturn, .astore 5, .iconst 4, .ireturn, .iconst 0, .ireturn]
def xq_168 : List Nat := [0, 2, 3, 4, 5, 6, 7, 10, 11, 12, 15, 17, 18, 19, 21, 22, 23, 25, 26, 27, 29, 30, 31, 32]
-- 169: ExtentShelfLaw.read(LExtentShelf;II[J)I
def xc_169 : List Instr := [.aload 3, .iconst 0, .aload 0, .iload 1, .iload 2, .invokeinterface 49 3, .i2l, .lastore, .goto 21, .astore 4, .iconst 1, .ireturn, .astore 4, .iconst 2, .ireturn, .astore 4, .iconst 3, .ireturn, .astore 4, .iconst 4, .ireturn, .iconst 0, .ireturn]
def xq_169 : List Nat := [0, 1, 2, 3, 4, 5, 8, 9, 10, 13, 15, 16, 17, 19, 20, 21, 23, 24, 25, 27, 28, 29, 30]
-- 170: ExtentShelfLaw.empty(LExtentShelf;I[J)I
def xc_170 : List Instr := [.aload 2, .iconst 0, .aload 0, .iload 1, .invokeinterface 50 2, .i2l, .lastore, .goto 17, .astore 3, .iconst 1, .ireturn, .astore 3, .iconst 2, .ireturn, .astore 3, .iconst 3, .ireturn, .iconst 0, .ireturn]
def xq_170 : List Nat := [0, 1, 2, 3, 4, 7, 8, 9, 12, 13, 14, 15, 16, 17, 18, 19, 20, 21, 22]
-- 171: ExtentShelfLaw.step(LExtentShelf;[J)I
def xc_171 : List Instr := [.aload 1, .iconst 0, .aload 0, .invokeinterface 51 1, .i2l, .lastore, .goto 13, .astore 2, .iconst 1, .ireturn, .astore 2, .iconst 2, .ireturn, .iconst 0, .ireturn]
def xq_171 : List Nat := [0, 1, 2, 3, 6, 7, 8, 11, 12, 13, 14, 15, 16, 17, 18]
-- 172: ExtentShelfLaw.volume(LExtentShelf;II[J)I
def xc_172 : List Instr := [.aload 3, .iconst 0, .aload 0, .iload 1, .iload 2, .invokeinterface 53 3, .i2l, .lastore, .goto 18, .astore 4, .iconst 1, .ireturn, .astore 4, .iconst 2, .ireturn, .astore 4, .iconst 3, .ireturn, .iconst 0, .ireturn]
def xq_172 : List Nat := [0, 1, 2, 3, 4, 5, 8, 9, 10, 13, 15, 16, 17, 19, 20, 21, 23, 24, 25, 26]
-- 173: ExtentShelfLaw.where(LExtentShelf;III[J)I
def xc_173 : List Instr := [.aload 4, .iconst 0, .aload 0, .iload 1, .iload 2, .iload 3, .invokeinterface 54 4, .i2l, .lastore, .goto 16, .astore 5, .iconst 1, .ireturn, .astore 5, .iconst 2, .ireturn, .iconst 0, .ireturn]
def xq_173 : List Nat := [0, 2, 3, 4, 5, 6, 7, 10, 11, 12, 15, 17, 18, 19, 21, 22, 23, 24]
-- 174: ExtentShelfLaw.free(LExtentShelf;I[J)I
def xc_174 : List Instr := [.aload 2, .iconst 0, .aload 0, .iload 1, .invokeinterface 55 2, .i2l, .lastore, .goto 14, .astore 3, .iconst 1, .ireturn, .astore 3, .iconst 2, .ireturn, .iconst 0, .ireturn]
def xq_174 : List Nat := [0, 1, 2, 3, 4, 7, 8, 9, 12, 13, 14, 15, 16, 17, 18, 19]
-- 175: ExtentShelfLaw.cut(LExtentShelf;I)I
def xc_175 : List Instr := [.aload 0, .iload 1, .invokeinterface 56 2, .goto 10, .astore 2, .iconst 1, .ireturn, .astore 2, .iconst 2, .ireturn, .iconst 0, .ireturn]
def xq_175 : List Nat := [0, 1, 2, 5, 8, 9, 10, 11, 12, 13, 14, 15]
-- 176: ExtentShelfLaw.off(LExtentShelf;)I
def xc_176 : List Instr := [.aload 0, .invokeinterface 57 1, .goto 6, .astore 1, .iconst 1, .ireturn, .iconst 0, .ireturn]
def xq_176 : List Nat := [0, 1, 4, 7, 8, 9, 10, 11]
-- 177: ExtentShelfLaw.plug(LExtentShelf;IZ[J)I
def xc_177 : List Instr := [.aload 3, .iconst 0, .aload 0, .iload 1, .iload 2, .invokeinterface 58 3, .ifCond .eq 9, .lconst 1, .goto 10, .lconst 0, .lastore, .goto 18, .astore 4, .iconst 1, .ireturn, .astore 4, .iconst 2, .ireturn, .iconst 0, .ireturn]
def xq_177 : List Nat := [0, 1, 2, 3, 4, 5, 8, 11, 12, 15, 16, 17, 20, 22, 23, 24, 26, 27, 28, 29]
-- 178: ExtentShelfLaw.start(LExtentShelf;[J)I
def xc_178 : List Instr := [.aload 1, .iconst 0, .aload 0, .invokeinterface 59 1, .i2l, .lastore, .goto 10, .astore 2, .iconst 1, .ireturn, .iconst 0, .ireturn]
def xq_178 : List Nat := [0, 1, 2, 3, 6, 7, 8, 11, 12, 13, 14, 15]
-- 179: ExtentShelfLaw.look(LExtentShelf;III[J)I
def xc_179 : List Instr := [.aload 4, .iconst 0, .aload 0, .iload 1, .iload 2, .iload 3, .invokeinterface 61 4, .i2l, .lastore, .goto 13, .astore 5, .iconst 1, .ireturn, .iconst 0, .ireturn]
def xq_179 : List Nat := [0, 2, 3, 4, 5, 6, 7, 10, 11, 12, 15, 17, 18, 19, 20]
-- 180: ExtentShelfLaw.law([I)Z
def xc_180 : List Instr := [.iconst 0, .istore 4, .iload 4, .aload 0, .arraylength, .iconst 4, .isub, .if_icmp .gt 786, .aload 0, .iload 4, .iaload, .iconst 31, .iand, .tableswitch 784 0 21 #[14, 46, 68, 103, 158, 203, 248, 270, 305, 360, 405, 440, 465, 472, 517, 572, 607, 629, 641, 697, 722, 729], .aload 1, .aload 0, .iload 4, .iconst 1, .iadd, .iaload, .aload 0, .iload 4, .iconst 2, .iadd, .iaload, .invokeinterface 160 3, .istore 5, .aload 2, .aload 0, .iload 4, .iconst 1, .iadd, .iaload, .aload 0, .iload 4, .iconst 2, .iadd, .iaload, .invokeinterface 133 3, .aload 2, .invokeinterface 107 1, .iload 5, .if_icmp .eq 45, .iconst 0, .freturn, .goto 784, .aload 1, .aload 0, .iload 4, .iconst 1, .iadd, .iaload, .invokeinterface 161 2, .istore 5, .aload 2, .aload 0, .iload 4, .iconst 1, .iadd, .iaload, .invokeinterface 134 2, .aload 2, .invokeinterface 107 1, .iload 5, .if_icmp .eq 67, .iconst 0, .freturn, .goto 784, .aload 1, .aload 0, .iload 4, .iconst 1, .iadd, .iaload, .aload 3, .invokeinterface 162 3, .istore 5, .aload 2, .aload 0, .iload 4, .iconst 1, .iadd, .iaload, .invokeinterface 135 2, .istore 6, .aload 2, .invokeinterface 107 1, .iload 5, .if_icmp .eq 91, .iconst 0, .freturn, .iload 5, .ifCond .ne 102, .aload 3, .iconst 0, .laload, .iload 6, .i2l, .lcmp, .ifCond .eq 102, .iconst 0, .freturn, .goto 784, .aload 1, .aload 0, .iload 4, .iconst 1, .iadd, .iaload, .aload 0, .iload 4, .iconst 2, .iadd, .iaload, .aload 0, .iload 4, .iconst 3, .iadd, .iaload, .aload 3, .invokeinterface 163 5, .istore 5, .aload 2, .aload 0, .iload 4, .iconst 1, .iadd, .iaload, .aload 0, .iload 4, .iconst 2, .iadd, .iaload, .aload 0, .iload 4, .iconst 3, .iadd, .iaload, .invokeinterface 137 4, .istore 6, .aload 2, .invokeinterface 107 1, .iload 5, .if_icmp .eq 146, .iconst 0, .freturn, .iload 5, .ifCond .ne 157, .aload 3, .iconst 0, .laload, .iload 6, .i2l, .lcmp, .ifCond .eq 157, .iconst 0, .freturn, .goto 784, .aload 1, .aload 0, .iload 4, .iconst 1, .iadd, .iaload, .aload 0, .iload 4, .iconst 2, .iadd, .iaload, .aload 3, .invokeinterface 164 4, .istore 5, .aload 2, .aload 0, .iload 4, .iconst 1, .iadd, .iaload, .aload 0, .iload 4, .iconst 2, .iadd, .iaload, .invokeinterface 138 3, .istore 6, .aload 2, .invokeinterface 107 1, .iload 5, .if_icmp .eq 191, .iconst 0, .freturn, .iload 5, .ifCond .ne 202, .aload 3, .iconst 0, .laload, .iload 6, .i2l, .lcmp, .ifCond .eq 202, .iconst 0, .freturn, .goto 784, .aload 1, .aload 0, .iload 4, .iconst 1, .iadd, .iaload, .aload 0, .iload 4, .iconst 2, .iadd, .iaload, .aload 3, .invokeinterface 165 4, .istore 5, .aload 2, .aload 0, .iload 4, .iconst 1, .iadd, .iaload, .aload 0, .iload 4, .iconst 2, .iadd, .iaload, .invokeinterface 139 3, .istore 6, .aload 2, .invokeinterface 107 1, .iload 5, .if_icmp .eq 236, .iconst 0, .freturn, .iload 5, .ifCond .ne 247, .aload 3, .iconst 0, .laload, .iload 6, .i2l, .lcmp, .ifCond .eq 247, .iconst 0, .freturn, .goto 784, .aload 1, .aload 0, .iload 4, .iconst 1, .iadd, .iaload, .invokeinterface 166 2, .istore 5, .aload 2, .aload 0, .iload 4, .iconst 1, .iadd, .iaload, .invokeinterface 140 2, .aload 2, .invokeinterface 107 1, .iload 5, .if_icmp .eq 269, .iconst 0, .freturn, .goto 784, .aload 1, .aload 0, .iload 4, .iconst 1, .iadd, .iaload, .aload 3, .invokeinterface 167 3, .istore 5, .aload 2, .aload 0, .iload 4, .iconst 1, .iadd, .iaload, .invokeinterface 142 2, .istore 6, .aload 2, .invokeinterface 107 1, .iload 5, .if_icmp .eq 293, .iconst 0, .freturn, .iload 5, .ifCond .ne 304, .aload 3, .iconst 0, .laload, .iload 6, .i2l, .lcmp, .ifCond .eq 304, .iconst 0, .freturn, .goto 784, .aload 1, .aload 0, .iload 4, .iconst 1, .iadd, .iaload, .aload 0, .iload 4, .iconst 2, .iadd, .iaload, .aload 0, .iload 4, .iconst 3, .iadd, .iaload, .aload 3, .invokeinterface 168 5, .istore 5, .aload 2, .aload 0, .iload 4, .iconst 1, .iadd, .iaload, .aload 0, .iload 4, .iconst 2, .iadd, .iaload, .aload 0, .iload 4, .iconst 3, .iadd, .iaload, .invokeinterface 146 4, .istore 6, .aload 2, .invokeinterface 107 1, .iload 5, .if_icmp .eq 348, .iconst 0, .freturn, .iload 5, .ifCond .ne 359, .aload 3, .iconst 0, .laload, .iload 6, .i2l, .lcmp, .ifCond .eq 359, .iconst 0, .freturn, .goto 784, .aload 1, .aload 0, .iload 4, .iconst 1, .iadd, .iaload, .aload 0, .iload 4, .iconst 2, .iadd, .iaload, .aload 3, .invokeinterface 169 4, .istore 5, .aload 2, .aload 0, .iload 4, .iconst 1, .iadd, .iaload, .aload 0, .iload 4, .iconst 2, .iadd, .iaload, .invokeinterface 147 3, .istore 6, .aload 2, .invokeinterface 107 1, .iload 5, .if_icmp .eq 393, .iconst 0, .freturn, .iload 5, .ifCond .ne 404, .aload 3, .iconst 0, .laload, .iload 6, .i2l, .lcmp, .ifCond .eq 404, .iconst 0, .freturn, .goto 784, .aload 1, .aload 0, .iload 4, .iconst 1, .iadd, .iaload, .aload 3, .invokeinterface 170 3, .istore 5, .aload 2, .aload 0, .iload 4, .iconst 1, .iadd, .iaload, .invokeinterface 148 2, .istore 6, .aload 2, .invokeinterface 107 1, .iload 5, .if_icmp .eq 428, .iconst 0, .freturn, .iload 5, .ifCond .ne 439, .aload 3, .iconst 0, .laload, .iload 6, .i2l, .lcmp, .ifCond .eq 439, .iconst 0, .freturn, .goto 784, .aload 1, .aload 3, .invokeinterface 171 2, .istore 5, .aload 2, .invokeinterface 149 1, .istore 6, .aload 2, .invokeinterface 107 1, .iload 5, .if_icmp .eq 453, .iconst 0, .freturn, .iload 5, .ifCond .ne 464, .aload 3, .iconst 0, .laload, .iload 6, .i2l, .lcmp, .ifCond .eq 464, .iconst 0, .freturn, .goto 784, .aload 1, .invokeinterface 52 1, .aload 2, .invokeinterface 150 1, .if_icmp .eq 784, .iconst 0, .freturn, .aload 1, .aload 0, .iload 4, .iconst 1, .iadd, .iaload, .aload 0, .iload 4, .iconst 2, .iadd, .iaload, .aload 3, .invokeinterface 172 4, .istore 5, .aload 2, .aload 0, .iload 4, .iconst 1, .iadd, .iaload, .aload 0, .iload 4, .iconst 2, .iadd, .iaload, .invokeinterface 151 3, .istore 6, .aload 2, .invokeinterface 107 1, .iload 5, .if_icmp .eq 505, .iconst 0, .freturn, .iload 5, .ifCond .ne 516, .aload 3, .iconst 0, .laload, .iload 6, .i2l, .lcmp, .ifCond .eq 516, .iconst 0, .freturn, .goto 784, .aload 1, .aload 0, .iload 4, .iconst 1, .iadd, .iaload, .aload 0, .iload 4, .iconst 2, .iadd, .iaload, .aload 0, .iload 4, .iconst 3, .iadd, .iaload, .aload 3, .invokeinterface 173 5, .istore 5, .aload 2, .aload 0, .iload 4, .iconst 1, .iadd, .iaload, .aload 0, .iload 4, .iconst 2, .iadd, .iaload, .aload 0, .iload 4, .iconst 3, .iadd, .iaload, .invokeinterface 152 4, .istore 6, .aload 2, .invokeinterface 107 1, .iload 5, .if_icmp .eq 560, .iconst 0, .freturn, .iload 5, .ifCond .ne 571, .aload 3, .iconst 0, .laload, .iload 6, .i2l, .lcmp, .ifCond .eq 571, .iconst 0, .freturn, .goto 784, .aload 1, .aload 0, .iload 4, .iconst 1, .iadd, .iaload, .aload 3, .invokeinterface 174 3, .istore 5, .aload 2, .aload 0, .iload 4, .iconst 1, .iadd, .iaload, .invokeinterface 153 2, .istore 6, .aload 2, .invokeinterface 107 1, .iload 5, .if_icmp .eq 595, .iconst 0, .freturn, .iload 5, .ifCond .ne 606, .aload 3, .iconst 0, .laload, .iload 6, .i2l, .lcmp, .ifCond .eq 606, .iconst 0, .freturn, .goto 784, .aload 1, .aload 0, .iload 4, .iconst 1, .iadd, .iaload, .invokeinterface 175 2, .istore 5, .aload 2, .aload 0, .iload 4, .iconst 1, .iadd, .iaload, .invokeinterface 156 2, .aload 2, .invokeinterface 107 1, .iload 5, .if_icmp .eq 628, .iconst 0, .freturn, .goto 784, .aload 1, .invokeinterface 176 1, .istore 5, .aload 2, .invokeinterface 157 1, .aload 2, .invokeinterface 107 1, .iload 5, .if_icmp .eq 640, .iconst 0, .freturn, .goto 784, .aload 1, .aload 0, .iload 4, .iconst 1, .iadd, .iaload, .aload 0, .iload 4, .iconst 2, .iadd, .iaload, .ifCond .eq 655, .iconst 1, .goto 656, .iconst 0, .aload 3, .invokeinterface 177 4, .istore 5, .aload 2, .aload 0, .iload 4, .iconst 1, .iadd, .iaload, .aload 0, .iload 4, .iconst 2, .iadd, .iaload, .ifCond .eq 673, .iconst 1, .goto 674, .iconst 0, .invokeinterface 158 3, .istore 6, .aload 2, .invokeinterface 107 1, .iload 5, .if_icmp .eq 682, .iconst 0, .freturn, .iload 5, .ifCond .ne 696, .aload 3, .iconst 0, .laload, .iload 6, .ifCond .eq 691, .lconst 1, .goto 692, .lconst 0, .lcmp, .ifCond .eq 696, .iconst 0, .freturn, .goto 784, .aload 1, .aload 3, .invokeinterface 178 2, .istore 5, .aload 2, .invokeinterface 159 1, .istore 6, .aload 2, .invokeinterface 107 1, .iload 5, .if_icmp .eq 710, .iconst 0, .freturn, .iload 5, .ifCond .ne 721, .aload 3, .iconst 0, .laload, .iload 6, .i2l, .lcmp, .ifCond .eq 721, .iconst 0, .freturn, .goto 784, .aload 1, .invokeinterface 60 1, .aload 2, .invokeinterface 154 1, .if_icmp .eq 784, .iconst 0, .freturn, .aload 1, .aload 0, .iload 4, .iconst 1, .iadd, .iaload, .aload 0, .iload 4, .iconst 2, .iadd, .iaload, .aload 0, .iload 4, .iconst 3, .iadd, .iaload, .aload 3, .invokeinterface 179 5, .istore 5, .aload 2, .aload 0, .iload 4, .iconst 1, .iadd, .iaload, .aload 0, .iload 4, .iconst 2, .iadd, .iaload, .aload 0, .iload 4, .iconst 3, .iadd, .iaload, .invokeinterface 155 4, .istore 6, .aload 2, .invokeinterface 107 1, .iload 5, .if_icmp .eq 772, .iconst 0, .freturn, .iload 5, .ifCond .ne 783, .aload 3, .iconst 0, .laload, .iload 6, .i2l, .lcmp, .ifCond .eq 783, .iconst 0, .freturn, .goto 784, .iinc 4 (4), .goto 2, .iconst 1, .freturn]
def xq_180 : List Nat := [20, 21, 23, 25, 26, 27, 28, 29, 32, 33, 35, 36, 38, 39, 140, 141, 142, 144, 145, 146, 147, 148, 150, 151, 152, 153, 156, 158, 159, 160, 162, 163, 164, 165, 166, 168, 169, 170, 171, 174, 175, 178, 180, 183, 184, 185, 188, 189, 190, 192, 193, 194, 195, 198, 200, 201, 202, 204, 205, 206, 207, 210, 211, 214, 216, 219, 220, 221, 224, 225, 226, 228, 229, 230, 231, 232, 235, 237, 238, 239, 241, 242, 243, 244, 247, 249, 250, 253, 255, 258, 259, 260, 262, 265, 266, 267, 268, 270, 271, 272, 275, 276, 277, 280, 281, 282, 284, 285, 286, 287, 288, 290, 291, 292, 293, 294, 296, 297, 298, 299, 300, 303, 305, 306, 307, 309, 310, 311, 312, 313, 315, 316, 317, 318, 319, 321, 322, 323, 324, 327, 329, 330, 333, 335, 338, 339, 340, 342, 345, 346, 347, 348, 350, 351, 352, 355, 356, 357, 360, 361, 362, 364, 365, 366, 367, 368, 370, 371, 372, 373, 374, 377, 379, 380, 381, 383, 384, 385, 386, 387, 389, 390, 391, 392, 395, 397, 398, 401, 403, 406, 407, 408, 410, 413, 414, 415, 416, 418, 419, 420, 423, 424, 425, 428, 429, 430, 432, 433, 434, 435, 436, 438, 439, 440, 441, 442, 445, 447, 448, 449, 451, 452, 453, 454, 455, 457, 458, 459, 460, 463, 465, 466, 469, 471, 474, 475, 476, 478, 481, 482, 483, 484, 486, 487, 488, 491, 492, 493, 496, 497, 498, 500, 501, 502, 503, 506, 508, 509, 510, 512, 513, 514, 515, 518, 519, 522, 524, 527, 528, 529, 532, 533, 534, 536, 537, 538, 539, 540, 543, 545, 546, 547, 549, 550, 551, 552, 555, 557, 558, 561, 563, 566, 567, 568, 570, 573, 574, 575, 576, 578, 579, 580, 583, 584, 585, 588, 589, 590, 592, 593, 594, 595, 596, 598, 599, 600, 601, 602, 604, 605, 606, 607, 608, 611, 613, 614, 615, 617, 618, 619, 620, 621, 623, 624, 625, 626, 627, 629, 630, 631, 632, 635, 637, 638, 641, 643, 646, 647, 648, 650, 653, 654, 655, 656, 658, 659, 660, 663, 664, 665, 668, 669, 670, 672, 673, 674, 675, 676, 678, 679, 680, 681, 682, 685, 687, 688, 689, 691, 692, 693, 694, 695, 697, 698, 699, 700, 703, 705, 706, 709, 711, 714, 715, 716, 718, 721, 722, 723, 724, 726, 727, 728, 731, 732, 733, 736, 737, 738, 740, 741, 742, 743, 744, 747, 749, 750, 751, 753, 754, 755, 756, 759, 761, 762, 765, 767, 770, 771, 772, 774, 777, 778, 779, 780, 782, 783, 784, 787, 788, 789, 792, 793, 794, 797, 799, 800, 803, 805, 806, 809, 811, 814, 815, 816, 818, 821, 822, 823, 824, 826, 827, 828, 831, 832, 833, 836, 837, 840, 841, 844, 847, 848, 849, 850, 851, 853, 854, 855, 856, 857, 859, 860, 861, 862, 863, 866, 868, 869, 870, 872, 873, 874, 875, 876, 878, 879, 880, 881, 884, 886, 887, 890, 892, 895, 896, 897, 899, 902, 903, 904, 905, 907, 908, 909, 912, 913, 914, 917, 918, 919, 921, 922, 923, 924, 925, 927, 928, 929, 930, 931, 933, 934, 935, 936, 937, 940, 942, 943, 944, 946, 947, 948, 949, 950, 952, 953, 954, 955, 956, 958, 959, 960, 961, 964, 966, 967, 970, 972, 975, 976, 977, 979, 982, 983, 984, 985, 987, 988, 989, 992, 993, 994, 997, 998, 999, 1001, 1002, 1003, 1004, 1005, 1008, 1010, 1011, 1012, 1014, 1015, 1016, 1017, 1020, 1022, 1023, 1026, 1028, 1031, 1032, 1033, 1035, 1038, 1039, 1040, 1041, 1043, 1044, 1045, 1048, 1049, 1050, 1053, 1054, 1055, 1057, 1058, 1059, 1060, 1063, 1065, 1066, 1067, 1069, 1070, 1071, 1072, 1075, 1076, 1079, 1081, 1084, 1085, 1086, 1089, 1090, 1093, 1095, 1096, 1099, 1100, 1103, 1105, 1108, 1109, 1110, 1113, 1114, 1115, 1117, 1118, 1119, 1120, 1121, 1123, 1124, 1125, 1126, 1129, 1130, 1133, 1134, 1135, 1138, 1140, 1141, 1142, 1144, 1145, 1146, 1147, 1148, 1150, 1151, 1152, 1153, 1156, 1157, 1160, 1161, 1164, 1166, 1167, 1170, 1172, 1175, 1176, 1177, 1179, 1182, 1183, 1184, 1185, 1187, 1190, 1191, 1194, 1195, 1196, 1199, 1200, 1201, 1204, 1205, 1206, 1209, 1211, 1212, 1215, 1217, 1218, 1221, 1223, 1226, 1227, 1228, 1230, 1233, 1234, 1235, 1236, 1238, 1239, 1240, 1243, 1244, 1245, 1248, 1249, 1252, 1253, 1256, 1259, 1260, 1261, 1262, 1263, 1265, 1266, 1267, 1268, 1269, 1271, 1272, 1273, 1274, 1275, 1277, 1278, 1279, 1280, 1281, 1284, 1286, 1287, 1288, 1290, 1291, 1292, 1293, 1294, 1296, 1297, 1298, 1299, 1300, 1302, 1303, 1304, 1305, 1308, 1310, 1311, 1314, 1316, 1319, 1320, 1321, 1323, 1326, 1327, 1328, 1329, 1331, 1332, 1333, 1336, 1337, 1338, 1341, 1344, 1347, 1348]
def xp_P0 (sc : Nat × (Nat → Int32)) : List xk_M := [(xc_0, 2, some 0, [], none), (xc_1, 3, some 0, [], none), (xc_2, 2, none, [], none), (xc_3, 4, some 0, [], none), (xc_4, 5, some 0, [], none), (xc_5, 6, some 0, [], none), (xc_6, 3, some 0, [], none), (xc_7, 2, some 0, [], none), (xc_8, 6, some 0, [], none), (xc_9, 3, some 0, [], none), (xc_10, 4, some 0, [], none), (xc_11, 3, some 0, [], none), (xc_12, 2, some 1, [], none), (xc_13, 1, some 1, [], none), (xc_14, 3, some 1, [], none), (xc_15, 1, some 1, [], none)]
def xp_F0 : List xk_F := [(⟨"ExtentShelf$Disks", "isAbsent", "(I)Z"⟩, prog_2_method_2_code, (some .boolean), xq_0, 0, 0, []), (⟨"ExtentShelf$Disks", "setAbsent", "(IZ)V"⟩, prog_2_method_3_code, none, xq_1, 0, 0, []), (⟨"ExtentShelf$Disks", "startOfSlot", "(II)I"⟩, prog_2_method_4_code, (some .int), xq_2, 0, 0, []), (⟨"ExtentShelf$Disks", "slotWord", "(III)I"⟩, prog_2_method_5_code, (some .int), xq_3, 1, 21, []), (⟨"ExtentShelf$Disks", "setSlotWord", "(IIII)V"⟩, prog_2_method_6_code, none, xq_4, 1, 21, []), (⟨"ExtentShelf$Disks", "wholeSerial", "(II)I"⟩, prog_2_method_7_code, (some .int), xq_5, 1, 23, []), (⟨"ExtentShelf$Disks", "hasWhole", "(II)Z"⟩, prog_2_method_8_code, (some .boolean), xq_6, 2, 48, []), (⟨"ExtentShelf$Disks", "slotToWrite", "(I)I"⟩, prog_2_method_9_code, (some .int), xq_7, 2, 48, []), (⟨"ExtentShelf$Disks", "newestWholeSlot", "()I"⟩, prog_2_method_10_code, (some .int), xq_8, 2, 48, []), (⟨"ExtentShelf$Disks", "extentWord", "(II)I"⟩, prog_2_method_11_code, (some .int), xq_9, 0, 0, []), (⟨"ExtentShelf$Disks", "setExtentWord", "(III)V"⟩, prog_2_method_12_code, none, xq_10, 0, 0, []), (⟨"ExtentShelf$Disks", "clearExtents", "(I)V"⟩, prog_2_method_13_code, none, xq_11, 0, 0, []), (⟨"ExtentShelf$Move", "begin", "(I)V"⟩, prog_3_method_2_code, none, xq_12, 0, 0, []), (⟨"ExtentShelf$Move", "end", "()V"⟩, prog_3_method_3_code, none, xq_13, 0, 0, []), (⟨"ExtentShelf$Move", "beginCopy", "(II)V"⟩, prog_3_method_4_code, none, xq_14, 0, 0, []), (⟨"ExtentShelf$Move", "endCopy", "()V"⟩, prog_3_method_5_code, none, xq_15, 0, 0, [])]
def xp_P1 (sc : Nat × (Nat → Int32)) : List xk_M := [(xc_16, 3, some 1, [], none), (xc_17, 3, some 2, [], none), (xc_18, 2, some 2, [], none), (xc_19, 2, some 2, [], none), (xc_20, 4, none, [], none), (xc_21, 1, some 2, [], none), (xc_22, 2, some 2, [], none), (xc_23, 2, some 2, [], none), (xc_24, 3, some 2, [], none), (xc_25, 3, some 2, [], none), (xc_26, 2, some 2, [], none), (xc_27, 2, some 2, [], none), (xc_28, 5, some 2, [], none), (xc_29, 2, some 2, [], none), (xc_30, 2, some 2, [], none), (xc_31, 2, some 2, [], none)]
def xp_F1 : List xk_F := [(⟨"ExtentShelf$Move", "hasCopied", "(II)Z"⟩, prog_3_method_6_code, (some .boolean), xq_16, 0, 0, []), (⟨"ExtentShelf$Table", "takeFrom", "([II)V"⟩, prog_4_method_2_code, none, xq_17, 1, 26, []), (⟨"ExtentShelf$Table", "clear", "()V"⟩, prog_4_method_3_code, none, xq_18, 0, 0, []), (⟨"ExtentShelf$Table", "seal", "(I)V"⟩, prog_4_method_4_code, none, xq_19, 1, 23, []), (⟨"ExtentShelf$Table", "sumOf", "([II)I"⟩, prog_4_method_5_code, (some .int), xq_20, 0, 0, []), (⟨"ExtentShelf$Table", "serial", "()I"⟩, prog_4_method_6_code, (some .int), xq_21, 0, 0, []), (⟨"ExtentShelf$Table", "lists", "(I)Z"⟩, prog_4_method_7_code, (some .boolean), xq_22, 1, 21, []), (⟨"ExtentShelf$Table", "extentsOf", "(I)I"⟩, prog_4_method_8_code, (some .int), xq_23, 0, 0, []), (⟨"ExtentShelf$Table", "setExtents", "(II)V"⟩, prog_4_method_9_code, none, xq_24, 0, 0, []), (⟨"ExtentShelf$Table", "countListed", "()I"⟩, prog_4_method_10_code, (some .int), xq_25, 2, 42, []), (⟨"ExtentShelf$Table", "has", "(I)Z"⟩, prog_4_method_11_code, (some .boolean), xq_26, 0, 0, []), (⟨"ExtentShelf$Table", "leastUnusedVolume", "()I"⟩, prog_4_method_12_code, (some .int), xq_27, 1, 21, []), (⟨"ExtentShelf$Table", "describe", "(IIII)V"⟩, prog_4_method_13_code, none, xq_28, 0, 0, []), (⟨"ExtentShelf$Table", "kindOf", "(I)I"⟩, prog_4_method_14_code, (some .int), xq_29, 0, 0, []), (⟨"ExtentShelf$Table", "columnsOf", "(I)I"⟩, prog_4_method_15_code, (some .int), xq_30, 1, 26, []), (⟨"ExtentShelf$Table", "elementsOf", "(I)I"⟩, prog_4_method_16_code, (some .int), xq_31, 0, 0, [])]
def xp_P2 (sc : Nat × (Nat → Int32)) : List xk_M := [(xc_32, 2, some 2, [], none), (xc_33, 4, some 2, [], none), (xc_34, 2, some 2, [], none), (xc_35, 3, some 2, [], none), (xc_36, 3, some 2, [], none), (xc_37, 4, some 2, [], none), (xc_38, 3, some 2, [], none), (xc_39, 3, some 2, [], none), (xc_40, 3, some 3, [], none), (xc_41, 2, some 3, [], none), (xc_42, 3, some 3, [], none), (xc_43, 5, some 3, [], none), (xc_44, 4, some 3, [], none), (xc_45, 4, some 3, [], none), (xc_46, 2, some 3, [], none), (xc_47, 3, some 3, [], none)]
def xp_F2 : List xk_F := [(⟨"ExtentShelf$Table", "forget", "(I)V"⟩, prog_4_method_17_code, none, xq_32, 2, 45, []), (⟨"ExtentShelf$Table", "loseElements", "(II)V"⟩, prog_4_method_18_code, none, xq_33, 1, 22, []), (⟨"ExtentShelf$Table", "spotOf", "(I)I"⟩, prog_4_method_19_code, (some .int), xq_34, 0, 0, []), (⟨"ExtentShelf$Table", "setSpot", "(II)V"⟩, prog_4_method_20_code, none, xq_35, 0, 0, []), (⟨"ExtentShelf$Table", "isUsed", "(I)Z"⟩, prog_4_method_21_code, (some .boolean), xq_36, 1, 21, []), (⟨"ExtentShelf$Table", "legsOn", "(I)I"⟩, prog_4_method_22_code, (some .int), xq_37, 1, 21, []), (⟨"ExtentShelf$Table", "firstLegOn", "(I)I"⟩, prog_4_method_23_code, (some .int), xq_38, 1, 21, []), (⟨"ExtentShelf$Table", "loseLegsOn", "(I)V"⟩, prog_4_method_24_code, none, xq_39, 1, 22, []), (⟨"ExtentShelf", "add", "(II)V"⟩, prog_1_method_2_code, none, xq_40, 9, 147, []), (⟨"ExtentShelf", "remove", "(I)V"⟩, prog_1_method_3_code, none, xq_41, 9, 147, []), (⟨"ExtentShelf", "drop", "(I)I"⟩, prog_1_method_4_code, (some .int), xq_42, 9, 147, []), (⟨"ExtentShelf", "make", "(III)I"⟩, prog_1_method_5_code, (some .int), xq_43, 10, 173, []), (⟨"ExtentShelf", "grow", "(II)I"⟩, prog_1_method_6_code, (some .int), xq_44, 10, 173, []), (⟨"ExtentShelf", "shrink", "(II)I"⟩, prog_1_method_7_code, (some .int), xq_45, 9, 147, []), (⟨"ExtentShelf", "delete", "(I)V"⟩, prog_1_method_8_code, none, xq_46, 9, 147, []), (⟨"ExtentShelf", "mend", "(I)I"⟩, prog_1_method_9_code, (some .int), xq_47, 10, 172, [])]
def xp_P3 (sc : Nat × (Nat → Int32)) : List xk_M := [(xc_48, 9, some 3, [], none), (xc_49, 4, some 3, [], none), (xc_50, 2, some 3, [], none), (xc_51, 3, some 3, [], none), (xc_52, 1, some 3, [], none), (xc_53, 3, some 3, [], none), (xc_54, 4, some 3, [], none), (xc_55, 2, some 3, [], none), (xc_56, 2, some 3, [], none), (xc_57, 1, some 3, [], none), (xc_58, 4, some 3, [], none), (xc_59, 2, some 3, [], none), (xc_60, 1, some 3, [], none), (xc_61, 6, some 3, [], none), (xc_62, 1, some 3, [], none), (xc_63, 1, some 3, [], none)]
def xp_F3 : List xk_F := [(⟨"ExtentShelf", "write", "(III)I"⟩, prog_1_method_10_code, (some .int), xq_48, 10, 171, []), (⟨"ExtentShelf", "read", "(II)I"⟩, prog_1_method_11_code, (some .int), xq_49, 7, 104, []), (⟨"ExtentShelf", "empty", "(I)I"⟩, prog_1_method_12_code, (some .int), xq_50, 7, 103, []), (⟨"ExtentShelf", "step", "()I"⟩, prog_1_method_13_code, (some .int), xq_51, 10, 168, []), (⟨"ExtentShelf", "moving", "()I"⟩, prog_1_method_14_code, (some .int), xq_52, 0, 0, []), (⟨"ExtentShelf", "volume", "(II)I"⟩, prog_1_method_15_code, (some .int), xq_53, 7, 103, []), (⟨"ExtentShelf", "where", "(III)I"⟩, prog_1_method_16_code, (some .int), xq_54, 7, 103, []), (⟨"ExtentShelf", "free", "(I)I"⟩, prog_1_method_17_code, (some .int), xq_55, 7, 102, []), (⟨"ExtentShelf", "cut", "(I)V"⟩, prog_1_method_18_code, none, xq_56, 7, 102, []), (⟨"ExtentShelf", "off", "()V"⟩, prog_1_method_19_code, none, xq_57, 7, 102, []), (⟨"ExtentShelf", "plug", "(IZ)Z"⟩, prog_1_method_20_code, (some .boolean), xq_58, 7, 102, []), (⟨"ExtentShelf", "start", "()I"⟩, prog_1_method_21_code, (some .int), xq_59, 10, 170, []), (⟨"ExtentShelf", "number", "()I"⟩, prog_1_method_22_code, (some .int), xq_60, 1, 20, []), (⟨"ExtentShelf", "look", "(III)I"⟩, prog_1_method_23_code, (some .int), xq_61, 6, 82, []), (⟨"ExtentShelf", "requirePower", "()V"⟩, prog_1_method_24_code, none, xq_62, 6, 82, []), (⟨"ExtentShelf", "requireNoPower", "()V"⟩, prog_1_method_25_code, none, xq_63, 6, 82, [])]
def xp_P4 (sc : Nat × (Nat → Int32)) : List xk_M := [(xc_64, 1, none, [], none), (xc_65, 1, none, [], none), (xc_66, 2, some 3, [], none), (xc_67, 1, some 3, [], none), (xc_68, 2, some 3, [], none), (xc_69, 3, some 3, [], none), (xc_70, 2, some 3, [], none), (xc_71, 2, some 3, [], none), (xc_72, 2, none, [], none), (xc_73, 2, none, [], none), (xc_74, 3, none, [], none), (xc_75, 1, none, [], none), (xc_76, 2, some 3, [], none), (xc_77, 4, some 3, [], none), (xc_78, 4, some 3, [], none), (xc_79, 3, some 3, [], none)]
def xp_F4 : List xk_F := [(⟨"ExtentShelf", "isDisk", "(I)Z"⟩, prog_1_method_26_code, (some .boolean), xq_64, 0, 0, []), (⟨"ExtentShelf", "requireDisk", "(I)V"⟩, prog_1_method_27_code, none, xq_65, 6, 82, []), (⟨"ExtentShelf", "requireListed", "(I)V"⟩, prog_1_method_28_code, none, xq_66, 6, 82, []), (⟨"ExtentShelf", "requireListedPresent", "()V"⟩, prog_1_method_29_code, none, xq_67, 6, 82, []), (⟨"ExtentShelf", "requireVolume", "(I)V"⟩, prog_1_method_30_code, none, xq_68, 6, 82, []), (⟨"ExtentShelf", "requireWord", "(II)V"⟩, prog_1_method_31_code, none, xq_69, 6, 82, []), (⟨"ExtentShelf", "isAnyListedAbsent", "()Z"⟩, prog_1_method_32_code, (some .boolean), xq_70, 2, 42, []), (⟨"ExtentShelf", "isAnyListedPresent", "()Z"⟩, prog_1_method_33_code, (some .boolean), xq_71, 3, 64, []), (⟨"ExtentShelf", "isShape", "(II)Z"⟩, prog_1_method_34_code, (some .boolean), xq_72, 0, 0, []), (⟨"ExtentShelf", "mayHave", "(II)Z"⟩, prog_1_method_35_code, (some .boolean), xq_73, 0, 0, []), (⟨"ExtentShelf", "legOf", "(III)I"⟩, prog_1_method_36_code, (some .int), xq_74, 0, 0, []), (⟨"ExtentShelf", "diskOf", "(I)I"⟩, prog_1_method_37_code, (some .int), xq_75, 0, 0, []), (⟨"ExtentShelf", "countWords", "(I)I"⟩, prog_1_method_38_code, (some .int), xq_76, 1, 21, []), (⟨"ExtentShelf", "elementOfWord", "(II)I"⟩, prog_1_method_39_code, (some .int), xq_77, 2, 47, []), (⟨"ExtentShelf", "placeOfWord", "(II)I"⟩, prog_1_method_40_code, (some .int), xq_78, 2, 47, []), (⟨"ExtentShelf", "isReadable", "(I)Z"⟩, prog_1_method_41_code, (some .boolean), xq_79, 1, 21, [])]
def xp_P5 (sc : Nat × (Nat → Int32)) : List xk_M := [(xc_80, 5, some 3, [], none), (xc_81, 1, some 3, [], none), (xc_82, 1, some 3, [], none), (xc_83, 4, some 3, [], none), (xc_84, 4, some 3, [], none), (xc_85, 1, some 3, [], none), (xc_86, 2, some 3, [], none), (xc_87, 3, some 3, [], none), (xc_88, 5, some 3, [], none), (xc_89, 5, some 3, [], none), (xc_90, 3, some 3, [], none), (xc_91, 10, some 3, [], none), (xc_92, 4, some 3, [], none), (xc_93, 9, some 3, [], none), (xc_94, 3, some 3, [], none), (xc_95, 1, none, [], none)]
def xp_F5 : List xk_F := [(⟨"ExtentShelf", "leastReadableLeg", "(II)I"⟩, prog_1_method_42_code, (some .int), xq_80, 2, 43, []), (⟨"ExtentShelf", "losePower", "()V"⟩, prog_1_method_43_code, none, xq_81, 1, 20, []), (⟨"ExtentShelf", "spendWord", "()V"⟩, prog_1_method_44_code, none, xq_82, 6, 82, []), (⟨"ExtentShelf", "putWord", "(III)V"⟩, prog_1_method_45_code, none, xq_83, 7, 102, []), (⟨"ExtentShelf", "putLegWord", "(III)V"⟩, prog_1_method_46_code, none, xq_84, 8, 125, []), (⟨"ExtentShelf", "beginDraft", "()V"⟩, prog_1_method_47_code, none, xq_85, 2, 48, []), (⟨"ExtentShelf", "commitDraft", "()V"⟩, prog_1_method_48_code, none, xq_86, 8, 126, []), (⟨"ExtentShelf", "isListedAndPresent", "(LExtentShelf$Table;I)Z"⟩, prog_1_method_49_code, (some .boolean), xq_87, 2, 42, []), (⟨"ExtentShelf", "writeTable", "(LExtentShelf$Table;I)V"⟩, prog_1_method_50_code, none, xq_88, 7, 102, []), (⟨"ExtentShelf", "loseAbsentLeg", "(II)V"⟩, prog_1_method_51_code, none, xq_89, 9, 147, []), (⟨"ExtentShelf", "countFree", "(LExtentShelf$Table;I)I"⟩, prog_1_method_52_code, (some .int), xq_90, 2, 44, []), (⟨"ExtentShelf", "findRoom", "(IIII)I"⟩, prog_1_method_53_code, (some .int), xq_91, 3, 75, []), (⟨"ExtentShelf", "leastFreeSpot", "(I)I"⟩, prog_1_method_54_code, (some .int), xq_92, 2, 43, []), (⟨"ExtentShelf", "groupDisks", "(III)I"⟩, prog_1_method_55_code, (some .int), xq_93, 2, 47, []), (⟨"ExtentShelf", "disksOfLeg", "(I)I"⟩, prog_1_method_56_code, (some .int), xq_94, 1, 21, []), (⟨"ExtentShelf", "bitOfDisk", "(I)I"⟩, prog_1_method_57_code, (some .int), xq_95, 0, 0, [])]
def xp_P6 (sc : Nat × (Nat → Int32)) : List xk_M := [(xc_96, 5, some 3, [], none), (xc_97, 7, some 3, [], none), (xc_98, 3, some 3, [], none), (xc_99, 5, some 3, [], none), (xc_100, 5, some 3, [], none), (xc_101, 5, some 3, [], none), (xc_102, 4, some 3, [], none), (xc_103, 4, some 3, [], none), (xc_104, 2, some 3, [], none), (xc_105, 2, some 3, [], none), (xc_106, 3, some 3, [], none), (xc_107, 1, some 4, [], none), (xc_108, 1, none, [], none), (xc_109, 1, some 4, [], none), (xc_110, 4, some 4, [], none), (xc_111, 3, some 4, [], none)]
def xp_F6 : List xk_F := [(⟨"ExtentShelf", "giveRoom", "(III)V"⟩, prog_1_method_58_code, none, xq_96, 6, 104, []), (⟨"ExtentShelf", "fillElements", "(II)V"⟩, prog_1_method_59_code, none, xq_97, 9, 147, []), (⟨"ExtentShelf", "clearLeg", "(I)V"⟩, prog_1_method_60_code, none, xq_98, 8, 125, []), (⟨"ExtentShelf", "findRoomForLostLegs", "(I)I"⟩, prog_1_method_61_code, (some .int), xq_99, 7, 128, []), (⟨"ExtentShelf", "lostLeg", "(II)I"⟩, prog_1_method_62_code, (some .int), xq_100, 1, 22, []), (⟨"ExtentShelf", "copyToNewLegs", "(I)V"⟩, prog_1_method_63_code, none, xq_101, 9, 148, []), (⟨"ExtentShelf", "copyExtent", "(II)V"⟩, prog_1_method_64_code, none, xq_102, 8, 125, []), (⟨"ExtentShelf", "findRoomToMove", "(I)I"⟩, prog_1_method_65_code, (some .int), xq_103, 4, 104, []), (⟨"ExtentShelf", "copyNextWord", "()V"⟩, prog_1_method_66_code, none, xq_104, 9, 147, []), (⟨"ExtentShelf", "loadNewestTable", "()V"⟩, prog_1_method_67_code, none, xq_105, 3, 73, []), (⟨"ExtentShelf", "alignTwins", "(II)V"⟩, prog_1_method_68_code, none, xq_106, 9, 148, []), (⟨"ExtentShelfModel", "thrown", "()I"⟩, prog_6_method_2_code, (some .int), xq_107, 0, 0, []), (⟨"ExtentShelfModel", "isDisk", "(I)Z"⟩, prog_6_method_3_code, (some .boolean), xq_108, 0, 0, []), (⟨"ExtentShelfModel", "mayWrite", "()Z"⟩, prog_6_method_4_code, (some .boolean), xq_109, 0, 0, []), (⟨"ExtentShelfModel", "put", "(III)V"⟩, prog_6_method_5_code, none, xq_110, 1, 20, []), (⟨"ExtentShelfModel", "get", "(II)I"⟩, prog_6_method_6_code, (some .int), xq_111, 0, 0, [])]
def xp_P7 (sc : Nat × (Nat → Int32)) : List xk_M := [(xc_112, 2, none, [], none), (xc_113, 2, none, [], none), (xc_114, 2, none, [], none), (xc_115, 2, some 4, [], none), (xc_116, 4, none, [], none), (xc_117, 4, some 4, [], none), (xc_118, 3, some 4, [], none), (xc_119, 2, some 4, [], none), (xc_120, 6, some 4, [], none), (xc_121, 4, some 4, [], none), (xc_122, 5, some 4, [], none), (xc_123, 3, some 4, [], none), (xc_124, 2, some 4, [], none), (xc_125, 3, some 4, [], none), (xc_126, 5, some 4, [], none), (xc_127, 5, none, [], none)]
def xp_F7 : List xk_F := [(⟨"ExtentShelfModel", "kindOf", "([II)I"⟩, prog_6_method_7_code, (some .int), xq_112, 0, 0, []), (⟨"ExtentShelfModel", "columnsOf", "([II)I"⟩, prog_6_method_8_code, (some .int), xq_113, 0, 0, []), (⟨"ExtentShelfModel", "elementsOf", "([II)I"⟩, prog_6_method_9_code, (some .int), xq_114, 0, 0, []), (⟨"ExtentShelfModel", "isVolume", "(I)Z"⟩, prog_6_method_10_code, (some .boolean), xq_115, 0, 0, []), (⟨"ExtentShelfModel", "holds", "([II)Z"⟩, prog_6_method_11_code, (some .boolean), xq_116, 0, 0, []), (⟨"ExtentShelfModel", "legsOn", "(I)I"⟩, prog_6_method_12_code, (some .int), xq_117, 0, 0, []), (⟨"ExtentShelfModel", "isOneAbsent", "()Z"⟩, prog_6_method_13_code, (some .boolean), xq_118, 0, 0, []), (⟨"ExtentShelfModel", "begin", "()V"⟩, prog_6_method_14_code, none, xq_119, 0, 0, []), (⟨"ExtentShelfModel", "numberOf", "(II)I"⟩, prog_6_method_15_code, (some .int), xq_120, 0, 0, []), (⟨"ExtentShelfModel", "slotToWrite", "(I)I"⟩, prog_6_method_16_code, (some .int), xq_121, 1, 25, []), (⟨"ExtentShelfModel", "writeTo", "(I[I)V"⟩, prog_6_method_17_code, none, xq_122, 2, 48, []), (⟨"ExtentShelfModel", "change", "()V"⟩, prog_6_method_18_code, none, xq_123, 3, 72, []), (⟨"ExtentShelfModel", "ended", "(I)I"⟩, prog_6_method_19_code, (some .int), xq_124, 0, 0, []), (⟨"ExtentShelfModel", "isFree", "([II)Z"⟩, prog_6_method_20_code, (some .boolean), xq_125, 1, 23, []), (⟨"ExtentShelfModel", "freeOn", "([II)I"⟩, prog_6_method_21_code, (some .int), xq_126, 2, 45, []), (⟨"ExtentShelfModel", "isBeside", "([IIII)Z"⟩, prog_6_method_22_code, (some .boolean), xq_127, 1, 21, [])]
def xp_P8 (sc : Nat × (Nat → Int32)) : List xk_M := [(xc_128, 8, some 4, [], none), (xc_129, 9, some 4, [], none), (xc_130, 5, some 4, [], none), (xc_131, 5, some 4, [], none), (xc_132, 3, some 4, [], none), (xc_133, 4, some 4, [], none), (xc_134, 3, some 4, [], none), (xc_135, 5, some 4, [], none), (xc_136, 2, none, [], none), (xc_137, 6, some 4, [], none), (xc_138, 4, some 4, [], none), (xc_139, 5, some 4, [], none), (xc_140, 3, some 4, [], none), (xc_141, 1, none, [], none), (xc_142, 6, some 4, [], none), (xc_143, 2, some 4, [], none)]
def xp_F8 : List xk_F := [(⟨"ExtentShelfModel", "meets", "([IIII)Z"⟩, prog_6_method_23_code, (some .boolean), xq_128, 2, 45, []), (⟨"ExtentShelfModel", "room", "([IIII)I"⟩, prog_6_method_24_code, (some .int), xq_129, 3, 72, []), (⟨"ExtentShelfModel", "find", "(II)Z"⟩, prog_6_method_25_code, (some .boolean), xq_130, 4, 100, []), (⟨"ExtentShelfModel", "clear", "(II)V"⟩, prog_6_method_26_code, none, xq_131, 2, 43, []), (⟨"ExtentShelfModel", "listed", "()I"⟩, prog_6_method_27_code, (some .int), xq_132, 0, 0, []), (⟨"ExtentShelfModel", "add", "(II)V"⟩, prog_6_method_28_code, none, xq_133, 4, 94, []), (⟨"ExtentShelfModel", "remove", "(I)V"⟩, prog_6_method_29_code, none, xq_134, 4, 94, []), (⟨"ExtentShelfModel", "drop", "(I)I"⟩, prog_6_method_30_code, (some .int), xq_135, 4, 94, []), (⟨"ExtentShelfModel", "fits", "(II)Z"⟩, prog_6_method_31_code, (some .boolean), xq_136, 0, 0, []), (⟨"ExtentShelfModel", "make", "(III)I"⟩, prog_6_method_32_code, (some .int), xq_137, 5, 124, []), (⟨"ExtentShelfModel", "grow", "(II)I"⟩, prog_6_method_33_code, (some .int), xq_138, 5, 124, []), (⟨"ExtentShelfModel", "shrink", "(II)I"⟩, prog_6_method_34_code, (some .int), xq_139, 4, 94, []), (⟨"ExtentShelfModel", "delete", "(I)V"⟩, prog_6_method_35_code, none, xq_140, 4, 94, []), (⟨"ExtentShelfModel", "twin", "(I)I"⟩, prog_6_method_36_code, (some .int), xq_141, 0, 0, []), (⟨"ExtentShelfModel", "mend", "(I)I"⟩, prog_6_method_37_code, (some .int), xq_142, 4, 100, []), (⟨"ExtentShelfModel", "isReadable", "(I)Z"⟩, prog_6_method_38_code, (some .boolean), xq_143, 0, 0, [])]
def xp_P9 (sc : Nat × (Nat → Int32)) : List xk_M := [(xc_144, 4, some 4, [], none), (xc_145, 4, some 4, [], none), (xc_146, 10, some 4, [], none), (xc_147, 5, some 4, [], none), (xc_148, 2, some 4, [], none), (xc_149, 3, some 4, [], none), (xc_150, 1, some 4, [], none), (xc_151, 4, some 4, [], none), (xc_152, 4, some 4, [], none), (xc_153, 2, some 4, [], none), (xc_154, 1, some 4, [], none), (xc_155, 5, some 4, [], none), (xc_156, 2, some 4, [], none), (xc_157, 1, some 4, [], none), (xc_158, 4, some 4, [], none), (xc_159, 5, some 4, [], none)]
def xp_F9 : List xk_F := [(⟨"ExtentShelfModel", "elementOf", "(II)I"⟩, prog_6_method_39_code, (some .int), xq_144, 1, 21, []), (⟨"ExtentShelfModel", "wordOf", "(II)I"⟩, prog_6_method_40_code, (some .int), xq_145, 1, 21, []), (⟨"ExtentShelfModel", "write", "(III)I"⟩, prog_6_method_41_code, (some .int), xq_146, 4, 94, []), (⟨"ExtentShelfModel", "read", "(II)I"⟩, prog_6_method_42_code, (some .int), xq_147, 2, 44, []), (⟨"ExtentShelfModel", "empty", "(I)I"⟩, prog_6_method_43_code, (some .int), xq_148, 1, 23, []), (⟨"ExtentShelfModel", "step", "()I"⟩, prog_6_method_44_code, (some .int), xq_149, 4, 100, []), (⟨"ExtentShelfModel", "moving", "()I"⟩, prog_6_method_45_code, (some .int), xq_150, 0, 0, []), (⟨"ExtentShelfModel", "volume", "(II)I"⟩, prog_6_method_46_code, (some .int), xq_151, 1, 21, []), (⟨"ExtentShelfModel", "where", "(III)I"⟩, prog_6_method_47_code, (some .int), xq_152, 1, 21, []), (⟨"ExtentShelfModel", "free", "(I)I"⟩, prog_6_method_48_code, (some .int), xq_153, 3, 69, []), (⟨"ExtentShelfModel", "number", "()I"⟩, prog_6_method_49_code, (some .int), xq_154, 0, 0, []), (⟨"ExtentShelfModel", "look", "(III)I"⟩, prog_6_method_50_code, (some .int), xq_155, 1, 20, []), (⟨"ExtentShelfModel", "cut", "(I)V"⟩, prog_6_method_51_code, none, xq_156, 0, 0, []), (⟨"ExtentShelfModel", "off", "()V"⟩, prog_6_method_52_code, none, xq_157, 0, 0, []), (⟨"ExtentShelfModel", "plug", "(IZ)Z"⟩, prog_6_method_53_code, (some .boolean), xq_158, 1, 20, []), (⟨"ExtentShelfModel", "start", "()I"⟩, prog_6_method_54_code, (some .int), xq_159, 3, 72, [])]
def xp_P10 (sc : Nat × (Nat → Int32)) : List xk_M := [(xc_160, 4, none, [(0, 1), (1, 2), (2, 3)], none), (xc_161, 3, none, [(0, 1), (1, 2), (2, 3)], none), (xc_162, 4, none, [(0, 1), (1, 2), (2, 3)], none), (xc_163, 6, none, [(0, 1), (1, 2), (2, 3)], none), (xc_164, 5, none, [(0, 1), (3, 2), (1, 3), (2, 4)], none), (xc_165, 5, none, [(0, 1), (3, 2), (1, 3), (2, 4)], none), (xc_166, 3, none, [(0, 1), (3, 2), (2, 3)], none), (xc_167, 4, none, [(0, 1), (3, 2), (1, 3), (2, 4)], none), (xc_168, 6, none, [(0, 1), (3, 2), (4, 3), (2, 4)], none), (xc_169, 5, none, [(0, 1), (3, 2), (4, 3), (2, 4)], none), (xc_170, 4, none, [(0, 1), (1, 2), (2, 3)], none), (xc_171, 3, none, [(0, 1), (2, 2)], none), (xc_172, 5, none, [(0, 1), (3, 2), (1, 3)], none), (xc_173, 6, none, [(0, 1), (3, 2)], none), (xc_174, 4, none, [(0, 1), (1, 2)], none), (xc_175, 3, none, [(0, 1), (1, 2)], none)]
def xp_F10 : List xk_F := [(⟨"ExtentShelfLaw", "add", "(LExtentShelf;II)I"⟩, method_3_code, (some .int), xq_160, 10, 169, [(0, 6, 9, 13), (0, 6, 12, 15), (0, 6, 15, 17)]), (⟨"ExtentShelfLaw", "remove", "(LExtentShelf;I)I"⟩, method_4_code, (some .int), xq_161, 10, 168, [(0, 5, 8, 13), (0, 5, 11, 15), (0, 5, 14, 17)]), (⟨"ExtentShelfLaw", "drop", "(LExtentShelf;I[J)I"⟩, method_5_code, (some .int), xq_162, 10, 169, [(0, 9, 12, 13), (0, 9, 15, 15), (0, 9, 18, 17)]), (⟨"ExtentShelfLaw", "make", "(LExtentShelf;III[J)I"⟩, method_6_code, (some .int), xq_163, 11, 197, [(0, 12, 15, 13), (0, 12, 19, 15), (0, 12, 23, 17)]), (⟨"ExtentShelfLaw", "grow", "(LExtentShelf;II[J)I"⟩, method_7_code, (some .int), xq_164, 11, 196, [(0, 10, 13, 13), (0, 10, 17, 35), (0, 10, 21, 15), (0, 10, 25, 17)]), (⟨"ExtentShelfLaw", "shrink", "(LExtentShelf;II[J)I"⟩, method_8_code, (some .int), xq_165, 10, 170, [(0, 10, 13, 13), (0, 10, 17, 35), (0, 10, 21, 15), (0, 10, 25, 17)]), (⟨"ExtentShelfLaw", "delete", "(LExtentShelf;I)I"⟩, method_9_code, (some .int), xq_166, 10, 168, [(0, 5, 8, 13), (0, 5, 11, 35), (0, 5, 14, 17)]), (⟨"ExtentShelfLaw", "mend", "(LExtentShelf;I[J)I"⟩, method_10_code, (some .int), xq_167, 11, 194, [(0, 9, 12, 13), (0, 9, 15, 35), (0, 9, 18, 15), (0, 9, 21, 17)]), (⟨"ExtentShelfLaw", "write", "(LExtentShelf;III[J)I"⟩, method_11_code, (some .int), xq_168, 11, 199, [(0, 12, 15, 13), (0, 12, 19, 35), (0, 12, 23, 49), (0, 12, 27, 17)]), (⟨"ExtentShelfLaw", "read", "(LExtentShelf;II[J)I"⟩, method_12_code, (some .int), xq_169, 8, 127, [(0, 10, 13, 13), (0, 10, 17, 35), (0, 10, 21, 49), (0, 10, 25, 17)]), (⟨"ExtentShelfLaw", "empty", "(LExtentShelf;I[J)I"⟩, method_13_code, (some .int), xq_170, 8, 124, [(0, 9, 12, 13), (0, 9, 15, 15), (0, 9, 18, 17)]), (⟨"ExtentShelfLaw", "step", "(LExtentShelf;[J)I"⟩, method_14_code, (some .int), xq_171, 11, 190, [(0, 8, 11, 13), (0, 8, 14, 17)]), (⟨"ExtentShelfLaw", "volume", "(LExtentShelf;II[J)I"⟩, method_15_code, (some .int), xq_172, 8, 125, [(0, 10, 13, 13), (0, 10, 17, 35), (0, 10, 21, 15)]), (⟨"ExtentShelfLaw", "where", "(LExtentShelf;III[J)I"⟩, method_16_code, (some .int), xq_173, 8, 126, [(0, 12, 15, 13), (0, 12, 19, 35)]), (⟨"ExtentShelfLaw", "free", "(LExtentShelf;I[J)I"⟩, method_17_code, (some .int), xq_174, 8, 123, [(0, 9, 12, 13), (0, 9, 15, 15)]), (⟨"ExtentShelfLaw", "cut", "(LExtentShelf;I)I"⟩, method_18_code, (some .int), xq_175, 8, 123, [(0, 5, 8, 13), (0, 5, 11, 15)])]
def xp_P11 (sc : Nat × (Nat → Int32)) : List xk_M := [(xc_176, 2, none, [(0, 1)], none), (xc_177, 5, none, [(0, 1), (1, 2)], none), (xc_178, 3, none, [(0, 1)], none), (xc_179, 6, none, [(4, 1)], none), (xc_180, 7, none, [], some sc)]
def xp_F11 : List xk_F := [(⟨"ExtentShelfLaw", "off", "(LExtentShelf;)I"⟩, method_19_code, (some .int), xq_176, 8, 122, [(0, 4, 7, 13)]), (⟨"ExtentShelfLaw", "plug", "(LExtentShelf;IZ[J)I"⟩, method_20_code, (some .int), xq_177, 8, 125, [(0, 17, 20, 13), (0, 17, 24, 15)]), (⟨"ExtentShelfLaw", "start", "(LExtentShelf;[J)I"⟩, method_21_code, (some .int), xq_178, 11, 191, [(0, 8, 11, 13)]), (⟨"ExtentShelfLaw", "look", "(LExtentShelf;III[J)I"⟩, method_22_code, (some .int), xq_179, 7, 107, [(0, 12, 15, 49)]), (⟨"ExtentShelfLaw", "law", "([I)Z"⟩, code, (some .boolean), xq_180, 12, 224, [])]
def xp_Pl (sc : Nat × (Nat → Int32)) : List (List xk_M) := [xp_P0 sc, xp_P1 sc, xp_P2 sc, xp_P3 sc, xp_P4 sc, xp_P5 sc, xp_P6 sc, xp_P7 sc, xp_P8 sc, xp_P9 sc, xp_P10 sc, xp_P11 sc]
def xp_Fl : List (List xk_F) := [xp_F0, xp_F1, xp_F2, xp_F3, xp_F4, xp_F5, xp_F6, xp_F7, xp_F8, xp_F9, xp_F10, xp_F11]
def xp_P (sc : Nat × (Nat → Int32)) (k : Nat) : xk_M := ((xp_Pl sc).getD (k / 16) []).getD (k % 16) ([], 0, none, [], none)
def xp_F (k : Nat) : xk_F := (xp_Fl.getD (k / 16) []).getD (k % 16) (⟨"ExtentShelf", "", ""⟩, ⟨#[]⟩, none, [], 0, 0, [])
end XkTables
end
section
/-! What the interpreter answers, by what is asked of the answer. -/
section XkPo
variable {P : Nat → xk_M} {k i i1 j : Nat} {L L1 st st1 : List Value} {w w1 : xk_W} {mi : Instr} {Φ : xk_R → Prop}
def xk_Po (P : Nat → xk_M) (k i : Nat) (L st : List Value) (w : xk_W) (Φ : xk_R → Prop) : Prop := ∃ r, xk_Ev P k i L st w r ∧ Φ r
theorem xk_Ev.of {q : xk_R} (h : xk_Po P k i L st w (fun r => r = q)) : xk_Ev P k i L st w q := by
  obtain ⟨r, h1, rfl⟩ := h
  exact h1
theorem xk_Po.go (N : Nat) (h : xk_go P k N (i, L, st, w) = some (i1, L1, st1, w1)) (hk : xk_Po P k i1 L1 st1 w1 Φ) : xk_Po P k i L st w Φ := by
  obtain ⟨r, h1, h2⟩ := hk
  exact ⟨r, xk_Ev.go N h h1, h2⟩
theorem xk_Po.br {b : Prop} [Decidable b] {i2 : Nat} {L2 st2 : List Value} {w2 : xk_W} (h : (P k).1[i]? = some mi) (hs : xk_step (P k).2.2.2.2 mi i L st w = if b then some (i1, L1, st1, w1) else some (i2, L2, st2, w2)) (ht : b → xk_Po P k i1 L1 st1 w1 Φ) (hf : ¬ b → xk_Po P k i2 L2 st2 w2 Φ) : xk_Po P k i L st w Φ := by
  by_cases hb : b
  · obtain ⟨r, h1, h2⟩ := ht hb
    rw [if_pos hb] at hs
    exact ⟨r, xk_Ev.step h hs h1, h2⟩
  · obtain ⟨r, h1, h2⟩ := hf hb
    rw [if_neg hb] at hs
    exact ⟨r, xk_Ev.step h hs h1, h2⟩
theorem xk_Po.ok {b : Prop} [Decidable b] (h : (P k).1[i]? = some mi) (hs : xk_step (P k).2.2.2.2 mi i L st w = if b then some (i1, L1, st1, w1) else none) (hb : b) (hk : xk_Po P k i1 L1 st1 w1 Φ) : xk_Po P k i L st w Φ := by
  obtain ⟨r, h1, h2⟩ := hk
  exact ⟨r, xk_Ev.ok hb h hs h1, h2⟩
theorem xk_Po.no {b : Prop} [Decidable b] (h : (P k).1[i]? = some mi) (hs : xk_step (P k).2.2.2.2 mi i L st w = if b then none else some (i1, L1, st1, w1)) (hb : ¬ b) (hk : xk_Po P k i1 L1 st1 w1 Φ) : xk_Po P k i L st w Φ := by
  obtain ⟨r, h1, h2⟩ := hk
  exact ⟨r, xk_Ev.no hb h hs h1, h2⟩
theorem xk_Po.ret (h : (P k).1[i]? = some .return_) (hq : Φ (.inl none, 0, w)) : xk_Po P k i L [] w Φ := ⟨_, xk_Ev.ret h, hq⟩
theorem xk_Po.iret {x : Int32} (h : (P k).1[i]? = some .ireturn) (hq : Φ (.inl (some (.int x)), 0, w)) : xk_Po P k i L [.int x] w Φ := ⟨_, xk_Ev.iret h, hq⟩
theorem xk_Po.zret {x : Int32} (h : (P k).1[i]? = some .freturn) (hx : x = 0 ∨ x = 1) (hq : Φ (.inl (some (.int x)), 0, w)) : xk_Po P k i L [.int x] w Φ := ⟨_, xk_Ev.zret h hx, hq⟩
theorem xk_Po.thr {x : Nat} (h : (P k).1[i]? = some (.new x)) (hq : Φ (.inr x, 1, w)) : xk_Po P k i L [] w Φ := ⟨_, xk_Ev.thr h, hq⟩
/-- further on with what is known already -/
theorem xk_Po.ev {q : xk_R} (h : xk_Ev P k i L st w q) (hq : Φ q) : xk_Po P k i L st w Φ := ⟨q, h, hq⟩
theorem xk_Po.mono {Ψ : xk_R → Prop} (h : xk_Po P k i L st w Ψ) (hq : ∀ r, Ψ r → Φ r) : xk_Po P k i L st w Φ := by
  obtain ⟨r, h1, h2⟩ := h
  exact ⟨r, h1, hq r h2⟩
theorem xk_Po.cv0 {r0 : List Value} (h : (P k).1[i]? = some (.invokeinterface j 0)) (hf : xk_fit P j 0 (r0) w = true) (hc : xk_Ev P j 0 (List.replicate ((P j).2.1 - 0) (.retAddr 0)) [] w (.inl (none), 0, w1)) (hk : xk_Po P k (i + 1) L (r0) w1 Φ) : xk_Po P k i L (r0) w Φ := by
  obtain ⟨q, h1, h2⟩ := hk
  exact ⟨q, xk_Ev.cv0 h hf hc h1, h2⟩
theorem xk_Po.ci0 {x : Value} {r0 : List Value} (h : (P k).1[i]? = some (.invokeinterface j 0)) (hf : xk_fit P j 0 (r0) w = true) (hc : xk_Ev P j 0 (List.replicate ((P j).2.1 - 0) (.retAddr 0)) [] w (.inl (some x), 0, w1)) (hk : xk_Po P k (i + 1) L (x :: r0) w1 Φ) : xk_Po P k i L (r0) w Φ := by
  obtain ⟨q, h1, h2⟩ := hk
  exact ⟨q, xk_Ev.ci0 h hf hc h1, h2⟩
theorem xk_Po.ct0 {r0 : List Value} {x dd : Nat} (h : (P k).1[i]? = some (.invokeinterface j 0)) (hf : xk_fit P j 0 (r0) w = true) (hc : xk_Ev P j 0 (List.replicate ((P j).2.1 - 0) (.retAddr 0)) [] w (.inr x, dd, w1)) (hh : (P k).2.2.2.1.isEmpty = true) (hq : Φ (.inr x, dd, w1)) : xk_Po P k i L (r0) w Φ := ⟨_, xk_Ev.ct0 h hf hc hh, hq⟩
theorem xk_Po.cv1 {a : Value} {r0 : List Value} (h : (P k).1[i]? = some (.invokeinterface j 1)) (hf : xk_fit P j 1 (a :: r0) w = true) (hc : xk_Ev P j 0 (a :: List.replicate ((P j).2.1 - 1) (.retAddr 0)) [] w (.inl (none), 0, w1)) (hk : xk_Po P k (i + 1) L (r0) w1 Φ) : xk_Po P k i L (a :: r0) w Φ := by
  obtain ⟨q, h1, h2⟩ := hk
  exact ⟨q, xk_Ev.cv1 h hf hc h1, h2⟩
theorem xk_Po.ci1 {a : Value} {x : Value} {r0 : List Value} (h : (P k).1[i]? = some (.invokeinterface j 1)) (hf : xk_fit P j 1 (a :: r0) w = true) (hc : xk_Ev P j 0 (a :: List.replicate ((P j).2.1 - 1) (.retAddr 0)) [] w (.inl (some x), 0, w1)) (hk : xk_Po P k (i + 1) L (x :: r0) w1 Φ) : xk_Po P k i L (a :: r0) w Φ := by
  obtain ⟨q, h1, h2⟩ := hk
  exact ⟨q, xk_Ev.ci1 h hf hc h1, h2⟩
theorem xk_Po.ct1 {a : Value} {r0 : List Value} {x dd : Nat} (h : (P k).1[i]? = some (.invokeinterface j 1)) (hf : xk_fit P j 1 (a :: r0) w = true) (hc : xk_Ev P j 0 (a :: List.replicate ((P j).2.1 - 1) (.retAddr 0)) [] w (.inr x, dd, w1)) (hh : (P k).2.2.2.1.isEmpty = true) (hq : Φ (.inr x, dd, w1)) : xk_Po P k i L (a :: r0) w Φ := ⟨_, xk_Ev.ct1 h hf hc hh, hq⟩
theorem xk_Po.cv2 {a b : Value} {r0 : List Value} (h : (P k).1[i]? = some (.invokeinterface j 2)) (hf : xk_fit P j 2 (b :: a :: r0) w = true) (hc : xk_Ev P j 0 (a :: b :: List.replicate ((P j).2.1 - 2) (.retAddr 0)) [] w (.inl (none), 0, w1)) (hk : xk_Po P k (i + 1) L (r0) w1 Φ) : xk_Po P k i L (b :: a :: r0) w Φ := by
  obtain ⟨q, h1, h2⟩ := hk
  exact ⟨q, xk_Ev.cv2 h hf hc h1, h2⟩
theorem xk_Po.ci2 {a b : Value} {x : Value} {r0 : List Value} (h : (P k).1[i]? = some (.invokeinterface j 2)) (hf : xk_fit P j 2 (b :: a :: r0) w = true) (hc : xk_Ev P j 0 (a :: b :: List.replicate ((P j).2.1 - 2) (.retAddr 0)) [] w (.inl (some x), 0, w1)) (hk : xk_Po P k (i + 1) L (x :: r0) w1 Φ) : xk_Po P k i L (b :: a :: r0) w Φ := by
  obtain ⟨q, h1, h2⟩ := hk
  exact ⟨q, xk_Ev.ci2 h hf hc h1, h2⟩
theorem xk_Po.ct2 {a b : Value} {r0 : List Value} {x dd : Nat} (h : (P k).1[i]? = some (.invokeinterface j 2)) (hf : xk_fit P j 2 (b :: a :: r0) w = true) (hc : xk_Ev P j 0 (a :: b :: List.replicate ((P j).2.1 - 2) (.retAddr 0)) [] w (.inr x, dd, w1)) (hh : (P k).2.2.2.1.isEmpty = true) (hq : Φ (.inr x, dd, w1)) : xk_Po P k i L (b :: a :: r0) w Φ := ⟨_, xk_Ev.ct2 h hf hc hh, hq⟩
theorem xk_Po.cv3 {a b c : Value} {r0 : List Value} (h : (P k).1[i]? = some (.invokeinterface j 3)) (hf : xk_fit P j 3 (c :: b :: a :: r0) w = true) (hc : xk_Ev P j 0 (a :: b :: c :: List.replicate ((P j).2.1 - 3) (.retAddr 0)) [] w (.inl (none), 0, w1)) (hk : xk_Po P k (i + 1) L (r0) w1 Φ) : xk_Po P k i L (c :: b :: a :: r0) w Φ := by
  obtain ⟨q, h1, h2⟩ := hk
  exact ⟨q, xk_Ev.cv3 h hf hc h1, h2⟩
theorem xk_Po.ci3 {a b c : Value} {x : Value} {r0 : List Value} (h : (P k).1[i]? = some (.invokeinterface j 3)) (hf : xk_fit P j 3 (c :: b :: a :: r0) w = true) (hc : xk_Ev P j 0 (a :: b :: c :: List.replicate ((P j).2.1 - 3) (.retAddr 0)) [] w (.inl (some x), 0, w1)) (hk : xk_Po P k (i + 1) L (x :: r0) w1 Φ) : xk_Po P k i L (c :: b :: a :: r0) w Φ := by
  obtain ⟨q, h1, h2⟩ := hk
  exact ⟨q, xk_Ev.ci3 h hf hc h1, h2⟩
theorem xk_Po.ct3 {a b c : Value} {r0 : List Value} {x dd : Nat} (h : (P k).1[i]? = some (.invokeinterface j 3)) (hf : xk_fit P j 3 (c :: b :: a :: r0) w = true) (hc : xk_Ev P j 0 (a :: b :: c :: List.replicate ((P j).2.1 - 3) (.retAddr 0)) [] w (.inr x, dd, w1)) (hh : (P k).2.2.2.1.isEmpty = true) (hq : Φ (.inr x, dd, w1)) : xk_Po P k i L (c :: b :: a :: r0) w Φ := ⟨_, xk_Ev.ct3 h hf hc hh, hq⟩
theorem xk_Po.cv4 {a b c d : Value} {r0 : List Value} (h : (P k).1[i]? = some (.invokeinterface j 4)) (hf : xk_fit P j 4 (d :: c :: b :: a :: r0) w = true) (hc : xk_Ev P j 0 (a :: b :: c :: d :: List.replicate ((P j).2.1 - 4) (.retAddr 0)) [] w (.inl (none), 0, w1)) (hk : xk_Po P k (i + 1) L (r0) w1 Φ) : xk_Po P k i L (d :: c :: b :: a :: r0) w Φ := by
  obtain ⟨q, h1, h2⟩ := hk
  exact ⟨q, xk_Ev.cv4 h hf hc h1, h2⟩
theorem xk_Po.ci4 {a b c d : Value} {x : Value} {r0 : List Value} (h : (P k).1[i]? = some (.invokeinterface j 4)) (hf : xk_fit P j 4 (d :: c :: b :: a :: r0) w = true) (hc : xk_Ev P j 0 (a :: b :: c :: d :: List.replicate ((P j).2.1 - 4) (.retAddr 0)) [] w (.inl (some x), 0, w1)) (hk : xk_Po P k (i + 1) L (x :: r0) w1 Φ) : xk_Po P k i L (d :: c :: b :: a :: r0) w Φ := by
  obtain ⟨q, h1, h2⟩ := hk
  exact ⟨q, xk_Ev.ci4 h hf hc h1, h2⟩
theorem xk_Po.ct4 {a b c d : Value} {r0 : List Value} {x dd : Nat} (h : (P k).1[i]? = some (.invokeinterface j 4)) (hf : xk_fit P j 4 (d :: c :: b :: a :: r0) w = true) (hc : xk_Ev P j 0 (a :: b :: c :: d :: List.replicate ((P j).2.1 - 4) (.retAddr 0)) [] w (.inr x, dd, w1)) (hh : (P k).2.2.2.1.isEmpty = true) (hq : Φ (.inr x, dd, w1)) : xk_Po P k i L (d :: c :: b :: a :: r0) w Φ := ⟨_, xk_Ev.ct4 h hf hc hh, hq⟩
theorem xk_Po.cv5 {a b c d e : Value} {r0 : List Value} (h : (P k).1[i]? = some (.invokeinterface j 5)) (hf : xk_fit P j 5 (e :: d :: c :: b :: a :: r0) w = true) (hc : xk_Ev P j 0 (a :: b :: c :: d :: e :: List.replicate ((P j).2.1 - 5) (.retAddr 0)) [] w (.inl (none), 0, w1)) (hk : xk_Po P k (i + 1) L (r0) w1 Φ) : xk_Po P k i L (e :: d :: c :: b :: a :: r0) w Φ := by
  obtain ⟨q, h1, h2⟩ := hk
  exact ⟨q, xk_Ev.cv5 h hf hc h1, h2⟩
theorem xk_Po.ci5 {a b c d e : Value} {x : Value} {r0 : List Value} (h : (P k).1[i]? = some (.invokeinterface j 5)) (hf : xk_fit P j 5 (e :: d :: c :: b :: a :: r0) w = true) (hc : xk_Ev P j 0 (a :: b :: c :: d :: e :: List.replicate ((P j).2.1 - 5) (.retAddr 0)) [] w (.inl (some x), 0, w1)) (hk : xk_Po P k (i + 1) L (x :: r0) w1 Φ) : xk_Po P k i L (e :: d :: c :: b :: a :: r0) w Φ := by
  obtain ⟨q, h1, h2⟩ := hk
  exact ⟨q, xk_Ev.ci5 h hf hc h1, h2⟩
theorem xk_Po.ct5 {a b c d e : Value} {r0 : List Value} {x dd : Nat} (h : (P k).1[i]? = some (.invokeinterface j 5)) (hf : xk_fit P j 5 (e :: d :: c :: b :: a :: r0) w = true) (hc : xk_Ev P j 0 (a :: b :: c :: d :: e :: List.replicate ((P j).2.1 - 5) (.retAddr 0)) [] w (.inr x, dd, w1)) (hh : (P k).2.2.2.1.isEmpty = true) (hq : Φ (.inr x, dd, w1)) : xk_Po P k i L (e :: d :: c :: b :: a :: r0) w Φ := ⟨_, xk_Ev.ct5 h hf hc hh, hq⟩
end XkPo
end
section
/-! Small numbers, and the loops over them. -/
section XkNum
theorem xn_int {j : Nat} (h : j < 2147483648) : (Int32.ofNat j).toInt = j := by
  rw [Int32.toInt_ofNat_of_lt (by simpa using h)]
theorem xn_nat {j : Nat} (h : j < 2147483648) : (Int32.ofNat j).toNatClampNeg = j := by
  show (Int32.ofNat j).toInt.toNat = j
  rw [xn_int h]
  rfl
theorem xn_add (a b : Nat) : Int32.ofNat a + Int32.ofNat b = Int32.ofNat (a + b) := (Int32.ofNat_add a b).symm
theorem xn_lt {a b : Nat} (ha : a < 2147483648) (hb : b < 2147483648) : Int32.ofNat a < Int32.ofNat b ↔ a < b := by
  rw [Int32.lt_iff_toInt_lt, xn_int ha, xn_int hb]
  omega
theorem xn_le {a b : Nat} (ha : a < 2147483648) (hb : b < 2147483648) : Int32.ofNat a ≤ Int32.ofNat b ↔ a ≤ b := by
  rw [Int32.le_iff_toInt_le, xn_int ha, xn_int hb]
  omega
theorem xn_ix {j n : Nat} (h : j < n) (hn : n < 2147483648) : xk_ix (Int32.ofNat j) n = true := by
  have h0 : (0 : Int32) ≤ Int32.ofNat j := (xn_le (a := 0) (by omega) (by omega)).2 (by omega)
  simp only [xk_ix, xn_nat (show j < 2147483648 by omega), h0, h, decide_true, Bool.and_self]
theorem xn_ixa {a j n : Nat} (h : a + j < n) (hn : n < 2147483648) : xk_ix (Int32.ofNat a + Int32.ofNat j) n = true := by
  rw [xn_add]
  exact xn_ix h hn
theorem xn_nata {a j : Nat} (h : a + j < 2147483648) : (Int32.ofNat a + Int32.ofNat j).toNatClampNeg = a + j := by
  rw [xn_add]
  exact xn_nat h
theorem xn_suc (j : Nat) : Int32.ofNat j + Int32.ofInt 1 = Int32.ofNat (j + 1) := xn_add j 1
theorem xn_mul (a b : Nat) : Int32.ofNat a * Int32.ofNat b = Int32.ofNat (a * b) := (Int32.ofNat_mul a b).symm
/-- a truth as a number -/
def s_b (p : Prop) [Decidable p] : Int32 := if p then 1 else 0
theorem xn_bt {p : Prop} [Decidable p] (h : p) : s_b p = 1 := if_pos h
theorem xn_bf {p : Prop} [Decidable p] (h : ¬ p) : s_b p = 0 := if_neg h
theorem xn_b0 {p : Prop} [Decidable p] (h : s_b p = 0) : ¬ p := fun hp => by
  rw [xn_bt hp] at h
  exact absurd h (by decide)
theorem xn_b1 {p : Prop} [Decidable p] (h : ¬ s_b p = 0) : p := Decidable.byContradiction (fun hp => h (xn_bf hp))
/-- how many -/
def s_cnt (p : Nat → Prop) [DecidablePred p] : Nat → Int32
  | 0 => 0
  | n + 1 => if p n then s_cnt p n + 1 else s_cnt p n
/-- the least, or -1 -/
def s_least (p : Nat → Prop) [DecidablePred p] : Nat → Nat → Int32
  | 0, _ => -1
  | m + 1, j => if p j then Int32.ofNat j else s_least p m (j + 1)
def s_any (p : Nat → Prop) [DecidablePred p] : Nat → Nat → Int32
  | 0, _ => 0
  | m + 1, j => if p j then 1 else s_any p m (j + 1)
def s_disk (x : Int32) : Int32 := if x = -1 then -1 else x / 8
def s_sum (f : Nat → Int32) (at_ : Nat) : Nat → Int32
  | 0 => 0
  | n + 1 => s_sum f at_ n + f (at_ + n) * (Int32.ofNat n + 1)
/-- words set to nothing -/
def s_clr (f : Nat → Int32) (p : Nat → Prop) [DecidablePred p] (a : Nat) : Nat → Nat → Int32
  | 0 => f
  | n + 1 => if p n then upd (s_clr f p a n) (a + n) 0 else s_clr f p a n
theorem s_clr_at (f : Nat → Int32) (p : Nat → Prop) [DecidablePred p] (a i : Nat) : ∀ n, n ≤ i → s_clr f p a n (a + i) = f (a + i)
  | 0, _ => rfl
  | n + 1, h => by
    have ih := s_clr_at f p a i n (by omega)
    unfold s_clr
    split
    · unfold upd
      rw [if_neg (by omega)]
      exact ih
    · exact ih
theorem xk_Po.loop {P : Nat → xk_M} {k i : Nat} (N : Nat) (L : Nat → List Value) (w : Nat → xk_W) (Φ : Nat → Nat → xk_R → Prop) (hs : ∀ m j, j + (m + 1) = N → xk_Po P k i (L (j + 1)) [] (w (j + 1)) (Φ m (j + 1)) → xk_Po P k i (L j) [] (w j) (Φ (m + 1) j)) (he : xk_Po P k i (L N) [] (w N) (Φ 0 N)) : xk_Po P k i (L 0) [] (w 0) (Φ N 0) := by
  have h : ∀ m j, j + m = N → xk_Po P k i (L j) [] (w j) (Φ m j) := by
    intro m
    induction m with
    | zero =>
      intro j hj
      have e : j = N := by omega
      rw [e]
      exact he
    | succ m ih =>
      intro j hj
      exact hs m j hj (ih (j + 1) (by omega))
  exact h N 0 (by omega)
theorem xk_Po.loopJ {P : Nat → xk_M} {k i : Nat} (N : Nat) (L : Nat → Value → Value → List Value) (w : Nat → xk_W) (Φ : Nat → Nat → xk_R → Prop) (hs : ∀ m j x y, j + (m + 1) = N → (∀ x y, xk_Po P k i (L (j + 1) x y) [] (w (j + 1)) (Φ m (j + 1))) → xk_Po P k i (L j x y) [] (w j) (Φ (m + 1) j)) (he : ∀ x y, xk_Po P k i (L N x y) [] (w N) (Φ 0 N)) (x y : Value) : xk_Po P k i (L 0 x y) [] (w 0) (Φ N 0) := by
  have h : ∀ m j, j + m = N → ∀ x y, xk_Po P k i (L j x y) [] (w j) (Φ m j) := by
    intro m
    induction m with
    | zero =>
      intro j hj x y
      have e : j = N := by omega
      rw [e]
      exact he x y
    | succ m ih =>
      intro j hj x y
      exact hs m j x y hj (ih (j + 1) (by omega))
  exact h N 0 (by omega) x y
theorem xn_of {g : Int32} {n : Nat} (h : ¬ g < 0) (h2 : ¬ Int32.ofNat n ≤ g) (hn : n < 2147483648) : ∃ j, j < n ∧ g = Int32.ofNat j := by
  have e0 : 0 ≤ g.toInt := by
    rw [Int32.lt_iff_toInt_lt] at h
    simpa using h
  have e1 : g.toInt < n := by
    rw [Int32.le_iff_toInt_le, xn_int hn] at h2
    omega
  refine ⟨g.toInt.toNat, by omega, ?_⟩
  apply Int32.toInt_inj.1
  rw [xn_int (by omega)]
  omega
end XkNum
end
section
/-! The class's small methods. World places: 0 shelf, 1 disks, 2 slots, 3 extents, 4 absent, 5 table, 6 its words, 7 draft, 8 its words, 9 move. -/
section XkCls
def cw (sl ex ab ta dr : Nat → Int32) (md ml mt mc on ct : Int32) (r : xk_W) : xk_W :=
  .inr (3, [.ref 1, .ref 5, .ref 7, .ref 9, .int on, .int ct]) :: .inr (0, [.ref 2, .ref 3, .ref 4]) :: .inl (0, 408, .inl sl) :: .inl (0, 128, .inl ex) :: .inl (1, 4, .inl ab) :: .inr (2, [.ref 6]) :: .inl (0, 51, .inl ta) :: .inr (2, [.ref 8]) :: .inl (0, 51, .inl dr) :: .inr (1, [.int md, .int ml, .int mt, .int mc]) :: r
variable {sc : Nat × (Nat → Int32)} {sl ex ab ta dr : Nat → Int32} {md ml mt mc on ct : Int32} {r w : xk_W}
theorem c_serial  : xk_Ev (xp_P sc) 21 0 [.ref 5] [] (cw sl ex ab ta dr md ml mt mc on ct r) (.inl (some (.int (ta 0))), 0, cw sl ex ab ta dr md ml mt mc on ct r) := by
  apply xk_Ev.of
  refine xk_Po.go 4 rfl ?_
  exact xk_Po.iret rfl rfl
theorem c_extentsOf {g : Int32} (h : xk_ix (1 + g) 51 = true) : xk_Ev (xp_P sc) 23 0 [.ref 5, .int g] [] (cw sl ex ab ta dr md ml mt mc on ct r) (.inl (some (.int (ta (1 + g).toNatClampNeg))), 0, cw sl ex ab ta dr md ml mt mc on ct r) := by
  apply xk_Ev.of
  refine xk_Po.go 5 rfl ?_
  refine xk_Po.ok rfl rfl (by assumption) ?_ -- .iaload
  exact xk_Po.iret rfl rfl
theorem c_setExtents {g x : Int32} (h : xk_ix (1 + g) 51 = true) : xk_Ev (xp_P sc) 24 0 [.ref 5, .int g, .int x] [] (cw sl ex ab ta dr md ml mt mc on ct r) (.inl none, 0, cw sl ex ab (upd ta (1 + g).toNatClampNeg x) dr md ml mt mc on ct r) := by
  apply xk_Ev.of
  refine xk_Po.go 6 rfl ?_
  refine xk_Po.ok rfl rfl (by assumption) ?_ -- .iastore
  exact xk_Po.ret rfl rfl
theorem c_spotOf {g : Int32} (h : xk_ix (9 + g) 51 = true) : xk_Ev (xp_P sc) 34 0 [.ref 5, .int g] [] (cw sl ex ab ta dr md ml mt mc on ct r) (.inl (some (.int (ta (9 + g).toNatClampNeg - 1))), 0, cw sl ex ab ta dr md ml mt mc on ct r) := by
  apply xk_Ev.of
  refine xk_Po.go 5 rfl ?_
  refine xk_Po.ok rfl rfl (by assumption) ?_ -- .iaload
  refine xk_Po.go 2 rfl ?_
  exact xk_Po.iret rfl rfl
theorem c_setSpot {g x : Int32} (h : xk_ix (9 + g) 51 = true) : xk_Ev (xp_P sc) 35 0 [.ref 5, .int g, .int x] [] (cw sl ex ab ta dr md ml mt mc on ct r) (.inl none, 0, cw sl ex ab (upd ta (9 + g).toNatClampNeg (x + 1)) dr md ml mt mc on ct r) := by
  apply xk_Ev.of
  refine xk_Po.go 8 rfl ?_
  refine xk_Po.ok rfl rfl (by assumption) ?_ -- .iastore
  exact xk_Po.ret rfl rfl
theorem c_elementsOf {g : Int32} (h : xk_ix (5 + g) 51 = true) : xk_Ev (xp_P sc) 31 0 [.ref 5, .int g] [] (cw sl ex ab ta dr md ml mt mc on ct r) (.inl (some (.int (ta (5 + g).toNatClampNeg / 32))), 0, cw sl ex ab ta dr md ml mt mc on ct r) := by
  apply xk_Ev.of
  refine xk_Po.go 5 rfl ?_
  refine xk_Po.ok rfl rfl (by assumption) ?_ -- .iaload
  refine xk_Po.go 2 rfl ?_
  exact xk_Po.iret rfl rfl
theorem c_kindOf {g : Int32} (h : xk_ix (5 + g) 51 = true) : xk_Ev (xp_P sc) 29 0 [.ref 5, .int g] [] (cw sl ex ab ta dr md ml mt mc on ct r) (.inl (some (.int (ta (5 + g).toNatClampNeg % 4 - 1))), 0, cw sl ex ab ta dr md ml mt mc on ct r) := by
  apply xk_Ev.of
  refine xk_Po.go 5 rfl ?_
  refine xk_Po.ok rfl rfl (by assumption) ?_ -- .iaload
  refine xk_Po.go 4 rfl ?_
  exact xk_Po.iret rfl rfl
theorem d_serial  : xk_Ev (xp_P sc) 21 0 [.ref 7] [] (cw sl ex ab ta dr md ml mt mc on ct r) (.inl (some (.int (dr 0))), 0, cw sl ex ab ta dr md ml mt mc on ct r) := by
  apply xk_Ev.of
  refine xk_Po.go 4 rfl ?_
  exact xk_Po.iret rfl rfl
theorem d_extentsOf {g : Int32} (h : xk_ix (1 + g) 51 = true) : xk_Ev (xp_P sc) 23 0 [.ref 7, .int g] [] (cw sl ex ab ta dr md ml mt mc on ct r) (.inl (some (.int (dr (1 + g).toNatClampNeg))), 0, cw sl ex ab ta dr md ml mt mc on ct r) := by
  apply xk_Ev.of
  refine xk_Po.go 5 rfl ?_
  refine xk_Po.ok rfl rfl (by assumption) ?_ -- .iaload
  exact xk_Po.iret rfl rfl
theorem d_setExtents {g x : Int32} (h : xk_ix (1 + g) 51 = true) : xk_Ev (xp_P sc) 24 0 [.ref 7, .int g, .int x] [] (cw sl ex ab ta dr md ml mt mc on ct r) (.inl none, 0, cw sl ex ab ta (upd dr (1 + g).toNatClampNeg x) md ml mt mc on ct r) := by
  apply xk_Ev.of
  refine xk_Po.go 6 rfl ?_
  refine xk_Po.ok rfl rfl (by assumption) ?_ -- .iastore
  exact xk_Po.ret rfl rfl
theorem d_spotOf {g : Int32} (h : xk_ix (9 + g) 51 = true) : xk_Ev (xp_P sc) 34 0 [.ref 7, .int g] [] (cw sl ex ab ta dr md ml mt mc on ct r) (.inl (some (.int (dr (9 + g).toNatClampNeg - 1))), 0, cw sl ex ab ta dr md ml mt mc on ct r) := by
  apply xk_Ev.of
  refine xk_Po.go 5 rfl ?_
  refine xk_Po.ok rfl rfl (by assumption) ?_ -- .iaload
  refine xk_Po.go 2 rfl ?_
  exact xk_Po.iret rfl rfl
theorem d_setSpot {g x : Int32} (h : xk_ix (9 + g) 51 = true) : xk_Ev (xp_P sc) 35 0 [.ref 7, .int g, .int x] [] (cw sl ex ab ta dr md ml mt mc on ct r) (.inl none, 0, cw sl ex ab ta (upd dr (9 + g).toNatClampNeg (x + 1)) md ml mt mc on ct r) := by
  apply xk_Ev.of
  refine xk_Po.go 8 rfl ?_
  refine xk_Po.ok rfl rfl (by assumption) ?_ -- .iastore
  exact xk_Po.ret rfl rfl
theorem d_elementsOf {g : Int32} (h : xk_ix (5 + g) 51 = true) : xk_Ev (xp_P sc) 31 0 [.ref 7, .int g] [] (cw sl ex ab ta dr md ml mt mc on ct r) (.inl (some (.int (dr (5 + g).toNatClampNeg / 32))), 0, cw sl ex ab ta dr md ml mt mc on ct r) := by
  apply xk_Ev.of
  refine xk_Po.go 5 rfl ?_
  refine xk_Po.ok rfl rfl (by assumption) ?_ -- .iaload
  refine xk_Po.go 2 rfl ?_
  exact xk_Po.iret rfl rfl
theorem d_kindOf {g : Int32} (h : xk_ix (5 + g) 51 = true) : xk_Ev (xp_P sc) 29 0 [.ref 7, .int g] [] (cw sl ex ab ta dr md ml mt mc on ct r) (.inl (some (.int (dr (5 + g).toNatClampNeg % 4 - 1))), 0, cw sl ex ab ta dr md ml mt mc on ct r) := by
  apply xk_Ev.of
  refine xk_Po.go 5 rfl ?_
  refine xk_Po.ok rfl rfl (by assumption) ?_ -- .iaload
  refine xk_Po.go 4 rfl ?_
  exact xk_Po.iret rfl rfl
theorem c_diskOf {g : Int32} : xk_Ev (xp_P sc) 75 0 [.int g] [] (w) (.inl (some (.int (s_disk g))), 0, w) := by
  apply xk_Ev.of
  refine xk_Po.go 2 rfl ?_
  refine xk_Po.br rfl rfl (fun h0 => ?_) (fun h0 => ?_) -- .if_icmp .ne 5
  · refine xk_Po.go 2 rfl ?_
    exact xk_Po.iret rfl (by first | exact congrArg (fun z => ((Sum.inl (some (Value.int z)), 0, w) : xk_R)) (if_pos h0).symm | exact congrArg (fun z => ((Sum.inl (some (Value.int z)), 0, w) : xk_R)) (if_neg h0).symm)
  · refine xk_Po.go 3 rfl ?_
    exact xk_Po.iret rfl (by first | exact congrArg (fun z => ((Sum.inl (some (Value.int z)), 0, w) : xk_R)) (if_pos h0).symm | exact congrArg (fun z => ((Sum.inl (some (Value.int z)), 0, w) : xk_R)) (if_neg h0).symm)
theorem c_legOf {a b c : Int32} : xk_Ev (xp_P sc) 74 0 [.int a, .int b, .int c] [] (w) (.inl (some (.int (a * 10 + b * 2 + c))), 0, w) := by
  apply xk_Ev.of
  refine xk_Po.go 9 rfl ?_
  exact xk_Po.iret rfl rfl
theorem c_startOfSlot {a b : Int32} : xk_Ev (xp_P sc) 2 0 [.int a, .int b] [] (w) (.inl (some (.int ((a * 2 + b) * 51))), 0, w) := by
  apply xk_Ev.of
  refine xk_Po.go 7 rfl ?_
  exact xk_Po.iret rfl rfl
theorem c_begin {g : Int32} : xk_Ev (xp_P sc) 12 0 [.ref 9, .int g] [] (cw sl ex ab ta dr md ml mt mc on ct r) (.inl none, 0, cw sl ex ab ta dr g ml mt mc on ct r) := by
  apply xk_Ev.of
  refine xk_Po.go 3 rfl ?_
  exact xk_Po.ret rfl rfl
theorem c_end  : xk_Ev (xp_P sc) 13 0 [.ref 9] [] (cw sl ex ab ta dr md ml mt mc on ct r) (.inl none, 0, cw sl ex ab ta dr (-1) (-1) (-1) mc on ct r) := by
  apply xk_Ev.of
  refine xk_Po.go 9 rfl ?_
  exact xk_Po.ret rfl rfl
theorem c_endCopy  : xk_Ev (xp_P sc) 15 0 [.ref 9] [] (cw sl ex ab ta dr md ml mt mc on ct r) (.inl none, 0, cw sl ex ab ta dr md (-1) (-1) mc on ct r) := by
  apply xk_Ev.of
  refine xk_Po.go 6 rfl ?_
  exact xk_Po.ret rfl rfl
theorem c_beginCopy {g x : Int32} : xk_Ev (xp_P sc) 14 0 [.ref 9, .int g, .int x] [] (cw sl ex ab ta dr md ml mt mc on ct r) (.inl none, 0, cw sl ex ab ta dr md g x 0 on ct r) := by
  apply xk_Ev.of
  refine xk_Po.go 9 rfl ?_
  exact xk_Po.ret rfl rfl
theorem c_losePower  : xk_Ev (xp_P sc) 81 0 [.ref 0] [] (cw sl ex ab ta dr md ml mt mc on ct r) (.inl none, 0, cw sl ex ab ta dr (-1) (-1) (-1) mc 0 (-1) r) := by
  apply xk_Ev.of
  refine xk_Po.go 8 rfl ?_
  refine xk_Po.cv1 rfl rfl (c_end) ?_
  exact xk_Po.ret rfl rfl
end XkCls
end
section
/-! The table's methods at small numbers, and its loops. -/
section XkTab
variable {sc : Nat × (Nat → Int32)} {sl ex ab ta dr : Nat → Int32} {md ml mt mc on ct : Int32} {r w : xk_W}
theorem c_extentsOfN {j : Nat} (hj : j < 4) : xk_Ev (xp_P sc) 23 0 [.ref 5, .int (Int32.ofNat j)] [] (cw sl ex ab ta dr md ml mt mc on ct r) (.inl (some (.int (ta (1 + j)))), 0, cw sl ex ab ta dr md ml mt mc on ct r) := by
  have h := c_extentsOf (sc := sc) (sl := sl) (ex := ex) (ab := ab) (ta := ta) (dr := dr) (md := md) (ml := ml) (mt := mt) (mc := mc) (on := on) (ct := ct) (r := r) (g := Int32.ofNat j) (xn_ixa (a := 1) (j := j) (n := 51) (by omega) (by omega))
  rw [show (1 + Int32.ofNat j).toNatClampNeg = 1 + j from xn_nata (a := 1) (j := j) (by omega)] at h
  exact h
theorem c_spotOfN {j : Nat} (hj : j < 40) : xk_Ev (xp_P sc) 34 0 [.ref 5, .int (Int32.ofNat j)] [] (cw sl ex ab ta dr md ml mt mc on ct r) (.inl (some (.int (ta (9 + j) - 1))), 0, cw sl ex ab ta dr md ml mt mc on ct r) := by
  have h := c_spotOf (sc := sc) (sl := sl) (ex := ex) (ab := ab) (ta := ta) (dr := dr) (md := md) (ml := ml) (mt := mt) (mc := mc) (on := on) (ct := ct) (r := r) (g := Int32.ofNat j) (xn_ixa (a := 9) (j := j) (n := 51) (by omega) (by omega))
  rw [show (9 + Int32.ofNat j).toNatClampNeg = 9 + j from xn_nata (a := 9) (j := j) (by omega)] at h
  exact h
theorem c_elementsOfN {j : Nat} (hj : j < 4) : xk_Ev (xp_P sc) 31 0 [.ref 5, .int (Int32.ofNat j)] [] (cw sl ex ab ta dr md ml mt mc on ct r) (.inl (some (.int (ta (5 + j) / 32))), 0, cw sl ex ab ta dr md ml mt mc on ct r) := by
  have h := c_elementsOf (sc := sc) (sl := sl) (ex := ex) (ab := ab) (ta := ta) (dr := dr) (md := md) (ml := ml) (mt := mt) (mc := mc) (on := on) (ct := ct) (r := r) (g := Int32.ofNat j) (xn_ixa (a := 5) (j := j) (n := 51) (by omega) (by omega))
  rw [show (5 + Int32.ofNat j).toNatClampNeg = 5 + j from xn_nata (a := 5) (j := j) (by omega)] at h
  exact h
theorem c_kindOfN {j : Nat} (hj : j < 4) : xk_Ev (xp_P sc) 29 0 [.ref 5, .int (Int32.ofNat j)] [] (cw sl ex ab ta dr md ml mt mc on ct r) (.inl (some (.int (ta (5 + j) % 4 - 1))), 0, cw sl ex ab ta dr md ml mt mc on ct r) := by
  have h := c_kindOf (sc := sc) (sl := sl) (ex := ex) (ab := ab) (ta := ta) (dr := dr) (md := md) (ml := ml) (mt := mt) (mc := mc) (on := on) (ct := ct) (r := r) (g := Int32.ofNat j) (xn_ixa (a := 5) (j := j) (n := 51) (by omega) (by omega))
  rw [show (5 + Int32.ofNat j).toNatClampNeg = 5 + j from xn_nata (a := 5) (j := j) (by omega)] at h
  exact h
theorem c_setExtentsN {j : Nat} {x : Int32} (hj : j < 4) : xk_Ev (xp_P sc) 24 0 [.ref 5, .int (Int32.ofNat j), .int x] [] (cw sl ex ab ta dr md ml mt mc on ct r) (.inl none, 0, cw sl ex ab (upd ta (1 + j) (x)) dr md ml mt mc on ct r) := by
  have h := c_setExtents (sc := sc) (sl := sl) (ex := ex) (ab := ab) (ta := ta) (dr := dr) (md := md) (ml := ml) (mt := mt) (mc := mc) (on := on) (ct := ct) (r := r) (g := Int32.ofNat j) (x := x) (xn_ixa (a := 1) (j := j) (n := 51) (by omega) (by omega))
  rw [show (1 + Int32.ofNat j).toNatClampNeg = 1 + j from xn_nata (a := 1) (j := j) (by omega)] at h
  exact h
theorem c_setSpotN {j : Nat} {x : Int32} (hj : j < 40) : xk_Ev (xp_P sc) 35 0 [.ref 5, .int (Int32.ofNat j), .int x] [] (cw sl ex ab ta dr md ml mt mc on ct r) (.inl none, 0, cw sl ex ab (upd ta (9 + j) (x + 1)) dr md ml mt mc on ct r) := by
  have h := c_setSpot (sc := sc) (sl := sl) (ex := ex) (ab := ab) (ta := ta) (dr := dr) (md := md) (ml := ml) (mt := mt) (mc := mc) (on := on) (ct := ct) (r := r) (g := Int32.ofNat j) (x := x) (xn_ixa (a := 9) (j := j) (n := 51) (by omega) (by omega))
  rw [show (9 + Int32.ofNat j).toNatClampNeg = 9 + j from xn_nata (a := 9) (j := j) (by omega)] at h
  exact h
theorem c_lists {j : Nat} (hj : j < 4) : xk_Ev (xp_P sc) 22 0 [.ref 5, .int (Int32.ofNat j)] [] (cw sl ex ab ta dr md ml mt mc on ct r) (.inl (some (.int (s_b (¬ ta (1 + j) = 0)))), 0, cw sl ex ab ta dr md ml mt mc on ct r) := by
  apply xk_Ev.of
  refine xk_Po.go 2 rfl ?_
  refine xk_Po.ci2 rfl rfl (c_extentsOfN hj) ?_
  refine xk_Po.br rfl rfl (fun h0 => ?_) (fun h0 => ?_) -- 3 .ifCond .eq 6
  · refine xk_Po.go 1 rfl ?_
    exact xk_Po.zret rfl (by first | decide | exact hb _) (congrArg (fun z => ((.inl (some (.int z)), 0, _) : xk_R)) (xn_bf (fun h => h h0)).symm)
  · refine xk_Po.go 2 rfl ?_
    exact xk_Po.zret rfl (by first | decide | exact hb _) (congrArg (fun z => ((.inl (some (.int z)), 0, _) : xk_R)) (xn_bt (h0)).symm)
theorem c_has0 {j : Nat} (hj : j < 4) : xk_Ev (xp_P sc) 26 0 [.ref 5, .int (Int32.ofNat j)] [] (cw sl ex ab ta dr md ml mt mc on ct r) (.inl (some (.int (s_b (¬ ta (Int32.ofNat 5 + Int32.ofNat j).toNatClampNeg = 0)))), 0, cw sl ex ab ta dr md ml mt mc on ct r) := by
  apply xk_Ev.of
  refine xk_Po.go 5 rfl ?_
  refine xk_Po.ok rfl rfl (xn_ixa (a := 5) (j := j) (by omega) (by omega)) ?_ -- .iaload
  refine xk_Po.br rfl rfl (fun h0 => ?_) (fun h0 => ?_) -- 6 .ifCond .eq 9
  · refine xk_Po.go 1 rfl ?_
    exact xk_Po.zret rfl (by first | decide | exact hb _) (congrArg (fun z => ((.inl (some (.int z)), 0, _) : xk_R)) (xn_bf (fun h => h h0)).symm)
  · refine xk_Po.go 2 rfl ?_
    exact xk_Po.zret rfl (by first | decide | exact hb _) (congrArg (fun z => ((.inl (some (.int z)), 0, _) : xk_R)) (xn_bt (h0)).symm)
theorem c_has {j : Nat} (hj : j < 4) : xk_Ev (xp_P sc) 26 0 [.ref 5, .int (Int32.ofNat j)] [] (cw sl ex ab ta dr md ml mt mc on ct r) (.inl (some (.int (s_b (¬ ta (5 + j) = 0)))), 0, cw sl ex ab ta dr md ml mt mc on ct r) := by
  have h := c_has0 (sc := sc) (sl := sl) (ex := ex) (ab := ab) (ta := ta) (dr := dr) (md := md) (ml := ml) (mt := mt) (mc := mc) (on := on) (ct := ct) (r := r) (j := j) hj
  simp only [xn_nata (a := 5) (j := j) (by omega)] at h
  exact h
theorem c_legsOn {d : Int32} : xk_Ev (xp_P sc) 37 0 [.ref 5, .int d, .retAddr 0, .retAddr 0] [] (cw sl ex ab ta dr md ml mt mc on ct r) (.inl (some (.int (s_cnt (fun j => s_disk (ta (9 + j) - 1) = d) 40))), 0, cw sl ex ab ta dr md ml mt mc on ct r) := by
  apply xk_Ev.of
  refine xk_Po.go 4 rfl ?_
  refine xk_Po.loop 40 (fun j0 => [.ref 5, .int d, .int (s_cnt (fun j => s_disk (ta (9 + j) - 1) = d) j0), .int (Int32.ofNat j0)]) (fun j0 => cw sl ex ab ta dr md ml mt mc on ct r) (fun m0 j0 => _) (fun m0 j0 hj0 ih0 => ?_) ?_
  · have uj0 : j0 < 40 := by omega
    refine xk_Po.go 2 rfl ?_
    refine xk_Po.br rfl rfl (fun hx => absurd ((xn_le (a := 40) (b := j0) (by omega) (by omega)).1 hx) (by omega)) (fun _ => ?_)
    refine xk_Po.go 2 rfl ?_
    refine xk_Po.ci2 rfl rfl (c_spotOfN (by omega)) ?_
    refine xk_Po.ci1 rfl rfl (c_diskOf) ?_
    refine xk_Po.go 1 rfl ?_
    refine xk_Po.br rfl rfl (fun h0 => ?_) (fun h0 => ?_) -- 12 .if_icmp .ne 14
    · refine xk_Po.go 3 rfl ?_
      rw [show s_cnt (fun j => s_disk (ta (9 + j) - 1) = d) (j0 + 1) = s_cnt (fun j => s_disk (ta (9 + j) - 1) = d) j0 + 1 from if_pos h0, ← xn_suc j0] at ih0
      exact ih0
    · refine xk_Po.go 2 rfl ?_
      rw [show s_cnt (fun j => s_disk (ta (9 + j) - 1) = d) (j0 + 1) = s_cnt (fun j => s_disk (ta (9 + j) - 1) = d) j0 from if_neg h0, ← xn_suc j0] at ih0
      exact ih0
  · refine xk_Po.go 4 rfl ?_
    exact xk_Po.iret rfl rfl
theorem c_firstLegOn {d : Int32} : xk_Ev (xp_P sc) 38 0 [.ref 5, .int d, .retAddr 0] [] (cw sl ex ab ta dr md ml mt mc on ct r) (.inl (some (.int (s_least (fun j => s_disk (ta (9 + j) - 1) = d) 40 0))), 0, cw sl ex ab ta dr md ml mt mc on ct r) := by
  apply xk_Ev.of
  refine xk_Po.go 2 rfl ?_
  refine xk_Po.loop 40 (fun j0 => [.ref 5, .int d, .int (Int32.ofNat j0)]) (fun j0 => cw sl ex ab ta dr md ml mt mc on ct r) (fun m0 j0 => fun z => z = (.inl (some (.int (s_least (fun j => s_disk (ta (9 + j) - 1) = d) m0 j0))), 0, cw sl ex ab ta dr md ml mt mc on ct r)) (fun m0 j0 hj0 ih0 => ?_) ?_
  · have uj0 : j0 < 40 := by omega
    refine xk_Po.go 2 rfl ?_
    refine xk_Po.br rfl rfl (fun hx => absurd ((xn_le (a := 40) (b := j0) (by omega) (by omega)).1 hx) (by omega)) (fun _ => ?_)
    refine xk_Po.go 2 rfl ?_
    refine xk_Po.ci2 rfl rfl (c_spotOfN (by omega)) ?_
    refine xk_Po.ci1 rfl rfl (c_diskOf) ?_
    refine xk_Po.go 1 rfl ?_
    refine xk_Po.br rfl rfl (fun h0 => ?_) (fun h0 => ?_) -- 10 .if_icmp .ne 13
    · refine xk_Po.go 1 rfl ?_
      exact xk_Po.iret rfl (congrArg (fun z => ((.inl (some (.int z)), 0, _) : xk_R)) (if_pos h0).symm)
    · refine xk_Po.go 2 rfl ?_
      rw [← show s_least (fun j => s_disk (ta (9 + j) - 1) = d) (m0 + 1) j0 = s_least (fun j => s_disk (ta (9 + j) - 1) = d) m0 (j0 + 1) from if_neg h0, ← xn_suc j0] at ih0
      exact ih0
  · refine xk_Po.go 4 rfl ?_
    exact xk_Po.iret rfl rfl
theorem c_isUsed {x : Int32} : xk_Ev (xp_P sc) 36 0 [.ref 5, .int x, .retAddr 0] [] (cw sl ex ab ta dr md ml mt mc on ct r) (.inl (some (.int (s_any (fun j => ta (9 + j) - 1 = x) 40 0))), 0, cw sl ex ab ta dr md ml mt mc on ct r) := by
  apply xk_Ev.of
  refine xk_Po.go 2 rfl ?_
  refine xk_Po.loop 40 (fun j0 => [.ref 5, .int x, .int (Int32.ofNat j0)]) (fun j0 => cw sl ex ab ta dr md ml mt mc on ct r) (fun m0 j0 => fun z => z = (.inl (some (.int (s_any (fun j => ta (9 + j) - 1 = x) m0 j0))), 0, cw sl ex ab ta dr md ml mt mc on ct r)) (fun m0 j0 hj0 ih0 => ?_) ?_
  · have uj0 : j0 < 40 := by omega
    refine xk_Po.go 2 rfl ?_
    refine xk_Po.br rfl rfl (fun hx => absurd ((xn_le (a := 40) (b := j0) (by omega) (by omega)).1 hx) (by omega)) (fun _ => ?_)
    refine xk_Po.go 2 rfl ?_
    refine xk_Po.ci2 rfl rfl (c_spotOfN (by omega)) ?_
    refine xk_Po.go 1 rfl ?_
    refine xk_Po.br rfl rfl (fun h0 => ?_) (fun h0 => ?_) -- 9 .if_icmp .ne 12
    · refine xk_Po.go 1 rfl ?_
      exact xk_Po.zret rfl (by first | decide | exact hb _) (congrArg (fun z => ((.inl (some (.int z)), 0, _) : xk_R)) (if_pos h0).symm)
    · refine xk_Po.go 2 rfl ?_
      rw [← show s_any (fun j => ta (9 + j) - 1 = x) (m0 + 1) j0 = s_any (fun j => ta (9 + j) - 1 = x) m0 (j0 + 1) from if_neg h0, ← xn_suc j0] at ih0
      exact ih0
  · refine xk_Po.go 4 rfl ?_
    exact xk_Po.zret rfl (by first | decide | exact hb _) rfl
theorem c_countListed  : xk_Ev (xp_P sc) 25 0 [.ref 5, .retAddr 0, .retAddr 0] [] (cw sl ex ab ta dr md ml mt mc on ct r) (.inl (some (.int (s_cnt (fun j => ¬ ta (1 + j) = 0) 4))), 0, cw sl ex ab ta dr md ml mt mc on ct r) := by
  apply xk_Ev.of
  refine xk_Po.go 4 rfl ?_
  refine xk_Po.loop 4 (fun j0 => [.ref 5, .int (s_cnt (fun j => ¬ ta (1 + j) = 0) j0), .int (Int32.ofNat j0)]) (fun j0 => cw sl ex ab ta dr md ml mt mc on ct r) (fun m0 j0 => _) (fun m0 j0 hj0 ih0 => ?_) ?_
  · have uj0 : j0 < 4 := by omega
    refine xk_Po.go 2 rfl ?_
    refine xk_Po.br rfl rfl (fun hx => absurd ((xn_le (a := 4) (b := j0) (by omega) (by omega)).1 hx) (by omega)) (fun _ => ?_)
    refine xk_Po.go 2 rfl ?_
    refine xk_Po.ci2 rfl rfl (c_lists (by omega)) ?_
    refine xk_Po.br rfl rfl (fun h0 => ?_) (fun h0 => ?_) -- 10 .ifCond .eq 12
    · refine xk_Po.go 2 rfl ?_
      rw [show s_cnt (fun j => ¬ ta (1 + j) = 0) (j0 + 1) = s_cnt (fun j => ¬ ta (1 + j) = 0) j0 from if_neg (xn_b0 h0), ← xn_suc j0] at ih0
      exact ih0
    · refine xk_Po.go 3 rfl ?_
      rw [show s_cnt (fun j => ¬ ta (1 + j) = 0) (j0 + 1) = s_cnt (fun j => ¬ ta (1 + j) = 0) j0 + 1 from if_pos (xn_b1 h0), ← xn_suc j0] at ih0
      exact ih0
  · refine xk_Po.go 4 rfl ?_
    exact xk_Po.iret rfl rfl
theorem c_leastUnusedVolume  : xk_Ev (xp_P sc) 27 0 [.ref 5, .retAddr 0] [] (cw sl ex ab ta dr md ml mt mc on ct r) (.inl (some (.int (s_least (fun j => ta (5 + j) = 0) 4 0))), 0, cw sl ex ab ta dr md ml mt mc on ct r) := by
  apply xk_Ev.of
  refine xk_Po.go 2 rfl ?_
  refine xk_Po.loop 4 (fun j0 => [.ref 5, .int (Int32.ofNat j0)]) (fun j0 => cw sl ex ab ta dr md ml mt mc on ct r) (fun m0 j0 => fun z => z = (.inl (some (.int (s_least (fun j => ta (5 + j) = 0) m0 j0))), 0, cw sl ex ab ta dr md ml mt mc on ct r)) (fun m0 j0 hj0 ih0 => ?_) ?_
  · have uj0 : j0 < 4 := by omega
    refine xk_Po.go 2 rfl ?_
    refine xk_Po.br rfl rfl (fun hx => absurd ((xn_le (a := 4) (b := j0) (by omega) (by omega)).1 hx) (by omega)) (fun _ => ?_)
    refine xk_Po.go 2 rfl ?_
    refine xk_Po.ci2 rfl rfl (c_has (by omega)) ?_
    refine xk_Po.br rfl rfl (fun h0 => ?_) (fun h0 => ?_) -- 8 .ifCond .ne 11
    · refine xk_Po.go 1 rfl ?_
      exact xk_Po.iret rfl (congrArg (fun z => ((.inl (some (.int z)), 0, _) : xk_R)) (if_pos (Decidable.not_not.1 (xn_b0 h0))).symm)
    · refine xk_Po.go 2 rfl ?_
      rw [← show s_least (fun j => ta (5 + j) = 0) (m0 + 1) j0 = s_least (fun j => ta (5 + j) = 0) m0 (j0 + 1) from if_neg (xn_b1 h0), ← xn_suc j0] at ih0
      exact ih0
  · refine xk_Po.go 4 rfl ?_
    exact xk_Po.iret rfl rfl
theorem c_loseLegsOn {d : Int32} : xk_Ev (xp_P sc) 39 0 [.ref 5, .int d, .retAddr 0] [] (cw sl ex ab ta dr md ml mt mc on ct r) (.inl none, 0, cw sl ex ab (s_clr ta (fun j => s_disk (ta (9 + j) - 1) = d) 9 40) dr md ml mt mc on ct r) := by
  apply xk_Ev.of
  refine xk_Po.go 2 rfl ?_
  refine xk_Po.loop 40 (fun j0 => [.ref 5, .int d, .int (Int32.ofNat j0)]) (fun j0 => cw sl ex ab (s_clr ta (fun j => s_disk (ta (9 + j) - 1) = d) 9 j0) dr md ml mt mc on ct r) (fun m0 j0 => _) (fun m0 j0 hj0 ih0 => ?_) ?_
  · have uj0 : j0 < 40 := by omega
    refine xk_Po.go 2 rfl ?_
    refine xk_Po.br rfl rfl (fun hx => absurd ((xn_le (a := 40) (b := j0) (by omega) (by omega)).1 hx) (by omega)) (fun _ => ?_)
    refine xk_Po.go 2 rfl ?_
    refine xk_Po.ci2 rfl rfl (by have h := c_spotOfN (sc := sc) (sl := sl) (ex := ex) (ab := ab) (ta := s_clr ta (fun j => s_disk (ta (9 + j) - 1) = d) 9 j0) (dr := dr) (md := md) (ml := ml) (mt := mt) (mc := mc) (on := on) (ct := ct) (r := r) (j := j0) (by omega); rw [s_clr_at ta (fun j => s_disk (ta (9 + j) - 1) = d) 9 j0 j0 (Nat.le_refl _)] at h; exact h) ?_
    refine xk_Po.ci1 rfl rfl (c_diskOf) ?_
    refine xk_Po.go 1 rfl ?_
    refine xk_Po.br rfl rfl (fun h0 => ?_) (fun h0 => ?_) -- 10 .if_icmp .ne 15
    · refine xk_Po.go 3 rfl ?_
      refine xk_Po.cv3 rfl rfl (c_setSpotN (by omega)) ?_
      refine xk_Po.go 2 rfl ?_
      rw [show s_clr ta (fun j => s_disk (ta (9 + j) - 1) = d) 9 (j0 + 1) = upd (s_clr ta (fun j => s_disk (ta (9 + j) - 1) = d) 9 j0) (9 + j0) (Int32.ofInt (-1) + 1) from if_pos h0, ← xn_suc j0] at ih0
      exact ih0
    · refine xk_Po.go 2 rfl ?_
      rw [show s_clr ta (fun j => s_disk (ta (9 + j) - 1) = d) 9 (j0 + 1) = s_clr ta (fun j => s_disk (ta (9 + j) - 1) = d) 9 j0 from if_neg h0, ← xn_suc j0] at ih0
      exact ih0
  · refine xk_Po.go 3 rfl ?_
    exact xk_Po.ret rfl rfl
theorem d_extentsOfN {j : Nat} (hj : j < 4) : xk_Ev (xp_P sc) 23 0 [.ref 7, .int (Int32.ofNat j)] [] (cw sl ex ab ta dr md ml mt mc on ct r) (.inl (some (.int (dr (1 + j)))), 0, cw sl ex ab ta dr md ml mt mc on ct r) := by
  have h := d_extentsOf (sc := sc) (sl := sl) (ex := ex) (ab := ab) (ta := ta) (dr := dr) (md := md) (ml := ml) (mt := mt) (mc := mc) (on := on) (ct := ct) (r := r) (g := Int32.ofNat j) (xn_ixa (a := 1) (j := j) (n := 51) (by omega) (by omega))
  rw [show (1 + Int32.ofNat j).toNatClampNeg = 1 + j from xn_nata (a := 1) (j := j) (by omega)] at h
  exact h
theorem d_spotOfN {j : Nat} (hj : j < 40) : xk_Ev (xp_P sc) 34 0 [.ref 7, .int (Int32.ofNat j)] [] (cw sl ex ab ta dr md ml mt mc on ct r) (.inl (some (.int (dr (9 + j) - 1))), 0, cw sl ex ab ta dr md ml mt mc on ct r) := by
  have h := d_spotOf (sc := sc) (sl := sl) (ex := ex) (ab := ab) (ta := ta) (dr := dr) (md := md) (ml := ml) (mt := mt) (mc := mc) (on := on) (ct := ct) (r := r) (g := Int32.ofNat j) (xn_ixa (a := 9) (j := j) (n := 51) (by omega) (by omega))
  rw [show (9 + Int32.ofNat j).toNatClampNeg = 9 + j from xn_nata (a := 9) (j := j) (by omega)] at h
  exact h
theorem d_elementsOfN {j : Nat} (hj : j < 4) : xk_Ev (xp_P sc) 31 0 [.ref 7, .int (Int32.ofNat j)] [] (cw sl ex ab ta dr md ml mt mc on ct r) (.inl (some (.int (dr (5 + j) / 32))), 0, cw sl ex ab ta dr md ml mt mc on ct r) := by
  have h := d_elementsOf (sc := sc) (sl := sl) (ex := ex) (ab := ab) (ta := ta) (dr := dr) (md := md) (ml := ml) (mt := mt) (mc := mc) (on := on) (ct := ct) (r := r) (g := Int32.ofNat j) (xn_ixa (a := 5) (j := j) (n := 51) (by omega) (by omega))
  rw [show (5 + Int32.ofNat j).toNatClampNeg = 5 + j from xn_nata (a := 5) (j := j) (by omega)] at h
  exact h
theorem d_kindOfN {j : Nat} (hj : j < 4) : xk_Ev (xp_P sc) 29 0 [.ref 7, .int (Int32.ofNat j)] [] (cw sl ex ab ta dr md ml mt mc on ct r) (.inl (some (.int (dr (5 + j) % 4 - 1))), 0, cw sl ex ab ta dr md ml mt mc on ct r) := by
  have h := d_kindOf (sc := sc) (sl := sl) (ex := ex) (ab := ab) (ta := ta) (dr := dr) (md := md) (ml := ml) (mt := mt) (mc := mc) (on := on) (ct := ct) (r := r) (g := Int32.ofNat j) (xn_ixa (a := 5) (j := j) (n := 51) (by omega) (by omega))
  rw [show (5 + Int32.ofNat j).toNatClampNeg = 5 + j from xn_nata (a := 5) (j := j) (by omega)] at h
  exact h
theorem d_setExtentsN {j : Nat} {x : Int32} (hj : j < 4) : xk_Ev (xp_P sc) 24 0 [.ref 7, .int (Int32.ofNat j), .int x] [] (cw sl ex ab ta dr md ml mt mc on ct r) (.inl none, 0, cw sl ex ab ta (upd dr (1 + j) (x)) md ml mt mc on ct r) := by
  have h := d_setExtents (sc := sc) (sl := sl) (ex := ex) (ab := ab) (ta := ta) (dr := dr) (md := md) (ml := ml) (mt := mt) (mc := mc) (on := on) (ct := ct) (r := r) (g := Int32.ofNat j) (x := x) (xn_ixa (a := 1) (j := j) (n := 51) (by omega) (by omega))
  rw [show (1 + Int32.ofNat j).toNatClampNeg = 1 + j from xn_nata (a := 1) (j := j) (by omega)] at h
  exact h
theorem d_setSpotN {j : Nat} {x : Int32} (hj : j < 40) : xk_Ev (xp_P sc) 35 0 [.ref 7, .int (Int32.ofNat j), .int x] [] (cw sl ex ab ta dr md ml mt mc on ct r) (.inl none, 0, cw sl ex ab ta (upd dr (9 + j) (x + 1)) md ml mt mc on ct r) := by
  have h := d_setSpot (sc := sc) (sl := sl) (ex := ex) (ab := ab) (ta := ta) (dr := dr) (md := md) (ml := ml) (mt := mt) (mc := mc) (on := on) (ct := ct) (r := r) (g := Int32.ofNat j) (x := x) (xn_ixa (a := 9) (j := j) (n := 51) (by omega) (by omega))
  rw [show (9 + Int32.ofNat j).toNatClampNeg = 9 + j from xn_nata (a := 9) (j := j) (by omega)] at h
  exact h
theorem d_lists {j : Nat} (hj : j < 4) : xk_Ev (xp_P sc) 22 0 [.ref 7, .int (Int32.ofNat j)] [] (cw sl ex ab ta dr md ml mt mc on ct r) (.inl (some (.int (s_b (¬ dr (1 + j) = 0)))), 0, cw sl ex ab ta dr md ml mt mc on ct r) := by
  apply xk_Ev.of
  refine xk_Po.go 2 rfl ?_
  refine xk_Po.ci2 rfl rfl (d_extentsOfN hj) ?_
  refine xk_Po.br rfl rfl (fun h0 => ?_) (fun h0 => ?_) -- 3 .ifCond .eq 6
  · refine xk_Po.go 1 rfl ?_
    exact xk_Po.zret rfl (by first | decide | exact hb _) (congrArg (fun z => ((.inl (some (.int z)), 0, _) : xk_R)) (xn_bf (fun h => h h0)).symm)
  · refine xk_Po.go 2 rfl ?_
    exact xk_Po.zret rfl (by first | decide | exact hb _) (congrArg (fun z => ((.inl (some (.int z)), 0, _) : xk_R)) (xn_bt (h0)).symm)
theorem d_has0 {j : Nat} (hj : j < 4) : xk_Ev (xp_P sc) 26 0 [.ref 7, .int (Int32.ofNat j)] [] (cw sl ex ab ta dr md ml mt mc on ct r) (.inl (some (.int (s_b (¬ dr (Int32.ofNat 5 + Int32.ofNat j).toNatClampNeg = 0)))), 0, cw sl ex ab ta dr md ml mt mc on ct r) := by
  apply xk_Ev.of
  refine xk_Po.go 5 rfl ?_
  refine xk_Po.ok rfl rfl (xn_ixa (a := 5) (j := j) (by omega) (by omega)) ?_ -- .iaload
  refine xk_Po.br rfl rfl (fun h0 => ?_) (fun h0 => ?_) -- 6 .ifCond .eq 9
  · refine xk_Po.go 1 rfl ?_
    exact xk_Po.zret rfl (by first | decide | exact hb _) (congrArg (fun z => ((.inl (some (.int z)), 0, _) : xk_R)) (xn_bf (fun h => h h0)).symm)
  · refine xk_Po.go 2 rfl ?_
    exact xk_Po.zret rfl (by first | decide | exact hb _) (congrArg (fun z => ((.inl (some (.int z)), 0, _) : xk_R)) (xn_bt (h0)).symm)
theorem d_has {j : Nat} (hj : j < 4) : xk_Ev (xp_P sc) 26 0 [.ref 7, .int (Int32.ofNat j)] [] (cw sl ex ab ta dr md ml mt mc on ct r) (.inl (some (.int (s_b (¬ dr (5 + j) = 0)))), 0, cw sl ex ab ta dr md ml mt mc on ct r) := by
  have h := d_has0 (sc := sc) (sl := sl) (ex := ex) (ab := ab) (ta := ta) (dr := dr) (md := md) (ml := ml) (mt := mt) (mc := mc) (on := on) (ct := ct) (r := r) (j := j) hj
  simp only [xn_nata (a := 5) (j := j) (by omega)] at h
  exact h
theorem d_legsOn {d : Int32} : xk_Ev (xp_P sc) 37 0 [.ref 7, .int d, .retAddr 0, .retAddr 0] [] (cw sl ex ab ta dr md ml mt mc on ct r) (.inl (some (.int (s_cnt (fun j => s_disk (dr (9 + j) - 1) = d) 40))), 0, cw sl ex ab ta dr md ml mt mc on ct r) := by
  apply xk_Ev.of
  refine xk_Po.go 4 rfl ?_
  refine xk_Po.loop 40 (fun j0 => [.ref 7, .int d, .int (s_cnt (fun j => s_disk (dr (9 + j) - 1) = d) j0), .int (Int32.ofNat j0)]) (fun j0 => cw sl ex ab ta dr md ml mt mc on ct r) (fun m0 j0 => _) (fun m0 j0 hj0 ih0 => ?_) ?_
  · have uj0 : j0 < 40 := by omega
    refine xk_Po.go 2 rfl ?_
    refine xk_Po.br rfl rfl (fun hx => absurd ((xn_le (a := 40) (b := j0) (by omega) (by omega)).1 hx) (by omega)) (fun _ => ?_)
    refine xk_Po.go 2 rfl ?_
    refine xk_Po.ci2 rfl rfl (d_spotOfN (by omega)) ?_
    refine xk_Po.ci1 rfl rfl (c_diskOf) ?_
    refine xk_Po.go 1 rfl ?_
    refine xk_Po.br rfl rfl (fun h0 => ?_) (fun h0 => ?_) -- 12 .if_icmp .ne 14
    · refine xk_Po.go 3 rfl ?_
      rw [show s_cnt (fun j => s_disk (dr (9 + j) - 1) = d) (j0 + 1) = s_cnt (fun j => s_disk (dr (9 + j) - 1) = d) j0 + 1 from if_pos h0, ← xn_suc j0] at ih0
      exact ih0
    · refine xk_Po.go 2 rfl ?_
      rw [show s_cnt (fun j => s_disk (dr (9 + j) - 1) = d) (j0 + 1) = s_cnt (fun j => s_disk (dr (9 + j) - 1) = d) j0 from if_neg h0, ← xn_suc j0] at ih0
      exact ih0
  · refine xk_Po.go 4 rfl ?_
    exact xk_Po.iret rfl rfl
theorem d_firstLegOn {d : Int32} : xk_Ev (xp_P sc) 38 0 [.ref 7, .int d, .retAddr 0] [] (cw sl ex ab ta dr md ml mt mc on ct r) (.inl (some (.int (s_least (fun j => s_disk (dr (9 + j) - 1) = d) 40 0))), 0, cw sl ex ab ta dr md ml mt mc on ct r) := by
  apply xk_Ev.of
  refine xk_Po.go 2 rfl ?_
  refine xk_Po.loop 40 (fun j0 => [.ref 7, .int d, .int (Int32.ofNat j0)]) (fun j0 => cw sl ex ab ta dr md ml mt mc on ct r) (fun m0 j0 => fun z => z = (.inl (some (.int (s_least (fun j => s_disk (dr (9 + j) - 1) = d) m0 j0))), 0, cw sl ex ab ta dr md ml mt mc on ct r)) (fun m0 j0 hj0 ih0 => ?_) ?_
  · have uj0 : j0 < 40 := by omega
    refine xk_Po.go 2 rfl ?_
    refine xk_Po.br rfl rfl (fun hx => absurd ((xn_le (a := 40) (b := j0) (by omega) (by omega)).1 hx) (by omega)) (fun _ => ?_)
    refine xk_Po.go 2 rfl ?_
    refine xk_Po.ci2 rfl rfl (d_spotOfN (by omega)) ?_
    refine xk_Po.ci1 rfl rfl (c_diskOf) ?_
    refine xk_Po.go 1 rfl ?_
    refine xk_Po.br rfl rfl (fun h0 => ?_) (fun h0 => ?_) -- 10 .if_icmp .ne 13
    · refine xk_Po.go 1 rfl ?_
      exact xk_Po.iret rfl (congrArg (fun z => ((.inl (some (.int z)), 0, _) : xk_R)) (if_pos h0).symm)
    · refine xk_Po.go 2 rfl ?_
      rw [← show s_least (fun j => s_disk (dr (9 + j) - 1) = d) (m0 + 1) j0 = s_least (fun j => s_disk (dr (9 + j) - 1) = d) m0 (j0 + 1) from if_neg h0, ← xn_suc j0] at ih0
      exact ih0
  · refine xk_Po.go 4 rfl ?_
    exact xk_Po.iret rfl rfl
theorem d_isUsed {x : Int32} : xk_Ev (xp_P sc) 36 0 [.ref 7, .int x, .retAddr 0] [] (cw sl ex ab ta dr md ml mt mc on ct r) (.inl (some (.int (s_any (fun j => dr (9 + j) - 1 = x) 40 0))), 0, cw sl ex ab ta dr md ml mt mc on ct r) := by
  apply xk_Ev.of
  refine xk_Po.go 2 rfl ?_
  refine xk_Po.loop 40 (fun j0 => [.ref 7, .int x, .int (Int32.ofNat j0)]) (fun j0 => cw sl ex ab ta dr md ml mt mc on ct r) (fun m0 j0 => fun z => z = (.inl (some (.int (s_any (fun j => dr (9 + j) - 1 = x) m0 j0))), 0, cw sl ex ab ta dr md ml mt mc on ct r)) (fun m0 j0 hj0 ih0 => ?_) ?_
  · have uj0 : j0 < 40 := by omega
    refine xk_Po.go 2 rfl ?_
    refine xk_Po.br rfl rfl (fun hx => absurd ((xn_le (a := 40) (b := j0) (by omega) (by omega)).1 hx) (by omega)) (fun _ => ?_)
    refine xk_Po.go 2 rfl ?_
    refine xk_Po.ci2 rfl rfl (d_spotOfN (by omega)) ?_
    refine xk_Po.go 1 rfl ?_
    refine xk_Po.br rfl rfl (fun h0 => ?_) (fun h0 => ?_) -- 9 .if_icmp .ne 12
    · refine xk_Po.go 1 rfl ?_
      exact xk_Po.zret rfl (by first | decide | exact hb _) (congrArg (fun z => ((.inl (some (.int z)), 0, _) : xk_R)) (if_pos h0).symm)
    · refine xk_Po.go 2 rfl ?_
      rw [← show s_any (fun j => dr (9 + j) - 1 = x) (m0 + 1) j0 = s_any (fun j => dr (9 + j) - 1 = x) m0 (j0 + 1) from if_neg h0, ← xn_suc j0] at ih0
      exact ih0
  · refine xk_Po.go 4 rfl ?_
    exact xk_Po.zret rfl (by first | decide | exact hb _) rfl
theorem d_countListed  : xk_Ev (xp_P sc) 25 0 [.ref 7, .retAddr 0, .retAddr 0] [] (cw sl ex ab ta dr md ml mt mc on ct r) (.inl (some (.int (s_cnt (fun j => ¬ dr (1 + j) = 0) 4))), 0, cw sl ex ab ta dr md ml mt mc on ct r) := by
  apply xk_Ev.of
  refine xk_Po.go 4 rfl ?_
  refine xk_Po.loop 4 (fun j0 => [.ref 7, .int (s_cnt (fun j => ¬ dr (1 + j) = 0) j0), .int (Int32.ofNat j0)]) (fun j0 => cw sl ex ab ta dr md ml mt mc on ct r) (fun m0 j0 => _) (fun m0 j0 hj0 ih0 => ?_) ?_
  · have uj0 : j0 < 4 := by omega
    refine xk_Po.go 2 rfl ?_
    refine xk_Po.br rfl rfl (fun hx => absurd ((xn_le (a := 4) (b := j0) (by omega) (by omega)).1 hx) (by omega)) (fun _ => ?_)
    refine xk_Po.go 2 rfl ?_
    refine xk_Po.ci2 rfl rfl (d_lists (by omega)) ?_
    refine xk_Po.br rfl rfl (fun h0 => ?_) (fun h0 => ?_) -- 10 .ifCond .eq 12
    · refine xk_Po.go 2 rfl ?_
      rw [show s_cnt (fun j => ¬ dr (1 + j) = 0) (j0 + 1) = s_cnt (fun j => ¬ dr (1 + j) = 0) j0 from if_neg (xn_b0 h0), ← xn_suc j0] at ih0
      exact ih0
    · refine xk_Po.go 3 rfl ?_
      rw [show s_cnt (fun j => ¬ dr (1 + j) = 0) (j0 + 1) = s_cnt (fun j => ¬ dr (1 + j) = 0) j0 + 1 from if_pos (xn_b1 h0), ← xn_suc j0] at ih0
      exact ih0
  · refine xk_Po.go 4 rfl ?_
    exact xk_Po.iret rfl rfl
theorem d_leastUnusedVolume  : xk_Ev (xp_P sc) 27 0 [.ref 7, .retAddr 0] [] (cw sl ex ab ta dr md ml mt mc on ct r) (.inl (some (.int (s_least (fun j => dr (5 + j) = 0) 4 0))), 0, cw sl ex ab ta dr md ml mt mc on ct r) := by
  apply xk_Ev.of
  refine xk_Po.go 2 rfl ?_
  refine xk_Po.loop 4 (fun j0 => [.ref 7, .int (Int32.ofNat j0)]) (fun j0 => cw sl ex ab ta dr md ml mt mc on ct r) (fun m0 j0 => fun z => z = (.inl (some (.int (s_least (fun j => dr (5 + j) = 0) m0 j0))), 0, cw sl ex ab ta dr md ml mt mc on ct r)) (fun m0 j0 hj0 ih0 => ?_) ?_
  · have uj0 : j0 < 4 := by omega
    refine xk_Po.go 2 rfl ?_
    refine xk_Po.br rfl rfl (fun hx => absurd ((xn_le (a := 4) (b := j0) (by omega) (by omega)).1 hx) (by omega)) (fun _ => ?_)
    refine xk_Po.go 2 rfl ?_
    refine xk_Po.ci2 rfl rfl (d_has (by omega)) ?_
    refine xk_Po.br rfl rfl (fun h0 => ?_) (fun h0 => ?_) -- 8 .ifCond .ne 11
    · refine xk_Po.go 1 rfl ?_
      exact xk_Po.iret rfl (congrArg (fun z => ((.inl (some (.int z)), 0, _) : xk_R)) (if_pos (Decidable.not_not.1 (xn_b0 h0))).symm)
    · refine xk_Po.go 2 rfl ?_
      rw [← show s_least (fun j => dr (5 + j) = 0) (m0 + 1) j0 = s_least (fun j => dr (5 + j) = 0) m0 (j0 + 1) from if_neg (xn_b1 h0), ← xn_suc j0] at ih0
      exact ih0
  · refine xk_Po.go 4 rfl ?_
    exact xk_Po.iret rfl rfl
theorem d_loseLegsOn {d : Int32} : xk_Ev (xp_P sc) 39 0 [.ref 7, .int d, .retAddr 0] [] (cw sl ex ab ta dr md ml mt mc on ct r) (.inl none, 0, cw sl ex ab ta (s_clr dr (fun j => s_disk (dr (9 + j) - 1) = d) 9 40) md ml mt mc on ct r) := by
  apply xk_Ev.of
  refine xk_Po.go 2 rfl ?_
  refine xk_Po.loop 40 (fun j0 => [.ref 7, .int d, .int (Int32.ofNat j0)]) (fun j0 => cw sl ex ab ta (s_clr dr (fun j => s_disk (dr (9 + j) - 1) = d) 9 j0) md ml mt mc on ct r) (fun m0 j0 => _) (fun m0 j0 hj0 ih0 => ?_) ?_
  · have uj0 : j0 < 40 := by omega
    refine xk_Po.go 2 rfl ?_
    refine xk_Po.br rfl rfl (fun hx => absurd ((xn_le (a := 40) (b := j0) (by omega) (by omega)).1 hx) (by omega)) (fun _ => ?_)
    refine xk_Po.go 2 rfl ?_
    refine xk_Po.ci2 rfl rfl (by have h := d_spotOfN (sc := sc) (sl := sl) (ex := ex) (ab := ab) (ta := ta) (dr := s_clr dr (fun j => s_disk (dr (9 + j) - 1) = d) 9 j0) (md := md) (ml := ml) (mt := mt) (mc := mc) (on := on) (ct := ct) (r := r) (j := j0) (by omega); rw [s_clr_at dr (fun j => s_disk (dr (9 + j) - 1) = d) 9 j0 j0 (Nat.le_refl _)] at h; exact h) ?_
    refine xk_Po.ci1 rfl rfl (c_diskOf) ?_
    refine xk_Po.go 1 rfl ?_
    refine xk_Po.br rfl rfl (fun h0 => ?_) (fun h0 => ?_) -- 10 .if_icmp .ne 15
    · refine xk_Po.go 3 rfl ?_
      refine xk_Po.cv3 rfl rfl (d_setSpotN (by omega)) ?_
      refine xk_Po.go 2 rfl ?_
      rw [show s_clr dr (fun j => s_disk (dr (9 + j) - 1) = d) 9 (j0 + 1) = upd (s_clr dr (fun j => s_disk (dr (9 + j) - 1) = d) 9 j0) (9 + j0) (Int32.ofInt (-1) + 1) from if_pos h0, ← xn_suc j0] at ih0
      exact ih0
    · refine xk_Po.go 2 rfl ?_
      rw [show s_clr dr (fun j => s_disk (dr (9 + j) - 1) = d) 9 (j0 + 1) = s_clr dr (fun j => s_disk (dr (9 + j) - 1) = d) 9 j0 from if_neg h0, ← xn_suc j0] at ih0
      exact ih0
  · refine xk_Po.go 3 rfl ?_
    exact xk_Po.ret rfl rfl
end XkTab
end
section
/-! The disks, the sums, the whole slots; what the calls ask first. -/
section XkDsk
variable {sc : Nat × (Nat → Int32)} {sl ex ab ta dr : Nat → Int32} {md ml mt mc on ct : Int32} {r w : xk_W}
def s_start (d s : Nat) : Nat := (d * 2 + s) * 51
theorem s_start_eq (d s : Nat) : (Int32.ofNat d * 2 + Int32.ofNat s) * 51 = Int32.ofNat (s_start d s) := by
  show (Int32.ofNat d * Int32.ofNat 2 + Int32.ofNat s) * Int32.ofNat 51 = _
  rw [xn_mul, xn_add, xn_mul]
  rfl
theorem s_leg_eq (v e l : Nat) : Int32.ofNat v * 10 + Int32.ofNat e * 2 + Int32.ofNat l = Int32.ofNat (v * 10 + e * 2 + l) := by
  show Int32.ofNat v * Int32.ofNat 10 + Int32.ofNat e * Int32.ofNat 2 + Int32.ofNat l = _
  rw [xn_mul, xn_mul, xn_add, xn_add]
theorem c_startOfSlotN {d s : Nat} : xk_Ev (xp_P sc) 2 0 [.int (Int32.ofNat d), .int (Int32.ofNat s)] [] w (.inl (some (.int (Int32.ofNat (s_start d s)))), 0, w) := by
  rw [← s_start_eq]
  exact c_startOfSlot
theorem c_legOfN {v e l : Nat} : xk_Ev (xp_P sc) 74 0 [.int (Int32.ofNat v), .int (Int32.ofNat e), .int (Int32.ofNat l)] [] w (.inl (some (.int (Int32.ofNat (v * 10 + e * 2 + l)))), 0, w) := by
  rw [← s_leg_eq]
  exact c_legOf
theorem c_sumOf {a : Nat} (ha : a + 49 ≤ 51) : xk_Ev (xp_P sc) 20 0 [.ref 6, .int (Int32.ofNat a), .retAddr 0, .retAddr 0] [] (cw sl ex ab ta dr md ml mt mc on ct r) (.inl (some (.int (s_sum ta a 49))), 0, cw sl ex ab ta dr md ml mt mc on ct r) := by
  apply xk_Ev.of
  refine xk_Po.go 4 rfl ?_
  refine xk_Po.loop 49 (fun j0 => [.ref 6, .int (Int32.ofNat a), .int (s_sum ta a j0), .int (Int32.ofNat j0)]) (fun j0 => cw sl ex ab ta dr md ml mt mc on ct r) (fun m0 j0 => _) (fun m0 j0 hj0 ih0 => ?_) ?_
  · have uj0 : j0 < 49 := by omega
    refine xk_Po.go 2 rfl ?_
    refine xk_Po.br rfl rfl (fun hx => absurd ((xn_le (a := 49) (b := j0) (by omega) (by omega)).1 hx) (by omega)) (fun _ => ?_)
    refine xk_Po.go 5 rfl ?_
    refine xk_Po.ok rfl rfl (xn_ixa (a := a) (j := j0) (by omega) (by omega)) ?_ -- .iaload
    refine xk_Po.go 8 rfl ?_
    rw [show s_sum ta a (j0 + 1) = s_sum ta a j0 + ta (Int32.ofNat a + Int32.ofNat j0).toNatClampNeg * (Int32.ofNat j0 + Int32.ofInt 1) from by rw [xn_nata (by omega)]; rfl, ← xn_suc j0] at ih0
    exact ih0
  · refine xk_Po.go 4 rfl ?_
    exact xk_Po.iret rfl rfl
theorem d_sumOf {a : Nat} (ha : a + 49 ≤ 51) : xk_Ev (xp_P sc) 20 0 [.ref 8, .int (Int32.ofNat a), .retAddr 0, .retAddr 0] [] (cw sl ex ab ta dr md ml mt mc on ct r) (.inl (some (.int (s_sum dr a 49))), 0, cw sl ex ab ta dr md ml mt mc on ct r) := by
  apply xk_Ev.of
  refine xk_Po.go 4 rfl ?_
  refine xk_Po.loop 49 (fun j0 => [.ref 8, .int (Int32.ofNat a), .int (s_sum dr a j0), .int (Int32.ofNat j0)]) (fun j0 => cw sl ex ab ta dr md ml mt mc on ct r) (fun m0 j0 => _) (fun m0 j0 hj0 ih0 => ?_) ?_
  · have uj0 : j0 < 49 := by omega
    refine xk_Po.go 2 rfl ?_
    refine xk_Po.br rfl rfl (fun hx => absurd ((xn_le (a := 49) (b := j0) (by omega) (by omega)).1 hx) (by omega)) (fun _ => ?_)
    refine xk_Po.go 5 rfl ?_
    refine xk_Po.ok rfl rfl (xn_ixa (a := a) (j := j0) (by omega) (by omega)) ?_ -- .iaload
    refine xk_Po.go 8 rfl ?_
    rw [show s_sum dr a (j0 + 1) = s_sum dr a j0 + dr (Int32.ofNat a + Int32.ofNat j0).toNatClampNeg * (Int32.ofNat j0 + Int32.ofInt 1) from by rw [xn_nata (by omega)]; rfl, ← xn_suc j0] at ih0
    exact ih0
  · refine xk_Po.go 4 rfl ?_
    exact xk_Po.iret rfl rfl
theorem l_sumOf {a : Nat} (ha : a + 49 ≤ 408) : xk_Ev (xp_P sc) 20 0 [.ref 2, .int (Int32.ofNat a), .retAddr 0, .retAddr 0] [] (cw sl ex ab ta dr md ml mt mc on ct r) (.inl (some (.int (s_sum sl a 49))), 0, cw sl ex ab ta dr md ml mt mc on ct r) := by
  apply xk_Ev.of
  refine xk_Po.go 4 rfl ?_
  refine xk_Po.loop 49 (fun j0 => [.ref 2, .int (Int32.ofNat a), .int (s_sum sl a j0), .int (Int32.ofNat j0)]) (fun j0 => cw sl ex ab ta dr md ml mt mc on ct r) (fun m0 j0 => _) (fun m0 j0 hj0 ih0 => ?_) ?_
  · have uj0 : j0 < 49 := by omega
    refine xk_Po.go 2 rfl ?_
    refine xk_Po.br rfl rfl (fun hx => absurd ((xn_le (a := 49) (b := j0) (by omega) (by omega)).1 hx) (by omega)) (fun _ => ?_)
    refine xk_Po.go 5 rfl ?_
    refine xk_Po.ok rfl rfl (xn_ixa (a := a) (j := j0) (by omega) (by omega)) ?_ -- .iaload
    refine xk_Po.go 8 rfl ?_
    rw [show s_sum sl a (j0 + 1) = s_sum sl a j0 + sl (Int32.ofNat a + Int32.ofNat j0).toNatClampNeg * (Int32.ofNat j0 + Int32.ofInt 1) from by rw [xn_nata (by omega)]; rfl, ← xn_suc j0] at ih0
    exact ih0
  · refine xk_Po.go 4 rfl ?_
    exact xk_Po.iret rfl rfl
theorem c_isAbsent0 {j : Nat} (hj : j < 4) (hb : ∀ i, ab i = 0 ∨ ab i = 1) : xk_Ev (xp_P sc) 0 0 [.ref 1, .int (Int32.ofNat j)] [] (cw sl ex ab ta dr md ml mt mc on ct r) (.inl (some (.int (ab (Int32.ofNat j).toNatClampNeg))), 0, cw sl ex ab ta dr md ml mt mc on ct r) := by
  apply xk_Ev.of
  refine xk_Po.go 3 rfl ?_
  refine xk_Po.ok rfl rfl (xn_ix (j := j) (by omega) (by omega)) ?_ -- .baload
  exact xk_Po.zret rfl (by first | decide | exact hb _) rfl
theorem c_isAbsent {j : Nat} (hj : j < 4) (hb : ∀ i, ab i = 0 ∨ ab i = 1) : xk_Ev (xp_P sc) 0 0 [.ref 1, .int (Int32.ofNat j)] [] (cw sl ex ab ta dr md ml mt mc on ct r) (.inl (some (.int (ab j))), 0, cw sl ex ab ta dr md ml mt mc on ct r) := by
  have h := c_isAbsent0 (sc := sc) (sl := sl) (ex := ex) (ab := ab) (ta := ta) (dr := dr) (md := md) (ml := ml) (mt := mt) (mc := mc) (on := on) (ct := ct) (r := r) hj hb
  simp only [xn_nat (j := j) (by omega)] at h
  exact h
theorem c_setAbsent0 {j : Nat} {x : Int32} (hj : j < 4) : xk_Ev (xp_P sc) 1 0 [.ref 1, .int (Int32.ofNat j), .int x] [] (cw sl ex ab ta dr md ml mt mc on ct r) (.inl none, 0, cw sl ex (upd ab (Int32.ofNat j).toNatClampNeg (vp_nar .boolean x)) ta dr md ml mt mc on ct r) := by
  apply xk_Ev.of
  refine xk_Po.go 4 rfl ?_
  refine xk_Po.ok rfl rfl (xn_ix (j := j) (by omega) (by omega)) ?_ -- .bastore
  exact xk_Po.ret rfl rfl
theorem c_setAbsent {j : Nat} {x : Int32} (hj : j < 4) : xk_Ev (xp_P sc) 1 0 [.ref 1, .int (Int32.ofNat j), .int x] [] (cw sl ex ab ta dr md ml mt mc on ct r) (.inl none, 0, cw sl ex (upd ab j (vp_nar .boolean x)) ta dr md ml mt mc on ct r) := by
  have h := c_setAbsent0 (sc := sc) (sl := sl) (ex := ex) (ab := ab) (ta := ta) (dr := dr) (md := md) (ml := ml) (mt := mt) (mc := mc) (on := on) (ct := ct) (r := r) (x := x) hj
  simp only [xn_nat (j := j) (by omega)] at h
  exact h
theorem c_slotWord0 {d s i : Nat} (hd : d < 4) (hs : s < 2) (hi : i < 51) : xk_Ev (xp_P sc) 3 0 [.ref 1, .int (Int32.ofNat d), .int (Int32.ofNat s), .int (Int32.ofNat i)] [] (cw sl ex ab ta dr md ml mt mc on ct r) (.inl (some (.int (sl (Int32.ofNat (s_start d s) + Int32.ofNat i).toNatClampNeg))), 0, cw sl ex ab ta dr md ml mt mc on ct r) := by
  have hz : s_start d s + 51 ≤ 408 := by
    unfold s_start
    omega
  apply xk_Ev.of
  refine xk_Po.go 4 rfl ?_
  refine xk_Po.ci2 rfl rfl (c_startOfSlotN) ?_
  refine xk_Po.go 2 rfl ?_
  refine xk_Po.ok rfl rfl (xn_ixa (by omega) (by omega)) ?_ -- .iaload
  exact xk_Po.iret rfl rfl
theorem c_slotWord {d s i : Nat} (hd : d < 4) (hs : s < 2) (hi : i < 51) : xk_Ev (xp_P sc) 3 0 [.ref 1, .int (Int32.ofNat d), .int (Int32.ofNat s), .int (Int32.ofNat i)] [] (cw sl ex ab ta dr md ml mt mc on ct r) (.inl (some (.int (sl (s_start d s + i)))), 0, cw sl ex ab ta dr md ml mt mc on ct r) := by
  have hz : s_start d s + 51 ≤ 408 := by
    unfold s_start
    omega
  have h := c_slotWord0 (sc := sc) (sl := sl) (ex := ex) (ab := ab) (ta := ta) (dr := dr) (md := md) (ml := ml) (mt := mt) (mc := mc) (on := on) (ct := ct) (r := r) hd hs hi
  simp only [xn_nata (a := s_start d s) (j := i) (by omega)] at h
  exact h
theorem c_setSlotWord0 {d s i : Nat} (hd : d < 4) (hs : s < 2) (hi : i < 51) {x : Int32} : xk_Ev (xp_P sc) 4 0 [.ref 1, .int (Int32.ofNat d), .int (Int32.ofNat s), .int (Int32.ofNat i), .int x] [] (cw sl ex ab ta dr md ml mt mc on ct r) (.inl none, 0, cw (upd sl (Int32.ofNat (s_start d s) + Int32.ofNat i).toNatClampNeg x) ex ab ta dr md ml mt mc on ct r) := by
  have hz : s_start d s + 51 ≤ 408 := by
    unfold s_start
    omega
  apply xk_Ev.of
  refine xk_Po.go 4 rfl ?_
  refine xk_Po.ci2 rfl rfl (c_startOfSlotN) ?_
  refine xk_Po.go 3 rfl ?_
  refine xk_Po.ok rfl rfl (xn_ixa (by omega) (by omega)) ?_ -- .iastore
  exact xk_Po.ret rfl rfl
theorem c_setSlotWord {d s i : Nat} (hd : d < 4) (hs : s < 2) (hi : i < 51) {x : Int32} : xk_Ev (xp_P sc) 4 0 [.ref 1, .int (Int32.ofNat d), .int (Int32.ofNat s), .int (Int32.ofNat i), .int x] [] (cw sl ex ab ta dr md ml mt mc on ct r) (.inl none, 0, cw (upd sl (s_start d s + i) x) ex ab ta dr md ml mt mc on ct r) := by
  have hz : s_start d s + 51 ≤ 408 := by
    unfold s_start
    omega
  have h := c_setSlotWord0 (sc := sc) (sl := sl) (ex := ex) (ab := ab) (ta := ta) (dr := dr) (md := md) (ml := ml) (mt := mt) (mc := mc) (on := on) (ct := ct) (r := r) hd hs hi (x := x)
  simp only [xn_nata (a := s_start d s) (j := i) (by omega)] at h
  exact h
theorem s_ext_eq (x k : Nat) : Int32.ofNat x * Int32.ofInt 4 + Int32.ofNat k = Int32.ofNat (x * 4 + k) := by
  show Int32.ofNat x * Int32.ofNat 4 + Int32.ofNat k = _
  rw [xn_mul, xn_add]
theorem s_ext_ix {x k : Nat} (hx : x < 32) (hk : k < 4) : xk_ix (Int32.ofNat x * Int32.ofInt 4 + Int32.ofNat k) 128 = true := by
  rw [s_ext_eq]
  exact xn_ix (by omega) (by omega)
theorem s_ext_nat {x k : Nat} (hx : x < 32) (hk : k < 4) : (Int32.ofNat x * Int32.ofInt 4 + Int32.ofNat k).toNatClampNeg = x * 4 + k := by
  rw [s_ext_eq]
  exact xn_nat (by omega)
theorem c_extentWord0 {x k : Nat} (hx : x < 32) (hk : k < 4) : xk_Ev (xp_P sc) 9 0 [.ref 1, .int (Int32.ofNat x), .int (Int32.ofNat k)] [] (cw sl ex ab ta dr md ml mt mc on ct r) (.inl (some (.int (ex (Int32.ofNat x * Int32.ofInt 4 + Int32.ofNat k).toNatClampNeg))), 0, cw sl ex ab ta dr md ml mt mc on ct r) := by
  apply xk_Ev.of
  refine xk_Po.go 7 rfl ?_
  refine xk_Po.ok rfl rfl (s_ext_ix hx hk) ?_ -- .iaload
  exact xk_Po.iret rfl rfl
theorem c_extentWord {x k : Nat} (hx : x < 32) (hk : k < 4) : xk_Ev (xp_P sc) 9 0 [.ref 1, .int (Int32.ofNat x), .int (Int32.ofNat k)] [] (cw sl ex ab ta dr md ml mt mc on ct r) (.inl (some (.int (ex (x * 4 + k)))), 0, cw sl ex ab ta dr md ml mt mc on ct r) := by
  have h := c_extentWord0 (sc := sc) (sl := sl) (ex := ex) (ab := ab) (ta := ta) (dr := dr) (md := md) (ml := ml) (mt := mt) (mc := mc) (on := on) (ct := ct) (r := r) hx hk
  simp only [s_ext_nat hx hk] at h
  exact h
theorem c_setExtentWord0 {x k : Nat} (hx : x < 32) (hk : k < 4) {y : Int32} : xk_Ev (xp_P sc) 10 0 [.ref 1, .int (Int32.ofNat x), .int (Int32.ofNat k), .int y] [] (cw sl ex ab ta dr md ml mt mc on ct r) (.inl none, 0, cw sl (upd ex (Int32.ofNat x * Int32.ofInt 4 + Int32.ofNat k).toNatClampNeg y) ab ta dr md ml mt mc on ct r) := by
  apply xk_Ev.of
  refine xk_Po.go 8 rfl ?_
  refine xk_Po.ok rfl rfl (s_ext_ix hx hk) ?_ -- .iastore
  exact xk_Po.ret rfl rfl
theorem c_setExtentWord {x k : Nat} (hx : x < 32) (hk : k < 4) {y : Int32} : xk_Ev (xp_P sc) 10 0 [.ref 1, .int (Int32.ofNat x), .int (Int32.ofNat k), .int y] [] (cw sl ex ab ta dr md ml mt mc on ct r) (.inl none, 0, cw sl (upd ex (x * 4 + k) y) ab ta dr md ml mt mc on ct r) := by
  have h := c_setExtentWord0 (sc := sc) (sl := sl) (ex := ex) (ab := ab) (ta := ta) (dr := dr) (md := md) (ml := ml) (mt := mt) (mc := mc) (on := on) (ct := ct) (r := r) hx hk (y := y)
  simp only [s_ext_nat hx hk] at h
  exact h
theorem c_requirePower (h : ¬ on = 0) : xk_Ev (xp_P sc) 62 0 [.ref 0] [] (cw sl ex ab ta dr md ml mt mc on ct r) (.inl none, 0, cw sl ex ab ta dr md ml mt mc on ct r) := by
  apply xk_Ev.of
  refine xk_Po.go 2 rfl ?_
  refine xk_Po.br rfl rfl (fun h0 => ?_) (fun h0 => ?_) -- 2 .ifCond .ne 4
  · exact xk_Po.thr rfl (absurd h0 h)
  · exact xk_Po.ret rfl rfl
theorem c_requirePower_t (h : on = 0) : xk_Ev (xp_P sc) 62 0 [.ref 0] [] (cw sl ex ab ta dr md ml mt mc on ct r) (.inr 0, 1, cw sl ex ab ta dr md ml mt mc on ct r) := by
  apply xk_Ev.of
  refine xk_Po.go 2 rfl ?_
  refine xk_Po.br rfl rfl (fun h0 => ?_) (fun h0 => ?_) -- 2 .ifCond .ne 4
  · exact xk_Po.thr rfl rfl
  · exact xk_Po.ret rfl (absurd h h0)
theorem c_requireNoPower (h : on = 0) : xk_Ev (xp_P sc) 63 0 [.ref 0] [] (cw sl ex ab ta dr md ml mt mc on ct r) (.inl none, 0, cw sl ex ab ta dr md ml mt mc on ct r) := by
  apply xk_Ev.of
  refine xk_Po.go 2 rfl ?_
  refine xk_Po.br rfl rfl (fun h0 => ?_) (fun h0 => ?_) -- 2 .ifCond .eq 4
  · exact xk_Po.ret rfl rfl
  · exact xk_Po.thr rfl (absurd h h0)
theorem c_requireNoPower_t (h : ¬ on = 0) : xk_Ev (xp_P sc) 63 0 [.ref 0] [] (cw sl ex ab ta dr md ml mt mc on ct r) (.inr 0, 1, cw sl ex ab ta dr md ml mt mc on ct r) := by
  apply xk_Ev.of
  refine xk_Po.go 2 rfl ?_
  refine xk_Po.br rfl rfl (fun h0 => ?_) (fun h0 => ?_) -- 2 .ifCond .eq 4
  · exact xk_Po.ret rfl (absurd h0 h)
  · exact xk_Po.thr rfl rfl
theorem c_isDisk {g : Int32} : xk_Ev (xp_P sc) 64 0 [.int g] [] (w) (.inl (some (.int (s_b (¬ g < 0 ∧ ¬ Int32.ofInt 4 ≤ g)))), 0, w) := by
  apply xk_Ev.of
  refine xk_Po.go 1 rfl ?_
  refine xk_Po.br rfl rfl (fun h0 => ?_) (fun h0 => ?_) -- 1 .ifCond .lt 7
  · refine xk_Po.go 1 rfl ?_
    exact xk_Po.zret rfl (by first | decide | exact hb _) (congrArg (fun z => ((.inl (some (.int z)), 0, _) : xk_R)) (xn_bf (fun h => h.1 h0)).symm)
  · refine xk_Po.go 2 rfl ?_
    refine xk_Po.br rfl rfl (fun h1 => ?_) (fun h1 => ?_) -- 4 .if_icmp .ge 7
    · refine xk_Po.go 1 rfl ?_
      exact xk_Po.zret rfl (by first | decide | exact hb _) (congrArg (fun z => ((.inl (some (.int z)), 0, _) : xk_R)) (xn_bf (fun h => h.2 h1)).symm)
    · refine xk_Po.go 2 rfl ?_
      exact xk_Po.zret rfl (by first | decide | exact hb _) (congrArg (fun z => ((.inl (some (.int z)), 0, _) : xk_R)) (xn_bt (⟨h0, h1⟩)).symm)
theorem c_requireDisk {g : Int32} (h : ¬ g < 0 ∧ ¬ Int32.ofInt 4 ≤ g) : xk_Ev (xp_P sc) 65 0 [.int g] [] (w) (.inl none, 0, w) := by
  apply xk_Ev.of
  refine xk_Po.go 1 rfl ?_
  refine xk_Po.ci1 rfl rfl (c_isDisk) ?_
  refine xk_Po.br rfl rfl (fun h0 => ?_) (fun h0 => ?_) -- 2 .ifCond .ne 4
  · exact xk_Po.thr rfl (absurd h (xn_b0 h0))
  · exact xk_Po.ret rfl rfl
theorem c_requireDisk_t {g : Int32} (h : ¬ (¬ g < 0 ∧ ¬ Int32.ofInt 4 ≤ g)) : xk_Ev (xp_P sc) 65 0 [.int g] [] (w) (.inr 1, 1, w) := by
  apply xk_Ev.of
  refine xk_Po.go 1 rfl ?_
  refine xk_Po.ci1 rfl rfl (c_isDisk) ?_
  refine xk_Po.br rfl rfl (fun h0 => ?_) (fun h0 => ?_) -- 2 .ifCond .ne 4
  · exact xk_Po.thr rfl rfl
  · exact xk_Po.ret rfl (absurd (xn_b1 h0) h)
theorem c_requireListed {j : Nat} (hj : j < 4) (h : ¬ ta (1 + j) = 0) : xk_Ev (xp_P sc) 66 0 [.ref 0, .int (Int32.ofNat j)] [] (cw sl ex ab ta dr md ml mt mc on ct r) (.inl none, 0, cw sl ex ab ta dr md ml mt mc on ct r) := by
  apply xk_Ev.of
  refine xk_Po.go 3 rfl ?_
  refine xk_Po.ci2 rfl rfl (c_lists hj) ?_
  refine xk_Po.br rfl rfl (fun h0 => ?_) (fun h0 => ?_) -- 4 .ifCond .ne 6
  · exact xk_Po.thr rfl (absurd h (xn_b0 h0))
  · exact xk_Po.ret rfl rfl
theorem c_requireListed_t {j : Nat} (hj : j < 4) (h : ta (1 + j) = 0) : xk_Ev (xp_P sc) 66 0 [.ref 0, .int (Int32.ofNat j)] [] (cw sl ex ab ta dr md ml mt mc on ct r) (.inr 2, 1, cw sl ex ab ta dr md ml mt mc on ct r) := by
  apply xk_Ev.of
  refine xk_Po.go 3 rfl ?_
  refine xk_Po.ci2 rfl rfl (c_lists hj) ?_
  refine xk_Po.br rfl rfl (fun h0 => ?_) (fun h0 => ?_) -- 4 .ifCond .ne 6
  · exact xk_Po.thr rfl rfl
  · exact xk_Po.ret rfl (absurd h (xn_b1 h0))
theorem c_isAnyListedAbsent (hb : ∀ i, ab i = 0 ∨ ab i = 1) : xk_Ev (xp_P sc) 70 0 [.ref 0, .retAddr 0] [] (cw sl ex ab ta dr md ml mt mc on ct r) (.inl (some (.int (s_any (fun j => ¬ ta (1 + j) = 0 ∧ ¬ ab j = 0) 4 0))), 0, cw sl ex ab ta dr md ml mt mc on ct r) := by
  apply xk_Ev.of
  refine xk_Po.go 2 rfl ?_
  refine xk_Po.loop 4 (fun j0 => [.ref 0, .int (Int32.ofNat j0)]) (fun j0 => cw sl ex ab ta dr md ml mt mc on ct r) (fun m0 j0 => fun z => z = (.inl (some (.int (s_any (fun j => ¬ ta (1 + j) = 0 ∧ ¬ ab j = 0) m0 j0))), 0, cw sl ex ab ta dr md ml mt mc on ct r)) (fun m0 j0 hj0 ih0 => ?_) ?_
  · have uj0 : j0 < 4 := by omega
    refine xk_Po.go 2 rfl ?_
    refine xk_Po.br rfl rfl (fun hx => absurd ((xn_le (a := 4) (b := j0) (by omega) (by omega)).1 hx) (by omega)) (fun _ => ?_)
    refine xk_Po.go 3 rfl ?_
    refine xk_Po.ci2 rfl rfl (c_lists (by omega)) ?_
    refine xk_Po.br rfl rfl (fun h0 => ?_) (fun h0 => ?_) -- 9 .ifCond .eq 17
    · refine xk_Po.go 2 rfl ?_
      rw [← show s_any (fun j => ¬ ta (1 + j) = 0 ∧ ¬ ab j = 0) (m0 + 1) j0 = s_any (fun j => ¬ ta (1 + j) = 0 ∧ ¬ ab j = 0) m0 (j0 + 1) from if_neg (fun h => xn_b0 h0 h.1), ← xn_suc j0] at ih0
      exact ih0
    · refine xk_Po.go 3 rfl ?_
      refine xk_Po.ci2 rfl rfl (c_isAbsent (by omega) hb) ?_
      refine xk_Po.br rfl rfl (fun h1 => ?_) (fun h1 => ?_) -- 14 .ifCond .eq 17
      · refine xk_Po.go 2 rfl ?_
        rw [← show s_any (fun j => ¬ ta (1 + j) = 0 ∧ ¬ ab j = 0) (m0 + 1) j0 = s_any (fun j => ¬ ta (1 + j) = 0 ∧ ¬ ab j = 0) m0 (j0 + 1) from if_neg (fun h => h.2 h1), ← xn_suc j0] at ih0
        exact ih0
      · refine xk_Po.go 1 rfl ?_
        exact xk_Po.zret rfl (by first | decide | exact hb _) (congrArg (fun z => ((.inl (some (.int z)), 0, _) : xk_R)) (if_pos (⟨xn_b1 h0, h1⟩ : ¬ ta (1 + j0) = 0 ∧ ¬ ab j0 = 0)).symm)
  · refine xk_Po.go 4 rfl ?_
    exact xk_Po.zret rfl (by first | decide | exact hb _) rfl
theorem c_isListedAndPresent {j : Nat} (hj : j < 4) (hb : ∀ i, ab i = 0 ∨ ab i = 1) : xk_Ev (xp_P sc) 87 0 [.ref 0, .ref 5, .int (Int32.ofNat j)] [] (cw sl ex ab ta dr md ml mt mc on ct r) (.inl (some (.int (s_b (¬ ta (1 + j) = 0 ∧ ab j = 0)))), 0, cw sl ex ab ta dr md ml mt mc on ct r) := by
  apply xk_Ev.of
  refine xk_Po.go 2 rfl ?_
  refine xk_Po.ci2 rfl rfl (c_lists hj) ?_
  refine xk_Po.br rfl rfl (fun h0 => ?_) (fun h0 => ?_) -- 3 .ifCond .eq 11
  · refine xk_Po.go 1 rfl ?_
    exact xk_Po.zret rfl (by first | decide | exact hb _) (congrArg (fun z => ((.inl (some (.int z)), 0, _) : xk_R)) (xn_bf (fun h => xn_b0 h0 h.1)).symm)
  · refine xk_Po.go 3 rfl ?_
    refine xk_Po.ci2 rfl rfl (c_isAbsent hj hb) ?_
    refine xk_Po.br rfl rfl (fun h1 => ?_) (fun h1 => ?_) -- 8 .ifCond .ne 11
    · refine xk_Po.go 2 rfl ?_
      exact xk_Po.zret rfl (by first | decide | exact hb _) (congrArg (fun z => ((.inl (some (.int z)), 0, _) : xk_R)) (xn_bt (⟨xn_b1 h0, h1⟩)).symm)
    · refine xk_Po.go 1 rfl ?_
      exact xk_Po.zret rfl (by first | decide | exact hb _) (congrArg (fun z => ((.inl (some (.int z)), 0, _) : xk_R)) (xn_bf (fun h => h1 h.2)).symm)
theorem d_isListedAndPresent {j : Nat} (hj : j < 4) (hb : ∀ i, ab i = 0 ∨ ab i = 1) : xk_Ev (xp_P sc) 87 0 [.ref 0, .ref 7, .int (Int32.ofNat j)] [] (cw sl ex ab ta dr md ml mt mc on ct r) (.inl (some (.int (s_b (¬ dr (1 + j) = 0 ∧ ab j = 0)))), 0, cw sl ex ab ta dr md ml mt mc on ct r) := by
  apply xk_Ev.of
  refine xk_Po.go 2 rfl ?_
  refine xk_Po.ci2 rfl rfl (d_lists hj) ?_
  refine xk_Po.br rfl rfl (fun h0 => ?_) (fun h0 => ?_) -- 3 .ifCond .eq 11
  · refine xk_Po.go 1 rfl ?_
    exact xk_Po.zret rfl (by first | decide | exact hb _) (congrArg (fun z => ((.inl (some (.int z)), 0, _) : xk_R)) (xn_bf (fun h => xn_b0 h0 h.1)).symm)
  · refine xk_Po.go 3 rfl ?_
    refine xk_Po.ci2 rfl rfl (c_isAbsent hj hb) ?_
    refine xk_Po.br rfl rfl (fun h1 => ?_) (fun h1 => ?_) -- 8 .ifCond .ne 11
    · refine xk_Po.go 2 rfl ?_
      exact xk_Po.zret rfl (by first | decide | exact hb _) (congrArg (fun z => ((.inl (some (.int z)), 0, _) : xk_R)) (xn_bt (⟨xn_b1 h0, h1⟩)).symm)
    · refine xk_Po.go 1 rfl ?_
      exact xk_Po.zret rfl (by first | decide | exact hb _) (congrArg (fun z => ((.inl (some (.int z)), 0, _) : xk_R)) (xn_bf (fun h => h1 h.2)).symm)
theorem c_isAnyListedPresent (hb : ∀ i, ab i = 0 ∨ ab i = 1) : xk_Ev (xp_P sc) 71 0 [.ref 0, .retAddr 0] [] (cw sl ex ab ta dr md ml mt mc on ct r) (.inl (some (.int (s_any (fun j => ¬ ta (1 + j) = 0 ∧ ab j = 0) 4 0))), 0, cw sl ex ab ta dr md ml mt mc on ct r) := by
  apply xk_Ev.of
  refine xk_Po.go 2 rfl ?_
  refine xk_Po.loop 4 (fun j0 => [.ref 0, .int (Int32.ofNat j0)]) (fun j0 => cw sl ex ab ta dr md ml mt mc on ct r) (fun m0 j0 => fun z => z = (.inl (some (.int (s_any (fun j => ¬ ta (1 + j) = 0 ∧ ab j = 0) m0 j0))), 0, cw sl ex ab ta dr md ml mt mc on ct r)) (fun m0 j0 hj0 ih0 => ?_) ?_
  · have uj0 : j0 < 4 := by omega
    refine xk_Po.go 2 rfl ?_
    refine xk_Po.br rfl rfl (fun hx => absurd ((xn_le (a := 4) (b := j0) (by omega) (by omega)).1 hx) (by omega)) (fun _ => ?_)
    refine xk_Po.go 4 rfl ?_
    refine xk_Po.ci3 rfl rfl (c_isListedAndPresent (by omega) hb) ?_
    refine xk_Po.br rfl rfl (fun h0 => ?_) (fun h0 => ?_) -- 10 .ifCond .eq 13
    · refine xk_Po.go 2 rfl ?_
      rw [← show s_any (fun j => ¬ ta (1 + j) = 0 ∧ ab j = 0) (m0 + 1) j0 = s_any (fun j => ¬ ta (1 + j) = 0 ∧ ab j = 0) m0 (j0 + 1) from if_neg (xn_b0 h0), ← xn_suc j0] at ih0
      exact ih0
    · refine xk_Po.go 1 rfl ?_
      exact xk_Po.zret rfl (by first | decide | exact hb _) (congrArg (fun z => ((.inl (some (.int z)), 0, _) : xk_R)) (if_pos (xn_b1 h0)).symm)
  · refine xk_Po.go 4 rfl ?_
    exact xk_Po.zret rfl (by first | decide | exact hb _) rfl

def s_ws (f : Nat → Int32) (a : Nat) : Int32 := if f (a + 50) = f a then (if f (a + 49) = s_sum f a 49 then (if f a ≤ 0 then 0 else f a) else 0) else 0
theorem c_wholeSerial0 {d s : Nat} (hd : d < 4) (hs : s < 2) : xk_Ev (xp_P sc) 5 0 [.ref 1, .int (Int32.ofNat d), .int (Int32.ofNat s), .retAddr 0, .retAddr 0, .retAddr 0] [] (cw sl ex ab ta dr md ml mt mc on ct r) (.inl (some (.int (if sl (Int32.ofNat (s_start d s) + Int32.ofNat 50).toNatClampNeg = sl (Int32.ofNat (s_start d s)).toNatClampNeg then (if sl (Int32.ofNat (s_start d s) + Int32.ofNat 49).toNatClampNeg = s_sum sl (s_start d s) 49 then (if sl (Int32.ofNat (s_start d s)).toNatClampNeg ≤ 0 then 0 else sl (Int32.ofNat (s_start d s)).toNatClampNeg) else 0) else 0))), 0, cw sl ex ab ta dr md ml mt mc on ct r) := by
  have hz : s_start d s + 51 ≤ 408 := by
    unfold s_start
    omega
  apply xk_Ev.of
  refine xk_Po.go 2 rfl ?_
  refine xk_Po.ci2 rfl rfl (c_startOfSlotN) ?_
  refine xk_Po.go 4 rfl ?_
  refine xk_Po.ok rfl rfl (xn_ix (by omega) (by omega)) ?_ -- .iaload
  refine xk_Po.go 6 rfl ?_
  refine xk_Po.ok rfl rfl (xn_ixa (j := 50) (by omega) (by omega)) ?_ -- .iaload
  refine xk_Po.go 1 rfl ?_
  refine xk_Po.br rfl rfl (fun h0 => ?_) (fun h0 => ?_) -- 16 .if_icmp .ne 30
  · refine xk_Po.go 5 rfl ?_
    refine xk_Po.ok rfl rfl (xn_ixa (j := 49) (by omega) (by omega)) ?_ -- .iaload
    refine xk_Po.go 3 rfl ?_
    refine xk_Po.ci2 rfl rfl (l_sumOf (by omega)) ?_
    refine xk_Po.br rfl rfl (fun h1 => ?_) (fun h1 => ?_) -- 27 .if_icmp .ne 30
    · refine xk_Po.go 6 rfl ?_
      refine xk_Po.br rfl rfl (fun h2 => ?_) (fun h2 => ?_) -- 35 .ifCond .le 38
      · refine xk_Po.go 1 rfl ?_
        exact xk_Po.iret rfl (congrArg (fun z => ((.inl (some (.int z)), 0, _) : xk_R)) ((if_pos h0).trans ((if_pos h1).trans (if_pos h2))).symm)
      · refine xk_Po.go 2 rfl ?_
        exact xk_Po.iret rfl (congrArg (fun z => ((.inl (some (.int z)), 0, _) : xk_R)) ((if_pos h0).trans ((if_pos h1).trans (if_neg h2))).symm)
    · refine xk_Po.go 5 rfl ?_
      exact xk_Po.iret rfl (congrArg (fun z => ((.inl (some (.int z)), 0, _) : xk_R)) ((if_pos h0).trans (if_neg h1)).symm)
  · refine xk_Po.go 5 rfl ?_
    exact xk_Po.iret rfl (congrArg (fun z => ((.inl (some (.int z)), 0, _) : xk_R)) (if_neg h0).symm)
theorem c_wholeSerial {d s : Nat} (hd : d < 4) (hs : s < 2) : xk_Ev (xp_P sc) 5 0 [.ref 1, .int (Int32.ofNat d), .int (Int32.ofNat s), .retAddr 0, .retAddr 0, .retAddr 0] [] (cw sl ex ab ta dr md ml mt mc on ct r) (.inl (some (.int (s_ws sl (s_start d s)))), 0, cw sl ex ab ta dr md ml mt mc on ct r) := by
  have hz : s_start d s + 51 ≤ 408 := by
    unfold s_start
    omega
  have h := c_wholeSerial0 (sc := sc) (sl := sl) (ex := ex) (ab := ab) (ta := ta) (dr := dr) (md := md) (ml := ml) (mt := mt) (mc := mc) (on := on) (ct := ct) (r := r) hd hs
  simp only [xn_nata (a := s_start d s) (j := 50) (by omega), xn_nata (a := s_start d s) (j := 49) (by omega), xn_nat (j := s_start d s) (by omega)] at h
  exact h
theorem c_slotToWrite {d : Nat} (hd : d < 4) : xk_Ev (xp_P sc) 7 0 [.ref 1, .int (Int32.ofNat d)] [] (cw sl ex ab ta dr md ml mt mc on ct r) (.inl (some (.int (if s_ws sl (s_start d 1) < s_ws sl (s_start d 0) then 1 else 0))), 0, cw sl ex ab ta dr md ml mt mc on ct r) := by
  apply xk_Ev.of
  refine xk_Po.go 3 rfl ?_
  refine xk_Po.ci3 rfl rfl (c_wholeSerial (s := 0) hd (by omega)) ?_
  refine xk_Po.go 3 rfl ?_
  refine xk_Po.ci3 rfl rfl (c_wholeSerial (s := 1) hd (by omega)) ?_
  refine xk_Po.br rfl rfl (fun h0 => ?_) (fun h0 => ?_) -- 8 .if_icmp .gt 11
  · refine xk_Po.go 1 rfl ?_
    exact xk_Po.iret rfl (congrArg (fun z => ((.inl (some (.int z)), 0, _) : xk_R)) (if_pos h0).symm)
  · refine xk_Po.go 2 rfl ?_
    exact xk_Po.iret rfl (congrArg (fun z => ((.inl (some (.int z)), 0, _) : xk_R)) (if_neg h0).symm)
theorem c_hasWhole {d : Nat} {x : Int32} (hd : d < 4) : xk_Ev (xp_P sc) 6 0 [.ref 1, .int (Int32.ofNat d), .int x] [] (cw sl ex ab ta dr md ml mt mc on ct r) (.inl (some (.int (s_b (s_ws sl (s_start d 0) = x ∨ s_ws sl (s_start d 1) = x)))), 0, cw sl ex ab ta dr md ml mt mc on ct r) := by
  apply xk_Ev.of
  refine xk_Po.go 3 rfl ?_
  refine xk_Po.ci3 rfl rfl (c_wholeSerial (s := 0) hd (by omega)) ?_
  refine xk_Po.go 1 rfl ?_
  refine xk_Po.br rfl rfl (fun h0 => ?_) (fun h0 => ?_) -- 5 .if_icmp .eq 12
  · refine xk_Po.go 2 rfl ?_
    exact xk_Po.zret rfl (by first | decide | exact hb _) (congrArg (fun z => ((.inl (some (.int z)), 0, _) : xk_R)) (xn_bt (.inl h0)).symm)
  · refine xk_Po.go 3 rfl ?_
    refine xk_Po.ci3 rfl rfl (c_wholeSerial (s := 1) hd (by omega)) ?_
    refine xk_Po.go 1 rfl ?_
    refine xk_Po.br rfl rfl (fun h1 => ?_) (fun h1 => ?_) -- 11 .if_icmp .ne 14
    · refine xk_Po.go 2 rfl ?_
      exact xk_Po.zret rfl (by first | decide | exact hb _) (congrArg (fun z => ((.inl (some (.int z)), 0, _) : xk_R)) (xn_bt (.inr h1)).symm)
    · refine xk_Po.go 1 rfl ?_
      exact xk_Po.zret rfl (by first | decide | exact hb _) (congrArg (fun z => ((.inl (some (.int z)), 0, _) : xk_R)) (xn_bf (fun h => h.elim h0 h1)).symm)
end XkDsk
end
section
/-! More of the class's methods that write no word. -/
section XkMor
variable {sc : Nat × (Nat → Int32)} {sl ex ab ta dr : Nat → Int32} {md ml mt mc on ct : Int32} {r w : xk_W}
def s_col (x : Int32) : Int32 := if 1 < x % 32 / 4 then x % 32 / 4 else 1
abbrev s_rd (t ab : Nat → Int32) (j : Nat) : Prop := ¬ t (9 + j) - 1 = Int32.ofInt (-1) ∧ ab (s_disk (t (9 + j) - 1)).toNatClampNeg = 0
def s_lr (t ab : Nat → Int32) (b : Nat) : Nat → Nat → Int32
  | 0, _ => -1
  | m + 1, l => if s_rd t ab (b + l) then Int32.ofNat (b + l) else s_lr t ab b m (l + 1)
def s_nwI (sl ab : Nat → Int32) (d : Nat) : Nat → Int32 × Int32 → Int32 × Int32
  | 0, a => a
  | s + 1, a => if ab d = 0 then (if s_ws sl (s_start d s) ≤ (s_nwI sl ab d s a).2 then s_nwI sl ab d s a else (Int32.ofNat (s_start d s), s_ws sl (s_start d s))) else s_nwI sl ab d s a
def s_nwO (sl ab : Nat → Int32) : Nat → Int32 × Int32
  | 0 => (-1, 0)
  | d + 1 => s_nwI sl ab d 2 (s_nwO sl ab d)
theorem s_cpy (f g : Nat → Int32) (hf : ∀ i, 51 ≤ i → f i = 0) (hg : ∀ i, 51 ≤ i → g i = 0) : va_cpy f g 0 0 51 = f := by
  funext i
  unfold va_cpy
  by_cases h : i < 51
  · rw [if_pos ⟨by omega, by omega⟩]
    exact congrArg f (by omega)
  · rw [if_neg (by omega), hf i (by omega), hg i (by omega)]
theorem c_columnsOf0 {j : Nat} (hj : j < 4) : xk_Ev (xp_P sc) 30 0 [.ref 5, .int (Int32.ofNat j)] [] (cw sl ex ab ta dr md ml mt mc on ct r) (.inl (some (.int (s_col (ta (Int32.ofNat 5 + Int32.ofNat j).toNatClampNeg)))), 0, cw sl ex ab ta dr md ml mt mc on ct r) := by
  apply xk_Ev.of
  refine xk_Po.go 6 rfl ?_
  refine xk_Po.ok rfl rfl (xn_ixa (a := 5) (j := j) (n := 51) (by omega) (by omega)) ?_ -- .iaload
  refine xk_Po.go 5 rfl ?_
  exact xk_Po.iret rfl rfl
theorem c_columnsOf {j : Nat} (hj : j < 4) : xk_Ev (xp_P sc) 30 0 [.ref 5, .int (Int32.ofNat j)] [] (cw sl ex ab ta dr md ml mt mc on ct r) (.inl (some (.int (s_col (ta (5 + j))))), 0, cw sl ex ab ta dr md ml mt mc on ct r) := by
  have h := c_columnsOf0 (sc := sc) (sl := sl) (ex := ex) (ab := ab) (ta := ta) (dr := dr) (md := md) (ml := ml) (mt := mt) (mc := mc) (on := on) (ct := ct) (r := r) hj
  simp only [xn_nata (a := 5) (j := j) (by omega)] at h
  exact h
theorem c_describe0 {j : Nat} {a b c : Int32} (hj : j < 4) : xk_Ev (xp_P sc) 28 0 [.ref 5, .int (Int32.ofNat j), .int a, .int b, .int c] [] (cw sl ex ab ta dr md ml mt mc on ct r) (.inl none, 0, cw sl ex ab (upd ta (Int32.ofNat 5 + Int32.ofNat j).toNatClampNeg (1 + a + 4 * b + 32 * c)) dr md ml mt mc on ct r) := by
  apply xk_Ev.of
  refine xk_Po.go 16 rfl ?_
  refine xk_Po.ok rfl rfl (xn_ixa (a := 5) (j := j) (n := 51) (by omega) (by omega)) ?_ -- .iastore
  exact xk_Po.ret rfl rfl
theorem c_describe {j : Nat} {a b c : Int32} (hj : j < 4) : xk_Ev (xp_P sc) 28 0 [.ref 5, .int (Int32.ofNat j), .int a, .int b, .int c] [] (cw sl ex ab ta dr md ml mt mc on ct r) (.inl none, 0, cw sl ex ab (upd ta (5 + j) (1 + a + 4 * b + 32 * c)) dr md ml mt mc on ct r) := by
  have h := c_describe0 (sc := sc) (sl := sl) (ex := ex) (ab := ab) (ta := ta) (dr := dr) (md := md) (ml := ml) (mt := mt) (mc := mc) (on := on) (ct := ct) (r := r) (a := a) (b := b) (c := c) hj
  simp only [xn_nata (a := 5) (j := j) (by omega)] at h
  exact h
theorem c_seal {x : Int32} : xk_Ev (xp_P sc) 19 0 [.ref 5, .int x] [] (cw sl ex ab ta dr md ml mt mc on ct r) (.inl none, 0, cw sl ex ab (upd (upd (upd ta 0 x) 49 (s_sum (upd ta 0 x) 0 49)) 50 x) dr md ml mt mc on ct r) := by
  apply xk_Ev.of
  refine xk_Po.go 11 rfl ?_
  refine xk_Po.ci2 rfl rfl (c_sumOf (a := 0) (by omega)) ?_
  refine xk_Po.go 6 rfl ?_
  exact xk_Po.ret rfl rfl
theorem c_countFree {d : Nat} (hd : d < 4) : xk_Ev (xp_P sc) 90 0 [.ref 0, .ref 5, .int (Int32.ofNat d)] [] (cw sl ex ab ta dr md ml mt mc on ct r) (.inl (some (.int (ta (1 + d) - s_cnt (fun j => s_disk (ta (9 + j) - 1) = Int32.ofNat d) 40 - (if s_disk mt = Int32.ofNat d then 1 else 0)))), 0, cw sl ex ab ta dr md ml mt mc on ct r) := by
  apply xk_Ev.of
  refine xk_Po.go 2 rfl ?_
  refine xk_Po.ci2 rfl rfl (c_extentsOfN hd) ?_
  refine xk_Po.go 2 rfl ?_
  refine xk_Po.ci2 rfl rfl (c_legsOn) ?_
  refine xk_Po.go 4 rfl ?_
  refine xk_Po.ci1 rfl rfl (c_diskOf) ?_
  refine xk_Po.go 1 rfl ?_
  refine xk_Po.br rfl rfl (fun h0 => ?_) (fun h0 => ?_) -- 12 .if_icmp .ne 15
  · refine xk_Po.go 3 rfl ?_
    exact xk_Po.iret rfl (by rw [if_pos h0]; rfl)
  · refine xk_Po.go 2 rfl ?_
    exact xk_Po.iret rfl (by rw [if_neg h0]; rfl)
theorem c_clear0  : xk_Ev (xp_P sc) 18 0 [.ref 5, .retAddr 0] [] (cw sl ex ab ta dr md ml mt mc on ct r) (.inl none, 0, cw sl ex ab (s_clr ta (fun _ => True) 0 51) dr md ml mt mc on ct r) := by
  apply xk_Ev.of
  refine xk_Po.go 2 rfl ?_
  refine xk_Po.loop 51 (fun j0 => [.ref 5, .int (Int32.ofNat j0)]) (fun j0 => cw sl ex ab (s_clr ta (fun _ => True) 0 j0) dr md ml mt mc on ct r) (fun m0 j0 => _) (fun m0 j0 hj0 ih0 => ?_) ?_
  · have uj0 : j0 < 51 := by omega
    refine xk_Po.go 2 rfl ?_
    refine xk_Po.br rfl rfl (fun hx => absurd ((xn_le (a := 51) (b := j0) (by omega) (by omega)).1 hx) (by omega)) (fun _ => ?_)
    refine xk_Po.go 4 rfl ?_
    refine xk_Po.ok rfl rfl (xn_ix (j := j0) (by omega) (by omega)) ?_ -- .iastore
    refine xk_Po.go 2 rfl ?_
    rw [show s_clr ta (fun _ => True) 0 (j0 + 1) = upd (s_clr ta (fun _ => True) 0 j0) (Int32.ofNat j0).toNatClampNeg (Int32.ofInt 0) from by rw [xn_nat (by omega)]; show upd (s_clr ta (fun _ => True) 0 j0) (0 + j0) 0 = _; rw [Nat.zero_add]; rfl, ← xn_suc j0] at ih0
    exact ih0
  · refine xk_Po.go 3 rfl ?_
    exact xk_Po.ret rfl rfl
theorem d_columnsOf0 {j : Nat} (hj : j < 4) : xk_Ev (xp_P sc) 30 0 [.ref 7, .int (Int32.ofNat j)] [] (cw sl ex ab ta dr md ml mt mc on ct r) (.inl (some (.int (s_col (dr (Int32.ofNat 5 + Int32.ofNat j).toNatClampNeg)))), 0, cw sl ex ab ta dr md ml mt mc on ct r) := by
  apply xk_Ev.of
  refine xk_Po.go 6 rfl ?_
  refine xk_Po.ok rfl rfl (xn_ixa (a := 5) (j := j) (n := 51) (by omega) (by omega)) ?_ -- .iaload
  refine xk_Po.go 5 rfl ?_
  exact xk_Po.iret rfl rfl
theorem d_columnsOf {j : Nat} (hj : j < 4) : xk_Ev (xp_P sc) 30 0 [.ref 7, .int (Int32.ofNat j)] [] (cw sl ex ab ta dr md ml mt mc on ct r) (.inl (some (.int (s_col (dr (5 + j))))), 0, cw sl ex ab ta dr md ml mt mc on ct r) := by
  have h := d_columnsOf0 (sc := sc) (sl := sl) (ex := ex) (ab := ab) (ta := ta) (dr := dr) (md := md) (ml := ml) (mt := mt) (mc := mc) (on := on) (ct := ct) (r := r) hj
  simp only [xn_nata (a := 5) (j := j) (by omega)] at h
  exact h
theorem d_describe0 {j : Nat} {a b c : Int32} (hj : j < 4) : xk_Ev (xp_P sc) 28 0 [.ref 7, .int (Int32.ofNat j), .int a, .int b, .int c] [] (cw sl ex ab ta dr md ml mt mc on ct r) (.inl none, 0, cw sl ex ab ta (upd dr (Int32.ofNat 5 + Int32.ofNat j).toNatClampNeg (1 + a + 4 * b + 32 * c)) md ml mt mc on ct r) := by
  apply xk_Ev.of
  refine xk_Po.go 16 rfl ?_
  refine xk_Po.ok rfl rfl (xn_ixa (a := 5) (j := j) (n := 51) (by omega) (by omega)) ?_ -- .iastore
  exact xk_Po.ret rfl rfl
theorem d_describe {j : Nat} {a b c : Int32} (hj : j < 4) : xk_Ev (xp_P sc) 28 0 [.ref 7, .int (Int32.ofNat j), .int a, .int b, .int c] [] (cw sl ex ab ta dr md ml mt mc on ct r) (.inl none, 0, cw sl ex ab ta (upd dr (5 + j) (1 + a + 4 * b + 32 * c)) md ml mt mc on ct r) := by
  have h := d_describe0 (sc := sc) (sl := sl) (ex := ex) (ab := ab) (ta := ta) (dr := dr) (md := md) (ml := ml) (mt := mt) (mc := mc) (on := on) (ct := ct) (r := r) (a := a) (b := b) (c := c) hj
  simp only [xn_nata (a := 5) (j := j) (by omega)] at h
  exact h
theorem d_seal {x : Int32} : xk_Ev (xp_P sc) 19 0 [.ref 7, .int x] [] (cw sl ex ab ta dr md ml mt mc on ct r) (.inl none, 0, cw sl ex ab ta (upd (upd (upd dr 0 x) 49 (s_sum (upd dr 0 x) 0 49)) 50 x) md ml mt mc on ct r) := by
  apply xk_Ev.of
  refine xk_Po.go 11 rfl ?_
  refine xk_Po.ci2 rfl rfl (d_sumOf (a := 0) (by omega)) ?_
  refine xk_Po.go 6 rfl ?_
  exact xk_Po.ret rfl rfl
theorem d_countFree {d : Nat} (hd : d < 4) : xk_Ev (xp_P sc) 90 0 [.ref 0, .ref 7, .int (Int32.ofNat d)] [] (cw sl ex ab ta dr md ml mt mc on ct r) (.inl (some (.int (dr (1 + d) - s_cnt (fun j => s_disk (dr (9 + j) - 1) = Int32.ofNat d) 40 - (if s_disk mt = Int32.ofNat d then 1 else 0)))), 0, cw sl ex ab ta dr md ml mt mc on ct r) := by
  apply xk_Ev.of
  refine xk_Po.go 2 rfl ?_
  refine xk_Po.ci2 rfl rfl (d_extentsOfN hd) ?_
  refine xk_Po.go 2 rfl ?_
  refine xk_Po.ci2 rfl rfl (d_legsOn) ?_
  refine xk_Po.go 4 rfl ?_
  refine xk_Po.ci1 rfl rfl (c_diskOf) ?_
  refine xk_Po.go 1 rfl ?_
  refine xk_Po.br rfl rfl (fun h0 => ?_) (fun h0 => ?_) -- 12 .if_icmp .ne 15
  · refine xk_Po.go 3 rfl ?_
    exact xk_Po.iret rfl (by rw [if_pos h0]; rfl)
  · refine xk_Po.go 2 rfl ?_
    exact xk_Po.iret rfl (by rw [if_neg h0]; rfl)
theorem d_clear0  : xk_Ev (xp_P sc) 18 0 [.ref 7, .retAddr 0] [] (cw sl ex ab ta dr md ml mt mc on ct r) (.inl none, 0, cw sl ex ab ta (s_clr dr (fun _ => True) 0 51) md ml mt mc on ct r) := by
  apply xk_Ev.of
  refine xk_Po.go 2 rfl ?_
  refine xk_Po.loop 51 (fun j0 => [.ref 7, .int (Int32.ofNat j0)]) (fun j0 => cw sl ex ab ta (s_clr dr (fun _ => True) 0 j0) md ml mt mc on ct r) (fun m0 j0 => _) (fun m0 j0 hj0 ih0 => ?_) ?_
  · have uj0 : j0 < 51 := by omega
    refine xk_Po.go 2 rfl ?_
    refine xk_Po.br rfl rfl (fun hx => absurd ((xn_le (a := 51) (b := j0) (by omega) (by omega)).1 hx) (by omega)) (fun _ => ?_)
    refine xk_Po.go 4 rfl ?_
    refine xk_Po.ok rfl rfl (xn_ix (j := j0) (by omega) (by omega)) ?_ -- .iastore
    refine xk_Po.go 2 rfl ?_
    rw [show s_clr dr (fun _ => True) 0 (j0 + 1) = upd (s_clr dr (fun _ => True) 0 j0) (Int32.ofNat j0).toNatClampNeg (Int32.ofInt 0) from by rw [xn_nat (by omega)]; show upd (s_clr dr (fun _ => True) 0 j0) (0 + j0) 0 = _; rw [Nat.zero_add]; rfl, ← xn_suc j0] at ih0
    exact ih0
  · refine xk_Po.go 3 rfl ?_
    exact xk_Po.ret rfl rfl
theorem c_newestWholeSlot (hb : ∀ i, ab i = 0 ∨ ab i = 1) : xk_Ev (xp_P sc) 8 0 [.ref 1, .retAddr 0, .retAddr 0, .retAddr 0, .retAddr 0, .retAddr 0] [] (cw sl ex ab ta dr md ml mt mc on ct r) (.inl (some (.int ((s_nwO sl ab 4).1))), 0, cw sl ex ab ta dr md ml mt mc on ct r) := by
  apply xk_Ev.of
  refine xk_Po.go 6 rfl ?_
  refine xk_Po.loopJ 4 (fun j0 x y => [.ref 1, .int (s_nwO sl ab j0).1, .int (s_nwO sl ab j0).2, .int (Int32.ofNat j0), x, y]) (fun j0 => cw sl ex ab ta dr md ml mt mc on ct r) (fun m0 j0 => _) (fun m0 j0 x y hj0 ih0 => ?_) (fun x y => ?_) (.retAddr 0) (.retAddr 0)
  · have uj0 : j0 < 4 := by omega
    refine xk_Po.go 2 rfl ?_
    refine xk_Po.br rfl rfl (fun hx => absurd ((xn_le (a := 4) (b := j0) (by omega) (by omega)).1 hx) (by omega)) (fun _ => ?_)
    refine xk_Po.go 2 rfl ?_
    refine xk_Po.loopJ 2 (fun j1 x y => [.ref 1, .int (s_nwI sl ab j0 j1 (s_nwO sl ab j0)).1, .int (s_nwI sl ab j0 j1 (s_nwO sl ab j0)).2, .int (Int32.ofNat j0), .int (Int32.ofNat j1), x]) (fun j1 => cw sl ex ab ta dr md ml mt mc on ct r) (fun m1 j1 => _) (fun m1 j1 x y hj1 ih1 => ?_) (fun x y => ?_) y (.retAddr 0)
    · have uj1 : j1 < 2 := by omega
      refine xk_Po.go 2 rfl ?_
      refine xk_Po.br rfl rfl (fun hx => absurd ((xn_le (a := 2) (b := j1) (by omega) (by omega)).1 hx) (by omega)) (fun _ => ?_)
      refine xk_Po.go 3 rfl ?_
      refine xk_Po.ci3 rfl rfl (c_wholeSerial (by omega) (by omega)) ?_
      refine xk_Po.go 3 rfl ?_
      refine xk_Po.ci2 rfl rfl (c_isAbsent (by omega) hb) ?_
      refine xk_Po.br rfl rfl (fun h0 => ?_) (fun h0 => ?_) -- 22 .ifCond .ne 32
      · refine xk_Po.go 2 rfl ?_
        refine xk_Po.br rfl rfl (fun h1 => ?_) (fun h1 => ?_) -- 25 .if_icmp .le 32
        · refine xk_Po.go 2 rfl ?_
          rw [show s_nwI sl ab j0 (j1 + 1) (s_nwO sl ab j0) = s_nwI sl ab j0 j1 (s_nwO sl ab j0) from (if_pos h0).trans (if_pos h1), ← xn_suc j1] at ih1
          exact ih1 _ y
        · refine xk_Po.go 2 rfl ?_
          refine xk_Po.ci2 rfl rfl (c_startOfSlotN) ?_
          refine xk_Po.go 5 rfl ?_
          rw [show s_nwI sl ab j0 (j1 + 1) (s_nwO sl ab j0) = (Int32.ofNat (s_start j0 j1), s_ws sl (s_start j0 j1)) from (if_pos h0).trans (if_neg h1), ← xn_suc j1] at ih1
          exact ih1 _ y
      · refine xk_Po.go 2 rfl ?_
        rw [show s_nwI sl ab j0 (j1 + 1) (s_nwO sl ab j0) = s_nwI sl ab j0 j1 (s_nwO sl ab j0) from if_neg h0, ← xn_suc j1] at ih1
        exact ih1 _ y
    · refine xk_Po.go 5 rfl ?_
      rw [show s_nwO sl ab (j0 + 1) = s_nwI sl ab j0 2 (s_nwO sl ab j0) from rfl, ← xn_suc j0] at ih0
      exact ih0 _ _
  · refine xk_Po.go 4 rfl ?_
    exact xk_Po.iret rfl rfl
theorem c_hasCopied {g x : Int32} : xk_Ev (xp_P sc) 16 0 [.ref 9, .int g, .int x] [] (cw sl ex ab ta dr md ml mt mc on ct r) (.inl (some (.int (s_b (ml = g ∧ ¬ mc ≤ x)))), 0, cw sl ex ab ta dr md ml mt mc on ct r) := by
  apply xk_Ev.of
  refine xk_Po.go 3 rfl ?_
  refine xk_Po.br rfl rfl (fun h0 => ?_) (fun h0 => ?_) -- 3 .if_icmp .ne 10
  · refine xk_Po.go 3 rfl ?_
    refine xk_Po.br rfl rfl (fun h1 => ?_) (fun h1 => ?_) -- 7 .if_icmp .ge 10
    · refine xk_Po.go 1 rfl ?_
      exact xk_Po.zret rfl (by first | decide | exact hb _) (congrArg (fun z => ((.inl (some (.int z)), 0, _) : xk_R)) (xn_bf (fun h => h.2 h1)).symm)
    · refine xk_Po.go 2 rfl ?_
      exact xk_Po.zret rfl (by first | decide | exact hb _) (congrArg (fun z => ((.inl (some (.int z)), 0, _) : xk_R)) (xn_bt (⟨h0, h1⟩)).symm)
  · refine xk_Po.go 1 rfl ?_
    exact xk_Po.zret rfl (by first | decide | exact hb _) (congrArg (fun z => ((.inl (some (.int z)), 0, _) : xk_R)) (xn_bf (fun h => h0 h.1)).symm)
theorem c_isAbsentI {g : Int32} (hg : ∃ d, d < 4 ∧ g = Int32.ofNat d) (hb : ∀ i, ab i = 0 ∨ ab i = 1) : xk_Ev (xp_P sc) 0 0 [.ref 1, .int g] [] (cw sl ex ab ta dr md ml mt mc on ct r) (.inl (some (.int (ab g.toNatClampNeg))), 0, cw sl ex ab ta dr md ml mt mc on ct r) := by
  obtain ⟨d, hd, rfl⟩ := hg
  exact c_isAbsent0 hd hb
theorem c_isReadable {j : Nat} (hj : j < 40) (hb : ∀ i, ab i = 0 ∨ ab i = 1) (ok : ∀ j, j < 40 → ¬ ta (9 + j) - 1 = Int32.ofInt (-1) → ∃ d, d < 4 ∧ s_disk (ta (9 + j) - 1) = Int32.ofNat d) : xk_Ev (xp_P sc) 79 0 [.ref 0, .int (Int32.ofNat j), .retAddr 0] [] (cw sl ex ab ta dr md ml mt mc on ct r) (.inl (some (.int (s_b (s_rd ta ab j)))), 0, cw sl ex ab ta dr md ml mt mc on ct r) := by
  apply xk_Ev.of
  refine xk_Po.go 3 rfl ?_
  refine xk_Po.ci2 rfl rfl (c_spotOfN hj) ?_
  refine xk_Po.go 3 rfl ?_
  refine xk_Po.br rfl rfl (fun h0 => ?_) (fun h0 => ?_) -- 7 .if_icmp .eq 16
  · refine xk_Po.go 1 rfl ?_
    exact xk_Po.zret rfl (by first | decide | exact hb _) (congrArg (fun z => ((.inl (some (.int z)), 0, _) : xk_R)) (xn_bf (fun h => h.1 h0)).symm)
  · refine xk_Po.go 3 rfl ?_
    refine xk_Po.ci1 rfl rfl (c_diskOf) ?_
    refine xk_Po.ci2 rfl rfl (c_isAbsentI (ok j hj h0) hb) ?_
    refine xk_Po.br rfl rfl (fun h1 => ?_) (fun h1 => ?_) -- 13 .ifCond .ne 16
    · refine xk_Po.go 2 rfl ?_
      exact xk_Po.zret rfl (by first | decide | exact hb _) (congrArg (fun z => ((.inl (some (.int z)), 0, _) : xk_R)) (xn_bt (⟨h0, h1⟩)).symm)
    · refine xk_Po.go 1 rfl ?_
      exact xk_Po.zret rfl (by first | decide | exact hb _) (congrArg (fun z => ((.inl (some (.int z)), 0, _) : xk_R)) (xn_bf (fun h => h1 h.2)).symm)
theorem c_leastReadableLeg {v e : Nat} (hv : v < 4) (he : e < 5) (hb : ∀ i, ab i = 0 ∨ ab i = 1) (ok : ∀ j, j < 40 → ¬ ta (9 + j) - 1 = Int32.ofInt (-1) → ∃ d, d < 4 ∧ s_disk (ta (9 + j) - 1) = Int32.ofNat d) : xk_Ev (xp_P sc) 80 0 [.ref 0, .int (Int32.ofNat v), .int (Int32.ofNat e), .retAddr 0, .retAddr 0] [] (cw sl ex ab ta dr md ml mt mc on ct r) (.inl (some (.int (s_lr ta ab (v * 10 + e * 2) 2 0))), 0, cw sl ex ab ta dr md ml mt mc on ct r) := by
  apply xk_Ev.of
  refine xk_Po.go 2 rfl ?_
  refine xk_Po.loopJ 2 (fun j0 x y => [.ref 0, .int (Int32.ofNat v), .int (Int32.ofNat e), .int (Int32.ofNat j0), x]) (fun j0 => cw sl ex ab ta dr md ml mt mc on ct r) (fun m0 j0 => fun z => z = (.inl (some (.int (s_lr ta ab (v * 10 + e * 2) m0 j0))), 0, cw sl ex ab ta dr md ml mt mc on ct r)) (fun m0 j0 x y hj0 ih0 => ?_) (fun x y => ?_) (.retAddr 0) (.retAddr 0)
  · have uj0 : j0 < 2 := by omega
    refine xk_Po.go 2 rfl ?_
    refine xk_Po.br rfl rfl (fun hx => absurd ((xn_le (a := 2) (b := j0) (by omega) (by omega)).1 hx) (by omega)) (fun _ => ?_)
    refine xk_Po.go 3 rfl ?_
    refine xk_Po.ci3 rfl rfl (c_legOfN) ?_
    refine xk_Po.go 3 rfl ?_
    refine xk_Po.ci2 rfl rfl (c_isReadable (by omega) hb ok) ?_
    refine xk_Po.br rfl rfl (fun h0 => ?_) (fun h0 => ?_) -- 13 .ifCond .eq 16
    · refine xk_Po.go 2 rfl ?_
      rw [← show s_lr ta ab (v * 10 + e * 2) (m0 + 1) j0 = s_lr ta ab (v * 10 + e * 2) m0 (j0 + 1) from if_neg (xn_b0 h0), ← xn_suc j0] at ih0
      exact ih0 _ y
    · refine xk_Po.go 1 rfl ?_
      exact xk_Po.iret rfl (congrArg (fun z => ((.inl (some (.int z)), 0, _) : xk_R)) (if_pos (xn_b1 h0)).symm)
  · refine xk_Po.go 4 rfl ?_
    exact xk_Po.iret rfl rfl
theorem c_lostLeg {v e : Nat} (hv : v < 4) (he : e < 5) : xk_Ev (xp_P sc) 100 0 [.ref 0, .int (Int32.ofNat v), .int (Int32.ofNat e), .retAddr 0, .retAddr 0] [] (cw sl ex ab ta dr md ml mt mc on ct r) (.inl (some (.int (if ta (9 + (v * 10 + e * 2 + 0)) - 1 = Int32.ofInt (-1) then (if ta (9 + (v * 10 + e * 2 + 1)) - 1 = Int32.ofInt (-1) then -1 else 0) else (if ta (9 + (v * 10 + e * 2 + 1)) - 1 = Int32.ofInt (-1) then 1 else -1)))), 0, cw sl ex ab ta dr md ml mt mc on ct r) := by
  apply xk_Ev.of
  refine xk_Po.go 5 rfl ?_
  refine xk_Po.ci3 rfl rfl (c_legOfN (l := 0)) ?_
  refine xk_Po.ci2 rfl rfl (c_spotOfN (by omega)) ?_
  refine xk_Po.go 1 rfl ?_
  refine xk_Po.br rfl rfl (fun h0 => ?_) (fun h0 => ?_) -- 8 .if_icmp .eq 11
  · refine xk_Po.go 7 rfl ?_
    refine xk_Po.ci3 rfl rfl (c_legOfN (l := 1)) ?_
    refine xk_Po.ci2 rfl rfl (c_spotOfN (by omega)) ?_
    refine xk_Po.go 1 rfl ?_
    refine xk_Po.br rfl rfl (fun h1 => ?_) (fun h1 => ?_) -- 21 .if_icmp .eq 24
    · refine xk_Po.go 6 rfl ?_
      exact xk_Po.iret rfl (congrArg (fun z => ((.inl (some (.int z)), 0, _) : xk_R)) ((if_pos h0).trans (if_pos h1)).symm)
    · refine xk_Po.go 9 rfl ?_
      exact xk_Po.iret rfl (congrArg (fun z => ((.inl (some (.int z)), 0, _) : xk_R)) ((if_pos h0).trans (if_neg h1)).symm)
  · refine xk_Po.go 8 rfl ?_
    refine xk_Po.ci3 rfl rfl (c_legOfN (l := 1)) ?_
    refine xk_Po.ci2 rfl rfl (c_spotOfN (by omega)) ?_
    refine xk_Po.go 1 rfl ?_
    refine xk_Po.br rfl rfl (fun h1 => ?_) (fun h1 => ?_) -- 21 .if_icmp .eq 24
    · refine xk_Po.go 9 rfl ?_
      exact xk_Po.iret rfl (congrArg (fun z => ((.inl (some (.int z)), 0, _) : xk_R)) ((if_neg h0).trans (if_pos h1)).symm)
    · refine xk_Po.go 7 rfl ?_
      exact xk_Po.iret rfl (congrArg (fun z => ((.inl (some (.int z)), 0, _) : xk_R)) ((if_neg h0).trans (if_neg h1)).symm)
theorem c_mayHave {c n : Int32} : xk_Ev (xp_P sc) 73 0 [.int c, .int n] [] (w) (.inl (some (.int (s_b (¬ n < Int32.ofInt 1 ∧ ¬ Int32.ofInt 5 < n ∧ ¬ c < Int32.ofInt 1 ∧ n % c = 0)))), 0, w) := by
  apply xk_Ev.of
  refine xk_Po.go 2 rfl ?_
  refine xk_Po.br rfl rfl (fun h0 => ?_) (fun h0 => ?_) -- 2 .if_icmp .lt 15
  · refine xk_Po.go 1 rfl ?_
    exact xk_Po.zret rfl (by first | decide | exact hb _) (congrArg (fun z => ((.inl (some (.int z)), 0, _) : xk_R)) (xn_bf (fun h => h.1 h0)).symm)
  · refine xk_Po.go 2 rfl ?_
    refine xk_Po.br rfl rfl (fun h1 => ?_) (fun h1 => ?_) -- 5 .if_icmp .gt 15
    · refine xk_Po.go 1 rfl ?_
      exact xk_Po.zret rfl (by first | decide | exact hb _) (congrArg (fun z => ((.inl (some (.int z)), 0, _) : xk_R)) (xn_bf (fun h => h.2.1 h1)).symm)
    · refine xk_Po.go 2 rfl ?_
      refine xk_Po.br rfl rfl (fun h2 => ?_) (fun h2 => ?_) -- 8 .if_icmp .lt 15
      · refine xk_Po.go 1 rfl ?_
        exact xk_Po.zret rfl (by first | decide | exact hb _) (congrArg (fun z => ((.inl (some (.int z)), 0, _) : xk_R)) (xn_bf (fun h => h.2.2.1 h2)).symm)
      · refine xk_Po.go 2 rfl ?_
        refine xk_Po.no rfl rfl (fun e => h2 (by rw [e]; decide)) ?_ -- .irem
        refine xk_Po.br rfl rfl (fun h3 => ?_) (fun h3 => ?_) -- 12 .ifCond .ne 15
        · refine xk_Po.go 2 rfl ?_
          exact xk_Po.zret rfl (by first | decide | exact hb _) (congrArg (fun z => ((.inl (some (.int z)), 0, _) : xk_R)) (xn_bt (⟨h0, h1, h2, h3⟩)).symm)
        · refine xk_Po.go 1 rfl ?_
          exact xk_Po.zret rfl (by first | decide | exact hb _) (congrArg (fun z => ((.inl (some (.int z)), 0, _) : xk_R)) (xn_bf (fun h => h3 h.2.2.2)).symm)
theorem c_isShape {k c : Int32} : xk_Ev (xp_P sc) 72 0 [.int k, .int c] [] (w) (.inl (some (.int (s_b ((k = Int32.ofInt 1 ∧ (c = Int32.ofInt 2 ∨ c = Int32.ofInt 3)) ∨ (¬ k = Int32.ofInt 1 ∧ (k = 0 ∨ k = Int32.ofInt 2) ∧ c = Int32.ofInt 1))))), 0, w) := by
  apply xk_Ev.of
  refine xk_Po.go 2 rfl ?_
  refine xk_Po.br rfl rfl (fun h0 => ?_) (fun h0 => ?_) -- 2 .if_icmp .ne 13
  · refine xk_Po.go 2 rfl ?_
    refine xk_Po.br rfl rfl (fun h1 => ?_) (fun h1 => ?_) -- 5 .if_icmp .eq 9
    · refine xk_Po.go 2 rfl ?_
      exact xk_Po.zret rfl (by first | decide | exact hb _) (congrArg (fun z => ((.inl (some (.int z)), 0, _) : xk_R)) (xn_bt (.inl ⟨h0, .inl h1⟩)).symm)
    · refine xk_Po.go 2 rfl ?_
      refine xk_Po.br rfl rfl (fun h2 => ?_) (fun h2 => ?_) -- 8 .if_icmp .ne 11
      · refine xk_Po.go 2 rfl ?_
        exact xk_Po.zret rfl (by first | decide | exact hb _) (congrArg (fun z => ((.inl (some (.int z)), 0, _) : xk_R)) (xn_bt (.inl ⟨h0, .inr h2⟩)).symm)
      · refine xk_Po.go 1 rfl ?_
        exact xk_Po.zret rfl (by first | decide | exact hb _) (congrArg (fun z => ((.inl (some (.int z)), 0, _) : xk_R)) (xn_bf (fun h => h.elim (fun q => q.2.elim h1 h2) (fun q => q.1 h0))).symm)
  · refine xk_Po.go 1 rfl ?_
    refine xk_Po.br rfl rfl (fun h1 => ?_) (fun h1 => ?_) -- 14 .ifCond .eq 18
    · refine xk_Po.go 2 rfl ?_
      refine xk_Po.br rfl rfl (fun h2 => ?_) (fun h2 => ?_) -- 20 .if_icmp .ne 23
      · refine xk_Po.go 2 rfl ?_
        exact xk_Po.zret rfl (by first | decide | exact hb _) (congrArg (fun z => ((.inl (some (.int z)), 0, _) : xk_R)) (xn_bt (.inr ⟨h0, .inl h1, h2⟩)).symm)
      · refine xk_Po.go 1 rfl ?_
        exact xk_Po.zret rfl (by first | decide | exact hb _) (congrArg (fun z => ((.inl (some (.int z)), 0, _) : xk_R)) (xn_bf (fun h => h.elim (fun q => h0 q.1) (fun q => h2 q.2.2))).symm)
    · refine xk_Po.go 2 rfl ?_
      refine xk_Po.br rfl rfl (fun h2 => ?_) (fun h2 => ?_) -- 17 .if_icmp .ne 23
      · refine xk_Po.go 2 rfl ?_
        refine xk_Po.br rfl rfl (fun h3 => ?_) (fun h3 => ?_) -- 20 .if_icmp .ne 23
        · refine xk_Po.go 2 rfl ?_
          exact xk_Po.zret rfl (by first | decide | exact hb _) (congrArg (fun z => ((.inl (some (.int z)), 0, _) : xk_R)) (xn_bt (.inr ⟨h0, .inr h2, h3⟩)).symm)
        · refine xk_Po.go 1 rfl ?_
          exact xk_Po.zret rfl (by first | decide | exact hb _) (congrArg (fun z => ((.inl (some (.int z)), 0, _) : xk_R)) (xn_bf (fun h => h.elim (fun q => h0 q.1) (fun q => h3 q.2.2))).symm)
      · refine xk_Po.go 1 rfl ?_
        exact xk_Po.zret rfl (by first | decide | exact hb _) (congrArg (fun z => ((.inl (some (.int z)), 0, _) : xk_R)) (xn_bf (fun h => h.elim (fun q => h0 q.1) (fun q => q.2.1.elim h1 h2))).symm)
theorem c_countWords {j : Nat} (hj : j < 4) : xk_Ev (xp_P sc) 76 0 [.ref 0, .int (Int32.ofNat j)] [] (cw sl ex ab ta dr md ml mt mc on ct r) (.inl (some (.int (ta (5 + j) / 32 * 4))), 0, cw sl ex ab ta dr md ml mt mc on ct r) := by
  apply xk_Ev.of
  refine xk_Po.go 3 rfl ?_
  refine xk_Po.ci2 rfl rfl (c_elementsOfN hj) ?_
  refine xk_Po.go 2 rfl ?_
  exact xk_Po.iret rfl rfl
theorem c_elementOfWord {j : Nat} {x : Int32} (hj : j < 4) (h1 : ¬ s_col (ta (5 + j)) = 0) (h4 : ¬ Int32.ofInt 4 * s_col (ta (5 + j)) = 0) : xk_Ev (xp_P sc) 77 0 [.ref 0, .int (Int32.ofNat j), .int x, .retAddr 0] [] (cw sl ex ab ta dr md ml mt mc on ct r) (.inl (some (.int (s_col (ta (5 + j)) * (x / (4 * s_col (ta (5 + j)))) + x % s_col (ta (5 + j))))), 0, cw sl ex ab ta dr md ml mt mc on ct r) := by
  apply xk_Ev.of
  refine xk_Po.go 3 rfl ?_
  refine xk_Po.ci2 rfl rfl (c_columnsOf hj) ?_
  refine xk_Po.go 6 rfl ?_
  refine xk_Po.no rfl rfl (h4) ?_ -- .idiv
  refine xk_Po.go 3 rfl ?_
  refine xk_Po.no rfl rfl (h1) ?_ -- .irem
  refine xk_Po.go 1 rfl ?_
  exact xk_Po.iret rfl rfl
theorem c_placeOfWord {j : Nat} {x : Int32} (hj : j < 4) (h1 : ¬ s_col (ta (5 + j)) = 0) (h4 : ¬ Int32.ofInt 4 * s_col (ta (5 + j)) = 0) : xk_Ev (xp_P sc) 78 0 [.ref 0, .int (Int32.ofNat j), .int x, .retAddr 0] [] (cw sl ex ab ta dr md ml mt mc on ct r) (.inl (some (.int (x % (4 * s_col (ta (5 + j))) / s_col (ta (5 + j))))), 0, cw sl ex ab ta dr md ml mt mc on ct r) := by
  apply xk_Ev.of
  refine xk_Po.go 3 rfl ?_
  refine xk_Po.ci2 rfl rfl (c_columnsOf hj) ?_
  refine xk_Po.go 5 rfl ?_
  refine xk_Po.no rfl rfl (h4) ?_ -- .irem
  refine xk_Po.go 1 rfl ?_
  refine xk_Po.no rfl rfl (h1) ?_ -- .idiv
  exact xk_Po.iret rfl rfl
theorem c_requireListedPresent (hb : ∀ i, ab i = 0 ∨ ab i = 1) (h : s_any (fun j => ¬ ta (1 + j) = 0 ∧ ¬ ab j = 0) 4 0 = 0) : xk_Ev (xp_P sc) 67 0 [.ref 0] [] (cw sl ex ab ta dr md ml mt mc on ct r) (.inl none, 0, cw sl ex ab ta dr md ml mt mc on ct r) := by
  apply xk_Ev.of
  refine xk_Po.go 1 rfl ?_
  refine xk_Po.ci1 rfl rfl (c_isAnyListedAbsent hb) ?_
  refine xk_Po.br rfl rfl (fun h0 => ?_) (fun h0 => ?_) -- 2 .ifCond .eq 4
  · exact xk_Po.ret rfl rfl
  · exact xk_Po.thr rfl (absurd h h0)
theorem c_requireListedPresent_t (hb : ∀ i, ab i = 0 ∨ ab i = 1) (h : ¬ s_any (fun j => ¬ ta (1 + j) = 0 ∧ ¬ ab j = 0) 4 0 = 0) : xk_Ev (xp_P sc) 67 0 [.ref 0] [] (cw sl ex ab ta dr md ml mt mc on ct r) (.inr 2, 1, cw sl ex ab ta dr md ml mt mc on ct r) := by
  apply xk_Ev.of
  refine xk_Po.go 1 rfl ?_
  refine xk_Po.ci1 rfl rfl (c_isAnyListedAbsent hb) ?_
  refine xk_Po.br rfl rfl (fun h0 => ?_) (fun h0 => ?_) -- 2 .ifCond .eq 4
  · exact xk_Po.ret rfl (absurd h0 h)
  · exact xk_Po.thr rfl rfl
end XkMor
end
section
/-! Drafts, volumes that are asked for, room. -/
section XkRoo
variable {sc : Nat × (Nat → Int32)} {sl ex ab ta dr : Nat → Int32} {md ml mt mc on ct : Int32} {r w : xk_W}
theorem xn_nneg {j : Nat} (h : j < 2147483648) : ¬ Int32.ofNat j < 0 := fun q => by
  have := (xn_lt (b := 0) h (by omega)).1 q
  omega
def s_bit (g : Int32) : Int32 := if g = Int32.ofInt (-1) then 0 else 1 <<< (g / 8 &&& 31)
def s_dol (t : Nat → Int32) (ml mt : Int32) (j : Nat) : Int32 := if ml = Int32.ofNat j then s_bit (t (9 + j) - 1) ||| s_bit mt else s_bit (t (9 + j) - 1)
def s_gI (t : Nat → Int32) (ml mt : Int32) (v i e l : Nat) : Nat → Int32 → Int32
  | 0, a => a
  | k + 1, a => if Int32.ofNat i = Int32.ofNat e then (if Int32.ofNat k = Int32.ofNat l then s_gI t ml mt v i e l k a else s_gI t ml mt v i e l k a ||| s_dol t ml mt (v * 10 + i * 2 + k)) else s_gI t ml mt v i e l k a ||| s_dol t ml mt (v * 10 + i * 2 + k)
def s_gO (t : Nat → Int32) (ml mt : Int32) (v e l f : Nat) : Nat → Int32
  | 0 => 0
  | n + 1 => s_gI t ml mt v (f + n) e l 2 (s_gO t ml mt v e l f n)
theorem s_first : ∀ e, e < 5 → ∀ c, c < 4 → 1 ≤ c → Int32.ofNat e - Int32.ofNat e % Int32.ofNat c = Int32.ofNat (e - e % c) := by decide
theorem s_ne0 : ∀ c, c < 4 → 1 ≤ c → ¬ Int32.ofNat c = 0 := by decide
def s_lfs (t : Nat → Int32) (mt : Int32) (b : Nat) : Nat → Nat → Int32
  | 0, _ => -1
  | m + 1, j => if Int32.ofNat (b + j) = mt then s_lfs t mt b m (j + 1) else if s_any (fun i => t (9 + i) - 1 = Int32.ofNat (b + j)) 40 0 = 0 then Int32.ofNat (b + j) else s_lfs t mt b m (j + 1)
theorem d_takeC  : xk_Ev (xp_P sc) 17 0 [.ref 7, .ref 6, .int (Int32.ofInt 0)] [] (cw sl ex ab ta dr md ml mt mc on ct r) (.inl none, 0, cw sl ex ab ta (va_cpy ta dr 0 0 51) md ml mt mc on ct r) := by
  apply xk_Ev.of
  refine xk_Po.go 7 rfl ?_
  exact xk_Po.ret rfl rfl
theorem c_takeD  : xk_Ev (xp_P sc) 17 0 [.ref 5, .ref 8, .int (Int32.ofInt 0)] [] (cw sl ex ab ta dr md ml mt mc on ct r) (.inl none, 0, cw sl ex ab (va_cpy dr ta 0 0 51) dr md ml mt mc on ct r) := by
  apply xk_Ev.of
  refine xk_Po.go 7 rfl ?_
  exact xk_Po.ret rfl rfl
theorem c_takeS0 {a : Nat} (ha : a + 51 ≤ 408) : xk_Ev (xp_P sc) 17 0 [.ref 5, .ref 2, .int (Int32.ofNat a)] [] (cw sl ex ab ta dr md ml mt mc on ct r) (.inl none, 0, cw sl ex ab (va_cpy sl ta (Int32.ofNat a).toNatClampNeg 0 51) dr md ml mt mc on ct r) := by
  apply xk_Ev.of
  refine xk_Po.go 6 rfl ?_
  refine xk_Po.ok rfl rfl (⟨by decide, (xn_le (a := 0) (b := a) (by omega) (by omega)).2 (by omega), by decide, by decide, by rw [xn_nat (by omega)]; exact ha, by decide⟩) ?_ -- .invokedynamic 1
  exact xk_Po.ret rfl rfl
theorem c_takeS {a : Nat} (ha : a + 51 ≤ 408) : xk_Ev (xp_P sc) 17 0 [.ref 5, .ref 2, .int (Int32.ofNat a)] [] (cw sl ex ab ta dr md ml mt mc on ct r) (.inl none, 0, cw sl ex ab (va_cpy sl ta a 0 51) dr md ml mt mc on ct r) := by
  have h := c_takeS0 (sc := sc) (sl := sl) (ex := ex) (ab := ab) (ta := ta) (dr := dr) (md := md) (ml := ml) (mt := mt) (mc := mc) (on := on) (ct := ct) (r := r) ha
  simp only [xn_nat (j := a) (by omega)] at h
  exact h
theorem c_beginDraft0  : xk_Ev (xp_P sc) 85 0 [.ref 0] [] (cw sl ex ab ta dr md ml mt mc on ct r) (.inl none, 0, cw sl ex ab ta (va_cpy ta dr 0 0 51) md ml mt mc on ct r) := by
  apply xk_Ev.of
  refine xk_Po.go 6 rfl ?_
  refine xk_Po.cv3 rfl rfl (d_takeC) ?_
  exact xk_Po.ret rfl rfl
theorem c_beginDraft (ht : ∀ i, 51 ≤ i → ta i = 0) (hd : ∀ i, 51 ≤ i → dr i = 0) : xk_Ev (xp_P sc) 85 0 [.ref 0] [] (cw sl ex ab ta dr md ml mt mc on ct r) (.inl none, 0, cw sl ex ab ta (ta) md ml mt mc on ct r) := by
  have h := c_beginDraft0 (sc := sc) (sl := sl) (ex := ex) (ab := ab) (ta := ta) (dr := dr) (md := md) (ml := ml) (mt := mt) (mc := mc) (on := on) (ct := ct) (r := r)
  rw [s_cpy ta dr ht hd] at h
  exact h
theorem c_requireVolume {j : Nat} (hj : j < 4) (h : ¬ ta (5 + j) = 0) : xk_Ev (xp_P sc) 68 0 [.ref 0, .int (Int32.ofNat j)] [] (cw sl ex ab ta dr md ml mt mc on ct r) (.inl none, 0, cw sl ex ab ta dr md ml mt mc on ct r) := by
  apply xk_Ev.of
  refine xk_Po.go 1 rfl ?_
  refine xk_Po.br rfl rfl (fun h0 => ?_) (fun h0 => ?_) -- 1 .ifCond .lt 10
  · exact xk_Po.thr rfl (absurd h0 (xn_nneg (by omega)))
  · refine xk_Po.go 2 rfl ?_
    refine xk_Po.br rfl rfl (fun h1 => ?_) (fun h1 => ?_) -- 4 .if_icmp .ge 10
    · exact xk_Po.thr rfl (absurd ((xn_le (a := 4) (by omega) (by omega)).1 h1) (by omega))
    · refine xk_Po.go 3 rfl ?_
      refine xk_Po.ci2 rfl rfl (c_has hj) ?_
      refine xk_Po.br rfl rfl (fun h2 => ?_) (fun h2 => ?_) -- 9 .ifCond .ne 11
      · exact xk_Po.thr rfl (absurd h (xn_b0 h2))
      · exact xk_Po.ret rfl rfl
theorem c_requireVolume_u {j : Nat} (hj : j < 4) (h : ta (5 + j) = 0) : xk_Ev (xp_P sc) 68 0 [.ref 0, .int (Int32.ofNat j)] [] (cw sl ex ab ta dr md ml mt mc on ct r) (.inr 3, 1, cw sl ex ab ta dr md ml mt mc on ct r) := by
  apply xk_Ev.of
  refine xk_Po.go 1 rfl ?_
  refine xk_Po.br rfl rfl (fun h0 => ?_) (fun h0 => ?_) -- 1 .ifCond .lt 10
  · exact xk_Po.thr rfl rfl
  · refine xk_Po.go 2 rfl ?_
    refine xk_Po.br rfl rfl (fun h1 => ?_) (fun h1 => ?_) -- 4 .if_icmp .ge 10
    · exact xk_Po.thr rfl rfl
    · refine xk_Po.go 3 rfl ?_
      refine xk_Po.ci2 rfl rfl (c_has hj) ?_
      refine xk_Po.br rfl rfl (fun h2 => ?_) (fun h2 => ?_) -- 9 .ifCond .ne 11
      · exact xk_Po.thr rfl rfl
      · exact xk_Po.ret rfl (absurd h (xn_b1 h2))
theorem c_requireVolume_t {g : Int32} (h : g < 0 ∨ Int32.ofInt 4 ≤ g) : xk_Ev (xp_P sc) 68 0 [.ref 0, .int g] [] (cw sl ex ab ta dr md ml mt mc on ct r) (.inr 3, 1, cw sl ex ab ta dr md ml mt mc on ct r) := by
  apply xk_Ev.of
  refine xk_Po.go 1 rfl ?_
  refine xk_Po.br rfl rfl (fun h0 => ?_) (fun h0 => ?_) -- 1 .ifCond .lt 10
  · exact xk_Po.thr rfl rfl
  · refine xk_Po.go 2 rfl ?_
    refine xk_Po.br rfl rfl (fun h1 => ?_) (fun h1 => ?_) -- 4 .if_icmp .ge 10
    · exact xk_Po.thr rfl rfl
    · exact h.elim (fun q => absurd q h0) (fun q => absurd q h1)
theorem c_requireWord {j : Nat} {x : Int32} (hj : j < 4) (h : ¬ x < 0 ∧ x < ta (5 + j) / 32 * 4) : xk_Ev (xp_P sc) 69 0 [.ref 0, .int (Int32.ofNat j), .int x] [] (cw sl ex ab ta dr md ml mt mc on ct r) (.inl none, 0, cw sl ex ab ta dr md ml mt mc on ct r) := by
  apply xk_Ev.of
  refine xk_Po.go 1 rfl ?_
  refine xk_Po.br rfl rfl (fun h0 => ?_) (fun h0 => ?_) -- 1 .ifCond .lt 7
  · exact xk_Po.thr rfl (absurd h0 h.1)
  · refine xk_Po.go 3 rfl ?_
    refine xk_Po.ci2 rfl rfl (c_countWords hj) ?_
    refine xk_Po.br rfl rfl (fun h1 => ?_) (fun h1 => ?_) -- 6 .if_icmp .lt 8
    · exact xk_Po.ret rfl rfl
    · exact xk_Po.thr rfl (absurd h.2 h1)
theorem c_requireWord_t {j : Nat} {x : Int32} (hj : j < 4) (h : ¬ (¬ x < 0 ∧ x < ta (5 + j) / 32 * 4)) : xk_Ev (xp_P sc) 69 0 [.ref 0, .int (Int32.ofNat j), .int x] [] (cw sl ex ab ta dr md ml mt mc on ct r) (.inr 4, 1, cw sl ex ab ta dr md ml mt mc on ct r) := by
  apply xk_Ev.of
  refine xk_Po.go 1 rfl ?_
  refine xk_Po.br rfl rfl (fun h0 => ?_) (fun h0 => ?_) -- 1 .ifCond .lt 7
  · exact xk_Po.thr rfl rfl
  · refine xk_Po.go 3 rfl ?_
    refine xk_Po.ci2 rfl rfl (c_countWords hj) ?_
    refine xk_Po.br rfl rfl (fun h1 => ?_) (fun h1 => ?_) -- 6 .if_icmp .lt 8
    · exact xk_Po.ret rfl (absurd ⟨h0, h1⟩ h)
    · exact xk_Po.thr rfl rfl
theorem c_bitOfDisk {g : Int32} : xk_Ev (xp_P sc) 95 0 [.int g] [] (w) (.inl (some (.int (s_bit g))), 0, w) := by
  apply xk_Ev.of
  refine xk_Po.go 2 rfl ?_
  refine xk_Po.br rfl rfl (fun h0 => ?_) (fun h0 => ?_) -- 2 .if_icmp .ne 5
  · refine xk_Po.go 2 rfl ?_
    exact xk_Po.iret rfl (congrArg (fun z => ((.inl (some (.int z)), 0, _) : xk_R)) (if_pos h0).symm)
  · refine xk_Po.go 5 rfl ?_
    exact xk_Po.iret rfl (congrArg (fun z => ((.inl (some (.int z)), 0, _) : xk_R)) (if_neg h0).symm)
theorem c_disksOfLeg {j : Nat} (hj : j < 40) : xk_Ev (xp_P sc) 94 0 [.ref 0, .int (Int32.ofNat j), .retAddr 0] [] (cw sl ex ab ta dr md ml mt mc on ct r) (.inl (some (.int (s_dol dr ml mt j))), 0, cw sl ex ab ta dr md ml mt mc on ct r) := by
  apply xk_Ev.of
  refine xk_Po.go 3 rfl ?_
  refine xk_Po.ci2 rfl rfl (d_spotOfN hj) ?_
  refine xk_Po.ci1 rfl rfl (c_bitOfDisk) ?_
  refine xk_Po.go 5 rfl ?_
  refine xk_Po.br rfl rfl (fun h0 => ?_) (fun h0 => ?_) -- 10 .if_icmp .ne 18
  · refine xk_Po.go 4 rfl ?_
    refine xk_Po.ci1 rfl rfl (c_bitOfDisk) ?_
    refine xk_Po.go 2 rfl ?_
    exact xk_Po.iret rfl (congrArg (fun z => ((.inl (some (.int z)), 0, _) : xk_R)) (if_pos h0).symm)
  · refine xk_Po.go 1 rfl ?_
    exact xk_Po.iret rfl (congrArg (fun z => ((.inl (some (.int z)), 0, _) : xk_R)) (if_neg h0).symm)
theorem c_groupDisks {v e l c : Nat} (hv : v < 4) (he : e < 5) (hl : l < 2) (h1 : 1 ≤ c) (hc : c < 4) (hu : e - e % c + c ≤ 5) (hw : s_col (dr (5 + v)) = Int32.ofNat c) : xk_Ev (xp_P sc) 93 0 [.ref 0, .int (Int32.ofNat v), .int (Int32.ofNat e), .int (Int32.ofNat l), .retAddr 0, .retAddr 0, .retAddr 0, .retAddr 0, .retAddr 0] [] (cw sl ex ab ta dr md ml mt mc on ct r) (.inl (some (.int (s_gO dr ml mt v e l (e - e % c) c))), 0, cw sl ex ab ta dr md ml mt mc on ct r) := by
  have hf := s_first e he c hc h1
  apply xk_Ev.of
  refine xk_Po.go 3 rfl ?_
  refine xk_Po.ci2 rfl rfl (by have h := d_columnsOf (sc := sc) (sl := sl) (ex := ex) (ab := ab) (ta := ta) (dr := dr) (md := md) (ml := ml) (mt := mt) (mc := mc) (on := on) (ct := ct) (r := r) hv; rw [hw] at h; exact h) ?_
  refine xk_Po.go 4 rfl ?_
  refine xk_Po.no rfl rfl (s_ne0 c hc h1) ?_ -- .irem
  refine xk_Po.go 6 rfl ?_
  rw [hf]
  refine xk_Po.loopJ c (fun j0 x y => [.ref 0, .int (Int32.ofNat v), .int (Int32.ofNat e), .int (Int32.ofNat l), .int (Int32.ofNat c), .int (Int32.ofNat (e - e % c)), .int (s_gO dr ml mt v e l (e - e % c) j0), .int (Int32.ofNat ((e - e % c) + j0)), x]) (fun j0 => cw sl ex ab ta dr md ml mt mc on ct r) (fun m0 j0 => _) (fun m0 j0 x y hj0 ih0 => ?_) (fun x y => ?_) (.retAddr 0) (.retAddr 0)
  · have uj0 : j0 < c := by omega
    refine xk_Po.go 4 rfl ?_
    refine xk_Po.br rfl rfl (fun hx => absurd ((xn_le (a := (e - e % c) + c) (b := (e - e % c) + j0) (by omega) (by omega)).1 (by rw [xn_add] at hx; exact hx)) (by omega)) (fun _ => ?_)
    refine xk_Po.go 2 rfl ?_
    refine xk_Po.loop 2 (fun j1 => [.ref 0, .int (Int32.ofNat v), .int (Int32.ofNat e), .int (Int32.ofNat l), .int (Int32.ofNat c), .int (Int32.ofNat (e - e % c)), .int (s_gI dr ml mt v ((e - e % c) + j0) e l j1 (s_gO dr ml mt v e l (e - e % c) j0)), .int (Int32.ofNat ((e - e % c) + j0)), .int (Int32.ofNat j1)]) (fun j1 => cw sl ex ab ta dr md ml mt mc on ct r) (fun m1 j1 => _) (fun m1 j1 hj1 ih1 => ?_) ?_
    · have uj1 : j1 < 2 := by omega
      refine xk_Po.go 2 rfl ?_
      refine xk_Po.br rfl rfl (fun hx => absurd ((xn_le (a := 2) (b := j1) (by omega) (by omega)).1 hx) (by omega)) (fun _ => ?_)
      refine xk_Po.go 2 rfl ?_
      refine xk_Po.br rfl rfl (fun h0 => ?_) (fun h0 => ?_) -- 27 .if_icmp .ne 31
      · refine xk_Po.go 2 rfl ?_
        refine xk_Po.br rfl rfl (fun h1 => ?_) (fun h1 => ?_) -- 30 .if_icmp .eq 40
        · refine xk_Po.go 2 rfl ?_
          rw [show s_gI dr ml mt v ((e - e % c) + j0) e l (j1 + 1) (s_gO dr ml mt v e l (e - e % c) j0) = s_gI dr ml mt v ((e - e % c) + j0) e l j1 (s_gO dr ml mt v e l (e - e % c) j0) from (if_pos h0).trans (if_pos h1), ← xn_suc j1] at ih1
          exact ih1
        · refine xk_Po.go 5 rfl ?_
          refine xk_Po.ci3 rfl rfl (c_legOfN) ?_
          refine xk_Po.ci2 rfl rfl (c_disksOfLeg (by omega)) ?_
          refine xk_Po.go 4 rfl ?_
          rw [show s_gI dr ml mt v ((e - e % c) + j0) e l (j1 + 1) (s_gO dr ml mt v e l (e - e % c) j0) = s_gI dr ml mt v ((e - e % c) + j0) e l j1 (s_gO dr ml mt v e l (e - e % c) j0) ||| s_dol dr ml mt (v * 10 + ((e - e % c) + j0) * 2 + j1) from (if_pos h0).trans (if_neg h1), ← xn_suc j1] at ih1
          exact ih1
      · refine xk_Po.go 5 rfl ?_
        refine xk_Po.ci3 rfl rfl (c_legOfN) ?_
        refine xk_Po.ci2 rfl rfl (c_disksOfLeg (by omega)) ?_
        refine xk_Po.go 4 rfl ?_
        rw [show s_gI dr ml mt v ((e - e % c) + j0) e l (j1 + 1) (s_gO dr ml mt v e l (e - e % c) j0) = s_gI dr ml mt v ((e - e % c) + j0) e l j1 (s_gO dr ml mt v e l (e - e % c) j0) ||| s_dol dr ml mt (v * 10 + ((e - e % c) + j0) * 2 + j1) from if_neg h0, ← xn_suc j1] at ih1
        exact ih1
    · refine xk_Po.go 5 rfl ?_
      rw [show s_gO dr ml mt v e l (e - e % c) (j0 + 1) = s_gI dr ml mt v ((e - e % c) + j0) e l 2 (s_gO dr ml mt v e l (e - e % c) j0) from rfl, ← show Int32.ofNat ((e - e % c) + j0) + Int32.ofInt 1 = Int32.ofNat ((e - e % c) + (j0 + 1)) from xn_suc ((e - e % c) + j0)] at ih0
      exact ih0 _ y
  · refine xk_Po.go 4 rfl ?_
    refine xk_Po.br rfl rfl (fun _ => ?_) (fun hx => absurd (by rw [xn_add]; exact Int32.le_refl _) hx)
    refine xk_Po.go 1 rfl ?_
    exact xk_Po.iret rfl rfl
theorem c_leastFreeSpot {d n : Nat} (hd : d < 4) (hn : n ≤ 8) (hw : dr (1 + d) = Int32.ofNat n) : xk_Ev (xp_P sc) 92 0 [.ref 0, .int (Int32.ofNat d), .retAddr 0, .retAddr 0] [] (cw sl ex ab ta dr md ml mt mc on ct r) (.inl (some (.int (s_lfs dr mt (d * 8) n 0))), 0, cw sl ex ab ta dr md ml mt mc on ct r) := by
  apply xk_Ev.of
  refine xk_Po.go 6 rfl ?_
  rw [show Int32.ofNat d * Int32.ofInt 8 = Int32.ofNat (d * 8) from xn_mul d 8]
  refine xk_Po.loop n (fun j0 => [.ref 0, .int (Int32.ofNat d), .int (Int32.ofNat (d * 8)), .int (Int32.ofNat (d * 8 + j0))]) (fun j0 => cw sl ex ab ta dr md ml mt mc on ct r) (fun m0 j0 => fun z => z = (.inl (some (.int (s_lfs dr mt (d * 8) m0 j0))), 0, cw sl ex ab ta dr md ml mt mc on ct r)) (fun m0 j0 hj0 ih0 => ?_) ?_
  · have uj0 : j0 < n := by omega
    refine xk_Po.go 5 rfl ?_
    refine xk_Po.ci2 rfl rfl (by have h := d_extentsOfN (sc := sc) (sl := sl) (ex := ex) (ab := ab) (ta := ta) (dr := dr) (md := md) (ml := ml) (mt := mt) (mc := mc) (on := on) (ct := ct) (r := r) hd; rw [hw] at h; exact h) ?_
    refine xk_Po.go 1 rfl ?_
    refine xk_Po.br rfl rfl (fun hx => absurd ((xn_le (a := d * 8 + n) (b := d * 8 + j0) (by omega) (by omega)).1 (by rw [xn_add] at hx; exact hx)) (by omega)) (fun _ => ?_)
    refine xk_Po.go 4 rfl ?_
    refine xk_Po.br rfl rfl (fun h0 => ?_) (fun h0 => ?_) -- 18 .if_icmp .eq 26
    · refine xk_Po.go 2 rfl ?_
      rw [← show s_lfs dr mt (d * 8) (m0 + 1) j0 = s_lfs dr mt (d * 8) m0 (j0 + 1) from if_pos h0, ← show Int32.ofNat (d * 8 + j0) + Int32.ofInt 1 = Int32.ofNat (d * 8 + (j0 + 1)) from xn_suc (d * 8 + j0)] at ih0
      exact ih0
    · refine xk_Po.go 3 rfl ?_
      refine xk_Po.ci2 rfl rfl (d_isUsed) ?_
      refine xk_Po.br rfl rfl (fun h1 => ?_) (fun h1 => ?_) -- 23 .ifCond .ne 26
      · refine xk_Po.go 1 rfl ?_
        exact xk_Po.iret rfl (congrArg (fun z => ((.inl (some (.int z)), 0, _) : xk_R)) (((if_neg h0).trans (if_pos h1)).symm))
      · refine xk_Po.go 2 rfl ?_
        rw [← show s_lfs dr mt (d * 8) (m0 + 1) j0 = s_lfs dr mt (d * 8) m0 (j0 + 1) from (if_neg h0).trans (if_neg h1), ← show Int32.ofNat (d * 8 + j0) + Int32.ofInt 1 = Int32.ofNat (d * 8 + (j0 + 1)) from xn_suc (d * 8 + j0)] at ih0
        exact ih0
  · refine xk_Po.go 5 rfl ?_
    refine xk_Po.ci2 rfl rfl (by have h := d_extentsOfN (sc := sc) (sl := sl) (ex := ex) (ab := ab) (ta := ta) (dr := dr) (md := md) (ml := ml) (mt := mt) (mc := mc) (on := on) (ct := ct) (r := r) hd; rw [hw] at h; exact h) ?_
    refine xk_Po.go 1 rfl ?_
    refine xk_Po.br rfl rfl (fun _ => ?_) (fun hx => absurd (by rw [xn_add]; exact Int32.le_refl _) hx)
    refine xk_Po.go 1 rfl ?_
    exact xk_Po.iret rfl rfl
end XkRoo
end
section
/-! Where room is found. -/
section XkFre
variable {sc : Nat × (Nat → Int32)} {sl ex ab ta dr : Nat → Int32} {md ml mt mc on ct : Int32} {r w : xk_W}
def s_free (t : Nat → Int32) (mt : Int32) (d : Nat) : Int32 := t (1 + d) - s_cnt (fun j => s_disk (t (9 + j) - 1) = Int32.ofNat d) 40 - (if s_disk mt = Int32.ofNat d then 1 else 0)
def s_fr (t ab : Nat → Int32) (mt bar : Int32) : Nat → Int32 × Int32
  | 0 => (-1, 0)
  | d + 1 => if ¬ t (1 + d) = 0 ∧ ab d = 0 then (if bar >>> (Int32.ofNat d &&& 31) &&& 1 = 0 then (if s_free t mt d ≤ (s_fr t ab mt bar d).2 then s_fr t ab mt bar d else (Int32.ofNat d, s_free t mt d)) else s_fr t ab mt bar d) else s_fr t ab mt bar d
theorem s_fr_d (t ab : Nat → Int32) (mt bar : Int32) : ∀ n, (s_fr t ab mt bar n).1 = Int32.ofInt (-1) ∨ ∃ d, d < n ∧ (s_fr t ab mt bar n).1 = Int32.ofNat d
  | 0 => .inl rfl
  | n + 1 => by
    have ih : (s_fr t ab mt bar n).1 = Int32.ofInt (-1) ∨ ∃ d, d < n + 1 ∧ (s_fr t ab mt bar n).1 = Int32.ofNat d := (s_fr_d t ab mt bar n).imp_right (fun ⟨d, h, e⟩ => ⟨d, by omega, e⟩)
    unfold s_fr
    split
    · split
      · split
        · exact ih
        · exact .inr ⟨n, by omega, rfl⟩
      · exact ih
    · exact ih
def s_room (t ab : Nat → Int32) (mt bar : Int32) : Int32 := if (s_fr t ab mt bar 4).1 = Int32.ofInt (-1) then -1 else s_lfs t mt ((s_fr t ab mt bar 4).1.toNatClampNeg * 8) (t (1 + (s_fr t ab mt bar 4).1.toNatClampNeg)).toNatClampNeg 0
theorem c_leastFreeSpotI {g : Int32} (hg : ∃ d, d < 4 ∧ g = Int32.ofNat d) (hE : ∀ d, d < 4 → ∃ n, n ≤ 8 ∧ dr (1 + d) = Int32.ofNat n) : xk_Ev (xp_P sc) 92 0 [.ref 0, .int g, .retAddr 0, .retAddr 0] [] (cw sl ex ab ta dr md ml mt mc on ct r) (.inl (some (.int (s_lfs dr mt (g.toNatClampNeg * 8) (dr (1 + g.toNatClampNeg)).toNatClampNeg 0))), 0, cw sl ex ab ta dr md ml mt mc on ct r) := by
  obtain ⟨d, hd, rfl⟩ := hg
  obtain ⟨n, hn, e⟩ := hE d hd
  rw [xn_nat (j := d) (by omega), e, xn_nat (j := n) (by omega)]
  exact c_leastFreeSpot hd hn e
theorem c_findRoom {v e l c : Nat} (hv : v < 4) (he : e < 5) (hl : l < 2) (h1 : 1 ≤ c) (hc : c < 4) (hu : e - e % c + c ≤ 5) (hw : s_col (dr (5 + v)) = Int32.ofNat c) {b : Int32} (hb : ∀ i, ab i = 0 ∨ ab i = 1) (hE : ∀ d, d < 4 → ∃ n, n ≤ 8 ∧ dr (1 + d) = Int32.ofNat n) : xk_Ev (xp_P sc) 91 0 [.ref 0, .int (Int32.ofNat v), .int (Int32.ofNat e), .int (Int32.ofNat l), .int b, .retAddr 0, .retAddr 0, .retAddr 0, .retAddr 0, .retAddr 0] [] (cw sl ex ab ta dr md ml mt mc on ct r) (.inl (some (.int (s_room dr ab mt (b ||| s_gO dr ml mt v e l (e - e % c) c)))), 0, cw sl ex ab ta dr md ml mt mc on ct r) := by
  apply xk_Ev.of
  refine xk_Po.go 5 rfl ?_
  refine xk_Po.ci4 rfl rfl (c_groupDisks hv he hl h1 hc hu hw) ?_
  refine xk_Po.go 8 rfl ?_
  refine xk_Po.loopJ 4 (fun j0 x y => [.ref 0, .int (Int32.ofNat v), .int (Int32.ofNat e), .int (Int32.ofNat l), .int b, .int (b ||| s_gO dr ml mt v e l (e - e % c) c), .int (s_fr dr ab mt (b ||| s_gO dr ml mt v e l (e - e % c) c) j0).1, .int (s_fr dr ab mt (b ||| s_gO dr ml mt v e l (e - e % c) c) j0).2, .int (Int32.ofNat j0), x]) (fun j0 => cw sl ex ab ta dr md ml mt mc on ct r) (fun m0 j0 => _) (fun m0 j0 x y hj0 ih0 => ?_) (fun x y => ?_) (.retAddr 0) (.retAddr 0)
  · have uj0 : j0 < 4 := by omega
    refine xk_Po.go 2 rfl ?_
    refine xk_Po.br rfl rfl (fun hx => absurd ((xn_le (a := 4) (b := j0) (by omega) (by omega)).1 hx) (by omega)) (fun _ => ?_)
    refine xk_Po.go 4 rfl ?_
    refine xk_Po.ci3 rfl rfl (d_countFree (by omega)) ?_
    refine xk_Po.go 5 rfl ?_
    refine xk_Po.ci3 rfl rfl (d_isListedAndPresent (by omega) hb) ?_
    refine xk_Po.br rfl rfl (fun h0 => ?_) (fun h0 => ?_) -- 28 .ifCond .eq 42
    · refine xk_Po.go 2 rfl ?_
      rw [show s_fr dr ab mt (b ||| s_gO dr ml mt v e l (e - e % c) c) (j0 + 1) = s_fr dr ab mt (b ||| s_gO dr ml mt v e l (e - e % c) c) j0 from if_neg (xn_b0 h0), ← xn_suc j0] at ih0
      exact ih0 _ y
    · refine xk_Po.go 5 rfl ?_
      refine xk_Po.br rfl rfl (fun h1 => ?_) (fun h1 => ?_) -- 34 .ifCond .ne 42
      · refine xk_Po.go 2 rfl ?_
        refine xk_Po.br rfl rfl (fun h2 => ?_) (fun h2 => ?_) -- 37 .if_icmp .le 42
        · refine xk_Po.go 2 rfl ?_
          rw [show s_fr dr ab mt (b ||| s_gO dr ml mt v e l (e - e % c) c) (j0 + 1) = s_fr dr ab mt (b ||| s_gO dr ml mt v e l (e - e % c) c) j0 from (if_pos (xn_b1 h0)).trans ((if_pos h1).trans (if_pos h2)), ← xn_suc j0] at ih0
          exact ih0 _ y
        · refine xk_Po.go 6 rfl ?_
          rw [show s_fr dr ab mt (b ||| s_gO dr ml mt v e l (e - e % c) c) (j0 + 1) = (Int32.ofNat j0, s_free dr mt j0) from (if_pos (xn_b1 h0)).trans ((if_pos h1).trans (if_neg h2)), ← xn_suc j0] at ih0
          exact ih0 _ y
      · refine xk_Po.go 2 rfl ?_
        rw [show s_fr dr ab mt (b ||| s_gO dr ml mt v e l (e - e % c) c) (j0 + 1) = s_fr dr ab mt (b ||| s_gO dr ml mt v e l (e - e % c) c) j0 from (if_pos (xn_b1 h0)).trans (if_neg h1), ← xn_suc j0] at ih0
        exact ih0 _ y
  · refine xk_Po.go 5 rfl ?_
    refine xk_Po.br rfl rfl (fun h0 => ?_) (fun h0 => ?_) -- 46 .if_icmp .ne 49
    · refine xk_Po.go 2 rfl ?_
      exact xk_Po.iret rfl (congrArg (fun z => ((.inl (some (.int z)), 0, _) : xk_R)) (if_pos h0).symm)
    · refine xk_Po.go 2 rfl ?_
      refine xk_Po.ci2 rfl rfl (c_leastFreeSpotI (((s_fr_d dr ab mt (b ||| s_gO dr ml mt v e l (e - e % c) c) 4).resolve_left h0)) hE) ?_
      exact xk_Po.iret rfl (congrArg (fun z => ((.inl (some (.int z)), 0, _) : xk_R)) (if_neg h0).symm)
theorem c_giveRoom {v e l c : Nat} (hv : v < 4) (he : e < 5) (hl : l < 2) (h1 : 1 ≤ c) (hc : c < 4) (hu : e - e % c + c ≤ 5) (hw : s_col (dr (5 + v)) = Int32.ofNat c) (hb : ∀ i, ab i = 0 ∨ ab i = 1) (hE : ∀ d, d < 4 → ∃ n, n ≤ 8 ∧ dr (1 + d) = Int32.ofNat n) (h : ¬ s_room dr ab mt (0 ||| s_gO dr ml mt v e l (e - e % c) c) = Int32.ofInt (-1)) : xk_Ev (xp_P sc) 96 0 [.ref 0, .int (Int32.ofNat v), .int (Int32.ofNat e), .int (Int32.ofNat l), .retAddr 0] [] (cw sl ex ab ta dr md ml mt mc on ct r) (.inl none, 0, cw sl ex ab ta (upd dr (9 + (v * 10 + e * 2 + l)) (s_room dr ab mt (0 ||| s_gO dr ml mt v e l (e - e % c) c) + 1)) md ml mt mc on ct r) := by
  apply xk_Ev.of
  refine xk_Po.go 5 rfl ?_
  refine xk_Po.ci5 rfl rfl (c_findRoom hv he hl h1 hc hu hw hb hE) ?_
  refine xk_Po.go 3 rfl ?_
  refine xk_Po.br rfl rfl (fun h0 => ?_) (fun h0 => ?_) -- 9 .if_icmp .ne 11
  · exact xk_Po.thr rfl (absurd h0 h)
  · refine xk_Po.go 5 rfl ?_
    refine xk_Po.ci3 rfl rfl (c_legOfN) ?_
    refine xk_Po.go 1 rfl ?_
    refine xk_Po.cv3 rfl rfl (d_setSpotN (by omega)) ?_
    exact xk_Po.ret rfl rfl
theorem c_giveRoom_t {v e l c : Nat} (hv : v < 4) (he : e < 5) (hl : l < 2) (h1 : 1 ≤ c) (hc : c < 4) (hu : e - e % c + c ≤ 5) (hw : s_col (dr (5 + v)) = Int32.ofNat c) (hb : ∀ i, ab i = 0 ∨ ab i = 1) (hE : ∀ d, d < 4 → ∃ n, n ≤ 8 ∧ dr (1 + d) = Int32.ofNat n) (h : s_room dr ab mt (0 ||| s_gO dr ml mt v e l (e - e % c) c) = Int32.ofInt (-1)) : xk_Ev (xp_P sc) 96 0 [.ref 0, .int (Int32.ofNat v), .int (Int32.ofNat e), .int (Int32.ofNat l), .retAddr 0] [] (cw sl ex ab ta dr md ml mt mc on ct r) (.inr 2, 1, cw sl ex ab ta dr md ml mt mc on ct r) := by
  apply xk_Ev.of
  refine xk_Po.go 5 rfl ?_
  refine xk_Po.ci5 rfl rfl (c_findRoom hv he hl h1 hc hu hw hb hE) ?_
  refine xk_Po.go 3 rfl ?_
  refine xk_Po.br rfl rfl (fun h0 => ?_) (fun h0 => ?_) -- 9 .if_icmp .ne 11
  · exact xk_Po.thr rfl rfl
  · refine xk_Po.go 5 rfl ?_
    refine xk_Po.ci3 rfl rfl (c_legOfN) ?_
    refine xk_Po.go 1 rfl ?_
    refine xk_Po.cv3 rfl rfl (d_setSpotN (by omega)) ?_
    exact xk_Po.ret rfl (absurd h h0)
theorem s_lose_eq (v : Nat) : Int32.ofNat v + Int32.ofInt 1 = Int32.ofNat (v + 1) := xn_suc v
theorem d_loseElements {v f : Nat} (hv : v < 4) (hf : f ≤ 5) : xk_Ev (xp_P sc) 33 0 [.ref 7, .int (Int32.ofNat v), .int (Int32.ofNat f), .retAddr 0] [] (cw sl ex ab ta dr md ml mt mc on ct r) (.inl none, 0, cw sl ex ab ta (s_clr dr (fun _ => True) (9 + (v * 10 + f * 2 + 0)) (10 - f * 2)) md ml mt mc on ct r) := by
  apply xk_Ev.of
  refine xk_Po.go 3 rfl ?_
  refine xk_Po.ci3 rfl rfl (c_legOfN (l := 0)) ?_
  refine xk_Po.go 1 rfl ?_
  refine xk_Po.loop (10 - f * 2) (fun j0 => [.ref 7, .int (Int32.ofNat v), .int (Int32.ofNat f), .int (Int32.ofNat ((v * 10 + f * 2 + 0) + j0))]) (fun j0 => cw sl ex ab ta (s_clr dr (fun _ => True) (9 + (v * 10 + f * 2 + 0)) j0) md ml mt mc on ct r) (fun m0 j0 => _) (fun m0 j0 hj0 ih0 => ?_) ?_
  · have uj0 : j0 < (10 - f * 2) := by omega
    refine xk_Po.go 6 rfl ?_
    refine xk_Po.ci3 rfl rfl (by have h := c_legOfN (sc := sc) (v := v + 1) (e := 0) (l := 0) (w := cw sl ex ab ta (s_clr dr (fun _ => True) (9 + (v * 10 + f * 2 + 0)) j0) md ml mt mc on ct r); rw [← xn_suc v] at h; exact h) ?_
    refine xk_Po.br rfl rfl (fun hx => absurd ((xn_le (a := (v + 1) * 10 + 0 * 2 + 0) (b := (v * 10 + f * 2 + 0) + j0) (by omega) (by omega)).1 hx) (by omega)) (fun _ => ?_)
    refine xk_Po.go 3 rfl ?_
    refine xk_Po.cv3 rfl rfl (d_setSpotN (by omega)) ?_
    refine xk_Po.go 2 rfl ?_
    rw [show s_clr dr (fun _ => True) (9 + (v * 10 + f * 2 + 0)) (j0 + 1) = upd (s_clr dr (fun _ => True) (9 + (v * 10 + f * 2 + 0)) j0) (9 + ((v * 10 + f * 2 + 0) + j0)) (Int32.ofInt (-1) + 1) from by rw [← Nat.add_assoc 9 (v * 10 + f * 2 + 0) j0]; rfl, ← show Int32.ofNat ((v * 10 + f * 2 + 0) + j0) + Int32.ofInt 1 = Int32.ofNat ((v * 10 + f * 2 + 0) + (j0 + 1)) from xn_suc ((v * 10 + f * 2 + 0) + j0)] at ih0
    exact ih0
  · refine xk_Po.go 6 rfl ?_
    refine xk_Po.ci3 rfl rfl (by have h := c_legOfN (sc := sc) (v := v + 1) (e := 0) (l := 0) (w := cw sl ex ab ta (s_clr dr (fun _ => True) (9 + (v * 10 + f * 2 + 0)) (10 - f * 2)) md ml mt mc on ct r); rw [← xn_suc v] at h; exact h) ?_
    refine xk_Po.br rfl rfl (fun _ => ?_) (fun hx => absurd ((xn_le (by omega) (by omega)).2 (by omega)) hx)
    exact xk_Po.ret rfl rfl
end XkFre
end
section
/-! Words that are written, and the power that may go off at each. -/
section XkWri
variable {sc : Nat × (Nat → Int32)} {sl ex ab ta dr : Nat → Int32} {md ml mt mc on ct : Int32} {r w : xk_W}
/-- slots, extents, words before the cut -/
abbrev s_S : Type := (Nat → Int32) × (Nat → Int32) × Int32
abbrev s_M : Type := s_S → Bool × s_S
def cs (s : s_S) (ab ta dr : Nat → Int32) (md ml mt mc on : Int32) (r : xk_W) : xk_W := cw s.1 s.2.1 ab ta dr md ml mt mc on s.2.2 r
/-- the power went off -/
def cl (s : s_S) (ab ta dr : Nat → Int32) (mc : Int32) (r : xk_W) : xk_W := cw s.1 s.2.1 ab ta dr (-1) (-1) (-1) mc 0 (-1) r
def s_out (o : Bool × s_S) (W V : s_S → xk_W) : xk_R := if o.1 = true then (.inl none, 0, W o.2) else (.inr 0, 1, V o.2)
theorem s_good {o : Bool × s_S} {W V : s_S → xk_W} {s : s_S} (e : o = (true, s)) : ((.inl none, 0, W s) : xk_R) = s_out o W V := by
  rw [e]
  rfl
theorem s_bad {o u : Bool × s_S} {W V : s_S → xk_W} (e : o = u) (q : ¬ u.1 = true) : ((.inr 0, 1, V u.2) : xk_R) = s_out o W V := by
  rw [e]
  exact (if_neg q).symm
def s_dec (c : Int32) : Int32 := if c ≤ 0 then c else c - 1
def m_tick : s_M := fun s => if s.2.2 = 0 then (false, s) else (true, (s.1, s.2.1, s_dec s.2.2))
def m_ex (a : Nat) (y : Int32) : s_M := fun s => if (m_tick s).1 = true then (true, ((m_tick s).2.1, upd (m_tick s).2.2.1 a y, (m_tick s).2.2.2)) else m_tick s
def m_sl (a : Nat) (y : Int32) : s_M := fun s => if (m_tick s).1 = true then (true, (upd (m_tick s).2.1 a y, (m_tick s).2.2.1, (m_tick s).2.2.2)) else m_tick s
def m_seq (X Y : s_M) : s_M := fun s => if (X s).1 = true then Y (X s).2 else X s
def m_no : s_M := fun s => (true, s)
def m_cp (a b : Nat) : s_M := fun s => m_ex a (s.2.1 b) s
def s_slot (f : Nat → Int32) (d : Nat) : Nat := if s_ws f (s_start d 1) < s_ws f (s_start d 0) then 1 else 0
def m_for (F : Nat → s_M) : Nat → Nat → s_M
  | 0, _ => m_no
  | m + 1, j => m_seq (F j) (m_for F m (j + 1))
def m_wt (d : Nat) (t : Nat → Int32) : s_M := fun s => m_for (fun i => m_sl (s_start d (s_slot s.1 d) + i) (t i)) 51 0 s
theorem m_for_ok {F : Nat → s_M} {m j : Nat} {s u : s_S} (h : F j s = (true, u)) : m_for F (m + 1) j s = m_for F m (j + 1) u := by
  show m_seq (F j) (m_for F m (j + 1)) s = _
  unfold m_seq
  rw [h]
  rfl
theorem m_for_no {F : Nat → s_M} {m j : Nat} {s : s_S} {u : Bool × s_S} (h : F j s = u) (q : ¬ u.1 = true) : m_for F (m + 1) j s = u := by
  show m_seq (F j) (m_for F m (j + 1)) s = _
  unfold m_seq
  rw [h, if_neg q]
theorem m_true {o : Bool × s_S} (q : o.1 = true) : o = (true, o.2) := by
  rw [← q]
theorem xk_Po.loopS {σ : Type} {P : Nat → xk_M} {k i : Nat} (N : Nat) (L : Nat → List Value) (w : σ → xk_W) (Φ : Nat → Nat → σ → xk_R → Prop) (hs : ∀ m j s, j + (m + 1) = N → (∀ s, xk_Po P k i (L (j + 1)) [] (w s) (Φ m (j + 1) s)) → xk_Po P k i (L j) [] (w s) (Φ (m + 1) j s)) (he : ∀ s, xk_Po P k i (L N) [] (w s) (Φ 0 N s)) (s : σ) : xk_Po P k i (L 0) [] (w s) (Φ N 0 s) := by
  have h : ∀ m j, j + m = N → ∀ s, xk_Po P k i (L j) [] (w s) (Φ m j s) := by
    intro m
    induction m with
    | zero =>
      intro j hj s
      have e : j = N := by omega
      rw [e]
      exact he s
    | succ m ih =>
      intro j hj s
      exact hs m j s hj (ih (j + 1) (by omega))
  exact h N 0 (by omega) s
theorem xk_Po.cm1 {P : Nat → xk_M} {k i j : Nat} {L : List Value} {w w1 w2 : xk_W} {Φ : xk_R → Prop} {a : Value} {r0 : List Value} {bo : Bool} {x dd : Nat} (h : (P k).1[i]? = some (.invokeinterface j 1)) (hf : xk_fit P j 1 (a :: r0) w = true) (hc : xk_Ev P j 0 (a :: List.replicate ((P j).2.1 - 1) (.retAddr 0)) [] w (if bo = true then (.inl none, 0, w1) else (.inr x, dd, w2))) (hh : (P k).2.2.2.1.isEmpty = true) (hq : ¬ bo = true → Φ (.inr x, dd, w2)) (hk : bo = true → xk_Po P k (i + 1) L r0 w1 Φ) : xk_Po P k i L (a :: r0) w Φ := by
  by_cases hb : bo = true
  · rw [if_pos hb] at hc
    exact xk_Po.cv1 h hf hc (hk hb)
  · rw [if_neg hb] at hc
    exact xk_Po.ct1 h hf hc hh (hq hb)
theorem xk_Po.cm2 {P : Nat → xk_M} {k i j : Nat} {L : List Value} {w w1 w2 : xk_W} {Φ : xk_R → Prop} {a b : Value} {r0 : List Value} {bo : Bool} {x dd : Nat} (h : (P k).1[i]? = some (.invokeinterface j 2)) (hf : xk_fit P j 2 (b :: a :: r0) w = true) (hc : xk_Ev P j 0 (a :: b :: List.replicate ((P j).2.1 - 2) (.retAddr 0)) [] w (if bo = true then (.inl none, 0, w1) else (.inr x, dd, w2))) (hh : (P k).2.2.2.1.isEmpty = true) (hq : ¬ bo = true → Φ (.inr x, dd, w2)) (hk : bo = true → xk_Po P k (i + 1) L r0 w1 Φ) : xk_Po P k i L (b :: a :: r0) w Φ := by
  by_cases hb : bo = true
  · rw [if_pos hb] at hc
    exact xk_Po.cv2 h hf hc (hk hb)
  · rw [if_neg hb] at hc
    exact xk_Po.ct2 h hf hc hh (hq hb)
theorem xk_Po.cm3 {P : Nat → xk_M} {k i j : Nat} {L : List Value} {w w1 w2 : xk_W} {Φ : xk_R → Prop} {a b c : Value} {r0 : List Value} {bo : Bool} {x dd : Nat} (h : (P k).1[i]? = some (.invokeinterface j 3)) (hf : xk_fit P j 3 (c :: b :: a :: r0) w = true) (hc : xk_Ev P j 0 (a :: b :: c :: List.replicate ((P j).2.1 - 3) (.retAddr 0)) [] w (if bo = true then (.inl none, 0, w1) else (.inr x, dd, w2))) (hh : (P k).2.2.2.1.isEmpty = true) (hq : ¬ bo = true → Φ (.inr x, dd, w2)) (hk : bo = true → xk_Po P k (i + 1) L r0 w1 Φ) : xk_Po P k i L (c :: b :: a :: r0) w Φ := by
  by_cases hb : bo = true
  · rw [if_pos hb] at hc
    exact xk_Po.cv3 h hf hc (hk hb)
  · rw [if_neg hb] at hc
    exact xk_Po.ct3 h hf hc hh (hq hb)
theorem xk_Po.cm4 {P : Nat → xk_M} {k i j : Nat} {L : List Value} {w w1 w2 : xk_W} {Φ : xk_R → Prop} {a b c d : Value} {r0 : List Value} {bo : Bool} {x dd : Nat} (h : (P k).1[i]? = some (.invokeinterface j 4)) (hf : xk_fit P j 4 (d :: c :: b :: a :: r0) w = true) (hc : xk_Ev P j 0 (a :: b :: c :: d :: List.replicate ((P j).2.1 - 4) (.retAddr 0)) [] w (if bo = true then (.inl none, 0, w1) else (.inr x, dd, w2))) (hh : (P k).2.2.2.1.isEmpty = true) (hq : ¬ bo = true → Φ (.inr x, dd, w2)) (hk : bo = true → xk_Po P k (i + 1) L r0 w1 Φ) : xk_Po P k i L (d :: c :: b :: a :: r0) w Φ := by
  by_cases hb : bo = true
  · rw [if_pos hb] at hc
    exact xk_Po.cv4 h hf hc (hk hb)
  · rw [if_neg hb] at hc
    exact xk_Po.ct4 h hf hc hh (hq hb)
theorem xk_Po.cm5 {P : Nat → xk_M} {k i j : Nat} {L : List Value} {w w1 w2 : xk_W} {Φ : xk_R → Prop} {a b c d e : Value} {r0 : List Value} {bo : Bool} {x dd : Nat} (h : (P k).1[i]? = some (.invokeinterface j 5)) (hf : xk_fit P j 5 (e :: d :: c :: b :: a :: r0) w = true) (hc : xk_Ev P j 0 (a :: b :: c :: d :: e :: List.replicate ((P j).2.1 - 5) (.retAddr 0)) [] w (if bo = true then (.inl none, 0, w1) else (.inr x, dd, w2))) (hh : (P k).2.2.2.1.isEmpty = true) (hq : ¬ bo = true → Φ (.inr x, dd, w2)) (hk : bo = true → xk_Po P k (i + 1) L r0 w1 Φ) : xk_Po P k i L (e :: d :: c :: b :: a :: r0) w Φ := by
  by_cases hb : bo = true
  · rw [if_pos hb] at hc
    exact xk_Po.cv5 h hf hc (hk hb)
  · rw [if_neg hb] at hc
    exact xk_Po.ct5 h hf hc hh (hq hb)
theorem c_spendWord (h : ¬ ct = 0) : xk_Ev (xp_P sc) 82 0 [.ref 0] [] (cw sl ex ab ta dr md ml mt mc on ct r) (.inl none, 0, cw sl ex ab ta dr md ml mt mc on (s_dec ct) r) := by
  apply xk_Ev.of
  refine xk_Po.go 2 rfl ?_
  refine xk_Po.br rfl rfl (fun h0 => ?_) (fun h0 => ?_) -- 2 .ifCond .ne 6
  · refine xk_Po.go 1 rfl ?_
    refine xk_Po.cv1 rfl rfl (c_losePower) ?_
    exact xk_Po.thr rfl (absurd h0 h)
  · refine xk_Po.go 2 rfl ?_
    refine xk_Po.br rfl rfl (fun h1 => ?_) (fun h1 => ?_) -- 8 .ifCond .le 15
    · exact xk_Po.ret rfl (by rw [show s_dec ct = ct from if_pos h1])
    · refine xk_Po.go 6 rfl ?_
      exact xk_Po.ret rfl (by rw [show s_dec ct = ct - 1 from if_neg h1]; rfl)
theorem c_spendWord_t (h : ct = 0) : xk_Ev (xp_P sc) 82 0 [.ref 0] [] (cw sl ex ab ta dr md ml mt mc on ct r) (.inr 0, 1, cw sl ex ab ta dr (-1) (-1) (-1) mc (0) (-1) r) := by
  apply xk_Ev.of
  refine xk_Po.go 2 rfl ?_
  refine xk_Po.br rfl rfl (fun h0 => ?_) (fun h0 => ?_) -- 2 .ifCond .ne 6
  · refine xk_Po.go 1 rfl ?_
    refine xk_Po.cv1 rfl rfl (c_losePower) ?_
    exact xk_Po.thr rfl rfl
  · refine xk_Po.go 2 rfl ?_
    refine xk_Po.br rfl rfl (fun h1 => ?_) (fun h1 => ?_) -- 8 .ifCond .le 15
    · exact xk_Po.ret rfl (absurd h h0)
    · refine xk_Po.go 6 rfl ?_
      exact xk_Po.ret rfl (absurd h h0)
theorem c_spendM {s : s_S} : xk_Ev (xp_P sc) 82 0 [.ref 0] [] (cs (s) ab ta dr md ml mt mc on r) (s_out (m_tick s) (fun s => cs (s) ab ta dr md ml mt mc on r) (fun s => cl (s) ab ta dr mc r)) := by
  unfold m_tick
  by_cases h : s.2.2 = 0
  · rw [if_pos h]
    exact c_spendWord_t h
  · rw [if_neg h]
    exact c_spendWord h
theorem c_putWord {s : s_S} {x k : Nat} {y : Int32} (hx : x < 32) (hk : k < 4)  : xk_Ev (xp_P sc) 83 0 [.ref 0, .int (Int32.ofNat x), .int (Int32.ofNat k), .int y] [] (cs (s) ab ta dr md ml mt mc on r) (s_out (m_ex (x * 4 + k) y s) (fun s => cs (s) ab ta dr md ml mt mc on r) (fun s => cl (s) ab ta dr mc r)) := by
  apply xk_Ev.of
  refine xk_Po.go 1 rfl ?_
  refine xk_Po.cm1 rfl rfl (c_spendM) rfl (fun q0 => s_bad (W := fun s => cs (s) ab ta dr md ml mt mc on r) (V := fun s => cl (s) ab ta dr mc r) (u := m_tick s) (if_neg q0) q0) (fun q0 => ?_)
  refine xk_Po.go 5 rfl ?_
  refine xk_Po.cv4 rfl rfl (c_setExtentWord hx hk) ?_
  exact xk_Po.ret rfl (s_good (W := fun s => cs (s) ab ta dr md ml mt mc on r) (V := fun s => cl (s) ab ta dr mc r) (s := ((m_tick s).2.1, upd (m_tick s).2.2.1 (x * 4 + k) y, (m_tick s).2.2.2)) (if_pos q0))
theorem c_clearLeg {s : s_S} {j x : Nat} (hj : j < 40) (hx : x < 32) (hw : dr (9 + j) - 1 = Int32.ofNat x) : xk_Ev (xp_P sc) 98 0 [.ref 0, .int (Int32.ofNat j), .retAddr 0] [] (cs (s) ab ta dr md ml mt mc on r) (s_out (m_for (fun k => m_ex (x * 4 + k) 0) 4 0 s) (fun s => cs (s) ab ta dr md ml mt mc on r) (fun s => cl (s) ab ta dr mc r)) := by
  apply xk_Ev.of
  refine xk_Po.go 2 rfl ?_
  refine xk_Po.loopS 4 (fun j0 => [.ref 0, .int (Int32.ofNat j), .int (Int32.ofNat j0)]) (fun s => cs (s) ab ta dr md ml mt mc on r) (fun m0 j0 s => fun z => z = s_out (m_for (fun k => m_ex (x * 4 + k) 0) m0 j0 s) (fun s => cs (s) ab ta dr md ml mt mc on r) (fun s => cl (s) ab ta dr mc r)) (fun m0 j0 s hj0 ih0 => ?_) (fun s => ?_) s
  · have uj0 : j0 < 4 := by omega
    refine xk_Po.go 2 rfl ?_
    refine xk_Po.br rfl rfl (fun hx => absurd ((xn_le (a := 4) (b := j0) (by omega) (by omega)).1 hx) (by omega)) (fun _ => ?_)
    refine xk_Po.go 4 rfl ?_
    refine xk_Po.ci2 rfl rfl (by have h := d_spotOfN (sc := sc) (sl := (s).1) (ex := (s).2.1) (ab := ab) (ta := ta) (dr := dr) (md := md) (ml := ml) (mt := mt) (mc := mc) (on := on) (ct := (s).2.2) (r := r) hj; rw [hw] at h; exact h) ?_
    refine xk_Po.go 2 rfl ?_
    refine xk_Po.cm4 rfl rfl (c_putWord hx (by omega)) rfl (fun q0 => s_bad (W := fun s => cs (s) ab ta dr md ml mt mc on r) (V := fun s => cl (s) ab ta dr mc r) (u := m_ex (x * 4 + j0) 0 s) (m_for_no rfl q0) q0) (fun q0 => ?_)
    refine xk_Po.go 2 rfl ?_
    rw [show m_for (fun k => m_ex (x * 4 + k) 0) (m0 + 1) j0 s = m_for (fun k => m_ex (x * 4 + k) 0) m0 (j0 + 1) _ from m_for_ok (m_true q0)]
    rw [← xn_suc j0] at ih0
    exact ih0 _
  · refine xk_Po.go 3 rfl ?_
    exact xk_Po.ret rfl (s_good (W := fun s => cs (s) ab ta dr md ml mt mc on r) (V := fun s => cl (s) ab ta dr mc r) (s := s) (rfl))
theorem c_copyExtent {s : s_S} {x y : Nat} (hx : x < 32) (hy : y < 32) : xk_Ev (xp_P sc) 102 0 [.ref 0, .int (Int32.ofNat x), .int (Int32.ofNat y), .retAddr 0] [] (cs (s) ab ta dr md ml mt mc on r) (s_out (m_for (fun k => m_cp (y * 4 + k) (x * 4 + k)) 4 0 s) (fun s => cs (s) ab ta dr md ml mt mc on r) (fun s => cl (s) ab ta dr mc r)) := by
  apply xk_Ev.of
  refine xk_Po.go 2 rfl ?_
  refine xk_Po.loopS 4 (fun j0 => [.ref 0, .int (Int32.ofNat x), .int (Int32.ofNat y), .int (Int32.ofNat j0)]) (fun s => cs (s) ab ta dr md ml mt mc on r) (fun m0 j0 s => fun z => z = s_out (m_for (fun k => m_cp (y * 4 + k) (x * 4 + k)) m0 j0 s) (fun s => cs (s) ab ta dr md ml mt mc on r) (fun s => cl (s) ab ta dr mc r)) (fun m0 j0 s hj0 ih0 => ?_) (fun s => ?_) s
  · have uj0 : j0 < 4 := by omega
    refine xk_Po.go 2 rfl ?_
    refine xk_Po.br rfl rfl (fun hx => absurd ((xn_le (a := 4) (b := j0) (by omega) (by omega)).1 hx) (by omega)) (fun _ => ?_)
    refine xk_Po.go 7 rfl ?_
    refine xk_Po.ci3 rfl rfl (c_extentWord hx (by omega)) ?_
    refine xk_Po.cm4 rfl rfl (c_putWord hy (by omega)) rfl (fun q0 => s_bad (W := fun s => cs (s) ab ta dr md ml mt mc on r) (V := fun s => cl (s) ab ta dr mc r) (u := m_cp (y * 4 + j0) (x * 4 + j0) s) (m_for_no rfl q0) q0) (fun q0 => ?_)
    refine xk_Po.go 2 rfl ?_
    rw [show m_for (fun k => m_cp (y * 4 + k) (x * 4 + k)) (m0 + 1) j0 s = m_for (fun k => m_cp (y * 4 + k) (x * 4 + k)) m0 (j0 + 1) _ from m_for_ok (m_true q0)]
    rw [← xn_suc j0] at ih0
    exact ih0 _
  · refine xk_Po.go 3 rfl ?_
    exact xk_Po.ret rfl (s_good (W := fun s => cs (s) ab ta dr md ml mt mc on r) (V := fun s => cl (s) ab ta dr mc r) (s := s) (rfl))
theorem c_slotToWriteN {d : Nat} (hd : d < 4) : xk_Ev (xp_P sc) 7 0 [.ref 1, .int (Int32.ofNat d)] [] (cw sl ex ab ta dr md ml mt mc on ct r) (.inl (some (.int (Int32.ofNat (s_slot sl d)))), 0, cw sl ex ab ta dr md ml mt mc on ct r) := by
  have h := c_slotToWrite (sc := sc) (sl := sl) (ex := ex) (ab := ab) (ta := ta) (dr := dr) (md := md) (ml := ml) (mt := mt) (mc := mc) (on := on) (ct := ct) (r := r) hd
  rw [show (if s_ws sl (s_start d 1) < s_ws sl (s_start d 0) then (1 : Int32) else 0) = Int32.ofNat (s_slot sl d) from by unfold s_slot; split <;> rfl] at h
  exact h
theorem c_writeTable0 {s : s_S} {d n : Nat} (hd : d < 4) (hn : n < 2) (hs : s_slot s.1 d = n) : xk_Ev (xp_P sc) 88 0 [.ref 0, .ref 5, .int (Int32.ofNat d), .retAddr 0, .retAddr 0] [] (cs (s) ab ta dr md ml mt mc on r) (s_out (m_for (fun i => m_sl (s_start d n + i) (ta i)) 51 0 s) (fun s => cs (s) ab ta dr md ml mt mc on r) (fun s => cl (s) ab ta dr mc r)) := by
  apply xk_Ev.of
  refine xk_Po.go 3 rfl ?_
  refine xk_Po.ci2 rfl rfl (by have h := c_slotToWriteN (sc := sc) (sl := (s).1) (ex := (s).2.1) (ab := ab) (ta := ta) (dr := dr) (md := md) (ml := ml) (mt := mt) (mc := mc) (on := on) (ct := (s).2.2) (r := r) hd; rw [hs] at h; exact h) ?_
  refine xk_Po.go 3 rfl ?_
  refine xk_Po.loopS 51 (fun j0 => [.ref 0, .ref 5, .int (Int32.ofNat d), .int (Int32.ofNat n), .int (Int32.ofNat j0)]) (fun s => cs (s) ab ta dr md ml mt mc on r) (fun m0 j0 s => fun z => z = s_out (m_for (fun i => m_sl (s_start d n + i) (ta i)) m0 j0 s) (fun s => cs (s) ab ta dr md ml mt mc on r) (fun s => cl (s) ab ta dr mc r)) (fun m0 j0 s hj0 ih0 => ?_) (fun s => ?_) s
  · have uj0 : j0 < 51 := by omega
    refine xk_Po.go 2 rfl ?_
    refine xk_Po.br rfl rfl (fun hx => absurd ((xn_le (a := 51) (b := j0) (by omega) (by omega)).1 hx) (by omega)) (fun _ => ?_)
    refine xk_Po.go 1 rfl ?_
    refine xk_Po.cm1 rfl rfl (c_spendM) rfl (fun q0 => s_bad (W := fun s => cs (s) ab ta dr md ml mt mc on r) (V := fun s => cl (s) ab ta dr mc r) (u := m_tick s) (m_for_no (if_neg q0) q0) q0) (fun q0 => ?_)
    refine xk_Po.go 8 rfl ?_
    refine xk_Po.ok rfl rfl (xn_ix (j := j0) (by omega) (by omega)) ?_ -- .iaload
    rw [xn_nat (j := j0) (by omega)]
    refine xk_Po.cv5 rfl rfl (c_setSlotWord hd hn (by omega)) ?_
    refine xk_Po.go 2 rfl ?_
    rw [show m_for (fun i => m_sl (s_start d n + i) (ta i)) (m0 + 1) j0 s = m_for (fun i => m_sl (s_start d n + i) (ta i)) m0 (j0 + 1) _ from m_for_ok (if_pos q0)]
    rw [← xn_suc j0] at ih0
    exact ih0 (upd (m_tick s).2.1 (s_start d n + j0) (ta j0), (m_tick s).2.2.1, (m_tick s).2.2.2)
  · refine xk_Po.go 3 rfl ?_
    exact xk_Po.ret rfl (s_good (W := fun s => cs (s) ab ta dr md ml mt mc on r) (V := fun s => cl (s) ab ta dr mc r) (s := s) (rfl))
theorem c_writeTable {s : s_S} {d : Nat} (hd : d < 4) : xk_Ev (xp_P sc) 88 0 [.ref 0, .ref 5, .int (Int32.ofNat d), .retAddr 0, .retAddr 0] [] (cs (s) ab ta dr md ml mt mc on r) (s_out (m_wt d ta s) (fun s => cs (s) ab ta dr md ml mt mc on r) (fun s => cl (s) ab ta dr mc r)) := c_writeTable0 hd (by unfold s_slot; split <;> omega) rfl
theorem d_writeTable0 {s : s_S} {d n : Nat} (hd : d < 4) (hn : n < 2) (hs : s_slot s.1 d = n) : xk_Ev (xp_P sc) 88 0 [.ref 0, .ref 7, .int (Int32.ofNat d), .retAddr 0, .retAddr 0] [] (cs (s) ab ta dr md ml mt mc on r) (s_out (m_for (fun i => m_sl (s_start d n + i) (dr i)) 51 0 s) (fun s => cs (s) ab ta dr md ml mt mc on r) (fun s => cl (s) ab ta dr mc r)) := by
  apply xk_Ev.of
  refine xk_Po.go 3 rfl ?_
  refine xk_Po.ci2 rfl rfl (by have h := c_slotToWriteN (sc := sc) (sl := (s).1) (ex := (s).2.1) (ab := ab) (ta := ta) (dr := dr) (md := md) (ml := ml) (mt := mt) (mc := mc) (on := on) (ct := (s).2.2) (r := r) hd; rw [hs] at h; exact h) ?_
  refine xk_Po.go 3 rfl ?_
  refine xk_Po.loopS 51 (fun j0 => [.ref 0, .ref 7, .int (Int32.ofNat d), .int (Int32.ofNat n), .int (Int32.ofNat j0)]) (fun s => cs (s) ab ta dr md ml mt mc on r) (fun m0 j0 s => fun z => z = s_out (m_for (fun i => m_sl (s_start d n + i) (dr i)) m0 j0 s) (fun s => cs (s) ab ta dr md ml mt mc on r) (fun s => cl (s) ab ta dr mc r)) (fun m0 j0 s hj0 ih0 => ?_) (fun s => ?_) s
  · have uj0 : j0 < 51 := by omega
    refine xk_Po.go 2 rfl ?_
    refine xk_Po.br rfl rfl (fun hx => absurd ((xn_le (a := 51) (b := j0) (by omega) (by omega)).1 hx) (by omega)) (fun _ => ?_)
    refine xk_Po.go 1 rfl ?_
    refine xk_Po.cm1 rfl rfl (c_spendM) rfl (fun q0 => s_bad (W := fun s => cs (s) ab ta dr md ml mt mc on r) (V := fun s => cl (s) ab ta dr mc r) (u := m_tick s) (m_for_no (if_neg q0) q0) q0) (fun q0 => ?_)
    refine xk_Po.go 8 rfl ?_
    refine xk_Po.ok rfl rfl (xn_ix (j := j0) (by omega) (by omega)) ?_ -- .iaload
    rw [xn_nat (j := j0) (by omega)]
    refine xk_Po.cv5 rfl rfl (c_setSlotWord hd hn (by omega)) ?_
    refine xk_Po.go 2 rfl ?_
    rw [show m_for (fun i => m_sl (s_start d n + i) (dr i)) (m0 + 1) j0 s = m_for (fun i => m_sl (s_start d n + i) (dr i)) m0 (j0 + 1) _ from m_for_ok (if_pos q0)]
    rw [← xn_suc j0] at ih0
    exact ih0 (upd (m_tick s).2.1 (s_start d n + j0) (dr j0), (m_tick s).2.2.1, (m_tick s).2.2.2)
  · refine xk_Po.go 3 rfl ?_
    exact xk_Po.ret rfl (s_good (W := fun s => cs (s) ab ta dr md ml mt mc on r) (V := fun s => cl (s) ab ta dr mc r) (s := s) (rfl))
theorem d_writeTable {s : s_S} {d : Nat} (hd : d < 4) : xk_Ev (xp_P sc) 88 0 [.ref 0, .ref 7, .int (Int32.ofNat d), .retAddr 0, .retAddr 0] [] (cs (s) ab ta dr md ml mt mc on r) (s_out (m_wt d dr s) (fun s => cs (s) ab ta dr md ml mt mc on r) (fun s => cl (s) ab ta dr mc r)) := d_writeTable0 hd (by unfold s_slot; split <;> omega) rfl
end XkWri
end
section
/-! A draft is committed; a leg's word; twins; extents cleared. -/
section XkCom
variable {sc : Nat × (Nat → Int32)} {sl ex ab ta dr : Nat → Int32} {md ml mt mc on ct : Int32} {r w : xk_W}
def s_seal (t : Nat → Int32) (x : Int32) : Nat → Int32 := upd (upd (upd t 0 x) 49 (s_sum (upd t 0 x) 0 49)) 50 x
theorem s_seal_z {t : Nat → Int32} {x : Int32} (h : ∀ i, 51 ≤ i → t i = 0) : ∀ i, 51 ≤ i → s_seal t x i = 0 := by
  intro i hi
  unfold s_seal upd
  rw [if_neg (by omega), if_neg (by omega), if_neg (by omega)]
  exact h i hi
def s_ml (t : Nat → Int32) (ml mt : Int32) : Int32 × Int32 := if ml = Int32.ofInt (-1) then (ml, mt) else if t (9 + ml.toNatClampNeg) - 1 = Int32.ofInt (-1) then (-1, -1) else (ml, mt)
def m_com (D ab : Nat → Int32) : s_M := m_for (fun d => if ¬ D (1 + d) = 0 ∧ ab d = 0 then m_wt d D else m_no) 4 0
theorem c_spotOfI {g : Int32} (hg : ∃ j, j < 40 ∧ g = Int32.ofNat j) : xk_Ev (xp_P sc) 34 0 [.ref 5, .int g] [] (cw sl ex ab ta dr md ml mt mc on ct r) (.inl (some (.int (ta (9 + g.toNatClampNeg) - 1))), 0, cw sl ex ab ta dr md ml mt mc on ct r) := by
  obtain ⟨j, hj, rfl⟩ := hg
  rw [xn_nat (j := j) (by omega)]
  exact c_spotOfN hj
theorem c_putLeg1 {s : s_S} {j k x : Nat} {y : Int32} (hj : j < 40) (hk : k < 4) (hx : x < 32) (hw : ta (9 + j) - 1 = Int32.ofNat x) (h : ¬ (ml = Int32.ofNat j ∧ ¬ mc ≤ Int32.ofNat k)) : xk_Ev (xp_P sc) 84 0 [.ref 0, .int (Int32.ofNat j), .int (Int32.ofNat k), .int y] [] (cs (s) ab ta dr md ml mt mc on r) (s_out (m_ex (x * 4 + k) y s) (fun s => cs (s) ab ta dr md ml mt mc on r) (fun s => cl (s) ab ta dr mc r)) := by
  apply xk_Ev.of
  refine xk_Po.go 4 rfl ?_
  refine xk_Po.ci2 rfl rfl (by have h := c_spotOfN (sc := sc) (sl := (s).1) (ex := (s).2.1) (ab := ab) (ta := ta) (dr := dr) (md := md) (ml := ml) (mt := mt) (mc := mc) (on := on) (ct := (s).2.2) (r := r) hj; rw [hw] at h; exact h) ?_
  refine xk_Po.go 2 rfl ?_
  refine xk_Po.cm4 rfl rfl (c_putWord hx hk) rfl (fun q0 => s_bad (W := fun s => cs (s) ab ta dr md ml mt mc on r) (V := fun s => cl (s) ab ta dr mc r) (u := m_ex (x * 4 + k) y s) (rfl) q0) (fun q0 => ?_)
  refine xk_Po.go 4 rfl ?_
  refine xk_Po.ci3 rfl rfl (c_hasCopied) ?_
  refine xk_Po.br rfl rfl (fun h0 => ?_) (fun h0 => ?_) -- 13 .ifCond .eq 21
  · exact xk_Po.ret rfl (s_good (W := fun s => cs (s) ab ta dr md ml mt mc on r) (V := fun s => cl (s) ab ta dr mc r) (s := (m_ex (x * 4 + k) y s).2) (m_true q0))
  · exact absurd (xn_b1 h0) h
theorem c_putLeg2 {s : s_S} {j k x : Nat} {y : Int32} (hj : j < 40) (hk : k < 4) (hx : x < 32) (hw : ta (9 + j) - 1 = Int32.ofNat x) {x2 : Nat} (hx2 : x2 < 32) (h : ml = Int32.ofNat j ∧ ¬ mc ≤ Int32.ofNat k) : xk_Ev (xp_P sc) 84 0 [.ref 0, .int (Int32.ofNat j), .int (Int32.ofNat k), .int y] [] (cs (s) ab ta dr md ml (Int32.ofNat x2) mc on r) (s_out (m_seq (m_ex (x * 4 + k) y) (m_ex (x2 * 4 + k) y) s) (fun s => cs (s) ab ta dr md ml (Int32.ofNat x2) mc on r) (fun s => cl (s) ab ta dr mc r)) := by
  apply xk_Ev.of
  refine xk_Po.go 4 rfl ?_
  refine xk_Po.ci2 rfl rfl (by have h := c_spotOfN (sc := sc) (sl := (s).1) (ex := (s).2.1) (ab := ab) (ta := ta) (dr := dr) (md := md) (ml := ml) (mt := Int32.ofNat x2) (mc := mc) (on := on) (ct := (s).2.2) (r := r) hj; rw [hw] at h; exact h) ?_
  refine xk_Po.go 2 rfl ?_
  refine xk_Po.cm4 rfl rfl (c_putWord hx hk) rfl (fun q0 => s_bad (W := fun s => cs (s) ab ta dr md ml (Int32.ofNat x2) mc on r) (V := fun s => cl (s) ab ta dr mc r) (u := m_ex (x * 4 + k) y s) (if_neg q0) q0) (fun q0 => ?_)
  refine xk_Po.go 4 rfl ?_
  refine xk_Po.ci3 rfl rfl (c_hasCopied) ?_
  refine xk_Po.br rfl rfl (fun h0 => ?_) (fun h0 => ?_) -- 13 .ifCond .eq 21
  · exact xk_Po.ret rfl (absurd h (xn_b0 h0))
  · refine xk_Po.go 6 rfl ?_
    refine xk_Po.cm4 rfl rfl (c_putWord hx2 hk) rfl (fun q1 => s_bad (W := fun s => cs (s) ab ta dr md ml (Int32.ofNat x2) mc on r) (V := fun s => cl (s) ab ta dr mc r) (u := m_ex (x2 * 4 + k) y (m_ex (x * 4 + k) y s).2) (if_pos q0) q1) (fun q1 => ?_)
    exact xk_Po.ret rfl (s_good (W := fun s => cs (s) ab ta dr md ml (Int32.ofNat x2) mc on r) (V := fun s => cl (s) ab ta dr mc r) (s := (m_ex (x2 * 4 + k) y (m_ex (x * 4 + k) y s).2).2) ((if_pos q0).trans (m_true q1)))
theorem c_commitDraft1 {s : s_S} (hb : ∀ i, ab i = 0 ∨ ab i = 1) (h : s_any (fun j => ¬ ta (1 + j) = 0 ∧ ¬ ab j = 0) 4 0 = 0) (ht : ∀ i, 51 ≤ i → ta i = 0) (hd : ∀ i, 51 ≤ i → dr i = 0) (hml : ¬ ml = Int32.ofInt (-1) → ∃ j, j < 40 ∧ ml = Int32.ofNat j) : xk_Ev (xp_P sc) 86 0 [.ref 0, .retAddr 0] [] (cs (s) ab ta dr md ml mt mc on r) (s_out (m_com (s_seal dr (ta 0 + 1)) ab s) (fun s => cs (s) ab ((s_seal dr (ta 0 + 1))) ((s_seal dr (ta 0 + 1))) md ((s_ml (s_seal dr (ta 0 + 1)) ml mt).1) ((s_ml (s_seal dr (ta 0 + 1)) ml mt).2) mc on r) (fun s => cl (s) ab ta ((s_seal dr (ta 0 + 1))) mc r)) := by
  apply xk_Ev.of
  refine xk_Po.go 4 rfl ?_
  refine xk_Po.ci1 rfl rfl (c_serial) ?_
  refine xk_Po.go 1 rfl ?_
  refine xk_Po.ci1 rfl rfl (c_isAnyListedAbsent hb) ?_
  refine xk_Po.br rfl rfl (fun h0 => ?_) (fun h0 => ?_) -- 7 .ifCond .eq 10
  · refine xk_Po.go 2 rfl ?_
    refine xk_Po.cv2 rfl rfl (d_seal) ?_
    refine xk_Po.go 2 rfl ?_
    refine xk_Po.loopS 4 (fun j0 => [.ref 0, .int (Int32.ofNat j0)]) (fun s => cs (s) ab ta ((s_seal dr (ta 0 + 1))) md ml mt mc on r) (fun m0 j0 s => fun z => z = s_out (m_for (fun d => if ¬ (s_seal dr (ta 0 + 1)) (1 + d) = 0 ∧ ab d = 0 then m_wt d (s_seal dr (ta 0 + 1)) else m_no) m0 j0 s) (fun s => cs (s) ab ((s_seal dr (ta 0 + 1))) ((s_seal dr (ta 0 + 1))) md ((s_ml (s_seal dr (ta 0 + 1)) ml mt).1) ((s_ml (s_seal dr (ta 0 + 1)) ml mt).2) mc on r) (fun s => cl (s) ab ta ((s_seal dr (ta 0 + 1))) mc r)) (fun m0 j0 s hj0 ih0 => ?_) (fun s => ?_) s
    · have uj0 : j0 < 4 := by omega
      refine xk_Po.go 2 rfl ?_
      refine xk_Po.br rfl rfl (fun hx => absurd ((xn_le (a := 4) (b := j0) (by omega) (by omega)).1 hx) (by omega)) (fun _ => ?_)
      refine xk_Po.go 4 rfl ?_
      refine xk_Po.ci3 rfl rfl (d_isListedAndPresent (by omega) hb) ?_
      refine xk_Po.br rfl rfl (fun h1 => ?_) (fun h1 => ?_) -- 23 .ifCond .eq 29
      · refine xk_Po.go 2 rfl ?_
        rw [show m_for (fun d => if ¬ (s_seal dr (ta 0 + 1)) (1 + d) = 0 ∧ ab d = 0 then m_wt d (s_seal dr (ta 0 + 1)) else m_no) (m0 + 1) j0 s = m_for (fun d => if ¬ (s_seal dr (ta 0 + 1)) (1 + d) = 0 ∧ ab d = 0 then m_wt d (s_seal dr (ta 0 + 1)) else m_no) m0 (j0 + 1) s from m_for_ok (congrFun (if_neg (xn_b0 h1)) s)]
        rw [← xn_suc j0] at ih0
        exact ih0 _
      · refine xk_Po.go 4 rfl ?_
        refine xk_Po.cm3 rfl rfl (d_writeTable (by omega)) rfl (fun q0 => s_bad (W := fun s => cs (s) ab ((s_seal dr (ta 0 + 1))) ((s_seal dr (ta 0 + 1))) md ((s_ml (s_seal dr (ta 0 + 1)) ml mt).1) ((s_ml (s_seal dr (ta 0 + 1)) ml mt).2) mc on r) (V := fun s => cl (s) ab ta ((s_seal dr (ta 0 + 1))) mc r) (u := m_wt j0 (s_seal dr (ta 0 + 1)) s) (m_for_no (congrFun (if_pos (xn_b1 h1)) s) q0) q0) (fun q0 => ?_)
        refine xk_Po.go 2 rfl ?_
        rw [show m_for (fun d => if ¬ (s_seal dr (ta 0 + 1)) (1 + d) = 0 ∧ ab d = 0 then m_wt d (s_seal dr (ta 0 + 1)) else m_no) (m0 + 1) j0 s = m_for (fun d => if ¬ (s_seal dr (ta 0 + 1)) (1 + d) = 0 ∧ ab d = 0 then m_wt d (s_seal dr (ta 0 + 1)) else m_no) m0 (j0 + 1) _ from m_for_ok ((congrFun (if_pos (xn_b1 h1)) s).trans (m_true q0))]
        rw [← xn_suc j0] at ih0
        exact ih0 _
    · refine xk_Po.go 9 rfl ?_
      refine xk_Po.cv3 rfl rfl (by have h := c_takeD (sc := sc) (sl := (s).1) (ex := (s).2.1) (ab := ab) (ta := ta) (dr := (s_seal dr (ta 0 + 1))) (md := md) (ml := ml) (mt := mt) (mc := mc) (on := on) (ct := (s).2.2) (r := r); rw [s_cpy (s_seal dr (ta 0 + 1)) ta (s_seal_z hd) ht] at h; exact h) ?_
      refine xk_Po.go 4 rfl ?_
      refine xk_Po.br rfl rfl (fun h1 => ?_) (fun h1 => ?_) -- 42 .if_icmp .eq 54
      · exact xk_Po.ret rfl (by have g := s_good (W := fun s => cs (s) ab ((s_seal dr (ta 0 + 1))) ((s_seal dr (ta 0 + 1))) md ((s_ml (s_seal dr (ta 0 + 1)) ml mt).1) ((s_ml (s_seal dr (ta 0 + 1)) ml mt).2) mc on r) (V := fun s => cl (s) ab ta ((s_seal dr (ta 0 + 1))) mc r) (s := s) (o := m_for (fun d => if ¬ (s_seal dr (ta 0 + 1)) (1 + d) = 0 ∧ ab d = 0 then m_wt d (s_seal dr (ta 0 + 1)) else m_no) 0 4 s) rfl; rw [← g]; show _ = ((.inl none, 0, cs (s) ab ((s_seal dr (ta 0 + 1))) ((s_seal dr (ta 0 + 1))) md ((s_ml (s_seal dr (ta 0 + 1)) ml mt).1) ((s_ml (s_seal dr (ta 0 + 1)) ml mt).2) mc on r) : xk_R); rw [show s_ml (s_seal dr (ta 0 + 1)) ml mt = (ml, mt) from if_pos h1]; rfl)
      · refine xk_Po.go 5 rfl ?_
        refine xk_Po.ci2 rfl rfl (c_spotOfI (hml h1)) ?_
        refine xk_Po.go 1 rfl ?_
        refine xk_Po.br rfl rfl (fun h2 => ?_) (fun h2 => ?_) -- 50 .if_icmp .ne 54
        · refine xk_Po.go 2 rfl ?_
          refine xk_Po.cv1 rfl rfl (c_endCopy) ?_
          exact xk_Po.ret rfl (by have g := s_good (W := fun s => cs (s) ab ((s_seal dr (ta 0 + 1))) ((s_seal dr (ta 0 + 1))) md ((s_ml (s_seal dr (ta 0 + 1)) ml mt).1) ((s_ml (s_seal dr (ta 0 + 1)) ml mt).2) mc on r) (V := fun s => cl (s) ab ta ((s_seal dr (ta 0 + 1))) mc r) (s := s) (o := m_for (fun d => if ¬ (s_seal dr (ta 0 + 1)) (1 + d) = 0 ∧ ab d = 0 then m_wt d (s_seal dr (ta 0 + 1)) else m_no) 0 4 s) rfl; rw [← g]; show _ = ((.inl none, 0, cs (s) ab ((s_seal dr (ta 0 + 1))) ((s_seal dr (ta 0 + 1))) md ((s_ml (s_seal dr (ta 0 + 1)) ml mt).1) ((s_ml (s_seal dr (ta 0 + 1)) ml mt).2) mc on r) : xk_R); rw [show s_ml (s_seal dr (ta 0 + 1)) ml mt = (-1, -1) from (if_neg h1).trans (if_pos h2)]; rfl)
        · exact xk_Po.ret rfl (by have g := s_good (W := fun s => cs (s) ab ((s_seal dr (ta 0 + 1))) ((s_seal dr (ta 0 + 1))) md ((s_ml (s_seal dr (ta 0 + 1)) ml mt).1) ((s_ml (s_seal dr (ta 0 + 1)) ml mt).2) mc on r) (V := fun s => cl (s) ab ta ((s_seal dr (ta 0 + 1))) mc r) (s := s) (o := m_for (fun d => if ¬ (s_seal dr (ta 0 + 1)) (1 + d) = 0 ∧ ab d = 0 then m_wt d (s_seal dr (ta 0 + 1)) else m_no) 0 4 s) rfl; rw [← g]; show _ = ((.inl none, 0, cs (s) ab ((s_seal dr (ta 0 + 1))) ((s_seal dr (ta 0 + 1))) md ((s_ml (s_seal dr (ta 0 + 1)) ml mt).1) ((s_ml (s_seal dr (ta 0 + 1)) ml mt).2) mc on r) : xk_R); rw [show s_ml (s_seal dr (ta 0 + 1)) ml mt = (ml, mt) from (if_neg h1).trans (if_neg h2)]; rfl)
  · exact absurd h h0
theorem c_commitDraft2 {s : s_S} (hb : ∀ i, ab i = 0 ∨ ab i = 1) (h : ¬ s_any (fun j => ¬ ta (1 + j) = 0 ∧ ¬ ab j = 0) 4 0 = 0) (ht : ∀ i, 51 ≤ i → ta i = 0) (hd : ∀ i, 51 ≤ i → dr i = 0) (hml : ¬ ml = Int32.ofInt (-1) → ∃ j, j < 40 ∧ ml = Int32.ofNat j) : xk_Ev (xp_P sc) 86 0 [.ref 0, .retAddr 0] [] (cs (s) ab ta dr md ml mt mc on r) (s_out (m_com (s_seal dr (ta 0 + 2)) ab s) (fun s => cs (s) ab ((s_seal dr (ta 0 + 2))) ((s_seal dr (ta 0 + 2))) md ((s_ml (s_seal dr (ta 0 + 2)) ml mt).1) ((s_ml (s_seal dr (ta 0 + 2)) ml mt).2) mc on r) (fun s => cl (s) ab ta ((s_seal dr (ta 0 + 2))) mc r)) := by
  apply xk_Ev.of
  refine xk_Po.go 4 rfl ?_
  refine xk_Po.ci1 rfl rfl (c_serial) ?_
  refine xk_Po.go 1 rfl ?_
  refine xk_Po.ci1 rfl rfl (c_isAnyListedAbsent hb) ?_
  refine xk_Po.br rfl rfl (fun h0 => ?_) (fun h0 => ?_) -- 7 .ifCond .eq 10
  · exact absurd h0 h
  · refine xk_Po.go 3 rfl ?_
    refine xk_Po.cv2 rfl rfl (d_seal) ?_
    refine xk_Po.go 2 rfl ?_
    refine xk_Po.loopS 4 (fun j0 => [.ref 0, .int (Int32.ofNat j0)]) (fun s => cs (s) ab ta ((s_seal dr (ta 0 + 2))) md ml mt mc on r) (fun m0 j0 s => fun z => z = s_out (m_for (fun d => if ¬ (s_seal dr (ta 0 + 2)) (1 + d) = 0 ∧ ab d = 0 then m_wt d (s_seal dr (ta 0 + 2)) else m_no) m0 j0 s) (fun s => cs (s) ab ((s_seal dr (ta 0 + 2))) ((s_seal dr (ta 0 + 2))) md ((s_ml (s_seal dr (ta 0 + 2)) ml mt).1) ((s_ml (s_seal dr (ta 0 + 2)) ml mt).2) mc on r) (fun s => cl (s) ab ta ((s_seal dr (ta 0 + 2))) mc r)) (fun m0 j0 s hj0 ih0 => ?_) (fun s => ?_) s
    · have uj0 : j0 < 4 := by omega
      refine xk_Po.go 2 rfl ?_
      refine xk_Po.br rfl rfl (fun hx => absurd ((xn_le (a := 4) (b := j0) (by omega) (by omega)).1 hx) (by omega)) (fun _ => ?_)
      refine xk_Po.go 4 rfl ?_
      refine xk_Po.ci3 rfl rfl (d_isListedAndPresent (by omega) hb) ?_
      refine xk_Po.br rfl rfl (fun h1 => ?_) (fun h1 => ?_) -- 23 .ifCond .eq 29
      · refine xk_Po.go 2 rfl ?_
        rw [show m_for (fun d => if ¬ (s_seal dr (ta 0 + 2)) (1 + d) = 0 ∧ ab d = 0 then m_wt d (s_seal dr (ta 0 + 2)) else m_no) (m0 + 1) j0 s = m_for (fun d => if ¬ (s_seal dr (ta 0 + 2)) (1 + d) = 0 ∧ ab d = 0 then m_wt d (s_seal dr (ta 0 + 2)) else m_no) m0 (j0 + 1) s from m_for_ok (congrFun (if_neg (xn_b0 h1)) s)]
        rw [← xn_suc j0] at ih0
        exact ih0 _
      · refine xk_Po.go 4 rfl ?_
        refine xk_Po.cm3 rfl rfl (d_writeTable (by omega)) rfl (fun q0 => s_bad (W := fun s => cs (s) ab ((s_seal dr (ta 0 + 2))) ((s_seal dr (ta 0 + 2))) md ((s_ml (s_seal dr (ta 0 + 2)) ml mt).1) ((s_ml (s_seal dr (ta 0 + 2)) ml mt).2) mc on r) (V := fun s => cl (s) ab ta ((s_seal dr (ta 0 + 2))) mc r) (u := m_wt j0 (s_seal dr (ta 0 + 2)) s) (m_for_no (congrFun (if_pos (xn_b1 h1)) s) q0) q0) (fun q0 => ?_)
        refine xk_Po.go 2 rfl ?_
        rw [show m_for (fun d => if ¬ (s_seal dr (ta 0 + 2)) (1 + d) = 0 ∧ ab d = 0 then m_wt d (s_seal dr (ta 0 + 2)) else m_no) (m0 + 1) j0 s = m_for (fun d => if ¬ (s_seal dr (ta 0 + 2)) (1 + d) = 0 ∧ ab d = 0 then m_wt d (s_seal dr (ta 0 + 2)) else m_no) m0 (j0 + 1) _ from m_for_ok ((congrFun (if_pos (xn_b1 h1)) s).trans (m_true q0))]
        rw [← xn_suc j0] at ih0
        exact ih0 _
    · refine xk_Po.go 9 rfl ?_
      refine xk_Po.cv3 rfl rfl (by have h := c_takeD (sc := sc) (sl := (s).1) (ex := (s).2.1) (ab := ab) (ta := ta) (dr := (s_seal dr (ta 0 + 2))) (md := md) (ml := ml) (mt := mt) (mc := mc) (on := on) (ct := (s).2.2) (r := r); rw [s_cpy (s_seal dr (ta 0 + 2)) ta (s_seal_z hd) ht] at h; exact h) ?_
      refine xk_Po.go 4 rfl ?_
      refine xk_Po.br rfl rfl (fun h1 => ?_) (fun h1 => ?_) -- 42 .if_icmp .eq 54
      · exact xk_Po.ret rfl (by have g := s_good (W := fun s => cs (s) ab ((s_seal dr (ta 0 + 2))) ((s_seal dr (ta 0 + 2))) md ((s_ml (s_seal dr (ta 0 + 2)) ml mt).1) ((s_ml (s_seal dr (ta 0 + 2)) ml mt).2) mc on r) (V := fun s => cl (s) ab ta ((s_seal dr (ta 0 + 2))) mc r) (s := s) (o := m_for (fun d => if ¬ (s_seal dr (ta 0 + 2)) (1 + d) = 0 ∧ ab d = 0 then m_wt d (s_seal dr (ta 0 + 2)) else m_no) 0 4 s) rfl; rw [← g]; show _ = ((.inl none, 0, cs (s) ab ((s_seal dr (ta 0 + 2))) ((s_seal dr (ta 0 + 2))) md ((s_ml (s_seal dr (ta 0 + 2)) ml mt).1) ((s_ml (s_seal dr (ta 0 + 2)) ml mt).2) mc on r) : xk_R); rw [show s_ml (s_seal dr (ta 0 + 2)) ml mt = (ml, mt) from if_pos h1]; rfl)
      · refine xk_Po.go 5 rfl ?_
        refine xk_Po.ci2 rfl rfl (c_spotOfI (hml h1)) ?_
        refine xk_Po.go 1 rfl ?_
        refine xk_Po.br rfl rfl (fun h2 => ?_) (fun h2 => ?_) -- 50 .if_icmp .ne 54
        · refine xk_Po.go 2 rfl ?_
          refine xk_Po.cv1 rfl rfl (c_endCopy) ?_
          exact xk_Po.ret rfl (by have g := s_good (W := fun s => cs (s) ab ((s_seal dr (ta 0 + 2))) ((s_seal dr (ta 0 + 2))) md ((s_ml (s_seal dr (ta 0 + 2)) ml mt).1) ((s_ml (s_seal dr (ta 0 + 2)) ml mt).2) mc on r) (V := fun s => cl (s) ab ta ((s_seal dr (ta 0 + 2))) mc r) (s := s) (o := m_for (fun d => if ¬ (s_seal dr (ta 0 + 2)) (1 + d) = 0 ∧ ab d = 0 then m_wt d (s_seal dr (ta 0 + 2)) else m_no) 0 4 s) rfl; rw [← g]; show _ = ((.inl none, 0, cs (s) ab ((s_seal dr (ta 0 + 2))) ((s_seal dr (ta 0 + 2))) md ((s_ml (s_seal dr (ta 0 + 2)) ml mt).1) ((s_ml (s_seal dr (ta 0 + 2)) ml mt).2) mc on r) : xk_R); rw [show s_ml (s_seal dr (ta 0 + 2)) ml mt = (-1, -1) from (if_neg h1).trans (if_pos h2)]; rfl)
        · exact xk_Po.ret rfl (by have g := s_good (W := fun s => cs (s) ab ((s_seal dr (ta 0 + 2))) ((s_seal dr (ta 0 + 2))) md ((s_ml (s_seal dr (ta 0 + 2)) ml mt).1) ((s_ml (s_seal dr (ta 0 + 2)) ml mt).2) mc on r) (V := fun s => cl (s) ab ta ((s_seal dr (ta 0 + 2))) mc r) (s := s) (o := m_for (fun d => if ¬ (s_seal dr (ta 0 + 2)) (1 + d) = 0 ∧ ab d = 0 then m_wt d (s_seal dr (ta 0 + 2)) else m_no) 0 4 s) rfl; rw [← g]; show _ = ((.inl none, 0, cs (s) ab ((s_seal dr (ta 0 + 2))) ((s_seal dr (ta 0 + 2))) md ((s_ml (s_seal dr (ta 0 + 2)) ml mt).1) ((s_ml (s_seal dr (ta 0 + 2)) ml mt).2) mc on r) : xk_R); rw [show s_ml (s_seal dr (ta 0 + 2)) ml mt = (ml, mt) from (if_neg h1).trans (if_neg h2)]; rfl)
theorem c_clearExtents {d : Nat} (hd : d < 4) : xk_Ev (xp_P sc) 11 0 [.ref 1, .int (Int32.ofNat d), .retAddr 0] [] (cw sl ex ab ta dr md ml mt mc on ct r) (.inl none, 0, cw sl (s_clr ex (fun _ => True) (d * 32) 32) ab ta dr md ml mt mc on ct r) := by
  apply xk_Ev.of
  refine xk_Po.go 4 rfl ?_
  rw [show Int32.ofNat d * Int32.ofInt 32 = Int32.ofNat (d * 32) from xn_mul d 32]
  refine xk_Po.loop 32 (fun j0 => [.ref 1, .int (Int32.ofNat d), .int (Int32.ofNat (d * 32 + j0))]) (fun j0 => cw sl (s_clr ex (fun _ => True) (d * 32) j0) ab ta dr md ml mt mc on ct r) (fun m0 j0 => _) (fun m0 j0 hj0 ih0 => ?_) ?_
  · have uj0 : j0 < 32 := by omega
    refine xk_Po.go 6 rfl ?_
    refine xk_Po.br rfl rfl (fun hx => absurd ((xn_le (a := (d + 1) * 32) (b := d * 32 + j0) (by omega) (by omega)).1 (by rw [show (Int32.ofNat d + Int32.ofInt 1) * Int32.ofInt 32 = Int32.ofNat ((d + 1) * 32) from by rw [xn_suc]; exact xn_mul (d + 1) 32] at hx; exact hx)) (by omega)) (fun _ => ?_)
    refine xk_Po.go 4 rfl ?_
    refine xk_Po.ok rfl rfl (xn_ix (by omega) (by omega)) ?_ -- .iastore
    refine xk_Po.go 2 rfl ?_
    rw [show s_clr ex (fun _ => True) (d * 32) (j0 + 1) = upd (s_clr ex (fun _ => True) (d * 32) j0) (Int32.ofNat (d * 32 + j0)).toNatClampNeg (Int32.ofInt 0) from by rw [xn_nat (by omega)]; rfl, ← show Int32.ofNat (d * 32 + j0) + Int32.ofInt 1 = Int32.ofNat (d * 32 + (j0 + 1)) from xn_suc (d * 32 + j0)] at ih0
    exact ih0
  · refine xk_Po.go 6 rfl ?_
    refine xk_Po.br rfl rfl (fun _ => ?_) (fun hx => absurd (by rw [show (Int32.ofNat d + Int32.ofInt 1) * Int32.ofInt 32 = Int32.ofNat ((d + 1) * 32) from by rw [xn_suc]; exact xn_mul (d + 1) 32]; exact (xn_le (by omega) (by omega)).2 (by omega)) hx)
    exact xk_Po.ret rfl rfl
theorem d_forget {v : Nat} (hv : v < 4) : xk_Ev (xp_P sc) 32 0 [.ref 7, .int (Int32.ofNat v)] [] (cw sl ex ab ta dr md ml mt mc on ct r) (.inl none, 0, cw sl ex ab ta (s_clr (upd dr (5 + v) 0) (fun _ => True) (9 + (v * 10 + 0 * 2 + 0)) (10 - 0 * 2)) md ml mt mc on ct r) := by
  apply xk_Ev.of
  refine xk_Po.go 6 rfl ?_
  refine xk_Po.ok rfl rfl (xn_ixa (a := 5) (j := v) (by omega) (by omega)) ?_ -- .iastore
  rw [show (Int32.ofInt 5 + Int32.ofNat v).toNatClampNeg = 5 + v from xn_nata (a := 5) (by omega)]
  refine xk_Po.go 3 rfl ?_
  refine xk_Po.cv3 rfl rfl (d_loseElements (f := 0) hv (by omega)) ?_
  exact xk_Po.ret rfl rfl
theorem c_alignTwins1 {s : s_S} {j i : Nat} (hj : j < 40) (hi : i < 40) (hb : ∀ i, ab i = 0 ∨ ab i = 1) (ok : ∀ j, j < 40 → ¬ ta (9 + j) - 1 = Int32.ofInt (-1) → ∃ d, d < 4 ∧ s_disk (ta (9 + j) - 1) = Int32.ofNat d) (h : ¬ (s_rd ta ab j ∧ s_rd ta ab i)) : xk_Ev (xp_P sc) 106 0 [.ref 0, .int (Int32.ofNat j), .int (Int32.ofNat i)] [] (cs (s) ab ta dr md ml mt mc on r) (s_out (m_no s) (fun s => cs (s) ab ta dr md ml mt mc on r) (fun s => cl (s) ab ta dr mc r)) := by
  apply xk_Ev.of
  refine xk_Po.go 2 rfl ?_
  refine xk_Po.ci2 rfl rfl (c_isReadable hj hb ok) ?_
  refine xk_Po.br rfl rfl (fun h0 => ?_) (fun h0 => ?_) -- 3 .ifCond .eq 18
  · exact xk_Po.ret rfl (s_good (W := fun s => cs (s) ab ta dr md ml mt mc on r) (V := fun s => cl (s) ab ta dr mc r) (s := s) (rfl))
  · refine xk_Po.go 2 rfl ?_
    refine xk_Po.ci2 rfl rfl (c_isReadable hi hb ok) ?_
    refine xk_Po.br rfl rfl (fun h1 => ?_) (fun h1 => ?_) -- 7 .ifCond .eq 18
    · exact xk_Po.ret rfl (s_good (W := fun s => cs (s) ab ta dr md ml mt mc on r) (V := fun s => cl (s) ab ta dr mc r) (s := s) (rfl))
    · exact absurd ⟨xn_b1 h0, xn_b1 h1⟩ h
theorem c_alignTwins2 {s : s_S} {j i x y : Nat} (hj : j < 40) (hi : i < 40) (hb : ∀ i, ab i = 0 ∨ ab i = 1) (ok : ∀ j, j < 40 → ¬ ta (9 + j) - 1 = Int32.ofInt (-1) → ∃ d, d < 4 ∧ s_disk (ta (9 + j) - 1) = Int32.ofNat d) (h : s_rd ta ab j ∧ s_rd ta ab i) (hx : x < 32) (hy : y < 32) (hwx : ta (9 + j) - 1 = Int32.ofNat x) (hwy : ta (9 + i) - 1 = Int32.ofNat y) : xk_Ev (xp_P sc) 106 0 [.ref 0, .int (Int32.ofNat j), .int (Int32.ofNat i)] [] (cs (s) ab ta dr md ml mt mc on r) (s_out (m_for (fun k => m_cp (y * 4 + k) (x * 4 + k)) 4 0 s) (fun s => cs (s) ab ta dr md ml mt mc on r) (fun s => cl (s) ab ta dr mc r)) := by
  apply xk_Ev.of
  refine xk_Po.go 2 rfl ?_
  refine xk_Po.ci2 rfl rfl (c_isReadable hj hb ok) ?_
  refine xk_Po.br rfl rfl (fun h0 => ?_) (fun h0 => ?_) -- 3 .ifCond .eq 18
  · exact xk_Po.ret rfl (absurd h.1 (xn_b0 h0))
  · refine xk_Po.go 2 rfl ?_
    refine xk_Po.ci2 rfl rfl (c_isReadable hi hb ok) ?_
    refine xk_Po.br rfl rfl (fun h1 => ?_) (fun h1 => ?_) -- 7 .ifCond .eq 18
    · exact xk_Po.ret rfl (absurd h.2 (xn_b0 h1))
    · refine xk_Po.go 4 rfl ?_
      refine xk_Po.ci2 rfl rfl (by have h := c_spotOfN (sc := sc) (sl := (s).1) (ex := (s).2.1) (ab := ab) (ta := ta) (dr := dr) (md := md) (ml := ml) (mt := mt) (mc := mc) (on := on) (ct := (s).2.2) (r := r) hj; rw [hwx] at h; exact h) ?_
      refine xk_Po.go 3 rfl ?_
      refine xk_Po.ci2 rfl rfl (by have h := c_spotOfN (sc := sc) (sl := (s).1) (ex := (s).2.1) (ab := ab) (ta := ta) (dr := dr) (md := md) (ml := ml) (mt := mt) (mc := mc) (on := on) (ct := (s).2.2) (r := r) hi; rw [hwy] at h; exact h) ?_
      refine xk_Po.cm3 rfl rfl (c_copyExtent hx hy) rfl (fun q0 => s_bad (W := fun s => cs (s) ab ta dr md ml mt mc on r) (V := fun s => cl (s) ab ta dr mc r) (u := m_for (fun k => m_cp (y * 4 + k) (x * 4 + k)) 4 0 s) (rfl) q0) (fun q0 => ?_)
      exact xk_Po.ret rfl (s_good (W := fun s => cs (s) ab ta dr md ml mt mc on r) (V := fun s => cl (s) ab ta dr mc r) (s := (m_for (fun k => m_cp (y * 4 + k) (x * 4 + k)) 4 0 s).2) (m_true q0))
end XkCom
end
section
/-! The newest table is loaded; a move's next word. -/
section XkMov
variable {sc : Nat × (Nat → Int32)} {sl ex ab ta dr : Nat → Int32} {md ml mt mc on ct : Int32} {r w : xk_W}
theorem xn_ne1 {j : Nat} (h : j < 2147483648) : ¬ Int32.ofNat j = Int32.ofInt (-1) := fun q => by
  have e := congrArg Int32.toInt q
  rw [xn_int h] at e
  have : (Int32.ofInt (-1)).toInt = -1 := by decide
  omega
theorem s_nwI_d (sl ab : Nat → Int32) (d : Nat) (hd : d < 4) : ∀ (n : Nat) (a : Int32 × Int32), n ≤ 2 → (a.1 = Int32.ofInt (-1) ∨ ∃ b, b + 51 ≤ 408 ∧ a.1 = Int32.ofNat b) → ((s_nwI sl ab d n a).1 = Int32.ofInt (-1) ∨ ∃ b, b + 51 ≤ 408 ∧ (s_nwI sl ab d n a).1 = Int32.ofNat b)
  | 0, _, _, h => h
  | n + 1, a, hn, h => by
    have ih := s_nwI_d sl ab d hd n a (by omega) h
    unfold s_nwI
    split
    · split
      · exact ih
      · exact .inr ⟨s_start d n, by unfold s_start; omega, rfl⟩
    · exact ih
theorem s_nwO_d (sl ab : Nat → Int32) : ∀ n, n ≤ 4 → ((s_nwO sl ab n).1 = Int32.ofInt (-1) ∨ ∃ b, b + 51 ≤ 408 ∧ (s_nwO sl ab n).1 = Int32.ofNat b)
  | 0, _ => .inl rfl
  | n + 1, h => s_nwI_d sl ab n (by omega) 2 _ (by omega) (s_nwO_d sl ab n (by omega))
theorem s_div : ∀ j, j < 40 → Int32.ofNat j / Int32.ofInt 10 = Int32.ofNat (j / 10) ∧ Int32.ofNat j % Int32.ofInt 10 / Int32.ofInt 2 = Int32.ofNat (j % 10 / 2) ∧ Int32.ofNat j % Int32.ofInt 2 = Int32.ofNat (j % 2) := by decide
theorem c_load1 (hb : ∀ i, ab i = 0 ∨ ab i = 1) (h : (s_nwO sl ab 4).1 = Int32.ofInt (-1)) : xk_Ev (xp_P sc) 105 0 [.ref 0, .retAddr 0] [] (cw sl ex ab ta dr md ml mt mc on ct r) (.inl none, 0, cw sl ex ab (s_clr ta (fun _ => True) 0 51) dr md ml mt mc on ct r) := by
  apply xk_Ev.of
  refine xk_Po.go 2 rfl ?_
  refine xk_Po.ci1 rfl rfl (c_newestWholeSlot hb) ?_
  refine xk_Po.go 3 rfl ?_
  refine xk_Po.br rfl rfl (fun h0 => ?_) (fun h0 => ?_) -- 6 .if_icmp .ne 11
  · refine xk_Po.go 2 rfl ?_
    refine xk_Po.cv1 rfl rfl (c_clear0) ?_
    refine xk_Po.go 1 rfl ?_
    exact xk_Po.ret rfl rfl
  · exact absurd h h0
theorem c_load2 {a : Nat} (ha : a + 51 ≤ 408) (hb : ∀ i, ab i = 0 ∨ ab i = 1) (hN : (s_nwO sl ab 4).1 = Int32.ofNat a) : xk_Ev (xp_P sc) 105 0 [.ref 0, .retAddr 0] [] (cw sl ex ab ta dr md ml mt mc on ct r) (.inl none, 0, cw sl ex ab (va_cpy sl ta a 0 51) dr md ml mt mc on ct r) := by
  apply xk_Ev.of
  refine xk_Po.go 2 rfl ?_
  refine xk_Po.ci1 rfl rfl (by have h := c_newestWholeSlot (sc := sc) (sl := sl) (ex := ex) (ab := ab) (ta := ta) (dr := dr) (md := md) (ml := ml) (mt := mt) (mc := mc) (on := on) (ct := ct) (r := r) hb; rw [hN] at h; exact h) ?_
  refine xk_Po.go 3 rfl ?_
  refine xk_Po.br rfl rfl (fun h0 => ?_) (fun h0 => ?_) -- 6 .if_icmp .ne 11
  · exact absurd h0 (xn_ne1 (by omega))
  · refine xk_Po.go 6 rfl ?_
    refine xk_Po.cv3 rfl rfl (c_takeS ha) ?_
    exact xk_Po.ret rfl rfl
theorem c_findRoomToMove {j c : Nat} (hj : j < 40) (h1 : 1 ≤ c) (hc : c < 4) (hu : j % 10 / 2 - (j % 10 / 2) % c + c ≤ 5) (hw : s_col (ta (5 + j / 10)) = Int32.ofNat c) (hb : ∀ i, ab i = 0 ∨ ab i = 1) (hE : ∀ d, d < 4 → ∃ n, n ≤ 8 ∧ ta (1 + d) = Int32.ofNat n) (ht : ∀ i, 51 ≤ i → ta i = 0) (hd : ∀ i, 51 ≤ i → dr i = 0) : xk_Ev (xp_P sc) 103 0 [.ref 0, .int (Int32.ofNat j), .retAddr 0, .retAddr 0] [] (cw sl ex ab ta dr md ml mt mc on ct r) (.inl (some (.int (s_room ta ab mt (1 <<< (md &&& 31) ||| s_gO ta ml mt (j / 10) (j % 10 / 2) (j % 2) (j % 10 / 2 - (j % 10 / 2) % c) c)))), 0, cw sl ex ab ta (ta) md ml mt mc on ct r) := by
  apply xk_Ev.of
  refine xk_Po.go 1 rfl ?_
  refine xk_Po.cv1 rfl rfl (c_beginDraft ht hd) ?_
  refine xk_Po.go 21 rfl ?_
  rw [(s_div j hj).1, (s_div j hj).2.1, (s_div j hj).2.2]
  refine xk_Po.ci5 rfl rfl (c_findRoom (by omega) (by omega) (by omega) h1 hc hu hw hb hE) ?_
  exact xk_Po.iret rfl rfl
theorem c_copyNext1 {s : s_S} {j x y k : Nat} (hj : j < 40) (hx : x < 32) (hy : y < 32) (hk : k < 4) (hw : ta (9 + j) - 1 = Int32.ofNat y) (h : k + 1 < 4) : xk_Ev (xp_P sc) 104 0 [.ref 0, .retAddr 0] [] (cs (s) ab ta dr md (Int32.ofNat j) (Int32.ofNat x) (Int32.ofNat k) on r) (s_out (m_cp (x * 4 + k) (y * 4 + k) s) (fun s => cs (s) ab ta dr md (Int32.ofNat j) (Int32.ofNat x) (Int32.ofNat (k + 1)) on r) (fun s => cl (s) ab ta dr (Int32.ofNat k) r)) := by
  apply xk_Ev.of
  refine xk_Po.go 5 rfl ?_
  refine xk_Po.ci2 rfl rfl (by have h := c_spotOfN (sc := sc) (sl := (s).1) (ex := (s).2.1) (ab := ab) (ta := ta) (dr := dr) (md := md) (ml := Int32.ofNat j) (mt := Int32.ofNat x) (mc := Int32.ofNat k) (on := on) (ct := (s).2.2) (r := r) hj; rw [hw] at h; exact h) ?_
  refine xk_Po.go 14 rfl ?_
  refine xk_Po.ci3 rfl rfl (c_extentWord hy hk) ?_
  refine xk_Po.cm4 rfl rfl (c_putWord hx hk) rfl (fun q0 => s_bad (W := fun s => cs (s) ab ta dr md (Int32.ofNat j) (Int32.ofNat x) (Int32.ofNat (k + 1)) on r) (V := fun s => cl (s) ab ta dr (Int32.ofNat k) r) (u := m_cp (x * 4 + k) (y * 4 + k) s) (rfl) q0) (fun q0 => ?_)
  rw [← xn_suc k]
  refine xk_Po.go 11 rfl ?_
  refine xk_Po.br rfl rfl (fun h0 => ?_) (fun h0 => ?_) -- 33 .if_icmp .ne 50
  · exact absurd (congrArg Int32.toNatClampNeg h0) (by rw [xn_suc, xn_nat (by omega)]; show ¬ k + 1 = 4; omega)
  · exact xk_Po.ret rfl (s_good (W := fun s => cs (s) ab ta dr md (Int32.ofNat j) (Int32.ofNat x) (Int32.ofNat k + Int32.ofInt 1) on r) (V := fun s => cl (s) ab ta dr (Int32.ofNat k) r) (s := (m_cp (x * 4 + k) (y * 4 + k) s).2) (m_true q0))
end XkMov
end
