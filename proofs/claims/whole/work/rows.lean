section
-- ===== PART A: goes FIRST, ahead of the names: the tables' words, and 'selects' of the private methods out of them =====
/-- a private method of a class that the tables say can be made, by its rows of tables_1 -/
def lw_okq (q : MethodName × Nat) : Prop := (q.1.cls ≠ "java/lang/invoke/MethodHandle" ∧ q.1.cls ≠ "java/lang/invoke/VarHandle") ∧ Cond.instantiable q.1.cls q.2 ∈ tables_1 ∧ Cond.privateMethod q.1 ∈ tables_1 ∧ Cond.instanceMethod q.1 ∈ tables_1
theorem lw_p0 : lw_okq (⟨"DrumTowns", "saveState", "()V"⟩, 8) := ⟨⟨by decide +kernel, by decide +kernel⟩, List.mem_of_getElem? (i := 20) (by decide +kernel), List.mem_of_getElem? (i := 275) (by decide +kernel), List.mem_of_getElem? (i := 276) (by decide +kernel)⟩
theorem lw_p1 : lw_okq (⟨"DrumTowns", "dropOldest", "()V"⟩, 8) := ⟨⟨by decide +kernel, by decide +kernel⟩, List.mem_of_getElem? (i := 20) (by decide +kernel), List.mem_of_getElem? (i := 279) (by decide +kernel), List.mem_of_getElem? (i := 280) (by decide +kernel)⟩
theorem lw_p2 : lw_okq (⟨"DrumTowns$Land", "takeFrom", "(LDrumTowns$Land;)V"⟩, 8) := ⟨⟨by decide +kernel, by decide +kernel⟩, List.mem_of_getElem? (i := 28) (by decide +kernel), List.mem_of_getElem? (i := 283) (by decide +kernel), List.mem_of_getElem? (i := 284) (by decide +kernel)⟩
theorem lw_p3 : lw_okq (⟨"DrumTowns$Town", "takeFrom", "(LDrumTowns$Town;)V"⟩, 7) := ⟨⟨by decide +kernel, by decide +kernel⟩, List.mem_of_getElem? (i := 37) (by decide +kernel), List.mem_of_getElem? (i := 287) (by decide +kernel), List.mem_of_getElem? (i := 288) (by decide +kernel)⟩
theorem lw_p4 : lw_okq (⟨"DrumTowns$Ring", "find", "(LDrumTowns$Land;)V"⟩, 3) := ⟨⟨by decide +kernel, by decide +kernel⟩, List.mem_of_getElem? (i := 203) (by decide +kernel), List.mem_of_getElem? (i := 292) (by decide +kernel), List.mem_of_getElem? (i := 293) (by decide +kernel)⟩
theorem lw_p5 : lw_okq (⟨"DrumTowns$Ring", "leastDebt", "([[I)I"⟩, 3) := ⟨⟨by decide +kernel, by decide +kernel⟩, List.mem_of_getElem? (i := 203) (by decide +kernel), List.mem_of_getElem? (i := 299) (by decide +kernel), List.mem_of_getElem? (i := 300) (by decide +kernel)⟩
theorem lw_p6 : lw_okq (⟨"DrumTowns$Ring", "following", "(I)I"⟩, 3) := ⟨⟨by decide +kernel, by decide +kernel⟩, List.mem_of_getElem? (i := 203) (by decide +kernel), List.mem_of_getElem? (i := 303) (by decide +kernel), List.mem_of_getElem? (i := 304) (by decide +kernel)⟩
theorem lw_p7 : lw_okq (⟨"DrumTowns$Land", "takeRing", "(LDrumTowns$Ring;)V"⟩, 8) := ⟨⟨by decide +kernel, by decide +kernel⟩, List.mem_of_getElem? (i := 28) (by decide +kernel), List.mem_of_getElem? (i := 308) (by decide +kernel), List.mem_of_getElem? (i := 309) (by decide +kernel)⟩
theorem lw_p8 : lw_okq (⟨"DrumTowns$TuneText", "readAll", "()I"⟩, 6) := ⟨⟨by decide +kernel, by decide +kernel⟩, List.mem_of_getElem? (i := 128) (by decide +kernel), List.mem_of_getElem? (i := 321) (by decide +kernel), List.mem_of_getElem? (i := 322) (by decide +kernel)⟩
theorem lw_p9 : lw_okq (⟨"DrumTowns$TuneText", "readInside", "(I)Z"⟩, 6) := ⟨⟨by decide +kernel, by decide +kernel⟩, List.mem_of_getElem? (i := 128) (by decide +kernel), List.mem_of_getElem? (i := 325) (by decide +kernel), List.mem_of_getElem? (i := 326) (by decide +kernel)⟩
theorem lw_p10 : lw_okq (⟨"DrumTowns$TuneText", "endStep", "(I)V"⟩, 6) := ⟨⟨by decide +kernel, by decide +kernel⟩, List.mem_of_getElem? (i := 128) (by decide +kernel), List.mem_of_getElem? (i := 335) (by decide +kernel), List.mem_of_getElem? (i := 336) (by decide +kernel)⟩
theorem lw_p11 : lw_okq (⟨"DrumTowns$TuneText", "readOutside", "(I)Z"⟩, 6) := ⟨⟨by decide +kernel, by decide +kernel⟩, List.mem_of_getElem? (i := 128) (by decide +kernel), List.mem_of_getElem? (i := 342) (by decide +kernel), List.mem_of_getElem? (i := 343) (by decide +kernel)⟩
theorem lw_p12 : lw_okq (⟨"DrumTowns$Land", "allRightPins", "()I"⟩, 8) := ⟨⟨by decide +kernel, by decide +kernel⟩, List.mem_of_getElem? (i := 28) (by decide +kernel), List.mem_of_getElem? (i := 354) (by decide +kernel), List.mem_of_getElem? (i := 355) (by decide +kernel)⟩
theorem lw_p13 : lw_okq (⟨"DrumTowns$Town", "rightPins", "()I"⟩, 7) := ⟨⟨by decide +kernel, by decide +kernel⟩, List.mem_of_getElem? (i := 37) (by decide +kernel), List.mem_of_getElem? (i := 358) (by decide +kernel), List.mem_of_getElem? (i := 359) (by decide +kernel)⟩
theorem lw_p14 : lw_okq (⟨"DrumTowns$Land", "pinsInBoxes", "()I"⟩, 8) := ⟨⟨by decide +kernel, by decide +kernel⟩, List.mem_of_getElem? (i := 28) (by decide +kernel), List.mem_of_getElem? (i := 374) (by decide +kernel), List.mem_of_getElem? (i := 375) (by decide +kernel)⟩
theorem lw_p15 : lw_okq (⟨"DrumTowns$Land", "pinsInDrums", "()I"⟩, 8) := ⟨⟨by decide +kernel, by decide +kernel⟩, List.mem_of_getElem? (i := 28) (by decide +kernel), List.mem_of_getElem? (i := 378) (by decide +kernel), List.mem_of_getElem? (i := 379) (by decide +kernel)⟩
def lw_privs_1 : List (MethodName × Nat) := [(⟨"DrumTowns", "saveState", "()V"⟩, 8), (⟨"DrumTowns", "dropOldest", "()V"⟩, 8), (⟨"DrumTowns$Land", "takeFrom", "(LDrumTowns$Land;)V"⟩, 8), (⟨"DrumTowns$Town", "takeFrom", "(LDrumTowns$Town;)V"⟩, 7), (⟨"DrumTowns$Ring", "find", "(LDrumTowns$Land;)V"⟩, 3), (⟨"DrumTowns$Ring", "leastDebt", "([[I)I"⟩, 3), (⟨"DrumTowns$Ring", "following", "(I)I"⟩, 3), (⟨"DrumTowns$Land", "takeRing", "(LDrumTowns$Ring;)V"⟩, 8), (⟨"DrumTowns$TuneText", "readAll", "()I"⟩, 6), (⟨"DrumTowns$TuneText", "readInside", "(I)Z"⟩, 6), (⟨"DrumTowns$TuneText", "endStep", "(I)V"⟩, 6), (⟨"DrumTowns$TuneText", "readOutside", "(I)Z"⟩, 6), (⟨"DrumTowns$Land", "allRightPins", "()I"⟩, 8), (⟨"DrumTowns$Town", "rightPins", "()I"⟩, 7), (⟨"DrumTowns$Land", "pinsInBoxes", "()I"⟩, 8), (⟨"DrumTowns$Land", "pinsInDrums", "()I"⟩, 8)]
theorem lw_r1 : ∀ q ∈ lw_privs_1, lw_okq q := List.forall_mem_cons.mpr ⟨lw_p0, List.forall_mem_cons.mpr ⟨lw_p1, List.forall_mem_cons.mpr ⟨lw_p2, List.forall_mem_cons.mpr ⟨lw_p3, List.forall_mem_cons.mpr ⟨lw_p4, List.forall_mem_cons.mpr ⟨lw_p5, List.forall_mem_cons.mpr ⟨lw_p6, List.forall_mem_cons.mpr ⟨lw_p7, List.forall_mem_cons.mpr ⟨lw_p8, List.forall_mem_cons.mpr ⟨lw_p9, List.forall_mem_cons.mpr ⟨lw_p10, List.forall_mem_cons.mpr ⟨lw_p11, List.forall_mem_cons.mpr ⟨lw_p12, List.forall_mem_cons.mpr ⟨lw_p13, List.forall_mem_cons.mpr ⟨lw_p14, List.forall_mem_cons.mpr ⟨lw_p15, fun _ h => absurd h List.not_mem_nil⟩⟩⟩⟩⟩⟩⟩⟩⟩⟩⟩⟩⟩⟩⟩⟩
theorem lw_p16 : lw_okq (⟨"DrumTowns$Land", "allDebts", "()I"⟩, 8) := ⟨⟨by decide +kernel, by decide +kernel⟩, List.mem_of_getElem? (i := 28) (by decide +kernel), List.mem_of_getElem? (i := 383) (by decide +kernel), List.mem_of_getElem? (i := 384) (by decide +kernel)⟩
theorem lw_p17 : lw_okq (⟨"DrumTowns$Land", "owedBy", "(I)I"⟩, 8) := ⟨⟨by decide +kernel, by decide +kernel⟩, List.mem_of_getElem? (i := 28) (by decide +kernel), List.mem_of_getElem? (i := 387) (by decide +kernel), List.mem_of_getElem? (i := 388) (by decide +kernel)⟩
theorem lw_p18 : lw_okq (⟨"DrumTowns$Land", "owingPairs", "()I"⟩, 8) := ⟨⟨by decide +kernel, by decide +kernel⟩, List.mem_of_getElem? (i := 28) (by decide +kernel), List.mem_of_getElem? (i := 391) (by decide +kernel), List.mem_of_getElem? (i := 392) (by decide +kernel)⟩
theorem lw_p19 : lw_okq (⟨"java/lang/Throwable", "fillInStackTrace", "(I)Ljava/lang/Throwable;"⟩, 6) := ⟨⟨by decide +kernel, by decide +kernel⟩, List.mem_of_getElem? (i := 433) (by decide +kernel), List.mem_of_getElem? (i := 431) (by decide +kernel), List.mem_of_getElem? (i := 432) (by decide +kernel)⟩
theorem lw_p20 : lw_okq (⟨"DrumTowns", "mixedWithTown", "(JI)J"⟩, 8) := ⟨⟨by decide +kernel, by decide +kernel⟩, List.mem_of_getElem? (i := 20) (by decide +kernel), List.mem_of_getElem? (i := 467) (by decide +kernel), List.mem_of_getElem? (i := 468) (by decide +kernel)⟩
theorem lw_p21 : lw_okq (⟨"DrumTowns", "checkTown", "(I)V"⟩, 8) := ⟨⟨by decide +kernel, by decide +kernel⟩, List.mem_of_getElem? (i := 20) (by decide +kernel), List.mem_of_getElem? (i := 475) (by decide +kernel), List.mem_of_getElem? (i := 476) (by decide +kernel)⟩
theorem lw_p22 : lw_okq (⟨"DrumTowns$Land", "owedTo", "(I)I"⟩, 8) := ⟨⟨by decide +kernel, by decide +kernel⟩, List.mem_of_getElem? (i := 28) (by decide +kernel), List.mem_of_getElem? (i := 497) (by decide +kernel), List.mem_of_getElem? (i := 498) (by decide +kernel)⟩
theorem lw_p23 : lw_okq (⟨"DrumTowns", "foresee", "(I)V"⟩, 8) := ⟨⟨by decide +kernel, by decide +kernel⟩, List.mem_of_getElem? (i := 20) (by decide +kernel), List.mem_of_getElem? (i := 505) (by decide +kernel), List.mem_of_getElem? (i := 506) (by decide +kernel)⟩
theorem lw_p24 : lw_okq (⟨"DrumTowns$Playing", "begin", "(LDrumTowns$Town;[I)V"⟩, 11) := ⟨⟨by decide +kernel, by decide +kernel⟩, List.mem_of_getElem? (i := 156) (by decide +kernel), List.mem_of_getElem? (i := 509) (by decide +kernel), List.mem_of_getElem? (i := 510) (by decide +kernel)⟩
theorem lw_p25 : lw_okq (⟨"DrumTowns$Playing", "goThrough", "([I)V"⟩, 11) := ⟨⟨by decide +kernel, by decide +kernel⟩, List.mem_of_getElem? (i := 156) (by decide +kernel), List.mem_of_getElem? (i := 514) (by decide +kernel), List.mem_of_getElem? (i := 515) (by decide +kernel)⟩
theorem lw_p26 : lw_okq (⟨"DrumTowns$Playing", "forgetSounds", "()V"⟩, 11) := ⟨⟨by decide +kernel, by decide +kernel⟩, List.mem_of_getElem? (i := 156) (by decide +kernel), List.mem_of_getElem? (i := 518) (by decide +kernel), List.mem_of_getElem? (i := 519) (by decide +kernel)⟩
theorem lw_p27 : lw_okq (⟨"DrumTowns$Playing", "passStep", "(II)V"⟩, 11) := ⟨⟨by decide +kernel, by decide +kernel⟩, List.mem_of_getElem? (i := 156) (by decide +kernel), List.mem_of_getElem? (i := 522) (by decide +kernel), List.mem_of_getElem? (i := 523) (by decide +kernel)⟩
theorem lw_p28 : lw_okq (⟨"DrumTowns$Playing", "meetPin", "(IIZ)V"⟩, 11) := ⟨⟨by decide +kernel, by decide +kernel⟩, List.mem_of_getElem? (i := 156) (by decide +kernel), List.mem_of_getElem? (i := 526) (by decide +kernel), List.mem_of_getElem? (i := 527) (by decide +kernel)⟩
theorem lw_p29 : lw_okq (⟨"DrumTowns$Playing", "tell", "(I)I"⟩, 11) := ⟨⟨by decide +kernel, by decide +kernel⟩, List.mem_of_getElem? (i := 156) (by decide +kernel), List.mem_of_getElem? (i := 530) (by decide +kernel), List.mem_of_getElem? (i := 531) (by decide +kernel)⟩
theorem lw_p30 : lw_okq (⟨"DrumTowns$Town", "rightIfTurned", "(I)I"⟩, 7) := ⟨⟨by decide +kernel, by decide +kernel⟩, List.mem_of_getElem? (i := 37) (by decide +kernel), List.mem_of_getElem? (i := 544) (by decide +kernel), List.mem_of_getElem? (i := 545) (by decide +kernel)⟩
theorem lw_p31 : lw_okq (⟨"DrumTowns", "mixedWithRows", "(JI)J"⟩, 8) := ⟨⟨by decide +kernel, by decide +kernel⟩, List.mem_of_getElem? (i := 20) (by decide +kernel), List.mem_of_getElem? (i := 554) (by decide +kernel), List.mem_of_getElem? (i := 555) (by decide +kernel)⟩
def lw_privs_2 : List (MethodName × Nat) := [(⟨"DrumTowns$Land", "allDebts", "()I"⟩, 8), (⟨"DrumTowns$Land", "owedBy", "(I)I"⟩, 8), (⟨"DrumTowns$Land", "owingPairs", "()I"⟩, 8), (⟨"java/lang/Throwable", "fillInStackTrace", "(I)Ljava/lang/Throwable;"⟩, 6), (⟨"DrumTowns", "mixedWithTown", "(JI)J"⟩, 8), (⟨"DrumTowns", "checkTown", "(I)V"⟩, 8), (⟨"DrumTowns$Land", "owedTo", "(I)I"⟩, 8), (⟨"DrumTowns", "foresee", "(I)V"⟩, 8), (⟨"DrumTowns$Playing", "begin", "(LDrumTowns$Town;[I)V"⟩, 11), (⟨"DrumTowns$Playing", "goThrough", "([I)V"⟩, 11), (⟨"DrumTowns$Playing", "forgetSounds", "()V"⟩, 11), (⟨"DrumTowns$Playing", "passStep", "(II)V"⟩, 11), (⟨"DrumTowns$Playing", "meetPin", "(IIZ)V"⟩, 11), (⟨"DrumTowns$Playing", "tell", "(I)I"⟩, 11), (⟨"DrumTowns$Town", "rightIfTurned", "(I)I"⟩, 7), (⟨"DrumTowns", "mixedWithRows", "(JI)J"⟩, 8)]
theorem lw_r2 : ∀ q ∈ lw_privs_2, lw_okq q := List.forall_mem_cons.mpr ⟨lw_p16, List.forall_mem_cons.mpr ⟨lw_p17, List.forall_mem_cons.mpr ⟨lw_p18, List.forall_mem_cons.mpr ⟨lw_p19, List.forall_mem_cons.mpr ⟨lw_p20, List.forall_mem_cons.mpr ⟨lw_p21, List.forall_mem_cons.mpr ⟨lw_p22, List.forall_mem_cons.mpr ⟨lw_p23, List.forall_mem_cons.mpr ⟨lw_p24, List.forall_mem_cons.mpr ⟨lw_p25, List.forall_mem_cons.mpr ⟨lw_p26, List.forall_mem_cons.mpr ⟨lw_p27, List.forall_mem_cons.mpr ⟨lw_p28, List.forall_mem_cons.mpr ⟨lw_p29, List.forall_mem_cons.mpr ⟨lw_p30, List.forall_mem_cons.mpr ⟨lw_p31, fun _ h => absurd h List.not_mem_nil⟩⟩⟩⟩⟩⟩⟩⟩⟩⟩⟩⟩⟩⟩⟩⟩
theorem lw_p32 : lw_okq (⟨"DrumTowns", "mixedWithTrades", "(J)J"⟩, 8) := ⟨⟨by decide +kernel, by decide +kernel⟩, List.mem_of_getElem? (i := 20) (by decide +kernel), List.mem_of_getElem? (i := 558) (by decide +kernel), List.mem_of_getElem? (i := 559) (by decide +kernel)⟩
theorem lw_p33 : lw_okq (⟨"DrumTowns$Trades", "find", "(LDrumTowns$Land;)V"⟩, 5) := ⟨⟨by decide +kernel, by decide +kernel⟩, List.mem_of_getElem? (i := 223) (by decide +kernel), List.mem_of_getElem? (i := 562) (by decide +kernel), List.mem_of_getElem? (i := 563) (by decide +kernel)⟩
theorem lw_p34 : lw_okq (⟨"DrumTowns$Trades", "firstBest", "(I)I"⟩, 5) := ⟨⟨by decide +kernel, by decide +kernel⟩, List.mem_of_getElem? (i := 223) (by decide +kernel), List.mem_of_getElem? (i := 568) (by decide +kernel), List.mem_of_getElem? (i := 569) (by decide +kernel)⟩
theorem lw_p35 : lw_okq (⟨"DrumTowns$Trades", "broughtBy", "(III)I"⟩, 5) := ⟨⟨by decide +kernel, by decide +kernel⟩, List.mem_of_getElem? (i := 223) (by decide +kernel), List.mem_of_getElem? (i := 572) (by decide +kernel), List.mem_of_getElem? (i := 573) (by decide +kernel)⟩
theorem lw_p36 : lw_okq (⟨"DrumTowns$Trades", "choose", "()V"⟩, 5) := ⟨⟨by decide +kernel, by decide +kernel⟩, List.mem_of_getElem? (i := 223) (by decide +kernel), List.mem_of_getElem? (i := 576) (by decide +kernel), List.mem_of_getElem? (i := 577) (by decide +kernel)⟩
theorem lw_p37 : lw_okq (⟨"DrumTowns$Trades", "tell", "(I)I"⟩, 5) := ⟨⟨by decide +kernel, by decide +kernel⟩, List.mem_of_getElem? (i := 223) (by decide +kernel), List.mem_of_getElem? (i := 580) (by decide +kernel), List.mem_of_getElem? (i := 581) (by decide +kernel)⟩
theorem lw_p38 : lw_okq (⟨"DrumTowns", "mixedWithRing", "(J)J"⟩, 8) := ⟨⟨by decide +kernel, by decide +kernel⟩, List.mem_of_getElem? (i := 20) (by decide +kernel), List.mem_of_getElem? (i := 584) (by decide +kernel), List.mem_of_getElem? (i := 585) (by decide +kernel)⟩
theorem lw_p39 : lw_okq (⟨"DrumTowns$Ring", "tell", "(I)I"⟩, 3) := ⟨⟨by decide +kernel, by decide +kernel⟩, List.mem_of_getElem? (i := 203) (by decide +kernel), List.mem_of_getElem? (i := 588) (by decide +kernel), List.mem_of_getElem? (i := 589) (by decide +kernel)⟩
theorem lw_p40 : lw_okq (⟨"DrumTowns", "checkPlace", "(III)V"⟩, 8) := ⟨⟨by decide +kernel, by decide +kernel⟩, List.mem_of_getElem? (i := 20) (by decide +kernel), List.mem_of_getElem? (i := 650) (by decide +kernel), List.mem_of_getElem? (i := 651) (by decide +kernel)⟩
theorem lw_p41 : lw_okq (⟨"DrumTowns$Town", "hasPin", "(II)Z"⟩, 7) := ⟨⟨by decide +kernel, by decide +kernel⟩, List.mem_of_getElem? (i := 37) (by decide +kernel), List.mem_of_getElem? (i := 662) (by decide +kernel), List.mem_of_getElem? (i := 663) (by decide +kernel)⟩
theorem lw_p42 : lw_okq (⟨"DrumTowns$Town", "takeOver", "(LDrumTowns$Playing;)V"⟩, 7) := ⟨⟨by decide +kernel, by decide +kernel⟩, List.mem_of_getElem? (i := 37) (by decide +kernel), List.mem_of_getElem? (i := 719) (by decide +kernel), List.mem_of_getElem? (i := 720) (by decide +kernel)⟩
theorem lw_p43 : lw_okq (⟨"DrumTowns", "checkBoxes", "(III)V"⟩, 8) := ⟨⟨by decide +kernel, by decide +kernel⟩, List.mem_of_getElem? (i := 20) (by decide +kernel), List.mem_of_getElem? (i := 733) (by decide +kernel), List.mem_of_getElem? (i := 734) (by decide +kernel)⟩
theorem lw_p44 : lw_okq (⟨"DrumTowns$Land", "carry", "(III)V"⟩, 8) := ⟨⟨by decide +kernel, by decide +kernel⟩, List.mem_of_getElem? (i := 28) (by decide +kernel), List.mem_of_getElem? (i := 739) (by decide +kernel), List.mem_of_getElem? (i := 740) (by decide +kernel)⟩
theorem lw_p45 : lw_okq (⟨"DrumTowns$TuneText", "isComplete", "()Z"⟩, 6) := ⟨⟨by decide +kernel, by decide +kernel⟩, List.mem_of_getElem? (i := 128) (by decide +kernel), List.mem_of_getElem? (i := 767) (by decide +kernel), List.mem_of_getElem? (i := 768) (by decide +kernel)⟩
theorem lw_p46 : lw_okq (⟨"DrumTownsModel", "copy", "(II)V"⟩, 23) := ⟨⟨by decide +kernel, by decide +kernel⟩, List.mem_of_getElem? (i := 856) (by decide +kernel), List.mem_of_getElem? (i := 940) (by decide +kernel), List.mem_of_getElem? (i := 941) (by decide +kernel)⟩
theorem lw_p47 : lw_okq (⟨"DrumTownsModel", "keep", "()V"⟩, 23) := ⟨⟨by decide +kernel, by decide +kernel⟩, List.mem_of_getElem? (i := 856) (by decide +kernel), List.mem_of_getElem? (i := 951) (by decide +kernel), List.mem_of_getElem? (i := 952) (by decide +kernel)⟩
def lw_privs_3 : List (MethodName × Nat) := [(⟨"DrumTowns", "mixedWithTrades", "(J)J"⟩, 8), (⟨"DrumTowns$Trades", "find", "(LDrumTowns$Land;)V"⟩, 5), (⟨"DrumTowns$Trades", "firstBest", "(I)I"⟩, 5), (⟨"DrumTowns$Trades", "broughtBy", "(III)I"⟩, 5), (⟨"DrumTowns$Trades", "choose", "()V"⟩, 5), (⟨"DrumTowns$Trades", "tell", "(I)I"⟩, 5), (⟨"DrumTowns", "mixedWithRing", "(J)J"⟩, 8), (⟨"DrumTowns$Ring", "tell", "(I)I"⟩, 3), (⟨"DrumTowns", "checkPlace", "(III)V"⟩, 8), (⟨"DrumTowns$Town", "hasPin", "(II)Z"⟩, 7), (⟨"DrumTowns$Town", "takeOver", "(LDrumTowns$Playing;)V"⟩, 7), (⟨"DrumTowns", "checkBoxes", "(III)V"⟩, 8), (⟨"DrumTowns$Land", "carry", "(III)V"⟩, 8), (⟨"DrumTowns$TuneText", "isComplete", "()Z"⟩, 6), (⟨"DrumTownsModel", "copy", "(II)V"⟩, 23), (⟨"DrumTownsModel", "keep", "()V"⟩, 23)]
theorem lw_r3 : ∀ q ∈ lw_privs_3, lw_okq q := List.forall_mem_cons.mpr ⟨lw_p32, List.forall_mem_cons.mpr ⟨lw_p33, List.forall_mem_cons.mpr ⟨lw_p34, List.forall_mem_cons.mpr ⟨lw_p35, List.forall_mem_cons.mpr ⟨lw_p36, List.forall_mem_cons.mpr ⟨lw_p37, List.forall_mem_cons.mpr ⟨lw_p38, List.forall_mem_cons.mpr ⟨lw_p39, List.forall_mem_cons.mpr ⟨lw_p40, List.forall_mem_cons.mpr ⟨lw_p41, List.forall_mem_cons.mpr ⟨lw_p42, List.forall_mem_cons.mpr ⟨lw_p43, List.forall_mem_cons.mpr ⟨lw_p44, List.forall_mem_cons.mpr ⟨lw_p45, List.forall_mem_cons.mpr ⟨lw_p46, List.forall_mem_cons.mpr ⟨lw_p47, fun _ h => absurd h List.not_mem_nil⟩⟩⟩⟩⟩⟩⟩⟩⟩⟩⟩⟩⟩⟩⟩⟩
theorem lw_p48 : lw_okq (⟨"DrumTownsModel", "isPlace", "(III)Z"⟩, 23) := ⟨⟨by decide +kernel, by decide +kernel⟩, List.mem_of_getElem? (i := 856) (by decide +kernel), List.mem_of_getElem? (i := 967) (by decide +kernel), List.mem_of_getElem? (i := 968) (by decide +kernel)⟩
theorem lw_p49 : lw_okq (⟨"DrumTownsModel", "isTown", "(I)Z"⟩, 23) := ⟨⟨by decide +kernel, by decide +kernel⟩, List.mem_of_getElem? (i := 856) (by decide +kernel), List.mem_of_getElem? (i := 971) (by decide +kernel), List.mem_of_getElem? (i := 972) (by decide +kernel)⟩
theorem lw_p50 : lw_okq (⟨"DrumTownsModel", "pinsOf", "(II)I"⟩, 23) := ⟨⟨by decide +kernel, by decide +kernel⟩, List.mem_of_getElem? (i := 856) (by decide +kernel), List.mem_of_getElem? (i := 981) (by decide +kernel), List.mem_of_getElem? (i := 982) (by decide +kernel)⟩
theorem lw_p51 : lw_okq (⟨"DrumTownsModel", "rightOf", "(III)I"⟩, 23) := ⟨⟨by decide +kernel, by decide +kernel⟩, List.mem_of_getElem? (i := 856) (by decide +kernel), List.mem_of_getElem? (i := 1000) (by decide +kernel), List.mem_of_getElem? (i := 1001) (by decide +kernel)⟩
theorem lw_p52 : lw_okq (⟨"DrumTownsModel", "playIn", "(II)V"⟩, 23) := ⟨⟨by decide +kernel, by decide +kernel⟩, List.mem_of_getElem? (i := 856) (by decide +kernel), List.mem_of_getElem? (i := 1020) (by decide +kernel), List.mem_of_getElem? (i := 1021) (by decide +kernel)⟩
theorem lw_p53 : lw_okq (⟨"DrumTownsModel", "goTo", "(IIII)V"⟩, 23) := ⟨⟨by decide +kernel, by decide +kernel⟩, List.mem_of_getElem? (i := 856) (by decide +kernel), List.mem_of_getElem? (i := 1024) (by decide +kernel), List.mem_of_getElem? (i := 1025) (by decide +kernel)⟩
theorem lw_p54 : lw_okq (⟨"DrumTownsModel", "ifPlayedOf", "(II)I"⟩, 23) := ⟨⟨by decide +kernel, by decide +kernel⟩, List.mem_of_getElem? (i := 856) (by decide +kernel), List.mem_of_getElem? (i := 1032) (by decide +kernel), List.mem_of_getElem? (i := 1033) (by decide +kernel)⟩
theorem lw_p55 : lw_okq (⟨"DrumTownsModel", "tryPlaying", "(I)V"⟩, 23) := ⟨⟨by decide +kernel, by decide +kernel⟩, List.mem_of_getElem? (i := 856) (by decide +kernel), List.mem_of_getElem? (i := 1036) (by decide +kernel), List.mem_of_getElem? (i := 1037) (by decide +kernel)⟩
theorem lw_p56 : lw_okq (⟨"DrumTownsModel", "dullIn", "(II)I"⟩, 23) := ⟨⟨by decide +kernel, by decide +kernel⟩, List.mem_of_getElem? (i := 856) (by decide +kernel), List.mem_of_getElem? (i := 1040) (by decide +kernel), List.mem_of_getElem? (i := 1041) (by decide +kernel)⟩
theorem lw_p57 : lw_okq (⟨"DrumTownsModel", "lastsOf", "(I)I"⟩, 23) := ⟨⟨by decide +kernel, by decide +kernel⟩, List.mem_of_getElem? (i := 856) (by decide +kernel), List.mem_of_getElem? (i := 1048) (by decide +kernel), List.mem_of_getElem? (i := 1049) (by decide +kernel)⟩
theorem lw_p58 : lw_okq (⟨"DrumTownsModel", "canGo", "(III)Z"⟩, 23) := ⟨⟨by decide +kernel, by decide +kernel⟩, List.mem_of_getElem? (i := 856) (by decide +kernel), List.mem_of_getElem? (i := 1056) (by decide +kernel), List.mem_of_getElem? (i := 1057) (by decide +kernel)⟩
theorem lw_p59 : lw_okq (⟨"DrumTownsModel", "go", "(III)V"⟩, 23) := ⟨⟨by decide +kernel, by decide +kernel⟩, List.mem_of_getElem? (i := 856) (by decide +kernel), List.mem_of_getElem? (i := 1060) (by decide +kernel), List.mem_of_getElem? (i := 1061) (by decide +kernel)⟩
theorem lw_p60 : lw_okq (⟨"DrumTownsModel", "findsRing", "()Z"⟩, 23) := ⟨⟨by decide +kernel, by decide +kernel⟩, List.mem_of_getElem? (i := 856) (by decide +kernel), List.mem_of_getElem? (i := 1079) (by decide +kernel), List.mem_of_getElem? (i := 1080) (by decide +kernel)⟩
theorem lw_p61 : lw_okq (⟨"DrumTownsModel", "closes", "(I)Z"⟩, 23) := ⟨⟨by decide +kernel, by decide +kernel⟩, List.mem_of_getElem? (i := 856) (by decide +kernel), List.mem_of_getElem? (i := 1083) (by decide +kernel), List.mem_of_getElem? (i := 1084) (by decide +kernel)⟩
theorem lw_p62 : lw_okq (⟨"DrumTownsModel", "nextAt", "(I)I"⟩, 23) := ⟨⟨by decide +kernel, by decide +kernel⟩, List.mem_of_getElem? (i := 856) (by decide +kernel), List.mem_of_getElem? (i := 1087) (by decide +kernel), List.mem_of_getElem? (i := 1088) (by decide +kernel)⟩
theorem lw_p63 : lw_okq (⟨"DrumTownsModel", "isNew", "(II)Z"⟩, 23) := ⟨⟨by decide +kernel, by decide +kernel⟩, List.mem_of_getElem? (i := 856) (by decide +kernel), List.mem_of_getElem? (i := 1091) (by decide +kernel), List.mem_of_getElem? (i := 1092) (by decide +kernel)⟩
def lw_privs_4 : List (MethodName × Nat) := [(⟨"DrumTownsModel", "isPlace", "(III)Z"⟩, 23), (⟨"DrumTownsModel", "isTown", "(I)Z"⟩, 23), (⟨"DrumTownsModel", "pinsOf", "(II)I"⟩, 23), (⟨"DrumTownsModel", "rightOf", "(III)I"⟩, 23), (⟨"DrumTownsModel", "playIn", "(II)V"⟩, 23), (⟨"DrumTownsModel", "goTo", "(IIII)V"⟩, 23), (⟨"DrumTownsModel", "ifPlayedOf", "(II)I"⟩, 23), (⟨"DrumTownsModel", "tryPlaying", "(I)V"⟩, 23), (⟨"DrumTownsModel", "dullIn", "(II)I"⟩, 23), (⟨"DrumTownsModel", "lastsOf", "(I)I"⟩, 23), (⟨"DrumTownsModel", "canGo", "(III)Z"⟩, 23), (⟨"DrumTownsModel", "go", "(III)V"⟩, 23), (⟨"DrumTownsModel", "findsRing", "()Z"⟩, 23), (⟨"DrumTownsModel", "closes", "(I)Z"⟩, 23), (⟨"DrumTownsModel", "nextAt", "(I)I"⟩, 23), (⟨"DrumTownsModel", "isNew", "(II)Z"⟩, 23)]
theorem lw_r4 : ∀ q ∈ lw_privs_4, lw_okq q := List.forall_mem_cons.mpr ⟨lw_p48, List.forall_mem_cons.mpr ⟨lw_p49, List.forall_mem_cons.mpr ⟨lw_p50, List.forall_mem_cons.mpr ⟨lw_p51, List.forall_mem_cons.mpr ⟨lw_p52, List.forall_mem_cons.mpr ⟨lw_p53, List.forall_mem_cons.mpr ⟨lw_p54, List.forall_mem_cons.mpr ⟨lw_p55, List.forall_mem_cons.mpr ⟨lw_p56, List.forall_mem_cons.mpr ⟨lw_p57, List.forall_mem_cons.mpr ⟨lw_p58, List.forall_mem_cons.mpr ⟨lw_p59, List.forall_mem_cons.mpr ⟨lw_p60, List.forall_mem_cons.mpr ⟨lw_p61, List.forall_mem_cons.mpr ⟨lw_p62, List.forall_mem_cons.mpr ⟨lw_p63, fun _ h => absurd h List.not_mem_nil⟩⟩⟩⟩⟩⟩⟩⟩⟩⟩⟩⟩⟩⟩⟩⟩
theorem lw_p64 : lw_okq (⟨"DrumTownsModel", "leastOfRing", "()I"⟩, 23) := ⟨⟨by decide +kernel, by decide +kernel⟩, List.mem_of_getElem? (i := 856) (by decide +kernel), List.mem_of_getElem? (i := 1095) (by decide +kernel), List.mem_of_getElem? (i := 1096) (by decide +kernel)⟩
theorem lw_p65 : lw_okq (⟨"DrumTownsModel", "ringOf", "(I)I"⟩, 23) := ⟨⟨by decide +kernel, by decide +kernel⟩, List.mem_of_getElem? (i := 856) (by decide +kernel), List.mem_of_getElem? (i := 1103) (by decide +kernel), List.mem_of_getElem? (i := 1104) (by decide +kernel)⟩
theorem lw_p66 : lw_okq (⟨"DrumTownsModel", "errorAt", "()I"⟩, 23) := ⟨⟨by decide +kernel, by decide +kernel⟩, List.mem_of_getElem? (i := 856) (by decide +kernel), List.mem_of_getElem? (i := 1119) (by decide +kernel), List.mem_of_getElem? (i := 1120) (by decide +kernel)⟩
theorem lw_p67 : lw_okq (⟨"DrumTownsModel", "goesOn", "(I)Z"⟩, 23) := ⟨⟨by decide +kernel, by decide +kernel⟩, List.mem_of_getElem? (i := 856) (by decide +kernel), List.mem_of_getElem? (i := 1123) (by decide +kernel), List.mem_of_getElem? (i := 1124) (by decide +kernel)⟩
theorem lw_p68 : lw_okq (⟨"DrumTownsModel", "begins", "(I)Z"⟩, 23) := ⟨⟨by decide +kernel, by decide +kernel⟩, List.mem_of_getElem? (i := 856) (by decide +kernel), List.mem_of_getElem? (i := 1127) (by decide +kernel), List.mem_of_getElem? (i := 1128) (by decide +kernel)⟩
theorem lw_p69 : lw_okq (⟨"DrumTownsModel", "isTune", "()Z"⟩, 23) := ⟨⟨by decide +kernel, by decide +kernel⟩, List.mem_of_getElem? (i := 856) (by decide +kernel), List.mem_of_getElem? (i := 1135) (by decide +kernel), List.mem_of_getElem? (i := 1136) (by decide +kernel)⟩
theorem lw_p70 : lw_okq (⟨"DrumTownsModel", "townOf", "(II)I"⟩, 23) := ⟨⟨by decide +kernel, by decide +kernel⟩, List.mem_of_getElem? (i := 856) (by decide +kernel), List.mem_of_getElem? (i := 1143) (by decide +kernel), List.mem_of_getElem? (i := 1144) (by decide +kernel)⟩
theorem lw_p71 : lw_okq (⟨"DrumTownsModel", "owedIn", "(IZ)I"⟩, 23) := ⟨⟨by decide +kernel, by decide +kernel⟩, List.mem_of_getElem? (i := 856) (by decide +kernel), List.mem_of_getElem? (i := 1147) (by decide +kernel), List.mem_of_getElem? (i := 1148) (by decide +kernel)⟩
theorem lw_p72 : lw_okq (⟨"DrumTownsModel", "stepOf", "(III)I"⟩, 23) := ⟨⟨by decide +kernel, by decide +kernel⟩, List.mem_of_getElem? (i := 856) (by decide +kernel), List.mem_of_getElem? (i := 1155) (by decide +kernel), List.mem_of_getElem? (i := 1156) (by decide +kernel)⟩
theorem lw_p73 : lw_okq (⟨"DrumTownsModel", "countOf", "(I)I"⟩, 23) := ⟨⟨by decide +kernel, by decide +kernel⟩, List.mem_of_getElem? (i := 856) (by decide +kernel), List.mem_of_getElem? (i := 1163) (by decide +kernel), List.mem_of_getElem? (i := 1164) (by decide +kernel)⟩
theorem lw_p74 : lw_okq (⟨"DrumTownsModel", "sumOf", "(I)I"⟩, 23) := ⟨⟨by decide +kernel, by decide +kernel⟩, List.mem_of_getElem? (i := 856) (by decide +kernel), List.mem_of_getElem? (i := 1167) (by decide +kernel), List.mem_of_getElem? (i := 1168) (by decide +kernel)⟩
theorem lw_p75 : lw_okq (⟨"DrumTownsModel", "owing", "()I"⟩, 23) := ⟨⟨by decide +kernel, by decide +kernel⟩, List.mem_of_getElem? (i := 856) (by decide +kernel), List.mem_of_getElem? (i := 1171) (by decide +kernel), List.mem_of_getElem? (i := 1172) (by decide +kernel)⟩
theorem lw_p76 : lw_okq (⟨"DrumTownsModel", "bestTurnOf", "(II)I"⟩, 23) := ⟨⟨by decide +kernel, by decide +kernel⟩, List.mem_of_getElem? (i := 856) (by decide +kernel), List.mem_of_getElem? (i := 1179) (by decide +kernel), List.mem_of_getElem? (i := 1180) (by decide +kernel)⟩
theorem lw_p77 : lw_okq (⟨"DrumTownsModel", "bestDrumOf", "(I)I"⟩, 23) := ⟨⟨by decide +kernel, by decide +kernel⟩, List.mem_of_getElem? (i := 856) (by decide +kernel), List.mem_of_getElem? (i := 1187) (by decide +kernel), List.mem_of_getElem? (i := 1188) (by decide +kernel)⟩
theorem lw_p78 : lw_okq (⟨"DrumTownsModel", "bestTradesOf", "(I)I"⟩, 23) := ⟨⟨by decide +kernel, by decide +kernel⟩, List.mem_of_getElem? (i := 856) (by decide +kernel), List.mem_of_getElem? (i := 1195) (by decide +kernel), List.mem_of_getElem? (i := 1196) (by decide +kernel)⟩
theorem lw_p79 : lw_okq (⟨"DrumTownsModel", "broughtBy", "(I)I"⟩, 23) := ⟨⟨by decide +kernel, by decide +kernel⟩, List.mem_of_getElem? (i := 856) (by decide +kernel), List.mem_of_getElem? (i := 1199) (by decide +kernel), List.mem_of_getElem? (i := 1200) (by decide +kernel)⟩
def lw_privs_5 : List (MethodName × Nat) := [(⟨"DrumTownsModel", "leastOfRing", "()I"⟩, 23), (⟨"DrumTownsModel", "ringOf", "(I)I"⟩, 23), (⟨"DrumTownsModel", "errorAt", "()I"⟩, 23), (⟨"DrumTownsModel", "goesOn", "(I)Z"⟩, 23), (⟨"DrumTownsModel", "begins", "(I)Z"⟩, 23), (⟨"DrumTownsModel", "isTune", "()Z"⟩, 23), (⟨"DrumTownsModel", "townOf", "(II)I"⟩, 23), (⟨"DrumTownsModel", "owedIn", "(IZ)I"⟩, 23), (⟨"DrumTownsModel", "stepOf", "(III)I"⟩, 23), (⟨"DrumTownsModel", "countOf", "(I)I"⟩, 23), (⟨"DrumTownsModel", "sumOf", "(I)I"⟩, 23), (⟨"DrumTownsModel", "owing", "()I"⟩, 23), (⟨"DrumTownsModel", "bestTurnOf", "(II)I"⟩, 23), (⟨"DrumTownsModel", "bestDrumOf", "(I)I"⟩, 23), (⟨"DrumTownsModel", "bestTradesOf", "(I)I"⟩, 23), (⟨"DrumTownsModel", "broughtBy", "(I)I"⟩, 23)]
theorem lw_r5 : ∀ q ∈ lw_privs_5, lw_okq q := List.forall_mem_cons.mpr ⟨lw_p64, List.forall_mem_cons.mpr ⟨lw_p65, List.forall_mem_cons.mpr ⟨lw_p66, List.forall_mem_cons.mpr ⟨lw_p67, List.forall_mem_cons.mpr ⟨lw_p68, List.forall_mem_cons.mpr ⟨lw_p69, List.forall_mem_cons.mpr ⟨lw_p70, List.forall_mem_cons.mpr ⟨lw_p71, List.forall_mem_cons.mpr ⟨lw_p72, List.forall_mem_cons.mpr ⟨lw_p73, List.forall_mem_cons.mpr ⟨lw_p74, List.forall_mem_cons.mpr ⟨lw_p75, List.forall_mem_cons.mpr ⟨lw_p76, List.forall_mem_cons.mpr ⟨lw_p77, List.forall_mem_cons.mpr ⟨lw_p78, List.forall_mem_cons.mpr ⟨lw_p79, fun _ h => absurd h List.not_mem_nil⟩⟩⟩⟩⟩⟩⟩⟩⟩⟩⟩⟩⟩⟩⟩⟩
theorem lw_p80 : lw_okq (⟨"DrumTownsModel", "add", "(J)V"⟩, 23) := ⟨⟨by decide +kernel, by decide +kernel⟩, List.mem_of_getElem? (i := 856) (by decide +kernel), List.mem_of_getElem? (i := 1212) (by decide +kernel), List.mem_of_getElem? (i := 1213) (by decide +kernel)⟩
theorem lw_p81 : lw_okq (⟨"DrumTownsModel", "addTownOf", "(I)V"⟩, 23) := ⟨⟨by decide +kernel, by decide +kernel⟩, List.mem_of_getElem? (i := 856) (by decide +kernel), List.mem_of_getElem? (i := 1217) (by decide +kernel), List.mem_of_getElem? (i := 1218) (by decide +kernel)⟩
def lw_privs_6 : List (MethodName × Nat) := [(⟨"DrumTownsModel", "add", "(J)V"⟩, 23), (⟨"DrumTownsModel", "addTownOf", "(I)V"⟩, 23)]
theorem lw_r6 : ∀ q ∈ lw_privs_6, lw_okq q := List.forall_mem_cons.mpr ⟨lw_p80, List.forall_mem_cons.mpr ⟨lw_p81, fun _ h => absurd h List.not_mem_nil⟩⟩
def lw_privs : List (MethodName × Nat) := lw_privs_1 ++ (lw_privs_2 ++ (lw_privs_3 ++ (lw_privs_4 ++ (lw_privs_5 ++ (lw_privs_6)))))
def lw_tbl : List Cond := k2_sels lw_privs ++ tables_1
theorem lw_privs_ok : ∀ q ∈ lw_privs, lw_okq q := by
  show ∀ q ∈ lw_privs_1 ++ (lw_privs_2 ++ (lw_privs_3 ++ (lw_privs_4 ++ (lw_privs_5 ++ (lw_privs_6))))), lw_okq q
  exact List.forall_mem_append.mpr ⟨lw_r1, List.forall_mem_append.mpr ⟨lw_r2, List.forall_mem_append.mpr ⟨lw_r3, List.forall_mem_append.mpr ⟨lw_r4, List.forall_mem_append.mpr ⟨lw_r5, lw_r6⟩⟩⟩⟩⟩
/-- the streams that the claim lets the run draw from -/
abbrev lw_cs : List Choice := [Jvm.Choice.named "NaN.bits"]
theorem lw_bits : nanBits ∈ lw_cs := by first | decide | exact List.mem_cons_self | simp [lw_cs, nanBits]
end
section
/-- (wanting in the kit: what the printed rows of new T[n][m] ask of the tables) -/
def va_AOA (t : FieldType) (U : State) : Prop := (Cond.arrayOver (.array t)).before #[] U = true
theorem va_AOA.use {t : FieldType} {A : Array Value} {U : State} (h : va_AOA t U) : (Cond.arrayOver (.array t)).before A U = true := h
/-! ===== BEGIN words of one list among another's, by their places ===== -/
theorem goodIn_r {big : List Cond} (ws : List Cond) (ps : List Nat) (hp : ws = ps.filterMap (fun i => big[i]?)) (h : ws.all goodWord = true) : GoodIn big ws := by
  intro w hw
  have h1 := List.all_eq_true.mp h w hw
  rw [hp] at hw
  obtain ⟨i, -, hi⟩ := List.mem_filterMap.mp hw
  have hm : w ∈ big := by first | exact List.mem_of_getElem? hi | exact List.getElem?_mem hi
  exact ⟨hm, good_of_word h1⟩
theorem goodIn_app {big a b : List Cond} (ha : GoodIn big a) (hb : GoodIn big b) : GoodIn big (a ++ b) := fun w h => (List.mem_append.mp h).elim (ha w) (hb w)
theorem goodIn_ca {big a b : List Cond} {c : Cond} (ha : GoodIn big (c :: a)) (hb : GoodIn big b) : GoodIn big (c :: (a ++ b)) := fun w h => (List.mem_cons.mp h).elim (fun e => ha w (List.mem_cons.mpr (Or.inl e))) (fun h => (List.mem_append.mp h).elim (fun h => ha w (List.mem_cons.mpr (Or.inr h))) (hb w))
theorem goodIn_sub {big ws : List Cond} (hm : ∀ w ∈ ws, w ∈ big) (h : ws.all goodWord = true) : GoodIn big ws := fun w hw => ⟨hm w hw, good_of_word (List.all_eq_true.mp h w hw)⟩
/-! ===== END ===== -/

/-! ===== BEGIN new T[n][m]: the outer array a place, the inner ones among the pooled ===== -/
/-- f, but v at every address of l -/
def vr_up {α : Type} (f : Nat → α) (l : List Nat) (v : α) : Nat → α := fun a => if a ∈ l then v else f a
theorem vr_up_in {α : Type} {f : Nat → α} {l : List Nat} {v : α} {a : Nat} (h : a ∈ l) : vr_up f l v a = v := if_pos h
theorem vr_up_ne {α : Type} {f : Nat → α} {l : List Nat} {v : α} {a : Nat} (h : a ∉ l) : vr_up f l v a = f a := if_neg h
theorem vr_rows {L l : List Nat} {f : Nat → va_E} {e : va_E} (h : ∀ a, a ∈ l → a ∉ L) : va_pl L f ++ l.map (fun a => (a, e)) = va_pl (L ++ l) (vr_up f l e) := by
  unfold va_pl
  rw [List.map_append]
  congr 1
  · apply List.map_congr_left
    intro a ha
    rw [vr_up_ne (fun q => h a q ha)]
  · apply List.map_congr_left
    intro a ha
    rw [vr_up_in ha]
theorem vr_lay {X rows : va_W} {x : Nat × va_E} {pl : va_W} {D : va_G} {cl : List vw_C} {H : Heap} (hP : va_P D cl (((X ++ pl) ++ [x]) ++ rows) H) : va_P D cl ((X ++ [x]) ++ (pl ++ rows)) H := by
  rw [List.append_assoc (X ++ pl)] at hP
  have h := va_P.swap hP
  rw [← List.append_assoc X] at h
  have h2 := va_P.swap h
  rw [List.append_assoc (X ++ [x])] at h2
  exact h2
theorem vr_layD {X rows : va_W} {x : Nat × va_E} {pl : va_W} {A : Nat → Prop} (hD : va_D A (((X ++ pl) ++ [x]) ++ rows)) : va_D A ((X ++ [x]) ++ (pl ++ rows)) := by
  rw [List.append_assoc (X ++ pl)] at hD
  have h := va_D.swap hD
  rw [← List.append_assoc X] at h
  have h2 := va_D.swap h
  rw [List.append_assoc (X ++ [x])] at h2
  exact h2
theorem vr_outer (c : ClassId) (N h0 : Nat) : ∀ i : Nat, Jvm.Free.Multi.outerC c N h0 i = arrV c N (fun j => va_rf (if j < i then some (h0 + 1 + j) else none))
  | 0 => by
    show ({ cls := c, slots := Array.replicate N .null, vm := .none } : Cell) = _
    rw [arrV_new]
    refine congrArg (arrV c N) (funext fun j => ?_)
    simp [va_rf]
  | i + 1 => by
    show (Jvm.Free.Multi.outerC c N h0 i).setSlot i (.ref (h0 + 1 + i)) = _
    rw [vr_outer c N h0 i, arrV_store]
    refine congrArg (arrV c N) (funext fun j => ?_)
    by_cases e : j = i
    · subst e
      simp [updV, va_rf]
    · by_cases h : j < i
      · simp [updV, e, h, Nat.lt_succ_of_lt h]
      · simp [updV, e, h, show ¬ j < i + 1 by omega]
section VGM
variable {p : Program} {l : Launch} {e : Env} {R : Room} {s : State} {m : MethodId} {args : Array Value} {below : List Frame} {meth : Method} {c : Code} {H : Heap} {locs : List Loc} {cells slots : Nat} {Q : State → Prop}
variable {cc : ByteArray} {pc : Nat} {ls : Array Slot} {rest : List Value} {D : va_G} {cl : List vw_C} {A : Nat → Prop} {a : Nat} {tys : List (ClassId × FieldType)} {ws : va_W} {H0 : Heap}
theorem va_mna {X : va_W} {L : List Nat} {f : Nat → va_E} {cc : ByteArray} (hexec : p.tables.exec = Jvm.exec) (hb : c.code = cc) {own : String} {index : Nat} {ty : FieldType} {cy : ClassId} (hown : s.vm.findClass own = some m.cls) (hclink : (Cond.classLink own index ("[" ++ (FieldType.array ty).toString)).before args s = true) (hover : va_AOA ty s) (harr : (Cond.arrayClass ty).before args s = true) (hcy : s.vm.findClass (FieldType.array ty).toString = some cy)
    (hK : va_K D cl tys s) (hP : va_P D cl (X ++ va_pl L f) H) (hD : va_D A (X ++ va_pl L f)) (hS : va_S A H0 H locs) (hA : ∀ q, H0.size ≤ q → A q) {n k : Int32} {N' K' : Nat} {z : vp_A} (hn : ¬ n < 0) (hk : ¬ k < 0) (hN : n.toNatClampNeg = N') (hM : k.toNatClampNeg = K')
    (hb1 : N' * 4 ≤ 536870912) (hb2 : K' * componentBytes ty ≤ 536870912) (hb3 : K' ≤ 536870912) (hdf : fits ty (defaultValue ty) = true) (hdd : (defaultValue ty).isDefault = true) (hcells : cells + (1 + N') ≤ R.cells) (hslots : slots + (N' + N' * K') ≤ R.slots) (hz : ∀ c : ClassId, Jvm.Free.Multi.innerC c K' (defaultValue ty) = vp_cell c z) (hdg : decode cc pc = .ok (.multianewarray index 2, 4))
    (kk : ∀ (q : Nat) (r : Nat → Nat) (cA : ClassId) (H1 : Heap), (∀ i j : Nat, i < N' → j < N' → r i = r j → i = j) → (∀ i : Nat, i < N' → r i ∉ L) → va_K D cl (tys ++ [(cA, .array ty)]) s →
      va_P D cl ((X ++ [(q, .inl (cA, N', .inr (.inr (.inr (.inr (fun i => if i < N' then some (r i) else none))))))]) ++ va_pl (L ++ (List.range N').map r) (vr_up f ((List.range N').map r) (.inl (cy, z)))) H1 → va_D A ((X ++ [(q, .inl (cA, N', .inr (.inr (.inr (.inr (fun i => if i < N' then some (r i) else none))))))]) ++ va_pl (L ++ (List.range N').map r) (vr_up f ((List.range N').map r) (.inl (cy, z)))) → va_S A H0 H1 locs →
      W p l e R s m args below meth c H1 locs (cells + 1 + N') (slots + N' + N' * K') Q (F0 m (pc + 4) ls (.ref q :: rest))) : W p l e R s m args below meth c H locs cells slots Q (F0 m pc ls (.int k :: .int n :: rest)) := by
  subst hN
  subst hM
  intro T hT Xs
  obtain ⟨vm₁, cA, comp, -, fA, fC, hO, -, X', step⟩ := Xs.multianewarray2F hexec hown hclink (va_AOA.use hover) harr (g := F0 m pc ls (.int k :: .int n :: rest)) rfl (by rw [hb]; exact hdg) rfl hn hk hb1 hb2 hb3 hdf hdd hcells hslots
  have ec : some cy = some comp := hcy.symm.trans fC
  cases ec
  generalize hF : Jvm.Free.Multi.fill (T.setVm vm₁) cA cy n.toNatClampNeg k.toNatClampNeg (defaultValue ty) n.toNatClampNeg = F at X' step
  have hTh : (T.setVm vm₁).heap = H := hT
  obtain ⟨f1, f2, -, -⟩ := Jvm.Free.Multi.fill_facts (T.setVm vm₁) cA cy n.toNatClampNeg k.toNatClampNeg (defaultValue ty) n.toNatClampNeg
  rw [hF, hTh] at f1 f2
  have hold : ∀ x : Nat, x < H.size → F.heap[x]? = H[x]? := fun x hx => by
    have := Jvm.Free.Multi.fill_old (T.setVm vm₁) cA cy n.toNatClampNeg k.toNatClampNeg (defaultValue ty) (a := x) (by rw [hTh]; exact hx) n.toNatClampNeg
    rw [hF, hTh] at this
    exact this
  have hrow : ∀ j : Nat, j < n.toNatClampNeg → F.heap[H.size + 1 + j]? = some (vp_cell cy z) := fun j hj => by
    have := Jvm.Free.Multi.fill_inner (T.setVm vm₁) cA cy n.toNatClampNeg k.toNatClampNeg (defaultValue ty) n.toNatClampNeg j hj
    rw [hF, hTh, hz] at this
    exact this
  have hout : Jvm.Free.Multi.outerC cA n.toNatClampNeg H.size n.toNatClampNeg = vp_cell cA (n.toNatClampNeg, .inr (.inr (.inr (.inr (fun i => if i < n.toNatClampNeg then some (H.size + 1 + i) else none))))) := by
    rw [vp_cell_q]
    exact vr_outer cA n.toNatClampNeg H.size n.toNatClampNeg
  rw [hout] at f2
  have hlt : ∀ a, a ∈ L → a < H.size := fun a ha => by
    obtain ⟨k9, hk9⟩ := va_pl_get (X := X) (f := f) ha
    exact (hP k9 _ hk9).lt
  have hnl : ∀ i : Nat, i < n.toNatClampNeg → H.size + 1 + i ∉ L := fun i _ h => by
    have := hlt _ h
    omega
  have hnm : ∀ a, a ∈ (List.range n.toNatClampNeg).map (fun i => H.size + 1 + i) → a ∉ L := fun a ha h => by
    obtain ⟨i, -, rfl⟩ := List.mem_map.mp ha
    have := hlt _ h
    omega
  have hP0 : va_P D cl (X ++ va_pl L f) F.heap := hP.kept (fun k9 x hx => hold x.1 ((hP k9 x hx).lt))
  have hP1 : va_P D cl ((X ++ va_pl L f) ++ [(H.size, .inl (cA, n.toNatClampNeg, .inr (.inr (.inr (.inr (fun i => if i < n.toNatClampNeg then some (H.size + 1 + i) else none))))))]) F.heap := hP0.app (fun k9 x hx => by
    have h0 : k9 < 1 := (List.getElem?_eq_some_iff.mp hx).1
    rw [show k9 = 0 by omega] at hx
    cases hx
    exact f2)
  have hP2 : va_P D cl (((X ++ va_pl L f) ++ [(H.size, .inl (cA, n.toNatClampNeg, .inr (.inr (.inr (.inr (fun i => if i < n.toNatClampNeg then some (H.size + 1 + i) else none))))))]) ++ ((List.range n.toNatClampNeg).map (fun i => H.size + 1 + i)).map (fun a => (a, .inl (cy, z)))) F.heap := hP1.app (fun k9 x hx => by
    obtain ⟨a, ha, rfl⟩ := List.mem_map.mp (List.mem_of_getElem? hx)
    obtain ⟨i, hi, rfl⟩ := List.mem_map.mp ha
    exact hrow i (List.mem_range.mp hi))
  have hD2 : va_D A (((X ++ va_pl L f) ++ [(H.size, .inl (cA, n.toNatClampNeg, .inr (.inr (.inr (.inr (fun i => if i < n.toNatClampNeg then some (H.size + 1 + i) else none))))))]) ++ ((List.range n.toNatClampNeg).map (fun i => H.size + 1 + i)).map (fun a => (a, .inl (cy, z)))) := by
    have hD1 := hD.push (e := .inl (cA, n.toNatClampNeg, .inr (.inr (.inr (.inr (fun i => if i < n.toNatClampNeg then some (H.size + 1 + i) else none)))))) hP rfl (hA _ hS.1)
    generalize hW1 : (X ++ va_pl L f) ++ [(H.size, .inl (cA, n.toNatClampNeg, .inr (.inr (.inr (.inr (fun i => if i < n.toNatClampNeg then some (H.size + 1 + i) else none))))))] = W1 at hD1 hP1 ⊢
    have hle : ∀ (k9 : Nat) (x : Nat × va_E), W1[k9]? = some x → x.1 ≤ H.size := fun k9 x hx => by
      rw [← hW1] at hx
      by_cases hl : k9 < (X ++ va_pl L f).length
      · rw [List.getElem?_append_left hl] at hx
        exact Nat.le_of_lt ((hP k9 x hx).lt)
      · rw [List.getElem?_append_right (by omega)] at hx
        have h0 : k9 - (X ++ va_pl L f).length < 1 := (List.getElem?_eq_some_iff.mp hx).1
        rw [show k9 - (X ++ va_pl L f).length = 0 by omega] at hx
        cases hx
        exact Nat.le_refl _
    have hr : ∀ (k9 : Nat) (x : Nat × va_E), (((List.range n.toNatClampNeg).map (fun i => H.size + 1 + i)).map (fun a => ((a, .inl (cy, z)) : Nat × va_E)))[k9]? = some x → x.1 = H.size + 1 + k9 := fun k9 x hx => by
      rw [List.getElem?_map, List.getElem?_map] at hx
      by_cases h9 : k9 < n.toNatClampNeg
      · rw [List.getElem?_range h9] at hx
        cases hx
        rfl
      · have hn0 : (List.range n.toNatClampNeg)[k9]? = none := List.getElem?_eq_none (by rw [List.length_range]; omega)
        rw [hn0] at hx
        cases hx
    refine ⟨fun i j x y hi hj hxy => ?_, fun k9 x hx => ?_⟩
    · by_cases h1 : i < W1.length <;> by_cases h2 : j < W1.length
      · rw [List.getElem?_append_left h1] at hi
        rw [List.getElem?_append_left h2] at hj
        exact hD1.1 i j x y hi hj hxy
      · rw [List.getElem?_append_left h1] at hi
        rw [List.getElem?_append_right (by omega)] at hj
        have := hle _ _ hi
        have := hr _ _ hj
        omega
      · rw [List.getElem?_append_right (by omega)] at hi
        rw [List.getElem?_append_left h2] at hj
        have := hle _ _ hj
        have := hr _ _ hi
        omega
      · rw [List.getElem?_append_right (by omega)] at hi hj
        have := hr _ _ hi
        have := hr _ _ hj
        omega
    · by_cases h1 : k9 < W1.length
      · rw [List.getElem?_append_left h1] at hx
        exact hD1.2 k9 x hx
      · rw [List.getElem?_append_right (by omega)] at hx
        have := hr _ _ hx
        exact hA _ (by have := hS.1; omega)
  have hAr : ArrOfT s cA (.array ty) := fun N9 z9 => by
    obtain ⟨-, k9, hk9, cm9, hkk9⟩ := (hO 0 0 0).1
    exact ⟨(fun q hq => by cases hq), k9, hk9, cm9, hkk9⟩
  have hK2 : va_K D cl (tys ++ [(cA, .array ty)]) s := ⟨hK.1, fun k9 x hx => by
    by_cases hl : k9 < tys.length
    · rw [List.getElem?_append_left hl] at hx
      exact hK.2 k9 x hx
    · rw [List.getElem?_append_right (by omega)] at hx
      have h0 : k9 - tys.length < 1 := (List.getElem?_eq_some_iff.mp hx).1
      rw [show k9 - tys.length = 0 by omega] at hx
      cases hx
      exact ⟨hAr, fA⟩⟩
  obtain ⟨t, a1, b1⟩ := kk H.size (fun i => H.size + 1 + i) cA F.heap (fun i j _ _ h => by have h9 : H.size + 1 + i = H.size + 1 + j := h; omega) hnl hK2 (by rw [← vr_rows hnm]; exact vr_lay hP2) (by rw [← vr_rows hnm]; exact vr_layD hD2) ⟨by rw [f1]; have := hS.1; omega, fun x h1 h2 => (hold x (Nat.lt_of_lt_of_le h1 hS.1)).trans (hS.2.1 x h1 h2), hS.2.2⟩ F rfl X'
  refine ⟨t, step t ?_, b1⟩
  have e : T.heap.size = H.size := by rw [hT]
  rw [e]
  exact a1
end VGM
/-! ===== END ===== -/

/-! ===== BEGIN exceptions that leave a method, and their catching by the caller (launches without stack traces) ===== -/
section VXA
/-! The laws vx_back, vx_callV, vx_callS, vx_callSW, vx_throw0, vx_throwS follow proofs of the library, with one case more: JvmDerived/Free/Laws.lean (Back.of_free), Shelf42/LK1.lean (callV, callS), Shelf/KitTraced.lean (throwNew0V, throwNewS). -/
/-- where a method has thrown q: the class by its name, the cell, what was written, the world -/
def vx_T (XC : String → State → State → Prop) (st : State) (q : Addr) (t : State) (mc ms : Nat) (free : Addr → Prop) : Prop :=
  ∃ (E : String) (ce : Cell) (L : List Loc), XC E st t ∧ t.heap[q]? = some ce ∧ ce.vm = .none ∧ st.vm.findClass E = some ce.cls ∧ st.WarmedH t.vm ∧ st.sameButNew ({ t with vm := st.vm } : State) L mc ms ∧ ∀ z ∈ L, free z.base
def vx_Q (Qc : Array Value → State → Outcome → State → Prop) (XC : String → State → State → Prop) (mc ms : Nat) (free : Addr → Prop) : Array Value → State → Outcome → State → Prop := fun a st o t =>
  (Qc a st o t ∧ ∃ L, FrameEnd st o t L mc ms ∧ ∀ q ∈ L, free q.base) ∨ ∃ q, o = .threw q ∧ vx_T XC st q t mc ms free
/-- a callee that returns or throws -/
def vx_Met (l : Launch) (y : MethodName) (ws : List Cond) (rm : Room) (Pc : Array Value → State → Prop) (Qc : Array Value → State → Outcome → State → Prop) (XC : String → State → State → Prop) (mc ms : Nat) (free : Addr → Prop) : Prop :=
  MetFree l y (headSpec ws rm) Pc (fun _ _ _ _ _ => True) (vx_Q Qc XC mc ms free)
def vx_Post (XC : String → State → State → Prop) (mc ms : Nat) (free : Addr → Prop) : Pt → Array Value → Addr → Pt → Prop := fun A a q B =>
  ∃ (g : JFrame) (mk : MethodId) (t : State) (L : List Loc) (E : String) (ce : Cell), B.U.heap = t.heap ∧ B.U.vm = t.vm ∧ XC E (A.U.calling g mk a) t ∧ t.heap[q]? = some ce ∧ ce.vm = .none ∧ A.U.vm.findClass E = some ce.cls ∧ B.locs = A.locs ++ L ∧ (∀ z ∈ L, free z.base) ∧ B.cells = A.cells + mc ∧ B.slots = A.slots + ms
def vx_Back (l : Launch) (R : Room) (p : Program) (e : Env) (below : List Frame) (s : State) (sargs : Array Value) (y : MethodName) (len W9 : Nat)
    (Pre : Pt → Array Value → Prop) (Post : Pt → Array Value → Option Value → Pt → Prop) (PostX : Pt → Array Value → Addr → Pt → Prop) : Prop :=
  ∀ (m : MethodId) (meth : Method) (c : Code) (A : Pt) (g : JFrame) (ig : Instr) (mk : MethodId) (a : Array Value),
    Stand p l e R s m sargs below meth c A.U A.locs A.cells A.slots → g.method = m → g.locals.size = c.maxLocals → decode c.code g.pc = .ok (ig, len) →
    2 * g.monitorRoom + (g.stack.map fun v => v.category).sum ≤ W9 → A.U.methodNamed? y = some mk → Pre A a →
    (∃ (v : Option Value) (B : Pt), Stand p l e R s m sargs below meth c B.U B.locs B.cells B.slots ∧ Post A a v B ∧
      Steps p.tables e below (doInvoke e (A.U.setTop g) [] mk a).1 (B.U.setTop { g with pc := g.pc + len, stack := v.toList ++ g.stack })) ∨
    (∃ (q : Addr) (B : Pt), Stand p l e R s m sargs below meth c B.U B.locs B.cells B.slots ∧ PostX A a q B ∧
      Steps p.tables e below (doInvoke e (A.U.setTop g) [] mk a).1 ((B.U.setTop g).pushFrame (.throwing q)))
section Payer
variable {l : Launch} {R : Room} {p : Program} {e : Env} {below : List Frame} {s : State} {sargs : Array Value} {y : MethodName} {len W9 : Nat}
theorem vx_back {ws : List Cond} {rm : Room} {Pc : Array Value → State → Prop} {Qc : Array Value → State → Outcome → State → Prop} {XC : String → State → State → Prop} {mc ms : Nat} {free : Addr → Prop} {bytes : ByteArray} {maxL : Nat} {ret : Option FieldType}
    (hM : vx_Met l y ws rm Pc Qc XC mc ms free) (hblind : FrameBlind Pc) (hrc : rm.cells = mc) (hrs : rm.slots = ms)
    (hframes : rm.frames + 1 ≤ R.frames) (hlocals : W9 + (maxL + 11) + rm.locals ≤ R.locals)
    (hws : ∀ w ∈ ws, ∀ a' U, s.WarmedH U.vm → w.before a' U = true) (hcode : Cond.code y bytes maxL ret ∈ ws) (hinit : ∀ a' U, s.WarmedH U.vm → (Cond.initialized y.cls).before a' U = true) :
    vx_Back l R p e below s sargs y len W9 (PreOf R mc ms Pc) (PostOf Qc mc ms free) (vx_Post XC mc ms free) := by
  intro m meth c A g ig mk a X hg hsize hdg hW hn hp
  have h1 : (headSpec ws rm).pre.before a A.U = true := atoms_intro fun w hw => hws w hw _ _ X.warmed
  have h2 : (Cond.code y bytes maxL ret).before a A.U = true := hws _ hcode _ _ X.warmed
  have h3 : (Cond.initialized y.cls).before a A.U = true := hinit _ _ X.warmed
  have h4 : A.cells + (headSpec ws rm).room.cells ≤ R.cells := by rw [show (headSpec ws rm).room.cells = mc from hrc]; exact hp.1
  have h5 : A.slots + (headSpec ws rm).room.slots ≤ R.slots := by rw [show (headSpec ws rm).room.slots = ms from hrs]; exact hp.2.1
  have hPc : Pc a (A.U.calling g mk a) := hblind _ _ _ _ hp.2.2
  obtain ⟨U, Ls, c0, s0⟩ := A
  dsimp only [Pt.U, Pt.locs, Pt.cells, Pt.slots] at h1 h2 h3 h4 h5 X hn hPc ⊢
  obtain ⟨methY, cY, hmY, hcY, -, hlY, -, -, -, -⟩ := Cond.code_spec hn h2
  obtain ⟨kY, hkY, -⟩ := className_of_methodNamed hn
  have hinitY : kY.init = .initialized := Cond.initialized_spec (findClass_of_methodNamed hn) hkY h3
  have h : At U g.method c below := by rw [hg]; exact X.here
  have hlocals9 : W9 + (maxL + 11) + (headSpec ws rm).room.locals ≤ R.locals := hlocals
  have happ : (headSpec ws rm).appliesLoose y e.platform (U.calling g mk a) = true :=
    Spec.appliesLoose_calling (g := g) h hdg hn hkY hinitY
      (X.room_calling (g := g) (R' := (headSpec ws rm).room) hsize hmY hcY hframes (by rw [hlY]; omega) h4 h5) h1
  obtain ⟨mid, hmid⟩ := h.above
  have hfr : (U.setTop g).frames = (.java g :: mid) ++ below := by rw [State.frames_setTop' g h.top, hmid]; rfl
  obtain ⟨o, s₂, hsteps, -, hend, hq⟩ := Steps.callFree hM p X.admits X.cas X.clock (acts := []) hfr happ hPc trivial
  have hq' : vx_Q Qc XC mc ms free a (U.calling g mk a) o s₂ := hq
  rw [State.frames_setTop' g h.top] at hend
  obtain ⟨g₀, hg0⟩ := Option.isSome_iff_exists.mp h.top
  obtain ⟨r, hr⟩ := State.topJava?_eq_some.mp hg0
  have hr' : (({ U with heap := s₂.heap, slotsUsed := s₂.slotsUsed } : State).setVm s₂.vm).frames = .java g₀ :: r := hr
  rcases hq' with ⟨hqc, L, hfe, hL⟩ | ⟨q, rfl, E, ce, L, hx, hce, hcv, hcl, hW₂, hsm, hL⟩
  · obtain ⟨⟨v, rfl⟩, hW₂, e2, q2, q3, q4, q5, q6⟩ := id hfe
    have e3 : s₂ = ({ (U.calling g mk a).setFrames s₂.frames with heap := s₂.heap, slotsUsed := s₂.slotsUsed } : State).setVm s₂.vm := by
      have : s₂ = ({ s₂ with vm := (U.calling g mk a).vm } : State).setVm s₂.vm := rfl
      rw [e2] at this
      exact this
    obtain ⟨c₂, i₂, len₂, hc₂, hd₂, hf₂⟩ := hend
    have hW' : U.WarmedH s₂.vm := hW₂
    have hcc : c₂ = c := by
      have h1 : s₂.code? g.method = U.code? g.method := by
        rw [State.code?_eq, State.code?_eq, hW'.alike.method?]
      exact Option.some.inj (hc₂.symm.trans (h1.trans h.code))
    subst hcc
    have hlen : len₂ = len := by rw [hdg] at hd₂; cases hd₂; rfl
    subst hlen
    have hs₂ : s₂ = (({ U with heap := s₂.heap, slotsUsed := s₂.slotsUsed } : State).setVm s₂.vm).setTop { g with pc := g.pc + len₂, stack := v.toList ++ g.stack } := by
      refine e3.trans ?_
      rw [hf₂, State.calling_eq h.top, State.setFrames_setFrames, State.setTop_of_frames _ hr', hr]
      rfl
    have hsame : U.sameButNew ({ U with heap := s₂.heap, slotsUsed := s₂.slotsUsed } : State) L mc ms := by
      refine ⟨?_, q2, q3, q4, q5, q6⟩
      obtain ⟨t, ht, -⟩ := State.frames_cons hr
      show ({ U with heap := s₂.heap, slotsUsed := s₂.slotsUsed } : State) = { U.setFrames U.frames with heap := s₂.heap, slotsUsed := s₂.slotsUsed }
      rw [State.setFrames_self ht]
    subst hg
    refine Or.inl ⟨v, ⟨(({ U with heap := s₂.heap, slotsUsed := s₂.slotsUsed } : State).setVm s₂.vm), Ls ++ L, c0 + mc, s0 + ms⟩,
      ⟨X.admits, X.cas, X.clock, X.frames, X.room, X.hears, X.method, X.code, (X.here.setHeapUsed s₂.heap s₂.slotsUsed).setVm hW'.alike, X.tail, State.WarmedH.trans X.warmed hW', X.limits, X.bytes, X.same.trans (hsame.setVm s.vm)⟩,
      ⟨g, mk, s₂, L, rfl, rfl, hqc, rfl, hL, rfl, rfl⟩, ?_⟩
    show Steps p.tables e below _ ((({ U with heap := s₂.heap, slotsUsed := s₂.slotsUsed } : State).setVm s₂.vm).setTop { g with pc := g.pc + len₂, stack := v.toList ++ g.stack })
    rw [← hs₂]
    exact hsteps
  · obtain ⟨e2, q2, q3, q4, q5, q6⟩ := id hsm
    have e3 : s₂ = ({ (U.calling g mk a).setFrames s₂.frames with heap := s₂.heap, slotsUsed := s₂.slotsUsed } : State).setVm s₂.vm := by
      have : s₂ = ({ s₂ with vm := (U.calling g mk a).vm } : State).setVm s₂.vm := rfl
      rw [e2] at this
      exact this
    have hf₂ : s₂.frames = .throwing q :: .java g :: U.frames.tail := hend
    have hW' : U.WarmedH s₂.vm := hW₂
    have hs₂ : s₂ = ((({ U with heap := s₂.heap, slotsUsed := s₂.slotsUsed } : State).setVm s₂.vm).setTop g).pushFrame (.throwing q) := by
      refine e3.trans ?_
      rw [hf₂, State.calling_eq h.top, State.setFrames_setFrames, State.pushFrame, State.frames_setTop _ hr', State.setTop_of_frames _ hr', State.setFrames_setFrames, hr]
      rfl
    have hsame : U.sameButNew ({ U with heap := s₂.heap, slotsUsed := s₂.slotsUsed } : State) L mc ms := by
      refine ⟨?_, q2, q3, q4, q5, q6⟩
      obtain ⟨t, ht, -⟩ := State.frames_cons hr
      show ({ U with heap := s₂.heap, slotsUsed := s₂.slotsUsed } : State) = { U.setFrames U.frames with heap := s₂.heap, slotsUsed := s₂.slotsUsed }
      rw [State.setFrames_self ht]
    subst hg
    refine Or.inr ⟨q, ⟨(({ U with heap := s₂.heap, slotsUsed := s₂.slotsUsed } : State).setVm s₂.vm), Ls ++ L, c0 + mc, s0 + ms⟩,
      ⟨X.admits, X.cas, X.clock, X.frames, X.room, X.hears, X.method, X.code, (X.here.setHeapUsed s₂.heap s₂.slotsUsed).setVm hW'.alike, X.tail, State.WarmedH.trans X.warmed hW', X.limits, X.bytes, X.same.trans (hsame.setVm s.vm)⟩,
      ⟨g, mk, s₂, L, E, ce, rfl, rfl, hx, hce, hcv, hcl, rfl, hL, rfl, rfl⟩, ?_⟩
    show Steps p.tables e below _ (((({ U with heap := s₂.heap, slotsUsed := s₂.slotsUsed } : State).setVm s₂.vm).setTop g).pushFrame (.throwing q))
    rw [← hs₂]
    exact hsteps
end Payer
section Calls
variable {p : Program} {l : Launch} {e : Env} {R : Room} {s : State} {m : MethodId} {args : Array Value} {below : List Frame} {meth : Method} {c : Code} {T : State} {locs : List Loc} {cells slots : Nat}
theorem vx_callV (X : Stand p l e R s m args below meth c T locs cells slots) (hexec : p.tables.exec = Jvm.exec) {own C : String} {index : Nat} {y : MethodName} {bytes : ByteArray} {maxL : Nat} {ret : Option FieldType}
    (hown : s.vm.findClass own = some m.cls) (hlink : (Cond.methodLink own index y).before args s = true) (hinst : (Cond.instanceMethod y).before args s = true) (hsel : (Cond.selects C y y).before args s = true)
    (hcode : (Cond.code y bytes maxL ret).before args s = true) (hy : y.cls ≠ "java/lang/invoke/MethodHandle" ∧ y.cls ≠ "java/lang/invoke/VarHandle")
    {W9 : Nat} {Pre : Pt → Array Value → Prop} {Post : Pt → Array Value → Option Value → Pt → Prop} {PostX : Pt → Array Value → Addr → Pt → Prop} (hK : vx_Back l R p e below s args y 3 W9 Pre Post PostX)
    {b : Addr} {cellB : Cell} (hcell : T.heap[b]? = some cellB) (hobj : cellB.vm.isStatics = false) (hcls : s.vm.findClass C = some cellB.cls)
    {g : JFrame} (hg : g.method = m) (hsize : g.locals.size = c.maxLocals) {argsL rest : List Value} (hlen : ∀ sig, parseMethodDescriptor y.desc = some sig → argsL.length = sig.parameters.length)
    (hstack : g.stack = argsL.reverse ++ .ref b :: rest) (hW : 2 * g.monitorRoom + (rest.map fun v => v.category).sum ≤ W9) (hdg : decode c.code g.pc = .ok (.invokevirtual index, 3))
    (hpre : ∀ vm₁, s.WarmedH vm₁ → Pre ⟨T.setVm vm₁, locs, cells, slots⟩ (Value.ref b :: argsL).toArray) :
    (∃ (v : Option Value) (vm₁ : Vm) (B : Pt), s.WarmedH vm₁ ∧ Stand p l e R s m args below meth c B.U B.locs B.cells B.slots ∧ Post ⟨T.setVm vm₁, locs, cells, slots⟩ (Value.ref b :: argsL).toArray v B ∧
      ∀ target, Steps p.tables e below (B.U.setTop { g with pc := g.pc + 3, stack := v.toList ++ rest }) target → Steps p.tables e below (T.setTop g) target) ∨
    (∃ (q : Addr) (vm₁ : Vm) (B : Pt), s.WarmedH vm₁ ∧ Stand p l e R s m args below meth c B.U B.locs B.cells B.slots ∧ PostX ⟨T.setVm vm₁, locs, cells, slots⟩ (Value.ref b :: argsL).toArray q B ∧
      Steps p.tables e below (T.setTop g) ((B.U.setTop { g with stack := rest }).pushFrame (.throwing q))) := by
  obtain ⟨mk, methM, hnamed, hmethM, hstM, habM⟩ := Cond.instanceMethod_spec hinst
  obtain ⟨methM', cM, hmethM', -, -, -, -, -, -, hsigM⟩ := Cond.code_spec hnamed hcode
  cases hmethM.symm.trans hmethM'
  obtain ⟨c2, r2, m2, q1, q2, q3, q4, kP, hkP, hkPi⟩ := Cond.selects_spec hsel
  cases hcls.symm.trans q1
  cases (State.methodFound?_of_named hnamed hy).symm.trans q2
  cases hnamed.symm.trans q3
  have hselP : selectMethod e.platform s.vm cellB.cls mk = .method mk := by rw [Launch.admits_selectMethod X.admits]; exact q4
  obtain ⟨vm₁, X₁, hstep₁⟩ := X.invokevirtual hexec hown hlink hnamed hmethM hstM hkP hkPi hy (a := b) (cell := cellB) hcell
    (fun z h => by rw [h] at hobj; cases hobj) hselP hmethM habM hkP hkPi (g := g) hg (argsL := argsL) (rest := rest) (hlen _ hsigM) hstack hdg
  rcases hK m meth c ⟨T.setVm vm₁, locs, cells, slots⟩ { g with stack := rest } (.invokevirtual index) mk (Value.ref b :: argsL).toArray X₁ hg hsize hdg hW (X₁.named hnamed) (hpre vm₁ X₁.warmed) with ⟨v, B, X', hpost, hsteps⟩ | ⟨q, B, X', hpost, hsteps⟩
  · exact Or.inl ⟨v, vm₁, B, X₁.warmed, X', hpost, fun target h => hstep₁ _ fun acts => by rw [doInvoke_state]; exact hsteps.trans h⟩
  · exact Or.inr ⟨q, vm₁, B, X₁.warmed, X', hpost, hstep₁ _ fun acts => by rw [doInvoke_state]; exact hsteps⟩
theorem vx_callS (X : Stand p l e R s m args below meth c T locs cells slots) (hexec : p.tables.exec = Jvm.exec) {own : String} {index : Nat} {y : MethodName} {bytes : ByteArray} {maxL : Nat} {ret : Option FieldType}
    (hown : s.vm.findClass own = some m.cls) (hlink : (Cond.methodLink own index y).before args s = true) (hstat : (Cond.static y).before args s = true) (hinit : (Cond.initialized y.cls).before args s = true)
    (hcode : (Cond.code y bytes maxL ret).before args s = true) (hy : y.cls ≠ "java/lang/invoke/MethodHandle" ∧ y.cls ≠ "java/lang/invoke/VarHandle")
    {W9 : Nat} {Pre : Pt → Array Value → Prop} {Post : Pt → Array Value → Option Value → Pt → Prop} {PostX : Pt → Array Value → Addr → Pt → Prop} (hK : vx_Back l R p e below s args y 3 W9 Pre Post PostX)
    {g : JFrame} (hg : g.method = m) (hsize : g.locals.size = c.maxLocals) {argsL rest : List Value} (hlen : ∀ sig, parseMethodDescriptor y.desc = some sig → argsL.length = sig.parameters.length)
    (hstack : g.stack = argsL.reverse ++ rest) (hW : 2 * g.monitorRoom + (rest.map fun v => v.category).sum ≤ W9) (hdg : decode c.code g.pc = .ok (.invokestatic index, 3))
    (hpre : ∀ vm₁, s.WarmedH vm₁ → Pre ⟨T.setVm vm₁, locs, cells, slots⟩ argsL.toArray) :
    (∃ (v : Option Value) (vm₁ : Vm) (B : Pt), s.WarmedH vm₁ ∧ Stand p l e R s m args below meth c B.U B.locs B.cells B.slots ∧ Post ⟨T.setVm vm₁, locs, cells, slots⟩ argsL.toArray v B ∧
      ∀ target, Steps p.tables e below (B.U.setTop { g with pc := g.pc + 3, stack := v.toList ++ rest }) target → Steps p.tables e below (T.setTop g) target) ∨
    (∃ (q : Addr) (vm₁ : Vm) (B : Pt), s.WarmedH vm₁ ∧ Stand p l e R s m args below meth c B.U B.locs B.cells B.slots ∧ PostX ⟨T.setVm vm₁, locs, cells, slots⟩ argsL.toArray q B ∧
      Steps p.tables e below (T.setTop g) ((B.U.setTop { g with stack := rest }).pushFrame (.throwing q))) := by
  obtain ⟨mk, hnamed⟩ := Cond.code_named hcode
  obtain ⟨methM, cM, hmethM, -, -, -, -, -, -, hsigM⟩ := Cond.code_spec hnamed hcode
  have hstatic : methM.isStatic = true := Cond.static_spec hnamed hmethM hstat
  obtain ⟨kP, hkP, -⟩ := className_of_methodNamed hnamed
  have hinitP : kP.init = .initialized := Cond.initialized_spec (findClass_of_methodNamed hnamed) hkP hinit
  obtain ⟨vm₁, X₁, hstep₁⟩ := X.invokestatic hexec hown hlink hnamed hmethM hstatic hkP hinitP hy (g := g) hg (argsL := argsL) (rest := rest) (hlen _ hsigM) hstack hdg
  rcases hK m meth c ⟨T.setVm vm₁, locs, cells, slots⟩ { g with stack := rest } (.invokestatic index) mk argsL.toArray X₁ hg hsize hdg hW (X₁.named hnamed) (hpre vm₁ X₁.warmed) with ⟨v, B, X', hpost, hsteps⟩ | ⟨q, B, X', hpost, hsteps⟩
  · exact Or.inl ⟨v, vm₁, B, X₁.warmed, X', hpost, fun target h => hstep₁ _ fun acts => by rw [doInvoke_state]; exact hsteps.trans h⟩
  · exact Or.inr ⟨q, vm₁, B, X₁.warmed, X', hpost, hstep₁ _ fun acts => by rw [doInvoke_state]; exact hsteps⟩
end Calls
theorem vx_cls {s : State} {T : State} {vm₁ : Vm} {E : String} {k : ClassId} (hW : s.WarmedH vm₁) (h : (T.setVm vm₁).vm.findClass E = some k) : s.vm.findClass E = some k := by
  have h1 : vm₁.findClass E = some k := h
  rw [hW.alike.findClass] at h1
  exact h1
/-- the method's frame g, with q thrown over it -/
def vx_W (p : Program) (l : Launch) (e : Env) (R : Room) (s : State) (m : MethodId) (args : Array Value) (below : List Frame) (meth : Method) (c : Code) (H : Heap) (locs : List Loc) (cells slots : Nat) (Q : State → Prop) (g : JFrame) (q : Addr) : Prop :=
  ∀ T : State, T.heap = H → Stand p l e R s m args below meth c T locs cells slots → ∃ t, Steps p.tables e below ((T.setTop g).pushFrame (.throwing q)) t ∧ Q t
def vx_Run (p : Program) (l : Launch) (e : Env) (R : Room) (s : State) (m : MethodId) (args : Array Value) (below : List Frame) (meth : Method) (c : Code) (H : Heap) (locs : List Loc) (cells slots mc ms : Nat) (g : JFrame) (rest : List Value) (Qa : State → Outcome → State → Prop) (XC : String → State → State → Prop) (free : Addr → Prop) : Prop :=
  ∀ T : State, T.heap = H → Stand p l e R s m args below meth c T locs cells slots →
    (∃ (v : Option Value) (st₀ t T' : State) (L : List Loc), st₀.heap = H ∧ Stand p l e R s m args below meth c T' (locs ++ L) (cells + mc) (slots + ms) ∧ (∀ q ∈ L, free q.base) ∧ T'.heap = t.heap ∧ T'.vm = t.vm ∧ Qa st₀ (.returned v) t ∧
      Goes p e below T g T' { g with pc := g.pc + 3, stack := v.toList ++ rest }) ∨
    (∃ (q : Addr) (st₀ t T' : State) (L : List Loc) (E : String) (ce : Cell), st₀.heap = H ∧ Stand p l e R s m args below meth c T' (locs ++ L) (cells + mc) (slots + ms) ∧ (∀ z ∈ L, free z.base) ∧ T'.heap = t.heap ∧ T'.vm = t.vm ∧ XC E st₀ t ∧ t.heap[q]? = some ce ∧ ce.vm = .none ∧ s.vm.findClass E = some ce.cls ∧
      Steps p.tables e below (T.setTop g) ((T'.setTop { g with stack := rest }).pushFrame (.throwing q)))
def vx_X {S : Type} (px : S → Prop) (B : String → S → State → Prop) (A : Nat → Prop) : String → State → State → Prop := fun E st t => ∃ u : S, px u ∧ B E u t ∧ va_F A st t
section Runs
variable {p : Program} {l : Launch} {e : Env} {R : Room} {s : State} {m : MethodId} {args : Array Value} {below : List Frame} {meth : Method} {c : Code} {H : Heap} {locs : List Loc} {cells slots : Nat}
variable {y : MethodName} {bytes cc : ByteArray} {maxL nL mc ms n index : Nat} {ret : Option FieldType} {ws : List Cond} {rm : Room} {Pc : Array Value → State → Prop} {Qc : Array Value → State → Outcome → State → Prop} {XC : String → State → State → Prop} {free : Addr → Prop} {Ts : List Cond} {own C : String} {b : Addr} {As rest : List Value} {g : JFrame}
theorem vx_callBack (cb : CallB R s args own index y bytes maxL ret ws rm mc ms n) (hM : vx_Met l y ws rm Pc Qc XC mc ms free) (hbl : FrameBlind Pc) : vx_Back l R p e below s args y 3 8 (PreOf R mc ms Pc) (PostOf Qc mc ms free) (vx_Post XC mc ms free) := by
  obtain ⟨hrc, hrs, hfr, hlo, hws, hcw, -, hini, -⟩ := cb
  exact vx_back (bytes := bytes) (maxL := maxL) (ret := ret) hM hbl hrc hrs hfr hlo hws hcw (fun a' U hW => word_at hW (Or.inl (by first | rfl | simp [Cond.onTables, Cond.keeps, Cond.steady])) hini)
theorem vx_runV (S : CallFix p m c cc nL s args Ts own) (hM : vx_Met l y ws rm Pc Qc XC mc ms free) (cw : CallW R s args own C index y bytes maxL ret ws rm mc ms n) (hp : PreV s H C b Pc As)
    (hg : g.method = m) (hn : As.length = n) (hsize : g.locals.size = nL) (hstack : g.stack = As.reverse ++ .ref b :: rest) (hW : 2 * g.monitorRoom + (rest.map fun v => v.category).sum ≤ 8) (hdg : decode cc g.pc = .ok (.invokevirtual index, 3)) (hf : cells + mc ≤ R.cells ∧ slots + ms ≤ R.slots) :
    vx_Run p l e R s m args below meth c H locs cells slots mc ms g rest (Qc (Value.ref b :: As).toArray) XC free := by
  have hK : vx_Back l R p e below s args y 3 8 (PreOf R mc ms Pc) (PostOf Qc mc ms free) (vx_Post XC mc ms free) := vx_callBack cw.1 hM hp.1
  obtain ⟨⟨-, -, -, -, -, -, hcode, -, hy, hlen, hl⟩, hin, hse⟩ := cw
  obtain ⟨hx, hb, hml, ho, -⟩ := S
  obtain ⟨-, ⟨cellB, hcB, hoB, hclB⟩, hPc⟩ := hp
  intro T hT X
  rcases vx_callV X hx (C := C) (bytes := bytes) (maxL := maxL) (ret := ret) ho hl hin hse hcode hy hK (by rw [hT]; exact hcB) hoB hclB hg (hsize.trans hml.symm) (argsL := As) (rest := rest) (fun sig h => hn.trans (hlen sig h)) hstack hW (by rw [hb]; exact hdg)
    (fun vm₁ hW₁ => ⟨hf.1, hf.2, hPc (T.setVm vm₁) hT hW₁⟩) with ⟨v, vm₁, ⟨U', l2, c2, s2⟩, hW₁, X', ⟨g', mk, t, L, e1, e2, hq, h1, hL, h2, h3⟩, st⟩ | ⟨q, vm₁, ⟨U', l2, c2, s2⟩, hW₁, X', ⟨g', mk, t, L, E, ce, e1, e2, hq, hce, hcv, hcl, h1, hL, h2, h3⟩, st⟩
  · dsimp only [Pt.U, Pt.locs, Pt.cells, Pt.slots] at X' e1 e2 h1 h2 h3 st
    subst h1; subst h2; subst h3
    exact Or.inl ⟨v, (T.setVm vm₁).calling g' mk (Value.ref b :: As).toArray, t, U', L, hT, X', hL, e1, e2, hq, st⟩
  · dsimp only [Pt.U, Pt.locs, Pt.cells, Pt.slots] at X' e1 e2 h1 h2 h3 st hcl
    subst h1; subst h2; subst h3
    exact Or.inr ⟨q, (T.setVm vm₁).calling g' mk (Value.ref b :: As).toArray, t, U', L, E, ce, hT, X', hL, e1, e2, hq, hce, hcv, vx_cls hW₁ hcl, st⟩
theorem vx_runS (S : CallFix p m c cc nL s args Ts own) (hM : vx_Met l y ws rm Pc Qc XC mc ms free) (cw : CallB R s args own index y bytes maxL ret ws rm mc ms n ∧ (Cond.static y).before args s = true) (hp : PreS s H Pc As)
    (hg : g.method = m) (hn : As.length = n) (hsize : g.locals.size = nL) (hstack : g.stack = As.reverse ++ rest) (hW : 2 * g.monitorRoom + (rest.map fun v => v.category).sum ≤ 8) (hdg : decode cc g.pc = .ok (.invokestatic index, 3)) (hf : cells + mc ≤ R.cells ∧ slots + ms ≤ R.slots) :
    vx_Run p l e R s m args below meth c H locs cells slots mc ms g rest (Qc As.toArray) XC free := by
  have hK : vx_Back l R p e below s args y 3 8 (PreOf R mc ms Pc) (PostOf Qc mc ms free) (vx_Post XC mc ms free) := vx_callBack cw.1 hM hp.1
  obtain ⟨⟨-, -, -, -, -, -, hcode, hini, hy, hlen, hl⟩, hstt⟩ := cw
  obtain ⟨hx, hb, hml, ho, -⟩ := S
  intro T hT X
  rcases vx_callS X hx (bytes := bytes) (maxL := maxL) (ret := ret) ho hl hstt hini hcode hy hK hg (hsize.trans hml.symm) (argsL := As) (rest := rest) (fun sig h => hn.trans (hlen sig h)) hstack hW (by rw [hb]; exact hdg)
    (fun vm₁ hW₁ => ⟨hf.1, hf.2, hp.2 (T.setVm vm₁) hT hW₁⟩) with ⟨v, vm₁, ⟨U', l2, c2, s2⟩, hW₁, X', ⟨g', mk, t, L, e1, e2, hq, h1, hL, h2, h3⟩, st⟩ | ⟨q, vm₁, ⟨U', l2, c2, s2⟩, hW₁, X', ⟨g', mk, t, L, E, ce, e1, e2, hq, hce, hcv, hcl, h1, hL, h2, h3⟩, st⟩
  · dsimp only [Pt.U, Pt.locs, Pt.cells, Pt.slots] at X' e1 e2 h1 h2 h3 st
    subst h1; subst h2; subst h3
    exact Or.inl ⟨v, (T.setVm vm₁).calling g' mk As.toArray, t, U', L, hT, X', hL, e1, e2, hq, st⟩
  · dsimp only [Pt.U, Pt.locs, Pt.cells, Pt.slots] at X' e1 e2 h1 h2 h3 st hcl
    subst h1; subst h2; subst h3
    exact Or.inr ⟨q, (T.setVm vm₁).calling g' mk As.toArray, t, U', L, E, ce, hT, X', hL, e1, e2, hq, hce, hcv, vx_cls hW₁ hcl, st⟩
end Runs
section Rows
variable {p : Program} {l : Launch} {e : Env} {R : Room} {s : State} {m : MethodId} {args : Array Value} {below : List Frame} {meth : Method} {c : Code} {H : Heap} {locs : List Loc} {cells slots : Nat} {Q : State → Prop}
variable {mc ms : Nat} {free : Addr → Prop} {A0 A1 : Nat → Prop} {H0 : Heap} {a : Array Value} {pc : Nat} {ls : Array Slot} {st0 rest : List Value}
theorem vx_keep {st₀ t T' : State} {L : List Loc} (h0 : st₀.heap = H) (e1 : T'.heap = t.heap) (hS : va_S A0 H0 H locs) (hA : ∀ q, q < H.size → A1 q → A0 q) (hf : ∀ q, free q → A0 q) (hL : ∀ q ∈ L, free q.base) (hF : va_F A1 st₀ t) :
    H.size ≤ T'.heap.size ∧ (∀ q : Nat, q < H.size → ¬ A1 q → T'.heap[q]? = H[q]?) ∧ va_S A0 H0 T'.heap (locs ++ L) := by
  obtain ⟨hz, hk⟩ := hF
  rw [h0] at hz hk
  exact ⟨by rw [e1]; exact hz, fun q h1 h2 => by rw [e1]; exact hk q h1 h2,
    ⟨Nat.le_trans hS.1 (by rw [e1]; exact hz), fun q h1 h2 => by rw [e1, hk q (Nat.lt_of_lt_of_le h1 hS.1) (fun z => h2 (hA q (Nat.lt_of_lt_of_le h1 hS.1) z))]; exact hS.2.1 q h1 h2, fun q hq => by
      rcases List.mem_append.mp hq with h | h
      · exact hS.2.2 q h
      · exact hf _ (hL q h)⟩⟩
theorem vx_calli {S SX : Type} {post : Int32 → S → Prop} {px : SX → Prop} {B : S → State → Prop} {BX : String → SX → State → Prop} {AX : Nat → Prop} (hr : vx_Run p l e R s m args below meth c H locs cells slots mc ms (F0 m pc ls st0) rest (va_Qi post B A1 a) (vx_X px BX AX) free) (hS : va_S A0 H0 H locs) (hA : ∀ q, q < H.size → A1 q → A0 q) (hf : ∀ q, free q → A0 q) (hAX : ∀ q, q < H.size → AX q → A0 q)
    (kx : ∀ (E : String) (ce : Cell) (q9 : Addr) (u : SX) (t : State) (H1 : Heap) (locs1 : List Loc), t.heap = H1 → s.vm.Alike t.vm → px u → BX E u t → H.size ≤ H1.size → (∀ q : Nat, q < H.size → ¬ AX q → H1[q]? = H[q]?) → va_S A0 H0 H1 locs1 → H1[q9]? = some ce → ce.vm = .none → s.vm.findClass E = some ce.cls → vx_W p l e R s m args below meth c H1 locs1 (cells + mc) (slots + ms) Q (F0 m pc ls rest) q9)
    (kk : ∀ (r : Int32) (u : S) (t : State) (H1 : Heap) (locs1 : List Loc), t.heap = H1 → s.vm.Alike t.vm → post r u → B u t → H.size ≤ H1.size → (∀ q : Nat, q < H.size → ¬ A1 q → H1[q]? = H[q]?) → va_S A0 H0 H1 locs1 → W p l e R s m args below meth c H1 locs1 (cells + mc) (slots + ms) Q (F0 m (pc + 3) ls (.int r :: rest))) : W p l e R s m args below meth c H locs cells slots Q (F0 m pc ls st0) := by
  intro T hT X
  rcases hr T hT X with ⟨v, st₀, t, T', L, h0, X', hL, e1, e2, ⟨⟨r, u, hv, hp, hb⟩, hF⟩, st⟩ | ⟨q, st₀, t, T', L, E, ce, h0, X', hL, e1, e2, ⟨u, hp, hb, hF⟩, hce, hcv, hcl, st⟩
  · cases hv
    obtain ⟨k1, k2, k3⟩ := vx_keep h0 e1 hS hA hf hL hF
    obtain ⟨t2, a1, b1⟩ := kk r u t T'.heap (locs ++ L) e1.symm (by rw [← e2]; exact X'.warmed.alike) hp hb k1 k2 k3 T' rfl X'
    exact ⟨t2, st t2 a1, b1⟩
  · obtain ⟨k1, k2, k3⟩ := vx_keep h0 e1 hS hAX hf hL hF
    obtain ⟨t2, a1, b1⟩ := kx E ce q u t T'.heap (locs ++ L) e1.symm (by rw [← e2]; exact X'.warmed.alike) hp hb k1 k2 k3 (by rw [e1]; exact hce) hcv hcl T' rfl X'
    exact ⟨t2, st.trans a1, b1⟩
theorem vx_calll {S SX : Type} {post : Int64 → S → Prop} {px : SX → Prop} {B : S → State → Prop} {BX : String → SX → State → Prop} {AX : Nat → Prop} (hr : vx_Run p l e R s m args below meth c H locs cells slots mc ms (F0 m pc ls st0) rest (va_Ql post B A1 a) (vx_X px BX AX) free) (hS : va_S A0 H0 H locs) (hA : ∀ q, q < H.size → A1 q → A0 q) (hf : ∀ q, free q → A0 q) (hAX : ∀ q, q < H.size → AX q → A0 q)
    (kx : ∀ (E : String) (ce : Cell) (q9 : Addr) (u : SX) (t : State) (H1 : Heap) (locs1 : List Loc), t.heap = H1 → s.vm.Alike t.vm → px u → BX E u t → H.size ≤ H1.size → (∀ q : Nat, q < H.size → ¬ AX q → H1[q]? = H[q]?) → va_S A0 H0 H1 locs1 → H1[q9]? = some ce → ce.vm = .none → s.vm.findClass E = some ce.cls → vx_W p l e R s m args below meth c H1 locs1 (cells + mc) (slots + ms) Q (F0 m pc ls rest) q9)
    (kk : ∀ (r : Int64) (u : S) (t : State) (H1 : Heap) (locs1 : List Loc), t.heap = H1 → s.vm.Alike t.vm → post r u → B u t → H.size ≤ H1.size → (∀ q : Nat, q < H.size → ¬ A1 q → H1[q]? = H[q]?) → va_S A0 H0 H1 locs1 → W p l e R s m args below meth c H1 locs1 (cells + mc) (slots + ms) Q (F0 m (pc + 3) ls (.long r :: rest))) : W p l e R s m args below meth c H locs cells slots Q (F0 m pc ls st0) := by
  intro T hT X
  rcases hr T hT X with ⟨v, st₀, t, T', L, h0, X', hL, e1, e2, ⟨⟨r, u, hv, hp, hb⟩, hF⟩, st⟩ | ⟨q, st₀, t, T', L, E, ce, h0, X', hL, e1, e2, ⟨u, hp, hb, hF⟩, hce, hcv, hcl, st⟩
  · cases hv
    obtain ⟨k1, k2, k3⟩ := vx_keep h0 e1 hS hA hf hL hF
    obtain ⟨t2, a1, b1⟩ := kk r u t T'.heap (locs ++ L) e1.symm (by rw [← e2]; exact X'.warmed.alike) hp hb k1 k2 k3 T' rfl X'
    exact ⟨t2, st t2 a1, b1⟩
  · obtain ⟨k1, k2, k3⟩ := vx_keep h0 e1 hS hAX hf hL hF
    obtain ⟨t2, a1, b1⟩ := kx E ce q u t T'.heap (locs ++ L) e1.symm (by rw [← e2]; exact X'.warmed.alike) hp hb k1 k2 k3 (by rw [e1]; exact hce) hcv hcl T' rfl X'
    exact ⟨t2, st.trans a1, b1⟩
theorem vx_callf {S SX : Type} {post : UInt32 → S → Prop} {px : SX → Prop} {B : S → State → Prop} {BX : String → SX → State → Prop} {AX : Nat → Prop} (hr : vx_Run p l e R s m args below meth c H locs cells slots mc ms (F0 m pc ls st0) rest (va_Qf post B A1 a) (vx_X px BX AX) free) (hS : va_S A0 H0 H locs) (hA : ∀ q, q < H.size → A1 q → A0 q) (hf : ∀ q, free q → A0 q) (hAX : ∀ q, q < H.size → AX q → A0 q)
    (kx : ∀ (E : String) (ce : Cell) (q9 : Addr) (u : SX) (t : State) (H1 : Heap) (locs1 : List Loc), t.heap = H1 → s.vm.Alike t.vm → px u → BX E u t → H.size ≤ H1.size → (∀ q : Nat, q < H.size → ¬ AX q → H1[q]? = H[q]?) → va_S A0 H0 H1 locs1 → H1[q9]? = some ce → ce.vm = .none → s.vm.findClass E = some ce.cls → vx_W p l e R s m args below meth c H1 locs1 (cells + mc) (slots + ms) Q (F0 m pc ls rest) q9)
    (kk : ∀ (r : UInt32) (u : S) (t : State) (H1 : Heap) (locs1 : List Loc), t.heap = H1 → s.vm.Alike t.vm → post r u → B u t → H.size ≤ H1.size → (∀ q : Nat, q < H.size → ¬ A1 q → H1[q]? = H[q]?) → va_S A0 H0 H1 locs1 → W p l e R s m args below meth c H1 locs1 (cells + mc) (slots + ms) Q (F0 m (pc + 3) ls (.float r :: rest))) : W p l e R s m args below meth c H locs cells slots Q (F0 m pc ls st0) := by
  intro T hT X
  rcases hr T hT X with ⟨v, st₀, t, T', L, h0, X', hL, e1, e2, ⟨⟨r, u, hv, hp, hb⟩, hF⟩, st⟩ | ⟨q, st₀, t, T', L, E, ce, h0, X', hL, e1, e2, ⟨u, hp, hb, hF⟩, hce, hcv, hcl, st⟩
  · cases hv
    obtain ⟨k1, k2, k3⟩ := vx_keep h0 e1 hS hA hf hL hF
    obtain ⟨t2, a1, b1⟩ := kk r u t T'.heap (locs ++ L) e1.symm (by rw [← e2]; exact X'.warmed.alike) hp hb k1 k2 k3 T' rfl X'
    exact ⟨t2, st t2 a1, b1⟩
  · obtain ⟨k1, k2, k3⟩ := vx_keep h0 e1 hS hAX hf hL hF
    obtain ⟨t2, a1, b1⟩ := kx E ce q u t T'.heap (locs ++ L) e1.symm (by rw [← e2]; exact X'.warmed.alike) hp hb k1 k2 k3 (by rw [e1]; exact hce) hcv hcl T' rfl X'
    exact ⟨t2, st.trans a1, b1⟩
theorem vx_calld {S SX : Type} {post : UInt64 → S → Prop} {px : SX → Prop} {B : S → State → Prop} {BX : String → SX → State → Prop} {AX : Nat → Prop} (hr : vx_Run p l e R s m args below meth c H locs cells slots mc ms (F0 m pc ls st0) rest (va_Qd post B A1 a) (vx_X px BX AX) free) (hS : va_S A0 H0 H locs) (hA : ∀ q, q < H.size → A1 q → A0 q) (hf : ∀ q, free q → A0 q) (hAX : ∀ q, q < H.size → AX q → A0 q)
    (kx : ∀ (E : String) (ce : Cell) (q9 : Addr) (u : SX) (t : State) (H1 : Heap) (locs1 : List Loc), t.heap = H1 → s.vm.Alike t.vm → px u → BX E u t → H.size ≤ H1.size → (∀ q : Nat, q < H.size → ¬ AX q → H1[q]? = H[q]?) → va_S A0 H0 H1 locs1 → H1[q9]? = some ce → ce.vm = .none → s.vm.findClass E = some ce.cls → vx_W p l e R s m args below meth c H1 locs1 (cells + mc) (slots + ms) Q (F0 m pc ls rest) q9)
    (kk : ∀ (r : UInt64) (u : S) (t : State) (H1 : Heap) (locs1 : List Loc), t.heap = H1 → s.vm.Alike t.vm → post r u → B u t → H.size ≤ H1.size → (∀ q : Nat, q < H.size → ¬ A1 q → H1[q]? = H[q]?) → va_S A0 H0 H1 locs1 → W p l e R s m args below meth c H1 locs1 (cells + mc) (slots + ms) Q (F0 m (pc + 3) ls (.double r :: rest))) : W p l e R s m args below meth c H locs cells slots Q (F0 m pc ls st0) := by
  intro T hT X
  rcases hr T hT X with ⟨v, st₀, t, T', L, h0, X', hL, e1, e2, ⟨⟨r, u, hv, hp, hb⟩, hF⟩, st⟩ | ⟨q, st₀, t, T', L, E, ce, h0, X', hL, e1, e2, ⟨u, hp, hb, hF⟩, hce, hcv, hcl, st⟩
  · cases hv
    obtain ⟨k1, k2, k3⟩ := vx_keep h0 e1 hS hA hf hL hF
    obtain ⟨t2, a1, b1⟩ := kk r u t T'.heap (locs ++ L) e1.symm (by rw [← e2]; exact X'.warmed.alike) hp hb k1 k2 k3 T' rfl X'
    exact ⟨t2, st t2 a1, b1⟩
  · obtain ⟨k1, k2, k3⟩ := vx_keep h0 e1 hS hAX hf hL hF
    obtain ⟨t2, a1, b1⟩ := kx E ce q u t T'.heap (locs ++ L) e1.symm (by rw [← e2]; exact X'.warmed.alike) hp hb k1 k2 k3 (by rw [e1]; exact hce) hcv hcl T' rfl X'
    exact ⟨t2, st.trans a1, b1⟩
theorem vx_callv {S SX : Type} {post : S → Prop} {px : SX → Prop} {B : S → State → Prop} {BX : String → SX → State → Prop} {AX : Nat → Prop} (hr : vx_Run p l e R s m args below meth c H locs cells slots mc ms (F0 m pc ls st0) rest (va_Qv post B A1 a) (vx_X px BX AX) free) (hS : va_S A0 H0 H locs) (hA : ∀ q, q < H.size → A1 q → A0 q) (hf : ∀ q, free q → A0 q) (hAX : ∀ q, q < H.size → AX q → A0 q)
    (kx : ∀ (E : String) (ce : Cell) (q9 : Addr) (u : SX) (t : State) (H1 : Heap) (locs1 : List Loc), t.heap = H1 → s.vm.Alike t.vm → px u → BX E u t → H.size ≤ H1.size → (∀ q : Nat, q < H.size → ¬ AX q → H1[q]? = H[q]?) → va_S A0 H0 H1 locs1 → H1[q9]? = some ce → ce.vm = .none → s.vm.findClass E = some ce.cls → vx_W p l e R s m args below meth c H1 locs1 (cells + mc) (slots + ms) Q (F0 m pc ls rest) q9)
    (kk : ∀ (u : S) (t : State) (H1 : Heap) (locs1 : List Loc), t.heap = H1 → s.vm.Alike t.vm → post u → B u t → H.size ≤ H1.size → (∀ q : Nat, q < H.size → ¬ A1 q → H1[q]? = H[q]?) → va_S A0 H0 H1 locs1 → W p l e R s m args below meth c H1 locs1 (cells + mc) (slots + ms) Q (F0 m (pc + 3) ls (rest))) : W p l e R s m args below meth c H locs cells slots Q (F0 m pc ls st0) := by
  intro T hT X
  rcases hr T hT X with ⟨v, st₀, t, T', L, h0, X', hL, e1, e2, ⟨⟨u, hv, hp, hb⟩, hF⟩, st⟩ | ⟨q, st₀, t, T', L, E, ce, h0, X', hL, e1, e2, ⟨u, hp, hb, hF⟩, hce, hcv, hcl, st⟩
  · cases hv
    obtain ⟨k1, k2, k3⟩ := vx_keep h0 e1 hS hA hf hL hF
    obtain ⟨t2, a1, b1⟩ := kk u t T'.heap (locs ++ L) e1.symm (by rw [← e2]; exact X'.warmed.alike) hp hb k1 k2 k3 T' rfl X'
    exact ⟨t2, st t2 a1, b1⟩
  · obtain ⟨k1, k2, k3⟩ := vx_keep h0 e1 hS hAX hf hL hF
    obtain ⟨t2, a1, b1⟩ := kx E ce q u t T'.heap (locs ++ L) e1.symm (by rw [← e2]; exact X'.warmed.alike) hp hb k1 k2 k3 (by rw [e1]; exact hce) hcv hcl T' rfl X'
    exact ⟨t2, st.trans a1, b1⟩
/-- caught by the row x of this method's table; the rows ahead don't take it -/
theorem vx_catch {own name : String} {E : String} {ce : Cell} {q : Addr} (hown : s.vm.findClass own = some m.cls) (pre : List ExceptionTableEntry) (x : ExceptionTableEntry) (suf : List ExceptionTableEntry) (hsplit : c.exceptionTable.toList = pre ++ x :: suf)
    (hpass : ∀ z ∈ pre, covers z pc = false ∨ (z.catchType ≠ 0 ∧ ∃ nm : String, (Cond.classLink own z.catchType nm).before args s = true ∧ va_Nc E nm s)) (hx : covers x pc = true) (h0 : x.catchType ≠ 0)
    (hlink : (Cond.classLink own x.catchType name).before args s = true) (hcast : (Cond.castable E name).before args s = true) (hcell : H[q]? = some ce) (hv : ce.vm = .none) (hcl : s.vm.findClass E = some ce.cls)
    (kk : W p l e R s m args below meth c H locs cells slots Q (F0 m x.handlerPc ls [.ref q])) : vx_W p l e R s m args below meth c H locs cells slots Q (F0 m pc ls rest) q := by
  intro T hT X
  have hpl : e.platform.magicAccessors = ({} : Platform).magicAccessors := by rw [X.admits.platform]
  obtain ⟨c3, c4, hc3, hc4, hasg⟩ := Cond.castable_spec hcast
  cases Option.some.inj (hc3.symm.trans hcl)
  obtain ⟨c5, hc5, hcl5⟩ := Cond.classLink_spec hown hlink e.platform hpl
  cases Option.some.inj (hc4.symm.trans hc5)
  obtain ⟨vm', X', st⟩ := X.thenCaughtThrough q (g := F0 m pc ls rest) rfl (Steps.refl _) (by rw [hT]; exact hcell) (by rw [hv]; rfl) (by obtain ⟨k9, h9, -⟩ := Vm.findClass_spec hcl; exact ⟨k9, h9⟩) pre x suf hsplit
    (fun z hz => by
      rcases hpass z hz with h | ⟨hz0, nm, hl1, hn1⟩
      · exact Or.inl h
      · obtain ⟨c6, hc6, hcl6⟩ := Cond.classLink_spec hown hl1 e.platform hpl
        obtain ⟨a8, b8, h1, h2, h3⟩ := hn1
        cases Option.some.inj (h1.symm.trans hcl)
        cases Option.some.inj (h2.symm.trans hc6)
        exact Or.inr ⟨hz0, _, hcl6, h3⟩) hx (Or.inr ⟨h0, c4, hcl5, hasg⟩)
  obtain ⟨t, a1, b1⟩ := kk (T.setVm vm') hT X'
  exact ⟨t, st.trans a1, b1⟩
end Rows
section Ends
variable {p : Program} {l : Launch} {e : Env} {R : Room} {s : State} {m : MethodId} {args : Array Value} {below : List Frame} {meth : Method} {c : Code} {H : Heap} {locs : List Loc} {cells slots : Nat} {Q : State → Prop}
variable {mc ms : Nat} {free : Addr → Prop} {A0 A1 : Nat → Prop} {H0 : Heap} {a : Array Value} {ls : Array Slot} {st0 rest : List Value}
variable {Qc : Array Value → State → Outcome → State → Prop} {XC : String → State → State → Prop}
/-- what a body that may throw owes at its end -/
def vx_MQ (below : List Frame) (Qc : Array Value → State → Outcome → State → Prop) (XC : String → State → State → Prop) (a : Array Value) (s : State) (mc ms : Nat) (free : Addr → Prop) : State → Prop := fun t =>
  ∃ o, t.status = .running ∧ Ended t below o ∧ vx_Q Qc XC mc ms free a s o t
theorem vx_ret {g : JFrame} {mc ms : Nat} (k : W p l e R s m args below meth c H locs cells slots (MQ below Qc args s mc ms free) g) : W p l e R s m args below meth c H locs cells slots (vx_MQ below Qc XC args s mc ms free) g := by
  intro T hT X
  obtain ⟨t, a1, o, b1, b2, b3, b4⟩ := k T hT X
  exact ⟨t, a1, o, b1, b2, Or.inl ⟨b3, b4⟩⟩
/-- not caught here: it goes on to the caller -/
theorem vx_widen {g : JFrame} {q : Addr} {k n : Nat} (h1 : cells ≤ k) (h2 : slots ≤ n) (kk : vx_W p l e R s m args below meth c H locs k n Q g q) : vx_W p l e R s m args below meth c H locs cells slots Q g q := fun T hT X => kk T hT (stand_widen X h1 h2)
theorem vx_out {pc : Nat} {E : String} {ce : Cell} {q : Addr} {mc ms : Nat} (hout : ∀ x ∈ c.exceptionTable.toList, covers x pc = false) (hlocks : meth.locks = false) (hcell : H[q]? = some ce) (hv : ce.vm = .none) (hcl : s.vm.findClass E = some ce.cls)
    (hx : ∀ t : State, t.heap = H → s.vm.Alike t.vm → XC E s t) (hf : ∀ z ∈ locs, free z.base) (hc : cells ≤ mc) (hs : slots ≤ ms) :
    vx_W p l e R s m args below meth c H locs cells slots (vx_MQ below Qc XC args s mc ms free) (F0 m pc ls rest) q := by
  intro T hT X
  obtain ⟨st1, hrun, hend, hW, hsm⟩ := X.leaveThrown q (g := F0 m pc ls rest) rfl rfl rfl hout hlocks
  have hcell9 : (T.setFrames (.throwing q :: below)).heap[q]? = some ce := by
    show T.heap[q]? = some ce
    rw [hT]; exact hcell
  exact ⟨_, st1, .threw q, hrun, hend, Or.inr ⟨q, rfl, E, ce, locs, hx _ hT hW.alike, hcell9, hv, hcl, hW, hsm.mono hc hs, hf⟩⟩
theorem vx_frame {U : State} {k n : Nat} (h : s.sameButNew ({ U with vm := s.vm } : State) locs k n) : s.heap.size ≤ U.heap.size ∧ ∀ q : Nat, q < s.heap.size → (∀ z ∈ locs, z.base ≠ q) → U.heap[q]? = s.heap[q]? := by
  obtain ⟨-, h2, -, -, -, h6⟩ := h
  refine ⟨h2, fun q hq hz => ?_⟩
  obtain ⟨c9, e1, e2, e3, e4⟩ := h6 q _ (Array.getElem?_eq_getElem hq)
  have hs : c9.slots = (s.heap[q]).slots := Array.ext_getElem? fun i => e4 i fun hm => hz _ hm rfl
  have h9 : c9 = s.heap[q] := by
    rw [hs] at e2
    exact e2
  have e5 : U.heap[q]? = some c9 := e1
  rw [e5, h9, Array.getElem?_eq_getElem hq]
/-- the words of a throw but the four that speak of the heap -/
def vx_no (w : Cond) : Bool := decide (w ≠ .isRef (.static Bundle.tN "UNASSIGNED_STACK" Bundle.steD)) && decide (w ≠ .isRef (.static Bundle.tN "SUPPRESSED_SENTINEL" Bundle.listD)) && decide (w ≠ .laysStatic Bundle.tN "UNASSIGNED_STACK" Bundle.steD) && decide (w ≠ .laysStatic Bundle.tN "SUPPRESSED_SENTINEL" Bundle.listD)
def vx_at0 (own : String) (ic : Nat) (X : String) (names : List String) : List Cond := (Bundle.ownAtoms0 own ic X names).filter vx_no
def vx_atS (own : String) (ic : Nat) (X : String) (names : List String) : List Cond := (Bundle.ownAtoms own ic X names).filter vx_no
/-- a word that the tables alone decide, or a good one -/
def vx_ot (w : Cond) : Bool := w.onTables || goodWord w
theorem vx_ot_at {args a' : Array Value} {s U : State} {w : Cond} (hW : s.WarmedH U.vm) (hvm : s.vm = U.vm) (hg : vx_ot w = true) (h : w.before args s = true) : w.before a' U = true := by
  simp only [vx_ot, Bool.or_eq_true] at hg
  rcases hg with hg | hg
  · exact va_tabs hg hvm h
  · exact word_at hW (good_of_word hg) h
/-- a list's words: the good ones out of the method's own list, the others by premises of their own -/
theorem vx_hat {args : Array Value} {s : State} {L B : List Cond} (h1 : ∀ w ∈ L.filter goodWord, w.before args s = true) (h2 : ∀ w ∈ L.filter (fun w => !goodWord w), w ∈ B) (h3 : ∀ w ∈ B, w.before args s = true) : ∀ w ∈ L, w.before args s = true := by
  intro w hw
  by_cases g : goodWord w = true
  · exact h1 w (List.mem_filter.mpr ⟨hw, g⟩)
  · refine h3 w (h2 w (List.mem_filter.mpr ⟨hw, ?_⟩))
    show (!goodWord w) = true
    cases hgw : goodWord w
    · rfl
    · exact absurd hgw g
theorem vx_c {args : Array Value} {s : State} {w : Cond} {B : List Cond} (h : w.before args s = true) (t : ∀ w ∈ B, w.before args s = true) : ∀ w' ∈ w :: B, w'.before args s = true := fun w' h' => (List.mem_cons.mp h').elim (fun e => by rw [e]; exact h) (t w')
theorem vx_n {args : Array Value} {s : State} : ∀ w ∈ ([] : List Cond), w.before args s = true := fun _ h => nomatch h
theorem vx_own {args : Array Value} {s : State} {L : List Cond} (h1 : ∀ w ∈ L.filter vx_no, w.before args s = true)
    (hU : (Cond.isRef (.static Bundle.tN "UNASSIGNED_STACK" Bundle.steD)).before args s = true) (hN : (Cond.isRef (.static Bundle.tN "SUPPRESSED_SENTINEL" Bundle.listD)).before args s = true)
    (lU : (Cond.laysStatic Bundle.tN "UNASSIGNED_STACK" Bundle.steD).before args s = true) (lN : (Cond.laysStatic Bundle.tN "SUPPRESSED_SENTINEL" Bundle.listD).before args s = true) : ∀ w ∈ L, w.before args s = true := by
  intro w hw
  by_cases e1 : w = .isRef (.static Bundle.tN "UNASSIGNED_STACK" Bundle.steD)
  · rw [e1]; exact hU
  · by_cases e2 : w = .isRef (.static Bundle.tN "SUPPRESSED_SENTINEL" Bundle.listD)
    · rw [e2]; exact hN
    · by_cases e3 : w = .laysStatic Bundle.tN "UNASSIGNED_STACK" Bundle.steD
      · rw [e3]; exact lU
      · by_cases e4 : w = .laysStatic Bundle.tN "SUPPRESSED_SENTINEL" Bundle.listD
        · rw [e4]; exact lN
        · exact h1 w (List.mem_filter.mpr ⟨hw, by unfold vx_no; rw [decide_eq_true e1, decide_eq_true e2, decide_eq_true e3, decide_eq_true e4]; rfl⟩)
/-- where a static field lies, its class's statics cell in H -/
def vx_L (C n d : String) (A : Nat → Prop) (U : State) (H : Heap) : Prop := ∃ (c : ClassId) (k : Class) (i : Nat) (f : Field) (a : Nat) (cell : Cell), U.vm.findClass C = some c ∧ U.fieldFound? C n d = some (c, k, i, f) ∧ f.isStatic = true ∧ k.statics = some a ∧ H[a]? = some cell ∧ cell.vm.isStatics = true ∧ cell.cls = c ∧ f.slot < cell.slots.size ∧ k.staticTypes[f.slot]? = some f.type ∧ ¬ A a
theorem vx_L.moved {C n d : String} {A : Nat → Prop} {u U : State} {H : Heap} (hvm : u.vm.Alike U.vm) (h : vx_L C n d A u H) : vx_L C n d A U H := by
  obtain ⟨c, k, i, f, a, cell, h1, h2, h3, h4, h5, h6, h7, h8, h9, h10⟩ := h
  obtain ⟨k', hi', he⟩ := State.fieldFound?_setVm hvm h2
  exact ⟨c, k', i, f, a, cell, by rw [hvm.findClass]; exact h1, hi', h3, by rw [he]; exact h4, h5, h6, h7, h8, by rw [he]; exact h9, h10⟩
theorem vx_L.kept {C n d : String} {A : Nat → Prop} {U : State} {H H1 : Heap} (h : vx_L C n d A U H) (hq : ∀ a : Nat, a < H.size → ¬ A a → H1[a]? = H[a]?) : vx_L C n d A U H1 := by
  obtain ⟨c, k, i, f, a, cell, h1, h2, h3, h4, h5, h6, h7, h8, h9, h10⟩ := h
  exact ⟨c, k, i, f, a, cell, h1, h2, h3, h4, by rw [hq a (Array.getElem?_eq_some_iff.mp h5).1 h10]; exact h5, h6, h7, h8, h9, h10⟩
theorem vx_L.narrow {C n d : String} {A B : Nat → Prop} {U : State} {H : Heap} (h : vx_L C n d A U H) (hAB : ∀ q, B q → A q) : vx_L C n d B U H := by
  obtain ⟨c, k, i, f, a, cell, h1, h2, h3, h4, h5, h6, h7, h8, h9, h10⟩ := h
  exact ⟨c, k, i, f, a, cell, h1, h2, h3, h4, h5, h6, h7, h8, h9, fun z => h10 (hAB _ z)⟩
theorem vx_L.word {C n d : String} {A : Nat → Prop} {s : State} {args : Array Value} (h : vx_L C n d A s s.heap) : (Cond.laysStatic C n d).before args s = true := by
  obtain ⟨c, k, i, f, a, cell, h1, h2, h3, h4, h5, h6, h7, h8, h9, -⟩ := h
  show (Cond.laysStatic C n d).holds args s none s [] = true
  exact Cond.laysStatic_of h1 h2 h3 h4 h5 h6 h7 h8 h9
/-- .. and what it holds: null or some reference -/
def vx_Zq (C n d : String) (A : Nat → Prop) (U : State) (H : Heap) : Prop := va_Zq C n d A U H ∧ vx_L C n d A U H
theorem vx_Zq.moved {C n d : String} {A : Nat → Prop} {u U : State} {H : Heap} (hvm : u.vm.Alike U.vm) (h : vx_Zq C n d A u H) : vx_Zq C n d A U H := ⟨va_Zq.moved hvm h.1, vx_L.moved hvm h.2⟩
theorem vx_Zq.kept {C n d : String} {A : Nat → Prop} {U : State} {H H1 : Heap} (h : vx_Zq C n d A U H) (hq : ∀ a : Nat, a < H.size → ¬ A a → H1[a]? = H[a]?) : vx_Zq C n d A U H1 := ⟨va_Zq.kept h.1 hq, vx_L.kept h.2 hq⟩
theorem vx_Zq.narrow {C n d : String} {A B : Nat → Prop} {U : State} {H : Heap} (h : vx_Zq C n d A U H) (hAB : ∀ q, B q → A q) : vx_Zq C n d B U H := ⟨va_Zq.narrow h.1 hAB, vx_L.narrow h.2 hAB⟩
theorem vx_Zqof {args : Array Value} {s : State} {C n d : String} {A : Nat → Prop} (hl : (Cond.laysStatic C n d).before args s = true) (hini : (Cond.initialized C).before args s = true) (h : (Cond.isRef (.static C n d)).before args s = true) (hA : ∀ a : Nat, a < s.heap.size → ¬ A a) : vx_Zq C n d A s s.heap := by
  refine ⟨va_Zqof hl hini h hA, ?_⟩
  obtain ⟨c, k, i, f, a, cell, h1, h2, h3, h4, h5, h6, h7, h8, h9⟩ := Cond.laysStatic_spec hl
  exact ⟨c, k, i, f, a, cell, h1, h2, h3, h4, h5, h6, h7, h8, h9, hA a (Array.getElem?_eq_some_iff.mp h5).1⟩
theorem vx_isRef {C n d : String} {v : Value} {A : Nat → Prop} {s : State} {args : Array Value} (h : va_Z C n d v A s s.heap) (hv : v.isRef = true) : (Cond.isRef (.static C n d)).before args s = true := by
  obtain ⟨cf, kf, fi, f, a, cell, h1, h2, h3, h4, h5, h6, h7, -⟩ := h
  have he : (Term.static C n d).eval args s none [] s = some v := by
    simp [Term.eval, State.fieldNamed?, h1, h2, h4, h5, h6, h7]
  simp only [Cond.before, Cond.holds, Cond.value, he]
  cases v <;> simp_all [Value.isRef]
theorem vx_isRefq {C n d : String} {A : Nat → Prop} {s : State} {args : Array Value} (h : va_Zq C n d A s s.heap) : (Cond.isRef (.static C n d)).before args s = true := by
  rcases h with h | ⟨t, h⟩
  · exact vx_isRef h rfl
  · exact vx_isRef h rfl
/-- the same frame, seen from here: as if the method were called anew in this heap -/
theorem vx_rebase {T : State} (X : Stand p l e R s m args below meth c T locs cells slots) {R' : Room} (hf : R'.frames ≤ R.frames) (hl : R'.locals ≤ R.locals) (hc : cells + R'.cells ≤ R.cells) (hs : slots + R'.slots ≤ R.slots) :
    Stand p l e R' ((T.setVm s.vm).setFrames (.invoking m args :: below)) m args below meth c T [] 0 0 := by
  have htop : (T.setVm s.vm).topJava?.isSome := X.here.top
  have hF : ((T.setVm s.vm).setFrames (.invoking m args :: below)).frames = .invoking m args :: below := State.frames_setFrames _ (State.cur_lt_of_top htop)
  obtain ⟨g₀, hg0⟩ := Option.isSome_iff_exists.mp htop
  obtain ⟨r, hr⟩ := State.topJava?_eq_some.mp hg0
  have hl9 : e.platform.stackLimits (T.setVm s.vm).me = e.platform.stackLimits s.me := X.limits
  have hb9 : (T.setVm s.vm).me.stackBytes = s.me.stackBytes := X.bytes
  refine ⟨X.admits, X.cas, X.clock, hF, ?_, X.hears, X.method, X.code, X.here, X.tail, X.warmed, ?_, ?_, ?_⟩
  · have h := X.room
    have hU : ((T.setVm s.vm).setFrames (.invoking m args :: below)).localsInUse = s.localsInUse := by
      rw [State.localsInUse_invoking hF (meth := meth) (c := c) X.method X.code, State.localsInUse_invoking X.frames X.method X.code]
    simp only [State.hasRoom, Bool.and_eq_true, decide_eq_true_eq] at h ⊢
    obtain ⟨⟨⟨⟨h1, h2, h3, h4, h5, h6⟩, h7⟩, h8⟩, h9⟩ := h
    rw [X.frames, List.length_cons] at h2 h3
    have q1 := X.heapSize
    have q2 := X.used
    simp only [hF, hU, List.length_cons, State.stackLimits_setFrames, State.stackBytes_setFrames, hl9, hb9]
    refine ⟨⟨⟨⟨by omega, by omega, by omega, by omega, by omega, h6⟩, ?_⟩, ?_⟩, X.book⟩
    · show T.heap.size + R'.cells ≤ e.platform.maxCells
      omega
    · show T.slotsUsed + R'.slots ≤ e.platform.maxSlots
      omega
  · rw [State.stackLimits_setFrames]; rfl
  · rw [State.stackBytes_setFrames]; rfl
  · refine ⟨?_, Nat.le_refl _, Nat.le_refl _, ?_, ?_, fun a c9 h9 => ⟨c9, h9, rfl, rfl, fun _ _ => rfl⟩⟩
    · obtain ⟨t, ht, -⟩ := State.frames_cons hr
      show T.setVm s.vm = { ((T.setVm s.vm).setFrames (.invoking m args :: below)).setFrames (T.setVm s.vm).frames with heap := T.heap, slotsUsed := T.slotsUsed }
      rw [State.setFrames_setFrames, State.setFrames_self ht]
      rfl
    · show T.slotsUsed = T.slotsUsed + ((T.heap.toList.drop T.heap.size).map (·.slots.size)).sum
      rw [List.drop_eq_nil_of_le (Nat.le_of_eq Array.length_toList)]
      rfl
    · show ((T.heap.toList.drop T.heap.size).map (·.slots.size)).sum ≤ 0
      rw [List.drop_eq_nil_of_le (Nat.le_of_eq Array.length_toList)]
      exact Nat.le_refl _
/-- 'throw new E()': new; dup; invokespecial; athrow -/
theorem vx_throw0 {cc : ByteArray} {pc : Nat} (hexec : p.tables.exec = Jvm.exec) (hb : c.code = cc) (hl : l.stackTraces = false) {own cls : String} {names : List String} {ik ic mc ms : Nat} {A : Nat → Prop}
    (hown : s.vm.findClass own = some m.cls) (hcls : Bundle.fit cls = true) (hnames : ∀ n ∈ names, Bundle.fit n = true)
    (hk : (Cond.classLink own ik cls).before args s = true) (hini : (Cond.initialized cls).before args s = true) (hat : ∀ w ∈ vx_at0 own ic cls names, w.before args s = true)
    (hgood : ∀ w ∈ Cond.classLink own ik cls :: Cond.initialized cls :: vx_at0 own ic cls names, vx_ot w = true)
    (hU : vx_Zq Bundle.tN "UNASSIGNED_STACK" Bundle.steD A s s.heap) (hN : vx_Zq Bundle.tN "SUPPRESSED_SENTINEL" Bundle.listD A s s.heap) (hS : va_S A s.heap H locs) (hsize : ls.size = c.maxLocals)
    (d0 : decode cc pc = .ok (.new ik, 3)) (d3 : decode cc (pc + 3) = .ok (.dup, 1)) (d4 : decode cc (pc + 4) = .ok (.invokespecial ic, 3)) (d7 : decode cc (pc + 7) = .ok (.athrow, 1))
    (hout : ∀ x ∈ c.exceptionTable.toList, covers x (pc + 7) = false)
    (hRframes : names.length + 3 < R.frames) (hRlocals : (rest.map fun v => v.category).sum + (13 * (names.length + 1) + 42) ≤ R.locals) (hRcells : cells + 1 ≤ R.cells) (hRslots : slots + 6 ≤ R.slots) (hlocks : meth.locks = false)
    (hx : ∀ t : State, s.vm.Alike t.vm → H.size ≤ t.heap.size → (∀ q : Nat, q < H.size → t.heap[q]? = H[q]?) → XC cls s t)
    (hf : ∀ z ∈ locs, free z.base) (hc : cells + 1 ≤ mc) (hs : slots + 6 ≤ ms) :
    W p l e R s m args below meth c H locs cells slots (vx_MQ below Qc XC args s mc ms free) (F0 m pc ls rest) := by
  intro T hT X
  have htr : e.platform.stackTraces = false := (show e.platform.stackTraces = l.stackTraces by rw [X.admits.platform]).trans hl
  have Y := vx_rebase X (R' := { frames := R.frames, locals := R.locals, cells := 1, slots := 6 }) (Nat.le_refl _) (Nat.le_refl _) hRcells hRslots
  obtain ⟨s', hA⟩ : ∃ z, z = (T.setVm s.vm).setFrames (.invoking m args :: below) := ⟨_, rfl⟩
  rw [← hA] at Y
  have hvm : s'.vm = s.vm := by rw [hA]; rfl
  have hhp : s'.heap = H := by rw [hA]; exact hT
  have hW0 : s.WarmedH s'.vm := by rw [hvm]; exact State.WarmedH.refl s
  have hat' : ∀ w ∈ vx_at0 own ic cls names, w.before args s' = true := fun w hw => vx_ot_at hW0 hvm.symm (hgood w (List.mem_cons_of_mem _ (List.mem_cons_of_mem _ hw))) (hat w hw)
  have hk' : (Cond.classLink own ik cls).before args s' = true := vx_ot_at hW0 hvm.symm (hgood _ List.mem_cons_self) hk
  have hini' : (Cond.initialized cls).before args s' = true := vx_ot_at hW0 hvm.symm (hgood _ (List.mem_cons_of_mem _ List.mem_cons_self)) hini
  have hU' : vx_Zq Bundle.tN "UNASSIGNED_STACK" Bundle.steD A s' s'.heap := by rw [hhp]; exact vx_Zq.moved hW0.alike (hU.kept hS.2.1)
  have hN' : vx_Zq Bundle.tN "SUPPRESSED_SENTINEL" Bundle.listD A s' s'.heap := by rw [hhp]; exact vx_Zq.moved hW0.alike (hN.kept hS.2.1)
  have h : ∀ w ∈ Bundle.ownAtoms0 own ic cls names, w.before args s' = true := vx_own hat' (vx_isRefq hU'.1) (vx_isRefq hN'.1) hU'.2.word hN'.2.word
  have hown' : s'.vm.findClass own = some m.cls := by rw [hvm]; exact hown
  have hins : (Cond.instantiable cls 6).before args s' = true := h _ (by simp [Bundle.ownAtoms0])
  obtain ⟨vm₁, cX, kX, hfX, hkX, -, -, X₁, st1⟩ := Y.newCold hexec (own := own) (C := cls) (index := ik) (n := 6) hown' hk' hins hini'
    (g := F0 m pc ls rest) rfl (by rw [hb]; exact d0) (Nat.le_refl _) (Nat.le_refl _)
  generalize hT1 : (T.setVm vm₁).pushCell { cls := cX, slots := kX.instanceTypes.map defaultValue, vm := .none } = T1 at X₁ st1
  have hcat : (Value.ref T.heap.size).category = 1 := rfl
  have hcellA : T1.heap[T.heap.size]? = some (freshCell cX kX) := by rw [← hT1]; exact State.heap_pushCell_size _ _
  have d3' : decode c.code (pc + 3) = .ok (.dup, 1) := by rw [hb]; exact d3
  obtain ⟨U, hsteps, hrun, hend, hW, hsame, ce, hce, hO⟩ := X₁.ctorThrow0 hexec htr (own := own) (cls := cls) (names := names) (ic := ic) hown' hcls hnames h (fun x hx => nomatch hx) hfX hkX hcellA (by rw [hhp, hT]; exact Nat.le_refl _)
    (g := { method := m, pc := pc + 4, locals := ls, stack := .ref T.heap.size :: .ref T.heap.size :: rest, locked := none }) rfl hsize rfl rfl (rest := rest) rfl
    (by rw [hb]; exact d4) (by rw [hb]; exact d7) hout hRframes (by simp only [List.map_cons, List.sum_cons, hcat]; omega) hlocks
  obtain ⟨f1, f2⟩ := vx_frame hsame
  rw [hhp] at f1 f2
  have hWs : s.WarmedH U.vm := State.WarmedH.trans hW0 hW
  have hcl : s.vm.findClass cls = some ce.cls := by
    have h9 := hO.cls
    rw [hvm] at h9
    exact h9
  have hall : s.sameButNew ({ U with vm := s.vm } : State) locs mc ms := by
    subst hA
    obtain ⟨e1, e2⟩ := hsame
    rw [State.setFrames_setFrames] at e1
    have h2 : (T.setVm s.vm).sameButNew ({ U with vm := s.vm } : State) [] (0 + 1) (0 + 6) := ⟨e1, e2⟩
    have h3 := X.same.trans h2
    rw [List.append_nil] at h3
    exact h3.mono hc hs
  refine ⟨U, ?_, .threw T.heap.size, hrun, hend, Or.inr ⟨T.heap.size, rfl, cls, ce, locs, hx U hWs.alike f1 (fun q hq => f2 q hq (fun z hz => nomatch hz)), hce, hO.vm, hcl, hWs, hall, hf⟩⟩
  refine st1 _ ?_
  show Steps p.tables e below (T1.setTop { method := m, pc := pc + 3, locals := ls, stack := .ref T.heap.size :: rest, locked := none }) _
  jvm_step X₁.here [X₁.here.top, hexec, d3', Value.category]
  exact hsteps
/-- 'throw new E("text")': new; dup; ldc; invokespecial; athrow -/
theorem vx_throwS {cc : ByteArray} {pc : Nat} (hexec : p.tables.exec = Jvm.exec) (hb : c.code = cc) (hl : l.stackTraces = false) {own cls text : String} {names : List String} {ik is ic mc ms sa : Nat} {A : Nat → Prop}
    (hown : s.vm.findClass own = some m.cls) (hcls : Bundle.fit cls = true) (hnames : ∀ n ∈ names, Bundle.fit n = true)
    (hk : (Cond.classLink own ik cls).before args s = true) (hini : (Cond.initialized cls).before args s = true) (hstr : vk_R own is text sa s) (hat : ∀ w ∈ vx_atS own ic cls names, w.before args s = true)
    (hgood : ∀ w ∈ Cond.classLink own ik cls :: Cond.initialized cls :: vx_atS own ic cls names, vx_ot w = true)
    (hU : vx_Zq Bundle.tN "UNASSIGNED_STACK" Bundle.steD A s s.heap) (hN : vx_Zq Bundle.tN "SUPPRESSED_SENTINEL" Bundle.listD A s s.heap) (hS : va_S A s.heap H locs) (hsize : ls.size = c.maxLocals)
    (d0 : decode cc pc = .ok (.new ik, 3)) (d3 : decode cc (pc + 3) = .ok (.dup, 1)) (d4 : decode cc (pc + 4) = .ok (.ldc is, 2)) (d6 : decode cc (pc + 6) = .ok (.invokespecial ic, 3)) (d9 : decode cc (pc + 9) = .ok (.athrow, 1))
    (hout : ∀ x ∈ c.exceptionTable.toList, covers x (pc + 9) = false)
    (hRframes : names.length + 3 < R.frames) (hRlocals : (rest.map fun v => v.category).sum + (13 * (names.length + 1) + 43) ≤ R.locals) (hRcells : cells + 1 ≤ R.cells) (hRslots : slots + 6 ≤ R.slots) (hlocks : meth.locks = false)
    (hx : ∀ t : State, s.vm.Alike t.vm → H.size ≤ t.heap.size → (∀ q : Nat, q < H.size → t.heap[q]? = H[q]?) → XC cls s t)
    (hf : ∀ z ∈ locs, free z.base) (hc : cells + 1 ≤ mc) (hs : slots + 6 ≤ ms) :
    W p l e R s m args below meth c H locs cells slots (vx_MQ below Qc XC args s mc ms free) (F0 m pc ls rest) := by
  intro T hT X
  have htr : e.platform.stackTraces = false := (show e.platform.stackTraces = l.stackTraces by rw [X.admits.platform]).trans hl
  have Y := vx_rebase X (R' := { frames := R.frames, locals := R.locals, cells := 1, slots := 6 }) (Nat.le_refl _) (Nat.le_refl _) hRcells hRslots
  obtain ⟨s', hA⟩ : ∃ z, z = (T.setVm s.vm).setFrames (.invoking m args :: below) := ⟨_, rfl⟩
  rw [← hA] at Y
  have hvm : s'.vm = s.vm := by rw [hA]; rfl
  have hhp : s'.heap = H := by rw [hA]; exact hT
  have hW0 : s.WarmedH s'.vm := by rw [hvm]; exact State.WarmedH.refl s
  have hat' : ∀ w ∈ vx_atS own ic cls names, w.before args s' = true := fun w hw => vx_ot_at hW0 hvm.symm (hgood w (List.mem_cons_of_mem _ (List.mem_cons_of_mem _ hw))) (hat w hw)
  have hk' : (Cond.classLink own ik cls).before args s' = true := vx_ot_at hW0 hvm.symm (hgood _ List.mem_cons_self) hk
  have hini' : (Cond.initialized cls).before args s' = true := vx_ot_at hW0 hvm.symm (hgood _ (List.mem_cons_of_mem _ List.mem_cons_self)) hini
  have hU' : vx_Zq Bundle.tN "UNASSIGNED_STACK" Bundle.steD A s' s'.heap := by rw [hhp]; exact vx_Zq.moved hW0.alike (hU.kept hS.2.1)
  have hN' : vx_Zq Bundle.tN "SUPPRESSED_SENTINEL" Bundle.listD A s' s'.heap := by rw [hhp]; exact vx_Zq.moved hW0.alike (hN.kept hS.2.1)
  have h : ∀ w ∈ Bundle.ownAtoms own ic cls names, w.before args s' = true := vx_own hat' (vx_isRefq hU'.1) (vx_isRefq hN'.1) hU'.2.word hN'.2.word
  have hown' : s'.vm.findClass own = some m.cls := by rw [hvm]; exact hown
  have hins : (Cond.instantiable cls 6).before args s' = true := h _ (by simp [Bundle.ownAtoms])
  obtain ⟨vm₁, cX, kX, hfX, hkX, -, -, X₁, st1⟩ := Y.newCold hexec (own := own) (C := cls) (index := ik) (n := 6) hown' hk' hins hini'
    (g := F0 m pc ls rest) rfl (by rw [hb]; exact d0) (Nat.le_refl _) (Nat.le_refl _)
  generalize hT1 : (T.setVm vm₁).pushCell { cls := cX, slots := kX.instanceTypes.map defaultValue, vm := .none } = T1 at X₁ st1
  have hcat : (Value.ref T.heap.size).category = 1 := rfl
  have hcellA : T1.heap[T.heap.size]? = some (freshCell cX kX) := by rw [← hT1]; exact State.heap_pushCell_size _ _
  have d3' : decode c.code (pc + 3) = .ok (.dup, 1) := by rw [hb]; exact d3
  have d4' : decode c.code (pc + 4) = .ok (.ldc is, 2) := by rw [hb]; exact d4
  have hstr' : vk_R own is text sa s' := vk_R.warm hW0 hstr
  obtain ⟨U, hsteps, hrun, hend, hW, hsame, ce, hce, hO⟩ := X₁.ctorThrowS hexec htr (own := own) (cls := cls) (names := names) (ic := ic) hown' hcls hnames h (fun x hx => nomatch hx) hfX hkX hcellA (by rw [hhp, hT]; exact Nat.le_refl _) (msg := .ref sa) rfl
    (g := { method := m, pc := pc + 6, locals := ls, stack := .ref sa :: .ref T.heap.size :: .ref T.heap.size :: rest, locked := none }) rfl hsize rfl rfl (rest := rest) rfl
    (by rw [hb]; exact d6) (by rw [hb]; exact d9) hout hRframes (by simp only [List.map_cons, List.sum_cons, hcat]; omega) hlocks
  obtain ⟨f1, f2⟩ := vx_frame hsame
  rw [hhp] at f1 f2
  have hWs : s.WarmedH U.vm := State.WarmedH.trans hW0 hW
  have hcl : s.vm.findClass cls = some ce.cls := by
    have h9 := hO.cls
    rw [hvm] at h9
    exact h9
  have hall : s.sameButNew ({ U with vm := s.vm } : State) locs mc ms := by
    subst hA
    obtain ⟨e1, e2⟩ := hsame
    rw [State.setFrames_setFrames] at e1
    have h2 : (T.setVm s.vm).sameButNew ({ U with vm := s.vm } : State) [] (0 + 1) (0 + 6) := ⟨e1, e2⟩
    have h3 := X.same.trans h2
    rw [List.append_nil] at h3
    exact h3.mono hc hs
  refine ⟨U, ?_, .threw T.heap.size, hrun, hend, Or.inr ⟨T.heap.size, rfl, cls, ce, locs, hx U hWs.alike f1 (fun q hq => f2 q hq (fun z hz => nomatch hz)), hce, hO.vm, hcl, hWs, hall, hf⟩⟩
  refine st1 _ ?_
  show Steps p.tables e below (T1.setTop { method := m, pc := pc + 3, locals := ls, stack := .ref T.heap.size :: rest, locked := none }) _
  jvm_step X₁.here [X₁.here.top, hexec, d3', Value.category]
  exact X₁.ldcString hexec (own := own) (text := text) (index := is) (a := sa) hown' hstr'.1 hstr'.2
    (g := { method := m, pc := pc + 4, locals := ls, stack := .ref T.heap.size :: .ref T.heap.size :: rest, locked := none }) rfl d4' _ hsteps
/-- 'throw new E("text")', the text by a wide index -/
theorem vx_throwSW {cc : ByteArray} {pc : Nat} (hexec : p.tables.exec = Jvm.exec) (hb : c.code = cc) (hl : l.stackTraces = false) {own cls text : String} {names : List String} {ik is ic mc ms sa : Nat} {A : Nat → Prop}
    (hown : s.vm.findClass own = some m.cls) (hcls : Bundle.fit cls = true) (hnames : ∀ n ∈ names, Bundle.fit n = true)
    (hk : (Cond.classLink own ik cls).before args s = true) (hini : (Cond.initialized cls).before args s = true) (hstr : vk_R own is text sa s) (hat : ∀ w ∈ vx_atS own ic cls names, w.before args s = true)
    (hgood : ∀ w ∈ Cond.classLink own ik cls :: Cond.initialized cls :: vx_atS own ic cls names, vx_ot w = true)
    (hU : vx_Zq Bundle.tN "UNASSIGNED_STACK" Bundle.steD A s s.heap) (hN : vx_Zq Bundle.tN "SUPPRESSED_SENTINEL" Bundle.listD A s s.heap) (hS : va_S A s.heap H locs) (hsize : ls.size = c.maxLocals)
    (d0 : decode cc pc = .ok (.new ik, 3)) (d3 : decode cc (pc + 3) = .ok (.dup, 1)) (d4 : decode cc (pc + 4) = .ok (.ldc_w is, 3)) (d7 : decode cc (pc + 7) = .ok (.invokespecial ic, 3)) (d10 : decode cc (pc + 10) = .ok (.athrow, 1))
    (hout : ∀ x ∈ c.exceptionTable.toList, covers x (pc + 10) = false)
    (hRframes : names.length + 3 < R.frames) (hRlocals : (rest.map fun v => v.category).sum + (13 * (names.length + 1) + 43) ≤ R.locals) (hRcells : cells + 1 ≤ R.cells) (hRslots : slots + 6 ≤ R.slots) (hlocks : meth.locks = false)
    (hx : ∀ t : State, s.vm.Alike t.vm → H.size ≤ t.heap.size → (∀ q : Nat, q < H.size → t.heap[q]? = H[q]?) → XC cls s t)
    (hf : ∀ z ∈ locs, free z.base) (hc : cells + 1 ≤ mc) (hs : slots + 6 ≤ ms) :
    W p l e R s m args below meth c H locs cells slots (vx_MQ below Qc XC args s mc ms free) (F0 m pc ls rest) := by
  intro T hT X
  have htr : e.platform.stackTraces = false := (show e.platform.stackTraces = l.stackTraces by rw [X.admits.platform]).trans hl
  have Y := vx_rebase X (R' := { frames := R.frames, locals := R.locals, cells := 1, slots := 6 }) (Nat.le_refl _) (Nat.le_refl _) hRcells hRslots
  obtain ⟨s', hA⟩ : ∃ z, z = (T.setVm s.vm).setFrames (.invoking m args :: below) := ⟨_, rfl⟩
  rw [← hA] at Y
  have hvm : s'.vm = s.vm := by rw [hA]; rfl
  have hhp : s'.heap = H := by rw [hA]; exact hT
  have hW0 : s.WarmedH s'.vm := by rw [hvm]; exact State.WarmedH.refl s
  have hat' : ∀ w ∈ vx_atS own ic cls names, w.before args s' = true := fun w hw => vx_ot_at hW0 hvm.symm (hgood w (List.mem_cons_of_mem _ (List.mem_cons_of_mem _ hw))) (hat w hw)
  have hk' : (Cond.classLink own ik cls).before args s' = true := vx_ot_at hW0 hvm.symm (hgood _ List.mem_cons_self) hk
  have hini' : (Cond.initialized cls).before args s' = true := vx_ot_at hW0 hvm.symm (hgood _ (List.mem_cons_of_mem _ List.mem_cons_self)) hini
  have hU' : vx_Zq Bundle.tN "UNASSIGNED_STACK" Bundle.steD A s' s'.heap := by rw [hhp]; exact vx_Zq.moved hW0.alike (hU.kept hS.2.1)
  have hN' : vx_Zq Bundle.tN "SUPPRESSED_SENTINEL" Bundle.listD A s' s'.heap := by rw [hhp]; exact vx_Zq.moved hW0.alike (hN.kept hS.2.1)
  have h : ∀ w ∈ Bundle.ownAtoms own ic cls names, w.before args s' = true := vx_own hat' (vx_isRefq hU'.1) (vx_isRefq hN'.1) hU'.2.word hN'.2.word
  have hown' : s'.vm.findClass own = some m.cls := by rw [hvm]; exact hown
  have hins : (Cond.instantiable cls 6).before args s' = true := h _ (by simp [Bundle.ownAtoms])
  obtain ⟨vm₁, cX, kX, hfX, hkX, -, -, X₁, st1⟩ := Y.newCold hexec (own := own) (C := cls) (index := ik) (n := 6) hown' hk' hins hini'
    (g := F0 m pc ls rest) rfl (by rw [hb]; exact d0) (Nat.le_refl _) (Nat.le_refl _)
  generalize hT1 : (T.setVm vm₁).pushCell { cls := cX, slots := kX.instanceTypes.map defaultValue, vm := .none } = T1 at X₁ st1
  have hcat : (Value.ref T.heap.size).category = 1 := rfl
  have hcellA : T1.heap[T.heap.size]? = some (freshCell cX kX) := by rw [← hT1]; exact State.heap_pushCell_size _ _
  have d3' : decode c.code (pc + 3) = .ok (.dup, 1) := by rw [hb]; exact d3
  have d4' : decode c.code (pc + 4) = .ok (.ldc_w is, 3) := by rw [hb]; exact d4
  have hstr' : vk_R own is text sa s' := vk_R.warm hW0 hstr
  obtain ⟨U, hsteps, hrun, hend, hW, hsame, ce, hce, hO⟩ := X₁.ctorThrowS hexec htr (own := own) (cls := cls) (names := names) (ic := ic) hown' hcls hnames h (fun x hx => nomatch hx) hfX hkX hcellA (by rw [hhp, hT]; exact Nat.le_refl _) (msg := .ref sa) rfl
    (g := { method := m, pc := pc + 7, locals := ls, stack := .ref sa :: .ref T.heap.size :: .ref T.heap.size :: rest, locked := none }) rfl hsize rfl rfl (rest := rest) rfl
    (by rw [hb]; exact d7) (by rw [hb]; exact d10) hout hRframes (by simp only [List.map_cons, List.sum_cons, hcat]; omega) hlocks
  obtain ⟨f1, f2⟩ := vx_frame hsame
  rw [hhp] at f1 f2
  have hWs : s.WarmedH U.vm := State.WarmedH.trans hW0 hW
  have hcl : s.vm.findClass cls = some ce.cls := by
    have h9 := hO.cls
    rw [hvm] at h9
    exact h9
  have hall : s.sameButNew ({ U with vm := s.vm } : State) locs mc ms := by
    subst hA
    obtain ⟨e1, e2⟩ := hsame
    rw [State.setFrames_setFrames] at e1
    have h2 : (T.setVm s.vm).sameButNew ({ U with vm := s.vm } : State) [] (0 + 1) (0 + 6) := ⟨e1, e2⟩
    have h3 := X.same.trans h2
    rw [List.append_nil] at h3
    exact h3.mono hc hs
  refine ⟨U, ?_, .threw T.heap.size, hrun, hend, Or.inr ⟨T.heap.size, rfl, cls, ce, locs, hx U hWs.alike f1 (fun q hq => f2 q hq (fun z hz => nomatch hz)), hce, hO.vm, hcl, hWs, hall, hf⟩⟩
  refine st1 _ ?_
  show Steps p.tables e below (T1.setTop { method := m, pc := pc + 3, locals := ls, stack := .ref T.heap.size :: rest, locked := none }) _
  jvm_step X₁.here [X₁.here.top, hexec, d3', Value.category]
  exact X₁.ldcStringW hexec (own := own) (text := text) (index := is) (a := sa) hown' hstr'.1 hstr'.2
    (g := { method := m, pc := pc + 4, locals := ls, stack := .ref T.heap.size :: .ref T.heap.size :: rest, locked := none }) rfl d4' _ hsteps
end Ends
section Bodies
variable {l : Launch}
theorem vx_ofW {y : MethodName} {ws ws' : List Cond} {rm : Room} {Pc : Array Value → State → Prop} {Qc : Array Value → State → Outcome → State → Prop} {XC : String → State → State → Prop} {mc ms : Nat} {free : Addr → Prop} {cc : ByteArray} {maxL : Nat} {ret : Option FieldType}
    (hy : plainName y.cls = true) (hw : ws = Cond.code y cc maxL ret :: ws')
    (body : ∀ p e s m args below meth c s₁, BodyLoose p l y (headSpec ws rm) cc maxL ret e s m args below meth c s₁ → c.maxLocals = maxL → (∀ x ∈ c.exceptionTable.toList, False) → Pc args s →
      W p l e (headSpec ws rm).room s m args below meth c s.heap [] 0 0 (vx_MQ below Qc XC args s mc ms free) (entryFrame m args maxL)) : vx_Met l y ws rm Pc Qc XC mc ms free := by
  refine MetFree.of_bodyS (code := cc) (maxLocals := maxL) (ret := ret) hy ?_ ?_
  · intro args s m h hn
    obtain ⟨meth, c, h1, h2, h3, h4, h5, h6, -, -⟩ := Cond.code_spec hn (atoms_spec (ws := ws) h _ (by rw [hw]; exact List.mem_cons_self))
    exact ⟨meth, c, h1, h2, h3, h4, h5, h6⟩
  · intro p e s m args below meth c s₁ B hml hP _
    have hh0 : s₁.heap = s.heap := by rw [B.state]; rfl
    have ht : ∀ x ∈ c.exceptionTable.toList, False := by
      obtain ⟨meth9, c9, h1, h2, -, -, -, -, h7, -⟩ := Cond.code_spec B.named (atoms_spec (ws := ws) B.pre _ (by rw [hw]; exact List.mem_cons_self))
      cases Option.some.inj (h1.symm.trans B.method)
      cases Option.some.inj (h2.symm.trans (Stand.of_body B).code)
      intro x hx
      rw [Array.isEmpty_iff.mp h7] at hx
      cases hx
    obtain ⟨t, a1, o, b1, b2, b3⟩ := body p e s m args below meth c s₁ B hml ht hP s₁ hh0 (Stand.of_body B)
    exact ⟨t, o, a1, b1, b2, b3⟩
/-- the table of a body with handlers -/
theorem vx_table {p : Program} {x y : MethodName} {S : Spec} {cc bytes : ByteArray} {maxL maxL' : Nat} {ret ret' : Option FieldType} {e : Env} {s s₁ : State} {m : MethodId} {args : Array Value} {below : List Frame} {meth : Method} {c : Code} {hh : List (Nat × Nat × Nat × Nat)}
    (B : BodyLoose p l y S cc maxL ret e s m args below meth c s₁) (h : (Cond.codeWith y bytes maxL' ret' hh).before args s = true) : c.exceptionTable.toList = tableOf hh := by
  obtain ⟨m9, meth9, c9, hn9, h1, h2, -, -, h6, -⟩ := Cond.codeWith_spec h
  cases Option.some.inj (hn9.symm.trans B.named)
  cases Option.some.inj (h1.symm.trans B.method)
  cases Option.some.inj (h2.symm.trans (Stand.of_body B).code)
  rw [← h6, table_eq]
end Bodies
end VXA
/-! ===== END ===== -/
/-! ===== BEGIN a static call of a method with an exception table ===== -/
section VXS
variable {p : Program} {l : Launch} {e : Env} {R : Room} {s : State} {m : MethodId} {args : Array Value} {below : List Frame} {meth : Method} {c : Code} {T : State} {H : Heap} {locs : List Loc} {cells slots : Nat}
abbrev vx_CSW (R : Room) (s : State) (args : Array Value) (own : String) (index : Nat) (y : MethodName) (bytes : ByteArray) (maxL : Nat) (ret : Option FieldType) (hh : List (Nat × Nat × Nat × Nat)) (ws : List Cond) (rm : Room) (mc ms n : Nat) : Prop :=
  (rm.cells = mc ∧ rm.slots = ms ∧ rm.frames + 1 ≤ R.frames ∧ 8 + (maxL + 11) + rm.locals ≤ R.locals ∧ (∀ w ∈ ws, ∀ (a' : Array Value) (U : State), s.WarmedH U.vm → w.before a' U = true) ∧ Cond.codeWith y bytes maxL ret hh ∈ ws) ∧
  (Cond.codeWith y bytes maxL ret hh).before args s = true ∧ (Cond.initialized y.cls).before args s = true ∧ (y.cls ≠ "java/lang/invoke/MethodHandle" ∧ y.cls ≠ "java/lang/invoke/VarHandle") ∧
  (∀ sig, parseMethodDescriptor y.desc = some sig → n = sig.parameters.length) ∧ (Cond.methodLink own index y).before args s = true ∧ (Cond.static y).before args s = true
theorem vx_cwSW {own : String} {index maxL mc ms : Nat} {y : MethodName} {bytes : ByteArray} {ret : Option FieldType} {hh : List (Nat × Nat × Nat × Nat)} {Ts ws ws' : List Cond} {rm : Room} (n : Nat) (ht : ∀ w ∈ Ts, w.before args s = true) (hT : GoodIn Ts (va_wsS own index y ws)) (hw : ws = Cond.codeWith y bytes maxL ret hh :: ws') (hrc : rm.cells = mc) (hrs : rm.slots = ms)
    (hd : y.cls ≠ "java/lang/invoke/MethodHandle" ∧ y.cls ≠ "java/lang/invoke/VarHandle" ∧ (parseMethodDescriptor y.desc).map (fun d => d.parameters.length) = some n) (hR : rm.frames + 1 ≤ R.frames ∧ 8 + (maxL + 11) + rm.locals ≤ R.locals) :
    vx_CSW R s args own index y bytes maxL ret hh ws rm mc ms n := by
  have ok : ∀ w ∈ va_wsS own index y ws, w.before args s = true := fun w h => ht w (hT w h).1
  have hG : GoodIn Ts ws := fun w h => hT w (by unfold va_wsS; exact List.mem_append_right _ h)
  have hc : Cond.codeWith y bytes maxL ret hh ∈ ws := by rw [hw]; exact List.mem_cons_self
  refine ⟨⟨hrc, hrs, hR.1, hR.2, pay_in ht hG, hc⟩, ht _ (hG _ hc).1, ok _ (by simp [va_wsS]), ⟨hd.1, hd.2.1⟩, fun sig h => ?_, ok _ (by simp [va_wsS]), ok _ (by simp [va_wsS])⟩
  have h2 := hd.2.2
  rw [h] at h2
  exact (Option.some.inj h2).symm
theorem vx_callSW (X : Stand p l e R s m args below meth c T locs cells slots) (hexec : p.tables.exec = Jvm.exec) {own : String} {index : Nat} {y : MethodName} {bytes : ByteArray} {maxL : Nat} {ret : Option FieldType} {hh : List (Nat × Nat × Nat × Nat)}
    (hown : s.vm.findClass own = some m.cls) (hlink : (Cond.methodLink own index y).before args s = true) (hstat : (Cond.static y).before args s = true) (hinit : (Cond.initialized y.cls).before args s = true)
    (hcode : (Cond.codeWith y bytes maxL ret hh).before args s = true) (hy : y.cls ≠ "java/lang/invoke/MethodHandle" ∧ y.cls ≠ "java/lang/invoke/VarHandle")
    {W9 : Nat} {Pre : Pt → Array Value → Prop} {Post : Pt → Array Value → Option Value → Pt → Prop} (hK : Back l R p e below s args y 3 W9 Pre Post)
    {g : JFrame} (hg : g.method = m) (hsize : g.locals.size = c.maxLocals) {argsL rest : List Value} (hlen : ∀ sig, parseMethodDescriptor y.desc = some sig → argsL.length = sig.parameters.length)
    (hstack : g.stack = argsL.reverse ++ rest) (hW : 2 * g.monitorRoom + (rest.map fun v => v.category).sum ≤ W9) (hdg : decode c.code g.pc = .ok (.invokestatic index, 3))
    (hpre : ∀ vm₁, s.WarmedH vm₁ → Pre ⟨T.setVm vm₁, locs, cells, slots⟩ argsL.toArray) :
    ∃ (v : Option Value) (vm₁ : Vm) (B : Pt), s.WarmedH vm₁ ∧ Stand p l e R s m args below meth c B.U B.locs B.cells B.slots ∧ Post ⟨T.setVm vm₁, locs, cells, slots⟩ argsL.toArray v B ∧
      ∀ target, Steps p.tables e below (B.U.setTop { g with pc := g.pc + 3, stack := v.toList ++ rest }) target → Steps p.tables e below (T.setTop g) target := by
  obtain ⟨mk, methM, cM, hnamed, hmethM, -, -, -, -, -, -, hsigM⟩ := Cond.codeWith_spec hcode
  have hstatic : methM.isStatic = true := Cond.static_spec hnamed hmethM hstat
  obtain ⟨kP, hkP, -⟩ := className_of_methodNamed hnamed
  have hinitP : kP.init = .initialized := Cond.initialized_spec (findClass_of_methodNamed hnamed) hkP hinit
  obtain ⟨vm₁, X₁, hstep₁⟩ := X.invokestatic hexec hown hlink hnamed hmethM hstatic hkP hinitP hy (g := g) hg (argsL := argsL) (rest := rest) (hlen _ hsigM) hstack hdg
  obtain ⟨v, B, X', hpost, hsteps⟩ := hK m meth c ⟨T.setVm vm₁, locs, cells, slots⟩ { g with stack := rest } (.invokestatic index) mk argsL.toArray X₁ hg hsize hdg hW (X₁.named hnamed) (hpre vm₁ X₁.warmed)
  exact ⟨v, vm₁, B, X₁.warmed, X', hpost, fun target h => hstep₁ _ fun acts => by rw [doInvoke_state]; exact hsteps.trans h⟩
theorem vx_runSW {y : MethodName} {bytes cc : ByteArray} {maxL nL mc ms n index : Nat} {ret : Option FieldType} {hh : List (Nat × Nat × Nat × Nat)} {ws : List Cond} {rm : Room} {Pc : Array Value → State → Prop} {Qc : Array Value → State → Outcome → State → Prop} {free : Addr → Prop} {Ts : List Cond} {own : String} {As rest : List Value} {g : JFrame}
    (S : CallFix p m c cc nL s args Ts own) (hM : Met l y ws rm Pc Qc mc ms free) (cw : vx_CSW R s args own index y bytes maxL ret hh ws rm mc ms n) (hp : PreS s H Pc As)
    (hg : g.method = m) (hn : As.length = n) (hsize : g.locals.size = nL) (hstack : g.stack = As.reverse ++ rest) (hW : 2 * g.monitorRoom + (rest.map fun v => v.category).sum ≤ 8) (hdg : decode cc g.pc = .ok (.invokestatic index, 3)) (hf : cells + mc ≤ R.cells ∧ slots + ms ≤ R.slots) :
    va_Run p l e R s m args below meth c H locs cells slots mc ms g rest (Qc As.toArray) (free) := by
  obtain ⟨⟨hrc, hrs, hfr, hlo, hws, hcw⟩, hcode, hini, hy, hlen, hl, hstt⟩ := cw
  have hK : Back l R p e below s args y 3 8 (PreOf R mc ms Pc) (PostOf Qc mc ms free) := va_backW (hh := hh) (bytes := bytes) (maxL := maxL) (ret := ret) hM hp.1 hrc hrs hfr hlo hws hcw (fun a' U hW => word_at hW (Or.inl (by first | rfl | simp [Cond.onTables, Cond.keeps, Cond.steady])) hini)
  obtain ⟨hx, hb, hml, ho, -⟩ := S
  intro T hT X
  obtain ⟨v, vm₁, ⟨U', l2, c2, s2⟩, hW₁, X', ⟨g', mk, t, L, e1, e2, hq, h1, hL, h2, h3⟩, st⟩ := vx_callSW X hx (hh := hh) (bytes := bytes) (maxL := maxL) (ret := ret) ho hl hstt hini hcode hy hK hg (hsize.trans hml.symm) (argsL := As) (rest := rest) (fun sig h => hn.trans (hlen sig h)) hstack hW (by rw [hb]; exact hdg)
    (fun vm₁ hW₁ => ⟨hf.1, hf.2, hp.2 (T.setVm vm₁) hT hW₁⟩)
  dsimp only [Pt.U, Pt.locs, Pt.cells, Pt.slots] at X' e1 e2 h1 h2 h3 st
  subst h1; subst h2; subst h3
  exact ⟨v, (T.setVm vm₁).calling g' mk As.toArray, t, U', L, hT, X', hL, e1, e2, hq, st⟩
/-- not caught here, past rows that name other classes: it goes on to the caller -/
theorem vx_outP {p : Program} {l : Launch} {e : Env} {R : Room} {s : State} {m : MethodId} {args : Array Value} {below : List Frame} {meth : Method} {c : Code} {H : Heap} {locs : List Loc} {cells slots : Nat} {free : Addr → Prop} {ls : Array Slot} {rest : List Value} {Qc : Array Value → State → Outcome → State → Prop} {XC : String → State → State → Prop}
    {pc : Nat} {own E : String} {ce : Cell} {q : Addr} {mc ms : Nat} (hown : s.vm.findClass own = some m.cls) (hlocks : meth.locks = false)
    (hpass : ∀ z ∈ c.exceptionTable.toList, covers z pc = false ∨ (z.catchType ≠ 0 ∧ ∃ nm : String, (Cond.classLink own z.catchType nm).before args s = true ∧ va_Nc E nm s)) (hcell : H[q]? = some ce) (hv : ce.vm = .none) (hcl : s.vm.findClass E = some ce.cls)
    (hx : ∀ t : State, t.heap = H → s.vm.Alike t.vm → XC E s t) (hf : ∀ z ∈ locs, free z.base) (hc : cells ≤ mc) (hs : slots ≤ ms) :
    vx_W p l e R s m args below meth c H locs cells slots (vx_MQ below Qc XC args s mc ms free) (F0 m pc ls rest) q := by
  intro T hT X
  have hpl : e.platform.magicAccessors = ({} : Platform).magicAccessors := by rw [X.admits.platform]
  obtain ⟨vm', hW', X', st⟩ := X.outThrough hlocks q (g := F0 m pc ls rest) rfl rfl rfl (cell := ce) (by rw [hT]; exact hcell) (by rw [hv]; rfl)
    (by obtain ⟨k9, h9, -⟩ := Vm.findClass_spec hcl; exact ⟨k9, h9⟩) (fun z hz => by
      rcases hpass z hz with h | ⟨hz0, nm, hl1, hn1⟩
      · exact Or.inl h
      · obtain ⟨c6, hc6, hcl6⟩ := Cond.classLink_spec hown hl1 e.platform hpl
        obtain ⟨a8, b8, h1, h2, h3⟩ := hn1
        cases Option.some.inj (h1.symm.trans hcl)
        cases Option.some.inj (h2.symm.trans hc6)
        exact Or.inr ⟨hz0, _, hcl6, h3⟩)
  obtain ⟨g₀, hfr⟩ := X'.frames_eq
  have hcell9 : ((T.setVm vm').setFrames (.throwing q :: below)).heap[q]? = some ce := by
    show T.heap[q]? = some ce
    rw [hT]; exact hcell
  have hend : Ended ((T.setVm vm').setFrames (.throwing q :: below)) below (.threw q) := State.frames_setFrames _ (State.cur_lt_of_frames hfr)
  refine ⟨(T.setVm vm').setFrames (.throwing q :: below), ?_, .threw q, X'.here.running, hend, Or.inr ⟨q, rfl, E, ce, locs, hx _ hT (X'.ends _).1.alike, hcell9, hv, hcl, (X'.ends _).1, (X'.ends _).2.mono hc hs, hf⟩⟩
  rw [X.pushThrowing_eq]
  exact st
/-- a thing of a world lies in the heap -/
theorem vx_lt {D : va_G} {cl : List vw_C} {ws : va_W} {H1 : Heap} (h : va_P D cl ws H1) {k : Nat} {q : Nat × va_E} (hk : ws[k]? = some q) : q.1 < H1.size := (h k q hk).lt
end VXS
/-! ===== END ===== -/
/-! ===== BEGIN methods with a table of their own: called by a name, returning or throwing ===== -/
section VXH
/-! vx_backW, vx_callVX, vx_callSX, vx_callVW, vx_runVW, vx_runVX, vx_runSX, vx_ofWH follow the same proofs as their sisters above (Free/Laws.lean, Shelf42/LK1.lean); vx_outP calls Shelf42/NT130.lean (outThrough). -/
section
variable {l : Launch} {R : Room} {p : Program} {e : Env} {below : List Frame} {s : State} {sargs : Array Value} {y : MethodName} {len W9 : Nat}
theorem vx_backW {ws : List Cond} {rm : Room} {Pc : Array Value → State → Prop} {Qc : Array Value → State → Outcome → State → Prop} {XC : String → State → State → Prop} {mc ms : Nat} {free : Addr → Prop} {bytes : ByteArray} {maxL : Nat} {ret : Option FieldType} {hh : List (Nat × Nat × Nat × Nat)}
    (hM : vx_Met l y ws rm Pc Qc XC mc ms free) (hblind : FrameBlind Pc) (hrc : rm.cells = mc) (hrs : rm.slots = ms)
    (hframes : rm.frames + 1 ≤ R.frames) (hlocals : W9 + (maxL + 11) + rm.locals ≤ R.locals)
    (hws : ∀ w ∈ ws, ∀ a' U, s.WarmedH U.vm → w.before a' U = true) (hcode : Cond.codeWith y bytes maxL ret hh ∈ ws) (hinit : ∀ a' U, s.WarmedH U.vm → (Cond.initialized y.cls).before a' U = true) :
    vx_Back l R p e below s sargs y len W9 (PreOf R mc ms Pc) (PostOf Qc mc ms free) (vx_Post XC mc ms free) := by
  intro m meth c A g ig mk a X hg hsize hdg hW hn hp
  have h1 : (headSpec ws rm).pre.before a A.U = true := atoms_intro fun w hw => hws w hw _ _ X.warmed
  have h2 : (Cond.codeWith y bytes maxL ret hh).before a A.U = true := hws _ hcode _ _ X.warmed
  have h3 : (Cond.initialized y.cls).before a A.U = true := hinit _ _ X.warmed
  have h4 : A.cells + (headSpec ws rm).room.cells ≤ R.cells := by rw [show (headSpec ws rm).room.cells = mc from hrc]; exact hp.1
  have h5 : A.slots + (headSpec ws rm).room.slots ≤ R.slots := by rw [show (headSpec ws rm).room.slots = ms from hrs]; exact hp.2.1
  have hPc : Pc a (A.U.calling g mk a) := hblind _ _ _ _ hp.2.2
  obtain ⟨U, Ls, c0, s0⟩ := A
  dsimp only [Pt.U, Pt.locs, Pt.cells, Pt.slots] at h1 h2 h3 h4 h5 X hn hPc ⊢
  obtain ⟨m9, methY, cY, hn9, hmY, hcY, -, hlY, -⟩ := Cond.codeWith_spec h2
  cases Option.some.inj (hn9.symm.trans hn)
  obtain ⟨kY, hkY, -⟩ := className_of_methodNamed hn
  have hinitY : kY.init = .initialized := Cond.initialized_spec (findClass_of_methodNamed hn) hkY h3
  have h : At U g.method c below := by rw [hg]; exact X.here
  have hlocals9 : W9 + (maxL + 11) + (headSpec ws rm).room.locals ≤ R.locals := hlocals
  have happ : (headSpec ws rm).appliesLoose y e.platform (U.calling g mk a) = true :=
    Spec.appliesLoose_calling (g := g) h hdg hn hkY hinitY
      (X.room_calling (g := g) (R' := (headSpec ws rm).room) hsize hmY hcY hframes (by rw [hlY]; omega) h4 h5) h1
  obtain ⟨mid, hmid⟩ := h.above
  have hfr : (U.setTop g).frames = (.java g :: mid) ++ below := by rw [State.frames_setTop' g h.top, hmid]; rfl
  obtain ⟨o, s₂, hsteps, -, hend, hq⟩ := Steps.callFree hM p X.admits X.cas X.clock (acts := []) hfr happ hPc trivial
  have hq' : vx_Q Qc XC mc ms free a (U.calling g mk a) o s₂ := hq
  rw [State.frames_setTop' g h.top] at hend
  obtain ⟨g₀, hg0⟩ := Option.isSome_iff_exists.mp h.top
  obtain ⟨r, hr⟩ := State.topJava?_eq_some.mp hg0
  have hr' : (({ U with heap := s₂.heap, slotsUsed := s₂.slotsUsed } : State).setVm s₂.vm).frames = .java g₀ :: r := hr
  rcases hq' with ⟨hqc, L, hfe, hL⟩ | ⟨q, rfl, E, ce, L, hx, hce, hcv, hcl, hW₂, hsm, hL⟩
  · obtain ⟨⟨v, rfl⟩, hW₂, e2, q2, q3, q4, q5, q6⟩ := id hfe
    have e3 : s₂ = ({ (U.calling g mk a).setFrames s₂.frames with heap := s₂.heap, slotsUsed := s₂.slotsUsed } : State).setVm s₂.vm := by
      have : s₂ = ({ s₂ with vm := (U.calling g mk a).vm } : State).setVm s₂.vm := rfl
      rw [e2] at this
      exact this
    obtain ⟨c₂, i₂, len₂, hc₂, hd₂, hf₂⟩ := hend
    have hW' : U.WarmedH s₂.vm := hW₂
    have hcc : c₂ = c := by
      have h1 : s₂.code? g.method = U.code? g.method := by
        rw [State.code?_eq, State.code?_eq, hW'.alike.method?]
      exact Option.some.inj (hc₂.symm.trans (h1.trans h.code))
    subst hcc
    have hlen : len₂ = len := by rw [hdg] at hd₂; cases hd₂; rfl
    subst hlen
    have hs₂ : s₂ = (({ U with heap := s₂.heap, slotsUsed := s₂.slotsUsed } : State).setVm s₂.vm).setTop { g with pc := g.pc + len₂, stack := v.toList ++ g.stack } := by
      refine e3.trans ?_
      rw [hf₂, State.calling_eq h.top, State.setFrames_setFrames, State.setTop_of_frames _ hr', hr]
      rfl
    have hsame : U.sameButNew ({ U with heap := s₂.heap, slotsUsed := s₂.slotsUsed } : State) L mc ms := by
      refine ⟨?_, q2, q3, q4, q5, q6⟩
      obtain ⟨t, ht, -⟩ := State.frames_cons hr
      show ({ U with heap := s₂.heap, slotsUsed := s₂.slotsUsed } : State) = { U.setFrames U.frames with heap := s₂.heap, slotsUsed := s₂.slotsUsed }
      rw [State.setFrames_self ht]
    subst hg
    refine Or.inl ⟨v, ⟨(({ U with heap := s₂.heap, slotsUsed := s₂.slotsUsed } : State).setVm s₂.vm), Ls ++ L, c0 + mc, s0 + ms⟩,
      ⟨X.admits, X.cas, X.clock, X.frames, X.room, X.hears, X.method, X.code, (X.here.setHeapUsed s₂.heap s₂.slotsUsed).setVm hW'.alike, X.tail, State.WarmedH.trans X.warmed hW', X.limits, X.bytes, X.same.trans (hsame.setVm s.vm)⟩,
      ⟨g, mk, s₂, L, rfl, rfl, hqc, rfl, hL, rfl, rfl⟩, ?_⟩
    show Steps p.tables e below _ ((({ U with heap := s₂.heap, slotsUsed := s₂.slotsUsed } : State).setVm s₂.vm).setTop { g with pc := g.pc + len₂, stack := v.toList ++ g.stack })
    rw [← hs₂]
    exact hsteps
  · obtain ⟨e2, q2, q3, q4, q5, q6⟩ := id hsm
    have e3 : s₂ = ({ (U.calling g mk a).setFrames s₂.frames with heap := s₂.heap, slotsUsed := s₂.slotsUsed } : State).setVm s₂.vm := by
      have : s₂ = ({ s₂ with vm := (U.calling g mk a).vm } : State).setVm s₂.vm := rfl
      rw [e2] at this
      exact this
    have hf₂ : s₂.frames = .throwing q :: .java g :: U.frames.tail := hend
    have hW' : U.WarmedH s₂.vm := hW₂
    have hs₂ : s₂ = ((({ U with heap := s₂.heap, slotsUsed := s₂.slotsUsed } : State).setVm s₂.vm).setTop g).pushFrame (.throwing q) := by
      refine e3.trans ?_
      rw [hf₂, State.calling_eq h.top, State.setFrames_setFrames, State.pushFrame, State.frames_setTop _ hr', State.setTop_of_frames _ hr', State.setFrames_setFrames, hr]
      rfl
    have hsame : U.sameButNew ({ U with heap := s₂.heap, slotsUsed := s₂.slotsUsed } : State) L mc ms := by
      refine ⟨?_, q2, q3, q4, q5, q6⟩
      obtain ⟨t, ht, -⟩ := State.frames_cons hr
      show ({ U with heap := s₂.heap, slotsUsed := s₂.slotsUsed } : State) = { U.setFrames U.frames with heap := s₂.heap, slotsUsed := s₂.slotsUsed }
      rw [State.setFrames_self ht]
    subst hg
    refine Or.inr ⟨q, ⟨(({ U with heap := s₂.heap, slotsUsed := s₂.slotsUsed } : State).setVm s₂.vm), Ls ++ L, c0 + mc, s0 + ms⟩,
      ⟨X.admits, X.cas, X.clock, X.frames, X.room, X.hears, X.method, X.code, (X.here.setHeapUsed s₂.heap s₂.slotsUsed).setVm hW'.alike, X.tail, State.WarmedH.trans X.warmed hW', X.limits, X.bytes, X.same.trans (hsame.setVm s.vm)⟩,
      ⟨g, mk, s₂, L, E, ce, rfl, rfl, hx, hce, hcv, hcl, rfl, hL, rfl, rfl⟩, ?_⟩
    show Steps p.tables e below _ (((({ U with heap := s₂.heap, slotsUsed := s₂.slotsUsed } : State).setVm s₂.vm).setTop g).pushFrame (.throwing q))
    rw [← hs₂]
    exact hsteps
end
variable {p : Program} {l : Launch} {e : Env} {R : Room} {s : State} {m : MethodId} {args : Array Value} {below : List Frame} {meth : Method} {c : Code} {T : State} {H : Heap} {locs : List Loc} {cells slots : Nat}
theorem vx_callVX (X : Stand p l e R s m args below meth c T locs cells slots) (hexec : p.tables.exec = Jvm.exec) {own C : String} {index : Nat} {y : MethodName} {bytes : ByteArray} {maxL : Nat} {ret : Option FieldType} {hh : List (Nat × Nat × Nat × Nat)}
    (hown : s.vm.findClass own = some m.cls) (hlink : (Cond.methodLink own index y).before args s = true) (hinst : (Cond.instanceMethod y).before args s = true) (hsel : (Cond.selects C y y).before args s = true)
    (hcode : (Cond.codeWith y bytes maxL ret hh).before args s = true) (hy : y.cls ≠ "java/lang/invoke/MethodHandle" ∧ y.cls ≠ "java/lang/invoke/VarHandle")
    {W9 : Nat} {Pre : Pt → Array Value → Prop} {Post : Pt → Array Value → Option Value → Pt → Prop} {PostX : Pt → Array Value → Addr → Pt → Prop} (hK : vx_Back l R p e below s args y 3 W9 Pre Post PostX)
    {b : Addr} {cellB : Cell} (hcell : T.heap[b]? = some cellB) (hobj : cellB.vm.isStatics = false) (hcls : s.vm.findClass C = some cellB.cls)
    {g : JFrame} (hg : g.method = m) (hsize : g.locals.size = c.maxLocals) {argsL rest : List Value} (hlen : ∀ sig, parseMethodDescriptor y.desc = some sig → argsL.length = sig.parameters.length)
    (hstack : g.stack = argsL.reverse ++ .ref b :: rest) (hW : 2 * g.monitorRoom + (rest.map fun v => v.category).sum ≤ W9) (hdg : decode c.code g.pc = .ok (.invokevirtual index, 3))
    (hpre : ∀ vm₁, s.WarmedH vm₁ → Pre ⟨T.setVm vm₁, locs, cells, slots⟩ (Value.ref b :: argsL).toArray) :
    (∃ (v : Option Value) (vm₁ : Vm) (B : Pt), s.WarmedH vm₁ ∧ Stand p l e R s m args below meth c B.U B.locs B.cells B.slots ∧ Post ⟨T.setVm vm₁, locs, cells, slots⟩ (Value.ref b :: argsL).toArray v B ∧
      ∀ target, Steps p.tables e below (B.U.setTop { g with pc := g.pc + 3, stack := v.toList ++ rest }) target → Steps p.tables e below (T.setTop g) target) ∨
    (∃ (q : Addr) (vm₁ : Vm) (B : Pt), s.WarmedH vm₁ ∧ Stand p l e R s m args below meth c B.U B.locs B.cells B.slots ∧ PostX ⟨T.setVm vm₁, locs, cells, slots⟩ (Value.ref b :: argsL).toArray q B ∧
      Steps p.tables e below (T.setTop g) ((B.U.setTop { g with stack := rest }).pushFrame (.throwing q))) := by
  obtain ⟨mk, methM, hnamed, hmethM, hstM, habM⟩ := Cond.instanceMethod_spec hinst
  obtain ⟨m8, methM', cM, hn8, hmethM', -, -, -, -, -, -, hsigM⟩ := Cond.codeWith_spec hcode
  cases Option.some.inj (hn8.symm.trans hnamed)
  cases hmethM.symm.trans hmethM'
  obtain ⟨c2, r2, m2, q1, q2, q3, q4, kP, hkP, hkPi⟩ := Cond.selects_spec hsel
  cases hcls.symm.trans q1
  cases (State.methodFound?_of_named hnamed hy).symm.trans q2
  cases hnamed.symm.trans q3
  have hselP : selectMethod e.platform s.vm cellB.cls mk = .method mk := by rw [Launch.admits_selectMethod X.admits]; exact q4
  obtain ⟨vm₁, X₁, hstep₁⟩ := X.invokevirtual hexec hown hlink hnamed hmethM hstM hkP hkPi hy (a := b) (cell := cellB) hcell
    (fun z h => by rw [h] at hobj; cases hobj) hselP hmethM habM hkP hkPi (g := g) hg (argsL := argsL) (rest := rest) (hlen _ hsigM) hstack hdg
  rcases hK m meth c ⟨T.setVm vm₁, locs, cells, slots⟩ { g with stack := rest } (.invokevirtual index) mk (Value.ref b :: argsL).toArray X₁ hg hsize hdg hW (X₁.named hnamed) (hpre vm₁ X₁.warmed) with ⟨v, B, X', hpost, hsteps⟩ | ⟨q, B, X', hpost, hsteps⟩
  · exact Or.inl ⟨v, vm₁, B, X₁.warmed, X', hpost, fun target h => hstep₁ _ fun acts => by rw [doInvoke_state]; exact hsteps.trans h⟩
  · exact Or.inr ⟨q, vm₁, B, X₁.warmed, X', hpost, hstep₁ _ fun acts => by rw [doInvoke_state]; exact hsteps⟩
theorem vx_callSX (X : Stand p l e R s m args below meth c T locs cells slots) (hexec : p.tables.exec = Jvm.exec) {own : String} {index : Nat} {y : MethodName} {bytes : ByteArray} {maxL : Nat} {ret : Option FieldType} {hh : List (Nat × Nat × Nat × Nat)}
    (hown : s.vm.findClass own = some m.cls) (hlink : (Cond.methodLink own index y).before args s = true) (hstat : (Cond.static y).before args s = true) (hinit : (Cond.initialized y.cls).before args s = true)
    (hcode : (Cond.codeWith y bytes maxL ret hh).before args s = true) (hy : y.cls ≠ "java/lang/invoke/MethodHandle" ∧ y.cls ≠ "java/lang/invoke/VarHandle")
    {W9 : Nat} {Pre : Pt → Array Value → Prop} {Post : Pt → Array Value → Option Value → Pt → Prop} {PostX : Pt → Array Value → Addr → Pt → Prop} (hK : vx_Back l R p e below s args y 3 W9 Pre Post PostX)
    {g : JFrame} (hg : g.method = m) (hsize : g.locals.size = c.maxLocals) {argsL rest : List Value} (hlen : ∀ sig, parseMethodDescriptor y.desc = some sig → argsL.length = sig.parameters.length)
    (hstack : g.stack = argsL.reverse ++ rest) (hW : 2 * g.monitorRoom + (rest.map fun v => v.category).sum ≤ W9) (hdg : decode c.code g.pc = .ok (.invokestatic index, 3))
    (hpre : ∀ vm₁, s.WarmedH vm₁ → Pre ⟨T.setVm vm₁, locs, cells, slots⟩ argsL.toArray) :
    (∃ (v : Option Value) (vm₁ : Vm) (B : Pt), s.WarmedH vm₁ ∧ Stand p l e R s m args below meth c B.U B.locs B.cells B.slots ∧ Post ⟨T.setVm vm₁, locs, cells, slots⟩ argsL.toArray v B ∧
      ∀ target, Steps p.tables e below (B.U.setTop { g with pc := g.pc + 3, stack := v.toList ++ rest }) target → Steps p.tables e below (T.setTop g) target) ∨
    (∃ (q : Addr) (vm₁ : Vm) (B : Pt), s.WarmedH vm₁ ∧ Stand p l e R s m args below meth c B.U B.locs B.cells B.slots ∧ PostX ⟨T.setVm vm₁, locs, cells, slots⟩ argsL.toArray q B ∧
      Steps p.tables e below (T.setTop g) ((B.U.setTop { g with stack := rest }).pushFrame (.throwing q))) := by
  obtain ⟨mk, methM, cM, hnamed, hmethM, -, -, -, -, -, -, hsigM⟩ := Cond.codeWith_spec hcode
  have hstatic : methM.isStatic = true := Cond.static_spec hnamed hmethM hstat
  obtain ⟨kP, hkP, -⟩ := className_of_methodNamed hnamed
  have hinitP : kP.init = .initialized := Cond.initialized_spec (findClass_of_methodNamed hnamed) hkP hinit
  obtain ⟨vm₁, X₁, hstep₁⟩ := X.invokestatic hexec hown hlink hnamed hmethM hstatic hkP hinitP hy (g := g) hg (argsL := argsL) (rest := rest) (hlen _ hsigM) hstack hdg
  rcases hK m meth c ⟨T.setVm vm₁, locs, cells, slots⟩ { g with stack := rest } (.invokestatic index) mk argsL.toArray X₁ hg hsize hdg hW (X₁.named hnamed) (hpre vm₁ X₁.warmed) with ⟨v, B, X', hpost, hsteps⟩ | ⟨q, B, X', hpost, hsteps⟩
  · exact Or.inl ⟨v, vm₁, B, X₁.warmed, X', hpost, fun target h => hstep₁ _ fun acts => by rw [doInvoke_state]; exact hsteps.trans h⟩
  · exact Or.inr ⟨q, vm₁, B, X₁.warmed, X', hpost, hstep₁ _ fun acts => by rw [doInvoke_state]; exact hsteps⟩
theorem vx_callVW (X : Stand p l e R s m args below meth c T locs cells slots) (hexec : p.tables.exec = Jvm.exec) {own C : String} {index : Nat} {y : MethodName} {bytes : ByteArray} {maxL : Nat} {ret : Option FieldType} {hh : List (Nat × Nat × Nat × Nat)}
    (hown : s.vm.findClass own = some m.cls) (hlink : (Cond.methodLink own index y).before args s = true) (hinst : (Cond.instanceMethod y).before args s = true) (hsel : (Cond.selects C y y).before args s = true)
    (hcode : (Cond.codeWith y bytes maxL ret hh).before args s = true) (hy : y.cls ≠ "java/lang/invoke/MethodHandle" ∧ y.cls ≠ "java/lang/invoke/VarHandle")
    {W9 : Nat} {Pre : Pt → Array Value → Prop} {Post : Pt → Array Value → Option Value → Pt → Prop} (hK : Back l R p e below s args y 3 W9 Pre Post)
    {b : Addr} {cellB : Cell} (hcell : T.heap[b]? = some cellB) (hobj : cellB.vm.isStatics = false) (hcls : s.vm.findClass C = some cellB.cls)
    {g : JFrame} (hg : g.method = m) (hsize : g.locals.size = c.maxLocals) {argsL rest : List Value} (hlen : ∀ sig, parseMethodDescriptor y.desc = some sig → argsL.length = sig.parameters.length)
    (hstack : g.stack = argsL.reverse ++ .ref b :: rest) (hW : 2 * g.monitorRoom + (rest.map fun v => v.category).sum ≤ W9) (hdg : decode c.code g.pc = .ok (.invokevirtual index, 3))
    (hpre : ∀ vm₁, s.WarmedH vm₁ → Pre ⟨T.setVm vm₁, locs, cells, slots⟩ (Value.ref b :: argsL).toArray) :
    ∃ (v : Option Value) (vm₁ : Vm) (B : Pt), s.WarmedH vm₁ ∧ Stand p l e R s m args below meth c B.U B.locs B.cells B.slots ∧ Post ⟨T.setVm vm₁, locs, cells, slots⟩ (Value.ref b :: argsL).toArray v B ∧
      ∀ target, Steps p.tables e below (B.U.setTop { g with pc := g.pc + 3, stack := v.toList ++ rest }) target → Steps p.tables e below (T.setTop g) target := by
  obtain ⟨mk, methM, hnamed, hmethM, hstM, habM⟩ := Cond.instanceMethod_spec hinst
  obtain ⟨m8, methM', cM, hn8, hmethM', -, -, -, -, -, -, hsigM⟩ := Cond.codeWith_spec hcode
  cases Option.some.inj (hn8.symm.trans hnamed)
  cases hmethM.symm.trans hmethM'
  obtain ⟨c2, r2, m2, q1, q2, q3, q4, kP, hkP, hkPi⟩ := Cond.selects_spec hsel
  cases hcls.symm.trans q1
  cases (State.methodFound?_of_named hnamed hy).symm.trans q2
  cases hnamed.symm.trans q3
  have hselP : selectMethod e.platform s.vm cellB.cls mk = .method mk := by rw [Launch.admits_selectMethod X.admits]; exact q4
  obtain ⟨vm₁, X₁, hstep₁⟩ := X.invokevirtual hexec hown hlink hnamed hmethM hstM hkP hkPi hy (a := b) (cell := cellB) hcell
    (fun z h => by rw [h] at hobj; cases hobj) hselP hmethM habM hkP hkPi (g := g) hg (argsL := argsL) (rest := rest) (hlen _ hsigM) hstack hdg
  obtain ⟨v, B, X', hpost, hsteps⟩ := hK m meth c ⟨T.setVm vm₁, locs, cells, slots⟩ { g with stack := rest } (.invokevirtual index) mk (Value.ref b :: argsL).toArray X₁ hg hsize hdg hW (X₁.named hnamed) (hpre vm₁ X₁.warmed)
  exact ⟨v, vm₁, B, X₁.warmed, X', hpost, fun target h => hstep₁ _ fun acts => by rw [doInvoke_state]; exact hsteps.trans h⟩
abbrev vx_CVW (R : Room) (s : State) (args : Array Value) (own C : String) (index : Nat) (y : MethodName) (bytes : ByteArray) (maxL : Nat) (ret : Option FieldType) (hh : List (Nat × Nat × Nat × Nat)) (ws : List Cond) (rm : Room) (mc ms n : Nat) : Prop :=
  (rm.cells = mc ∧ rm.slots = ms ∧ rm.frames + 1 ≤ R.frames ∧ 8 + (maxL + 11) + rm.locals ≤ R.locals ∧ (∀ w ∈ ws, ∀ (a' : Array Value) (U : State), s.WarmedH U.vm → w.before a' U = true) ∧ Cond.codeWith y bytes maxL ret hh ∈ ws) ∧
  (Cond.codeWith y bytes maxL ret hh).before args s = true ∧ (Cond.initialized y.cls).before args s = true ∧ (y.cls ≠ "java/lang/invoke/MethodHandle" ∧ y.cls ≠ "java/lang/invoke/VarHandle") ∧
  (∀ sig, parseMethodDescriptor y.desc = some sig → n = sig.parameters.length) ∧ (Cond.methodLink own index y).before args s = true ∧ (Cond.instanceMethod y).before args s = true ∧ (Cond.selects C y y).before args s = true
theorem vx_cwVW {own C : String} {index maxL mc ms : Nat} {y : MethodName} {bytes : ByteArray} {ret : Option FieldType} {hh : List (Nat × Nat × Nat × Nat)} {Ts ws ws' : List Cond} {rm : Room} (n : Nat) (ht : ∀ w ∈ Ts, w.before args s = true) (hT : GoodIn Ts (wsV own index C y ws)) (hw : ws = Cond.codeWith y bytes maxL ret hh :: ws') (hrc : rm.cells = mc) (hrs : rm.slots = ms)
    (hd : y.cls = C ∧ y.cls ≠ "java/lang/invoke/MethodHandle" ∧ y.cls ≠ "java/lang/invoke/VarHandle" ∧ (parseMethodDescriptor y.desc).map (fun d => d.parameters.length) = some n) (hR : rm.frames + 1 ≤ R.frames ∧ 8 + (maxL + 11) + rm.locals ≤ R.locals) :
    vx_CVW R s args own C index y bytes maxL ret hh ws rm mc ms n := by
  obtain ⟨hC, hd⟩ := hd
  subst hC
  have ok : ∀ w ∈ wsV own index y.cls y ws, w.before args s = true := fun w h => ht w (hT w h).1
  have hG : GoodIn Ts ws := fun w h => hT w (by unfold wsV; exact List.mem_append_right _ h)
  have hc : Cond.codeWith y bytes maxL ret hh ∈ ws := by rw [hw]; exact List.mem_cons_self
  refine ⟨⟨hrc, hrs, hR.1, hR.2, pay_in ht hG, hc⟩, ht _ (hG _ hc).1, ok _ (by simp [wsV]), ⟨hd.1, hd.2.1⟩, fun sig h => ?_, ok _ (by simp [wsV]), ok _ (by simp [wsV]), ok _ (by simp [wsV])⟩
  have h2 := hd.2.2
  rw [h] at h2
  exact (Option.some.inj h2).symm
theorem vx_runVW {y : MethodName} {bytes cc : ByteArray} {maxL nL mc ms n index : Nat} {ret : Option FieldType} {hh : List (Nat × Nat × Nat × Nat)} {ws : List Cond} {rm : Room} {Pc : Array Value → State → Prop} {Qc : Array Value → State → Outcome → State → Prop} {free : Addr → Prop} {Ts : List Cond} {own C : String} {b : Addr} {As rest : List Value} {g : JFrame}
    (S : CallFix p m c cc nL s args Ts own) (hM : Met l y ws rm Pc Qc mc ms free) (cw : vx_CVW R s args own C index y bytes maxL ret hh ws rm mc ms n) (hp : PreV s H C b Pc As)
    (hg : g.method = m) (hn : As.length = n) (hsize : g.locals.size = nL) (hstack : g.stack = As.reverse ++ .ref b :: rest) (hW : 2 * g.monitorRoom + (rest.map fun v => v.category).sum ≤ 8) (hdg : decode cc g.pc = .ok (.invokevirtual index, 3)) (hf : cells + mc ≤ R.cells ∧ slots + ms ≤ R.slots) :
    va_Run p l e R s m args below meth c H locs cells slots mc ms g rest (Qc (Value.ref b :: As).toArray) free := by
  obtain ⟨⟨hrc, hrs, hfr, hlo, hws, hcw⟩, hcode, hini, hy, hlen, hl, hin, hse⟩ := cw
  have hK : Back l R p e below s args y 3 8 (PreOf R mc ms Pc) (PostOf Qc mc ms free) := va_backW (hh := hh) (bytes := bytes) (maxL := maxL) (ret := ret) hM hp.1 hrc hrs hfr hlo hws hcw (fun a' U hW => word_at hW (Or.inl (by first | rfl | simp [Cond.onTables, Cond.keeps, Cond.steady])) hini)
  obtain ⟨hx, hb, hml, ho, -⟩ := S
  obtain ⟨-, ⟨cellB, hcB, hoB, hclB⟩, hPc⟩ := hp
  intro T hT X
  obtain ⟨v, vm₁, ⟨U', l2, c2, s2⟩, hW₁, X', ⟨g', mk, t, L, e1, e2, hq, h1, hL, h2, h3⟩, st⟩ := vx_callVW X hx (C := C) (hh := hh) (bytes := bytes) (maxL := maxL) (ret := ret) ho hl hin hse hcode hy hK (by rw [hT]; exact hcB) hoB hclB hg (hsize.trans hml.symm) (argsL := As) (rest := rest) (fun sig h => hn.trans (hlen sig h)) hstack hW (by rw [hb]; exact hdg)
    (fun vm₁ hW₁ => ⟨hf.1, hf.2, hPc (T.setVm vm₁) hT hW₁⟩)
  dsimp only [Pt.U, Pt.locs, Pt.cells, Pt.slots] at X' e1 e2 h1 h2 h3 st
  subst h1; subst h2; subst h3
  exact ⟨v, (T.setVm vm₁).calling g' mk (Value.ref b :: As).toArray, t, U', L, hT, X', hL, e1, e2, hq, st⟩
section
variable {y : MethodName} {bytes cc : ByteArray} {maxL nL mc ms n index : Nat} {ret : Option FieldType} {ws : List Cond} {rm : Room} {Pc : Array Value → State → Prop} {Qc : Array Value → State → Outcome → State → Prop} {XC : String → State → State → Prop} {free : Addr → Prop} {Ts : List Cond} {own C : String} {b : Addr} {As rest : List Value} {g : JFrame}
theorem vx_runVX {hh : List (Nat × Nat × Nat × Nat)} (S : CallFix p m c cc nL s args Ts own) (hM : vx_Met l y ws rm Pc Qc XC mc ms free) (cw : vx_CVW R s args own C index y bytes maxL ret hh ws rm mc ms n) (hp : PreV s H C b Pc As)
    (hg : g.method = m) (hn : As.length = n) (hsize : g.locals.size = nL) (hstack : g.stack = As.reverse ++ .ref b :: rest) (hW : 2 * g.monitorRoom + (rest.map fun v => v.category).sum ≤ 8) (hdg : decode cc g.pc = .ok (.invokevirtual index, 3)) (hf : cells + mc ≤ R.cells ∧ slots + ms ≤ R.slots) :
    vx_Run p l e R s m args below meth c H locs cells slots mc ms g rest (Qc (Value.ref b :: As).toArray) XC free := by
  obtain ⟨⟨hrc, hrs, hfr, hlo, hws, hcw⟩, hcode, hini, hy, hlen, hl, hin, hse⟩ := cw
  have hK : vx_Back l R p e below s args y 3 8 (PreOf R mc ms Pc) (PostOf Qc mc ms free) (vx_Post XC mc ms free) := vx_backW (hh := hh) (bytes := bytes) (maxL := maxL) (ret := ret) hM hp.1 hrc hrs hfr hlo hws hcw (fun a' U hW => word_at hW (Or.inl (by first | rfl | simp [Cond.onTables, Cond.keeps, Cond.steady])) hini)
  obtain ⟨hx, hb, hml, ho, -⟩ := S
  obtain ⟨-, ⟨cellB, hcB, hoB, hclB⟩, hPc⟩ := hp
  intro T hT X
  rcases vx_callVX X hx (C := C) (hh := hh) (bytes := bytes) (maxL := maxL) (ret := ret) ho hl hin hse hcode hy hK (by rw [hT]; exact hcB) hoB hclB hg (hsize.trans hml.symm) (argsL := As) (rest := rest) (fun sig h => hn.trans (hlen sig h)) hstack hW (by rw [hb]; exact hdg)
    (fun vm₁ hW₁ => ⟨hf.1, hf.2, hPc (T.setVm vm₁) hT hW₁⟩) with ⟨v, vm₁, ⟨U', l2, c2, s2⟩, hW₁, X', ⟨g', mk, t, L, e1, e2, hq, h1, hL, h2, h3⟩, st⟩ | ⟨q, vm₁, ⟨U', l2, c2, s2⟩, hW₁, X', ⟨g', mk, t, L, E, ce, e1, e2, hq, hce, hcv, hcl, h1, hL, h2, h3⟩, st⟩
  · dsimp only [Pt.U, Pt.locs, Pt.cells, Pt.slots] at X' e1 e2 h1 h2 h3 st
    subst h1; subst h2; subst h3
    exact Or.inl ⟨v, (T.setVm vm₁).calling g' mk (Value.ref b :: As).toArray, t, U', L, hT, X', hL, e1, e2, hq, st⟩
  · dsimp only [Pt.U, Pt.locs, Pt.cells, Pt.slots] at X' e1 e2 h1 h2 h3 st hcl
    subst h1; subst h2; subst h3
    exact Or.inr ⟨q, (T.setVm vm₁).calling g' mk (Value.ref b :: As).toArray, t, U', L, E, ce, hT, X', hL, e1, e2, hq, hce, hcv, vx_cls hW₁ hcl, st⟩
theorem vx_runSX {hh : List (Nat × Nat × Nat × Nat)} (S : CallFix p m c cc nL s args Ts own) (hM : vx_Met l y ws rm Pc Qc XC mc ms free) (cw : vx_CSW R s args own index y bytes maxL ret hh ws rm mc ms n) (hp : PreS s H Pc As)
    (hg : g.method = m) (hn : As.length = n) (hsize : g.locals.size = nL) (hstack : g.stack = As.reverse ++ rest) (hW : 2 * g.monitorRoom + (rest.map fun v => v.category).sum ≤ 8) (hdg : decode cc g.pc = .ok (.invokestatic index, 3)) (hf : cells + mc ≤ R.cells ∧ slots + ms ≤ R.slots) :
    vx_Run p l e R s m args below meth c H locs cells slots mc ms g rest (Qc As.toArray) XC free := by
  obtain ⟨⟨hrc, hrs, hfr, hlo, hws, hcw⟩, hcode, hini, hy, hlen, hl, hstt⟩ := cw
  have hK : vx_Back l R p e below s args y 3 8 (PreOf R mc ms Pc) (PostOf Qc mc ms free) (vx_Post XC mc ms free) := vx_backW (hh := hh) (bytes := bytes) (maxL := maxL) (ret := ret) hM hp.1 hrc hrs hfr hlo hws hcw (fun a' U hW => word_at hW (Or.inl (by first | rfl | simp [Cond.onTables, Cond.keeps, Cond.steady])) hini)
  obtain ⟨hx, hb, hml, ho, -⟩ := S
  intro T hT X
  rcases vx_callSX X hx (hh := hh) (bytes := bytes) (maxL := maxL) (ret := ret) ho hl hstt hini hcode hy hK hg (hsize.trans hml.symm) (argsL := As) (rest := rest) (fun sig h => hn.trans (hlen sig h)) hstack hW (by rw [hb]; exact hdg)
    (fun vm₁ hW₁ => ⟨hf.1, hf.2, hp.2 (T.setVm vm₁) hT hW₁⟩) with ⟨v, vm₁, ⟨U', l2, c2, s2⟩, hW₁, X', ⟨g', mk, t, L, e1, e2, hq, h1, hL, h2, h3⟩, st⟩ | ⟨q, vm₁, ⟨U', l2, c2, s2⟩, hW₁, X', ⟨g', mk, t, L, E, ce, e1, e2, hq, hce, hcv, hcl, h1, hL, h2, h3⟩, st⟩
  · dsimp only [Pt.U, Pt.locs, Pt.cells, Pt.slots] at X' e1 e2 h1 h2 h3 st
    subst h1; subst h2; subst h3
    exact Or.inl ⟨v, (T.setVm vm₁).calling g' mk As.toArray, t, U', L, hT, X', hL, e1, e2, hq, st⟩
  · dsimp only [Pt.U, Pt.locs, Pt.cells, Pt.slots] at X' e1 e2 h1 h2 h3 st hcl
    subst h1; subst h2; subst h3
    exact Or.inr ⟨q, (T.setVm vm₁).calling g' mk As.toArray, t, U', L, E, ce, hT, X', hL, e1, e2, hq, hce, hcv, vx_cls hW₁ hcl, st⟩
end
end VXH
theorem vx_ofWH {l : Launch} {y : MethodName} {ws ws' : List Cond} {rm : Room} {Pc : Array Value → State → Prop} {Qc : Array Value → State → Outcome → State → Prop} {XC : String → State → State → Prop} {mc ms : Nat} {free : Addr → Prop} {cc : ByteArray} {maxL : Nat} {ret : Option FieldType} {hh : List (Nat × Nat × Nat × Nat)}
    (hy : plainName y.cls = true) (hw : ws = Cond.codeWith y cc maxL ret hh :: ws')
    (body : ∀ p e s m args below meth c s₁, BodyLoose p l y (headSpec ws rm) cc maxL ret e s m args below meth c s₁ → c.maxLocals = maxL → Pc args s →
      W p l e (headSpec ws rm).room s m args below meth c s.heap [] 0 0 (vx_MQ below Qc XC args s mc ms free) (entryFrame m args maxL)) : vx_Met l y ws rm Pc Qc XC mc ms free := by
  refine MetFree.of_bodyS (code := cc) (maxLocals := maxL) (ret := ret) hy ?_ ?_
  · intro args s m h hn
    obtain ⟨m9, meth, c, hn9, h1, h2, h3, h4, -, h5, h6, -⟩ := Cond.codeWith_spec (atoms_spec (ws := ws) h _ (by rw [hw]; exact List.mem_cons_self))
    cases hn.symm.trans hn9
    exact ⟨meth, c, h1, h2, h3, h4, h5, h6⟩
  · intro p e s m args below meth c s₁ B hml hP _
    have hh0 : s₁.heap = s.heap := by rw [B.state]; rfl
    obtain ⟨t, a1, o, b1, b2, b3⟩ := body p e s m args below meth c s₁ B hml hP s₁ hh0 (Stand.of_body B)
    exact ⟨t, o, a1, b1, b2, b3⟩
/-! ===== END ===== -/
end
section
def RX0 : String := "DrumTowns$Land"
def TX0 : u_T := fun k => match k with
  | 0 => ("DrumTowns$Land", "towns", "[LDrumTowns$Town;", true)
  | 1 => ("DrumTowns$Land", "townCount", "I", false)
  | 2 => ("DrumTowns$Land", "settings", "[I", true)
  | 3 => ("DrumTowns$Land", "debts", "[[I", true)
  | 4 => ("DrumTowns$Land", "lent", "I", false)
  | 5 => ("DrumTowns$Land", "repaid", "I", false)
  | 6 => ("DrumTowns$Land", "ringsTaken", "I", false)
  | _ => ("DrumTowns$Land", "settled", "I", false)
def tyX0 : Nat → FieldType := fun k => match k with
  | 0 => .array (.object "DrumTowns$Town")
  | 1 => .int
  | 2 => .array .int
  | 3 => .array (.array .int)
  | 4 => .int
  | 5 => .int
  | 6 => .int
  | _ => .int
abbrev wsX00 : List Cond := u_ws RX0 TX0 8
theorem nmX0 : ∀ a, a < 8 → ∀ b, b < 8 → a ≠ b → (TX0 a).2.1 ≠ (TX0 b).2.1 := by decide +kernel
theorem tyX0_ok : ∀ k, k < 8 → parseFieldDescriptor (TX0 k).2.2.1 = some (tyX0 k) := by decide +kernel
abbrev cX0_init : ByteArray := prog_2_method_1_code
def yX0_init : MethodName := ⟨RX0, "<init>", "()V"⟩
abbrev cX0_takeFrom : ByteArray := prog_2_method_2_code
def yX0_takeFrom : MethodName := ⟨RX0, "takeFrom", "(LDrumTowns$Land;)V"⟩
abbrev cX0_carry : ByteArray := prog_2_method_3_code
def yX0_carry : MethodName := ⟨RX0, "carry", "(III)V"⟩
abbrev cX0_takeRing : ByteArray := prog_2_method_4_code
def yX0_takeRing : MethodName := ⟨RX0, "takeRing", "(LDrumTowns$Ring;)V"⟩
abbrev cX0_owedBy : ByteArray := prog_2_method_5_code
def yX0_owedBy : MethodName := ⟨RX0, "owedBy", "(I)I"⟩
abbrev cX0_owedTo : ByteArray := prog_2_method_6_code
def yX0_owedTo : MethodName := ⟨RX0, "owedTo", "(I)I"⟩
abbrev cX0_allDebts : ByteArray := prog_2_method_7_code
def yX0_allDebts : MethodName := ⟨RX0, "allDebts", "()I"⟩
abbrev cX0_owingPairs : ByteArray := prog_2_method_8_code
def yX0_owingPairs : MethodName := ⟨RX0, "owingPairs", "()I"⟩
abbrev cX0_pinsInBoxes : ByteArray := prog_2_method_9_code
def yX0_pinsInBoxes : MethodName := ⟨RX0, "pinsInBoxes", "()I"⟩
abbrev cX0_pinsInDrums : ByteArray := prog_2_method_10_code
def yX0_pinsInDrums : MethodName := ⟨RX0, "pinsInDrums", "()I"⟩
abbrev cX0_allRightPins : ByteArray := prog_2_method_11_code
def yX0_allRightPins : MethodName := ⟨RX0, "allRightPins", "()I"⟩
def RX1 : String := "DrumTowns$Playing"
def TX1 : u_T := fun k => match k with
  | 0 => ("DrumTowns$Playing", "drum", "[I", true)
  | 1 => ("DrumTowns$Playing", "wear", "[I", true)
  | 2 => ("DrumTowns$Playing", "latest", "[I", true)
  | 3 => ("DrumTowns$Playing", "sounding", "[I", true)
  | 4 => ("DrumTowns$Playing", "rest", "I", false)
  | 5 => ("DrumTowns$Playing", "dullFrom", "I", false)
  | 6 => ("DrumTowns$Playing", "sounds", "I", false)
  | 7 => ("DrumTowns$Playing", "stayed", "I", false)
  | 8 => ("DrumTowns$Playing", "fallen", "I", false)
  | 9 => ("DrumTowns$Playing", "rightSounds", "I", false)
  | _ => ("DrumTowns$Playing", "rightFallen", "I", false)
def tyX1 : Nat → FieldType := fun k => match k with
  | 0 => .array .int
  | 1 => .array .int
  | 2 => .array .int
  | 3 => .array .int
  | 4 => .int
  | 5 => .int
  | 6 => .int
  | 7 => .int
  | 8 => .int
  | 9 => .int
  | _ => .int
abbrev wsX10 : List Cond := u_ws RX1 TX1 11
theorem nmX1 : ∀ a, a < 11 → ∀ b, b < 11 → a ≠ b → (TX1 a).2.1 ≠ (TX1 b).2.1 := by decide +kernel
theorem tyX1_ok : ∀ k, k < 11 → parseFieldDescriptor (TX1 k).2.2.1 = some (tyX1 k) := by decide +kernel
abbrev cX1_init : ByteArray := prog_3_method_1_code
def yX1_init : MethodName := ⟨RX1, "<init>", "()V"⟩
abbrev cX1_begin : ByteArray := prog_3_method_2_code
def yX1_begin : MethodName := ⟨RX1, "begin", "(LDrumTowns$Town;[I)V"⟩
abbrev cX1_goThrough : ByteArray := prog_3_method_3_code
def yX1_goThrough : MethodName := ⟨RX1, "goThrough", "([I)V"⟩
abbrev cX1_passStep : ByteArray := prog_3_method_4_code
def yX1_passStep : MethodName := ⟨RX1, "passStep", "(II)V"⟩
abbrev cX1_forgetSounds : ByteArray := prog_3_method_5_code
def yX1_forgetSounds : MethodName := ⟨RX1, "forgetSounds", "()V"⟩
abbrev cX1_meetPin : ByteArray := prog_3_method_6_code
def yX1_meetPin : MethodName := ⟨RX1, "meetPin", "(IIZ)V"⟩
abbrev cX1_tell : ByteArray := prog_3_method_7_code
def yX1_tell : MethodName := ⟨RX1, "tell", "(I)I"⟩
def RX2 : String := "DrumTowns$Ring"
def TX2 : u_T := fun k => match k with
  | 0 => ("DrumTowns$Ring", "row", "[I", true)
  | 1 => ("DrumTowns$Ring", "length", "I", false)
  | _ => ("DrumTowns$Ring", "least", "I", false)
def tyX2 : Nat → FieldType := fun k => match k with
  | 0 => .array .int
  | 1 => .int
  | _ => .int
abbrev wsX20 : List Cond := u_ws RX2 TX2 3
theorem nmX2 : ∀ a, a < 3 → ∀ b, b < 3 → a ≠ b → (TX2 a).2.1 ≠ (TX2 b).2.1 := by decide +kernel
theorem tyX2_ok : ∀ k, k < 3 → parseFieldDescriptor (TX2 k).2.2.1 = some (tyX2 k) := by decide +kernel
abbrev cX2_init : ByteArray := prog_4_method_1_code
def yX2_init : MethodName := ⟨RX2, "<init>", "()V"⟩
abbrev cX2_find : ByteArray := prog_4_method_2_code
def yX2_find : MethodName := ⟨RX2, "find", "(LDrumTowns$Land;)V"⟩
abbrev cX2_isClosed : ByteArray := prog_4_method_3_code
def yX2_isClosed : MethodName := ⟨RX2, "isClosed", "(LDrumTowns$Land;[IIII)Z"⟩
abbrev cX2_following : ByteArray := prog_4_method_4_code
def yX2_following : MethodName := ⟨RX2, "following", "(I)I"⟩
abbrev cX2_leastDebt : ByteArray := prog_4_method_5_code
def yX2_leastDebt : MethodName := ⟨RX2, "leastDebt", "([[I)I"⟩
abbrev cX2_tell : ByteArray := prog_4_method_6_code
def yX2_tell : MethodName := ⟨RX2, "tell", "(I)I"⟩
def RX3 : String := "DrumTowns$Town"
def TX3 : u_T := fun k => match k with
  | 0 => ("DrumTowns$Town", "box", "I", false)
  | 1 => ("DrumTowns$Town", "drum", "[I", true)
  | 2 => ("DrumTowns$Town", "tune", "[I", true)
  | 3 => ("DrumTowns$Town", "wear", "[I", true)
  | 4 => ("DrumTowns$Town", "playings", "I", false)
  | 5 => ("DrumTowns$Town", "sounds", "I", false)
  | _ => ("DrumTowns$Town", "fallen", "I", false)
def tyX3 : Nat → FieldType := fun k => match k with
  | 0 => .int
  | 1 => .array .int
  | 2 => .array .int
  | 3 => .array .int
  | 4 => .int
  | 5 => .int
  | _ => .int
abbrev wsX30 : List Cond := u_ws RX3 TX3 7
theorem nmX3 : ∀ a, a < 7 → ∀ b, b < 7 → a ≠ b → (TX3 a).2.1 ≠ (TX3 b).2.1 := by decide +kernel
theorem tyX3_ok : ∀ k, k < 7 → parseFieldDescriptor (TX3 k).2.2.1 = some (tyX3 k) := by decide +kernel
abbrev cX3_init : ByteArray := prog_5_method_1_code
def yX3_init : MethodName := ⟨RX3, "<init>", "()V"⟩
abbrev cX3_hasPin : ByteArray := prog_5_method_2_code
def yX3_hasPin : MethodName := ⟨RX3, "hasPin", "(II)Z"⟩
abbrev cX3_rightPins : ByteArray := prog_5_method_3_code
def yX3_rightPins : MethodName := ⟨RX3, "rightPins", "()I"⟩
abbrev cX3_rightIfTurned : ByteArray := prog_5_method_4_code
def yX3_rightIfTurned : MethodName := ⟨RX3, "rightIfTurned", "(I)I"⟩
abbrev cX3_takeOver : ByteArray := prog_5_method_5_code
def yX3_takeOver : MethodName := ⟨RX3, "takeOver", "(LDrumTowns$Playing;)V"⟩
abbrev cX3_takeFrom : ByteArray := prog_5_method_6_code
def yX3_takeFrom : MethodName := ⟨RX3, "takeFrom", "(LDrumTowns$Town;)V"⟩
def RX4 : String := "DrumTowns$Trades"
def TX4 : u_T := fun k => match k with
  | 0 => ("DrumTowns$Trades", "fit", "[[I", true)
  | 1 => ("DrumTowns$Trades", "rest", "[I", true)
  | 2 => ("DrumTowns$Trades", "drumOf", "[I", true)
  | 3 => ("DrumTowns$Trades", "townCount", "I", false)
  | _ => ("DrumTowns$Trades", "most", "I", false)
def tyX4 : Nat → FieldType := fun k => match k with
  | 0 => .array (.array .int)
  | 1 => .array .int
  | 2 => .array .int
  | 3 => .int
  | _ => .int
abbrev wsX40 : List Cond := u_ws RX4 TX4 5
theorem nmX4 : ∀ a, a < 5 → ∀ b, b < 5 → a ≠ b → (TX4 a).2.1 ≠ (TX4 b).2.1 := by decide +kernel
theorem tyX4_ok : ∀ k, k < 5 → parseFieldDescriptor (TX4 k).2.2.1 = some (tyX4 k) := by decide +kernel
abbrev cX4_init : ByteArray := prog_6_method_1_code
def yX4_init : MethodName := ⟨RX4, "<init>", "()V"⟩
abbrev cX4_find : ByteArray := prog_6_method_2_code
def yX4_find : MethodName := ⟨RX4, "find", "(LDrumTowns$Land;)V"⟩
abbrev cX4_choose : ByteArray := prog_6_method_3_code
def yX4_choose : MethodName := ⟨RX4, "choose", "()V"⟩
abbrev cX4_firstBest : ByteArray := prog_6_method_4_code
def yX4_firstBest : MethodName := ⟨RX4, "firstBest", "(I)I"⟩
abbrev cX4_broughtBy : ByteArray := prog_6_method_5_code
def yX4_broughtBy : MethodName := ⟨RX4, "broughtBy", "(III)I"⟩
abbrev cX4_tell : ByteArray := prog_6_method_6_code
def yX4_tell : MethodName := ⟨RX4, "tell", "(I)I"⟩
def RX5 : String := "DrumTowns$TuneText"
def TX5 : u_T := fun k => match k with
  | 0 => ("DrumTowns$TuneText", "codes", "[I", true)
  | 1 => ("DrumTowns$TuneText", "length", "I", false)
  | 2 => ("DrumTowns$TuneText", "tune", "[I", true)
  | 3 => ("DrumTowns$TuneText", "stepsRead", "I", false)
  | 4 => ("DrumTowns$TuneText", "inBrackets", "Z", false)
  | _ => ("DrumTowns$TuneText", "bracketTeeth", "I", false)
def tyX5 : Nat → FieldType := fun k => match k with
  | 0 => .array .int
  | 1 => .int
  | 2 => .array .int
  | 3 => .int
  | 4 => .boolean
  | _ => .int
abbrev wsX50 : List Cond := u_ws RX5 TX5 6
theorem nmX5 : ∀ a, a < 6 → ∀ b, b < 6 → a ≠ b → (TX5 a).2.1 ≠ (TX5 b).2.1 := by decide +kernel
theorem tyX5_ok : ∀ k, k < 6 → parseFieldDescriptor (TX5 k).2.2.1 = some (tyX5 k) := by decide +kernel
abbrev cX5_init : ByteArray := prog_7_method_1_code
def yX5_init : MethodName := ⟨RX5, "<init>", "()V"⟩
abbrev cX5_readAll : ByteArray := prog_7_method_2_code
def yX5_readAll : MethodName := ⟨RX5, "readAll", "()I"⟩
abbrev cX5_isComplete : ByteArray := prog_7_method_3_code
def yX5_isComplete : MethodName := ⟨RX5, "isComplete", "()Z"⟩
abbrev cX5_readOutside : ByteArray := prog_7_method_4_code
def yX5_readOutside : MethodName := ⟨RX5, "readOutside", "(I)Z"⟩
abbrev cX5_readInside : ByteArray := prog_7_method_5_code
def yX5_readInside : MethodName := ⟨RX5, "readInside", "(I)Z"⟩
abbrev cX5_endStep : ByteArray := prog_7_method_6_code
def yX5_endStep : MethodName := ⟨RX5, "endStep", "(I)V"⟩
abbrev cX5_isTooth : ByteArray := prog_7_method_7_code
def yX5_isTooth : MethodName := ⟨RX5, "isTooth", "(I)Z"⟩
def RX6 : String := "DrumTowns"
def TX6 : u_T := fun k => match k with
  | 0 => ("DrumTowns", "land", "LDrumTowns$Land;", true)
  | 1 => ("DrumTowns", "saved", "[LDrumTowns$Land;", true)
  | 2 => ("DrumTowns", "savedCount", "I", false)
  | 3 => ("DrumTowns", "text", "LDrumTowns$TuneText;", true)
  | 4 => ("DrumTowns", "playing", "LDrumTowns$Playing;", true)
  | 5 => ("DrumTowns", "ring", "LDrumTowns$Ring;", true)
  | 6 => ("DrumTowns", "trades", "LDrumTowns$Trades;", true)
  | _ => ("DrumTowns", "turned", "[I", true)
def tyX6 : Nat → FieldType := fun k => match k with
  | 0 => .object "DrumTowns$Land"
  | 1 => .array (.object "DrumTowns$Land")
  | 2 => .int
  | 3 => .object "DrumTowns$TuneText"
  | 4 => .object "DrumTowns$Playing"
  | 5 => .object "DrumTowns$Ring"
  | 6 => .object "DrumTowns$Trades"
  | _ => .array .int
abbrev wsX60 : List Cond := u_ws RX6 TX6 8
theorem nmX6 : ∀ a, a < 8 → ∀ b, b < 8 → a ≠ b → (TX6 a).2.1 ≠ (TX6 b).2.1 := by decide +kernel
theorem tyX6_ok : ∀ k, k < 8 → parseFieldDescriptor (TX6 k).2.2.1 = some (tyX6 k) := by decide +kernel
abbrev cX6_init : ByteArray := prog_1_method_1_code
def yX6_init : MethodName := ⟨RX6, "<init>", "()V"⟩
abbrev cX6_addTown : ByteArray := prog_1_method_2_code
def yX6_addTown : MethodName := ⟨RX6, "addTown", "(I)I"⟩
abbrev cX6_set : ByteArray := prog_1_method_3_code
def yX6_set : MethodName := ⟨RX6, "set", "(II)I"⟩
abbrev cX6_put : ByteArray := prog_1_method_4_code
def yX6_put : MethodName := ⟨RX6, "put", "(III)I"⟩
abbrev cX6_pull : ByteArray := prog_1_method_5_code
def yX6_pull : MethodName := ⟨RX6, "pull", "(III)I"⟩
abbrev cX6_move : ByteArray := prog_1_method_6_code
def yX6_move : MethodName := ⟨RX6, "move", "(IIII)I"⟩
abbrev cX6_trade : ByteArray := prog_1_method_7_code
def yX6_trade : MethodName := ⟨RX6, "trade", "(II)I"⟩
abbrev cX6_turn : ByteArray := prog_1_method_8_code
def yX6_turn : MethodName := ⟨RX6, "turn", "(II)I"⟩
abbrev cX6_file : ByteArray := prog_1_method_9_code
def yX6_file : MethodName := ⟨RX6, "file", "(II)I"⟩
abbrev cX6_play : ByteArray := prog_1_method_10_code
def yX6_play : MethodName := ⟨RX6, "play", "(I)I"⟩
abbrev cX6_lend : ByteArray := prog_1_method_11_code
def yX6_lend : MethodName := ⟨RX6, "lend", "(III)I"⟩
abbrev cX6_repay : ByteArray := prog_1_method_12_code
def yX6_repay : MethodName := ⟨RX6, "repay", "(III)I"⟩
abbrev cX6_settle : ByteArray := prog_1_method_13_code
def yX6_settle : MethodName := ⟨RX6, "settle", "()I"⟩
abbrev cX6_append : ByteArray := prog_1_method_14_code
def yX6_append : MethodName := ⟨RX6, "append", "(I)I"⟩
abbrev cX6_clearBuffer : ByteArray := prog_1_method_15_code
def yX6_clearBuffer : MethodName := ⟨RX6, "clearBuffer", "()I"⟩
abbrev cX6_firstError : ByteArray := prog_1_method_16_code
def yX6_firstError : MethodName := ⟨RX6, "firstError", "()I"⟩
abbrev cX6_learn : ByteArray := prog_1_method_17_code
def yX6_learn : MethodName := ⟨RX6, "learn", "(I)I"⟩
abbrev cX6_undo : ByteArray := prog_1_method_18_code
def yX6_undo : MethodName := ⟨RX6, "undo", "()I"⟩
abbrev cX6_town : ByteArray := prog_1_method_19_code
def yX6_town : MethodName := ⟨RX6, "town", "(II)I"⟩
abbrev cX6_step : ByteArray := prog_1_method_20_code
def yX6_step : MethodName := ⟨RX6, "step", "(III)I"⟩
abbrev cX6_wear : ByteArray := prog_1_method_21_code
def yX6_wear : MethodName := ⟨RX6, "wear", "(II)I"⟩
abbrev cX6_debt : ByteArray := prog_1_method_22_code
def yX6_debt : MethodName := ⟨RX6, "debt", "(II)I"⟩
abbrev cX6_count : ByteArray := prog_1_method_23_code
def yX6_count : MethodName := ⟨RX6, "count", "(I)I"⟩
abbrev cX6_setting : ByteArray := prog_1_method_24_code
def yX6_setting : MethodName := ⟨RX6, "setting", "(I)I"⟩
abbrev cX6_ifPlayed : ByteArray := prog_1_method_25_code
def yX6_ifPlayed : MethodName := ⟨RX6, "ifPlayed", "(II)I"⟩
abbrev cX6_lastsFor : ByteArray := prog_1_method_26_code
def yX6_lastsFor : MethodName := ⟨RX6, "lastsFor", "(I)I"⟩
abbrev cX6_bestTurn : ByteArray := prog_1_method_27_code
def yX6_bestTurn : MethodName := ⟨RX6, "bestTurn", "(II)I"⟩
abbrev cX6_bestDrum : ByteArray := prog_1_method_28_code
def yX6_bestDrum : MethodName := ⟨RX6, "bestDrum", "(I)I"⟩
abbrev cX6_bestTrades : ByteArray := prog_1_method_29_code
def yX6_bestTrades : MethodName := ⟨RX6, "bestTrades", "(I)I"⟩
abbrev cX6_ring : ByteArray := prog_1_method_30_code
def yX6_ring : MethodName := ⟨RX6, "ring", "(I)I"⟩
abbrev cX6_tuneShare : ByteArray := prog_1_method_31_code
def yX6_tuneShare : MethodName := ⟨RX6, "tuneShare", "()D"⟩
abbrev cX6_digest : ByteArray := prog_1_method_32_code
def yX6_digest : MethodName := ⟨RX6, "digest", "()J"⟩
abbrev cX6_mixed : ByteArray := prog_1_method_33_code
def yX6_mixed : MethodName := ⟨RX6, "mixed", "(JJ)J"⟩
abbrev cX6_mixedWithTown : ByteArray := prog_1_method_34_code
def yX6_mixedWithTown : MethodName := ⟨RX6, "mixedWithTown", "(JI)J"⟩
abbrev cX6_mixedWithRows : ByteArray := prog_1_method_35_code
def yX6_mixedWithRows : MethodName := ⟨RX6, "mixedWithRows", "(JI)J"⟩
abbrev cX6_mixedWithTrades : ByteArray := prog_1_method_36_code
def yX6_mixedWithTrades : MethodName := ⟨RX6, "mixedWithTrades", "(J)J"⟩
abbrev cX6_mixedWithRing : ByteArray := prog_1_method_37_code
def yX6_mixedWithRing : MethodName := ⟨RX6, "mixedWithRing", "(J)J"⟩
abbrev cX6_bitsOf : ByteArray := prog_1_method_38_code
def yX6_bitsOf : MethodName := ⟨RX6, "bitsOf", "(D)J"⟩
abbrev cX6_checkTown : ByteArray := prog_1_method_39_code
def yX6_checkTown : MethodName := ⟨RX6, "checkTown", "(I)V"⟩
abbrev cX6_checkStep : ByteArray := prog_1_method_40_code
def yX6_checkStep : MethodName := ⟨RX6, "checkStep", "(I)V"⟩
abbrev cX6_checkTooth : ByteArray := prog_1_method_41_code
def yX6_checkTooth : MethodName := ⟨RX6, "checkTooth", "(I)V"⟩
abbrev cX6_checkPlace : ByteArray := prog_1_method_42_code
def yX6_checkPlace : MethodName := ⟨RX6, "checkPlace", "(III)V"⟩
abbrev cX6_checkSetting : ByteArray := prog_1_method_43_code
def yX6_checkSetting : MethodName := ⟨RX6, "checkSetting", "(I)V"⟩
abbrev cX6_checkDifferent : ByteArray := prog_1_method_44_code
def yX6_checkDifferent : MethodName := ⟨RX6, "checkDifferent", "(II)V"⟩
abbrev cX6_checkGiven : ByteArray := prog_1_method_45_code
def yX6_checkGiven : MethodName := ⟨RX6, "checkGiven", "(I)V"⟩
abbrev cX6_checkBoxes : ByteArray := prog_1_method_46_code
def yX6_checkBoxes : MethodName := ⟨RX6, "checkBoxes", "(III)V"⟩
abbrev cX6_isPlace : ByteArray := prog_1_method_47_code
def yX6_isPlace : MethodName := ⟨RX6, "isPlace", "(I)Z"⟩
abbrev cX6_saveState : ByteArray := prog_1_method_48_code
def yX6_saveState : MethodName := ⟨RX6, "saveState", "()V"⟩
abbrev cX6_dropOldest : ByteArray := prog_1_method_49_code
def yX6_dropOldest : MethodName := ⟨RX6, "dropOldest", "()V"⟩
abbrev cX6_foresee : ByteArray := prog_1_method_50_code
def yX6_foresee : MethodName := ⟨RX6, "foresee", "(I)V"⟩
abbrev cX6_copyRow : ByteArray := prog_1_method_51_code
def yX6_copyRow : MethodName := ⟨RX6, "copyRow", "([I[I)V"⟩
abbrev cX6_sizeOf : ByteArray := prog_1_method_52_code
def yX6_sizeOf : MethodName := ⟨RX6, "sizeOf", "([I)I"⟩
abbrev cX6_sharedBy : ByteArray := prog_1_method_53_code
def yX6_sharedBy : MethodName := ⟨RX6, "sharedBy", "([I[I)I"⟩
abbrev cX6_dullTeeth : ByteArray := prog_1_method_54_code
def yX6_dullTeeth : MethodName := ⟨RX6, "dullTeeth", "([II)I"⟩
def RX7 : String := "DrumTownsModel"
def TX7 : u_T := fun k => match k with
  | 0 => ("DrumTownsModel", "row", "[I", true)
  | 1 => ("DrumTownsModel", "saved", "I", false)
  | 2 => ("DrumTownsModel", "code", "I", false)
  | 3 => ("DrumTownsModel", "text", "[I", true)
  | 4 => ("DrumTownsModel", "length", "I", false)
  | 5 => ("DrumTownsModel", "latest", "[I", true)
  | 6 => ("DrumTownsModel", "heard", "[I", true)
  | 7 => ("DrumTownsModel", "sounds", "I", false)
  | 8 => ("DrumTownsModel", "rightSounds", "I", false)
  | 9 => ("DrumTownsModel", "stays", "I", false)
  | 10 => ("DrumTownsModel", "falls", "I", false)
  | 11 => ("DrumTownsModel", "rightFalls", "I", false)
  | 12 => ("DrumTownsModel", "ring", "[I", true)
  | 13 => ("DrumTownsModel", "ringMany", "I", false)
  | 14 => ("DrumTownsModel", "read", "[I", true)
  | 15 => ("DrumTownsModel", "steps", "I", false)
  | 16 => ("DrumTownsModel", "open", "Z", false)
  | 17 => ("DrumTownsModel", "letter", "I", false)
  | 18 => ("DrumTownsModel", "letters", "I", false)
  | 19 => ("DrumTownsModel", "rights", "[I", true)
  | 20 => ("DrumTownsModel", "drums", "[I", true)
  | 21 => ("DrumTownsModel", "bestDrums", "[I", true)
  | _ => ("DrumTownsModel", "hash", "J", false)
def tyX7 : Nat → FieldType := fun k => match k with
  | 0 => .array .int
  | 1 => .int
  | 2 => .int
  | 3 => .array .int
  | 4 => .int
  | 5 => .array .int
  | 6 => .array .int
  | 7 => .int
  | 8 => .int
  | 9 => .int
  | 10 => .int
  | 11 => .int
  | 12 => .array .int
  | 13 => .int
  | 14 => .array .int
  | 15 => .int
  | 16 => .boolean
  | 17 => .int
  | 18 => .int
  | 19 => .array .int
  | 20 => .array .int
  | 21 => .array .int
  | _ => .long
abbrev wsX70 : List Cond := u_ws RX7 TX7 23
theorem nmX7 : ∀ a, a < 23 → ∀ b, b < 23 → a ≠ b → (TX7 a).2.1 ≠ (TX7 b).2.1 := by decide +kernel
theorem tyX7_ok : ∀ k, k < 23 → parseFieldDescriptor (TX7 k).2.2.1 = some (tyX7 k) := by decide +kernel
abbrev cX7_init : ByteArray := prog_9_method_1_code
def yX7_init : MethodName := ⟨RX7, "<init>", "()V"⟩
abbrev cX7_thrown : ByteArray := prog_9_method_2_code
def yX7_thrown : MethodName := ⟨RX7, "thrown", "()I"⟩
abbrev cX7_in : ByteArray := prog_9_method_3_code
def yX7_in : MethodName := ⟨RX7, "in", "(III)Z"⟩
abbrev cX7_has : ByteArray := prog_9_method_4_code
def yX7_has : MethodName := ⟨RX7, "has", "(II)Z"⟩
abbrev cX7_bits : ByteArray := prog_9_method_5_code
def yX7_bits : MethodName := ⟨RX7, "bits", "(I)I"⟩
abbrev cX7_isTown : ByteArray := prog_9_method_6_code
def yX7_isTown : MethodName := ⟨RX7, "isTown", "(I)Z"⟩
abbrev cX7_isPlace : ByteArray := prog_9_method_7_code
def yX7_isPlace : MethodName := ⟨RX7, "isPlace", "(III)Z"⟩
abbrev cX7_copy : ByteArray := prog_9_method_8_code
def yX7_copy : MethodName := ⟨RX7, "copy", "(II)V"⟩
abbrev cX7_keep : ByteArray := prog_9_method_9_code
def yX7_keep : MethodName := ⟨RX7, "keep", "()V"⟩
abbrev cX7_undo : ByteArray := prog_9_method_10_code
def yX7_undo : MethodName := ⟨RX7, "undo", "()I"⟩
abbrev cX7_at : ByteArray := prog_9_method_11_code
def yX7_at : MethodName := ⟨RX7, "at", "(III)I"⟩
abbrev cX7_pinsOf : ByteArray := prog_9_method_12_code
def yX7_pinsOf : MethodName := ⟨RX7, "pinsOf", "(II)I"⟩
abbrev cX7_rightOf : ByteArray := prog_9_method_13_code
def yX7_rightOf : MethodName := ⟨RX7, "rightOf", "(III)I"⟩
abbrev cX7_addTown : ByteArray := prog_9_method_14_code
def yX7_addTown : MethodName := ⟨RX7, "addTown", "(I)I"⟩
abbrev cX7_set : ByteArray := prog_9_method_15_code
def yX7_set : MethodName := ⟨RX7, "set", "(II)I"⟩
abbrev cX7_setting : ByteArray := prog_9_method_16_code
def yX7_setting : MethodName := ⟨RX7, "setting", "(I)I"⟩
abbrev cX7_put : ByteArray := prog_9_method_17_code
def yX7_put : MethodName := ⟨RX7, "put", "(III)I"⟩
abbrev cX7_pull : ByteArray := prog_9_method_18_code
def yX7_pull : MethodName := ⟨RX7, "pull", "(III)I"⟩
abbrev cX7_move : ByteArray := prog_9_method_19_code
def yX7_move : MethodName := ⟨RX7, "move", "(IIII)I"⟩
abbrev cX7_trade : ByteArray := prog_9_method_20_code
def yX7_trade : MethodName := ⟨RX7, "trade", "(II)I"⟩
abbrev cX7_turn : ByteArray := prog_9_method_21_code
def yX7_turn : MethodName := ⟨RX7, "turn", "(II)I"⟩
abbrev cX7_file : ByteArray := prog_9_method_22_code
def yX7_file : MethodName := ⟨RX7, "file", "(II)I"⟩
abbrev cX7_wear : ByteArray := prog_9_method_23_code
def yX7_wear : MethodName := ⟨RX7, "wear", "(II)I"⟩
abbrev cX7_goTo : ByteArray := prog_9_method_24_code
def yX7_goTo : MethodName := ⟨RX7, "goTo", "(IIII)V"⟩
abbrev cX7_playIn : ByteArray := prog_9_method_25_code
def yX7_playIn : MethodName := ⟨RX7, "playIn", "(II)V"⟩
abbrev cX7_play : ByteArray := prog_9_method_26_code
def yX7_play : MethodName := ⟨RX7, "play", "(I)I"⟩
abbrev cX7_tryPlaying : ByteArray := prog_9_method_27_code
def yX7_tryPlaying : MethodName := ⟨RX7, "tryPlaying", "(I)V"⟩
abbrev cX7_dullIn : ByteArray := prog_9_method_28_code
def yX7_dullIn : MethodName := ⟨RX7, "dullIn", "(II)I"⟩
abbrev cX7_ifPlayedOf : ByteArray := prog_9_method_29_code
def yX7_ifPlayedOf : MethodName := ⟨RX7, "ifPlayedOf", "(II)I"⟩
abbrev cX7_ifPlayed : ByteArray := prog_9_method_30_code
def yX7_ifPlayed : MethodName := ⟨RX7, "ifPlayed", "(II)I"⟩
abbrev cX7_lastsOf : ByteArray := prog_9_method_31_code
def yX7_lastsOf : MethodName := ⟨RX7, "lastsOf", "(I)I"⟩
abbrev cX7_lastsFor : ByteArray := prog_9_method_32_code
def yX7_lastsFor : MethodName := ⟨RX7, "lastsFor", "(I)I"⟩
abbrev cX7_owes : ByteArray := prog_9_method_33_code
def yX7_owes : MethodName := ⟨RX7, "owes", "(II)I"⟩
abbrev cX7_canGo : ByteArray := prog_9_method_34_code
def yX7_canGo : MethodName := ⟨RX7, "canGo", "(III)Z"⟩
abbrev cX7_go : ByteArray := prog_9_method_35_code
def yX7_go : MethodName := ⟨RX7, "go", "(III)V"⟩
abbrev cX7_lend : ByteArray := prog_9_method_36_code
def yX7_lend : MethodName := ⟨RX7, "lend", "(III)I"⟩
abbrev cX7_repay : ByteArray := prog_9_method_37_code
def yX7_repay : MethodName := ⟨RX7, "repay", "(III)I"⟩
abbrev cX7_debt : ByteArray := prog_9_method_38_code
def yX7_debt : MethodName := ⟨RX7, "debt", "(II)I"⟩
abbrev cX7_isNew : ByteArray := prog_9_method_39_code
def yX7_isNew : MethodName := ⟨RX7, "isNew", "(II)Z"⟩
abbrev cX7_nextAt : ByteArray := prog_9_method_40_code
def yX7_nextAt : MethodName := ⟨RX7, "nextAt", "(I)I"⟩
abbrev cX7_closes : ByteArray := prog_9_method_41_code
def yX7_closes : MethodName := ⟨RX7, "closes", "(I)Z"⟩
abbrev cX7_findsRing : ByteArray := prog_9_method_42_code
def yX7_findsRing : MethodName := ⟨RX7, "findsRing", "()Z"⟩
abbrev cX7_leastOfRing : ByteArray := prog_9_method_43_code
def yX7_leastOfRing : MethodName := ⟨RX7, "leastOfRing", "()I"⟩
abbrev cX7_settle : ByteArray := prog_9_method_44_code
def yX7_settle : MethodName := ⟨RX7, "settle", "()I"⟩
abbrev cX7_ringOf : ByteArray := prog_9_method_45_code
def yX7_ringOf : MethodName := ⟨RX7, "ringOf", "(I)I"⟩
abbrev cX7_ring : ByteArray := prog_9_method_46_code
def yX7_ring : MethodName := ⟨RX7, "ring", "(I)I"⟩
abbrev cX7_append : ByteArray := prog_9_method_47_code
def yX7_append : MethodName := ⟨RX7, "append", "(I)I"⟩
abbrev cX7_clearBuffer : ByteArray := prog_9_method_48_code
def yX7_clearBuffer : MethodName := ⟨RX7, "clearBuffer", "()I"⟩
abbrev cX7_begins : ByteArray := prog_9_method_49_code
def yX7_begins : MethodName := ⟨RX7, "begins", "(I)Z"⟩
abbrev cX7_goesOn : ByteArray := prog_9_method_50_code
def yX7_goesOn : MethodName := ⟨RX7, "goesOn", "(I)Z"⟩
abbrev cX7_errorAt : ByteArray := prog_9_method_51_code
def yX7_errorAt : MethodName := ⟨RX7, "errorAt", "()I"⟩
abbrev cX7_firstError : ByteArray := prog_9_method_52_code
def yX7_firstError : MethodName := ⟨RX7, "firstError", "()I"⟩
abbrev cX7_isTune : ByteArray := prog_9_method_53_code
def yX7_isTune : MethodName := ⟨RX7, "isTune", "()Z"⟩
abbrev cX7_learn : ByteArray := prog_9_method_54_code
def yX7_learn : MethodName := ⟨RX7, "learn", "(I)I"⟩
abbrev cX7_owedIn : ByteArray := prog_9_method_55_code
def yX7_owedIn : MethodName := ⟨RX7, "owedIn", "(IZ)I"⟩
abbrev cX7_townOf : ByteArray := prog_9_method_56_code
def yX7_townOf : MethodName := ⟨RX7, "townOf", "(II)I"⟩
abbrev cX7_town : ByteArray := prog_9_method_57_code
def yX7_town : MethodName := ⟨RX7, "town", "(II)I"⟩
abbrev cX7_stepOf : ByteArray := prog_9_method_58_code
def yX7_stepOf : MethodName := ⟨RX7, "stepOf", "(III)I"⟩
abbrev cX7_step : ByteArray := prog_9_method_59_code
def yX7_step : MethodName := ⟨RX7, "step", "(III)I"⟩
abbrev cX7_sumOf : ByteArray := prog_9_method_60_code
def yX7_sumOf : MethodName := ⟨RX7, "sumOf", "(I)I"⟩
abbrev cX7_owing : ByteArray := prog_9_method_61_code
def yX7_owing : MethodName := ⟨RX7, "owing", "()I"⟩
abbrev cX7_countOf : ByteArray := prog_9_method_62_code
def yX7_countOf : MethodName := ⟨RX7, "countOf", "(I)I"⟩
abbrev cX7_count : ByteArray := prog_9_method_63_code
def yX7_count : MethodName := ⟨RX7, "count", "(I)I"⟩
abbrev cX7_bestTurnOf : ByteArray := prog_9_method_64_code
def yX7_bestTurnOf : MethodName := ⟨RX7, "bestTurnOf", "(II)I"⟩
abbrev cX7_bestTurn : ByteArray := prog_9_method_65_code
def yX7_bestTurn : MethodName := ⟨RX7, "bestTurn", "(II)I"⟩
abbrev cX7_bestDrumOf : ByteArray := prog_9_method_66_code
def yX7_bestDrumOf : MethodName := ⟨RX7, "bestDrumOf", "(I)I"⟩
abbrev cX7_bestDrum : ByteArray := prog_9_method_67_code
def yX7_bestDrum : MethodName := ⟨RX7, "bestDrum", "(I)I"⟩
abbrev cX7_broughtBy : ByteArray := prog_9_method_68_code
def yX7_broughtBy : MethodName := ⟨RX7, "broughtBy", "(I)I"⟩
abbrev cX7_bestTradesOf : ByteArray := prog_9_method_69_code
def yX7_bestTradesOf : MethodName := ⟨RX7, "bestTradesOf", "(I)I"⟩
abbrev cX7_bestTrades : ByteArray := prog_9_method_70_code
def yX7_bestTrades : MethodName := ⟨RX7, "bestTrades", "(I)I"⟩
abbrev cX7_tuneShare : ByteArray := prog_9_method_71_code
def yX7_tuneShare : MethodName := ⟨RX7, "tuneShare", "()D"⟩
abbrev cX7_add : ByteArray := prog_9_method_72_code
def yX7_add : MethodName := ⟨RX7, "add", "(J)V"⟩
abbrev cX7_addTownOf : ByteArray := prog_9_method_73_code
def yX7_addTownOf : MethodName := ⟨RX7, "addTownOf", "(I)V"⟩
abbrev cX7_digest : ByteArray := prog_9_method_74_code
def yX7_digest : MethodName := ⟨RX7, "digest", "()J"⟩
def RJxe99ae : String := "java/lang/Double"
def TJxe99ae : u_T := fun k => match k with
  | _ => ("", "", "", false)
def tyJxe99ae : Nat → FieldType := fun k => match k with
  | _ => .int
abbrev wsJxe99ae0 : List Cond := u_ws RJxe99ae TJxe99ae 0
theorem nmJxe99ae : ∀ a, a < 0 → ∀ b, b < 0 → a ≠ b → (TJxe99ae a).2.1 ≠ (TJxe99ae b).2.1 := by decide +kernel
theorem tyJxe99ae_ok : ∀ k, k < 0 → parseFieldDescriptor (TJxe99ae k).2.2.1 = some (tyJxe99ae k) := by decide +kernel
abbrev cJxe99ae_isNaN_b9ae7 : ByteArray := prog_10_method_6_code
def yJxe99ae_isNaN_b9ae7 : MethodName := ⟨RJxe99ae, "isNaN", "(D)Z"⟩
abbrev cJxe99ae_doubleToLongBits_ccdee : ByteArray := prog_10_method_23_code
def yJxe99ae_doubleToLongBits_ccdee : MethodName := ⟨RJxe99ae, "doubleToLongBits", "(D)J"⟩
def RJ6 : String := "java/lang/Integer"
def TJ6 : u_T := fun k => match k with
  | _ => ("", "", "", false)
def tyJ6 : Nat → FieldType := fun k => match k with
  | _ => .int
abbrev wsJ60 : List Cond := u_ws RJ6 TJ6 0
theorem nmJ6 : ∀ a, a < 0 → ∀ b, b < 0 → a ≠ b → (TJ6 a).2.1 ≠ (TJ6 b).2.1 := by decide +kernel
theorem tyJ6_ok : ∀ k, k < 0 → parseFieldDescriptor (TJ6 k).2.2.1 = some (tyJ6 k) := by decide +kernel
abbrev cJ6_bitCount_0f7a4 : ByteArray := prog_15_method_49_code
def yJ6_bitCount_0f7a4 : MethodName := ⟨RJ6, "bitCount", "(I)I"⟩
def RJ9 : String := "java/lang/Math"
def TJ9 : u_T := fun k => match k with
  | _ => ("", "", "", false)
def tyJ9 : Nat → FieldType := fun k => match k with
  | _ => .int
abbrev wsJ90 : List Cond := u_ws RJ9 TJ9 0
theorem nmJ9 : ∀ a, a < 0 → ∀ b, b < 0 → a ≠ b → (TJ9 a).2.1 ≠ (TJ9 b).2.1 := by decide +kernel
theorem tyJ9_ok : ∀ k, k < 0 → parseFieldDescriptor (TJ9 k).2.2.1 = some (tyJ9 k) := by decide +kernel
abbrev cJ9_min_7cf53 : ByteArray := prog_16_method_69_code
def yJ9_min_7cf53 : MethodName := ⟨RJ9, "min", "(II)I"⟩
def RJ0 : String := "java/lang/String"
def TJ0 : u_T := fun k => match k with
  | _ => ("", "", "", false)
def tyJ0 : Nat → FieldType := fun k => match k with
  | _ => .int
abbrev wsJ00 : List Cond := u_ws RJ0 TJ0 0
theorem nmJ0 : ∀ a, a < 0 → ∀ b, b < 0 → a ≠ b → (TJ0 a).2.1 ≠ (TJ0 b).2.1 := by decide +kernel
theorem tyJ0_ok : ∀ k, k < 0 → parseFieldDescriptor (TJ0 k).2.2.1 = some (tyJ0 k) := by decide +kernel
def RJ10 : String := "java/lang/System"
def TJ10 : u_T := fun k => match k with
  | _ => ("", "", "", false)
def tyJ10 : Nat → FieldType := fun k => match k with
  | _ => .int
abbrev wsJ100 : List Cond := u_ws RJ10 TJ10 0
theorem nmJ10 : ∀ a, a < 0 → ∀ b, b < 0 → a ≠ b → (TJ10 a).2.1 ≠ (TJ10 b).2.1 := by decide +kernel
theorem tyJ10_ok : ∀ k, k < 0 → parseFieldDescriptor (TJ10 k).2.2.1 = some (tyJ10 k) := by decide +kernel
def RL : String := "DrumTownsLaw"
abbrev cL_addTown : ByteArray := method_3_code
def yL_addTown : MethodName := ⟨RL, "addTown", "(LDrumTowns;I[J)I"⟩
abbrev cL_set : ByteArray := method_4_code
def yL_set : MethodName := ⟨RL, "set", "(LDrumTowns;II[J)I"⟩
abbrev cL_put : ByteArray := method_5_code
def yL_put : MethodName := ⟨RL, "put", "(LDrumTowns;III[J)I"⟩
abbrev cL_pull : ByteArray := method_6_code
def yL_pull : MethodName := ⟨RL, "pull", "(LDrumTowns;III[J)I"⟩
abbrev cL_move : ByteArray := method_7_code
def yL_move : MethodName := ⟨RL, "move", "(LDrumTowns;IIII[J)I"⟩
abbrev cL_trade : ByteArray := method_8_code
def yL_trade : MethodName := ⟨RL, "trade", "(LDrumTowns;II[J)I"⟩
abbrev cL_turn : ByteArray := method_9_code
def yL_turn : MethodName := ⟨RL, "turn", "(LDrumTowns;II[J)I"⟩
abbrev cL_file : ByteArray := method_10_code
def yL_file : MethodName := ⟨RL, "file", "(LDrumTowns;II[J)I"⟩
abbrev cL_play : ByteArray := method_11_code
def yL_play : MethodName := ⟨RL, "play", "(LDrumTowns;I[J)I"⟩
abbrev cL_lend : ByteArray := method_12_code
def yL_lend : MethodName := ⟨RL, "lend", "(LDrumTowns;III[J)I"⟩
abbrev cL_repay : ByteArray := method_13_code
def yL_repay : MethodName := ⟨RL, "repay", "(LDrumTowns;III[J)I"⟩
abbrev cL_append : ByteArray := method_14_code
def yL_append : MethodName := ⟨RL, "append", "(LDrumTowns;I[J)I"⟩
abbrev cL_learn : ByteArray := method_15_code
def yL_learn : MethodName := ⟨RL, "learn", "(LDrumTowns;I[J)I"⟩
abbrev cL_undo : ByteArray := method_16_code
def yL_undo : MethodName := ⟨RL, "undo", "(LDrumTowns;[J)I"⟩
abbrev cL_town : ByteArray := method_17_code
def yL_town : MethodName := ⟨RL, "town", "(LDrumTowns;II[J)I"⟩
abbrev cL_step : ByteArray := method_18_code
def yL_step : MethodName := ⟨RL, "step", "(LDrumTowns;III[J)I"⟩
abbrev cL_wear : ByteArray := method_19_code
def yL_wear : MethodName := ⟨RL, "wear", "(LDrumTowns;II[J)I"⟩
abbrev cL_debt : ByteArray := method_20_code
def yL_debt : MethodName := ⟨RL, "debt", "(LDrumTowns;II[J)I"⟩
abbrev cL_count : ByteArray := method_21_code
def yL_count : MethodName := ⟨RL, "count", "(LDrumTowns;I[J)I"⟩
abbrev cL_setting : ByteArray := method_22_code
def yL_setting : MethodName := ⟨RL, "setting", "(LDrumTowns;I[J)I"⟩
abbrev cL_ifPlayed : ByteArray := method_23_code
def yL_ifPlayed : MethodName := ⟨RL, "ifPlayed", "(LDrumTowns;II[J)I"⟩
abbrev cL_lastsFor : ByteArray := method_24_code
def yL_lastsFor : MethodName := ⟨RL, "lastsFor", "(LDrumTowns;I[J)I"⟩
abbrev cL_bestTurn : ByteArray := method_25_code
def yL_bestTurn : MethodName := ⟨RL, "bestTurn", "(LDrumTowns;II[J)I"⟩
abbrev cL_bestDrum : ByteArray := method_26_code
def yL_bestDrum : MethodName := ⟨RL, "bestDrum", "(LDrumTowns;I[J)I"⟩
abbrev cL_bestTrades : ByteArray := method_27_code
def yL_bestTrades : MethodName := ⟨RL, "bestTrades", "(LDrumTowns;I[J)I"⟩
abbrev cL_ring : ByteArray := method_28_code
def yL_ring : MethodName := ⟨RL, "ring", "(LDrumTowns;I[J)I"⟩
abbrev cL_law : ByteArray := code
def yL_law : MethodName := ⟨RL, "law", "([I)Z"⟩
abbrev vwCl : List vw_C := [(RX0, TX0, 8), (RX1, TX1, 11), (RX2, TX2, 3), (RX3, TX3, 7), (RX4, TX4, 5), (RX5, TX5, 6), (RX6, TX6, 8), (RX7, TX7, 23)]
end
section
theorem dX0_init_0 : decode cX0_init 0 = .ok (.aload_n 0, 1) := by decide +kernel
theorem dX0_init_1 : decode cX0_init 1 = .ok (.invokespecial 3, 3) := by decide +kernel
theorem dX0_init_4 : decode cX0_init 4 = .ok (.aload_n 0, 1) := by decide +kernel
theorem dX0_init_5 : decode cX0_init 5 = .ok (.bipush 6, 2) := by decide +kernel
theorem dX0_init_7 : decode cX0_init 7 = .ok (.anewarray 9, 3) := by decide +kernel
theorem dX0_init_10 : decode cX0_init 10 = .ok (.putfield 11, 3) := by decide +kernel
theorem dX0_init_13 : decode cX0_init 13 = .ok (.aload_n 0, 1) := by decide +kernel
theorem dX0_init_14 : decode cX0_init 14 = .ok (.iconst 3, 1) := by decide +kernel
theorem dX0_init_15 : decode cX0_init 15 = .ok (.newarray .int, 2) := by decide +kernel
theorem dX0_init_17 : decode cX0_init 17 = .ok (.putfield 17, 3) := by decide +kernel
theorem dX0_init_20 : decode cX0_init 20 = .ok (.aload_n 0, 1) := by decide +kernel
theorem dX0_init_21 : decode cX0_init 21 = .ok (.bipush 6, 2) := by decide +kernel
theorem dX0_init_23 : decode cX0_init 23 = .ok (.bipush 6, 2) := by decide +kernel
theorem dX0_init_25 : decode cX0_init 25 = .ok (.multianewarray 21 2, 4) := by decide +kernel
theorem dX0_init_29 : decode cX0_init 29 = .ok (.putfield 23, 3) := by decide +kernel
theorem dX0_init_32 : decode cX0_init 32 = .ok (.iconst 0, 1) := by decide +kernel
theorem dX0_init_33 : decode cX0_init 33 = .ok (.istore_n 1, 1) := by decide +kernel
theorem dX0_init_34 : decode cX0_init 34 = .ok (.iload_n 1, 1) := by decide +kernel
theorem dX0_init_35 : decode cX0_init 35 = .ok (.bipush 6, 2) := by decide +kernel
theorem dX0_init_37 : decode cX0_init 37 = .ok (.if_icmp .ge 22, 3) := by decide +kernel
theorem dX0_init_40 : decode cX0_init 40 = .ok (.aload_n 0, 1) := by decide +kernel
theorem dX0_init_41 : decode cX0_init 41 = .ok (.getfield 11, 3) := by decide +kernel
theorem dX0_init_44 : decode cX0_init 44 = .ok (.iload_n 1, 1) := by decide +kernel
theorem dX0_init_45 : decode cX0_init 45 = .ok (.new 9, 3) := by decide +kernel
theorem dX0_init_48 : decode cX0_init 48 = .ok (.dup, 1) := by decide +kernel
theorem dX0_init_49 : decode cX0_init 49 = .ok (.invokespecial 26, 3) := by decide +kernel
theorem dX0_init_52 : decode cX0_init 52 = .ok (.aastore, 1) := by decide +kernel
theorem dX0_init_53 : decode cX0_init 53 = .ok (.iinc 1 1, 3) := by decide +kernel
theorem dX0_init_56 : decode cX0_init 56 = .ok (.goto (-22), 3) := by decide +kernel
theorem dX0_init_59 : decode cX0_init 59 = .ok (.getstatic 27, 3) := by decide +kernel
theorem dX0_init_62 : decode cX0_init 62 = .ok (.aload_n 0, 1) := by decide +kernel
theorem dX0_init_63 : decode cX0_init 63 = .ok (.getfield 17, 3) := by decide +kernel
theorem dX0_init_66 : decode cX0_init 66 = .ok (.invokestatic 30, 3) := by decide +kernel
theorem dX0_init_69 : decode cX0_init 69 = .ok (.return_, 1) := by decide +kernel
theorem dX0_takeFrom_0 : decode cX0_takeFrom 0 = .ok (.iconst 0, 1) := by decide +kernel
theorem dX0_takeFrom_1 : decode cX0_takeFrom 1 = .ok (.istore_n 2, 1) := by decide +kernel
theorem dX0_takeFrom_2 : decode cX0_takeFrom 2 = .ok (.iload_n 2, 1) := by decide +kernel
theorem dX0_takeFrom_3 : decode cX0_takeFrom 3 = .ok (.bipush 6, 2) := by decide +kernel
theorem dX0_takeFrom_5 : decode cX0_takeFrom 5 = .ok (.if_icmp .ge 39, 3) := by decide +kernel
theorem dX0_takeFrom_8 : decode cX0_takeFrom 8 = .ok (.aload_n 0, 1) := by decide +kernel
theorem dX0_takeFrom_9 : decode cX0_takeFrom 9 = .ok (.getfield 11, 3) := by decide +kernel
theorem dX0_takeFrom_12 : decode cX0_takeFrom 12 = .ok (.iload_n 2, 1) := by decide +kernel
theorem dX0_takeFrom_13 : decode cX0_takeFrom 13 = .ok (.aaload, 1) := by decide +kernel
theorem dX0_takeFrom_14 : decode cX0_takeFrom 14 = .ok (.aload_n 1, 1) := by decide +kernel
theorem dX0_takeFrom_15 : decode cX0_takeFrom 15 = .ok (.getfield 11, 3) := by decide +kernel
theorem dX0_takeFrom_18 : decode cX0_takeFrom 18 = .ok (.iload_n 2, 1) := by decide +kernel
theorem dX0_takeFrom_19 : decode cX0_takeFrom 19 = .ok (.aaload, 1) := by decide +kernel
theorem dX0_takeFrom_20 : decode cX0_takeFrom 20 = .ok (.invokevirtual 34, 3) := by decide +kernel
theorem dX0_takeFrom_23 : decode cX0_takeFrom 23 = .ok (.aload_n 1, 1) := by decide +kernel
theorem dX0_takeFrom_24 : decode cX0_takeFrom 24 = .ok (.getfield 23, 3) := by decide +kernel
theorem dX0_takeFrom_27 : decode cX0_takeFrom 27 = .ok (.iload_n 2, 1) := by decide +kernel
theorem dX0_takeFrom_28 : decode cX0_takeFrom 28 = .ok (.aaload, 1) := by decide +kernel
theorem dX0_takeFrom_29 : decode cX0_takeFrom 29 = .ok (.aload_n 0, 1) := by decide +kernel
theorem dX0_takeFrom_30 : decode cX0_takeFrom 30 = .ok (.getfield 23, 3) := by decide +kernel
theorem dX0_takeFrom_33 : decode cX0_takeFrom 33 = .ok (.iload_n 2, 1) := by decide +kernel
theorem dX0_takeFrom_34 : decode cX0_takeFrom 34 = .ok (.aaload, 1) := by decide +kernel
theorem dX0_takeFrom_35 : decode cX0_takeFrom 35 = .ok (.invokestatic 30, 3) := by decide +kernel
theorem dX0_takeFrom_38 : decode cX0_takeFrom 38 = .ok (.iinc 2 1, 3) := by decide +kernel
theorem dX0_takeFrom_41 : decode cX0_takeFrom 41 = .ok (.goto (-39), 3) := by decide +kernel
theorem dX0_takeFrom_44 : decode cX0_takeFrom 44 = .ok (.aload_n 0, 1) := by decide +kernel
theorem dX0_takeFrom_45 : decode cX0_takeFrom 45 = .ok (.aload_n 1, 1) := by decide +kernel
theorem dX0_takeFrom_46 : decode cX0_takeFrom 46 = .ok (.getfield 38, 3) := by decide +kernel
theorem dX0_takeFrom_49 : decode cX0_takeFrom 49 = .ok (.putfield 38, 3) := by decide +kernel
theorem dX0_takeFrom_52 : decode cX0_takeFrom 52 = .ok (.aload_n 1, 1) := by decide +kernel
theorem dX0_takeFrom_53 : decode cX0_takeFrom 53 = .ok (.getfield 17, 3) := by decide +kernel
theorem dX0_takeFrom_56 : decode cX0_takeFrom 56 = .ok (.aload_n 0, 1) := by decide +kernel
theorem dX0_takeFrom_57 : decode cX0_takeFrom 57 = .ok (.getfield 17, 3) := by decide +kernel
theorem dX0_takeFrom_60 : decode cX0_takeFrom 60 = .ok (.invokestatic 30, 3) := by decide +kernel
theorem dX0_takeFrom_63 : decode cX0_takeFrom 63 = .ok (.aload_n 0, 1) := by decide +kernel
theorem dX0_takeFrom_64 : decode cX0_takeFrom 64 = .ok (.aload_n 1, 1) := by decide +kernel
theorem dX0_takeFrom_65 : decode cX0_takeFrom 65 = .ok (.getfield 42, 3) := by decide +kernel
theorem dX0_takeFrom_68 : decode cX0_takeFrom 68 = .ok (.putfield 42, 3) := by decide +kernel
theorem dX0_takeFrom_71 : decode cX0_takeFrom 71 = .ok (.aload_n 0, 1) := by decide +kernel
theorem dX0_takeFrom_72 : decode cX0_takeFrom 72 = .ok (.aload_n 1, 1) := by decide +kernel
theorem dX0_takeFrom_73 : decode cX0_takeFrom 73 = .ok (.getfield 45, 3) := by decide +kernel
theorem dX0_takeFrom_76 : decode cX0_takeFrom 76 = .ok (.putfield 45, 3) := by decide +kernel
theorem dX0_takeFrom_79 : decode cX0_takeFrom 79 = .ok (.aload_n 0, 1) := by decide +kernel
theorem dX0_takeFrom_80 : decode cX0_takeFrom 80 = .ok (.aload_n 1, 1) := by decide +kernel
theorem dX0_takeFrom_81 : decode cX0_takeFrom 81 = .ok (.getfield 48, 3) := by decide +kernel
theorem dX0_takeFrom_84 : decode cX0_takeFrom 84 = .ok (.putfield 48, 3) := by decide +kernel
theorem dX0_takeFrom_87 : decode cX0_takeFrom 87 = .ok (.aload_n 0, 1) := by decide +kernel
theorem dX0_takeFrom_88 : decode cX0_takeFrom 88 = .ok (.aload_n 1, 1) := by decide +kernel
theorem dX0_takeFrom_89 : decode cX0_takeFrom 89 = .ok (.getfield 51, 3) := by decide +kernel
theorem dX0_takeFrom_92 : decode cX0_takeFrom 92 = .ok (.putfield 51, 3) := by decide +kernel
theorem dX0_takeFrom_95 : decode cX0_takeFrom 95 = .ok (.return_, 1) := by decide +kernel
theorem dX0_carry_0 : decode cX0_carry 0 = .ok (.aload_n 0, 1) := by decide +kernel
theorem dX0_carry_1 : decode cX0_carry 1 = .ok (.getfield 11, 3) := by decide +kernel
theorem dX0_carry_4 : decode cX0_carry 4 = .ok (.iload_n 1, 1) := by decide +kernel
theorem dX0_carry_5 : decode cX0_carry 5 = .ok (.aaload, 1) := by decide +kernel
theorem dX0_carry_6 : decode cX0_carry 6 = .ok (.dup, 1) := by decide +kernel
theorem dX0_carry_7 : decode cX0_carry 7 = .ok (.getfield 54, 3) := by decide +kernel
theorem dX0_carry_10 : decode cX0_carry 10 = .ok (.iload_n 3, 1) := by decide +kernel
theorem dX0_carry_11 : decode cX0_carry 11 = .ok (.isub, 1) := by decide +kernel
theorem dX0_carry_12 : decode cX0_carry 12 = .ok (.putfield 54, 3) := by decide +kernel
theorem dX0_carry_15 : decode cX0_carry 15 = .ok (.aload_n 0, 1) := by decide +kernel
theorem dX0_carry_16 : decode cX0_carry 16 = .ok (.getfield 11, 3) := by decide +kernel
theorem dX0_carry_19 : decode cX0_carry 19 = .ok (.iload_n 2, 1) := by decide +kernel
theorem dX0_carry_20 : decode cX0_carry 20 = .ok (.aaload, 1) := by decide +kernel
theorem dX0_carry_21 : decode cX0_carry 21 = .ok (.dup, 1) := by decide +kernel
theorem dX0_carry_22 : decode cX0_carry 22 = .ok (.getfield 54, 3) := by decide +kernel
theorem dX0_carry_25 : decode cX0_carry 25 = .ok (.iload_n 3, 1) := by decide +kernel
theorem dX0_carry_26 : decode cX0_carry 26 = .ok (.iadd, 1) := by decide +kernel
theorem dX0_carry_27 : decode cX0_carry 27 = .ok (.putfield 54, 3) := by decide +kernel
theorem dX0_carry_30 : decode cX0_carry 30 = .ok (.return_, 1) := by decide +kernel
theorem dX0_takeRing_0 : decode cX0_takeRing 0 = .ok (.iconst 0, 1) := by decide +kernel
theorem dX0_takeRing_1 : decode cX0_takeRing 1 = .ok (.istore_n 2, 1) := by decide +kernel
theorem dX0_takeRing_2 : decode cX0_takeRing 2 = .ok (.iload_n 2, 1) := by decide +kernel
theorem dX0_takeRing_3 : decode cX0_takeRing 3 = .ok (.aload_n 1, 1) := by decide +kernel
theorem dX0_takeRing_4 : decode cX0_takeRing 4 = .ok (.getfield 57, 3) := by decide +kernel
theorem dX0_takeRing_7 : decode cX0_takeRing 7 = .ok (.if_icmp .ge 33, 3) := by decide +kernel
theorem dX0_takeRing_10 : decode cX0_takeRing 10 = .ok (.aload_n 0, 1) := by decide +kernel
theorem dX0_takeRing_11 : decode cX0_takeRing 11 = .ok (.getfield 23, 3) := by decide +kernel
theorem dX0_takeRing_14 : decode cX0_takeRing 14 = .ok (.aload_n 1, 1) := by decide +kernel
theorem dX0_takeRing_15 : decode cX0_takeRing 15 = .ok (.getfield 62, 3) := by decide +kernel
theorem dX0_takeRing_18 : decode cX0_takeRing 18 = .ok (.iload_n 2, 1) := by decide +kernel
theorem dX0_takeRing_19 : decode cX0_takeRing 19 = .ok (.iaload, 1) := by decide +kernel
theorem dX0_takeRing_20 : decode cX0_takeRing 20 = .ok (.aaload, 1) := by decide +kernel
theorem dX0_takeRing_21 : decode cX0_takeRing 21 = .ok (.aload_n 1, 1) := by decide +kernel
theorem dX0_takeRing_22 : decode cX0_takeRing 22 = .ok (.iload_n 2, 1) := by decide +kernel
theorem dX0_takeRing_23 : decode cX0_takeRing 23 = .ok (.invokevirtual 65, 3) := by decide +kernel
theorem dX0_takeRing_26 : decode cX0_takeRing 26 = .ok (.dup2, 1) := by decide +kernel
theorem dX0_takeRing_27 : decode cX0_takeRing 27 = .ok (.iaload, 1) := by decide +kernel
theorem dX0_takeRing_28 : decode cX0_takeRing 28 = .ok (.aload_n 1, 1) := by decide +kernel
theorem dX0_takeRing_29 : decode cX0_takeRing 29 = .ok (.getfield 69, 3) := by decide +kernel
theorem dX0_takeRing_32 : decode cX0_takeRing 32 = .ok (.isub, 1) := by decide +kernel
theorem dX0_takeRing_33 : decode cX0_takeRing 33 = .ok (.iastore, 1) := by decide +kernel
theorem dX0_takeRing_34 : decode cX0_takeRing 34 = .ok (.iinc 2 1, 3) := by decide +kernel
theorem dX0_takeRing_37 : decode cX0_takeRing 37 = .ok (.goto (-35), 3) := by decide +kernel
theorem dX0_takeRing_40 : decode cX0_takeRing 40 = .ok (.aload_n 0, 1) := by decide +kernel
theorem dX0_takeRing_41 : decode cX0_takeRing 41 = .ok (.dup, 1) := by decide +kernel
theorem dX0_takeRing_42 : decode cX0_takeRing 42 = .ok (.getfield 48, 3) := by decide +kernel
theorem dX0_takeRing_45 : decode cX0_takeRing 45 = .ok (.iconst 1, 1) := by decide +kernel
theorem dX0_takeRing_46 : decode cX0_takeRing 46 = .ok (.iadd, 1) := by decide +kernel
theorem dX0_takeRing_47 : decode cX0_takeRing 47 = .ok (.putfield 48, 3) := by decide +kernel
theorem dX0_takeRing_50 : decode cX0_takeRing 50 = .ok (.aload_n 0, 1) := by decide +kernel
theorem dX0_takeRing_51 : decode cX0_takeRing 51 = .ok (.dup, 1) := by decide +kernel
theorem dX0_takeRing_52 : decode cX0_takeRing 52 = .ok (.getfield 51, 3) := by decide +kernel
theorem dX0_takeRing_55 : decode cX0_takeRing 55 = .ok (.aload_n 1, 1) := by decide +kernel
theorem dX0_takeRing_56 : decode cX0_takeRing 56 = .ok (.getfield 69, 3) := by decide +kernel
theorem dX0_takeRing_59 : decode cX0_takeRing 59 = .ok (.aload_n 1, 1) := by decide +kernel
theorem dX0_takeRing_60 : decode cX0_takeRing 60 = .ok (.getfield 57, 3) := by decide +kernel
theorem dX0_takeRing_63 : decode cX0_takeRing 63 = .ok (.imul, 1) := by decide +kernel
theorem dX0_takeRing_64 : decode cX0_takeRing 64 = .ok (.iadd, 1) := by decide +kernel
theorem dX0_takeRing_65 : decode cX0_takeRing 65 = .ok (.putfield 51, 3) := by decide +kernel
theorem dX0_takeRing_68 : decode cX0_takeRing 68 = .ok (.return_, 1) := by decide +kernel
theorem dX0_owedBy_0 : decode cX0_owedBy 0 = .ok (.iconst 0, 1) := by decide +kernel
theorem dX0_owedBy_1 : decode cX0_owedBy 1 = .ok (.istore_n 2, 1) := by decide +kernel
theorem dX0_owedBy_2 : decode cX0_owedBy 2 = .ok (.iconst 0, 1) := by decide +kernel
theorem dX0_owedBy_3 : decode cX0_owedBy 3 = .ok (.istore_n 3, 1) := by decide +kernel
theorem dX0_owedBy_4 : decode cX0_owedBy 4 = .ok (.iload_n 3, 1) := by decide +kernel
theorem dX0_owedBy_5 : decode cX0_owedBy 5 = .ok (.aload_n 0, 1) := by decide +kernel
theorem dX0_owedBy_6 : decode cX0_owedBy 6 = .ok (.getfield 38, 3) := by decide +kernel
theorem dX0_owedBy_9 : decode cX0_owedBy 9 = .ok (.if_icmp .ge 20, 3) := by decide +kernel
theorem dX0_owedBy_12 : decode cX0_owedBy 12 = .ok (.iload_n 2, 1) := by decide +kernel
theorem dX0_owedBy_13 : decode cX0_owedBy 13 = .ok (.aload_n 0, 1) := by decide +kernel
theorem dX0_owedBy_14 : decode cX0_owedBy 14 = .ok (.getfield 23, 3) := by decide +kernel
theorem dX0_owedBy_17 : decode cX0_owedBy 17 = .ok (.iload_n 1, 1) := by decide +kernel
theorem dX0_owedBy_18 : decode cX0_owedBy 18 = .ok (.aaload, 1) := by decide +kernel
theorem dX0_owedBy_19 : decode cX0_owedBy 19 = .ok (.iload_n 3, 1) := by decide +kernel
theorem dX0_owedBy_20 : decode cX0_owedBy 20 = .ok (.iaload, 1) := by decide +kernel
theorem dX0_owedBy_21 : decode cX0_owedBy 21 = .ok (.iadd, 1) := by decide +kernel
theorem dX0_owedBy_22 : decode cX0_owedBy 22 = .ok (.istore_n 2, 1) := by decide +kernel
theorem dX0_owedBy_23 : decode cX0_owedBy 23 = .ok (.iinc 3 1, 3) := by decide +kernel
theorem dX0_owedBy_26 : decode cX0_owedBy 26 = .ok (.goto (-22), 3) := by decide +kernel
theorem dX0_owedBy_29 : decode cX0_owedBy 29 = .ok (.iload_n 2, 1) := by decide +kernel
theorem dX0_owedBy_30 : decode cX0_owedBy 30 = .ok (.ireturn, 1) := by decide +kernel
theorem dX0_owedTo_0 : decode cX0_owedTo 0 = .ok (.iconst 0, 1) := by decide +kernel
theorem dX0_owedTo_1 : decode cX0_owedTo 1 = .ok (.istore_n 2, 1) := by decide +kernel
theorem dX0_owedTo_2 : decode cX0_owedTo 2 = .ok (.iconst 0, 1) := by decide +kernel
theorem dX0_owedTo_3 : decode cX0_owedTo 3 = .ok (.istore_n 3, 1) := by decide +kernel
theorem dX0_owedTo_4 : decode cX0_owedTo 4 = .ok (.iload_n 3, 1) := by decide +kernel
theorem dX0_owedTo_5 : decode cX0_owedTo 5 = .ok (.aload_n 0, 1) := by decide +kernel
theorem dX0_owedTo_6 : decode cX0_owedTo 6 = .ok (.getfield 38, 3) := by decide +kernel
theorem dX0_owedTo_9 : decode cX0_owedTo 9 = .ok (.if_icmp .ge 20, 3) := by decide +kernel
theorem dX0_owedTo_12 : decode cX0_owedTo 12 = .ok (.iload_n 2, 1) := by decide +kernel
theorem dX0_owedTo_13 : decode cX0_owedTo 13 = .ok (.aload_n 0, 1) := by decide +kernel
theorem dX0_owedTo_14 : decode cX0_owedTo 14 = .ok (.getfield 23, 3) := by decide +kernel
theorem dX0_owedTo_17 : decode cX0_owedTo 17 = .ok (.iload_n 3, 1) := by decide +kernel
theorem dX0_owedTo_18 : decode cX0_owedTo 18 = .ok (.aaload, 1) := by decide +kernel
theorem dX0_owedTo_19 : decode cX0_owedTo 19 = .ok (.iload_n 1, 1) := by decide +kernel
theorem dX0_owedTo_20 : decode cX0_owedTo 20 = .ok (.iaload, 1) := by decide +kernel
theorem dX0_owedTo_21 : decode cX0_owedTo 21 = .ok (.iadd, 1) := by decide +kernel
theorem dX0_owedTo_22 : decode cX0_owedTo 22 = .ok (.istore_n 2, 1) := by decide +kernel
theorem dX0_owedTo_23 : decode cX0_owedTo 23 = .ok (.iinc 3 1, 3) := by decide +kernel
theorem dX0_owedTo_26 : decode cX0_owedTo 26 = .ok (.goto (-22), 3) := by decide +kernel
theorem dX0_owedTo_29 : decode cX0_owedTo 29 = .ok (.iload_n 2, 1) := by decide +kernel
theorem dX0_owedTo_30 : decode cX0_owedTo 30 = .ok (.ireturn, 1) := by decide +kernel
theorem dX0_allDebts_0 : decode cX0_allDebts 0 = .ok (.iconst 0, 1) := by decide +kernel
theorem dX0_allDebts_1 : decode cX0_allDebts 1 = .ok (.istore_n 1, 1) := by decide +kernel
theorem dX0_allDebts_2 : decode cX0_allDebts 2 = .ok (.iconst 0, 1) := by decide +kernel
theorem dX0_allDebts_3 : decode cX0_allDebts 3 = .ok (.istore_n 2, 1) := by decide +kernel
theorem dX0_allDebts_4 : decode cX0_allDebts 4 = .ok (.iload_n 2, 1) := by decide +kernel
theorem dX0_allDebts_5 : decode cX0_allDebts 5 = .ok (.aload_n 0, 1) := by decide +kernel
theorem dX0_allDebts_6 : decode cX0_allDebts 6 = .ok (.getfield 38, 3) := by decide +kernel
theorem dX0_allDebts_9 : decode cX0_allDebts 9 = .ok (.if_icmp .ge 17, 3) := by decide +kernel
theorem dX0_allDebts_12 : decode cX0_allDebts 12 = .ok (.iload_n 1, 1) := by decide +kernel
theorem dX0_allDebts_13 : decode cX0_allDebts 13 = .ok (.aload_n 0, 1) := by decide +kernel
theorem dX0_allDebts_14 : decode cX0_allDebts 14 = .ok (.iload_n 2, 1) := by decide +kernel
theorem dX0_allDebts_15 : decode cX0_allDebts 15 = .ok (.invokevirtual 72, 3) := by decide +kernel
theorem dX0_allDebts_18 : decode cX0_allDebts 18 = .ok (.iadd, 1) := by decide +kernel
theorem dX0_allDebts_19 : decode cX0_allDebts 19 = .ok (.istore_n 1, 1) := by decide +kernel
theorem dX0_allDebts_20 : decode cX0_allDebts 20 = .ok (.iinc 2 1, 3) := by decide +kernel
theorem dX0_allDebts_23 : decode cX0_allDebts 23 = .ok (.goto (-19), 3) := by decide +kernel
theorem dX0_allDebts_26 : decode cX0_allDebts 26 = .ok (.iload_n 1, 1) := by decide +kernel
theorem dX0_allDebts_27 : decode cX0_allDebts 27 = .ok (.ireturn, 1) := by decide +kernel
theorem dX0_owingPairs_0 : decode cX0_owingPairs 0 = .ok (.iconst 0, 1) := by decide +kernel
theorem dX0_owingPairs_1 : decode cX0_owingPairs 1 = .ok (.istore_n 1, 1) := by decide +kernel
theorem dX0_owingPairs_2 : decode cX0_owingPairs 2 = .ok (.iconst 0, 1) := by decide +kernel
theorem dX0_owingPairs_3 : decode cX0_owingPairs 3 = .ok (.istore_n 2, 1) := by decide +kernel
theorem dX0_owingPairs_4 : decode cX0_owingPairs 4 = .ok (.iload_n 2, 1) := by decide +kernel
theorem dX0_owingPairs_5 : decode cX0_owingPairs 5 = .ok (.aload_n 0, 1) := by decide +kernel
theorem dX0_owingPairs_6 : decode cX0_owingPairs 6 = .ok (.getfield 38, 3) := by decide +kernel
theorem dX0_owingPairs_9 : decode cX0_owingPairs 9 = .ok (.if_icmp .ge 44, 3) := by decide +kernel
theorem dX0_owingPairs_12 : decode cX0_owingPairs 12 = .ok (.iconst 0, 1) := by decide +kernel
theorem dX0_owingPairs_13 : decode cX0_owingPairs 13 = .ok (.istore_n 3, 1) := by decide +kernel
theorem dX0_owingPairs_14 : decode cX0_owingPairs 14 = .ok (.iload_n 3, 1) := by decide +kernel
theorem dX0_owingPairs_15 : decode cX0_owingPairs 15 = .ok (.aload_n 0, 1) := by decide +kernel
theorem dX0_owingPairs_16 : decode cX0_owingPairs 16 = .ok (.getfield 38, 3) := by decide +kernel
theorem dX0_owingPairs_19 : decode cX0_owingPairs 19 = .ok (.if_icmp .ge 28, 3) := by decide +kernel
theorem dX0_owingPairs_22 : decode cX0_owingPairs 22 = .ok (.iload_n 1, 1) := by decide +kernel
theorem dX0_owingPairs_23 : decode cX0_owingPairs 23 = .ok (.aload_n 0, 1) := by decide +kernel
theorem dX0_owingPairs_24 : decode cX0_owingPairs 24 = .ok (.getfield 23, 3) := by decide +kernel
theorem dX0_owingPairs_27 : decode cX0_owingPairs 27 = .ok (.iload_n 2, 1) := by decide +kernel
theorem dX0_owingPairs_28 : decode cX0_owingPairs 28 = .ok (.aaload, 1) := by decide +kernel
theorem dX0_owingPairs_29 : decode cX0_owingPairs 29 = .ok (.iload_n 3, 1) := by decide +kernel
theorem dX0_owingPairs_30 : decode cX0_owingPairs 30 = .ok (.iaload, 1) := by decide +kernel
theorem dX0_owingPairs_31 : decode cX0_owingPairs 31 = .ok (.ifCond .le 7, 3) := by decide +kernel
theorem dX0_owingPairs_34 : decode cX0_owingPairs 34 = .ok (.iconst 1, 1) := by decide +kernel
theorem dX0_owingPairs_35 : decode cX0_owingPairs 35 = .ok (.goto 4, 3) := by decide +kernel
theorem dX0_owingPairs_38 : decode cX0_owingPairs 38 = .ok (.iconst 0, 1) := by decide +kernel
theorem dX0_owingPairs_39 : decode cX0_owingPairs 39 = .ok (.iadd, 1) := by decide +kernel
theorem dX0_owingPairs_40 : decode cX0_owingPairs 40 = .ok (.istore_n 1, 1) := by decide +kernel
theorem dX0_owingPairs_41 : decode cX0_owingPairs 41 = .ok (.iinc 3 1, 3) := by decide +kernel
theorem dX0_owingPairs_44 : decode cX0_owingPairs 44 = .ok (.goto (-30), 3) := by decide +kernel
theorem dX0_owingPairs_47 : decode cX0_owingPairs 47 = .ok (.iinc 2 1, 3) := by decide +kernel
theorem dX0_owingPairs_50 : decode cX0_owingPairs 50 = .ok (.goto (-46), 3) := by decide +kernel
theorem dX0_owingPairs_53 : decode cX0_owingPairs 53 = .ok (.iload_n 1, 1) := by decide +kernel
theorem dX0_owingPairs_54 : decode cX0_owingPairs 54 = .ok (.ireturn, 1) := by decide +kernel
theorem dX0_pinsInBoxes_0 : decode cX0_pinsInBoxes 0 = .ok (.iconst 0, 1) := by decide +kernel
theorem dX0_pinsInBoxes_1 : decode cX0_pinsInBoxes 1 = .ok (.istore_n 1, 1) := by decide +kernel
theorem dX0_pinsInBoxes_2 : decode cX0_pinsInBoxes 2 = .ok (.iconst 0, 1) := by decide +kernel
theorem dX0_pinsInBoxes_3 : decode cX0_pinsInBoxes 3 = .ok (.istore_n 2, 1) := by decide +kernel
theorem dX0_pinsInBoxes_4 : decode cX0_pinsInBoxes 4 = .ok (.iload_n 2, 1) := by decide +kernel
theorem dX0_pinsInBoxes_5 : decode cX0_pinsInBoxes 5 = .ok (.aload_n 0, 1) := by decide +kernel
theorem dX0_pinsInBoxes_6 : decode cX0_pinsInBoxes 6 = .ok (.getfield 38, 3) := by decide +kernel
theorem dX0_pinsInBoxes_9 : decode cX0_pinsInBoxes 9 = .ok (.if_icmp .ge 21, 3) := by decide +kernel
theorem dX0_pinsInBoxes_12 : decode cX0_pinsInBoxes 12 = .ok (.iload_n 1, 1) := by decide +kernel
theorem dX0_pinsInBoxes_13 : decode cX0_pinsInBoxes 13 = .ok (.aload_n 0, 1) := by decide +kernel
theorem dX0_pinsInBoxes_14 : decode cX0_pinsInBoxes 14 = .ok (.getfield 11, 3) := by decide +kernel
theorem dX0_pinsInBoxes_17 : decode cX0_pinsInBoxes 17 = .ok (.iload_n 2, 1) := by decide +kernel
theorem dX0_pinsInBoxes_18 : decode cX0_pinsInBoxes 18 = .ok (.aaload, 1) := by decide +kernel
theorem dX0_pinsInBoxes_19 : decode cX0_pinsInBoxes 19 = .ok (.getfield 54, 3) := by decide +kernel
theorem dX0_pinsInBoxes_22 : decode cX0_pinsInBoxes 22 = .ok (.iadd, 1) := by decide +kernel
theorem dX0_pinsInBoxes_23 : decode cX0_pinsInBoxes 23 = .ok (.istore_n 1, 1) := by decide +kernel
theorem dX0_pinsInBoxes_24 : decode cX0_pinsInBoxes 24 = .ok (.iinc 2 1, 3) := by decide +kernel
theorem dX0_pinsInBoxes_27 : decode cX0_pinsInBoxes 27 = .ok (.goto (-23), 3) := by decide +kernel
theorem dX0_pinsInBoxes_30 : decode cX0_pinsInBoxes 30 = .ok (.iload_n 1, 1) := by decide +kernel
theorem dX0_pinsInBoxes_31 : decode cX0_pinsInBoxes 31 = .ok (.ireturn, 1) := by decide +kernel
theorem dX0_pinsInDrums_0 : decode cX0_pinsInDrums 0 = .ok (.iconst 0, 1) := by decide +kernel
theorem dX0_pinsInDrums_1 : decode cX0_pinsInDrums 1 = .ok (.istore_n 1, 1) := by decide +kernel
theorem dX0_pinsInDrums_2 : decode cX0_pinsInDrums 2 = .ok (.iconst 0, 1) := by decide +kernel
theorem dX0_pinsInDrums_3 : decode cX0_pinsInDrums 3 = .ok (.istore_n 2, 1) := by decide +kernel
theorem dX0_pinsInDrums_4 : decode cX0_pinsInDrums 4 = .ok (.iload_n 2, 1) := by decide +kernel
theorem dX0_pinsInDrums_5 : decode cX0_pinsInDrums 5 = .ok (.aload_n 0, 1) := by decide +kernel
theorem dX0_pinsInDrums_6 : decode cX0_pinsInDrums 6 = .ok (.getfield 38, 3) := by decide +kernel
theorem dX0_pinsInDrums_9 : decode cX0_pinsInDrums 9 = .ok (.if_icmp .ge 24, 3) := by decide +kernel
theorem dX0_pinsInDrums_12 : decode cX0_pinsInDrums 12 = .ok (.iload_n 1, 1) := by decide +kernel
theorem dX0_pinsInDrums_13 : decode cX0_pinsInDrums 13 = .ok (.aload_n 0, 1) := by decide +kernel
theorem dX0_pinsInDrums_14 : decode cX0_pinsInDrums 14 = .ok (.getfield 11, 3) := by decide +kernel
theorem dX0_pinsInDrums_17 : decode cX0_pinsInDrums 17 = .ok (.iload_n 2, 1) := by decide +kernel
theorem dX0_pinsInDrums_18 : decode cX0_pinsInDrums 18 = .ok (.aaload, 1) := by decide +kernel
theorem dX0_pinsInDrums_19 : decode cX0_pinsInDrums 19 = .ok (.getfield 75, 3) := by decide +kernel
theorem dX0_pinsInDrums_22 : decode cX0_pinsInDrums 22 = .ok (.invokestatic 78, 3) := by decide +kernel
theorem dX0_pinsInDrums_25 : decode cX0_pinsInDrums 25 = .ok (.iadd, 1) := by decide +kernel
theorem dX0_pinsInDrums_26 : decode cX0_pinsInDrums 26 = .ok (.istore_n 1, 1) := by decide +kernel
theorem dX0_pinsInDrums_27 : decode cX0_pinsInDrums 27 = .ok (.iinc 2 1, 3) := by decide +kernel
theorem dX0_pinsInDrums_30 : decode cX0_pinsInDrums 30 = .ok (.goto (-26), 3) := by decide +kernel
theorem dX0_pinsInDrums_33 : decode cX0_pinsInDrums 33 = .ok (.iload_n 1, 1) := by decide +kernel
theorem dX0_pinsInDrums_34 : decode cX0_pinsInDrums 34 = .ok (.ireturn, 1) := by decide +kernel
theorem dX0_allRightPins_0 : decode cX0_allRightPins 0 = .ok (.iconst 0, 1) := by decide +kernel
theorem dX0_allRightPins_1 : decode cX0_allRightPins 1 = .ok (.istore_n 1, 1) := by decide +kernel
theorem dX0_allRightPins_2 : decode cX0_allRightPins 2 = .ok (.iconst 0, 1) := by decide +kernel
theorem dX0_allRightPins_3 : decode cX0_allRightPins 3 = .ok (.istore_n 2, 1) := by decide +kernel
theorem dX0_allRightPins_4 : decode cX0_allRightPins 4 = .ok (.iload_n 2, 1) := by decide +kernel
theorem dX0_allRightPins_5 : decode cX0_allRightPins 5 = .ok (.aload_n 0, 1) := by decide +kernel
theorem dX0_allRightPins_6 : decode cX0_allRightPins 6 = .ok (.getfield 38, 3) := by decide +kernel
theorem dX0_allRightPins_9 : decode cX0_allRightPins 9 = .ok (.if_icmp .ge 21, 3) := by decide +kernel
theorem dX0_allRightPins_12 : decode cX0_allRightPins 12 = .ok (.iload_n 1, 1) := by decide +kernel
theorem dX0_allRightPins_13 : decode cX0_allRightPins 13 = .ok (.aload_n 0, 1) := by decide +kernel
theorem dX0_allRightPins_14 : decode cX0_allRightPins 14 = .ok (.getfield 11, 3) := by decide +kernel
theorem dX0_allRightPins_17 : decode cX0_allRightPins 17 = .ok (.iload_n 2, 1) := by decide +kernel
theorem dX0_allRightPins_18 : decode cX0_allRightPins 18 = .ok (.aaload, 1) := by decide +kernel
theorem dX0_allRightPins_19 : decode cX0_allRightPins 19 = .ok (.invokevirtual 82, 3) := by decide +kernel
theorem dX0_allRightPins_22 : decode cX0_allRightPins 22 = .ok (.iadd, 1) := by decide +kernel
theorem dX0_allRightPins_23 : decode cX0_allRightPins 23 = .ok (.istore_n 1, 1) := by decide +kernel
theorem dX0_allRightPins_24 : decode cX0_allRightPins 24 = .ok (.iinc 2 1, 3) := by decide +kernel
theorem dX0_allRightPins_27 : decode cX0_allRightPins 27 = .ok (.goto (-23), 3) := by decide +kernel
theorem dX0_allRightPins_30 : decode cX0_allRightPins 30 = .ok (.iload_n 1, 1) := by decide +kernel
theorem dX0_allRightPins_31 : decode cX0_allRightPins 31 = .ok (.ireturn, 1) := by decide +kernel
theorem dX1_init_0 : decode cX1_init 0 = .ok (.aload_n 0, 1) := by decide +kernel
theorem dX1_init_1 : decode cX1_init 1 = .ok (.invokespecial 3, 3) := by decide +kernel
theorem dX1_init_4 : decode cX1_init 4 = .ok (.aload_n 0, 1) := by decide +kernel
theorem dX1_init_5 : decode cX1_init 5 = .ok (.bipush 24, 2) := by decide +kernel
theorem dX1_init_7 : decode cX1_init 7 = .ok (.newarray .int, 2) := by decide +kernel
theorem dX1_init_9 : decode cX1_init 9 = .ok (.putfield 9, 3) := by decide +kernel
theorem dX1_init_12 : decode cX1_init 12 = .ok (.aload_n 0, 1) := by decide +kernel
theorem dX1_init_13 : decode cX1_init 13 = .ok (.bipush 12, 2) := by decide +kernel
theorem dX1_init_15 : decode cX1_init 15 = .ok (.newarray .int, 2) := by decide +kernel
theorem dX1_init_17 : decode cX1_init 17 = .ok (.putfield 15, 3) := by decide +kernel
theorem dX1_init_20 : decode cX1_init 20 = .ok (.aload_n 0, 1) := by decide +kernel
theorem dX1_init_21 : decode cX1_init 21 = .ok (.bipush 12, 2) := by decide +kernel
theorem dX1_init_23 : decode cX1_init 23 = .ok (.newarray .int, 2) := by decide +kernel
theorem dX1_init_25 : decode cX1_init 25 = .ok (.putfield 18, 3) := by decide +kernel
theorem dX1_init_28 : decode cX1_init 28 = .ok (.aload_n 0, 1) := by decide +kernel
theorem dX1_init_29 : decode cX1_init 29 = .ok (.bipush 24, 2) := by decide +kernel
theorem dX1_init_31 : decode cX1_init 31 = .ok (.newarray .int, 2) := by decide +kernel
theorem dX1_init_33 : decode cX1_init 33 = .ok (.putfield 21, 3) := by decide +kernel
theorem dX1_init_36 : decode cX1_init 36 = .ok (.return_, 1) := by decide +kernel
theorem dX1_begin_0 : decode cX1_begin 0 = .ok (.aload_n 1, 1) := by decide +kernel
theorem dX1_begin_1 : decode cX1_begin 1 = .ok (.getfield 24, 3) := by decide +kernel
theorem dX1_begin_4 : decode cX1_begin 4 = .ok (.aload_n 0, 1) := by decide +kernel
theorem dX1_begin_5 : decode cX1_begin 5 = .ok (.getfield 9, 3) := by decide +kernel
theorem dX1_begin_8 : decode cX1_begin 8 = .ok (.invokestatic 27, 3) := by decide +kernel
theorem dX1_begin_11 : decode cX1_begin 11 = .ok (.aload_n 1, 1) := by decide +kernel
theorem dX1_begin_12 : decode cX1_begin 12 = .ok (.getfield 31, 3) := by decide +kernel
theorem dX1_begin_15 : decode cX1_begin 15 = .ok (.aload_n 0, 1) := by decide +kernel
theorem dX1_begin_16 : decode cX1_begin 16 = .ok (.getfield 15, 3) := by decide +kernel
theorem dX1_begin_19 : decode cX1_begin 19 = .ok (.invokestatic 27, 3) := by decide +kernel
theorem dX1_begin_22 : decode cX1_begin 22 = .ok (.aload_n 0, 1) := by decide +kernel
theorem dX1_begin_23 : decode cX1_begin 23 = .ok (.aload_n 2, 1) := by decide +kernel
theorem dX1_begin_24 : decode cX1_begin 24 = .ok (.iconst 0, 1) := by decide +kernel
theorem dX1_begin_25 : decode cX1_begin 25 = .ok (.iaload, 1) := by decide +kernel
theorem dX1_begin_26 : decode cX1_begin 26 = .ok (.putfield 32, 3) := by decide +kernel
theorem dX1_begin_29 : decode cX1_begin 29 = .ok (.aload_n 0, 1) := by decide +kernel
theorem dX1_begin_30 : decode cX1_begin 30 = .ok (.aload_n 2, 1) := by decide +kernel
theorem dX1_begin_31 : decode cX1_begin 31 = .ok (.iconst 1, 1) := by decide +kernel
theorem dX1_begin_32 : decode cX1_begin 32 = .ok (.iaload, 1) := by decide +kernel
theorem dX1_begin_33 : decode cX1_begin 33 = .ok (.putfield 36, 3) := by decide +kernel
theorem dX1_begin_36 : decode cX1_begin 36 = .ok (.return_, 1) := by decide +kernel
theorem dX1_goThrough_0 : decode cX1_goThrough 0 = .ok (.aload_n 0, 1) := by decide +kernel
theorem dX1_goThrough_1 : decode cX1_goThrough 1 = .ok (.invokevirtual 39, 3) := by decide +kernel
theorem dX1_goThrough_4 : decode cX1_goThrough 4 = .ok (.iconst 0, 1) := by decide +kernel
theorem dX1_goThrough_5 : decode cX1_goThrough 5 = .ok (.istore_n 2, 1) := by decide +kernel
theorem dX1_goThrough_6 : decode cX1_goThrough 6 = .ok (.iload_n 2, 1) := by decide +kernel
theorem dX1_goThrough_7 : decode cX1_goThrough 7 = .ok (.bipush 24, 2) := by decide +kernel
theorem dX1_goThrough_9 : decode cX1_goThrough 9 = .ok (.if_icmp .ge 26, 3) := by decide +kernel
theorem dX1_goThrough_12 : decode cX1_goThrough 12 = .ok (.aload_n 0, 1) := by decide +kernel
theorem dX1_goThrough_13 : decode cX1_goThrough 13 = .ok (.getfield 9, 3) := by decide +kernel
theorem dX1_goThrough_16 : decode cX1_goThrough 16 = .ok (.iload_n 2, 1) := by decide +kernel
theorem dX1_goThrough_17 : decode cX1_goThrough 17 = .ok (.iaload, 1) := by decide +kernel
theorem dX1_goThrough_18 : decode cX1_goThrough 18 = .ok (.ifCond .eq 11, 3) := by decide +kernel
theorem dX1_goThrough_21 : decode cX1_goThrough 21 = .ok (.aload_n 0, 1) := by decide +kernel
theorem dX1_goThrough_22 : decode cX1_goThrough 22 = .ok (.iload_n 2, 1) := by decide +kernel
theorem dX1_goThrough_23 : decode cX1_goThrough 23 = .ok (.aload_n 1, 1) := by decide +kernel
theorem dX1_goThrough_24 : decode cX1_goThrough 24 = .ok (.iload_n 2, 1) := by decide +kernel
theorem dX1_goThrough_25 : decode cX1_goThrough 25 = .ok (.iaload, 1) := by decide +kernel
theorem dX1_goThrough_26 : decode cX1_goThrough 26 = .ok (.invokevirtual 42, 3) := by decide +kernel
theorem dX1_goThrough_29 : decode cX1_goThrough 29 = .ok (.iinc 2 1, 3) := by decide +kernel
theorem dX1_goThrough_32 : decode cX1_goThrough 32 = .ok (.goto (-26), 3) := by decide +kernel
theorem dX1_goThrough_35 : decode cX1_goThrough 35 = .ok (.return_, 1) := by decide +kernel
theorem dX1_passStep_0 : decode cX1_passStep 0 = .ok (.iconst 0, 1) := by decide +kernel
theorem dX1_passStep_1 : decode cX1_passStep 1 = .ok (.istore_n 3, 1) := by decide +kernel
theorem dX1_passStep_2 : decode cX1_passStep 2 = .ok (.iload_n 3, 1) := by decide +kernel
theorem dX1_passStep_3 : decode cX1_passStep 3 = .ok (.bipush 12, 2) := by decide +kernel
theorem dX1_passStep_5 : decode cX1_passStep 5 = .ok (.if_icmp .ge 41, 3) := by decide +kernel
theorem dX1_passStep_8 : decode cX1_passStep 8 = .ok (.aload_n 0, 1) := by decide +kernel
theorem dX1_passStep_9 : decode cX1_passStep 9 = .ok (.getfield 9, 3) := by decide +kernel
theorem dX1_passStep_12 : decode cX1_passStep 12 = .ok (.iload_n 1, 1) := by decide +kernel
theorem dX1_passStep_13 : decode cX1_passStep 13 = .ok (.iaload, 1) := by decide +kernel
theorem dX1_passStep_14 : decode cX1_passStep 14 = .ok (.iconst 1, 1) := by decide +kernel
theorem dX1_passStep_15 : decode cX1_passStep 15 = .ok (.iload_n 3, 1) := by decide +kernel
theorem dX1_passStep_16 : decode cX1_passStep 16 = .ok (.ishl, 1) := by decide +kernel
theorem dX1_passStep_17 : decode cX1_passStep 17 = .ok (.iand, 1) := by decide +kernel
theorem dX1_passStep_18 : decode cX1_passStep 18 = .ok (.ifCond .eq 22, 3) := by decide +kernel
theorem dX1_passStep_21 : decode cX1_passStep 21 = .ok (.aload_n 0, 1) := by decide +kernel
theorem dX1_passStep_22 : decode cX1_passStep 22 = .ok (.iload_n 1, 1) := by decide +kernel
theorem dX1_passStep_23 : decode cX1_passStep 23 = .ok (.iload_n 3, 1) := by decide +kernel
theorem dX1_passStep_24 : decode cX1_passStep 24 = .ok (.iload_n 2, 1) := by decide +kernel
theorem dX1_passStep_25 : decode cX1_passStep 25 = .ok (.iconst 1, 1) := by decide +kernel
theorem dX1_passStep_26 : decode cX1_passStep 26 = .ok (.iload_n 3, 1) := by decide +kernel
theorem dX1_passStep_27 : decode cX1_passStep 27 = .ok (.ishl, 1) := by decide +kernel
theorem dX1_passStep_28 : decode cX1_passStep 28 = .ok (.iand, 1) := by decide +kernel
theorem dX1_passStep_29 : decode cX1_passStep 29 = .ok (.ifCond .eq 7, 3) := by decide +kernel
theorem dX1_passStep_32 : decode cX1_passStep 32 = .ok (.iconst 1, 1) := by decide +kernel
theorem dX1_passStep_33 : decode cX1_passStep 33 = .ok (.goto 4, 3) := by decide +kernel
theorem dX1_passStep_36 : decode cX1_passStep 36 = .ok (.iconst 0, 1) := by decide +kernel
theorem dX1_passStep_37 : decode cX1_passStep 37 = .ok (.invokevirtual 46, 3) := by decide +kernel
theorem dX1_passStep_40 : decode cX1_passStep 40 = .ok (.iinc 3 1, 3) := by decide +kernel
theorem dX1_passStep_43 : decode cX1_passStep 43 = .ok (.goto (-41), 3) := by decide +kernel
theorem dX1_passStep_46 : decode cX1_passStep 46 = .ok (.return_, 1) := by decide +kernel
theorem dX1_forgetSounds_0 : decode cX1_forgetSounds 0 = .ok (.aload_n 0, 1) := by decide +kernel
theorem dX1_forgetSounds_1 : decode cX1_forgetSounds 1 = .ok (.iconst 0, 1) := by decide +kernel
theorem dX1_forgetSounds_2 : decode cX1_forgetSounds 2 = .ok (.putfield 50, 3) := by decide +kernel
theorem dX1_forgetSounds_5 : decode cX1_forgetSounds 5 = .ok (.aload_n 0, 1) := by decide +kernel
theorem dX1_forgetSounds_6 : decode cX1_forgetSounds 6 = .ok (.iconst 0, 1) := by decide +kernel
theorem dX1_forgetSounds_7 : decode cX1_forgetSounds 7 = .ok (.putfield 53, 3) := by decide +kernel
theorem dX1_forgetSounds_10 : decode cX1_forgetSounds 10 = .ok (.aload_n 0, 1) := by decide +kernel
theorem dX1_forgetSounds_11 : decode cX1_forgetSounds 11 = .ok (.iconst 0, 1) := by decide +kernel
theorem dX1_forgetSounds_12 : decode cX1_forgetSounds 12 = .ok (.putfield 56, 3) := by decide +kernel
theorem dX1_forgetSounds_15 : decode cX1_forgetSounds 15 = .ok (.aload_n 0, 1) := by decide +kernel
theorem dX1_forgetSounds_16 : decode cX1_forgetSounds 16 = .ok (.iconst 0, 1) := by decide +kernel
theorem dX1_forgetSounds_17 : decode cX1_forgetSounds 17 = .ok (.putfield 59, 3) := by decide +kernel
theorem dX1_forgetSounds_20 : decode cX1_forgetSounds 20 = .ok (.aload_n 0, 1) := by decide +kernel
theorem dX1_forgetSounds_21 : decode cX1_forgetSounds 21 = .ok (.iconst 0, 1) := by decide +kernel
theorem dX1_forgetSounds_22 : decode cX1_forgetSounds 22 = .ok (.putfield 62, 3) := by decide +kernel
theorem dX1_forgetSounds_25 : decode cX1_forgetSounds 25 = .ok (.iconst 0, 1) := by decide +kernel
theorem dX1_forgetSounds_26 : decode cX1_forgetSounds 26 = .ok (.istore_n 1, 1) := by decide +kernel
theorem dX1_forgetSounds_27 : decode cX1_forgetSounds 27 = .ok (.iload_n 1, 1) := by decide +kernel
theorem dX1_forgetSounds_28 : decode cX1_forgetSounds 28 = .ok (.bipush 24, 2) := by decide +kernel
theorem dX1_forgetSounds_30 : decode cX1_forgetSounds 30 = .ok (.if_icmp .ge 16, 3) := by decide +kernel
theorem dX1_forgetSounds_33 : decode cX1_forgetSounds 33 = .ok (.aload_n 0, 1) := by decide +kernel
theorem dX1_forgetSounds_34 : decode cX1_forgetSounds 34 = .ok (.getfield 21, 3) := by decide +kernel
theorem dX1_forgetSounds_37 : decode cX1_forgetSounds 37 = .ok (.iload_n 1, 1) := by decide +kernel
theorem dX1_forgetSounds_38 : decode cX1_forgetSounds 38 = .ok (.iconst 0, 1) := by decide +kernel
theorem dX1_forgetSounds_39 : decode cX1_forgetSounds 39 = .ok (.iastore, 1) := by decide +kernel
theorem dX1_forgetSounds_40 : decode cX1_forgetSounds 40 = .ok (.iinc 1 1, 3) := by decide +kernel
theorem dX1_forgetSounds_43 : decode cX1_forgetSounds 43 = .ok (.goto (-16), 3) := by decide +kernel
theorem dX1_forgetSounds_46 : decode cX1_forgetSounds 46 = .ok (.iconst 0, 1) := by decide +kernel
theorem dX1_forgetSounds_47 : decode cX1_forgetSounds 47 = .ok (.istore_n 1, 1) := by decide +kernel
theorem dX1_forgetSounds_48 : decode cX1_forgetSounds 48 = .ok (.iload_n 1, 1) := by decide +kernel
theorem dX1_forgetSounds_49 : decode cX1_forgetSounds 49 = .ok (.bipush 12, 2) := by decide +kernel
theorem dX1_forgetSounds_51 : decode cX1_forgetSounds 51 = .ok (.if_icmp .ge 17, 3) := by decide +kernel
theorem dX1_forgetSounds_54 : decode cX1_forgetSounds 54 = .ok (.aload_n 0, 1) := by decide +kernel
theorem dX1_forgetSounds_55 : decode cX1_forgetSounds 55 = .ok (.getfield 18, 3) := by decide +kernel
theorem dX1_forgetSounds_58 : decode cX1_forgetSounds 58 = .ok (.iload_n 1, 1) := by decide +kernel
theorem dX1_forgetSounds_59 : decode cX1_forgetSounds 59 = .ok (.bipush (-24), 2) := by decide +kernel
theorem dX1_forgetSounds_61 : decode cX1_forgetSounds 61 = .ok (.iastore, 1) := by decide +kernel
theorem dX1_forgetSounds_62 : decode cX1_forgetSounds 62 = .ok (.iinc 1 1, 3) := by decide +kernel
theorem dX1_forgetSounds_65 : decode cX1_forgetSounds 65 = .ok (.goto (-17), 3) := by decide +kernel
theorem dX1_forgetSounds_68 : decode cX1_forgetSounds 68 = .ok (.return_, 1) := by decide +kernel
theorem dX1_meetPin_0 : decode cX1_meetPin 0 = .ok (.aload_n 0, 1) := by decide +kernel
theorem dX1_meetPin_1 : decode cX1_meetPin 1 = .ok (.getfield 15, 3) := by decide +kernel
theorem dX1_meetPin_4 : decode cX1_meetPin 4 = .ok (.iload_n 2, 1) := by decide +kernel
theorem dX1_meetPin_5 : decode cX1_meetPin 5 = .ok (.iaload, 1) := by decide +kernel
theorem dX1_meetPin_6 : decode cX1_meetPin 6 = .ok (.aload_n 0, 1) := by decide +kernel
theorem dX1_meetPin_7 : decode cX1_meetPin 7 = .ok (.getfield 36, 3) := by decide +kernel
theorem dX1_meetPin_10 : decode cX1_meetPin 10 = .ok (.if_icmp .lt 48, 3) := by decide +kernel
theorem dX1_meetPin_13 : decode cX1_meetPin 13 = .ok (.aload_n 0, 1) := by decide +kernel
theorem dX1_meetPin_14 : decode cX1_meetPin 14 = .ok (.getfield 9, 3) := by decide +kernel
theorem dX1_meetPin_17 : decode cX1_meetPin 17 = .ok (.iload_n 1, 1) := by decide +kernel
theorem dX1_meetPin_18 : decode cX1_meetPin 18 = .ok (.dup2, 1) := by decide +kernel
theorem dX1_meetPin_19 : decode cX1_meetPin 19 = .ok (.iaload, 1) := by decide +kernel
theorem dX1_meetPin_20 : decode cX1_meetPin 20 = .ok (.iconst 1, 1) := by decide +kernel
theorem dX1_meetPin_21 : decode cX1_meetPin 21 = .ok (.iload_n 2, 1) := by decide +kernel
theorem dX1_meetPin_22 : decode cX1_meetPin 22 = .ok (.ishl, 1) := by decide +kernel
theorem dX1_meetPin_23 : decode cX1_meetPin 23 = .ok (.iconst (-1), 1) := by decide +kernel
theorem dX1_meetPin_24 : decode cX1_meetPin 24 = .ok (.ixor, 1) := by decide +kernel
theorem dX1_meetPin_25 : decode cX1_meetPin 25 = .ok (.iand, 1) := by decide +kernel
theorem dX1_meetPin_26 : decode cX1_meetPin 26 = .ok (.iastore, 1) := by decide +kernel
theorem dX1_meetPin_27 : decode cX1_meetPin 27 = .ok (.aload_n 0, 1) := by decide +kernel
theorem dX1_meetPin_28 : decode cX1_meetPin 28 = .ok (.dup, 1) := by decide +kernel
theorem dX1_meetPin_29 : decode cX1_meetPin 29 = .ok (.getfield 56, 3) := by decide +kernel
theorem dX1_meetPin_32 : decode cX1_meetPin 32 = .ok (.iconst 1, 1) := by decide +kernel
theorem dX1_meetPin_33 : decode cX1_meetPin 33 = .ok (.iadd, 1) := by decide +kernel
theorem dX1_meetPin_34 : decode cX1_meetPin 34 = .ok (.putfield 56, 3) := by decide +kernel
theorem dX1_meetPin_37 : decode cX1_meetPin 37 = .ok (.aload_n 0, 1) := by decide +kernel
theorem dX1_meetPin_38 : decode cX1_meetPin 38 = .ok (.dup, 1) := by decide +kernel
theorem dX1_meetPin_39 : decode cX1_meetPin 39 = .ok (.getfield 62, 3) := by decide +kernel
theorem dX1_meetPin_42 : decode cX1_meetPin 42 = .ok (.iload_n 3, 1) := by decide +kernel
theorem dX1_meetPin_43 : decode cX1_meetPin 43 = .ok (.ifCond .eq 7, 3) := by decide +kernel
theorem dX1_meetPin_46 : decode cX1_meetPin 46 = .ok (.iconst 1, 1) := by decide +kernel
theorem dX1_meetPin_47 : decode cX1_meetPin 47 = .ok (.goto 4, 3) := by decide +kernel
theorem dX1_meetPin_50 : decode cX1_meetPin 50 = .ok (.iconst 0, 1) := by decide +kernel
theorem dX1_meetPin_51 : decode cX1_meetPin 51 = .ok (.iadd, 1) := by decide +kernel
theorem dX1_meetPin_52 : decode cX1_meetPin 52 = .ok (.putfield 62, 3) := by decide +kernel
theorem dX1_meetPin_55 : decode cX1_meetPin 55 = .ok (.goto 88, 3) := by decide +kernel
theorem dX1_meetPin_58 : decode cX1_meetPin 58 = .ok (.iload_n 1, 1) := by decide +kernel
theorem dX1_meetPin_59 : decode cX1_meetPin 59 = .ok (.aload_n 0, 1) := by decide +kernel
theorem dX1_meetPin_60 : decode cX1_meetPin 60 = .ok (.getfield 18, 3) := by decide +kernel
theorem dX1_meetPin_63 : decode cX1_meetPin 63 = .ok (.iload_n 2, 1) := by decide +kernel
theorem dX1_meetPin_64 : decode cX1_meetPin 64 = .ok (.iaload, 1) := by decide +kernel
theorem dX1_meetPin_65 : decode cX1_meetPin 65 = .ok (.isub, 1) := by decide +kernel
theorem dX1_meetPin_66 : decode cX1_meetPin 66 = .ok (.aload_n 0, 1) := by decide +kernel
theorem dX1_meetPin_67 : decode cX1_meetPin 67 = .ok (.getfield 32, 3) := by decide +kernel
theorem dX1_meetPin_70 : decode cX1_meetPin 70 = .ok (.if_icmp .ge 16, 3) := by decide +kernel
theorem dX1_meetPin_73 : decode cX1_meetPin 73 = .ok (.aload_n 0, 1) := by decide +kernel
theorem dX1_meetPin_74 : decode cX1_meetPin 74 = .ok (.dup, 1) := by decide +kernel
theorem dX1_meetPin_75 : decode cX1_meetPin 75 = .ok (.getfield 53, 3) := by decide +kernel
theorem dX1_meetPin_78 : decode cX1_meetPin 78 = .ok (.iconst 1, 1) := by decide +kernel
theorem dX1_meetPin_79 : decode cX1_meetPin 79 = .ok (.iadd, 1) := by decide +kernel
theorem dX1_meetPin_80 : decode cX1_meetPin 80 = .ok (.putfield 53, 3) := by decide +kernel
theorem dX1_meetPin_83 : decode cX1_meetPin 83 = .ok (.goto 60, 3) := by decide +kernel
theorem dX1_meetPin_86 : decode cX1_meetPin 86 = .ok (.aload_n 0, 1) := by decide +kernel
theorem dX1_meetPin_87 : decode cX1_meetPin 87 = .ok (.getfield 21, 3) := by decide +kernel
theorem dX1_meetPin_90 : decode cX1_meetPin 90 = .ok (.iload_n 1, 1) := by decide +kernel
theorem dX1_meetPin_91 : decode cX1_meetPin 91 = .ok (.dup2, 1) := by decide +kernel
theorem dX1_meetPin_92 : decode cX1_meetPin 92 = .ok (.iaload, 1) := by decide +kernel
theorem dX1_meetPin_93 : decode cX1_meetPin 93 = .ok (.iconst 1, 1) := by decide +kernel
theorem dX1_meetPin_94 : decode cX1_meetPin 94 = .ok (.iload_n 2, 1) := by decide +kernel
theorem dX1_meetPin_95 : decode cX1_meetPin 95 = .ok (.ishl, 1) := by decide +kernel
theorem dX1_meetPin_96 : decode cX1_meetPin 96 = .ok (.ior, 1) := by decide +kernel
theorem dX1_meetPin_97 : decode cX1_meetPin 97 = .ok (.iastore, 1) := by decide +kernel
theorem dX1_meetPin_98 : decode cX1_meetPin 98 = .ok (.aload_n 0, 1) := by decide +kernel
theorem dX1_meetPin_99 : decode cX1_meetPin 99 = .ok (.getfield 18, 3) := by decide +kernel
theorem dX1_meetPin_102 : decode cX1_meetPin 102 = .ok (.iload_n 2, 1) := by decide +kernel
theorem dX1_meetPin_103 : decode cX1_meetPin 103 = .ok (.iload_n 1, 1) := by decide +kernel
theorem dX1_meetPin_104 : decode cX1_meetPin 104 = .ok (.iastore, 1) := by decide +kernel
theorem dX1_meetPin_105 : decode cX1_meetPin 105 = .ok (.aload_n 0, 1) := by decide +kernel
theorem dX1_meetPin_106 : decode cX1_meetPin 106 = .ok (.getfield 15, 3) := by decide +kernel
theorem dX1_meetPin_109 : decode cX1_meetPin 109 = .ok (.iload_n 2, 1) := by decide +kernel
theorem dX1_meetPin_110 : decode cX1_meetPin 110 = .ok (.dup2, 1) := by decide +kernel
theorem dX1_meetPin_111 : decode cX1_meetPin 111 = .ok (.iaload, 1) := by decide +kernel
theorem dX1_meetPin_112 : decode cX1_meetPin 112 = .ok (.iconst 1, 1) := by decide +kernel
theorem dX1_meetPin_113 : decode cX1_meetPin 113 = .ok (.iadd, 1) := by decide +kernel
theorem dX1_meetPin_114 : decode cX1_meetPin 114 = .ok (.iastore, 1) := by decide +kernel
theorem dX1_meetPin_115 : decode cX1_meetPin 115 = .ok (.aload_n 0, 1) := by decide +kernel
theorem dX1_meetPin_116 : decode cX1_meetPin 116 = .ok (.dup, 1) := by decide +kernel
theorem dX1_meetPin_117 : decode cX1_meetPin 117 = .ok (.getfield 50, 3) := by decide +kernel
theorem dX1_meetPin_120 : decode cX1_meetPin 120 = .ok (.iconst 1, 1) := by decide +kernel
theorem dX1_meetPin_121 : decode cX1_meetPin 121 = .ok (.iadd, 1) := by decide +kernel
theorem dX1_meetPin_122 : decode cX1_meetPin 122 = .ok (.putfield 50, 3) := by decide +kernel
theorem dX1_meetPin_125 : decode cX1_meetPin 125 = .ok (.aload_n 0, 1) := by decide +kernel
theorem dX1_meetPin_126 : decode cX1_meetPin 126 = .ok (.dup, 1) := by decide +kernel
theorem dX1_meetPin_127 : decode cX1_meetPin 127 = .ok (.getfield 59, 3) := by decide +kernel
theorem dX1_meetPin_130 : decode cX1_meetPin 130 = .ok (.iload_n 3, 1) := by decide +kernel
theorem dX1_meetPin_131 : decode cX1_meetPin 131 = .ok (.ifCond .eq 7, 3) := by decide +kernel
theorem dX1_meetPin_134 : decode cX1_meetPin 134 = .ok (.iconst 1, 1) := by decide +kernel
theorem dX1_meetPin_135 : decode cX1_meetPin 135 = .ok (.goto 4, 3) := by decide +kernel
theorem dX1_meetPin_138 : decode cX1_meetPin 138 = .ok (.iconst 0, 1) := by decide +kernel
theorem dX1_meetPin_139 : decode cX1_meetPin 139 = .ok (.iadd, 1) := by decide +kernel
theorem dX1_meetPin_140 : decode cX1_meetPin 140 = .ok (.putfield 59, 3) := by decide +kernel
theorem dX1_meetPin_143 : decode cX1_meetPin 143 = .ok (.return_, 1) := by decide +kernel
theorem dX1_tell_0 : decode cX1_tell 0 = .ok (.iload_n 1, 1) := by decide +kernel
theorem dX1_tell_1 : decode cX1_tell 1 = .ok (.tableswitch 51 0 3 #[31, 36, 41, 46], 31) := by decide +kernel
theorem dX1_tell_32 : decode cX1_tell 32 = .ok (.aload_n 0, 1) := by decide +kernel
theorem dX1_tell_33 : decode cX1_tell 33 = .ok (.getfield 50, 3) := by decide +kernel
theorem dX1_tell_36 : decode cX1_tell 36 = .ok (.ireturn, 1) := by decide +kernel
theorem dX1_tell_37 : decode cX1_tell 37 = .ok (.aload_n 0, 1) := by decide +kernel
theorem dX1_tell_38 : decode cX1_tell 38 = .ok (.getfield 53, 3) := by decide +kernel
theorem dX1_tell_41 : decode cX1_tell 41 = .ok (.ireturn, 1) := by decide +kernel
theorem dX1_tell_42 : decode cX1_tell 42 = .ok (.aload_n 0, 1) := by decide +kernel
theorem dX1_tell_43 : decode cX1_tell 43 = .ok (.getfield 56, 3) := by decide +kernel
theorem dX1_tell_46 : decode cX1_tell 46 = .ok (.ireturn, 1) := by decide +kernel
theorem dX1_tell_47 : decode cX1_tell 47 = .ok (.aload_n 0, 1) := by decide +kernel
theorem dX1_tell_48 : decode cX1_tell 48 = .ok (.getfield 59, 3) := by decide +kernel
theorem dX1_tell_51 : decode cX1_tell 51 = .ok (.ireturn, 1) := by decide +kernel
theorem dX1_tell_52 : decode cX1_tell 52 = .ok (.aload_n 0, 1) := by decide +kernel
theorem dX1_tell_53 : decode cX1_tell 53 = .ok (.getfield 15, 3) := by decide +kernel
theorem dX1_tell_56 : decode cX1_tell 56 = .ok (.aload_n 0, 1) := by decide +kernel
theorem dX1_tell_57 : decode cX1_tell 57 = .ok (.getfield 36, 3) := by decide +kernel
theorem dX1_tell_60 : decode cX1_tell 60 = .ok (.invokestatic 65, 3) := by decide +kernel
theorem dX1_tell_63 : decode cX1_tell 63 = .ok (.ireturn, 1) := by decide +kernel
theorem dX2_init_0 : decode cX2_init 0 = .ok (.aload_n 0, 1) := by decide +kernel
theorem dX2_init_1 : decode cX2_init 1 = .ok (.invokespecial 3, 3) := by decide +kernel
theorem dX2_init_4 : decode cX2_init 4 = .ok (.aload_n 0, 1) := by decide +kernel
theorem dX2_init_5 : decode cX2_init 5 = .ok (.bipush 6, 2) := by decide +kernel
theorem dX2_init_7 : decode cX2_init 7 = .ok (.newarray .int, 2) := by decide +kernel
theorem dX2_init_9 : decode cX2_init 9 = .ok (.putfield 9, 3) := by decide +kernel
theorem dX2_init_12 : decode cX2_init 12 = .ok (.return_, 1) := by decide +kernel
theorem dX2_find_0 : decode cX2_find 0 = .ok (.aload_n 0, 1) := by decide +kernel
theorem dX2_find_1 : decode cX2_find 1 = .ok (.iconst 0, 1) := by decide +kernel
theorem dX2_find_2 : decode cX2_find 2 = .ok (.putfield 15, 3) := by decide +kernel
theorem dX2_find_5 : decode cX2_find 5 = .ok (.aload_n 0, 1) := by decide +kernel
theorem dX2_find_6 : decode cX2_find 6 = .ok (.iconst 0, 1) := by decide +kernel
theorem dX2_find_7 : decode cX2_find 7 = .ok (.putfield 19, 3) := by decide +kernel
theorem dX2_find_10 : decode cX2_find 10 = .ok (.iconst 2, 1) := by decide +kernel
theorem dX2_find_11 : decode cX2_find 11 = .ok (.istore_n 2, 1) := by decide +kernel
theorem dX2_find_12 : decode cX2_find 12 = .ok (.iload_n 2, 1) := by decide +kernel
theorem dX2_find_13 : decode cX2_find 13 = .ok (.aload_n 1, 1) := by decide +kernel
theorem dX2_find_14 : decode cX2_find 14 = .ok (.getfield 22, 3) := by decide +kernel
theorem dX2_find_17 : decode cX2_find 17 = .ok (.if_icmp .gt 66, 3) := by decide +kernel
theorem dX2_find_20 : decode cX2_find 20 = .ok (.iconst 0, 1) := by decide +kernel
theorem dX2_find_21 : decode cX2_find 21 = .ok (.istore_n 3, 1) := by decide +kernel
theorem dX2_find_22 : decode cX2_find 22 = .ok (.iload_n 3, 1) := by decide +kernel
theorem dX2_find_23 : decode cX2_find 23 = .ok (.aload_n 1, 1) := by decide +kernel
theorem dX2_find_24 : decode cX2_find 24 = .ok (.getfield 22, 3) := by decide +kernel
theorem dX2_find_27 : decode cX2_find 27 = .ok (.if_icmp .ge 50, 3) := by decide +kernel
theorem dX2_find_30 : decode cX2_find 30 = .ok (.aload_n 0, 1) := by decide +kernel
theorem dX2_find_31 : decode cX2_find 31 = .ok (.getfield 9, 3) := by decide +kernel
theorem dX2_find_34 : decode cX2_find 34 = .ok (.iconst 0, 1) := by decide +kernel
theorem dX2_find_35 : decode cX2_find 35 = .ok (.iload_n 3, 1) := by decide +kernel
theorem dX2_find_36 : decode cX2_find 36 = .ok (.iastore, 1) := by decide +kernel
theorem dX2_find_37 : decode cX2_find 37 = .ok (.aload_n 1, 1) := by decide +kernel
theorem dX2_find_38 : decode cX2_find 38 = .ok (.aload_n 0, 1) := by decide +kernel
theorem dX2_find_39 : decode cX2_find 39 = .ok (.getfield 9, 3) := by decide +kernel
theorem dX2_find_42 : decode cX2_find 42 = .ok (.iload_n 2, 1) := by decide +kernel
theorem dX2_find_43 : decode cX2_find 43 = .ok (.iconst 1, 1) := by decide +kernel
theorem dX2_find_44 : decode cX2_find 44 = .ok (.iconst 1, 1) := by decide +kernel
theorem dX2_find_45 : decode cX2_find 45 = .ok (.iload_n 3, 1) := by decide +kernel
theorem dX2_find_46 : decode cX2_find 46 = .ok (.ishl, 1) := by decide +kernel
theorem dX2_find_47 : decode cX2_find 47 = .ok (.invokestatic 27, 3) := by decide +kernel
theorem dX2_find_50 : decode cX2_find 50 = .ok (.ifCond .eq 21, 3) := by decide +kernel
theorem dX2_find_53 : decode cX2_find 53 = .ok (.aload_n 0, 1) := by decide +kernel
theorem dX2_find_54 : decode cX2_find 54 = .ok (.iload_n 2, 1) := by decide +kernel
theorem dX2_find_55 : decode cX2_find 55 = .ok (.putfield 15, 3) := by decide +kernel
theorem dX2_find_58 : decode cX2_find 58 = .ok (.aload_n 0, 1) := by decide +kernel
theorem dX2_find_59 : decode cX2_find 59 = .ok (.aload_n 0, 1) := by decide +kernel
theorem dX2_find_60 : decode cX2_find 60 = .ok (.aload_n 1, 1) := by decide +kernel
theorem dX2_find_61 : decode cX2_find 61 = .ok (.getfield 31, 3) := by decide +kernel
theorem dX2_find_64 : decode cX2_find 64 = .ok (.invokevirtual 35, 3) := by decide +kernel
theorem dX2_find_67 : decode cX2_find 67 = .ok (.putfield 19, 3) := by decide +kernel
theorem dX2_find_70 : decode cX2_find 70 = .ok (.return_, 1) := by decide +kernel
theorem dX2_find_71 : decode cX2_find 71 = .ok (.iinc 3 1, 3) := by decide +kernel
theorem dX2_find_74 : decode cX2_find 74 = .ok (.goto (-52), 3) := by decide +kernel
theorem dX2_find_77 : decode cX2_find 77 = .ok (.iinc 2 1, 3) := by decide +kernel
theorem dX2_find_80 : decode cX2_find 80 = .ok (.goto (-68), 3) := by decide +kernel
theorem dX2_find_83 : decode cX2_find 83 = .ok (.return_, 1) := by decide +kernel
theorem dX2_isClosed_0 : decode cX2_isClosed 0 = .ok (.iload_n 3, 1) := by decide +kernel
theorem dX2_isClosed_1 : decode cX2_isClosed 1 = .ok (.iconst 1, 1) := by decide +kernel
theorem dX2_isClosed_2 : decode cX2_isClosed 2 = .ok (.if_icmp .lt 14, 3) := by decide +kernel
theorem dX2_isClosed_5 : decode cX2_isClosed 5 = .ok (.iload_n 3, 1) := by decide +kernel
theorem dX2_isClosed_6 : decode cX2_isClosed 6 = .ok (.iload_n 2, 1) := by decide +kernel
theorem dX2_isClosed_7 : decode cX2_isClosed 7 = .ok (.if_icmp .gt 9, 3) := by decide +kernel
theorem dX2_isClosed_10 : decode cX2_isClosed 10 = .ok (.iload_n 2, 1) := by decide +kernel
theorem dX2_isClosed_11 : decode cX2_isClosed 11 = .ok (.bipush 6, 2) := by decide +kernel
theorem dX2_isClosed_13 : decode cX2_isClosed 13 = .ok (.if_icmp .le 5, 3) := by decide +kernel
theorem dX2_isClosed_16 : decode cX2_isClosed 16 = .ok (.iconst 0, 1) := by decide +kernel
theorem dX2_isClosed_17 : decode cX2_isClosed 17 = .ok (.ireturn, 1) := by decide +kernel
theorem dX2_isClosed_18 : decode cX2_isClosed 18 = .ok (.aload_n 1, 1) := by decide +kernel
theorem dX2_isClosed_19 : decode cX2_isClosed 19 = .ok (.iload_n 3, 1) := by decide +kernel
theorem dX2_isClosed_20 : decode cX2_isClosed 20 = .ok (.iconst 1, 1) := by decide +kernel
theorem dX2_isClosed_21 : decode cX2_isClosed 21 = .ok (.isub, 1) := by decide +kernel
theorem dX2_isClosed_22 : decode cX2_isClosed 22 = .ok (.iaload, 1) := by decide +kernel
theorem dX2_isClosed_23 : decode cX2_isClosed 23 = .ok (.istore 5, 2) := by decide +kernel
theorem dX2_isClosed_25 : decode cX2_isClosed 25 = .ok (.iload_n 3, 1) := by decide +kernel
theorem dX2_isClosed_26 : decode cX2_isClosed 26 = .ok (.iload_n 2, 1) := by decide +kernel
theorem dX2_isClosed_27 : decode cX2_isClosed 27 = .ok (.if_icmp .ne 23, 3) := by decide +kernel
theorem dX2_isClosed_30 : decode cX2_isClosed 30 = .ok (.aload_n 0, 1) := by decide +kernel
theorem dX2_isClosed_31 : decode cX2_isClosed 31 = .ok (.getfield 31, 3) := by decide +kernel
theorem dX2_isClosed_34 : decode cX2_isClosed 34 = .ok (.iload 5, 2) := by decide +kernel
theorem dX2_isClosed_36 : decode cX2_isClosed 36 = .ok (.aaload, 1) := by decide +kernel
theorem dX2_isClosed_37 : decode cX2_isClosed 37 = .ok (.aload_n 1, 1) := by decide +kernel
theorem dX2_isClosed_38 : decode cX2_isClosed 38 = .ok (.iconst 0, 1) := by decide +kernel
theorem dX2_isClosed_39 : decode cX2_isClosed 39 = .ok (.iaload, 1) := by decide +kernel
theorem dX2_isClosed_40 : decode cX2_isClosed 40 = .ok (.iaload, 1) := by decide +kernel
theorem dX2_isClosed_41 : decode cX2_isClosed 41 = .ok (.ifCond .le 7, 3) := by decide +kernel
theorem dX2_isClosed_44 : decode cX2_isClosed 44 = .ok (.iconst 1, 1) := by decide +kernel
theorem dX2_isClosed_45 : decode cX2_isClosed 45 = .ok (.goto 4, 3) := by decide +kernel
theorem dX2_isClosed_48 : decode cX2_isClosed 48 = .ok (.iconst 0, 1) := by decide +kernel
theorem dX2_isClosed_49 : decode cX2_isClosed 49 = .ok (.ireturn, 1) := by decide +kernel
theorem dX2_isClosed_50 : decode cX2_isClosed 50 = .ok (.aload_n 1, 1) := by decide +kernel
theorem dX2_isClosed_51 : decode cX2_isClosed 51 = .ok (.iconst 0, 1) := by decide +kernel
theorem dX2_isClosed_52 : decode cX2_isClosed 52 = .ok (.iaload, 1) := by decide +kernel
theorem dX2_isClosed_53 : decode cX2_isClosed 53 = .ok (.iconst 1, 1) := by decide +kernel
theorem dX2_isClosed_54 : decode cX2_isClosed 54 = .ok (.iadd, 1) := by decide +kernel
theorem dX2_isClosed_55 : decode cX2_isClosed 55 = .ok (.istore 6, 2) := by decide +kernel
theorem dX2_isClosed_57 : decode cX2_isClosed 57 = .ok (.iload 6, 2) := by decide +kernel
theorem dX2_isClosed_59 : decode cX2_isClosed 59 = .ok (.aload_n 0, 1) := by decide +kernel
theorem dX2_isClosed_60 : decode cX2_isClosed 60 = .ok (.getfield 22, 3) := by decide +kernel
theorem dX2_isClosed_63 : decode cX2_isClosed 63 = .ok (.if_icmp .ge 58, 3) := by decide +kernel
theorem dX2_isClosed_66 : decode cX2_isClosed 66 = .ok (.iload 4, 2) := by decide +kernel
theorem dX2_isClosed_68 : decode cX2_isClosed 68 = .ok (.iconst 1, 1) := by decide +kernel
theorem dX2_isClosed_69 : decode cX2_isClosed 69 = .ok (.iload 6, 2) := by decide +kernel
theorem dX2_isClosed_71 : decode cX2_isClosed 71 = .ok (.ishl, 1) := by decide +kernel
theorem dX2_isClosed_72 : decode cX2_isClosed 72 = .ok (.iand, 1) := by decide +kernel
theorem dX2_isClosed_73 : decode cX2_isClosed 73 = .ok (.ifCond .ne 42, 3) := by decide +kernel
theorem dX2_isClosed_76 : decode cX2_isClosed 76 = .ok (.aload_n 0, 1) := by decide +kernel
theorem dX2_isClosed_77 : decode cX2_isClosed 77 = .ok (.getfield 31, 3) := by decide +kernel
theorem dX2_isClosed_80 : decode cX2_isClosed 80 = .ok (.iload 5, 2) := by decide +kernel
theorem dX2_isClosed_82 : decode cX2_isClosed 82 = .ok (.aaload, 1) := by decide +kernel
theorem dX2_isClosed_83 : decode cX2_isClosed 83 = .ok (.iload 6, 2) := by decide +kernel
theorem dX2_isClosed_85 : decode cX2_isClosed 85 = .ok (.iaload, 1) := by decide +kernel
theorem dX2_isClosed_86 : decode cX2_isClosed 86 = .ok (.ifCond .le 29, 3) := by decide +kernel
theorem dX2_isClosed_89 : decode cX2_isClosed 89 = .ok (.aload_n 1, 1) := by decide +kernel
theorem dX2_isClosed_90 : decode cX2_isClosed 90 = .ok (.iload_n 3, 1) := by decide +kernel
theorem dX2_isClosed_91 : decode cX2_isClosed 91 = .ok (.iload 6, 2) := by decide +kernel
theorem dX2_isClosed_93 : decode cX2_isClosed 93 = .ok (.iastore, 1) := by decide +kernel
theorem dX2_isClosed_94 : decode cX2_isClosed 94 = .ok (.aload_n 0, 1) := by decide +kernel
theorem dX2_isClosed_95 : decode cX2_isClosed 95 = .ok (.aload_n 1, 1) := by decide +kernel
theorem dX2_isClosed_96 : decode cX2_isClosed 96 = .ok (.iload_n 2, 1) := by decide +kernel
theorem dX2_isClosed_97 : decode cX2_isClosed 97 = .ok (.iload_n 3, 1) := by decide +kernel
theorem dX2_isClosed_98 : decode cX2_isClosed 98 = .ok (.iconst 1, 1) := by decide +kernel
theorem dX2_isClosed_99 : decode cX2_isClosed 99 = .ok (.iadd, 1) := by decide +kernel
theorem dX2_isClosed_100 : decode cX2_isClosed 100 = .ok (.iload 4, 2) := by decide +kernel
theorem dX2_isClosed_102 : decode cX2_isClosed 102 = .ok (.iconst 1, 1) := by decide +kernel
theorem dX2_isClosed_103 : decode cX2_isClosed 103 = .ok (.iload 6, 2) := by decide +kernel
theorem dX2_isClosed_105 : decode cX2_isClosed 105 = .ok (.ishl, 1) := by decide +kernel
theorem dX2_isClosed_106 : decode cX2_isClosed 106 = .ok (.ior, 1) := by decide +kernel
theorem dX2_isClosed_107 : decode cX2_isClosed 107 = .ok (.invokestatic 27, 3) := by decide +kernel
theorem dX2_isClosed_110 : decode cX2_isClosed 110 = .ok (.ifCond .eq 5, 3) := by decide +kernel
theorem dX2_isClosed_113 : decode cX2_isClosed 113 = .ok (.iconst 1, 1) := by decide +kernel
theorem dX2_isClosed_114 : decode cX2_isClosed 114 = .ok (.ireturn, 1) := by decide +kernel
theorem dX2_isClosed_115 : decode cX2_isClosed 115 = .ok (.iinc 6 1, 3) := by decide +kernel
theorem dX2_isClosed_118 : decode cX2_isClosed 118 = .ok (.goto (-61), 3) := by decide +kernel
theorem dX2_isClosed_121 : decode cX2_isClosed 121 = .ok (.iconst 0, 1) := by decide +kernel
theorem dX2_isClosed_122 : decode cX2_isClosed 122 = .ok (.ireturn, 1) := by decide +kernel
theorem dX2_following_0 : decode cX2_following 0 = .ok (.iload_n 1, 1) := by decide +kernel
theorem dX2_following_1 : decode cX2_following 1 = .ok (.iconst 1, 1) := by decide +kernel
theorem dX2_following_2 : decode cX2_following 2 = .ok (.iadd, 1) := by decide +kernel
theorem dX2_following_3 : decode cX2_following 3 = .ok (.aload_n 0, 1) := by decide +kernel
theorem dX2_following_4 : decode cX2_following 4 = .ok (.getfield 15, 3) := by decide +kernel
theorem dX2_following_7 : decode cX2_following 7 = .ok (.if_icmp .ge 14, 3) := by decide +kernel
theorem dX2_following_10 : decode cX2_following 10 = .ok (.aload_n 0, 1) := by decide +kernel
theorem dX2_following_11 : decode cX2_following 11 = .ok (.getfield 9, 3) := by decide +kernel
theorem dX2_following_14 : decode cX2_following 14 = .ok (.iload_n 1, 1) := by decide +kernel
theorem dX2_following_15 : decode cX2_following 15 = .ok (.iconst 1, 1) := by decide +kernel
theorem dX2_following_16 : decode cX2_following 16 = .ok (.iadd, 1) := by decide +kernel
theorem dX2_following_17 : decode cX2_following 17 = .ok (.iaload, 1) := by decide +kernel
theorem dX2_following_18 : decode cX2_following 18 = .ok (.goto 9, 3) := by decide +kernel
theorem dX2_following_21 : decode cX2_following 21 = .ok (.aload_n 0, 1) := by decide +kernel
theorem dX2_following_22 : decode cX2_following 22 = .ok (.getfield 9, 3) := by decide +kernel
theorem dX2_following_25 : decode cX2_following 25 = .ok (.iconst 0, 1) := by decide +kernel
theorem dX2_following_26 : decode cX2_following 26 = .ok (.iaload, 1) := by decide +kernel
theorem dX2_following_27 : decode cX2_following 27 = .ok (.ireturn, 1) := by decide +kernel
theorem dX2_leastDebt_0 : decode cX2_leastDebt 0 = .ok (.aload_n 1, 1) := by decide +kernel
theorem dX2_leastDebt_1 : decode cX2_leastDebt 1 = .ok (.aload_n 0, 1) := by decide +kernel
theorem dX2_leastDebt_2 : decode cX2_leastDebt 2 = .ok (.getfield 9, 3) := by decide +kernel
theorem dX2_leastDebt_5 : decode cX2_leastDebt 5 = .ok (.iconst 0, 1) := by decide +kernel
theorem dX2_leastDebt_6 : decode cX2_leastDebt 6 = .ok (.iaload, 1) := by decide +kernel
theorem dX2_leastDebt_7 : decode cX2_leastDebt 7 = .ok (.aaload, 1) := by decide +kernel
theorem dX2_leastDebt_8 : decode cX2_leastDebt 8 = .ok (.aload_n 0, 1) := by decide +kernel
theorem dX2_leastDebt_9 : decode cX2_leastDebt 9 = .ok (.iconst 0, 1) := by decide +kernel
theorem dX2_leastDebt_10 : decode cX2_leastDebt 10 = .ok (.invokevirtual 39, 3) := by decide +kernel
theorem dX2_leastDebt_13 : decode cX2_leastDebt 13 = .ok (.iaload, 1) := by decide +kernel
theorem dX2_leastDebt_14 : decode cX2_leastDebt 14 = .ok (.istore_n 2, 1) := by decide +kernel
theorem dX2_leastDebt_15 : decode cX2_leastDebt 15 = .ok (.iconst 1, 1) := by decide +kernel
theorem dX2_leastDebt_16 : decode cX2_leastDebt 16 = .ok (.istore_n 3, 1) := by decide +kernel
theorem dX2_leastDebt_17 : decode cX2_leastDebt 17 = .ok (.iload_n 3, 1) := by decide +kernel
theorem dX2_leastDebt_18 : decode cX2_leastDebt 18 = .ok (.aload_n 0, 1) := by decide +kernel
theorem dX2_leastDebt_19 : decode cX2_leastDebt 19 = .ok (.getfield 15, 3) := by decide +kernel
theorem dX2_leastDebt_22 : decode cX2_leastDebt 22 = .ok (.if_icmp .ge 28, 3) := by decide +kernel
theorem dX2_leastDebt_25 : decode cX2_leastDebt 25 = .ok (.iload_n 2, 1) := by decide +kernel
theorem dX2_leastDebt_26 : decode cX2_leastDebt 26 = .ok (.aload_n 1, 1) := by decide +kernel
theorem dX2_leastDebt_27 : decode cX2_leastDebt 27 = .ok (.aload_n 0, 1) := by decide +kernel
theorem dX2_leastDebt_28 : decode cX2_leastDebt 28 = .ok (.getfield 9, 3) := by decide +kernel
theorem dX2_leastDebt_31 : decode cX2_leastDebt 31 = .ok (.iload_n 3, 1) := by decide +kernel
theorem dX2_leastDebt_32 : decode cX2_leastDebt 32 = .ok (.iaload, 1) := by decide +kernel
theorem dX2_leastDebt_33 : decode cX2_leastDebt 33 = .ok (.aaload, 1) := by decide +kernel
theorem dX2_leastDebt_34 : decode cX2_leastDebt 34 = .ok (.aload_n 0, 1) := by decide +kernel
theorem dX2_leastDebt_35 : decode cX2_leastDebt 35 = .ok (.iload_n 3, 1) := by decide +kernel
theorem dX2_leastDebt_36 : decode cX2_leastDebt 36 = .ok (.invokevirtual 39, 3) := by decide +kernel
theorem dX2_leastDebt_39 : decode cX2_leastDebt 39 = .ok (.iaload, 1) := by decide +kernel
theorem dX2_leastDebt_40 : decode cX2_leastDebt 40 = .ok (.invokestatic 43, 3) := by decide +kernel
theorem dX2_leastDebt_43 : decode cX2_leastDebt 43 = .ok (.istore_n 2, 1) := by decide +kernel
theorem dX2_leastDebt_44 : decode cX2_leastDebt 44 = .ok (.iinc 3 1, 3) := by decide +kernel
theorem dX2_leastDebt_47 : decode cX2_leastDebt 47 = .ok (.goto (-30), 3) := by decide +kernel
theorem dX2_leastDebt_50 : decode cX2_leastDebt 50 = .ok (.iload_n 2, 1) := by decide +kernel
theorem dX2_leastDebt_51 : decode cX2_leastDebt 51 = .ok (.ireturn, 1) := by decide +kernel
theorem dX2_tell_0 : decode cX2_tell 0 = .ok (.aload_n 0, 1) := by decide +kernel
theorem dX2_tell_1 : decode cX2_tell 1 = .ok (.getfield 15, 3) := by decide +kernel
theorem dX2_tell_4 : decode cX2_tell 4 = .ok (.ifCond .ne 5, 3) := by decide +kernel
theorem dX2_tell_7 : decode cX2_tell 7 = .ok (.iconst (-1), 1) := by decide +kernel
theorem dX2_tell_8 : decode cX2_tell 8 = .ok (.ireturn, 1) := by decide +kernel
theorem dX2_tell_9 : decode cX2_tell 9 = .ok (.iload_n 1, 1) := by decide +kernel
theorem dX2_tell_10 : decode cX2_tell 10 = .ok (.bipush 10, 2) := by decide +kernel
theorem dX2_tell_12 : decode cX2_tell 12 = .ok (.if_icmp .ge 19, 3) := by decide +kernel
theorem dX2_tell_15 : decode cX2_tell 15 = .ok (.iload_n 1, 1) := by decide +kernel
theorem dX2_tell_16 : decode cX2_tell 16 = .ok (.ifCond .ne 10, 3) := by decide +kernel
theorem dX2_tell_19 : decode cX2_tell 19 = .ok (.aload_n 0, 1) := by decide +kernel
theorem dX2_tell_20 : decode cX2_tell 20 = .ok (.getfield 15, 3) := by decide +kernel
theorem dX2_tell_23 : decode cX2_tell 23 = .ok (.goto 7, 3) := by decide +kernel
theorem dX2_tell_26 : decode cX2_tell 26 = .ok (.aload_n 0, 1) := by decide +kernel
theorem dX2_tell_27 : decode cX2_tell 27 = .ok (.getfield 19, 3) := by decide +kernel
theorem dX2_tell_30 : decode cX2_tell 30 = .ok (.ireturn, 1) := by decide +kernel
theorem dX2_tell_31 : decode cX2_tell 31 = .ok (.iload_n 1, 1) := by decide +kernel
theorem dX2_tell_32 : decode cX2_tell 32 = .ok (.bipush 10, 2) := by decide +kernel
theorem dX2_tell_34 : decode cX2_tell 34 = .ok (.isub, 1) := by decide +kernel
theorem dX2_tell_35 : decode cX2_tell 35 = .ok (.istore_n 2, 1) := by decide +kernel
theorem dX2_tell_36 : decode cX2_tell 36 = .ok (.iload_n 2, 1) := by decide +kernel
theorem dX2_tell_37 : decode cX2_tell 37 = .ok (.aload_n 0, 1) := by decide +kernel
theorem dX2_tell_38 : decode cX2_tell 38 = .ok (.getfield 15, 3) := by decide +kernel
theorem dX2_tell_41 : decode cX2_tell 41 = .ok (.if_icmp .ge 12, 3) := by decide +kernel
theorem dX2_tell_44 : decode cX2_tell 44 = .ok (.aload_n 0, 1) := by decide +kernel
theorem dX2_tell_45 : decode cX2_tell 45 = .ok (.getfield 9, 3) := by decide +kernel
theorem dX2_tell_48 : decode cX2_tell 48 = .ok (.iload_n 2, 1) := by decide +kernel
theorem dX2_tell_49 : decode cX2_tell 49 = .ok (.iaload, 1) := by decide +kernel
theorem dX2_tell_50 : decode cX2_tell 50 = .ok (.goto 4, 3) := by decide +kernel
theorem dX2_tell_53 : decode cX2_tell 53 = .ok (.iconst (-1), 1) := by decide +kernel
theorem dX2_tell_54 : decode cX2_tell 54 = .ok (.ireturn, 1) := by decide +kernel
theorem dX3_init_0 : decode cX3_init 0 = .ok (.aload_n 0, 1) := by decide +kernel
theorem dX3_init_1 : decode cX3_init 1 = .ok (.invokespecial 3, 3) := by decide +kernel
theorem dX3_init_4 : decode cX3_init 4 = .ok (.aload_n 0, 1) := by decide +kernel
theorem dX3_init_5 : decode cX3_init 5 = .ok (.bipush 24, 2) := by decide +kernel
theorem dX3_init_7 : decode cX3_init 7 = .ok (.newarray .int, 2) := by decide +kernel
theorem dX3_init_9 : decode cX3_init 9 = .ok (.putfield 9, 3) := by decide +kernel
theorem dX3_init_12 : decode cX3_init 12 = .ok (.aload_n 0, 1) := by decide +kernel
theorem dX3_init_13 : decode cX3_init 13 = .ok (.bipush 24, 2) := by decide +kernel
theorem dX3_init_15 : decode cX3_init 15 = .ok (.newarray .int, 2) := by decide +kernel
theorem dX3_init_17 : decode cX3_init 17 = .ok (.putfield 15, 3) := by decide +kernel
theorem dX3_init_20 : decode cX3_init 20 = .ok (.aload_n 0, 1) := by decide +kernel
theorem dX3_init_21 : decode cX3_init 21 = .ok (.bipush 12, 2) := by decide +kernel
theorem dX3_init_23 : decode cX3_init 23 = .ok (.newarray .int, 2) := by decide +kernel
theorem dX3_init_25 : decode cX3_init 25 = .ok (.putfield 18, 3) := by decide +kernel
theorem dX3_init_28 : decode cX3_init 28 = .ok (.return_, 1) := by decide +kernel
theorem dX3_hasPin_0 : decode cX3_hasPin 0 = .ok (.aload_n 0, 1) := by decide +kernel
theorem dX3_hasPin_1 : decode cX3_hasPin 1 = .ok (.getfield 9, 3) := by decide +kernel
theorem dX3_hasPin_4 : decode cX3_hasPin 4 = .ok (.iload_n 1, 1) := by decide +kernel
theorem dX3_hasPin_5 : decode cX3_hasPin 5 = .ok (.iaload, 1) := by decide +kernel
theorem dX3_hasPin_6 : decode cX3_hasPin 6 = .ok (.iconst 1, 1) := by decide +kernel
theorem dX3_hasPin_7 : decode cX3_hasPin 7 = .ok (.iload_n 2, 1) := by decide +kernel
theorem dX3_hasPin_8 : decode cX3_hasPin 8 = .ok (.ishl, 1) := by decide +kernel
theorem dX3_hasPin_9 : decode cX3_hasPin 9 = .ok (.iand, 1) := by decide +kernel
theorem dX3_hasPin_10 : decode cX3_hasPin 10 = .ok (.ifCond .eq 7, 3) := by decide +kernel
theorem dX3_hasPin_13 : decode cX3_hasPin 13 = .ok (.iconst 1, 1) := by decide +kernel
theorem dX3_hasPin_14 : decode cX3_hasPin 14 = .ok (.goto 4, 3) := by decide +kernel
theorem dX3_hasPin_17 : decode cX3_hasPin 17 = .ok (.iconst 0, 1) := by decide +kernel
theorem dX3_hasPin_18 : decode cX3_hasPin 18 = .ok (.ireturn, 1) := by decide +kernel
theorem dX3_rightPins_0 : decode cX3_rightPins 0 = .ok (.aload_n 0, 1) := by decide +kernel
theorem dX3_rightPins_1 : decode cX3_rightPins 1 = .ok (.getfield 9, 3) := by decide +kernel
theorem dX3_rightPins_4 : decode cX3_rightPins 4 = .ok (.aload_n 0, 1) := by decide +kernel
theorem dX3_rightPins_5 : decode cX3_rightPins 5 = .ok (.getfield 15, 3) := by decide +kernel
theorem dX3_rightPins_8 : decode cX3_rightPins 8 = .ok (.invokestatic 21, 3) := by decide +kernel
theorem dX3_rightPins_11 : decode cX3_rightPins 11 = .ok (.ireturn, 1) := by decide +kernel
theorem dX3_rightIfTurned_0 : decode cX3_rightIfTurned 0 = .ok (.iconst 0, 1) := by decide +kernel
theorem dX3_rightIfTurned_1 : decode cX3_rightIfTurned 1 = .ok (.istore_n 2, 1) := by decide +kernel
theorem dX3_rightIfTurned_2 : decode cX3_rightIfTurned 2 = .ok (.iconst 0, 1) := by decide +kernel
theorem dX3_rightIfTurned_3 : decode cX3_rightIfTurned 3 = .ok (.istore_n 3, 1) := by decide +kernel
theorem dX3_rightIfTurned_4 : decode cX3_rightIfTurned 4 = .ok (.iload_n 3, 1) := by decide +kernel
theorem dX3_rightIfTurned_5 : decode cX3_rightIfTurned 5 = .ok (.bipush 24, 2) := by decide +kernel
theorem dX3_rightIfTurned_7 : decode cX3_rightIfTurned 7 = .ok (.if_icmp .ge 33, 3) := by decide +kernel
theorem dX3_rightIfTurned_10 : decode cX3_rightIfTurned 10 = .ok (.iload_n 2, 1) := by decide +kernel
theorem dX3_rightIfTurned_11 : decode cX3_rightIfTurned 11 = .ok (.aload_n 0, 1) := by decide +kernel
theorem dX3_rightIfTurned_12 : decode cX3_rightIfTurned 12 = .ok (.getfield 9, 3) := by decide +kernel
theorem dX3_rightIfTurned_15 : decode cX3_rightIfTurned 15 = .ok (.iload_n 3, 1) := by decide +kernel
theorem dX3_rightIfTurned_16 : decode cX3_rightIfTurned 16 = .ok (.iaload, 1) := by decide +kernel
theorem dX3_rightIfTurned_17 : decode cX3_rightIfTurned 17 = .ok (.aload_n 0, 1) := by decide +kernel
theorem dX3_rightIfTurned_18 : decode cX3_rightIfTurned 18 = .ok (.getfield 15, 3) := by decide +kernel
theorem dX3_rightIfTurned_21 : decode cX3_rightIfTurned 21 = .ok (.iload_n 3, 1) := by decide +kernel
theorem dX3_rightIfTurned_22 : decode cX3_rightIfTurned 22 = .ok (.iload_n 1, 1) := by decide +kernel
theorem dX3_rightIfTurned_23 : decode cX3_rightIfTurned 23 = .ok (.iadd, 1) := by decide +kernel
theorem dX3_rightIfTurned_24 : decode cX3_rightIfTurned 24 = .ok (.bipush 24, 2) := by decide +kernel
theorem dX3_rightIfTurned_26 : decode cX3_rightIfTurned 26 = .ok (.irem, 1) := by decide +kernel
theorem dX3_rightIfTurned_27 : decode cX3_rightIfTurned 27 = .ok (.iaload, 1) := by decide +kernel
theorem dX3_rightIfTurned_28 : decode cX3_rightIfTurned 28 = .ok (.iand, 1) := by decide +kernel
theorem dX3_rightIfTurned_29 : decode cX3_rightIfTurned 29 = .ok (.invokestatic 25, 3) := by decide +kernel
theorem dX3_rightIfTurned_32 : decode cX3_rightIfTurned 32 = .ok (.iadd, 1) := by decide +kernel
theorem dX3_rightIfTurned_33 : decode cX3_rightIfTurned 33 = .ok (.istore_n 2, 1) := by decide +kernel
theorem dX3_rightIfTurned_34 : decode cX3_rightIfTurned 34 = .ok (.iinc 3 1, 3) := by decide +kernel
theorem dX3_rightIfTurned_37 : decode cX3_rightIfTurned 37 = .ok (.goto (-33), 3) := by decide +kernel
theorem dX3_rightIfTurned_40 : decode cX3_rightIfTurned 40 = .ok (.iload_n 2, 1) := by decide +kernel
theorem dX3_rightIfTurned_41 : decode cX3_rightIfTurned 41 = .ok (.ireturn, 1) := by decide +kernel
theorem dX3_takeOver_0 : decode cX3_takeOver 0 = .ok (.aload_n 1, 1) := by decide +kernel
theorem dX3_takeOver_1 : decode cX3_takeOver 1 = .ok (.getfield 31, 3) := by decide +kernel
theorem dX3_takeOver_4 : decode cX3_takeOver 4 = .ok (.aload_n 0, 1) := by decide +kernel
theorem dX3_takeOver_5 : decode cX3_takeOver 5 = .ok (.getfield 9, 3) := by decide +kernel
theorem dX3_takeOver_8 : decode cX3_takeOver 8 = .ok (.invokestatic 34, 3) := by decide +kernel
theorem dX3_takeOver_11 : decode cX3_takeOver 11 = .ok (.aload_n 1, 1) := by decide +kernel
theorem dX3_takeOver_12 : decode cX3_takeOver 12 = .ok (.getfield 38, 3) := by decide +kernel
theorem dX3_takeOver_15 : decode cX3_takeOver 15 = .ok (.aload_n 0, 1) := by decide +kernel
theorem dX3_takeOver_16 : decode cX3_takeOver 16 = .ok (.getfield 18, 3) := by decide +kernel
theorem dX3_takeOver_19 : decode cX3_takeOver 19 = .ok (.invokestatic 34, 3) := by decide +kernel
theorem dX3_takeOver_22 : decode cX3_takeOver 22 = .ok (.aload_n 0, 1) := by decide +kernel
theorem dX3_takeOver_23 : decode cX3_takeOver 23 = .ok (.dup, 1) := by decide +kernel
theorem dX3_takeOver_24 : decode cX3_takeOver 24 = .ok (.getfield 39, 3) := by decide +kernel
theorem dX3_takeOver_27 : decode cX3_takeOver 27 = .ok (.aload_n 1, 1) := by decide +kernel
theorem dX3_takeOver_28 : decode cX3_takeOver 28 = .ok (.getfield 43, 3) := by decide +kernel
theorem dX3_takeOver_31 : decode cX3_takeOver 31 = .ok (.iadd, 1) := by decide +kernel
theorem dX3_takeOver_32 : decode cX3_takeOver 32 = .ok (.putfield 39, 3) := by decide +kernel
theorem dX3_takeOver_35 : decode cX3_takeOver 35 = .ok (.aload_n 0, 1) := by decide +kernel
theorem dX3_takeOver_36 : decode cX3_takeOver 36 = .ok (.dup, 1) := by decide +kernel
theorem dX3_takeOver_37 : decode cX3_takeOver 37 = .ok (.getfield 46, 3) := by decide +kernel
theorem dX3_takeOver_40 : decode cX3_takeOver 40 = .ok (.iconst 1, 1) := by decide +kernel
theorem dX3_takeOver_41 : decode cX3_takeOver 41 = .ok (.iadd, 1) := by decide +kernel
theorem dX3_takeOver_42 : decode cX3_takeOver 42 = .ok (.putfield 46, 3) := by decide +kernel
theorem dX3_takeOver_45 : decode cX3_takeOver 45 = .ok (.aload_n 0, 1) := by decide +kernel
theorem dX3_takeOver_46 : decode cX3_takeOver 46 = .ok (.dup, 1) := by decide +kernel
theorem dX3_takeOver_47 : decode cX3_takeOver 47 = .ok (.getfield 49, 3) := by decide +kernel
theorem dX3_takeOver_50 : decode cX3_takeOver 50 = .ok (.aload_n 1, 1) := by decide +kernel
theorem dX3_takeOver_51 : decode cX3_takeOver 51 = .ok (.getfield 52, 3) := by decide +kernel
theorem dX3_takeOver_54 : decode cX3_takeOver 54 = .ok (.iadd, 1) := by decide +kernel
theorem dX3_takeOver_55 : decode cX3_takeOver 55 = .ok (.putfield 49, 3) := by decide +kernel
theorem dX3_takeOver_58 : decode cX3_takeOver 58 = .ok (.aload_n 0, 1) := by decide +kernel
theorem dX3_takeOver_59 : decode cX3_takeOver 59 = .ok (.dup, 1) := by decide +kernel
theorem dX3_takeOver_60 : decode cX3_takeOver 60 = .ok (.getfield 53, 3) := by decide +kernel
theorem dX3_takeOver_63 : decode cX3_takeOver 63 = .ok (.aload_n 1, 1) := by decide +kernel
theorem dX3_takeOver_64 : decode cX3_takeOver 64 = .ok (.getfield 43, 3) := by decide +kernel
theorem dX3_takeOver_67 : decode cX3_takeOver 67 = .ok (.iadd, 1) := by decide +kernel
theorem dX3_takeOver_68 : decode cX3_takeOver 68 = .ok (.putfield 53, 3) := by decide +kernel
theorem dX3_takeOver_71 : decode cX3_takeOver 71 = .ok (.return_, 1) := by decide +kernel
theorem dX3_takeFrom_0 : decode cX3_takeFrom 0 = .ok (.aload_n 0, 1) := by decide +kernel
theorem dX3_takeFrom_1 : decode cX3_takeFrom 1 = .ok (.aload_n 1, 1) := by decide +kernel
theorem dX3_takeFrom_2 : decode cX3_takeFrom 2 = .ok (.getfield 39, 3) := by decide +kernel
theorem dX3_takeFrom_5 : decode cX3_takeFrom 5 = .ok (.putfield 39, 3) := by decide +kernel
theorem dX3_takeFrom_8 : decode cX3_takeFrom 8 = .ok (.aload_n 1, 1) := by decide +kernel
theorem dX3_takeFrom_9 : decode cX3_takeFrom 9 = .ok (.getfield 9, 3) := by decide +kernel
theorem dX3_takeFrom_12 : decode cX3_takeFrom 12 = .ok (.aload_n 0, 1) := by decide +kernel
theorem dX3_takeFrom_13 : decode cX3_takeFrom 13 = .ok (.getfield 9, 3) := by decide +kernel
theorem dX3_takeFrom_16 : decode cX3_takeFrom 16 = .ok (.invokestatic 34, 3) := by decide +kernel
theorem dX3_takeFrom_19 : decode cX3_takeFrom 19 = .ok (.aload_n 1, 1) := by decide +kernel
theorem dX3_takeFrom_20 : decode cX3_takeFrom 20 = .ok (.getfield 15, 3) := by decide +kernel
theorem dX3_takeFrom_23 : decode cX3_takeFrom 23 = .ok (.aload_n 0, 1) := by decide +kernel
theorem dX3_takeFrom_24 : decode cX3_takeFrom 24 = .ok (.getfield 15, 3) := by decide +kernel
theorem dX3_takeFrom_27 : decode cX3_takeFrom 27 = .ok (.invokestatic 34, 3) := by decide +kernel
theorem dX3_takeFrom_30 : decode cX3_takeFrom 30 = .ok (.aload_n 1, 1) := by decide +kernel
theorem dX3_takeFrom_31 : decode cX3_takeFrom 31 = .ok (.getfield 18, 3) := by decide +kernel
theorem dX3_takeFrom_34 : decode cX3_takeFrom 34 = .ok (.aload_n 0, 1) := by decide +kernel
theorem dX3_takeFrom_35 : decode cX3_takeFrom 35 = .ok (.getfield 18, 3) := by decide +kernel
theorem dX3_takeFrom_38 : decode cX3_takeFrom 38 = .ok (.invokestatic 34, 3) := by decide +kernel
theorem dX3_takeFrom_41 : decode cX3_takeFrom 41 = .ok (.aload_n 0, 1) := by decide +kernel
theorem dX3_takeFrom_42 : decode cX3_takeFrom 42 = .ok (.aload_n 1, 1) := by decide +kernel
theorem dX3_takeFrom_43 : decode cX3_takeFrom 43 = .ok (.getfield 46, 3) := by decide +kernel
theorem dX3_takeFrom_46 : decode cX3_takeFrom 46 = .ok (.putfield 46, 3) := by decide +kernel
theorem dX3_takeFrom_49 : decode cX3_takeFrom 49 = .ok (.aload_n 0, 1) := by decide +kernel
theorem dX3_takeFrom_50 : decode cX3_takeFrom 50 = .ok (.aload_n 1, 1) := by decide +kernel
theorem dX3_takeFrom_51 : decode cX3_takeFrom 51 = .ok (.getfield 49, 3) := by decide +kernel
theorem dX3_takeFrom_54 : decode cX3_takeFrom 54 = .ok (.putfield 49, 3) := by decide +kernel
theorem dX3_takeFrom_57 : decode cX3_takeFrom 57 = .ok (.aload_n 0, 1) := by decide +kernel
theorem dX3_takeFrom_58 : decode cX3_takeFrom 58 = .ok (.aload_n 1, 1) := by decide +kernel
theorem dX3_takeFrom_59 : decode cX3_takeFrom 59 = .ok (.getfield 53, 3) := by decide +kernel
theorem dX3_takeFrom_62 : decode cX3_takeFrom 62 = .ok (.putfield 53, 3) := by decide +kernel
theorem dX3_takeFrom_65 : decode cX3_takeFrom 65 = .ok (.return_, 1) := by decide +kernel
theorem dX4_init_0 : decode cX4_init 0 = .ok (.aload_n 0, 1) := by decide +kernel
theorem dX4_init_1 : decode cX4_init 1 = .ok (.invokespecial 3, 3) := by decide +kernel
theorem dX4_init_4 : decode cX4_init 4 = .ok (.aload_n 0, 1) := by decide +kernel
theorem dX4_init_5 : decode cX4_init 5 = .ok (.bipush 6, 2) := by decide +kernel
theorem dX4_init_7 : decode cX4_init 7 = .ok (.bipush 6, 2) := by decide +kernel
theorem dX4_init_9 : decode cX4_init 9 = .ok (.multianewarray 9 2, 4) := by decide +kernel
theorem dX4_init_13 : decode cX4_init 13 = .ok (.putfield 11, 3) := by decide +kernel
theorem dX4_init_16 : decode cX4_init 16 = .ok (.aload_n 0, 1) := by decide +kernel
theorem dX4_init_17 : decode cX4_init 17 = .ok (.bipush 64, 2) := by decide +kernel
theorem dX4_init_19 : decode cX4_init 19 = .ok (.newarray .int, 2) := by decide +kernel
theorem dX4_init_21 : decode cX4_init 21 = .ok (.putfield 16, 3) := by decide +kernel
theorem dX4_init_24 : decode cX4_init 24 = .ok (.aload_n 0, 1) := by decide +kernel
theorem dX4_init_25 : decode cX4_init 25 = .ok (.bipush 6, 2) := by decide +kernel
theorem dX4_init_27 : decode cX4_init 27 = .ok (.newarray .int, 2) := by decide +kernel
theorem dX4_init_29 : decode cX4_init 29 = .ok (.putfield 20, 3) := by decide +kernel
theorem dX4_init_32 : decode cX4_init 32 = .ok (.return_, 1) := by decide +kernel
theorem dX4_find_0 : decode cX4_find 0 = .ok (.aload_n 0, 1) := by decide +kernel
theorem dX4_find_1 : decode cX4_find 1 = .ok (.aload_n 1, 1) := by decide +kernel
theorem dX4_find_2 : decode cX4_find 2 = .ok (.getfield 23, 3) := by decide +kernel
theorem dX4_find_5 : decode cX4_find 5 = .ok (.putfield 29, 3) := by decide +kernel
theorem dX4_find_8 : decode cX4_find 8 = .ok (.iconst 0, 1) := by decide +kernel
theorem dX4_find_9 : decode cX4_find 9 = .ok (.istore_n 2, 1) := by decide +kernel
theorem dX4_find_10 : decode cX4_find 10 = .ok (.iload_n 2, 1) := by decide +kernel
theorem dX4_find_11 : decode cX4_find 11 = .ok (.aload_n 0, 1) := by decide +kernel
theorem dX4_find_12 : decode cX4_find 12 = .ok (.getfield 29, 3) := by decide +kernel
theorem dX4_find_15 : decode cX4_find 15 = .ok (.if_icmp .ge 54, 3) := by decide +kernel
theorem dX4_find_18 : decode cX4_find 18 = .ok (.iconst 0, 1) := by decide +kernel
theorem dX4_find_19 : decode cX4_find 19 = .ok (.istore_n 3, 1) := by decide +kernel
theorem dX4_find_20 : decode cX4_find 20 = .ok (.iload_n 3, 1) := by decide +kernel
theorem dX4_find_21 : decode cX4_find 21 = .ok (.aload_n 0, 1) := by decide +kernel
theorem dX4_find_22 : decode cX4_find 22 = .ok (.getfield 29, 3) := by decide +kernel
theorem dX4_find_25 : decode cX4_find 25 = .ok (.if_icmp .ge 38, 3) := by decide +kernel
theorem dX4_find_28 : decode cX4_find 28 = .ok (.aload_n 0, 1) := by decide +kernel
theorem dX4_find_29 : decode cX4_find 29 = .ok (.getfield 11, 3) := by decide +kernel
theorem dX4_find_32 : decode cX4_find 32 = .ok (.iload_n 2, 1) := by decide +kernel
theorem dX4_find_33 : decode cX4_find 33 = .ok (.aaload, 1) := by decide +kernel
theorem dX4_find_34 : decode cX4_find 34 = .ok (.iload_n 3, 1) := by decide +kernel
theorem dX4_find_35 : decode cX4_find 35 = .ok (.aload_n 1, 1) := by decide +kernel
theorem dX4_find_36 : decode cX4_find 36 = .ok (.getfield 30, 3) := by decide +kernel
theorem dX4_find_39 : decode cX4_find 39 = .ok (.iload_n 3, 1) := by decide +kernel
theorem dX4_find_40 : decode cX4_find 40 = .ok (.aaload, 1) := by decide +kernel
theorem dX4_find_41 : decode cX4_find 41 = .ok (.getfield 34, 3) := by decide +kernel
theorem dX4_find_44 : decode cX4_find 44 = .ok (.aload_n 1, 1) := by decide +kernel
theorem dX4_find_45 : decode cX4_find 45 = .ok (.getfield 30, 3) := by decide +kernel
theorem dX4_find_48 : decode cX4_find 48 = .ok (.iload_n 2, 1) := by decide +kernel
theorem dX4_find_49 : decode cX4_find 49 = .ok (.aaload, 1) := by decide +kernel
theorem dX4_find_50 : decode cX4_find 50 = .ok (.getfield 39, 3) := by decide +kernel
theorem dX4_find_53 : decode cX4_find 53 = .ok (.invokestatic 42, 3) := by decide +kernel
theorem dX4_find_56 : decode cX4_find 56 = .ok (.iastore, 1) := by decide +kernel
theorem dX4_find_57 : decode cX4_find 57 = .ok (.iinc 3 1, 3) := by decide +kernel
theorem dX4_find_60 : decode cX4_find 60 = .ok (.goto (-40), 3) := by decide +kernel
theorem dX4_find_63 : decode cX4_find 63 = .ok (.iinc 2 1, 3) := by decide +kernel
theorem dX4_find_66 : decode cX4_find 66 = .ok (.goto (-56), 3) := by decide +kernel
theorem dX4_find_69 : decode cX4_find 69 = .ok (.iconst 1, 1) := by decide +kernel
theorem dX4_find_70 : decode cX4_find 70 = .ok (.aload_n 0, 1) := by decide +kernel
theorem dX4_find_71 : decode cX4_find 71 = .ok (.getfield 29, 3) := by decide +kernel
theorem dX4_find_74 : decode cX4_find 74 = .ok (.ishl, 1) := by decide +kernel
theorem dX4_find_75 : decode cX4_find 75 = .ok (.iconst 1, 1) := by decide +kernel
theorem dX4_find_76 : decode cX4_find 76 = .ok (.isub, 1) := by decide +kernel
theorem dX4_find_77 : decode cX4_find 77 = .ok (.istore_n 2, 1) := by decide +kernel
theorem dX4_find_78 : decode cX4_find 78 = .ok (.aload_n 0, 1) := by decide +kernel
theorem dX4_find_79 : decode cX4_find 79 = .ok (.getfield 16, 3) := by decide +kernel
theorem dX4_find_82 : decode cX4_find 82 = .ok (.iload_n 2, 1) := by decide +kernel
theorem dX4_find_83 : decode cX4_find 83 = .ok (.iconst 0, 1) := by decide +kernel
theorem dX4_find_84 : decode cX4_find 84 = .ok (.iastore, 1) := by decide +kernel
theorem dX4_find_85 : decode cX4_find 85 = .ok (.iload_n 2, 1) := by decide +kernel
theorem dX4_find_86 : decode cX4_find 86 = .ok (.iconst 1, 1) := by decide +kernel
theorem dX4_find_87 : decode cX4_find 87 = .ok (.isub, 1) := by decide +kernel
theorem dX4_find_88 : decode cX4_find 88 = .ok (.istore_n 3, 1) := by decide +kernel
theorem dX4_find_89 : decode cX4_find 89 = .ok (.iload_n 3, 1) := by decide +kernel
theorem dX4_find_90 : decode cX4_find 90 = .ok (.ifCond .lt 33, 3) := by decide +kernel
theorem dX4_find_93 : decode cX4_find 93 = .ok (.iload_n 3, 1) := by decide +kernel
theorem dX4_find_94 : decode cX4_find 94 = .ok (.invokestatic 46, 3) := by decide +kernel
theorem dX4_find_97 : decode cX4_find 97 = .ok (.istore 4, 2) := by decide +kernel
theorem dX4_find_99 : decode cX4_find 99 = .ok (.aload_n 0, 1) := by decide +kernel
theorem dX4_find_100 : decode cX4_find 100 = .ok (.getfield 16, 3) := by decide +kernel
theorem dX4_find_103 : decode cX4_find 103 = .ok (.iload_n 3, 1) := by decide +kernel
theorem dX4_find_104 : decode cX4_find 104 = .ok (.aload_n 0, 1) := by decide +kernel
theorem dX4_find_105 : decode cX4_find 105 = .ok (.iload 4, 2) := by decide +kernel
theorem dX4_find_107 : decode cX4_find 107 = .ok (.aload_n 0, 1) := by decide +kernel
theorem dX4_find_108 : decode cX4_find 108 = .ok (.iload_n 3, 1) := by decide +kernel
theorem dX4_find_109 : decode cX4_find 109 = .ok (.invokevirtual 52, 3) := by decide +kernel
theorem dX4_find_112 : decode cX4_find 112 = .ok (.iload_n 3, 1) := by decide +kernel
theorem dX4_find_113 : decode cX4_find 113 = .ok (.invokevirtual 55, 3) := by decide +kernel
theorem dX4_find_116 : decode cX4_find 116 = .ok (.iastore, 1) := by decide +kernel
theorem dX4_find_117 : decode cX4_find 117 = .ok (.iinc 3 (-1), 3) := by decide +kernel
theorem dX4_find_120 : decode cX4_find 120 = .ok (.goto (-31), 3) := by decide +kernel
theorem dX4_find_123 : decode cX4_find 123 = .ok (.aload_n 0, 1) := by decide +kernel
theorem dX4_find_124 : decode cX4_find 124 = .ok (.aload_n 0, 1) := by decide +kernel
theorem dX4_find_125 : decode cX4_find 125 = .ok (.getfield 16, 3) := by decide +kernel
theorem dX4_find_128 : decode cX4_find 128 = .ok (.iconst 0, 1) := by decide +kernel
theorem dX4_find_129 : decode cX4_find 129 = .ok (.iaload, 1) := by decide +kernel
theorem dX4_find_130 : decode cX4_find 130 = .ok (.putfield 59, 3) := by decide +kernel
theorem dX4_find_133 : decode cX4_find 133 = .ok (.aload_n 0, 1) := by decide +kernel
theorem dX4_find_134 : decode cX4_find 134 = .ok (.invokevirtual 62, 3) := by decide +kernel
theorem dX4_find_137 : decode cX4_find 137 = .ok (.return_, 1) := by decide +kernel
theorem dX4_choose_0 : decode cX4_choose 0 = .ok (.iconst 0, 1) := by decide +kernel
theorem dX4_choose_1 : decode cX4_choose 1 = .ok (.istore_n 1, 1) := by decide +kernel
theorem dX4_choose_2 : decode cX4_choose 2 = .ok (.iconst 0, 1) := by decide +kernel
theorem dX4_choose_3 : decode cX4_choose 3 = .ok (.istore_n 2, 1) := by decide +kernel
theorem dX4_choose_4 : decode cX4_choose 4 = .ok (.iload_n 2, 1) := by decide +kernel
theorem dX4_choose_5 : decode cX4_choose 5 = .ok (.aload_n 0, 1) := by decide +kernel
theorem dX4_choose_6 : decode cX4_choose 6 = .ok (.getfield 29, 3) := by decide +kernel
theorem dX4_choose_9 : decode cX4_choose 9 = .ok (.if_icmp .ge 28, 3) := by decide +kernel
theorem dX4_choose_12 : decode cX4_choose 12 = .ok (.aload_n 0, 1) := by decide +kernel
theorem dX4_choose_13 : decode cX4_choose 13 = .ok (.iload_n 1, 1) := by decide +kernel
theorem dX4_choose_14 : decode cX4_choose 14 = .ok (.invokevirtual 52, 3) := by decide +kernel
theorem dX4_choose_17 : decode cX4_choose 17 = .ok (.istore_n 3, 1) := by decide +kernel
theorem dX4_choose_18 : decode cX4_choose 18 = .ok (.aload_n 0, 1) := by decide +kernel
theorem dX4_choose_19 : decode cX4_choose 19 = .ok (.getfield 20, 3) := by decide +kernel
theorem dX4_choose_22 : decode cX4_choose 22 = .ok (.iload_n 2, 1) := by decide +kernel
theorem dX4_choose_23 : decode cX4_choose 23 = .ok (.iload_n 3, 1) := by decide +kernel
theorem dX4_choose_24 : decode cX4_choose 24 = .ok (.iastore, 1) := by decide +kernel
theorem dX4_choose_25 : decode cX4_choose 25 = .ok (.iload_n 1, 1) := by decide +kernel
theorem dX4_choose_26 : decode cX4_choose 26 = .ok (.iconst 1, 1) := by decide +kernel
theorem dX4_choose_27 : decode cX4_choose 27 = .ok (.iload_n 3, 1) := by decide +kernel
theorem dX4_choose_28 : decode cX4_choose 28 = .ok (.ishl, 1) := by decide +kernel
theorem dX4_choose_29 : decode cX4_choose 29 = .ok (.ior, 1) := by decide +kernel
theorem dX4_choose_30 : decode cX4_choose 30 = .ok (.istore_n 1, 1) := by decide +kernel
theorem dX4_choose_31 : decode cX4_choose 31 = .ok (.iinc 2 1, 3) := by decide +kernel
theorem dX4_choose_34 : decode cX4_choose 34 = .ok (.goto (-30), 3) := by decide +kernel
theorem dX4_choose_37 : decode cX4_choose 37 = .ok (.return_, 1) := by decide +kernel
theorem dX4_firstBest_0 : decode cX4_firstBest 0 = .ok (.iload_n 1, 1) := by decide +kernel
theorem dX4_firstBest_1 : decode cX4_firstBest 1 = .ok (.invokestatic 46, 3) := by decide +kernel
theorem dX4_firstBest_4 : decode cX4_firstBest 4 = .ok (.istore_n 2, 1) := by decide +kernel
theorem dX4_firstBest_5 : decode cX4_firstBest 5 = .ok (.iconst 0, 1) := by decide +kernel
theorem dX4_firstBest_6 : decode cX4_firstBest 6 = .ok (.istore_n 3, 1) := by decide +kernel
theorem dX4_firstBest_7 : decode cX4_firstBest 7 = .ok (.iconst (-1), 1) := by decide +kernel
theorem dX4_firstBest_8 : decode cX4_firstBest 8 = .ok (.istore 4, 2) := by decide +kernel
theorem dX4_firstBest_10 : decode cX4_firstBest 10 = .ok (.iconst 0, 1) := by decide +kernel
theorem dX4_firstBest_11 : decode cX4_firstBest 11 = .ok (.istore 5, 2) := by decide +kernel
theorem dX4_firstBest_13 : decode cX4_firstBest 13 = .ok (.iload 5, 2) := by decide +kernel
theorem dX4_firstBest_15 : decode cX4_firstBest 15 = .ok (.aload_n 0, 1) := by decide +kernel
theorem dX4_firstBest_16 : decode cX4_firstBest 16 = .ok (.getfield 29, 3) := by decide +kernel
theorem dX4_firstBest_19 : decode cX4_firstBest 19 = .ok (.if_icmp .ge 44, 3) := by decide +kernel
theorem dX4_firstBest_22 : decode cX4_firstBest 22 = .ok (.iload_n 1, 1) := by decide +kernel
theorem dX4_firstBest_23 : decode cX4_firstBest 23 = .ok (.iconst 1, 1) := by decide +kernel
theorem dX4_firstBest_24 : decode cX4_firstBest 24 = .ok (.iload 5, 2) := by decide +kernel
theorem dX4_firstBest_26 : decode cX4_firstBest 26 = .ok (.ishl, 1) := by decide +kernel
theorem dX4_firstBest_27 : decode cX4_firstBest 27 = .ok (.iand, 1) := by decide +kernel
theorem dX4_firstBest_28 : decode cX4_firstBest 28 = .ok (.ifCond .ne 29, 3) := by decide +kernel
theorem dX4_firstBest_31 : decode cX4_firstBest 31 = .ok (.aload_n 0, 1) := by decide +kernel
theorem dX4_firstBest_32 : decode cX4_firstBest 32 = .ok (.iload_n 2, 1) := by decide +kernel
theorem dX4_firstBest_33 : decode cX4_firstBest 33 = .ok (.iload 5, 2) := by decide +kernel
theorem dX4_firstBest_35 : decode cX4_firstBest 35 = .ok (.iload_n 1, 1) := by decide +kernel
theorem dX4_firstBest_36 : decode cX4_firstBest 36 = .ok (.invokevirtual 55, 3) := by decide +kernel
theorem dX4_firstBest_39 : decode cX4_firstBest 39 = .ok (.iload 4, 2) := by decide +kernel
theorem dX4_firstBest_41 : decode cX4_firstBest 41 = .ok (.if_icmp .le 16, 3) := by decide +kernel
theorem dX4_firstBest_44 : decode cX4_firstBest 44 = .ok (.iload 5, 2) := by decide +kernel
theorem dX4_firstBest_46 : decode cX4_firstBest 46 = .ok (.istore_n 3, 1) := by decide +kernel
theorem dX4_firstBest_47 : decode cX4_firstBest 47 = .ok (.aload_n 0, 1) := by decide +kernel
theorem dX4_firstBest_48 : decode cX4_firstBest 48 = .ok (.iload_n 2, 1) := by decide +kernel
theorem dX4_firstBest_49 : decode cX4_firstBest 49 = .ok (.iload 5, 2) := by decide +kernel
theorem dX4_firstBest_51 : decode cX4_firstBest 51 = .ok (.iload_n 1, 1) := by decide +kernel
theorem dX4_firstBest_52 : decode cX4_firstBest 52 = .ok (.invokevirtual 55, 3) := by decide +kernel
theorem dX4_firstBest_55 : decode cX4_firstBest 55 = .ok (.istore 4, 2) := by decide +kernel
theorem dX4_firstBest_57 : decode cX4_firstBest 57 = .ok (.iinc 5 1, 3) := by decide +kernel
theorem dX4_firstBest_60 : decode cX4_firstBest 60 = .ok (.goto (-47), 3) := by decide +kernel
theorem dX4_firstBest_63 : decode cX4_firstBest 63 = .ok (.iload_n 3, 1) := by decide +kernel
theorem dX4_firstBest_64 : decode cX4_firstBest 64 = .ok (.ireturn, 1) := by decide +kernel
theorem dX4_broughtBy_0 : decode cX4_broughtBy 0 = .ok (.aload_n 0, 1) := by decide +kernel
theorem dX4_broughtBy_1 : decode cX4_broughtBy 1 = .ok (.getfield 11, 3) := by decide +kernel
theorem dX4_broughtBy_4 : decode cX4_broughtBy 4 = .ok (.iload_n 1, 1) := by decide +kernel
theorem dX4_broughtBy_5 : decode cX4_broughtBy 5 = .ok (.aaload, 1) := by decide +kernel
theorem dX4_broughtBy_6 : decode cX4_broughtBy 6 = .ok (.iload_n 2, 1) := by decide +kernel
theorem dX4_broughtBy_7 : decode cX4_broughtBy 7 = .ok (.iaload, 1) := by decide +kernel
theorem dX4_broughtBy_8 : decode cX4_broughtBy 8 = .ok (.aload_n 0, 1) := by decide +kernel
theorem dX4_broughtBy_9 : decode cX4_broughtBy 9 = .ok (.getfield 16, 3) := by decide +kernel
theorem dX4_broughtBy_12 : decode cX4_broughtBy 12 = .ok (.iload_n 3, 1) := by decide +kernel
theorem dX4_broughtBy_13 : decode cX4_broughtBy 13 = .ok (.iconst 1, 1) := by decide +kernel
theorem dX4_broughtBy_14 : decode cX4_broughtBy 14 = .ok (.iload_n 2, 1) := by decide +kernel
theorem dX4_broughtBy_15 : decode cX4_broughtBy 15 = .ok (.ishl, 1) := by decide +kernel
theorem dX4_broughtBy_16 : decode cX4_broughtBy 16 = .ok (.ior, 1) := by decide +kernel
theorem dX4_broughtBy_17 : decode cX4_broughtBy 17 = .ok (.iaload, 1) := by decide +kernel
theorem dX4_broughtBy_18 : decode cX4_broughtBy 18 = .ok (.iadd, 1) := by decide +kernel
theorem dX4_broughtBy_19 : decode cX4_broughtBy 19 = .ok (.ireturn, 1) := by decide +kernel
theorem dX4_tell_0 : decode cX4_tell 0 = .ok (.iload_n 1, 1) := by decide +kernel
theorem dX4_tell_1 : decode cX4_tell 1 = .ok (.bipush 10, 2) := by decide +kernel
theorem dX4_tell_3 : decode cX4_tell 3 = .ok (.if_icmp .ge 8, 3) := by decide +kernel
theorem dX4_tell_6 : decode cX4_tell 6 = .ok (.aload_n 0, 1) := by decide +kernel
theorem dX4_tell_7 : decode cX4_tell 7 = .ok (.getfield 59, 3) := by decide +kernel
theorem dX4_tell_10 : decode cX4_tell 10 = .ok (.ireturn, 1) := by decide +kernel
theorem dX4_tell_11 : decode cX4_tell 11 = .ok (.iload_n 1, 1) := by decide +kernel
theorem dX4_tell_12 : decode cX4_tell 12 = .ok (.bipush 10, 2) := by decide +kernel
theorem dX4_tell_14 : decode cX4_tell 14 = .ok (.isub, 1) := by decide +kernel
theorem dX4_tell_15 : decode cX4_tell 15 = .ok (.istore_n 2, 1) := by decide +kernel
theorem dX4_tell_16 : decode cX4_tell 16 = .ok (.iload_n 2, 1) := by decide +kernel
theorem dX4_tell_17 : decode cX4_tell 17 = .ok (.aload_n 0, 1) := by decide +kernel
theorem dX4_tell_18 : decode cX4_tell 18 = .ok (.getfield 29, 3) := by decide +kernel
theorem dX4_tell_21 : decode cX4_tell 21 = .ok (.if_icmp .ge 12, 3) := by decide +kernel
theorem dX4_tell_24 : decode cX4_tell 24 = .ok (.aload_n 0, 1) := by decide +kernel
theorem dX4_tell_25 : decode cX4_tell 25 = .ok (.getfield 20, 3) := by decide +kernel
theorem dX4_tell_28 : decode cX4_tell 28 = .ok (.iload_n 2, 1) := by decide +kernel
theorem dX4_tell_29 : decode cX4_tell 29 = .ok (.iaload, 1) := by decide +kernel
theorem dX4_tell_30 : decode cX4_tell 30 = .ok (.goto 4, 3) := by decide +kernel
theorem dX4_tell_33 : decode cX4_tell 33 = .ok (.iconst (-1), 1) := by decide +kernel
theorem dX4_tell_34 : decode cX4_tell 34 = .ok (.ireturn, 1) := by decide +kernel
theorem dX5_init_0 : decode cX5_init 0 = .ok (.aload_n 0, 1) := by decide +kernel
theorem dX5_init_1 : decode cX5_init 1 = .ok (.invokespecial 3, 3) := by decide +kernel
theorem dX5_init_4 : decode cX5_init 4 = .ok (.aload_n 0, 1) := by decide +kernel
theorem dX5_init_5 : decode cX5_init 5 = .ok (.bipush 60, 2) := by decide +kernel
theorem dX5_init_7 : decode cX5_init 7 = .ok (.newarray .int, 2) := by decide +kernel
theorem dX5_init_9 : decode cX5_init 9 = .ok (.putfield 9, 3) := by decide +kernel
theorem dX5_init_12 : decode cX5_init 12 = .ok (.aload_n 0, 1) := by decide +kernel
theorem dX5_init_13 : decode cX5_init 13 = .ok (.bipush 24, 2) := by decide +kernel
theorem dX5_init_15 : decode cX5_init 15 = .ok (.newarray .int, 2) := by decide +kernel
theorem dX5_init_17 : decode cX5_init 17 = .ok (.putfield 15, 3) := by decide +kernel
theorem dX5_init_20 : decode cX5_init 20 = .ok (.return_, 1) := by decide +kernel
theorem dX5_readAll_0 : decode cX5_readAll 0 = .ok (.iconst 0, 1) := by decide +kernel
theorem dX5_readAll_1 : decode cX5_readAll 1 = .ok (.istore_n 1, 1) := by decide +kernel
theorem dX5_readAll_2 : decode cX5_readAll 2 = .ok (.iload_n 1, 1) := by decide +kernel
theorem dX5_readAll_3 : decode cX5_readAll 3 = .ok (.bipush 24, 2) := by decide +kernel
theorem dX5_readAll_5 : decode cX5_readAll 5 = .ok (.if_icmp .ge 16, 3) := by decide +kernel
theorem dX5_readAll_8 : decode cX5_readAll 8 = .ok (.aload_n 0, 1) := by decide +kernel
theorem dX5_readAll_9 : decode cX5_readAll 9 = .ok (.getfield 15, 3) := by decide +kernel
theorem dX5_readAll_12 : decode cX5_readAll 12 = .ok (.iload_n 1, 1) := by decide +kernel
theorem dX5_readAll_13 : decode cX5_readAll 13 = .ok (.iconst 0, 1) := by decide +kernel
theorem dX5_readAll_14 : decode cX5_readAll 14 = .ok (.iastore, 1) := by decide +kernel
theorem dX5_readAll_15 : decode cX5_readAll 15 = .ok (.iinc 1 1, 3) := by decide +kernel
theorem dX5_readAll_18 : decode cX5_readAll 18 = .ok (.goto (-16), 3) := by decide +kernel
theorem dX5_readAll_21 : decode cX5_readAll 21 = .ok (.aload_n 0, 1) := by decide +kernel
theorem dX5_readAll_22 : decode cX5_readAll 22 = .ok (.iconst 0, 1) := by decide +kernel
theorem dX5_readAll_23 : decode cX5_readAll 23 = .ok (.putfield 18, 3) := by decide +kernel
theorem dX5_readAll_26 : decode cX5_readAll 26 = .ok (.aload_n 0, 1) := by decide +kernel
theorem dX5_readAll_27 : decode cX5_readAll 27 = .ok (.iconst 0, 1) := by decide +kernel
theorem dX5_readAll_28 : decode cX5_readAll 28 = .ok (.putfield 22, 3) := by decide +kernel
theorem dX5_readAll_31 : decode cX5_readAll 31 = .ok (.iconst 0, 1) := by decide +kernel
theorem dX5_readAll_32 : decode cX5_readAll 32 = .ok (.istore_n 1, 1) := by decide +kernel
theorem dX5_readAll_33 : decode cX5_readAll 33 = .ok (.iload_n 1, 1) := by decide +kernel
theorem dX5_readAll_34 : decode cX5_readAll 34 = .ok (.aload_n 0, 1) := by decide +kernel
theorem dX5_readAll_35 : decode cX5_readAll 35 = .ok (.getfield 26, 3) := by decide +kernel
theorem dX5_readAll_38 : decode cX5_readAll 38 = .ok (.if_icmp .ge 52, 3) := by decide +kernel
theorem dX5_readAll_41 : decode cX5_readAll 41 = .ok (.iload_n 1, 1) := by decide +kernel
theorem dX5_readAll_42 : decode cX5_readAll 42 = .ok (.bipush 60, 2) := by decide +kernel
theorem dX5_readAll_44 : decode cX5_readAll 44 = .ok (.if_icmp .ge 46, 3) := by decide +kernel
theorem dX5_readAll_47 : decode cX5_readAll 47 = .ok (.aload_n 0, 1) := by decide +kernel
theorem dX5_readAll_48 : decode cX5_readAll 48 = .ok (.getfield 22, 3) := by decide +kernel
theorem dX5_readAll_51 : decode cX5_readAll 51 = .ok (.ifCond .eq 16, 3) := by decide +kernel
theorem dX5_readAll_54 : decode cX5_readAll 54 = .ok (.aload_n 0, 1) := by decide +kernel
theorem dX5_readAll_55 : decode cX5_readAll 55 = .ok (.aload_n 0, 1) := by decide +kernel
theorem dX5_readAll_56 : decode cX5_readAll 56 = .ok (.getfield 9, 3) := by decide +kernel
theorem dX5_readAll_59 : decode cX5_readAll 59 = .ok (.iload_n 1, 1) := by decide +kernel
theorem dX5_readAll_60 : decode cX5_readAll 60 = .ok (.iaload, 1) := by decide +kernel
theorem dX5_readAll_61 : decode cX5_readAll 61 = .ok (.invokevirtual 29, 3) := by decide +kernel
theorem dX5_readAll_64 : decode cX5_readAll 64 = .ok (.goto 13, 3) := by decide +kernel
theorem dX5_readAll_67 : decode cX5_readAll 67 = .ok (.aload_n 0, 1) := by decide +kernel
theorem dX5_readAll_68 : decode cX5_readAll 68 = .ok (.aload_n 0, 1) := by decide +kernel
theorem dX5_readAll_69 : decode cX5_readAll 69 = .ok (.getfield 9, 3) := by decide +kernel
theorem dX5_readAll_72 : decode cX5_readAll 72 = .ok (.iload_n 1, 1) := by decide +kernel
theorem dX5_readAll_73 : decode cX5_readAll 73 = .ok (.iaload, 1) := by decide +kernel
theorem dX5_readAll_74 : decode cX5_readAll 74 = .ok (.invokevirtual 33, 3) := by decide +kernel
theorem dX5_readAll_77 : decode cX5_readAll 77 = .ok (.istore_n 2, 1) := by decide +kernel
theorem dX5_readAll_78 : decode cX5_readAll 78 = .ok (.iload_n 2, 1) := by decide +kernel
theorem dX5_readAll_79 : decode cX5_readAll 79 = .ok (.ifCond .ne 5, 3) := by decide +kernel
theorem dX5_readAll_82 : decode cX5_readAll 82 = .ok (.iload_n 1, 1) := by decide +kernel
theorem dX5_readAll_83 : decode cX5_readAll 83 = .ok (.ireturn, 1) := by decide +kernel
theorem dX5_readAll_84 : decode cX5_readAll 84 = .ok (.iinc 1 1, 3) := by decide +kernel
theorem dX5_readAll_87 : decode cX5_readAll 87 = .ok (.goto (-54), 3) := by decide +kernel
theorem dX5_readAll_90 : decode cX5_readAll 90 = .ok (.aload_n 0, 1) := by decide +kernel
theorem dX5_readAll_91 : decode cX5_readAll 91 = .ok (.getfield 26, 3) := by decide +kernel
theorem dX5_readAll_94 : decode cX5_readAll 94 = .ok (.ireturn, 1) := by decide +kernel
theorem dX5_isComplete_0 : decode cX5_isComplete 0 = .ok (.aload_n 0, 1) := by decide +kernel
theorem dX5_isComplete_1 : decode cX5_isComplete 1 = .ok (.getfield 18, 3) := by decide +kernel
theorem dX5_isComplete_4 : decode cX5_isComplete 4 = .ok (.ifCond .le 14, 3) := by decide +kernel
theorem dX5_isComplete_7 : decode cX5_isComplete 7 = .ok (.aload_n 0, 1) := by decide +kernel
theorem dX5_isComplete_8 : decode cX5_isComplete 8 = .ok (.getfield 22, 3) := by decide +kernel
theorem dX5_isComplete_11 : decode cX5_isComplete 11 = .ok (.ifCond .ne 7, 3) := by decide +kernel
theorem dX5_isComplete_14 : decode cX5_isComplete 14 = .ok (.iconst 1, 1) := by decide +kernel
theorem dX5_isComplete_15 : decode cX5_isComplete 15 = .ok (.goto 4, 3) := by decide +kernel
theorem dX5_isComplete_18 : decode cX5_isComplete 18 = .ok (.iconst 0, 1) := by decide +kernel
theorem dX5_isComplete_19 : decode cX5_isComplete 19 = .ok (.ireturn, 1) := by decide +kernel
theorem dX5_readOutside_0 : decode cX5_readOutside 0 = .ok (.aload_n 0, 1) := by decide +kernel
theorem dX5_readOutside_1 : decode cX5_readOutside 1 = .ok (.getfield 18, 3) := by decide +kernel
theorem dX5_readOutside_4 : decode cX5_readOutside 4 = .ok (.bipush 24, 2) := by decide +kernel
theorem dX5_readOutside_6 : decode cX5_readOutside 6 = .ok (.if_icmp .lt 5, 3) := by decide +kernel
theorem dX5_readOutside_9 : decode cX5_readOutside 9 = .ok (.iconst 0, 1) := by decide +kernel
theorem dX5_readOutside_10 : decode cX5_readOutside 10 = .ok (.ireturn, 1) := by decide +kernel
theorem dX5_readOutside_11 : decode cX5_readOutside 11 = .ok (.iload_n 1, 1) := by decide +kernel
theorem dX5_readOutside_12 : decode cX5_readOutside 12 = .ok (.bipush 40, 2) := by decide +kernel
theorem dX5_readOutside_14 : decode cX5_readOutside 14 = .ok (.if_icmp .ne 15, 3) := by decide +kernel
theorem dX5_readOutside_17 : decode cX5_readOutside 17 = .ok (.aload_n 0, 1) := by decide +kernel
theorem dX5_readOutside_18 : decode cX5_readOutside 18 = .ok (.iconst 1, 1) := by decide +kernel
theorem dX5_readOutside_19 : decode cX5_readOutside 19 = .ok (.putfield 22, 3) := by decide +kernel
theorem dX5_readOutside_22 : decode cX5_readOutside 22 = .ok (.aload_n 0, 1) := by decide +kernel
theorem dX5_readOutside_23 : decode cX5_readOutside 23 = .ok (.iconst 0, 1) := by decide +kernel
theorem dX5_readOutside_24 : decode cX5_readOutside 24 = .ok (.putfield 36, 3) := by decide +kernel
theorem dX5_readOutside_27 : decode cX5_readOutside 27 = .ok (.iconst 1, 1) := by decide +kernel
theorem dX5_readOutside_28 : decode cX5_readOutside 28 = .ok (.ireturn, 1) := by decide +kernel
theorem dX5_readOutside_29 : decode cX5_readOutside 29 = .ok (.iload_n 1, 1) := by decide +kernel
theorem dX5_readOutside_30 : decode cX5_readOutside 30 = .ok (.bipush 45, 2) := by decide +kernel
theorem dX5_readOutside_32 : decode cX5_readOutside 32 = .ok (.if_icmp .eq 10, 3) := by decide +kernel
theorem dX5_readOutside_35 : decode cX5_readOutside 35 = .ok (.iload_n 1, 1) := by decide +kernel
theorem dX5_readOutside_36 : decode cX5_readOutside 36 = .ok (.invokestatic 39, 3) := by decide +kernel
theorem dX5_readOutside_39 : decode cX5_readOutside 39 = .ok (.ifCond .eq 25, 3) := by decide +kernel
theorem dX5_readOutside_42 : decode cX5_readOutside 42 = .ok (.aload_n 0, 1) := by decide +kernel
theorem dX5_readOutside_43 : decode cX5_readOutside 43 = .ok (.iload_n 1, 1) := by decide +kernel
theorem dX5_readOutside_44 : decode cX5_readOutside 44 = .ok (.bipush 45, 2) := by decide +kernel
theorem dX5_readOutside_46 : decode cX5_readOutside 46 = .ok (.if_icmp .ne 7, 3) := by decide +kernel
theorem dX5_readOutside_49 : decode cX5_readOutside 49 = .ok (.iconst 0, 1) := by decide +kernel
theorem dX5_readOutside_50 : decode cX5_readOutside 50 = .ok (.goto 9, 3) := by decide +kernel
theorem dX5_readOutside_53 : decode cX5_readOutside 53 = .ok (.iconst 1, 1) := by decide +kernel
theorem dX5_readOutside_54 : decode cX5_readOutside 54 = .ok (.iload_n 1, 1) := by decide +kernel
theorem dX5_readOutside_55 : decode cX5_readOutside 55 = .ok (.bipush 97, 2) := by decide +kernel
theorem dX5_readOutside_57 : decode cX5_readOutside 57 = .ok (.isub, 1) := by decide +kernel
theorem dX5_readOutside_58 : decode cX5_readOutside 58 = .ok (.ishl, 1) := by decide +kernel
theorem dX5_readOutside_59 : decode cX5_readOutside 59 = .ok (.invokevirtual 42, 3) := by decide +kernel
theorem dX5_readOutside_62 : decode cX5_readOutside 62 = .ok (.iconst 1, 1) := by decide +kernel
theorem dX5_readOutside_63 : decode cX5_readOutside 63 = .ok (.ireturn, 1) := by decide +kernel
theorem dX5_readOutside_64 : decode cX5_readOutside 64 = .ok (.iconst 0, 1) := by decide +kernel
theorem dX5_readOutside_65 : decode cX5_readOutside 65 = .ok (.ireturn, 1) := by decide +kernel
theorem dX5_readInside_0 : decode cX5_readInside 0 = .ok (.iload_n 1, 1) := by decide +kernel
theorem dX5_readInside_1 : decode cX5_readInside 1 = .ok (.bipush 41, 2) := by decide +kernel
theorem dX5_readInside_3 : decode cX5_readInside 3 = .ok (.if_icmp .ne 29, 3) := by decide +kernel
theorem dX5_readInside_6 : decode cX5_readInside 6 = .ok (.aload_n 0, 1) := by decide +kernel
theorem dX5_readInside_7 : decode cX5_readInside 7 = .ok (.getfield 36, 3) := by decide +kernel
theorem dX5_readInside_10 : decode cX5_readInside 10 = .ok (.invokestatic 46, 3) := by decide +kernel
theorem dX5_readInside_13 : decode cX5_readInside 13 = .ok (.iconst 2, 1) := by decide +kernel
theorem dX5_readInside_14 : decode cX5_readInside 14 = .ok (.if_icmp .lt 18, 3) := by decide +kernel
theorem dX5_readInside_17 : decode cX5_readInside 17 = .ok (.aload_n 0, 1) := by decide +kernel
theorem dX5_readInside_18 : decode cX5_readInside 18 = .ok (.iconst 0, 1) := by decide +kernel
theorem dX5_readInside_19 : decode cX5_readInside 19 = .ok (.putfield 22, 3) := by decide +kernel
theorem dX5_readInside_22 : decode cX5_readInside 22 = .ok (.aload_n 0, 1) := by decide +kernel
theorem dX5_readInside_23 : decode cX5_readInside 23 = .ok (.aload_n 0, 1) := by decide +kernel
theorem dX5_readInside_24 : decode cX5_readInside 24 = .ok (.getfield 36, 3) := by decide +kernel
theorem dX5_readInside_27 : decode cX5_readInside 27 = .ok (.invokevirtual 42, 3) := by decide +kernel
theorem dX5_readInside_30 : decode cX5_readInside 30 = .ok (.iconst 1, 1) := by decide +kernel
theorem dX5_readInside_31 : decode cX5_readInside 31 = .ok (.ireturn, 1) := by decide +kernel
theorem dX5_readInside_32 : decode cX5_readInside 32 = .ok (.iload_n 1, 1) := by decide +kernel
theorem dX5_readInside_33 : decode cX5_readInside 33 = .ok (.invokestatic 39, 3) := by decide +kernel
theorem dX5_readInside_36 : decode cX5_readInside 36 = .ok (.ifCond .ne 5, 3) := by decide +kernel
theorem dX5_readInside_39 : decode cX5_readInside 39 = .ok (.iconst 0, 1) := by decide +kernel
theorem dX5_readInside_40 : decode cX5_readInside 40 = .ok (.ireturn, 1) := by decide +kernel
theorem dX5_readInside_41 : decode cX5_readInside 41 = .ok (.iconst 1, 1) := by decide +kernel
theorem dX5_readInside_42 : decode cX5_readInside 42 = .ok (.iload_n 1, 1) := by decide +kernel
theorem dX5_readInside_43 : decode cX5_readInside 43 = .ok (.bipush 97, 2) := by decide +kernel
theorem dX5_readInside_45 : decode cX5_readInside 45 = .ok (.isub, 1) := by decide +kernel
theorem dX5_readInside_46 : decode cX5_readInside 46 = .ok (.ishl, 1) := by decide +kernel
theorem dX5_readInside_47 : decode cX5_readInside 47 = .ok (.istore_n 2, 1) := by decide +kernel
theorem dX5_readInside_48 : decode cX5_readInside 48 = .ok (.aload_n 0, 1) := by decide +kernel
theorem dX5_readInside_49 : decode cX5_readInside 49 = .ok (.getfield 36, 3) := by decide +kernel
theorem dX5_readInside_52 : decode cX5_readInside 52 = .ok (.ifCond .ne 13, 3) := by decide +kernel
theorem dX5_readInside_55 : decode cX5_readInside 55 = .ok (.iload_n 1, 1) := by decide +kernel
theorem dX5_readInside_56 : decode cX5_readInside 56 = .ok (.bipush 108, 2) := by decide +kernel
theorem dX5_readInside_58 : decode cX5_readInside 58 = .ok (.if_icmp .ne 7, 3) := by decide +kernel
theorem dX5_readInside_61 : decode cX5_readInside 61 = .ok (.iconst 1, 1) := by decide +kernel
theorem dX5_readInside_62 : decode cX5_readInside 62 = .ok (.goto 4, 3) := by decide +kernel
theorem dX5_readInside_65 : decode cX5_readInside 65 = .ok (.iconst 0, 1) := by decide +kernel
theorem dX5_readInside_66 : decode cX5_readInside 66 = .ok (.istore_n 3, 1) := by decide +kernel
theorem dX5_readInside_67 : decode cX5_readInside 67 = .ok (.iload_n 2, 1) := by decide +kernel
theorem dX5_readInside_68 : decode cX5_readInside 68 = .ok (.aload_n 0, 1) := by decide +kernel
theorem dX5_readInside_69 : decode cX5_readInside 69 = .ok (.getfield 36, 3) := by decide +kernel
theorem dX5_readInside_72 : decode cX5_readInside 72 = .ok (.if_icmp .le 7, 3) := by decide +kernel
theorem dX5_readInside_75 : decode cX5_readInside 75 = .ok (.iload_n 3, 1) := by decide +kernel
theorem dX5_readInside_76 : decode cX5_readInside 76 = .ok (.ifCond .eq 5, 3) := by decide +kernel
theorem dX5_readInside_79 : decode cX5_readInside 79 = .ok (.iconst 0, 1) := by decide +kernel
theorem dX5_readInside_80 : decode cX5_readInside 80 = .ok (.ireturn, 1) := by decide +kernel
theorem dX5_readInside_81 : decode cX5_readInside 81 = .ok (.aload_n 0, 1) := by decide +kernel
theorem dX5_readInside_82 : decode cX5_readInside 82 = .ok (.dup, 1) := by decide +kernel
theorem dX5_readInside_83 : decode cX5_readInside 83 = .ok (.getfield 36, 3) := by decide +kernel
theorem dX5_readInside_86 : decode cX5_readInside 86 = .ok (.iload_n 2, 1) := by decide +kernel
theorem dX5_readInside_87 : decode cX5_readInside 87 = .ok (.ior, 1) := by decide +kernel
theorem dX5_readInside_88 : decode cX5_readInside 88 = .ok (.putfield 36, 3) := by decide +kernel
theorem dX5_readInside_91 : decode cX5_readInside 91 = .ok (.iconst 1, 1) := by decide +kernel
theorem dX5_readInside_92 : decode cX5_readInside 92 = .ok (.ireturn, 1) := by decide +kernel
theorem dX5_endStep_0 : decode cX5_endStep 0 = .ok (.aload_n 0, 1) := by decide +kernel
theorem dX5_endStep_1 : decode cX5_endStep 1 = .ok (.getfield 18, 3) := by decide +kernel
theorem dX5_endStep_4 : decode cX5_endStep 4 = .ok (.bipush 24, 2) := by decide +kernel
theorem dX5_endStep_6 : decode cX5_endStep 6 = .ok (.if_icmp .ge 23, 3) := by decide +kernel
theorem dX5_endStep_9 : decode cX5_endStep 9 = .ok (.aload_n 0, 1) := by decide +kernel
theorem dX5_endStep_10 : decode cX5_endStep 10 = .ok (.getfield 15, 3) := by decide +kernel
theorem dX5_endStep_13 : decode cX5_endStep 13 = .ok (.aload_n 0, 1) := by decide +kernel
theorem dX5_endStep_14 : decode cX5_endStep 14 = .ok (.getfield 18, 3) := by decide +kernel
theorem dX5_endStep_17 : decode cX5_endStep 17 = .ok (.iload_n 1, 1) := by decide +kernel
theorem dX5_endStep_18 : decode cX5_endStep 18 = .ok (.iastore, 1) := by decide +kernel
theorem dX5_endStep_19 : decode cX5_endStep 19 = .ok (.aload_n 0, 1) := by decide +kernel
theorem dX5_endStep_20 : decode cX5_endStep 20 = .ok (.dup, 1) := by decide +kernel
theorem dX5_endStep_21 : decode cX5_endStep 21 = .ok (.getfield 18, 3) := by decide +kernel
theorem dX5_endStep_24 : decode cX5_endStep 24 = .ok (.iconst 1, 1) := by decide +kernel
theorem dX5_endStep_25 : decode cX5_endStep 25 = .ok (.iadd, 1) := by decide +kernel
theorem dX5_endStep_26 : decode cX5_endStep 26 = .ok (.putfield 18, 3) := by decide +kernel
theorem dX5_endStep_29 : decode cX5_endStep 29 = .ok (.return_, 1) := by decide +kernel
theorem dX5_isTooth_0 : decode cX5_isTooth 0 = .ok (.iload_n 0, 1) := by decide +kernel
theorem dX5_isTooth_1 : decode cX5_isTooth 1 = .ok (.bipush 97, 2) := by decide +kernel
theorem dX5_isTooth_3 : decode cX5_isTooth 3 = .ok (.if_icmp .lt 13, 3) := by decide +kernel
theorem dX5_isTooth_6 : decode cX5_isTooth 6 = .ok (.iload_n 0, 1) := by decide +kernel
theorem dX5_isTooth_7 : decode cX5_isTooth 7 = .ok (.bipush 109, 2) := by decide +kernel
theorem dX5_isTooth_9 : decode cX5_isTooth 9 = .ok (.if_icmp .ge 7, 3) := by decide +kernel
theorem dX5_isTooth_12 : decode cX5_isTooth 12 = .ok (.iconst 1, 1) := by decide +kernel
theorem dX5_isTooth_13 : decode cX5_isTooth 13 = .ok (.goto 4, 3) := by decide +kernel
theorem dX5_isTooth_16 : decode cX5_isTooth 16 = .ok (.iconst 0, 1) := by decide +kernel
theorem dX5_isTooth_17 : decode cX5_isTooth 17 = .ok (.ireturn, 1) := by decide +kernel
theorem dX6_init_0 : decode cX6_init 0 = .ok (.aload_n 0, 1) := by decide +kernel
theorem dX6_init_1 : decode cX6_init 1 = .ok (.invokespecial 1, 3) := by decide +kernel
theorem dX6_init_4 : decode cX6_init 4 = .ok (.aload_n 0, 1) := by decide +kernel
theorem dX6_init_5 : decode cX6_init 5 = .ok (.new 7, 3) := by decide +kernel
theorem dX6_init_8 : decode cX6_init 8 = .ok (.dup, 1) := by decide +kernel
theorem dX6_init_9 : decode cX6_init 9 = .ok (.invokespecial 9, 3) := by decide +kernel
theorem dX6_init_12 : decode cX6_init 12 = .ok (.putfield 10, 3) := by decide +kernel
theorem dX6_init_15 : decode cX6_init 15 = .ok (.aload_n 0, 1) := by decide +kernel
theorem dX6_init_16 : decode cX6_init 16 = .ok (.bipush 6, 2) := by decide +kernel
theorem dX6_init_18 : decode cX6_init 18 = .ok (.anewarray 7, 3) := by decide +kernel
theorem dX6_init_21 : decode cX6_init 21 = .ok (.putfield 16, 3) := by decide +kernel
theorem dX6_init_24 : decode cX6_init 24 = .ok (.iconst 0, 1) := by decide +kernel
theorem dX6_init_25 : decode cX6_init 25 = .ok (.istore_n 1, 1) := by decide +kernel
theorem dX6_init_26 : decode cX6_init 26 = .ok (.iload_n 1, 1) := by decide +kernel
theorem dX6_init_27 : decode cX6_init 27 = .ok (.bipush 6, 2) := by decide +kernel
theorem dX6_init_29 : decode cX6_init 29 = .ok (.if_icmp .ge 22, 3) := by decide +kernel
theorem dX6_init_32 : decode cX6_init 32 = .ok (.aload_n 0, 1) := by decide +kernel
theorem dX6_init_33 : decode cX6_init 33 = .ok (.getfield 16, 3) := by decide +kernel
theorem dX6_init_36 : decode cX6_init 36 = .ok (.iload_n 1, 1) := by decide +kernel
theorem dX6_init_37 : decode cX6_init 37 = .ok (.new 7, 3) := by decide +kernel
theorem dX6_init_40 : decode cX6_init 40 = .ok (.dup, 1) := by decide +kernel
theorem dX6_init_41 : decode cX6_init 41 = .ok (.invokespecial 9, 3) := by decide +kernel
theorem dX6_init_44 : decode cX6_init 44 = .ok (.aastore, 1) := by decide +kernel
theorem dX6_init_45 : decode cX6_init 45 = .ok (.iinc 1 1, 3) := by decide +kernel
theorem dX6_init_48 : decode cX6_init 48 = .ok (.goto (-22), 3) := by decide +kernel
theorem dX6_init_51 : decode cX6_init 51 = .ok (.aload_n 0, 1) := by decide +kernel
theorem dX6_init_52 : decode cX6_init 52 = .ok (.new 20, 3) := by decide +kernel
theorem dX6_init_55 : decode cX6_init 55 = .ok (.dup, 1) := by decide +kernel
theorem dX6_init_56 : decode cX6_init 56 = .ok (.invokespecial 22, 3) := by decide +kernel
theorem dX6_init_59 : decode cX6_init 59 = .ok (.putfield 23, 3) := by decide +kernel
theorem dX6_init_62 : decode cX6_init 62 = .ok (.aload_n 0, 1) := by decide +kernel
theorem dX6_init_63 : decode cX6_init 63 = .ok (.new 27, 3) := by decide +kernel
theorem dX6_init_66 : decode cX6_init 66 = .ok (.dup, 1) := by decide +kernel
theorem dX6_init_67 : decode cX6_init 67 = .ok (.invokespecial 29, 3) := by decide +kernel
theorem dX6_init_70 : decode cX6_init 70 = .ok (.putfield 30, 3) := by decide +kernel
theorem dX6_init_73 : decode cX6_init 73 = .ok (.aload_n 0, 1) := by decide +kernel
theorem dX6_init_74 : decode cX6_init 74 = .ok (.new 34, 3) := by decide +kernel
theorem dX6_init_77 : decode cX6_init 77 = .ok (.dup, 1) := by decide +kernel
theorem dX6_init_78 : decode cX6_init 78 = .ok (.invokespecial 36, 3) := by decide +kernel
theorem dX6_init_81 : decode cX6_init 81 = .ok (.putfield 37, 3) := by decide +kernel
theorem dX6_init_84 : decode cX6_init 84 = .ok (.aload_n 0, 1) := by decide +kernel
theorem dX6_init_85 : decode cX6_init 85 = .ok (.new 41, 3) := by decide +kernel
theorem dX6_init_88 : decode cX6_init 88 = .ok (.dup, 1) := by decide +kernel
theorem dX6_init_89 : decode cX6_init 89 = .ok (.invokespecial 43, 3) := by decide +kernel
theorem dX6_init_92 : decode cX6_init 92 = .ok (.putfield 44, 3) := by decide +kernel
theorem dX6_init_95 : decode cX6_init 95 = .ok (.aload_n 0, 1) := by decide +kernel
theorem dX6_init_96 : decode cX6_init 96 = .ok (.bipush 24, 2) := by decide +kernel
theorem dX6_init_98 : decode cX6_init 98 = .ok (.newarray .int, 2) := by decide +kernel
theorem dX6_init_100 : decode cX6_init 100 = .ok (.putfield 48, 3) := by decide +kernel
theorem dX6_init_103 : decode cX6_init 103 = .ok (.return_, 1) := by decide +kernel
theorem dX6_addTown_0 : decode cX6_addTown 0 = .ok (.iload_n 1, 1) := by decide +kernel
theorem dX6_addTown_1 : decode cX6_addTown 1 = .ok (.ifCond .lt 10, 3) := by decide +kernel
theorem dX6_addTown_4 : decode cX6_addTown 4 = .ok (.iload_n 1, 1) := by decide +kernel
theorem dX6_addTown_5 : decode cX6_addTown 5 = .ok (.sipush 200, 3) := by decide +kernel
theorem dX6_addTown_8 : decode cX6_addTown 8 = .ok (.if_icmp .le 13, 3) := by decide +kernel
theorem dX6_addTown_11 : decode cX6_addTown 11 = .ok (.new 52, 3) := by decide +kernel
theorem dX6_addTown_14 : decode cX6_addTown 14 = .ok (.dup, 1) := by decide +kernel
theorem dX6_addTown_15 : decode cX6_addTown 15 = .ok (.ldc 54, 2) := by decide +kernel
theorem dX6_addTown_17 : decode cX6_addTown 17 = .ok (.invokespecial 56, 3) := by decide +kernel
theorem dX6_addTown_20 : decode cX6_addTown 20 = .ok (.athrow, 1) := by decide +kernel
theorem dX6_addTown_21 : decode cX6_addTown 21 = .ok (.aload_n 0, 1) := by decide +kernel
theorem dX6_addTown_22 : decode cX6_addTown 22 = .ok (.getfield 10, 3) := by decide +kernel
theorem dX6_addTown_25 : decode cX6_addTown 25 = .ok (.getfield 59, 3) := by decide +kernel
theorem dX6_addTown_28 : decode cX6_addTown 28 = .ok (.bipush 6, 2) := by decide +kernel
theorem dX6_addTown_30 : decode cX6_addTown 30 = .ok (.if_icmp .lt 13, 3) := by decide +kernel
theorem dX6_addTown_33 : decode cX6_addTown 33 = .ok (.new 63, 3) := by decide +kernel
theorem dX6_addTown_36 : decode cX6_addTown 36 = .ok (.dup, 1) := by decide +kernel
theorem dX6_addTown_37 : decode cX6_addTown 37 = .ok (.ldc 65, 2) := by decide +kernel
theorem dX6_addTown_39 : decode cX6_addTown 39 = .ok (.invokespecial 67, 3) := by decide +kernel
theorem dX6_addTown_42 : decode cX6_addTown 42 = .ok (.athrow, 1) := by decide +kernel
theorem dX6_addTown_43 : decode cX6_addTown 43 = .ok (.iload_n 1, 1) := by decide +kernel
theorem dX6_addTown_44 : decode cX6_addTown 44 = .ok (.aload_n 0, 1) := by decide +kernel
theorem dX6_addTown_45 : decode cX6_addTown 45 = .ok (.getfield 10, 3) := by decide +kernel
theorem dX6_addTown_48 : decode cX6_addTown 48 = .ok (.getfield 68, 3) := by decide +kernel
theorem dX6_addTown_51 : decode cX6_addTown 51 = .ok (.iconst 2, 1) := by decide +kernel
theorem dX6_addTown_52 : decode cX6_addTown 52 = .ok (.iaload, 1) := by decide +kernel
theorem dX6_addTown_53 : decode cX6_addTown 53 = .ok (.if_icmp .le 13, 3) := by decide +kernel
theorem dX6_addTown_56 : decode cX6_addTown 56 = .ok (.new 63, 3) := by decide +kernel
theorem dX6_addTown_59 : decode cX6_addTown 59 = .ok (.dup, 1) := by decide +kernel
theorem dX6_addTown_60 : decode cX6_addTown 60 = .ok (.ldc 71, 2) := by decide +kernel
theorem dX6_addTown_62 : decode cX6_addTown 62 = .ok (.invokespecial 67, 3) := by decide +kernel
theorem dX6_addTown_65 : decode cX6_addTown 65 = .ok (.athrow, 1) := by decide +kernel
theorem dX6_addTown_66 : decode cX6_addTown 66 = .ok (.aload_n 0, 1) := by decide +kernel
theorem dX6_addTown_67 : decode cX6_addTown 67 = .ok (.invokevirtual 73, 3) := by decide +kernel
theorem dX6_addTown_70 : decode cX6_addTown 70 = .ok (.aload_n 0, 1) := by decide +kernel
theorem dX6_addTown_71 : decode cX6_addTown 71 = .ok (.getfield 10, 3) := by decide +kernel
theorem dX6_addTown_74 : decode cX6_addTown 74 = .ok (.getfield 59, 3) := by decide +kernel
theorem dX6_addTown_77 : decode cX6_addTown 77 = .ok (.istore_n 2, 1) := by decide +kernel
theorem dX6_addTown_78 : decode cX6_addTown 78 = .ok (.aload_n 0, 1) := by decide +kernel
theorem dX6_addTown_79 : decode cX6_addTown 79 = .ok (.getfield 10, 3) := by decide +kernel
theorem dX6_addTown_82 : decode cX6_addTown 82 = .ok (.getfield 76, 3) := by decide +kernel
theorem dX6_addTown_85 : decode cX6_addTown 85 = .ok (.iload_n 2, 1) := by decide +kernel
theorem dX6_addTown_86 : decode cX6_addTown 86 = .ok (.aaload, 1) := by decide +kernel
theorem dX6_addTown_87 : decode cX6_addTown 87 = .ok (.iload_n 1, 1) := by decide +kernel
theorem dX6_addTown_88 : decode cX6_addTown 88 = .ok (.putfield 80, 3) := by decide +kernel
theorem dX6_addTown_91 : decode cX6_addTown 91 = .ok (.aload_n 0, 1) := by decide +kernel
theorem dX6_addTown_92 : decode cX6_addTown 92 = .ok (.getfield 10, 3) := by decide +kernel
theorem dX6_addTown_95 : decode cX6_addTown 95 = .ok (.iload_n 2, 1) := by decide +kernel
theorem dX6_addTown_96 : decode cX6_addTown 96 = .ok (.iconst 1, 1) := by decide +kernel
theorem dX6_addTown_97 : decode cX6_addTown 97 = .ok (.iadd, 1) := by decide +kernel
theorem dX6_addTown_98 : decode cX6_addTown 98 = .ok (.putfield 59, 3) := by decide +kernel
theorem dX6_addTown_101 : decode cX6_addTown 101 = .ok (.iload_n 2, 1) := by decide +kernel
theorem dX6_addTown_102 : decode cX6_addTown 102 = .ok (.ireturn, 1) := by decide +kernel
theorem dX6_set_0 : decode cX6_set 0 = .ok (.iload_n 1, 1) := by decide +kernel
theorem dX6_set_1 : decode cX6_set 1 = .ok (.invokestatic 85, 3) := by decide +kernel
theorem dX6_set_4 : decode cX6_set 4 = .ok (.iload_n 2, 1) := by decide +kernel
theorem dX6_set_5 : decode cX6_set 5 = .ok (.getstatic 89, 3) := by decide +kernel
theorem dX6_set_8 : decode cX6_set 8 = .ok (.iload_n 1, 1) := by decide +kernel
theorem dX6_set_9 : decode cX6_set 9 = .ok (.iaload, 1) := by decide +kernel
theorem dX6_set_10 : decode cX6_set 10 = .ok (.if_icmp .lt 12, 3) := by decide +kernel
theorem dX6_set_13 : decode cX6_set 13 = .ok (.iload_n 2, 1) := by decide +kernel
theorem dX6_set_14 : decode cX6_set 14 = .ok (.getstatic 92, 3) := by decide +kernel
theorem dX6_set_17 : decode cX6_set 17 = .ok (.iload_n 1, 1) := by decide +kernel
theorem dX6_set_18 : decode cX6_set 18 = .ok (.iaload, 1) := by decide +kernel
theorem dX6_set_19 : decode cX6_set 19 = .ok (.if_icmp .le 13, 3) := by decide +kernel
theorem dX6_set_22 : decode cX6_set 22 = .ok (.new 52, 3) := by decide +kernel
theorem dX6_set_25 : decode cX6_set 25 = .ok (.dup, 1) := by decide +kernel
theorem dX6_set_26 : decode cX6_set 26 = .ok (.ldc 95, 2) := by decide +kernel
theorem dX6_set_28 : decode cX6_set 28 = .ok (.invokespecial 56, 3) := by decide +kernel
theorem dX6_set_31 : decode cX6_set 31 = .ok (.athrow, 1) := by decide +kernel
theorem dX6_set_32 : decode cX6_set 32 = .ok (.aload_n 0, 1) := by decide +kernel
theorem dX6_set_33 : decode cX6_set 33 = .ok (.invokevirtual 73, 3) := by decide +kernel
theorem dX6_set_36 : decode cX6_set 36 = .ok (.aload_n 0, 1) := by decide +kernel
theorem dX6_set_37 : decode cX6_set 37 = .ok (.getfield 10, 3) := by decide +kernel
theorem dX6_set_40 : decode cX6_set 40 = .ok (.getfield 68, 3) := by decide +kernel
theorem dX6_set_43 : decode cX6_set 43 = .ok (.iload_n 1, 1) := by decide +kernel
theorem dX6_set_44 : decode cX6_set 44 = .ok (.iaload, 1) := by decide +kernel
theorem dX6_set_45 : decode cX6_set 45 = .ok (.istore_n 3, 1) := by decide +kernel
theorem dX6_set_46 : decode cX6_set 46 = .ok (.aload_n 0, 1) := by decide +kernel
theorem dX6_set_47 : decode cX6_set 47 = .ok (.getfield 10, 3) := by decide +kernel
theorem dX6_set_50 : decode cX6_set 50 = .ok (.getfield 68, 3) := by decide +kernel
theorem dX6_set_53 : decode cX6_set 53 = .ok (.iload_n 1, 1) := by decide +kernel
theorem dX6_set_54 : decode cX6_set 54 = .ok (.iload_n 2, 1) := by decide +kernel
theorem dX6_set_55 : decode cX6_set 55 = .ok (.iastore, 1) := by decide +kernel
theorem dX6_set_56 : decode cX6_set 56 = .ok (.iload_n 3, 1) := by decide +kernel
theorem dX6_set_57 : decode cX6_set 57 = .ok (.ireturn, 1) := by decide +kernel
theorem dX6_put_0 : decode cX6_put 0 = .ok (.aload_n 0, 1) := by decide +kernel
theorem dX6_put_1 : decode cX6_put 1 = .ok (.iload_n 1, 1) := by decide +kernel
theorem dX6_put_2 : decode cX6_put 2 = .ok (.iload_n 2, 1) := by decide +kernel
theorem dX6_put_3 : decode cX6_put 3 = .ok (.iload_n 3, 1) := by decide +kernel
theorem dX6_put_4 : decode cX6_put 4 = .ok (.invokevirtual 97, 3) := by decide +kernel
theorem dX6_put_7 : decode cX6_put 7 = .ok (.aload_n 0, 1) := by decide +kernel
theorem dX6_put_8 : decode cX6_put 8 = .ok (.getfield 10, 3) := by decide +kernel
theorem dX6_put_11 : decode cX6_put 11 = .ok (.getfield 76, 3) := by decide +kernel
theorem dX6_put_14 : decode cX6_put 14 = .ok (.iload_n 1, 1) := by decide +kernel
theorem dX6_put_15 : decode cX6_put 15 = .ok (.aaload, 1) := by decide +kernel
theorem dX6_put_16 : decode cX6_put 16 = .ok (.astore 4, 2) := by decide +kernel
theorem dX6_put_18 : decode cX6_put 18 = .ok (.aload 4, 2) := by decide +kernel
theorem dX6_put_20 : decode cX6_put 20 = .ok (.iload_n 2, 1) := by decide +kernel
theorem dX6_put_21 : decode cX6_put 21 = .ok (.iload_n 3, 1) := by decide +kernel
theorem dX6_put_22 : decode cX6_put 22 = .ok (.invokevirtual 101, 3) := by decide +kernel
theorem dX6_put_25 : decode cX6_put 25 = .ok (.ifCond .eq 13, 3) := by decide +kernel
theorem dX6_put_28 : decode cX6_put 28 = .ok (.new 63, 3) := by decide +kernel
theorem dX6_put_31 : decode cX6_put 31 = .ok (.dup, 1) := by decide +kernel
theorem dX6_put_32 : decode cX6_put 32 = .ok (.ldc 105, 2) := by decide +kernel
theorem dX6_put_34 : decode cX6_put 34 = .ok (.invokespecial 67, 3) := by decide +kernel
theorem dX6_put_37 : decode cX6_put 37 = .ok (.athrow, 1) := by decide +kernel
theorem dX6_put_38 : decode cX6_put 38 = .ok (.aload 4, 2) := by decide +kernel
theorem dX6_put_40 : decode cX6_put 40 = .ok (.getfield 80, 3) := by decide +kernel
theorem dX6_put_43 : decode cX6_put 43 = .ok (.ifCond .ne 13, 3) := by decide +kernel
theorem dX6_put_46 : decode cX6_put 46 = .ok (.new 63, 3) := by decide +kernel
theorem dX6_put_49 : decode cX6_put 49 = .ok (.dup, 1) := by decide +kernel
theorem dX6_put_50 : decode cX6_put 50 = .ok (.ldc 107, 2) := by decide +kernel
theorem dX6_put_52 : decode cX6_put 52 = .ok (.invokespecial 67, 3) := by decide +kernel
theorem dX6_put_55 : decode cX6_put 55 = .ok (.athrow, 1) := by decide +kernel
theorem dX6_put_56 : decode cX6_put 56 = .ok (.aload_n 0, 1) := by decide +kernel
theorem dX6_put_57 : decode cX6_put 57 = .ok (.invokevirtual 73, 3) := by decide +kernel
theorem dX6_put_60 : decode cX6_put 60 = .ok (.aload 4, 2) := by decide +kernel
theorem dX6_put_62 : decode cX6_put 62 = .ok (.dup, 1) := by decide +kernel
theorem dX6_put_63 : decode cX6_put 63 = .ok (.getfield 80, 3) := by decide +kernel
theorem dX6_put_66 : decode cX6_put 66 = .ok (.iconst 1, 1) := by decide +kernel
theorem dX6_put_67 : decode cX6_put 67 = .ok (.isub, 1) := by decide +kernel
theorem dX6_put_68 : decode cX6_put 68 = .ok (.putfield 80, 3) := by decide +kernel
theorem dX6_put_71 : decode cX6_put 71 = .ok (.aload 4, 2) := by decide +kernel
theorem dX6_put_73 : decode cX6_put 73 = .ok (.getfield 109, 3) := by decide +kernel
theorem dX6_put_76 : decode cX6_put 76 = .ok (.iload_n 2, 1) := by decide +kernel
theorem dX6_put_77 : decode cX6_put 77 = .ok (.dup2, 1) := by decide +kernel
theorem dX6_put_78 : decode cX6_put 78 = .ok (.iaload, 1) := by decide +kernel
theorem dX6_put_79 : decode cX6_put 79 = .ok (.iconst 1, 1) := by decide +kernel
theorem dX6_put_80 : decode cX6_put 80 = .ok (.iload_n 3, 1) := by decide +kernel
theorem dX6_put_81 : decode cX6_put 81 = .ok (.ishl, 1) := by decide +kernel
theorem dX6_put_82 : decode cX6_put 82 = .ok (.ior, 1) := by decide +kernel
theorem dX6_put_83 : decode cX6_put 83 = .ok (.iastore, 1) := by decide +kernel
theorem dX6_put_84 : decode cX6_put 84 = .ok (.aload 4, 2) := by decide +kernel
theorem dX6_put_86 : decode cX6_put 86 = .ok (.getfield 109, 3) := by decide +kernel
theorem dX6_put_89 : decode cX6_put 89 = .ok (.invokestatic 112, 3) := by decide +kernel
theorem dX6_put_92 : decode cX6_put 92 = .ok (.ireturn, 1) := by decide +kernel
theorem dX6_pull_0 : decode cX6_pull 0 = .ok (.aload_n 0, 1) := by decide +kernel
theorem dX6_pull_1 : decode cX6_pull 1 = .ok (.iload_n 1, 1) := by decide +kernel
theorem dX6_pull_2 : decode cX6_pull 2 = .ok (.iload_n 2, 1) := by decide +kernel
theorem dX6_pull_3 : decode cX6_pull 3 = .ok (.iload_n 3, 1) := by decide +kernel
theorem dX6_pull_4 : decode cX6_pull 4 = .ok (.invokevirtual 97, 3) := by decide +kernel
theorem dX6_pull_7 : decode cX6_pull 7 = .ok (.aload_n 0, 1) := by decide +kernel
theorem dX6_pull_8 : decode cX6_pull 8 = .ok (.getfield 10, 3) := by decide +kernel
theorem dX6_pull_11 : decode cX6_pull 11 = .ok (.getfield 76, 3) := by decide +kernel
theorem dX6_pull_14 : decode cX6_pull 14 = .ok (.iload_n 1, 1) := by decide +kernel
theorem dX6_pull_15 : decode cX6_pull 15 = .ok (.aaload, 1) := by decide +kernel
theorem dX6_pull_16 : decode cX6_pull 16 = .ok (.astore 4, 2) := by decide +kernel
theorem dX6_pull_18 : decode cX6_pull 18 = .ok (.aload 4, 2) := by decide +kernel
theorem dX6_pull_20 : decode cX6_pull 20 = .ok (.iload_n 2, 1) := by decide +kernel
theorem dX6_pull_21 : decode cX6_pull 21 = .ok (.iload_n 3, 1) := by decide +kernel
theorem dX6_pull_22 : decode cX6_pull 22 = .ok (.invokevirtual 101, 3) := by decide +kernel
theorem dX6_pull_25 : decode cX6_pull 25 = .ok (.ifCond .ne 13, 3) := by decide +kernel
theorem dX6_pull_28 : decode cX6_pull 28 = .ok (.new 63, 3) := by decide +kernel
theorem dX6_pull_31 : decode cX6_pull 31 = .ok (.dup, 1) := by decide +kernel
theorem dX6_pull_32 : decode cX6_pull 32 = .ok (.ldc 116, 2) := by decide +kernel
theorem dX6_pull_34 : decode cX6_pull 34 = .ok (.invokespecial 67, 3) := by decide +kernel
theorem dX6_pull_37 : decode cX6_pull 37 = .ok (.athrow, 1) := by decide +kernel
theorem dX6_pull_38 : decode cX6_pull 38 = .ok (.aload 4, 2) := by decide +kernel
theorem dX6_pull_40 : decode cX6_pull 40 = .ok (.getfield 80, 3) := by decide +kernel
theorem dX6_pull_43 : decode cX6_pull 43 = .ok (.aload_n 0, 1) := by decide +kernel
theorem dX6_pull_44 : decode cX6_pull 44 = .ok (.getfield 10, 3) := by decide +kernel
theorem dX6_pull_47 : decode cX6_pull 47 = .ok (.getfield 68, 3) := by decide +kernel
theorem dX6_pull_50 : decode cX6_pull 50 = .ok (.iconst 2, 1) := by decide +kernel
theorem dX6_pull_51 : decode cX6_pull 51 = .ok (.iaload, 1) := by decide +kernel
theorem dX6_pull_52 : decode cX6_pull 52 = .ok (.if_icmp .lt 13, 3) := by decide +kernel
theorem dX6_pull_55 : decode cX6_pull 55 = .ok (.new 63, 3) := by decide +kernel
theorem dX6_pull_58 : decode cX6_pull 58 = .ok (.dup, 1) := by decide +kernel
theorem dX6_pull_59 : decode cX6_pull 59 = .ok (.ldc 118, 2) := by decide +kernel
theorem dX6_pull_61 : decode cX6_pull 61 = .ok (.invokespecial 67, 3) := by decide +kernel
theorem dX6_pull_64 : decode cX6_pull 64 = .ok (.athrow, 1) := by decide +kernel
theorem dX6_pull_65 : decode cX6_pull 65 = .ok (.aload_n 0, 1) := by decide +kernel
theorem dX6_pull_66 : decode cX6_pull 66 = .ok (.invokevirtual 73, 3) := by decide +kernel
theorem dX6_pull_69 : decode cX6_pull 69 = .ok (.aload 4, 2) := by decide +kernel
theorem dX6_pull_71 : decode cX6_pull 71 = .ok (.getfield 109, 3) := by decide +kernel
theorem dX6_pull_74 : decode cX6_pull 74 = .ok (.iload_n 2, 1) := by decide +kernel
theorem dX6_pull_75 : decode cX6_pull 75 = .ok (.dup2, 1) := by decide +kernel
theorem dX6_pull_76 : decode cX6_pull 76 = .ok (.iaload, 1) := by decide +kernel
theorem dX6_pull_77 : decode cX6_pull 77 = .ok (.iconst 1, 1) := by decide +kernel
theorem dX6_pull_78 : decode cX6_pull 78 = .ok (.iload_n 3, 1) := by decide +kernel
theorem dX6_pull_79 : decode cX6_pull 79 = .ok (.ishl, 1) := by decide +kernel
theorem dX6_pull_80 : decode cX6_pull 80 = .ok (.iconst (-1), 1) := by decide +kernel
theorem dX6_pull_81 : decode cX6_pull 81 = .ok (.ixor, 1) := by decide +kernel
theorem dX6_pull_82 : decode cX6_pull 82 = .ok (.iand, 1) := by decide +kernel
theorem dX6_pull_83 : decode cX6_pull 83 = .ok (.iastore, 1) := by decide +kernel
theorem dX6_pull_84 : decode cX6_pull 84 = .ok (.aload 4, 2) := by decide +kernel
theorem dX6_pull_86 : decode cX6_pull 86 = .ok (.dup, 1) := by decide +kernel
theorem dX6_pull_87 : decode cX6_pull 87 = .ok (.getfield 80, 3) := by decide +kernel
theorem dX6_pull_90 : decode cX6_pull 90 = .ok (.iconst 1, 1) := by decide +kernel
theorem dX6_pull_91 : decode cX6_pull 91 = .ok (.iadd, 1) := by decide +kernel
theorem dX6_pull_92 : decode cX6_pull 92 = .ok (.putfield 80, 3) := by decide +kernel
theorem dX6_pull_95 : decode cX6_pull 95 = .ok (.aload 4, 2) := by decide +kernel
theorem dX6_pull_97 : decode cX6_pull 97 = .ok (.getfield 80, 3) := by decide +kernel
theorem dX6_pull_100 : decode cX6_pull 100 = .ok (.ireturn, 1) := by decide +kernel
theorem dX6_move_0 : decode cX6_move 0 = .ok (.aload_n 0, 1) := by decide +kernel
theorem dX6_move_1 : decode cX6_move 1 = .ok (.iload_n 1, 1) := by decide +kernel
theorem dX6_move_2 : decode cX6_move 2 = .ok (.iload_n 3, 1) := by decide +kernel
theorem dX6_move_3 : decode cX6_move 3 = .ok (.iload 4, 2) := by decide +kernel
theorem dX6_move_5 : decode cX6_move 5 = .ok (.invokevirtual 97, 3) := by decide +kernel
theorem dX6_move_8 : decode cX6_move 8 = .ok (.aload_n 0, 1) := by decide +kernel
theorem dX6_move_9 : decode cX6_move 9 = .ok (.iload_n 2, 1) := by decide +kernel
theorem dX6_move_10 : decode cX6_move 10 = .ok (.invokevirtual 120, 3) := by decide +kernel
theorem dX6_move_13 : decode cX6_move 13 = .ok (.iload_n 1, 1) := by decide +kernel
theorem dX6_move_14 : decode cX6_move 14 = .ok (.iload_n 2, 1) := by decide +kernel
theorem dX6_move_15 : decode cX6_move 15 = .ok (.invokestatic 123, 3) := by decide +kernel
theorem dX6_move_18 : decode cX6_move 18 = .ok (.aload_n 0, 1) := by decide +kernel
theorem dX6_move_19 : decode cX6_move 19 = .ok (.getfield 10, 3) := by decide +kernel
theorem dX6_move_22 : decode cX6_move 22 = .ok (.getfield 76, 3) := by decide +kernel
theorem dX6_move_25 : decode cX6_move 25 = .ok (.iload_n 1, 1) := by decide +kernel
theorem dX6_move_26 : decode cX6_move 26 = .ok (.aaload, 1) := by decide +kernel
theorem dX6_move_27 : decode cX6_move 27 = .ok (.astore 5, 2) := by decide +kernel
theorem dX6_move_29 : decode cX6_move 29 = .ok (.aload_n 0, 1) := by decide +kernel
theorem dX6_move_30 : decode cX6_move 30 = .ok (.getfield 10, 3) := by decide +kernel
theorem dX6_move_33 : decode cX6_move 33 = .ok (.getfield 76, 3) := by decide +kernel
theorem dX6_move_36 : decode cX6_move 36 = .ok (.iload_n 2, 1) := by decide +kernel
theorem dX6_move_37 : decode cX6_move 37 = .ok (.aaload, 1) := by decide +kernel
theorem dX6_move_38 : decode cX6_move 38 = .ok (.astore 6, 2) := by decide +kernel
theorem dX6_move_40 : decode cX6_move 40 = .ok (.aload 5, 2) := by decide +kernel
theorem dX6_move_42 : decode cX6_move 42 = .ok (.iload_n 3, 1) := by decide +kernel
theorem dX6_move_43 : decode cX6_move 43 = .ok (.iload 4, 2) := by decide +kernel
theorem dX6_move_45 : decode cX6_move 45 = .ok (.invokevirtual 101, 3) := by decide +kernel
theorem dX6_move_48 : decode cX6_move 48 = .ok (.ifCond .ne 13, 3) := by decide +kernel
theorem dX6_move_51 : decode cX6_move 51 = .ok (.new 63, 3) := by decide +kernel
theorem dX6_move_54 : decode cX6_move 54 = .ok (.dup, 1) := by decide +kernel
theorem dX6_move_55 : decode cX6_move 55 = .ok (.ldc 116, 2) := by decide +kernel
theorem dX6_move_57 : decode cX6_move 57 = .ok (.invokespecial 67, 3) := by decide +kernel
theorem dX6_move_60 : decode cX6_move 60 = .ok (.athrow, 1) := by decide +kernel
theorem dX6_move_61 : decode cX6_move 61 = .ok (.aload 6, 2) := by decide +kernel
theorem dX6_move_63 : decode cX6_move 63 = .ok (.iload_n 3, 1) := by decide +kernel
theorem dX6_move_64 : decode cX6_move 64 = .ok (.iload 4, 2) := by decide +kernel
theorem dX6_move_66 : decode cX6_move 66 = .ok (.invokevirtual 101, 3) := by decide +kernel
theorem dX6_move_69 : decode cX6_move 69 = .ok (.ifCond .eq 13, 3) := by decide +kernel
theorem dX6_move_72 : decode cX6_move 72 = .ok (.new 63, 3) := by decide +kernel
theorem dX6_move_75 : decode cX6_move 75 = .ok (.dup, 1) := by decide +kernel
theorem dX6_move_76 : decode cX6_move 76 = .ok (.ldc 127, 2) := by decide +kernel
theorem dX6_move_78 : decode cX6_move 78 = .ok (.invokespecial 67, 3) := by decide +kernel
theorem dX6_move_81 : decode cX6_move 81 = .ok (.athrow, 1) := by decide +kernel
theorem dX6_move_82 : decode cX6_move 82 = .ok (.aload_n 0, 1) := by decide +kernel
theorem dX6_move_83 : decode cX6_move 83 = .ok (.invokevirtual 73, 3) := by decide +kernel
theorem dX6_move_86 : decode cX6_move 86 = .ok (.aload 5, 2) := by decide +kernel
theorem dX6_move_88 : decode cX6_move 88 = .ok (.getfield 109, 3) := by decide +kernel
theorem dX6_move_91 : decode cX6_move 91 = .ok (.iload_n 3, 1) := by decide +kernel
theorem dX6_move_92 : decode cX6_move 92 = .ok (.dup2, 1) := by decide +kernel
theorem dX6_move_93 : decode cX6_move 93 = .ok (.iaload, 1) := by decide +kernel
theorem dX6_move_94 : decode cX6_move 94 = .ok (.iconst 1, 1) := by decide +kernel
theorem dX6_move_95 : decode cX6_move 95 = .ok (.iload 4, 2) := by decide +kernel
theorem dX6_move_97 : decode cX6_move 97 = .ok (.ishl, 1) := by decide +kernel
theorem dX6_move_98 : decode cX6_move 98 = .ok (.iconst (-1), 1) := by decide +kernel
theorem dX6_move_99 : decode cX6_move 99 = .ok (.ixor, 1) := by decide +kernel
theorem dX6_move_100 : decode cX6_move 100 = .ok (.iand, 1) := by decide +kernel
theorem dX6_move_101 : decode cX6_move 101 = .ok (.iastore, 1) := by decide +kernel
theorem dX6_move_102 : decode cX6_move 102 = .ok (.aload 6, 2) := by decide +kernel
theorem dX6_move_104 : decode cX6_move 104 = .ok (.getfield 109, 3) := by decide +kernel
theorem dX6_move_107 : decode cX6_move 107 = .ok (.iload_n 3, 1) := by decide +kernel
theorem dX6_move_108 : decode cX6_move 108 = .ok (.dup2, 1) := by decide +kernel
theorem dX6_move_109 : decode cX6_move 109 = .ok (.iaload, 1) := by decide +kernel
theorem dX6_move_110 : decode cX6_move 110 = .ok (.iconst 1, 1) := by decide +kernel
theorem dX6_move_111 : decode cX6_move 111 = .ok (.iload 4, 2) := by decide +kernel
theorem dX6_move_113 : decode cX6_move 113 = .ok (.ishl, 1) := by decide +kernel
theorem dX6_move_114 : decode cX6_move 114 = .ok (.ior, 1) := by decide +kernel
theorem dX6_move_115 : decode cX6_move 115 = .ok (.iastore, 1) := by decide +kernel
theorem dX6_move_116 : decode cX6_move 116 = .ok (.aload 6, 2) := by decide +kernel
theorem dX6_move_118 : decode cX6_move 118 = .ok (.getfield 109, 3) := by decide +kernel
theorem dX6_move_121 : decode cX6_move 121 = .ok (.invokestatic 112, 3) := by decide +kernel
theorem dX6_move_124 : decode cX6_move 124 = .ok (.ireturn, 1) := by decide +kernel
theorem dX6_trade_0 : decode cX6_trade 0 = .ok (.aload_n 0, 1) := by decide +kernel
theorem dX6_trade_1 : decode cX6_trade 1 = .ok (.iload_n 1, 1) := by decide +kernel
theorem dX6_trade_2 : decode cX6_trade 2 = .ok (.invokevirtual 120, 3) := by decide +kernel
theorem dX6_trade_5 : decode cX6_trade 5 = .ok (.aload_n 0, 1) := by decide +kernel
theorem dX6_trade_6 : decode cX6_trade 6 = .ok (.iload_n 2, 1) := by decide +kernel
theorem dX6_trade_7 : decode cX6_trade 7 = .ok (.invokevirtual 120, 3) := by decide +kernel
theorem dX6_trade_10 : decode cX6_trade 10 = .ok (.iload_n 1, 1) := by decide +kernel
theorem dX6_trade_11 : decode cX6_trade 11 = .ok (.iload_n 2, 1) := by decide +kernel
theorem dX6_trade_12 : decode cX6_trade 12 = .ok (.invokestatic 123, 3) := by decide +kernel
theorem dX6_trade_15 : decode cX6_trade 15 = .ok (.aload_n 0, 1) := by decide +kernel
theorem dX6_trade_16 : decode cX6_trade 16 = .ok (.invokevirtual 73, 3) := by decide +kernel
theorem dX6_trade_19 : decode cX6_trade 19 = .ok (.aload_n 0, 1) := by decide +kernel
theorem dX6_trade_20 : decode cX6_trade 20 = .ok (.getfield 10, 3) := by decide +kernel
theorem dX6_trade_23 : decode cX6_trade 23 = .ok (.getfield 76, 3) := by decide +kernel
theorem dX6_trade_26 : decode cX6_trade 26 = .ok (.iload_n 1, 1) := by decide +kernel
theorem dX6_trade_27 : decode cX6_trade 27 = .ok (.aaload, 1) := by decide +kernel
theorem dX6_trade_28 : decode cX6_trade 28 = .ok (.astore_n 3, 1) := by decide +kernel
theorem dX6_trade_29 : decode cX6_trade 29 = .ok (.aload_n 0, 1) := by decide +kernel
theorem dX6_trade_30 : decode cX6_trade 30 = .ok (.getfield 10, 3) := by decide +kernel
theorem dX6_trade_33 : decode cX6_trade 33 = .ok (.getfield 76, 3) := by decide +kernel
theorem dX6_trade_36 : decode cX6_trade 36 = .ok (.iload_n 2, 1) := by decide +kernel
theorem dX6_trade_37 : decode cX6_trade 37 = .ok (.aaload, 1) := by decide +kernel
theorem dX6_trade_38 : decode cX6_trade 38 = .ok (.astore 4, 2) := by decide +kernel
theorem dX6_trade_40 : decode cX6_trade 40 = .ok (.iconst 0, 1) := by decide +kernel
theorem dX6_trade_41 : decode cX6_trade 41 = .ok (.istore 5, 2) := by decide +kernel
theorem dX6_trade_43 : decode cX6_trade 43 = .ok (.iload 5, 2) := by decide +kernel
theorem dX6_trade_45 : decode cX6_trade 45 = .ok (.bipush 24, 2) := by decide +kernel
theorem dX6_trade_47 : decode cX6_trade 47 = .ok (.if_icmp .ge 43, 3) := by decide +kernel
theorem dX6_trade_50 : decode cX6_trade 50 = .ok (.aload_n 3, 1) := by decide +kernel
theorem dX6_trade_51 : decode cX6_trade 51 = .ok (.getfield 109, 3) := by decide +kernel
theorem dX6_trade_54 : decode cX6_trade 54 = .ok (.iload 5, 2) := by decide +kernel
theorem dX6_trade_56 : decode cX6_trade 56 = .ok (.iaload, 1) := by decide +kernel
theorem dX6_trade_57 : decode cX6_trade 57 = .ok (.istore 6, 2) := by decide +kernel
theorem dX6_trade_59 : decode cX6_trade 59 = .ok (.aload_n 3, 1) := by decide +kernel
theorem dX6_trade_60 : decode cX6_trade 60 = .ok (.getfield 109, 3) := by decide +kernel
theorem dX6_trade_63 : decode cX6_trade 63 = .ok (.iload 5, 2) := by decide +kernel
theorem dX6_trade_65 : decode cX6_trade 65 = .ok (.aload 4, 2) := by decide +kernel
theorem dX6_trade_67 : decode cX6_trade 67 = .ok (.getfield 109, 3) := by decide +kernel
theorem dX6_trade_70 : decode cX6_trade 70 = .ok (.iload 5, 2) := by decide +kernel
theorem dX6_trade_72 : decode cX6_trade 72 = .ok (.iaload, 1) := by decide +kernel
theorem dX6_trade_73 : decode cX6_trade 73 = .ok (.iastore, 1) := by decide +kernel
theorem dX6_trade_74 : decode cX6_trade 74 = .ok (.aload 4, 2) := by decide +kernel
theorem dX6_trade_76 : decode cX6_trade 76 = .ok (.getfield 109, 3) := by decide +kernel
theorem dX6_trade_79 : decode cX6_trade 79 = .ok (.iload 5, 2) := by decide +kernel
theorem dX6_trade_81 : decode cX6_trade 81 = .ok (.iload 6, 2) := by decide +kernel
theorem dX6_trade_83 : decode cX6_trade 83 = .ok (.iastore, 1) := by decide +kernel
theorem dX6_trade_84 : decode cX6_trade 84 = .ok (.iinc 5 1, 3) := by decide +kernel
theorem dX6_trade_87 : decode cX6_trade 87 = .ok (.goto (-44), 3) := by decide +kernel
theorem dX6_trade_90 : decode cX6_trade 90 = .ok (.aload_n 3, 1) := by decide +kernel
theorem dX6_trade_91 : decode cX6_trade 91 = .ok (.invokevirtual 129, 3) := by decide +kernel
theorem dX6_trade_94 : decode cX6_trade 94 = .ok (.aload 4, 2) := by decide +kernel
theorem dX6_trade_96 : decode cX6_trade 96 = .ok (.invokevirtual 129, 3) := by decide +kernel
theorem dX6_trade_99 : decode cX6_trade 99 = .ok (.iadd, 1) := by decide +kernel
theorem dX6_trade_100 : decode cX6_trade 100 = .ok (.ireturn, 1) := by decide +kernel
theorem dX6_turn_0 : decode cX6_turn 0 = .ok (.aload_n 0, 1) := by decide +kernel
theorem dX6_turn_1 : decode cX6_turn 1 = .ok (.iload_n 1, 1) := by decide +kernel
theorem dX6_turn_2 : decode cX6_turn 2 = .ok (.invokevirtual 120, 3) := by decide +kernel
theorem dX6_turn_5 : decode cX6_turn 5 = .ok (.iload_n 2, 1) := by decide +kernel
theorem dX6_turn_6 : decode cX6_turn 6 = .ok (.ifCond .lt 9, 3) := by decide +kernel
theorem dX6_turn_9 : decode cX6_turn 9 = .ok (.iload_n 2, 1) := by decide +kernel
theorem dX6_turn_10 : decode cX6_turn 10 = .ok (.bipush 24, 2) := by decide +kernel
theorem dX6_turn_12 : decode cX6_turn 12 = .ok (.if_icmp .lt 13, 3) := by decide +kernel
theorem dX6_turn_15 : decode cX6_turn 15 = .ok (.new 52, 3) := by decide +kernel
theorem dX6_turn_18 : decode cX6_turn 18 = .ok (.dup, 1) := by decide +kernel
theorem dX6_turn_19 : decode cX6_turn 19 = .ok (.ldc 133, 2) := by decide +kernel
theorem dX6_turn_21 : decode cX6_turn 21 = .ok (.invokespecial 56, 3) := by decide +kernel
theorem dX6_turn_24 : decode cX6_turn 24 = .ok (.athrow, 1) := by decide +kernel
theorem dX6_turn_25 : decode cX6_turn 25 = .ok (.aload_n 0, 1) := by decide +kernel
theorem dX6_turn_26 : decode cX6_turn 26 = .ok (.invokevirtual 73, 3) := by decide +kernel
theorem dX6_turn_29 : decode cX6_turn 29 = .ok (.aload_n 0, 1) := by decide +kernel
theorem dX6_turn_30 : decode cX6_turn 30 = .ok (.getfield 10, 3) := by decide +kernel
theorem dX6_turn_33 : decode cX6_turn 33 = .ok (.getfield 76, 3) := by decide +kernel
theorem dX6_turn_36 : decode cX6_turn 36 = .ok (.iload_n 1, 1) := by decide +kernel
theorem dX6_turn_37 : decode cX6_turn 37 = .ok (.aaload, 1) := by decide +kernel
theorem dX6_turn_38 : decode cX6_turn 38 = .ok (.astore_n 3, 1) := by decide +kernel
theorem dX6_turn_39 : decode cX6_turn 39 = .ok (.iconst 0, 1) := by decide +kernel
theorem dX6_turn_40 : decode cX6_turn 40 = .ok (.istore 4, 2) := by decide +kernel
theorem dX6_turn_42 : decode cX6_turn 42 = .ok (.iload 4, 2) := by decide +kernel
theorem dX6_turn_44 : decode cX6_turn 44 = .ok (.bipush 24, 2) := by decide +kernel
theorem dX6_turn_46 : decode cX6_turn 46 = .ok (.if_icmp .ge 28, 3) := by decide +kernel
theorem dX6_turn_49 : decode cX6_turn 49 = .ok (.aload_n 0, 1) := by decide +kernel
theorem dX6_turn_50 : decode cX6_turn 50 = .ok (.getfield 48, 3) := by decide +kernel
theorem dX6_turn_53 : decode cX6_turn 53 = .ok (.iload 4, 2) := by decide +kernel
theorem dX6_turn_55 : decode cX6_turn 55 = .ok (.iload_n 2, 1) := by decide +kernel
theorem dX6_turn_56 : decode cX6_turn 56 = .ok (.iadd, 1) := by decide +kernel
theorem dX6_turn_57 : decode cX6_turn 57 = .ok (.bipush 24, 2) := by decide +kernel
theorem dX6_turn_59 : decode cX6_turn 59 = .ok (.irem, 1) := by decide +kernel
theorem dX6_turn_60 : decode cX6_turn 60 = .ok (.aload_n 3, 1) := by decide +kernel
theorem dX6_turn_61 : decode cX6_turn 61 = .ok (.getfield 109, 3) := by decide +kernel
theorem dX6_turn_64 : decode cX6_turn 64 = .ok (.iload 4, 2) := by decide +kernel
theorem dX6_turn_66 : decode cX6_turn 66 = .ok (.iaload, 1) := by decide +kernel
theorem dX6_turn_67 : decode cX6_turn 67 = .ok (.iastore, 1) := by decide +kernel
theorem dX6_turn_68 : decode cX6_turn 68 = .ok (.iinc 4 1, 3) := by decide +kernel
theorem dX6_turn_71 : decode cX6_turn 71 = .ok (.goto (-29), 3) := by decide +kernel
theorem dX6_turn_74 : decode cX6_turn 74 = .ok (.aload_n 0, 1) := by decide +kernel
theorem dX6_turn_75 : decode cX6_turn 75 = .ok (.getfield 48, 3) := by decide +kernel
theorem dX6_turn_78 : decode cX6_turn 78 = .ok (.aload_n 3, 1) := by decide +kernel
theorem dX6_turn_79 : decode cX6_turn 79 = .ok (.getfield 109, 3) := by decide +kernel
theorem dX6_turn_82 : decode cX6_turn 82 = .ok (.invokestatic 135, 3) := by decide +kernel
theorem dX6_turn_85 : decode cX6_turn 85 = .ok (.aload_n 3, 1) := by decide +kernel
theorem dX6_turn_86 : decode cX6_turn 86 = .ok (.invokevirtual 129, 3) := by decide +kernel
theorem dX6_turn_89 : decode cX6_turn 89 = .ok (.ireturn, 1) := by decide +kernel
theorem dX6_file_0 : decode cX6_file 0 = .ok (.aload_n 0, 1) := by decide +kernel
theorem dX6_file_1 : decode cX6_file 1 = .ok (.iload_n 1, 1) := by decide +kernel
theorem dX6_file_2 : decode cX6_file 2 = .ok (.invokevirtual 120, 3) := by decide +kernel
theorem dX6_file_5 : decode cX6_file 5 = .ok (.iload_n 2, 1) := by decide +kernel
theorem dX6_file_6 : decode cX6_file 6 = .ok (.invokestatic 139, 3) := by decide +kernel
theorem dX6_file_9 : decode cX6_file 9 = .ok (.aload_n 0, 1) := by decide +kernel
theorem dX6_file_10 : decode cX6_file 10 = .ok (.invokevirtual 73, 3) := by decide +kernel
theorem dX6_file_13 : decode cX6_file 13 = .ok (.aload_n 0, 1) := by decide +kernel
theorem dX6_file_14 : decode cX6_file 14 = .ok (.getfield 10, 3) := by decide +kernel
theorem dX6_file_17 : decode cX6_file 17 = .ok (.getfield 76, 3) := by decide +kernel
theorem dX6_file_20 : decode cX6_file 20 = .ok (.iload_n 1, 1) := by decide +kernel
theorem dX6_file_21 : decode cX6_file 21 = .ok (.aaload, 1) := by decide +kernel
theorem dX6_file_22 : decode cX6_file 22 = .ok (.getfield 142, 3) := by decide +kernel
theorem dX6_file_25 : decode cX6_file 25 = .ok (.iload_n 2, 1) := by decide +kernel
theorem dX6_file_26 : decode cX6_file 26 = .ok (.iaload, 1) := by decide +kernel
theorem dX6_file_27 : decode cX6_file 27 = .ok (.istore_n 3, 1) := by decide +kernel
theorem dX6_file_28 : decode cX6_file 28 = .ok (.aload_n 0, 1) := by decide +kernel
theorem dX6_file_29 : decode cX6_file 29 = .ok (.getfield 10, 3) := by decide +kernel
theorem dX6_file_32 : decode cX6_file 32 = .ok (.getfield 76, 3) := by decide +kernel
theorem dX6_file_35 : decode cX6_file 35 = .ok (.iload_n 1, 1) := by decide +kernel
theorem dX6_file_36 : decode cX6_file 36 = .ok (.aaload, 1) := by decide +kernel
theorem dX6_file_37 : decode cX6_file 37 = .ok (.getfield 142, 3) := by decide +kernel
theorem dX6_file_40 : decode cX6_file 40 = .ok (.iload_n 2, 1) := by decide +kernel
theorem dX6_file_41 : decode cX6_file 41 = .ok (.iconst 0, 1) := by decide +kernel
theorem dX6_file_42 : decode cX6_file 42 = .ok (.iastore, 1) := by decide +kernel
theorem dX6_file_43 : decode cX6_file 43 = .ok (.iload_n 3, 1) := by decide +kernel
theorem dX6_file_44 : decode cX6_file 44 = .ok (.ireturn, 1) := by decide +kernel
theorem dX6_play_0 : decode cX6_play 0 = .ok (.aload_n 0, 1) := by decide +kernel
theorem dX6_play_1 : decode cX6_play 1 = .ok (.iload_n 1, 1) := by decide +kernel
theorem dX6_play_2 : decode cX6_play 2 = .ok (.invokevirtual 120, 3) := by decide +kernel
theorem dX6_play_5 : decode cX6_play 5 = .ok (.aload_n 0, 1) := by decide +kernel
theorem dX6_play_6 : decode cX6_play 6 = .ok (.invokevirtual 73, 3) := by decide +kernel
theorem dX6_play_9 : decode cX6_play 9 = .ok (.aload_n 0, 1) := by decide +kernel
theorem dX6_play_10 : decode cX6_play 10 = .ok (.iload_n 1, 1) := by decide +kernel
theorem dX6_play_11 : decode cX6_play 11 = .ok (.invokevirtual 145, 3) := by decide +kernel
theorem dX6_play_14 : decode cX6_play 14 = .ok (.aload_n 0, 1) := by decide +kernel
theorem dX6_play_15 : decode cX6_play 15 = .ok (.getfield 10, 3) := by decide +kernel
theorem dX6_play_18 : decode cX6_play 18 = .ok (.getfield 76, 3) := by decide +kernel
theorem dX6_play_21 : decode cX6_play 21 = .ok (.iload_n 1, 1) := by decide +kernel
theorem dX6_play_22 : decode cX6_play 22 = .ok (.aaload, 1) := by decide +kernel
theorem dX6_play_23 : decode cX6_play 23 = .ok (.aload_n 0, 1) := by decide +kernel
theorem dX6_play_24 : decode cX6_play 24 = .ok (.getfield 30, 3) := by decide +kernel
theorem dX6_play_27 : decode cX6_play 27 = .ok (.invokevirtual 148, 3) := by decide +kernel
theorem dX6_play_30 : decode cX6_play 30 = .ok (.aload_n 0, 1) := by decide +kernel
theorem dX6_play_31 : decode cX6_play 31 = .ok (.getfield 30, 3) := by decide +kernel
theorem dX6_play_34 : decode cX6_play 34 = .ok (.getfield 152, 3) := by decide +kernel
theorem dX6_play_37 : decode cX6_play 37 = .ok (.ireturn, 1) := by decide +kernel
theorem dX6_lend_0 : decode cX6_lend 0 = .ok (.aload_n 0, 1) := by decide +kernel
theorem dX6_lend_1 : decode cX6_lend 1 = .ok (.iload_n 1, 1) := by decide +kernel
theorem dX6_lend_2 : decode cX6_lend 2 = .ok (.invokevirtual 120, 3) := by decide +kernel
theorem dX6_lend_5 : decode cX6_lend 5 = .ok (.aload_n 0, 1) := by decide +kernel
theorem dX6_lend_6 : decode cX6_lend 6 = .ok (.iload_n 2, 1) := by decide +kernel
theorem dX6_lend_7 : decode cX6_lend 7 = .ok (.invokevirtual 120, 3) := by decide +kernel
theorem dX6_lend_10 : decode cX6_lend 10 = .ok (.iload_n 1, 1) := by decide +kernel
theorem dX6_lend_11 : decode cX6_lend 11 = .ok (.iload_n 2, 1) := by decide +kernel
theorem dX6_lend_12 : decode cX6_lend 12 = .ok (.invokestatic 123, 3) := by decide +kernel
theorem dX6_lend_15 : decode cX6_lend 15 = .ok (.iload_n 3, 1) := by decide +kernel
theorem dX6_lend_16 : decode cX6_lend 16 = .ok (.invokestatic 155, 3) := by decide +kernel
theorem dX6_lend_19 : decode cX6_lend 19 = .ok (.aload_n 0, 1) := by decide +kernel
theorem dX6_lend_20 : decode cX6_lend 20 = .ok (.iload_n 1, 1) := by decide +kernel
theorem dX6_lend_21 : decode cX6_lend 21 = .ok (.iload_n 2, 1) := by decide +kernel
theorem dX6_lend_22 : decode cX6_lend 22 = .ok (.iload_n 3, 1) := by decide +kernel
theorem dX6_lend_23 : decode cX6_lend 23 = .ok (.invokevirtual 158, 3) := by decide +kernel
theorem dX6_lend_26 : decode cX6_lend 26 = .ok (.aload_n 0, 1) := by decide +kernel
theorem dX6_lend_27 : decode cX6_lend 27 = .ok (.invokevirtual 73, 3) := by decide +kernel
theorem dX6_lend_30 : decode cX6_lend 30 = .ok (.aload_n 0, 1) := by decide +kernel
theorem dX6_lend_31 : decode cX6_lend 31 = .ok (.getfield 10, 3) := by decide +kernel
theorem dX6_lend_34 : decode cX6_lend 34 = .ok (.iload_n 1, 1) := by decide +kernel
theorem dX6_lend_35 : decode cX6_lend 35 = .ok (.iload_n 2, 1) := by decide +kernel
theorem dX6_lend_36 : decode cX6_lend 36 = .ok (.iload_n 3, 1) := by decide +kernel
theorem dX6_lend_37 : decode cX6_lend 37 = .ok (.invokevirtual 161, 3) := by decide +kernel
theorem dX6_lend_40 : decode cX6_lend 40 = .ok (.aload_n 0, 1) := by decide +kernel
theorem dX6_lend_41 : decode cX6_lend 41 = .ok (.getfield 10, 3) := by decide +kernel
theorem dX6_lend_44 : decode cX6_lend 44 = .ok (.getfield 164, 3) := by decide +kernel
theorem dX6_lend_47 : decode cX6_lend 47 = .ok (.iload_n 2, 1) := by decide +kernel
theorem dX6_lend_48 : decode cX6_lend 48 = .ok (.aaload, 1) := by decide +kernel
theorem dX6_lend_49 : decode cX6_lend 49 = .ok (.iload_n 1, 1) := by decide +kernel
theorem dX6_lend_50 : decode cX6_lend 50 = .ok (.dup2, 1) := by decide +kernel
theorem dX6_lend_51 : decode cX6_lend 51 = .ok (.iaload, 1) := by decide +kernel
theorem dX6_lend_52 : decode cX6_lend 52 = .ok (.iload_n 3, 1) := by decide +kernel
theorem dX6_lend_53 : decode cX6_lend 53 = .ok (.iadd, 1) := by decide +kernel
theorem dX6_lend_54 : decode cX6_lend 54 = .ok (.iastore, 1) := by decide +kernel
theorem dX6_lend_55 : decode cX6_lend 55 = .ok (.aload_n 0, 1) := by decide +kernel
theorem dX6_lend_56 : decode cX6_lend 56 = .ok (.getfield 10, 3) := by decide +kernel
theorem dX6_lend_59 : decode cX6_lend 59 = .ok (.dup, 1) := by decide +kernel
theorem dX6_lend_60 : decode cX6_lend 60 = .ok (.getfield 168, 3) := by decide +kernel
theorem dX6_lend_63 : decode cX6_lend 63 = .ok (.iload_n 3, 1) := by decide +kernel
theorem dX6_lend_64 : decode cX6_lend 64 = .ok (.iadd, 1) := by decide +kernel
theorem dX6_lend_65 : decode cX6_lend 65 = .ok (.putfield 168, 3) := by decide +kernel
theorem dX6_lend_68 : decode cX6_lend 68 = .ok (.aload_n 0, 1) := by decide +kernel
theorem dX6_lend_69 : decode cX6_lend 69 = .ok (.getfield 10, 3) := by decide +kernel
theorem dX6_lend_72 : decode cX6_lend 72 = .ok (.getfield 164, 3) := by decide +kernel
theorem dX6_lend_75 : decode cX6_lend 75 = .ok (.iload_n 2, 1) := by decide +kernel
theorem dX6_lend_76 : decode cX6_lend 76 = .ok (.aaload, 1) := by decide +kernel
theorem dX6_lend_77 : decode cX6_lend 77 = .ok (.iload_n 1, 1) := by decide +kernel
theorem dX6_lend_78 : decode cX6_lend 78 = .ok (.iaload, 1) := by decide +kernel
theorem dX6_lend_79 : decode cX6_lend 79 = .ok (.ireturn, 1) := by decide +kernel
theorem dX6_repay_0 : decode cX6_repay 0 = .ok (.aload_n 0, 1) := by decide +kernel
theorem dX6_repay_1 : decode cX6_repay 1 = .ok (.iload_n 1, 1) := by decide +kernel
theorem dX6_repay_2 : decode cX6_repay 2 = .ok (.invokevirtual 120, 3) := by decide +kernel
theorem dX6_repay_5 : decode cX6_repay 5 = .ok (.aload_n 0, 1) := by decide +kernel
theorem dX6_repay_6 : decode cX6_repay 6 = .ok (.iload_n 2, 1) := by decide +kernel
theorem dX6_repay_7 : decode cX6_repay 7 = .ok (.invokevirtual 120, 3) := by decide +kernel
theorem dX6_repay_10 : decode cX6_repay 10 = .ok (.iload_n 1, 1) := by decide +kernel
theorem dX6_repay_11 : decode cX6_repay 11 = .ok (.iload_n 2, 1) := by decide +kernel
theorem dX6_repay_12 : decode cX6_repay 12 = .ok (.invokestatic 123, 3) := by decide +kernel
theorem dX6_repay_15 : decode cX6_repay 15 = .ok (.iload_n 3, 1) := by decide +kernel
theorem dX6_repay_16 : decode cX6_repay 16 = .ok (.invokestatic 155, 3) := by decide +kernel
theorem dX6_repay_19 : decode cX6_repay 19 = .ok (.aload_n 0, 1) := by decide +kernel
theorem dX6_repay_20 : decode cX6_repay 20 = .ok (.getfield 10, 3) := by decide +kernel
theorem dX6_repay_23 : decode cX6_repay 23 = .ok (.getfield 164, 3) := by decide +kernel
theorem dX6_repay_26 : decode cX6_repay 26 = .ok (.iload_n 1, 1) := by decide +kernel
theorem dX6_repay_27 : decode cX6_repay 27 = .ok (.aaload, 1) := by decide +kernel
theorem dX6_repay_28 : decode cX6_repay 28 = .ok (.iload_n 2, 1) := by decide +kernel
theorem dX6_repay_29 : decode cX6_repay 29 = .ok (.iaload, 1) := by decide +kernel
theorem dX6_repay_30 : decode cX6_repay 30 = .ok (.iload_n 3, 1) := by decide +kernel
theorem dX6_repay_31 : decode cX6_repay 31 = .ok (.if_icmp .ge 13, 3) := by decide +kernel
theorem dX6_repay_34 : decode cX6_repay 34 = .ok (.new 63, 3) := by decide +kernel
theorem dX6_repay_37 : decode cX6_repay 37 = .ok (.dup, 1) := by decide +kernel
theorem dX6_repay_38 : decode cX6_repay 38 = .ok (.ldc 171, 2) := by decide +kernel
theorem dX6_repay_40 : decode cX6_repay 40 = .ok (.invokespecial 67, 3) := by decide +kernel
theorem dX6_repay_43 : decode cX6_repay 43 = .ok (.athrow, 1) := by decide +kernel
theorem dX6_repay_44 : decode cX6_repay 44 = .ok (.aload_n 0, 1) := by decide +kernel
theorem dX6_repay_45 : decode cX6_repay 45 = .ok (.iload_n 1, 1) := by decide +kernel
theorem dX6_repay_46 : decode cX6_repay 46 = .ok (.iload_n 2, 1) := by decide +kernel
theorem dX6_repay_47 : decode cX6_repay 47 = .ok (.iload_n 3, 1) := by decide +kernel
theorem dX6_repay_48 : decode cX6_repay 48 = .ok (.invokevirtual 158, 3) := by decide +kernel
theorem dX6_repay_51 : decode cX6_repay 51 = .ok (.aload_n 0, 1) := by decide +kernel
theorem dX6_repay_52 : decode cX6_repay 52 = .ok (.invokevirtual 73, 3) := by decide +kernel
theorem dX6_repay_55 : decode cX6_repay 55 = .ok (.aload_n 0, 1) := by decide +kernel
theorem dX6_repay_56 : decode cX6_repay 56 = .ok (.getfield 10, 3) := by decide +kernel
theorem dX6_repay_59 : decode cX6_repay 59 = .ok (.iload_n 1, 1) := by decide +kernel
theorem dX6_repay_60 : decode cX6_repay 60 = .ok (.iload_n 2, 1) := by decide +kernel
theorem dX6_repay_61 : decode cX6_repay 61 = .ok (.iload_n 3, 1) := by decide +kernel
theorem dX6_repay_62 : decode cX6_repay 62 = .ok (.invokevirtual 161, 3) := by decide +kernel
theorem dX6_repay_65 : decode cX6_repay 65 = .ok (.aload_n 0, 1) := by decide +kernel
theorem dX6_repay_66 : decode cX6_repay 66 = .ok (.getfield 10, 3) := by decide +kernel
theorem dX6_repay_69 : decode cX6_repay 69 = .ok (.getfield 164, 3) := by decide +kernel
theorem dX6_repay_72 : decode cX6_repay 72 = .ok (.iload_n 1, 1) := by decide +kernel
theorem dX6_repay_73 : decode cX6_repay 73 = .ok (.aaload, 1) := by decide +kernel
theorem dX6_repay_74 : decode cX6_repay 74 = .ok (.iload_n 2, 1) := by decide +kernel
theorem dX6_repay_75 : decode cX6_repay 75 = .ok (.dup2, 1) := by decide +kernel
theorem dX6_repay_76 : decode cX6_repay 76 = .ok (.iaload, 1) := by decide +kernel
theorem dX6_repay_77 : decode cX6_repay 77 = .ok (.iload_n 3, 1) := by decide +kernel
theorem dX6_repay_78 : decode cX6_repay 78 = .ok (.isub, 1) := by decide +kernel
theorem dX6_repay_79 : decode cX6_repay 79 = .ok (.iastore, 1) := by decide +kernel
theorem dX6_repay_80 : decode cX6_repay 80 = .ok (.aload_n 0, 1) := by decide +kernel
theorem dX6_repay_81 : decode cX6_repay 81 = .ok (.getfield 10, 3) := by decide +kernel
theorem dX6_repay_84 : decode cX6_repay 84 = .ok (.dup, 1) := by decide +kernel
theorem dX6_repay_85 : decode cX6_repay 85 = .ok (.getfield 173, 3) := by decide +kernel
theorem dX6_repay_88 : decode cX6_repay 88 = .ok (.iload_n 3, 1) := by decide +kernel
theorem dX6_repay_89 : decode cX6_repay 89 = .ok (.iadd, 1) := by decide +kernel
theorem dX6_repay_90 : decode cX6_repay 90 = .ok (.putfield 173, 3) := by decide +kernel
theorem dX6_repay_93 : decode cX6_repay 93 = .ok (.aload_n 0, 1) := by decide +kernel
theorem dX6_repay_94 : decode cX6_repay 94 = .ok (.getfield 10, 3) := by decide +kernel
theorem dX6_repay_97 : decode cX6_repay 97 = .ok (.getfield 164, 3) := by decide +kernel
theorem dX6_repay_100 : decode cX6_repay 100 = .ok (.iload_n 1, 1) := by decide +kernel
theorem dX6_repay_101 : decode cX6_repay 101 = .ok (.aaload, 1) := by decide +kernel
theorem dX6_repay_102 : decode cX6_repay 102 = .ok (.iload_n 2, 1) := by decide +kernel
theorem dX6_repay_103 : decode cX6_repay 103 = .ok (.iaload, 1) := by decide +kernel
theorem dX6_repay_104 : decode cX6_repay 104 = .ok (.ireturn, 1) := by decide +kernel
theorem dX6_settle_0 : decode cX6_settle 0 = .ok (.aload_n 0, 1) := by decide +kernel
theorem dX6_settle_1 : decode cX6_settle 1 = .ok (.invokevirtual 73, 3) := by decide +kernel
theorem dX6_settle_4 : decode cX6_settle 4 = .ok (.iconst 0, 1) := by decide +kernel
theorem dX6_settle_5 : decode cX6_settle 5 = .ok (.istore_n 1, 1) := by decide +kernel
theorem dX6_settle_6 : decode cX6_settle 6 = .ok (.aload_n 0, 1) := by decide +kernel
theorem dX6_settle_7 : decode cX6_settle 7 = .ok (.getfield 37, 3) := by decide +kernel
theorem dX6_settle_10 : decode cX6_settle 10 = .ok (.aload_n 0, 1) := by decide +kernel
theorem dX6_settle_11 : decode cX6_settle 11 = .ok (.getfield 10, 3) := by decide +kernel
theorem dX6_settle_14 : decode cX6_settle 14 = .ok (.invokevirtual 176, 3) := by decide +kernel
theorem dX6_settle_17 : decode cX6_settle 17 = .ok (.aload_n 0, 1) := by decide +kernel
theorem dX6_settle_18 : decode cX6_settle 18 = .ok (.getfield 37, 3) := by decide +kernel
theorem dX6_settle_21 : decode cX6_settle 21 = .ok (.getfield 180, 3) := by decide +kernel
theorem dX6_settle_24 : decode cX6_settle 24 = .ok (.ifCond .le 37, 3) := by decide +kernel
theorem dX6_settle_27 : decode cX6_settle 27 = .ok (.iload_n 1, 1) := by decide +kernel
theorem dX6_settle_28 : decode cX6_settle 28 = .ok (.bipush 30, 2) := by decide +kernel
theorem dX6_settle_30 : decode cX6_settle 30 = .ok (.if_icmp .ge 31, 3) := by decide +kernel
theorem dX6_settle_33 : decode cX6_settle 33 = .ok (.aload_n 0, 1) := by decide +kernel
theorem dX6_settle_34 : decode cX6_settle 34 = .ok (.getfield 10, 3) := by decide +kernel
theorem dX6_settle_37 : decode cX6_settle 37 = .ok (.aload_n 0, 1) := by decide +kernel
theorem dX6_settle_38 : decode cX6_settle 38 = .ok (.getfield 37, 3) := by decide +kernel
theorem dX6_settle_41 : decode cX6_settle 41 = .ok (.invokevirtual 183, 3) := by decide +kernel
theorem dX6_settle_44 : decode cX6_settle 44 = .ok (.iinc 1 1, 3) := by decide +kernel
theorem dX6_settle_47 : decode cX6_settle 47 = .ok (.aload_n 0, 1) := by decide +kernel
theorem dX6_settle_48 : decode cX6_settle 48 = .ok (.getfield 37, 3) := by decide +kernel
theorem dX6_settle_51 : decode cX6_settle 51 = .ok (.aload_n 0, 1) := by decide +kernel
theorem dX6_settle_52 : decode cX6_settle 52 = .ok (.getfield 10, 3) := by decide +kernel
theorem dX6_settle_55 : decode cX6_settle 55 = .ok (.invokevirtual 176, 3) := by decide +kernel
theorem dX6_settle_58 : decode cX6_settle 58 = .ok (.goto (-41), 3) := by decide +kernel
theorem dX6_settle_61 : decode cX6_settle 61 = .ok (.iload_n 1, 1) := by decide +kernel
theorem dX6_settle_62 : decode cX6_settle 62 = .ok (.ireturn, 1) := by decide +kernel
theorem dX6_append_0 : decode cX6_append 0 = .ok (.iload_n 1, 1) := by decide +kernel
theorem dX6_append_1 : decode cX6_append 1 = .ok (.bipush 33, 2) := by decide +kernel
theorem dX6_append_3 : decode cX6_append 3 = .ok (.if_icmp .lt 9, 3) := by decide +kernel
theorem dX6_append_6 : decode cX6_append 6 = .ok (.iload_n 1, 1) := by decide +kernel
theorem dX6_append_7 : decode cX6_append 7 = .ok (.bipush 126, 2) := by decide +kernel
theorem dX6_append_9 : decode cX6_append 9 = .ok (.if_icmp .le 13, 3) := by decide +kernel
theorem dX6_append_12 : decode cX6_append 12 = .ok (.new 52, 3) := by decide +kernel
theorem dX6_append_15 : decode cX6_append 15 = .ok (.dup, 1) := by decide +kernel
theorem dX6_append_16 : decode cX6_append 16 = .ok (.ldc 187, 2) := by decide +kernel
theorem dX6_append_18 : decode cX6_append 18 = .ok (.invokespecial 56, 3) := by decide +kernel
theorem dX6_append_21 : decode cX6_append 21 = .ok (.athrow, 1) := by decide +kernel
theorem dX6_append_22 : decode cX6_append 22 = .ok (.aload_n 0, 1) := by decide +kernel
theorem dX6_append_23 : decode cX6_append 23 = .ok (.getfield 23, 3) := by decide +kernel
theorem dX6_append_26 : decode cX6_append 26 = .ok (.getfield 189, 3) := by decide +kernel
theorem dX6_append_29 : decode cX6_append 29 = .ok (.bipush 60, 2) := by decide +kernel
theorem dX6_append_31 : decode cX6_append 31 = .ok (.if_icmp .lt 13, 3) := by decide +kernel
theorem dX6_append_34 : decode cX6_append 34 = .ok (.new 63, 3) := by decide +kernel
theorem dX6_append_37 : decode cX6_append 37 = .ok (.dup, 1) := by decide +kernel
theorem dX6_append_38 : decode cX6_append 38 = .ok (.ldc 190, 2) := by decide +kernel
theorem dX6_append_40 : decode cX6_append 40 = .ok (.invokespecial 67, 3) := by decide +kernel
theorem dX6_append_43 : decode cX6_append 43 = .ok (.athrow, 1) := by decide +kernel
theorem dX6_append_44 : decode cX6_append 44 = .ok (.aload_n 0, 1) := by decide +kernel
theorem dX6_append_45 : decode cX6_append 45 = .ok (.getfield 23, 3) := by decide +kernel
theorem dX6_append_48 : decode cX6_append 48 = .ok (.getfield 192, 3) := by decide +kernel
theorem dX6_append_51 : decode cX6_append 51 = .ok (.aload_n 0, 1) := by decide +kernel
theorem dX6_append_52 : decode cX6_append 52 = .ok (.getfield 23, 3) := by decide +kernel
theorem dX6_append_55 : decode cX6_append 55 = .ok (.getfield 189, 3) := by decide +kernel
theorem dX6_append_58 : decode cX6_append 58 = .ok (.iload_n 1, 1) := by decide +kernel
theorem dX6_append_59 : decode cX6_append 59 = .ok (.iastore, 1) := by decide +kernel
theorem dX6_append_60 : decode cX6_append 60 = .ok (.aload_n 0, 1) := by decide +kernel
theorem dX6_append_61 : decode cX6_append 61 = .ok (.getfield 23, 3) := by decide +kernel
theorem dX6_append_64 : decode cX6_append 64 = .ok (.dup, 1) := by decide +kernel
theorem dX6_append_65 : decode cX6_append 65 = .ok (.getfield 189, 3) := by decide +kernel
theorem dX6_append_68 : decode cX6_append 68 = .ok (.iconst 1, 1) := by decide +kernel
theorem dX6_append_69 : decode cX6_append 69 = .ok (.iadd, 1) := by decide +kernel
theorem dX6_append_70 : decode cX6_append 70 = .ok (.putfield 189, 3) := by decide +kernel
theorem dX6_append_73 : decode cX6_append 73 = .ok (.aload_n 0, 1) := by decide +kernel
theorem dX6_append_74 : decode cX6_append 74 = .ok (.getfield 23, 3) := by decide +kernel
theorem dX6_append_77 : decode cX6_append 77 = .ok (.getfield 189, 3) := by decide +kernel
theorem dX6_append_80 : decode cX6_append 80 = .ok (.ireturn, 1) := by decide +kernel
theorem dX6_clearBuffer_0 : decode cX6_clearBuffer 0 = .ok (.aload_n 0, 1) := by decide +kernel
theorem dX6_clearBuffer_1 : decode cX6_clearBuffer 1 = .ok (.getfield 23, 3) := by decide +kernel
theorem dX6_clearBuffer_4 : decode cX6_clearBuffer 4 = .ok (.getfield 189, 3) := by decide +kernel
theorem dX6_clearBuffer_7 : decode cX6_clearBuffer 7 = .ok (.istore_n 1, 1) := by decide +kernel
theorem dX6_clearBuffer_8 : decode cX6_clearBuffer 8 = .ok (.aload_n 0, 1) := by decide +kernel
theorem dX6_clearBuffer_9 : decode cX6_clearBuffer 9 = .ok (.getfield 23, 3) := by decide +kernel
theorem dX6_clearBuffer_12 : decode cX6_clearBuffer 12 = .ok (.iconst 0, 1) := by decide +kernel
theorem dX6_clearBuffer_13 : decode cX6_clearBuffer 13 = .ok (.putfield 189, 3) := by decide +kernel
theorem dX6_clearBuffer_16 : decode cX6_clearBuffer 16 = .ok (.iload_n 1, 1) := by decide +kernel
theorem dX6_clearBuffer_17 : decode cX6_clearBuffer 17 = .ok (.ireturn, 1) := by decide +kernel
theorem dX6_firstError_0 : decode cX6_firstError 0 = .ok (.aload_n 0, 1) := by decide +kernel
theorem dX6_firstError_1 : decode cX6_firstError 1 = .ok (.getfield 23, 3) := by decide +kernel
theorem dX6_firstError_4 : decode cX6_firstError 4 = .ok (.invokevirtual 195, 3) := by decide +kernel
theorem dX6_firstError_7 : decode cX6_firstError 7 = .ok (.ireturn, 1) := by decide +kernel
theorem dX6_learn_0 : decode cX6_learn 0 = .ok (.aload_n 0, 1) := by decide +kernel
theorem dX6_learn_1 : decode cX6_learn 1 = .ok (.iload_n 1, 1) := by decide +kernel
theorem dX6_learn_2 : decode cX6_learn 2 = .ok (.invokevirtual 120, 3) := by decide +kernel
theorem dX6_learn_5 : decode cX6_learn 5 = .ok (.aload_n 0, 1) := by decide +kernel
theorem dX6_learn_6 : decode cX6_learn 6 = .ok (.getfield 23, 3) := by decide +kernel
theorem dX6_learn_9 : decode cX6_learn 9 = .ok (.invokevirtual 195, 3) := by decide +kernel
theorem dX6_learn_12 : decode cX6_learn 12 = .ok (.aload_n 0, 1) := by decide +kernel
theorem dX6_learn_13 : decode cX6_learn 13 = .ok (.getfield 23, 3) := by decide +kernel
theorem dX6_learn_16 : decode cX6_learn 16 = .ok (.getfield 189, 3) := by decide +kernel
theorem dX6_learn_19 : decode cX6_learn 19 = .ok (.if_icmp .lt 13, 3) := by decide +kernel
theorem dX6_learn_22 : decode cX6_learn 22 = .ok (.aload_n 0, 1) := by decide +kernel
theorem dX6_learn_23 : decode cX6_learn 23 = .ok (.getfield 23, 3) := by decide +kernel
theorem dX6_learn_26 : decode cX6_learn 26 = .ok (.invokevirtual 198, 3) := by decide +kernel
theorem dX6_learn_29 : decode cX6_learn 29 = .ok (.ifCond .ne 13, 3) := by decide +kernel
theorem dX6_learn_32 : decode cX6_learn 32 = .ok (.new 52, 3) := by decide +kernel
theorem dX6_learn_35 : decode cX6_learn 35 = .ok (.dup, 1) := by decide +kernel
theorem dX6_learn_36 : decode cX6_learn 36 = .ok (.ldc 202, 2) := by decide +kernel
theorem dX6_learn_38 : decode cX6_learn 38 = .ok (.invokespecial 56, 3) := by decide +kernel
theorem dX6_learn_41 : decode cX6_learn 41 = .ok (.athrow, 1) := by decide +kernel
theorem dX6_learn_42 : decode cX6_learn 42 = .ok (.aload_n 0, 1) := by decide +kernel
theorem dX6_learn_43 : decode cX6_learn 43 = .ok (.invokevirtual 73, 3) := by decide +kernel
theorem dX6_learn_46 : decode cX6_learn 46 = .ok (.aload_n 0, 1) := by decide +kernel
theorem dX6_learn_47 : decode cX6_learn 47 = .ok (.getfield 10, 3) := by decide +kernel
theorem dX6_learn_50 : decode cX6_learn 50 = .ok (.getfield 76, 3) := by decide +kernel
theorem dX6_learn_53 : decode cX6_learn 53 = .ok (.iload_n 1, 1) := by decide +kernel
theorem dX6_learn_54 : decode cX6_learn 54 = .ok (.aaload, 1) := by decide +kernel
theorem dX6_learn_55 : decode cX6_learn 55 = .ok (.astore_n 2, 1) := by decide +kernel
theorem dX6_learn_56 : decode cX6_learn 56 = .ok (.aload_n 0, 1) := by decide +kernel
theorem dX6_learn_57 : decode cX6_learn 57 = .ok (.getfield 23, 3) := by decide +kernel
theorem dX6_learn_60 : decode cX6_learn 60 = .ok (.getfield 204, 3) := by decide +kernel
theorem dX6_learn_63 : decode cX6_learn 63 = .ok (.aload_n 2, 1) := by decide +kernel
theorem dX6_learn_64 : decode cX6_learn 64 = .ok (.getfield 207, 3) := by decide +kernel
theorem dX6_learn_67 : decode cX6_learn 67 = .ok (.invokestatic 135, 3) := by decide +kernel
theorem dX6_learn_70 : decode cX6_learn 70 = .ok (.aload_n 0, 1) := by decide +kernel
theorem dX6_learn_71 : decode cX6_learn 71 = .ok (.getfield 23, 3) := by decide +kernel
theorem dX6_learn_74 : decode cX6_learn 74 = .ok (.iconst 0, 1) := by decide +kernel
theorem dX6_learn_75 : decode cX6_learn 75 = .ok (.putfield 189, 3) := by decide +kernel
theorem dX6_learn_78 : decode cX6_learn 78 = .ok (.aload_n 2, 1) := by decide +kernel
theorem dX6_learn_79 : decode cX6_learn 79 = .ok (.getfield 207, 3) := by decide +kernel
theorem dX6_learn_82 : decode cX6_learn 82 = .ok (.invokestatic 112, 3) := by decide +kernel
theorem dX6_learn_85 : decode cX6_learn 85 = .ok (.ireturn, 1) := by decide +kernel
theorem dX6_undo_0 : decode cX6_undo 0 = .ok (.aload_n 0, 1) := by decide +kernel
theorem dX6_undo_1 : decode cX6_undo 1 = .ok (.getfield 208, 3) := by decide +kernel
theorem dX6_undo_4 : decode cX6_undo 4 = .ok (.ifCond .gt 13, 3) := by decide +kernel
theorem dX6_undo_7 : decode cX6_undo 7 = .ok (.new 63, 3) := by decide +kernel
theorem dX6_undo_10 : decode cX6_undo 10 = .ok (.dup, 1) := by decide +kernel
theorem dX6_undo_11 : decode cX6_undo 11 = .ok (.ldc 211, 2) := by decide +kernel
theorem dX6_undo_13 : decode cX6_undo 13 = .ok (.invokespecial 67, 3) := by decide +kernel
theorem dX6_undo_16 : decode cX6_undo 16 = .ok (.athrow, 1) := by decide +kernel
theorem dX6_undo_17 : decode cX6_undo 17 = .ok (.aload_n 0, 1) := by decide +kernel
theorem dX6_undo_18 : decode cX6_undo 18 = .ok (.dup, 1) := by decide +kernel
theorem dX6_undo_19 : decode cX6_undo 19 = .ok (.getfield 208, 3) := by decide +kernel
theorem dX6_undo_22 : decode cX6_undo 22 = .ok (.iconst 1, 1) := by decide +kernel
theorem dX6_undo_23 : decode cX6_undo 23 = .ok (.isub, 1) := by decide +kernel
theorem dX6_undo_24 : decode cX6_undo 24 = .ok (.putfield 208, 3) := by decide +kernel
theorem dX6_undo_27 : decode cX6_undo 27 = .ok (.aload_n 0, 1) := by decide +kernel
end
section
theorem dX6_undo_28 : decode cX6_undo 28 = .ok (.getfield 10, 3) := by decide +kernel
theorem dX6_undo_31 : decode cX6_undo 31 = .ok (.aload_n 0, 1) := by decide +kernel
theorem dX6_undo_32 : decode cX6_undo 32 = .ok (.getfield 16, 3) := by decide +kernel
theorem dX6_undo_35 : decode cX6_undo 35 = .ok (.aload_n 0, 1) := by decide +kernel
theorem dX6_undo_36 : decode cX6_undo 36 = .ok (.getfield 208, 3) := by decide +kernel
theorem dX6_undo_39 : decode cX6_undo 39 = .ok (.aaload, 1) := by decide +kernel
theorem dX6_undo_40 : decode cX6_undo 40 = .ok (.invokevirtual 213, 3) := by decide +kernel
theorem dX6_undo_43 : decode cX6_undo 43 = .ok (.aload_n 0, 1) := by decide +kernel
theorem dX6_undo_44 : decode cX6_undo 44 = .ok (.getfield 208, 3) := by decide +kernel
theorem dX6_undo_47 : decode cX6_undo 47 = .ok (.ireturn, 1) := by decide +kernel
theorem dX6_town_0 : decode cX6_town 0 = .ok (.aload_n 0, 1) := by decide +kernel
theorem dX6_town_1 : decode cX6_town 1 = .ok (.iload_n 1, 1) := by decide +kernel
theorem dX6_town_2 : decode cX6_town 2 = .ok (.invokevirtual 120, 3) := by decide +kernel
theorem dX6_town_5 : decode cX6_town 5 = .ok (.aload_n 0, 1) := by decide +kernel
theorem dX6_town_6 : decode cX6_town 6 = .ok (.getfield 10, 3) := by decide +kernel
theorem dX6_town_9 : decode cX6_town 9 = .ok (.getfield 76, 3) := by decide +kernel
theorem dX6_town_12 : decode cX6_town 12 = .ok (.iload_n 1, 1) := by decide +kernel
theorem dX6_town_13 : decode cX6_town 13 = .ok (.aaload, 1) := by decide +kernel
theorem dX6_town_14 : decode cX6_town 14 = .ok (.astore_n 3, 1) := by decide +kernel
theorem dX6_town_15 : decode cX6_town 15 = .ok (.iload_n 2, 1) := by decide +kernel
theorem dX6_town_16 : decode cX6_town 16 = .ok (.tableswitch 166 0 11 #[64, 69, 77, 85, 90, 103, 116, 125, 134, 139, 144, 149], 64) := by decide +kernel
theorem dX6_town_80 : decode cX6_town 80 = .ok (.aload_n 3, 1) := by decide +kernel
theorem dX6_town_81 : decode cX6_town 81 = .ok (.getfield 80, 3) := by decide +kernel
theorem dX6_town_84 : decode cX6_town 84 = .ok (.ireturn, 1) := by decide +kernel
theorem dX6_town_85 : decode cX6_town 85 = .ok (.aload_n 3, 1) := by decide +kernel
theorem dX6_town_86 : decode cX6_town 86 = .ok (.getfield 109, 3) := by decide +kernel
theorem dX6_town_89 : decode cX6_town 89 = .ok (.invokestatic 112, 3) := by decide +kernel
theorem dX6_town_92 : decode cX6_town 92 = .ok (.ireturn, 1) := by decide +kernel
theorem dX6_town_93 : decode cX6_town 93 = .ok (.aload_n 3, 1) := by decide +kernel
theorem dX6_town_94 : decode cX6_town 94 = .ok (.getfield 207, 3) := by decide +kernel
theorem dX6_town_97 : decode cX6_town 97 = .ok (.invokestatic 112, 3) := by decide +kernel
theorem dX6_town_100 : decode cX6_town 100 = .ok (.ireturn, 1) := by decide +kernel
theorem dX6_town_101 : decode cX6_town 101 = .ok (.aload_n 3, 1) := by decide +kernel
theorem dX6_town_102 : decode cX6_town 102 = .ok (.invokevirtual 129, 3) := by decide +kernel
theorem dX6_town_105 : decode cX6_town 105 = .ok (.ireturn, 1) := by decide +kernel
theorem dX6_town_106 : decode cX6_town 106 = .ok (.aload_n 3, 1) := by decide +kernel
theorem dX6_town_107 : decode cX6_town 107 = .ok (.getfield 109, 3) := by decide +kernel
theorem dX6_town_110 : decode cX6_town 110 = .ok (.invokestatic 112, 3) := by decide +kernel
theorem dX6_town_113 : decode cX6_town 113 = .ok (.aload_n 3, 1) := by decide +kernel
theorem dX6_town_114 : decode cX6_town 114 = .ok (.invokevirtual 129, 3) := by decide +kernel
theorem dX6_town_117 : decode cX6_town 117 = .ok (.isub, 1) := by decide +kernel
theorem dX6_town_118 : decode cX6_town 118 = .ok (.ireturn, 1) := by decide +kernel
theorem dX6_town_119 : decode cX6_town 119 = .ok (.aload_n 3, 1) := by decide +kernel
theorem dX6_town_120 : decode cX6_town 120 = .ok (.getfield 207, 3) := by decide +kernel
theorem dX6_town_123 : decode cX6_town 123 = .ok (.invokestatic 112, 3) := by decide +kernel
theorem dX6_town_126 : decode cX6_town 126 = .ok (.aload_n 3, 1) := by decide +kernel
theorem dX6_town_127 : decode cX6_town 127 = .ok (.invokevirtual 129, 3) := by decide +kernel
theorem dX6_town_130 : decode cX6_town 130 = .ok (.isub, 1) := by decide +kernel
theorem dX6_town_131 : decode cX6_town 131 = .ok (.ireturn, 1) := by decide +kernel
theorem dX6_town_132 : decode cX6_town 132 = .ok (.aload_n 0, 1) := by decide +kernel
theorem dX6_town_133 : decode cX6_town 133 = .ok (.getfield 10, 3) := by decide +kernel
theorem dX6_town_136 : decode cX6_town 136 = .ok (.iload_n 1, 1) := by decide +kernel
theorem dX6_town_137 : decode cX6_town 137 = .ok (.invokevirtual 216, 3) := by decide +kernel
theorem dX6_town_140 : decode cX6_town 140 = .ok (.ireturn, 1) := by decide +kernel
theorem dX6_town_141 : decode cX6_town 141 = .ok (.aload_n 0, 1) := by decide +kernel
theorem dX6_town_142 : decode cX6_town 142 = .ok (.getfield 10, 3) := by decide +kernel
theorem dX6_town_145 : decode cX6_town 145 = .ok (.iload_n 1, 1) := by decide +kernel
theorem dX6_town_146 : decode cX6_town 146 = .ok (.invokevirtual 220, 3) := by decide +kernel
theorem dX6_town_149 : decode cX6_town 149 = .ok (.ireturn, 1) := by decide +kernel
theorem dX6_town_150 : decode cX6_town 150 = .ok (.aload_n 3, 1) := by decide +kernel
theorem dX6_town_151 : decode cX6_town 151 = .ok (.getfield 223, 3) := by decide +kernel
theorem dX6_town_154 : decode cX6_town 154 = .ok (.ireturn, 1) := by decide +kernel
theorem dX6_town_155 : decode cX6_town 155 = .ok (.aload_n 3, 1) := by decide +kernel
theorem dX6_town_156 : decode cX6_town 156 = .ok (.getfield 226, 3) := by decide +kernel
theorem dX6_town_159 : decode cX6_town 159 = .ok (.ireturn, 1) := by decide +kernel
theorem dX6_town_160 : decode cX6_town 160 = .ok (.aload_n 3, 1) := by decide +kernel
theorem dX6_town_161 : decode cX6_town 161 = .ok (.getfield 227, 3) := by decide +kernel
theorem dX6_town_164 : decode cX6_town 164 = .ok (.ireturn, 1) := by decide +kernel
theorem dX6_town_165 : decode cX6_town 165 = .ok (.aload_n 3, 1) := by decide +kernel
theorem dX6_town_166 : decode cX6_town 166 = .ok (.getfield 142, 3) := by decide +kernel
theorem dX6_town_169 : decode cX6_town 169 = .ok (.aload_n 0, 1) := by decide +kernel
theorem dX6_town_170 : decode cX6_town 170 = .ok (.getfield 10, 3) := by decide +kernel
theorem dX6_town_173 : decode cX6_town 173 = .ok (.getfield 68, 3) := by decide +kernel
theorem dX6_town_176 : decode cX6_town 176 = .ok (.iconst 1, 1) := by decide +kernel
theorem dX6_town_177 : decode cX6_town 177 = .ok (.iaload, 1) := by decide +kernel
theorem dX6_town_178 : decode cX6_town 178 = .ok (.invokestatic 230, 3) := by decide +kernel
theorem dX6_town_181 : decode cX6_town 181 = .ok (.ireturn, 1) := by decide +kernel
theorem dX6_town_182 : decode cX6_town 182 = .ok (.new 52, 3) := by decide +kernel
theorem dX6_town_185 : decode cX6_town 185 = .ok (.dup, 1) := by decide +kernel
theorem dX6_town_186 : decode cX6_town 186 = .ok (.ldc 234, 2) := by decide +kernel
theorem dX6_town_188 : decode cX6_town 188 = .ok (.invokespecial 56, 3) := by decide +kernel
theorem dX6_town_191 : decode cX6_town 191 = .ok (.athrow, 1) := by decide +kernel
theorem dX6_step_0 : decode cX6_step 0 = .ok (.aload_n 0, 1) := by decide +kernel
theorem dX6_step_1 : decode cX6_step 1 = .ok (.iload_n 1, 1) := by decide +kernel
theorem dX6_step_2 : decode cX6_step 2 = .ok (.invokevirtual 120, 3) := by decide +kernel
theorem dX6_step_5 : decode cX6_step 5 = .ok (.iload_n 2, 1) := by decide +kernel
theorem dX6_step_6 : decode cX6_step 6 = .ok (.invokestatic 236, 3) := by decide +kernel
theorem dX6_step_9 : decode cX6_step 9 = .ok (.iload_n 3, 1) := by decide +kernel
theorem dX6_step_10 : decode cX6_step 10 = .ok (.tableswitch 71 0 2 #[26, 41, 56], 26) := by decide +kernel
theorem dX6_step_36 : decode cX6_step 36 = .ok (.aload_n 0, 1) := by decide +kernel
theorem dX6_step_37 : decode cX6_step 37 = .ok (.getfield 10, 3) := by decide +kernel
theorem dX6_step_40 : decode cX6_step 40 = .ok (.getfield 76, 3) := by decide +kernel
theorem dX6_step_43 : decode cX6_step 43 = .ok (.iload_n 1, 1) := by decide +kernel
theorem dX6_step_44 : decode cX6_step 44 = .ok (.aaload, 1) := by decide +kernel
theorem dX6_step_45 : decode cX6_step 45 = .ok (.getfield 109, 3) := by decide +kernel
theorem dX6_step_48 : decode cX6_step 48 = .ok (.iload_n 2, 1) := by decide +kernel
theorem dX6_step_49 : decode cX6_step 49 = .ok (.iaload, 1) := by decide +kernel
theorem dX6_step_50 : decode cX6_step 50 = .ok (.ireturn, 1) := by decide +kernel
theorem dX6_step_51 : decode cX6_step 51 = .ok (.aload_n 0, 1) := by decide +kernel
theorem dX6_step_52 : decode cX6_step 52 = .ok (.getfield 10, 3) := by decide +kernel
theorem dX6_step_55 : decode cX6_step 55 = .ok (.getfield 76, 3) := by decide +kernel
theorem dX6_step_58 : decode cX6_step 58 = .ok (.iload_n 1, 1) := by decide +kernel
theorem dX6_step_59 : decode cX6_step 59 = .ok (.aaload, 1) := by decide +kernel
theorem dX6_step_60 : decode cX6_step 60 = .ok (.getfield 207, 3) := by decide +kernel
theorem dX6_step_63 : decode cX6_step 63 = .ok (.iload_n 2, 1) := by decide +kernel
theorem dX6_step_64 : decode cX6_step 64 = .ok (.iaload, 1) := by decide +kernel
theorem dX6_step_65 : decode cX6_step 65 = .ok (.ireturn, 1) := by decide +kernel
theorem dX6_step_66 : decode cX6_step 66 = .ok (.aload_n 0, 1) := by decide +kernel
theorem dX6_step_67 : decode cX6_step 67 = .ok (.iload_n 1, 1) := by decide +kernel
theorem dX6_step_68 : decode cX6_step 68 = .ok (.invokevirtual 145, 3) := by decide +kernel
theorem dX6_step_71 : decode cX6_step 71 = .ok (.aload_n 0, 1) := by decide +kernel
theorem dX6_step_72 : decode cX6_step 72 = .ok (.getfield 30, 3) := by decide +kernel
theorem dX6_step_75 : decode cX6_step 75 = .ok (.getfield 239, 3) := by decide +kernel
theorem dX6_step_78 : decode cX6_step 78 = .ok (.iload_n 2, 1) := by decide +kernel
theorem dX6_step_79 : decode cX6_step 79 = .ok (.iaload, 1) := by decide +kernel
theorem dX6_step_80 : decode cX6_step 80 = .ok (.ireturn, 1) := by decide +kernel
theorem dX6_step_81 : decode cX6_step 81 = .ok (.new 52, 3) := by decide +kernel
theorem dX6_step_84 : decode cX6_step 84 = .ok (.dup, 1) := by decide +kernel
theorem dX6_step_85 : decode cX6_step 85 = .ok (.ldc 242, 2) := by decide +kernel
theorem dX6_step_87 : decode cX6_step 87 = .ok (.invokespecial 56, 3) := by decide +kernel
theorem dX6_step_90 : decode cX6_step 90 = .ok (.athrow, 1) := by decide +kernel
theorem dX6_wear_0 : decode cX6_wear 0 = .ok (.aload_n 0, 1) := by decide +kernel
theorem dX6_wear_1 : decode cX6_wear 1 = .ok (.iload_n 1, 1) := by decide +kernel
theorem dX6_wear_2 : decode cX6_wear 2 = .ok (.invokevirtual 120, 3) := by decide +kernel
theorem dX6_wear_5 : decode cX6_wear 5 = .ok (.iload_n 2, 1) := by decide +kernel
theorem dX6_wear_6 : decode cX6_wear 6 = .ok (.invokestatic 139, 3) := by decide +kernel
theorem dX6_wear_9 : decode cX6_wear 9 = .ok (.aload_n 0, 1) := by decide +kernel
theorem dX6_wear_10 : decode cX6_wear 10 = .ok (.getfield 10, 3) := by decide +kernel
theorem dX6_wear_13 : decode cX6_wear 13 = .ok (.getfield 76, 3) := by decide +kernel
theorem dX6_wear_16 : decode cX6_wear 16 = .ok (.iload_n 1, 1) := by decide +kernel
theorem dX6_wear_17 : decode cX6_wear 17 = .ok (.aaload, 1) := by decide +kernel
theorem dX6_wear_18 : decode cX6_wear 18 = .ok (.getfield 142, 3) := by decide +kernel
theorem dX6_wear_21 : decode cX6_wear 21 = .ok (.iload_n 2, 1) := by decide +kernel
theorem dX6_wear_22 : decode cX6_wear 22 = .ok (.iaload, 1) := by decide +kernel
theorem dX6_wear_23 : decode cX6_wear 23 = .ok (.ireturn, 1) := by decide +kernel
theorem dX6_debt_0 : decode cX6_debt 0 = .ok (.aload_n 0, 1) := by decide +kernel
theorem dX6_debt_1 : decode cX6_debt 1 = .ok (.iload_n 1, 1) := by decide +kernel
theorem dX6_debt_2 : decode cX6_debt 2 = .ok (.invokevirtual 120, 3) := by decide +kernel
theorem dX6_debt_5 : decode cX6_debt 5 = .ok (.aload_n 0, 1) := by decide +kernel
theorem dX6_debt_6 : decode cX6_debt 6 = .ok (.iload_n 2, 1) := by decide +kernel
theorem dX6_debt_7 : decode cX6_debt 7 = .ok (.invokevirtual 120, 3) := by decide +kernel
theorem dX6_debt_10 : decode cX6_debt 10 = .ok (.aload_n 0, 1) := by decide +kernel
theorem dX6_debt_11 : decode cX6_debt 11 = .ok (.getfield 10, 3) := by decide +kernel
theorem dX6_debt_14 : decode cX6_debt 14 = .ok (.getfield 164, 3) := by decide +kernel
theorem dX6_debt_17 : decode cX6_debt 17 = .ok (.iload_n 1, 1) := by decide +kernel
theorem dX6_debt_18 : decode cX6_debt 18 = .ok (.aaload, 1) := by decide +kernel
theorem dX6_debt_19 : decode cX6_debt 19 = .ok (.iload_n 2, 1) := by decide +kernel
theorem dX6_debt_20 : decode cX6_debt 20 = .ok (.iaload, 1) := by decide +kernel
theorem dX6_debt_21 : decode cX6_debt 21 = .ok (.ireturn, 1) := by decide +kernel
theorem dX6_count_0 : decode cX6_count 0 = .ok (.iload_n 1, 1) := by decide +kernel
theorem dX6_count_1 : decode cX6_count 1 = .ok (.tableswitch 152 0 10 #[59, 67, 83, 91, 99, 107, 115, 123, 131, 139, 147], 59) := by decide +kernel
theorem dX6_count_60 : decode cX6_count 60 = .ok (.aload_n 0, 1) := by decide +kernel
theorem dX6_count_61 : decode cX6_count 61 = .ok (.getfield 10, 3) := by decide +kernel
theorem dX6_count_64 : decode cX6_count 64 = .ok (.getfield 59, 3) := by decide +kernel
theorem dX6_count_67 : decode cX6_count 67 = .ok (.ireturn, 1) := by decide +kernel
theorem dX6_count_68 : decode cX6_count 68 = .ok (.aload_n 0, 1) := by decide +kernel
theorem dX6_count_69 : decode cX6_count 69 = .ok (.getfield 10, 3) := by decide +kernel
theorem dX6_count_72 : decode cX6_count 72 = .ok (.invokevirtual 244, 3) := by decide +kernel
theorem dX6_count_75 : decode cX6_count 75 = .ok (.aload_n 0, 1) := by decide +kernel
theorem dX6_count_76 : decode cX6_count 76 = .ok (.getfield 10, 3) := by decide +kernel
theorem dX6_count_79 : decode cX6_count 79 = .ok (.invokevirtual 247, 3) := by decide +kernel
theorem dX6_count_82 : decode cX6_count 82 = .ok (.iadd, 1) := by decide +kernel
theorem dX6_count_83 : decode cX6_count 83 = .ok (.ireturn, 1) := by decide +kernel
theorem dX6_count_84 : decode cX6_count 84 = .ok (.aload_n 0, 1) := by decide +kernel
theorem dX6_count_85 : decode cX6_count 85 = .ok (.getfield 10, 3) := by decide +kernel
theorem dX6_count_88 : decode cX6_count 88 = .ok (.invokevirtual 244, 3) := by decide +kernel
theorem dX6_count_91 : decode cX6_count 91 = .ok (.ireturn, 1) := by decide +kernel
theorem dX6_count_92 : decode cX6_count 92 = .ok (.aload_n 0, 1) := by decide +kernel
theorem dX6_count_93 : decode cX6_count 93 = .ok (.getfield 10, 3) := by decide +kernel
theorem dX6_count_96 : decode cX6_count 96 = .ok (.invokevirtual 250, 3) := by decide +kernel
theorem dX6_count_99 : decode cX6_count 99 = .ok (.ireturn, 1) := by decide +kernel
theorem dX6_count_100 : decode cX6_count 100 = .ok (.aload_n 0, 1) := by decide +kernel
theorem dX6_count_101 : decode cX6_count 101 = .ok (.getfield 10, 3) := by decide +kernel
theorem dX6_count_104 : decode cX6_count 104 = .ok (.invokevirtual 253, 3) := by decide +kernel
theorem dX6_count_107 : decode cX6_count 107 = .ok (.ireturn, 1) := by decide +kernel
theorem dX6_count_108 : decode cX6_count 108 = .ok (.aload_n 0, 1) := by decide +kernel
theorem dX6_count_109 : decode cX6_count 109 = .ok (.getfield 10, 3) := by decide +kernel
theorem dX6_count_112 : decode cX6_count 112 = .ok (.getfield 168, 3) := by decide +kernel
theorem dX6_count_115 : decode cX6_count 115 = .ok (.ireturn, 1) := by decide +kernel
theorem dX6_count_116 : decode cX6_count 116 = .ok (.aload_n 0, 1) := by decide +kernel
theorem dX6_count_117 : decode cX6_count 117 = .ok (.getfield 10, 3) := by decide +kernel
theorem dX6_count_120 : decode cX6_count 120 = .ok (.getfield 173, 3) := by decide +kernel
theorem dX6_count_123 : decode cX6_count 123 = .ok (.ireturn, 1) := by decide +kernel
theorem dX6_count_124 : decode cX6_count 124 = .ok (.aload_n 0, 1) := by decide +kernel
theorem dX6_count_125 : decode cX6_count 125 = .ok (.getfield 10, 3) := by decide +kernel
theorem dX6_count_128 : decode cX6_count 128 = .ok (.getfield 256, 3) := by decide +kernel
theorem dX6_count_131 : decode cX6_count 131 = .ok (.ireturn, 1) := by decide +kernel
theorem dX6_count_132 : decode cX6_count 132 = .ok (.aload_n 0, 1) := by decide +kernel
theorem dX6_count_133 : decode cX6_count 133 = .ok (.getfield 10, 3) := by decide +kernel
theorem dX6_count_136 : decode cX6_count 136 = .ok (.getfield 259, 3) := by decide +kernel
theorem dX6_count_139 : decode cX6_count 139 = .ok (.ireturn, 1) := by decide +kernel
theorem dX6_count_140 : decode cX6_count 140 = .ok (.aload_n 0, 1) := by decide +kernel
theorem dX6_count_141 : decode cX6_count 141 = .ok (.getfield 10, 3) := by decide +kernel
theorem dX6_count_144 : decode cX6_count 144 = .ok (.invokevirtual 262, 3) := by decide +kernel
theorem dX6_count_147 : decode cX6_count 147 = .ok (.ireturn, 1) := by decide +kernel
theorem dX6_count_148 : decode cX6_count 148 = .ok (.aload_n 0, 1) := by decide +kernel
theorem dX6_count_149 : decode cX6_count 149 = .ok (.getfield 208, 3) := by decide +kernel
theorem dX6_count_152 : decode cX6_count 152 = .ok (.ireturn, 1) := by decide +kernel
theorem dX6_count_153 : decode cX6_count 153 = .ok (.new 52, 3) := by decide +kernel
theorem dX6_count_156 : decode cX6_count 156 = .ok (.dup, 1) := by decide +kernel
theorem dX6_count_157 : decode cX6_count 157 = .ok (.ldc_w 265, 3) := by decide +kernel
theorem dX6_count_160 : decode cX6_count 160 = .ok (.invokespecial 56, 3) := by decide +kernel
theorem dX6_count_163 : decode cX6_count 163 = .ok (.athrow, 1) := by decide +kernel
theorem dX6_setting_0 : decode cX6_setting 0 = .ok (.iload_n 1, 1) := by decide +kernel
theorem dX6_setting_1 : decode cX6_setting 1 = .ok (.invokestatic 85, 3) := by decide +kernel
theorem dX6_setting_4 : decode cX6_setting 4 = .ok (.aload_n 0, 1) := by decide +kernel
theorem dX6_setting_5 : decode cX6_setting 5 = .ok (.getfield 10, 3) := by decide +kernel
theorem dX6_setting_8 : decode cX6_setting 8 = .ok (.getfield 68, 3) := by decide +kernel
theorem dX6_setting_11 : decode cX6_setting 11 = .ok (.iload_n 1, 1) := by decide +kernel
theorem dX6_setting_12 : decode cX6_setting 12 = .ok (.iaload, 1) := by decide +kernel
theorem dX6_setting_13 : decode cX6_setting 13 = .ok (.ireturn, 1) := by decide +kernel
theorem dX6_ifPlayed_0 : decode cX6_ifPlayed 0 = .ok (.aload_n 0, 1) := by decide +kernel
theorem dX6_ifPlayed_1 : decode cX6_ifPlayed 1 = .ok (.iload_n 1, 1) := by decide +kernel
theorem dX6_ifPlayed_2 : decode cX6_ifPlayed 2 = .ok (.invokevirtual 120, 3) := by decide +kernel
theorem dX6_ifPlayed_5 : decode cX6_ifPlayed 5 = .ok (.iload_n 2, 1) := by decide +kernel
theorem dX6_ifPlayed_6 : decode cX6_ifPlayed 6 = .ok (.ifCond .lt 8, 3) := by decide +kernel
theorem dX6_ifPlayed_9 : decode cX6_ifPlayed 9 = .ok (.iload_n 2, 1) := by decide +kernel
theorem dX6_ifPlayed_10 : decode cX6_ifPlayed 10 = .ok (.iconst 5, 1) := by decide +kernel
theorem dX6_ifPlayed_11 : decode cX6_ifPlayed 11 = .ok (.if_icmp .lt 14, 3) := by decide +kernel
theorem dX6_ifPlayed_14 : decode cX6_ifPlayed 14 = .ok (.new 52, 3) := by decide +kernel
theorem dX6_ifPlayed_17 : decode cX6_ifPlayed 17 = .ok (.dup, 1) := by decide +kernel
theorem dX6_ifPlayed_18 : decode cX6_ifPlayed 18 = .ok (.ldc_w 267, 3) := by decide +kernel
theorem dX6_ifPlayed_21 : decode cX6_ifPlayed 21 = .ok (.invokespecial 56, 3) := by decide +kernel
theorem dX6_ifPlayed_24 : decode cX6_ifPlayed 24 = .ok (.athrow, 1) := by decide +kernel
theorem dX6_ifPlayed_25 : decode cX6_ifPlayed 25 = .ok (.aload_n 0, 1) := by decide +kernel
theorem dX6_ifPlayed_26 : decode cX6_ifPlayed 26 = .ok (.iload_n 1, 1) := by decide +kernel
theorem dX6_ifPlayed_27 : decode cX6_ifPlayed 27 = .ok (.invokevirtual 145, 3) := by decide +kernel
theorem dX6_ifPlayed_30 : decode cX6_ifPlayed 30 = .ok (.aload_n 0, 1) := by decide +kernel
theorem dX6_ifPlayed_31 : decode cX6_ifPlayed 31 = .ok (.getfield 30, 3) := by decide +kernel
theorem dX6_ifPlayed_34 : decode cX6_ifPlayed 34 = .ok (.iload_n 2, 1) := by decide +kernel
theorem dX6_ifPlayed_35 : decode cX6_ifPlayed 35 = .ok (.invokevirtual 269, 3) := by decide +kernel
theorem dX6_ifPlayed_38 : decode cX6_ifPlayed 38 = .ok (.ireturn, 1) := by decide +kernel
theorem dX6_lastsFor_0 : decode cX6_lastsFor 0 = .ok (.aload_n 0, 1) := by decide +kernel
theorem dX6_lastsFor_1 : decode cX6_lastsFor 1 = .ok (.iload_n 1, 1) := by decide +kernel
theorem dX6_lastsFor_2 : decode cX6_lastsFor 2 = .ok (.invokevirtual 120, 3) := by decide +kernel
theorem dX6_lastsFor_5 : decode cX6_lastsFor 5 = .ok (.aload_n 0, 1) := by decide +kernel
theorem dX6_lastsFor_6 : decode cX6_lastsFor 6 = .ok (.getfield 10, 3) := by decide +kernel
theorem dX6_lastsFor_9 : decode cX6_lastsFor 9 = .ok (.getfield 76, 3) := by decide +kernel
theorem dX6_lastsFor_12 : decode cX6_lastsFor 12 = .ok (.iload_n 1, 1) := by decide +kernel
theorem dX6_lastsFor_13 : decode cX6_lastsFor 13 = .ok (.aaload, 1) := by decide +kernel
theorem dX6_lastsFor_14 : decode cX6_lastsFor 14 = .ok (.astore_n 2, 1) := by decide +kernel
theorem dX6_lastsFor_15 : decode cX6_lastsFor 15 = .ok (.aload_n 0, 1) := by decide +kernel
theorem dX6_lastsFor_16 : decode cX6_lastsFor 16 = .ok (.getfield 30, 3) := by decide +kernel
theorem dX6_lastsFor_19 : decode cX6_lastsFor 19 = .ok (.aload_n 2, 1) := by decide +kernel
theorem dX6_lastsFor_20 : decode cX6_lastsFor 20 = .ok (.aload_n 0, 1) := by decide +kernel
theorem dX6_lastsFor_21 : decode cX6_lastsFor 21 = .ok (.getfield 10, 3) := by decide +kernel
theorem dX6_lastsFor_24 : decode cX6_lastsFor 24 = .ok (.getfield 68, 3) := by decide +kernel
theorem dX6_lastsFor_27 : decode cX6_lastsFor 27 = .ok (.invokevirtual 272, 3) := by decide +kernel
theorem dX6_lastsFor_30 : decode cX6_lastsFor 30 = .ok (.iconst 1, 1) := by decide +kernel
theorem dX6_lastsFor_31 : decode cX6_lastsFor 31 = .ok (.istore_n 3, 1) := by decide +kernel
theorem dX6_lastsFor_32 : decode cX6_lastsFor 32 = .ok (.iload_n 3, 1) := by decide +kernel
theorem dX6_lastsFor_33 : decode cX6_lastsFor 33 = .ok (.sipush 200, 3) := by decide +kernel
theorem dX6_lastsFor_36 : decode cX6_lastsFor 36 = .ok (.if_icmp .gt 44, 3) := by decide +kernel
theorem dX6_lastsFor_39 : decode cX6_lastsFor 39 = .ok (.aload_n 0, 1) := by decide +kernel
theorem dX6_lastsFor_40 : decode cX6_lastsFor 40 = .ok (.getfield 30, 3) := by decide +kernel
theorem dX6_lastsFor_43 : decode cX6_lastsFor 43 = .ok (.aload_n 2, 1) := by decide +kernel
theorem dX6_lastsFor_44 : decode cX6_lastsFor 44 = .ok (.getfield 207, 3) := by decide +kernel
theorem dX6_lastsFor_47 : decode cX6_lastsFor 47 = .ok (.invokevirtual 276, 3) := by decide +kernel
theorem dX6_lastsFor_50 : decode cX6_lastsFor 50 = .ok (.aload_n 0, 1) := by decide +kernel
theorem dX6_lastsFor_51 : decode cX6_lastsFor 51 = .ok (.getfield 30, 3) := by decide +kernel
theorem dX6_lastsFor_54 : decode cX6_lastsFor 54 = .ok (.getfield 280, 3) := by decide +kernel
theorem dX6_lastsFor_57 : decode cX6_lastsFor 57 = .ok (.ifCond .le 5, 3) := by decide +kernel
theorem dX6_lastsFor_60 : decode cX6_lastsFor 60 = .ok (.iload_n 3, 1) := by decide +kernel
theorem dX6_lastsFor_61 : decode cX6_lastsFor 61 = .ok (.ireturn, 1) := by decide +kernel
theorem dX6_lastsFor_62 : decode cX6_lastsFor 62 = .ok (.aload_n 0, 1) := by decide +kernel
theorem dX6_lastsFor_63 : decode cX6_lastsFor 63 = .ok (.getfield 30, 3) := by decide +kernel
theorem dX6_lastsFor_66 : decode cX6_lastsFor 66 = .ok (.getfield 152, 3) := by decide +kernel
theorem dX6_lastsFor_69 : decode cX6_lastsFor 69 = .ok (.ifCond .ne 5, 3) := by decide +kernel
theorem dX6_lastsFor_72 : decode cX6_lastsFor 72 = .ok (.iconst (-1), 1) := by decide +kernel
theorem dX6_lastsFor_73 : decode cX6_lastsFor 73 = .ok (.ireturn, 1) := by decide +kernel
theorem dX6_lastsFor_74 : decode cX6_lastsFor 74 = .ok (.iinc 3 1, 3) := by decide +kernel
theorem dX6_lastsFor_77 : decode cX6_lastsFor 77 = .ok (.goto (-45), 3) := by decide +kernel
theorem dX6_lastsFor_80 : decode cX6_lastsFor 80 = .ok (.iconst (-1), 1) := by decide +kernel
theorem dX6_lastsFor_81 : decode cX6_lastsFor 81 = .ok (.ireturn, 1) := by decide +kernel
theorem dX6_bestTurn_0 : decode cX6_bestTurn 0 = .ok (.aload_n 0, 1) := by decide +kernel
theorem dX6_bestTurn_1 : decode cX6_bestTurn 1 = .ok (.iload_n 1, 1) := by decide +kernel
theorem dX6_bestTurn_2 : decode cX6_bestTurn 2 = .ok (.invokevirtual 120, 3) := by decide +kernel
theorem dX6_bestTurn_5 : decode cX6_bestTurn 5 = .ok (.iload_n 2, 1) := by decide +kernel
theorem dX6_bestTurn_6 : decode cX6_bestTurn 6 = .ok (.ifCond .eq 19, 3) := by decide +kernel
theorem dX6_bestTurn_9 : decode cX6_bestTurn 9 = .ok (.iload_n 2, 1) := by decide +kernel
theorem dX6_bestTurn_10 : decode cX6_bestTurn 10 = .ok (.iconst 1, 1) := by decide +kernel
theorem dX6_bestTurn_11 : decode cX6_bestTurn 11 = .ok (.if_icmp .eq 14, 3) := by decide +kernel
theorem dX6_bestTurn_14 : decode cX6_bestTurn 14 = .ok (.new 52, 3) := by decide +kernel
theorem dX6_bestTurn_17 : decode cX6_bestTurn 17 = .ok (.dup, 1) := by decide +kernel
theorem dX6_bestTurn_18 : decode cX6_bestTurn 18 = .ok (.ldc_w 283, 3) := by decide +kernel
theorem dX6_bestTurn_21 : decode cX6_bestTurn 21 = .ok (.invokespecial 56, 3) := by decide +kernel
theorem dX6_bestTurn_24 : decode cX6_bestTurn 24 = .ok (.athrow, 1) := by decide +kernel
theorem dX6_bestTurn_25 : decode cX6_bestTurn 25 = .ok (.iconst 0, 1) := by decide +kernel
theorem dX6_bestTurn_26 : decode cX6_bestTurn 26 = .ok (.istore_n 3, 1) := by decide +kernel
theorem dX6_bestTurn_27 : decode cX6_bestTurn 27 = .ok (.aload_n 0, 1) := by decide +kernel
theorem dX6_bestTurn_28 : decode cX6_bestTurn 28 = .ok (.getfield 10, 3) := by decide +kernel
theorem dX6_bestTurn_31 : decode cX6_bestTurn 31 = .ok (.getfield 76, 3) := by decide +kernel
theorem dX6_bestTurn_34 : decode cX6_bestTurn 34 = .ok (.iload_n 1, 1) := by decide +kernel
theorem dX6_bestTurn_35 : decode cX6_bestTurn 35 = .ok (.aaload, 1) := by decide +kernel
theorem dX6_bestTurn_36 : decode cX6_bestTurn 36 = .ok (.invokevirtual 129, 3) := by decide +kernel
theorem dX6_bestTurn_39 : decode cX6_bestTurn 39 = .ok (.istore 4, 2) := by decide +kernel
theorem dX6_bestTurn_41 : decode cX6_bestTurn 41 = .ok (.iconst 1, 1) := by decide +kernel
theorem dX6_bestTurn_42 : decode cX6_bestTurn 42 = .ok (.istore 5, 2) := by decide +kernel
theorem dX6_bestTurn_44 : decode cX6_bestTurn 44 = .ok (.iload 5, 2) := by decide +kernel
theorem dX6_bestTurn_46 : decode cX6_bestTurn 46 = .ok (.bipush 24, 2) := by decide +kernel
theorem dX6_bestTurn_48 : decode cX6_bestTurn 48 = .ok (.if_icmp .ge 39, 3) := by decide +kernel
theorem dX6_bestTurn_51 : decode cX6_bestTurn 51 = .ok (.aload_n 0, 1) := by decide +kernel
theorem dX6_bestTurn_52 : decode cX6_bestTurn 52 = .ok (.getfield 10, 3) := by decide +kernel
theorem dX6_bestTurn_55 : decode cX6_bestTurn 55 = .ok (.getfield 76, 3) := by decide +kernel
theorem dX6_bestTurn_58 : decode cX6_bestTurn 58 = .ok (.iload_n 1, 1) := by decide +kernel
theorem dX6_bestTurn_59 : decode cX6_bestTurn 59 = .ok (.aaload, 1) := by decide +kernel
theorem dX6_bestTurn_60 : decode cX6_bestTurn 60 = .ok (.iload 5, 2) := by decide +kernel
theorem dX6_bestTurn_62 : decode cX6_bestTurn 62 = .ok (.invokevirtual 285, 3) := by decide +kernel
theorem dX6_bestTurn_65 : decode cX6_bestTurn 65 = .ok (.istore 6, 2) := by decide +kernel
theorem dX6_bestTurn_67 : decode cX6_bestTurn 67 = .ok (.iload 6, 2) := by decide +kernel
theorem dX6_bestTurn_69 : decode cX6_bestTurn 69 = .ok (.iload 4, 2) := by decide +kernel
theorem dX6_bestTurn_71 : decode cX6_bestTurn 71 = .ok (.if_icmp .le 10, 3) := by decide +kernel
theorem dX6_bestTurn_74 : decode cX6_bestTurn 74 = .ok (.iload 5, 2) := by decide +kernel
theorem dX6_bestTurn_76 : decode cX6_bestTurn 76 = .ok (.istore_n 3, 1) := by decide +kernel
theorem dX6_bestTurn_77 : decode cX6_bestTurn 77 = .ok (.iload 6, 2) := by decide +kernel
theorem dX6_bestTurn_79 : decode cX6_bestTurn 79 = .ok (.istore 4, 2) := by decide +kernel
theorem dX6_bestTurn_81 : decode cX6_bestTurn 81 = .ok (.iinc 5 1, 3) := by decide +kernel
theorem dX6_bestTurn_84 : decode cX6_bestTurn 84 = .ok (.goto (-40), 3) := by decide +kernel
theorem dX6_bestTurn_87 : decode cX6_bestTurn 87 = .ok (.iload_n 2, 1) := by decide +kernel
theorem dX6_bestTurn_88 : decode cX6_bestTurn 88 = .ok (.ifCond .ne 7, 3) := by decide +kernel
theorem dX6_bestTurn_91 : decode cX6_bestTurn 91 = .ok (.iload_n 3, 1) := by decide +kernel
theorem dX6_bestTurn_92 : decode cX6_bestTurn 92 = .ok (.goto 5, 3) := by decide +kernel
theorem dX6_bestTurn_95 : decode cX6_bestTurn 95 = .ok (.iload 4, 2) := by decide +kernel
theorem dX6_bestTurn_97 : decode cX6_bestTurn 97 = .ok (.ireturn, 1) := by decide +kernel
theorem dX6_bestDrum_0 : decode cX6_bestDrum 0 = .ok (.aload_n 0, 1) := by decide +kernel
theorem dX6_bestDrum_1 : decode cX6_bestDrum 1 = .ok (.iload_n 1, 1) := by decide +kernel
theorem dX6_bestDrum_2 : decode cX6_bestDrum 2 = .ok (.invokevirtual 120, 3) := by decide +kernel
theorem dX6_bestDrum_5 : decode cX6_bestDrum 5 = .ok (.iconst (-1), 1) := by decide +kernel
theorem dX6_bestDrum_6 : decode cX6_bestDrum 6 = .ok (.istore_n 2, 1) := by decide +kernel
theorem dX6_bestDrum_7 : decode cX6_bestDrum 7 = .ok (.iconst (-1), 1) := by decide +kernel
theorem dX6_bestDrum_8 : decode cX6_bestDrum 8 = .ok (.istore_n 3, 1) := by decide +kernel
theorem dX6_bestDrum_9 : decode cX6_bestDrum 9 = .ok (.iconst 0, 1) := by decide +kernel
theorem dX6_bestDrum_10 : decode cX6_bestDrum 10 = .ok (.istore 4, 2) := by decide +kernel
theorem dX6_bestDrum_12 : decode cX6_bestDrum 12 = .ok (.iload 4, 2) := by decide +kernel
theorem dX6_bestDrum_14 : decode cX6_bestDrum 14 = .ok (.aload_n 0, 1) := by decide +kernel
theorem dX6_bestDrum_15 : decode cX6_bestDrum 15 = .ok (.getfield 10, 3) := by decide +kernel
theorem dX6_bestDrum_18 : decode cX6_bestDrum 18 = .ok (.getfield 59, 3) := by decide +kernel
theorem dX6_bestDrum_21 : decode cX6_bestDrum 21 = .ok (.if_icmp .ge 57, 3) := by decide +kernel
theorem dX6_bestDrum_24 : decode cX6_bestDrum 24 = .ok (.aload_n 0, 1) := by decide +kernel
theorem dX6_bestDrum_25 : decode cX6_bestDrum 25 = .ok (.getfield 10, 3) := by decide +kernel
theorem dX6_bestDrum_28 : decode cX6_bestDrum 28 = .ok (.getfield 76, 3) := by decide +kernel
theorem dX6_bestDrum_31 : decode cX6_bestDrum 31 = .ok (.iload 4, 2) := by decide +kernel
theorem dX6_bestDrum_33 : decode cX6_bestDrum 33 = .ok (.aaload, 1) := by decide +kernel
theorem dX6_bestDrum_34 : decode cX6_bestDrum 34 = .ok (.getfield 109, 3) := by decide +kernel
theorem dX6_bestDrum_37 : decode cX6_bestDrum 37 = .ok (.aload_n 0, 1) := by decide +kernel
theorem dX6_bestDrum_38 : decode cX6_bestDrum 38 = .ok (.getfield 10, 3) := by decide +kernel
theorem dX6_bestDrum_41 : decode cX6_bestDrum 41 = .ok (.getfield 76, 3) := by decide +kernel
theorem dX6_bestDrum_44 : decode cX6_bestDrum 44 = .ok (.iload_n 1, 1) := by decide +kernel
theorem dX6_bestDrum_45 : decode cX6_bestDrum 45 = .ok (.aaload, 1) := by decide +kernel
theorem dX6_bestDrum_46 : decode cX6_bestDrum 46 = .ok (.getfield 207, 3) := by decide +kernel
theorem dX6_bestDrum_49 : decode cX6_bestDrum 49 = .ok (.invokestatic 288, 3) := by decide +kernel
theorem dX6_bestDrum_52 : decode cX6_bestDrum 52 = .ok (.istore 5, 2) := by decide +kernel
theorem dX6_bestDrum_54 : decode cX6_bestDrum 54 = .ok (.iload 4, 2) := by decide +kernel
theorem dX6_bestDrum_56 : decode cX6_bestDrum 56 = .ok (.iload_n 1, 1) := by decide +kernel
theorem dX6_bestDrum_57 : decode cX6_bestDrum 57 = .ok (.if_icmp .eq 15, 3) := by decide +kernel
theorem dX6_bestDrum_60 : decode cX6_bestDrum 60 = .ok (.iload 5, 2) := by decide +kernel
theorem dX6_bestDrum_62 : decode cX6_bestDrum 62 = .ok (.iload_n 3, 1) := by decide +kernel
theorem dX6_bestDrum_63 : decode cX6_bestDrum 63 = .ok (.if_icmp .le 9, 3) := by decide +kernel
theorem dX6_bestDrum_66 : decode cX6_bestDrum 66 = .ok (.iload 4, 2) := by decide +kernel
theorem dX6_bestDrum_68 : decode cX6_bestDrum 68 = .ok (.istore_n 2, 1) := by decide +kernel
theorem dX6_bestDrum_69 : decode cX6_bestDrum 69 = .ok (.iload 5, 2) := by decide +kernel
theorem dX6_bestDrum_71 : decode cX6_bestDrum 71 = .ok (.istore_n 3, 1) := by decide +kernel
theorem dX6_bestDrum_72 : decode cX6_bestDrum 72 = .ok (.iinc 4 1, 3) := by decide +kernel
theorem dX6_bestDrum_75 : decode cX6_bestDrum 75 = .ok (.goto (-63), 3) := by decide +kernel
theorem dX6_bestDrum_78 : decode cX6_bestDrum 78 = .ok (.iload_n 2, 1) := by decide +kernel
theorem dX6_bestDrum_79 : decode cX6_bestDrum 79 = .ok (.ireturn, 1) := by decide +kernel
theorem dX6_bestTrades_0 : decode cX6_bestTrades 0 = .ok (.iload_n 1, 1) := by decide +kernel
theorem dX6_bestTrades_1 : decode cX6_bestTrades 1 = .ok (.ifCond .eq 21, 3) := by decide +kernel
theorem dX6_bestTrades_4 : decode cX6_bestTrades 4 = .ok (.iload_n 1, 1) := by decide +kernel
theorem dX6_bestTrades_5 : decode cX6_bestTrades 5 = .ok (.invokestatic 292, 3) := by decide +kernel
theorem dX6_bestTrades_8 : decode cX6_bestTrades 8 = .ok (.ifCond .ne 14, 3) := by decide +kernel
theorem dX6_bestTrades_11 : decode cX6_bestTrades 11 = .ok (.new 52, 3) := by decide +kernel
theorem dX6_bestTrades_14 : decode cX6_bestTrades 14 = .ok (.dup, 1) := by decide +kernel
theorem dX6_bestTrades_15 : decode cX6_bestTrades 15 = .ok (.ldc_w 296, 3) := by decide +kernel
theorem dX6_bestTrades_18 : decode cX6_bestTrades 18 = .ok (.invokespecial 56, 3) := by decide +kernel
theorem dX6_bestTrades_21 : decode cX6_bestTrades 21 = .ok (.athrow, 1) := by decide +kernel
theorem dX6_bestTrades_22 : decode cX6_bestTrades 22 = .ok (.aload_n 0, 1) := by decide +kernel
theorem dX6_bestTrades_23 : decode cX6_bestTrades 23 = .ok (.getfield 44, 3) := by decide +kernel
theorem dX6_bestTrades_26 : decode cX6_bestTrades 26 = .ok (.aload_n 0, 1) := by decide +kernel
theorem dX6_bestTrades_27 : decode cX6_bestTrades 27 = .ok (.getfield 10, 3) := by decide +kernel
theorem dX6_bestTrades_30 : decode cX6_bestTrades 30 = .ok (.invokevirtual 298, 3) := by decide +kernel
theorem dX6_bestTrades_33 : decode cX6_bestTrades 33 = .ok (.aload_n 0, 1) := by decide +kernel
theorem dX6_bestTrades_34 : decode cX6_bestTrades 34 = .ok (.getfield 44, 3) := by decide +kernel
theorem dX6_bestTrades_37 : decode cX6_bestTrades 37 = .ok (.iload_n 1, 1) := by decide +kernel
theorem dX6_bestTrades_38 : decode cX6_bestTrades 38 = .ok (.invokevirtual 299, 3) := by decide +kernel
theorem dX6_bestTrades_41 : decode cX6_bestTrades 41 = .ok (.ireturn, 1) := by decide +kernel
theorem dX6_ring_0 : decode cX6_ring 0 = .ok (.iload_n 1, 1) := by decide +kernel
theorem dX6_ring_1 : decode cX6_ring 1 = .ok (.ifCond .eq 26, 3) := by decide +kernel
theorem dX6_ring_4 : decode cX6_ring 4 = .ok (.iload_n 1, 1) := by decide +kernel
theorem dX6_ring_5 : decode cX6_ring 5 = .ok (.iconst 1, 1) := by decide +kernel
theorem dX6_ring_6 : decode cX6_ring 6 = .ok (.if_icmp .eq 21, 3) := by decide +kernel
theorem dX6_ring_9 : decode cX6_ring 9 = .ok (.iload_n 1, 1) := by decide +kernel
theorem dX6_ring_10 : decode cX6_ring 10 = .ok (.invokestatic 292, 3) := by decide +kernel
theorem dX6_ring_13 : decode cX6_ring 13 = .ok (.ifCond .ne 14, 3) := by decide +kernel
theorem dX6_ring_16 : decode cX6_ring 16 = .ok (.new 52, 3) := by decide +kernel
theorem dX6_ring_19 : decode cX6_ring 19 = .ok (.dup, 1) := by decide +kernel
theorem dX6_ring_20 : decode cX6_ring 20 = .ok (.ldc_w 300, 3) := by decide +kernel
theorem dX6_ring_23 : decode cX6_ring 23 = .ok (.invokespecial 56, 3) := by decide +kernel
theorem dX6_ring_26 : decode cX6_ring 26 = .ok (.athrow, 1) := by decide +kernel
theorem dX6_ring_27 : decode cX6_ring 27 = .ok (.aload_n 0, 1) := by decide +kernel
theorem dX6_ring_28 : decode cX6_ring 28 = .ok (.getfield 37, 3) := by decide +kernel
theorem dX6_ring_31 : decode cX6_ring 31 = .ok (.aload_n 0, 1) := by decide +kernel
theorem dX6_ring_32 : decode cX6_ring 32 = .ok (.getfield 10, 3) := by decide +kernel
theorem dX6_ring_35 : decode cX6_ring 35 = .ok (.invokevirtual 176, 3) := by decide +kernel
theorem dX6_ring_38 : decode cX6_ring 38 = .ok (.aload_n 0, 1) := by decide +kernel
theorem dX6_ring_39 : decode cX6_ring 39 = .ok (.getfield 37, 3) := by decide +kernel
theorem dX6_ring_42 : decode cX6_ring 42 = .ok (.iload_n 1, 1) := by decide +kernel
theorem dX6_ring_43 : decode cX6_ring 43 = .ok (.invokevirtual 302, 3) := by decide +kernel
theorem dX6_ring_46 : decode cX6_ring 46 = .ok (.ireturn, 1) := by decide +kernel
theorem dX6_tuneShare_0 : decode cX6_tuneShare 0 = .ok (.iconst 0, 1) := by decide +kernel
theorem dX6_tuneShare_1 : decode cX6_tuneShare 1 = .ok (.istore_n 1, 1) := by decide +kernel
theorem dX6_tuneShare_2 : decode cX6_tuneShare 2 = .ok (.iconst 0, 1) := by decide +kernel
theorem dX6_tuneShare_3 : decode cX6_tuneShare 3 = .ok (.istore_n 2, 1) := by decide +kernel
theorem dX6_tuneShare_4 : decode cX6_tuneShare 4 = .ok (.iload_n 2, 1) := by decide +kernel
theorem dX6_tuneShare_5 : decode cX6_tuneShare 5 = .ok (.aload_n 0, 1) := by decide +kernel
theorem dX6_tuneShare_6 : decode cX6_tuneShare 6 = .ok (.getfield 10, 3) := by decide +kernel
theorem dX6_tuneShare_9 : decode cX6_tuneShare 9 = .ok (.getfield 59, 3) := by decide +kernel
theorem dX6_tuneShare_12 : decode cX6_tuneShare 12 = .ok (.if_icmp .ge 27, 3) := by decide +kernel
theorem dX6_tuneShare_15 : decode cX6_tuneShare 15 = .ok (.iload_n 1, 1) := by decide +kernel
theorem dX6_tuneShare_16 : decode cX6_tuneShare 16 = .ok (.aload_n 0, 1) := by decide +kernel
theorem dX6_tuneShare_17 : decode cX6_tuneShare 17 = .ok (.getfield 10, 3) := by decide +kernel
theorem dX6_tuneShare_20 : decode cX6_tuneShare 20 = .ok (.getfield 76, 3) := by decide +kernel
theorem dX6_tuneShare_23 : decode cX6_tuneShare 23 = .ok (.iload_n 2, 1) := by decide +kernel
theorem dX6_tuneShare_24 : decode cX6_tuneShare 24 = .ok (.aaload, 1) := by decide +kernel
theorem dX6_tuneShare_25 : decode cX6_tuneShare 25 = .ok (.getfield 207, 3) := by decide +kernel
theorem dX6_tuneShare_28 : decode cX6_tuneShare 28 = .ok (.invokestatic 112, 3) := by decide +kernel
theorem dX6_tuneShare_31 : decode cX6_tuneShare 31 = .ok (.iadd, 1) := by decide +kernel
theorem dX6_tuneShare_32 : decode cX6_tuneShare 32 = .ok (.istore_n 1, 1) := by decide +kernel
theorem dX6_tuneShare_33 : decode cX6_tuneShare 33 = .ok (.iinc 2 1, 3) := by decide +kernel
theorem dX6_tuneShare_36 : decode cX6_tuneShare 36 = .ok (.goto (-32), 3) := by decide +kernel
theorem dX6_tuneShare_39 : decode cX6_tuneShare 39 = .ok (.iload_n 1, 1) := by decide +kernel
theorem dX6_tuneShare_40 : decode cX6_tuneShare 40 = .ok (.ifCond .ne 5, 3) := by decide +kernel
theorem dX6_tuneShare_43 : decode cX6_tuneShare 43 = .ok (.dconst 0, 1) := by decide +kernel
theorem dX6_tuneShare_44 : decode cX6_tuneShare 44 = .ok (.dreturn, 1) := by decide +kernel
theorem dX6_tuneShare_45 : decode cX6_tuneShare 45 = .ok (.aload_n 0, 1) := by decide +kernel
theorem dX6_tuneShare_46 : decode cX6_tuneShare 46 = .ok (.getfield 10, 3) := by decide +kernel
theorem dX6_tuneShare_49 : decode cX6_tuneShare 49 = .ok (.invokevirtual 262, 3) := by decide +kernel
theorem dX6_tuneShare_52 : decode cX6_tuneShare 52 = .ok (.i2d, 1) := by decide +kernel
theorem dX6_tuneShare_53 : decode cX6_tuneShare 53 = .ok (.iload_n 1, 1) := by decide +kernel
theorem dX6_tuneShare_54 : decode cX6_tuneShare 54 = .ok (.i2d, 1) := by decide +kernel
theorem dX6_tuneShare_55 : decode cX6_tuneShare 55 = .ok (.ddiv, 1) := by decide +kernel
theorem dX6_tuneShare_56 : decode cX6_tuneShare 56 = .ok (.dreturn, 1) := by decide +kernel
theorem dX6_digest_0 : decode cX6_digest 0 = .ok (.ldc2_w 303, 3) := by decide +kernel
theorem dX6_digest_3 : decode cX6_digest 3 = .ok (.lstore_n 1, 1) := by decide +kernel
theorem dX6_digest_4 : decode cX6_digest 4 = .ok (.iconst 0, 1) := by decide +kernel
theorem dX6_digest_5 : decode cX6_digest 5 = .ok (.istore_n 3, 1) := by decide +kernel
theorem dX6_digest_6 : decode cX6_digest 6 = .ok (.iload_n 3, 1) := by decide +kernel
theorem dX6_digest_7 : decode cX6_digest 7 = .ok (.bipush 11, 2) := by decide +kernel
theorem dX6_digest_9 : decode cX6_digest 9 = .ok (.if_icmp .ge 20, 3) := by decide +kernel
theorem dX6_digest_12 : decode cX6_digest 12 = .ok (.lload_n 1, 1) := by decide +kernel
theorem dX6_digest_13 : decode cX6_digest 13 = .ok (.aload_n 0, 1) := by decide +kernel
theorem dX6_digest_14 : decode cX6_digest 14 = .ok (.iload_n 3, 1) := by decide +kernel
theorem dX6_digest_15 : decode cX6_digest 15 = .ok (.invokevirtual 305, 3) := by decide +kernel
theorem dX6_digest_18 : decode cX6_digest 18 = .ok (.i2l, 1) := by decide +kernel
theorem dX6_digest_19 : decode cX6_digest 19 = .ok (.invokestatic 308, 3) := by decide +kernel
theorem dX6_digest_22 : decode cX6_digest 22 = .ok (.lstore_n 1, 1) := by decide +kernel
theorem dX6_digest_23 : decode cX6_digest 23 = .ok (.iinc 3 1, 3) := by decide +kernel
theorem dX6_digest_26 : decode cX6_digest 26 = .ok (.goto (-20), 3) := by decide +kernel
theorem dX6_digest_29 : decode cX6_digest 29 = .ok (.iconst 0, 1) := by decide +kernel
theorem dX6_digest_30 : decode cX6_digest 30 = .ok (.istore_n 3, 1) := by decide +kernel
theorem dX6_digest_31 : decode cX6_digest 31 = .ok (.iload_n 3, 1) := by decide +kernel
theorem dX6_digest_32 : decode cX6_digest 32 = .ok (.iconst 3, 1) := by decide +kernel
theorem dX6_digest_33 : decode cX6_digest 33 = .ok (.if_icmp .ge 24, 3) := by decide +kernel
theorem dX6_digest_36 : decode cX6_digest 36 = .ok (.lload_n 1, 1) := by decide +kernel
theorem dX6_digest_37 : decode cX6_digest 37 = .ok (.aload_n 0, 1) := by decide +kernel
theorem dX6_digest_38 : decode cX6_digest 38 = .ok (.getfield 10, 3) := by decide +kernel
theorem dX6_digest_41 : decode cX6_digest 41 = .ok (.getfield 68, 3) := by decide +kernel
theorem dX6_digest_44 : decode cX6_digest 44 = .ok (.iload_n 3, 1) := by decide +kernel
theorem dX6_digest_45 : decode cX6_digest 45 = .ok (.iaload, 1) := by decide +kernel
theorem dX6_digest_46 : decode cX6_digest 46 = .ok (.i2l, 1) := by decide +kernel
theorem dX6_digest_47 : decode cX6_digest 47 = .ok (.invokestatic 308, 3) := by decide +kernel
theorem dX6_digest_50 : decode cX6_digest 50 = .ok (.lstore_n 1, 1) := by decide +kernel
theorem dX6_digest_51 : decode cX6_digest 51 = .ok (.iinc 3 1, 3) := by decide +kernel
theorem dX6_digest_54 : decode cX6_digest 54 = .ok (.goto (-23), 3) := by decide +kernel
theorem dX6_digest_57 : decode cX6_digest 57 = .ok (.iconst 0, 1) := by decide +kernel
theorem dX6_digest_58 : decode cX6_digest 58 = .ok (.istore_n 3, 1) := by decide +kernel
theorem dX6_digest_59 : decode cX6_digest 59 = .ok (.iload_n 3, 1) := by decide +kernel
theorem dX6_digest_60 : decode cX6_digest 60 = .ok (.aload_n 0, 1) := by decide +kernel
theorem dX6_digest_61 : decode cX6_digest 61 = .ok (.getfield 10, 3) := by decide +kernel
theorem dX6_digest_64 : decode cX6_digest 64 = .ok (.getfield 59, 3) := by decide +kernel
theorem dX6_digest_67 : decode cX6_digest 67 = .ok (.if_icmp .ge 23, 3) := by decide +kernel
theorem dX6_digest_70 : decode cX6_digest 70 = .ok (.aload_n 0, 1) := by decide +kernel
theorem dX6_digest_71 : decode cX6_digest 71 = .ok (.lload_n 1, 1) := by decide +kernel
theorem dX6_digest_72 : decode cX6_digest 72 = .ok (.iload_n 3, 1) := by decide +kernel
theorem dX6_digest_73 : decode cX6_digest 73 = .ok (.invokevirtual 312, 3) := by decide +kernel
theorem dX6_digest_76 : decode cX6_digest 76 = .ok (.lstore_n 1, 1) := by decide +kernel
theorem dX6_digest_77 : decode cX6_digest 77 = .ok (.aload_n 0, 1) := by decide +kernel
theorem dX6_digest_78 : decode cX6_digest 78 = .ok (.lload_n 1, 1) := by decide +kernel
theorem dX6_digest_79 : decode cX6_digest 79 = .ok (.iload_n 3, 1) := by decide +kernel
theorem dX6_digest_80 : decode cX6_digest 80 = .ok (.invokevirtual 316, 3) := by decide +kernel
theorem dX6_digest_83 : decode cX6_digest 83 = .ok (.lstore_n 1, 1) := by decide +kernel
theorem dX6_digest_84 : decode cX6_digest 84 = .ok (.iinc 3 1, 3) := by decide +kernel
theorem dX6_digest_87 : decode cX6_digest 87 = .ok (.goto (-28), 3) := by decide +kernel
theorem dX6_digest_90 : decode cX6_digest 90 = .ok (.aload_n 0, 1) := by decide +kernel
theorem dX6_digest_91 : decode cX6_digest 91 = .ok (.lload_n 1, 1) := by decide +kernel
theorem dX6_digest_92 : decode cX6_digest 92 = .ok (.invokevirtual 319, 3) := by decide +kernel
theorem dX6_digest_95 : decode cX6_digest 95 = .ok (.lstore_n 1, 1) := by decide +kernel
theorem dX6_digest_96 : decode cX6_digest 96 = .ok (.aload_n 0, 1) := by decide +kernel
theorem dX6_digest_97 : decode cX6_digest 97 = .ok (.lload_n 1, 1) := by decide +kernel
theorem dX6_digest_98 : decode cX6_digest 98 = .ok (.invokevirtual 323, 3) := by decide +kernel
theorem dX6_digest_101 : decode cX6_digest 101 = .ok (.lstore_n 1, 1) := by decide +kernel
theorem dX6_digest_102 : decode cX6_digest 102 = .ok (.lload_n 1, 1) := by decide +kernel
theorem dX6_digest_103 : decode cX6_digest 103 = .ok (.aload_n 0, 1) := by decide +kernel
theorem dX6_digest_104 : decode cX6_digest 104 = .ok (.invokevirtual 326, 3) := by decide +kernel
theorem dX6_digest_107 : decode cX6_digest 107 = .ok (.invokestatic 330, 3) := by decide +kernel
theorem dX6_digest_110 : decode cX6_digest 110 = .ok (.invokestatic 308, 3) := by decide +kernel
theorem dX6_digest_113 : decode cX6_digest 113 = .ok (.lstore_n 1, 1) := by decide +kernel
theorem dX6_digest_114 : decode cX6_digest 114 = .ok (.lload_n 1, 1) := by decide +kernel
theorem dX6_digest_115 : decode cX6_digest 115 = .ok (.aload_n 0, 1) := by decide +kernel
theorem dX6_digest_116 : decode cX6_digest 116 = .ok (.getfield 23, 3) := by decide +kernel
theorem dX6_digest_119 : decode cX6_digest 119 = .ok (.getfield 189, 3) := by decide +kernel
theorem dX6_digest_122 : decode cX6_digest 122 = .ok (.i2l, 1) := by decide +kernel
theorem dX6_digest_123 : decode cX6_digest 123 = .ok (.invokestatic 308, 3) := by decide +kernel
theorem dX6_digest_126 : decode cX6_digest 126 = .ok (.lstore_n 1, 1) := by decide +kernel
theorem dX6_digest_127 : decode cX6_digest 127 = .ok (.iconst 0, 1) := by decide +kernel
theorem dX6_digest_128 : decode cX6_digest 128 = .ok (.istore_n 3, 1) := by decide +kernel
theorem dX6_digest_129 : decode cX6_digest 129 = .ok (.iload_n 3, 1) := by decide +kernel
theorem dX6_digest_130 : decode cX6_digest 130 = .ok (.aload_n 0, 1) := by decide +kernel
theorem dX6_digest_131 : decode cX6_digest 131 = .ok (.getfield 23, 3) := by decide +kernel
theorem dX6_digest_134 : decode cX6_digest 134 = .ok (.getfield 189, 3) := by decide +kernel
theorem dX6_digest_137 : decode cX6_digest 137 = .ok (.if_icmp .ge 30, 3) := by decide +kernel
theorem dX6_digest_140 : decode cX6_digest 140 = .ok (.iload_n 3, 1) := by decide +kernel
theorem dX6_digest_141 : decode cX6_digest 141 = .ok (.bipush 60, 2) := by decide +kernel
theorem dX6_digest_143 : decode cX6_digest 143 = .ok (.if_icmp .ge 24, 3) := by decide +kernel
theorem dX6_digest_146 : decode cX6_digest 146 = .ok (.lload_n 1, 1) := by decide +kernel
theorem dX6_digest_147 : decode cX6_digest 147 = .ok (.aload_n 0, 1) := by decide +kernel
theorem dX6_digest_148 : decode cX6_digest 148 = .ok (.getfield 23, 3) := by decide +kernel
theorem dX6_digest_151 : decode cX6_digest 151 = .ok (.getfield 192, 3) := by decide +kernel
theorem dX6_digest_154 : decode cX6_digest 154 = .ok (.iload_n 3, 1) := by decide +kernel
theorem dX6_digest_155 : decode cX6_digest 155 = .ok (.iaload, 1) := by decide +kernel
theorem dX6_digest_156 : decode cX6_digest 156 = .ok (.i2l, 1) := by decide +kernel
theorem dX6_digest_157 : decode cX6_digest 157 = .ok (.invokestatic 308, 3) := by decide +kernel
theorem dX6_digest_160 : decode cX6_digest 160 = .ok (.lstore_n 1, 1) := by decide +kernel
theorem dX6_digest_161 : decode cX6_digest 161 = .ok (.iinc 3 1, 3) := by decide +kernel
theorem dX6_digest_164 : decode cX6_digest 164 = .ok (.goto (-35), 3) := by decide +kernel
theorem dX6_digest_167 : decode cX6_digest 167 = .ok (.lload_n 1, 1) := by decide +kernel
theorem dX6_digest_168 : decode cX6_digest 168 = .ok (.lreturn, 1) := by decide +kernel
theorem dX6_mixed_0 : decode cX6_mixed 0 = .ok (.ldc2_w 334, 3) := by decide +kernel
theorem dX6_mixed_3 : decode cX6_mixed 3 = .ok (.lload_n 0, 1) := by decide +kernel
theorem dX6_mixed_4 : decode cX6_mixed 4 = .ok (.lmul, 1) := by decide +kernel
theorem dX6_mixed_5 : decode cX6_mixed 5 = .ok (.lload_n 2, 1) := by decide +kernel
theorem dX6_mixed_6 : decode cX6_mixed 6 = .ok (.ladd, 1) := by decide +kernel
theorem dX6_mixed_7 : decode cX6_mixed 7 = .ok (.lreturn, 1) := by decide +kernel
theorem dX6_mixedWithTown_0 : decode cX6_mixedWithTown 0 = .ok (.lload_n 1, 1) := by decide +kernel
theorem dX6_mixedWithTown_1 : decode cX6_mixedWithTown 1 = .ok (.lstore 4, 2) := by decide +kernel
theorem dX6_mixedWithTown_3 : decode cX6_mixedWithTown 3 = .ok (.iconst 0, 1) := by decide +kernel
theorem dX6_mixedWithTown_4 : decode cX6_mixedWithTown 4 = .ok (.istore 6, 2) := by decide +kernel
theorem dX6_mixedWithTown_6 : decode cX6_mixedWithTown 6 = .ok (.iload 6, 2) := by decide +kernel
theorem dX6_mixedWithTown_8 : decode cX6_mixedWithTown 8 = .ok (.bipush 12, 2) := by decide +kernel
theorem dX6_mixedWithTown_10 : decode cX6_mixedWithTown 10 = .ok (.if_icmp .ge 24, 3) := by decide +kernel
theorem dX6_mixedWithTown_13 : decode cX6_mixedWithTown 13 = .ok (.lload 4, 2) := by decide +kernel
theorem dX6_mixedWithTown_15 : decode cX6_mixedWithTown 15 = .ok (.aload_n 0, 1) := by decide +kernel
theorem dX6_mixedWithTown_16 : decode cX6_mixedWithTown 16 = .ok (.iload_n 3, 1) := by decide +kernel
theorem dX6_mixedWithTown_17 : decode cX6_mixedWithTown 17 = .ok (.iload 6, 2) := by decide +kernel
theorem dX6_mixedWithTown_19 : decode cX6_mixedWithTown 19 = .ok (.invokevirtual 336, 3) := by decide +kernel
theorem dX6_mixedWithTown_22 : decode cX6_mixedWithTown 22 = .ok (.i2l, 1) := by decide +kernel
theorem dX6_mixedWithTown_23 : decode cX6_mixedWithTown 23 = .ok (.invokestatic 308, 3) := by decide +kernel
theorem dX6_mixedWithTown_26 : decode cX6_mixedWithTown 26 = .ok (.lstore 4, 2) := by decide +kernel
theorem dX6_mixedWithTown_28 : decode cX6_mixedWithTown 28 = .ok (.iinc 6 1, 3) := by decide +kernel
theorem dX6_mixedWithTown_31 : decode cX6_mixedWithTown 31 = .ok (.goto (-25), 3) := by decide +kernel
theorem dX6_mixedWithTown_34 : decode cX6_mixedWithTown 34 = .ok (.aload_n 0, 1) := by decide +kernel
theorem dX6_mixedWithTown_35 : decode cX6_mixedWithTown 35 = .ok (.iload_n 3, 1) := by decide +kernel
theorem dX6_mixedWithTown_36 : decode cX6_mixedWithTown 36 = .ok (.invokevirtual 145, 3) := by decide +kernel
theorem dX6_mixedWithTown_39 : decode cX6_mixedWithTown 39 = .ok (.iconst 0, 1) := by decide +kernel
theorem dX6_mixedWithTown_40 : decode cX6_mixedWithTown 40 = .ok (.istore 6, 2) := by decide +kernel
theorem dX6_mixedWithTown_42 : decode cX6_mixedWithTown 42 = .ok (.iload 6, 2) := by decide +kernel
theorem dX6_mixedWithTown_44 : decode cX6_mixedWithTown 44 = .ok (.iconst 5, 1) := by decide +kernel
theorem dX6_mixedWithTown_45 : decode cX6_mixedWithTown 45 = .ok (.if_icmp .ge 26, 3) := by decide +kernel
theorem dX6_mixedWithTown_48 : decode cX6_mixedWithTown 48 = .ok (.lload 4, 2) := by decide +kernel
theorem dX6_mixedWithTown_50 : decode cX6_mixedWithTown 50 = .ok (.aload_n 0, 1) := by decide +kernel
theorem dX6_mixedWithTown_51 : decode cX6_mixedWithTown 51 = .ok (.getfield 30, 3) := by decide +kernel
theorem dX6_mixedWithTown_54 : decode cX6_mixedWithTown 54 = .ok (.iload 6, 2) := by decide +kernel
theorem dX6_mixedWithTown_56 : decode cX6_mixedWithTown 56 = .ok (.invokevirtual 269, 3) := by decide +kernel
theorem dX6_mixedWithTown_59 : decode cX6_mixedWithTown 59 = .ok (.i2l, 1) := by decide +kernel
theorem dX6_mixedWithTown_60 : decode cX6_mixedWithTown 60 = .ok (.invokestatic 308, 3) := by decide +kernel
theorem dX6_mixedWithTown_63 : decode cX6_mixedWithTown 63 = .ok (.lstore 4, 2) := by decide +kernel
theorem dX6_mixedWithTown_65 : decode cX6_mixedWithTown 65 = .ok (.iinc 6 1, 3) := by decide +kernel
theorem dX6_mixedWithTown_68 : decode cX6_mixedWithTown 68 = .ok (.goto (-26), 3) := by decide +kernel
theorem dX6_mixedWithTown_71 : decode cX6_mixedWithTown 71 = .ok (.lload 4, 2) := by decide +kernel
theorem dX6_mixedWithTown_73 : decode cX6_mixedWithTown 73 = .ok (.aload_n 0, 1) := by decide +kernel
theorem dX6_mixedWithTown_74 : decode cX6_mixedWithTown 74 = .ok (.iload_n 3, 1) := by decide +kernel
theorem dX6_mixedWithTown_75 : decode cX6_mixedWithTown 75 = .ok (.invokevirtual 340, 3) := by decide +kernel
theorem dX6_mixedWithTown_78 : decode cX6_mixedWithTown 78 = .ok (.i2l, 1) := by decide +kernel
theorem dX6_mixedWithTown_79 : decode cX6_mixedWithTown 79 = .ok (.invokestatic 308, 3) := by decide +kernel
theorem dX6_mixedWithTown_82 : decode cX6_mixedWithTown 82 = .ok (.lstore 4, 2) := by decide +kernel
theorem dX6_mixedWithTown_84 : decode cX6_mixedWithTown 84 = .ok (.lload 4, 2) := by decide +kernel
theorem dX6_mixedWithTown_86 : decode cX6_mixedWithTown 86 = .ok (.aload_n 0, 1) := by decide +kernel
theorem dX6_mixedWithTown_87 : decode cX6_mixedWithTown 87 = .ok (.iload_n 3, 1) := by decide +kernel
theorem dX6_mixedWithTown_88 : decode cX6_mixedWithTown 88 = .ok (.iconst 0, 1) := by decide +kernel
theorem dX6_mixedWithTown_89 : decode cX6_mixedWithTown 89 = .ok (.invokevirtual 343, 3) := by decide +kernel
theorem dX6_mixedWithTown_92 : decode cX6_mixedWithTown 92 = .ok (.i2l, 1) := by decide +kernel
theorem dX6_mixedWithTown_93 : decode cX6_mixedWithTown 93 = .ok (.invokestatic 308, 3) := by decide +kernel
theorem dX6_mixedWithTown_96 : decode cX6_mixedWithTown 96 = .ok (.lstore 4, 2) := by decide +kernel
theorem dX6_mixedWithTown_98 : decode cX6_mixedWithTown 98 = .ok (.lload 4, 2) := by decide +kernel
theorem dX6_mixedWithTown_100 : decode cX6_mixedWithTown 100 = .ok (.aload_n 0, 1) := by decide +kernel
theorem dX6_mixedWithTown_101 : decode cX6_mixedWithTown 101 = .ok (.iload_n 3, 1) := by decide +kernel
theorem dX6_mixedWithTown_102 : decode cX6_mixedWithTown 102 = .ok (.iconst 1, 1) := by decide +kernel
theorem dX6_mixedWithTown_103 : decode cX6_mixedWithTown 103 = .ok (.invokevirtual 343, 3) := by decide +kernel
theorem dX6_mixedWithTown_106 : decode cX6_mixedWithTown 106 = .ok (.i2l, 1) := by decide +kernel
theorem dX6_mixedWithTown_107 : decode cX6_mixedWithTown 107 = .ok (.invokestatic 308, 3) := by decide +kernel
theorem dX6_mixedWithTown_110 : decode cX6_mixedWithTown 110 = .ok (.lstore 4, 2) := by decide +kernel
theorem dX6_mixedWithTown_112 : decode cX6_mixedWithTown 112 = .ok (.lload 4, 2) := by decide +kernel
theorem dX6_mixedWithTown_114 : decode cX6_mixedWithTown 114 = .ok (.aload_n 0, 1) := by decide +kernel
theorem dX6_mixedWithTown_115 : decode cX6_mixedWithTown 115 = .ok (.iload_n 3, 1) := by decide +kernel
theorem dX6_mixedWithTown_116 : decode cX6_mixedWithTown 116 = .ok (.invokevirtual 346, 3) := by decide +kernel
theorem dX6_mixedWithTown_119 : decode cX6_mixedWithTown 119 = .ok (.i2l, 1) := by decide +kernel
theorem dX6_mixedWithTown_120 : decode cX6_mixedWithTown 120 = .ok (.invokestatic 308, 3) := by decide +kernel
theorem dX6_mixedWithTown_123 : decode cX6_mixedWithTown 123 = .ok (.lreturn, 1) := by decide +kernel
theorem dX6_mixedWithRows_0 : decode cX6_mixedWithRows 0 = .ok (.lload_n 1, 1) := by decide +kernel
theorem dX6_mixedWithRows_1 : decode cX6_mixedWithRows 1 = .ok (.lstore 4, 2) := by decide +kernel
theorem dX6_mixedWithRows_3 : decode cX6_mixedWithRows 3 = .ok (.aload_n 0, 1) := by decide +kernel
theorem dX6_mixedWithRows_4 : decode cX6_mixedWithRows 4 = .ok (.getfield 10, 3) := by decide +kernel
theorem dX6_mixedWithRows_7 : decode cX6_mixedWithRows 7 = .ok (.getfield 76, 3) := by decide +kernel
theorem dX6_mixedWithRows_10 : decode cX6_mixedWithRows 10 = .ok (.iload_n 3, 1) := by decide +kernel
theorem dX6_mixedWithRows_11 : decode cX6_mixedWithRows 11 = .ok (.aaload, 1) := by decide +kernel
theorem dX6_mixedWithRows_12 : decode cX6_mixedWithRows 12 = .ok (.astore 6, 2) := by decide +kernel
theorem dX6_mixedWithRows_14 : decode cX6_mixedWithRows 14 = .ok (.iconst 0, 1) := by decide +kernel
theorem dX6_mixedWithRows_15 : decode cX6_mixedWithRows 15 = .ok (.istore 7, 2) := by decide +kernel
theorem dX6_mixedWithRows_17 : decode cX6_mixedWithRows 17 = .ok (.iload 7, 2) := by decide +kernel
theorem dX6_mixedWithRows_19 : decode cX6_mixedWithRows 19 = .ok (.bipush 12, 2) := by decide +kernel
theorem dX6_mixedWithRows_21 : decode cX6_mixedWithRows 21 = .ok (.if_icmp .ge 25, 3) := by decide +kernel
theorem dX6_mixedWithRows_24 : decode cX6_mixedWithRows 24 = .ok (.lload 4, 2) := by decide +kernel
theorem dX6_mixedWithRows_26 : decode cX6_mixedWithRows 26 = .ok (.aload 6, 2) := by decide +kernel
theorem dX6_mixedWithRows_28 : decode cX6_mixedWithRows 28 = .ok (.getfield 142, 3) := by decide +kernel
theorem dX6_mixedWithRows_31 : decode cX6_mixedWithRows 31 = .ok (.iload 7, 2) := by decide +kernel
theorem dX6_mixedWithRows_33 : decode cX6_mixedWithRows 33 = .ok (.iaload, 1) := by decide +kernel
theorem dX6_mixedWithRows_34 : decode cX6_mixedWithRows 34 = .ok (.i2l, 1) := by decide +kernel
theorem dX6_mixedWithRows_35 : decode cX6_mixedWithRows 35 = .ok (.invokestatic 308, 3) := by decide +kernel
theorem dX6_mixedWithRows_38 : decode cX6_mixedWithRows 38 = .ok (.lstore 4, 2) := by decide +kernel
theorem dX6_mixedWithRows_40 : decode cX6_mixedWithRows 40 = .ok (.iinc 7 1, 3) := by decide +kernel
theorem dX6_mixedWithRows_43 : decode cX6_mixedWithRows 43 = .ok (.goto (-26), 3) := by decide +kernel
theorem dX6_mixedWithRows_46 : decode cX6_mixedWithRows 46 = .ok (.iconst 0, 1) := by decide +kernel
theorem dX6_mixedWithRows_47 : decode cX6_mixedWithRows 47 = .ok (.istore 7, 2) := by decide +kernel
theorem dX6_mixedWithRows_49 : decode cX6_mixedWithRows 49 = .ok (.iload 7, 2) := by decide +kernel
theorem dX6_mixedWithRows_51 : decode cX6_mixedWithRows 51 = .ok (.aload_n 0, 1) := by decide +kernel
theorem dX6_mixedWithRows_52 : decode cX6_mixedWithRows 52 = .ok (.getfield 10, 3) := by decide +kernel
theorem dX6_mixedWithRows_55 : decode cX6_mixedWithRows 55 = .ok (.getfield 59, 3) := by decide +kernel
theorem dX6_mixedWithRows_58 : decode cX6_mixedWithRows 58 = .ok (.if_icmp .ge 29, 3) := by decide +kernel
theorem dX6_mixedWithRows_61 : decode cX6_mixedWithRows 61 = .ok (.lload 4, 2) := by decide +kernel
theorem dX6_mixedWithRows_63 : decode cX6_mixedWithRows 63 = .ok (.aload_n 0, 1) := by decide +kernel
theorem dX6_mixedWithRows_64 : decode cX6_mixedWithRows 64 = .ok (.getfield 10, 3) := by decide +kernel
theorem dX6_mixedWithRows_67 : decode cX6_mixedWithRows 67 = .ok (.getfield 164, 3) := by decide +kernel
theorem dX6_mixedWithRows_70 : decode cX6_mixedWithRows 70 = .ok (.iload_n 3, 1) := by decide +kernel
theorem dX6_mixedWithRows_71 : decode cX6_mixedWithRows 71 = .ok (.aaload, 1) := by decide +kernel
theorem dX6_mixedWithRows_72 : decode cX6_mixedWithRows 72 = .ok (.iload 7, 2) := by decide +kernel
theorem dX6_mixedWithRows_74 : decode cX6_mixedWithRows 74 = .ok (.iaload, 1) := by decide +kernel
theorem dX6_mixedWithRows_75 : decode cX6_mixedWithRows 75 = .ok (.i2l, 1) := by decide +kernel
theorem dX6_mixedWithRows_76 : decode cX6_mixedWithRows 76 = .ok (.invokestatic 308, 3) := by decide +kernel
theorem dX6_mixedWithRows_79 : decode cX6_mixedWithRows 79 = .ok (.lstore 4, 2) := by decide +kernel
theorem dX6_mixedWithRows_81 : decode cX6_mixedWithRows 81 = .ok (.iinc 7 1, 3) := by decide +kernel
theorem dX6_mixedWithRows_84 : decode cX6_mixedWithRows 84 = .ok (.goto (-35), 3) := by decide +kernel
theorem dX6_mixedWithRows_87 : decode cX6_mixedWithRows 87 = .ok (.aload_n 0, 1) := by decide +kernel
theorem dX6_mixedWithRows_88 : decode cX6_mixedWithRows 88 = .ok (.iload_n 3, 1) := by decide +kernel
theorem dX6_mixedWithRows_89 : decode cX6_mixedWithRows 89 = .ok (.invokevirtual 145, 3) := by decide +kernel
theorem dX6_mixedWithRows_92 : decode cX6_mixedWithRows 92 = .ok (.iconst 0, 1) := by decide +kernel
theorem dX6_mixedWithRows_93 : decode cX6_mixedWithRows 93 = .ok (.istore 7, 2) := by decide +kernel
theorem dX6_mixedWithRows_95 : decode cX6_mixedWithRows 95 = .ok (.iload 7, 2) := by decide +kernel
theorem dX6_mixedWithRows_97 : decode cX6_mixedWithRows 97 = .ok (.bipush 24, 2) := by decide +kernel
theorem dX6_mixedWithRows_99 : decode cX6_mixedWithRows 99 = .ok (.if_icmp .ge 59, 3) := by decide +kernel
theorem dX6_mixedWithRows_102 : decode cX6_mixedWithRows 102 = .ok (.lload 4, 2) := by decide +kernel
theorem dX6_mixedWithRows_104 : decode cX6_mixedWithRows 104 = .ok (.aload 6, 2) := by decide +kernel
theorem dX6_mixedWithRows_106 : decode cX6_mixedWithRows 106 = .ok (.getfield 109, 3) := by decide +kernel
theorem dX6_mixedWithRows_109 : decode cX6_mixedWithRows 109 = .ok (.iload 7, 2) := by decide +kernel
theorem dX6_mixedWithRows_111 : decode cX6_mixedWithRows 111 = .ok (.iaload, 1) := by decide +kernel
theorem dX6_mixedWithRows_112 : decode cX6_mixedWithRows 112 = .ok (.i2l, 1) := by decide +kernel
theorem dX6_mixedWithRows_113 : decode cX6_mixedWithRows 113 = .ok (.invokestatic 308, 3) := by decide +kernel
theorem dX6_mixedWithRows_116 : decode cX6_mixedWithRows 116 = .ok (.lstore 4, 2) := by decide +kernel
theorem dX6_mixedWithRows_118 : decode cX6_mixedWithRows 118 = .ok (.lload 4, 2) := by decide +kernel
theorem dX6_mixedWithRows_120 : decode cX6_mixedWithRows 120 = .ok (.aload 6, 2) := by decide +kernel
theorem dX6_mixedWithRows_122 : decode cX6_mixedWithRows 122 = .ok (.getfield 207, 3) := by decide +kernel
theorem dX6_mixedWithRows_125 : decode cX6_mixedWithRows 125 = .ok (.iload 7, 2) := by decide +kernel
theorem dX6_mixedWithRows_127 : decode cX6_mixedWithRows 127 = .ok (.iaload, 1) := by decide +kernel
theorem dX6_mixedWithRows_128 : decode cX6_mixedWithRows 128 = .ok (.i2l, 1) := by decide +kernel
theorem dX6_mixedWithRows_129 : decode cX6_mixedWithRows 129 = .ok (.invokestatic 308, 3) := by decide +kernel
theorem dX6_mixedWithRows_132 : decode cX6_mixedWithRows 132 = .ok (.lstore 4, 2) := by decide +kernel
theorem dX6_mixedWithRows_134 : decode cX6_mixedWithRows 134 = .ok (.lload 4, 2) := by decide +kernel
theorem dX6_mixedWithRows_136 : decode cX6_mixedWithRows 136 = .ok (.aload_n 0, 1) := by decide +kernel
theorem dX6_mixedWithRows_137 : decode cX6_mixedWithRows 137 = .ok (.getfield 30, 3) := by decide +kernel
theorem dX6_mixedWithRows_140 : decode cX6_mixedWithRows 140 = .ok (.getfield 239, 3) := by decide +kernel
theorem dX6_mixedWithRows_143 : decode cX6_mixedWithRows 143 = .ok (.iload 7, 2) := by decide +kernel
theorem dX6_mixedWithRows_145 : decode cX6_mixedWithRows 145 = .ok (.iaload, 1) := by decide +kernel
theorem dX6_mixedWithRows_146 : decode cX6_mixedWithRows 146 = .ok (.i2l, 1) := by decide +kernel
theorem dX6_mixedWithRows_147 : decode cX6_mixedWithRows 147 = .ok (.invokestatic 308, 3) := by decide +kernel
theorem dX6_mixedWithRows_150 : decode cX6_mixedWithRows 150 = .ok (.lstore 4, 2) := by decide +kernel
theorem dX6_mixedWithRows_152 : decode cX6_mixedWithRows 152 = .ok (.iinc 7 1, 3) := by decide +kernel
theorem dX6_mixedWithRows_155 : decode cX6_mixedWithRows 155 = .ok (.goto (-60), 3) := by decide +kernel
theorem dX6_mixedWithRows_158 : decode cX6_mixedWithRows 158 = .ok (.lload 4, 2) := by decide +kernel
theorem dX6_mixedWithRows_160 : decode cX6_mixedWithRows 160 = .ok (.lreturn, 1) := by decide +kernel
theorem dX6_mixedWithTrades_0 : decode cX6_mixedWithTrades 0 = .ok (.aload_n 0, 1) := by decide +kernel
theorem dX6_mixedWithTrades_1 : decode cX6_mixedWithTrades 1 = .ok (.getfield 44, 3) := by decide +kernel
theorem dX6_mixedWithTrades_4 : decode cX6_mixedWithTrades 4 = .ok (.aload_n 0, 1) := by decide +kernel
theorem dX6_mixedWithTrades_5 : decode cX6_mixedWithTrades 5 = .ok (.getfield 10, 3) := by decide +kernel
theorem dX6_mixedWithTrades_8 : decode cX6_mixedWithTrades 8 = .ok (.invokevirtual 298, 3) := by decide +kernel
theorem dX6_mixedWithTrades_11 : decode cX6_mixedWithTrades 11 = .ok (.lload_n 1, 1) := by decide +kernel
theorem dX6_mixedWithTrades_12 : decode cX6_mixedWithTrades 12 = .ok (.aload_n 0, 1) := by decide +kernel
theorem dX6_mixedWithTrades_13 : decode cX6_mixedWithTrades 13 = .ok (.getfield 44, 3) := by decide +kernel
theorem dX6_mixedWithTrades_16 : decode cX6_mixedWithTrades 16 = .ok (.iconst 0, 1) := by decide +kernel
theorem dX6_mixedWithTrades_17 : decode cX6_mixedWithTrades 17 = .ok (.invokevirtual 299, 3) := by decide +kernel
theorem dX6_mixedWithTrades_20 : decode cX6_mixedWithTrades 20 = .ok (.i2l, 1) := by decide +kernel
theorem dX6_mixedWithTrades_21 : decode cX6_mixedWithTrades 21 = .ok (.invokestatic 308, 3) := by decide +kernel
theorem dX6_mixedWithTrades_24 : decode cX6_mixedWithTrades 24 = .ok (.lstore_n 3, 1) := by decide +kernel
theorem dX6_mixedWithTrades_25 : decode cX6_mixedWithTrades 25 = .ok (.iconst 0, 1) := by decide +kernel
theorem dX6_mixedWithTrades_26 : decode cX6_mixedWithTrades 26 = .ok (.istore 5, 2) := by decide +kernel
theorem dX6_mixedWithTrades_28 : decode cX6_mixedWithTrades 28 = .ok (.iload 5, 2) := by decide +kernel
theorem dX6_mixedWithTrades_30 : decode cX6_mixedWithTrades 30 = .ok (.bipush 6, 2) := by decide +kernel
theorem dX6_mixedWithTrades_32 : decode cX6_mixedWithTrades 32 = .ok (.if_icmp .ge 27, 3) := by decide +kernel
theorem dX6_mixedWithTrades_35 : decode cX6_mixedWithTrades 35 = .ok (.lload_n 3, 1) := by decide +kernel
theorem dX6_mixedWithTrades_36 : decode cX6_mixedWithTrades 36 = .ok (.aload_n 0, 1) := by decide +kernel
theorem dX6_mixedWithTrades_37 : decode cX6_mixedWithTrades 37 = .ok (.getfield 44, 3) := by decide +kernel
theorem dX6_mixedWithTrades_40 : decode cX6_mixedWithTrades 40 = .ok (.bipush 10, 2) := by decide +kernel
theorem dX6_mixedWithTrades_42 : decode cX6_mixedWithTrades 42 = .ok (.iload 5, 2) := by decide +kernel
theorem dX6_mixedWithTrades_44 : decode cX6_mixedWithTrades 44 = .ok (.iadd, 1) := by decide +kernel
theorem dX6_mixedWithTrades_45 : decode cX6_mixedWithTrades 45 = .ok (.invokevirtual 299, 3) := by decide +kernel
theorem dX6_mixedWithTrades_48 : decode cX6_mixedWithTrades 48 = .ok (.i2l, 1) := by decide +kernel
theorem dX6_mixedWithTrades_49 : decode cX6_mixedWithTrades 49 = .ok (.invokestatic 308, 3) := by decide +kernel
theorem dX6_mixedWithTrades_52 : decode cX6_mixedWithTrades 52 = .ok (.lstore_n 3, 1) := by decide +kernel
theorem dX6_mixedWithTrades_53 : decode cX6_mixedWithTrades 53 = .ok (.iinc 5 1, 3) := by decide +kernel
theorem dX6_mixedWithTrades_56 : decode cX6_mixedWithTrades 56 = .ok (.goto (-28), 3) := by decide +kernel
theorem dX6_mixedWithTrades_59 : decode cX6_mixedWithTrades 59 = .ok (.lload_n 3, 1) := by decide +kernel
theorem dX6_mixedWithTrades_60 : decode cX6_mixedWithTrades 60 = .ok (.lreturn, 1) := by decide +kernel
theorem dX6_mixedWithRing_0 : decode cX6_mixedWithRing 0 = .ok (.aload_n 0, 1) := by decide +kernel
theorem dX6_mixedWithRing_1 : decode cX6_mixedWithRing 1 = .ok (.getfield 37, 3) := by decide +kernel
theorem dX6_mixedWithRing_4 : decode cX6_mixedWithRing 4 = .ok (.aload_n 0, 1) := by decide +kernel
theorem dX6_mixedWithRing_5 : decode cX6_mixedWithRing 5 = .ok (.getfield 10, 3) := by decide +kernel
theorem dX6_mixedWithRing_8 : decode cX6_mixedWithRing 8 = .ok (.invokevirtual 176, 3) := by decide +kernel
theorem dX6_mixedWithRing_11 : decode cX6_mixedWithRing 11 = .ok (.lload_n 1, 1) := by decide +kernel
theorem dX6_mixedWithRing_12 : decode cX6_mixedWithRing 12 = .ok (.aload_n 0, 1) := by decide +kernel
theorem dX6_mixedWithRing_13 : decode cX6_mixedWithRing 13 = .ok (.getfield 37, 3) := by decide +kernel
theorem dX6_mixedWithRing_16 : decode cX6_mixedWithRing 16 = .ok (.iconst 0, 1) := by decide +kernel
theorem dX6_mixedWithRing_17 : decode cX6_mixedWithRing 17 = .ok (.invokevirtual 302, 3) := by decide +kernel
theorem dX6_mixedWithRing_20 : decode cX6_mixedWithRing 20 = .ok (.i2l, 1) := by decide +kernel
theorem dX6_mixedWithRing_21 : decode cX6_mixedWithRing 21 = .ok (.invokestatic 308, 3) := by decide +kernel
theorem dX6_mixedWithRing_24 : decode cX6_mixedWithRing 24 = .ok (.lstore_n 3, 1) := by decide +kernel
theorem dX6_mixedWithRing_25 : decode cX6_mixedWithRing 25 = .ok (.lload_n 3, 1) := by decide +kernel
theorem dX6_mixedWithRing_26 : decode cX6_mixedWithRing 26 = .ok (.aload_n 0, 1) := by decide +kernel
theorem dX6_mixedWithRing_27 : decode cX6_mixedWithRing 27 = .ok (.getfield 37, 3) := by decide +kernel
theorem dX6_mixedWithRing_30 : decode cX6_mixedWithRing 30 = .ok (.iconst 1, 1) := by decide +kernel
theorem dX6_mixedWithRing_31 : decode cX6_mixedWithRing 31 = .ok (.invokevirtual 302, 3) := by decide +kernel
theorem dX6_mixedWithRing_34 : decode cX6_mixedWithRing 34 = .ok (.i2l, 1) := by decide +kernel
theorem dX6_mixedWithRing_35 : decode cX6_mixedWithRing 35 = .ok (.invokestatic 308, 3) := by decide +kernel
theorem dX6_mixedWithRing_38 : decode cX6_mixedWithRing 38 = .ok (.lstore_n 3, 1) := by decide +kernel
theorem dX6_mixedWithRing_39 : decode cX6_mixedWithRing 39 = .ok (.iconst 0, 1) := by decide +kernel
theorem dX6_mixedWithRing_40 : decode cX6_mixedWithRing 40 = .ok (.istore 5, 2) := by decide +kernel
theorem dX6_mixedWithRing_42 : decode cX6_mixedWithRing 42 = .ok (.iload 5, 2) := by decide +kernel
theorem dX6_mixedWithRing_44 : decode cX6_mixedWithRing 44 = .ok (.bipush 6, 2) := by decide +kernel
theorem dX6_mixedWithRing_46 : decode cX6_mixedWithRing 46 = .ok (.if_icmp .ge 27, 3) := by decide +kernel
theorem dX6_mixedWithRing_49 : decode cX6_mixedWithRing 49 = .ok (.lload_n 3, 1) := by decide +kernel
theorem dX6_mixedWithRing_50 : decode cX6_mixedWithRing 50 = .ok (.aload_n 0, 1) := by decide +kernel
theorem dX6_mixedWithRing_51 : decode cX6_mixedWithRing 51 = .ok (.getfield 37, 3) := by decide +kernel
theorem dX6_mixedWithRing_54 : decode cX6_mixedWithRing 54 = .ok (.bipush 10, 2) := by decide +kernel
theorem dX6_mixedWithRing_56 : decode cX6_mixedWithRing 56 = .ok (.iload 5, 2) := by decide +kernel
theorem dX6_mixedWithRing_58 : decode cX6_mixedWithRing 58 = .ok (.iadd, 1) := by decide +kernel
theorem dX6_mixedWithRing_59 : decode cX6_mixedWithRing 59 = .ok (.invokevirtual 302, 3) := by decide +kernel
theorem dX6_mixedWithRing_62 : decode cX6_mixedWithRing 62 = .ok (.i2l, 1) := by decide +kernel
theorem dX6_mixedWithRing_63 : decode cX6_mixedWithRing 63 = .ok (.invokestatic 308, 3) := by decide +kernel
theorem dX6_mixedWithRing_66 : decode cX6_mixedWithRing 66 = .ok (.lstore_n 3, 1) := by decide +kernel
theorem dX6_mixedWithRing_67 : decode cX6_mixedWithRing 67 = .ok (.iinc 5 1, 3) := by decide +kernel
theorem dX6_mixedWithRing_70 : decode cX6_mixedWithRing 70 = .ok (.goto (-28), 3) := by decide +kernel
theorem dX6_mixedWithRing_73 : decode cX6_mixedWithRing 73 = .ok (.lload_n 3, 1) := by decide +kernel
theorem dX6_mixedWithRing_74 : decode cX6_mixedWithRing 74 = .ok (.lreturn, 1) := by decide +kernel
theorem dX6_bitsOf_0 : decode cX6_bitsOf 0 = .ok (.dload_n 0, 1) := by decide +kernel
theorem dX6_bitsOf_1 : decode cX6_bitsOf 1 = .ok (.dconst 0, 1) := by decide +kernel
theorem dX6_bitsOf_2 : decode cX6_bitsOf 2 = .ok (.dcmp .g, 1) := by decide +kernel
theorem dX6_bitsOf_3 : decode cX6_bitsOf 3 = .ok (.ifCond .gt 5, 3) := by decide +kernel
theorem dX6_bitsOf_6 : decode cX6_bitsOf 6 = .ok (.lconst 0, 1) := by decide +kernel
theorem dX6_bitsOf_7 : decode cX6_bitsOf 7 = .ok (.lreturn, 1) := by decide +kernel
theorem dX6_bitsOf_8 : decode cX6_bitsOf 8 = .ok (.dload_n 0, 1) := by decide +kernel
theorem dX6_bitsOf_9 : decode cX6_bitsOf 9 = .ok (.dstore_n 2, 1) := by decide +kernel
theorem dX6_bitsOf_10 : decode cX6_bitsOf 10 = .ok (.ldc2_w 349, 3) := by decide +kernel
theorem dX6_bitsOf_13 : decode cX6_bitsOf 13 = .ok (.lstore 4, 2) := by decide +kernel
theorem dX6_bitsOf_15 : decode cX6_bitsOf 15 = .ok (.iconst 0, 1) := by decide +kernel
theorem dX6_bitsOf_16 : decode cX6_bitsOf 16 = .ok (.istore 6, 2) := by decide +kernel
theorem dX6_bitsOf_18 : decode cX6_bitsOf 18 = .ok (.iload 6, 2) := by decide +kernel
theorem dX6_bitsOf_20 : decode cX6_bitsOf 20 = .ok (.sipush 1023, 3) := by decide +kernel
theorem dX6_bitsOf_23 : decode cX6_bitsOf 23 = .ok (.if_icmp .ge 27, 3) := by decide +kernel
theorem dX6_bitsOf_26 : decode cX6_bitsOf 26 = .ok (.dload_n 2, 1) := by decide +kernel
theorem dX6_bitsOf_27 : decode cX6_bitsOf 27 = .ok (.dconst 1, 1) := by decide +kernel
theorem dX6_bitsOf_28 : decode cX6_bitsOf 28 = .ok (.dcmp .g, 1) := by decide +kernel
theorem dX6_bitsOf_29 : decode cX6_bitsOf 29 = .ok (.ifCond .ge 21, 3) := by decide +kernel
theorem dX6_bitsOf_32 : decode cX6_bitsOf 32 = .ok (.dload_n 2, 1) := by decide +kernel
theorem dX6_bitsOf_33 : decode cX6_bitsOf 33 = .ok (.ldc2_w 351, 3) := by decide +kernel
theorem dX6_bitsOf_36 : decode cX6_bitsOf 36 = .ok (.dmul, 1) := by decide +kernel
theorem dX6_bitsOf_37 : decode cX6_bitsOf 37 = .ok (.dstore_n 2, 1) := by decide +kernel
theorem dX6_bitsOf_38 : decode cX6_bitsOf 38 = .ok (.lload 4, 2) := by decide +kernel
theorem dX6_bitsOf_40 : decode cX6_bitsOf 40 = .ok (.lconst 1, 1) := by decide +kernel
theorem dX6_bitsOf_41 : decode cX6_bitsOf 41 = .ok (.lsub, 1) := by decide +kernel
theorem dX6_bitsOf_42 : decode cX6_bitsOf 42 = .ok (.lstore 4, 2) := by decide +kernel
theorem dX6_bitsOf_44 : decode cX6_bitsOf 44 = .ok (.iinc 6 1, 3) := by decide +kernel
theorem dX6_bitsOf_47 : decode cX6_bitsOf 47 = .ok (.goto (-29), 3) := by decide +kernel
theorem dX6_bitsOf_50 : decode cX6_bitsOf 50 = .ok (.lload 4, 2) := by decide +kernel
theorem dX6_bitsOf_52 : decode cX6_bitsOf 52 = .ok (.bipush 52, 2) := by decide +kernel
theorem dX6_bitsOf_54 : decode cX6_bitsOf 54 = .ok (.lshl, 1) := by decide +kernel
theorem dX6_bitsOf_55 : decode cX6_bitsOf 55 = .ok (.dload_n 2, 1) := by decide +kernel
theorem dX6_bitsOf_56 : decode cX6_bitsOf 56 = .ok (.dconst 1, 1) := by decide +kernel
theorem dX6_bitsOf_57 : decode cX6_bitsOf 57 = .ok (.dsub, 1) := by decide +kernel
theorem dX6_bitsOf_58 : decode cX6_bitsOf 58 = .ok (.ldc2_w 353, 3) := by decide +kernel
theorem dX6_bitsOf_61 : decode cX6_bitsOf 61 = .ok (.dmul, 1) := by decide +kernel
theorem dX6_bitsOf_62 : decode cX6_bitsOf 62 = .ok (.d2l, 1) := by decide +kernel
theorem dX6_bitsOf_63 : decode cX6_bitsOf 63 = .ok (.ladd, 1) := by decide +kernel
theorem dX6_bitsOf_64 : decode cX6_bitsOf 64 = .ok (.lreturn, 1) := by decide +kernel
theorem dX6_checkTown_0 : decode cX6_checkTown 0 = .ok (.iload_n 1, 1) := by decide +kernel
theorem dX6_checkTown_1 : decode cX6_checkTown 1 = .ok (.ifCond .lt 14, 3) := by decide +kernel
theorem dX6_checkTown_4 : decode cX6_checkTown 4 = .ok (.iload_n 1, 1) := by decide +kernel
theorem dX6_checkTown_5 : decode cX6_checkTown 5 = .ok (.aload_n 0, 1) := by decide +kernel
theorem dX6_checkTown_6 : decode cX6_checkTown 6 = .ok (.getfield 10, 3) := by decide +kernel
theorem dX6_checkTown_9 : decode cX6_checkTown 9 = .ok (.getfield 59, 3) := by decide +kernel
theorem dX6_checkTown_12 : decode cX6_checkTown 12 = .ok (.if_icmp .lt 14, 3) := by decide +kernel
theorem dX6_checkTown_15 : decode cX6_checkTown 15 = .ok (.new 355, 3) := by decide +kernel
theorem dX6_checkTown_18 : decode cX6_checkTown 18 = .ok (.dup, 1) := by decide +kernel
theorem dX6_checkTown_19 : decode cX6_checkTown 19 = .ok (.ldc_w 357, 3) := by decide +kernel
theorem dX6_checkTown_22 : decode cX6_checkTown 22 = .ok (.invokespecial 359, 3) := by decide +kernel
theorem dX6_checkTown_25 : decode cX6_checkTown 25 = .ok (.athrow, 1) := by decide +kernel
theorem dX6_checkTown_26 : decode cX6_checkTown 26 = .ok (.return_, 1) := by decide +kernel
theorem dX6_checkStep_0 : decode cX6_checkStep 0 = .ok (.iload_n 0, 1) := by decide +kernel
theorem dX6_checkStep_1 : decode cX6_checkStep 1 = .ok (.ifCond .lt 9, 3) := by decide +kernel
theorem dX6_checkStep_4 : decode cX6_checkStep 4 = .ok (.iload_n 0, 1) := by decide +kernel
theorem dX6_checkStep_5 : decode cX6_checkStep 5 = .ok (.bipush 24, 2) := by decide +kernel
theorem dX6_checkStep_7 : decode cX6_checkStep 7 = .ok (.if_icmp .lt 14, 3) := by decide +kernel
theorem dX6_checkStep_10 : decode cX6_checkStep 10 = .ok (.new 355, 3) := by decide +kernel
theorem dX6_checkStep_13 : decode cX6_checkStep 13 = .ok (.dup, 1) := by decide +kernel
theorem dX6_checkStep_14 : decode cX6_checkStep 14 = .ok (.ldc_w 360, 3) := by decide +kernel
theorem dX6_checkStep_17 : decode cX6_checkStep 17 = .ok (.invokespecial 359, 3) := by decide +kernel
theorem dX6_checkStep_20 : decode cX6_checkStep 20 = .ok (.athrow, 1) := by decide +kernel
theorem dX6_checkStep_21 : decode cX6_checkStep 21 = .ok (.return_, 1) := by decide +kernel
theorem dX6_checkTooth_0 : decode cX6_checkTooth 0 = .ok (.iload_n 0, 1) := by decide +kernel
theorem dX6_checkTooth_1 : decode cX6_checkTooth 1 = .ok (.ifCond .lt 9, 3) := by decide +kernel
theorem dX6_checkTooth_4 : decode cX6_checkTooth 4 = .ok (.iload_n 0, 1) := by decide +kernel
theorem dX6_checkTooth_5 : decode cX6_checkTooth 5 = .ok (.bipush 12, 2) := by decide +kernel
theorem dX6_checkTooth_7 : decode cX6_checkTooth 7 = .ok (.if_icmp .lt 14, 3) := by decide +kernel
theorem dX6_checkTooth_10 : decode cX6_checkTooth 10 = .ok (.new 355, 3) := by decide +kernel
theorem dX6_checkTooth_13 : decode cX6_checkTooth 13 = .ok (.dup, 1) := by decide +kernel
theorem dX6_checkTooth_14 : decode cX6_checkTooth 14 = .ok (.ldc_w 362, 3) := by decide +kernel
theorem dX6_checkTooth_17 : decode cX6_checkTooth 17 = .ok (.invokespecial 359, 3) := by decide +kernel
theorem dX6_checkTooth_20 : decode cX6_checkTooth 20 = .ok (.athrow, 1) := by decide +kernel
theorem dX6_checkTooth_21 : decode cX6_checkTooth 21 = .ok (.return_, 1) := by decide +kernel
theorem dX6_checkPlace_0 : decode cX6_checkPlace 0 = .ok (.aload_n 0, 1) := by decide +kernel
theorem dX6_checkPlace_1 : decode cX6_checkPlace 1 = .ok (.iload_n 1, 1) := by decide +kernel
theorem dX6_checkPlace_2 : decode cX6_checkPlace 2 = .ok (.invokevirtual 120, 3) := by decide +kernel
theorem dX6_checkPlace_5 : decode cX6_checkPlace 5 = .ok (.iload_n 2, 1) := by decide +kernel
theorem dX6_checkPlace_6 : decode cX6_checkPlace 6 = .ok (.invokestatic 236, 3) := by decide +kernel
theorem dX6_checkPlace_9 : decode cX6_checkPlace 9 = .ok (.iload_n 3, 1) := by decide +kernel
theorem dX6_checkPlace_10 : decode cX6_checkPlace 10 = .ok (.invokestatic 139, 3) := by decide +kernel
theorem dX6_checkPlace_13 : decode cX6_checkPlace 13 = .ok (.return_, 1) := by decide +kernel
theorem dX6_checkSetting_0 : decode cX6_checkSetting 0 = .ok (.iload_n 0, 1) := by decide +kernel
theorem dX6_checkSetting_1 : decode cX6_checkSetting 1 = .ok (.ifCond .lt 8, 3) := by decide +kernel
theorem dX6_checkSetting_4 : decode cX6_checkSetting 4 = .ok (.iload_n 0, 1) := by decide +kernel
theorem dX6_checkSetting_5 : decode cX6_checkSetting 5 = .ok (.iconst 3, 1) := by decide +kernel
theorem dX6_checkSetting_6 : decode cX6_checkSetting 6 = .ok (.if_icmp .lt 14, 3) := by decide +kernel
theorem dX6_checkSetting_9 : decode cX6_checkSetting 9 = .ok (.new 355, 3) := by decide +kernel
theorem dX6_checkSetting_12 : decode cX6_checkSetting 12 = .ok (.dup, 1) := by decide +kernel
theorem dX6_checkSetting_13 : decode cX6_checkSetting 13 = .ok (.ldc_w 364, 3) := by decide +kernel
theorem dX6_checkSetting_16 : decode cX6_checkSetting 16 = .ok (.invokespecial 359, 3) := by decide +kernel
theorem dX6_checkSetting_19 : decode cX6_checkSetting 19 = .ok (.athrow, 1) := by decide +kernel
theorem dX6_checkSetting_20 : decode cX6_checkSetting 20 = .ok (.return_, 1) := by decide +kernel
theorem dX6_checkDifferent_0 : decode cX6_checkDifferent 0 = .ok (.iload_n 0, 1) := by decide +kernel
theorem dX6_checkDifferent_1 : decode cX6_checkDifferent 1 = .ok (.iload_n 1, 1) := by decide +kernel
theorem dX6_checkDifferent_2 : decode cX6_checkDifferent 2 = .ok (.if_icmp .ne 14, 3) := by decide +kernel
theorem dX6_checkDifferent_5 : decode cX6_checkDifferent 5 = .ok (.new 52, 3) := by decide +kernel
theorem dX6_checkDifferent_8 : decode cX6_checkDifferent 8 = .ok (.dup, 1) := by decide +kernel
theorem dX6_checkDifferent_9 : decode cX6_checkDifferent 9 = .ok (.ldc_w 366, 3) := by decide +kernel
theorem dX6_checkDifferent_12 : decode cX6_checkDifferent 12 = .ok (.invokespecial 56, 3) := by decide +kernel
theorem dX6_checkDifferent_15 : decode cX6_checkDifferent 15 = .ok (.athrow, 1) := by decide +kernel
theorem dX6_checkDifferent_16 : decode cX6_checkDifferent 16 = .ok (.return_, 1) := by decide +kernel
theorem dX6_checkGiven_0 : decode cX6_checkGiven 0 = .ok (.iload_n 0, 1) := by decide +kernel
theorem dX6_checkGiven_1 : decode cX6_checkGiven 1 = .ok (.iconst 1, 1) := by decide +kernel
theorem dX6_checkGiven_2 : decode cX6_checkGiven 2 = .ok (.if_icmp .lt 10, 3) := by decide +kernel
theorem dX6_checkGiven_5 : decode cX6_checkGiven 5 = .ok (.iload_n 0, 1) := by decide +kernel
theorem dX6_checkGiven_6 : decode cX6_checkGiven 6 = .ok (.sipush 200, 3) := by decide +kernel
theorem dX6_checkGiven_9 : decode cX6_checkGiven 9 = .ok (.if_icmp .le 13, 3) := by decide +kernel
theorem dX6_checkGiven_12 : decode cX6_checkGiven 12 = .ok (.new 52, 3) := by decide +kernel
theorem dX6_checkGiven_15 : decode cX6_checkGiven 15 = .ok (.dup, 1) := by decide +kernel
theorem dX6_checkGiven_16 : decode cX6_checkGiven 16 = .ok (.ldc 54, 2) := by decide +kernel
theorem dX6_checkGiven_18 : decode cX6_checkGiven 18 = .ok (.invokespecial 56, 3) := by decide +kernel
theorem dX6_checkGiven_21 : decode cX6_checkGiven 21 = .ok (.athrow, 1) := by decide +kernel
theorem dX6_checkGiven_22 : decode cX6_checkGiven 22 = .ok (.return_, 1) := by decide +kernel
theorem dX6_checkBoxes_0 : decode cX6_checkBoxes 0 = .ok (.aload_n 0, 1) := by decide +kernel
theorem dX6_checkBoxes_1 : decode cX6_checkBoxes 1 = .ok (.getfield 10, 3) := by decide +kernel
theorem dX6_checkBoxes_4 : decode cX6_checkBoxes 4 = .ok (.getfield 76, 3) := by decide +kernel
theorem dX6_checkBoxes_7 : decode cX6_checkBoxes 7 = .ok (.iload_n 1, 1) := by decide +kernel
theorem dX6_checkBoxes_8 : decode cX6_checkBoxes 8 = .ok (.aaload, 1) := by decide +kernel
theorem dX6_checkBoxes_9 : decode cX6_checkBoxes 9 = .ok (.getfield 80, 3) := by decide +kernel
theorem dX6_checkBoxes_12 : decode cX6_checkBoxes 12 = .ok (.iload_n 3, 1) := by decide +kernel
theorem dX6_checkBoxes_13 : decode cX6_checkBoxes 13 = .ok (.if_icmp .ge 14, 3) := by decide +kernel
theorem dX6_checkBoxes_16 : decode cX6_checkBoxes 16 = .ok (.new 63, 3) := by decide +kernel
theorem dX6_checkBoxes_19 : decode cX6_checkBoxes 19 = .ok (.dup, 1) := by decide +kernel
theorem dX6_checkBoxes_20 : decode cX6_checkBoxes 20 = .ok (.ldc_w 368, 3) := by decide +kernel
theorem dX6_checkBoxes_23 : decode cX6_checkBoxes 23 = .ok (.invokespecial 67, 3) := by decide +kernel
theorem dX6_checkBoxes_26 : decode cX6_checkBoxes 26 = .ok (.athrow, 1) := by decide +kernel
theorem dX6_checkBoxes_27 : decode cX6_checkBoxes 27 = .ok (.aload_n 0, 1) := by decide +kernel
theorem dX6_checkBoxes_28 : decode cX6_checkBoxes 28 = .ok (.getfield 10, 3) := by decide +kernel
theorem dX6_checkBoxes_31 : decode cX6_checkBoxes 31 = .ok (.getfield 76, 3) := by decide +kernel
theorem dX6_checkBoxes_34 : decode cX6_checkBoxes 34 = .ok (.iload_n 2, 1) := by decide +kernel
theorem dX6_checkBoxes_35 : decode cX6_checkBoxes 35 = .ok (.aaload, 1) := by decide +kernel
theorem dX6_checkBoxes_36 : decode cX6_checkBoxes 36 = .ok (.getfield 80, 3) := by decide +kernel
theorem dX6_checkBoxes_39 : decode cX6_checkBoxes 39 = .ok (.iload_n 3, 1) := by decide +kernel
theorem dX6_checkBoxes_40 : decode cX6_checkBoxes 40 = .ok (.iadd, 1) := by decide +kernel
theorem dX6_checkBoxes_41 : decode cX6_checkBoxes 41 = .ok (.aload_n 0, 1) := by decide +kernel
theorem dX6_checkBoxes_42 : decode cX6_checkBoxes 42 = .ok (.getfield 10, 3) := by decide +kernel
theorem dX6_checkBoxes_45 : decode cX6_checkBoxes 45 = .ok (.getfield 68, 3) := by decide +kernel
theorem dX6_checkBoxes_48 : decode cX6_checkBoxes 48 = .ok (.iconst 2, 1) := by decide +kernel
theorem dX6_checkBoxes_49 : decode cX6_checkBoxes 49 = .ok (.iaload, 1) := by decide +kernel
theorem dX6_checkBoxes_50 : decode cX6_checkBoxes 50 = .ok (.if_icmp .le 14, 3) := by decide +kernel
theorem dX6_checkBoxes_53 : decode cX6_checkBoxes 53 = .ok (.new 63, 3) := by decide +kernel
theorem dX6_checkBoxes_56 : decode cX6_checkBoxes 56 = .ok (.dup, 1) := by decide +kernel
theorem dX6_checkBoxes_57 : decode cX6_checkBoxes 57 = .ok (.ldc_w 370, 3) := by decide +kernel
theorem dX6_checkBoxes_60 : decode cX6_checkBoxes 60 = .ok (.invokespecial 67, 3) := by decide +kernel
theorem dX6_checkBoxes_63 : decode cX6_checkBoxes 63 = .ok (.athrow, 1) := by decide +kernel
theorem dX6_checkBoxes_64 : decode cX6_checkBoxes 64 = .ok (.return_, 1) := by decide +kernel
theorem dX6_isPlace_0 : decode cX6_isPlace 0 = .ok (.iload_n 0, 1) := by decide +kernel
theorem dX6_isPlace_1 : decode cX6_isPlace 1 = .ok (.bipush 10, 2) := by decide +kernel
theorem dX6_isPlace_3 : decode cX6_isPlace 3 = .ok (.if_icmp .lt 13, 3) := by decide +kernel
theorem dX6_isPlace_6 : decode cX6_isPlace 6 = .ok (.iload_n 0, 1) := by decide +kernel
theorem dX6_isPlace_7 : decode cX6_isPlace 7 = .ok (.bipush 16, 2) := by decide +kernel
theorem dX6_isPlace_9 : decode cX6_isPlace 9 = .ok (.if_icmp .ge 7, 3) := by decide +kernel
theorem dX6_isPlace_12 : decode cX6_isPlace 12 = .ok (.iconst 1, 1) := by decide +kernel
theorem dX6_isPlace_13 : decode cX6_isPlace 13 = .ok (.goto 4, 3) := by decide +kernel
theorem dX6_isPlace_16 : decode cX6_isPlace 16 = .ok (.iconst 0, 1) := by decide +kernel
theorem dX6_isPlace_17 : decode cX6_isPlace 17 = .ok (.ireturn, 1) := by decide +kernel
theorem dX6_saveState_0 : decode cX6_saveState 0 = .ok (.aload_n 0, 1) := by decide +kernel
theorem dX6_saveState_1 : decode cX6_saveState 1 = .ok (.getfield 208, 3) := by decide +kernel
theorem dX6_saveState_4 : decode cX6_saveState 4 = .ok (.bipush 6, 2) := by decide +kernel
theorem dX6_saveState_6 : decode cX6_saveState 6 = .ok (.if_icmp .lt 7, 3) := by decide +kernel
theorem dX6_saveState_9 : decode cX6_saveState 9 = .ok (.aload_n 0, 1) := by decide +kernel
theorem dX6_saveState_10 : decode cX6_saveState 10 = .ok (.invokevirtual 372, 3) := by decide +kernel
theorem dX6_saveState_13 : decode cX6_saveState 13 = .ok (.aload_n 0, 1) := by decide +kernel
theorem dX6_saveState_14 : decode cX6_saveState 14 = .ok (.getfield 16, 3) := by decide +kernel
theorem dX6_saveState_17 : decode cX6_saveState 17 = .ok (.aload_n 0, 1) := by decide +kernel
theorem dX6_saveState_18 : decode cX6_saveState 18 = .ok (.getfield 208, 3) := by decide +kernel
theorem dX6_saveState_21 : decode cX6_saveState 21 = .ok (.aaload, 1) := by decide +kernel
theorem dX6_saveState_22 : decode cX6_saveState 22 = .ok (.aload_n 0, 1) := by decide +kernel
theorem dX6_saveState_23 : decode cX6_saveState 23 = .ok (.getfield 10, 3) := by decide +kernel
theorem dX6_saveState_26 : decode cX6_saveState 26 = .ok (.invokevirtual 213, 3) := by decide +kernel
theorem dX6_saveState_29 : decode cX6_saveState 29 = .ok (.aload_n 0, 1) := by decide +kernel
theorem dX6_saveState_30 : decode cX6_saveState 30 = .ok (.dup, 1) := by decide +kernel
theorem dX6_saveState_31 : decode cX6_saveState 31 = .ok (.getfield 208, 3) := by decide +kernel
theorem dX6_saveState_34 : decode cX6_saveState 34 = .ok (.iconst 1, 1) := by decide +kernel
theorem dX6_saveState_35 : decode cX6_saveState 35 = .ok (.iadd, 1) := by decide +kernel
theorem dX6_saveState_36 : decode cX6_saveState 36 = .ok (.putfield 208, 3) := by decide +kernel
theorem dX6_saveState_39 : decode cX6_saveState 39 = .ok (.return_, 1) := by decide +kernel
theorem dX6_dropOldest_0 : decode cX6_dropOldest 0 = .ok (.aload_n 0, 1) := by decide +kernel
theorem dX6_dropOldest_1 : decode cX6_dropOldest 1 = .ok (.getfield 16, 3) := by decide +kernel
theorem dX6_dropOldest_4 : decode cX6_dropOldest 4 = .ok (.iconst 0, 1) := by decide +kernel
theorem dX6_dropOldest_5 : decode cX6_dropOldest 5 = .ok (.aaload, 1) := by decide +kernel
theorem dX6_dropOldest_6 : decode cX6_dropOldest 6 = .ok (.astore_n 1, 1) := by decide +kernel
theorem dX6_dropOldest_7 : decode cX6_dropOldest 7 = .ok (.iconst 1, 1) := by decide +kernel
theorem dX6_dropOldest_8 : decode cX6_dropOldest 8 = .ok (.istore_n 2, 1) := by decide +kernel
theorem dX6_dropOldest_9 : decode cX6_dropOldest 9 = .ok (.iload_n 2, 1) := by decide +kernel
theorem dX6_dropOldest_10 : decode cX6_dropOldest 10 = .ok (.bipush 6, 2) := by decide +kernel
theorem dX6_dropOldest_12 : decode cX6_dropOldest 12 = .ok (.if_icmp .ge 23, 3) := by decide +kernel
theorem dX6_dropOldest_15 : decode cX6_dropOldest 15 = .ok (.aload_n 0, 1) := by decide +kernel
theorem dX6_dropOldest_16 : decode cX6_dropOldest 16 = .ok (.getfield 16, 3) := by decide +kernel
theorem dX6_dropOldest_19 : decode cX6_dropOldest 19 = .ok (.iload_n 2, 1) := by decide +kernel
theorem dX6_dropOldest_20 : decode cX6_dropOldest 20 = .ok (.iconst 1, 1) := by decide +kernel
theorem dX6_dropOldest_21 : decode cX6_dropOldest 21 = .ok (.isub, 1) := by decide +kernel
theorem dX6_dropOldest_22 : decode cX6_dropOldest 22 = .ok (.aload_n 0, 1) := by decide +kernel
theorem dX6_dropOldest_23 : decode cX6_dropOldest 23 = .ok (.getfield 16, 3) := by decide +kernel
theorem dX6_dropOldest_26 : decode cX6_dropOldest 26 = .ok (.iload_n 2, 1) := by decide +kernel
theorem dX6_dropOldest_27 : decode cX6_dropOldest 27 = .ok (.aaload, 1) := by decide +kernel
theorem dX6_dropOldest_28 : decode cX6_dropOldest 28 = .ok (.aastore, 1) := by decide +kernel
theorem dX6_dropOldest_29 : decode cX6_dropOldest 29 = .ok (.iinc 2 1, 3) := by decide +kernel
theorem dX6_dropOldest_32 : decode cX6_dropOldest 32 = .ok (.goto (-23), 3) := by decide +kernel
theorem dX6_dropOldest_35 : decode cX6_dropOldest 35 = .ok (.aload_n 0, 1) := by decide +kernel
theorem dX6_dropOldest_36 : decode cX6_dropOldest 36 = .ok (.getfield 16, 3) := by decide +kernel
theorem dX6_dropOldest_39 : decode cX6_dropOldest 39 = .ok (.iconst 5, 1) := by decide +kernel
theorem dX6_dropOldest_40 : decode cX6_dropOldest 40 = .ok (.aload_n 1, 1) := by decide +kernel
theorem dX6_dropOldest_41 : decode cX6_dropOldest 41 = .ok (.aastore, 1) := by decide +kernel
theorem dX6_dropOldest_42 : decode cX6_dropOldest 42 = .ok (.aload_n 0, 1) := by decide +kernel
theorem dX6_dropOldest_43 : decode cX6_dropOldest 43 = .ok (.iconst 5, 1) := by decide +kernel
theorem dX6_dropOldest_44 : decode cX6_dropOldest 44 = .ok (.putfield 208, 3) := by decide +kernel
theorem dX6_dropOldest_47 : decode cX6_dropOldest 47 = .ok (.return_, 1) := by decide +kernel
theorem dX6_foresee_0 : decode cX6_foresee 0 = .ok (.aload_n 0, 1) := by decide +kernel
theorem dX6_foresee_1 : decode cX6_foresee 1 = .ok (.getfield 10, 3) := by decide +kernel
theorem dX6_foresee_4 : decode cX6_foresee 4 = .ok (.getfield 76, 3) := by decide +kernel
theorem dX6_foresee_7 : decode cX6_foresee 7 = .ok (.iload_n 1, 1) := by decide +kernel
theorem dX6_foresee_8 : decode cX6_foresee 8 = .ok (.aaload, 1) := by decide +kernel
theorem dX6_foresee_9 : decode cX6_foresee 9 = .ok (.astore_n 2, 1) := by decide +kernel
theorem dX6_foresee_10 : decode cX6_foresee 10 = .ok (.aload_n 0, 1) := by decide +kernel
theorem dX6_foresee_11 : decode cX6_foresee 11 = .ok (.getfield 30, 3) := by decide +kernel
theorem dX6_foresee_14 : decode cX6_foresee 14 = .ok (.aload_n 2, 1) := by decide +kernel
theorem dX6_foresee_15 : decode cX6_foresee 15 = .ok (.aload_n 0, 1) := by decide +kernel
theorem dX6_foresee_16 : decode cX6_foresee 16 = .ok (.getfield 10, 3) := by decide +kernel
theorem dX6_foresee_19 : decode cX6_foresee 19 = .ok (.getfield 68, 3) := by decide +kernel
theorem dX6_foresee_22 : decode cX6_foresee 22 = .ok (.invokevirtual 272, 3) := by decide +kernel
theorem dX6_foresee_25 : decode cX6_foresee 25 = .ok (.aload_n 0, 1) := by decide +kernel
theorem dX6_foresee_26 : decode cX6_foresee 26 = .ok (.getfield 30, 3) := by decide +kernel
theorem dX6_foresee_29 : decode cX6_foresee 29 = .ok (.aload_n 2, 1) := by decide +kernel
theorem dX6_foresee_30 : decode cX6_foresee 30 = .ok (.getfield 207, 3) := by decide +kernel
theorem dX6_foresee_33 : decode cX6_foresee 33 = .ok (.invokevirtual 276, 3) := by decide +kernel
theorem dX6_foresee_36 : decode cX6_foresee 36 = .ok (.return_, 1) := by decide +kernel
theorem dX6_copyRow_0 : decode cX6_copyRow 0 = .ok (.aload_n 0, 1) := by decide +kernel
theorem dX6_copyRow_1 : decode cX6_copyRow 1 = .ok (.iconst 0, 1) := by decide +kernel
theorem dX6_copyRow_2 : decode cX6_copyRow 2 = .ok (.aload_n 1, 1) := by decide +kernel
theorem dX6_copyRow_3 : decode cX6_copyRow 3 = .ok (.iconst 0, 1) := by decide +kernel
theorem dX6_copyRow_4 : decode cX6_copyRow 4 = .ok (.aload_n 0, 1) := by decide +kernel
theorem dX6_copyRow_5 : decode cX6_copyRow 5 = .ok (.arraylength, 1) := by decide +kernel
theorem dX6_copyRow_6 : decode cX6_copyRow 6 = .ok (.aload_n 1, 1) := by decide +kernel
theorem dX6_copyRow_7 : decode cX6_copyRow 7 = .ok (.arraylength, 1) := by decide +kernel
theorem dX6_copyRow_8 : decode cX6_copyRow 8 = .ok (.invokestatic 375, 3) := by decide +kernel
theorem dX6_copyRow_11 : decode cX6_copyRow 11 = .ok (.invokestatic 380, 3) := by decide +kernel
theorem dX6_copyRow_14 : decode cX6_copyRow 14 = .ok (.return_, 1) := by decide +kernel
theorem dX6_sizeOf_0 : decode cX6_sizeOf 0 = .ok (.iconst 0, 1) := by decide +kernel
theorem dX6_sizeOf_1 : decode cX6_sizeOf 1 = .ok (.istore_n 1, 1) := by decide +kernel
theorem dX6_sizeOf_2 : decode cX6_sizeOf 2 = .ok (.aload_n 0, 1) := by decide +kernel
theorem dX6_sizeOf_3 : decode cX6_sizeOf 3 = .ok (.astore_n 2, 1) := by decide +kernel
theorem dX6_sizeOf_4 : decode cX6_sizeOf 4 = .ok (.aload_n 2, 1) := by decide +kernel
theorem dX6_sizeOf_5 : decode cX6_sizeOf 5 = .ok (.arraylength, 1) := by decide +kernel
theorem dX6_sizeOf_6 : decode cX6_sizeOf 6 = .ok (.istore_n 3, 1) := by decide +kernel
theorem dX6_sizeOf_7 : decode cX6_sizeOf 7 = .ok (.iconst 0, 1) := by decide +kernel
theorem dX6_sizeOf_8 : decode cX6_sizeOf 8 = .ok (.istore 4, 2) := by decide +kernel
theorem dX6_sizeOf_10 : decode cX6_sizeOf 10 = .ok (.iload 4, 2) := by decide +kernel
theorem dX6_sizeOf_12 : decode cX6_sizeOf 12 = .ok (.iload_n 3, 1) := by decide +kernel
theorem dX6_sizeOf_13 : decode cX6_sizeOf 13 = .ok (.if_icmp .ge 23, 3) := by decide +kernel
theorem dX6_sizeOf_16 : decode cX6_sizeOf 16 = .ok (.aload_n 2, 1) := by decide +kernel
theorem dX6_sizeOf_17 : decode cX6_sizeOf 17 = .ok (.iload 4, 2) := by decide +kernel
theorem dX6_sizeOf_19 : decode cX6_sizeOf 19 = .ok (.iaload, 1) := by decide +kernel
theorem dX6_sizeOf_20 : decode cX6_sizeOf 20 = .ok (.istore 5, 2) := by decide +kernel
theorem dX6_sizeOf_22 : decode cX6_sizeOf 22 = .ok (.iload_n 1, 1) := by decide +kernel
theorem dX6_sizeOf_23 : decode cX6_sizeOf 23 = .ok (.iload 5, 2) := by decide +kernel
theorem dX6_sizeOf_25 : decode cX6_sizeOf 25 = .ok (.invokestatic 386, 3) := by decide +kernel
theorem dX6_sizeOf_28 : decode cX6_sizeOf 28 = .ok (.iadd, 1) := by decide +kernel
theorem dX6_sizeOf_29 : decode cX6_sizeOf 29 = .ok (.istore_n 1, 1) := by decide +kernel
theorem dX6_sizeOf_30 : decode cX6_sizeOf 30 = .ok (.iinc 4 1, 3) := by decide +kernel
theorem dX6_sizeOf_33 : decode cX6_sizeOf 33 = .ok (.goto (-23), 3) := by decide +kernel
theorem dX6_sizeOf_36 : decode cX6_sizeOf 36 = .ok (.iload_n 1, 1) := by decide +kernel
theorem dX6_sizeOf_37 : decode cX6_sizeOf 37 = .ok (.ireturn, 1) := by decide +kernel
theorem dX6_sharedBy_0 : decode cX6_sharedBy 0 = .ok (.iconst 0, 1) := by decide +kernel
theorem dX6_sharedBy_1 : decode cX6_sharedBy 1 = .ok (.istore_n 2, 1) := by decide +kernel
theorem dX6_sharedBy_2 : decode cX6_sharedBy 2 = .ok (.iconst 0, 1) := by decide +kernel
theorem dX6_sharedBy_3 : decode cX6_sharedBy 3 = .ok (.istore_n 3, 1) := by decide +kernel
theorem dX6_sharedBy_4 : decode cX6_sharedBy 4 = .ok (.iload_n 3, 1) := by decide +kernel
theorem dX6_sharedBy_5 : decode cX6_sharedBy 5 = .ok (.bipush 24, 2) := by decide +kernel
theorem dX6_sharedBy_7 : decode cX6_sharedBy 7 = .ok (.if_icmp .ge 22, 3) := by decide +kernel
theorem dX6_sharedBy_10 : decode cX6_sharedBy 10 = .ok (.iload_n 2, 1) := by decide +kernel
theorem dX6_sharedBy_11 : decode cX6_sharedBy 11 = .ok (.aload_n 0, 1) := by decide +kernel
theorem dX6_sharedBy_12 : decode cX6_sharedBy 12 = .ok (.iload_n 3, 1) := by decide +kernel
theorem dX6_sharedBy_13 : decode cX6_sharedBy 13 = .ok (.iaload, 1) := by decide +kernel
theorem dX6_sharedBy_14 : decode cX6_sharedBy 14 = .ok (.aload_n 1, 1) := by decide +kernel
theorem dX6_sharedBy_15 : decode cX6_sharedBy 15 = .ok (.iload_n 3, 1) := by decide +kernel
theorem dX6_sharedBy_16 : decode cX6_sharedBy 16 = .ok (.iaload, 1) := by decide +kernel
theorem dX6_sharedBy_17 : decode cX6_sharedBy 17 = .ok (.iand, 1) := by decide +kernel
theorem dX6_sharedBy_18 : decode cX6_sharedBy 18 = .ok (.invokestatic 386, 3) := by decide +kernel
theorem dX6_sharedBy_21 : decode cX6_sharedBy 21 = .ok (.iadd, 1) := by decide +kernel
theorem dX6_sharedBy_22 : decode cX6_sharedBy 22 = .ok (.istore_n 2, 1) := by decide +kernel
theorem dX6_sharedBy_23 : decode cX6_sharedBy 23 = .ok (.iinc 3 1, 3) := by decide +kernel
theorem dX6_sharedBy_26 : decode cX6_sharedBy 26 = .ok (.goto (-22), 3) := by decide +kernel
theorem dX6_sharedBy_29 : decode cX6_sharedBy 29 = .ok (.iload_n 2, 1) := by decide +kernel
theorem dX6_sharedBy_30 : decode cX6_sharedBy 30 = .ok (.ireturn, 1) := by decide +kernel
theorem dX6_dullTeeth_0 : decode cX6_dullTeeth 0 = .ok (.iconst 0, 1) := by decide +kernel
theorem dX6_dullTeeth_1 : decode cX6_dullTeeth 1 = .ok (.istore_n 2, 1) := by decide +kernel
theorem dX6_dullTeeth_2 : decode cX6_dullTeeth 2 = .ok (.aload_n 0, 1) := by decide +kernel
theorem dX6_dullTeeth_3 : decode cX6_dullTeeth 3 = .ok (.astore_n 3, 1) := by decide +kernel
theorem dX6_dullTeeth_4 : decode cX6_dullTeeth 4 = .ok (.aload_n 3, 1) := by decide +kernel
theorem dX6_dullTeeth_5 : decode cX6_dullTeeth 5 = .ok (.arraylength, 1) := by decide +kernel
theorem dX6_dullTeeth_6 : decode cX6_dullTeeth 6 = .ok (.istore 4, 2) := by decide +kernel
theorem dX6_dullTeeth_8 : decode cX6_dullTeeth 8 = .ok (.iconst 0, 1) := by decide +kernel
theorem dX6_dullTeeth_9 : decode cX6_dullTeeth 9 = .ok (.istore 5, 2) := by decide +kernel
theorem dX6_dullTeeth_11 : decode cX6_dullTeeth 11 = .ok (.iload 5, 2) := by decide +kernel
theorem dX6_dullTeeth_13 : decode cX6_dullTeeth 13 = .ok (.iload 4, 2) := by decide +kernel
theorem dX6_dullTeeth_15 : decode cX6_dullTeeth 15 = .ok (.if_icmp .ge 24, 3) := by decide +kernel
theorem dX6_dullTeeth_18 : decode cX6_dullTeeth 18 = .ok (.aload_n 3, 1) := by decide +kernel
theorem dX6_dullTeeth_19 : decode cX6_dullTeeth 19 = .ok (.iload 5, 2) := by decide +kernel
theorem dX6_dullTeeth_21 : decode cX6_dullTeeth 21 = .ok (.iaload, 1) := by decide +kernel
theorem dX6_dullTeeth_22 : decode cX6_dullTeeth 22 = .ok (.istore 6, 2) := by decide +kernel
theorem dX6_dullTeeth_24 : decode cX6_dullTeeth 24 = .ok (.iload 6, 2) := by decide +kernel
theorem dX6_dullTeeth_26 : decode cX6_dullTeeth 26 = .ok (.iload_n 1, 1) := by decide +kernel
theorem dX6_dullTeeth_27 : decode cX6_dullTeeth 27 = .ok (.if_icmp .lt 6, 3) := by decide +kernel
theorem dX6_dullTeeth_30 : decode cX6_dullTeeth 30 = .ok (.iinc 2 1, 3) := by decide +kernel
theorem dX6_dullTeeth_33 : decode cX6_dullTeeth 33 = .ok (.iinc 5 1, 3) := by decide +kernel
theorem dX6_dullTeeth_36 : decode cX6_dullTeeth 36 = .ok (.goto (-25), 3) := by decide +kernel
theorem dX6_dullTeeth_39 : decode cX6_dullTeeth 39 = .ok (.iload_n 2, 1) := by decide +kernel
theorem dX6_dullTeeth_40 : decode cX6_dullTeeth 40 = .ok (.ireturn, 1) := by decide +kernel
theorem dX7_init_0 : decode cX7_init 0 = .ok (.aload_n 0, 1) := by decide +kernel
theorem dX7_init_1 : decode cX7_init 1 = .ok (.invokespecial 1, 3) := by decide +kernel
theorem dX7_init_4 : decode cX7_init 4 = .ok (.aload_n 0, 1) := by decide +kernel
theorem dX7_init_5 : decode cX7_init 5 = .ok (.sipush 3424, 3) := by decide +kernel
theorem dX7_init_8 : decode cX7_init 8 = .ok (.newarray .int, 2) := by decide +kernel
theorem dX7_init_10 : decode cX7_init 10 = .ok (.putfield 7, 3) := by decide +kernel
theorem dX7_init_13 : decode cX7_init 13 = .ok (.aload_n 0, 1) := by decide +kernel
theorem dX7_init_14 : decode cX7_init 14 = .ok (.bipush 60, 2) := by decide +kernel
theorem dX7_init_16 : decode cX7_init 16 = .ok (.newarray .int, 2) := by decide +kernel
theorem dX7_init_18 : decode cX7_init 18 = .ok (.putfield 13, 3) := by decide +kernel
theorem dX7_init_21 : decode cX7_init 21 = .ok (.aload_n 0, 1) := by decide +kernel
theorem dX7_init_22 : decode cX7_init 22 = .ok (.bipush 12, 2) := by decide +kernel
theorem dX7_init_24 : decode cX7_init 24 = .ok (.newarray .int, 2) := by decide +kernel
theorem dX7_init_26 : decode cX7_init 26 = .ok (.putfield 16, 3) := by decide +kernel
theorem dX7_init_29 : decode cX7_init 29 = .ok (.aload_n 0, 1) := by decide +kernel
theorem dX7_init_30 : decode cX7_init 30 = .ok (.bipush 24, 2) := by decide +kernel
theorem dX7_init_32 : decode cX7_init 32 = .ok (.newarray .int, 2) := by decide +kernel
theorem dX7_init_34 : decode cX7_init 34 = .ok (.putfield 19, 3) := by decide +kernel
theorem dX7_init_37 : decode cX7_init 37 = .ok (.aload_n 0, 1) := by decide +kernel
theorem dX7_init_38 : decode cX7_init 38 = .ok (.bipush 7, 2) := by decide +kernel
theorem dX7_init_40 : decode cX7_init 40 = .ok (.newarray .int, 2) := by decide +kernel
theorem dX7_init_42 : decode cX7_init 42 = .ok (.putfield 22, 3) := by decide +kernel
theorem dX7_init_45 : decode cX7_init 45 = .ok (.aload_n 0, 1) := by decide +kernel
theorem dX7_init_46 : decode cX7_init 46 = .ok (.bipush 24, 2) := by decide +kernel
theorem dX7_init_48 : decode cX7_init 48 = .ok (.newarray .int, 2) := by decide +kernel
theorem dX7_init_50 : decode cX7_init 50 = .ok (.putfield 25, 3) := by decide +kernel
theorem dX7_init_53 : decode cX7_init 53 = .ok (.aload_n 0, 1) := by decide +kernel
theorem dX7_init_54 : decode cX7_init 54 = .ok (.bipush 36, 2) := by decide +kernel
theorem dX7_init_56 : decode cX7_init 56 = .ok (.newarray .int, 2) := by decide +kernel
theorem dX7_init_58 : decode cX7_init 58 = .ok (.putfield 28, 3) := by decide +kernel
theorem dX7_init_61 : decode cX7_init 61 = .ok (.aload_n 0, 1) := by decide +kernel
theorem dX7_init_62 : decode cX7_init 62 = .ok (.bipush 6, 2) := by decide +kernel
theorem dX7_init_64 : decode cX7_init 64 = .ok (.newarray .int, 2) := by decide +kernel
theorem dX7_init_66 : decode cX7_init 66 = .ok (.putfield 31, 3) := by decide +kernel
theorem dX7_init_69 : decode cX7_init 69 = .ok (.aload_n 0, 1) := by decide +kernel
theorem dX7_init_70 : decode cX7_init 70 = .ok (.bipush 6, 2) := by decide +kernel
theorem dX7_init_72 : decode cX7_init 72 = .ok (.newarray .int, 2) := by decide +kernel
theorem dX7_init_74 : decode cX7_init 74 = .ok (.putfield 34, 3) := by decide +kernel
theorem dX7_init_77 : decode cX7_init 77 = .ok (.aload_n 0, 1) := by decide +kernel
theorem dX7_init_78 : decode cX7_init 78 = .ok (.getfield 7, 3) := by decide +kernel
theorem dX7_init_81 : decode cX7_init 81 = .ok (.sipush 420, 3) := by decide +kernel
theorem dX7_init_84 : decode cX7_init 84 = .ok (.iconst 2, 1) := by decide +kernel
theorem dX7_init_85 : decode cX7_init 85 = .ok (.iastore, 1) := by decide +kernel
theorem dX7_init_86 : decode cX7_init 86 = .ok (.aload_n 0, 1) := by decide +kernel
theorem dX7_init_87 : decode cX7_init 87 = .ok (.getfield 7, 3) := by decide +kernel
theorem dX7_init_90 : decode cX7_init 90 = .ok (.sipush 421, 3) := by decide +kernel
theorem dX7_init_93 : decode cX7_init 93 = .ok (.bipush 10, 2) := by decide +kernel
theorem dX7_init_95 : decode cX7_init 95 = .ok (.iastore, 1) := by decide +kernel
theorem dX7_init_96 : decode cX7_init 96 = .ok (.aload_n 0, 1) := by decide +kernel
theorem dX7_init_97 : decode cX7_init 97 = .ok (.getfield 7, 3) := by decide +kernel
theorem dX7_init_100 : decode cX7_init 100 = .ok (.sipush 422, 3) := by decide +kernel
theorem dX7_init_103 : decode cX7_init 103 = .ok (.sipush 200, 3) := by decide +kernel
theorem dX7_init_106 : decode cX7_init 106 = .ok (.iastore, 1) := by decide +kernel
theorem dX7_init_107 : decode cX7_init 107 = .ok (.return_, 1) := by decide +kernel
theorem dX7_thrown_0 : decode cX7_thrown 0 = .ok (.aload_n 0, 1) := by decide +kernel
theorem dX7_thrown_1 : decode cX7_thrown 1 = .ok (.getfield 37, 3) := by decide +kernel
theorem dX7_thrown_4 : decode cX7_thrown 4 = .ok (.ireturn, 1) := by decide +kernel
theorem dX7_in_0 : decode cX7_in 0 = .ok (.iload_n 0, 1) := by decide +kernel
theorem dX7_in_1 : decode cX7_in 1 = .ok (.iload_n 1, 1) := by decide +kernel
theorem dX7_in_2 : decode cX7_in 2 = .ok (.if_icmp .lt 12, 3) := by decide +kernel
theorem dX7_in_5 : decode cX7_in 5 = .ok (.iload_n 0, 1) := by decide +kernel
theorem dX7_in_6 : decode cX7_in 6 = .ok (.iload_n 2, 1) := by decide +kernel
theorem dX7_in_7 : decode cX7_in 7 = .ok (.if_icmp .gt 7, 3) := by decide +kernel
theorem dX7_in_10 : decode cX7_in 10 = .ok (.iconst 1, 1) := by decide +kernel
theorem dX7_in_11 : decode cX7_in 11 = .ok (.goto 4, 3) := by decide +kernel
theorem dX7_in_14 : decode cX7_in 14 = .ok (.iconst 0, 1) := by decide +kernel
theorem dX7_in_15 : decode cX7_in 15 = .ok (.ireturn, 1) := by decide +kernel
theorem dX7_has_0 : decode cX7_has 0 = .ok (.iload_n 0, 1) := by decide +kernel
theorem dX7_has_1 : decode cX7_has 1 = .ok (.iload_n 1, 1) := by decide +kernel
theorem dX7_has_2 : decode cX7_has 2 = .ok (.ishr, 1) := by decide +kernel
theorem dX7_has_3 : decode cX7_has 3 = .ok (.iconst 1, 1) := by decide +kernel
theorem dX7_has_4 : decode cX7_has 4 = .ok (.iand, 1) := by decide +kernel
theorem dX7_has_5 : decode cX7_has 5 = .ok (.iconst 1, 1) := by decide +kernel
theorem dX7_has_6 : decode cX7_has 6 = .ok (.if_icmp .ne 7, 3) := by decide +kernel
theorem dX7_has_9 : decode cX7_has 9 = .ok (.iconst 1, 1) := by decide +kernel
theorem dX7_has_10 : decode cX7_has 10 = .ok (.goto 4, 3) := by decide +kernel
theorem dX7_has_13 : decode cX7_has 13 = .ok (.iconst 0, 1) := by decide +kernel
theorem dX7_has_14 : decode cX7_has 14 = .ok (.ireturn, 1) := by decide +kernel
theorem dX7_bits_0 : decode cX7_bits 0 = .ok (.iconst 0, 1) := by decide +kernel
theorem dX7_bits_1 : decode cX7_bits 1 = .ok (.istore_n 1, 1) := by decide +kernel
theorem dX7_bits_2 : decode cX7_bits 2 = .ok (.iconst 0, 1) := by decide +kernel
theorem dX7_bits_3 : decode cX7_bits 3 = .ok (.istore_n 2, 1) := by decide +kernel
theorem dX7_bits_4 : decode cX7_bits 4 = .ok (.iload_n 2, 1) := by decide +kernel
theorem dX7_bits_5 : decode cX7_bits 5 = .ok (.bipush 12, 2) := by decide +kernel
theorem dX7_bits_7 : decode cX7_bits 7 = .ok (.if_icmp .ge 17, 3) := by decide +kernel
theorem dX7_bits_10 : decode cX7_bits 10 = .ok (.iload_n 1, 1) := by decide +kernel
theorem dX7_bits_11 : decode cX7_bits 11 = .ok (.iload_n 0, 1) := by decide +kernel
theorem dX7_bits_12 : decode cX7_bits 12 = .ok (.iload_n 2, 1) := by decide +kernel
theorem dX7_bits_13 : decode cX7_bits 13 = .ok (.ishr, 1) := by decide +kernel
theorem dX7_bits_14 : decode cX7_bits 14 = .ok (.iconst 1, 1) := by decide +kernel
theorem dX7_bits_15 : decode cX7_bits 15 = .ok (.iand, 1) := by decide +kernel
theorem dX7_bits_16 : decode cX7_bits 16 = .ok (.iadd, 1) := by decide +kernel
theorem dX7_bits_17 : decode cX7_bits 17 = .ok (.istore_n 1, 1) := by decide +kernel
theorem dX7_bits_18 : decode cX7_bits 18 = .ok (.iinc 2 1, 3) := by decide +kernel
theorem dX7_bits_21 : decode cX7_bits 21 = .ok (.goto (-17), 3) := by decide +kernel
theorem dX7_bits_24 : decode cX7_bits 24 = .ok (.iload_n 1, 1) := by decide +kernel
theorem dX7_bits_25 : decode cX7_bits 25 = .ok (.ireturn, 1) := by decide +kernel
theorem dX7_isTown_0 : decode cX7_isTown 0 = .ok (.iload_n 1, 1) := by decide +kernel
theorem dX7_isTown_1 : decode cX7_isTown 1 = .ok (.iconst 0, 1) := by decide +kernel
theorem dX7_isTown_2 : decode cX7_isTown 2 = .ok (.aload_n 0, 1) := by decide +kernel
theorem dX7_isTown_3 : decode cX7_isTown 3 = .ok (.getfield 7, 3) := by decide +kernel
theorem dX7_isTown_6 : decode cX7_isTown 6 = .ok (.sipush 423, 3) := by decide +kernel
theorem dX7_isTown_9 : decode cX7_isTown 9 = .ok (.iaload, 1) := by decide +kernel
theorem dX7_isTown_10 : decode cX7_isTown 10 = .ok (.iconst 1, 1) := by decide +kernel
theorem dX7_isTown_11 : decode cX7_isTown 11 = .ok (.isub, 1) := by decide +kernel
theorem dX7_isTown_12 : decode cX7_isTown 12 = .ok (.invokestatic 41, 3) := by decide +kernel
theorem dX7_isTown_15 : decode cX7_isTown 15 = .ok (.ireturn, 1) := by decide +kernel
theorem dX7_isPlace_0 : decode cX7_isPlace 0 = .ok (.aload_n 0, 1) := by decide +kernel
theorem dX7_isPlace_1 : decode cX7_isPlace 1 = .ok (.iload_n 1, 1) := by decide +kernel
theorem dX7_isPlace_2 : decode cX7_isPlace 2 = .ok (.invokevirtual 45, 3) := by decide +kernel
theorem dX7_isPlace_5 : decode cX7_isPlace 5 = .ok (.ifCond .eq 27, 3) := by decide +kernel
theorem dX7_isPlace_8 : decode cX7_isPlace 8 = .ok (.iload_n 2, 1) := by decide +kernel
theorem dX7_isPlace_9 : decode cX7_isPlace 9 = .ok (.iconst 0, 1) := by decide +kernel
theorem dX7_isPlace_10 : decode cX7_isPlace 10 = .ok (.bipush 23, 2) := by decide +kernel
theorem dX7_isPlace_12 : decode cX7_isPlace 12 = .ok (.invokestatic 41, 3) := by decide +kernel
theorem dX7_isPlace_15 : decode cX7_isPlace 15 = .ok (.ifCond .eq 17, 3) := by decide +kernel
theorem dX7_isPlace_18 : decode cX7_isPlace 18 = .ok (.iload_n 3, 1) := by decide +kernel
theorem dX7_isPlace_19 : decode cX7_isPlace 19 = .ok (.iconst 0, 1) := by decide +kernel
theorem dX7_isPlace_20 : decode cX7_isPlace 20 = .ok (.bipush 11, 2) := by decide +kernel
theorem dX7_isPlace_22 : decode cX7_isPlace 22 = .ok (.invokestatic 41, 3) := by decide +kernel
theorem dX7_isPlace_25 : decode cX7_isPlace 25 = .ok (.ifCond .eq 7, 3) := by decide +kernel
theorem dX7_isPlace_28 : decode cX7_isPlace 28 = .ok (.iconst 1, 1) := by decide +kernel
theorem dX7_isPlace_29 : decode cX7_isPlace 29 = .ok (.goto 4, 3) := by decide +kernel
theorem dX7_isPlace_32 : decode cX7_isPlace 32 = .ok (.iconst 0, 1) := by decide +kernel
theorem dX7_isPlace_33 : decode cX7_isPlace 33 = .ok (.ireturn, 1) := by decide +kernel
theorem dX7_copy_0 : decode cX7_copy 0 = .ok (.iconst 0, 1) := by decide +kernel
theorem dX7_copy_1 : decode cX7_copy 1 = .ok (.istore_n 3, 1) := by decide +kernel
theorem dX7_copy_2 : decode cX7_copy 2 = .ok (.iload_n 3, 1) := by decide +kernel
theorem dX7_copy_3 : decode cX7_copy 3 = .ok (.sipush 428, 3) := by decide +kernel
theorem dX7_copy_6 : decode cX7_copy 6 = .ok (.if_icmp .ge 25, 3) := by decide +kernel
theorem dX7_copy_9 : decode cX7_copy 9 = .ok (.aload_n 0, 1) := by decide +kernel
theorem dX7_copy_10 : decode cX7_copy 10 = .ok (.getfield 7, 3) := by decide +kernel
theorem dX7_copy_13 : decode cX7_copy 13 = .ok (.iload_n 2, 1) := by decide +kernel
theorem dX7_copy_14 : decode cX7_copy 14 = .ok (.iload_n 3, 1) := by decide +kernel
theorem dX7_copy_15 : decode cX7_copy 15 = .ok (.iadd, 1) := by decide +kernel
theorem dX7_copy_16 : decode cX7_copy 16 = .ok (.aload_n 0, 1) := by decide +kernel
theorem dX7_copy_17 : decode cX7_copy 17 = .ok (.getfield 7, 3) := by decide +kernel
theorem dX7_copy_20 : decode cX7_copy 20 = .ok (.iload_n 1, 1) := by decide +kernel
theorem dX7_copy_21 : decode cX7_copy 21 = .ok (.iload_n 3, 1) := by decide +kernel
theorem dX7_copy_22 : decode cX7_copy 22 = .ok (.iadd, 1) := by decide +kernel
theorem dX7_copy_23 : decode cX7_copy 23 = .ok (.iaload, 1) := by decide +kernel
theorem dX7_copy_24 : decode cX7_copy 24 = .ok (.iastore, 1) := by decide +kernel
theorem dX7_copy_25 : decode cX7_copy 25 = .ok (.iinc 3 1, 3) := by decide +kernel
theorem dX7_copy_28 : decode cX7_copy 28 = .ok (.goto (-26), 3) := by decide +kernel
theorem dX7_copy_31 : decode cX7_copy 31 = .ok (.return_, 1) := by decide +kernel
theorem dX7_keep_0 : decode cX7_keep 0 = .ok (.aload_n 0, 1) := by decide +kernel
theorem dX7_keep_1 : decode cX7_keep 1 = .ok (.getfield 49, 3) := by decide +kernel
theorem dX7_keep_4 : decode cX7_keep 4 = .ok (.bipush 6, 2) := by decide +kernel
theorem dX7_keep_6 : decode cX7_keep 6 = .ok (.if_icmp .ne 45, 3) := by decide +kernel
theorem dX7_keep_9 : decode cX7_keep 9 = .ok (.iconst 1, 1) := by decide +kernel
theorem dX7_keep_10 : decode cX7_keep 10 = .ok (.istore_n 1, 1) := by decide +kernel
theorem dX7_keep_11 : decode cX7_keep 11 = .ok (.iload_n 1, 1) := by decide +kernel
theorem dX7_keep_12 : decode cX7_keep 12 = .ok (.bipush 6, 2) := by decide +kernel
theorem dX7_keep_14 : decode cX7_keep 14 = .ok (.if_icmp .ge 27, 3) := by decide +kernel
theorem dX7_keep_17 : decode cX7_keep 17 = .ok (.aload_n 0, 1) := by decide +kernel
theorem dX7_keep_18 : decode cX7_keep 18 = .ok (.sipush 428, 3) := by decide +kernel
theorem dX7_keep_21 : decode cX7_keep 21 = .ok (.sipush 428, 3) := by decide +kernel
theorem dX7_keep_24 : decode cX7_keep 24 = .ok (.iload_n 1, 1) := by decide +kernel
theorem dX7_keep_25 : decode cX7_keep 25 = .ok (.imul, 1) := by decide +kernel
theorem dX7_keep_26 : decode cX7_keep 26 = .ok (.iadd, 1) := by decide +kernel
theorem dX7_keep_27 : decode cX7_keep 27 = .ok (.sipush 428, 3) := by decide +kernel
theorem dX7_keep_30 : decode cX7_keep 30 = .ok (.iload_n 1, 1) := by decide +kernel
theorem dX7_keep_31 : decode cX7_keep 31 = .ok (.imul, 1) := by decide +kernel
theorem dX7_keep_32 : decode cX7_keep 32 = .ok (.invokevirtual 52, 3) := by decide +kernel
theorem dX7_keep_35 : decode cX7_keep 35 = .ok (.iinc 1 1, 3) := by decide +kernel
theorem dX7_keep_38 : decode cX7_keep 38 = .ok (.goto (-27), 3) := by decide +kernel
theorem dX7_keep_41 : decode cX7_keep 41 = .ok (.aload_n 0, 1) := by decide +kernel
theorem dX7_keep_42 : decode cX7_keep 42 = .ok (.dup, 1) := by decide +kernel
theorem dX7_keep_43 : decode cX7_keep 43 = .ok (.getfield 49, 3) := by decide +kernel
theorem dX7_keep_46 : decode cX7_keep 46 = .ok (.iconst 1, 1) := by decide +kernel
theorem dX7_keep_47 : decode cX7_keep 47 = .ok (.isub, 1) := by decide +kernel
theorem dX7_keep_48 : decode cX7_keep 48 = .ok (.putfield 49, 3) := by decide +kernel
theorem dX7_keep_51 : decode cX7_keep 51 = .ok (.aload_n 0, 1) := by decide +kernel
theorem dX7_keep_52 : decode cX7_keep 52 = .ok (.iconst 0, 1) := by decide +kernel
theorem dX7_keep_53 : decode cX7_keep 53 = .ok (.sipush 428, 3) := by decide +kernel
theorem dX7_keep_56 : decode cX7_keep 56 = .ok (.sipush 428, 3) := by decide +kernel
theorem dX7_keep_59 : decode cX7_keep 59 = .ok (.aload_n 0, 1) := by decide +kernel
theorem dX7_keep_60 : decode cX7_keep 60 = .ok (.getfield 49, 3) := by decide +kernel
theorem dX7_keep_63 : decode cX7_keep 63 = .ok (.imul, 1) := by decide +kernel
theorem dX7_keep_64 : decode cX7_keep 64 = .ok (.iadd, 1) := by decide +kernel
theorem dX7_keep_65 : decode cX7_keep 65 = .ok (.invokevirtual 52, 3) := by decide +kernel
theorem dX7_keep_68 : decode cX7_keep 68 = .ok (.aload_n 0, 1) := by decide +kernel
theorem dX7_keep_69 : decode cX7_keep 69 = .ok (.dup, 1) := by decide +kernel
theorem dX7_keep_70 : decode cX7_keep 70 = .ok (.getfield 49, 3) := by decide +kernel
theorem dX7_keep_73 : decode cX7_keep 73 = .ok (.iconst 1, 1) := by decide +kernel
theorem dX7_keep_74 : decode cX7_keep 74 = .ok (.iadd, 1) := by decide +kernel
theorem dX7_keep_75 : decode cX7_keep 75 = .ok (.putfield 49, 3) := by decide +kernel
theorem dX7_keep_78 : decode cX7_keep 78 = .ok (.return_, 1) := by decide +kernel
theorem dX7_undo_0 : decode cX7_undo 0 = .ok (.aload_n 0, 1) := by decide +kernel
theorem dX7_undo_1 : decode cX7_undo 1 = .ok (.aload_n 0, 1) := by decide +kernel
theorem dX7_undo_2 : decode cX7_undo 2 = .ok (.getfield 49, 3) := by decide +kernel
theorem dX7_undo_5 : decode cX7_undo 5 = .ok (.ifCond .ne 7, 3) := by decide +kernel
theorem dX7_undo_8 : decode cX7_undo 8 = .ok (.iconst 1, 1) := by decide +kernel
theorem dX7_undo_9 : decode cX7_undo 9 = .ok (.goto 4, 3) := by decide +kernel
theorem dX7_undo_12 : decode cX7_undo 12 = .ok (.iconst 0, 1) := by decide +kernel
theorem dX7_undo_13 : decode cX7_undo 13 = .ok (.putfield 37, 3) := by decide +kernel
theorem dX7_undo_16 : decode cX7_undo 16 = .ok (.aload_n 0, 1) := by decide +kernel
theorem dX7_undo_17 : decode cX7_undo 17 = .ok (.getfield 37, 3) := by decide +kernel
theorem dX7_undo_20 : decode cX7_undo 20 = .ok (.ifCond .eq 5, 3) := by decide +kernel
theorem dX7_undo_23 : decode cX7_undo 23 = .ok (.iconst 0, 1) := by decide +kernel
theorem dX7_undo_24 : decode cX7_undo 24 = .ok (.ireturn, 1) := by decide +kernel
theorem dX7_undo_25 : decode cX7_undo 25 = .ok (.aload_n 0, 1) := by decide +kernel
theorem dX7_undo_26 : decode cX7_undo 26 = .ok (.dup, 1) := by decide +kernel
theorem dX7_undo_27 : decode cX7_undo 27 = .ok (.getfield 49, 3) := by decide +kernel
theorem dX7_undo_30 : decode cX7_undo 30 = .ok (.iconst 1, 1) := by decide +kernel
theorem dX7_undo_31 : decode cX7_undo 31 = .ok (.isub, 1) := by decide +kernel
theorem dX7_undo_32 : decode cX7_undo 32 = .ok (.putfield 49, 3) := by decide +kernel
theorem dX7_undo_35 : decode cX7_undo 35 = .ok (.aload_n 0, 1) := by decide +kernel
theorem dX7_undo_36 : decode cX7_undo 36 = .ok (.sipush 428, 3) := by decide +kernel
theorem dX7_undo_39 : decode cX7_undo 39 = .ok (.sipush 428, 3) := by decide +kernel
theorem dX7_undo_42 : decode cX7_undo 42 = .ok (.aload_n 0, 1) := by decide +kernel
theorem dX7_undo_43 : decode cX7_undo 43 = .ok (.getfield 49, 3) := by decide +kernel
theorem dX7_undo_46 : decode cX7_undo 46 = .ok (.imul, 1) := by decide +kernel
theorem dX7_undo_47 : decode cX7_undo 47 = .ok (.iadd, 1) := by decide +kernel
theorem dX7_undo_48 : decode cX7_undo 48 = .ok (.iconst 0, 1) := by decide +kernel
theorem dX7_undo_49 : decode cX7_undo 49 = .ok (.invokevirtual 52, 3) := by decide +kernel
theorem dX7_undo_52 : decode cX7_undo 52 = .ok (.aload_n 0, 1) := by decide +kernel
theorem dX7_undo_53 : decode cX7_undo 53 = .ok (.getfield 49, 3) := by decide +kernel
theorem dX7_undo_56 : decode cX7_undo 56 = .ok (.ireturn, 1) := by decide +kernel
theorem dX7_at_0 : decode cX7_at 0 = .ok (.iload_n 0, 1) := by decide +kernel
theorem dX7_at_1 : decode cX7_at 1 = .ok (.bipush 24, 2) := by decide +kernel
theorem dX7_at_3 : decode cX7_at 3 = .ok (.iload_n 1, 1) := by decide +kernel
theorem dX7_at_4 : decode cX7_at 4 = .ok (.imul, 1) := by decide +kernel
theorem dX7_at_5 : decode cX7_at 5 = .ok (.iadd, 1) := by decide +kernel
theorem dX7_at_6 : decode cX7_at 6 = .ok (.iload_n 2, 1) := by decide +kernel
theorem dX7_at_7 : decode cX7_at 7 = .ok (.iadd, 1) := by decide +kernel
theorem dX7_at_8 : decode cX7_at 8 = .ok (.ireturn, 1) := by decide +kernel
theorem dX7_pinsOf_0 : decode cX7_pinsOf 0 = .ok (.iconst 0, 1) := by decide +kernel
theorem dX7_pinsOf_1 : decode cX7_pinsOf 1 = .ok (.istore_n 3, 1) := by decide +kernel
theorem dX7_pinsOf_2 : decode cX7_pinsOf 2 = .ok (.iconst 0, 1) := by decide +kernel
theorem dX7_pinsOf_3 : decode cX7_pinsOf 3 = .ok (.istore 4, 2) := by decide +kernel
theorem dX7_pinsOf_5 : decode cX7_pinsOf 5 = .ok (.iload 4, 2) := by decide +kernel
theorem dX7_pinsOf_7 : decode cX7_pinsOf 7 = .ok (.bipush 24, 2) := by decide +kernel
theorem dX7_pinsOf_9 : decode cX7_pinsOf 9 = .ok (.if_icmp .ge 27, 3) := by decide +kernel
theorem dX7_pinsOf_12 : decode cX7_pinsOf 12 = .ok (.iload_n 3, 1) := by decide +kernel
theorem dX7_pinsOf_13 : decode cX7_pinsOf 13 = .ok (.aload_n 0, 1) := by decide +kernel
theorem dX7_pinsOf_14 : decode cX7_pinsOf 14 = .ok (.getfield 7, 3) := by decide +kernel
theorem dX7_pinsOf_17 : decode cX7_pinsOf 17 = .ok (.iload_n 1, 1) := by decide +kernel
theorem dX7_pinsOf_18 : decode cX7_pinsOf 18 = .ok (.iload_n 2, 1) := by decide +kernel
theorem dX7_pinsOf_19 : decode cX7_pinsOf 19 = .ok (.iload 4, 2) := by decide +kernel
theorem dX7_pinsOf_21 : decode cX7_pinsOf 21 = .ok (.invokestatic 56, 3) := by decide +kernel
theorem dX7_pinsOf_24 : decode cX7_pinsOf 24 = .ok (.iaload, 1) := by decide +kernel
theorem dX7_pinsOf_25 : decode cX7_pinsOf 25 = .ok (.invokestatic 60, 3) := by decide +kernel
theorem dX7_pinsOf_28 : decode cX7_pinsOf 28 = .ok (.iadd, 1) := by decide +kernel
theorem dX7_pinsOf_29 : decode cX7_pinsOf 29 = .ok (.istore_n 3, 1) := by decide +kernel
theorem dX7_pinsOf_30 : decode cX7_pinsOf 30 = .ok (.iinc 4 1, 3) := by decide +kernel
theorem dX7_pinsOf_33 : decode cX7_pinsOf 33 = .ok (.goto (-28), 3) := by decide +kernel
theorem dX7_pinsOf_36 : decode cX7_pinsOf 36 = .ok (.iload_n 3, 1) := by decide +kernel
theorem dX7_pinsOf_37 : decode cX7_pinsOf 37 = .ok (.ireturn, 1) := by decide +kernel
theorem dX7_rightOf_0 : decode cX7_rightOf 0 = .ok (.iconst 0, 1) := by decide +kernel
theorem dX7_rightOf_1 : decode cX7_rightOf 1 = .ok (.istore 4, 2) := by decide +kernel
theorem dX7_rightOf_3 : decode cX7_rightOf 3 = .ok (.iconst 0, 1) := by decide +kernel
theorem dX7_rightOf_4 : decode cX7_rightOf 4 = .ok (.istore 5, 2) := by decide +kernel
theorem dX7_rightOf_6 : decode cX7_rightOf 6 = .ok (.iload 5, 2) := by decide +kernel
theorem dX7_rightOf_8 : decode cX7_rightOf 8 = .ok (.bipush 24, 2) := by decide +kernel
theorem dX7_rightOf_10 : decode cX7_rightOf 10 = .ok (.if_icmp .ge 50, 3) := by decide +kernel
theorem dX7_rightOf_13 : decode cX7_rightOf 13 = .ok (.iload 4, 2) := by decide +kernel
theorem dX7_rightOf_15 : decode cX7_rightOf 15 = .ok (.aload_n 0, 1) := by decide +kernel
theorem dX7_rightOf_16 : decode cX7_rightOf 16 = .ok (.getfield 7, 3) := by decide +kernel
theorem dX7_rightOf_19 : decode cX7_rightOf 19 = .ok (.bipush 6, 2) := by decide +kernel
theorem dX7_rightOf_21 : decode cX7_rightOf 21 = .ok (.iload_n 1, 1) := by decide +kernel
theorem dX7_rightOf_22 : decode cX7_rightOf 22 = .ok (.iload 5, 2) := by decide +kernel
theorem dX7_rightOf_24 : decode cX7_rightOf 24 = .ok (.invokestatic 56, 3) := by decide +kernel
theorem dX7_rightOf_27 : decode cX7_rightOf 27 = .ok (.iaload, 1) := by decide +kernel
theorem dX7_rightOf_28 : decode cX7_rightOf 28 = .ok (.aload_n 0, 1) := by decide +kernel
theorem dX7_rightOf_29 : decode cX7_rightOf 29 = .ok (.getfield 7, 3) := by decide +kernel
theorem dX7_rightOf_32 : decode cX7_rightOf 32 = .ok (.sipush 150, 3) := by decide +kernel
theorem dX7_rightOf_35 : decode cX7_rightOf 35 = .ok (.iload_n 2, 1) := by decide +kernel
theorem dX7_rightOf_36 : decode cX7_rightOf 36 = .ok (.iload 5, 2) := by decide +kernel
theorem dX7_rightOf_38 : decode cX7_rightOf 38 = .ok (.iload_n 3, 1) := by decide +kernel
theorem dX7_rightOf_39 : decode cX7_rightOf 39 = .ok (.iadd, 1) := by decide +kernel
theorem dX7_rightOf_40 : decode cX7_rightOf 40 = .ok (.bipush 24, 2) := by decide +kernel
theorem dX7_rightOf_42 : decode cX7_rightOf 42 = .ok (.irem, 1) := by decide +kernel
theorem dX7_rightOf_43 : decode cX7_rightOf 43 = .ok (.invokestatic 56, 3) := by decide +kernel
theorem dX7_rightOf_46 : decode cX7_rightOf 46 = .ok (.iaload, 1) := by decide +kernel
theorem dX7_rightOf_47 : decode cX7_rightOf 47 = .ok (.iand, 1) := by decide +kernel
theorem dX7_rightOf_48 : decode cX7_rightOf 48 = .ok (.invokestatic 60, 3) := by decide +kernel
theorem dX7_rightOf_51 : decode cX7_rightOf 51 = .ok (.iadd, 1) := by decide +kernel
theorem dX7_rightOf_52 : decode cX7_rightOf 52 = .ok (.istore 4, 2) := by decide +kernel
theorem dX7_rightOf_54 : decode cX7_rightOf 54 = .ok (.iinc 5 1, 3) := by decide +kernel
theorem dX7_rightOf_57 : decode cX7_rightOf 57 = .ok (.goto (-51), 3) := by decide +kernel
theorem dX7_rightOf_60 : decode cX7_rightOf 60 = .ok (.iload 4, 2) := by decide +kernel
theorem dX7_rightOf_62 : decode cX7_rightOf 62 = .ok (.ireturn, 1) := by decide +kernel
theorem dX7_addTown_0 : decode cX7_addTown 0 = .ok (.aload_n 0, 1) := by decide +kernel
theorem dX7_addTown_1 : decode cX7_addTown 1 = .ok (.iload_n 1, 1) := by decide +kernel
theorem dX7_addTown_2 : decode cX7_addTown 2 = .ok (.iconst 0, 1) := by decide +kernel
theorem dX7_addTown_3 : decode cX7_addTown 3 = .ok (.sipush 200, 3) := by decide +kernel
theorem dX7_addTown_6 : decode cX7_addTown 6 = .ok (.invokestatic 41, 3) := by decide +kernel
theorem dX7_addTown_9 : decode cX7_addTown 9 = .ok (.ifCond .ne 7, 3) := by decide +kernel
theorem dX7_addTown_12 : decode cX7_addTown 12 = .ok (.iconst 1, 1) := by decide +kernel
theorem dX7_addTown_13 : decode cX7_addTown 13 = .ok (.goto 33, 3) := by decide +kernel
theorem dX7_addTown_16 : decode cX7_addTown 16 = .ok (.aload_n 0, 1) := by decide +kernel
theorem dX7_addTown_17 : decode cX7_addTown 17 = .ok (.getfield 7, 3) := by decide +kernel
theorem dX7_addTown_20 : decode cX7_addTown 20 = .ok (.sipush 423, 3) := by decide +kernel
theorem dX7_addTown_23 : decode cX7_addTown 23 = .ok (.iaload, 1) := by decide +kernel
theorem dX7_addTown_24 : decode cX7_addTown 24 = .ok (.bipush 6, 2) := by decide +kernel
theorem dX7_addTown_26 : decode cX7_addTown 26 = .ok (.if_icmp .eq 15, 3) := by decide +kernel
theorem dX7_addTown_29 : decode cX7_addTown 29 = .ok (.iload_n 1, 1) := by decide +kernel
theorem dX7_addTown_30 : decode cX7_addTown 30 = .ok (.aload_n 0, 1) := by decide +kernel
theorem dX7_addTown_31 : decode cX7_addTown 31 = .ok (.getfield 7, 3) := by decide +kernel
theorem dX7_addTown_34 : decode cX7_addTown 34 = .ok (.sipush 422, 3) := by decide +kernel
theorem dX7_addTown_37 : decode cX7_addTown 37 = .ok (.iaload, 1) := by decide +kernel
theorem dX7_addTown_38 : decode cX7_addTown 38 = .ok (.if_icmp .le 7, 3) := by decide +kernel
theorem dX7_addTown_41 : decode cX7_addTown 41 = .ok (.iconst 2, 1) := by decide +kernel
theorem dX7_addTown_42 : decode cX7_addTown 42 = .ok (.goto 4, 3) := by decide +kernel
theorem dX7_addTown_45 : decode cX7_addTown 45 = .ok (.iconst 0, 1) := by decide +kernel
theorem dX7_addTown_46 : decode cX7_addTown 46 = .ok (.putfield 37, 3) := by decide +kernel
theorem dX7_addTown_49 : decode cX7_addTown 49 = .ok (.aload_n 0, 1) := by decide +kernel
theorem dX7_addTown_50 : decode cX7_addTown 50 = .ok (.getfield 37, 3) := by decide +kernel
theorem dX7_addTown_53 : decode cX7_addTown 53 = .ok (.ifCond .eq 5, 3) := by decide +kernel
theorem dX7_addTown_56 : decode cX7_addTown 56 = .ok (.iconst 0, 1) := by decide +kernel
theorem dX7_addTown_57 : decode cX7_addTown 57 = .ok (.ireturn, 1) := by decide +kernel
theorem dX7_addTown_58 : decode cX7_addTown 58 = .ok (.aload_n 0, 1) := by decide +kernel
theorem dX7_addTown_59 : decode cX7_addTown 59 = .ok (.invokevirtual 64, 3) := by decide +kernel
theorem dX7_addTown_62 : decode cX7_addTown 62 = .ok (.aload_n 0, 1) := by decide +kernel
theorem dX7_addTown_63 : decode cX7_addTown 63 = .ok (.getfield 7, 3) := by decide +kernel
theorem dX7_addTown_66 : decode cX7_addTown 66 = .ok (.iconst 0, 1) := by decide +kernel
theorem dX7_addTown_67 : decode cX7_addTown 67 = .ok (.aload_n 0, 1) := by decide +kernel
theorem dX7_addTown_68 : decode cX7_addTown 68 = .ok (.getfield 7, 3) := by decide +kernel
theorem dX7_addTown_71 : decode cX7_addTown 71 = .ok (.sipush 423, 3) := by decide +kernel
theorem dX7_addTown_74 : decode cX7_addTown 74 = .ok (.iaload, 1) := by decide +kernel
theorem dX7_addTown_75 : decode cX7_addTown 75 = .ok (.iadd, 1) := by decide +kernel
theorem dX7_addTown_76 : decode cX7_addTown 76 = .ok (.iload_n 1, 1) := by decide +kernel
theorem dX7_addTown_77 : decode cX7_addTown 77 = .ok (.iastore, 1) := by decide +kernel
theorem dX7_addTown_78 : decode cX7_addTown 78 = .ok (.aload_n 0, 1) := by decide +kernel
theorem dX7_addTown_79 : decode cX7_addTown 79 = .ok (.getfield 7, 3) := by decide +kernel
theorem dX7_addTown_82 : decode cX7_addTown 82 = .ok (.sipush 423, 3) := by decide +kernel
theorem dX7_addTown_85 : decode cX7_addTown 85 = .ok (.dup2, 1) := by decide +kernel
theorem dX7_addTown_86 : decode cX7_addTown 86 = .ok (.iaload, 1) := by decide +kernel
theorem dX7_addTown_87 : decode cX7_addTown 87 = .ok (.iconst 1, 1) := by decide +kernel
theorem dX7_addTown_88 : decode cX7_addTown 88 = .ok (.iadd, 1) := by decide +kernel
theorem dX7_addTown_89 : decode cX7_addTown 89 = .ok (.iastore, 1) := by decide +kernel
theorem dX7_addTown_90 : decode cX7_addTown 90 = .ok (.aload_n 0, 1) := by decide +kernel
theorem dX7_addTown_91 : decode cX7_addTown 91 = .ok (.getfield 7, 3) := by decide +kernel
theorem dX7_addTown_94 : decode cX7_addTown 94 = .ok (.sipush 423, 3) := by decide +kernel
theorem dX7_addTown_97 : decode cX7_addTown 97 = .ok (.iaload, 1) := by decide +kernel
theorem dX7_addTown_98 : decode cX7_addTown 98 = .ok (.iconst 1, 1) := by decide +kernel
theorem dX7_addTown_99 : decode cX7_addTown 99 = .ok (.isub, 1) := by decide +kernel
theorem dX7_addTown_100 : decode cX7_addTown 100 = .ok (.ireturn, 1) := by decide +kernel
theorem dX7_set_0 : decode cX7_set 0 = .ok (.iload_n 1, 1) := by decide +kernel
theorem dX7_set_1 : decode cX7_set 1 = .ok (.ifCond .ne 7, 3) := by decide +kernel
theorem dX7_set_4 : decode cX7_set 4 = .ok (.iconst 0, 1) := by decide +kernel
theorem dX7_set_5 : decode cX7_set 5 = .ok (.goto 4, 3) := by decide +kernel
theorem dX7_set_8 : decode cX7_set 8 = .ok (.iconst 1, 1) := by decide +kernel
theorem dX7_set_9 : decode cX7_set 9 = .ok (.istore_n 3, 1) := by decide +kernel
theorem dX7_set_10 : decode cX7_set 10 = .ok (.iload_n 1, 1) := by decide +kernel
theorem dX7_set_11 : decode cX7_set 11 = .ok (.ifCond .ne 8, 3) := by decide +kernel
theorem dX7_set_14 : decode cX7_set 14 = .ok (.bipush 24, 2) := by decide +kernel
theorem dX7_set_16 : decode cX7_set 16 = .ok (.goto 16, 3) := by decide +kernel
theorem dX7_set_19 : decode cX7_set 19 = .ok (.iload_n 1, 1) := by decide +kernel
theorem dX7_set_20 : decode cX7_set 20 = .ok (.iconst 1, 1) := by decide +kernel
theorem dX7_set_21 : decode cX7_set 21 = .ok (.if_icmp .ne 8, 3) := by decide +kernel
theorem dX7_set_24 : decode cX7_set 24 = .ok (.bipush 100, 2) := by decide +kernel
theorem dX7_set_26 : decode cX7_set 26 = .ok (.goto 6, 3) := by decide +kernel
theorem dX7_set_29 : decode cX7_set 29 = .ok (.sipush 999, 3) := by decide +kernel
theorem dX7_set_32 : decode cX7_set 32 = .ok (.istore 4, 2) := by decide +kernel
theorem dX7_set_34 : decode cX7_set 34 = .ok (.aload_n 0, 1) := by decide +kernel
theorem dX7_set_35 : decode cX7_set 35 = .ok (.iload_n 1, 1) := by decide +kernel
theorem dX7_set_36 : decode cX7_set 36 = .ok (.iconst 0, 1) := by decide +kernel
theorem dX7_set_37 : decode cX7_set 37 = .ok (.iconst 2, 1) := by decide +kernel
theorem dX7_set_38 : decode cX7_set 38 = .ok (.invokestatic 41, 3) := by decide +kernel
theorem dX7_set_41 : decode cX7_set 41 = .ok (.ifCond .ne 7, 3) := by decide +kernel
theorem dX7_set_44 : decode cX7_set 44 = .ok (.iconst 1, 1) := by decide +kernel
theorem dX7_set_45 : decode cX7_set 45 = .ok (.goto 18, 3) := by decide +kernel
theorem dX7_set_48 : decode cX7_set 48 = .ok (.iload_n 2, 1) := by decide +kernel
theorem dX7_set_49 : decode cX7_set 49 = .ok (.iload_n 3, 1) := by decide +kernel
theorem dX7_set_50 : decode cX7_set 50 = .ok (.iload 4, 2) := by decide +kernel
theorem dX7_set_52 : decode cX7_set 52 = .ok (.invokestatic 41, 3) := by decide +kernel
theorem dX7_set_55 : decode cX7_set 55 = .ok (.ifCond .ne 7, 3) := by decide +kernel
theorem dX7_set_58 : decode cX7_set 58 = .ok (.iconst 2, 1) := by decide +kernel
theorem dX7_set_59 : decode cX7_set 59 = .ok (.goto 4, 3) := by decide +kernel
theorem dX7_set_62 : decode cX7_set 62 = .ok (.iconst 0, 1) := by decide +kernel
theorem dX7_set_63 : decode cX7_set 63 = .ok (.putfield 37, 3) := by decide +kernel
theorem dX7_set_66 : decode cX7_set 66 = .ok (.aload_n 0, 1) := by decide +kernel
theorem dX7_set_67 : decode cX7_set 67 = .ok (.getfield 37, 3) := by decide +kernel
theorem dX7_set_70 : decode cX7_set 70 = .ok (.ifCond .eq 5, 3) := by decide +kernel
theorem dX7_set_73 : decode cX7_set 73 = .ok (.iconst 0, 1) := by decide +kernel
theorem dX7_set_74 : decode cX7_set 74 = .ok (.ireturn, 1) := by decide +kernel
theorem dX7_set_75 : decode cX7_set 75 = .ok (.aload_n 0, 1) := by decide +kernel
theorem dX7_set_76 : decode cX7_set 76 = .ok (.invokevirtual 64, 3) := by decide +kernel
theorem dX7_set_79 : decode cX7_set 79 = .ok (.aload_n 0, 1) := by decide +kernel
theorem dX7_set_80 : decode cX7_set 80 = .ok (.getfield 7, 3) := by decide +kernel
theorem dX7_set_83 : decode cX7_set 83 = .ok (.sipush 420, 3) := by decide +kernel
theorem dX7_set_86 : decode cX7_set 86 = .ok (.iload_n 1, 1) := by decide +kernel
theorem dX7_set_87 : decode cX7_set 87 = .ok (.iadd, 1) := by decide +kernel
theorem dX7_set_88 : decode cX7_set 88 = .ok (.iaload, 1) := by decide +kernel
theorem dX7_set_89 : decode cX7_set 89 = .ok (.istore 5, 2) := by decide +kernel
theorem dX7_set_91 : decode cX7_set 91 = .ok (.aload_n 0, 1) := by decide +kernel
theorem dX7_set_92 : decode cX7_set 92 = .ok (.getfield 7, 3) := by decide +kernel
theorem dX7_set_95 : decode cX7_set 95 = .ok (.sipush 420, 3) := by decide +kernel
theorem dX7_set_98 : decode cX7_set 98 = .ok (.iload_n 1, 1) := by decide +kernel
theorem dX7_set_99 : decode cX7_set 99 = .ok (.iadd, 1) := by decide +kernel
theorem dX7_set_100 : decode cX7_set 100 = .ok (.iload_n 2, 1) := by decide +kernel
theorem dX7_set_101 : decode cX7_set 101 = .ok (.iastore, 1) := by decide +kernel
theorem dX7_set_102 : decode cX7_set 102 = .ok (.iload 5, 2) := by decide +kernel
theorem dX7_set_104 : decode cX7_set 104 = .ok (.ireturn, 1) := by decide +kernel
theorem dX7_setting_0 : decode cX7_setting 0 = .ok (.aload_n 0, 1) := by decide +kernel
theorem dX7_setting_1 : decode cX7_setting 1 = .ok (.iload_n 1, 1) := by decide +kernel
theorem dX7_setting_2 : decode cX7_setting 2 = .ok (.iconst 0, 1) := by decide +kernel
theorem dX7_setting_3 : decode cX7_setting 3 = .ok (.iconst 2, 1) := by decide +kernel
theorem dX7_setting_4 : decode cX7_setting 4 = .ok (.invokestatic 41, 3) := by decide +kernel
theorem dX7_setting_7 : decode cX7_setting 7 = .ok (.ifCond .eq 7, 3) := by decide +kernel
theorem dX7_setting_10 : decode cX7_setting 10 = .ok (.iconst 0, 1) := by decide +kernel
theorem dX7_setting_11 : decode cX7_setting 11 = .ok (.goto 4, 3) := by decide +kernel
theorem dX7_setting_14 : decode cX7_setting 14 = .ok (.iconst 1, 1) := by decide +kernel
theorem dX7_setting_15 : decode cX7_setting 15 = .ok (.putfield 37, 3) := by decide +kernel
theorem dX7_setting_18 : decode cX7_setting 18 = .ok (.aload_n 0, 1) := by decide +kernel
theorem dX7_setting_19 : decode cX7_setting 19 = .ok (.getfield 37, 3) := by decide +kernel
theorem dX7_setting_22 : decode cX7_setting 22 = .ok (.ifCond .ne 16, 3) := by decide +kernel
theorem dX7_setting_25 : decode cX7_setting 25 = .ok (.aload_n 0, 1) := by decide +kernel
theorem dX7_setting_26 : decode cX7_setting 26 = .ok (.getfield 7, 3) := by decide +kernel
theorem dX7_setting_29 : decode cX7_setting 29 = .ok (.sipush 420, 3) := by decide +kernel
theorem dX7_setting_32 : decode cX7_setting 32 = .ok (.iload_n 1, 1) := by decide +kernel
theorem dX7_setting_33 : decode cX7_setting 33 = .ok (.iadd, 1) := by decide +kernel
theorem dX7_setting_34 : decode cX7_setting 34 = .ok (.iaload, 1) := by decide +kernel
theorem dX7_setting_35 : decode cX7_setting 35 = .ok (.goto 4, 3) := by decide +kernel
theorem dX7_setting_38 : decode cX7_setting 38 = .ok (.iconst 0, 1) := by decide +kernel
theorem dX7_setting_39 : decode cX7_setting 39 = .ok (.ireturn, 1) := by decide +kernel
theorem dX7_put_0 : decode cX7_put 0 = .ok (.aload_n 0, 1) := by decide +kernel
theorem dX7_put_1 : decode cX7_put 1 = .ok (.aload_n 0, 1) := by decide +kernel
theorem dX7_put_2 : decode cX7_put 2 = .ok (.iload_n 1, 1) := by decide +kernel
theorem dX7_put_3 : decode cX7_put 3 = .ok (.iload_n 2, 1) := by decide +kernel
theorem dX7_put_4 : decode cX7_put 4 = .ok (.iload_n 3, 1) := by decide +kernel
theorem dX7_put_5 : decode cX7_put 5 = .ok (.invokevirtual 67, 3) := by decide +kernel
theorem dX7_put_8 : decode cX7_put 8 = .ok (.ifCond .ne 7, 3) := by decide +kernel
theorem dX7_put_11 : decode cX7_put 11 = .ok (.iconst 1, 1) := by decide +kernel
theorem dX7_put_12 : decode cX7_put 12 = .ok (.goto 38, 3) := by decide +kernel
theorem dX7_put_15 : decode cX7_put 15 = .ok (.aload_n 0, 1) := by decide +kernel
theorem dX7_put_16 : decode cX7_put 16 = .ok (.getfield 7, 3) := by decide +kernel
theorem dX7_put_19 : decode cX7_put 19 = .ok (.bipush 6, 2) := by decide +kernel
theorem dX7_put_21 : decode cX7_put 21 = .ok (.iload_n 1, 1) := by decide +kernel
theorem dX7_put_22 : decode cX7_put 22 = .ok (.iload_n 2, 1) := by decide +kernel
theorem dX7_put_23 : decode cX7_put 23 = .ok (.invokestatic 56, 3) := by decide +kernel
theorem dX7_put_26 : decode cX7_put 26 = .ok (.iaload, 1) := by decide +kernel
theorem dX7_put_27 : decode cX7_put 27 = .ok (.iload_n 3, 1) := by decide +kernel
theorem dX7_put_28 : decode cX7_put 28 = .ok (.invokestatic 70, 3) := by decide +kernel
theorem dX7_put_31 : decode cX7_put 31 = .ok (.ifCond .ne 14, 3) := by decide +kernel
theorem dX7_put_34 : decode cX7_put 34 = .ok (.aload_n 0, 1) := by decide +kernel
theorem dX7_put_35 : decode cX7_put 35 = .ok (.getfield 7, 3) := by decide +kernel
theorem dX7_put_38 : decode cX7_put 38 = .ok (.iconst 0, 1) := by decide +kernel
theorem dX7_put_39 : decode cX7_put 39 = .ok (.iload_n 1, 1) := by decide +kernel
theorem dX7_put_40 : decode cX7_put 40 = .ok (.iadd, 1) := by decide +kernel
theorem dX7_put_41 : decode cX7_put 41 = .ok (.iaload, 1) := by decide +kernel
theorem dX7_put_42 : decode cX7_put 42 = .ok (.ifCond .ne 7, 3) := by decide +kernel
theorem dX7_put_45 : decode cX7_put 45 = .ok (.iconst 2, 1) := by decide +kernel
theorem dX7_put_46 : decode cX7_put 46 = .ok (.goto 4, 3) := by decide +kernel
theorem dX7_put_49 : decode cX7_put 49 = .ok (.iconst 0, 1) := by decide +kernel
theorem dX7_put_50 : decode cX7_put 50 = .ok (.putfield 37, 3) := by decide +kernel
theorem dX7_put_53 : decode cX7_put 53 = .ok (.aload_n 0, 1) := by decide +kernel
theorem dX7_put_54 : decode cX7_put 54 = .ok (.getfield 37, 3) := by decide +kernel
theorem dX7_put_57 : decode cX7_put 57 = .ok (.ifCond .eq 5, 3) := by decide +kernel
theorem dX7_put_60 : decode cX7_put 60 = .ok (.iconst 0, 1) := by decide +kernel
theorem dX7_put_61 : decode cX7_put 61 = .ok (.ireturn, 1) := by decide +kernel
theorem dX7_put_62 : decode cX7_put 62 = .ok (.aload_n 0, 1) := by decide +kernel
theorem dX7_put_63 : decode cX7_put 63 = .ok (.invokevirtual 64, 3) := by decide +kernel
theorem dX7_put_66 : decode cX7_put 66 = .ok (.aload_n 0, 1) := by decide +kernel
theorem dX7_put_67 : decode cX7_put 67 = .ok (.getfield 7, 3) := by decide +kernel
theorem dX7_put_70 : decode cX7_put 70 = .ok (.bipush 6, 2) := by decide +kernel
theorem dX7_put_72 : decode cX7_put 72 = .ok (.iload_n 1, 1) := by decide +kernel
theorem dX7_put_73 : decode cX7_put 73 = .ok (.iload_n 2, 1) := by decide +kernel
theorem dX7_put_74 : decode cX7_put 74 = .ok (.invokestatic 56, 3) := by decide +kernel
theorem dX7_put_77 : decode cX7_put 77 = .ok (.dup2, 1) := by decide +kernel
theorem dX7_put_78 : decode cX7_put 78 = .ok (.iaload, 1) := by decide +kernel
theorem dX7_put_79 : decode cX7_put 79 = .ok (.iconst 1, 1) := by decide +kernel
theorem dX7_put_80 : decode cX7_put 80 = .ok (.iload_n 3, 1) := by decide +kernel
theorem dX7_put_81 : decode cX7_put 81 = .ok (.ishl, 1) := by decide +kernel
theorem dX7_put_82 : decode cX7_put 82 = .ok (.ior, 1) := by decide +kernel
theorem dX7_put_83 : decode cX7_put 83 = .ok (.iastore, 1) := by decide +kernel
theorem dX7_put_84 : decode cX7_put 84 = .ok (.aload_n 0, 1) := by decide +kernel
theorem dX7_put_85 : decode cX7_put 85 = .ok (.getfield 7, 3) := by decide +kernel
theorem dX7_put_88 : decode cX7_put 88 = .ok (.iconst 0, 1) := by decide +kernel
theorem dX7_put_89 : decode cX7_put 89 = .ok (.iload_n 1, 1) := by decide +kernel
theorem dX7_put_90 : decode cX7_put 90 = .ok (.iadd, 1) := by decide +kernel
theorem dX7_put_91 : decode cX7_put 91 = .ok (.dup2, 1) := by decide +kernel
theorem dX7_put_92 : decode cX7_put 92 = .ok (.iaload, 1) := by decide +kernel
theorem dX7_put_93 : decode cX7_put 93 = .ok (.iconst 1, 1) := by decide +kernel
theorem dX7_put_94 : decode cX7_put 94 = .ok (.isub, 1) := by decide +kernel
theorem dX7_put_95 : decode cX7_put 95 = .ok (.iastore, 1) := by decide +kernel
theorem dX7_put_96 : decode cX7_put 96 = .ok (.aload_n 0, 1) := by decide +kernel
theorem dX7_put_97 : decode cX7_put 97 = .ok (.bipush 6, 2) := by decide +kernel
theorem dX7_put_99 : decode cX7_put 99 = .ok (.iload_n 1, 1) := by decide +kernel
theorem dX7_put_100 : decode cX7_put 100 = .ok (.invokevirtual 74, 3) := by decide +kernel
theorem dX7_put_103 : decode cX7_put 103 = .ok (.ireturn, 1) := by decide +kernel
theorem dX7_pull_0 : decode cX7_pull 0 = .ok (.aload_n 0, 1) := by decide +kernel
theorem dX7_pull_1 : decode cX7_pull 1 = .ok (.aload_n 0, 1) := by decide +kernel
theorem dX7_pull_2 : decode cX7_pull 2 = .ok (.iload_n 1, 1) := by decide +kernel
theorem dX7_pull_3 : decode cX7_pull 3 = .ok (.iload_n 2, 1) := by decide +kernel
theorem dX7_pull_4 : decode cX7_pull 4 = .ok (.iload_n 3, 1) := by decide +kernel
theorem dX7_pull_5 : decode cX7_pull 5 = .ok (.invokevirtual 67, 3) := by decide +kernel
theorem dX7_pull_8 : decode cX7_pull 8 = .ok (.ifCond .ne 7, 3) := by decide +kernel
theorem dX7_pull_11 : decode cX7_pull 11 = .ok (.iconst 1, 1) := by decide +kernel
theorem dX7_pull_12 : decode cX7_pull 12 = .ok (.goto 46, 3) := by decide +kernel
theorem dX7_pull_15 : decode cX7_pull 15 = .ok (.aload_n 0, 1) := by decide +kernel
theorem dX7_pull_16 : decode cX7_pull 16 = .ok (.getfield 7, 3) := by decide +kernel
theorem dX7_pull_19 : decode cX7_pull 19 = .ok (.bipush 6, 2) := by decide +kernel
theorem dX7_pull_21 : decode cX7_pull 21 = .ok (.iload_n 1, 1) := by decide +kernel
theorem dX7_pull_22 : decode cX7_pull 22 = .ok (.iload_n 2, 1) := by decide +kernel
theorem dX7_pull_23 : decode cX7_pull 23 = .ok (.invokestatic 56, 3) := by decide +kernel
theorem dX7_pull_26 : decode cX7_pull 26 = .ok (.iaload, 1) := by decide +kernel
theorem dX7_pull_27 : decode cX7_pull 27 = .ok (.iload_n 3, 1) := by decide +kernel
theorem dX7_pull_28 : decode cX7_pull 28 = .ok (.invokestatic 70, 3) := by decide +kernel
theorem dX7_pull_31 : decode cX7_pull 31 = .ok (.ifCond .eq 22, 3) := by decide +kernel
theorem dX7_pull_34 : decode cX7_pull 34 = .ok (.aload_n 0, 1) := by decide +kernel
theorem dX7_pull_35 : decode cX7_pull 35 = .ok (.getfield 7, 3) := by decide +kernel
theorem dX7_pull_38 : decode cX7_pull 38 = .ok (.iconst 0, 1) := by decide +kernel
theorem dX7_pull_39 : decode cX7_pull 39 = .ok (.iload_n 1, 1) := by decide +kernel
theorem dX7_pull_40 : decode cX7_pull 40 = .ok (.iadd, 1) := by decide +kernel
theorem dX7_pull_41 : decode cX7_pull 41 = .ok (.iaload, 1) := by decide +kernel
theorem dX7_pull_42 : decode cX7_pull 42 = .ok (.aload_n 0, 1) := by decide +kernel
theorem dX7_pull_43 : decode cX7_pull 43 = .ok (.getfield 7, 3) := by decide +kernel
theorem dX7_pull_46 : decode cX7_pull 46 = .ok (.sipush 422, 3) := by decide +kernel
theorem dX7_pull_49 : decode cX7_pull 49 = .ok (.iaload, 1) := by decide +kernel
theorem dX7_pull_50 : decode cX7_pull 50 = .ok (.if_icmp .lt 7, 3) := by decide +kernel
theorem dX7_pull_53 : decode cX7_pull 53 = .ok (.iconst 2, 1) := by decide +kernel
theorem dX7_pull_54 : decode cX7_pull 54 = .ok (.goto 4, 3) := by decide +kernel
theorem dX7_pull_57 : decode cX7_pull 57 = .ok (.iconst 0, 1) := by decide +kernel
theorem dX7_pull_58 : decode cX7_pull 58 = .ok (.putfield 37, 3) := by decide +kernel
theorem dX7_pull_61 : decode cX7_pull 61 = .ok (.aload_n 0, 1) := by decide +kernel
theorem dX7_pull_62 : decode cX7_pull 62 = .ok (.getfield 37, 3) := by decide +kernel
theorem dX7_pull_65 : decode cX7_pull 65 = .ok (.ifCond .eq 5, 3) := by decide +kernel
theorem dX7_pull_68 : decode cX7_pull 68 = .ok (.iconst 0, 1) := by decide +kernel
theorem dX7_pull_69 : decode cX7_pull 69 = .ok (.ireturn, 1) := by decide +kernel
theorem dX7_pull_70 : decode cX7_pull 70 = .ok (.aload_n 0, 1) := by decide +kernel
theorem dX7_pull_71 : decode cX7_pull 71 = .ok (.invokevirtual 64, 3) := by decide +kernel
theorem dX7_pull_74 : decode cX7_pull 74 = .ok (.aload_n 0, 1) := by decide +kernel
theorem dX7_pull_75 : decode cX7_pull 75 = .ok (.getfield 7, 3) := by decide +kernel
theorem dX7_pull_78 : decode cX7_pull 78 = .ok (.bipush 6, 2) := by decide +kernel
theorem dX7_pull_80 : decode cX7_pull 80 = .ok (.iload_n 1, 1) := by decide +kernel
theorem dX7_pull_81 : decode cX7_pull 81 = .ok (.iload_n 2, 1) := by decide +kernel
theorem dX7_pull_82 : decode cX7_pull 82 = .ok (.invokestatic 56, 3) := by decide +kernel
theorem dX7_pull_85 : decode cX7_pull 85 = .ok (.dup2, 1) := by decide +kernel
theorem dX7_pull_86 : decode cX7_pull 86 = .ok (.iaload, 1) := by decide +kernel
theorem dX7_pull_87 : decode cX7_pull 87 = .ok (.iconst 1, 1) := by decide +kernel
theorem dX7_pull_88 : decode cX7_pull 88 = .ok (.iload_n 3, 1) := by decide +kernel
theorem dX7_pull_89 : decode cX7_pull 89 = .ok (.ishl, 1) := by decide +kernel
theorem dX7_pull_90 : decode cX7_pull 90 = .ok (.iconst (-1), 1) := by decide +kernel
theorem dX7_pull_91 : decode cX7_pull 91 = .ok (.ixor, 1) := by decide +kernel
theorem dX7_pull_92 : decode cX7_pull 92 = .ok (.iand, 1) := by decide +kernel
theorem dX7_pull_93 : decode cX7_pull 93 = .ok (.iastore, 1) := by decide +kernel
theorem dX7_pull_94 : decode cX7_pull 94 = .ok (.aload_n 0, 1) := by decide +kernel
theorem dX7_pull_95 : decode cX7_pull 95 = .ok (.getfield 7, 3) := by decide +kernel
theorem dX7_pull_98 : decode cX7_pull 98 = .ok (.iconst 0, 1) := by decide +kernel
theorem dX7_pull_99 : decode cX7_pull 99 = .ok (.iload_n 1, 1) := by decide +kernel
theorem dX7_pull_100 : decode cX7_pull 100 = .ok (.iadd, 1) := by decide +kernel
theorem dX7_pull_101 : decode cX7_pull 101 = .ok (.dup2, 1) := by decide +kernel
theorem dX7_pull_102 : decode cX7_pull 102 = .ok (.iaload, 1) := by decide +kernel
theorem dX7_pull_103 : decode cX7_pull 103 = .ok (.iconst 1, 1) := by decide +kernel
theorem dX7_pull_104 : decode cX7_pull 104 = .ok (.iadd, 1) := by decide +kernel
theorem dX7_pull_105 : decode cX7_pull 105 = .ok (.iastore, 1) := by decide +kernel
theorem dX7_pull_106 : decode cX7_pull 106 = .ok (.aload_n 0, 1) := by decide +kernel
theorem dX7_pull_107 : decode cX7_pull 107 = .ok (.getfield 7, 3) := by decide +kernel
theorem dX7_pull_110 : decode cX7_pull 110 = .ok (.iconst 0, 1) := by decide +kernel
theorem dX7_pull_111 : decode cX7_pull 111 = .ok (.iload_n 1, 1) := by decide +kernel
theorem dX7_pull_112 : decode cX7_pull 112 = .ok (.iadd, 1) := by decide +kernel
theorem dX7_pull_113 : decode cX7_pull 113 = .ok (.iaload, 1) := by decide +kernel
theorem dX7_pull_114 : decode cX7_pull 114 = .ok (.ireturn, 1) := by decide +kernel
theorem dX7_move_0 : decode cX7_move 0 = .ok (.aload_n 0, 1) := by decide +kernel
theorem dX7_move_1 : decode cX7_move 1 = .ok (.aload_n 0, 1) := by decide +kernel
theorem dX7_move_2 : decode cX7_move 2 = .ok (.iload_n 1, 1) := by decide +kernel
theorem dX7_move_3 : decode cX7_move 3 = .ok (.invokevirtual 45, 3) := by decide +kernel
theorem dX7_move_6 : decode cX7_move 6 = .ok (.ifCond .eq 14, 3) := by decide +kernel
theorem dX7_move_9 : decode cX7_move 9 = .ok (.aload_n 0, 1) := by decide +kernel
theorem dX7_move_10 : decode cX7_move 10 = .ok (.iload_n 2, 1) := by decide +kernel
theorem dX7_move_11 : decode cX7_move 11 = .ok (.iload_n 3, 1) := by decide +kernel
theorem dX7_move_12 : decode cX7_move 12 = .ok (.iload 4, 2) := by decide +kernel
theorem dX7_move_14 : decode cX7_move 14 = .ok (.invokevirtual 67, 3) := by decide +kernel
theorem dX7_move_17 : decode cX7_move 17 = .ok (.ifCond .ne 7, 3) := by decide +kernel
theorem dX7_move_20 : decode cX7_move 20 = .ok (.iconst 1, 1) := by decide +kernel
theorem dX7_move_21 : decode cX7_move 21 = .ok (.goto 57, 3) := by decide +kernel
theorem dX7_move_24 : decode cX7_move 24 = .ok (.iload_n 1, 1) := by decide +kernel
theorem dX7_move_25 : decode cX7_move 25 = .ok (.iload_n 2, 1) := by decide +kernel
theorem dX7_move_26 : decode cX7_move 26 = .ok (.if_icmp .ne 7, 3) := by decide +kernel
theorem dX7_move_29 : decode cX7_move 29 = .ok (.iconst 2, 1) := by decide +kernel
theorem dX7_move_30 : decode cX7_move 30 = .ok (.goto 48, 3) := by decide +kernel
theorem dX7_move_33 : decode cX7_move 33 = .ok (.aload_n 0, 1) := by decide +kernel
theorem dX7_move_34 : decode cX7_move 34 = .ok (.getfield 7, 3) := by decide +kernel
theorem dX7_move_37 : decode cX7_move 37 = .ok (.bipush 6, 2) := by decide +kernel
theorem dX7_move_39 : decode cX7_move 39 = .ok (.iload_n 1, 1) := by decide +kernel
theorem dX7_move_40 : decode cX7_move 40 = .ok (.iload_n 3, 1) := by decide +kernel
theorem dX7_move_41 : decode cX7_move 41 = .ok (.invokestatic 56, 3) := by decide +kernel
theorem dX7_move_44 : decode cX7_move 44 = .ok (.iaload, 1) := by decide +kernel
theorem dX7_move_45 : decode cX7_move 45 = .ok (.iload 4, 2) := by decide +kernel
theorem dX7_move_47 : decode cX7_move 47 = .ok (.invokestatic 70, 3) := by decide +kernel
theorem dX7_move_50 : decode cX7_move 50 = .ok (.ifCond .eq 23, 3) := by decide +kernel
theorem dX7_move_53 : decode cX7_move 53 = .ok (.aload_n 0, 1) := by decide +kernel
theorem dX7_move_54 : decode cX7_move 54 = .ok (.getfield 7, 3) := by decide +kernel
theorem dX7_move_57 : decode cX7_move 57 = .ok (.bipush 6, 2) := by decide +kernel
theorem dX7_move_59 : decode cX7_move 59 = .ok (.iload_n 2, 1) := by decide +kernel
theorem dX7_move_60 : decode cX7_move 60 = .ok (.iload_n 3, 1) := by decide +kernel
theorem dX7_move_61 : decode cX7_move 61 = .ok (.invokestatic 56, 3) := by decide +kernel
theorem dX7_move_64 : decode cX7_move 64 = .ok (.iaload, 1) := by decide +kernel
theorem dX7_move_65 : decode cX7_move 65 = .ok (.iload 4, 2) := by decide +kernel
theorem dX7_move_67 : decode cX7_move 67 = .ok (.invokestatic 70, 3) := by decide +kernel
theorem dX7_move_70 : decode cX7_move 70 = .ok (.ifCond .eq 7, 3) := by decide +kernel
theorem dX7_move_73 : decode cX7_move 73 = .ok (.iconst 3, 1) := by decide +kernel
theorem dX7_move_74 : decode cX7_move 74 = .ok (.goto 4, 3) := by decide +kernel
theorem dX7_move_77 : decode cX7_move 77 = .ok (.iconst 0, 1) := by decide +kernel
theorem dX7_move_78 : decode cX7_move 78 = .ok (.putfield 37, 3) := by decide +kernel
theorem dX7_move_81 : decode cX7_move 81 = .ok (.aload_n 0, 1) := by decide +kernel
theorem dX7_move_82 : decode cX7_move 82 = .ok (.getfield 37, 3) := by decide +kernel
theorem dX7_move_85 : decode cX7_move 85 = .ok (.ifCond .eq 5, 3) := by decide +kernel
theorem dX7_move_88 : decode cX7_move 88 = .ok (.iconst 0, 1) := by decide +kernel
theorem dX7_move_89 : decode cX7_move 89 = .ok (.ireturn, 1) := by decide +kernel
theorem dX7_move_90 : decode cX7_move 90 = .ok (.aload_n 0, 1) := by decide +kernel
theorem dX7_move_91 : decode cX7_move 91 = .ok (.invokevirtual 64, 3) := by decide +kernel
theorem dX7_move_94 : decode cX7_move 94 = .ok (.aload_n 0, 1) := by decide +kernel
theorem dX7_move_95 : decode cX7_move 95 = .ok (.getfield 7, 3) := by decide +kernel
theorem dX7_move_98 : decode cX7_move 98 = .ok (.bipush 6, 2) := by decide +kernel
theorem dX7_move_100 : decode cX7_move 100 = .ok (.iload_n 1, 1) := by decide +kernel
theorem dX7_move_101 : decode cX7_move 101 = .ok (.iload_n 3, 1) := by decide +kernel
theorem dX7_move_102 : decode cX7_move 102 = .ok (.invokestatic 56, 3) := by decide +kernel
theorem dX7_move_105 : decode cX7_move 105 = .ok (.dup2, 1) := by decide +kernel
theorem dX7_move_106 : decode cX7_move 106 = .ok (.iaload, 1) := by decide +kernel
theorem dX7_move_107 : decode cX7_move 107 = .ok (.iconst 1, 1) := by decide +kernel
theorem dX7_move_108 : decode cX7_move 108 = .ok (.iload 4, 2) := by decide +kernel
theorem dX7_move_110 : decode cX7_move 110 = .ok (.ishl, 1) := by decide +kernel
theorem dX7_move_111 : decode cX7_move 111 = .ok (.ixor, 1) := by decide +kernel
theorem dX7_move_112 : decode cX7_move 112 = .ok (.iastore, 1) := by decide +kernel
theorem dX7_move_113 : decode cX7_move 113 = .ok (.aload_n 0, 1) := by decide +kernel
theorem dX7_move_114 : decode cX7_move 114 = .ok (.getfield 7, 3) := by decide +kernel
theorem dX7_move_117 : decode cX7_move 117 = .ok (.bipush 6, 2) := by decide +kernel
theorem dX7_move_119 : decode cX7_move 119 = .ok (.iload_n 2, 1) := by decide +kernel
theorem dX7_move_120 : decode cX7_move 120 = .ok (.iload_n 3, 1) := by decide +kernel
theorem dX7_move_121 : decode cX7_move 121 = .ok (.invokestatic 56, 3) := by decide +kernel
theorem dX7_move_124 : decode cX7_move 124 = .ok (.dup2, 1) := by decide +kernel
theorem dX7_move_125 : decode cX7_move 125 = .ok (.iaload, 1) := by decide +kernel
theorem dX7_move_126 : decode cX7_move 126 = .ok (.iconst 1, 1) := by decide +kernel
theorem dX7_move_127 : decode cX7_move 127 = .ok (.iload 4, 2) := by decide +kernel
theorem dX7_move_129 : decode cX7_move 129 = .ok (.ishl, 1) := by decide +kernel
theorem dX7_move_130 : decode cX7_move 130 = .ok (.ixor, 1) := by decide +kernel
theorem dX7_move_131 : decode cX7_move 131 = .ok (.iastore, 1) := by decide +kernel
theorem dX7_move_132 : decode cX7_move 132 = .ok (.aload_n 0, 1) := by decide +kernel
theorem dX7_move_133 : decode cX7_move 133 = .ok (.bipush 6, 2) := by decide +kernel
theorem dX7_move_135 : decode cX7_move 135 = .ok (.iload_n 2, 1) := by decide +kernel
theorem dX7_move_136 : decode cX7_move 136 = .ok (.invokevirtual 74, 3) := by decide +kernel
theorem dX7_move_139 : decode cX7_move 139 = .ok (.ireturn, 1) := by decide +kernel
theorem dX7_trade_0 : decode cX7_trade 0 = .ok (.aload_n 0, 1) := by decide +kernel
theorem dX7_trade_1 : decode cX7_trade 1 = .ok (.aload_n 0, 1) := by decide +kernel
theorem dX7_trade_2 : decode cX7_trade 2 = .ok (.iload_n 1, 1) := by decide +kernel
theorem dX7_trade_3 : decode cX7_trade 3 = .ok (.invokevirtual 45, 3) := by decide +kernel
theorem dX7_trade_6 : decode cX7_trade 6 = .ok (.ifCond .eq 11, 3) := by decide +kernel
theorem dX7_trade_9 : decode cX7_trade 9 = .ok (.aload_n 0, 1) := by decide +kernel
theorem dX7_trade_10 : decode cX7_trade 10 = .ok (.iload_n 2, 1) := by decide +kernel
theorem dX7_trade_11 : decode cX7_trade 11 = .ok (.invokevirtual 45, 3) := by decide +kernel
theorem dX7_trade_14 : decode cX7_trade 14 = .ok (.ifCond .ne 7, 3) := by decide +kernel
theorem dX7_trade_17 : decode cX7_trade 17 = .ok (.iconst 1, 1) := by decide +kernel
theorem dX7_trade_18 : decode cX7_trade 18 = .ok (.goto 13, 3) := by decide +kernel
theorem dX7_trade_21 : decode cX7_trade 21 = .ok (.iload_n 1, 1) := by decide +kernel
theorem dX7_trade_22 : decode cX7_trade 22 = .ok (.iload_n 2, 1) := by decide +kernel
theorem dX7_trade_23 : decode cX7_trade 23 = .ok (.if_icmp .ne 7, 3) := by decide +kernel
theorem dX7_trade_26 : decode cX7_trade 26 = .ok (.iconst 2, 1) := by decide +kernel
theorem dX7_trade_27 : decode cX7_trade 27 = .ok (.goto 4, 3) := by decide +kernel
theorem dX7_trade_30 : decode cX7_trade 30 = .ok (.iconst 0, 1) := by decide +kernel
theorem dX7_trade_31 : decode cX7_trade 31 = .ok (.putfield 37, 3) := by decide +kernel
theorem dX7_trade_34 : decode cX7_trade 34 = .ok (.aload_n 0, 1) := by decide +kernel
theorem dX7_trade_35 : decode cX7_trade 35 = .ok (.getfield 37, 3) := by decide +kernel
theorem dX7_trade_38 : decode cX7_trade 38 = .ok (.ifCond .eq 5, 3) := by decide +kernel
theorem dX7_trade_41 : decode cX7_trade 41 = .ok (.iconst 0, 1) := by decide +kernel
theorem dX7_trade_42 : decode cX7_trade 42 = .ok (.ireturn, 1) := by decide +kernel
theorem dX7_trade_43 : decode cX7_trade 43 = .ok (.aload_n 0, 1) := by decide +kernel
theorem dX7_trade_44 : decode cX7_trade 44 = .ok (.invokevirtual 64, 3) := by decide +kernel
theorem dX7_trade_47 : decode cX7_trade 47 = .ok (.iconst 0, 1) := by decide +kernel
theorem dX7_trade_48 : decode cX7_trade 48 = .ok (.istore_n 3, 1) := by decide +kernel
theorem dX7_trade_49 : decode cX7_trade 49 = .ok (.iload_n 3, 1) := by decide +kernel
theorem dX7_trade_50 : decode cX7_trade 50 = .ok (.bipush 24, 2) := by decide +kernel
theorem dX7_trade_52 : decode cX7_trade 52 = .ok (.if_icmp .ge 61, 3) := by decide +kernel
theorem dX7_trade_55 : decode cX7_trade 55 = .ok (.aload_n 0, 1) := by decide +kernel
theorem dX7_trade_56 : decode cX7_trade 56 = .ok (.getfield 7, 3) := by decide +kernel
theorem dX7_trade_59 : decode cX7_trade 59 = .ok (.bipush 6, 2) := by decide +kernel
theorem dX7_trade_61 : decode cX7_trade 61 = .ok (.iload_n 1, 1) := by decide +kernel
theorem dX7_trade_62 : decode cX7_trade 62 = .ok (.iload_n 3, 1) := by decide +kernel
theorem dX7_trade_63 : decode cX7_trade 63 = .ok (.invokestatic 56, 3) := by decide +kernel
theorem dX7_trade_66 : decode cX7_trade 66 = .ok (.iaload, 1) := by decide +kernel
theorem dX7_trade_67 : decode cX7_trade 67 = .ok (.istore 4, 2) := by decide +kernel
theorem dX7_trade_69 : decode cX7_trade 69 = .ok (.aload_n 0, 1) := by decide +kernel
theorem dX7_trade_70 : decode cX7_trade 70 = .ok (.getfield 7, 3) := by decide +kernel
theorem dX7_trade_73 : decode cX7_trade 73 = .ok (.bipush 6, 2) := by decide +kernel
theorem dX7_trade_75 : decode cX7_trade 75 = .ok (.iload_n 1, 1) := by decide +kernel
theorem dX7_trade_76 : decode cX7_trade 76 = .ok (.iload_n 3, 1) := by decide +kernel
theorem dX7_trade_77 : decode cX7_trade 77 = .ok (.invokestatic 56, 3) := by decide +kernel
theorem dX7_trade_80 : decode cX7_trade 80 = .ok (.aload_n 0, 1) := by decide +kernel
theorem dX7_trade_81 : decode cX7_trade 81 = .ok (.getfield 7, 3) := by decide +kernel
theorem dX7_trade_84 : decode cX7_trade 84 = .ok (.bipush 6, 2) := by decide +kernel
theorem dX7_trade_86 : decode cX7_trade 86 = .ok (.iload_n 2, 1) := by decide +kernel
theorem dX7_trade_87 : decode cX7_trade 87 = .ok (.iload_n 3, 1) := by decide +kernel
theorem dX7_trade_88 : decode cX7_trade 88 = .ok (.invokestatic 56, 3) := by decide +kernel
theorem dX7_trade_91 : decode cX7_trade 91 = .ok (.iaload, 1) := by decide +kernel
theorem dX7_trade_92 : decode cX7_trade 92 = .ok (.iastore, 1) := by decide +kernel
theorem dX7_trade_93 : decode cX7_trade 93 = .ok (.aload_n 0, 1) := by decide +kernel
theorem dX7_trade_94 : decode cX7_trade 94 = .ok (.getfield 7, 3) := by decide +kernel
theorem dX7_trade_97 : decode cX7_trade 97 = .ok (.bipush 6, 2) := by decide +kernel
theorem dX7_trade_99 : decode cX7_trade 99 = .ok (.iload_n 2, 1) := by decide +kernel
theorem dX7_trade_100 : decode cX7_trade 100 = .ok (.iload_n 3, 1) := by decide +kernel
theorem dX7_trade_101 : decode cX7_trade 101 = .ok (.invokestatic 56, 3) := by decide +kernel
theorem dX7_trade_104 : decode cX7_trade 104 = .ok (.iload 4, 2) := by decide +kernel
theorem dX7_trade_106 : decode cX7_trade 106 = .ok (.iastore, 1) := by decide +kernel
theorem dX7_trade_107 : decode cX7_trade 107 = .ok (.iinc 3 1, 3) := by decide +kernel
theorem dX7_trade_110 : decode cX7_trade 110 = .ok (.goto (-61), 3) := by decide +kernel
theorem dX7_trade_113 : decode cX7_trade 113 = .ok (.aload_n 0, 1) := by decide +kernel
theorem dX7_trade_114 : decode cX7_trade 114 = .ok (.iload_n 1, 1) := by decide +kernel
theorem dX7_trade_115 : decode cX7_trade 115 = .ok (.iload_n 1, 1) := by decide +kernel
theorem dX7_trade_116 : decode cX7_trade 116 = .ok (.iconst 0, 1) := by decide +kernel
theorem dX7_trade_117 : decode cX7_trade 117 = .ok (.invokevirtual 78, 3) := by decide +kernel
theorem dX7_trade_120 : decode cX7_trade 120 = .ok (.aload_n 0, 1) := by decide +kernel
theorem dX7_trade_121 : decode cX7_trade 121 = .ok (.iload_n 2, 1) := by decide +kernel
theorem dX7_trade_122 : decode cX7_trade 122 = .ok (.iload_n 2, 1) := by decide +kernel
theorem dX7_trade_123 : decode cX7_trade 123 = .ok (.iconst 0, 1) := by decide +kernel
theorem dX7_trade_124 : decode cX7_trade 124 = .ok (.invokevirtual 78, 3) := by decide +kernel
theorem dX7_trade_127 : decode cX7_trade 127 = .ok (.iadd, 1) := by decide +kernel
theorem dX7_trade_128 : decode cX7_trade 128 = .ok (.ireturn, 1) := by decide +kernel
theorem dX7_turn_0 : decode cX7_turn 0 = .ok (.aload_n 0, 1) := by decide +kernel
theorem dX7_turn_1 : decode cX7_turn 1 = .ok (.aload_n 0, 1) := by decide +kernel
theorem dX7_turn_2 : decode cX7_turn 2 = .ok (.iload_n 1, 1) := by decide +kernel
theorem dX7_turn_3 : decode cX7_turn 3 = .ok (.invokevirtual 45, 3) := by decide +kernel
theorem dX7_turn_6 : decode cX7_turn 6 = .ok (.ifCond .ne 7, 3) := by decide +kernel
theorem dX7_turn_9 : decode cX7_turn 9 = .ok (.iconst 1, 1) := by decide +kernel
theorem dX7_turn_10 : decode cX7_turn 10 = .ok (.goto 18, 3) := by decide +kernel
theorem dX7_turn_13 : decode cX7_turn 13 = .ok (.iload_n 2, 1) := by decide +kernel
theorem dX7_turn_14 : decode cX7_turn 14 = .ok (.iconst 0, 1) := by decide +kernel
theorem dX7_turn_15 : decode cX7_turn 15 = .ok (.bipush 23, 2) := by decide +kernel
theorem dX7_turn_17 : decode cX7_turn 17 = .ok (.invokestatic 41, 3) := by decide +kernel
theorem dX7_turn_20 : decode cX7_turn 20 = .ok (.ifCond .ne 7, 3) := by decide +kernel
theorem dX7_turn_23 : decode cX7_turn 23 = .ok (.iconst 2, 1) := by decide +kernel
theorem dX7_turn_24 : decode cX7_turn 24 = .ok (.goto 4, 3) := by decide +kernel
theorem dX7_turn_27 : decode cX7_turn 27 = .ok (.iconst 0, 1) := by decide +kernel
theorem dX7_turn_28 : decode cX7_turn 28 = .ok (.putfield 37, 3) := by decide +kernel
theorem dX7_turn_31 : decode cX7_turn 31 = .ok (.aload_n 0, 1) := by decide +kernel
theorem dX7_turn_32 : decode cX7_turn 32 = .ok (.getfield 37, 3) := by decide +kernel
theorem dX7_turn_35 : decode cX7_turn 35 = .ok (.ifCond .eq 5, 3) := by decide +kernel
theorem dX7_turn_38 : decode cX7_turn 38 = .ok (.iconst 0, 1) := by decide +kernel
theorem dX7_turn_39 : decode cX7_turn 39 = .ok (.ireturn, 1) := by decide +kernel
theorem dX7_turn_40 : decode cX7_turn 40 = .ok (.aload_n 0, 1) := by decide +kernel
theorem dX7_turn_41 : decode cX7_turn 41 = .ok (.invokevirtual 64, 3) := by decide +kernel
theorem dX7_turn_44 : decode cX7_turn 44 = .ok (.sipush 428, 3) := by decide +kernel
theorem dX7_turn_47 : decode cX7_turn 47 = .ok (.aload_n 0, 1) := by decide +kernel
theorem dX7_turn_48 : decode cX7_turn 48 = .ok (.getfield 49, 3) := by decide +kernel
theorem dX7_turn_51 : decode cX7_turn 51 = .ok (.imul, 1) := by decide +kernel
theorem dX7_turn_52 : decode cX7_turn 52 = .ok (.istore_n 3, 1) := by decide +kernel
theorem dX7_turn_53 : decode cX7_turn 53 = .ok (.iconst 0, 1) := by decide +kernel
theorem dX7_turn_54 : decode cX7_turn 54 = .ok (.istore 4, 2) := by decide +kernel
theorem dX7_turn_56 : decode cX7_turn 56 = .ok (.iload 4, 2) := by decide +kernel
theorem dX7_turn_58 : decode cX7_turn 58 = .ok (.bipush 24, 2) := by decide +kernel
theorem dX7_turn_60 : decode cX7_turn 60 = .ok (.if_icmp .ge 42, 3) := by decide +kernel
theorem dX7_turn_63 : decode cX7_turn 63 = .ok (.aload_n 0, 1) := by decide +kernel
theorem dX7_turn_64 : decode cX7_turn 64 = .ok (.getfield 7, 3) := by decide +kernel
theorem dX7_turn_67 : decode cX7_turn 67 = .ok (.bipush 6, 2) := by decide +kernel
theorem dX7_turn_69 : decode cX7_turn 69 = .ok (.iload_n 1, 1) := by decide +kernel
theorem dX7_turn_70 : decode cX7_turn 70 = .ok (.iload 4, 2) := by decide +kernel
theorem dX7_turn_72 : decode cX7_turn 72 = .ok (.iload_n 2, 1) := by decide +kernel
theorem dX7_turn_73 : decode cX7_turn 73 = .ok (.iadd, 1) := by decide +kernel
theorem dX7_turn_74 : decode cX7_turn 74 = .ok (.bipush 24, 2) := by decide +kernel
theorem dX7_turn_76 : decode cX7_turn 76 = .ok (.irem, 1) := by decide +kernel
theorem dX7_turn_77 : decode cX7_turn 77 = .ok (.invokestatic 56, 3) := by decide +kernel
theorem dX7_turn_80 : decode cX7_turn 80 = .ok (.aload_n 0, 1) := by decide +kernel
theorem dX7_turn_81 : decode cX7_turn 81 = .ok (.getfield 7, 3) := by decide +kernel
theorem dX7_turn_84 : decode cX7_turn 84 = .ok (.iload_n 3, 1) := by decide +kernel
theorem dX7_turn_85 : decode cX7_turn 85 = .ok (.bipush 6, 2) := by decide +kernel
theorem dX7_turn_87 : decode cX7_turn 87 = .ok (.iload_n 1, 1) := by decide +kernel
theorem dX7_turn_88 : decode cX7_turn 88 = .ok (.iload 4, 2) := by decide +kernel
theorem dX7_turn_90 : decode cX7_turn 90 = .ok (.invokestatic 56, 3) := by decide +kernel
theorem dX7_turn_93 : decode cX7_turn 93 = .ok (.iadd, 1) := by decide +kernel
theorem dX7_turn_94 : decode cX7_turn 94 = .ok (.iaload, 1) := by decide +kernel
theorem dX7_turn_95 : decode cX7_turn 95 = .ok (.iastore, 1) := by decide +kernel
theorem dX7_turn_96 : decode cX7_turn 96 = .ok (.iinc 4 1, 3) := by decide +kernel
theorem dX7_turn_99 : decode cX7_turn 99 = .ok (.goto (-43), 3) := by decide +kernel
theorem dX7_turn_102 : decode cX7_turn 102 = .ok (.aload_n 0, 1) := by decide +kernel
theorem dX7_turn_103 : decode cX7_turn 103 = .ok (.iload_n 1, 1) := by decide +kernel
theorem dX7_turn_104 : decode cX7_turn 104 = .ok (.iload_n 1, 1) := by decide +kernel
theorem dX7_turn_105 : decode cX7_turn 105 = .ok (.iconst 0, 1) := by decide +kernel
theorem dX7_turn_106 : decode cX7_turn 106 = .ok (.invokevirtual 78, 3) := by decide +kernel
theorem dX7_turn_109 : decode cX7_turn 109 = .ok (.ireturn, 1) := by decide +kernel
theorem dX7_file_0 : decode cX7_file 0 = .ok (.aload_n 0, 1) := by decide +kernel
theorem dX7_file_1 : decode cX7_file 1 = .ok (.aload_n 0, 1) := by decide +kernel
theorem dX7_file_2 : decode cX7_file 2 = .ok (.iload_n 1, 1) := by decide +kernel
theorem dX7_file_3 : decode cX7_file 3 = .ok (.iconst 0, 1) := by decide +kernel
theorem dX7_file_4 : decode cX7_file 4 = .ok (.iload_n 2, 1) := by decide +kernel
theorem dX7_file_5 : decode cX7_file 5 = .ok (.invokevirtual 67, 3) := by decide +kernel
theorem dX7_file_8 : decode cX7_file 8 = .ok (.ifCond .eq 7, 3) := by decide +kernel
theorem dX7_file_11 : decode cX7_file 11 = .ok (.iconst 0, 1) := by decide +kernel
theorem dX7_file_12 : decode cX7_file 12 = .ok (.goto 4, 3) := by decide +kernel
theorem dX7_file_15 : decode cX7_file 15 = .ok (.iconst 1, 1) := by decide +kernel
theorem dX7_file_16 : decode cX7_file 16 = .ok (.putfield 37, 3) := by decide +kernel
theorem dX7_file_19 : decode cX7_file 19 = .ok (.aload_n 0, 1) := by decide +kernel
theorem dX7_file_20 : decode cX7_file 20 = .ok (.getfield 37, 3) := by decide +kernel
theorem dX7_file_23 : decode cX7_file 23 = .ok (.ifCond .eq 5, 3) := by decide +kernel
theorem dX7_file_26 : decode cX7_file 26 = .ok (.iconst 0, 1) := by decide +kernel
theorem dX7_file_27 : decode cX7_file 27 = .ok (.ireturn, 1) := by decide +kernel
theorem dX7_file_28 : decode cX7_file 28 = .ok (.aload_n 0, 1) := by decide +kernel
theorem dX7_file_29 : decode cX7_file 29 = .ok (.invokevirtual 64, 3) := by decide +kernel
theorem dX7_file_32 : decode cX7_file 32 = .ok (.aload_n 0, 1) := by decide +kernel
theorem dX7_file_33 : decode cX7_file 33 = .ok (.getfield 7, 3) := by decide +kernel
theorem dX7_file_36 : decode cX7_file 36 = .ok (.sipush 294, 3) := by decide +kernel
theorem dX7_file_39 : decode cX7_file 39 = .ok (.bipush 12, 2) := by decide +kernel
theorem dX7_file_41 : decode cX7_file 41 = .ok (.iload_n 1, 1) := by decide +kernel
theorem dX7_file_42 : decode cX7_file 42 = .ok (.imul, 1) := by decide +kernel
theorem dX7_file_43 : decode cX7_file 43 = .ok (.iadd, 1) := by decide +kernel
theorem dX7_file_44 : decode cX7_file 44 = .ok (.iload_n 2, 1) := by decide +kernel
theorem dX7_file_45 : decode cX7_file 45 = .ok (.iadd, 1) := by decide +kernel
theorem dX7_file_46 : decode cX7_file 46 = .ok (.iaload, 1) := by decide +kernel
theorem dX7_file_47 : decode cX7_file 47 = .ok (.istore_n 3, 1) := by decide +kernel
theorem dX7_file_48 : decode cX7_file 48 = .ok (.aload_n 0, 1) := by decide +kernel
theorem dX7_file_49 : decode cX7_file 49 = .ok (.getfield 7, 3) := by decide +kernel
theorem dX7_file_52 : decode cX7_file 52 = .ok (.sipush 294, 3) := by decide +kernel
theorem dX7_file_55 : decode cX7_file 55 = .ok (.bipush 12, 2) := by decide +kernel
theorem dX7_file_57 : decode cX7_file 57 = .ok (.iload_n 1, 1) := by decide +kernel
theorem dX7_file_58 : decode cX7_file 58 = .ok (.imul, 1) := by decide +kernel
theorem dX7_file_59 : decode cX7_file 59 = .ok (.iadd, 1) := by decide +kernel
theorem dX7_file_60 : decode cX7_file 60 = .ok (.iload_n 2, 1) := by decide +kernel
theorem dX7_file_61 : decode cX7_file 61 = .ok (.iadd, 1) := by decide +kernel
theorem dX7_file_62 : decode cX7_file 62 = .ok (.iconst 0, 1) := by decide +kernel
theorem dX7_file_63 : decode cX7_file 63 = .ok (.iastore, 1) := by decide +kernel
theorem dX7_file_64 : decode cX7_file 64 = .ok (.iload_n 3, 1) := by decide +kernel
theorem dX7_file_65 : decode cX7_file 65 = .ok (.ireturn, 1) := by decide +kernel
theorem dX7_wear_0 : decode cX7_wear 0 = .ok (.aload_n 0, 1) := by decide +kernel
theorem dX7_wear_1 : decode cX7_wear 1 = .ok (.aload_n 0, 1) := by decide +kernel
theorem dX7_wear_2 : decode cX7_wear 2 = .ok (.iload_n 1, 1) := by decide +kernel
theorem dX7_wear_3 : decode cX7_wear 3 = .ok (.iconst 0, 1) := by decide +kernel
theorem dX7_wear_4 : decode cX7_wear 4 = .ok (.iload_n 2, 1) := by decide +kernel
theorem dX7_wear_5 : decode cX7_wear 5 = .ok (.invokevirtual 67, 3) := by decide +kernel
theorem dX7_wear_8 : decode cX7_wear 8 = .ok (.ifCond .eq 7, 3) := by decide +kernel
theorem dX7_wear_11 : decode cX7_wear 11 = .ok (.iconst 0, 1) := by decide +kernel
theorem dX7_wear_12 : decode cX7_wear 12 = .ok (.goto 4, 3) := by decide +kernel
theorem dX7_wear_15 : decode cX7_wear 15 = .ok (.iconst 1, 1) := by decide +kernel
theorem dX7_wear_16 : decode cX7_wear 16 = .ok (.putfield 37, 3) := by decide +kernel
theorem dX7_wear_19 : decode cX7_wear 19 = .ok (.aload_n 0, 1) := by decide +kernel
theorem dX7_wear_20 : decode cX7_wear 20 = .ok (.getfield 37, 3) := by decide +kernel
theorem dX7_wear_23 : decode cX7_wear 23 = .ok (.ifCond .ne 21, 3) := by decide +kernel
theorem dX7_wear_26 : decode cX7_wear 26 = .ok (.aload_n 0, 1) := by decide +kernel
theorem dX7_wear_27 : decode cX7_wear 27 = .ok (.getfield 7, 3) := by decide +kernel
theorem dX7_wear_30 : decode cX7_wear 30 = .ok (.sipush 294, 3) := by decide +kernel
theorem dX7_wear_33 : decode cX7_wear 33 = .ok (.bipush 12, 2) := by decide +kernel
theorem dX7_wear_35 : decode cX7_wear 35 = .ok (.iload_n 1, 1) := by decide +kernel
theorem dX7_wear_36 : decode cX7_wear 36 = .ok (.imul, 1) := by decide +kernel
theorem dX7_wear_37 : decode cX7_wear 37 = .ok (.iadd, 1) := by decide +kernel
theorem dX7_wear_38 : decode cX7_wear 38 = .ok (.iload_n 2, 1) := by decide +kernel
theorem dX7_wear_39 : decode cX7_wear 39 = .ok (.iadd, 1) := by decide +kernel
theorem dX7_wear_40 : decode cX7_wear 40 = .ok (.iaload, 1) := by decide +kernel
theorem dX7_wear_41 : decode cX7_wear 41 = .ok (.goto 4, 3) := by decide +kernel
theorem dX7_wear_44 : decode cX7_wear 44 = .ok (.iconst 0, 1) := by decide +kernel
theorem dX7_wear_45 : decode cX7_wear 45 = .ok (.ireturn, 1) := by decide +kernel
theorem dX7_goTo_0 : decode cX7_goTo 0 = .ok (.aload_n 0, 1) := by decide +kernel
theorem dX7_goTo_1 : decode cX7_goTo 1 = .ok (.getfield 7, 3) := by decide +kernel
theorem dX7_goTo_4 : decode cX7_goTo 4 = .ok (.iload_n 1, 1) := by decide +kernel
theorem dX7_goTo_5 : decode cX7_goTo 5 = .ok (.sipush 150, 3) := by decide +kernel
theorem dX7_goTo_8 : decode cX7_goTo 8 = .ok (.iload_n 2, 1) := by decide +kernel
theorem dX7_goTo_9 : decode cX7_goTo 9 = .ok (.iload_n 3, 1) := by decide +kernel
theorem dX7_goTo_10 : decode cX7_goTo 10 = .ok (.invokestatic 56, 3) := by decide +kernel
theorem dX7_goTo_13 : decode cX7_goTo 13 = .ok (.iadd, 1) := by decide +kernel
theorem dX7_goTo_14 : decode cX7_goTo 14 = .ok (.iaload, 1) := by decide +kernel
theorem dX7_goTo_15 : decode cX7_goTo 15 = .ok (.iload 4, 2) := by decide +kernel
theorem dX7_goTo_17 : decode cX7_goTo 17 = .ok (.invokestatic 70, 3) := by decide +kernel
theorem dX7_goTo_20 : decode cX7_goTo 20 = .ok (.istore 5, 2) := by decide +kernel
theorem dX7_goTo_22 : decode cX7_goTo 22 = .ok (.iload_n 1, 1) := by decide +kernel
theorem dX7_goTo_23 : decode cX7_goTo 23 = .ok (.sipush 294, 3) := by decide +kernel
theorem dX7_goTo_26 : decode cX7_goTo 26 = .ok (.iadd, 1) := by decide +kernel
theorem dX7_goTo_27 : decode cX7_goTo 27 = .ok (.bipush 12, 2) := by decide +kernel
theorem dX7_goTo_29 : decode cX7_goTo 29 = .ok (.iload_n 2, 1) := by decide +kernel
theorem dX7_goTo_30 : decode cX7_goTo 30 = .ok (.imul, 1) := by decide +kernel
theorem dX7_goTo_31 : decode cX7_goTo 31 = .ok (.iadd, 1) := by decide +kernel
theorem dX7_goTo_32 : decode cX7_goTo 32 = .ok (.iload 4, 2) := by decide +kernel
theorem dX7_goTo_34 : decode cX7_goTo 34 = .ok (.iadd, 1) := by decide +kernel
theorem dX7_goTo_35 : decode cX7_goTo 35 = .ok (.istore 6, 2) := by decide +kernel
theorem dX7_goTo_37 : decode cX7_goTo 37 = .ok (.aload_n 0, 1) := by decide +kernel
theorem dX7_goTo_38 : decode cX7_goTo 38 = .ok (.getfield 7, 3) := by decide +kernel
theorem dX7_goTo_41 : decode cX7_goTo 41 = .ok (.iload 6, 2) := by decide +kernel
theorem dX7_goTo_43 : decode cX7_goTo 43 = .ok (.iaload, 1) := by decide +kernel
theorem dX7_goTo_44 : decode cX7_goTo 44 = .ok (.aload_n 0, 1) := by decide +kernel
theorem dX7_goTo_45 : decode cX7_goTo 45 = .ok (.getfield 7, 3) := by decide +kernel
theorem dX7_goTo_48 : decode cX7_goTo 48 = .ok (.iload_n 1, 1) := by decide +kernel
theorem dX7_goTo_49 : decode cX7_goTo 49 = .ok (.sipush 421, 3) := by decide +kernel
theorem dX7_goTo_52 : decode cX7_goTo 52 = .ok (.iadd, 1) := by decide +kernel
theorem dX7_goTo_53 : decode cX7_goTo 53 = .ok (.iaload, 1) := by decide +kernel
theorem dX7_goTo_54 : decode cX7_goTo 54 = .ok (.if_icmp .lt 58, 3) := by decide +kernel
theorem dX7_goTo_57 : decode cX7_goTo 57 = .ok (.aload_n 0, 1) := by decide +kernel
theorem dX7_goTo_58 : decode cX7_goTo 58 = .ok (.dup, 1) := by decide +kernel
theorem dX7_goTo_59 : decode cX7_goTo 59 = .ok (.getfield 81, 3) := by decide +kernel
theorem dX7_goTo_62 : decode cX7_goTo 62 = .ok (.iconst 1, 1) := by decide +kernel
theorem dX7_goTo_63 : decode cX7_goTo 63 = .ok (.iadd, 1) := by decide +kernel
theorem dX7_goTo_64 : decode cX7_goTo 64 = .ok (.putfield 81, 3) := by decide +kernel
theorem dX7_goTo_67 : decode cX7_goTo 67 = .ok (.aload_n 0, 1) := by decide +kernel
theorem dX7_goTo_68 : decode cX7_goTo 68 = .ok (.dup, 1) := by decide +kernel
theorem dX7_goTo_69 : decode cX7_goTo 69 = .ok (.getfield 84, 3) := by decide +kernel
theorem dX7_goTo_72 : decode cX7_goTo 72 = .ok (.iload 5, 2) := by decide +kernel
theorem dX7_goTo_74 : decode cX7_goTo 74 = .ok (.ifCond .eq 7, 3) := by decide +kernel
theorem dX7_goTo_77 : decode cX7_goTo 77 = .ok (.iconst 1, 1) := by decide +kernel
theorem dX7_goTo_78 : decode cX7_goTo 78 = .ok (.goto 4, 3) := by decide +kernel
theorem dX7_goTo_81 : decode cX7_goTo 81 = .ok (.iconst 0, 1) := by decide +kernel
theorem dX7_goTo_82 : decode cX7_goTo 82 = .ok (.iadd, 1) := by decide +kernel
theorem dX7_goTo_83 : decode cX7_goTo 83 = .ok (.putfield 84, 3) := by decide +kernel
theorem dX7_goTo_86 : decode cX7_goTo 86 = .ok (.aload_n 0, 1) := by decide +kernel
theorem dX7_goTo_87 : decode cX7_goTo 87 = .ok (.getfield 7, 3) := by decide +kernel
theorem dX7_goTo_90 : decode cX7_goTo 90 = .ok (.iload_n 1, 1) := by decide +kernel
theorem dX7_goTo_91 : decode cX7_goTo 91 = .ok (.bipush 6, 2) := by decide +kernel
theorem dX7_goTo_93 : decode cX7_goTo 93 = .ok (.iload_n 2, 1) := by decide +kernel
theorem dX7_goTo_94 : decode cX7_goTo 94 = .ok (.iload_n 3, 1) := by decide +kernel
theorem dX7_goTo_95 : decode cX7_goTo 95 = .ok (.invokestatic 56, 3) := by decide +kernel
theorem dX7_goTo_98 : decode cX7_goTo 98 = .ok (.iadd, 1) := by decide +kernel
theorem dX7_goTo_99 : decode cX7_goTo 99 = .ok (.dup2, 1) := by decide +kernel
theorem dX7_goTo_100 : decode cX7_goTo 100 = .ok (.iaload, 1) := by decide +kernel
theorem dX7_goTo_101 : decode cX7_goTo 101 = .ok (.iconst 1, 1) := by decide +kernel
theorem dX7_goTo_102 : decode cX7_goTo 102 = .ok (.iload 4, 2) := by decide +kernel
theorem dX7_goTo_104 : decode cX7_goTo 104 = .ok (.ishl, 1) := by decide +kernel
theorem dX7_goTo_105 : decode cX7_goTo 105 = .ok (.iconst (-1), 1) := by decide +kernel
theorem dX7_goTo_106 : decode cX7_goTo 106 = .ok (.ixor, 1) := by decide +kernel
theorem dX7_goTo_107 : decode cX7_goTo 107 = .ok (.iand, 1) := by decide +kernel
theorem dX7_goTo_108 : decode cX7_goTo 108 = .ok (.iastore, 1) := by decide +kernel
theorem dX7_goTo_109 : decode cX7_goTo 109 = .ok (.goto 99, 3) := by decide +kernel
theorem dX7_goTo_112 : decode cX7_goTo 112 = .ok (.iload_n 3, 1) := by decide +kernel
theorem dX7_goTo_113 : decode cX7_goTo 113 = .ok (.aload_n 0, 1) := by decide +kernel
theorem dX7_goTo_114 : decode cX7_goTo 114 = .ok (.getfield 16, 3) := by decide +kernel
theorem dX7_goTo_117 : decode cX7_goTo 117 = .ok (.iload 4, 2) := by decide +kernel
theorem dX7_goTo_119 : decode cX7_goTo 119 = .ok (.iaload, 1) := by decide +kernel
theorem dX7_goTo_120 : decode cX7_goTo 120 = .ok (.isub, 1) := by decide +kernel
theorem dX7_goTo_121 : decode cX7_goTo 121 = .ok (.aload_n 0, 1) := by decide +kernel
theorem dX7_goTo_122 : decode cX7_goTo 122 = .ok (.getfield 7, 3) := by decide +kernel
theorem dX7_goTo_125 : decode cX7_goTo 125 = .ok (.iload_n 1, 1) := by decide +kernel
theorem dX7_goTo_126 : decode cX7_goTo 126 = .ok (.sipush 420, 3) := by decide +kernel
theorem dX7_goTo_129 : decode cX7_goTo 129 = .ok (.iadd, 1) := by decide +kernel
theorem dX7_goTo_130 : decode cX7_goTo 130 = .ok (.iaload, 1) := by decide +kernel
theorem dX7_goTo_131 : decode cX7_goTo 131 = .ok (.if_icmp .ge 16, 3) := by decide +kernel
theorem dX7_goTo_134 : decode cX7_goTo 134 = .ok (.aload_n 0, 1) := by decide +kernel
theorem dX7_goTo_135 : decode cX7_goTo 135 = .ok (.dup, 1) := by decide +kernel
theorem dX7_goTo_136 : decode cX7_goTo 136 = .ok (.getfield 87, 3) := by decide +kernel
theorem dX7_goTo_139 : decode cX7_goTo 139 = .ok (.iconst 1, 1) := by decide +kernel
theorem dX7_goTo_140 : decode cX7_goTo 140 = .ok (.iadd, 1) := by decide +kernel
theorem dX7_goTo_141 : decode cX7_goTo 141 = .ok (.putfield 87, 3) := by decide +kernel
theorem dX7_goTo_144 : decode cX7_goTo 144 = .ok (.goto 64, 3) := by decide +kernel
theorem dX7_goTo_147 : decode cX7_goTo 147 = .ok (.aload_n 0, 1) := by decide +kernel
theorem dX7_goTo_148 : decode cX7_goTo 148 = .ok (.dup, 1) := by decide +kernel
end
section
theorem dX7_goTo_149 : decode cX7_goTo 149 = .ok (.getfield 90, 3) := by decide +kernel
theorem dX7_goTo_152 : decode cX7_goTo 152 = .ok (.iconst 1, 1) := by decide +kernel
theorem dX7_goTo_153 : decode cX7_goTo 153 = .ok (.iadd, 1) := by decide +kernel
theorem dX7_goTo_154 : decode cX7_goTo 154 = .ok (.putfield 90, 3) := by decide +kernel
theorem dX7_goTo_157 : decode cX7_goTo 157 = .ok (.aload_n 0, 1) := by decide +kernel
theorem dX7_goTo_158 : decode cX7_goTo 158 = .ok (.dup, 1) := by decide +kernel
theorem dX7_goTo_159 : decode cX7_goTo 159 = .ok (.getfield 93, 3) := by decide +kernel
theorem dX7_goTo_162 : decode cX7_goTo 162 = .ok (.iload 5, 2) := by decide +kernel
theorem dX7_goTo_164 : decode cX7_goTo 164 = .ok (.ifCond .eq 7, 3) := by decide +kernel
theorem dX7_goTo_167 : decode cX7_goTo 167 = .ok (.iconst 1, 1) := by decide +kernel
theorem dX7_goTo_168 : decode cX7_goTo 168 = .ok (.goto 4, 3) := by decide +kernel
theorem dX7_goTo_171 : decode cX7_goTo 171 = .ok (.iconst 0, 1) := by decide +kernel
theorem dX7_goTo_172 : decode cX7_goTo 172 = .ok (.iadd, 1) := by decide +kernel
theorem dX7_goTo_173 : decode cX7_goTo 173 = .ok (.putfield 93, 3) := by decide +kernel
theorem dX7_goTo_176 : decode cX7_goTo 176 = .ok (.aload_n 0, 1) := by decide +kernel
theorem dX7_goTo_177 : decode cX7_goTo 177 = .ok (.getfield 19, 3) := by decide +kernel
theorem dX7_goTo_180 : decode cX7_goTo 180 = .ok (.iload_n 3, 1) := by decide +kernel
theorem dX7_goTo_181 : decode cX7_goTo 181 = .ok (.dup2, 1) := by decide +kernel
theorem dX7_goTo_182 : decode cX7_goTo 182 = .ok (.iaload, 1) := by decide +kernel
theorem dX7_goTo_183 : decode cX7_goTo 183 = .ok (.iconst 1, 1) := by decide +kernel
theorem dX7_goTo_184 : decode cX7_goTo 184 = .ok (.iload 4, 2) := by decide +kernel
theorem dX7_goTo_186 : decode cX7_goTo 186 = .ok (.ishl, 1) := by decide +kernel
theorem dX7_goTo_187 : decode cX7_goTo 187 = .ok (.ior, 1) := by decide +kernel
theorem dX7_goTo_188 : decode cX7_goTo 188 = .ok (.iastore, 1) := by decide +kernel
theorem dX7_goTo_189 : decode cX7_goTo 189 = .ok (.aload_n 0, 1) := by decide +kernel
theorem dX7_goTo_190 : decode cX7_goTo 190 = .ok (.getfield 16, 3) := by decide +kernel
theorem dX7_goTo_193 : decode cX7_goTo 193 = .ok (.iload 4, 2) := by decide +kernel
theorem dX7_goTo_195 : decode cX7_goTo 195 = .ok (.iload_n 3, 1) := by decide +kernel
theorem dX7_goTo_196 : decode cX7_goTo 196 = .ok (.iastore, 1) := by decide +kernel
theorem dX7_goTo_197 : decode cX7_goTo 197 = .ok (.aload_n 0, 1) := by decide +kernel
theorem dX7_goTo_198 : decode cX7_goTo 198 = .ok (.getfield 7, 3) := by decide +kernel
theorem dX7_goTo_201 : decode cX7_goTo 201 = .ok (.iload 6, 2) := by decide +kernel
theorem dX7_goTo_203 : decode cX7_goTo 203 = .ok (.dup2, 1) := by decide +kernel
theorem dX7_goTo_204 : decode cX7_goTo 204 = .ok (.iaload, 1) := by decide +kernel
theorem dX7_goTo_205 : decode cX7_goTo 205 = .ok (.iconst 1, 1) := by decide +kernel
theorem dX7_goTo_206 : decode cX7_goTo 206 = .ok (.iadd, 1) := by decide +kernel
theorem dX7_goTo_207 : decode cX7_goTo 207 = .ok (.iastore, 1) := by decide +kernel
theorem dX7_goTo_208 : decode cX7_goTo 208 = .ok (.return_, 1) := by decide +kernel
theorem dX7_playIn_0 : decode cX7_playIn 0 = .ok (.aload_n 0, 1) := by decide +kernel
theorem dX7_playIn_1 : decode cX7_playIn 1 = .ok (.iconst 0, 1) := by decide +kernel
theorem dX7_playIn_2 : decode cX7_playIn 2 = .ok (.putfield 90, 3) := by decide +kernel
theorem dX7_playIn_5 : decode cX7_playIn 5 = .ok (.aload_n 0, 1) := by decide +kernel
theorem dX7_playIn_6 : decode cX7_playIn 6 = .ok (.iconst 0, 1) := by decide +kernel
theorem dX7_playIn_7 : decode cX7_playIn 7 = .ok (.putfield 93, 3) := by decide +kernel
theorem dX7_playIn_10 : decode cX7_playIn 10 = .ok (.aload_n 0, 1) := by decide +kernel
theorem dX7_playIn_11 : decode cX7_playIn 11 = .ok (.iconst 0, 1) := by decide +kernel
theorem dX7_playIn_12 : decode cX7_playIn 12 = .ok (.putfield 87, 3) := by decide +kernel
theorem dX7_playIn_15 : decode cX7_playIn 15 = .ok (.aload_n 0, 1) := by decide +kernel
theorem dX7_playIn_16 : decode cX7_playIn 16 = .ok (.iconst 0, 1) := by decide +kernel
theorem dX7_playIn_17 : decode cX7_playIn 17 = .ok (.putfield 81, 3) := by decide +kernel
theorem dX7_playIn_20 : decode cX7_playIn 20 = .ok (.aload_n 0, 1) := by decide +kernel
theorem dX7_playIn_21 : decode cX7_playIn 21 = .ok (.iconst 0, 1) := by decide +kernel
theorem dX7_playIn_22 : decode cX7_playIn 22 = .ok (.putfield 84, 3) := by decide +kernel
theorem dX7_playIn_25 : decode cX7_playIn 25 = .ok (.iconst 0, 1) := by decide +kernel
theorem dX7_playIn_26 : decode cX7_playIn 26 = .ok (.istore_n 3, 1) := by decide +kernel
theorem dX7_playIn_27 : decode cX7_playIn 27 = .ok (.iload_n 3, 1) := by decide +kernel
theorem dX7_playIn_28 : decode cX7_playIn 28 = .ok (.bipush 12, 2) := by decide +kernel
theorem dX7_playIn_30 : decode cX7_playIn 30 = .ok (.if_icmp .ge 17, 3) := by decide +kernel
theorem dX7_playIn_33 : decode cX7_playIn 33 = .ok (.aload_n 0, 1) := by decide +kernel
theorem dX7_playIn_34 : decode cX7_playIn 34 = .ok (.getfield 16, 3) := by decide +kernel
theorem dX7_playIn_37 : decode cX7_playIn 37 = .ok (.iload_n 3, 1) := by decide +kernel
theorem dX7_playIn_38 : decode cX7_playIn 38 = .ok (.bipush (-100), 2) := by decide +kernel
theorem dX7_playIn_40 : decode cX7_playIn 40 = .ok (.iastore, 1) := by decide +kernel
theorem dX7_playIn_41 : decode cX7_playIn 41 = .ok (.iinc 3 1, 3) := by decide +kernel
theorem dX7_playIn_44 : decode cX7_playIn 44 = .ok (.goto (-17), 3) := by decide +kernel
theorem dX7_playIn_47 : decode cX7_playIn 47 = .ok (.iconst 0, 1) := by decide +kernel
theorem dX7_playIn_48 : decode cX7_playIn 48 = .ok (.istore_n 3, 1) := by decide +kernel
theorem dX7_playIn_49 : decode cX7_playIn 49 = .ok (.iload_n 3, 1) := by decide +kernel
theorem dX7_playIn_50 : decode cX7_playIn 50 = .ok (.bipush 24, 2) := by decide +kernel
theorem dX7_playIn_52 : decode cX7_playIn 52 = .ok (.if_icmp .ge 67, 3) := by decide +kernel
theorem dX7_playIn_55 : decode cX7_playIn 55 = .ok (.aload_n 0, 1) := by decide +kernel
theorem dX7_playIn_56 : decode cX7_playIn 56 = .ok (.getfield 7, 3) := by decide +kernel
theorem dX7_playIn_59 : decode cX7_playIn 59 = .ok (.iload_n 1, 1) := by decide +kernel
theorem dX7_playIn_60 : decode cX7_playIn 60 = .ok (.bipush 6, 2) := by decide +kernel
theorem dX7_playIn_62 : decode cX7_playIn 62 = .ok (.iload_n 2, 1) := by decide +kernel
theorem dX7_playIn_63 : decode cX7_playIn 63 = .ok (.iload_n 3, 1) := by decide +kernel
theorem dX7_playIn_64 : decode cX7_playIn 64 = .ok (.invokestatic 56, 3) := by decide +kernel
theorem dX7_playIn_67 : decode cX7_playIn 67 = .ok (.iadd, 1) := by decide +kernel
theorem dX7_playIn_68 : decode cX7_playIn 68 = .ok (.iaload, 1) := by decide +kernel
theorem dX7_playIn_69 : decode cX7_playIn 69 = .ok (.istore 4, 2) := by decide +kernel
theorem dX7_playIn_71 : decode cX7_playIn 71 = .ok (.aload_n 0, 1) := by decide +kernel
theorem dX7_playIn_72 : decode cX7_playIn 72 = .ok (.getfield 19, 3) := by decide +kernel
theorem dX7_playIn_75 : decode cX7_playIn 75 = .ok (.iload_n 3, 1) := by decide +kernel
theorem dX7_playIn_76 : decode cX7_playIn 76 = .ok (.iconst 0, 1) := by decide +kernel
theorem dX7_playIn_77 : decode cX7_playIn 77 = .ok (.iastore, 1) := by decide +kernel
theorem dX7_playIn_78 : decode cX7_playIn 78 = .ok (.iconst 0, 1) := by decide +kernel
theorem dX7_playIn_79 : decode cX7_playIn 79 = .ok (.istore 5, 2) := by decide +kernel
theorem dX7_playIn_81 : decode cX7_playIn 81 = .ok (.iload 5, 2) := by decide +kernel
theorem dX7_playIn_83 : decode cX7_playIn 83 = .ok (.bipush 12, 2) := by decide +kernel
theorem dX7_playIn_85 : decode cX7_playIn 85 = .ok (.if_icmp .ge 28, 3) := by decide +kernel
theorem dX7_playIn_88 : decode cX7_playIn 88 = .ok (.iload 4, 2) := by decide +kernel
theorem dX7_playIn_90 : decode cX7_playIn 90 = .ok (.iload 5, 2) := by decide +kernel
theorem dX7_playIn_92 : decode cX7_playIn 92 = .ok (.invokestatic 70, 3) := by decide +kernel
theorem dX7_playIn_95 : decode cX7_playIn 95 = .ok (.ifCond .eq 12, 3) := by decide +kernel
theorem dX7_playIn_98 : decode cX7_playIn 98 = .ok (.aload_n 0, 1) := by decide +kernel
theorem dX7_playIn_99 : decode cX7_playIn 99 = .ok (.iload_n 1, 1) := by decide +kernel
theorem dX7_playIn_100 : decode cX7_playIn 100 = .ok (.iload_n 2, 1) := by decide +kernel
theorem dX7_playIn_101 : decode cX7_playIn 101 = .ok (.iload_n 3, 1) := by decide +kernel
theorem dX7_playIn_102 : decode cX7_playIn 102 = .ok (.iload 5, 2) := by decide +kernel
theorem dX7_playIn_104 : decode cX7_playIn 104 = .ok (.invokevirtual 96, 3) := by decide +kernel
theorem dX7_playIn_107 : decode cX7_playIn 107 = .ok (.iinc 5 1, 3) := by decide +kernel
theorem dX7_playIn_110 : decode cX7_playIn 110 = .ok (.goto (-29), 3) := by decide +kernel
theorem dX7_playIn_113 : decode cX7_playIn 113 = .ok (.iinc 3 1, 3) := by decide +kernel
theorem dX7_playIn_116 : decode cX7_playIn 116 = .ok (.goto (-67), 3) := by decide +kernel
theorem dX7_playIn_119 : decode cX7_playIn 119 = .ok (.return_, 1) := by decide +kernel
theorem dX7_play_0 : decode cX7_play 0 = .ok (.aload_n 0, 1) := by decide +kernel
theorem dX7_play_1 : decode cX7_play 1 = .ok (.aload_n 0, 1) := by decide +kernel
theorem dX7_play_2 : decode cX7_play 2 = .ok (.iload_n 1, 1) := by decide +kernel
theorem dX7_play_3 : decode cX7_play 3 = .ok (.invokevirtual 45, 3) := by decide +kernel
theorem dX7_play_6 : decode cX7_play 6 = .ok (.ifCond .eq 7, 3) := by decide +kernel
theorem dX7_play_9 : decode cX7_play 9 = .ok (.iconst 0, 1) := by decide +kernel
theorem dX7_play_10 : decode cX7_play 10 = .ok (.goto 4, 3) := by decide +kernel
theorem dX7_play_13 : decode cX7_play 13 = .ok (.iconst 1, 1) := by decide +kernel
theorem dX7_play_14 : decode cX7_play 14 = .ok (.putfield 37, 3) := by decide +kernel
theorem dX7_play_17 : decode cX7_play 17 = .ok (.aload_n 0, 1) := by decide +kernel
theorem dX7_play_18 : decode cX7_play 18 = .ok (.getfield 37, 3) := by decide +kernel
theorem dX7_play_21 : decode cX7_play 21 = .ok (.ifCond .eq 5, 3) := by decide +kernel
theorem dX7_play_24 : decode cX7_play 24 = .ok (.iconst 0, 1) := by decide +kernel
theorem dX7_play_25 : decode cX7_play 25 = .ok (.ireturn, 1) := by decide +kernel
theorem dX7_play_26 : decode cX7_play 26 = .ok (.aload_n 0, 1) := by decide +kernel
theorem dX7_play_27 : decode cX7_play 27 = .ok (.invokevirtual 64, 3) := by decide +kernel
theorem dX7_play_30 : decode cX7_play 30 = .ok (.aload_n 0, 1) := by decide +kernel
theorem dX7_play_31 : decode cX7_play 31 = .ok (.iconst 0, 1) := by decide +kernel
theorem dX7_play_32 : decode cX7_play 32 = .ok (.iload_n 1, 1) := by decide +kernel
theorem dX7_play_33 : decode cX7_play 33 = .ok (.invokevirtual 100, 3) := by decide +kernel
theorem dX7_play_36 : decode cX7_play 36 = .ok (.aload_n 0, 1) := by decide +kernel
theorem dX7_play_37 : decode cX7_play 37 = .ok (.getfield 7, 3) := by decide +kernel
theorem dX7_play_40 : decode cX7_play 40 = .ok (.iconst 0, 1) := by decide +kernel
theorem dX7_play_41 : decode cX7_play 41 = .ok (.iload_n 1, 1) := by decide +kernel
theorem dX7_play_42 : decode cX7_play 42 = .ok (.iadd, 1) := by decide +kernel
theorem dX7_play_43 : decode cX7_play 43 = .ok (.dup2, 1) := by decide +kernel
theorem dX7_play_44 : decode cX7_play 44 = .ok (.iaload, 1) := by decide +kernel
theorem dX7_play_45 : decode cX7_play 45 = .ok (.aload_n 0, 1) := by decide +kernel
theorem dX7_play_46 : decode cX7_play 46 = .ok (.getfield 81, 3) := by decide +kernel
theorem dX7_play_49 : decode cX7_play 49 = .ok (.iadd, 1) := by decide +kernel
theorem dX7_play_50 : decode cX7_play 50 = .ok (.iastore, 1) := by decide +kernel
theorem dX7_play_51 : decode cX7_play 51 = .ok (.aload_n 0, 1) := by decide +kernel
theorem dX7_play_52 : decode cX7_play 52 = .ok (.getfield 7, 3) := by decide +kernel
theorem dX7_play_55 : decode cX7_play 55 = .ok (.sipush 402, 3) := by decide +kernel
theorem dX7_play_58 : decode cX7_play 58 = .ok (.iload_n 1, 1) := by decide +kernel
theorem dX7_play_59 : decode cX7_play 59 = .ok (.iadd, 1) := by decide +kernel
theorem dX7_play_60 : decode cX7_play 60 = .ok (.dup2, 1) := by decide +kernel
theorem dX7_play_61 : decode cX7_play 61 = .ok (.iaload, 1) := by decide +kernel
theorem dX7_play_62 : decode cX7_play 62 = .ok (.iconst 1, 1) := by decide +kernel
theorem dX7_play_63 : decode cX7_play 63 = .ok (.iadd, 1) := by decide +kernel
theorem dX7_play_64 : decode cX7_play 64 = .ok (.iastore, 1) := by decide +kernel
theorem dX7_play_65 : decode cX7_play 65 = .ok (.aload_n 0, 1) := by decide +kernel
theorem dX7_play_66 : decode cX7_play 66 = .ok (.getfield 7, 3) := by decide +kernel
theorem dX7_play_69 : decode cX7_play 69 = .ok (.sipush 408, 3) := by decide +kernel
theorem dX7_play_72 : decode cX7_play 72 = .ok (.iload_n 1, 1) := by decide +kernel
theorem dX7_play_73 : decode cX7_play 73 = .ok (.iadd, 1) := by decide +kernel
theorem dX7_play_74 : decode cX7_play 74 = .ok (.dup2, 1) := by decide +kernel
theorem dX7_play_75 : decode cX7_play 75 = .ok (.iaload, 1) := by decide +kernel
theorem dX7_play_76 : decode cX7_play 76 = .ok (.aload_n 0, 1) := by decide +kernel
theorem dX7_play_77 : decode cX7_play 77 = .ok (.getfield 90, 3) := by decide +kernel
theorem dX7_play_80 : decode cX7_play 80 = .ok (.iadd, 1) := by decide +kernel
theorem dX7_play_81 : decode cX7_play 81 = .ok (.iastore, 1) := by decide +kernel
theorem dX7_play_82 : decode cX7_play 82 = .ok (.aload_n 0, 1) := by decide +kernel
theorem dX7_play_83 : decode cX7_play 83 = .ok (.getfield 7, 3) := by decide +kernel
theorem dX7_play_86 : decode cX7_play 86 = .ok (.sipush 414, 3) := by decide +kernel
theorem dX7_play_89 : decode cX7_play 89 = .ok (.iload_n 1, 1) := by decide +kernel
theorem dX7_play_90 : decode cX7_play 90 = .ok (.iadd, 1) := by decide +kernel
theorem dX7_play_91 : decode cX7_play 91 = .ok (.dup2, 1) := by decide +kernel
theorem dX7_play_92 : decode cX7_play 92 = .ok (.iaload, 1) := by decide +kernel
theorem dX7_play_93 : decode cX7_play 93 = .ok (.aload_n 0, 1) := by decide +kernel
theorem dX7_play_94 : decode cX7_play 94 = .ok (.getfield 81, 3) := by decide +kernel
theorem dX7_play_97 : decode cX7_play 97 = .ok (.iadd, 1) := by decide +kernel
theorem dX7_play_98 : decode cX7_play 98 = .ok (.iastore, 1) := by decide +kernel
theorem dX7_play_99 : decode cX7_play 99 = .ok (.aload_n 0, 1) := by decide +kernel
theorem dX7_play_100 : decode cX7_play 100 = .ok (.getfield 90, 3) := by decide +kernel
theorem dX7_play_103 : decode cX7_play 103 = .ok (.ireturn, 1) := by decide +kernel
theorem dX7_tryPlaying_0 : decode cX7_tryPlaying 0 = .ok (.aload_n 0, 1) := by decide +kernel
theorem dX7_tryPlaying_1 : decode cX7_tryPlaying 1 = .ok (.iconst 0, 1) := by decide +kernel
theorem dX7_tryPlaying_2 : decode cX7_tryPlaying 2 = .ok (.sipush 2996, 3) := by decide +kernel
theorem dX7_tryPlaying_5 : decode cX7_tryPlaying 5 = .ok (.invokevirtual 52, 3) := by decide +kernel
theorem dX7_tryPlaying_8 : decode cX7_tryPlaying 8 = .ok (.aload_n 0, 1) := by decide +kernel
theorem dX7_tryPlaying_9 : decode cX7_tryPlaying 9 = .ok (.sipush 2996, 3) := by decide +kernel
theorem dX7_tryPlaying_12 : decode cX7_tryPlaying 12 = .ok (.iload_n 1, 1) := by decide +kernel
theorem dX7_tryPlaying_13 : decode cX7_tryPlaying 13 = .ok (.invokevirtual 100, 3) := by decide +kernel
theorem dX7_tryPlaying_16 : decode cX7_tryPlaying 16 = .ok (.return_, 1) := by decide +kernel
theorem dX7_dullIn_0 : decode cX7_dullIn 0 = .ok (.iconst 0, 1) := by decide +kernel
theorem dX7_dullIn_1 : decode cX7_dullIn 1 = .ok (.istore_n 3, 1) := by decide +kernel
theorem dX7_dullIn_2 : decode cX7_dullIn 2 = .ok (.iconst 0, 1) := by decide +kernel
theorem dX7_dullIn_3 : decode cX7_dullIn 3 = .ok (.istore 4, 2) := by decide +kernel
theorem dX7_dullIn_5 : decode cX7_dullIn 5 = .ok (.iload 4, 2) := by decide +kernel
theorem dX7_dullIn_7 : decode cX7_dullIn 7 = .ok (.bipush 12, 2) := by decide +kernel
theorem dX7_dullIn_9 : decode cX7_dullIn 9 = .ok (.if_icmp .ge 48, 3) := by decide +kernel
theorem dX7_dullIn_12 : decode cX7_dullIn 12 = .ok (.iload_n 3, 1) := by decide +kernel
theorem dX7_dullIn_13 : decode cX7_dullIn 13 = .ok (.aload_n 0, 1) := by decide +kernel
theorem dX7_dullIn_14 : decode cX7_dullIn 14 = .ok (.getfield 7, 3) := by decide +kernel
theorem dX7_dullIn_17 : decode cX7_dullIn 17 = .ok (.iload_n 1, 1) := by decide +kernel
theorem dX7_dullIn_18 : decode cX7_dullIn 18 = .ok (.sipush 294, 3) := by decide +kernel
theorem dX7_dullIn_21 : decode cX7_dullIn 21 = .ok (.iadd, 1) := by decide +kernel
theorem dX7_dullIn_22 : decode cX7_dullIn 22 = .ok (.bipush 12, 2) := by decide +kernel
theorem dX7_dullIn_24 : decode cX7_dullIn 24 = .ok (.iload_n 2, 1) := by decide +kernel
theorem dX7_dullIn_25 : decode cX7_dullIn 25 = .ok (.imul, 1) := by decide +kernel
theorem dX7_dullIn_26 : decode cX7_dullIn 26 = .ok (.iadd, 1) := by decide +kernel
theorem dX7_dullIn_27 : decode cX7_dullIn 27 = .ok (.iload 4, 2) := by decide +kernel
theorem dX7_dullIn_29 : decode cX7_dullIn 29 = .ok (.iadd, 1) := by decide +kernel
theorem dX7_dullIn_30 : decode cX7_dullIn 30 = .ok (.iaload, 1) := by decide +kernel
theorem dX7_dullIn_31 : decode cX7_dullIn 31 = .ok (.aload_n 0, 1) := by decide +kernel
theorem dX7_dullIn_32 : decode cX7_dullIn 32 = .ok (.getfield 7, 3) := by decide +kernel
theorem dX7_dullIn_35 : decode cX7_dullIn 35 = .ok (.iload_n 1, 1) := by decide +kernel
theorem dX7_dullIn_36 : decode cX7_dullIn 36 = .ok (.sipush 421, 3) := by decide +kernel
theorem dX7_dullIn_39 : decode cX7_dullIn 39 = .ok (.iadd, 1) := by decide +kernel
theorem dX7_dullIn_40 : decode cX7_dullIn 40 = .ok (.iaload, 1) := by decide +kernel
theorem dX7_dullIn_41 : decode cX7_dullIn 41 = .ok (.if_icmp .lt 7, 3) := by decide +kernel
theorem dX7_dullIn_44 : decode cX7_dullIn 44 = .ok (.iconst 1, 1) := by decide +kernel
theorem dX7_dullIn_45 : decode cX7_dullIn 45 = .ok (.goto 4, 3) := by decide +kernel
theorem dX7_dullIn_48 : decode cX7_dullIn 48 = .ok (.iconst 0, 1) := by decide +kernel
theorem dX7_dullIn_49 : decode cX7_dullIn 49 = .ok (.iadd, 1) := by decide +kernel
theorem dX7_dullIn_50 : decode cX7_dullIn 50 = .ok (.istore_n 3, 1) := by decide +kernel
theorem dX7_dullIn_51 : decode cX7_dullIn 51 = .ok (.iinc 4 1, 3) := by decide +kernel
theorem dX7_dullIn_54 : decode cX7_dullIn 54 = .ok (.goto (-49), 3) := by decide +kernel
theorem dX7_dullIn_57 : decode cX7_dullIn 57 = .ok (.iload_n 3, 1) := by decide +kernel
theorem dX7_dullIn_58 : decode cX7_dullIn 58 = .ok (.ireturn, 1) := by decide +kernel
theorem dX7_ifPlayedOf_0 : decode cX7_ifPlayedOf 0 = .ok (.aload_n 0, 1) := by decide +kernel
theorem dX7_ifPlayedOf_1 : decode cX7_ifPlayedOf 1 = .ok (.iload_n 1, 1) := by decide +kernel
theorem dX7_ifPlayedOf_2 : decode cX7_ifPlayedOf 2 = .ok (.invokevirtual 103, 3) := by decide +kernel
theorem dX7_ifPlayedOf_5 : decode cX7_ifPlayedOf 5 = .ok (.iload_n 2, 1) := by decide +kernel
theorem dX7_ifPlayedOf_6 : decode cX7_ifPlayedOf 6 = .ok (.ifCond .ne 10, 3) := by decide +kernel
theorem dX7_ifPlayedOf_9 : decode cX7_ifPlayedOf 9 = .ok (.aload_n 0, 1) := by decide +kernel
theorem dX7_ifPlayedOf_10 : decode cX7_ifPlayedOf 10 = .ok (.getfield 90, 3) := by decide +kernel
theorem dX7_ifPlayedOf_13 : decode cX7_ifPlayedOf 13 = .ok (.goto 47, 3) := by decide +kernel
theorem dX7_ifPlayedOf_16 : decode cX7_ifPlayedOf 16 = .ok (.iload_n 2, 1) := by decide +kernel
theorem dX7_ifPlayedOf_17 : decode cX7_ifPlayedOf 17 = .ok (.iconst 1, 1) := by decide +kernel
theorem dX7_ifPlayedOf_18 : decode cX7_ifPlayedOf 18 = .ok (.if_icmp .ne 10, 3) := by decide +kernel
theorem dX7_ifPlayedOf_21 : decode cX7_ifPlayedOf 21 = .ok (.aload_n 0, 1) := by decide +kernel
theorem dX7_ifPlayedOf_22 : decode cX7_ifPlayedOf 22 = .ok (.getfield 87, 3) := by decide +kernel
theorem dX7_ifPlayedOf_25 : decode cX7_ifPlayedOf 25 = .ok (.goto 35, 3) := by decide +kernel
theorem dX7_ifPlayedOf_28 : decode cX7_ifPlayedOf 28 = .ok (.iload_n 2, 1) := by decide +kernel
theorem dX7_ifPlayedOf_29 : decode cX7_ifPlayedOf 29 = .ok (.iconst 2, 1) := by decide +kernel
theorem dX7_ifPlayedOf_30 : decode cX7_ifPlayedOf 30 = .ok (.if_icmp .ne 10, 3) := by decide +kernel
theorem dX7_ifPlayedOf_33 : decode cX7_ifPlayedOf 33 = .ok (.aload_n 0, 1) := by decide +kernel
theorem dX7_ifPlayedOf_34 : decode cX7_ifPlayedOf 34 = .ok (.getfield 81, 3) := by decide +kernel
theorem dX7_ifPlayedOf_37 : decode cX7_ifPlayedOf 37 = .ok (.goto 23, 3) := by decide +kernel
theorem dX7_ifPlayedOf_40 : decode cX7_ifPlayedOf 40 = .ok (.iload_n 2, 1) := by decide +kernel
theorem dX7_ifPlayedOf_41 : decode cX7_ifPlayedOf 41 = .ok (.iconst 3, 1) := by decide +kernel
theorem dX7_ifPlayedOf_42 : decode cX7_ifPlayedOf 42 = .ok (.if_icmp .ne 10, 3) := by decide +kernel
theorem dX7_ifPlayedOf_45 : decode cX7_ifPlayedOf 45 = .ok (.aload_n 0, 1) := by decide +kernel
theorem dX7_ifPlayedOf_46 : decode cX7_ifPlayedOf 46 = .ok (.getfield 93, 3) := by decide +kernel
theorem dX7_ifPlayedOf_49 : decode cX7_ifPlayedOf 49 = .ok (.goto 11, 3) := by decide +kernel
theorem dX7_ifPlayedOf_52 : decode cX7_ifPlayedOf 52 = .ok (.aload_n 0, 1) := by decide +kernel
theorem dX7_ifPlayedOf_53 : decode cX7_ifPlayedOf 53 = .ok (.sipush 2996, 3) := by decide +kernel
theorem dX7_ifPlayedOf_56 : decode cX7_ifPlayedOf 56 = .ok (.iload_n 1, 1) := by decide +kernel
theorem dX7_ifPlayedOf_57 : decode cX7_ifPlayedOf 57 = .ok (.invokevirtual 107, 3) := by decide +kernel
theorem dX7_ifPlayedOf_60 : decode cX7_ifPlayedOf 60 = .ok (.ireturn, 1) := by decide +kernel
theorem dX7_ifPlayed_0 : decode cX7_ifPlayed 0 = .ok (.aload_n 0, 1) := by decide +kernel
theorem dX7_ifPlayed_1 : decode cX7_ifPlayed 1 = .ok (.aload_n 0, 1) := by decide +kernel
theorem dX7_ifPlayed_2 : decode cX7_ifPlayed 2 = .ok (.iload_n 1, 1) := by decide +kernel
theorem dX7_ifPlayed_3 : decode cX7_ifPlayed 3 = .ok (.invokevirtual 45, 3) := by decide +kernel
theorem dX7_ifPlayed_6 : decode cX7_ifPlayed 6 = .ok (.ifCond .ne 7, 3) := by decide +kernel
theorem dX7_ifPlayed_9 : decode cX7_ifPlayed 9 = .ok (.iconst 1, 1) := by decide +kernel
theorem dX7_ifPlayed_10 : decode cX7_ifPlayed 10 = .ok (.goto 17, 3) := by decide +kernel
theorem dX7_ifPlayed_13 : decode cX7_ifPlayed 13 = .ok (.iload_n 2, 1) := by decide +kernel
theorem dX7_ifPlayed_14 : decode cX7_ifPlayed 14 = .ok (.iconst 0, 1) := by decide +kernel
theorem dX7_ifPlayed_15 : decode cX7_ifPlayed 15 = .ok (.iconst 4, 1) := by decide +kernel
theorem dX7_ifPlayed_16 : decode cX7_ifPlayed 16 = .ok (.invokestatic 41, 3) := by decide +kernel
theorem dX7_ifPlayed_19 : decode cX7_ifPlayed 19 = .ok (.ifCond .ne 7, 3) := by decide +kernel
theorem dX7_ifPlayed_22 : decode cX7_ifPlayed 22 = .ok (.iconst 2, 1) := by decide +kernel
theorem dX7_ifPlayed_23 : decode cX7_ifPlayed 23 = .ok (.goto 4, 3) := by decide +kernel
theorem dX7_ifPlayed_26 : decode cX7_ifPlayed 26 = .ok (.iconst 0, 1) := by decide +kernel
theorem dX7_ifPlayed_27 : decode cX7_ifPlayed 27 = .ok (.putfield 37, 3) := by decide +kernel
theorem dX7_ifPlayed_30 : decode cX7_ifPlayed 30 = .ok (.aload_n 0, 1) := by decide +kernel
theorem dX7_ifPlayed_31 : decode cX7_ifPlayed 31 = .ok (.getfield 37, 3) := by decide +kernel
theorem dX7_ifPlayed_34 : decode cX7_ifPlayed 34 = .ok (.ifCond .ne 12, 3) := by decide +kernel
theorem dX7_ifPlayed_37 : decode cX7_ifPlayed 37 = .ok (.aload_n 0, 1) := by decide +kernel
theorem dX7_ifPlayed_38 : decode cX7_ifPlayed 38 = .ok (.iload_n 1, 1) := by decide +kernel
theorem dX7_ifPlayed_39 : decode cX7_ifPlayed 39 = .ok (.iload_n 2, 1) := by decide +kernel
theorem dX7_ifPlayed_40 : decode cX7_ifPlayed 40 = .ok (.invokevirtual 110, 3) := by decide +kernel
theorem dX7_ifPlayed_43 : decode cX7_ifPlayed 43 = .ok (.goto 4, 3) := by decide +kernel
theorem dX7_ifPlayed_46 : decode cX7_ifPlayed 46 = .ok (.iconst 0, 1) := by decide +kernel
theorem dX7_ifPlayed_47 : decode cX7_ifPlayed 47 = .ok (.ireturn, 1) := by decide +kernel
theorem dX7_lastsOf_0 : decode cX7_lastsOf 0 = .ok (.aload_n 0, 1) := by decide +kernel
theorem dX7_lastsOf_1 : decode cX7_lastsOf 1 = .ok (.iconst 0, 1) := by decide +kernel
theorem dX7_lastsOf_2 : decode cX7_lastsOf 2 = .ok (.sipush 2996, 3) := by decide +kernel
theorem dX7_lastsOf_5 : decode cX7_lastsOf 5 = .ok (.invokevirtual 52, 3) := by decide +kernel
theorem dX7_lastsOf_8 : decode cX7_lastsOf 8 = .ok (.iconst 1, 1) := by decide +kernel
theorem dX7_lastsOf_9 : decode cX7_lastsOf 9 = .ok (.istore_n 2, 1) := by decide +kernel
theorem dX7_lastsOf_10 : decode cX7_lastsOf 10 = .ok (.iload_n 2, 1) := by decide +kernel
theorem dX7_lastsOf_11 : decode cX7_lastsOf 11 = .ok (.sipush 200, 3) := by decide +kernel
theorem dX7_lastsOf_14 : decode cX7_lastsOf 14 = .ok (.if_icmp .gt 26, 3) := by decide +kernel
theorem dX7_lastsOf_17 : decode cX7_lastsOf 17 = .ok (.aload_n 0, 1) := by decide +kernel
theorem dX7_lastsOf_18 : decode cX7_lastsOf 18 = .ok (.sipush 2996, 3) := by decide +kernel
theorem dX7_lastsOf_21 : decode cX7_lastsOf 21 = .ok (.iload_n 1, 1) := by decide +kernel
theorem dX7_lastsOf_22 : decode cX7_lastsOf 22 = .ok (.invokevirtual 100, 3) := by decide +kernel
theorem dX7_lastsOf_25 : decode cX7_lastsOf 25 = .ok (.aload_n 0, 1) := by decide +kernel
theorem dX7_lastsOf_26 : decode cX7_lastsOf 26 = .ok (.getfield 84, 3) := by decide +kernel
theorem dX7_lastsOf_29 : decode cX7_lastsOf 29 = .ok (.ifCond .le 5, 3) := by decide +kernel
theorem dX7_lastsOf_32 : decode cX7_lastsOf 32 = .ok (.iload_n 2, 1) := by decide +kernel
theorem dX7_lastsOf_33 : decode cX7_lastsOf 33 = .ok (.ireturn, 1) := by decide +kernel
theorem dX7_lastsOf_34 : decode cX7_lastsOf 34 = .ok (.iinc 2 1, 3) := by decide +kernel
theorem dX7_lastsOf_37 : decode cX7_lastsOf 37 = .ok (.goto (-27), 3) := by decide +kernel
theorem dX7_lastsOf_40 : decode cX7_lastsOf 40 = .ok (.iconst (-1), 1) := by decide +kernel
theorem dX7_lastsOf_41 : decode cX7_lastsOf 41 = .ok (.ireturn, 1) := by decide +kernel
theorem dX7_lastsFor_0 : decode cX7_lastsFor 0 = .ok (.aload_n 0, 1) := by decide +kernel
theorem dX7_lastsFor_1 : decode cX7_lastsFor 1 = .ok (.aload_n 0, 1) := by decide +kernel
theorem dX7_lastsFor_2 : decode cX7_lastsFor 2 = .ok (.iload_n 1, 1) := by decide +kernel
theorem dX7_lastsFor_3 : decode cX7_lastsFor 3 = .ok (.invokevirtual 45, 3) := by decide +kernel
theorem dX7_lastsFor_6 : decode cX7_lastsFor 6 = .ok (.ifCond .eq 7, 3) := by decide +kernel
theorem dX7_lastsFor_9 : decode cX7_lastsFor 9 = .ok (.iconst 0, 1) := by decide +kernel
theorem dX7_lastsFor_10 : decode cX7_lastsFor 10 = .ok (.goto 4, 3) := by decide +kernel
theorem dX7_lastsFor_13 : decode cX7_lastsFor 13 = .ok (.iconst 1, 1) := by decide +kernel
theorem dX7_lastsFor_14 : decode cX7_lastsFor 14 = .ok (.putfield 37, 3) := by decide +kernel
theorem dX7_lastsFor_17 : decode cX7_lastsFor 17 = .ok (.aload_n 0, 1) := by decide +kernel
theorem dX7_lastsFor_18 : decode cX7_lastsFor 18 = .ok (.getfield 37, 3) := by decide +kernel
theorem dX7_lastsFor_21 : decode cX7_lastsFor 21 = .ok (.ifCond .ne 11, 3) := by decide +kernel
theorem dX7_lastsFor_24 : decode cX7_lastsFor 24 = .ok (.aload_n 0, 1) := by decide +kernel
theorem dX7_lastsFor_25 : decode cX7_lastsFor 25 = .ok (.iload_n 1, 1) := by decide +kernel
theorem dX7_lastsFor_26 : decode cX7_lastsFor 26 = .ok (.invokevirtual 113, 3) := by decide +kernel
theorem dX7_lastsFor_29 : decode cX7_lastsFor 29 = .ok (.goto 4, 3) := by decide +kernel
theorem dX7_lastsFor_32 : decode cX7_lastsFor 32 = .ok (.iconst 0, 1) := by decide +kernel
theorem dX7_lastsFor_33 : decode cX7_lastsFor 33 = .ok (.ireturn, 1) := by decide +kernel
theorem dX7_owes_0 : decode cX7_owes 0 = .ok (.sipush 366, 3) := by decide +kernel
theorem dX7_owes_3 : decode cX7_owes 3 = .ok (.bipush 6, 2) := by decide +kernel
theorem dX7_owes_5 : decode cX7_owes 5 = .ok (.iload_n 0, 1) := by decide +kernel
theorem dX7_owes_6 : decode cX7_owes 6 = .ok (.imul, 1) := by decide +kernel
theorem dX7_owes_7 : decode cX7_owes 7 = .ok (.iadd, 1) := by decide +kernel
theorem dX7_owes_8 : decode cX7_owes 8 = .ok (.iload_n 1, 1) := by decide +kernel
theorem dX7_owes_9 : decode cX7_owes 9 = .ok (.iadd, 1) := by decide +kernel
theorem dX7_owes_10 : decode cX7_owes 10 = .ok (.ireturn, 1) := by decide +kernel
theorem dX7_canGo_0 : decode cX7_canGo 0 = .ok (.aload_n 0, 1) := by decide +kernel
theorem dX7_canGo_1 : decode cX7_canGo 1 = .ok (.getfield 7, 3) := by decide +kernel
theorem dX7_canGo_4 : decode cX7_canGo 4 = .ok (.iconst 0, 1) := by decide +kernel
theorem dX7_canGo_5 : decode cX7_canGo 5 = .ok (.iload_n 1, 1) := by decide +kernel
theorem dX7_canGo_6 : decode cX7_canGo 6 = .ok (.iadd, 1) := by decide +kernel
theorem dX7_canGo_7 : decode cX7_canGo 7 = .ok (.iaload, 1) := by decide +kernel
theorem dX7_canGo_8 : decode cX7_canGo 8 = .ok (.iload_n 3, 1) := by decide +kernel
theorem dX7_canGo_9 : decode cX7_canGo 9 = .ok (.if_icmp .lt 28, 3) := by decide +kernel
theorem dX7_canGo_12 : decode cX7_canGo 12 = .ok (.aload_n 0, 1) := by decide +kernel
theorem dX7_canGo_13 : decode cX7_canGo 13 = .ok (.getfield 7, 3) := by decide +kernel
theorem dX7_canGo_16 : decode cX7_canGo 16 = .ok (.iconst 0, 1) := by decide +kernel
theorem dX7_canGo_17 : decode cX7_canGo 17 = .ok (.iload_n 2, 1) := by decide +kernel
theorem dX7_canGo_18 : decode cX7_canGo 18 = .ok (.iadd, 1) := by decide +kernel
theorem dX7_canGo_19 : decode cX7_canGo 19 = .ok (.iaload, 1) := by decide +kernel
theorem dX7_canGo_20 : decode cX7_canGo 20 = .ok (.iload_n 3, 1) := by decide +kernel
theorem dX7_canGo_21 : decode cX7_canGo 21 = .ok (.iadd, 1) := by decide +kernel
theorem dX7_canGo_22 : decode cX7_canGo 22 = .ok (.aload_n 0, 1) := by decide +kernel
theorem dX7_canGo_23 : decode cX7_canGo 23 = .ok (.getfield 7, 3) := by decide +kernel
theorem dX7_canGo_26 : decode cX7_canGo 26 = .ok (.sipush 422, 3) := by decide +kernel
theorem dX7_canGo_29 : decode cX7_canGo 29 = .ok (.iaload, 1) := by decide +kernel
theorem dX7_canGo_30 : decode cX7_canGo 30 = .ok (.if_icmp .gt 7, 3) := by decide +kernel
theorem dX7_canGo_33 : decode cX7_canGo 33 = .ok (.iconst 1, 1) := by decide +kernel
theorem dX7_canGo_34 : decode cX7_canGo 34 = .ok (.goto 4, 3) := by decide +kernel
theorem dX7_canGo_37 : decode cX7_canGo 37 = .ok (.iconst 0, 1) := by decide +kernel
theorem dX7_canGo_38 : decode cX7_canGo 38 = .ok (.ireturn, 1) := by decide +kernel
theorem dX7_go_0 : decode cX7_go 0 = .ok (.aload_n 0, 1) := by decide +kernel
theorem dX7_go_1 : decode cX7_go 1 = .ok (.getfield 7, 3) := by decide +kernel
theorem dX7_go_4 : decode cX7_go 4 = .ok (.iconst 0, 1) := by decide +kernel
theorem dX7_go_5 : decode cX7_go 5 = .ok (.iload_n 1, 1) := by decide +kernel
theorem dX7_go_6 : decode cX7_go 6 = .ok (.iadd, 1) := by decide +kernel
theorem dX7_go_7 : decode cX7_go 7 = .ok (.dup2, 1) := by decide +kernel
theorem dX7_go_8 : decode cX7_go 8 = .ok (.iaload, 1) := by decide +kernel
theorem dX7_go_9 : decode cX7_go 9 = .ok (.iload_n 3, 1) := by decide +kernel
theorem dX7_go_10 : decode cX7_go 10 = .ok (.isub, 1) := by decide +kernel
theorem dX7_go_11 : decode cX7_go 11 = .ok (.iastore, 1) := by decide +kernel
theorem dX7_go_12 : decode cX7_go 12 = .ok (.aload_n 0, 1) := by decide +kernel
theorem dX7_go_13 : decode cX7_go 13 = .ok (.getfield 7, 3) := by decide +kernel
theorem dX7_go_16 : decode cX7_go 16 = .ok (.iconst 0, 1) := by decide +kernel
theorem dX7_go_17 : decode cX7_go 17 = .ok (.iload_n 2, 1) := by decide +kernel
theorem dX7_go_18 : decode cX7_go 18 = .ok (.iadd, 1) := by decide +kernel
theorem dX7_go_19 : decode cX7_go 19 = .ok (.dup2, 1) := by decide +kernel
theorem dX7_go_20 : decode cX7_go 20 = .ok (.iaload, 1) := by decide +kernel
theorem dX7_go_21 : decode cX7_go 21 = .ok (.iload_n 3, 1) := by decide +kernel
theorem dX7_go_22 : decode cX7_go 22 = .ok (.iadd, 1) := by decide +kernel
theorem dX7_go_23 : decode cX7_go 23 = .ok (.iastore, 1) := by decide +kernel
theorem dX7_go_24 : decode cX7_go 24 = .ok (.return_, 1) := by decide +kernel
theorem dX7_lend_0 : decode cX7_lend 0 = .ok (.aload_n 0, 1) := by decide +kernel
theorem dX7_lend_1 : decode cX7_lend 1 = .ok (.aload_n 0, 1) := by decide +kernel
theorem dX7_lend_2 : decode cX7_lend 2 = .ok (.iload_n 1, 1) := by decide +kernel
theorem dX7_lend_3 : decode cX7_lend 3 = .ok (.invokevirtual 45, 3) := by decide +kernel
theorem dX7_lend_6 : decode cX7_lend 6 = .ok (.ifCond .eq 11, 3) := by decide +kernel
theorem dX7_lend_9 : decode cX7_lend 9 = .ok (.aload_n 0, 1) := by decide +kernel
theorem dX7_lend_10 : decode cX7_lend 10 = .ok (.iload_n 2, 1) := by decide +kernel
theorem dX7_lend_11 : decode cX7_lend 11 = .ok (.invokevirtual 45, 3) := by decide +kernel
theorem dX7_lend_14 : decode cX7_lend 14 = .ok (.ifCond .ne 7, 3) := by decide +kernel
theorem dX7_lend_17 : decode cX7_lend 17 = .ok (.iconst 1, 1) := by decide +kernel
theorem dX7_lend_18 : decode cX7_lend 18 = .ok (.goto 38, 3) := by decide +kernel
theorem dX7_lend_21 : decode cX7_lend 21 = .ok (.iload_n 1, 1) := by decide +kernel
theorem dX7_lend_22 : decode cX7_lend 22 = .ok (.iload_n 2, 1) := by decide +kernel
theorem dX7_lend_23 : decode cX7_lend 23 = .ok (.if_icmp .eq 14, 3) := by decide +kernel
theorem dX7_lend_26 : decode cX7_lend 26 = .ok (.iload_n 3, 1) := by decide +kernel
theorem dX7_lend_27 : decode cX7_lend 27 = .ok (.iconst 1, 1) := by decide +kernel
theorem dX7_lend_28 : decode cX7_lend 28 = .ok (.sipush 200, 3) := by decide +kernel
theorem dX7_lend_31 : decode cX7_lend 31 = .ok (.invokestatic 41, 3) := by decide +kernel
theorem dX7_lend_34 : decode cX7_lend 34 = .ok (.ifCond .ne 7, 3) := by decide +kernel
theorem dX7_lend_37 : decode cX7_lend 37 = .ok (.iconst 2, 1) := by decide +kernel
theorem dX7_lend_38 : decode cX7_lend 38 = .ok (.goto 18, 3) := by decide +kernel
theorem dX7_lend_41 : decode cX7_lend 41 = .ok (.aload_n 0, 1) := by decide +kernel
theorem dX7_lend_42 : decode cX7_lend 42 = .ok (.iload_n 1, 1) := by decide +kernel
theorem dX7_lend_43 : decode cX7_lend 43 = .ok (.iload_n 2, 1) := by decide +kernel
theorem dX7_lend_44 : decode cX7_lend 44 = .ok (.iload_n 3, 1) := by decide +kernel
theorem dX7_lend_45 : decode cX7_lend 45 = .ok (.invokevirtual 116, 3) := by decide +kernel
theorem dX7_lend_48 : decode cX7_lend 48 = .ok (.ifCond .ne 7, 3) := by decide +kernel
theorem dX7_lend_51 : decode cX7_lend 51 = .ok (.iconst 3, 1) := by decide +kernel
theorem dX7_lend_52 : decode cX7_lend 52 = .ok (.goto 4, 3) := by decide +kernel
theorem dX7_lend_55 : decode cX7_lend 55 = .ok (.iconst 0, 1) := by decide +kernel
theorem dX7_lend_56 : decode cX7_lend 56 = .ok (.putfield 37, 3) := by decide +kernel
theorem dX7_lend_59 : decode cX7_lend 59 = .ok (.aload_n 0, 1) := by decide +kernel
theorem dX7_lend_60 : decode cX7_lend 60 = .ok (.getfield 37, 3) := by decide +kernel
theorem dX7_lend_63 : decode cX7_lend 63 = .ok (.ifCond .eq 5, 3) := by decide +kernel
theorem dX7_lend_66 : decode cX7_lend 66 = .ok (.iconst 0, 1) := by decide +kernel
theorem dX7_lend_67 : decode cX7_lend 67 = .ok (.ireturn, 1) := by decide +kernel
theorem dX7_lend_68 : decode cX7_lend 68 = .ok (.aload_n 0, 1) := by decide +kernel
theorem dX7_lend_69 : decode cX7_lend 69 = .ok (.invokevirtual 64, 3) := by decide +kernel
theorem dX7_lend_72 : decode cX7_lend 72 = .ok (.aload_n 0, 1) := by decide +kernel
theorem dX7_lend_73 : decode cX7_lend 73 = .ok (.iload_n 1, 1) := by decide +kernel
theorem dX7_lend_74 : decode cX7_lend 74 = .ok (.iload_n 2, 1) := by decide +kernel
theorem dX7_lend_75 : decode cX7_lend 75 = .ok (.iload_n 3, 1) := by decide +kernel
theorem dX7_lend_76 : decode cX7_lend 76 = .ok (.invokevirtual 119, 3) := by decide +kernel
theorem dX7_lend_79 : decode cX7_lend 79 = .ok (.aload_n 0, 1) := by decide +kernel
theorem dX7_lend_80 : decode cX7_lend 80 = .ok (.getfield 7, 3) := by decide +kernel
theorem dX7_lend_83 : decode cX7_lend 83 = .ok (.iload_n 2, 1) := by decide +kernel
theorem dX7_lend_84 : decode cX7_lend 84 = .ok (.iload_n 1, 1) := by decide +kernel
theorem dX7_lend_85 : decode cX7_lend 85 = .ok (.invokestatic 123, 3) := by decide +kernel
theorem dX7_lend_88 : decode cX7_lend 88 = .ok (.dup2, 1) := by decide +kernel
theorem dX7_lend_89 : decode cX7_lend 89 = .ok (.iaload, 1) := by decide +kernel
theorem dX7_lend_90 : decode cX7_lend 90 = .ok (.iload_n 3, 1) := by decide +kernel
theorem dX7_lend_91 : decode cX7_lend 91 = .ok (.iadd, 1) := by decide +kernel
theorem dX7_lend_92 : decode cX7_lend 92 = .ok (.iastore, 1) := by decide +kernel
theorem dX7_lend_93 : decode cX7_lend 93 = .ok (.aload_n 0, 1) := by decide +kernel
theorem dX7_lend_94 : decode cX7_lend 94 = .ok (.getfield 7, 3) := by decide +kernel
theorem dX7_lend_97 : decode cX7_lend 97 = .ok (.sipush 424, 3) := by decide +kernel
theorem dX7_lend_100 : decode cX7_lend 100 = .ok (.dup2, 1) := by decide +kernel
theorem dX7_lend_101 : decode cX7_lend 101 = .ok (.iaload, 1) := by decide +kernel
theorem dX7_lend_102 : decode cX7_lend 102 = .ok (.iload_n 3, 1) := by decide +kernel
theorem dX7_lend_103 : decode cX7_lend 103 = .ok (.iadd, 1) := by decide +kernel
theorem dX7_lend_104 : decode cX7_lend 104 = .ok (.iastore, 1) := by decide +kernel
theorem dX7_lend_105 : decode cX7_lend 105 = .ok (.aload_n 0, 1) := by decide +kernel
theorem dX7_lend_106 : decode cX7_lend 106 = .ok (.getfield 7, 3) := by decide +kernel
theorem dX7_lend_109 : decode cX7_lend 109 = .ok (.iload_n 2, 1) := by decide +kernel
theorem dX7_lend_110 : decode cX7_lend 110 = .ok (.iload_n 1, 1) := by decide +kernel
theorem dX7_lend_111 : decode cX7_lend 111 = .ok (.invokestatic 123, 3) := by decide +kernel
theorem dX7_lend_114 : decode cX7_lend 114 = .ok (.iaload, 1) := by decide +kernel
theorem dX7_lend_115 : decode cX7_lend 115 = .ok (.ireturn, 1) := by decide +kernel
theorem dX7_repay_0 : decode cX7_repay 0 = .ok (.aload_n 0, 1) := by decide +kernel
theorem dX7_repay_1 : decode cX7_repay 1 = .ok (.aload_n 0, 1) := by decide +kernel
theorem dX7_repay_2 : decode cX7_repay 2 = .ok (.iload_n 1, 1) := by decide +kernel
theorem dX7_repay_3 : decode cX7_repay 3 = .ok (.invokevirtual 45, 3) := by decide +kernel
theorem dX7_repay_6 : decode cX7_repay 6 = .ok (.ifCond .eq 11, 3) := by decide +kernel
theorem dX7_repay_9 : decode cX7_repay 9 = .ok (.aload_n 0, 1) := by decide +kernel
theorem dX7_repay_10 : decode cX7_repay 10 = .ok (.iload_n 2, 1) := by decide +kernel
theorem dX7_repay_11 : decode cX7_repay 11 = .ok (.invokevirtual 45, 3) := by decide +kernel
theorem dX7_repay_14 : decode cX7_repay 14 = .ok (.ifCond .ne 7, 3) := by decide +kernel
theorem dX7_repay_17 : decode cX7_repay 17 = .ok (.iconst 1, 1) := by decide +kernel
theorem dX7_repay_18 : decode cX7_repay 18 = .ok (.goto 52, 3) := by decide +kernel
theorem dX7_repay_21 : decode cX7_repay 21 = .ok (.iload_n 1, 1) := by decide +kernel
theorem dX7_repay_22 : decode cX7_repay 22 = .ok (.iload_n 2, 1) := by decide +kernel
theorem dX7_repay_23 : decode cX7_repay 23 = .ok (.if_icmp .eq 14, 3) := by decide +kernel
theorem dX7_repay_26 : decode cX7_repay 26 = .ok (.iload_n 3, 1) := by decide +kernel
theorem dX7_repay_27 : decode cX7_repay 27 = .ok (.iconst 1, 1) := by decide +kernel
theorem dX7_repay_28 : decode cX7_repay 28 = .ok (.sipush 200, 3) := by decide +kernel
theorem dX7_repay_31 : decode cX7_repay 31 = .ok (.invokestatic 41, 3) := by decide +kernel
theorem dX7_repay_34 : decode cX7_repay 34 = .ok (.ifCond .ne 7, 3) := by decide +kernel
theorem dX7_repay_37 : decode cX7_repay 37 = .ok (.iconst 2, 1) := by decide +kernel
theorem dX7_repay_38 : decode cX7_repay 38 = .ok (.goto 32, 3) := by decide +kernel
theorem dX7_repay_41 : decode cX7_repay 41 = .ok (.aload_n 0, 1) := by decide +kernel
theorem dX7_repay_42 : decode cX7_repay 42 = .ok (.getfield 7, 3) := by decide +kernel
theorem dX7_repay_45 : decode cX7_repay 45 = .ok (.iload_n 1, 1) := by decide +kernel
theorem dX7_repay_46 : decode cX7_repay 46 = .ok (.iload_n 2, 1) := by decide +kernel
theorem dX7_repay_47 : decode cX7_repay 47 = .ok (.invokestatic 123, 3) := by decide +kernel
theorem dX7_repay_50 : decode cX7_repay 50 = .ok (.iaload, 1) := by decide +kernel
theorem dX7_repay_51 : decode cX7_repay 51 = .ok (.iload_n 3, 1) := by decide +kernel
theorem dX7_repay_52 : decode cX7_repay 52 = .ok (.if_icmp .lt 13, 3) := by decide +kernel
theorem dX7_repay_55 : decode cX7_repay 55 = .ok (.aload_n 0, 1) := by decide +kernel
theorem dX7_repay_56 : decode cX7_repay 56 = .ok (.iload_n 1, 1) := by decide +kernel
theorem dX7_repay_57 : decode cX7_repay 57 = .ok (.iload_n 2, 1) := by decide +kernel
theorem dX7_repay_58 : decode cX7_repay 58 = .ok (.iload_n 3, 1) := by decide +kernel
theorem dX7_repay_59 : decode cX7_repay 59 = .ok (.invokevirtual 116, 3) := by decide +kernel
theorem dX7_repay_62 : decode cX7_repay 62 = .ok (.ifCond .ne 7, 3) := by decide +kernel
theorem dX7_repay_65 : decode cX7_repay 65 = .ok (.iconst 3, 1) := by decide +kernel
theorem dX7_repay_66 : decode cX7_repay 66 = .ok (.goto 4, 3) := by decide +kernel
theorem dX7_repay_69 : decode cX7_repay 69 = .ok (.iconst 0, 1) := by decide +kernel
theorem dX7_repay_70 : decode cX7_repay 70 = .ok (.putfield 37, 3) := by decide +kernel
theorem dX7_repay_73 : decode cX7_repay 73 = .ok (.aload_n 0, 1) := by decide +kernel
theorem dX7_repay_74 : decode cX7_repay 74 = .ok (.getfield 37, 3) := by decide +kernel
theorem dX7_repay_77 : decode cX7_repay 77 = .ok (.ifCond .eq 5, 3) := by decide +kernel
theorem dX7_repay_80 : decode cX7_repay 80 = .ok (.iconst 0, 1) := by decide +kernel
theorem dX7_repay_81 : decode cX7_repay 81 = .ok (.ireturn, 1) := by decide +kernel
theorem dX7_repay_82 : decode cX7_repay 82 = .ok (.aload_n 0, 1) := by decide +kernel
theorem dX7_repay_83 : decode cX7_repay 83 = .ok (.invokevirtual 64, 3) := by decide +kernel
theorem dX7_repay_86 : decode cX7_repay 86 = .ok (.aload_n 0, 1) := by decide +kernel
theorem dX7_repay_87 : decode cX7_repay 87 = .ok (.iload_n 1, 1) := by decide +kernel
theorem dX7_repay_88 : decode cX7_repay 88 = .ok (.iload_n 2, 1) := by decide +kernel
theorem dX7_repay_89 : decode cX7_repay 89 = .ok (.iload_n 3, 1) := by decide +kernel
theorem dX7_repay_90 : decode cX7_repay 90 = .ok (.invokevirtual 119, 3) := by decide +kernel
theorem dX7_repay_93 : decode cX7_repay 93 = .ok (.aload_n 0, 1) := by decide +kernel
theorem dX7_repay_94 : decode cX7_repay 94 = .ok (.getfield 7, 3) := by decide +kernel
theorem dX7_repay_97 : decode cX7_repay 97 = .ok (.iload_n 1, 1) := by decide +kernel
theorem dX7_repay_98 : decode cX7_repay 98 = .ok (.iload_n 2, 1) := by decide +kernel
theorem dX7_repay_99 : decode cX7_repay 99 = .ok (.invokestatic 123, 3) := by decide +kernel
theorem dX7_repay_102 : decode cX7_repay 102 = .ok (.dup2, 1) := by decide +kernel
theorem dX7_repay_103 : decode cX7_repay 103 = .ok (.iaload, 1) := by decide +kernel
theorem dX7_repay_104 : decode cX7_repay 104 = .ok (.iload_n 3, 1) := by decide +kernel
theorem dX7_repay_105 : decode cX7_repay 105 = .ok (.isub, 1) := by decide +kernel
theorem dX7_repay_106 : decode cX7_repay 106 = .ok (.iastore, 1) := by decide +kernel
theorem dX7_repay_107 : decode cX7_repay 107 = .ok (.aload_n 0, 1) := by decide +kernel
theorem dX7_repay_108 : decode cX7_repay 108 = .ok (.getfield 7, 3) := by decide +kernel
theorem dX7_repay_111 : decode cX7_repay 111 = .ok (.sipush 425, 3) := by decide +kernel
theorem dX7_repay_114 : decode cX7_repay 114 = .ok (.dup2, 1) := by decide +kernel
theorem dX7_repay_115 : decode cX7_repay 115 = .ok (.iaload, 1) := by decide +kernel
theorem dX7_repay_116 : decode cX7_repay 116 = .ok (.iload_n 3, 1) := by decide +kernel
theorem dX7_repay_117 : decode cX7_repay 117 = .ok (.iadd, 1) := by decide +kernel
theorem dX7_repay_118 : decode cX7_repay 118 = .ok (.iastore, 1) := by decide +kernel
theorem dX7_repay_119 : decode cX7_repay 119 = .ok (.aload_n 0, 1) := by decide +kernel
theorem dX7_repay_120 : decode cX7_repay 120 = .ok (.getfield 7, 3) := by decide +kernel
theorem dX7_repay_123 : decode cX7_repay 123 = .ok (.iload_n 1, 1) := by decide +kernel
theorem dX7_repay_124 : decode cX7_repay 124 = .ok (.iload_n 2, 1) := by decide +kernel
theorem dX7_repay_125 : decode cX7_repay 125 = .ok (.invokestatic 123, 3) := by decide +kernel
theorem dX7_repay_128 : decode cX7_repay 128 = .ok (.iaload, 1) := by decide +kernel
theorem dX7_repay_129 : decode cX7_repay 129 = .ok (.ireturn, 1) := by decide +kernel
theorem dX7_debt_0 : decode cX7_debt 0 = .ok (.aload_n 0, 1) := by decide +kernel
theorem dX7_debt_1 : decode cX7_debt 1 = .ok (.aload_n 0, 1) := by decide +kernel
theorem dX7_debt_2 : decode cX7_debt 2 = .ok (.iload_n 1, 1) := by decide +kernel
theorem dX7_debt_3 : decode cX7_debt 3 = .ok (.invokevirtual 45, 3) := by decide +kernel
theorem dX7_debt_6 : decode cX7_debt 6 = .ok (.ifCond .eq 15, 3) := by decide +kernel
theorem dX7_debt_9 : decode cX7_debt 9 = .ok (.aload_n 0, 1) := by decide +kernel
theorem dX7_debt_10 : decode cX7_debt 10 = .ok (.iload_n 2, 1) := by decide +kernel
theorem dX7_debt_11 : decode cX7_debt 11 = .ok (.invokevirtual 45, 3) := by decide +kernel
theorem dX7_debt_14 : decode cX7_debt 14 = .ok (.ifCond .eq 7, 3) := by decide +kernel
theorem dX7_debt_17 : decode cX7_debt 17 = .ok (.iconst 0, 1) := by decide +kernel
theorem dX7_debt_18 : decode cX7_debt 18 = .ok (.goto 4, 3) := by decide +kernel
theorem dX7_debt_21 : decode cX7_debt 21 = .ok (.iconst 1, 1) := by decide +kernel
theorem dX7_debt_22 : decode cX7_debt 22 = .ok (.putfield 37, 3) := by decide +kernel
theorem dX7_debt_25 : decode cX7_debt 25 = .ok (.aload_n 0, 1) := by decide +kernel
theorem dX7_debt_26 : decode cX7_debt 26 = .ok (.getfield 37, 3) := by decide +kernel
theorem dX7_debt_29 : decode cX7_debt 29 = .ok (.ifCond .ne 16, 3) := by decide +kernel
theorem dX7_debt_32 : decode cX7_debt 32 = .ok (.aload_n 0, 1) := by decide +kernel
theorem dX7_debt_33 : decode cX7_debt 33 = .ok (.getfield 7, 3) := by decide +kernel
theorem dX7_debt_36 : decode cX7_debt 36 = .ok (.iload_n 1, 1) := by decide +kernel
theorem dX7_debt_37 : decode cX7_debt 37 = .ok (.iload_n 2, 1) := by decide +kernel
theorem dX7_debt_38 : decode cX7_debt 38 = .ok (.invokestatic 123, 3) := by decide +kernel
theorem dX7_debt_41 : decode cX7_debt 41 = .ok (.iaload, 1) := by decide +kernel
theorem dX7_debt_42 : decode cX7_debt 42 = .ok (.goto 4, 3) := by decide +kernel
theorem dX7_debt_45 : decode cX7_debt 45 = .ok (.iconst 0, 1) := by decide +kernel
theorem dX7_debt_46 : decode cX7_debt 46 = .ok (.ireturn, 1) := by decide +kernel
theorem dX7_isNew_0 : decode cX7_isNew 0 = .ok (.iload_n 1, 1) := by decide +kernel
theorem dX7_isNew_1 : decode cX7_isNew 1 = .ok (.aload_n 0, 1) := by decide +kernel
theorem dX7_isNew_2 : decode cX7_isNew 2 = .ok (.getfield 22, 3) := by decide +kernel
theorem dX7_isNew_5 : decode cX7_isNew 5 = .ok (.iconst 0, 1) := by decide +kernel
theorem dX7_isNew_6 : decode cX7_isNew 6 = .ok (.iaload, 1) := by decide +kernel
theorem dX7_isNew_7 : decode cX7_isNew 7 = .ok (.if_icmp .le 7, 3) := by decide +kernel
theorem dX7_isNew_10 : decode cX7_isNew 10 = .ok (.iconst 1, 1) := by decide +kernel
theorem dX7_isNew_11 : decode cX7_isNew 11 = .ok (.goto 4, 3) := by decide +kernel
theorem dX7_isNew_14 : decode cX7_isNew 14 = .ok (.iconst 0, 1) := by decide +kernel
theorem dX7_isNew_15 : decode cX7_isNew 15 = .ok (.istore_n 3, 1) := by decide +kernel
theorem dX7_isNew_16 : decode cX7_isNew 16 = .ok (.iconst 0, 1) := by decide +kernel
theorem dX7_isNew_17 : decode cX7_isNew 17 = .ok (.istore 4, 2) := by decide +kernel
theorem dX7_isNew_19 : decode cX7_isNew 19 = .ok (.iload 4, 2) := by decide +kernel
theorem dX7_isNew_21 : decode cX7_isNew 21 = .ok (.iload_n 2, 1) := by decide +kernel
theorem dX7_isNew_22 : decode cX7_isNew 22 = .ok (.if_icmp .ge 30, 3) := by decide +kernel
theorem dX7_isNew_25 : decode cX7_isNew 25 = .ok (.iload_n 3, 1) := by decide +kernel
theorem dX7_isNew_26 : decode cX7_isNew 26 = .ok (.ifCond .eq 18, 3) := by decide +kernel
theorem dX7_isNew_29 : decode cX7_isNew 29 = .ok (.aload_n 0, 1) := by decide +kernel
theorem dX7_isNew_30 : decode cX7_isNew 30 = .ok (.getfield 22, 3) := by decide +kernel
theorem dX7_isNew_33 : decode cX7_isNew 33 = .ok (.iload 4, 2) := by decide +kernel
theorem dX7_isNew_35 : decode cX7_isNew 35 = .ok (.iaload, 1) := by decide +kernel
theorem dX7_isNew_36 : decode cX7_isNew 36 = .ok (.iload_n 1, 1) := by decide +kernel
theorem dX7_isNew_37 : decode cX7_isNew 37 = .ok (.if_icmp .eq 7, 3) := by decide +kernel
theorem dX7_isNew_40 : decode cX7_isNew 40 = .ok (.iconst 1, 1) := by decide +kernel
theorem dX7_isNew_41 : decode cX7_isNew 41 = .ok (.goto 4, 3) := by decide +kernel
theorem dX7_isNew_44 : decode cX7_isNew 44 = .ok (.iconst 0, 1) := by decide +kernel
theorem dX7_isNew_45 : decode cX7_isNew 45 = .ok (.istore_n 3, 1) := by decide +kernel
theorem dX7_isNew_46 : decode cX7_isNew 46 = .ok (.iinc 4 1, 3) := by decide +kernel
theorem dX7_isNew_49 : decode cX7_isNew 49 = .ok (.goto (-30), 3) := by decide +kernel
theorem dX7_isNew_52 : decode cX7_isNew 52 = .ok (.iload_n 3, 1) := by decide +kernel
theorem dX7_isNew_53 : decode cX7_isNew 53 = .ok (.ireturn, 1) := by decide +kernel
theorem dX7_nextAt_0 : decode cX7_nextAt 0 = .ok (.aload_n 0, 1) := by decide +kernel
theorem dX7_nextAt_1 : decode cX7_nextAt 1 = .ok (.getfield 22, 3) := by decide +kernel
theorem dX7_nextAt_4 : decode cX7_nextAt 4 = .ok (.iload_n 1, 1) := by decide +kernel
theorem dX7_nextAt_5 : decode cX7_nextAt 5 = .ok (.iaload, 1) := by decide +kernel
theorem dX7_nextAt_6 : decode cX7_nextAt 6 = .ok (.iconst 1, 1) := by decide +kernel
theorem dX7_nextAt_7 : decode cX7_nextAt 7 = .ok (.iadd, 1) := by decide +kernel
theorem dX7_nextAt_8 : decode cX7_nextAt 8 = .ok (.istore_n 2, 1) := by decide +kernel
theorem dX7_nextAt_9 : decode cX7_nextAt 9 = .ok (.iload_n 2, 1) := by decide +kernel
theorem dX7_nextAt_10 : decode cX7_nextAt 10 = .ok (.aload_n 0, 1) := by decide +kernel
theorem dX7_nextAt_11 : decode cX7_nextAt 11 = .ok (.getfield 7, 3) := by decide +kernel
theorem dX7_nextAt_14 : decode cX7_nextAt 14 = .ok (.sipush 423, 3) := by decide +kernel
theorem dX7_nextAt_17 : decode cX7_nextAt 17 = .ok (.iaload, 1) := by decide +kernel
theorem dX7_nextAt_18 : decode cX7_nextAt 18 = .ok (.if_icmp .ge 40, 3) := by decide +kernel
theorem dX7_nextAt_21 : decode cX7_nextAt 21 = .ok (.aload_n 0, 1) := by decide +kernel
theorem dX7_nextAt_22 : decode cX7_nextAt 22 = .ok (.getfield 7, 3) := by decide +kernel
theorem dX7_nextAt_25 : decode cX7_nextAt 25 = .ok (.aload_n 0, 1) := by decide +kernel
theorem dX7_nextAt_26 : decode cX7_nextAt 26 = .ok (.getfield 22, 3) := by decide +kernel
theorem dX7_nextAt_29 : decode cX7_nextAt 29 = .ok (.iload_n 1, 1) := by decide +kernel
theorem dX7_nextAt_30 : decode cX7_nextAt 30 = .ok (.iconst 1, 1) := by decide +kernel
theorem dX7_nextAt_31 : decode cX7_nextAt 31 = .ok (.isub, 1) := by decide +kernel
theorem dX7_nextAt_32 : decode cX7_nextAt 32 = .ok (.iaload, 1) := by decide +kernel
theorem dX7_nextAt_33 : decode cX7_nextAt 33 = .ok (.iload_n 2, 1) := by decide +kernel
theorem dX7_nextAt_34 : decode cX7_nextAt 34 = .ok (.invokestatic 123, 3) := by decide +kernel
theorem dX7_nextAt_37 : decode cX7_nextAt 37 = .ok (.iaload, 1) := by decide +kernel
theorem dX7_nextAt_38 : decode cX7_nextAt 38 = .ok (.ifCond .le 14, 3) := by decide +kernel
theorem dX7_nextAt_41 : decode cX7_nextAt 41 = .ok (.aload_n 0, 1) := by decide +kernel
theorem dX7_nextAt_42 : decode cX7_nextAt 42 = .ok (.iload_n 2, 1) := by decide +kernel
theorem dX7_nextAt_43 : decode cX7_nextAt 43 = .ok (.iload_n 1, 1) := by decide +kernel
theorem dX7_nextAt_44 : decode cX7_nextAt 44 = .ok (.invokevirtual 126, 3) := by decide +kernel
theorem dX7_nextAt_47 : decode cX7_nextAt 47 = .ok (.ifCond .eq 5, 3) := by decide +kernel
theorem dX7_nextAt_50 : decode cX7_nextAt 50 = .ok (.iload_n 2, 1) := by decide +kernel
theorem dX7_nextAt_51 : decode cX7_nextAt 51 = .ok (.ireturn, 1) := by decide +kernel
theorem dX7_nextAt_52 : decode cX7_nextAt 52 = .ok (.iinc 2 1, 3) := by decide +kernel
theorem dX7_nextAt_55 : decode cX7_nextAt 55 = .ok (.goto (-46), 3) := by decide +kernel
theorem dX7_nextAt_58 : decode cX7_nextAt 58 = .ok (.iconst (-1), 1) := by decide +kernel
theorem dX7_nextAt_59 : decode cX7_nextAt 59 = .ok (.ireturn, 1) := by decide +kernel
theorem dX7_closes_0 : decode cX7_closes 0 = .ok (.iconst 1, 1) := by decide +kernel
theorem dX7_closes_1 : decode cX7_closes 1 = .ok (.istore_n 2, 1) := by decide +kernel
theorem dX7_closes_2 : decode cX7_closes 2 = .ok (.aload_n 0, 1) := by decide +kernel
theorem dX7_closes_3 : decode cX7_closes 3 = .ok (.getfield 22, 3) := by decide +kernel
theorem dX7_closes_6 : decode cX7_closes 6 = .ok (.iconst 1, 1) := by decide +kernel
theorem dX7_closes_7 : decode cX7_closes 7 = .ok (.iconst (-1), 1) := by decide +kernel
theorem dX7_closes_8 : decode cX7_closes 8 = .ok (.iastore, 1) := by decide +kernel
theorem dX7_closes_9 : decode cX7_closes 9 = .ok (.iload_n 2, 1) := by decide +kernel
theorem dX7_closes_10 : decode cX7_closes 10 = .ok (.ifCond .le 75, 3) := by decide +kernel
theorem dX7_closes_13 : decode cX7_closes 13 = .ok (.aload_n 0, 1) := by decide +kernel
theorem dX7_closes_14 : decode cX7_closes 14 = .ok (.getfield 22, 3) := by decide +kernel
theorem dX7_closes_17 : decode cX7_closes 17 = .ok (.iload_n 2, 1) := by decide +kernel
theorem dX7_closes_18 : decode cX7_closes 18 = .ok (.aload_n 0, 1) := by decide +kernel
theorem dX7_closes_19 : decode cX7_closes 19 = .ok (.iload_n 2, 1) := by decide +kernel
theorem dX7_closes_20 : decode cX7_closes 20 = .ok (.invokevirtual 129, 3) := by decide +kernel
theorem dX7_closes_23 : decode cX7_closes 23 = .ok (.iastore, 1) := by decide +kernel
theorem dX7_closes_24 : decode cX7_closes 24 = .ok (.aload_n 0, 1) := by decide +kernel
theorem dX7_closes_25 : decode cX7_closes 25 = .ok (.getfield 22, 3) := by decide +kernel
theorem dX7_closes_28 : decode cX7_closes 28 = .ok (.iload_n 2, 1) := by decide +kernel
theorem dX7_closes_29 : decode cX7_closes 29 = .ok (.iaload, 1) := by decide +kernel
theorem dX7_closes_30 : decode cX7_closes 30 = .ok (.iconst (-1), 1) := by decide +kernel
theorem dX7_closes_31 : decode cX7_closes 31 = .ok (.if_icmp .ne 9, 3) := by decide +kernel
theorem dX7_closes_34 : decode cX7_closes 34 = .ok (.iinc 2 (-1), 3) := by decide +kernel
theorem dX7_closes_37 : decode cX7_closes 37 = .ok (.goto (-28), 3) := by decide +kernel
theorem dX7_closes_40 : decode cX7_closes 40 = .ok (.iload_n 2, 1) := by decide +kernel
theorem dX7_closes_41 : decode cX7_closes 41 = .ok (.iconst 1, 1) := by decide +kernel
theorem dX7_closes_42 : decode cX7_closes 42 = .ok (.iadd, 1) := by decide +kernel
theorem dX7_closes_43 : decode cX7_closes 43 = .ok (.iload_n 1, 1) := by decide +kernel
theorem dX7_closes_44 : decode cX7_closes 44 = .ok (.if_icmp .ge 16, 3) := by decide +kernel
theorem dX7_closes_47 : decode cX7_closes 47 = .ok (.iinc 2 1, 3) := by decide +kernel
theorem dX7_closes_50 : decode cX7_closes 50 = .ok (.aload_n 0, 1) := by decide +kernel
theorem dX7_closes_51 : decode cX7_closes 51 = .ok (.getfield 22, 3) := by decide +kernel
theorem dX7_closes_54 : decode cX7_closes 54 = .ok (.iload_n 2, 1) := by decide +kernel
theorem dX7_closes_55 : decode cX7_closes 55 = .ok (.iconst (-1), 1) := by decide +kernel
theorem dX7_closes_56 : decode cX7_closes 56 = .ok (.iastore, 1) := by decide +kernel
theorem dX7_closes_57 : decode cX7_closes 57 = .ok (.goto (-48), 3) := by decide +kernel
theorem dX7_closes_60 : decode cX7_closes 60 = .ok (.aload_n 0, 1) := by decide +kernel
theorem dX7_closes_61 : decode cX7_closes 61 = .ok (.getfield 7, 3) := by decide +kernel
theorem dX7_closes_64 : decode cX7_closes 64 = .ok (.aload_n 0, 1) := by decide +kernel
theorem dX7_closes_65 : decode cX7_closes 65 = .ok (.getfield 22, 3) := by decide +kernel
theorem dX7_closes_68 : decode cX7_closes 68 = .ok (.iload_n 2, 1) := by decide +kernel
theorem dX7_closes_69 : decode cX7_closes 69 = .ok (.iaload, 1) := by decide +kernel
theorem dX7_closes_70 : decode cX7_closes 70 = .ok (.aload_n 0, 1) := by decide +kernel
theorem dX7_closes_71 : decode cX7_closes 71 = .ok (.getfield 22, 3) := by decide +kernel
theorem dX7_closes_74 : decode cX7_closes 74 = .ok (.iconst 0, 1) := by decide +kernel
theorem dX7_closes_75 : decode cX7_closes 75 = .ok (.iaload, 1) := by decide +kernel
theorem dX7_closes_76 : decode cX7_closes 76 = .ok (.invokestatic 123, 3) := by decide +kernel
theorem dX7_closes_79 : decode cX7_closes 79 = .ok (.iaload, 1) := by decide +kernel
theorem dX7_closes_80 : decode cX7_closes 80 = .ok (.ifCond .le (-71), 3) := by decide +kernel
theorem dX7_closes_83 : decode cX7_closes 83 = .ok (.iconst 1, 1) := by decide +kernel
theorem dX7_closes_84 : decode cX7_closes 84 = .ok (.ireturn, 1) := by decide +kernel
theorem dX7_closes_85 : decode cX7_closes 85 = .ok (.iconst 0, 1) := by decide +kernel
theorem dX7_closes_86 : decode cX7_closes 86 = .ok (.ireturn, 1) := by decide +kernel
theorem dX7_findsRing_0 : decode cX7_findsRing 0 = .ok (.iconst 2, 1) := by decide +kernel
theorem dX7_findsRing_1 : decode cX7_findsRing 1 = .ok (.istore_n 1, 1) := by decide +kernel
theorem dX7_findsRing_2 : decode cX7_findsRing 2 = .ok (.iload_n 1, 1) := by decide +kernel
theorem dX7_findsRing_3 : decode cX7_findsRing 3 = .ok (.aload_n 0, 1) := by decide +kernel
theorem dX7_findsRing_4 : decode cX7_findsRing 4 = .ok (.getfield 7, 3) := by decide +kernel
theorem dX7_findsRing_7 : decode cX7_findsRing 7 = .ok (.sipush 423, 3) := by decide +kernel
theorem dX7_findsRing_10 : decode cX7_findsRing 10 = .ok (.iaload, 1) := by decide +kernel
theorem dX7_findsRing_11 : decode cX7_findsRing 11 = .ok (.if_icmp .gt 51, 3) := by decide +kernel
theorem dX7_findsRing_14 : decode cX7_findsRing 14 = .ok (.iconst 0, 1) := by decide +kernel
theorem dX7_findsRing_15 : decode cX7_findsRing 15 = .ok (.istore_n 2, 1) := by decide +kernel
theorem dX7_findsRing_16 : decode cX7_findsRing 16 = .ok (.iload_n 2, 1) := by decide +kernel
theorem dX7_findsRing_17 : decode cX7_findsRing 17 = .ok (.aload_n 0, 1) := by decide +kernel
theorem dX7_findsRing_18 : decode cX7_findsRing 18 = .ok (.getfield 7, 3) := by decide +kernel
theorem dX7_findsRing_21 : decode cX7_findsRing 21 = .ok (.sipush 423, 3) := by decide +kernel
theorem dX7_findsRing_24 : decode cX7_findsRing 24 = .ok (.iaload, 1) := by decide +kernel
theorem dX7_findsRing_25 : decode cX7_findsRing 25 = .ok (.if_icmp .ge 31, 3) := by decide +kernel
theorem dX7_findsRing_28 : decode cX7_findsRing 28 = .ok (.aload_n 0, 1) := by decide +kernel
theorem dX7_findsRing_29 : decode cX7_findsRing 29 = .ok (.getfield 22, 3) := by decide +kernel
theorem dX7_findsRing_32 : decode cX7_findsRing 32 = .ok (.iconst 0, 1) := by decide +kernel
theorem dX7_findsRing_33 : decode cX7_findsRing 33 = .ok (.iload_n 2, 1) := by decide +kernel
theorem dX7_findsRing_34 : decode cX7_findsRing 34 = .ok (.iastore, 1) := by decide +kernel
theorem dX7_findsRing_35 : decode cX7_findsRing 35 = .ok (.aload_n 0, 1) := by decide +kernel
theorem dX7_findsRing_36 : decode cX7_findsRing 36 = .ok (.iload_n 1, 1) := by decide +kernel
theorem dX7_findsRing_37 : decode cX7_findsRing 37 = .ok (.invokevirtual 132, 3) := by decide +kernel
theorem dX7_findsRing_40 : decode cX7_findsRing 40 = .ok (.ifCond .eq 10, 3) := by decide +kernel
theorem dX7_findsRing_43 : decode cX7_findsRing 43 = .ok (.aload_n 0, 1) := by decide +kernel
theorem dX7_findsRing_44 : decode cX7_findsRing 44 = .ok (.iload_n 1, 1) := by decide +kernel
theorem dX7_findsRing_45 : decode cX7_findsRing 45 = .ok (.putfield 135, 3) := by decide +kernel
theorem dX7_findsRing_48 : decode cX7_findsRing 48 = .ok (.iconst 1, 1) := by decide +kernel
theorem dX7_findsRing_49 : decode cX7_findsRing 49 = .ok (.ireturn, 1) := by decide +kernel
theorem dX7_findsRing_50 : decode cX7_findsRing 50 = .ok (.iinc 2 1, 3) := by decide +kernel
theorem dX7_findsRing_53 : decode cX7_findsRing 53 = .ok (.goto (-37), 3) := by decide +kernel
theorem dX7_findsRing_56 : decode cX7_findsRing 56 = .ok (.iinc 1 1, 3) := by decide +kernel
theorem dX7_findsRing_59 : decode cX7_findsRing 59 = .ok (.goto (-57), 3) := by decide +kernel
theorem dX7_findsRing_62 : decode cX7_findsRing 62 = .ok (.aload_n 0, 1) := by decide +kernel
theorem dX7_findsRing_63 : decode cX7_findsRing 63 = .ok (.iconst 0, 1) := by decide +kernel
theorem dX7_findsRing_64 : decode cX7_findsRing 64 = .ok (.putfield 135, 3) := by decide +kernel
theorem dX7_findsRing_67 : decode cX7_findsRing 67 = .ok (.iconst 0, 1) := by decide +kernel
theorem dX7_findsRing_68 : decode cX7_findsRing 68 = .ok (.ireturn, 1) := by decide +kernel
theorem dX7_leastOfRing_0 : decode cX7_leastOfRing 0 = .ok (.aload_n 0, 1) := by decide +kernel
theorem dX7_leastOfRing_1 : decode cX7_leastOfRing 1 = .ok (.getfield 7, 3) := by decide +kernel
theorem dX7_leastOfRing_4 : decode cX7_leastOfRing 4 = .ok (.aload_n 0, 1) := by decide +kernel
theorem dX7_leastOfRing_5 : decode cX7_leastOfRing 5 = .ok (.getfield 22, 3) := by decide +kernel
theorem dX7_leastOfRing_8 : decode cX7_leastOfRing 8 = .ok (.iconst 0, 1) := by decide +kernel
theorem dX7_leastOfRing_9 : decode cX7_leastOfRing 9 = .ok (.iaload, 1) := by decide +kernel
theorem dX7_leastOfRing_10 : decode cX7_leastOfRing 10 = .ok (.aload_n 0, 1) := by decide +kernel
theorem dX7_leastOfRing_11 : decode cX7_leastOfRing 11 = .ok (.getfield 22, 3) := by decide +kernel
theorem dX7_leastOfRing_14 : decode cX7_leastOfRing 14 = .ok (.iconst 1, 1) := by decide +kernel
theorem dX7_leastOfRing_15 : decode cX7_leastOfRing 15 = .ok (.iaload, 1) := by decide +kernel
theorem dX7_leastOfRing_16 : decode cX7_leastOfRing 16 = .ok (.invokestatic 123, 3) := by decide +kernel
theorem dX7_leastOfRing_19 : decode cX7_leastOfRing 19 = .ok (.iaload, 1) := by decide +kernel
theorem dX7_leastOfRing_20 : decode cX7_leastOfRing 20 = .ok (.istore_n 1, 1) := by decide +kernel
theorem dX7_leastOfRing_21 : decode cX7_leastOfRing 21 = .ok (.iconst 1, 1) := by decide +kernel
theorem dX7_leastOfRing_22 : decode cX7_leastOfRing 22 = .ok (.istore_n 2, 1) := by decide +kernel
theorem dX7_leastOfRing_23 : decode cX7_leastOfRing 23 = .ok (.iload_n 2, 1) := by decide +kernel
theorem dX7_leastOfRing_24 : decode cX7_leastOfRing 24 = .ok (.aload_n 0, 1) := by decide +kernel
theorem dX7_leastOfRing_25 : decode cX7_leastOfRing 25 = .ok (.getfield 135, 3) := by decide +kernel
theorem dX7_leastOfRing_28 : decode cX7_leastOfRing 28 = .ok (.if_icmp .ge 48, 3) := by decide +kernel
theorem dX7_leastOfRing_31 : decode cX7_leastOfRing 31 = .ok (.aload_n 0, 1) := by decide +kernel
theorem dX7_leastOfRing_32 : decode cX7_leastOfRing 32 = .ok (.getfield 7, 3) := by decide +kernel
theorem dX7_leastOfRing_35 : decode cX7_leastOfRing 35 = .ok (.aload_n 0, 1) := by decide +kernel
theorem dX7_leastOfRing_36 : decode cX7_leastOfRing 36 = .ok (.getfield 22, 3) := by decide +kernel
theorem dX7_leastOfRing_39 : decode cX7_leastOfRing 39 = .ok (.iload_n 2, 1) := by decide +kernel
theorem dX7_leastOfRing_40 : decode cX7_leastOfRing 40 = .ok (.iaload, 1) := by decide +kernel
theorem dX7_leastOfRing_41 : decode cX7_leastOfRing 41 = .ok (.aload_n 0, 1) := by decide +kernel
theorem dX7_leastOfRing_42 : decode cX7_leastOfRing 42 = .ok (.getfield 22, 3) := by decide +kernel
theorem dX7_leastOfRing_45 : decode cX7_leastOfRing 45 = .ok (.iload_n 2, 1) := by decide +kernel
theorem dX7_leastOfRing_46 : decode cX7_leastOfRing 46 = .ok (.iconst 1, 1) := by decide +kernel
theorem dX7_leastOfRing_47 : decode cX7_leastOfRing 47 = .ok (.iadd, 1) := by decide +kernel
theorem dX7_leastOfRing_48 : decode cX7_leastOfRing 48 = .ok (.aload_n 0, 1) := by decide +kernel
theorem dX7_leastOfRing_49 : decode cX7_leastOfRing 49 = .ok (.getfield 135, 3) := by decide +kernel
theorem dX7_leastOfRing_52 : decode cX7_leastOfRing 52 = .ok (.irem, 1) := by decide +kernel
theorem dX7_leastOfRing_53 : decode cX7_leastOfRing 53 = .ok (.iaload, 1) := by decide +kernel
theorem dX7_leastOfRing_54 : decode cX7_leastOfRing 54 = .ok (.invokestatic 123, 3) := by decide +kernel
theorem dX7_leastOfRing_57 : decode cX7_leastOfRing 57 = .ok (.iaload, 1) := by decide +kernel
theorem dX7_leastOfRing_58 : decode cX7_leastOfRing 58 = .ok (.istore_n 3, 1) := by decide +kernel
theorem dX7_leastOfRing_59 : decode cX7_leastOfRing 59 = .ok (.iload_n 3, 1) := by decide +kernel
theorem dX7_leastOfRing_60 : decode cX7_leastOfRing 60 = .ok (.iload_n 1, 1) := by decide +kernel
theorem dX7_leastOfRing_61 : decode cX7_leastOfRing 61 = .ok (.if_icmp .ge 7, 3) := by decide +kernel
theorem dX7_leastOfRing_64 : decode cX7_leastOfRing 64 = .ok (.iload_n 3, 1) := by decide +kernel
theorem dX7_leastOfRing_65 : decode cX7_leastOfRing 65 = .ok (.goto 4, 3) := by decide +kernel
theorem dX7_leastOfRing_68 : decode cX7_leastOfRing 68 = .ok (.iload_n 1, 1) := by decide +kernel
theorem dX7_leastOfRing_69 : decode cX7_leastOfRing 69 = .ok (.istore_n 1, 1) := by decide +kernel
theorem dX7_leastOfRing_70 : decode cX7_leastOfRing 70 = .ok (.iinc 2 1, 3) := by decide +kernel
theorem dX7_leastOfRing_73 : decode cX7_leastOfRing 73 = .ok (.goto (-50), 3) := by decide +kernel
theorem dX7_leastOfRing_76 : decode cX7_leastOfRing 76 = .ok (.iload_n 1, 1) := by decide +kernel
theorem dX7_leastOfRing_77 : decode cX7_leastOfRing 77 = .ok (.ireturn, 1) := by decide +kernel
theorem dX7_settle_0 : decode cX7_settle 0 = .ok (.aload_n 0, 1) := by decide +kernel
theorem dX7_settle_1 : decode cX7_settle 1 = .ok (.iconst 0, 1) := by decide +kernel
theorem dX7_settle_2 : decode cX7_settle 2 = .ok (.putfield 37, 3) := by decide +kernel
theorem dX7_settle_5 : decode cX7_settle 5 = .ok (.aload_n 0, 1) := by decide +kernel
theorem dX7_settle_6 : decode cX7_settle 6 = .ok (.invokevirtual 64, 3) := by decide +kernel
theorem dX7_settle_9 : decode cX7_settle 9 = .ok (.iconst 0, 1) := by decide +kernel
theorem dX7_settle_10 : decode cX7_settle 10 = .ok (.istore_n 1, 1) := by decide +kernel
theorem dX7_settle_11 : decode cX7_settle 11 = .ok (.aload_n 0, 1) := by decide +kernel
theorem dX7_settle_12 : decode cX7_settle 12 = .ok (.invokevirtual 138, 3) := by decide +kernel
theorem dX7_settle_15 : decode cX7_settle 15 = .ok (.ifCond .eq 90, 3) := by decide +kernel
theorem dX7_settle_18 : decode cX7_settle 18 = .ok (.aload_n 0, 1) := by decide +kernel
theorem dX7_settle_19 : decode cX7_settle 19 = .ok (.invokevirtual 142, 3) := by decide +kernel
theorem dX7_settle_22 : decode cX7_settle 22 = .ok (.istore_n 2, 1) := by decide +kernel
theorem dX7_settle_23 : decode cX7_settle 23 = .ok (.iconst 0, 1) := by decide +kernel
theorem dX7_settle_24 : decode cX7_settle 24 = .ok (.istore_n 3, 1) := by decide +kernel
theorem dX7_settle_25 : decode cX7_settle 25 = .ok (.iload_n 3, 1) := by decide +kernel
theorem dX7_settle_26 : decode cX7_settle 26 = .ok (.aload_n 0, 1) := by decide +kernel
theorem dX7_settle_27 : decode cX7_settle 27 = .ok (.getfield 135, 3) := by decide +kernel
theorem dX7_settle_30 : decode cX7_settle 30 = .ok (.if_icmp .ge 40, 3) := by decide +kernel
theorem dX7_settle_33 : decode cX7_settle 33 = .ok (.aload_n 0, 1) := by decide +kernel
theorem dX7_settle_34 : decode cX7_settle 34 = .ok (.getfield 7, 3) := by decide +kernel
theorem dX7_settle_37 : decode cX7_settle 37 = .ok (.aload_n 0, 1) := by decide +kernel
theorem dX7_settle_38 : decode cX7_settle 38 = .ok (.getfield 22, 3) := by decide +kernel
theorem dX7_settle_41 : decode cX7_settle 41 = .ok (.iload_n 3, 1) := by decide +kernel
theorem dX7_settle_42 : decode cX7_settle 42 = .ok (.iaload, 1) := by decide +kernel
theorem dX7_settle_43 : decode cX7_settle 43 = .ok (.aload_n 0, 1) := by decide +kernel
theorem dX7_settle_44 : decode cX7_settle 44 = .ok (.getfield 22, 3) := by decide +kernel
theorem dX7_settle_47 : decode cX7_settle 47 = .ok (.iload_n 3, 1) := by decide +kernel
theorem dX7_settle_48 : decode cX7_settle 48 = .ok (.iconst 1, 1) := by decide +kernel
theorem dX7_settle_49 : decode cX7_settle 49 = .ok (.iadd, 1) := by decide +kernel
theorem dX7_settle_50 : decode cX7_settle 50 = .ok (.aload_n 0, 1) := by decide +kernel
theorem dX7_settle_51 : decode cX7_settle 51 = .ok (.getfield 135, 3) := by decide +kernel
theorem dX7_settle_54 : decode cX7_settle 54 = .ok (.irem, 1) := by decide +kernel
theorem dX7_settle_55 : decode cX7_settle 55 = .ok (.iaload, 1) := by decide +kernel
theorem dX7_settle_56 : decode cX7_settle 56 = .ok (.invokestatic 123, 3) := by decide +kernel
theorem dX7_settle_59 : decode cX7_settle 59 = .ok (.dup2, 1) := by decide +kernel
theorem dX7_settle_60 : decode cX7_settle 60 = .ok (.iaload, 1) := by decide +kernel
theorem dX7_settle_61 : decode cX7_settle 61 = .ok (.iload_n 2, 1) := by decide +kernel
theorem dX7_settle_62 : decode cX7_settle 62 = .ok (.isub, 1) := by decide +kernel
theorem dX7_settle_63 : decode cX7_settle 63 = .ok (.iastore, 1) := by decide +kernel
theorem dX7_settle_64 : decode cX7_settle 64 = .ok (.iinc 3 1, 3) := by decide +kernel
theorem dX7_settle_67 : decode cX7_settle 67 = .ok (.goto (-42), 3) := by decide +kernel
theorem dX7_settle_70 : decode cX7_settle 70 = .ok (.aload_n 0, 1) := by decide +kernel
theorem dX7_settle_71 : decode cX7_settle 71 = .ok (.getfield 7, 3) := by decide +kernel
theorem dX7_settle_74 : decode cX7_settle 74 = .ok (.sipush 427, 3) := by decide +kernel
theorem dX7_settle_77 : decode cX7_settle 77 = .ok (.dup2, 1) := by decide +kernel
theorem dX7_settle_78 : decode cX7_settle 78 = .ok (.iaload, 1) := by decide +kernel
theorem dX7_settle_79 : decode cX7_settle 79 = .ok (.iload_n 2, 1) := by decide +kernel
theorem dX7_settle_80 : decode cX7_settle 80 = .ok (.aload_n 0, 1) := by decide +kernel
theorem dX7_settle_81 : decode cX7_settle 81 = .ok (.getfield 135, 3) := by decide +kernel
theorem dX7_settle_84 : decode cX7_settle 84 = .ok (.imul, 1) := by decide +kernel
theorem dX7_settle_85 : decode cX7_settle 85 = .ok (.iadd, 1) := by decide +kernel
theorem dX7_settle_86 : decode cX7_settle 86 = .ok (.iastore, 1) := by decide +kernel
theorem dX7_settle_87 : decode cX7_settle 87 = .ok (.aload_n 0, 1) := by decide +kernel
theorem dX7_settle_88 : decode cX7_settle 88 = .ok (.getfield 7, 3) := by decide +kernel
theorem dX7_settle_91 : decode cX7_settle 91 = .ok (.sipush 426, 3) := by decide +kernel
theorem dX7_settle_94 : decode cX7_settle 94 = .ok (.dup2, 1) := by decide +kernel
theorem dX7_settle_95 : decode cX7_settle 95 = .ok (.iaload, 1) := by decide +kernel
theorem dX7_settle_96 : decode cX7_settle 96 = .ok (.iconst 1, 1) := by decide +kernel
theorem dX7_settle_97 : decode cX7_settle 97 = .ok (.iadd, 1) := by decide +kernel
theorem dX7_settle_98 : decode cX7_settle 98 = .ok (.iastore, 1) := by decide +kernel
theorem dX7_settle_99 : decode cX7_settle 99 = .ok (.iinc 1 1, 3) := by decide +kernel
theorem dX7_settle_102 : decode cX7_settle 102 = .ok (.goto (-91), 3) := by decide +kernel
theorem dX7_settle_105 : decode cX7_settle 105 = .ok (.iload_n 1, 1) := by decide +kernel
theorem dX7_settle_106 : decode cX7_settle 106 = .ok (.ireturn, 1) := by decide +kernel
theorem dX7_ringOf_0 : decode cX7_ringOf 0 = .ok (.aload_n 0, 1) := by decide +kernel
theorem dX7_ringOf_1 : decode cX7_ringOf 1 = .ok (.invokevirtual 138, 3) := by decide +kernel
theorem dX7_ringOf_4 : decode cX7_ringOf 4 = .ok (.ifCond .ne 5, 3) := by decide +kernel
theorem dX7_ringOf_7 : decode cX7_ringOf 7 = .ok (.iconst (-1), 1) := by decide +kernel
theorem dX7_ringOf_8 : decode cX7_ringOf 8 = .ok (.ireturn, 1) := by decide +kernel
theorem dX7_ringOf_9 : decode cX7_ringOf 9 = .ok (.iload_n 1, 1) := by decide +kernel
theorem dX7_ringOf_10 : decode cX7_ringOf 10 = .ok (.iconst 2, 1) := by decide +kernel
theorem dX7_ringOf_11 : decode cX7_ringOf 11 = .ok (.if_icmp .ge 19, 3) := by decide +kernel
theorem dX7_ringOf_14 : decode cX7_ringOf 14 = .ok (.iload_n 1, 1) := by decide +kernel
theorem dX7_ringOf_15 : decode cX7_ringOf 15 = .ok (.ifCond .ne 10, 3) := by decide +kernel
theorem dX7_ringOf_18 : decode cX7_ringOf 18 = .ok (.aload_n 0, 1) := by decide +kernel
theorem dX7_ringOf_19 : decode cX7_ringOf 19 = .ok (.getfield 135, 3) := by decide +kernel
theorem dX7_ringOf_22 : decode cX7_ringOf 22 = .ok (.goto 7, 3) := by decide +kernel
theorem dX7_ringOf_25 : decode cX7_ringOf 25 = .ok (.aload_n 0, 1) := by decide +kernel
theorem dX7_ringOf_26 : decode cX7_ringOf 26 = .ok (.invokevirtual 142, 3) := by decide +kernel
theorem dX7_ringOf_29 : decode cX7_ringOf 29 = .ok (.ireturn, 1) := by decide +kernel
theorem dX7_ringOf_30 : decode cX7_ringOf 30 = .ok (.iload_n 1, 1) := by decide +kernel
theorem dX7_ringOf_31 : decode cX7_ringOf 31 = .ok (.bipush 10, 2) := by decide +kernel
theorem dX7_ringOf_33 : decode cX7_ringOf 33 = .ok (.isub, 1) := by decide +kernel
theorem dX7_ringOf_34 : decode cX7_ringOf 34 = .ok (.aload_n 0, 1) := by decide +kernel
theorem dX7_ringOf_35 : decode cX7_ringOf 35 = .ok (.getfield 135, 3) := by decide +kernel
theorem dX7_ringOf_38 : decode cX7_ringOf 38 = .ok (.if_icmp .ge 15, 3) := by decide +kernel
theorem dX7_ringOf_41 : decode cX7_ringOf 41 = .ok (.aload_n 0, 1) := by decide +kernel
theorem dX7_ringOf_42 : decode cX7_ringOf 42 = .ok (.getfield 22, 3) := by decide +kernel
theorem dX7_ringOf_45 : decode cX7_ringOf 45 = .ok (.iload_n 1, 1) := by decide +kernel
theorem dX7_ringOf_46 : decode cX7_ringOf 46 = .ok (.bipush 10, 2) := by decide +kernel
theorem dX7_ringOf_48 : decode cX7_ringOf 48 = .ok (.isub, 1) := by decide +kernel
theorem dX7_ringOf_49 : decode cX7_ringOf 49 = .ok (.iaload, 1) := by decide +kernel
theorem dX7_ringOf_50 : decode cX7_ringOf 50 = .ok (.goto 4, 3) := by decide +kernel
theorem dX7_ringOf_53 : decode cX7_ringOf 53 = .ok (.iconst (-1), 1) := by decide +kernel
theorem dX7_ringOf_54 : decode cX7_ringOf 54 = .ok (.ireturn, 1) := by decide +kernel
theorem dX7_ring_0 : decode cX7_ring 0 = .ok (.aload_n 0, 1) := by decide +kernel
theorem dX7_ring_1 : decode cX7_ring 1 = .ok (.iload_n 1, 1) := by decide +kernel
theorem dX7_ring_2 : decode cX7_ring 2 = .ok (.iconst 0, 1) := by decide +kernel
theorem dX7_ring_3 : decode cX7_ring 3 = .ok (.iconst 1, 1) := by decide +kernel
theorem dX7_ring_4 : decode cX7_ring 4 = .ok (.invokestatic 41, 3) := by decide +kernel
theorem dX7_ring_7 : decode cX7_ring 7 = .ok (.ifCond .ne 14, 3) := by decide +kernel
theorem dX7_ring_10 : decode cX7_ring 10 = .ok (.iload_n 1, 1) := by decide +kernel
theorem dX7_ring_11 : decode cX7_ring 11 = .ok (.bipush 10, 2) := by decide +kernel
theorem dX7_ring_13 : decode cX7_ring 13 = .ok (.bipush 15, 2) := by decide +kernel
theorem dX7_ring_15 : decode cX7_ring 15 = .ok (.invokestatic 41, 3) := by decide +kernel
theorem dX7_ring_18 : decode cX7_ring 18 = .ok (.ifCond .eq 7, 3) := by decide +kernel
theorem dX7_ring_21 : decode cX7_ring 21 = .ok (.iconst 0, 1) := by decide +kernel
theorem dX7_ring_22 : decode cX7_ring 22 = .ok (.goto 4, 3) := by decide +kernel
theorem dX7_ring_25 : decode cX7_ring 25 = .ok (.iconst 1, 1) := by decide +kernel
theorem dX7_ring_26 : decode cX7_ring 26 = .ok (.putfield 37, 3) := by decide +kernel
theorem dX7_ring_29 : decode cX7_ring 29 = .ok (.aload_n 0, 1) := by decide +kernel
theorem dX7_ring_30 : decode cX7_ring 30 = .ok (.getfield 37, 3) := by decide +kernel
theorem dX7_ring_33 : decode cX7_ring 33 = .ok (.ifCond .ne 11, 3) := by decide +kernel
theorem dX7_ring_36 : decode cX7_ring 36 = .ok (.aload_n 0, 1) := by decide +kernel
theorem dX7_ring_37 : decode cX7_ring 37 = .ok (.iload_n 1, 1) := by decide +kernel
theorem dX7_ring_38 : decode cX7_ring 38 = .ok (.invokevirtual 146, 3) := by decide +kernel
theorem dX7_ring_41 : decode cX7_ring 41 = .ok (.goto 4, 3) := by decide +kernel
theorem dX7_ring_44 : decode cX7_ring 44 = .ok (.iconst 0, 1) := by decide +kernel
theorem dX7_ring_45 : decode cX7_ring 45 = .ok (.ireturn, 1) := by decide +kernel
theorem dX7_append_0 : decode cX7_append 0 = .ok (.aload_n 0, 1) := by decide +kernel
theorem dX7_append_1 : decode cX7_append 1 = .ok (.iload_n 1, 1) := by decide +kernel
theorem dX7_append_2 : decode cX7_append 2 = .ok (.bipush 33, 2) := by decide +kernel
theorem dX7_append_4 : decode cX7_append 4 = .ok (.bipush 126, 2) := by decide +kernel
theorem dX7_append_6 : decode cX7_append 6 = .ok (.invokestatic 41, 3) := by decide +kernel
theorem dX7_append_9 : decode cX7_append 9 = .ok (.ifCond .ne 7, 3) := by decide +kernel
theorem dX7_append_12 : decode cX7_append 12 = .ok (.iconst 1, 1) := by decide +kernel
theorem dX7_append_13 : decode cX7_append 13 = .ok (.goto 17, 3) := by decide +kernel
theorem dX7_append_16 : decode cX7_append 16 = .ok (.aload_n 0, 1) := by decide +kernel
theorem dX7_append_17 : decode cX7_append 17 = .ok (.getfield 149, 3) := by decide +kernel
theorem dX7_append_20 : decode cX7_append 20 = .ok (.bipush 60, 2) := by decide +kernel
theorem dX7_append_22 : decode cX7_append 22 = .ok (.if_icmp .ne 7, 3) := by decide +kernel
theorem dX7_append_25 : decode cX7_append 25 = .ok (.iconst 2, 1) := by decide +kernel
theorem dX7_append_26 : decode cX7_append 26 = .ok (.goto 4, 3) := by decide +kernel
theorem dX7_append_29 : decode cX7_append 29 = .ok (.iconst 0, 1) := by decide +kernel
theorem dX7_append_30 : decode cX7_append 30 = .ok (.putfield 37, 3) := by decide +kernel
theorem dX7_append_33 : decode cX7_append 33 = .ok (.aload_n 0, 1) := by decide +kernel
theorem dX7_append_34 : decode cX7_append 34 = .ok (.getfield 37, 3) := by decide +kernel
theorem dX7_append_37 : decode cX7_append 37 = .ok (.ifCond .eq 5, 3) := by decide +kernel
theorem dX7_append_40 : decode cX7_append 40 = .ok (.iconst 0, 1) := by decide +kernel
theorem dX7_append_41 : decode cX7_append 41 = .ok (.ireturn, 1) := by decide +kernel
theorem dX7_append_42 : decode cX7_append 42 = .ok (.aload_n 0, 1) := by decide +kernel
theorem dX7_append_43 : decode cX7_append 43 = .ok (.getfield 13, 3) := by decide +kernel
theorem dX7_append_46 : decode cX7_append 46 = .ok (.aload_n 0, 1) := by decide +kernel
theorem dX7_append_47 : decode cX7_append 47 = .ok (.getfield 149, 3) := by decide +kernel
theorem dX7_append_50 : decode cX7_append 50 = .ok (.iload_n 1, 1) := by decide +kernel
theorem dX7_append_51 : decode cX7_append 51 = .ok (.iastore, 1) := by decide +kernel
theorem dX7_append_52 : decode cX7_append 52 = .ok (.aload_n 0, 1) := by decide +kernel
theorem dX7_append_53 : decode cX7_append 53 = .ok (.dup, 1) := by decide +kernel
theorem dX7_append_54 : decode cX7_append 54 = .ok (.getfield 149, 3) := by decide +kernel
theorem dX7_append_57 : decode cX7_append 57 = .ok (.iconst 1, 1) := by decide +kernel
theorem dX7_append_58 : decode cX7_append 58 = .ok (.iadd, 1) := by decide +kernel
theorem dX7_append_59 : decode cX7_append 59 = .ok (.putfield 149, 3) := by decide +kernel
theorem dX7_append_62 : decode cX7_append 62 = .ok (.aload_n 0, 1) := by decide +kernel
theorem dX7_append_63 : decode cX7_append 63 = .ok (.getfield 149, 3) := by decide +kernel
theorem dX7_append_66 : decode cX7_append 66 = .ok (.ireturn, 1) := by decide +kernel
theorem dX7_clearBuffer_0 : decode cX7_clearBuffer 0 = .ok (.aload_n 0, 1) := by decide +kernel
theorem dX7_clearBuffer_1 : decode cX7_clearBuffer 1 = .ok (.iconst 0, 1) := by decide +kernel
theorem dX7_clearBuffer_2 : decode cX7_clearBuffer 2 = .ok (.putfield 37, 3) := by decide +kernel
theorem dX7_clearBuffer_5 : decode cX7_clearBuffer 5 = .ok (.aload_n 0, 1) := by decide +kernel
theorem dX7_clearBuffer_6 : decode cX7_clearBuffer 6 = .ok (.getfield 149, 3) := by decide +kernel
theorem dX7_clearBuffer_9 : decode cX7_clearBuffer 9 = .ok (.istore_n 1, 1) := by decide +kernel
theorem dX7_clearBuffer_10 : decode cX7_clearBuffer 10 = .ok (.aload_n 0, 1) := by decide +kernel
theorem dX7_clearBuffer_11 : decode cX7_clearBuffer 11 = .ok (.iconst 0, 1) := by decide +kernel
theorem dX7_clearBuffer_12 : decode cX7_clearBuffer 12 = .ok (.putfield 149, 3) := by decide +kernel
theorem dX7_clearBuffer_15 : decode cX7_clearBuffer 15 = .ok (.iload_n 1, 1) := by decide +kernel
theorem dX7_clearBuffer_16 : decode cX7_clearBuffer 16 = .ok (.ireturn, 1) := by decide +kernel
theorem dX7_begins_0 : decode cX7_begins 0 = .ok (.aload_n 0, 1) := by decide +kernel
theorem dX7_begins_1 : decode cX7_begins 1 = .ok (.getfield 152, 3) := by decide +kernel
theorem dX7_begins_4 : decode cX7_begins 4 = .ok (.bipush 24, 2) := by decide +kernel
theorem dX7_begins_6 : decode cX7_begins 6 = .ok (.if_icmp .eq 26, 3) := by decide +kernel
theorem dX7_begins_9 : decode cX7_begins 9 = .ok (.iload_n 1, 1) := by decide +kernel
theorem dX7_begins_10 : decode cX7_begins 10 = .ok (.bipush 45, 2) := by decide +kernel
theorem dX7_begins_12 : decode cX7_begins 12 = .ok (.if_icmp .eq 22, 3) := by decide +kernel
theorem dX7_begins_15 : decode cX7_begins 15 = .ok (.iload_n 1, 1) := by decide +kernel
theorem dX7_begins_16 : decode cX7_begins 16 = .ok (.bipush 40, 2) := by decide +kernel
theorem dX7_begins_18 : decode cX7_begins 18 = .ok (.if_icmp .eq 16, 3) := by decide +kernel
theorem dX7_begins_21 : decode cX7_begins 21 = .ok (.iload_n 1, 1) := by decide +kernel
theorem dX7_begins_22 : decode cX7_begins 22 = .ok (.bipush 97, 2) := by decide +kernel
theorem dX7_begins_24 : decode cX7_begins 24 = .ok (.bipush 108, 2) := by decide +kernel
theorem dX7_begins_26 : decode cX7_begins 26 = .ok (.invokestatic 41, 3) := by decide +kernel
theorem dX7_begins_29 : decode cX7_begins 29 = .ok (.ifCond .ne 5, 3) := by decide +kernel
theorem dX7_begins_32 : decode cX7_begins 32 = .ok (.iconst 0, 1) := by decide +kernel
theorem dX7_begins_33 : decode cX7_begins 33 = .ok (.ireturn, 1) := by decide +kernel
theorem dX7_begins_34 : decode cX7_begins 34 = .ok (.aload_n 0, 1) := by decide +kernel
theorem dX7_begins_35 : decode cX7_begins 35 = .ok (.getfield 25, 3) := by decide +kernel
theorem dX7_begins_38 : decode cX7_begins 38 = .ok (.aload_n 0, 1) := by decide +kernel
theorem dX7_begins_39 : decode cX7_begins 39 = .ok (.getfield 152, 3) := by decide +kernel
theorem dX7_begins_42 : decode cX7_begins 42 = .ok (.iload_n 1, 1) := by decide +kernel
theorem dX7_begins_43 : decode cX7_begins 43 = .ok (.bipush 97, 2) := by decide +kernel
theorem dX7_begins_45 : decode cX7_begins 45 = .ok (.bipush 108, 2) := by decide +kernel
theorem dX7_begins_47 : decode cX7_begins 47 = .ok (.invokestatic 41, 3) := by decide +kernel
theorem dX7_begins_50 : decode cX7_begins 50 = .ok (.ifCond .eq 12, 3) := by decide +kernel
theorem dX7_begins_53 : decode cX7_begins 53 = .ok (.iconst 1, 1) := by decide +kernel
theorem dX7_begins_54 : decode cX7_begins 54 = .ok (.iload_n 1, 1) := by decide +kernel
theorem dX7_begins_55 : decode cX7_begins 55 = .ok (.bipush 97, 2) := by decide +kernel
theorem dX7_begins_57 : decode cX7_begins 57 = .ok (.isub, 1) := by decide +kernel
theorem dX7_begins_58 : decode cX7_begins 58 = .ok (.ishl, 1) := by decide +kernel
theorem dX7_begins_59 : decode cX7_begins 59 = .ok (.goto 4, 3) := by decide +kernel
theorem dX7_begins_62 : decode cX7_begins 62 = .ok (.iconst 0, 1) := by decide +kernel
theorem dX7_begins_63 : decode cX7_begins 63 = .ok (.iastore, 1) := by decide +kernel
theorem dX7_begins_64 : decode cX7_begins 64 = .ok (.aload_n 0, 1) := by decide +kernel
theorem dX7_begins_65 : decode cX7_begins 65 = .ok (.iload_n 1, 1) := by decide +kernel
theorem dX7_begins_66 : decode cX7_begins 66 = .ok (.bipush 40, 2) := by decide +kernel
theorem dX7_begins_68 : decode cX7_begins 68 = .ok (.if_icmp .ne 7, 3) := by decide +kernel
theorem dX7_begins_71 : decode cX7_begins 71 = .ok (.iconst 1, 1) := by decide +kernel
theorem dX7_begins_72 : decode cX7_begins 72 = .ok (.goto 4, 3) := by decide +kernel
theorem dX7_begins_75 : decode cX7_begins 75 = .ok (.iconst 0, 1) := by decide +kernel
theorem dX7_begins_76 : decode cX7_begins 76 = .ok (.putfield 155, 3) := by decide +kernel
theorem dX7_begins_79 : decode cX7_begins 79 = .ok (.aload_n 0, 1) := by decide +kernel
theorem dX7_begins_80 : decode cX7_begins 80 = .ok (.iconst (-1), 1) := by decide +kernel
theorem dX7_begins_81 : decode cX7_begins 81 = .ok (.putfield 159, 3) := by decide +kernel
theorem dX7_begins_84 : decode cX7_begins 84 = .ok (.aload_n 0, 1) := by decide +kernel
theorem dX7_begins_85 : decode cX7_begins 85 = .ok (.iconst 0, 1) := by decide +kernel
theorem dX7_begins_86 : decode cX7_begins 86 = .ok (.putfield 162, 3) := by decide +kernel
theorem dX7_begins_89 : decode cX7_begins 89 = .ok (.aload_n 0, 1) := by decide +kernel
theorem dX7_begins_90 : decode cX7_begins 90 = .ok (.dup, 1) := by decide +kernel
theorem dX7_begins_91 : decode cX7_begins 91 = .ok (.getfield 152, 3) := by decide +kernel
theorem dX7_begins_94 : decode cX7_begins 94 = .ok (.aload_n 0, 1) := by decide +kernel
theorem dX7_begins_95 : decode cX7_begins 95 = .ok (.getfield 155, 3) := by decide +kernel
theorem dX7_begins_98 : decode cX7_begins 98 = .ok (.ifCond .eq 7, 3) := by decide +kernel
theorem dX7_begins_101 : decode cX7_begins 101 = .ok (.iconst 0, 1) := by decide +kernel
theorem dX7_begins_102 : decode cX7_begins 102 = .ok (.goto 4, 3) := by decide +kernel
theorem dX7_begins_105 : decode cX7_begins 105 = .ok (.iconst 1, 1) := by decide +kernel
theorem dX7_begins_106 : decode cX7_begins 106 = .ok (.iadd, 1) := by decide +kernel
theorem dX7_begins_107 : decode cX7_begins 107 = .ok (.putfield 152, 3) := by decide +kernel
theorem dX7_begins_110 : decode cX7_begins 110 = .ok (.iconst 1, 1) := by decide +kernel
theorem dX7_begins_111 : decode cX7_begins 111 = .ok (.ireturn, 1) := by decide +kernel
theorem dX7_goesOn_0 : decode cX7_goesOn 0 = .ok (.iload_n 1, 1) := by decide +kernel
theorem dX7_goesOn_1 : decode cX7_goesOn 1 = .ok (.bipush 41, 2) := by decide +kernel
theorem dX7_goesOn_3 : decode cX7_goesOn 3 = .ok (.if_icmp .ne 54, 3) := by decide +kernel
theorem dX7_goesOn_6 : decode cX7_goesOn 6 = .ok (.aload_n 0, 1) := by decide +kernel
theorem dX7_goesOn_7 : decode cX7_goesOn 7 = .ok (.aload_n 0, 1) := by decide +kernel
theorem dX7_goesOn_8 : decode cX7_goesOn 8 = .ok (.getfield 162, 3) := by decide +kernel
theorem dX7_goesOn_11 : decode cX7_goesOn 11 = .ok (.iconst 2, 1) := by decide +kernel
theorem dX7_goesOn_12 : decode cX7_goesOn 12 = .ok (.if_icmp .ge 7, 3) := by decide +kernel
theorem dX7_goesOn_15 : decode cX7_goesOn 15 = .ok (.iconst 1, 1) := by decide +kernel
theorem dX7_goesOn_16 : decode cX7_goesOn 16 = .ok (.goto 4, 3) := by decide +kernel
theorem dX7_goesOn_19 : decode cX7_goesOn 19 = .ok (.iconst 0, 1) := by decide +kernel
theorem dX7_goesOn_20 : decode cX7_goesOn 20 = .ok (.putfield 155, 3) := by decide +kernel
theorem dX7_goesOn_23 : decode cX7_goesOn 23 = .ok (.aload_n 0, 1) := by decide +kernel
theorem dX7_goesOn_24 : decode cX7_goesOn 24 = .ok (.dup, 1) := by decide +kernel
theorem dX7_goesOn_25 : decode cX7_goesOn 25 = .ok (.getfield 152, 3) := by decide +kernel
theorem dX7_goesOn_28 : decode cX7_goesOn 28 = .ok (.aload_n 0, 1) := by decide +kernel
theorem dX7_goesOn_29 : decode cX7_goesOn 29 = .ok (.getfield 155, 3) := by decide +kernel
theorem dX7_goesOn_32 : decode cX7_goesOn 32 = .ok (.ifCond .eq 7, 3) := by decide +kernel
theorem dX7_goesOn_35 : decode cX7_goesOn 35 = .ok (.iconst 0, 1) := by decide +kernel
theorem dX7_goesOn_36 : decode cX7_goesOn 36 = .ok (.goto 4, 3) := by decide +kernel
theorem dX7_goesOn_39 : decode cX7_goesOn 39 = .ok (.iconst 1, 1) := by decide +kernel
theorem dX7_goesOn_40 : decode cX7_goesOn 40 = .ok (.iadd, 1) := by decide +kernel
theorem dX7_goesOn_41 : decode cX7_goesOn 41 = .ok (.putfield 152, 3) := by decide +kernel
theorem dX7_goesOn_44 : decode cX7_goesOn 44 = .ok (.aload_n 0, 1) := by decide +kernel
theorem dX7_goesOn_45 : decode cX7_goesOn 45 = .ok (.getfield 155, 3) := by decide +kernel
theorem dX7_goesOn_48 : decode cX7_goesOn 48 = .ok (.ifCond .ne 7, 3) := by decide +kernel
theorem dX7_goesOn_51 : decode cX7_goesOn 51 = .ok (.iconst 1, 1) := by decide +kernel
theorem dX7_goesOn_52 : decode cX7_goesOn 52 = .ok (.goto 4, 3) := by decide +kernel
theorem dX7_goesOn_55 : decode cX7_goesOn 55 = .ok (.iconst 0, 1) := by decide +kernel
theorem dX7_goesOn_56 : decode cX7_goesOn 56 = .ok (.ireturn, 1) := by decide +kernel
theorem dX7_goesOn_57 : decode cX7_goesOn 57 = .ok (.iload_n 1, 1) := by decide +kernel
theorem dX7_goesOn_58 : decode cX7_goesOn 58 = .ok (.bipush 97, 2) := by decide +kernel
theorem dX7_goesOn_60 : decode cX7_goesOn 60 = .ok (.aload_n 0, 1) := by decide +kernel
theorem dX7_goesOn_61 : decode cX7_goesOn 61 = .ok (.getfield 162, 3) := by decide +kernel
theorem dX7_goesOn_64 : decode cX7_goesOn 64 = .ok (.ifCond .ne 8, 3) := by decide +kernel
theorem dX7_goesOn_67 : decode cX7_goesOn 67 = .ok (.bipush 107, 2) := by decide +kernel
theorem dX7_goesOn_69 : decode cX7_goesOn 69 = .ok (.goto 5, 3) := by decide +kernel
theorem dX7_goesOn_72 : decode cX7_goesOn 72 = .ok (.bipush 108, 2) := by decide +kernel
theorem dX7_goesOn_74 : decode cX7_goesOn 74 = .ok (.invokestatic 41, 3) := by decide +kernel
theorem dX7_goesOn_77 : decode cX7_goesOn 77 = .ok (.ifCond .eq 14, 3) := by decide +kernel
theorem dX7_goesOn_80 : decode cX7_goesOn 80 = .ok (.iload_n 1, 1) := by decide +kernel
theorem dX7_goesOn_81 : decode cX7_goesOn 81 = .ok (.bipush 97, 2) := by decide +kernel
theorem dX7_goesOn_83 : decode cX7_goesOn 83 = .ok (.isub, 1) := by decide +kernel
theorem dX7_goesOn_84 : decode cX7_goesOn 84 = .ok (.aload_n 0, 1) := by decide +kernel
theorem dX7_goesOn_85 : decode cX7_goesOn 85 = .ok (.getfield 159, 3) := by decide +kernel
theorem dX7_goesOn_88 : decode cX7_goesOn 88 = .ok (.if_icmp .gt 5, 3) := by decide +kernel
theorem dX7_goesOn_91 : decode cX7_goesOn 91 = .ok (.iconst 0, 1) := by decide +kernel
theorem dX7_goesOn_92 : decode cX7_goesOn 92 = .ok (.ireturn, 1) := by decide +kernel
theorem dX7_goesOn_93 : decode cX7_goesOn 93 = .ok (.aload_n 0, 1) := by decide +kernel
theorem dX7_goesOn_94 : decode cX7_goesOn 94 = .ok (.iload_n 1, 1) := by decide +kernel
theorem dX7_goesOn_95 : decode cX7_goesOn 95 = .ok (.bipush 97, 2) := by decide +kernel
theorem dX7_goesOn_97 : decode cX7_goesOn 97 = .ok (.isub, 1) := by decide +kernel
theorem dX7_goesOn_98 : decode cX7_goesOn 98 = .ok (.putfield 159, 3) := by decide +kernel
theorem dX7_goesOn_101 : decode cX7_goesOn 101 = .ok (.aload_n 0, 1) := by decide +kernel
theorem dX7_goesOn_102 : decode cX7_goesOn 102 = .ok (.dup, 1) := by decide +kernel
theorem dX7_goesOn_103 : decode cX7_goesOn 103 = .ok (.getfield 162, 3) := by decide +kernel
theorem dX7_goesOn_106 : decode cX7_goesOn 106 = .ok (.iconst 1, 1) := by decide +kernel
theorem dX7_goesOn_107 : decode cX7_goesOn 107 = .ok (.iadd, 1) := by decide +kernel
theorem dX7_goesOn_108 : decode cX7_goesOn 108 = .ok (.putfield 162, 3) := by decide +kernel
theorem dX7_goesOn_111 : decode cX7_goesOn 111 = .ok (.aload_n 0, 1) := by decide +kernel
theorem dX7_goesOn_112 : decode cX7_goesOn 112 = .ok (.getfield 25, 3) := by decide +kernel
theorem dX7_goesOn_115 : decode cX7_goesOn 115 = .ok (.aload_n 0, 1) := by decide +kernel
theorem dX7_goesOn_116 : decode cX7_goesOn 116 = .ok (.getfield 152, 3) := by decide +kernel
theorem dX7_goesOn_119 : decode cX7_goesOn 119 = .ok (.dup2, 1) := by decide +kernel
theorem dX7_goesOn_120 : decode cX7_goesOn 120 = .ok (.iaload, 1) := by decide +kernel
theorem dX7_goesOn_121 : decode cX7_goesOn 121 = .ok (.iconst 1, 1) := by decide +kernel
theorem dX7_goesOn_122 : decode cX7_goesOn 122 = .ok (.aload_n 0, 1) := by decide +kernel
theorem dX7_goesOn_123 : decode cX7_goesOn 123 = .ok (.getfield 159, 3) := by decide +kernel
theorem dX7_goesOn_126 : decode cX7_goesOn 126 = .ok (.ishl, 1) := by decide +kernel
theorem dX7_goesOn_127 : decode cX7_goesOn 127 = .ok (.ior, 1) := by decide +kernel
theorem dX7_goesOn_128 : decode cX7_goesOn 128 = .ok (.iastore, 1) := by decide +kernel
theorem dX7_goesOn_129 : decode cX7_goesOn 129 = .ok (.iconst 1, 1) := by decide +kernel
theorem dX7_goesOn_130 : decode cX7_goesOn 130 = .ok (.ireturn, 1) := by decide +kernel
theorem dX7_errorAt_0 : decode cX7_errorAt 0 = .ok (.aload_n 0, 1) := by decide +kernel
theorem dX7_errorAt_1 : decode cX7_errorAt 1 = .ok (.iconst 0, 1) := by decide +kernel
theorem dX7_errorAt_2 : decode cX7_errorAt 2 = .ok (.putfield 152, 3) := by decide +kernel
theorem dX7_errorAt_5 : decode cX7_errorAt 5 = .ok (.aload_n 0, 1) := by decide +kernel
theorem dX7_errorAt_6 : decode cX7_errorAt 6 = .ok (.iconst 0, 1) := by decide +kernel
theorem dX7_errorAt_7 : decode cX7_errorAt 7 = .ok (.putfield 155, 3) := by decide +kernel
theorem dX7_errorAt_10 : decode cX7_errorAt 10 = .ok (.iconst 0, 1) := by decide +kernel
theorem dX7_errorAt_11 : decode cX7_errorAt 11 = .ok (.istore_n 1, 1) := by decide +kernel
theorem dX7_errorAt_12 : decode cX7_errorAt 12 = .ok (.iload_n 1, 1) := by decide +kernel
theorem dX7_errorAt_13 : decode cX7_errorAt 13 = .ok (.aload_n 0, 1) := by decide +kernel
theorem dX7_errorAt_14 : decode cX7_errorAt 14 = .ok (.getfield 149, 3) := by decide +kernel
theorem dX7_errorAt_17 : decode cX7_errorAt 17 = .ok (.if_icmp .ge 46, 3) := by decide +kernel
theorem dX7_errorAt_20 : decode cX7_errorAt 20 = .ok (.aload_n 0, 1) := by decide +kernel
theorem dX7_errorAt_21 : decode cX7_errorAt 21 = .ok (.getfield 155, 3) := by decide +kernel
theorem dX7_errorAt_24 : decode cX7_errorAt 24 = .ok (.ifCond .eq 16, 3) := by decide +kernel
theorem dX7_errorAt_27 : decode cX7_errorAt 27 = .ok (.aload_n 0, 1) := by decide +kernel
theorem dX7_errorAt_28 : decode cX7_errorAt 28 = .ok (.aload_n 0, 1) := by decide +kernel
theorem dX7_errorAt_29 : decode cX7_errorAt 29 = .ok (.getfield 13, 3) := by decide +kernel
theorem dX7_errorAt_32 : decode cX7_errorAt 32 = .ok (.iload_n 1, 1) := by decide +kernel
theorem dX7_errorAt_33 : decode cX7_errorAt 33 = .ok (.iaload, 1) := by decide +kernel
theorem dX7_errorAt_34 : decode cX7_errorAt 34 = .ok (.invokevirtual 165, 3) := by decide +kernel
theorem dX7_errorAt_37 : decode cX7_errorAt 37 = .ok (.goto 13, 3) := by decide +kernel
theorem dX7_errorAt_40 : decode cX7_errorAt 40 = .ok (.aload_n 0, 1) := by decide +kernel
theorem dX7_errorAt_41 : decode cX7_errorAt 41 = .ok (.aload_n 0, 1) := by decide +kernel
theorem dX7_errorAt_42 : decode cX7_errorAt 42 = .ok (.getfield 13, 3) := by decide +kernel
theorem dX7_errorAt_45 : decode cX7_errorAt 45 = .ok (.iload_n 1, 1) := by decide +kernel
theorem dX7_errorAt_46 : decode cX7_errorAt 46 = .ok (.iaload, 1) := by decide +kernel
theorem dX7_errorAt_47 : decode cX7_errorAt 47 = .ok (.invokevirtual 168, 3) := by decide +kernel
theorem dX7_errorAt_50 : decode cX7_errorAt 50 = .ok (.istore_n 2, 1) := by decide +kernel
theorem dX7_errorAt_51 : decode cX7_errorAt 51 = .ok (.iload_n 2, 1) := by decide +kernel
theorem dX7_errorAt_52 : decode cX7_errorAt 52 = .ok (.ifCond .ne 5, 3) := by decide +kernel
theorem dX7_errorAt_55 : decode cX7_errorAt 55 = .ok (.iload_n 1, 1) := by decide +kernel
theorem dX7_errorAt_56 : decode cX7_errorAt 56 = .ok (.ireturn, 1) := by decide +kernel
theorem dX7_errorAt_57 : decode cX7_errorAt 57 = .ok (.iinc 1 1, 3) := by decide +kernel
theorem dX7_errorAt_60 : decode cX7_errorAt 60 = .ok (.goto (-48), 3) := by decide +kernel
theorem dX7_errorAt_63 : decode cX7_errorAt 63 = .ok (.aload_n 0, 1) := by decide +kernel
theorem dX7_errorAt_64 : decode cX7_errorAt 64 = .ok (.getfield 149, 3) := by decide +kernel
theorem dX7_errorAt_67 : decode cX7_errorAt 67 = .ok (.ireturn, 1) := by decide +kernel
theorem dX7_firstError_0 : decode cX7_firstError 0 = .ok (.aload_n 0, 1) := by decide +kernel
theorem dX7_firstError_1 : decode cX7_firstError 1 = .ok (.iconst 0, 1) := by decide +kernel
theorem dX7_firstError_2 : decode cX7_firstError 2 = .ok (.putfield 37, 3) := by decide +kernel
theorem dX7_firstError_5 : decode cX7_firstError 5 = .ok (.aload_n 0, 1) := by decide +kernel
theorem dX7_firstError_6 : decode cX7_firstError 6 = .ok (.invokevirtual 171, 3) := by decide +kernel
theorem dX7_firstError_9 : decode cX7_firstError 9 = .ok (.ireturn, 1) := by decide +kernel
theorem dX7_isTune_0 : decode cX7_isTune 0 = .ok (.aload_n 0, 1) := by decide +kernel
theorem dX7_isTune_1 : decode cX7_isTune 1 = .ok (.invokevirtual 171, 3) := by decide +kernel
theorem dX7_isTune_4 : decode cX7_isTune 4 = .ok (.aload_n 0, 1) := by decide +kernel
theorem dX7_isTune_5 : decode cX7_isTune 5 = .ok (.getfield 149, 3) := by decide +kernel
theorem dX7_isTune_8 : decode cX7_isTune 8 = .ok (.if_icmp .ne 21, 3) := by decide +kernel
theorem dX7_isTune_11 : decode cX7_isTune 11 = .ok (.aload_n 0, 1) := by decide +kernel
theorem dX7_isTune_12 : decode cX7_isTune 12 = .ok (.getfield 155, 3) := by decide +kernel
theorem dX7_isTune_15 : decode cX7_isTune 15 = .ok (.ifCond .ne 14, 3) := by decide +kernel
theorem dX7_isTune_18 : decode cX7_isTune 18 = .ok (.aload_n 0, 1) := by decide +kernel
theorem dX7_isTune_19 : decode cX7_isTune 19 = .ok (.getfield 152, 3) := by decide +kernel
theorem dX7_isTune_22 : decode cX7_isTune 22 = .ok (.ifCond .le 7, 3) := by decide +kernel
theorem dX7_isTune_25 : decode cX7_isTune 25 = .ok (.iconst 1, 1) := by decide +kernel
theorem dX7_isTune_26 : decode cX7_isTune 26 = .ok (.goto 4, 3) := by decide +kernel
theorem dX7_isTune_29 : decode cX7_isTune 29 = .ok (.iconst 0, 1) := by decide +kernel
theorem dX7_isTune_30 : decode cX7_isTune 30 = .ok (.ireturn, 1) := by decide +kernel
theorem dX7_learn_0 : decode cX7_learn 0 = .ok (.aload_n 0, 1) := by decide +kernel
theorem dX7_learn_1 : decode cX7_learn 1 = .ok (.aload_n 0, 1) := by decide +kernel
theorem dX7_learn_2 : decode cX7_learn 2 = .ok (.iload_n 1, 1) := by decide +kernel
theorem dX7_learn_3 : decode cX7_learn 3 = .ok (.invokevirtual 45, 3) := by decide +kernel
theorem dX7_learn_6 : decode cX7_learn 6 = .ok (.ifCond .ne 7, 3) := by decide +kernel
theorem dX7_learn_9 : decode cX7_learn 9 = .ok (.iconst 1, 1) := by decide +kernel
theorem dX7_learn_10 : decode cX7_learn 10 = .ok (.goto 15, 3) := by decide +kernel
theorem dX7_learn_13 : decode cX7_learn 13 = .ok (.aload_n 0, 1) := by decide +kernel
theorem dX7_learn_14 : decode cX7_learn 14 = .ok (.invokevirtual 174, 3) := by decide +kernel
theorem dX7_learn_17 : decode cX7_learn 17 = .ok (.ifCond .ne 7, 3) := by decide +kernel
theorem dX7_learn_20 : decode cX7_learn 20 = .ok (.iconst 2, 1) := by decide +kernel
theorem dX7_learn_21 : decode cX7_learn 21 = .ok (.goto 4, 3) := by decide +kernel
theorem dX7_learn_24 : decode cX7_learn 24 = .ok (.iconst 0, 1) := by decide +kernel
theorem dX7_learn_25 : decode cX7_learn 25 = .ok (.putfield 37, 3) := by decide +kernel
theorem dX7_learn_28 : decode cX7_learn 28 = .ok (.aload_n 0, 1) := by decide +kernel
theorem dX7_learn_29 : decode cX7_learn 29 = .ok (.getfield 37, 3) := by decide +kernel
theorem dX7_learn_32 : decode cX7_learn 32 = .ok (.ifCond .eq 5, 3) := by decide +kernel
theorem dX7_learn_35 : decode cX7_learn 35 = .ok (.iconst 0, 1) := by decide +kernel
theorem dX7_learn_36 : decode cX7_learn 36 = .ok (.ireturn, 1) := by decide +kernel
theorem dX7_learn_37 : decode cX7_learn 37 = .ok (.aload_n 0, 1) := by decide +kernel
theorem dX7_learn_38 : decode cX7_learn 38 = .ok (.invokevirtual 64, 3) := by decide +kernel
theorem dX7_learn_41 : decode cX7_learn 41 = .ok (.iconst 0, 1) := by decide +kernel
theorem dX7_learn_42 : decode cX7_learn 42 = .ok (.istore_n 2, 1) := by decide +kernel
theorem dX7_learn_43 : decode cX7_learn 43 = .ok (.iload_n 2, 1) := by decide +kernel
theorem dX7_learn_44 : decode cX7_learn 44 = .ok (.bipush 24, 2) := by decide +kernel
theorem dX7_learn_46 : decode cX7_learn 46 = .ok (.if_icmp .ge 40, 3) := by decide +kernel
theorem dX7_learn_49 : decode cX7_learn 49 = .ok (.aload_n 0, 1) := by decide +kernel
theorem dX7_learn_50 : decode cX7_learn 50 = .ok (.getfield 7, 3) := by decide +kernel
theorem dX7_learn_53 : decode cX7_learn 53 = .ok (.sipush 150, 3) := by decide +kernel
theorem dX7_learn_56 : decode cX7_learn 56 = .ok (.iload_n 1, 1) := by decide +kernel
theorem dX7_learn_57 : decode cX7_learn 57 = .ok (.iload_n 2, 1) := by decide +kernel
theorem dX7_learn_58 : decode cX7_learn 58 = .ok (.invokestatic 56, 3) := by decide +kernel
theorem dX7_learn_61 : decode cX7_learn 61 = .ok (.iload_n 2, 1) := by decide +kernel
theorem dX7_learn_62 : decode cX7_learn 62 = .ok (.aload_n 0, 1) := by decide +kernel
theorem dX7_learn_63 : decode cX7_learn 63 = .ok (.getfield 152, 3) := by decide +kernel
theorem dX7_learn_66 : decode cX7_learn 66 = .ok (.if_icmp .ge 12, 3) := by decide +kernel
theorem dX7_learn_69 : decode cX7_learn 69 = .ok (.aload_n 0, 1) := by decide +kernel
theorem dX7_learn_70 : decode cX7_learn 70 = .ok (.getfield 25, 3) := by decide +kernel
theorem dX7_learn_73 : decode cX7_learn 73 = .ok (.iload_n 2, 1) := by decide +kernel
theorem dX7_learn_74 : decode cX7_learn 74 = .ok (.iaload, 1) := by decide +kernel
theorem dX7_learn_75 : decode cX7_learn 75 = .ok (.goto 4, 3) := by decide +kernel
theorem dX7_learn_78 : decode cX7_learn 78 = .ok (.iconst 0, 1) := by decide +kernel
theorem dX7_learn_79 : decode cX7_learn 79 = .ok (.iastore, 1) := by decide +kernel
theorem dX7_learn_80 : decode cX7_learn 80 = .ok (.iinc 2 1, 3) := by decide +kernel
theorem dX7_learn_83 : decode cX7_learn 83 = .ok (.goto (-40), 3) := by decide +kernel
theorem dX7_learn_86 : decode cX7_learn 86 = .ok (.aload_n 0, 1) := by decide +kernel
theorem dX7_learn_87 : decode cX7_learn 87 = .ok (.iconst 0, 1) := by decide +kernel
theorem dX7_learn_88 : decode cX7_learn 88 = .ok (.putfield 149, 3) := by decide +kernel
theorem dX7_learn_91 : decode cX7_learn 91 = .ok (.aload_n 0, 1) := by decide +kernel
theorem dX7_learn_92 : decode cX7_learn 92 = .ok (.sipush 150, 3) := by decide +kernel
theorem dX7_learn_95 : decode cX7_learn 95 = .ok (.iload_n 1, 1) := by decide +kernel
theorem dX7_learn_96 : decode cX7_learn 96 = .ok (.invokevirtual 74, 3) := by decide +kernel
theorem dX7_learn_99 : decode cX7_learn 99 = .ok (.ireturn, 1) := by decide +kernel
theorem dX7_owedIn_0 : decode cX7_owedIn 0 = .ok (.iconst 0, 1) := by decide +kernel
theorem dX7_owedIn_1 : decode cX7_owedIn 1 = .ok (.istore_n 3, 1) := by decide +kernel
theorem dX7_owedIn_2 : decode cX7_owedIn 2 = .ok (.iconst 0, 1) := by decide +kernel
theorem dX7_owedIn_3 : decode cX7_owedIn 3 = .ok (.istore 4, 2) := by decide +kernel
theorem dX7_owedIn_5 : decode cX7_owedIn 5 = .ok (.iload 4, 2) := by decide +kernel
theorem dX7_owedIn_7 : decode cX7_owedIn 7 = .ok (.bipush 6, 2) := by decide +kernel
theorem dX7_owedIn_9 : decode cX7_owedIn 9 = .ok (.if_icmp .ge 41, 3) := by decide +kernel
theorem dX7_owedIn_12 : decode cX7_owedIn 12 = .ok (.iload_n 3, 1) := by decide +kernel
theorem dX7_owedIn_13 : decode cX7_owedIn 13 = .ok (.iload_n 2, 1) := by decide +kernel
theorem dX7_owedIn_14 : decode cX7_owedIn 14 = .ok (.ifCond .eq 17, 3) := by decide +kernel
theorem dX7_owedIn_17 : decode cX7_owedIn 17 = .ok (.aload_n 0, 1) := by decide +kernel
theorem dX7_owedIn_18 : decode cX7_owedIn 18 = .ok (.getfield 7, 3) := by decide +kernel
theorem dX7_owedIn_21 : decode cX7_owedIn 21 = .ok (.iload 4, 2) := by decide +kernel
theorem dX7_owedIn_23 : decode cX7_owedIn 23 = .ok (.iload_n 1, 1) := by decide +kernel
theorem dX7_owedIn_24 : decode cX7_owedIn 24 = .ok (.invokestatic 123, 3) := by decide +kernel
theorem dX7_owedIn_27 : decode cX7_owedIn 27 = .ok (.iaload, 1) := by decide +kernel
theorem dX7_owedIn_28 : decode cX7_owedIn 28 = .ok (.goto 14, 3) := by decide +kernel
theorem dX7_owedIn_31 : decode cX7_owedIn 31 = .ok (.aload_n 0, 1) := by decide +kernel
theorem dX7_owedIn_32 : decode cX7_owedIn 32 = .ok (.getfield 7, 3) := by decide +kernel
theorem dX7_owedIn_35 : decode cX7_owedIn 35 = .ok (.iload_n 1, 1) := by decide +kernel
theorem dX7_owedIn_36 : decode cX7_owedIn 36 = .ok (.iload 4, 2) := by decide +kernel
theorem dX7_owedIn_38 : decode cX7_owedIn 38 = .ok (.invokestatic 123, 3) := by decide +kernel
theorem dX7_owedIn_41 : decode cX7_owedIn 41 = .ok (.iaload, 1) := by decide +kernel
theorem dX7_owedIn_42 : decode cX7_owedIn 42 = .ok (.iadd, 1) := by decide +kernel
theorem dX7_owedIn_43 : decode cX7_owedIn 43 = .ok (.istore_n 3, 1) := by decide +kernel
theorem dX7_owedIn_44 : decode cX7_owedIn 44 = .ok (.iinc 4 1, 3) := by decide +kernel
theorem dX7_owedIn_47 : decode cX7_owedIn 47 = .ok (.goto (-42), 3) := by decide +kernel
theorem dX7_owedIn_50 : decode cX7_owedIn 50 = .ok (.iload_n 3, 1) := by decide +kernel
theorem dX7_owedIn_51 : decode cX7_owedIn 51 = .ok (.ireturn, 1) := by decide +kernel
theorem dX7_townOf_0 : decode cX7_townOf 0 = .ok (.iload_n 2, 1) := by decide +kernel
theorem dX7_townOf_1 : decode cX7_townOf 1 = .ok (.tableswitch 176 0 10 #[59, 68, 76, 85, 93, 109, 126, 126, 143, 154, 165], 59) := by decide +kernel
theorem dX7_townOf_60 : decode cX7_townOf 60 = .ok (.aload_n 0, 1) := by decide +kernel
theorem dX7_townOf_61 : decode cX7_townOf 61 = .ok (.getfield 7, 3) := by decide +kernel
theorem dX7_townOf_64 : decode cX7_townOf 64 = .ok (.iconst 0, 1) := by decide +kernel
theorem dX7_townOf_65 : decode cX7_townOf 65 = .ok (.iload_n 1, 1) := by decide +kernel
theorem dX7_townOf_66 : decode cX7_townOf 66 = .ok (.iadd, 1) := by decide +kernel
theorem dX7_townOf_67 : decode cX7_townOf 67 = .ok (.iaload, 1) := by decide +kernel
theorem dX7_townOf_68 : decode cX7_townOf 68 = .ok (.ireturn, 1) := by decide +kernel
theorem dX7_townOf_69 : decode cX7_townOf 69 = .ok (.aload_n 0, 1) := by decide +kernel
theorem dX7_townOf_70 : decode cX7_townOf 70 = .ok (.bipush 6, 2) := by decide +kernel
theorem dX7_townOf_72 : decode cX7_townOf 72 = .ok (.iload_n 1, 1) := by decide +kernel
theorem dX7_townOf_73 : decode cX7_townOf 73 = .ok (.invokevirtual 74, 3) := by decide +kernel
theorem dX7_townOf_76 : decode cX7_townOf 76 = .ok (.ireturn, 1) := by decide +kernel
theorem dX7_townOf_77 : decode cX7_townOf 77 = .ok (.aload_n 0, 1) := by decide +kernel
theorem dX7_townOf_78 : decode cX7_townOf 78 = .ok (.sipush 150, 3) := by decide +kernel
theorem dX7_townOf_81 : decode cX7_townOf 81 = .ok (.iload_n 1, 1) := by decide +kernel
theorem dX7_townOf_82 : decode cX7_townOf 82 = .ok (.invokevirtual 74, 3) := by decide +kernel
theorem dX7_townOf_85 : decode cX7_townOf 85 = .ok (.ireturn, 1) := by decide +kernel
theorem dX7_townOf_86 : decode cX7_townOf 86 = .ok (.aload_n 0, 1) := by decide +kernel
theorem dX7_townOf_87 : decode cX7_townOf 87 = .ok (.iload_n 1, 1) := by decide +kernel
theorem dX7_townOf_88 : decode cX7_townOf 88 = .ok (.iload_n 1, 1) := by decide +kernel
theorem dX7_townOf_89 : decode cX7_townOf 89 = .ok (.iconst 0, 1) := by decide +kernel
theorem dX7_townOf_90 : decode cX7_townOf 90 = .ok (.invokevirtual 78, 3) := by decide +kernel
theorem dX7_townOf_93 : decode cX7_townOf 93 = .ok (.ireturn, 1) := by decide +kernel
theorem dX7_townOf_94 : decode cX7_townOf 94 = .ok (.aload_n 0, 1) := by decide +kernel
theorem dX7_townOf_95 : decode cX7_townOf 95 = .ok (.bipush 6, 2) := by decide +kernel
theorem dX7_townOf_97 : decode cX7_townOf 97 = .ok (.iload_n 1, 1) := by decide +kernel
theorem dX7_townOf_98 : decode cX7_townOf 98 = .ok (.invokevirtual 74, 3) := by decide +kernel
theorem dX7_townOf_101 : decode cX7_townOf 101 = .ok (.aload_n 0, 1) := by decide +kernel
theorem dX7_townOf_102 : decode cX7_townOf 102 = .ok (.iload_n 1, 1) := by decide +kernel
theorem dX7_townOf_103 : decode cX7_townOf 103 = .ok (.iload_n 1, 1) := by decide +kernel
theorem dX7_townOf_104 : decode cX7_townOf 104 = .ok (.iconst 0, 1) := by decide +kernel
theorem dX7_townOf_105 : decode cX7_townOf 105 = .ok (.invokevirtual 78, 3) := by decide +kernel
theorem dX7_townOf_108 : decode cX7_townOf 108 = .ok (.isub, 1) := by decide +kernel
theorem dX7_townOf_109 : decode cX7_townOf 109 = .ok (.ireturn, 1) := by decide +kernel
theorem dX7_townOf_110 : decode cX7_townOf 110 = .ok (.aload_n 0, 1) := by decide +kernel
theorem dX7_townOf_111 : decode cX7_townOf 111 = .ok (.sipush 150, 3) := by decide +kernel
theorem dX7_townOf_114 : decode cX7_townOf 114 = .ok (.iload_n 1, 1) := by decide +kernel
theorem dX7_townOf_115 : decode cX7_townOf 115 = .ok (.invokevirtual 74, 3) := by decide +kernel
theorem dX7_townOf_118 : decode cX7_townOf 118 = .ok (.aload_n 0, 1) := by decide +kernel
theorem dX7_townOf_119 : decode cX7_townOf 119 = .ok (.iload_n 1, 1) := by decide +kernel
theorem dX7_townOf_120 : decode cX7_townOf 120 = .ok (.iload_n 1, 1) := by decide +kernel
theorem dX7_townOf_121 : decode cX7_townOf 121 = .ok (.iconst 0, 1) := by decide +kernel
theorem dX7_townOf_122 : decode cX7_townOf 122 = .ok (.invokevirtual 78, 3) := by decide +kernel
theorem dX7_townOf_125 : decode cX7_townOf 125 = .ok (.isub, 1) := by decide +kernel
theorem dX7_townOf_126 : decode cX7_townOf 126 = .ok (.ireturn, 1) := by decide +kernel
theorem dX7_townOf_127 : decode cX7_townOf 127 = .ok (.aload_n 0, 1) := by decide +kernel
theorem dX7_townOf_128 : decode cX7_townOf 128 = .ok (.iload_n 1, 1) := by decide +kernel
theorem dX7_townOf_129 : decode cX7_townOf 129 = .ok (.iload_n 2, 1) := by decide +kernel
theorem dX7_townOf_130 : decode cX7_townOf 130 = .ok (.bipush 7, 2) := by decide +kernel
theorem dX7_townOf_132 : decode cX7_townOf 132 = .ok (.if_icmp .ne 7, 3) := by decide +kernel
theorem dX7_townOf_135 : decode cX7_townOf 135 = .ok (.iconst 1, 1) := by decide +kernel
theorem dX7_townOf_136 : decode cX7_townOf 136 = .ok (.goto 4, 3) := by decide +kernel
theorem dX7_townOf_139 : decode cX7_townOf 139 = .ok (.iconst 0, 1) := by decide +kernel
theorem dX7_townOf_140 : decode cX7_townOf 140 = .ok (.invokevirtual 177, 3) := by decide +kernel
theorem dX7_townOf_143 : decode cX7_townOf 143 = .ok (.ireturn, 1) := by decide +kernel
theorem dX7_townOf_144 : decode cX7_townOf 144 = .ok (.aload_n 0, 1) := by decide +kernel
theorem dX7_townOf_145 : decode cX7_townOf 145 = .ok (.getfield 7, 3) := by decide +kernel
theorem dX7_townOf_148 : decode cX7_townOf 148 = .ok (.sipush 402, 3) := by decide +kernel
theorem dX7_townOf_151 : decode cX7_townOf 151 = .ok (.iload_n 1, 1) := by decide +kernel
theorem dX7_townOf_152 : decode cX7_townOf 152 = .ok (.iadd, 1) := by decide +kernel
theorem dX7_townOf_153 : decode cX7_townOf 153 = .ok (.iaload, 1) := by decide +kernel
theorem dX7_townOf_154 : decode cX7_townOf 154 = .ok (.ireturn, 1) := by decide +kernel
theorem dX7_townOf_155 : decode cX7_townOf 155 = .ok (.aload_n 0, 1) := by decide +kernel
theorem dX7_townOf_156 : decode cX7_townOf 156 = .ok (.getfield 7, 3) := by decide +kernel
theorem dX7_townOf_159 : decode cX7_townOf 159 = .ok (.sipush 408, 3) := by decide +kernel
theorem dX7_townOf_162 : decode cX7_townOf 162 = .ok (.iload_n 1, 1) := by decide +kernel
theorem dX7_townOf_163 : decode cX7_townOf 163 = .ok (.iadd, 1) := by decide +kernel
theorem dX7_townOf_164 : decode cX7_townOf 164 = .ok (.iaload, 1) := by decide +kernel
theorem dX7_townOf_165 : decode cX7_townOf 165 = .ok (.ireturn, 1) := by decide +kernel
theorem dX7_townOf_166 : decode cX7_townOf 166 = .ok (.aload_n 0, 1) := by decide +kernel
theorem dX7_townOf_167 : decode cX7_townOf 167 = .ok (.getfield 7, 3) := by decide +kernel
theorem dX7_townOf_170 : decode cX7_townOf 170 = .ok (.sipush 414, 3) := by decide +kernel
theorem dX7_townOf_173 : decode cX7_townOf 173 = .ok (.iload_n 1, 1) := by decide +kernel
theorem dX7_townOf_174 : decode cX7_townOf 174 = .ok (.iadd, 1) := by decide +kernel
theorem dX7_townOf_175 : decode cX7_townOf 175 = .ok (.iaload, 1) := by decide +kernel
theorem dX7_townOf_176 : decode cX7_townOf 176 = .ok (.ireturn, 1) := by decide +kernel
theorem dX7_townOf_177 : decode cX7_townOf 177 = .ok (.aload_n 0, 1) := by decide +kernel
theorem dX7_townOf_178 : decode cX7_townOf 178 = .ok (.iconst 0, 1) := by decide +kernel
theorem dX7_townOf_179 : decode cX7_townOf 179 = .ok (.iload_n 1, 1) := by decide +kernel
theorem dX7_townOf_180 : decode cX7_townOf 180 = .ok (.invokevirtual 107, 3) := by decide +kernel
theorem dX7_townOf_183 : decode cX7_townOf 183 = .ok (.ireturn, 1) := by decide +kernel
theorem dX7_town_0 : decode cX7_town 0 = .ok (.aload_n 0, 1) := by decide +kernel
theorem dX7_town_1 : decode cX7_town 1 = .ok (.aload_n 0, 1) := by decide +kernel
theorem dX7_town_2 : decode cX7_town 2 = .ok (.iload_n 1, 1) := by decide +kernel
theorem dX7_town_3 : decode cX7_town 3 = .ok (.invokevirtual 45, 3) := by decide +kernel
theorem dX7_town_6 : decode cX7_town 6 = .ok (.ifCond .ne 7, 3) := by decide +kernel
theorem dX7_town_9 : decode cX7_town 9 = .ok (.iconst 1, 1) := by decide +kernel
theorem dX7_town_10 : decode cX7_town 10 = .ok (.goto 18, 3) := by decide +kernel
theorem dX7_town_13 : decode cX7_town 13 = .ok (.iload_n 2, 1) := by decide +kernel
theorem dX7_town_14 : decode cX7_town 14 = .ok (.iconst 0, 1) := by decide +kernel
theorem dX7_town_15 : decode cX7_town 15 = .ok (.bipush 11, 2) := by decide +kernel
theorem dX7_town_17 : decode cX7_town 17 = .ok (.invokestatic 41, 3) := by decide +kernel
theorem dX7_town_20 : decode cX7_town 20 = .ok (.ifCond .ne 7, 3) := by decide +kernel
theorem dX7_town_23 : decode cX7_town 23 = .ok (.iconst 2, 1) := by decide +kernel
theorem dX7_town_24 : decode cX7_town 24 = .ok (.goto 4, 3) := by decide +kernel
theorem dX7_town_27 : decode cX7_town 27 = .ok (.iconst 0, 1) := by decide +kernel
theorem dX7_town_28 : decode cX7_town 28 = .ok (.putfield 37, 3) := by decide +kernel
theorem dX7_town_31 : decode cX7_town 31 = .ok (.aload_n 0, 1) := by decide +kernel
theorem dX7_town_32 : decode cX7_town 32 = .ok (.getfield 37, 3) := by decide +kernel
theorem dX7_town_35 : decode cX7_town 35 = .ok (.ifCond .ne 12, 3) := by decide +kernel
theorem dX7_town_38 : decode cX7_town 38 = .ok (.aload_n 0, 1) := by decide +kernel
theorem dX7_town_39 : decode cX7_town 39 = .ok (.iload_n 1, 1) := by decide +kernel
theorem dX7_town_40 : decode cX7_town 40 = .ok (.iload_n 2, 1) := by decide +kernel
theorem dX7_town_41 : decode cX7_town 41 = .ok (.invokevirtual 181, 3) := by decide +kernel
theorem dX7_town_44 : decode cX7_town 44 = .ok (.goto 4, 3) := by decide +kernel
theorem dX7_town_47 : decode cX7_town 47 = .ok (.iconst 0, 1) := by decide +kernel
theorem dX7_town_48 : decode cX7_town 48 = .ok (.ireturn, 1) := by decide +kernel
theorem dX7_stepOf_0 : decode cX7_stepOf 0 = .ok (.iload_n 3, 1) := by decide +kernel
theorem dX7_stepOf_1 : decode cX7_stepOf 1 = .ok (.iconst 2, 1) := by decide +kernel
theorem dX7_stepOf_2 : decode cX7_stepOf 2 = .ok (.if_icmp .ge 26, 3) := by decide +kernel
theorem dX7_stepOf_5 : decode cX7_stepOf 5 = .ok (.aload_n 0, 1) := by decide +kernel
theorem dX7_stepOf_6 : decode cX7_stepOf 6 = .ok (.getfield 7, 3) := by decide +kernel
theorem dX7_stepOf_9 : decode cX7_stepOf 9 = .ok (.iload_n 3, 1) := by decide +kernel
theorem dX7_stepOf_10 : decode cX7_stepOf 10 = .ok (.ifCond .ne 8, 3) := by decide +kernel
theorem dX7_stepOf_13 : decode cX7_stepOf 13 = .ok (.bipush 6, 2) := by decide +kernel
theorem dX7_stepOf_15 : decode cX7_stepOf 15 = .ok (.goto 6, 3) := by decide +kernel
theorem dX7_stepOf_18 : decode cX7_stepOf 18 = .ok (.sipush 150, 3) := by decide +kernel
theorem dX7_stepOf_21 : decode cX7_stepOf 21 = .ok (.iload_n 1, 1) := by decide +kernel
theorem dX7_stepOf_22 : decode cX7_stepOf 22 = .ok (.iload_n 2, 1) := by decide +kernel
theorem dX7_stepOf_23 : decode cX7_stepOf 23 = .ok (.invokestatic 56, 3) := by decide +kernel
theorem dX7_stepOf_26 : decode cX7_stepOf 26 = .ok (.iaload, 1) := by decide +kernel
theorem dX7_stepOf_27 : decode cX7_stepOf 27 = .ok (.ireturn, 1) := by decide +kernel
theorem dX7_stepOf_28 : decode cX7_stepOf 28 = .ok (.aload_n 0, 1) := by decide +kernel
theorem dX7_stepOf_29 : decode cX7_stepOf 29 = .ok (.iload_n 1, 1) := by decide +kernel
theorem dX7_stepOf_30 : decode cX7_stepOf 30 = .ok (.invokevirtual 103, 3) := by decide +kernel
theorem dX7_stepOf_33 : decode cX7_stepOf 33 = .ok (.aload_n 0, 1) := by decide +kernel
theorem dX7_stepOf_34 : decode cX7_stepOf 34 = .ok (.getfield 19, 3) := by decide +kernel
theorem dX7_stepOf_37 : decode cX7_stepOf 37 = .ok (.iload_n 2, 1) := by decide +kernel
theorem dX7_stepOf_38 : decode cX7_stepOf 38 = .ok (.iaload, 1) := by decide +kernel
theorem dX7_stepOf_39 : decode cX7_stepOf 39 = .ok (.ireturn, 1) := by decide +kernel
theorem dX7_step_0 : decode cX7_step 0 = .ok (.aload_n 0, 1) := by decide +kernel
theorem dX7_step_1 : decode cX7_step 1 = .ok (.aload_n 0, 1) := by decide +kernel
theorem dX7_step_2 : decode cX7_step 2 = .ok (.iload_n 1, 1) := by decide +kernel
theorem dX7_step_3 : decode cX7_step 3 = .ok (.iload_n 2, 1) := by decide +kernel
theorem dX7_step_4 : decode cX7_step 4 = .ok (.iconst 0, 1) := by decide +kernel
theorem dX7_step_5 : decode cX7_step 5 = .ok (.invokevirtual 67, 3) := by decide +kernel
theorem dX7_step_8 : decode cX7_step 8 = .ok (.ifCond .ne 7, 3) := by decide +kernel
theorem dX7_step_11 : decode cX7_step 11 = .ok (.iconst 1, 1) := by decide +kernel
theorem dX7_step_12 : decode cX7_step 12 = .ok (.goto 17, 3) := by decide +kernel
theorem dX7_step_15 : decode cX7_step 15 = .ok (.iload_n 3, 1) := by decide +kernel
theorem dX7_step_16 : decode cX7_step 16 = .ok (.iconst 0, 1) := by decide +kernel
theorem dX7_step_17 : decode cX7_step 17 = .ok (.iconst 2, 1) := by decide +kernel
theorem dX7_step_18 : decode cX7_step 18 = .ok (.invokestatic 41, 3) := by decide +kernel
theorem dX7_step_21 : decode cX7_step 21 = .ok (.ifCond .ne 7, 3) := by decide +kernel
theorem dX7_step_24 : decode cX7_step 24 = .ok (.iconst 2, 1) := by decide +kernel
theorem dX7_step_25 : decode cX7_step 25 = .ok (.goto 4, 3) := by decide +kernel
theorem dX7_step_28 : decode cX7_step 28 = .ok (.iconst 0, 1) := by decide +kernel
theorem dX7_step_29 : decode cX7_step 29 = .ok (.putfield 37, 3) := by decide +kernel
theorem dX7_step_32 : decode cX7_step 32 = .ok (.aload_n 0, 1) := by decide +kernel
theorem dX7_step_33 : decode cX7_step 33 = .ok (.getfield 37, 3) := by decide +kernel
theorem dX7_step_36 : decode cX7_step 36 = .ok (.ifCond .ne 13, 3) := by decide +kernel
theorem dX7_step_39 : decode cX7_step 39 = .ok (.aload_n 0, 1) := by decide +kernel
theorem dX7_step_40 : decode cX7_step 40 = .ok (.iload_n 1, 1) := by decide +kernel
theorem dX7_step_41 : decode cX7_step 41 = .ok (.iload_n 2, 1) := by decide +kernel
theorem dX7_step_42 : decode cX7_step 42 = .ok (.iload_n 3, 1) := by decide +kernel
theorem dX7_step_43 : decode cX7_step 43 = .ok (.invokevirtual 184, 3) := by decide +kernel
theorem dX7_step_46 : decode cX7_step 46 = .ok (.goto 4, 3) := by decide +kernel
theorem dX7_step_49 : decode cX7_step 49 = .ok (.iconst 0, 1) := by decide +kernel
theorem dX7_step_50 : decode cX7_step 50 = .ok (.ireturn, 1) := by decide +kernel
theorem dX7_sumOf_0 : decode cX7_sumOf 0 = .ok (.iconst 0, 1) := by decide +kernel
theorem dX7_sumOf_1 : decode cX7_sumOf 1 = .ok (.istore_n 2, 1) := by decide +kernel
theorem dX7_sumOf_2 : decode cX7_sumOf 2 = .ok (.iconst 0, 1) := by decide +kernel
theorem dX7_sumOf_3 : decode cX7_sumOf 3 = .ok (.istore_n 3, 1) := by decide +kernel
theorem dX7_sumOf_4 : decode cX7_sumOf 4 = .ok (.iload_n 3, 1) := by decide +kernel
theorem dX7_sumOf_5 : decode cX7_sumOf 5 = .ok (.aload_n 0, 1) := by decide +kernel
theorem dX7_sumOf_6 : decode cX7_sumOf 6 = .ok (.getfield 7, 3) := by decide +kernel
theorem dX7_sumOf_9 : decode cX7_sumOf 9 = .ok (.sipush 423, 3) := by decide +kernel
theorem dX7_sumOf_12 : decode cX7_sumOf 12 = .ok (.iaload, 1) := by decide +kernel
theorem dX7_sumOf_13 : decode cX7_sumOf 13 = .ok (.if_icmp .ge 18, 3) := by decide +kernel
theorem dX7_sumOf_16 : decode cX7_sumOf 16 = .ok (.iload_n 2, 1) := by decide +kernel
theorem dX7_sumOf_17 : decode cX7_sumOf 17 = .ok (.aload_n 0, 1) := by decide +kernel
theorem dX7_sumOf_18 : decode cX7_sumOf 18 = .ok (.iload_n 3, 1) := by decide +kernel
theorem dX7_sumOf_19 : decode cX7_sumOf 19 = .ok (.iload_n 1, 1) := by decide +kernel
theorem dX7_sumOf_20 : decode cX7_sumOf 20 = .ok (.invokevirtual 181, 3) := by decide +kernel
theorem dX7_sumOf_23 : decode cX7_sumOf 23 = .ok (.iadd, 1) := by decide +kernel
theorem dX7_sumOf_24 : decode cX7_sumOf 24 = .ok (.istore_n 2, 1) := by decide +kernel
theorem dX7_sumOf_25 : decode cX7_sumOf 25 = .ok (.iinc 3 1, 3) := by decide +kernel
theorem dX7_sumOf_28 : decode cX7_sumOf 28 = .ok (.goto (-24), 3) := by decide +kernel
theorem dX7_sumOf_31 : decode cX7_sumOf 31 = .ok (.iload_n 2, 1) := by decide +kernel
theorem dX7_sumOf_32 : decode cX7_sumOf 32 = .ok (.ireturn, 1) := by decide +kernel
theorem dX7_owing_0 : decode cX7_owing 0 = .ok (.iconst 0, 1) := by decide +kernel
theorem dX7_owing_1 : decode cX7_owing 1 = .ok (.istore_n 1, 1) := by decide +kernel
theorem dX7_owing_2 : decode cX7_owing 2 = .ok (.iconst 0, 1) := by decide +kernel
theorem dX7_owing_3 : decode cX7_owing 3 = .ok (.istore_n 2, 1) := by decide +kernel
theorem dX7_owing_4 : decode cX7_owing 4 = .ok (.iload_n 2, 1) := by decide +kernel
theorem dX7_owing_5 : decode cX7_owing 5 = .ok (.bipush 36, 2) := by decide +kernel
theorem dX7_owing_7 : decode cX7_owing 7 = .ok (.if_icmp .ge 30, 3) := by decide +kernel
theorem dX7_owing_10 : decode cX7_owing 10 = .ok (.iload_n 1, 1) := by decide +kernel
theorem dX7_owing_11 : decode cX7_owing 11 = .ok (.aload_n 0, 1) := by decide +kernel
theorem dX7_owing_12 : decode cX7_owing 12 = .ok (.getfield 7, 3) := by decide +kernel
theorem dX7_owing_15 : decode cX7_owing 15 = .ok (.sipush 366, 3) := by decide +kernel
theorem dX7_owing_18 : decode cX7_owing 18 = .ok (.iload_n 2, 1) := by decide +kernel
theorem dX7_owing_19 : decode cX7_owing 19 = .ok (.iadd, 1) := by decide +kernel
theorem dX7_owing_20 : decode cX7_owing 20 = .ok (.iaload, 1) := by decide +kernel
theorem dX7_owing_21 : decode cX7_owing 21 = .ok (.ifCond .le 7, 3) := by decide +kernel
theorem dX7_owing_24 : decode cX7_owing 24 = .ok (.iconst 1, 1) := by decide +kernel
theorem dX7_owing_25 : decode cX7_owing 25 = .ok (.goto 4, 3) := by decide +kernel
theorem dX7_owing_28 : decode cX7_owing 28 = .ok (.iconst 0, 1) := by decide +kernel
theorem dX7_owing_29 : decode cX7_owing 29 = .ok (.iadd, 1) := by decide +kernel
theorem dX7_owing_30 : decode cX7_owing 30 = .ok (.istore_n 1, 1) := by decide +kernel
theorem dX7_owing_31 : decode cX7_owing 31 = .ok (.iinc 2 1, 3) := by decide +kernel
theorem dX7_owing_34 : decode cX7_owing 34 = .ok (.goto (-30), 3) := by decide +kernel
theorem dX7_owing_37 : decode cX7_owing 37 = .ok (.iload_n 1, 1) := by decide +kernel
theorem dX7_owing_38 : decode cX7_owing 38 = .ok (.ireturn, 1) := by decide +kernel
theorem dX7_countOf_0 : decode cX7_countOf 0 = .ok (.iload_n 1, 1) := by decide +kernel
theorem dX7_countOf_1 : decode cX7_countOf 1 = .ok (.tableswitch 136 0 9 #[55, 64, 76, 82, 89, 94, 103, 112, 121, 130], 55) := by decide +kernel
theorem dX7_countOf_56 : decode cX7_countOf 56 = .ok (.aload_n 0, 1) := by decide +kernel
theorem dX7_countOf_57 : decode cX7_countOf 57 = .ok (.getfield 7, 3) := by decide +kernel
theorem dX7_countOf_60 : decode cX7_countOf 60 = .ok (.sipush 423, 3) := by decide +kernel
theorem dX7_countOf_63 : decode cX7_countOf 63 = .ok (.iaload, 1) := by decide +kernel
theorem dX7_countOf_64 : decode cX7_countOf 64 = .ok (.ireturn, 1) := by decide +kernel
theorem dX7_countOf_65 : decode cX7_countOf 65 = .ok (.aload_n 0, 1) := by decide +kernel
theorem dX7_countOf_66 : decode cX7_countOf 66 = .ok (.iconst 0, 1) := by decide +kernel
theorem dX7_countOf_67 : decode cX7_countOf 67 = .ok (.invokevirtual 187, 3) := by decide +kernel
theorem dX7_countOf_70 : decode cX7_countOf 70 = .ok (.aload_n 0, 1) := by decide +kernel
theorem dX7_countOf_71 : decode cX7_countOf 71 = .ok (.iconst 1, 1) := by decide +kernel
theorem dX7_countOf_72 : decode cX7_countOf 72 = .ok (.invokevirtual 187, 3) := by decide +kernel
theorem dX7_countOf_75 : decode cX7_countOf 75 = .ok (.iadd, 1) := by decide +kernel
theorem dX7_countOf_76 : decode cX7_countOf 76 = .ok (.ireturn, 1) := by decide +kernel
theorem dX7_countOf_77 : decode cX7_countOf 77 = .ok (.aload_n 0, 1) := by decide +kernel
theorem dX7_countOf_78 : decode cX7_countOf 78 = .ok (.iconst 0, 1) := by decide +kernel
theorem dX7_countOf_79 : decode cX7_countOf 79 = .ok (.invokevirtual 187, 3) := by decide +kernel
theorem dX7_countOf_82 : decode cX7_countOf 82 = .ok (.ireturn, 1) := by decide +kernel
theorem dX7_countOf_83 : decode cX7_countOf 83 = .ok (.aload_n 0, 1) := by decide +kernel
theorem dX7_countOf_84 : decode cX7_countOf 84 = .ok (.bipush 6, 2) := by decide +kernel
theorem dX7_countOf_86 : decode cX7_countOf 86 = .ok (.invokevirtual 187, 3) := by decide +kernel
theorem dX7_countOf_89 : decode cX7_countOf 89 = .ok (.ireturn, 1) := by decide +kernel
theorem dX7_countOf_90 : decode cX7_countOf 90 = .ok (.aload_n 0, 1) := by decide +kernel
theorem dX7_countOf_91 : decode cX7_countOf 91 = .ok (.invokevirtual 190, 3) := by decide +kernel
theorem dX7_countOf_94 : decode cX7_countOf 94 = .ok (.ireturn, 1) := by decide +kernel
theorem dX7_countOf_95 : decode cX7_countOf 95 = .ok (.aload_n 0, 1) := by decide +kernel
theorem dX7_countOf_96 : decode cX7_countOf 96 = .ok (.getfield 7, 3) := by decide +kernel
theorem dX7_countOf_99 : decode cX7_countOf 99 = .ok (.sipush 424, 3) := by decide +kernel
theorem dX7_countOf_102 : decode cX7_countOf 102 = .ok (.iaload, 1) := by decide +kernel
theorem dX7_countOf_103 : decode cX7_countOf 103 = .ok (.ireturn, 1) := by decide +kernel
theorem dX7_countOf_104 : decode cX7_countOf 104 = .ok (.aload_n 0, 1) := by decide +kernel
theorem dX7_countOf_105 : decode cX7_countOf 105 = .ok (.getfield 7, 3) := by decide +kernel
theorem dX7_countOf_108 : decode cX7_countOf 108 = .ok (.sipush 425, 3) := by decide +kernel
theorem dX7_countOf_111 : decode cX7_countOf 111 = .ok (.iaload, 1) := by decide +kernel
theorem dX7_countOf_112 : decode cX7_countOf 112 = .ok (.ireturn, 1) := by decide +kernel
theorem dX7_countOf_113 : decode cX7_countOf 113 = .ok (.aload_n 0, 1) := by decide +kernel
theorem dX7_countOf_114 : decode cX7_countOf 114 = .ok (.getfield 7, 3) := by decide +kernel
theorem dX7_countOf_117 : decode cX7_countOf 117 = .ok (.sipush 426, 3) := by decide +kernel
theorem dX7_countOf_120 : decode cX7_countOf 120 = .ok (.iaload, 1) := by decide +kernel
theorem dX7_countOf_121 : decode cX7_countOf 121 = .ok (.ireturn, 1) := by decide +kernel
theorem dX7_countOf_122 : decode cX7_countOf 122 = .ok (.aload_n 0, 1) := by decide +kernel
theorem dX7_countOf_123 : decode cX7_countOf 123 = .ok (.getfield 7, 3) := by decide +kernel
theorem dX7_countOf_126 : decode cX7_countOf 126 = .ok (.sipush 427, 3) := by decide +kernel
theorem dX7_countOf_129 : decode cX7_countOf 129 = .ok (.iaload, 1) := by decide +kernel
theorem dX7_countOf_130 : decode cX7_countOf 130 = .ok (.ireturn, 1) := by decide +kernel
theorem dX7_countOf_131 : decode cX7_countOf 131 = .ok (.aload_n 0, 1) := by decide +kernel
theorem dX7_countOf_132 : decode cX7_countOf 132 = .ok (.iconst 3, 1) := by decide +kernel
theorem dX7_countOf_133 : decode cX7_countOf 133 = .ok (.invokevirtual 187, 3) := by decide +kernel
theorem dX7_countOf_136 : decode cX7_countOf 136 = .ok (.ireturn, 1) := by decide +kernel
theorem dX7_countOf_137 : decode cX7_countOf 137 = .ok (.aload_n 0, 1) := by decide +kernel
theorem dX7_countOf_138 : decode cX7_countOf 138 = .ok (.getfield 49, 3) := by decide +kernel
theorem dX7_countOf_141 : decode cX7_countOf 141 = .ok (.ireturn, 1) := by decide +kernel
theorem dX7_count_0 : decode cX7_count 0 = .ok (.aload_n 0, 1) := by decide +kernel
theorem dX7_count_1 : decode cX7_count 1 = .ok (.iload_n 1, 1) := by decide +kernel
theorem dX7_count_2 : decode cX7_count 2 = .ok (.iconst 0, 1) := by decide +kernel
theorem dX7_count_3 : decode cX7_count 3 = .ok (.bipush 10, 2) := by decide +kernel
theorem dX7_count_5 : decode cX7_count 5 = .ok (.invokestatic 41, 3) := by decide +kernel
theorem dX7_count_8 : decode cX7_count 8 = .ok (.ifCond .eq 7, 3) := by decide +kernel
theorem dX7_count_11 : decode cX7_count 11 = .ok (.iconst 0, 1) := by decide +kernel
theorem dX7_count_12 : decode cX7_count 12 = .ok (.goto 4, 3) := by decide +kernel
theorem dX7_count_15 : decode cX7_count 15 = .ok (.iconst 1, 1) := by decide +kernel
theorem dX7_count_16 : decode cX7_count 16 = .ok (.putfield 37, 3) := by decide +kernel
theorem dX7_count_19 : decode cX7_count 19 = .ok (.aload_n 0, 1) := by decide +kernel
theorem dX7_count_20 : decode cX7_count 20 = .ok (.getfield 37, 3) := by decide +kernel
theorem dX7_count_23 : decode cX7_count 23 = .ok (.ifCond .ne 11, 3) := by decide +kernel
theorem dX7_count_26 : decode cX7_count 26 = .ok (.aload_n 0, 1) := by decide +kernel
theorem dX7_count_27 : decode cX7_count 27 = .ok (.iload_n 1, 1) := by decide +kernel
theorem dX7_count_28 : decode cX7_count 28 = .ok (.invokevirtual 193, 3) := by decide +kernel
theorem dX7_count_31 : decode cX7_count 31 = .ok (.goto 4, 3) := by decide +kernel
theorem dX7_count_34 : decode cX7_count 34 = .ok (.iconst 0, 1) := by decide +kernel
theorem dX7_count_35 : decode cX7_count 35 = .ok (.ireturn, 1) := by decide +kernel
theorem dX7_bestTurnOf_0 : decode cX7_bestTurnOf 0 = .ok (.iconst 0, 1) := by decide +kernel
theorem dX7_bestTurnOf_1 : decode cX7_bestTurnOf 1 = .ok (.istore_n 3, 1) := by decide +kernel
theorem dX7_bestTurnOf_2 : decode cX7_bestTurnOf 2 = .ok (.iconst 1, 1) := by decide +kernel
theorem dX7_bestTurnOf_3 : decode cX7_bestTurnOf 3 = .ok (.istore 4, 2) := by decide +kernel
theorem dX7_bestTurnOf_5 : decode cX7_bestTurnOf 5 = .ok (.iload 4, 2) := by decide +kernel
theorem dX7_bestTurnOf_7 : decode cX7_bestTurnOf 7 = .ok (.bipush 24, 2) := by decide +kernel
theorem dX7_bestTurnOf_9 : decode cX7_bestTurnOf 9 = .ok (.if_icmp .ge 34, 3) := by decide +kernel
theorem dX7_bestTurnOf_12 : decode cX7_bestTurnOf 12 = .ok (.aload_n 0, 1) := by decide +kernel
theorem dX7_bestTurnOf_13 : decode cX7_bestTurnOf 13 = .ok (.iload_n 1, 1) := by decide +kernel
theorem dX7_bestTurnOf_14 : decode cX7_bestTurnOf 14 = .ok (.iload_n 1, 1) := by decide +kernel
theorem dX7_bestTurnOf_15 : decode cX7_bestTurnOf 15 = .ok (.iload 4, 2) := by decide +kernel
theorem dX7_bestTurnOf_17 : decode cX7_bestTurnOf 17 = .ok (.invokevirtual 78, 3) := by decide +kernel
theorem dX7_bestTurnOf_20 : decode cX7_bestTurnOf 20 = .ok (.aload_n 0, 1) := by decide +kernel
theorem dX7_bestTurnOf_21 : decode cX7_bestTurnOf 21 = .ok (.iload_n 1, 1) := by decide +kernel
theorem dX7_bestTurnOf_22 : decode cX7_bestTurnOf 22 = .ok (.iload_n 1, 1) := by decide +kernel
theorem dX7_bestTurnOf_23 : decode cX7_bestTurnOf 23 = .ok (.iload_n 3, 1) := by decide +kernel
theorem dX7_bestTurnOf_24 : decode cX7_bestTurnOf 24 = .ok (.invokevirtual 78, 3) := by decide +kernel
theorem dX7_bestTurnOf_27 : decode cX7_bestTurnOf 27 = .ok (.if_icmp .le 8, 3) := by decide +kernel
theorem dX7_bestTurnOf_30 : decode cX7_bestTurnOf 30 = .ok (.iload 4, 2) := by decide +kernel
theorem dX7_bestTurnOf_32 : decode cX7_bestTurnOf 32 = .ok (.goto 4, 3) := by decide +kernel
theorem dX7_bestTurnOf_35 : decode cX7_bestTurnOf 35 = .ok (.iload_n 3, 1) := by decide +kernel
theorem dX7_bestTurnOf_36 : decode cX7_bestTurnOf 36 = .ok (.istore_n 3, 1) := by decide +kernel
theorem dX7_bestTurnOf_37 : decode cX7_bestTurnOf 37 = .ok (.iinc 4 1, 3) := by decide +kernel
theorem dX7_bestTurnOf_40 : decode cX7_bestTurnOf 40 = .ok (.goto (-35), 3) := by decide +kernel
theorem dX7_bestTurnOf_43 : decode cX7_bestTurnOf 43 = .ok (.iload_n 2, 1) := by decide +kernel
theorem dX7_bestTurnOf_44 : decode cX7_bestTurnOf 44 = .ok (.ifCond .ne 7, 3) := by decide +kernel
theorem dX7_bestTurnOf_47 : decode cX7_bestTurnOf 47 = .ok (.iload_n 3, 1) := by decide +kernel
theorem dX7_bestTurnOf_48 : decode cX7_bestTurnOf 48 = .ok (.goto 10, 3) := by decide +kernel
theorem dX7_bestTurnOf_51 : decode cX7_bestTurnOf 51 = .ok (.aload_n 0, 1) := by decide +kernel
theorem dX7_bestTurnOf_52 : decode cX7_bestTurnOf 52 = .ok (.iload_n 1, 1) := by decide +kernel
theorem dX7_bestTurnOf_53 : decode cX7_bestTurnOf 53 = .ok (.iload_n 1, 1) := by decide +kernel
theorem dX7_bestTurnOf_54 : decode cX7_bestTurnOf 54 = .ok (.iload_n 3, 1) := by decide +kernel
theorem dX7_bestTurnOf_55 : decode cX7_bestTurnOf 55 = .ok (.invokevirtual 78, 3) := by decide +kernel
theorem dX7_bestTurnOf_58 : decode cX7_bestTurnOf 58 = .ok (.ireturn, 1) := by decide +kernel
theorem dX7_bestTurn_0 : decode cX7_bestTurn 0 = .ok (.aload_n 0, 1) := by decide +kernel
theorem dX7_bestTurn_1 : decode cX7_bestTurn 1 = .ok (.aload_n 0, 1) := by decide +kernel
theorem dX7_bestTurn_2 : decode cX7_bestTurn 2 = .ok (.iload_n 1, 1) := by decide +kernel
theorem dX7_bestTurn_3 : decode cX7_bestTurn 3 = .ok (.invokevirtual 45, 3) := by decide +kernel
theorem dX7_bestTurn_6 : decode cX7_bestTurn 6 = .ok (.ifCond .ne 7, 3) := by decide +kernel
theorem dX7_bestTurn_9 : decode cX7_bestTurn 9 = .ok (.iconst 1, 1) := by decide +kernel
theorem dX7_bestTurn_10 : decode cX7_bestTurn 10 = .ok (.goto 17, 3) := by decide +kernel
theorem dX7_bestTurn_13 : decode cX7_bestTurn 13 = .ok (.iload_n 2, 1) := by decide +kernel
theorem dX7_bestTurn_14 : decode cX7_bestTurn 14 = .ok (.iconst 0, 1) := by decide +kernel
theorem dX7_bestTurn_15 : decode cX7_bestTurn 15 = .ok (.iconst 1, 1) := by decide +kernel
theorem dX7_bestTurn_16 : decode cX7_bestTurn 16 = .ok (.invokestatic 41, 3) := by decide +kernel
theorem dX7_bestTurn_19 : decode cX7_bestTurn 19 = .ok (.ifCond .ne 7, 3) := by decide +kernel
theorem dX7_bestTurn_22 : decode cX7_bestTurn 22 = .ok (.iconst 2, 1) := by decide +kernel
theorem dX7_bestTurn_23 : decode cX7_bestTurn 23 = .ok (.goto 4, 3) := by decide +kernel
theorem dX7_bestTurn_26 : decode cX7_bestTurn 26 = .ok (.iconst 0, 1) := by decide +kernel
theorem dX7_bestTurn_27 : decode cX7_bestTurn 27 = .ok (.putfield 37, 3) := by decide +kernel
theorem dX7_bestTurn_30 : decode cX7_bestTurn 30 = .ok (.aload_n 0, 1) := by decide +kernel
theorem dX7_bestTurn_31 : decode cX7_bestTurn 31 = .ok (.getfield 37, 3) := by decide +kernel
theorem dX7_bestTurn_34 : decode cX7_bestTurn 34 = .ok (.ifCond .ne 12, 3) := by decide +kernel
theorem dX7_bestTurn_37 : decode cX7_bestTurn 37 = .ok (.aload_n 0, 1) := by decide +kernel
theorem dX7_bestTurn_38 : decode cX7_bestTurn 38 = .ok (.iload_n 1, 1) := by decide +kernel
theorem dX7_bestTurn_39 : decode cX7_bestTurn 39 = .ok (.iload_n 2, 1) := by decide +kernel
theorem dX7_bestTurn_40 : decode cX7_bestTurn 40 = .ok (.invokevirtual 196, 3) := by decide +kernel
theorem dX7_bestTurn_43 : decode cX7_bestTurn 43 = .ok (.goto 4, 3) := by decide +kernel
theorem dX7_bestTurn_46 : decode cX7_bestTurn 46 = .ok (.iconst 0, 1) := by decide +kernel
theorem dX7_bestTurn_47 : decode cX7_bestTurn 47 = .ok (.ireturn, 1) := by decide +kernel
theorem dX7_bestDrumOf_0 : decode cX7_bestDrumOf 0 = .ok (.iconst (-1), 1) := by decide +kernel
theorem dX7_bestDrumOf_1 : decode cX7_bestDrumOf 1 = .ok (.istore_n 2, 1) := by decide +kernel
theorem dX7_bestDrumOf_2 : decode cX7_bestDrumOf 2 = .ok (.iconst 0, 1) := by decide +kernel
theorem dX7_bestDrumOf_3 : decode cX7_bestDrumOf 3 = .ok (.istore_n 3, 1) := by decide +kernel
theorem dX7_bestDrumOf_4 : decode cX7_bestDrumOf 4 = .ok (.iload_n 3, 1) := by decide +kernel
theorem dX7_bestDrumOf_5 : decode cX7_bestDrumOf 5 = .ok (.aload_n 0, 1) := by decide +kernel
theorem dX7_bestDrumOf_6 : decode cX7_bestDrumOf 6 = .ok (.getfield 7, 3) := by decide +kernel
theorem dX7_bestDrumOf_9 : decode cX7_bestDrumOf 9 = .ok (.sipush 423, 3) := by decide +kernel
theorem dX7_bestDrumOf_12 : decode cX7_bestDrumOf 12 = .ok (.iaload, 1) := by decide +kernel
theorem dX7_bestDrumOf_13 : decode cX7_bestDrumOf 13 = .ok (.if_icmp .ge 42, 3) := by decide +kernel
theorem dX7_bestDrumOf_16 : decode cX7_bestDrumOf 16 = .ok (.iload_n 3, 1) := by decide +kernel
theorem dX7_bestDrumOf_17 : decode cX7_bestDrumOf 17 = .ok (.iload_n 1, 1) := by decide +kernel
theorem dX7_bestDrumOf_18 : decode cX7_bestDrumOf 18 = .ok (.if_icmp .eq 29, 3) := by decide +kernel
theorem dX7_bestDrumOf_21 : decode cX7_bestDrumOf 21 = .ok (.iload_n 2, 1) := by decide +kernel
theorem dX7_bestDrumOf_22 : decode cX7_bestDrumOf 22 = .ok (.iconst (-1), 1) := by decide +kernel
theorem dX7_bestDrumOf_23 : decode cX7_bestDrumOf 23 = .ok (.if_icmp .eq 20, 3) := by decide +kernel
theorem dX7_bestDrumOf_26 : decode cX7_bestDrumOf 26 = .ok (.aload_n 0, 1) := by decide +kernel
theorem dX7_bestDrumOf_27 : decode cX7_bestDrumOf 27 = .ok (.iload_n 3, 1) := by decide +kernel
theorem dX7_bestDrumOf_28 : decode cX7_bestDrumOf 28 = .ok (.iload_n 1, 1) := by decide +kernel
theorem dX7_bestDrumOf_29 : decode cX7_bestDrumOf 29 = .ok (.iconst 0, 1) := by decide +kernel
theorem dX7_bestDrumOf_30 : decode cX7_bestDrumOf 30 = .ok (.invokevirtual 78, 3) := by decide +kernel
theorem dX7_bestDrumOf_33 : decode cX7_bestDrumOf 33 = .ok (.aload_n 0, 1) := by decide +kernel
theorem dX7_bestDrumOf_34 : decode cX7_bestDrumOf 34 = .ok (.iload_n 2, 1) := by decide +kernel
theorem dX7_bestDrumOf_35 : decode cX7_bestDrumOf 35 = .ok (.iload_n 1, 1) := by decide +kernel
theorem dX7_bestDrumOf_36 : decode cX7_bestDrumOf 36 = .ok (.iconst 0, 1) := by decide +kernel
theorem dX7_bestDrumOf_37 : decode cX7_bestDrumOf 37 = .ok (.invokevirtual 78, 3) := by decide +kernel
theorem dX7_bestDrumOf_40 : decode cX7_bestDrumOf 40 = .ok (.if_icmp .le 7, 3) := by decide +kernel
theorem dX7_bestDrumOf_43 : decode cX7_bestDrumOf 43 = .ok (.iload_n 3, 1) := by decide +kernel
theorem dX7_bestDrumOf_44 : decode cX7_bestDrumOf 44 = .ok (.goto 4, 3) := by decide +kernel
theorem dX7_bestDrumOf_47 : decode cX7_bestDrumOf 47 = .ok (.iload_n 2, 1) := by decide +kernel
theorem dX7_bestDrumOf_48 : decode cX7_bestDrumOf 48 = .ok (.istore_n 2, 1) := by decide +kernel
theorem dX7_bestDrumOf_49 : decode cX7_bestDrumOf 49 = .ok (.iinc 3 1, 3) := by decide +kernel
theorem dX7_bestDrumOf_52 : decode cX7_bestDrumOf 52 = .ok (.goto (-48), 3) := by decide +kernel
theorem dX7_bestDrumOf_55 : decode cX7_bestDrumOf 55 = .ok (.iload_n 2, 1) := by decide +kernel
theorem dX7_bestDrumOf_56 : decode cX7_bestDrumOf 56 = .ok (.ireturn, 1) := by decide +kernel
theorem dX7_bestDrum_0 : decode cX7_bestDrum 0 = .ok (.aload_n 0, 1) := by decide +kernel
theorem dX7_bestDrum_1 : decode cX7_bestDrum 1 = .ok (.aload_n 0, 1) := by decide +kernel
theorem dX7_bestDrum_2 : decode cX7_bestDrum 2 = .ok (.iload_n 1, 1) := by decide +kernel
theorem dX7_bestDrum_3 : decode cX7_bestDrum 3 = .ok (.invokevirtual 45, 3) := by decide +kernel
theorem dX7_bestDrum_6 : decode cX7_bestDrum 6 = .ok (.ifCond .eq 7, 3) := by decide +kernel
theorem dX7_bestDrum_9 : decode cX7_bestDrum 9 = .ok (.iconst 0, 1) := by decide +kernel
theorem dX7_bestDrum_10 : decode cX7_bestDrum 10 = .ok (.goto 4, 3) := by decide +kernel
theorem dX7_bestDrum_13 : decode cX7_bestDrum 13 = .ok (.iconst 1, 1) := by decide +kernel
theorem dX7_bestDrum_14 : decode cX7_bestDrum 14 = .ok (.putfield 37, 3) := by decide +kernel
theorem dX7_bestDrum_17 : decode cX7_bestDrum 17 = .ok (.aload_n 0, 1) := by decide +kernel
theorem dX7_bestDrum_18 : decode cX7_bestDrum 18 = .ok (.getfield 37, 3) := by decide +kernel
theorem dX7_bestDrum_21 : decode cX7_bestDrum 21 = .ok (.ifCond .ne 11, 3) := by decide +kernel
theorem dX7_bestDrum_24 : decode cX7_bestDrum 24 = .ok (.aload_n 0, 1) := by decide +kernel
theorem dX7_bestDrum_25 : decode cX7_bestDrum 25 = .ok (.iload_n 1, 1) := by decide +kernel
theorem dX7_bestDrum_26 : decode cX7_bestDrum 26 = .ok (.invokevirtual 199, 3) := by decide +kernel
theorem dX7_bestDrum_29 : decode cX7_bestDrum 29 = .ok (.goto 4, 3) := by decide +kernel
theorem dX7_bestDrum_32 : decode cX7_bestDrum 32 = .ok (.iconst 0, 1) := by decide +kernel
theorem dX7_bestDrum_33 : decode cX7_bestDrum 33 = .ok (.ireturn, 1) := by decide +kernel
theorem dX7_broughtBy_0 : decode cX7_broughtBy 0 = .ok (.iload_n 1, 1) := by decide +kernel
theorem dX7_broughtBy_1 : decode cX7_broughtBy 1 = .ok (.istore_n 2, 1) := by decide +kernel
theorem dX7_broughtBy_2 : decode cX7_broughtBy 2 = .ok (.iconst 0, 1) := by decide +kernel
theorem dX7_broughtBy_3 : decode cX7_broughtBy 3 = .ok (.istore_n 3, 1) := by decide +kernel
theorem dX7_broughtBy_4 : decode cX7_broughtBy 4 = .ok (.iconst 0, 1) := by decide +kernel
theorem dX7_broughtBy_5 : decode cX7_broughtBy 5 = .ok (.istore 4, 2) := by decide +kernel
theorem dX7_broughtBy_7 : decode cX7_broughtBy 7 = .ok (.aload_n 0, 1) := by decide +kernel
theorem dX7_broughtBy_8 : decode cX7_broughtBy 8 = .ok (.getfield 7, 3) := by decide +kernel
theorem dX7_broughtBy_11 : decode cX7_broughtBy 11 = .ok (.sipush 423, 3) := by decide +kernel
theorem dX7_broughtBy_14 : decode cX7_broughtBy 14 = .ok (.iaload, 1) := by decide +kernel
theorem dX7_broughtBy_15 : decode cX7_broughtBy 15 = .ok (.iconst 1, 1) := by decide +kernel
theorem dX7_broughtBy_16 : decode cX7_broughtBy 16 = .ok (.isub, 1) := by decide +kernel
theorem dX7_broughtBy_17 : decode cX7_broughtBy 17 = .ok (.istore 5, 2) := by decide +kernel
theorem dX7_broughtBy_19 : decode cX7_broughtBy 19 = .ok (.iload 5, 2) := by decide +kernel
theorem dX7_broughtBy_21 : decode cX7_broughtBy 21 = .ok (.ifCond .lt 88, 3) := by decide +kernel
theorem dX7_broughtBy_24 : decode cX7_broughtBy 24 = .ok (.aload_n 0, 1) := by decide +kernel
theorem dX7_broughtBy_25 : decode cX7_broughtBy 25 = .ok (.getfield 31, 3) := by decide +kernel
theorem dX7_broughtBy_28 : decode cX7_broughtBy 28 = .ok (.iload 5, 2) := by decide +kernel
theorem dX7_broughtBy_30 : decode cX7_broughtBy 30 = .ok (.iload_n 2, 1) := by decide +kernel
theorem dX7_broughtBy_31 : decode cX7_broughtBy 31 = .ok (.aload_n 0, 1) := by decide +kernel
theorem dX7_broughtBy_32 : decode cX7_broughtBy 32 = .ok (.getfield 7, 3) := by decide +kernel
theorem dX7_broughtBy_35 : decode cX7_broughtBy 35 = .ok (.sipush 423, 3) := by decide +kernel
theorem dX7_broughtBy_38 : decode cX7_broughtBy 38 = .ok (.iaload, 1) := by decide +kernel
theorem dX7_broughtBy_39 : decode cX7_broughtBy 39 = .ok (.irem, 1) := by decide +kernel
theorem dX7_broughtBy_40 : decode cX7_broughtBy 40 = .ok (.iastore, 1) := by decide +kernel
theorem dX7_broughtBy_41 : decode cX7_broughtBy 41 = .ok (.iload_n 2, 1) := by decide +kernel
theorem dX7_broughtBy_42 : decode cX7_broughtBy 42 = .ok (.aload_n 0, 1) := by decide +kernel
theorem dX7_broughtBy_43 : decode cX7_broughtBy 43 = .ok (.getfield 7, 3) := by decide +kernel
theorem dX7_broughtBy_46 : decode cX7_broughtBy 46 = .ok (.sipush 423, 3) := by decide +kernel
theorem dX7_broughtBy_49 : decode cX7_broughtBy 49 = .ok (.iaload, 1) := by decide +kernel
theorem dX7_broughtBy_50 : decode cX7_broughtBy 50 = .ok (.idiv, 1) := by decide +kernel
theorem dX7_broughtBy_51 : decode cX7_broughtBy 51 = .ok (.istore_n 2, 1) := by decide +kernel
theorem dX7_broughtBy_52 : decode cX7_broughtBy 52 = .ok (.iload_n 3, 1) := by decide +kernel
theorem dX7_broughtBy_53 : decode cX7_broughtBy 53 = .ok (.aload_n 0, 1) := by decide +kernel
theorem dX7_broughtBy_54 : decode cX7_broughtBy 54 = .ok (.getfield 31, 3) := by decide +kernel
theorem dX7_broughtBy_57 : decode cX7_broughtBy 57 = .ok (.iload 5, 2) := by decide +kernel
theorem dX7_broughtBy_59 : decode cX7_broughtBy 59 = .ok (.iaload, 1) := by decide +kernel
theorem dX7_broughtBy_60 : decode cX7_broughtBy 60 = .ok (.invokestatic 70, 3) := by decide +kernel
theorem dX7_broughtBy_63 : decode cX7_broughtBy 63 = .ok (.ifCond .eq 5, 3) := by decide +kernel
theorem dX7_broughtBy_66 : decode cX7_broughtBy 66 = .ok (.iconst (-1), 1) := by decide +kernel
theorem dX7_broughtBy_67 : decode cX7_broughtBy 67 = .ok (.ireturn, 1) := by decide +kernel
theorem dX7_broughtBy_68 : decode cX7_broughtBy 68 = .ok (.iload_n 3, 1) := by decide +kernel
theorem dX7_broughtBy_69 : decode cX7_broughtBy 69 = .ok (.iconst 1, 1) := by decide +kernel
theorem dX7_broughtBy_70 : decode cX7_broughtBy 70 = .ok (.aload_n 0, 1) := by decide +kernel
theorem dX7_broughtBy_71 : decode cX7_broughtBy 71 = .ok (.getfield 31, 3) := by decide +kernel
theorem dX7_broughtBy_74 : decode cX7_broughtBy 74 = .ok (.iload 5, 2) := by decide +kernel
theorem dX7_broughtBy_76 : decode cX7_broughtBy 76 = .ok (.iaload, 1) := by decide +kernel
theorem dX7_broughtBy_77 : decode cX7_broughtBy 77 = .ok (.ishl, 1) := by decide +kernel
theorem dX7_broughtBy_78 : decode cX7_broughtBy 78 = .ok (.ior, 1) := by decide +kernel
theorem dX7_broughtBy_79 : decode cX7_broughtBy 79 = .ok (.istore_n 3, 1) := by decide +kernel
theorem dX7_broughtBy_80 : decode cX7_broughtBy 80 = .ok (.iload 4, 2) := by decide +kernel
theorem dX7_broughtBy_82 : decode cX7_broughtBy 82 = .ok (.aload_n 0, 1) := by decide +kernel
theorem dX7_broughtBy_83 : decode cX7_broughtBy 83 = .ok (.getfield 28, 3) := by decide +kernel
theorem dX7_broughtBy_86 : decode cX7_broughtBy 86 = .ok (.bipush 6, 2) := by decide +kernel
theorem dX7_broughtBy_88 : decode cX7_broughtBy 88 = .ok (.iload 5, 2) := by decide +kernel
theorem dX7_broughtBy_90 : decode cX7_broughtBy 90 = .ok (.imul, 1) := by decide +kernel
theorem dX7_broughtBy_91 : decode cX7_broughtBy 91 = .ok (.aload_n 0, 1) := by decide +kernel
theorem dX7_broughtBy_92 : decode cX7_broughtBy 92 = .ok (.getfield 31, 3) := by decide +kernel
theorem dX7_broughtBy_95 : decode cX7_broughtBy 95 = .ok (.iload 5, 2) := by decide +kernel
theorem dX7_broughtBy_97 : decode cX7_broughtBy 97 = .ok (.iaload, 1) := by decide +kernel
theorem dX7_broughtBy_98 : decode cX7_broughtBy 98 = .ok (.iadd, 1) := by decide +kernel
theorem dX7_broughtBy_99 : decode cX7_broughtBy 99 = .ok (.iaload, 1) := by decide +kernel
theorem dX7_broughtBy_100 : decode cX7_broughtBy 100 = .ok (.iadd, 1) := by decide +kernel
theorem dX7_broughtBy_101 : decode cX7_broughtBy 101 = .ok (.istore 4, 2) := by decide +kernel
theorem dX7_broughtBy_103 : decode cX7_broughtBy 103 = .ok (.iinc 5 (-1), 3) := by decide +kernel
theorem dX7_broughtBy_106 : decode cX7_broughtBy 106 = .ok (.goto (-87), 3) := by decide +kernel
theorem dX7_broughtBy_109 : decode cX7_broughtBy 109 = .ok (.iload 4, 2) := by decide +kernel
theorem dX7_broughtBy_111 : decode cX7_broughtBy 111 = .ok (.ireturn, 1) := by decide +kernel
theorem dX7_bestTradesOf_0 : decode cX7_bestTradesOf 0 = .ok (.iconst 1, 1) := by decide +kernel
theorem dX7_bestTradesOf_1 : decode cX7_bestTradesOf 1 = .ok (.istore_n 2, 1) := by decide +kernel
theorem dX7_bestTradesOf_2 : decode cX7_bestTradesOf 2 = .ok (.iconst 0, 1) := by decide +kernel
theorem dX7_bestTradesOf_3 : decode cX7_bestTradesOf 3 = .ok (.istore_n 3, 1) := by decide +kernel
theorem dX7_bestTradesOf_4 : decode cX7_bestTradesOf 4 = .ok (.iload_n 3, 1) := by decide +kernel
theorem dX7_bestTradesOf_5 : decode cX7_bestTradesOf 5 = .ok (.bipush 36, 2) := by decide +kernel
theorem dX7_bestTradesOf_7 : decode cX7_bestTradesOf 7 = .ok (.if_icmp .ge 62, 3) := by decide +kernel
theorem dX7_bestTradesOf_10 : decode cX7_bestTradesOf 10 = .ok (.aload_n 0, 1) := by decide +kernel
theorem dX7_bestTradesOf_11 : decode cX7_bestTradesOf 11 = .ok (.getfield 28, 3) := by decide +kernel
theorem dX7_bestTradesOf_14 : decode cX7_bestTradesOf 14 = .ok (.iload_n 3, 1) := by decide +kernel
theorem dX7_bestTradesOf_15 : decode cX7_bestTradesOf 15 = .ok (.iload_n 3, 1) := by decide +kernel
theorem dX7_bestTradesOf_16 : decode cX7_bestTradesOf 16 = .ok (.bipush 6, 2) := by decide +kernel
theorem dX7_bestTradesOf_18 : decode cX7_bestTradesOf 18 = .ok (.idiv, 1) := by decide +kernel
theorem dX7_bestTradesOf_19 : decode cX7_bestTradesOf 19 = .ok (.aload_n 0, 1) := by decide +kernel
theorem dX7_bestTradesOf_20 : decode cX7_bestTradesOf 20 = .ok (.getfield 7, 3) := by decide +kernel
theorem dX7_bestTradesOf_23 : decode cX7_bestTradesOf 23 = .ok (.sipush 423, 3) := by decide +kernel
theorem dX7_bestTradesOf_26 : decode cX7_bestTradesOf 26 = .ok (.iaload, 1) := by decide +kernel
theorem dX7_bestTradesOf_27 : decode cX7_bestTradesOf 27 = .ok (.if_icmp .ge 34, 3) := by decide +kernel
theorem dX7_bestTradesOf_30 : decode cX7_bestTradesOf 30 = .ok (.iload_n 3, 1) := by decide +kernel
theorem dX7_bestTradesOf_31 : decode cX7_bestTradesOf 31 = .ok (.bipush 6, 2) := by decide +kernel
theorem dX7_bestTradesOf_33 : decode cX7_bestTradesOf 33 = .ok (.irem, 1) := by decide +kernel
theorem dX7_bestTradesOf_34 : decode cX7_bestTradesOf 34 = .ok (.aload_n 0, 1) := by decide +kernel
theorem dX7_bestTradesOf_35 : decode cX7_bestTradesOf 35 = .ok (.getfield 7, 3) := by decide +kernel
theorem dX7_bestTradesOf_38 : decode cX7_bestTradesOf 38 = .ok (.sipush 423, 3) := by decide +kernel
theorem dX7_bestTradesOf_41 : decode cX7_bestTradesOf 41 = .ok (.iaload, 1) := by decide +kernel
theorem dX7_bestTradesOf_42 : decode cX7_bestTradesOf 42 = .ok (.if_icmp .ge 19, 3) := by decide +kernel
theorem dX7_bestTradesOf_45 : decode cX7_bestTradesOf 45 = .ok (.aload_n 0, 1) := by decide +kernel
theorem dX7_bestTradesOf_46 : decode cX7_bestTradesOf 46 = .ok (.iload_n 3, 1) := by decide +kernel
theorem dX7_bestTradesOf_47 : decode cX7_bestTradesOf 47 = .ok (.bipush 6, 2) := by decide +kernel
theorem dX7_bestTradesOf_49 : decode cX7_bestTradesOf 49 = .ok (.irem, 1) := by decide +kernel
theorem dX7_bestTradesOf_50 : decode cX7_bestTradesOf 50 = .ok (.iload_n 3, 1) := by decide +kernel
theorem dX7_bestTradesOf_51 : decode cX7_bestTradesOf 51 = .ok (.bipush 6, 2) := by decide +kernel
theorem dX7_bestTradesOf_53 : decode cX7_bestTradesOf 53 = .ok (.idiv, 1) := by decide +kernel
theorem dX7_bestTradesOf_54 : decode cX7_bestTradesOf 54 = .ok (.iconst 0, 1) := by decide +kernel
theorem dX7_bestTradesOf_55 : decode cX7_bestTradesOf 55 = .ok (.invokevirtual 78, 3) := by decide +kernel
theorem dX7_bestTradesOf_58 : decode cX7_bestTradesOf 58 = .ok (.goto 4, 3) := by decide +kernel
theorem dX7_bestTradesOf_61 : decode cX7_bestTradesOf 61 = .ok (.iconst 0, 1) := by decide +kernel
theorem dX7_bestTradesOf_62 : decode cX7_bestTradesOf 62 = .ok (.iastore, 1) := by decide +kernel
theorem dX7_bestTradesOf_63 : decode cX7_bestTradesOf 63 = .ok (.iinc 3 1, 3) := by decide +kernel
theorem dX7_bestTradesOf_66 : decode cX7_bestTradesOf 66 = .ok (.goto (-62), 3) := by decide +kernel
theorem dX7_bestTradesOf_69 : decode cX7_bestTradesOf 69 = .ok (.iconst 0, 1) := by decide +kernel
theorem dX7_bestTradesOf_70 : decode cX7_bestTradesOf 70 = .ok (.istore_n 3, 1) := by decide +kernel
theorem dX7_bestTradesOf_71 : decode cX7_bestTradesOf 71 = .ok (.iload_n 3, 1) := by decide +kernel
theorem dX7_bestTradesOf_72 : decode cX7_bestTradesOf 72 = .ok (.aload_n 0, 1) := by decide +kernel
theorem dX7_bestTradesOf_73 : decode cX7_bestTradesOf 73 = .ok (.getfield 7, 3) := by decide +kernel
theorem dX7_bestTradesOf_76 : decode cX7_bestTradesOf 76 = .ok (.sipush 423, 3) := by decide +kernel
theorem dX7_bestTradesOf_79 : decode cX7_bestTradesOf 79 = .ok (.iaload, 1) := by decide +kernel
theorem dX7_bestTradesOf_80 : decode cX7_bestTradesOf 80 = .ok (.if_icmp .ge 20, 3) := by decide +kernel
theorem dX7_bestTradesOf_83 : decode cX7_bestTradesOf 83 = .ok (.iload_n 2, 1) := by decide +kernel
theorem dX7_bestTradesOf_84 : decode cX7_bestTradesOf 84 = .ok (.aload_n 0, 1) := by decide +kernel
theorem dX7_bestTradesOf_85 : decode cX7_bestTradesOf 85 = .ok (.getfield 7, 3) := by decide +kernel
theorem dX7_bestTradesOf_88 : decode cX7_bestTradesOf 88 = .ok (.sipush 423, 3) := by decide +kernel
theorem dX7_bestTradesOf_91 : decode cX7_bestTradesOf 91 = .ok (.iaload, 1) := by decide +kernel
theorem dX7_bestTradesOf_92 : decode cX7_bestTradesOf 92 = .ok (.imul, 1) := by decide +kernel
theorem dX7_bestTradesOf_93 : decode cX7_bestTradesOf 93 = .ok (.istore_n 2, 1) := by decide +kernel
theorem dX7_bestTradesOf_94 : decode cX7_bestTradesOf 94 = .ok (.iinc 3 1, 3) := by decide +kernel
theorem dX7_bestTradesOf_97 : decode cX7_bestTradesOf 97 = .ok (.goto (-26), 3) := by decide +kernel
theorem dX7_bestTradesOf_100 : decode cX7_bestTradesOf 100 = .ok (.iconst (-1), 1) := by decide +kernel
theorem dX7_bestTradesOf_101 : decode cX7_bestTradesOf 101 = .ok (.istore_n 3, 1) := by decide +kernel
theorem dX7_bestTradesOf_102 : decode cX7_bestTradesOf 102 = .ok (.iconst 0, 1) := by decide +kernel
theorem dX7_bestTradesOf_103 : decode cX7_bestTradesOf 103 = .ok (.istore 4, 2) := by decide +kernel
theorem dX7_bestTradesOf_105 : decode cX7_bestTradesOf 105 = .ok (.iload 4, 2) := by decide +kernel
theorem dX7_bestTradesOf_107 : decode cX7_bestTradesOf 107 = .ok (.iload_n 2, 1) := by decide +kernel
theorem dX7_bestTradesOf_108 : decode cX7_bestTradesOf 108 = .ok (.if_icmp .ge 66, 3) := by decide +kernel
theorem dX7_bestTradesOf_111 : decode cX7_bestTradesOf 111 = .ok (.aload_n 0, 1) := by decide +kernel
theorem dX7_bestTradesOf_112 : decode cX7_bestTradesOf 112 = .ok (.iload 4, 2) := by decide +kernel
theorem dX7_bestTradesOf_114 : decode cX7_bestTradesOf 114 = .ok (.invokevirtual 202, 3) := by decide +kernel
theorem dX7_bestTradesOf_117 : decode cX7_bestTradesOf 117 = .ok (.istore 5, 2) := by decide +kernel
theorem dX7_bestTradesOf_119 : decode cX7_bestTradesOf 119 = .ok (.iconst 0, 1) := by decide +kernel
theorem dX7_bestTradesOf_120 : decode cX7_bestTradesOf 120 = .ok (.istore 6, 2) := by decide +kernel
theorem dX7_bestTradesOf_122 : decode cX7_bestTradesOf 122 = .ok (.iload 6, 2) := by decide +kernel
theorem dX7_bestTradesOf_124 : decode cX7_bestTradesOf 124 = .ok (.bipush 6, 2) := by decide +kernel
theorem dX7_bestTradesOf_126 : decode cX7_bestTradesOf 126 = .ok (.if_icmp .ge 29, 3) := by decide +kernel
theorem dX7_bestTradesOf_129 : decode cX7_bestTradesOf 129 = .ok (.iload 5, 2) := by decide +kernel
theorem dX7_bestTradesOf_131 : decode cX7_bestTradesOf 131 = .ok (.iload_n 3, 1) := by decide +kernel
theorem dX7_bestTradesOf_132 : decode cX7_bestTradesOf 132 = .ok (.if_icmp .le 23, 3) := by decide +kernel
theorem dX7_bestTradesOf_135 : decode cX7_bestTradesOf 135 = .ok (.aload_n 0, 1) := by decide +kernel
theorem dX7_bestTradesOf_136 : decode cX7_bestTradesOf 136 = .ok (.getfield 34, 3) := by decide +kernel
theorem dX7_bestTradesOf_139 : decode cX7_bestTradesOf 139 = .ok (.iload 6, 2) := by decide +kernel
theorem dX7_bestTradesOf_141 : decode cX7_bestTradesOf 141 = .ok (.aload_n 0, 1) := by decide +kernel
theorem dX7_bestTradesOf_142 : decode cX7_bestTradesOf 142 = .ok (.getfield 31, 3) := by decide +kernel
theorem dX7_bestTradesOf_145 : decode cX7_bestTradesOf 145 = .ok (.iload 6, 2) := by decide +kernel
theorem dX7_bestTradesOf_147 : decode cX7_bestTradesOf 147 = .ok (.iaload, 1) := by decide +kernel
theorem dX7_bestTradesOf_148 : decode cX7_bestTradesOf 148 = .ok (.iastore, 1) := by decide +kernel
theorem dX7_bestTradesOf_149 : decode cX7_bestTradesOf 149 = .ok (.iinc 6 1, 3) := by decide +kernel
theorem dX7_bestTradesOf_152 : decode cX7_bestTradesOf 152 = .ok (.goto (-30), 3) := by decide +kernel
theorem dX7_bestTradesOf_155 : decode cX7_bestTradesOf 155 = .ok (.iload 5, 2) := by decide +kernel
theorem dX7_bestTradesOf_157 : decode cX7_bestTradesOf 157 = .ok (.iload_n 3, 1) := by decide +kernel
theorem dX7_bestTradesOf_158 : decode cX7_bestTradesOf 158 = .ok (.if_icmp .le 8, 3) := by decide +kernel
theorem dX7_bestTradesOf_161 : decode cX7_bestTradesOf 161 = .ok (.iload 5, 2) := by decide +kernel
theorem dX7_bestTradesOf_163 : decode cX7_bestTradesOf 163 = .ok (.goto 4, 3) := by decide +kernel
theorem dX7_bestTradesOf_166 : decode cX7_bestTradesOf 166 = .ok (.iload_n 3, 1) := by decide +kernel
theorem dX7_bestTradesOf_167 : decode cX7_bestTradesOf 167 = .ok (.istore_n 3, 1) := by decide +kernel
theorem dX7_bestTradesOf_168 : decode cX7_bestTradesOf 168 = .ok (.iinc 4 1, 3) := by decide +kernel
theorem dX7_bestTradesOf_171 : decode cX7_bestTradesOf 171 = .ok (.goto (-66), 3) := by decide +kernel
theorem dX7_bestTradesOf_174 : decode cX7_bestTradesOf 174 = .ok (.iload_n 1, 1) := by decide +kernel
theorem dX7_bestTradesOf_175 : decode cX7_bestTradesOf 175 = .ok (.ifCond .ne 7, 3) := by decide +kernel
theorem dX7_bestTradesOf_178 : decode cX7_bestTradesOf 178 = .ok (.iload_n 3, 1) := by decide +kernel
theorem dX7_bestTradesOf_179 : decode cX7_bestTradesOf 179 = .ok (.goto 31, 3) := by decide +kernel
theorem dX7_bestTradesOf_182 : decode cX7_bestTradesOf 182 = .ok (.iload_n 1, 1) := by decide +kernel
theorem dX7_bestTradesOf_183 : decode cX7_bestTradesOf 183 = .ok (.bipush 10, 2) := by decide +kernel
theorem dX7_bestTradesOf_185 : decode cX7_bestTradesOf 185 = .ok (.isub, 1) := by decide +kernel
theorem dX7_bestTradesOf_186 : decode cX7_bestTradesOf 186 = .ok (.aload_n 0, 1) := by decide +kernel
theorem dX7_bestTradesOf_187 : decode cX7_bestTradesOf 187 = .ok (.getfield 7, 3) := by decide +kernel
theorem dX7_bestTradesOf_190 : decode cX7_bestTradesOf 190 = .ok (.sipush 423, 3) := by decide +kernel
theorem dX7_bestTradesOf_193 : decode cX7_bestTradesOf 193 = .ok (.iaload, 1) := by decide +kernel
theorem dX7_bestTradesOf_194 : decode cX7_bestTradesOf 194 = .ok (.if_icmp .ge 15, 3) := by decide +kernel
theorem dX7_bestTradesOf_197 : decode cX7_bestTradesOf 197 = .ok (.aload_n 0, 1) := by decide +kernel
theorem dX7_bestTradesOf_198 : decode cX7_bestTradesOf 198 = .ok (.getfield 34, 3) := by decide +kernel
theorem dX7_bestTradesOf_201 : decode cX7_bestTradesOf 201 = .ok (.iload_n 1, 1) := by decide +kernel
theorem dX7_bestTradesOf_202 : decode cX7_bestTradesOf 202 = .ok (.bipush 10, 2) := by decide +kernel
theorem dX7_bestTradesOf_204 : decode cX7_bestTradesOf 204 = .ok (.isub, 1) := by decide +kernel
theorem dX7_bestTradesOf_205 : decode cX7_bestTradesOf 205 = .ok (.iaload, 1) := by decide +kernel
theorem dX7_bestTradesOf_206 : decode cX7_bestTradesOf 206 = .ok (.goto 4, 3) := by decide +kernel
theorem dX7_bestTradesOf_209 : decode cX7_bestTradesOf 209 = .ok (.iconst (-1), 1) := by decide +kernel
theorem dX7_bestTradesOf_210 : decode cX7_bestTradesOf 210 = .ok (.ireturn, 1) := by decide +kernel
theorem dX7_bestTrades_0 : decode cX7_bestTrades 0 = .ok (.aload_n 0, 1) := by decide +kernel
theorem dX7_bestTrades_1 : decode cX7_bestTrades 1 = .ok (.iload_n 1, 1) := by decide +kernel
theorem dX7_bestTrades_2 : decode cX7_bestTrades 2 = .ok (.ifCond .eq 14, 3) := by decide +kernel
theorem dX7_bestTrades_5 : decode cX7_bestTrades 5 = .ok (.iload_n 1, 1) := by decide +kernel
theorem dX7_bestTrades_6 : decode cX7_bestTrades 6 = .ok (.bipush 10, 2) := by decide +kernel
theorem dX7_bestTrades_8 : decode cX7_bestTrades 8 = .ok (.bipush 15, 2) := by decide +kernel
theorem dX7_bestTrades_10 : decode cX7_bestTrades 10 = .ok (.invokestatic 41, 3) := by decide +kernel
theorem dX7_bestTrades_13 : decode cX7_bestTrades 13 = .ok (.ifCond .eq 7, 3) := by decide +kernel
theorem dX7_bestTrades_16 : decode cX7_bestTrades 16 = .ok (.iconst 0, 1) := by decide +kernel
theorem dX7_bestTrades_17 : decode cX7_bestTrades 17 = .ok (.goto 4, 3) := by decide +kernel
theorem dX7_bestTrades_20 : decode cX7_bestTrades 20 = .ok (.iconst 1, 1) := by decide +kernel
theorem dX7_bestTrades_21 : decode cX7_bestTrades 21 = .ok (.putfield 37, 3) := by decide +kernel
theorem dX7_bestTrades_24 : decode cX7_bestTrades 24 = .ok (.aload_n 0, 1) := by decide +kernel
theorem dX7_bestTrades_25 : decode cX7_bestTrades 25 = .ok (.getfield 37, 3) := by decide +kernel
theorem dX7_bestTrades_28 : decode cX7_bestTrades 28 = .ok (.ifCond .ne 11, 3) := by decide +kernel
theorem dX7_bestTrades_31 : decode cX7_bestTrades 31 = .ok (.aload_n 0, 1) := by decide +kernel
theorem dX7_bestTrades_32 : decode cX7_bestTrades 32 = .ok (.iload_n 1, 1) := by decide +kernel
theorem dX7_bestTrades_33 : decode cX7_bestTrades 33 = .ok (.invokevirtual 205, 3) := by decide +kernel
theorem dX7_bestTrades_36 : decode cX7_bestTrades 36 = .ok (.goto 4, 3) := by decide +kernel
theorem dX7_bestTrades_39 : decode cX7_bestTrades 39 = .ok (.iconst 0, 1) := by decide +kernel
theorem dX7_bestTrades_40 : decode cX7_bestTrades 40 = .ok (.ireturn, 1) := by decide +kernel
theorem dX7_tuneShare_0 : decode cX7_tuneShare 0 = .ok (.aload_n 0, 1) := by decide +kernel
theorem dX7_tuneShare_1 : decode cX7_tuneShare 1 = .ok (.iconst 0, 1) := by decide +kernel
theorem dX7_tuneShare_2 : decode cX7_tuneShare 2 = .ok (.putfield 37, 3) := by decide +kernel
theorem dX7_tuneShare_5 : decode cX7_tuneShare 5 = .ok (.aload_n 0, 1) := by decide +kernel
theorem dX7_tuneShare_6 : decode cX7_tuneShare 6 = .ok (.iconst 2, 1) := by decide +kernel
theorem dX7_tuneShare_7 : decode cX7_tuneShare 7 = .ok (.invokevirtual 187, 3) := by decide +kernel
theorem dX7_tuneShare_10 : decode cX7_tuneShare 10 = .ok (.istore_n 1, 1) := by decide +kernel
theorem dX7_tuneShare_11 : decode cX7_tuneShare 11 = .ok (.iload_n 1, 1) := by decide +kernel
theorem dX7_tuneShare_12 : decode cX7_tuneShare 12 = .ok (.ifCond .ne 7, 3) := by decide +kernel
theorem dX7_tuneShare_15 : decode cX7_tuneShare 15 = .ok (.dconst 0, 1) := by decide +kernel
theorem dX7_tuneShare_16 : decode cX7_tuneShare 16 = .ok (.goto 12, 3) := by decide +kernel
theorem dX7_tuneShare_19 : decode cX7_tuneShare 19 = .ok (.aload_n 0, 1) := by decide +kernel
theorem dX7_tuneShare_20 : decode cX7_tuneShare 20 = .ok (.iconst 3, 1) := by decide +kernel
theorem dX7_tuneShare_21 : decode cX7_tuneShare 21 = .ok (.invokevirtual 187, 3) := by decide +kernel
theorem dX7_tuneShare_24 : decode cX7_tuneShare 24 = .ok (.i2d, 1) := by decide +kernel
theorem dX7_tuneShare_25 : decode cX7_tuneShare 25 = .ok (.iload_n 1, 1) := by decide +kernel
theorem dX7_tuneShare_26 : decode cX7_tuneShare 26 = .ok (.i2d, 1) := by decide +kernel
theorem dX7_tuneShare_27 : decode cX7_tuneShare 27 = .ok (.ddiv, 1) := by decide +kernel
theorem dX7_tuneShare_28 : decode cX7_tuneShare 28 = .ok (.dreturn, 1) := by decide +kernel
theorem dX7_add_0 : decode cX7_add 0 = .ok (.aload_n 0, 1) := by decide +kernel
theorem dX7_add_1 : decode cX7_add 1 = .ok (.ldc2_w 208, 3) := by decide +kernel
theorem dX7_add_4 : decode cX7_add 4 = .ok (.aload_n 0, 1) := by decide +kernel
theorem dX7_add_5 : decode cX7_add 5 = .ok (.getfield 210, 3) := by decide +kernel
theorem dX7_add_8 : decode cX7_add 8 = .ok (.lmul, 1) := by decide +kernel
theorem dX7_add_9 : decode cX7_add 9 = .ok (.lload_n 1, 1) := by decide +kernel
theorem dX7_add_10 : decode cX7_add 10 = .ok (.ladd, 1) := by decide +kernel
theorem dX7_add_11 : decode cX7_add 11 = .ok (.putfield 210, 3) := by decide +kernel
theorem dX7_add_14 : decode cX7_add 14 = .ok (.return_, 1) := by decide +kernel
theorem dX7_addTownOf_0 : decode cX7_addTownOf 0 = .ok (.iconst 0, 1) := by decide +kernel
theorem dX7_addTownOf_1 : decode cX7_addTownOf 1 = .ok (.istore_n 2, 1) := by decide +kernel
theorem dX7_addTownOf_2 : decode cX7_addTownOf 2 = .ok (.iload_n 2, 1) := by decide +kernel
theorem dX7_addTownOf_3 : decode cX7_addTownOf 3 = .ok (.bipush 12, 2) := by decide +kernel
theorem dX7_addTownOf_5 : decode cX7_addTownOf 5 = .ok (.if_icmp .ge 20, 3) := by decide +kernel
theorem dX7_addTownOf_8 : decode cX7_addTownOf 8 = .ok (.aload_n 0, 1) := by decide +kernel
theorem dX7_addTownOf_9 : decode cX7_addTownOf 9 = .ok (.aload_n 0, 1) := by decide +kernel
theorem dX7_addTownOf_10 : decode cX7_addTownOf 10 = .ok (.iload_n 1, 1) := by decide +kernel
theorem dX7_addTownOf_11 : decode cX7_addTownOf 11 = .ok (.iload_n 2, 1) := by decide +kernel
theorem dX7_addTownOf_12 : decode cX7_addTownOf 12 = .ok (.invokevirtual 181, 3) := by decide +kernel
theorem dX7_addTownOf_15 : decode cX7_addTownOf 15 = .ok (.i2l, 1) := by decide +kernel
theorem dX7_addTownOf_16 : decode cX7_addTownOf 16 = .ok (.invokevirtual 214, 3) := by decide +kernel
theorem dX7_addTownOf_19 : decode cX7_addTownOf 19 = .ok (.iinc 2 1, 3) := by decide +kernel
theorem dX7_addTownOf_22 : decode cX7_addTownOf 22 = .ok (.goto (-20), 3) := by decide +kernel
theorem dX7_addTownOf_25 : decode cX7_addTownOf 25 = .ok (.iconst 0, 1) := by decide +kernel
theorem dX7_addTownOf_26 : decode cX7_addTownOf 26 = .ok (.istore_n 2, 1) := by decide +kernel
theorem dX7_addTownOf_27 : decode cX7_addTownOf 27 = .ok (.iload_n 2, 1) := by decide +kernel
theorem dX7_addTownOf_28 : decode cX7_addTownOf 28 = .ok (.iconst 5, 1) := by decide +kernel
theorem dX7_addTownOf_29 : decode cX7_addTownOf 29 = .ok (.if_icmp .ge 20, 3) := by decide +kernel
theorem dX7_addTownOf_32 : decode cX7_addTownOf 32 = .ok (.aload_n 0, 1) := by decide +kernel
theorem dX7_addTownOf_33 : decode cX7_addTownOf 33 = .ok (.aload_n 0, 1) := by decide +kernel
theorem dX7_addTownOf_34 : decode cX7_addTownOf 34 = .ok (.iload_n 1, 1) := by decide +kernel
theorem dX7_addTownOf_35 : decode cX7_addTownOf 35 = .ok (.iload_n 2, 1) := by decide +kernel
theorem dX7_addTownOf_36 : decode cX7_addTownOf 36 = .ok (.invokevirtual 110, 3) := by decide +kernel
theorem dX7_addTownOf_39 : decode cX7_addTownOf 39 = .ok (.i2l, 1) := by decide +kernel
theorem dX7_addTownOf_40 : decode cX7_addTownOf 40 = .ok (.invokevirtual 214, 3) := by decide +kernel
theorem dX7_addTownOf_43 : decode cX7_addTownOf 43 = .ok (.iinc 2 1, 3) := by decide +kernel
theorem dX7_addTownOf_46 : decode cX7_addTownOf 46 = .ok (.goto (-19), 3) := by decide +kernel
theorem dX7_addTownOf_49 : decode cX7_addTownOf 49 = .ok (.aload_n 0, 1) := by decide +kernel
theorem dX7_addTownOf_50 : decode cX7_addTownOf 50 = .ok (.aload_n 0, 1) := by decide +kernel
theorem dX7_addTownOf_51 : decode cX7_addTownOf 51 = .ok (.iload_n 1, 1) := by decide +kernel
theorem dX7_addTownOf_52 : decode cX7_addTownOf 52 = .ok (.invokevirtual 113, 3) := by decide +kernel
theorem dX7_addTownOf_55 : decode cX7_addTownOf 55 = .ok (.i2l, 1) := by decide +kernel
theorem dX7_addTownOf_56 : decode cX7_addTownOf 56 = .ok (.invokevirtual 214, 3) := by decide +kernel
theorem dX7_addTownOf_59 : decode cX7_addTownOf 59 = .ok (.aload_n 0, 1) := by decide +kernel
theorem dX7_addTownOf_60 : decode cX7_addTownOf 60 = .ok (.aload_n 0, 1) := by decide +kernel
theorem dX7_addTownOf_61 : decode cX7_addTownOf 61 = .ok (.iload_n 1, 1) := by decide +kernel
theorem dX7_addTownOf_62 : decode cX7_addTownOf 62 = .ok (.iconst 0, 1) := by decide +kernel
theorem dX7_addTownOf_63 : decode cX7_addTownOf 63 = .ok (.invokevirtual 196, 3) := by decide +kernel
theorem dX7_addTownOf_66 : decode cX7_addTownOf 66 = .ok (.i2l, 1) := by decide +kernel
theorem dX7_addTownOf_67 : decode cX7_addTownOf 67 = .ok (.invokevirtual 214, 3) := by decide +kernel
theorem dX7_addTownOf_70 : decode cX7_addTownOf 70 = .ok (.aload_n 0, 1) := by decide +kernel
theorem dX7_addTownOf_71 : decode cX7_addTownOf 71 = .ok (.aload_n 0, 1) := by decide +kernel
theorem dX7_addTownOf_72 : decode cX7_addTownOf 72 = .ok (.iload_n 1, 1) := by decide +kernel
theorem dX7_addTownOf_73 : decode cX7_addTownOf 73 = .ok (.iconst 1, 1) := by decide +kernel
theorem dX7_addTownOf_74 : decode cX7_addTownOf 74 = .ok (.invokevirtual 196, 3) := by decide +kernel
theorem dX7_addTownOf_77 : decode cX7_addTownOf 77 = .ok (.i2l, 1) := by decide +kernel
theorem dX7_addTownOf_78 : decode cX7_addTownOf 78 = .ok (.invokevirtual 214, 3) := by decide +kernel
theorem dX7_addTownOf_81 : decode cX7_addTownOf 81 = .ok (.aload_n 0, 1) := by decide +kernel
theorem dX7_addTownOf_82 : decode cX7_addTownOf 82 = .ok (.aload_n 0, 1) := by decide +kernel
theorem dX7_addTownOf_83 : decode cX7_addTownOf 83 = .ok (.iload_n 1, 1) := by decide +kernel
theorem dX7_addTownOf_84 : decode cX7_addTownOf 84 = .ok (.invokevirtual 199, 3) := by decide +kernel
theorem dX7_addTownOf_87 : decode cX7_addTownOf 87 = .ok (.i2l, 1) := by decide +kernel
theorem dX7_addTownOf_88 : decode cX7_addTownOf 88 = .ok (.invokevirtual 214, 3) := by decide +kernel
theorem dX7_addTownOf_91 : decode cX7_addTownOf 91 = .ok (.iconst 0, 1) := by decide +kernel
theorem dX7_addTownOf_92 : decode cX7_addTownOf 92 = .ok (.istore_n 2, 1) := by decide +kernel
theorem dX7_addTownOf_93 : decode cX7_addTownOf 93 = .ok (.iload_n 2, 1) := by decide +kernel
theorem dX7_addTownOf_94 : decode cX7_addTownOf 94 = .ok (.bipush 12, 2) := by decide +kernel
theorem dX7_addTownOf_96 : decode cX7_addTownOf 96 = .ok (.if_icmp .ge 29, 3) := by decide +kernel
theorem dX7_addTownOf_99 : decode cX7_addTownOf 99 = .ok (.aload_n 0, 1) := by decide +kernel
theorem dX7_addTownOf_100 : decode cX7_addTownOf 100 = .ok (.aload_n 0, 1) := by decide +kernel
theorem dX7_addTownOf_101 : decode cX7_addTownOf 101 = .ok (.getfield 7, 3) := by decide +kernel
theorem dX7_addTownOf_104 : decode cX7_addTownOf 104 = .ok (.sipush 294, 3) := by decide +kernel
theorem dX7_addTownOf_107 : decode cX7_addTownOf 107 = .ok (.bipush 12, 2) := by decide +kernel
theorem dX7_addTownOf_109 : decode cX7_addTownOf 109 = .ok (.iload_n 1, 1) := by decide +kernel
theorem dX7_addTownOf_110 : decode cX7_addTownOf 110 = .ok (.imul, 1) := by decide +kernel
theorem dX7_addTownOf_111 : decode cX7_addTownOf 111 = .ok (.iadd, 1) := by decide +kernel
theorem dX7_addTownOf_112 : decode cX7_addTownOf 112 = .ok (.iload_n 2, 1) := by decide +kernel
theorem dX7_addTownOf_113 : decode cX7_addTownOf 113 = .ok (.iadd, 1) := by decide +kernel
theorem dX7_addTownOf_114 : decode cX7_addTownOf 114 = .ok (.iaload, 1) := by decide +kernel
theorem dX7_addTownOf_115 : decode cX7_addTownOf 115 = .ok (.i2l, 1) := by decide +kernel
theorem dX7_addTownOf_116 : decode cX7_addTownOf 116 = .ok (.invokevirtual 214, 3) := by decide +kernel
theorem dX7_addTownOf_119 : decode cX7_addTownOf 119 = .ok (.iinc 2 1, 3) := by decide +kernel
theorem dX7_addTownOf_122 : decode cX7_addTownOf 122 = .ok (.goto (-29), 3) := by decide +kernel
theorem dX7_addTownOf_125 : decode cX7_addTownOf 125 = .ok (.iconst 0, 1) := by decide +kernel
theorem dX7_addTownOf_126 : decode cX7_addTownOf 126 = .ok (.istore_n 2, 1) := by decide +kernel
theorem dX7_addTownOf_127 : decode cX7_addTownOf 127 = .ok (.iload_n 2, 1) := by decide +kernel
theorem dX7_addTownOf_128 : decode cX7_addTownOf 128 = .ok (.aload_n 0, 1) := by decide +kernel
theorem dX7_addTownOf_129 : decode cX7_addTownOf 129 = .ok (.getfield 7, 3) := by decide +kernel
theorem dX7_addTownOf_132 : decode cX7_addTownOf 132 = .ok (.sipush 423, 3) := by decide +kernel
theorem dX7_addTownOf_135 : decode cX7_addTownOf 135 = .ok (.iaload, 1) := by decide +kernel
theorem dX7_addTownOf_136 : decode cX7_addTownOf 136 = .ok (.if_icmp .ge 24, 3) := by decide +kernel
theorem dX7_addTownOf_139 : decode cX7_addTownOf 139 = .ok (.aload_n 0, 1) := by decide +kernel
theorem dX7_addTownOf_140 : decode cX7_addTownOf 140 = .ok (.aload_n 0, 1) := by decide +kernel
theorem dX7_addTownOf_141 : decode cX7_addTownOf 141 = .ok (.getfield 7, 3) := by decide +kernel
theorem dX7_addTownOf_144 : decode cX7_addTownOf 144 = .ok (.iload_n 1, 1) := by decide +kernel
theorem dX7_addTownOf_145 : decode cX7_addTownOf 145 = .ok (.iload_n 2, 1) := by decide +kernel
theorem dX7_addTownOf_146 : decode cX7_addTownOf 146 = .ok (.invokestatic 123, 3) := by decide +kernel
theorem dX7_addTownOf_149 : decode cX7_addTownOf 149 = .ok (.iaload, 1) := by decide +kernel
theorem dX7_addTownOf_150 : decode cX7_addTownOf 150 = .ok (.i2l, 1) := by decide +kernel
theorem dX7_addTownOf_151 : decode cX7_addTownOf 151 = .ok (.invokevirtual 214, 3) := by decide +kernel
theorem dX7_addTownOf_154 : decode cX7_addTownOf 154 = .ok (.iinc 2 1, 3) := by decide +kernel
theorem dX7_addTownOf_157 : decode cX7_addTownOf 157 = .ok (.goto (-30), 3) := by decide +kernel
theorem dX7_addTownOf_160 : decode cX7_addTownOf 160 = .ok (.aload_n 0, 1) := by decide +kernel
theorem dX7_addTownOf_161 : decode cX7_addTownOf 161 = .ok (.iload_n 1, 1) := by decide +kernel
theorem dX7_addTownOf_162 : decode cX7_addTownOf 162 = .ok (.invokevirtual 103, 3) := by decide +kernel
theorem dX7_addTownOf_165 : decode cX7_addTownOf 165 = .ok (.iconst 0, 1) := by decide +kernel
theorem dX7_addTownOf_166 : decode cX7_addTownOf 166 = .ok (.istore_n 2, 1) := by decide +kernel
theorem dX7_addTownOf_167 : decode cX7_addTownOf 167 = .ok (.iload_n 2, 1) := by decide +kernel
theorem dX7_addTownOf_168 : decode cX7_addTownOf 168 = .ok (.bipush 24, 2) := by decide +kernel
theorem dX7_addTownOf_170 : decode cX7_addTownOf 170 = .ok (.if_icmp .ge 55, 3) := by decide +kernel
theorem dX7_addTownOf_173 : decode cX7_addTownOf 173 = .ok (.aload_n 0, 1) := by decide +kernel
theorem dX7_addTownOf_174 : decode cX7_addTownOf 174 = .ok (.aload_n 0, 1) := by decide +kernel
theorem dX7_addTownOf_175 : decode cX7_addTownOf 175 = .ok (.getfield 7, 3) := by decide +kernel
theorem dX7_addTownOf_178 : decode cX7_addTownOf 178 = .ok (.bipush 6, 2) := by decide +kernel
theorem dX7_addTownOf_180 : decode cX7_addTownOf 180 = .ok (.iload_n 1, 1) := by decide +kernel
theorem dX7_addTownOf_181 : decode cX7_addTownOf 181 = .ok (.iload_n 2, 1) := by decide +kernel
theorem dX7_addTownOf_182 : decode cX7_addTownOf 182 = .ok (.invokestatic 56, 3) := by decide +kernel
theorem dX7_addTownOf_185 : decode cX7_addTownOf 185 = .ok (.iaload, 1) := by decide +kernel
theorem dX7_addTownOf_186 : decode cX7_addTownOf 186 = .ok (.i2l, 1) := by decide +kernel
theorem dX7_addTownOf_187 : decode cX7_addTownOf 187 = .ok (.invokevirtual 214, 3) := by decide +kernel
theorem dX7_addTownOf_190 : decode cX7_addTownOf 190 = .ok (.aload_n 0, 1) := by decide +kernel
theorem dX7_addTownOf_191 : decode cX7_addTownOf 191 = .ok (.aload_n 0, 1) := by decide +kernel
theorem dX7_addTownOf_192 : decode cX7_addTownOf 192 = .ok (.getfield 7, 3) := by decide +kernel
theorem dX7_addTownOf_195 : decode cX7_addTownOf 195 = .ok (.sipush 150, 3) := by decide +kernel
theorem dX7_addTownOf_198 : decode cX7_addTownOf 198 = .ok (.iload_n 1, 1) := by decide +kernel
theorem dX7_addTownOf_199 : decode cX7_addTownOf 199 = .ok (.iload_n 2, 1) := by decide +kernel
theorem dX7_addTownOf_200 : decode cX7_addTownOf 200 = .ok (.invokestatic 56, 3) := by decide +kernel
theorem dX7_addTownOf_203 : decode cX7_addTownOf 203 = .ok (.iaload, 1) := by decide +kernel
theorem dX7_addTownOf_204 : decode cX7_addTownOf 204 = .ok (.i2l, 1) := by decide +kernel
theorem dX7_addTownOf_205 : decode cX7_addTownOf 205 = .ok (.invokevirtual 214, 3) := by decide +kernel
theorem dX7_addTownOf_208 : decode cX7_addTownOf 208 = .ok (.aload_n 0, 1) := by decide +kernel
theorem dX7_addTownOf_209 : decode cX7_addTownOf 209 = .ok (.aload_n 0, 1) := by decide +kernel
theorem dX7_addTownOf_210 : decode cX7_addTownOf 210 = .ok (.getfield 19, 3) := by decide +kernel
theorem dX7_addTownOf_213 : decode cX7_addTownOf 213 = .ok (.iload_n 2, 1) := by decide +kernel
theorem dX7_addTownOf_214 : decode cX7_addTownOf 214 = .ok (.iaload, 1) := by decide +kernel
theorem dX7_addTownOf_215 : decode cX7_addTownOf 215 = .ok (.i2l, 1) := by decide +kernel
theorem dX7_addTownOf_216 : decode cX7_addTownOf 216 = .ok (.invokevirtual 214, 3) := by decide +kernel
theorem dX7_addTownOf_219 : decode cX7_addTownOf 219 = .ok (.iinc 2 1, 3) := by decide +kernel
theorem dX7_addTownOf_222 : decode cX7_addTownOf 222 = .ok (.goto (-55), 3) := by decide +kernel
theorem dX7_addTownOf_225 : decode cX7_addTownOf 225 = .ok (.return_, 1) := by decide +kernel
theorem dX7_digest_0 : decode cX7_digest 0 = .ok (.aload_n 0, 1) := by decide +kernel
theorem dX7_digest_1 : decode cX7_digest 1 = .ok (.ldc2_w 218, 3) := by decide +kernel
theorem dX7_digest_4 : decode cX7_digest 4 = .ok (.putfield 210, 3) := by decide +kernel
theorem dX7_digest_7 : decode cX7_digest 7 = .ok (.iconst 0, 1) := by decide +kernel
theorem dX7_digest_8 : decode cX7_digest 8 = .ok (.istore_n 1, 1) := by decide +kernel
theorem dX7_digest_9 : decode cX7_digest 9 = .ok (.iload_n 1, 1) := by decide +kernel
theorem dX7_digest_10 : decode cX7_digest 10 = .ok (.bipush 11, 2) := by decide +kernel
theorem dX7_digest_12 : decode cX7_digest 12 = .ok (.if_icmp .ge 19, 3) := by decide +kernel
theorem dX7_digest_15 : decode cX7_digest 15 = .ok (.aload_n 0, 1) := by decide +kernel
theorem dX7_digest_16 : decode cX7_digest 16 = .ok (.aload_n 0, 1) := by decide +kernel
theorem dX7_digest_17 : decode cX7_digest 17 = .ok (.iload_n 1, 1) := by decide +kernel
theorem dX7_digest_18 : decode cX7_digest 18 = .ok (.invokevirtual 193, 3) := by decide +kernel
theorem dX7_digest_21 : decode cX7_digest 21 = .ok (.i2l, 1) := by decide +kernel
theorem dX7_digest_22 : decode cX7_digest 22 = .ok (.invokevirtual 214, 3) := by decide +kernel
theorem dX7_digest_25 : decode cX7_digest 25 = .ok (.iinc 1 1, 3) := by decide +kernel
theorem dX7_digest_28 : decode cX7_digest 28 = .ok (.goto (-19), 3) := by decide +kernel
theorem dX7_digest_31 : decode cX7_digest 31 = .ok (.iconst 0, 1) := by decide +kernel
theorem dX7_digest_32 : decode cX7_digest 32 = .ok (.istore_n 1, 1) := by decide +kernel
theorem dX7_digest_33 : decode cX7_digest 33 = .ok (.iload_n 1, 1) := by decide +kernel
theorem dX7_digest_34 : decode cX7_digest 34 = .ok (.iconst 3, 1) := by decide +kernel
theorem dX7_digest_35 : decode cX7_digest 35 = .ok (.if_icmp .ge 24, 3) := by decide +kernel
theorem dX7_digest_38 : decode cX7_digest 38 = .ok (.aload_n 0, 1) := by decide +kernel
theorem dX7_digest_39 : decode cX7_digest 39 = .ok (.aload_n 0, 1) := by decide +kernel
theorem dX7_digest_40 : decode cX7_digest 40 = .ok (.getfield 7, 3) := by decide +kernel
theorem dX7_digest_43 : decode cX7_digest 43 = .ok (.sipush 420, 3) := by decide +kernel
theorem dX7_digest_46 : decode cX7_digest 46 = .ok (.iload_n 1, 1) := by decide +kernel
theorem dX7_digest_47 : decode cX7_digest 47 = .ok (.iadd, 1) := by decide +kernel
theorem dX7_digest_48 : decode cX7_digest 48 = .ok (.iaload, 1) := by decide +kernel
theorem dX7_digest_49 : decode cX7_digest 49 = .ok (.i2l, 1) := by decide +kernel
theorem dX7_digest_50 : decode cX7_digest 50 = .ok (.invokevirtual 214, 3) := by decide +kernel
theorem dX7_digest_53 : decode cX7_digest 53 = .ok (.iinc 1 1, 3) := by decide +kernel
theorem dX7_digest_56 : decode cX7_digest 56 = .ok (.goto (-23), 3) := by decide +kernel
theorem dX7_digest_59 : decode cX7_digest 59 = .ok (.iconst 0, 1) := by decide +kernel
theorem dX7_digest_60 : decode cX7_digest 60 = .ok (.istore_n 1, 1) := by decide +kernel
theorem dX7_digest_61 : decode cX7_digest 61 = .ok (.iload_n 1, 1) := by decide +kernel
theorem dX7_digest_62 : decode cX7_digest 62 = .ok (.aload_n 0, 1) := by decide +kernel
theorem dX7_digest_63 : decode cX7_digest 63 = .ok (.getfield 7, 3) := by decide +kernel
theorem dX7_digest_66 : decode cX7_digest 66 = .ok (.sipush 423, 3) := by decide +kernel
theorem dX7_digest_69 : decode cX7_digest 69 = .ok (.iaload, 1) := by decide +kernel
theorem dX7_digest_70 : decode cX7_digest 70 = .ok (.if_icmp .ge 14, 3) := by decide +kernel
theorem dX7_digest_73 : decode cX7_digest 73 = .ok (.aload_n 0, 1) := by decide +kernel
theorem dX7_digest_74 : decode cX7_digest 74 = .ok (.iload_n 1, 1) := by decide +kernel
theorem dX7_digest_75 : decode cX7_digest 75 = .ok (.invokevirtual 220, 3) := by decide +kernel
theorem dX7_digest_78 : decode cX7_digest 78 = .ok (.iinc 1 1, 3) := by decide +kernel
theorem dX7_digest_81 : decode cX7_digest 81 = .ok (.goto (-20), 3) := by decide +kernel
theorem dX7_digest_84 : decode cX7_digest 84 = .ok (.aload_n 0, 1) := by decide +kernel
theorem dX7_digest_85 : decode cX7_digest 85 = .ok (.aload_n 0, 1) := by decide +kernel
theorem dX7_digest_86 : decode cX7_digest 86 = .ok (.iconst 0, 1) := by decide +kernel
theorem dX7_digest_87 : decode cX7_digest 87 = .ok (.invokevirtual 205, 3) := by decide +kernel
theorem dX7_digest_90 : decode cX7_digest 90 = .ok (.i2l, 1) := by decide +kernel
theorem dX7_digest_91 : decode cX7_digest 91 = .ok (.invokevirtual 214, 3) := by decide +kernel
theorem dX7_digest_94 : decode cX7_digest 94 = .ok (.bipush 10, 2) := by decide +kernel
theorem dX7_digest_96 : decode cX7_digest 96 = .ok (.istore_n 1, 1) := by decide +kernel
theorem dX7_digest_97 : decode cX7_digest 97 = .ok (.iload_n 1, 1) := by decide +kernel
theorem dX7_digest_98 : decode cX7_digest 98 = .ok (.bipush 16, 2) := by decide +kernel
theorem dX7_digest_100 : decode cX7_digest 100 = .ok (.if_icmp .ge 19, 3) := by decide +kernel
theorem dX7_digest_103 : decode cX7_digest 103 = .ok (.aload_n 0, 1) := by decide +kernel
theorem dX7_digest_104 : decode cX7_digest 104 = .ok (.aload_n 0, 1) := by decide +kernel
theorem dX7_digest_105 : decode cX7_digest 105 = .ok (.iload_n 1, 1) := by decide +kernel
theorem dX7_digest_106 : decode cX7_digest 106 = .ok (.invokevirtual 205, 3) := by decide +kernel
end
section
theorem dX7_digest_109 : decode cX7_digest 109 = .ok (.i2l, 1) := by decide +kernel
theorem dX7_digest_110 : decode cX7_digest 110 = .ok (.invokevirtual 214, 3) := by decide +kernel
theorem dX7_digest_113 : decode cX7_digest 113 = .ok (.iinc 1 1, 3) := by decide +kernel
theorem dX7_digest_116 : decode cX7_digest 116 = .ok (.goto (-19), 3) := by decide +kernel
theorem dX7_digest_119 : decode cX7_digest 119 = .ok (.aload_n 0, 1) := by decide +kernel
theorem dX7_digest_120 : decode cX7_digest 120 = .ok (.aload_n 0, 1) := by decide +kernel
theorem dX7_digest_121 : decode cX7_digest 121 = .ok (.iconst 0, 1) := by decide +kernel
theorem dX7_digest_122 : decode cX7_digest 122 = .ok (.invokevirtual 146, 3) := by decide +kernel
theorem dX7_digest_125 : decode cX7_digest 125 = .ok (.i2l, 1) := by decide +kernel
theorem dX7_digest_126 : decode cX7_digest 126 = .ok (.invokevirtual 214, 3) := by decide +kernel
theorem dX7_digest_129 : decode cX7_digest 129 = .ok (.aload_n 0, 1) := by decide +kernel
theorem dX7_digest_130 : decode cX7_digest 130 = .ok (.aload_n 0, 1) := by decide +kernel
theorem dX7_digest_131 : decode cX7_digest 131 = .ok (.iconst 1, 1) := by decide +kernel
theorem dX7_digest_132 : decode cX7_digest 132 = .ok (.invokevirtual 146, 3) := by decide +kernel
theorem dX7_digest_135 : decode cX7_digest 135 = .ok (.i2l, 1) := by decide +kernel
theorem dX7_digest_136 : decode cX7_digest 136 = .ok (.invokevirtual 214, 3) := by decide +kernel
theorem dX7_digest_139 : decode cX7_digest 139 = .ok (.bipush 10, 2) := by decide +kernel
theorem dX7_digest_141 : decode cX7_digest 141 = .ok (.istore_n 1, 1) := by decide +kernel
theorem dX7_digest_142 : decode cX7_digest 142 = .ok (.iload_n 1, 1) := by decide +kernel
theorem dX7_digest_143 : decode cX7_digest 143 = .ok (.bipush 16, 2) := by decide +kernel
theorem dX7_digest_145 : decode cX7_digest 145 = .ok (.if_icmp .ge 19, 3) := by decide +kernel
theorem dX7_digest_148 : decode cX7_digest 148 = .ok (.aload_n 0, 1) := by decide +kernel
theorem dX7_digest_149 : decode cX7_digest 149 = .ok (.aload_n 0, 1) := by decide +kernel
theorem dX7_digest_150 : decode cX7_digest 150 = .ok (.iload_n 1, 1) := by decide +kernel
theorem dX7_digest_151 : decode cX7_digest 151 = .ok (.invokevirtual 146, 3) := by decide +kernel
theorem dX7_digest_154 : decode cX7_digest 154 = .ok (.i2l, 1) := by decide +kernel
theorem dX7_digest_155 : decode cX7_digest 155 = .ok (.invokevirtual 214, 3) := by decide +kernel
theorem dX7_digest_158 : decode cX7_digest 158 = .ok (.iinc 1 1, 3) := by decide +kernel
theorem dX7_digest_161 : decode cX7_digest 161 = .ok (.goto (-19), 3) := by decide +kernel
theorem dX7_digest_164 : decode cX7_digest 164 = .ok (.aload_n 0, 1) := by decide +kernel
theorem dX7_digest_165 : decode cX7_digest 165 = .ok (.aload_n 0, 1) := by decide +kernel
theorem dX7_digest_166 : decode cX7_digest 166 = .ok (.invokevirtual 223, 3) := by decide +kernel
theorem dX7_digest_169 : decode cX7_digest 169 = .ok (.invokestatic 227, 3) := by decide +kernel
theorem dX7_digest_172 : decode cX7_digest 172 = .ok (.invokevirtual 214, 3) := by decide +kernel
theorem dX7_digest_175 : decode cX7_digest 175 = .ok (.aload_n 0, 1) := by decide +kernel
theorem dX7_digest_176 : decode cX7_digest 176 = .ok (.aload_n 0, 1) := by decide +kernel
theorem dX7_digest_177 : decode cX7_digest 177 = .ok (.getfield 149, 3) := by decide +kernel
theorem dX7_digest_180 : decode cX7_digest 180 = .ok (.i2l, 1) := by decide +kernel
theorem dX7_digest_181 : decode cX7_digest 181 = .ok (.invokevirtual 214, 3) := by decide +kernel
theorem dX7_digest_184 : decode cX7_digest 184 = .ok (.iconst 0, 1) := by decide +kernel
theorem dX7_digest_185 : decode cX7_digest 185 = .ok (.istore_n 1, 1) := by decide +kernel
theorem dX7_digest_186 : decode cX7_digest 186 = .ok (.iload_n 1, 1) := by decide +kernel
theorem dX7_digest_187 : decode cX7_digest 187 = .ok (.aload_n 0, 1) := by decide +kernel
theorem dX7_digest_188 : decode cX7_digest 188 = .ok (.getfield 149, 3) := by decide +kernel
theorem dX7_digest_191 : decode cX7_digest 191 = .ok (.if_icmp .ge 20, 3) := by decide +kernel
theorem dX7_digest_194 : decode cX7_digest 194 = .ok (.aload_n 0, 1) := by decide +kernel
theorem dX7_digest_195 : decode cX7_digest 195 = .ok (.aload_n 0, 1) := by decide +kernel
theorem dX7_digest_196 : decode cX7_digest 196 = .ok (.getfield 13, 3) := by decide +kernel
theorem dX7_digest_199 : decode cX7_digest 199 = .ok (.iload_n 1, 1) := by decide +kernel
theorem dX7_digest_200 : decode cX7_digest 200 = .ok (.iaload, 1) := by decide +kernel
theorem dX7_digest_201 : decode cX7_digest 201 = .ok (.i2l, 1) := by decide +kernel
theorem dX7_digest_202 : decode cX7_digest 202 = .ok (.invokevirtual 214, 3) := by decide +kernel
theorem dX7_digest_205 : decode cX7_digest 205 = .ok (.iinc 1 1, 3) := by decide +kernel
theorem dX7_digest_208 : decode cX7_digest 208 = .ok (.goto (-22), 3) := by decide +kernel
theorem dX7_digest_211 : decode cX7_digest 211 = .ok (.aload_n 0, 1) := by decide +kernel
theorem dX7_digest_212 : decode cX7_digest 212 = .ok (.iconst 0, 1) := by decide +kernel
theorem dX7_digest_213 : decode cX7_digest 213 = .ok (.putfield 37, 3) := by decide +kernel
theorem dX7_digest_216 : decode cX7_digest 216 = .ok (.aload_n 0, 1) := by decide +kernel
theorem dX7_digest_217 : decode cX7_digest 217 = .ok (.getfield 210, 3) := by decide +kernel
theorem dX7_digest_220 : decode cX7_digest 220 = .ok (.lreturn, 1) := by decide +kernel
theorem dJxe99ae_isNaN_b9ae7_0 : decode cJxe99ae_isNaN_b9ae7 0 = .ok (.dload_n 0, 1) := by decide +kernel
theorem dJxe99ae_isNaN_b9ae7_1 : decode cJxe99ae_isNaN_b9ae7 1 = .ok (.dload_n 0, 1) := by decide +kernel
theorem dJxe99ae_isNaN_b9ae7_2 : decode cJxe99ae_isNaN_b9ae7 2 = .ok (.dcmp .l, 1) := by decide +kernel
theorem dJxe99ae_isNaN_b9ae7_3 : decode cJxe99ae_isNaN_b9ae7 3 = .ok (.ifCond .eq 7, 3) := by decide +kernel
theorem dJxe99ae_isNaN_b9ae7_6 : decode cJxe99ae_isNaN_b9ae7 6 = .ok (.iconst 1, 1) := by decide +kernel
theorem dJxe99ae_isNaN_b9ae7_7 : decode cJxe99ae_isNaN_b9ae7 7 = .ok (.goto 4, 3) := by decide +kernel
theorem dJxe99ae_isNaN_b9ae7_10 : decode cJxe99ae_isNaN_b9ae7 10 = .ok (.iconst 0, 1) := by decide +kernel
theorem dJxe99ae_isNaN_b9ae7_11 : decode cJxe99ae_isNaN_b9ae7 11 = .ok (.ireturn, 1) := by decide +kernel
theorem dJxe99ae_doubleToLongBits_ccdee_0 : decode cJxe99ae_doubleToLongBits_ccdee 0 = .ok (.dload_n 0, 1) := by decide +kernel
theorem dJxe99ae_doubleToLongBits_ccdee_1 : decode cJxe99ae_doubleToLongBits_ccdee 1 = .ok (.invokestatic 122, 3) := by decide +kernel
theorem dJxe99ae_doubleToLongBits_ccdee_4 : decode cJxe99ae_doubleToLongBits_ccdee 4 = .ok (.ifCond .ne 8, 3) := by decide +kernel
theorem dJxe99ae_doubleToLongBits_ccdee_7 : decode cJxe99ae_doubleToLongBits_ccdee 7 = .ok (.dload_n 0, 1) := by decide +kernel
theorem dJxe99ae_doubleToLongBits_ccdee_8 : decode cJxe99ae_doubleToLongBits_ccdee 8 = .ok (.invokestatic 134, 3) := by decide +kernel
theorem dJxe99ae_doubleToLongBits_ccdee_11 : decode cJxe99ae_doubleToLongBits_ccdee 11 = .ok (.lreturn, 1) := by decide +kernel
theorem dJxe99ae_doubleToLongBits_ccdee_12 : decode cJxe99ae_doubleToLongBits_ccdee 12 = .ok (.ldc2_w 137, 3) := by decide +kernel
theorem dJxe99ae_doubleToLongBits_ccdee_15 : decode cJxe99ae_doubleToLongBits_ccdee 15 = .ok (.lreturn, 1) := by decide +kernel
theorem dJ6_bitCount_0f7a4_0 : decode cJ6_bitCount_0f7a4 0 = .ok (.iload_n 0, 1) := by decide +kernel
theorem dJ6_bitCount_0f7a4_1 : decode cJ6_bitCount_0f7a4 1 = .ok (.iload_n 0, 1) := by decide +kernel
theorem dJ6_bitCount_0f7a4_2 : decode cJ6_bitCount_0f7a4 2 = .ok (.iconst 1, 1) := by decide +kernel
theorem dJ6_bitCount_0f7a4_3 : decode cJ6_bitCount_0f7a4 3 = .ok (.iushr, 1) := by decide +kernel
theorem dJ6_bitCount_0f7a4_4 : decode cJ6_bitCount_0f7a4 4 = .ok (.ldc_w 265, 3) := by decide +kernel
theorem dJ6_bitCount_0f7a4_7 : decode cJ6_bitCount_0f7a4 7 = .ok (.iand, 1) := by decide +kernel
theorem dJ6_bitCount_0f7a4_8 : decode cJ6_bitCount_0f7a4 8 = .ok (.isub, 1) := by decide +kernel
theorem dJ6_bitCount_0f7a4_9 : decode cJ6_bitCount_0f7a4 9 = .ok (.istore_n 0, 1) := by decide +kernel
theorem dJ6_bitCount_0f7a4_10 : decode cJ6_bitCount_0f7a4 10 = .ok (.iload_n 0, 1) := by decide +kernel
theorem dJ6_bitCount_0f7a4_11 : decode cJ6_bitCount_0f7a4 11 = .ok (.ldc_w 266, 3) := by decide +kernel
theorem dJ6_bitCount_0f7a4_14 : decode cJ6_bitCount_0f7a4 14 = .ok (.iand, 1) := by decide +kernel
theorem dJ6_bitCount_0f7a4_15 : decode cJ6_bitCount_0f7a4 15 = .ok (.iload_n 0, 1) := by decide +kernel
theorem dJ6_bitCount_0f7a4_16 : decode cJ6_bitCount_0f7a4 16 = .ok (.iconst 2, 1) := by decide +kernel
theorem dJ6_bitCount_0f7a4_17 : decode cJ6_bitCount_0f7a4 17 = .ok (.iushr, 1) := by decide +kernel
theorem dJ6_bitCount_0f7a4_18 : decode cJ6_bitCount_0f7a4 18 = .ok (.ldc_w 266, 3) := by decide +kernel
theorem dJ6_bitCount_0f7a4_21 : decode cJ6_bitCount_0f7a4 21 = .ok (.iand, 1) := by decide +kernel
theorem dJ6_bitCount_0f7a4_22 : decode cJ6_bitCount_0f7a4 22 = .ok (.iadd, 1) := by decide +kernel
theorem dJ6_bitCount_0f7a4_23 : decode cJ6_bitCount_0f7a4 23 = .ok (.istore_n 0, 1) := by decide +kernel
theorem dJ6_bitCount_0f7a4_24 : decode cJ6_bitCount_0f7a4 24 = .ok (.iload_n 0, 1) := by decide +kernel
theorem dJ6_bitCount_0f7a4_25 : decode cJ6_bitCount_0f7a4 25 = .ok (.iload_n 0, 1) := by decide +kernel
theorem dJ6_bitCount_0f7a4_26 : decode cJ6_bitCount_0f7a4 26 = .ok (.iconst 4, 1) := by decide +kernel
theorem dJ6_bitCount_0f7a4_27 : decode cJ6_bitCount_0f7a4 27 = .ok (.iushr, 1) := by decide +kernel
theorem dJ6_bitCount_0f7a4_28 : decode cJ6_bitCount_0f7a4 28 = .ok (.iadd, 1) := by decide +kernel
theorem dJ6_bitCount_0f7a4_29 : decode cJ6_bitCount_0f7a4 29 = .ok (.ldc_w 267, 3) := by decide +kernel
theorem dJ6_bitCount_0f7a4_32 : decode cJ6_bitCount_0f7a4 32 = .ok (.iand, 1) := by decide +kernel
theorem dJ6_bitCount_0f7a4_33 : decode cJ6_bitCount_0f7a4 33 = .ok (.istore_n 0, 1) := by decide +kernel
theorem dJ6_bitCount_0f7a4_34 : decode cJ6_bitCount_0f7a4 34 = .ok (.iload_n 0, 1) := by decide +kernel
theorem dJ6_bitCount_0f7a4_35 : decode cJ6_bitCount_0f7a4 35 = .ok (.iload_n 0, 1) := by decide +kernel
theorem dJ6_bitCount_0f7a4_36 : decode cJ6_bitCount_0f7a4 36 = .ok (.bipush 8, 2) := by decide +kernel
theorem dJ6_bitCount_0f7a4_38 : decode cJ6_bitCount_0f7a4 38 = .ok (.iushr, 1) := by decide +kernel
theorem dJ6_bitCount_0f7a4_39 : decode cJ6_bitCount_0f7a4 39 = .ok (.iadd, 1) := by decide +kernel
theorem dJ6_bitCount_0f7a4_40 : decode cJ6_bitCount_0f7a4 40 = .ok (.istore_n 0, 1) := by decide +kernel
theorem dJ6_bitCount_0f7a4_41 : decode cJ6_bitCount_0f7a4 41 = .ok (.iload_n 0, 1) := by decide +kernel
theorem dJ6_bitCount_0f7a4_42 : decode cJ6_bitCount_0f7a4 42 = .ok (.iload_n 0, 1) := by decide +kernel
theorem dJ6_bitCount_0f7a4_43 : decode cJ6_bitCount_0f7a4 43 = .ok (.bipush 16, 2) := by decide +kernel
theorem dJ6_bitCount_0f7a4_45 : decode cJ6_bitCount_0f7a4 45 = .ok (.iushr, 1) := by decide +kernel
theorem dJ6_bitCount_0f7a4_46 : decode cJ6_bitCount_0f7a4 46 = .ok (.iadd, 1) := by decide +kernel
theorem dJ6_bitCount_0f7a4_47 : decode cJ6_bitCount_0f7a4 47 = .ok (.istore_n 0, 1) := by decide +kernel
theorem dJ6_bitCount_0f7a4_48 : decode cJ6_bitCount_0f7a4 48 = .ok (.iload_n 0, 1) := by decide +kernel
theorem dJ6_bitCount_0f7a4_49 : decode cJ6_bitCount_0f7a4 49 = .ok (.bipush 63, 2) := by decide +kernel
theorem dJ6_bitCount_0f7a4_51 : decode cJ6_bitCount_0f7a4 51 = .ok (.iand, 1) := by decide +kernel
theorem dJ6_bitCount_0f7a4_52 : decode cJ6_bitCount_0f7a4 52 = .ok (.ireturn, 1) := by decide +kernel
theorem dJ9_min_7cf53_0 : decode cJ9_min_7cf53 0 = .ok (.iload_n 0, 1) := by decide +kernel
theorem dJ9_min_7cf53_1 : decode cJ9_min_7cf53 1 = .ok (.iload_n 1, 1) := by decide +kernel
theorem dJ9_min_7cf53_2 : decode cJ9_min_7cf53 2 = .ok (.if_icmp .gt 7, 3) := by decide +kernel
theorem dJ9_min_7cf53_5 : decode cJ9_min_7cf53 5 = .ok (.iload_n 0, 1) := by decide +kernel
theorem dJ9_min_7cf53_6 : decode cJ9_min_7cf53 6 = .ok (.goto 4, 3) := by decide +kernel
theorem dJ9_min_7cf53_9 : decode cJ9_min_7cf53 9 = .ok (.iload_n 1, 1) := by decide +kernel
theorem dJ9_min_7cf53_10 : decode cJ9_min_7cf53 10 = .ok (.ireturn, 1) := by decide +kernel
theorem dL_addTown_0 : decode cL_addTown 0 = .ok (.aload_n 2, 1) := by decide +kernel
theorem dL_addTown_1 : decode cL_addTown 1 = .ok (.iconst 0, 1) := by decide +kernel
theorem dL_addTown_2 : decode cL_addTown 2 = .ok (.aload_n 0, 1) := by decide +kernel
theorem dL_addTown_3 : decode cL_addTown 3 = .ok (.iload_n 1, 1) := by decide +kernel
theorem dL_addTown_4 : decode cL_addTown 4 = .ok (.invokevirtual 7, 3) := by decide +kernel
theorem dL_addTown_7 : decode cL_addTown 7 = .ok (.i2l, 1) := by decide +kernel
theorem dL_addTown_8 : decode cL_addTown 8 = .ok (.lastore, 1) := by decide +kernel
theorem dL_addTown_9 : decode cL_addTown 9 = .ok (.goto 9, 3) := by decide +kernel
theorem dL_addTown_12 : decode cL_addTown 12 = .ok (.astore_n 3, 1) := by decide +kernel
theorem dL_addTown_13 : decode cL_addTown 13 = .ok (.iconst 1, 1) := by decide +kernel
theorem dL_addTown_14 : decode cL_addTown 14 = .ok (.ireturn, 1) := by decide +kernel
theorem dL_addTown_15 : decode cL_addTown 15 = .ok (.astore_n 3, 1) := by decide +kernel
theorem dL_addTown_16 : decode cL_addTown 16 = .ok (.iconst 2, 1) := by decide +kernel
theorem dL_addTown_17 : decode cL_addTown 17 = .ok (.ireturn, 1) := by decide +kernel
theorem dL_addTown_18 : decode cL_addTown 18 = .ok (.iconst 0, 1) := by decide +kernel
theorem dL_addTown_19 : decode cL_addTown 19 = .ok (.ireturn, 1) := by decide +kernel
theorem dL_set_0 : decode cL_set 0 = .ok (.aload_n 3, 1) := by decide +kernel
theorem dL_set_1 : decode cL_set 1 = .ok (.iconst 0, 1) := by decide +kernel
theorem dL_set_2 : decode cL_set 2 = .ok (.aload_n 0, 1) := by decide +kernel
theorem dL_set_3 : decode cL_set 3 = .ok (.iload_n 1, 1) := by decide +kernel
theorem dL_set_4 : decode cL_set 4 = .ok (.iload_n 2, 1) := by decide +kernel
theorem dL_set_5 : decode cL_set 5 = .ok (.invokevirtual 17, 3) := by decide +kernel
theorem dL_set_8 : decode cL_set 8 = .ok (.i2l, 1) := by decide +kernel
theorem dL_set_9 : decode cL_set 9 = .ok (.lastore, 1) := by decide +kernel
theorem dL_set_10 : decode cL_set 10 = .ok (.goto 11, 3) := by decide +kernel
theorem dL_set_13 : decode cL_set 13 = .ok (.astore 4, 2) := by decide +kernel
theorem dL_set_15 : decode cL_set 15 = .ok (.iconst 1, 1) := by decide +kernel
theorem dL_set_16 : decode cL_set 16 = .ok (.ireturn, 1) := by decide +kernel
theorem dL_set_17 : decode cL_set 17 = .ok (.astore 4, 2) := by decide +kernel
theorem dL_set_19 : decode cL_set 19 = .ok (.iconst 2, 1) := by decide +kernel
theorem dL_set_20 : decode cL_set 20 = .ok (.ireturn, 1) := by decide +kernel
theorem dL_set_21 : decode cL_set 21 = .ok (.iconst 0, 1) := by decide +kernel
theorem dL_set_22 : decode cL_set 22 = .ok (.ireturn, 1) := by decide +kernel
theorem dL_put_0 : decode cL_put 0 = .ok (.aload 4, 2) := by decide +kernel
theorem dL_put_2 : decode cL_put 2 = .ok (.iconst 0, 1) := by decide +kernel
theorem dL_put_3 : decode cL_put 3 = .ok (.aload_n 0, 1) := by decide +kernel
theorem dL_put_4 : decode cL_put 4 = .ok (.iload_n 1, 1) := by decide +kernel
theorem dL_put_5 : decode cL_put 5 = .ok (.iload_n 2, 1) := by decide +kernel
theorem dL_put_6 : decode cL_put 6 = .ok (.iload_n 3, 1) := by decide +kernel
theorem dL_put_7 : decode cL_put 7 = .ok (.invokevirtual 23, 3) := by decide +kernel
theorem dL_put_10 : decode cL_put 10 = .ok (.i2l, 1) := by decide +kernel
theorem dL_put_11 : decode cL_put 11 = .ok (.lastore, 1) := by decide +kernel
theorem dL_put_12 : decode cL_put 12 = .ok (.goto 11, 3) := by decide +kernel
theorem dL_put_15 : decode cL_put 15 = .ok (.astore 5, 2) := by decide +kernel
theorem dL_put_17 : decode cL_put 17 = .ok (.iconst 1, 1) := by decide +kernel
theorem dL_put_18 : decode cL_put 18 = .ok (.ireturn, 1) := by decide +kernel
theorem dL_put_19 : decode cL_put 19 = .ok (.astore 5, 2) := by decide +kernel
theorem dL_put_21 : decode cL_put 21 = .ok (.iconst 2, 1) := by decide +kernel
theorem dL_put_22 : decode cL_put 22 = .ok (.ireturn, 1) := by decide +kernel
theorem dL_put_23 : decode cL_put 23 = .ok (.iconst 0, 1) := by decide +kernel
theorem dL_put_24 : decode cL_put 24 = .ok (.ireturn, 1) := by decide +kernel
theorem dL_pull_0 : decode cL_pull 0 = .ok (.aload 4, 2) := by decide +kernel
theorem dL_pull_2 : decode cL_pull 2 = .ok (.iconst 0, 1) := by decide +kernel
theorem dL_pull_3 : decode cL_pull 3 = .ok (.aload_n 0, 1) := by decide +kernel
theorem dL_pull_4 : decode cL_pull 4 = .ok (.iload_n 1, 1) := by decide +kernel
theorem dL_pull_5 : decode cL_pull 5 = .ok (.iload_n 2, 1) := by decide +kernel
theorem dL_pull_6 : decode cL_pull 6 = .ok (.iload_n 3, 1) := by decide +kernel
theorem dL_pull_7 : decode cL_pull 7 = .ok (.invokevirtual 27, 3) := by decide +kernel
theorem dL_pull_10 : decode cL_pull 10 = .ok (.i2l, 1) := by decide +kernel
theorem dL_pull_11 : decode cL_pull 11 = .ok (.lastore, 1) := by decide +kernel
theorem dL_pull_12 : decode cL_pull 12 = .ok (.goto 11, 3) := by decide +kernel
theorem dL_pull_15 : decode cL_pull 15 = .ok (.astore 5, 2) := by decide +kernel
theorem dL_pull_17 : decode cL_pull 17 = .ok (.iconst 1, 1) := by decide +kernel
theorem dL_pull_18 : decode cL_pull 18 = .ok (.ireturn, 1) := by decide +kernel
theorem dL_pull_19 : decode cL_pull 19 = .ok (.astore 5, 2) := by decide +kernel
theorem dL_pull_21 : decode cL_pull 21 = .ok (.iconst 2, 1) := by decide +kernel
theorem dL_pull_22 : decode cL_pull 22 = .ok (.ireturn, 1) := by decide +kernel
theorem dL_pull_23 : decode cL_pull 23 = .ok (.iconst 0, 1) := by decide +kernel
theorem dL_pull_24 : decode cL_pull 24 = .ok (.ireturn, 1) := by decide +kernel
theorem dL_move_0 : decode cL_move 0 = .ok (.aload 5, 2) := by decide +kernel
theorem dL_move_2 : decode cL_move 2 = .ok (.iconst 0, 1) := by decide +kernel
theorem dL_move_3 : decode cL_move 3 = .ok (.aload_n 0, 1) := by decide +kernel
theorem dL_move_4 : decode cL_move 4 = .ok (.iload_n 1, 1) := by decide +kernel
theorem dL_move_5 : decode cL_move 5 = .ok (.iload_n 2, 1) := by decide +kernel
theorem dL_move_6 : decode cL_move 6 = .ok (.iload_n 3, 1) := by decide +kernel
theorem dL_move_7 : decode cL_move 7 = .ok (.iload 4, 2) := by decide +kernel
theorem dL_move_9 : decode cL_move 9 = .ok (.invokevirtual 30, 3) := by decide +kernel
theorem dL_move_12 : decode cL_move 12 = .ok (.i2l, 1) := by decide +kernel
theorem dL_move_13 : decode cL_move 13 = .ok (.lastore, 1) := by decide +kernel
theorem dL_move_14 : decode cL_move 14 = .ok (.goto 15, 3) := by decide +kernel
theorem dL_move_17 : decode cL_move 17 = .ok (.astore 6, 2) := by decide +kernel
theorem dL_move_19 : decode cL_move 19 = .ok (.iconst 1, 1) := by decide +kernel
theorem dL_move_20 : decode cL_move 20 = .ok (.ireturn, 1) := by decide +kernel
theorem dL_move_21 : decode cL_move 21 = .ok (.astore 6, 2) := by decide +kernel
theorem dL_move_23 : decode cL_move 23 = .ok (.iconst 2, 1) := by decide +kernel
theorem dL_move_24 : decode cL_move 24 = .ok (.ireturn, 1) := by decide +kernel
theorem dL_move_25 : decode cL_move 25 = .ok (.astore 6, 2) := by decide +kernel
theorem dL_move_27 : decode cL_move 27 = .ok (.iconst 3, 1) := by decide +kernel
theorem dL_move_28 : decode cL_move 28 = .ok (.ireturn, 1) := by decide +kernel
theorem dL_move_29 : decode cL_move 29 = .ok (.iconst 0, 1) := by decide +kernel
theorem dL_move_30 : decode cL_move 30 = .ok (.ireturn, 1) := by decide +kernel
theorem dL_trade_0 : decode cL_trade 0 = .ok (.aload_n 3, 1) := by decide +kernel
theorem dL_trade_1 : decode cL_trade 1 = .ok (.iconst 0, 1) := by decide +kernel
theorem dL_trade_2 : decode cL_trade 2 = .ok (.aload_n 0, 1) := by decide +kernel
theorem dL_trade_3 : decode cL_trade 3 = .ok (.iload_n 1, 1) := by decide +kernel
theorem dL_trade_4 : decode cL_trade 4 = .ok (.iload_n 2, 1) := by decide +kernel
theorem dL_trade_5 : decode cL_trade 5 = .ok (.invokevirtual 34, 3) := by decide +kernel
theorem dL_trade_8 : decode cL_trade 8 = .ok (.i2l, 1) := by decide +kernel
theorem dL_trade_9 : decode cL_trade 9 = .ok (.lastore, 1) := by decide +kernel
theorem dL_trade_10 : decode cL_trade 10 = .ok (.goto 11, 3) := by decide +kernel
theorem dL_trade_13 : decode cL_trade 13 = .ok (.astore 4, 2) := by decide +kernel
theorem dL_trade_15 : decode cL_trade 15 = .ok (.iconst 1, 1) := by decide +kernel
theorem dL_trade_16 : decode cL_trade 16 = .ok (.ireturn, 1) := by decide +kernel
theorem dL_trade_17 : decode cL_trade 17 = .ok (.astore 4, 2) := by decide +kernel
theorem dL_trade_19 : decode cL_trade 19 = .ok (.iconst 2, 1) := by decide +kernel
theorem dL_trade_20 : decode cL_trade 20 = .ok (.ireturn, 1) := by decide +kernel
theorem dL_trade_21 : decode cL_trade 21 = .ok (.iconst 0, 1) := by decide +kernel
theorem dL_trade_22 : decode cL_trade 22 = .ok (.ireturn, 1) := by decide +kernel
theorem dL_turn_0 : decode cL_turn 0 = .ok (.aload_n 3, 1) := by decide +kernel
theorem dL_turn_1 : decode cL_turn 1 = .ok (.iconst 0, 1) := by decide +kernel
theorem dL_turn_2 : decode cL_turn 2 = .ok (.aload_n 0, 1) := by decide +kernel
theorem dL_turn_3 : decode cL_turn 3 = .ok (.iload_n 1, 1) := by decide +kernel
theorem dL_turn_4 : decode cL_turn 4 = .ok (.iload_n 2, 1) := by decide +kernel
theorem dL_turn_5 : decode cL_turn 5 = .ok (.invokevirtual 37, 3) := by decide +kernel
theorem dL_turn_8 : decode cL_turn 8 = .ok (.i2l, 1) := by decide +kernel
theorem dL_turn_9 : decode cL_turn 9 = .ok (.lastore, 1) := by decide +kernel
theorem dL_turn_10 : decode cL_turn 10 = .ok (.goto 11, 3) := by decide +kernel
theorem dL_turn_13 : decode cL_turn 13 = .ok (.astore 4, 2) := by decide +kernel
theorem dL_turn_15 : decode cL_turn 15 = .ok (.iconst 1, 1) := by decide +kernel
theorem dL_turn_16 : decode cL_turn 16 = .ok (.ireturn, 1) := by decide +kernel
theorem dL_turn_17 : decode cL_turn 17 = .ok (.astore 4, 2) := by decide +kernel
theorem dL_turn_19 : decode cL_turn 19 = .ok (.iconst 2, 1) := by decide +kernel
theorem dL_turn_20 : decode cL_turn 20 = .ok (.ireturn, 1) := by decide +kernel
theorem dL_turn_21 : decode cL_turn 21 = .ok (.iconst 0, 1) := by decide +kernel
theorem dL_turn_22 : decode cL_turn 22 = .ok (.ireturn, 1) := by decide +kernel
theorem dL_file_0 : decode cL_file 0 = .ok (.aload_n 3, 1) := by decide +kernel
theorem dL_file_1 : decode cL_file 1 = .ok (.iconst 0, 1) := by decide +kernel
theorem dL_file_2 : decode cL_file 2 = .ok (.aload_n 0, 1) := by decide +kernel
theorem dL_file_3 : decode cL_file 3 = .ok (.iload_n 1, 1) := by decide +kernel
theorem dL_file_4 : decode cL_file 4 = .ok (.iload_n 2, 1) := by decide +kernel
theorem dL_file_5 : decode cL_file 5 = .ok (.invokevirtual 40, 3) := by decide +kernel
theorem dL_file_8 : decode cL_file 8 = .ok (.i2l, 1) := by decide +kernel
theorem dL_file_9 : decode cL_file 9 = .ok (.lastore, 1) := by decide +kernel
theorem dL_file_10 : decode cL_file 10 = .ok (.goto 7, 3) := by decide +kernel
theorem dL_file_13 : decode cL_file 13 = .ok (.astore 4, 2) := by decide +kernel
theorem dL_file_15 : decode cL_file 15 = .ok (.iconst 1, 1) := by decide +kernel
theorem dL_file_16 : decode cL_file 16 = .ok (.ireturn, 1) := by decide +kernel
theorem dL_file_17 : decode cL_file 17 = .ok (.iconst 0, 1) := by decide +kernel
theorem dL_file_18 : decode cL_file 18 = .ok (.ireturn, 1) := by decide +kernel
theorem dL_play_0 : decode cL_play 0 = .ok (.aload_n 2, 1) := by decide +kernel
theorem dL_play_1 : decode cL_play 1 = .ok (.iconst 0, 1) := by decide +kernel
theorem dL_play_2 : decode cL_play 2 = .ok (.aload_n 0, 1) := by decide +kernel
theorem dL_play_3 : decode cL_play 3 = .ok (.iload_n 1, 1) := by decide +kernel
theorem dL_play_4 : decode cL_play 4 = .ok (.invokevirtual 43, 3) := by decide +kernel
theorem dL_play_7 : decode cL_play 7 = .ok (.i2l, 1) := by decide +kernel
theorem dL_play_8 : decode cL_play 8 = .ok (.lastore, 1) := by decide +kernel
theorem dL_play_9 : decode cL_play 9 = .ok (.goto 6, 3) := by decide +kernel
theorem dL_play_12 : decode cL_play 12 = .ok (.astore_n 3, 1) := by decide +kernel
theorem dL_play_13 : decode cL_play 13 = .ok (.iconst 1, 1) := by decide +kernel
theorem dL_play_14 : decode cL_play 14 = .ok (.ireturn, 1) := by decide +kernel
theorem dL_play_15 : decode cL_play 15 = .ok (.iconst 0, 1) := by decide +kernel
theorem dL_play_16 : decode cL_play 16 = .ok (.ireturn, 1) := by decide +kernel
theorem dL_lend_0 : decode cL_lend 0 = .ok (.aload 4, 2) := by decide +kernel
theorem dL_lend_2 : decode cL_lend 2 = .ok (.iconst 0, 1) := by decide +kernel
theorem dL_lend_3 : decode cL_lend 3 = .ok (.aload_n 0, 1) := by decide +kernel
theorem dL_lend_4 : decode cL_lend 4 = .ok (.iload_n 1, 1) := by decide +kernel
theorem dL_lend_5 : decode cL_lend 5 = .ok (.iload_n 2, 1) := by decide +kernel
theorem dL_lend_6 : decode cL_lend 6 = .ok (.iload_n 3, 1) := by decide +kernel
theorem dL_lend_7 : decode cL_lend 7 = .ok (.invokevirtual 46, 3) := by decide +kernel
theorem dL_lend_10 : decode cL_lend 10 = .ok (.i2l, 1) := by decide +kernel
theorem dL_lend_11 : decode cL_lend 11 = .ok (.lastore, 1) := by decide +kernel
theorem dL_lend_12 : decode cL_lend 12 = .ok (.goto 15, 3) := by decide +kernel
theorem dL_lend_15 : decode cL_lend 15 = .ok (.astore 5, 2) := by decide +kernel
theorem dL_lend_17 : decode cL_lend 17 = .ok (.iconst 1, 1) := by decide +kernel
theorem dL_lend_18 : decode cL_lend 18 = .ok (.ireturn, 1) := by decide +kernel
theorem dL_lend_19 : decode cL_lend 19 = .ok (.astore 5, 2) := by decide +kernel
theorem dL_lend_21 : decode cL_lend 21 = .ok (.iconst 2, 1) := by decide +kernel
theorem dL_lend_22 : decode cL_lend 22 = .ok (.ireturn, 1) := by decide +kernel
theorem dL_lend_23 : decode cL_lend 23 = .ok (.astore 5, 2) := by decide +kernel
theorem dL_lend_25 : decode cL_lend 25 = .ok (.iconst 3, 1) := by decide +kernel
theorem dL_lend_26 : decode cL_lend 26 = .ok (.ireturn, 1) := by decide +kernel
theorem dL_lend_27 : decode cL_lend 27 = .ok (.iconst 0, 1) := by decide +kernel
theorem dL_lend_28 : decode cL_lend 28 = .ok (.ireturn, 1) := by decide +kernel
theorem dL_repay_0 : decode cL_repay 0 = .ok (.aload 4, 2) := by decide +kernel
theorem dL_repay_2 : decode cL_repay 2 = .ok (.iconst 0, 1) := by decide +kernel
theorem dL_repay_3 : decode cL_repay 3 = .ok (.aload_n 0, 1) := by decide +kernel
theorem dL_repay_4 : decode cL_repay 4 = .ok (.iload_n 1, 1) := by decide +kernel
theorem dL_repay_5 : decode cL_repay 5 = .ok (.iload_n 2, 1) := by decide +kernel
theorem dL_repay_6 : decode cL_repay 6 = .ok (.iload_n 3, 1) := by decide +kernel
theorem dL_repay_7 : decode cL_repay 7 = .ok (.invokevirtual 49, 3) := by decide +kernel
theorem dL_repay_10 : decode cL_repay 10 = .ok (.i2l, 1) := by decide +kernel
theorem dL_repay_11 : decode cL_repay 11 = .ok (.lastore, 1) := by decide +kernel
theorem dL_repay_12 : decode cL_repay 12 = .ok (.goto 15, 3) := by decide +kernel
theorem dL_repay_15 : decode cL_repay 15 = .ok (.astore 5, 2) := by decide +kernel
theorem dL_repay_17 : decode cL_repay 17 = .ok (.iconst 1, 1) := by decide +kernel
theorem dL_repay_18 : decode cL_repay 18 = .ok (.ireturn, 1) := by decide +kernel
theorem dL_repay_19 : decode cL_repay 19 = .ok (.astore 5, 2) := by decide +kernel
theorem dL_repay_21 : decode cL_repay 21 = .ok (.iconst 2, 1) := by decide +kernel
theorem dL_repay_22 : decode cL_repay 22 = .ok (.ireturn, 1) := by decide +kernel
theorem dL_repay_23 : decode cL_repay 23 = .ok (.astore 5, 2) := by decide +kernel
theorem dL_repay_25 : decode cL_repay 25 = .ok (.iconst 3, 1) := by decide +kernel
theorem dL_repay_26 : decode cL_repay 26 = .ok (.ireturn, 1) := by decide +kernel
theorem dL_repay_27 : decode cL_repay 27 = .ok (.iconst 0, 1) := by decide +kernel
theorem dL_repay_28 : decode cL_repay 28 = .ok (.ireturn, 1) := by decide +kernel
theorem dL_append_0 : decode cL_append 0 = .ok (.aload_n 2, 1) := by decide +kernel
theorem dL_append_1 : decode cL_append 1 = .ok (.iconst 0, 1) := by decide +kernel
theorem dL_append_2 : decode cL_append 2 = .ok (.aload_n 0, 1) := by decide +kernel
theorem dL_append_3 : decode cL_append 3 = .ok (.iload_n 1, 1) := by decide +kernel
theorem dL_append_4 : decode cL_append 4 = .ok (.invokevirtual 52, 3) := by decide +kernel
theorem dL_append_7 : decode cL_append 7 = .ok (.i2l, 1) := by decide +kernel
theorem dL_append_8 : decode cL_append 8 = .ok (.lastore, 1) := by decide +kernel
theorem dL_append_9 : decode cL_append 9 = .ok (.goto 9, 3) := by decide +kernel
theorem dL_append_12 : decode cL_append 12 = .ok (.astore_n 3, 1) := by decide +kernel
theorem dL_append_13 : decode cL_append 13 = .ok (.iconst 1, 1) := by decide +kernel
theorem dL_append_14 : decode cL_append 14 = .ok (.ireturn, 1) := by decide +kernel
theorem dL_append_15 : decode cL_append 15 = .ok (.astore_n 3, 1) := by decide +kernel
theorem dL_append_16 : decode cL_append 16 = .ok (.iconst 2, 1) := by decide +kernel
theorem dL_append_17 : decode cL_append 17 = .ok (.ireturn, 1) := by decide +kernel
theorem dL_append_18 : decode cL_append 18 = .ok (.iconst 0, 1) := by decide +kernel
theorem dL_append_19 : decode cL_append 19 = .ok (.ireturn, 1) := by decide +kernel
theorem dL_learn_0 : decode cL_learn 0 = .ok (.aload_n 2, 1) := by decide +kernel
theorem dL_learn_1 : decode cL_learn 1 = .ok (.iconst 0, 1) := by decide +kernel
theorem dL_learn_2 : decode cL_learn 2 = .ok (.aload_n 0, 1) := by decide +kernel
theorem dL_learn_3 : decode cL_learn 3 = .ok (.iload_n 1, 1) := by decide +kernel
theorem dL_learn_4 : decode cL_learn 4 = .ok (.invokevirtual 55, 3) := by decide +kernel
theorem dL_learn_7 : decode cL_learn 7 = .ok (.i2l, 1) := by decide +kernel
theorem dL_learn_8 : decode cL_learn 8 = .ok (.lastore, 1) := by decide +kernel
theorem dL_learn_9 : decode cL_learn 9 = .ok (.goto 9, 3) := by decide +kernel
theorem dL_learn_12 : decode cL_learn 12 = .ok (.astore_n 3, 1) := by decide +kernel
theorem dL_learn_13 : decode cL_learn 13 = .ok (.iconst 1, 1) := by decide +kernel
theorem dL_learn_14 : decode cL_learn 14 = .ok (.ireturn, 1) := by decide +kernel
theorem dL_learn_15 : decode cL_learn 15 = .ok (.astore_n 3, 1) := by decide +kernel
theorem dL_learn_16 : decode cL_learn 16 = .ok (.iconst 2, 1) := by decide +kernel
theorem dL_learn_17 : decode cL_learn 17 = .ok (.ireturn, 1) := by decide +kernel
theorem dL_learn_18 : decode cL_learn 18 = .ok (.iconst 0, 1) := by decide +kernel
theorem dL_learn_19 : decode cL_learn 19 = .ok (.ireturn, 1) := by decide +kernel
theorem dL_undo_0 : decode cL_undo 0 = .ok (.aload_n 1, 1) := by decide +kernel
theorem dL_undo_1 : decode cL_undo 1 = .ok (.iconst 0, 1) := by decide +kernel
theorem dL_undo_2 : decode cL_undo 2 = .ok (.aload_n 0, 1) := by decide +kernel
theorem dL_undo_3 : decode cL_undo 3 = .ok (.invokevirtual 58, 3) := by decide +kernel
theorem dL_undo_6 : decode cL_undo 6 = .ok (.i2l, 1) := by decide +kernel
theorem dL_undo_7 : decode cL_undo 7 = .ok (.lastore, 1) := by decide +kernel
theorem dL_undo_8 : decode cL_undo 8 = .ok (.goto 6, 3) := by decide +kernel
theorem dL_undo_11 : decode cL_undo 11 = .ok (.astore_n 2, 1) := by decide +kernel
theorem dL_undo_12 : decode cL_undo 12 = .ok (.iconst 1, 1) := by decide +kernel
theorem dL_undo_13 : decode cL_undo 13 = .ok (.ireturn, 1) := by decide +kernel
theorem dL_undo_14 : decode cL_undo 14 = .ok (.iconst 0, 1) := by decide +kernel
theorem dL_undo_15 : decode cL_undo 15 = .ok (.ireturn, 1) := by decide +kernel
theorem dL_town_0 : decode cL_town 0 = .ok (.aload_n 3, 1) := by decide +kernel
theorem dL_town_1 : decode cL_town 1 = .ok (.iconst 0, 1) := by decide +kernel
theorem dL_town_2 : decode cL_town 2 = .ok (.aload_n 0, 1) := by decide +kernel
theorem dL_town_3 : decode cL_town 3 = .ok (.iload_n 1, 1) := by decide +kernel
theorem dL_town_4 : decode cL_town 4 = .ok (.iload_n 2, 1) := by decide +kernel
theorem dL_town_5 : decode cL_town 5 = .ok (.invokevirtual 62, 3) := by decide +kernel
theorem dL_town_8 : decode cL_town 8 = .ok (.i2l, 1) := by decide +kernel
theorem dL_town_9 : decode cL_town 9 = .ok (.lastore, 1) := by decide +kernel
theorem dL_town_10 : decode cL_town 10 = .ok (.goto 11, 3) := by decide +kernel
theorem dL_town_13 : decode cL_town 13 = .ok (.astore 4, 2) := by decide +kernel
theorem dL_town_15 : decode cL_town 15 = .ok (.iconst 1, 1) := by decide +kernel
theorem dL_town_16 : decode cL_town 16 = .ok (.ireturn, 1) := by decide +kernel
theorem dL_town_17 : decode cL_town 17 = .ok (.astore 4, 2) := by decide +kernel
theorem dL_town_19 : decode cL_town 19 = .ok (.iconst 2, 1) := by decide +kernel
theorem dL_town_20 : decode cL_town 20 = .ok (.ireturn, 1) := by decide +kernel
theorem dL_town_21 : decode cL_town 21 = .ok (.iconst 0, 1) := by decide +kernel
theorem dL_town_22 : decode cL_town 22 = .ok (.ireturn, 1) := by decide +kernel
theorem dL_step_0 : decode cL_step 0 = .ok (.aload 4, 2) := by decide +kernel
theorem dL_step_2 : decode cL_step 2 = .ok (.iconst 0, 1) := by decide +kernel
theorem dL_step_3 : decode cL_step 3 = .ok (.aload_n 0, 1) := by decide +kernel
theorem dL_step_4 : decode cL_step 4 = .ok (.iload_n 1, 1) := by decide +kernel
theorem dL_step_5 : decode cL_step 5 = .ok (.iload_n 2, 1) := by decide +kernel
theorem dL_step_6 : decode cL_step 6 = .ok (.iload_n 3, 1) := by decide +kernel
theorem dL_step_7 : decode cL_step 7 = .ok (.invokevirtual 65, 3) := by decide +kernel
theorem dL_step_10 : decode cL_step 10 = .ok (.i2l, 1) := by decide +kernel
theorem dL_step_11 : decode cL_step 11 = .ok (.lastore, 1) := by decide +kernel
theorem dL_step_12 : decode cL_step 12 = .ok (.goto 11, 3) := by decide +kernel
theorem dL_step_15 : decode cL_step 15 = .ok (.astore 5, 2) := by decide +kernel
theorem dL_step_17 : decode cL_step 17 = .ok (.iconst 1, 1) := by decide +kernel
theorem dL_step_18 : decode cL_step 18 = .ok (.ireturn, 1) := by decide +kernel
theorem dL_step_19 : decode cL_step 19 = .ok (.astore 5, 2) := by decide +kernel
theorem dL_step_21 : decode cL_step 21 = .ok (.iconst 2, 1) := by decide +kernel
theorem dL_step_22 : decode cL_step 22 = .ok (.ireturn, 1) := by decide +kernel
theorem dL_step_23 : decode cL_step 23 = .ok (.iconst 0, 1) := by decide +kernel
theorem dL_step_24 : decode cL_step 24 = .ok (.ireturn, 1) := by decide +kernel
theorem dL_wear_0 : decode cL_wear 0 = .ok (.aload_n 3, 1) := by decide +kernel
theorem dL_wear_1 : decode cL_wear 1 = .ok (.iconst 0, 1) := by decide +kernel
theorem dL_wear_2 : decode cL_wear 2 = .ok (.aload_n 0, 1) := by decide +kernel
theorem dL_wear_3 : decode cL_wear 3 = .ok (.iload_n 1, 1) := by decide +kernel
theorem dL_wear_4 : decode cL_wear 4 = .ok (.iload_n 2, 1) := by decide +kernel
theorem dL_wear_5 : decode cL_wear 5 = .ok (.invokevirtual 68, 3) := by decide +kernel
theorem dL_wear_8 : decode cL_wear 8 = .ok (.i2l, 1) := by decide +kernel
theorem dL_wear_9 : decode cL_wear 9 = .ok (.lastore, 1) := by decide +kernel
theorem dL_wear_10 : decode cL_wear 10 = .ok (.goto 7, 3) := by decide +kernel
theorem dL_wear_13 : decode cL_wear 13 = .ok (.astore 4, 2) := by decide +kernel
theorem dL_wear_15 : decode cL_wear 15 = .ok (.iconst 1, 1) := by decide +kernel
theorem dL_wear_16 : decode cL_wear 16 = .ok (.ireturn, 1) := by decide +kernel
theorem dL_wear_17 : decode cL_wear 17 = .ok (.iconst 0, 1) := by decide +kernel
theorem dL_wear_18 : decode cL_wear 18 = .ok (.ireturn, 1) := by decide +kernel
theorem dL_debt_0 : decode cL_debt 0 = .ok (.aload_n 3, 1) := by decide +kernel
theorem dL_debt_1 : decode cL_debt 1 = .ok (.iconst 0, 1) := by decide +kernel
theorem dL_debt_2 : decode cL_debt 2 = .ok (.aload_n 0, 1) := by decide +kernel
theorem dL_debt_3 : decode cL_debt 3 = .ok (.iload_n 1, 1) := by decide +kernel
theorem dL_debt_4 : decode cL_debt 4 = .ok (.iload_n 2, 1) := by decide +kernel
theorem dL_debt_5 : decode cL_debt 5 = .ok (.invokevirtual 71, 3) := by decide +kernel
theorem dL_debt_8 : decode cL_debt 8 = .ok (.i2l, 1) := by decide +kernel
theorem dL_debt_9 : decode cL_debt 9 = .ok (.lastore, 1) := by decide +kernel
theorem dL_debt_10 : decode cL_debt 10 = .ok (.goto 7, 3) := by decide +kernel
theorem dL_debt_13 : decode cL_debt 13 = .ok (.astore 4, 2) := by decide +kernel
theorem dL_debt_15 : decode cL_debt 15 = .ok (.iconst 1, 1) := by decide +kernel
theorem dL_debt_16 : decode cL_debt 16 = .ok (.ireturn, 1) := by decide +kernel
theorem dL_debt_17 : decode cL_debt 17 = .ok (.iconst 0, 1) := by decide +kernel
theorem dL_debt_18 : decode cL_debt 18 = .ok (.ireturn, 1) := by decide +kernel
theorem dL_count_0 : decode cL_count 0 = .ok (.aload_n 2, 1) := by decide +kernel
theorem dL_count_1 : decode cL_count 1 = .ok (.iconst 0, 1) := by decide +kernel
theorem dL_count_2 : decode cL_count 2 = .ok (.aload_n 0, 1) := by decide +kernel
theorem dL_count_3 : decode cL_count 3 = .ok (.iload_n 1, 1) := by decide +kernel
theorem dL_count_4 : decode cL_count 4 = .ok (.invokevirtual 74, 3) := by decide +kernel
theorem dL_count_7 : decode cL_count 7 = .ok (.i2l, 1) := by decide +kernel
theorem dL_count_8 : decode cL_count 8 = .ok (.lastore, 1) := by decide +kernel
theorem dL_count_9 : decode cL_count 9 = .ok (.goto 6, 3) := by decide +kernel
theorem dL_count_12 : decode cL_count 12 = .ok (.astore_n 3, 1) := by decide +kernel
theorem dL_count_13 : decode cL_count 13 = .ok (.iconst 1, 1) := by decide +kernel
theorem dL_count_14 : decode cL_count 14 = .ok (.ireturn, 1) := by decide +kernel
theorem dL_count_15 : decode cL_count 15 = .ok (.iconst 0, 1) := by decide +kernel
theorem dL_count_16 : decode cL_count 16 = .ok (.ireturn, 1) := by decide +kernel
theorem dL_setting_0 : decode cL_setting 0 = .ok (.aload_n 2, 1) := by decide +kernel
theorem dL_setting_1 : decode cL_setting 1 = .ok (.iconst 0, 1) := by decide +kernel
theorem dL_setting_2 : decode cL_setting 2 = .ok (.aload_n 0, 1) := by decide +kernel
theorem dL_setting_3 : decode cL_setting 3 = .ok (.iload_n 1, 1) := by decide +kernel
theorem dL_setting_4 : decode cL_setting 4 = .ok (.invokevirtual 77, 3) := by decide +kernel
theorem dL_setting_7 : decode cL_setting 7 = .ok (.i2l, 1) := by decide +kernel
theorem dL_setting_8 : decode cL_setting 8 = .ok (.lastore, 1) := by decide +kernel
theorem dL_setting_9 : decode cL_setting 9 = .ok (.goto 6, 3) := by decide +kernel
theorem dL_setting_12 : decode cL_setting 12 = .ok (.astore_n 3, 1) := by decide +kernel
theorem dL_setting_13 : decode cL_setting 13 = .ok (.iconst 1, 1) := by decide +kernel
theorem dL_setting_14 : decode cL_setting 14 = .ok (.ireturn, 1) := by decide +kernel
theorem dL_setting_15 : decode cL_setting 15 = .ok (.iconst 0, 1) := by decide +kernel
theorem dL_setting_16 : decode cL_setting 16 = .ok (.ireturn, 1) := by decide +kernel
theorem dL_ifPlayed_0 : decode cL_ifPlayed 0 = .ok (.aload_n 3, 1) := by decide +kernel
theorem dL_ifPlayed_1 : decode cL_ifPlayed 1 = .ok (.iconst 0, 1) := by decide +kernel
theorem dL_ifPlayed_2 : decode cL_ifPlayed 2 = .ok (.aload_n 0, 1) := by decide +kernel
theorem dL_ifPlayed_3 : decode cL_ifPlayed 3 = .ok (.iload_n 1, 1) := by decide +kernel
theorem dL_ifPlayed_4 : decode cL_ifPlayed 4 = .ok (.iload_n 2, 1) := by decide +kernel
theorem dL_ifPlayed_5 : decode cL_ifPlayed 5 = .ok (.invokevirtual 80, 3) := by decide +kernel
theorem dL_ifPlayed_8 : decode cL_ifPlayed 8 = .ok (.i2l, 1) := by decide +kernel
theorem dL_ifPlayed_9 : decode cL_ifPlayed 9 = .ok (.lastore, 1) := by decide +kernel
theorem dL_ifPlayed_10 : decode cL_ifPlayed 10 = .ok (.goto 11, 3) := by decide +kernel
theorem dL_ifPlayed_13 : decode cL_ifPlayed 13 = .ok (.astore 4, 2) := by decide +kernel
theorem dL_ifPlayed_15 : decode cL_ifPlayed 15 = .ok (.iconst 1, 1) := by decide +kernel
theorem dL_ifPlayed_16 : decode cL_ifPlayed 16 = .ok (.ireturn, 1) := by decide +kernel
theorem dL_ifPlayed_17 : decode cL_ifPlayed 17 = .ok (.astore 4, 2) := by decide +kernel
theorem dL_ifPlayed_19 : decode cL_ifPlayed 19 = .ok (.iconst 2, 1) := by decide +kernel
theorem dL_ifPlayed_20 : decode cL_ifPlayed 20 = .ok (.ireturn, 1) := by decide +kernel
theorem dL_ifPlayed_21 : decode cL_ifPlayed 21 = .ok (.iconst 0, 1) := by decide +kernel
theorem dL_ifPlayed_22 : decode cL_ifPlayed 22 = .ok (.ireturn, 1) := by decide +kernel
theorem dL_lastsFor_0 : decode cL_lastsFor 0 = .ok (.aload_n 2, 1) := by decide +kernel
theorem dL_lastsFor_1 : decode cL_lastsFor 1 = .ok (.iconst 0, 1) := by decide +kernel
theorem dL_lastsFor_2 : decode cL_lastsFor 2 = .ok (.aload_n 0, 1) := by decide +kernel
theorem dL_lastsFor_3 : decode cL_lastsFor 3 = .ok (.iload_n 1, 1) := by decide +kernel
theorem dL_lastsFor_4 : decode cL_lastsFor 4 = .ok (.invokevirtual 83, 3) := by decide +kernel
theorem dL_lastsFor_7 : decode cL_lastsFor 7 = .ok (.i2l, 1) := by decide +kernel
theorem dL_lastsFor_8 : decode cL_lastsFor 8 = .ok (.lastore, 1) := by decide +kernel
theorem dL_lastsFor_9 : decode cL_lastsFor 9 = .ok (.goto 6, 3) := by decide +kernel
theorem dL_lastsFor_12 : decode cL_lastsFor 12 = .ok (.astore_n 3, 1) := by decide +kernel
theorem dL_lastsFor_13 : decode cL_lastsFor 13 = .ok (.iconst 1, 1) := by decide +kernel
theorem dL_lastsFor_14 : decode cL_lastsFor 14 = .ok (.ireturn, 1) := by decide +kernel
theorem dL_lastsFor_15 : decode cL_lastsFor 15 = .ok (.iconst 0, 1) := by decide +kernel
theorem dL_lastsFor_16 : decode cL_lastsFor 16 = .ok (.ireturn, 1) := by decide +kernel
theorem dL_bestTurn_0 : decode cL_bestTurn 0 = .ok (.aload_n 3, 1) := by decide +kernel
theorem dL_bestTurn_1 : decode cL_bestTurn 1 = .ok (.iconst 0, 1) := by decide +kernel
theorem dL_bestTurn_2 : decode cL_bestTurn 2 = .ok (.aload_n 0, 1) := by decide +kernel
theorem dL_bestTurn_3 : decode cL_bestTurn 3 = .ok (.iload_n 1, 1) := by decide +kernel
theorem dL_bestTurn_4 : decode cL_bestTurn 4 = .ok (.iload_n 2, 1) := by decide +kernel
theorem dL_bestTurn_5 : decode cL_bestTurn 5 = .ok (.invokevirtual 86, 3) := by decide +kernel
theorem dL_bestTurn_8 : decode cL_bestTurn 8 = .ok (.i2l, 1) := by decide +kernel
theorem dL_bestTurn_9 : decode cL_bestTurn 9 = .ok (.lastore, 1) := by decide +kernel
theorem dL_bestTurn_10 : decode cL_bestTurn 10 = .ok (.goto 11, 3) := by decide +kernel
theorem dL_bestTurn_13 : decode cL_bestTurn 13 = .ok (.astore 4, 2) := by decide +kernel
theorem dL_bestTurn_15 : decode cL_bestTurn 15 = .ok (.iconst 1, 1) := by decide +kernel
theorem dL_bestTurn_16 : decode cL_bestTurn 16 = .ok (.ireturn, 1) := by decide +kernel
theorem dL_bestTurn_17 : decode cL_bestTurn 17 = .ok (.astore 4, 2) := by decide +kernel
theorem dL_bestTurn_19 : decode cL_bestTurn 19 = .ok (.iconst 2, 1) := by decide +kernel
theorem dL_bestTurn_20 : decode cL_bestTurn 20 = .ok (.ireturn, 1) := by decide +kernel
theorem dL_bestTurn_21 : decode cL_bestTurn 21 = .ok (.iconst 0, 1) := by decide +kernel
theorem dL_bestTurn_22 : decode cL_bestTurn 22 = .ok (.ireturn, 1) := by decide +kernel
theorem dL_bestDrum_0 : decode cL_bestDrum 0 = .ok (.aload_n 2, 1) := by decide +kernel
theorem dL_bestDrum_1 : decode cL_bestDrum 1 = .ok (.iconst 0, 1) := by decide +kernel
theorem dL_bestDrum_2 : decode cL_bestDrum 2 = .ok (.aload_n 0, 1) := by decide +kernel
theorem dL_bestDrum_3 : decode cL_bestDrum 3 = .ok (.iload_n 1, 1) := by decide +kernel
theorem dL_bestDrum_4 : decode cL_bestDrum 4 = .ok (.invokevirtual 89, 3) := by decide +kernel
theorem dL_bestDrum_7 : decode cL_bestDrum 7 = .ok (.i2l, 1) := by decide +kernel
theorem dL_bestDrum_8 : decode cL_bestDrum 8 = .ok (.lastore, 1) := by decide +kernel
theorem dL_bestDrum_9 : decode cL_bestDrum 9 = .ok (.goto 6, 3) := by decide +kernel
theorem dL_bestDrum_12 : decode cL_bestDrum 12 = .ok (.astore_n 3, 1) := by decide +kernel
theorem dL_bestDrum_13 : decode cL_bestDrum 13 = .ok (.iconst 1, 1) := by decide +kernel
theorem dL_bestDrum_14 : decode cL_bestDrum 14 = .ok (.ireturn, 1) := by decide +kernel
theorem dL_bestDrum_15 : decode cL_bestDrum 15 = .ok (.iconst 0, 1) := by decide +kernel
theorem dL_bestDrum_16 : decode cL_bestDrum 16 = .ok (.ireturn, 1) := by decide +kernel
theorem dL_bestTrades_0 : decode cL_bestTrades 0 = .ok (.aload_n 2, 1) := by decide +kernel
theorem dL_bestTrades_1 : decode cL_bestTrades 1 = .ok (.iconst 0, 1) := by decide +kernel
theorem dL_bestTrades_2 : decode cL_bestTrades 2 = .ok (.aload_n 0, 1) := by decide +kernel
theorem dL_bestTrades_3 : decode cL_bestTrades 3 = .ok (.iload_n 1, 1) := by decide +kernel
theorem dL_bestTrades_4 : decode cL_bestTrades 4 = .ok (.invokevirtual 92, 3) := by decide +kernel
theorem dL_bestTrades_7 : decode cL_bestTrades 7 = .ok (.i2l, 1) := by decide +kernel
theorem dL_bestTrades_8 : decode cL_bestTrades 8 = .ok (.lastore, 1) := by decide +kernel
theorem dL_bestTrades_9 : decode cL_bestTrades 9 = .ok (.goto 6, 3) := by decide +kernel
theorem dL_bestTrades_12 : decode cL_bestTrades 12 = .ok (.astore_n 3, 1) := by decide +kernel
theorem dL_bestTrades_13 : decode cL_bestTrades 13 = .ok (.iconst 1, 1) := by decide +kernel
theorem dL_bestTrades_14 : decode cL_bestTrades 14 = .ok (.ireturn, 1) := by decide +kernel
theorem dL_bestTrades_15 : decode cL_bestTrades 15 = .ok (.iconst 0, 1) := by decide +kernel
theorem dL_bestTrades_16 : decode cL_bestTrades 16 = .ok (.ireturn, 1) := by decide +kernel
theorem dL_ring_0 : decode cL_ring 0 = .ok (.aload_n 2, 1) := by decide +kernel
theorem dL_ring_1 : decode cL_ring 1 = .ok (.iconst 0, 1) := by decide +kernel
theorem dL_ring_2 : decode cL_ring 2 = .ok (.aload_n 0, 1) := by decide +kernel
theorem dL_ring_3 : decode cL_ring 3 = .ok (.iload_n 1, 1) := by decide +kernel
theorem dL_ring_4 : decode cL_ring 4 = .ok (.invokevirtual 95, 3) := by decide +kernel
theorem dL_ring_7 : decode cL_ring 7 = .ok (.i2l, 1) := by decide +kernel
theorem dL_ring_8 : decode cL_ring 8 = .ok (.lastore, 1) := by decide +kernel
theorem dL_ring_9 : decode cL_ring 9 = .ok (.goto 6, 3) := by decide +kernel
theorem dL_ring_12 : decode cL_ring 12 = .ok (.astore_n 3, 1) := by decide +kernel
theorem dL_ring_13 : decode cL_ring 13 = .ok (.iconst 1, 1) := by decide +kernel
theorem dL_ring_14 : decode cL_ring 14 = .ok (.ireturn, 1) := by decide +kernel
theorem dL_ring_15 : decode cL_ring 15 = .ok (.iconst 0, 1) := by decide +kernel
theorem dL_ring_16 : decode cL_ring 16 = .ok (.ireturn, 1) := by decide +kernel
theorem dL_law_0 : decode cL_law 0 = .ok (.new 8, 3) := by decide +kernel
theorem dL_law_3 : decode cL_law 3 = .ok (.dup, 1) := by decide +kernel
theorem dL_law_4 : decode cL_law 4 = .ok (.invokespecial 98, 3) := by decide +kernel
theorem dL_law_7 : decode cL_law 7 = .ok (.astore_n 1, 1) := by decide +kernel
theorem dL_law_8 : decode cL_law 8 = .ok (.new 99, 3) := by decide +kernel
theorem dL_law_11 : decode cL_law 11 = .ok (.dup, 1) := by decide +kernel
theorem dL_law_12 : decode cL_law 12 = .ok (.invokespecial 101, 3) := by decide +kernel
theorem dL_law_15 : decode cL_law 15 = .ok (.astore_n 2, 1) := by decide +kernel
theorem dL_law_16 : decode cL_law 16 = .ok (.iconst 1, 1) := by decide +kernel
theorem dL_law_17 : decode cL_law 17 = .ok (.newarray .long, 2) := by decide +kernel
theorem dL_law_19 : decode cL_law 19 = .ok (.astore_n 3, 1) := by decide +kernel
theorem dL_law_20 : decode cL_law 20 = .ok (.iconst 0, 1) := by decide +kernel
theorem dL_law_21 : decode cL_law 21 = .ok (.istore 4, 2) := by decide +kernel
theorem dL_law_23 : decode cL_law 23 = .ok (.iload 4, 2) := by decide +kernel
theorem dL_law_25 : decode cL_law 25 = .ok (.aload_n 0, 1) := by decide +kernel
theorem dL_law_26 : decode cL_law 26 = .ok (.arraylength, 1) := by decide +kernel
theorem dL_law_27 : decode cL_law 27 = .ok (.iconst 5, 1) := by decide +kernel
theorem dL_law_28 : decode cL_law 28 = .ok (.isub, 1) := by decide +kernel
theorem dL_law_29 : decode cL_law 29 = .ok (.if_icmp .gt 1955, 3) := by decide +kernel
theorem dL_law_32 : decode cL_law 32 = .ok (.aload_n 0, 1) := by decide +kernel
theorem dL_law_33 : decode cL_law 33 = .ok (.iload 4, 2) := by decide +kernel
theorem dL_law_35 : decode cL_law 35 = .ok (.iaload, 1) := by decide +kernel
theorem dL_law_36 : decode cL_law 36 = .ok (.bipush 31, 2) := by decide +kernel
theorem dL_law_38 : decode cL_law 38 = .ok (.iand, 1) := by decide +kernel
theorem dL_law_39 : decode cL_law 39 = .ok (.tableswitch 1939 0 30 #[137, 193, 261, 341, 421, 513, 581, 649, 717, 773, 853, 933, 946, 1002, 1015, 1028, 1084, 1128, 1196, 1276, 1344, 1412, 1468, 1524, 1592, 1648, 1716, 1772, 1828, 1884, 1925], 137) := by decide +kernel
theorem dL_law_176 : decode cL_law 176 = .ok (.aload_n 1, 1) := by decide +kernel
theorem dL_law_177 : decode cL_law 177 = .ok (.aload_n 0, 1) := by decide +kernel
theorem dL_law_178 : decode cL_law 178 = .ok (.iload 4, 2) := by decide +kernel
theorem dL_law_180 : decode cL_law 180 = .ok (.iconst 1, 1) := by decide +kernel
theorem dL_law_181 : decode cL_law 181 = .ok (.iadd, 1) := by decide +kernel
theorem dL_law_182 : decode cL_law 182 = .ok (.iaload, 1) := by decide +kernel
theorem dL_law_183 : decode cL_law 183 = .ok (.aload_n 3, 1) := by decide +kernel
theorem dL_law_184 : decode cL_law 184 = .ok (.invokestatic 102, 3) := by decide +kernel
theorem dL_law_187 : decode cL_law 187 = .ok (.istore 5, 2) := by decide +kernel
theorem dL_law_189 : decode cL_law 189 = .ok (.aload_n 2, 1) := by decide +kernel
theorem dL_law_190 : decode cL_law 190 = .ok (.aload_n 0, 1) := by decide +kernel
theorem dL_law_191 : decode cL_law 191 = .ok (.iload 4, 2) := by decide +kernel
theorem dL_law_193 : decode cL_law 193 = .ok (.iconst 1, 1) := by decide +kernel
theorem dL_law_194 : decode cL_law 194 = .ok (.iadd, 1) := by decide +kernel
theorem dL_law_195 : decode cL_law 195 = .ok (.iaload, 1) := by decide +kernel
theorem dL_law_196 : decode cL_law 196 = .ok (.invokevirtual 107, 3) := by decide +kernel
theorem dL_law_199 : decode cL_law 199 = .ok (.istore 6, 2) := by decide +kernel
theorem dL_law_201 : decode cL_law 201 = .ok (.aload_n 2, 1) := by decide +kernel
theorem dL_law_202 : decode cL_law 202 = .ok (.invokevirtual 108, 3) := by decide +kernel
theorem dL_law_205 : decode cL_law 205 = .ok (.iload 5, 2) := by decide +kernel
theorem dL_law_207 : decode cL_law 207 = .ok (.if_icmp .eq 5, 3) := by decide +kernel
theorem dL_law_210 : decode cL_law 210 = .ok (.iconst 0, 1) := by decide +kernel
theorem dL_law_211 : decode cL_law 211 = .ok (.ireturn, 1) := by decide +kernel
theorem dL_law_212 : decode cL_law 212 = .ok (.iload 5, 2) := by decide +kernel
theorem dL_law_214 : decode cL_law 214 = .ok (.ifCond .ne 15, 3) := by decide +kernel
theorem dL_law_217 : decode cL_law 217 = .ok (.aload_n 3, 1) := by decide +kernel
theorem dL_law_218 : decode cL_law 218 = .ok (.iconst 0, 1) := by decide +kernel
theorem dL_law_219 : decode cL_law 219 = .ok (.laload, 1) := by decide +kernel
theorem dL_law_220 : decode cL_law 220 = .ok (.iload 6, 2) := by decide +kernel
theorem dL_law_222 : decode cL_law 222 = .ok (.i2l, 1) := by decide +kernel
theorem dL_law_223 : decode cL_law 223 = .ok (.lcmp, 1) := by decide +kernel
theorem dL_law_224 : decode cL_law 224 = .ok (.ifCond .eq 5, 3) := by decide +kernel
theorem dL_law_227 : decode cL_law 227 = .ok (.iconst 0, 1) := by decide +kernel
theorem dL_law_228 : decode cL_law 228 = .ok (.ireturn, 1) := by decide +kernel
theorem dL_law_229 : decode cL_law 229 = .ok (.goto 1749, 3) := by decide +kernel
theorem dL_law_232 : decode cL_law 232 = .ok (.aload_n 1, 1) := by decide +kernel
theorem dL_law_233 : decode cL_law 233 = .ok (.aload_n 0, 1) := by decide +kernel
theorem dL_law_234 : decode cL_law 234 = .ok (.iload 4, 2) := by decide +kernel
theorem dL_law_236 : decode cL_law 236 = .ok (.iconst 1, 1) := by decide +kernel
theorem dL_law_237 : decode cL_law 237 = .ok (.iadd, 1) := by decide +kernel
theorem dL_law_238 : decode cL_law 238 = .ok (.iaload, 1) := by decide +kernel
theorem dL_law_239 : decode cL_law 239 = .ok (.aload_n 0, 1) := by decide +kernel
theorem dL_law_240 : decode cL_law 240 = .ok (.iload 4, 2) := by decide +kernel
theorem dL_law_242 : decode cL_law 242 = .ok (.iconst 2, 1) := by decide +kernel
theorem dL_law_243 : decode cL_law 243 = .ok (.iadd, 1) := by decide +kernel
theorem dL_law_244 : decode cL_law 244 = .ok (.iaload, 1) := by decide +kernel
theorem dL_law_245 : decode cL_law 245 = .ok (.aload_n 3, 1) := by decide +kernel
theorem dL_law_246 : decode cL_law 246 = .ok (.invokestatic 111, 3) := by decide +kernel
theorem dL_law_249 : decode cL_law 249 = .ok (.istore 5, 2) := by decide +kernel
theorem dL_law_251 : decode cL_law 251 = .ok (.aload_n 2, 1) := by decide +kernel
theorem dL_law_252 : decode cL_law 252 = .ok (.aload_n 0, 1) := by decide +kernel
theorem dL_law_253 : decode cL_law 253 = .ok (.iload 4, 2) := by decide +kernel
theorem dL_law_255 : decode cL_law 255 = .ok (.iconst 1, 1) := by decide +kernel
theorem dL_law_256 : decode cL_law 256 = .ok (.iadd, 1) := by decide +kernel
theorem dL_law_257 : decode cL_law 257 = .ok (.iaload, 1) := by decide +kernel
theorem dL_law_258 : decode cL_law 258 = .ok (.aload_n 0, 1) := by decide +kernel
theorem dL_law_259 : decode cL_law 259 = .ok (.iload 4, 2) := by decide +kernel
theorem dL_law_261 : decode cL_law 261 = .ok (.iconst 2, 1) := by decide +kernel
theorem dL_law_262 : decode cL_law 262 = .ok (.iadd, 1) := by decide +kernel
theorem dL_law_263 : decode cL_law 263 = .ok (.iaload, 1) := by decide +kernel
theorem dL_law_264 : decode cL_law 264 = .ok (.invokevirtual 114, 3) := by decide +kernel
theorem dL_law_267 : decode cL_law 267 = .ok (.istore 6, 2) := by decide +kernel
theorem dL_law_269 : decode cL_law 269 = .ok (.aload_n 2, 1) := by decide +kernel
theorem dL_law_270 : decode cL_law 270 = .ok (.invokevirtual 108, 3) := by decide +kernel
theorem dL_law_273 : decode cL_law 273 = .ok (.iload 5, 2) := by decide +kernel
theorem dL_law_275 : decode cL_law 275 = .ok (.if_icmp .eq 5, 3) := by decide +kernel
theorem dL_law_278 : decode cL_law 278 = .ok (.iconst 0, 1) := by decide +kernel
theorem dL_law_279 : decode cL_law 279 = .ok (.ireturn, 1) := by decide +kernel
theorem dL_law_280 : decode cL_law 280 = .ok (.iload 5, 2) := by decide +kernel
theorem dL_law_282 : decode cL_law 282 = .ok (.ifCond .ne 15, 3) := by decide +kernel
theorem dL_law_285 : decode cL_law 285 = .ok (.aload_n 3, 1) := by decide +kernel
theorem dL_law_286 : decode cL_law 286 = .ok (.iconst 0, 1) := by decide +kernel
theorem dL_law_287 : decode cL_law 287 = .ok (.laload, 1) := by decide +kernel
theorem dL_law_288 : decode cL_law 288 = .ok (.iload 6, 2) := by decide +kernel
theorem dL_law_290 : decode cL_law 290 = .ok (.i2l, 1) := by decide +kernel
theorem dL_law_291 : decode cL_law 291 = .ok (.lcmp, 1) := by decide +kernel
theorem dL_law_292 : decode cL_law 292 = .ok (.ifCond .eq 5, 3) := by decide +kernel
theorem dL_law_295 : decode cL_law 295 = .ok (.iconst 0, 1) := by decide +kernel
theorem dL_law_296 : decode cL_law 296 = .ok (.ireturn, 1) := by decide +kernel
theorem dL_law_297 : decode cL_law 297 = .ok (.goto 1681, 3) := by decide +kernel
theorem dL_law_300 : decode cL_law 300 = .ok (.aload_n 1, 1) := by decide +kernel
theorem dL_law_301 : decode cL_law 301 = .ok (.aload_n 0, 1) := by decide +kernel
theorem dL_law_302 : decode cL_law 302 = .ok (.iload 4, 2) := by decide +kernel
theorem dL_law_304 : decode cL_law 304 = .ok (.iconst 1, 1) := by decide +kernel
theorem dL_law_305 : decode cL_law 305 = .ok (.iadd, 1) := by decide +kernel
theorem dL_law_306 : decode cL_law 306 = .ok (.iaload, 1) := by decide +kernel
theorem dL_law_307 : decode cL_law 307 = .ok (.aload_n 0, 1) := by decide +kernel
theorem dL_law_308 : decode cL_law 308 = .ok (.iload 4, 2) := by decide +kernel
theorem dL_law_310 : decode cL_law 310 = .ok (.iconst 2, 1) := by decide +kernel
theorem dL_law_311 : decode cL_law 311 = .ok (.iadd, 1) := by decide +kernel
theorem dL_law_312 : decode cL_law 312 = .ok (.iaload, 1) := by decide +kernel
theorem dL_law_313 : decode cL_law 313 = .ok (.aload_n 0, 1) := by decide +kernel
theorem dL_law_314 : decode cL_law 314 = .ok (.iload 4, 2) := by decide +kernel
theorem dL_law_316 : decode cL_law 316 = .ok (.iconst 3, 1) := by decide +kernel
theorem dL_law_317 : decode cL_law 317 = .ok (.iadd, 1) := by decide +kernel
theorem dL_law_318 : decode cL_law 318 = .ok (.iaload, 1) := by decide +kernel
theorem dL_law_319 : decode cL_law 319 = .ok (.aload_n 3, 1) := by decide +kernel
theorem dL_law_320 : decode cL_law 320 = .ok (.invokestatic 115, 3) := by decide +kernel
theorem dL_law_323 : decode cL_law 323 = .ok (.istore 5, 2) := by decide +kernel
theorem dL_law_325 : decode cL_law 325 = .ok (.aload_n 2, 1) := by decide +kernel
theorem dL_law_326 : decode cL_law 326 = .ok (.aload_n 0, 1) := by decide +kernel
theorem dL_law_327 : decode cL_law 327 = .ok (.iload 4, 2) := by decide +kernel
theorem dL_law_329 : decode cL_law 329 = .ok (.iconst 1, 1) := by decide +kernel
theorem dL_law_330 : decode cL_law 330 = .ok (.iadd, 1) := by decide +kernel
theorem dL_law_331 : decode cL_law 331 = .ok (.iaload, 1) := by decide +kernel
theorem dL_law_332 : decode cL_law 332 = .ok (.aload_n 0, 1) := by decide +kernel
theorem dL_law_333 : decode cL_law 333 = .ok (.iload 4, 2) := by decide +kernel
theorem dL_law_335 : decode cL_law 335 = .ok (.iconst 2, 1) := by decide +kernel
theorem dL_law_336 : decode cL_law 336 = .ok (.iadd, 1) := by decide +kernel
theorem dL_law_337 : decode cL_law 337 = .ok (.iaload, 1) := by decide +kernel
theorem dL_law_338 : decode cL_law 338 = .ok (.aload_n 0, 1) := by decide +kernel
theorem dL_law_339 : decode cL_law 339 = .ok (.iload 4, 2) := by decide +kernel
theorem dL_law_341 : decode cL_law 341 = .ok (.iconst 3, 1) := by decide +kernel
theorem dL_law_342 : decode cL_law 342 = .ok (.iadd, 1) := by decide +kernel
theorem dL_law_343 : decode cL_law 343 = .ok (.iaload, 1) := by decide +kernel
theorem dL_law_344 : decode cL_law 344 = .ok (.invokevirtual 118, 3) := by decide +kernel
theorem dL_law_347 : decode cL_law 347 = .ok (.istore 6, 2) := by decide +kernel
theorem dL_law_349 : decode cL_law 349 = .ok (.aload_n 2, 1) := by decide +kernel
theorem dL_law_350 : decode cL_law 350 = .ok (.invokevirtual 108, 3) := by decide +kernel
theorem dL_law_353 : decode cL_law 353 = .ok (.iload 5, 2) := by decide +kernel
theorem dL_law_355 : decode cL_law 355 = .ok (.if_icmp .eq 5, 3) := by decide +kernel
theorem dL_law_358 : decode cL_law 358 = .ok (.iconst 0, 1) := by decide +kernel
theorem dL_law_359 : decode cL_law 359 = .ok (.ireturn, 1) := by decide +kernel
theorem dL_law_360 : decode cL_law 360 = .ok (.iload 5, 2) := by decide +kernel
theorem dL_law_362 : decode cL_law 362 = .ok (.ifCond .ne 15, 3) := by decide +kernel
theorem dL_law_365 : decode cL_law 365 = .ok (.aload_n 3, 1) := by decide +kernel
theorem dL_law_366 : decode cL_law 366 = .ok (.iconst 0, 1) := by decide +kernel
theorem dL_law_367 : decode cL_law 367 = .ok (.laload, 1) := by decide +kernel
theorem dL_law_368 : decode cL_law 368 = .ok (.iload 6, 2) := by decide +kernel
theorem dL_law_370 : decode cL_law 370 = .ok (.i2l, 1) := by decide +kernel
theorem dL_law_371 : decode cL_law 371 = .ok (.lcmp, 1) := by decide +kernel
theorem dL_law_372 : decode cL_law 372 = .ok (.ifCond .eq 5, 3) := by decide +kernel
theorem dL_law_375 : decode cL_law 375 = .ok (.iconst 0, 1) := by decide +kernel
theorem dL_law_376 : decode cL_law 376 = .ok (.ireturn, 1) := by decide +kernel
theorem dL_law_377 : decode cL_law 377 = .ok (.goto 1601, 3) := by decide +kernel
theorem dL_law_380 : decode cL_law 380 = .ok (.aload_n 1, 1) := by decide +kernel
theorem dL_law_381 : decode cL_law 381 = .ok (.aload_n 0, 1) := by decide +kernel
theorem dL_law_382 : decode cL_law 382 = .ok (.iload 4, 2) := by decide +kernel
theorem dL_law_384 : decode cL_law 384 = .ok (.iconst 1, 1) := by decide +kernel
theorem dL_law_385 : decode cL_law 385 = .ok (.iadd, 1) := by decide +kernel
theorem dL_law_386 : decode cL_law 386 = .ok (.iaload, 1) := by decide +kernel
theorem dL_law_387 : decode cL_law 387 = .ok (.aload_n 0, 1) := by decide +kernel
theorem dL_law_388 : decode cL_law 388 = .ok (.iload 4, 2) := by decide +kernel
theorem dL_law_390 : decode cL_law 390 = .ok (.iconst 2, 1) := by decide +kernel
theorem dL_law_391 : decode cL_law 391 = .ok (.iadd, 1) := by decide +kernel
theorem dL_law_392 : decode cL_law 392 = .ok (.iaload, 1) := by decide +kernel
theorem dL_law_393 : decode cL_law 393 = .ok (.aload_n 0, 1) := by decide +kernel
theorem dL_law_394 : decode cL_law 394 = .ok (.iload 4, 2) := by decide +kernel
theorem dL_law_396 : decode cL_law 396 = .ok (.iconst 3, 1) := by decide +kernel
theorem dL_law_397 : decode cL_law 397 = .ok (.iadd, 1) := by decide +kernel
theorem dL_law_398 : decode cL_law 398 = .ok (.iaload, 1) := by decide +kernel
theorem dL_law_399 : decode cL_law 399 = .ok (.aload_n 3, 1) := by decide +kernel
theorem dL_law_400 : decode cL_law 400 = .ok (.invokestatic 119, 3) := by decide +kernel
theorem dL_law_403 : decode cL_law 403 = .ok (.istore 5, 2) := by decide +kernel
theorem dL_law_405 : decode cL_law 405 = .ok (.aload_n 2, 1) := by decide +kernel
theorem dL_law_406 : decode cL_law 406 = .ok (.aload_n 0, 1) := by decide +kernel
theorem dL_law_407 : decode cL_law 407 = .ok (.iload 4, 2) := by decide +kernel
theorem dL_law_409 : decode cL_law 409 = .ok (.iconst 1, 1) := by decide +kernel
theorem dL_law_410 : decode cL_law 410 = .ok (.iadd, 1) := by decide +kernel
theorem dL_law_411 : decode cL_law 411 = .ok (.iaload, 1) := by decide +kernel
theorem dL_law_412 : decode cL_law 412 = .ok (.aload_n 0, 1) := by decide +kernel
theorem dL_law_413 : decode cL_law 413 = .ok (.iload 4, 2) := by decide +kernel
theorem dL_law_415 : decode cL_law 415 = .ok (.iconst 2, 1) := by decide +kernel
theorem dL_law_416 : decode cL_law 416 = .ok (.iadd, 1) := by decide +kernel
theorem dL_law_417 : decode cL_law 417 = .ok (.iaload, 1) := by decide +kernel
theorem dL_law_418 : decode cL_law 418 = .ok (.aload_n 0, 1) := by decide +kernel
theorem dL_law_419 : decode cL_law 419 = .ok (.iload 4, 2) := by decide +kernel
theorem dL_law_421 : decode cL_law 421 = .ok (.iconst 3, 1) := by decide +kernel
theorem dL_law_422 : decode cL_law 422 = .ok (.iadd, 1) := by decide +kernel
theorem dL_law_423 : decode cL_law 423 = .ok (.iaload, 1) := by decide +kernel
theorem dL_law_424 : decode cL_law 424 = .ok (.invokevirtual 121, 3) := by decide +kernel
theorem dL_law_427 : decode cL_law 427 = .ok (.istore 6, 2) := by decide +kernel
theorem dL_law_429 : decode cL_law 429 = .ok (.aload_n 2, 1) := by decide +kernel
theorem dL_law_430 : decode cL_law 430 = .ok (.invokevirtual 108, 3) := by decide +kernel
theorem dL_law_433 : decode cL_law 433 = .ok (.iload 5, 2) := by decide +kernel
theorem dL_law_435 : decode cL_law 435 = .ok (.if_icmp .eq 5, 3) := by decide +kernel
theorem dL_law_438 : decode cL_law 438 = .ok (.iconst 0, 1) := by decide +kernel
theorem dL_law_439 : decode cL_law 439 = .ok (.ireturn, 1) := by decide +kernel
theorem dL_law_440 : decode cL_law 440 = .ok (.iload 5, 2) := by decide +kernel
theorem dL_law_442 : decode cL_law 442 = .ok (.ifCond .ne 15, 3) := by decide +kernel
theorem dL_law_445 : decode cL_law 445 = .ok (.aload_n 3, 1) := by decide +kernel
theorem dL_law_446 : decode cL_law 446 = .ok (.iconst 0, 1) := by decide +kernel
theorem dL_law_447 : decode cL_law 447 = .ok (.laload, 1) := by decide +kernel
theorem dL_law_448 : decode cL_law 448 = .ok (.iload 6, 2) := by decide +kernel
theorem dL_law_450 : decode cL_law 450 = .ok (.i2l, 1) := by decide +kernel
theorem dL_law_451 : decode cL_law 451 = .ok (.lcmp, 1) := by decide +kernel
theorem dL_law_452 : decode cL_law 452 = .ok (.ifCond .eq 5, 3) := by decide +kernel
theorem dL_law_455 : decode cL_law 455 = .ok (.iconst 0, 1) := by decide +kernel
theorem dL_law_456 : decode cL_law 456 = .ok (.ireturn, 1) := by decide +kernel
theorem dL_law_457 : decode cL_law 457 = .ok (.goto 1521, 3) := by decide +kernel
theorem dL_law_460 : decode cL_law 460 = .ok (.aload_n 1, 1) := by decide +kernel
theorem dL_law_461 : decode cL_law 461 = .ok (.aload_n 0, 1) := by decide +kernel
theorem dL_law_462 : decode cL_law 462 = .ok (.iload 4, 2) := by decide +kernel
theorem dL_law_464 : decode cL_law 464 = .ok (.iconst 1, 1) := by decide +kernel
theorem dL_law_465 : decode cL_law 465 = .ok (.iadd, 1) := by decide +kernel
theorem dL_law_466 : decode cL_law 466 = .ok (.iaload, 1) := by decide +kernel
theorem dL_law_467 : decode cL_law 467 = .ok (.aload_n 0, 1) := by decide +kernel
theorem dL_law_468 : decode cL_law 468 = .ok (.iload 4, 2) := by decide +kernel
theorem dL_law_470 : decode cL_law 470 = .ok (.iconst 2, 1) := by decide +kernel
theorem dL_law_471 : decode cL_law 471 = .ok (.iadd, 1) := by decide +kernel
theorem dL_law_472 : decode cL_law 472 = .ok (.iaload, 1) := by decide +kernel
theorem dL_law_473 : decode cL_law 473 = .ok (.aload_n 0, 1) := by decide +kernel
theorem dL_law_474 : decode cL_law 474 = .ok (.iload 4, 2) := by decide +kernel
theorem dL_law_476 : decode cL_law 476 = .ok (.iconst 3, 1) := by decide +kernel
theorem dL_law_477 : decode cL_law 477 = .ok (.iadd, 1) := by decide +kernel
theorem dL_law_478 : decode cL_law 478 = .ok (.iaload, 1) := by decide +kernel
theorem dL_law_479 : decode cL_law 479 = .ok (.aload_n 0, 1) := by decide +kernel
theorem dL_law_480 : decode cL_law 480 = .ok (.iload 4, 2) := by decide +kernel
theorem dL_law_482 : decode cL_law 482 = .ok (.iconst 4, 1) := by decide +kernel
theorem dL_law_483 : decode cL_law 483 = .ok (.iadd, 1) := by decide +kernel
theorem dL_law_484 : decode cL_law 484 = .ok (.iaload, 1) := by decide +kernel
theorem dL_law_485 : decode cL_law 485 = .ok (.aload_n 3, 1) := by decide +kernel
theorem dL_law_486 : decode cL_law 486 = .ok (.invokestatic 122, 3) := by decide +kernel
theorem dL_law_489 : decode cL_law 489 = .ok (.istore 5, 2) := by decide +kernel
theorem dL_law_491 : decode cL_law 491 = .ok (.aload_n 2, 1) := by decide +kernel
theorem dL_law_492 : decode cL_law 492 = .ok (.aload_n 0, 1) := by decide +kernel
theorem dL_law_493 : decode cL_law 493 = .ok (.iload 4, 2) := by decide +kernel
theorem dL_law_495 : decode cL_law 495 = .ok (.iconst 1, 1) := by decide +kernel
theorem dL_law_496 : decode cL_law 496 = .ok (.iadd, 1) := by decide +kernel
theorem dL_law_497 : decode cL_law 497 = .ok (.iaload, 1) := by decide +kernel
theorem dL_law_498 : decode cL_law 498 = .ok (.aload_n 0, 1) := by decide +kernel
theorem dL_law_499 : decode cL_law 499 = .ok (.iload 4, 2) := by decide +kernel
theorem dL_law_501 : decode cL_law 501 = .ok (.iconst 2, 1) := by decide +kernel
theorem dL_law_502 : decode cL_law 502 = .ok (.iadd, 1) := by decide +kernel
theorem dL_law_503 : decode cL_law 503 = .ok (.iaload, 1) := by decide +kernel
theorem dL_law_504 : decode cL_law 504 = .ok (.aload_n 0, 1) := by decide +kernel
theorem dL_law_505 : decode cL_law 505 = .ok (.iload 4, 2) := by decide +kernel
theorem dL_law_507 : decode cL_law 507 = .ok (.iconst 3, 1) := by decide +kernel
theorem dL_law_508 : decode cL_law 508 = .ok (.iadd, 1) := by decide +kernel
theorem dL_law_509 : decode cL_law 509 = .ok (.iaload, 1) := by decide +kernel
theorem dL_law_510 : decode cL_law 510 = .ok (.aload_n 0, 1) := by decide +kernel
theorem dL_law_511 : decode cL_law 511 = .ok (.iload 4, 2) := by decide +kernel
theorem dL_law_513 : decode cL_law 513 = .ok (.iconst 4, 1) := by decide +kernel
theorem dL_law_514 : decode cL_law 514 = .ok (.iadd, 1) := by decide +kernel
theorem dL_law_515 : decode cL_law 515 = .ok (.iaload, 1) := by decide +kernel
theorem dL_law_516 : decode cL_law 516 = .ok (.invokevirtual 125, 3) := by decide +kernel
theorem dL_law_519 : decode cL_law 519 = .ok (.istore 6, 2) := by decide +kernel
theorem dL_law_521 : decode cL_law 521 = .ok (.aload_n 2, 1) := by decide +kernel
theorem dL_law_522 : decode cL_law 522 = .ok (.invokevirtual 108, 3) := by decide +kernel
theorem dL_law_525 : decode cL_law 525 = .ok (.iload 5, 2) := by decide +kernel
theorem dL_law_527 : decode cL_law 527 = .ok (.if_icmp .eq 5, 3) := by decide +kernel
theorem dL_law_530 : decode cL_law 530 = .ok (.iconst 0, 1) := by decide +kernel
theorem dL_law_531 : decode cL_law 531 = .ok (.ireturn, 1) := by decide +kernel
theorem dL_law_532 : decode cL_law 532 = .ok (.iload 5, 2) := by decide +kernel
theorem dL_law_534 : decode cL_law 534 = .ok (.ifCond .ne 15, 3) := by decide +kernel
theorem dL_law_537 : decode cL_law 537 = .ok (.aload_n 3, 1) := by decide +kernel
theorem dL_law_538 : decode cL_law 538 = .ok (.iconst 0, 1) := by decide +kernel
theorem dL_law_539 : decode cL_law 539 = .ok (.laload, 1) := by decide +kernel
theorem dL_law_540 : decode cL_law 540 = .ok (.iload 6, 2) := by decide +kernel
theorem dL_law_542 : decode cL_law 542 = .ok (.i2l, 1) := by decide +kernel
theorem dL_law_543 : decode cL_law 543 = .ok (.lcmp, 1) := by decide +kernel
theorem dL_law_544 : decode cL_law 544 = .ok (.ifCond .eq 5, 3) := by decide +kernel
theorem dL_law_547 : decode cL_law 547 = .ok (.iconst 0, 1) := by decide +kernel
theorem dL_law_548 : decode cL_law 548 = .ok (.ireturn, 1) := by decide +kernel
theorem dL_law_549 : decode cL_law 549 = .ok (.goto 1429, 3) := by decide +kernel
theorem dL_law_552 : decode cL_law 552 = .ok (.aload_n 1, 1) := by decide +kernel
theorem dL_law_553 : decode cL_law 553 = .ok (.aload_n 0, 1) := by decide +kernel
theorem dL_law_554 : decode cL_law 554 = .ok (.iload 4, 2) := by decide +kernel
theorem dL_law_556 : decode cL_law 556 = .ok (.iconst 1, 1) := by decide +kernel
theorem dL_law_557 : decode cL_law 557 = .ok (.iadd, 1) := by decide +kernel
theorem dL_law_558 : decode cL_law 558 = .ok (.iaload, 1) := by decide +kernel
theorem dL_law_559 : decode cL_law 559 = .ok (.aload_n 0, 1) := by decide +kernel
theorem dL_law_560 : decode cL_law 560 = .ok (.iload 4, 2) := by decide +kernel
theorem dL_law_562 : decode cL_law 562 = .ok (.iconst 2, 1) := by decide +kernel
theorem dL_law_563 : decode cL_law 563 = .ok (.iadd, 1) := by decide +kernel
theorem dL_law_564 : decode cL_law 564 = .ok (.iaload, 1) := by decide +kernel
theorem dL_law_565 : decode cL_law 565 = .ok (.aload_n 3, 1) := by decide +kernel
theorem dL_law_566 : decode cL_law 566 = .ok (.invokestatic 126, 3) := by decide +kernel
theorem dL_law_569 : decode cL_law 569 = .ok (.istore 5, 2) := by decide +kernel
theorem dL_law_571 : decode cL_law 571 = .ok (.aload_n 2, 1) := by decide +kernel
theorem dL_law_572 : decode cL_law 572 = .ok (.aload_n 0, 1) := by decide +kernel
theorem dL_law_573 : decode cL_law 573 = .ok (.iload 4, 2) := by decide +kernel
theorem dL_law_575 : decode cL_law 575 = .ok (.iconst 1, 1) := by decide +kernel
theorem dL_law_576 : decode cL_law 576 = .ok (.iadd, 1) := by decide +kernel
theorem dL_law_577 : decode cL_law 577 = .ok (.iaload, 1) := by decide +kernel
theorem dL_law_578 : decode cL_law 578 = .ok (.aload_n 0, 1) := by decide +kernel
theorem dL_law_579 : decode cL_law 579 = .ok (.iload 4, 2) := by decide +kernel
theorem dL_law_581 : decode cL_law 581 = .ok (.iconst 2, 1) := by decide +kernel
theorem dL_law_582 : decode cL_law 582 = .ok (.iadd, 1) := by decide +kernel
theorem dL_law_583 : decode cL_law 583 = .ok (.iaload, 1) := by decide +kernel
theorem dL_law_584 : decode cL_law 584 = .ok (.invokevirtual 128, 3) := by decide +kernel
theorem dL_law_587 : decode cL_law 587 = .ok (.istore 6, 2) := by decide +kernel
theorem dL_law_589 : decode cL_law 589 = .ok (.aload_n 2, 1) := by decide +kernel
theorem dL_law_590 : decode cL_law 590 = .ok (.invokevirtual 108, 3) := by decide +kernel
theorem dL_law_593 : decode cL_law 593 = .ok (.iload 5, 2) := by decide +kernel
theorem dL_law_595 : decode cL_law 595 = .ok (.if_icmp .eq 5, 3) := by decide +kernel
theorem dL_law_598 : decode cL_law 598 = .ok (.iconst 0, 1) := by decide +kernel
theorem dL_law_599 : decode cL_law 599 = .ok (.ireturn, 1) := by decide +kernel
theorem dL_law_600 : decode cL_law 600 = .ok (.iload 5, 2) := by decide +kernel
theorem dL_law_602 : decode cL_law 602 = .ok (.ifCond .ne 15, 3) := by decide +kernel
theorem dL_law_605 : decode cL_law 605 = .ok (.aload_n 3, 1) := by decide +kernel
theorem dL_law_606 : decode cL_law 606 = .ok (.iconst 0, 1) := by decide +kernel
theorem dL_law_607 : decode cL_law 607 = .ok (.laload, 1) := by decide +kernel
theorem dL_law_608 : decode cL_law 608 = .ok (.iload 6, 2) := by decide +kernel
theorem dL_law_610 : decode cL_law 610 = .ok (.i2l, 1) := by decide +kernel
theorem dL_law_611 : decode cL_law 611 = .ok (.lcmp, 1) := by decide +kernel
theorem dL_law_612 : decode cL_law 612 = .ok (.ifCond .eq 5, 3) := by decide +kernel
theorem dL_law_615 : decode cL_law 615 = .ok (.iconst 0, 1) := by decide +kernel
theorem dL_law_616 : decode cL_law 616 = .ok (.ireturn, 1) := by decide +kernel
theorem dL_law_617 : decode cL_law 617 = .ok (.goto 1361, 3) := by decide +kernel
theorem dL_law_620 : decode cL_law 620 = .ok (.aload_n 1, 1) := by decide +kernel
theorem dL_law_621 : decode cL_law 621 = .ok (.aload_n 0, 1) := by decide +kernel
theorem dL_law_622 : decode cL_law 622 = .ok (.iload 4, 2) := by decide +kernel
theorem dL_law_624 : decode cL_law 624 = .ok (.iconst 1, 1) := by decide +kernel
theorem dL_law_625 : decode cL_law 625 = .ok (.iadd, 1) := by decide +kernel
theorem dL_law_626 : decode cL_law 626 = .ok (.iaload, 1) := by decide +kernel
theorem dL_law_627 : decode cL_law 627 = .ok (.aload_n 0, 1) := by decide +kernel
theorem dL_law_628 : decode cL_law 628 = .ok (.iload 4, 2) := by decide +kernel
theorem dL_law_630 : decode cL_law 630 = .ok (.iconst 2, 1) := by decide +kernel
theorem dL_law_631 : decode cL_law 631 = .ok (.iadd, 1) := by decide +kernel
theorem dL_law_632 : decode cL_law 632 = .ok (.iaload, 1) := by decide +kernel
theorem dL_law_633 : decode cL_law 633 = .ok (.aload_n 3, 1) := by decide +kernel
theorem dL_law_634 : decode cL_law 634 = .ok (.invokestatic 129, 3) := by decide +kernel
theorem dL_law_637 : decode cL_law 637 = .ok (.istore 5, 2) := by decide +kernel
theorem dL_law_639 : decode cL_law 639 = .ok (.aload_n 2, 1) := by decide +kernel
theorem dL_law_640 : decode cL_law 640 = .ok (.aload_n 0, 1) := by decide +kernel
theorem dL_law_641 : decode cL_law 641 = .ok (.iload 4, 2) := by decide +kernel
theorem dL_law_643 : decode cL_law 643 = .ok (.iconst 1, 1) := by decide +kernel
theorem dL_law_644 : decode cL_law 644 = .ok (.iadd, 1) := by decide +kernel
theorem dL_law_645 : decode cL_law 645 = .ok (.iaload, 1) := by decide +kernel
theorem dL_law_646 : decode cL_law 646 = .ok (.aload_n 0, 1) := by decide +kernel
theorem dL_law_647 : decode cL_law 647 = .ok (.iload 4, 2) := by decide +kernel
theorem dL_law_649 : decode cL_law 649 = .ok (.iconst 2, 1) := by decide +kernel
theorem dL_law_650 : decode cL_law 650 = .ok (.iadd, 1) := by decide +kernel
theorem dL_law_651 : decode cL_law 651 = .ok (.iaload, 1) := by decide +kernel
theorem dL_law_652 : decode cL_law 652 = .ok (.invokevirtual 131, 3) := by decide +kernel
theorem dL_law_655 : decode cL_law 655 = .ok (.istore 6, 2) := by decide +kernel
theorem dL_law_657 : decode cL_law 657 = .ok (.aload_n 2, 1) := by decide +kernel
theorem dL_law_658 : decode cL_law 658 = .ok (.invokevirtual 108, 3) := by decide +kernel
theorem dL_law_661 : decode cL_law 661 = .ok (.iload 5, 2) := by decide +kernel
theorem dL_law_663 : decode cL_law 663 = .ok (.if_icmp .eq 5, 3) := by decide +kernel
theorem dL_law_666 : decode cL_law 666 = .ok (.iconst 0, 1) := by decide +kernel
theorem dL_law_667 : decode cL_law 667 = .ok (.ireturn, 1) := by decide +kernel
theorem dL_law_668 : decode cL_law 668 = .ok (.iload 5, 2) := by decide +kernel
theorem dL_law_670 : decode cL_law 670 = .ok (.ifCond .ne 15, 3) := by decide +kernel
theorem dL_law_673 : decode cL_law 673 = .ok (.aload_n 3, 1) := by decide +kernel
theorem dL_law_674 : decode cL_law 674 = .ok (.iconst 0, 1) := by decide +kernel
theorem dL_law_675 : decode cL_law 675 = .ok (.laload, 1) := by decide +kernel
theorem dL_law_676 : decode cL_law 676 = .ok (.iload 6, 2) := by decide +kernel
theorem dL_law_678 : decode cL_law 678 = .ok (.i2l, 1) := by decide +kernel
theorem dL_law_679 : decode cL_law 679 = .ok (.lcmp, 1) := by decide +kernel
theorem dL_law_680 : decode cL_law 680 = .ok (.ifCond .eq 5, 3) := by decide +kernel
theorem dL_law_683 : decode cL_law 683 = .ok (.iconst 0, 1) := by decide +kernel
theorem dL_law_684 : decode cL_law 684 = .ok (.ireturn, 1) := by decide +kernel
theorem dL_law_685 : decode cL_law 685 = .ok (.goto 1293, 3) := by decide +kernel
theorem dL_law_688 : decode cL_law 688 = .ok (.aload_n 1, 1) := by decide +kernel
theorem dL_law_689 : decode cL_law 689 = .ok (.aload_n 0, 1) := by decide +kernel
theorem dL_law_690 : decode cL_law 690 = .ok (.iload 4, 2) := by decide +kernel
theorem dL_law_692 : decode cL_law 692 = .ok (.iconst 1, 1) := by decide +kernel
theorem dL_law_693 : decode cL_law 693 = .ok (.iadd, 1) := by decide +kernel
theorem dL_law_694 : decode cL_law 694 = .ok (.iaload, 1) := by decide +kernel
theorem dL_law_695 : decode cL_law 695 = .ok (.aload_n 0, 1) := by decide +kernel
theorem dL_law_696 : decode cL_law 696 = .ok (.iload 4, 2) := by decide +kernel
theorem dL_law_698 : decode cL_law 698 = .ok (.iconst 2, 1) := by decide +kernel
theorem dL_law_699 : decode cL_law 699 = .ok (.iadd, 1) := by decide +kernel
theorem dL_law_700 : decode cL_law 700 = .ok (.iaload, 1) := by decide +kernel
theorem dL_law_701 : decode cL_law 701 = .ok (.aload_n 3, 1) := by decide +kernel
theorem dL_law_702 : decode cL_law 702 = .ok (.invokestatic 132, 3) := by decide +kernel
theorem dL_law_705 : decode cL_law 705 = .ok (.istore 5, 2) := by decide +kernel
theorem dL_law_707 : decode cL_law 707 = .ok (.aload_n 2, 1) := by decide +kernel
theorem dL_law_708 : decode cL_law 708 = .ok (.aload_n 0, 1) := by decide +kernel
theorem dL_law_709 : decode cL_law 709 = .ok (.iload 4, 2) := by decide +kernel
theorem dL_law_711 : decode cL_law 711 = .ok (.iconst 1, 1) := by decide +kernel
theorem dL_law_712 : decode cL_law 712 = .ok (.iadd, 1) := by decide +kernel
theorem dL_law_713 : decode cL_law 713 = .ok (.iaload, 1) := by decide +kernel
theorem dL_law_714 : decode cL_law 714 = .ok (.aload_n 0, 1) := by decide +kernel
theorem dL_law_715 : decode cL_law 715 = .ok (.iload 4, 2) := by decide +kernel
theorem dL_law_717 : decode cL_law 717 = .ok (.iconst 2, 1) := by decide +kernel
theorem dL_law_718 : decode cL_law 718 = .ok (.iadd, 1) := by decide +kernel
theorem dL_law_719 : decode cL_law 719 = .ok (.iaload, 1) := by decide +kernel
theorem dL_law_720 : decode cL_law 720 = .ok (.invokevirtual 134, 3) := by decide +kernel
theorem dL_law_723 : decode cL_law 723 = .ok (.istore 6, 2) := by decide +kernel
theorem dL_law_725 : decode cL_law 725 = .ok (.aload_n 2, 1) := by decide +kernel
theorem dL_law_726 : decode cL_law 726 = .ok (.invokevirtual 108, 3) := by decide +kernel
theorem dL_law_729 : decode cL_law 729 = .ok (.iload 5, 2) := by decide +kernel
theorem dL_law_731 : decode cL_law 731 = .ok (.if_icmp .eq 5, 3) := by decide +kernel
theorem dL_law_734 : decode cL_law 734 = .ok (.iconst 0, 1) := by decide +kernel
theorem dL_law_735 : decode cL_law 735 = .ok (.ireturn, 1) := by decide +kernel
theorem dL_law_736 : decode cL_law 736 = .ok (.iload 5, 2) := by decide +kernel
theorem dL_law_738 : decode cL_law 738 = .ok (.ifCond .ne 15, 3) := by decide +kernel
theorem dL_law_741 : decode cL_law 741 = .ok (.aload_n 3, 1) := by decide +kernel
theorem dL_law_742 : decode cL_law 742 = .ok (.iconst 0, 1) := by decide +kernel
theorem dL_law_743 : decode cL_law 743 = .ok (.laload, 1) := by decide +kernel
theorem dL_law_744 : decode cL_law 744 = .ok (.iload 6, 2) := by decide +kernel
theorem dL_law_746 : decode cL_law 746 = .ok (.i2l, 1) := by decide +kernel
theorem dL_law_747 : decode cL_law 747 = .ok (.lcmp, 1) := by decide +kernel
theorem dL_law_748 : decode cL_law 748 = .ok (.ifCond .eq 5, 3) := by decide +kernel
theorem dL_law_751 : decode cL_law 751 = .ok (.iconst 0, 1) := by decide +kernel
theorem dL_law_752 : decode cL_law 752 = .ok (.ireturn, 1) := by decide +kernel
theorem dL_law_753 : decode cL_law 753 = .ok (.goto 1225, 3) := by decide +kernel
theorem dL_law_756 : decode cL_law 756 = .ok (.aload_n 1, 1) := by decide +kernel
theorem dL_law_757 : decode cL_law 757 = .ok (.aload_n 0, 1) := by decide +kernel
theorem dL_law_758 : decode cL_law 758 = .ok (.iload 4, 2) := by decide +kernel
theorem dL_law_760 : decode cL_law 760 = .ok (.iconst 1, 1) := by decide +kernel
theorem dL_law_761 : decode cL_law 761 = .ok (.iadd, 1) := by decide +kernel
theorem dL_law_762 : decode cL_law 762 = .ok (.iaload, 1) := by decide +kernel
theorem dL_law_763 : decode cL_law 763 = .ok (.aload_n 3, 1) := by decide +kernel
theorem dL_law_764 : decode cL_law 764 = .ok (.invokestatic 135, 3) := by decide +kernel
theorem dL_law_767 : decode cL_law 767 = .ok (.istore 5, 2) := by decide +kernel
theorem dL_law_769 : decode cL_law 769 = .ok (.aload_n 2, 1) := by decide +kernel
theorem dL_law_770 : decode cL_law 770 = .ok (.aload_n 0, 1) := by decide +kernel
theorem dL_law_771 : decode cL_law 771 = .ok (.iload 4, 2) := by decide +kernel
theorem dL_law_773 : decode cL_law 773 = .ok (.iconst 1, 1) := by decide +kernel
theorem dL_law_774 : decode cL_law 774 = .ok (.iadd, 1) := by decide +kernel
theorem dL_law_775 : decode cL_law 775 = .ok (.iaload, 1) := by decide +kernel
theorem dL_law_776 : decode cL_law 776 = .ok (.invokevirtual 137, 3) := by decide +kernel
theorem dL_law_779 : decode cL_law 779 = .ok (.istore 6, 2) := by decide +kernel
theorem dL_law_781 : decode cL_law 781 = .ok (.aload_n 2, 1) := by decide +kernel
theorem dL_law_782 : decode cL_law 782 = .ok (.invokevirtual 108, 3) := by decide +kernel
theorem dL_law_785 : decode cL_law 785 = .ok (.iload 5, 2) := by decide +kernel
theorem dL_law_787 : decode cL_law 787 = .ok (.if_icmp .eq 5, 3) := by decide +kernel
theorem dL_law_790 : decode cL_law 790 = .ok (.iconst 0, 1) := by decide +kernel
theorem dL_law_791 : decode cL_law 791 = .ok (.ireturn, 1) := by decide +kernel
theorem dL_law_792 : decode cL_law 792 = .ok (.iload 5, 2) := by decide +kernel
theorem dL_law_794 : decode cL_law 794 = .ok (.ifCond .ne 15, 3) := by decide +kernel
theorem dL_law_797 : decode cL_law 797 = .ok (.aload_n 3, 1) := by decide +kernel
theorem dL_law_798 : decode cL_law 798 = .ok (.iconst 0, 1) := by decide +kernel
theorem dL_law_799 : decode cL_law 799 = .ok (.laload, 1) := by decide +kernel
theorem dL_law_800 : decode cL_law 800 = .ok (.iload 6, 2) := by decide +kernel
theorem dL_law_802 : decode cL_law 802 = .ok (.i2l, 1) := by decide +kernel
theorem dL_law_803 : decode cL_law 803 = .ok (.lcmp, 1) := by decide +kernel
theorem dL_law_804 : decode cL_law 804 = .ok (.ifCond .eq 5, 3) := by decide +kernel
theorem dL_law_807 : decode cL_law 807 = .ok (.iconst 0, 1) := by decide +kernel
theorem dL_law_808 : decode cL_law 808 = .ok (.ireturn, 1) := by decide +kernel
theorem dL_law_809 : decode cL_law 809 = .ok (.goto 1169, 3) := by decide +kernel
theorem dL_law_812 : decode cL_law 812 = .ok (.aload_n 1, 1) := by decide +kernel
theorem dL_law_813 : decode cL_law 813 = .ok (.aload_n 0, 1) := by decide +kernel
theorem dL_law_814 : decode cL_law 814 = .ok (.iload 4, 2) := by decide +kernel
theorem dL_law_816 : decode cL_law 816 = .ok (.iconst 1, 1) := by decide +kernel
theorem dL_law_817 : decode cL_law 817 = .ok (.iadd, 1) := by decide +kernel
theorem dL_law_818 : decode cL_law 818 = .ok (.iaload, 1) := by decide +kernel
theorem dL_law_819 : decode cL_law 819 = .ok (.aload_n 0, 1) := by decide +kernel
theorem dL_law_820 : decode cL_law 820 = .ok (.iload 4, 2) := by decide +kernel
theorem dL_law_822 : decode cL_law 822 = .ok (.iconst 2, 1) := by decide +kernel
theorem dL_law_823 : decode cL_law 823 = .ok (.iadd, 1) := by decide +kernel
theorem dL_law_824 : decode cL_law 824 = .ok (.iaload, 1) := by decide +kernel
theorem dL_law_825 : decode cL_law 825 = .ok (.aload_n 0, 1) := by decide +kernel
theorem dL_law_826 : decode cL_law 826 = .ok (.iload 4, 2) := by decide +kernel
theorem dL_law_828 : decode cL_law 828 = .ok (.iconst 3, 1) := by decide +kernel
theorem dL_law_829 : decode cL_law 829 = .ok (.iadd, 1) := by decide +kernel
theorem dL_law_830 : decode cL_law 830 = .ok (.iaload, 1) := by decide +kernel
theorem dL_law_831 : decode cL_law 831 = .ok (.aload_n 3, 1) := by decide +kernel
theorem dL_law_832 : decode cL_law 832 = .ok (.invokestatic 138, 3) := by decide +kernel
theorem dL_law_835 : decode cL_law 835 = .ok (.istore 5, 2) := by decide +kernel
theorem dL_law_837 : decode cL_law 837 = .ok (.aload_n 2, 1) := by decide +kernel
theorem dL_law_838 : decode cL_law 838 = .ok (.aload_n 0, 1) := by decide +kernel
theorem dL_law_839 : decode cL_law 839 = .ok (.iload 4, 2) := by decide +kernel
theorem dL_law_841 : decode cL_law 841 = .ok (.iconst 1, 1) := by decide +kernel
theorem dL_law_842 : decode cL_law 842 = .ok (.iadd, 1) := by decide +kernel
theorem dL_law_843 : decode cL_law 843 = .ok (.iaload, 1) := by decide +kernel
theorem dL_law_844 : decode cL_law 844 = .ok (.aload_n 0, 1) := by decide +kernel
theorem dL_law_845 : decode cL_law 845 = .ok (.iload 4, 2) := by decide +kernel
theorem dL_law_847 : decode cL_law 847 = .ok (.iconst 2, 1) := by decide +kernel
theorem dL_law_848 : decode cL_law 848 = .ok (.iadd, 1) := by decide +kernel
theorem dL_law_849 : decode cL_law 849 = .ok (.iaload, 1) := by decide +kernel
theorem dL_law_850 : decode cL_law 850 = .ok (.aload_n 0, 1) := by decide +kernel
theorem dL_law_851 : decode cL_law 851 = .ok (.iload 4, 2) := by decide +kernel
theorem dL_law_853 : decode cL_law 853 = .ok (.iconst 3, 1) := by decide +kernel
theorem dL_law_854 : decode cL_law 854 = .ok (.iadd, 1) := by decide +kernel
theorem dL_law_855 : decode cL_law 855 = .ok (.iaload, 1) := by decide +kernel
theorem dL_law_856 : decode cL_law 856 = .ok (.invokevirtual 140, 3) := by decide +kernel
theorem dL_law_859 : decode cL_law 859 = .ok (.istore 6, 2) := by decide +kernel
theorem dL_law_861 : decode cL_law 861 = .ok (.aload_n 2, 1) := by decide +kernel
theorem dL_law_862 : decode cL_law 862 = .ok (.invokevirtual 108, 3) := by decide +kernel
theorem dL_law_865 : decode cL_law 865 = .ok (.iload 5, 2) := by decide +kernel
theorem dL_law_867 : decode cL_law 867 = .ok (.if_icmp .eq 5, 3) := by decide +kernel
theorem dL_law_870 : decode cL_law 870 = .ok (.iconst 0, 1) := by decide +kernel
theorem dL_law_871 : decode cL_law 871 = .ok (.ireturn, 1) := by decide +kernel
theorem dL_law_872 : decode cL_law 872 = .ok (.iload 5, 2) := by decide +kernel
theorem dL_law_874 : decode cL_law 874 = .ok (.ifCond .ne 15, 3) := by decide +kernel
theorem dL_law_877 : decode cL_law 877 = .ok (.aload_n 3, 1) := by decide +kernel
theorem dL_law_878 : decode cL_law 878 = .ok (.iconst 0, 1) := by decide +kernel
theorem dL_law_879 : decode cL_law 879 = .ok (.laload, 1) := by decide +kernel
theorem dL_law_880 : decode cL_law 880 = .ok (.iload 6, 2) := by decide +kernel
theorem dL_law_882 : decode cL_law 882 = .ok (.i2l, 1) := by decide +kernel
theorem dL_law_883 : decode cL_law 883 = .ok (.lcmp, 1) := by decide +kernel
theorem dL_law_884 : decode cL_law 884 = .ok (.ifCond .eq 5, 3) := by decide +kernel
theorem dL_law_887 : decode cL_law 887 = .ok (.iconst 0, 1) := by decide +kernel
theorem dL_law_888 : decode cL_law 888 = .ok (.ireturn, 1) := by decide +kernel
theorem dL_law_889 : decode cL_law 889 = .ok (.goto 1089, 3) := by decide +kernel
theorem dL_law_892 : decode cL_law 892 = .ok (.aload_n 1, 1) := by decide +kernel
theorem dL_law_893 : decode cL_law 893 = .ok (.aload_n 0, 1) := by decide +kernel
theorem dL_law_894 : decode cL_law 894 = .ok (.iload 4, 2) := by decide +kernel
theorem dL_law_896 : decode cL_law 896 = .ok (.iconst 1, 1) := by decide +kernel
theorem dL_law_897 : decode cL_law 897 = .ok (.iadd, 1) := by decide +kernel
theorem dL_law_898 : decode cL_law 898 = .ok (.iaload, 1) := by decide +kernel
theorem dL_law_899 : decode cL_law 899 = .ok (.aload_n 0, 1) := by decide +kernel
theorem dL_law_900 : decode cL_law 900 = .ok (.iload 4, 2) := by decide +kernel
theorem dL_law_902 : decode cL_law 902 = .ok (.iconst 2, 1) := by decide +kernel
theorem dL_law_903 : decode cL_law 903 = .ok (.iadd, 1) := by decide +kernel
theorem dL_law_904 : decode cL_law 904 = .ok (.iaload, 1) := by decide +kernel
theorem dL_law_905 : decode cL_law 905 = .ok (.aload_n 0, 1) := by decide +kernel
theorem dL_law_906 : decode cL_law 906 = .ok (.iload 4, 2) := by decide +kernel
theorem dL_law_908 : decode cL_law 908 = .ok (.iconst 3, 1) := by decide +kernel
theorem dL_law_909 : decode cL_law 909 = .ok (.iadd, 1) := by decide +kernel
theorem dL_law_910 : decode cL_law 910 = .ok (.iaload, 1) := by decide +kernel
theorem dL_law_911 : decode cL_law 911 = .ok (.aload_n 3, 1) := by decide +kernel
theorem dL_law_912 : decode cL_law 912 = .ok (.invokestatic 141, 3) := by decide +kernel
theorem dL_law_915 : decode cL_law 915 = .ok (.istore 5, 2) := by decide +kernel
theorem dL_law_917 : decode cL_law 917 = .ok (.aload_n 2, 1) := by decide +kernel
theorem dL_law_918 : decode cL_law 918 = .ok (.aload_n 0, 1) := by decide +kernel
theorem dL_law_919 : decode cL_law 919 = .ok (.iload 4, 2) := by decide +kernel
theorem dL_law_921 : decode cL_law 921 = .ok (.iconst 1, 1) := by decide +kernel
theorem dL_law_922 : decode cL_law 922 = .ok (.iadd, 1) := by decide +kernel
theorem dL_law_923 : decode cL_law 923 = .ok (.iaload, 1) := by decide +kernel
theorem dL_law_924 : decode cL_law 924 = .ok (.aload_n 0, 1) := by decide +kernel
theorem dL_law_925 : decode cL_law 925 = .ok (.iload 4, 2) := by decide +kernel
theorem dL_law_927 : decode cL_law 927 = .ok (.iconst 2, 1) := by decide +kernel
theorem dL_law_928 : decode cL_law 928 = .ok (.iadd, 1) := by decide +kernel
theorem dL_law_929 : decode cL_law 929 = .ok (.iaload, 1) := by decide +kernel
theorem dL_law_930 : decode cL_law 930 = .ok (.aload_n 0, 1) := by decide +kernel
theorem dL_law_931 : decode cL_law 931 = .ok (.iload 4, 2) := by decide +kernel
theorem dL_law_933 : decode cL_law 933 = .ok (.iconst 3, 1) := by decide +kernel
theorem dL_law_934 : decode cL_law 934 = .ok (.iadd, 1) := by decide +kernel
theorem dL_law_935 : decode cL_law 935 = .ok (.iaload, 1) := by decide +kernel
theorem dL_law_936 : decode cL_law 936 = .ok (.invokevirtual 143, 3) := by decide +kernel
theorem dL_law_939 : decode cL_law 939 = .ok (.istore 6, 2) := by decide +kernel
theorem dL_law_941 : decode cL_law 941 = .ok (.aload_n 2, 1) := by decide +kernel
theorem dL_law_942 : decode cL_law 942 = .ok (.invokevirtual 108, 3) := by decide +kernel
theorem dL_law_945 : decode cL_law 945 = .ok (.iload 5, 2) := by decide +kernel
theorem dL_law_947 : decode cL_law 947 = .ok (.if_icmp .eq 5, 3) := by decide +kernel
theorem dL_law_950 : decode cL_law 950 = .ok (.iconst 0, 1) := by decide +kernel
theorem dL_law_951 : decode cL_law 951 = .ok (.ireturn, 1) := by decide +kernel
theorem dL_law_952 : decode cL_law 952 = .ok (.iload 5, 2) := by decide +kernel
theorem dL_law_954 : decode cL_law 954 = .ok (.ifCond .ne 15, 3) := by decide +kernel
theorem dL_law_957 : decode cL_law 957 = .ok (.aload_n 3, 1) := by decide +kernel
theorem dL_law_958 : decode cL_law 958 = .ok (.iconst 0, 1) := by decide +kernel
theorem dL_law_959 : decode cL_law 959 = .ok (.laload, 1) := by decide +kernel
theorem dL_law_960 : decode cL_law 960 = .ok (.iload 6, 2) := by decide +kernel
theorem dL_law_962 : decode cL_law 962 = .ok (.i2l, 1) := by decide +kernel
theorem dL_law_963 : decode cL_law 963 = .ok (.lcmp, 1) := by decide +kernel
theorem dL_law_964 : decode cL_law 964 = .ok (.ifCond .eq 5, 3) := by decide +kernel
theorem dL_law_967 : decode cL_law 967 = .ok (.iconst 0, 1) := by decide +kernel
theorem dL_law_968 : decode cL_law 968 = .ok (.ireturn, 1) := by decide +kernel
theorem dL_law_969 : decode cL_law 969 = .ok (.goto 1009, 3) := by decide +kernel
theorem dL_law_972 : decode cL_law 972 = .ok (.aload_n 1, 1) := by decide +kernel
theorem dL_law_973 : decode cL_law 973 = .ok (.invokevirtual 144, 3) := by decide +kernel
theorem dL_law_976 : decode cL_law 976 = .ok (.aload_n 2, 1) := by decide +kernel
theorem dL_law_977 : decode cL_law 977 = .ok (.invokevirtual 147, 3) := by decide +kernel
theorem dL_law_980 : decode cL_law 980 = .ok (.if_icmp .eq 998, 3) := by decide +kernel
theorem dL_law_983 : decode cL_law 983 = .ok (.iconst 0, 1) := by decide +kernel
theorem dL_law_984 : decode cL_law 984 = .ok (.ireturn, 1) := by decide +kernel
theorem dL_law_985 : decode cL_law 985 = .ok (.aload_n 1, 1) := by decide +kernel
theorem dL_law_986 : decode cL_law 986 = .ok (.aload_n 0, 1) := by decide +kernel
theorem dL_law_987 : decode cL_law 987 = .ok (.iload 4, 2) := by decide +kernel
theorem dL_law_989 : decode cL_law 989 = .ok (.iconst 1, 1) := by decide +kernel
theorem dL_law_990 : decode cL_law 990 = .ok (.iadd, 1) := by decide +kernel
theorem dL_law_991 : decode cL_law 991 = .ok (.iaload, 1) := by decide +kernel
theorem dL_law_992 : decode cL_law 992 = .ok (.aload_n 3, 1) := by decide +kernel
theorem dL_law_993 : decode cL_law 993 = .ok (.invokestatic 148, 3) := by decide +kernel
theorem dL_law_996 : decode cL_law 996 = .ok (.istore 5, 2) := by decide +kernel
theorem dL_law_998 : decode cL_law 998 = .ok (.aload_n 2, 1) := by decide +kernel
theorem dL_law_999 : decode cL_law 999 = .ok (.aload_n 0, 1) := by decide +kernel
theorem dL_law_1000 : decode cL_law 1000 = .ok (.iload 4, 2) := by decide +kernel
theorem dL_law_1002 : decode cL_law 1002 = .ok (.iconst 1, 1) := by decide +kernel
theorem dL_law_1003 : decode cL_law 1003 = .ok (.iadd, 1) := by decide +kernel
theorem dL_law_1004 : decode cL_law 1004 = .ok (.iaload, 1) := by decide +kernel
theorem dL_law_1005 : decode cL_law 1005 = .ok (.invokevirtual 150, 3) := by decide +kernel
theorem dL_law_1008 : decode cL_law 1008 = .ok (.istore 6, 2) := by decide +kernel
theorem dL_law_1010 : decode cL_law 1010 = .ok (.aload_n 2, 1) := by decide +kernel
theorem dL_law_1011 : decode cL_law 1011 = .ok (.invokevirtual 108, 3) := by decide +kernel
theorem dL_law_1014 : decode cL_law 1014 = .ok (.iload 5, 2) := by decide +kernel
theorem dL_law_1016 : decode cL_law 1016 = .ok (.if_icmp .eq 5, 3) := by decide +kernel
theorem dL_law_1019 : decode cL_law 1019 = .ok (.iconst 0, 1) := by decide +kernel
theorem dL_law_1020 : decode cL_law 1020 = .ok (.ireturn, 1) := by decide +kernel
theorem dL_law_1021 : decode cL_law 1021 = .ok (.iload 5, 2) := by decide +kernel
theorem dL_law_1023 : decode cL_law 1023 = .ok (.ifCond .ne 15, 3) := by decide +kernel
theorem dL_law_1026 : decode cL_law 1026 = .ok (.aload_n 3, 1) := by decide +kernel
theorem dL_law_1027 : decode cL_law 1027 = .ok (.iconst 0, 1) := by decide +kernel
theorem dL_law_1028 : decode cL_law 1028 = .ok (.laload, 1) := by decide +kernel
theorem dL_law_1029 : decode cL_law 1029 = .ok (.iload 6, 2) := by decide +kernel
theorem dL_law_1031 : decode cL_law 1031 = .ok (.i2l, 1) := by decide +kernel
theorem dL_law_1032 : decode cL_law 1032 = .ok (.lcmp, 1) := by decide +kernel
theorem dL_law_1033 : decode cL_law 1033 = .ok (.ifCond .eq 5, 3) := by decide +kernel
theorem dL_law_1036 : decode cL_law 1036 = .ok (.iconst 0, 1) := by decide +kernel
theorem dL_law_1037 : decode cL_law 1037 = .ok (.ireturn, 1) := by decide +kernel
theorem dL_law_1038 : decode cL_law 1038 = .ok (.goto 940, 3) := by decide +kernel
theorem dL_law_1041 : decode cL_law 1041 = .ok (.aload_n 1, 1) := by decide +kernel
theorem dL_law_1042 : decode cL_law 1042 = .ok (.invokevirtual 151, 3) := by decide +kernel
theorem dL_law_1045 : decode cL_law 1045 = .ok (.aload_n 2, 1) := by decide +kernel
theorem dL_law_1046 : decode cL_law 1046 = .ok (.invokevirtual 154, 3) := by decide +kernel
theorem dL_law_1049 : decode cL_law 1049 = .ok (.if_icmp .eq 929, 3) := by decide +kernel
theorem dL_law_1052 : decode cL_law 1052 = .ok (.iconst 0, 1) := by decide +kernel
theorem dL_law_1053 : decode cL_law 1053 = .ok (.ireturn, 1) := by decide +kernel
theorem dL_law_1054 : decode cL_law 1054 = .ok (.aload_n 1, 1) := by decide +kernel
theorem dL_law_1055 : decode cL_law 1055 = .ok (.invokevirtual 155, 3) := by decide +kernel
theorem dL_law_1058 : decode cL_law 1058 = .ok (.aload_n 2, 1) := by decide +kernel
theorem dL_law_1059 : decode cL_law 1059 = .ok (.invokevirtual 158, 3) := by decide +kernel
theorem dL_law_1062 : decode cL_law 1062 = .ok (.if_icmp .eq 916, 3) := by decide +kernel
theorem dL_law_1065 : decode cL_law 1065 = .ok (.iconst 0, 1) := by decide +kernel
theorem dL_law_1066 : decode cL_law 1066 = .ok (.ireturn, 1) := by decide +kernel
theorem dL_law_1067 : decode cL_law 1067 = .ok (.aload_n 1, 1) := by decide +kernel
theorem dL_law_1068 : decode cL_law 1068 = .ok (.aload_n 0, 1) := by decide +kernel
theorem dL_law_1069 : decode cL_law 1069 = .ok (.iload 4, 2) := by decide +kernel
theorem dL_law_1071 : decode cL_law 1071 = .ok (.iconst 1, 1) := by decide +kernel
theorem dL_law_1072 : decode cL_law 1072 = .ok (.iadd, 1) := by decide +kernel
theorem dL_law_1073 : decode cL_law 1073 = .ok (.iaload, 1) := by decide +kernel
theorem dL_law_1074 : decode cL_law 1074 = .ok (.aload_n 3, 1) := by decide +kernel
theorem dL_law_1075 : decode cL_law 1075 = .ok (.invokestatic 159, 3) := by decide +kernel
theorem dL_law_1078 : decode cL_law 1078 = .ok (.istore 5, 2) := by decide +kernel
theorem dL_law_1080 : decode cL_law 1080 = .ok (.aload_n 2, 1) := by decide +kernel
theorem dL_law_1081 : decode cL_law 1081 = .ok (.aload_n 0, 1) := by decide +kernel
theorem dL_law_1082 : decode cL_law 1082 = .ok (.iload 4, 2) := by decide +kernel
theorem dL_law_1084 : decode cL_law 1084 = .ok (.iconst 1, 1) := by decide +kernel
theorem dL_law_1085 : decode cL_law 1085 = .ok (.iadd, 1) := by decide +kernel
theorem dL_law_1086 : decode cL_law 1086 = .ok (.iaload, 1) := by decide +kernel
theorem dL_law_1087 : decode cL_law 1087 = .ok (.invokevirtual 161, 3) := by decide +kernel
theorem dL_law_1090 : decode cL_law 1090 = .ok (.istore 6, 2) := by decide +kernel
theorem dL_law_1092 : decode cL_law 1092 = .ok (.aload_n 2, 1) := by decide +kernel
theorem dL_law_1093 : decode cL_law 1093 = .ok (.invokevirtual 108, 3) := by decide +kernel
theorem dL_law_1096 : decode cL_law 1096 = .ok (.iload 5, 2) := by decide +kernel
theorem dL_law_1098 : decode cL_law 1098 = .ok (.if_icmp .eq 5, 3) := by decide +kernel
theorem dL_law_1101 : decode cL_law 1101 = .ok (.iconst 0, 1) := by decide +kernel
theorem dL_law_1102 : decode cL_law 1102 = .ok (.ireturn, 1) := by decide +kernel
theorem dL_law_1103 : decode cL_law 1103 = .ok (.iload 5, 2) := by decide +kernel
theorem dL_law_1105 : decode cL_law 1105 = .ok (.ifCond .ne 15, 3) := by decide +kernel
theorem dL_law_1108 : decode cL_law 1108 = .ok (.aload_n 3, 1) := by decide +kernel
theorem dL_law_1109 : decode cL_law 1109 = .ok (.iconst 0, 1) := by decide +kernel
theorem dL_law_1110 : decode cL_law 1110 = .ok (.laload, 1) := by decide +kernel
theorem dL_law_1111 : decode cL_law 1111 = .ok (.iload 6, 2) := by decide +kernel
theorem dL_law_1113 : decode cL_law 1113 = .ok (.i2l, 1) := by decide +kernel
theorem dL_law_1114 : decode cL_law 1114 = .ok (.lcmp, 1) := by decide +kernel
theorem dL_law_1115 : decode cL_law 1115 = .ok (.ifCond .eq 5, 3) := by decide +kernel
theorem dL_law_1118 : decode cL_law 1118 = .ok (.iconst 0, 1) := by decide +kernel
theorem dL_law_1119 : decode cL_law 1119 = .ok (.ireturn, 1) := by decide +kernel
theorem dL_law_1120 : decode cL_law 1120 = .ok (.goto 858, 3) := by decide +kernel
theorem dL_law_1123 : decode cL_law 1123 = .ok (.aload_n 1, 1) := by decide +kernel
theorem dL_law_1124 : decode cL_law 1124 = .ok (.aload_n 3, 1) := by decide +kernel
theorem dL_law_1125 : decode cL_law 1125 = .ok (.invokestatic 162, 3) := by decide +kernel
theorem dL_law_1128 : decode cL_law 1128 = .ok (.istore 5, 2) := by decide +kernel
theorem dL_law_1130 : decode cL_law 1130 = .ok (.aload_n 2, 1) := by decide +kernel
theorem dL_law_1131 : decode cL_law 1131 = .ok (.invokevirtual 165, 3) := by decide +kernel
theorem dL_law_1134 : decode cL_law 1134 = .ok (.istore 6, 2) := by decide +kernel
theorem dL_law_1136 : decode cL_law 1136 = .ok (.aload_n 2, 1) := by decide +kernel
theorem dL_law_1137 : decode cL_law 1137 = .ok (.invokevirtual 108, 3) := by decide +kernel
theorem dL_law_1140 : decode cL_law 1140 = .ok (.iload 5, 2) := by decide +kernel
theorem dL_law_1142 : decode cL_law 1142 = .ok (.if_icmp .eq 5, 3) := by decide +kernel
theorem dL_law_1145 : decode cL_law 1145 = .ok (.iconst 0, 1) := by decide +kernel
theorem dL_law_1146 : decode cL_law 1146 = .ok (.ireturn, 1) := by decide +kernel
theorem dL_law_1147 : decode cL_law 1147 = .ok (.iload 5, 2) := by decide +kernel
theorem dL_law_1149 : decode cL_law 1149 = .ok (.ifCond .ne 15, 3) := by decide +kernel
theorem dL_law_1152 : decode cL_law 1152 = .ok (.aload_n 3, 1) := by decide +kernel
theorem dL_law_1153 : decode cL_law 1153 = .ok (.iconst 0, 1) := by decide +kernel
theorem dL_law_1154 : decode cL_law 1154 = .ok (.laload, 1) := by decide +kernel
theorem dL_law_1155 : decode cL_law 1155 = .ok (.iload 6, 2) := by decide +kernel
theorem dL_law_1157 : decode cL_law 1157 = .ok (.i2l, 1) := by decide +kernel
theorem dL_law_1158 : decode cL_law 1158 = .ok (.lcmp, 1) := by decide +kernel
theorem dL_law_1159 : decode cL_law 1159 = .ok (.ifCond .eq 5, 3) := by decide +kernel
theorem dL_law_1162 : decode cL_law 1162 = .ok (.iconst 0, 1) := by decide +kernel
theorem dL_law_1163 : decode cL_law 1163 = .ok (.ireturn, 1) := by decide +kernel
theorem dL_law_1164 : decode cL_law 1164 = .ok (.goto 814, 3) := by decide +kernel
theorem dL_law_1167 : decode cL_law 1167 = .ok (.aload_n 1, 1) := by decide +kernel
theorem dL_law_1168 : decode cL_law 1168 = .ok (.aload_n 0, 1) := by decide +kernel
theorem dL_law_1169 : decode cL_law 1169 = .ok (.iload 4, 2) := by decide +kernel
theorem dL_law_1171 : decode cL_law 1171 = .ok (.iconst 1, 1) := by decide +kernel
theorem dL_law_1172 : decode cL_law 1172 = .ok (.iadd, 1) := by decide +kernel
theorem dL_law_1173 : decode cL_law 1173 = .ok (.iaload, 1) := by decide +kernel
theorem dL_law_1174 : decode cL_law 1174 = .ok (.aload_n 0, 1) := by decide +kernel
theorem dL_law_1175 : decode cL_law 1175 = .ok (.iload 4, 2) := by decide +kernel
theorem dL_law_1177 : decode cL_law 1177 = .ok (.iconst 2, 1) := by decide +kernel
theorem dL_law_1178 : decode cL_law 1178 = .ok (.iadd, 1) := by decide +kernel
theorem dL_law_1179 : decode cL_law 1179 = .ok (.iaload, 1) := by decide +kernel
theorem dL_law_1180 : decode cL_law 1180 = .ok (.aload_n 3, 1) := by decide +kernel
theorem dL_law_1181 : decode cL_law 1181 = .ok (.invokestatic 166, 3) := by decide +kernel
theorem dL_law_1184 : decode cL_law 1184 = .ok (.istore 5, 2) := by decide +kernel
theorem dL_law_1186 : decode cL_law 1186 = .ok (.aload_n 2, 1) := by decide +kernel
theorem dL_law_1187 : decode cL_law 1187 = .ok (.aload_n 0, 1) := by decide +kernel
theorem dL_law_1188 : decode cL_law 1188 = .ok (.iload 4, 2) := by decide +kernel
theorem dL_law_1190 : decode cL_law 1190 = .ok (.iconst 1, 1) := by decide +kernel
theorem dL_law_1191 : decode cL_law 1191 = .ok (.iadd, 1) := by decide +kernel
theorem dL_law_1192 : decode cL_law 1192 = .ok (.iaload, 1) := by decide +kernel
theorem dL_law_1193 : decode cL_law 1193 = .ok (.aload_n 0, 1) := by decide +kernel
theorem dL_law_1194 : decode cL_law 1194 = .ok (.iload 4, 2) := by decide +kernel
theorem dL_law_1196 : decode cL_law 1196 = .ok (.iconst 2, 1) := by decide +kernel
theorem dL_law_1197 : decode cL_law 1197 = .ok (.iadd, 1) := by decide +kernel
theorem dL_law_1198 : decode cL_law 1198 = .ok (.iaload, 1) := by decide +kernel
theorem dL_law_1199 : decode cL_law 1199 = .ok (.invokevirtual 168, 3) := by decide +kernel
theorem dL_law_1202 : decode cL_law 1202 = .ok (.istore 6, 2) := by decide +kernel
theorem dL_law_1204 : decode cL_law 1204 = .ok (.aload_n 2, 1) := by decide +kernel
theorem dL_law_1205 : decode cL_law 1205 = .ok (.invokevirtual 108, 3) := by decide +kernel
theorem dL_law_1208 : decode cL_law 1208 = .ok (.iload 5, 2) := by decide +kernel
theorem dL_law_1210 : decode cL_law 1210 = .ok (.if_icmp .eq 5, 3) := by decide +kernel
theorem dL_law_1213 : decode cL_law 1213 = .ok (.iconst 0, 1) := by decide +kernel
theorem dL_law_1214 : decode cL_law 1214 = .ok (.ireturn, 1) := by decide +kernel
theorem dL_law_1215 : decode cL_law 1215 = .ok (.iload 5, 2) := by decide +kernel
theorem dL_law_1217 : decode cL_law 1217 = .ok (.ifCond .ne 15, 3) := by decide +kernel
theorem dL_law_1220 : decode cL_law 1220 = .ok (.aload_n 3, 1) := by decide +kernel
theorem dL_law_1221 : decode cL_law 1221 = .ok (.iconst 0, 1) := by decide +kernel
theorem dL_law_1222 : decode cL_law 1222 = .ok (.laload, 1) := by decide +kernel
theorem dL_law_1223 : decode cL_law 1223 = .ok (.iload 6, 2) := by decide +kernel
theorem dL_law_1225 : decode cL_law 1225 = .ok (.i2l, 1) := by decide +kernel
theorem dL_law_1226 : decode cL_law 1226 = .ok (.lcmp, 1) := by decide +kernel
theorem dL_law_1227 : decode cL_law 1227 = .ok (.ifCond .eq 5, 3) := by decide +kernel
theorem dL_law_1230 : decode cL_law 1230 = .ok (.iconst 0, 1) := by decide +kernel
theorem dL_law_1231 : decode cL_law 1231 = .ok (.ireturn, 1) := by decide +kernel
theorem dL_law_1232 : decode cL_law 1232 = .ok (.goto 746, 3) := by decide +kernel
theorem dL_law_1235 : decode cL_law 1235 = .ok (.aload_n 1, 1) := by decide +kernel
theorem dL_law_1236 : decode cL_law 1236 = .ok (.aload_n 0, 1) := by decide +kernel
theorem dL_law_1237 : decode cL_law 1237 = .ok (.iload 4, 2) := by decide +kernel
theorem dL_law_1239 : decode cL_law 1239 = .ok (.iconst 1, 1) := by decide +kernel
theorem dL_law_1240 : decode cL_law 1240 = .ok (.iadd, 1) := by decide +kernel
theorem dL_law_1241 : decode cL_law 1241 = .ok (.iaload, 1) := by decide +kernel
theorem dL_law_1242 : decode cL_law 1242 = .ok (.aload_n 0, 1) := by decide +kernel
theorem dL_law_1243 : decode cL_law 1243 = .ok (.iload 4, 2) := by decide +kernel
theorem dL_law_1245 : decode cL_law 1245 = .ok (.iconst 2, 1) := by decide +kernel
theorem dL_law_1246 : decode cL_law 1246 = .ok (.iadd, 1) := by decide +kernel
theorem dL_law_1247 : decode cL_law 1247 = .ok (.iaload, 1) := by decide +kernel
theorem dL_law_1248 : decode cL_law 1248 = .ok (.aload_n 0, 1) := by decide +kernel
theorem dL_law_1249 : decode cL_law 1249 = .ok (.iload 4, 2) := by decide +kernel
theorem dL_law_1251 : decode cL_law 1251 = .ok (.iconst 3, 1) := by decide +kernel
theorem dL_law_1252 : decode cL_law 1252 = .ok (.iadd, 1) := by decide +kernel
theorem dL_law_1253 : decode cL_law 1253 = .ok (.iaload, 1) := by decide +kernel
theorem dL_law_1254 : decode cL_law 1254 = .ok (.aload_n 3, 1) := by decide +kernel
theorem dL_law_1255 : decode cL_law 1255 = .ok (.invokestatic 169, 3) := by decide +kernel
theorem dL_law_1258 : decode cL_law 1258 = .ok (.istore 5, 2) := by decide +kernel
theorem dL_law_1260 : decode cL_law 1260 = .ok (.aload_n 2, 1) := by decide +kernel
theorem dL_law_1261 : decode cL_law 1261 = .ok (.aload_n 0, 1) := by decide +kernel
theorem dL_law_1262 : decode cL_law 1262 = .ok (.iload 4, 2) := by decide +kernel
theorem dL_law_1264 : decode cL_law 1264 = .ok (.iconst 1, 1) := by decide +kernel
theorem dL_law_1265 : decode cL_law 1265 = .ok (.iadd, 1) := by decide +kernel
theorem dL_law_1266 : decode cL_law 1266 = .ok (.iaload, 1) := by decide +kernel
theorem dL_law_1267 : decode cL_law 1267 = .ok (.aload_n 0, 1) := by decide +kernel
theorem dL_law_1268 : decode cL_law 1268 = .ok (.iload 4, 2) := by decide +kernel
theorem dL_law_1270 : decode cL_law 1270 = .ok (.iconst 2, 1) := by decide +kernel
theorem dL_law_1271 : decode cL_law 1271 = .ok (.iadd, 1) := by decide +kernel
theorem dL_law_1272 : decode cL_law 1272 = .ok (.iaload, 1) := by decide +kernel
theorem dL_law_1273 : decode cL_law 1273 = .ok (.aload_n 0, 1) := by decide +kernel
theorem dL_law_1274 : decode cL_law 1274 = .ok (.iload 4, 2) := by decide +kernel
theorem dL_law_1276 : decode cL_law 1276 = .ok (.iconst 3, 1) := by decide +kernel
theorem dL_law_1277 : decode cL_law 1277 = .ok (.iadd, 1) := by decide +kernel
theorem dL_law_1278 : decode cL_law 1278 = .ok (.iaload, 1) := by decide +kernel
theorem dL_law_1279 : decode cL_law 1279 = .ok (.invokevirtual 171, 3) := by decide +kernel
theorem dL_law_1282 : decode cL_law 1282 = .ok (.istore 6, 2) := by decide +kernel
theorem dL_law_1284 : decode cL_law 1284 = .ok (.aload_n 2, 1) := by decide +kernel
theorem dL_law_1285 : decode cL_law 1285 = .ok (.invokevirtual 108, 3) := by decide +kernel
theorem dL_law_1288 : decode cL_law 1288 = .ok (.iload 5, 2) := by decide +kernel
theorem dL_law_1290 : decode cL_law 1290 = .ok (.if_icmp .eq 5, 3) := by decide +kernel
theorem dL_law_1293 : decode cL_law 1293 = .ok (.iconst 0, 1) := by decide +kernel
theorem dL_law_1294 : decode cL_law 1294 = .ok (.ireturn, 1) := by decide +kernel
theorem dL_law_1295 : decode cL_law 1295 = .ok (.iload 5, 2) := by decide +kernel
theorem dL_law_1297 : decode cL_law 1297 = .ok (.ifCond .ne 15, 3) := by decide +kernel
theorem dL_law_1300 : decode cL_law 1300 = .ok (.aload_n 3, 1) := by decide +kernel
theorem dL_law_1301 : decode cL_law 1301 = .ok (.iconst 0, 1) := by decide +kernel
theorem dL_law_1302 : decode cL_law 1302 = .ok (.laload, 1) := by decide +kernel
theorem dL_law_1303 : decode cL_law 1303 = .ok (.iload 6, 2) := by decide +kernel
theorem dL_law_1305 : decode cL_law 1305 = .ok (.i2l, 1) := by decide +kernel
theorem dL_law_1306 : decode cL_law 1306 = .ok (.lcmp, 1) := by decide +kernel
theorem dL_law_1307 : decode cL_law 1307 = .ok (.ifCond .eq 5, 3) := by decide +kernel
theorem dL_law_1310 : decode cL_law 1310 = .ok (.iconst 0, 1) := by decide +kernel
theorem dL_law_1311 : decode cL_law 1311 = .ok (.ireturn, 1) := by decide +kernel
theorem dL_law_1312 : decode cL_law 1312 = .ok (.goto 666, 3) := by decide +kernel
theorem dL_law_1315 : decode cL_law 1315 = .ok (.aload_n 1, 1) := by decide +kernel
theorem dL_law_1316 : decode cL_law 1316 = .ok (.aload_n 0, 1) := by decide +kernel
theorem dL_law_1317 : decode cL_law 1317 = .ok (.iload 4, 2) := by decide +kernel
theorem dL_law_1319 : decode cL_law 1319 = .ok (.iconst 1, 1) := by decide +kernel
theorem dL_law_1320 : decode cL_law 1320 = .ok (.iadd, 1) := by decide +kernel
theorem dL_law_1321 : decode cL_law 1321 = .ok (.iaload, 1) := by decide +kernel
theorem dL_law_1322 : decode cL_law 1322 = .ok (.aload_n 0, 1) := by decide +kernel
theorem dL_law_1323 : decode cL_law 1323 = .ok (.iload 4, 2) := by decide +kernel
theorem dL_law_1325 : decode cL_law 1325 = .ok (.iconst 2, 1) := by decide +kernel
theorem dL_law_1326 : decode cL_law 1326 = .ok (.iadd, 1) := by decide +kernel
theorem dL_law_1327 : decode cL_law 1327 = .ok (.iaload, 1) := by decide +kernel
theorem dL_law_1328 : decode cL_law 1328 = .ok (.aload_n 3, 1) := by decide +kernel
theorem dL_law_1329 : decode cL_law 1329 = .ok (.invokestatic 172, 3) := by decide +kernel
theorem dL_law_1332 : decode cL_law 1332 = .ok (.istore 5, 2) := by decide +kernel
theorem dL_law_1334 : decode cL_law 1334 = .ok (.aload_n 2, 1) := by decide +kernel
theorem dL_law_1335 : decode cL_law 1335 = .ok (.aload_n 0, 1) := by decide +kernel
theorem dL_law_1336 : decode cL_law 1336 = .ok (.iload 4, 2) := by decide +kernel
theorem dL_law_1338 : decode cL_law 1338 = .ok (.iconst 1, 1) := by decide +kernel
theorem dL_law_1339 : decode cL_law 1339 = .ok (.iadd, 1) := by decide +kernel
theorem dL_law_1340 : decode cL_law 1340 = .ok (.iaload, 1) := by decide +kernel
theorem dL_law_1341 : decode cL_law 1341 = .ok (.aload_n 0, 1) := by decide +kernel
theorem dL_law_1342 : decode cL_law 1342 = .ok (.iload 4, 2) := by decide +kernel
theorem dL_law_1344 : decode cL_law 1344 = .ok (.iconst 2, 1) := by decide +kernel
theorem dL_law_1345 : decode cL_law 1345 = .ok (.iadd, 1) := by decide +kernel
theorem dL_law_1346 : decode cL_law 1346 = .ok (.iaload, 1) := by decide +kernel
theorem dL_law_1347 : decode cL_law 1347 = .ok (.invokevirtual 174, 3) := by decide +kernel
theorem dL_law_1350 : decode cL_law 1350 = .ok (.istore 6, 2) := by decide +kernel
theorem dL_law_1352 : decode cL_law 1352 = .ok (.aload_n 2, 1) := by decide +kernel
theorem dL_law_1353 : decode cL_law 1353 = .ok (.invokevirtual 108, 3) := by decide +kernel
theorem dL_law_1356 : decode cL_law 1356 = .ok (.iload 5, 2) := by decide +kernel
theorem dL_law_1358 : decode cL_law 1358 = .ok (.if_icmp .eq 5, 3) := by decide +kernel
theorem dL_law_1361 : decode cL_law 1361 = .ok (.iconst 0, 1) := by decide +kernel
theorem dL_law_1362 : decode cL_law 1362 = .ok (.ireturn, 1) := by decide +kernel
theorem dL_law_1363 : decode cL_law 1363 = .ok (.iload 5, 2) := by decide +kernel
theorem dL_law_1365 : decode cL_law 1365 = .ok (.ifCond .ne 15, 3) := by decide +kernel
theorem dL_law_1368 : decode cL_law 1368 = .ok (.aload_n 3, 1) := by decide +kernel
theorem dL_law_1369 : decode cL_law 1369 = .ok (.iconst 0, 1) := by decide +kernel
theorem dL_law_1370 : decode cL_law 1370 = .ok (.laload, 1) := by decide +kernel
theorem dL_law_1371 : decode cL_law 1371 = .ok (.iload 6, 2) := by decide +kernel
theorem dL_law_1373 : decode cL_law 1373 = .ok (.i2l, 1) := by decide +kernel
theorem dL_law_1374 : decode cL_law 1374 = .ok (.lcmp, 1) := by decide +kernel
theorem dL_law_1375 : decode cL_law 1375 = .ok (.ifCond .eq 5, 3) := by decide +kernel
theorem dL_law_1378 : decode cL_law 1378 = .ok (.iconst 0, 1) := by decide +kernel
theorem dL_law_1379 : decode cL_law 1379 = .ok (.ireturn, 1) := by decide +kernel
theorem dL_law_1380 : decode cL_law 1380 = .ok (.goto 598, 3) := by decide +kernel
theorem dL_law_1383 : decode cL_law 1383 = .ok (.aload_n 1, 1) := by decide +kernel
theorem dL_law_1384 : decode cL_law 1384 = .ok (.aload_n 0, 1) := by decide +kernel
theorem dL_law_1385 : decode cL_law 1385 = .ok (.iload 4, 2) := by decide +kernel
theorem dL_law_1387 : decode cL_law 1387 = .ok (.iconst 1, 1) := by decide +kernel
theorem dL_law_1388 : decode cL_law 1388 = .ok (.iadd, 1) := by decide +kernel
theorem dL_law_1389 : decode cL_law 1389 = .ok (.iaload, 1) := by decide +kernel
theorem dL_law_1390 : decode cL_law 1390 = .ok (.aload_n 0, 1) := by decide +kernel
theorem dL_law_1391 : decode cL_law 1391 = .ok (.iload 4, 2) := by decide +kernel
theorem dL_law_1393 : decode cL_law 1393 = .ok (.iconst 2, 1) := by decide +kernel
theorem dL_law_1394 : decode cL_law 1394 = .ok (.iadd, 1) := by decide +kernel
theorem dL_law_1395 : decode cL_law 1395 = .ok (.iaload, 1) := by decide +kernel
theorem dL_law_1396 : decode cL_law 1396 = .ok (.aload_n 3, 1) := by decide +kernel
theorem dL_law_1397 : decode cL_law 1397 = .ok (.invokestatic 175, 3) := by decide +kernel
theorem dL_law_1400 : decode cL_law 1400 = .ok (.istore 5, 2) := by decide +kernel
theorem dL_law_1402 : decode cL_law 1402 = .ok (.aload_n 2, 1) := by decide +kernel
theorem dL_law_1403 : decode cL_law 1403 = .ok (.aload_n 0, 1) := by decide +kernel
theorem dL_law_1404 : decode cL_law 1404 = .ok (.iload 4, 2) := by decide +kernel
theorem dL_law_1406 : decode cL_law 1406 = .ok (.iconst 1, 1) := by decide +kernel
theorem dL_law_1407 : decode cL_law 1407 = .ok (.iadd, 1) := by decide +kernel
theorem dL_law_1408 : decode cL_law 1408 = .ok (.iaload, 1) := by decide +kernel
theorem dL_law_1409 : decode cL_law 1409 = .ok (.aload_n 0, 1) := by decide +kernel
theorem dL_law_1410 : decode cL_law 1410 = .ok (.iload 4, 2) := by decide +kernel
theorem dL_law_1412 : decode cL_law 1412 = .ok (.iconst 2, 1) := by decide +kernel
theorem dL_law_1413 : decode cL_law 1413 = .ok (.iadd, 1) := by decide +kernel
theorem dL_law_1414 : decode cL_law 1414 = .ok (.iaload, 1) := by decide +kernel
theorem dL_law_1415 : decode cL_law 1415 = .ok (.invokevirtual 177, 3) := by decide +kernel
theorem dL_law_1418 : decode cL_law 1418 = .ok (.istore 6, 2) := by decide +kernel
theorem dL_law_1420 : decode cL_law 1420 = .ok (.aload_n 2, 1) := by decide +kernel
theorem dL_law_1421 : decode cL_law 1421 = .ok (.invokevirtual 108, 3) := by decide +kernel
theorem dL_law_1424 : decode cL_law 1424 = .ok (.iload 5, 2) := by decide +kernel
theorem dL_law_1426 : decode cL_law 1426 = .ok (.if_icmp .eq 5, 3) := by decide +kernel
theorem dL_law_1429 : decode cL_law 1429 = .ok (.iconst 0, 1) := by decide +kernel
theorem dL_law_1430 : decode cL_law 1430 = .ok (.ireturn, 1) := by decide +kernel
theorem dL_law_1431 : decode cL_law 1431 = .ok (.iload 5, 2) := by decide +kernel
theorem dL_law_1433 : decode cL_law 1433 = .ok (.ifCond .ne 15, 3) := by decide +kernel
theorem dL_law_1436 : decode cL_law 1436 = .ok (.aload_n 3, 1) := by decide +kernel
theorem dL_law_1437 : decode cL_law 1437 = .ok (.iconst 0, 1) := by decide +kernel
theorem dL_law_1438 : decode cL_law 1438 = .ok (.laload, 1) := by decide +kernel
theorem dL_law_1439 : decode cL_law 1439 = .ok (.iload 6, 2) := by decide +kernel
theorem dL_law_1441 : decode cL_law 1441 = .ok (.i2l, 1) := by decide +kernel
theorem dL_law_1442 : decode cL_law 1442 = .ok (.lcmp, 1) := by decide +kernel
theorem dL_law_1443 : decode cL_law 1443 = .ok (.ifCond .eq 5, 3) := by decide +kernel
theorem dL_law_1446 : decode cL_law 1446 = .ok (.iconst 0, 1) := by decide +kernel
theorem dL_law_1447 : decode cL_law 1447 = .ok (.ireturn, 1) := by decide +kernel
theorem dL_law_1448 : decode cL_law 1448 = .ok (.goto 530, 3) := by decide +kernel
theorem dL_law_1451 : decode cL_law 1451 = .ok (.aload_n 1, 1) := by decide +kernel
theorem dL_law_1452 : decode cL_law 1452 = .ok (.aload_n 0, 1) := by decide +kernel
theorem dL_law_1453 : decode cL_law 1453 = .ok (.iload 4, 2) := by decide +kernel
theorem dL_law_1455 : decode cL_law 1455 = .ok (.iconst 1, 1) := by decide +kernel
theorem dL_law_1456 : decode cL_law 1456 = .ok (.iadd, 1) := by decide +kernel
theorem dL_law_1457 : decode cL_law 1457 = .ok (.iaload, 1) := by decide +kernel
theorem dL_law_1458 : decode cL_law 1458 = .ok (.aload_n 3, 1) := by decide +kernel
theorem dL_law_1459 : decode cL_law 1459 = .ok (.invokestatic 178, 3) := by decide +kernel
theorem dL_law_1462 : decode cL_law 1462 = .ok (.istore 5, 2) := by decide +kernel
theorem dL_law_1464 : decode cL_law 1464 = .ok (.aload_n 2, 1) := by decide +kernel
theorem dL_law_1465 : decode cL_law 1465 = .ok (.aload_n 0, 1) := by decide +kernel
theorem dL_law_1466 : decode cL_law 1466 = .ok (.iload 4, 2) := by decide +kernel
theorem dL_law_1468 : decode cL_law 1468 = .ok (.iconst 1, 1) := by decide +kernel
theorem dL_law_1469 : decode cL_law 1469 = .ok (.iadd, 1) := by decide +kernel
theorem dL_law_1470 : decode cL_law 1470 = .ok (.iaload, 1) := by decide +kernel
theorem dL_law_1471 : decode cL_law 1471 = .ok (.invokevirtual 180, 3) := by decide +kernel
theorem dL_law_1474 : decode cL_law 1474 = .ok (.istore 6, 2) := by decide +kernel
theorem dL_law_1476 : decode cL_law 1476 = .ok (.aload_n 2, 1) := by decide +kernel
theorem dL_law_1477 : decode cL_law 1477 = .ok (.invokevirtual 108, 3) := by decide +kernel
theorem dL_law_1480 : decode cL_law 1480 = .ok (.iload 5, 2) := by decide +kernel
theorem dL_law_1482 : decode cL_law 1482 = .ok (.if_icmp .eq 5, 3) := by decide +kernel
theorem dL_law_1485 : decode cL_law 1485 = .ok (.iconst 0, 1) := by decide +kernel
theorem dL_law_1486 : decode cL_law 1486 = .ok (.ireturn, 1) := by decide +kernel
theorem dL_law_1487 : decode cL_law 1487 = .ok (.iload 5, 2) := by decide +kernel
theorem dL_law_1489 : decode cL_law 1489 = .ok (.ifCond .ne 15, 3) := by decide +kernel
theorem dL_law_1492 : decode cL_law 1492 = .ok (.aload_n 3, 1) := by decide +kernel
theorem dL_law_1493 : decode cL_law 1493 = .ok (.iconst 0, 1) := by decide +kernel
theorem dL_law_1494 : decode cL_law 1494 = .ok (.laload, 1) := by decide +kernel
theorem dL_law_1495 : decode cL_law 1495 = .ok (.iload 6, 2) := by decide +kernel
theorem dL_law_1497 : decode cL_law 1497 = .ok (.i2l, 1) := by decide +kernel
theorem dL_law_1498 : decode cL_law 1498 = .ok (.lcmp, 1) := by decide +kernel
theorem dL_law_1499 : decode cL_law 1499 = .ok (.ifCond .eq 5, 3) := by decide +kernel
theorem dL_law_1502 : decode cL_law 1502 = .ok (.iconst 0, 1) := by decide +kernel
theorem dL_law_1503 : decode cL_law 1503 = .ok (.ireturn, 1) := by decide +kernel
theorem dL_law_1504 : decode cL_law 1504 = .ok (.goto 474, 3) := by decide +kernel
theorem dL_law_1507 : decode cL_law 1507 = .ok (.aload_n 1, 1) := by decide +kernel
theorem dL_law_1508 : decode cL_law 1508 = .ok (.aload_n 0, 1) := by decide +kernel
theorem dL_law_1509 : decode cL_law 1509 = .ok (.iload 4, 2) := by decide +kernel
theorem dL_law_1511 : decode cL_law 1511 = .ok (.iconst 1, 1) := by decide +kernel
theorem dL_law_1512 : decode cL_law 1512 = .ok (.iadd, 1) := by decide +kernel
theorem dL_law_1513 : decode cL_law 1513 = .ok (.iaload, 1) := by decide +kernel
theorem dL_law_1514 : decode cL_law 1514 = .ok (.aload_n 3, 1) := by decide +kernel
theorem dL_law_1515 : decode cL_law 1515 = .ok (.invokestatic 181, 3) := by decide +kernel
theorem dL_law_1518 : decode cL_law 1518 = .ok (.istore 5, 2) := by decide +kernel
theorem dL_law_1520 : decode cL_law 1520 = .ok (.aload_n 2, 1) := by decide +kernel
theorem dL_law_1521 : decode cL_law 1521 = .ok (.aload_n 0, 1) := by decide +kernel
theorem dL_law_1522 : decode cL_law 1522 = .ok (.iload 4, 2) := by decide +kernel
theorem dL_law_1524 : decode cL_law 1524 = .ok (.iconst 1, 1) := by decide +kernel
theorem dL_law_1525 : decode cL_law 1525 = .ok (.iadd, 1) := by decide +kernel
theorem dL_law_1526 : decode cL_law 1526 = .ok (.iaload, 1) := by decide +kernel
theorem dL_law_1527 : decode cL_law 1527 = .ok (.invokevirtual 183, 3) := by decide +kernel
theorem dL_law_1530 : decode cL_law 1530 = .ok (.istore 6, 2) := by decide +kernel
theorem dL_law_1532 : decode cL_law 1532 = .ok (.aload_n 2, 1) := by decide +kernel
theorem dL_law_1533 : decode cL_law 1533 = .ok (.invokevirtual 108, 3) := by decide +kernel
theorem dL_law_1536 : decode cL_law 1536 = .ok (.iload 5, 2) := by decide +kernel
theorem dL_law_1538 : decode cL_law 1538 = .ok (.if_icmp .eq 5, 3) := by decide +kernel
theorem dL_law_1541 : decode cL_law 1541 = .ok (.iconst 0, 1) := by decide +kernel
theorem dL_law_1542 : decode cL_law 1542 = .ok (.ireturn, 1) := by decide +kernel
theorem dL_law_1543 : decode cL_law 1543 = .ok (.iload 5, 2) := by decide +kernel
theorem dL_law_1545 : decode cL_law 1545 = .ok (.ifCond .ne 15, 3) := by decide +kernel
theorem dL_law_1548 : decode cL_law 1548 = .ok (.aload_n 3, 1) := by decide +kernel
theorem dL_law_1549 : decode cL_law 1549 = .ok (.iconst 0, 1) := by decide +kernel
theorem dL_law_1550 : decode cL_law 1550 = .ok (.laload, 1) := by decide +kernel
theorem dL_law_1551 : decode cL_law 1551 = .ok (.iload 6, 2) := by decide +kernel
theorem dL_law_1553 : decode cL_law 1553 = .ok (.i2l, 1) := by decide +kernel
theorem dL_law_1554 : decode cL_law 1554 = .ok (.lcmp, 1) := by decide +kernel
theorem dL_law_1555 : decode cL_law 1555 = .ok (.ifCond .eq 5, 3) := by decide +kernel
theorem dL_law_1558 : decode cL_law 1558 = .ok (.iconst 0, 1) := by decide +kernel
theorem dL_law_1559 : decode cL_law 1559 = .ok (.ireturn, 1) := by decide +kernel
theorem dL_law_1560 : decode cL_law 1560 = .ok (.goto 418, 3) := by decide +kernel
theorem dL_law_1563 : decode cL_law 1563 = .ok (.aload_n 1, 1) := by decide +kernel
theorem dL_law_1564 : decode cL_law 1564 = .ok (.aload_n 0, 1) := by decide +kernel
theorem dL_law_1565 : decode cL_law 1565 = .ok (.iload 4, 2) := by decide +kernel
theorem dL_law_1567 : decode cL_law 1567 = .ok (.iconst 1, 1) := by decide +kernel
theorem dL_law_1568 : decode cL_law 1568 = .ok (.iadd, 1) := by decide +kernel
theorem dL_law_1569 : decode cL_law 1569 = .ok (.iaload, 1) := by decide +kernel
theorem dL_law_1570 : decode cL_law 1570 = .ok (.aload_n 0, 1) := by decide +kernel
theorem dL_law_1571 : decode cL_law 1571 = .ok (.iload 4, 2) := by decide +kernel
theorem dL_law_1573 : decode cL_law 1573 = .ok (.iconst 2, 1) := by decide +kernel
theorem dL_law_1574 : decode cL_law 1574 = .ok (.iadd, 1) := by decide +kernel
theorem dL_law_1575 : decode cL_law 1575 = .ok (.iaload, 1) := by decide +kernel
theorem dL_law_1576 : decode cL_law 1576 = .ok (.aload_n 3, 1) := by decide +kernel
theorem dL_law_1577 : decode cL_law 1577 = .ok (.invokestatic 184, 3) := by decide +kernel
theorem dL_law_1580 : decode cL_law 1580 = .ok (.istore 5, 2) := by decide +kernel
theorem dL_law_1582 : decode cL_law 1582 = .ok (.aload_n 2, 1) := by decide +kernel
theorem dL_law_1583 : decode cL_law 1583 = .ok (.aload_n 0, 1) := by decide +kernel
theorem dL_law_1584 : decode cL_law 1584 = .ok (.iload 4, 2) := by decide +kernel
theorem dL_law_1586 : decode cL_law 1586 = .ok (.iconst 1, 1) := by decide +kernel
theorem dL_law_1587 : decode cL_law 1587 = .ok (.iadd, 1) := by decide +kernel
theorem dL_law_1588 : decode cL_law 1588 = .ok (.iaload, 1) := by decide +kernel
theorem dL_law_1589 : decode cL_law 1589 = .ok (.aload_n 0, 1) := by decide +kernel
theorem dL_law_1590 : decode cL_law 1590 = .ok (.iload 4, 2) := by decide +kernel
theorem dL_law_1592 : decode cL_law 1592 = .ok (.iconst 2, 1) := by decide +kernel
theorem dL_law_1593 : decode cL_law 1593 = .ok (.iadd, 1) := by decide +kernel
theorem dL_law_1594 : decode cL_law 1594 = .ok (.iaload, 1) := by decide +kernel
theorem dL_law_1595 : decode cL_law 1595 = .ok (.invokevirtual 186, 3) := by decide +kernel
theorem dL_law_1598 : decode cL_law 1598 = .ok (.istore 6, 2) := by decide +kernel
theorem dL_law_1600 : decode cL_law 1600 = .ok (.aload_n 2, 1) := by decide +kernel
theorem dL_law_1601 : decode cL_law 1601 = .ok (.invokevirtual 108, 3) := by decide +kernel
theorem dL_law_1604 : decode cL_law 1604 = .ok (.iload 5, 2) := by decide +kernel
theorem dL_law_1606 : decode cL_law 1606 = .ok (.if_icmp .eq 5, 3) := by decide +kernel
theorem dL_law_1609 : decode cL_law 1609 = .ok (.iconst 0, 1) := by decide +kernel
theorem dL_law_1610 : decode cL_law 1610 = .ok (.ireturn, 1) := by decide +kernel
theorem dL_law_1611 : decode cL_law 1611 = .ok (.iload 5, 2) := by decide +kernel
theorem dL_law_1613 : decode cL_law 1613 = .ok (.ifCond .ne 15, 3) := by decide +kernel
theorem dL_law_1616 : decode cL_law 1616 = .ok (.aload_n 3, 1) := by decide +kernel
theorem dL_law_1617 : decode cL_law 1617 = .ok (.iconst 0, 1) := by decide +kernel
theorem dL_law_1618 : decode cL_law 1618 = .ok (.laload, 1) := by decide +kernel
theorem dL_law_1619 : decode cL_law 1619 = .ok (.iload 6, 2) := by decide +kernel
theorem dL_law_1621 : decode cL_law 1621 = .ok (.i2l, 1) := by decide +kernel
theorem dL_law_1622 : decode cL_law 1622 = .ok (.lcmp, 1) := by decide +kernel
theorem dL_law_1623 : decode cL_law 1623 = .ok (.ifCond .eq 5, 3) := by decide +kernel
theorem dL_law_1626 : decode cL_law 1626 = .ok (.iconst 0, 1) := by decide +kernel
theorem dL_law_1627 : decode cL_law 1627 = .ok (.ireturn, 1) := by decide +kernel
theorem dL_law_1628 : decode cL_law 1628 = .ok (.goto 350, 3) := by decide +kernel
theorem dL_law_1631 : decode cL_law 1631 = .ok (.aload_n 1, 1) := by decide +kernel
theorem dL_law_1632 : decode cL_law 1632 = .ok (.aload_n 0, 1) := by decide +kernel
theorem dL_law_1633 : decode cL_law 1633 = .ok (.iload 4, 2) := by decide +kernel
theorem dL_law_1635 : decode cL_law 1635 = .ok (.iconst 1, 1) := by decide +kernel
theorem dL_law_1636 : decode cL_law 1636 = .ok (.iadd, 1) := by decide +kernel
theorem dL_law_1637 : decode cL_law 1637 = .ok (.iaload, 1) := by decide +kernel
theorem dL_law_1638 : decode cL_law 1638 = .ok (.aload_n 3, 1) := by decide +kernel
theorem dL_law_1639 : decode cL_law 1639 = .ok (.invokestatic 187, 3) := by decide +kernel
theorem dL_law_1642 : decode cL_law 1642 = .ok (.istore 5, 2) := by decide +kernel
theorem dL_law_1644 : decode cL_law 1644 = .ok (.aload_n 2, 1) := by decide +kernel
theorem dL_law_1645 : decode cL_law 1645 = .ok (.aload_n 0, 1) := by decide +kernel
theorem dL_law_1646 : decode cL_law 1646 = .ok (.iload 4, 2) := by decide +kernel
theorem dL_law_1648 : decode cL_law 1648 = .ok (.iconst 1, 1) := by decide +kernel
theorem dL_law_1649 : decode cL_law 1649 = .ok (.iadd, 1) := by decide +kernel
theorem dL_law_1650 : decode cL_law 1650 = .ok (.iaload, 1) := by decide +kernel
theorem dL_law_1651 : decode cL_law 1651 = .ok (.invokevirtual 189, 3) := by decide +kernel
theorem dL_law_1654 : decode cL_law 1654 = .ok (.istore 6, 2) := by decide +kernel
theorem dL_law_1656 : decode cL_law 1656 = .ok (.aload_n 2, 1) := by decide +kernel
theorem dL_law_1657 : decode cL_law 1657 = .ok (.invokevirtual 108, 3) := by decide +kernel
theorem dL_law_1660 : decode cL_law 1660 = .ok (.iload 5, 2) := by decide +kernel
theorem dL_law_1662 : decode cL_law 1662 = .ok (.if_icmp .eq 5, 3) := by decide +kernel
theorem dL_law_1665 : decode cL_law 1665 = .ok (.iconst 0, 1) := by decide +kernel
theorem dL_law_1666 : decode cL_law 1666 = .ok (.ireturn, 1) := by decide +kernel
theorem dL_law_1667 : decode cL_law 1667 = .ok (.iload 5, 2) := by decide +kernel
theorem dL_law_1669 : decode cL_law 1669 = .ok (.ifCond .ne 15, 3) := by decide +kernel
theorem dL_law_1672 : decode cL_law 1672 = .ok (.aload_n 3, 1) := by decide +kernel
theorem dL_law_1673 : decode cL_law 1673 = .ok (.iconst 0, 1) := by decide +kernel
theorem dL_law_1674 : decode cL_law 1674 = .ok (.laload, 1) := by decide +kernel
theorem dL_law_1675 : decode cL_law 1675 = .ok (.iload 6, 2) := by decide +kernel
theorem dL_law_1677 : decode cL_law 1677 = .ok (.i2l, 1) := by decide +kernel
theorem dL_law_1678 : decode cL_law 1678 = .ok (.lcmp, 1) := by decide +kernel
theorem dL_law_1679 : decode cL_law 1679 = .ok (.ifCond .eq 5, 3) := by decide +kernel
theorem dL_law_1682 : decode cL_law 1682 = .ok (.iconst 0, 1) := by decide +kernel
theorem dL_law_1683 : decode cL_law 1683 = .ok (.ireturn, 1) := by decide +kernel
theorem dL_law_1684 : decode cL_law 1684 = .ok (.goto 294, 3) := by decide +kernel
theorem dL_law_1687 : decode cL_law 1687 = .ok (.aload_n 1, 1) := by decide +kernel
theorem dL_law_1688 : decode cL_law 1688 = .ok (.aload_n 0, 1) := by decide +kernel
theorem dL_law_1689 : decode cL_law 1689 = .ok (.iload 4, 2) := by decide +kernel
theorem dL_law_1691 : decode cL_law 1691 = .ok (.iconst 1, 1) := by decide +kernel
theorem dL_law_1692 : decode cL_law 1692 = .ok (.iadd, 1) := by decide +kernel
theorem dL_law_1693 : decode cL_law 1693 = .ok (.iaload, 1) := by decide +kernel
theorem dL_law_1694 : decode cL_law 1694 = .ok (.aload_n 0, 1) := by decide +kernel
theorem dL_law_1695 : decode cL_law 1695 = .ok (.iload 4, 2) := by decide +kernel
theorem dL_law_1697 : decode cL_law 1697 = .ok (.iconst 2, 1) := by decide +kernel
theorem dL_law_1698 : decode cL_law 1698 = .ok (.iadd, 1) := by decide +kernel
theorem dL_law_1699 : decode cL_law 1699 = .ok (.iaload, 1) := by decide +kernel
theorem dL_law_1700 : decode cL_law 1700 = .ok (.aload_n 3, 1) := by decide +kernel
theorem dL_law_1701 : decode cL_law 1701 = .ok (.invokestatic 190, 3) := by decide +kernel
theorem dL_law_1704 : decode cL_law 1704 = .ok (.istore 5, 2) := by decide +kernel
theorem dL_law_1706 : decode cL_law 1706 = .ok (.aload_n 2, 1) := by decide +kernel
theorem dL_law_1707 : decode cL_law 1707 = .ok (.aload_n 0, 1) := by decide +kernel
theorem dL_law_1708 : decode cL_law 1708 = .ok (.iload 4, 2) := by decide +kernel
theorem dL_law_1710 : decode cL_law 1710 = .ok (.iconst 1, 1) := by decide +kernel
theorem dL_law_1711 : decode cL_law 1711 = .ok (.iadd, 1) := by decide +kernel
theorem dL_law_1712 : decode cL_law 1712 = .ok (.iaload, 1) := by decide +kernel
theorem dL_law_1713 : decode cL_law 1713 = .ok (.aload_n 0, 1) := by decide +kernel
theorem dL_law_1714 : decode cL_law 1714 = .ok (.iload 4, 2) := by decide +kernel
theorem dL_law_1716 : decode cL_law 1716 = .ok (.iconst 2, 1) := by decide +kernel
theorem dL_law_1717 : decode cL_law 1717 = .ok (.iadd, 1) := by decide +kernel
theorem dL_law_1718 : decode cL_law 1718 = .ok (.iaload, 1) := by decide +kernel
theorem dL_law_1719 : decode cL_law 1719 = .ok (.invokevirtual 192, 3) := by decide +kernel
theorem dL_law_1722 : decode cL_law 1722 = .ok (.istore 6, 2) := by decide +kernel
theorem dL_law_1724 : decode cL_law 1724 = .ok (.aload_n 2, 1) := by decide +kernel
theorem dL_law_1725 : decode cL_law 1725 = .ok (.invokevirtual 108, 3) := by decide +kernel
theorem dL_law_1728 : decode cL_law 1728 = .ok (.iload 5, 2) := by decide +kernel
theorem dL_law_1730 : decode cL_law 1730 = .ok (.if_icmp .eq 5, 3) := by decide +kernel
theorem dL_law_1733 : decode cL_law 1733 = .ok (.iconst 0, 1) := by decide +kernel
theorem dL_law_1734 : decode cL_law 1734 = .ok (.ireturn, 1) := by decide +kernel
theorem dL_law_1735 : decode cL_law 1735 = .ok (.iload 5, 2) := by decide +kernel
theorem dL_law_1737 : decode cL_law 1737 = .ok (.ifCond .ne 15, 3) := by decide +kernel
theorem dL_law_1740 : decode cL_law 1740 = .ok (.aload_n 3, 1) := by decide +kernel
theorem dL_law_1741 : decode cL_law 1741 = .ok (.iconst 0, 1) := by decide +kernel
theorem dL_law_1742 : decode cL_law 1742 = .ok (.laload, 1) := by decide +kernel
theorem dL_law_1743 : decode cL_law 1743 = .ok (.iload 6, 2) := by decide +kernel
theorem dL_law_1745 : decode cL_law 1745 = .ok (.i2l, 1) := by decide +kernel
theorem dL_law_1746 : decode cL_law 1746 = .ok (.lcmp, 1) := by decide +kernel
theorem dL_law_1747 : decode cL_law 1747 = .ok (.ifCond .eq 5, 3) := by decide +kernel
theorem dL_law_1750 : decode cL_law 1750 = .ok (.iconst 0, 1) := by decide +kernel
theorem dL_law_1751 : decode cL_law 1751 = .ok (.ireturn, 1) := by decide +kernel
theorem dL_law_1752 : decode cL_law 1752 = .ok (.goto 226, 3) := by decide +kernel
theorem dL_law_1755 : decode cL_law 1755 = .ok (.aload_n 1, 1) := by decide +kernel
theorem dL_law_1756 : decode cL_law 1756 = .ok (.aload_n 0, 1) := by decide +kernel
theorem dL_law_1757 : decode cL_law 1757 = .ok (.iload 4, 2) := by decide +kernel
theorem dL_law_1759 : decode cL_law 1759 = .ok (.iconst 1, 1) := by decide +kernel
theorem dL_law_1760 : decode cL_law 1760 = .ok (.iadd, 1) := by decide +kernel
theorem dL_law_1761 : decode cL_law 1761 = .ok (.iaload, 1) := by decide +kernel
theorem dL_law_1762 : decode cL_law 1762 = .ok (.aload_n 3, 1) := by decide +kernel
theorem dL_law_1763 : decode cL_law 1763 = .ok (.invokestatic 193, 3) := by decide +kernel
theorem dL_law_1766 : decode cL_law 1766 = .ok (.istore 5, 2) := by decide +kernel
theorem dL_law_1768 : decode cL_law 1768 = .ok (.aload_n 2, 1) := by decide +kernel
theorem dL_law_1769 : decode cL_law 1769 = .ok (.aload_n 0, 1) := by decide +kernel
theorem dL_law_1770 : decode cL_law 1770 = .ok (.iload 4, 2) := by decide +kernel
theorem dL_law_1772 : decode cL_law 1772 = .ok (.iconst 1, 1) := by decide +kernel
theorem dL_law_1773 : decode cL_law 1773 = .ok (.iadd, 1) := by decide +kernel
theorem dL_law_1774 : decode cL_law 1774 = .ok (.iaload, 1) := by decide +kernel
theorem dL_law_1775 : decode cL_law 1775 = .ok (.invokevirtual 195, 3) := by decide +kernel
theorem dL_law_1778 : decode cL_law 1778 = .ok (.istore 6, 2) := by decide +kernel
theorem dL_law_1780 : decode cL_law 1780 = .ok (.aload_n 2, 1) := by decide +kernel
theorem dL_law_1781 : decode cL_law 1781 = .ok (.invokevirtual 108, 3) := by decide +kernel
theorem dL_law_1784 : decode cL_law 1784 = .ok (.iload 5, 2) := by decide +kernel
theorem dL_law_1786 : decode cL_law 1786 = .ok (.if_icmp .eq 5, 3) := by decide +kernel
theorem dL_law_1789 : decode cL_law 1789 = .ok (.iconst 0, 1) := by decide +kernel
theorem dL_law_1790 : decode cL_law 1790 = .ok (.ireturn, 1) := by decide +kernel
theorem dL_law_1791 : decode cL_law 1791 = .ok (.iload 5, 2) := by decide +kernel
theorem dL_law_1793 : decode cL_law 1793 = .ok (.ifCond .ne 15, 3) := by decide +kernel
theorem dL_law_1796 : decode cL_law 1796 = .ok (.aload_n 3, 1) := by decide +kernel
theorem dL_law_1797 : decode cL_law 1797 = .ok (.iconst 0, 1) := by decide +kernel
theorem dL_law_1798 : decode cL_law 1798 = .ok (.laload, 1) := by decide +kernel
theorem dL_law_1799 : decode cL_law 1799 = .ok (.iload 6, 2) := by decide +kernel
theorem dL_law_1801 : decode cL_law 1801 = .ok (.i2l, 1) := by decide +kernel
theorem dL_law_1802 : decode cL_law 1802 = .ok (.lcmp, 1) := by decide +kernel
theorem dL_law_1803 : decode cL_law 1803 = .ok (.ifCond .eq 5, 3) := by decide +kernel
theorem dL_law_1806 : decode cL_law 1806 = .ok (.iconst 0, 1) := by decide +kernel
theorem dL_law_1807 : decode cL_law 1807 = .ok (.ireturn, 1) := by decide +kernel
theorem dL_law_1808 : decode cL_law 1808 = .ok (.goto 170, 3) := by decide +kernel
theorem dL_law_1811 : decode cL_law 1811 = .ok (.aload_n 1, 1) := by decide +kernel
theorem dL_law_1812 : decode cL_law 1812 = .ok (.aload_n 0, 1) := by decide +kernel
theorem dL_law_1813 : decode cL_law 1813 = .ok (.iload 4, 2) := by decide +kernel
theorem dL_law_1815 : decode cL_law 1815 = .ok (.iconst 1, 1) := by decide +kernel
theorem dL_law_1816 : decode cL_law 1816 = .ok (.iadd, 1) := by decide +kernel
theorem dL_law_1817 : decode cL_law 1817 = .ok (.iaload, 1) := by decide +kernel
theorem dL_law_1818 : decode cL_law 1818 = .ok (.aload_n 3, 1) := by decide +kernel
theorem dL_law_1819 : decode cL_law 1819 = .ok (.invokestatic 196, 3) := by decide +kernel
theorem dL_law_1822 : decode cL_law 1822 = .ok (.istore 5, 2) := by decide +kernel
theorem dL_law_1824 : decode cL_law 1824 = .ok (.aload_n 2, 1) := by decide +kernel
theorem dL_law_1825 : decode cL_law 1825 = .ok (.aload_n 0, 1) := by decide +kernel
theorem dL_law_1826 : decode cL_law 1826 = .ok (.iload 4, 2) := by decide +kernel
theorem dL_law_1828 : decode cL_law 1828 = .ok (.iconst 1, 1) := by decide +kernel
theorem dL_law_1829 : decode cL_law 1829 = .ok (.iadd, 1) := by decide +kernel
theorem dL_law_1830 : decode cL_law 1830 = .ok (.iaload, 1) := by decide +kernel
theorem dL_law_1831 : decode cL_law 1831 = .ok (.invokevirtual 198, 3) := by decide +kernel
theorem dL_law_1834 : decode cL_law 1834 = .ok (.istore 6, 2) := by decide +kernel
theorem dL_law_1836 : decode cL_law 1836 = .ok (.aload_n 2, 1) := by decide +kernel
theorem dL_law_1837 : decode cL_law 1837 = .ok (.invokevirtual 108, 3) := by decide +kernel
theorem dL_law_1840 : decode cL_law 1840 = .ok (.iload 5, 2) := by decide +kernel
theorem dL_law_1842 : decode cL_law 1842 = .ok (.if_icmp .eq 5, 3) := by decide +kernel
theorem dL_law_1845 : decode cL_law 1845 = .ok (.iconst 0, 1) := by decide +kernel
theorem dL_law_1846 : decode cL_law 1846 = .ok (.ireturn, 1) := by decide +kernel
theorem dL_law_1847 : decode cL_law 1847 = .ok (.iload 5, 2) := by decide +kernel
theorem dL_law_1849 : decode cL_law 1849 = .ok (.ifCond .ne 15, 3) := by decide +kernel
theorem dL_law_1852 : decode cL_law 1852 = .ok (.aload_n 3, 1) := by decide +kernel
theorem dL_law_1853 : decode cL_law 1853 = .ok (.iconst 0, 1) := by decide +kernel
theorem dL_law_1854 : decode cL_law 1854 = .ok (.laload, 1) := by decide +kernel
theorem dL_law_1855 : decode cL_law 1855 = .ok (.iload 6, 2) := by decide +kernel
theorem dL_law_1857 : decode cL_law 1857 = .ok (.i2l, 1) := by decide +kernel
theorem dL_law_1858 : decode cL_law 1858 = .ok (.lcmp, 1) := by decide +kernel
theorem dL_law_1859 : decode cL_law 1859 = .ok (.ifCond .eq 5, 3) := by decide +kernel
theorem dL_law_1862 : decode cL_law 1862 = .ok (.iconst 0, 1) := by decide +kernel
theorem dL_law_1863 : decode cL_law 1863 = .ok (.ireturn, 1) := by decide +kernel
theorem dL_law_1864 : decode cL_law 1864 = .ok (.goto 114, 3) := by decide +kernel
theorem dL_law_1867 : decode cL_law 1867 = .ok (.aload_n 1, 1) := by decide +kernel
theorem dL_law_1868 : decode cL_law 1868 = .ok (.aload_n 0, 1) := by decide +kernel
theorem dL_law_1869 : decode cL_law 1869 = .ok (.iload 4, 2) := by decide +kernel
theorem dL_law_1871 : decode cL_law 1871 = .ok (.iconst 1, 1) := by decide +kernel
theorem dL_law_1872 : decode cL_law 1872 = .ok (.iadd, 1) := by decide +kernel
theorem dL_law_1873 : decode cL_law 1873 = .ok (.iaload, 1) := by decide +kernel
theorem dL_law_1874 : decode cL_law 1874 = .ok (.aload_n 3, 1) := by decide +kernel
theorem dL_law_1875 : decode cL_law 1875 = .ok (.invokestatic 199, 3) := by decide +kernel
theorem dL_law_1878 : decode cL_law 1878 = .ok (.istore 5, 2) := by decide +kernel
theorem dL_law_1880 : decode cL_law 1880 = .ok (.aload_n 2, 1) := by decide +kernel
theorem dL_law_1881 : decode cL_law 1881 = .ok (.aload_n 0, 1) := by decide +kernel
theorem dL_law_1882 : decode cL_law 1882 = .ok (.iload 4, 2) := by decide +kernel
theorem dL_law_1884 : decode cL_law 1884 = .ok (.iconst 1, 1) := by decide +kernel
theorem dL_law_1885 : decode cL_law 1885 = .ok (.iadd, 1) := by decide +kernel
theorem dL_law_1886 : decode cL_law 1886 = .ok (.iaload, 1) := by decide +kernel
theorem dL_law_1887 : decode cL_law 1887 = .ok (.invokevirtual 201, 3) := by decide +kernel
theorem dL_law_1890 : decode cL_law 1890 = .ok (.istore 6, 2) := by decide +kernel
theorem dL_law_1892 : decode cL_law 1892 = .ok (.aload_n 2, 1) := by decide +kernel
theorem dL_law_1893 : decode cL_law 1893 = .ok (.invokevirtual 108, 3) := by decide +kernel
theorem dL_law_1896 : decode cL_law 1896 = .ok (.iload 5, 2) := by decide +kernel
theorem dL_law_1898 : decode cL_law 1898 = .ok (.if_icmp .eq 5, 3) := by decide +kernel
theorem dL_law_1901 : decode cL_law 1901 = .ok (.iconst 0, 1) := by decide +kernel
theorem dL_law_1902 : decode cL_law 1902 = .ok (.ireturn, 1) := by decide +kernel
theorem dL_law_1903 : decode cL_law 1903 = .ok (.iload 5, 2) := by decide +kernel
theorem dL_law_1905 : decode cL_law 1905 = .ok (.ifCond .ne 15, 3) := by decide +kernel
theorem dL_law_1908 : decode cL_law 1908 = .ok (.aload_n 3, 1) := by decide +kernel
theorem dL_law_1909 : decode cL_law 1909 = .ok (.iconst 0, 1) := by decide +kernel
theorem dL_law_1910 : decode cL_law 1910 = .ok (.laload, 1) := by decide +kernel
theorem dL_law_1911 : decode cL_law 1911 = .ok (.iload 6, 2) := by decide +kernel
theorem dL_law_1913 : decode cL_law 1913 = .ok (.i2l, 1) := by decide +kernel
theorem dL_law_1914 : decode cL_law 1914 = .ok (.lcmp, 1) := by decide +kernel
theorem dL_law_1915 : decode cL_law 1915 = .ok (.ifCond .eq 5, 3) := by decide +kernel
theorem dL_law_1918 : decode cL_law 1918 = .ok (.iconst 0, 1) := by decide +kernel
theorem dL_law_1919 : decode cL_law 1919 = .ok (.ireturn, 1) := by decide +kernel
theorem dL_law_1920 : decode cL_law 1920 = .ok (.goto 58, 3) := by decide +kernel
theorem dL_law_1923 : decode cL_law 1923 = .ok (.aload_n 1, 1) := by decide +kernel
theorem dL_law_1924 : decode cL_law 1924 = .ok (.invokevirtual 202, 3) := by decide +kernel
theorem dL_law_1927 : decode cL_law 1927 = .ok (.dstore 5, 2) := by decide +kernel
theorem dL_law_1929 : decode cL_law 1929 = .ok (.aload_n 2, 1) := by decide +kernel
theorem dL_law_1930 : decode cL_law 1930 = .ok (.invokevirtual 206, 3) := by decide +kernel
theorem dL_law_1933 : decode cL_law 1933 = .ok (.dstore 7, 2) := by decide +kernel
theorem dL_law_1935 : decode cL_law 1935 = .ok (.dload 5, 2) := by decide +kernel
theorem dL_law_1937 : decode cL_law 1937 = .ok (.dload 7, 2) := by decide +kernel
theorem dL_law_1939 : decode cL_law 1939 = .ok (.dcmp .l, 1) := by decide +kernel
theorem dL_law_1940 : decode cL_law 1940 = .ok (.ifCond .eq 21, 3) := by decide +kernel
theorem dL_law_1943 : decode cL_law 1943 = .ok (.dload 5, 2) := by decide +kernel
theorem dL_law_1945 : decode cL_law 1945 = .ok (.dload 5, 2) := by decide +kernel
theorem dL_law_1947 : decode cL_law 1947 = .ok (.dcmp .l, 1) := by decide +kernel
theorem dL_law_1948 : decode cL_law 1948 = .ok (.ifCond .eq 11, 3) := by decide +kernel
theorem dL_law_1951 : decode cL_law 1951 = .ok (.dload 7, 2) := by decide +kernel
theorem dL_law_1953 : decode cL_law 1953 = .ok (.dload 7, 2) := by decide +kernel
theorem dL_law_1955 : decode cL_law 1955 = .ok (.dcmp .l, 1) := by decide +kernel
theorem dL_law_1956 : decode cL_law 1956 = .ok (.ifCond .ne 5, 3) := by decide +kernel
theorem dL_law_1959 : decode cL_law 1959 = .ok (.iconst 0, 1) := by decide +kernel
theorem dL_law_1960 : decode cL_law 1960 = .ok (.ireturn, 1) := by decide +kernel
theorem dL_law_1961 : decode cL_law 1961 = .ok (.goto 17, 3) := by decide +kernel
theorem dL_law_1964 : decode cL_law 1964 = .ok (.aload_n 1, 1) := by decide +kernel
theorem dL_law_1965 : decode cL_law 1965 = .ok (.invokevirtual 207, 3) := by decide +kernel
theorem dL_law_1968 : decode cL_law 1968 = .ok (.aload_n 2, 1) := by decide +kernel
theorem dL_law_1969 : decode cL_law 1969 = .ok (.invokevirtual 211, 3) := by decide +kernel
theorem dL_law_1972 : decode cL_law 1972 = .ok (.lcmp, 1) := by decide +kernel
theorem dL_law_1973 : decode cL_law 1973 = .ok (.ifCond .eq 5, 3) := by decide +kernel
theorem dL_law_1976 : decode cL_law 1976 = .ok (.iconst 0, 1) := by decide +kernel
theorem dL_law_1977 : decode cL_law 1977 = .ok (.ireturn, 1) := by decide +kernel
theorem dL_law_1978 : decode cL_law 1978 = .ok (.iinc 4 5, 3) := by decide +kernel
theorem dL_law_1981 : decode cL_law 1981 = .ok (.goto (-1958), 3) := by decide +kernel
theorem dL_law_1984 : decode cL_law 1984 = .ok (.iconst 1, 1) := by decide +kernel
theorem dL_law_1985 : decode cL_law 1985 = .ok (.ireturn, 1) := by decide +kernel
end
section
/-! THE CLAIM OUT OF ONE WALK OF THE LAW'S BODY. Your part is whole_start (and what it stands on); all else here is the same for every law, but numbers. -/
def R_law : String := "DrumTownsLaw"
def lw_P (b : Addr) (xs : List Int32) (args : Array Value) (s : State) : Prop := args = #[.ref b] ∧ s.IntsAt b xs ∧ xs.length ≤ 2560 ∧ (Jvm.Cond.and given_1 narrow_1).before args s = true
/-- what a walk over the start with the record d0 says of its end, said of the start itself -/
theorem lw_closed {s t : State} {o : Outcome} {d0 : Drawn} {L : List Loc} {k n : Nat} (hd0 : s.drawn.sameBut d0 lw_cs) (hv : ∃ v, o = .returned v) (hW : (s.setDrawn d0).WarmedH t.vm) (hs : (s.setDrawn d0).sameButNew ({ t with vm := s.vm } : State) L k n) : State.butDraws s t lw_cs (fun t1 => Framed s o t1 L k n) := by
  have h2 : t.drawn = d0 := congrArg State.drawn hs.1
  refine ⟨⟨hv, hW, State.sameButNew.setDrawn hs s.drawn⟩, ?_, by decide⟩
  rw [h2]
  exact hd0
def lw_Q (_ : Array Value) (s : State) (o : Outcome) (t : State) : Prop := o = .returned (some (.int 1)) ∧ State.butDraws s t lw_cs (fun t1 => Framed s o t1 [] 601024 7293034)
def lw_Z (below : List Frame) (a : Array Value) (s : State) : State → Prop := fun t => ∃ o, t.status = .running ∧ Ended t below o ∧ lw_Q a s o t
/-- the law's own end, with 1 on the stack, nothing written that was there before, its room as the claim has it; d0: the record of draws at this point (at the entry s.drawn: begin with 'refine W.base ?_' and 'have hd0 := Drawn.sameBut.refl s.drawn lw_cs') -/
theorem lw_ret {p : Program} {l : Launch} {e : Env} {s : State} {m : MethodId} {below : List Frame} {meth : Method} {c : Code} {b : Nat} {d0 : Drawn} (hd0 : s.drawn.sameBut d0 lw_cs) (hx : p.tables.exec = Jvm.exec) (hb : c.code = code) (hr : meth.sig.returnType = ret) (hlocks : meth.locks = false) {pc : Nat} {H : Heap} {ls : Array Slot} (hdg : decode code pc = .ok (.ireturn, 1)) : W p l e room_1 (s.setDrawn d0) m #[Value.ref b] below meth c H [] 601024 7293034 (lw_Z below #[Value.ref b] s) (F0 m pc ls [.int 1]) := by
  intro T hT X
  obtain ⟨fs, hret, hrun, hended, hW, hframe⟩ := X.leave (v := some (.int 1)) (hlocks := hlocks) (fun h => by rw [hr] at h; cases h)
  have hmeth' : T.vm.method? m = some meth := X.method'
  refine ⟨T.setFrames fs, ?_, .returned (some (.int 1)), hrun, hended, rfl, lw_closed hd0 ⟨_, rfl⟩ hW hframe⟩
  jvm_step X.here [X.here.top, hx, hb, hdg, hmeth', hr, ret, narrow_b1]
  (try refine ⟨rfl, ?_⟩); (try refine ⟨rfl, ?_⟩)
  first | (intro acts; rw [hret _ acts rfl rfl rfl]) | rw [hret _ _ rfl rfl rfl]
  exact Steps.refl _
/-- what holds at the law's entry: the machine, the code, the tables' words (any of lw_tbl by 'hts w (by decide +kernel)'), the script of L ints xs at the cell b, what the Statement gives of the start (any of its parts by flat_of_before) -/
def lw_At (p : Program) (s : State) (m : MethodId) (meth : Method) (c : Code) (b L : Nat) (xs : Nat → Int32) : Prop :=
  p.tables.exec = Jvm.exec ∧ c.code = code ∧ meth.sig.returnType = ret ∧ c.maxLocals = 9 ∧ s.vm.findClass R_law = some m.cls ∧ (∀ w ∈ lw_tbl, w.before #[Value.ref b] s = true) ∧ va_X b L xs s s.heap ∧ b < s.heap.size ∧ meth.locks = false ∧ (Jvm.Cond.and given_1 narrow_1).before #[Value.ref b] s = true
-- ===== YOUR PART BEGINS =====
/-- YOUR PART: from the entry, for every script of at most 2560 ints, the law comes to its end with true ('hflags': the launch's flags, for a law that throws: no stack traces) -/
theorem whole_start {p : Program} {e : Env} {s : State} {m : MethodId} {below : List Frame} {meth : Method} {c : Code} (l : Launch) (hflags : l.flags = flags0) {b L : Nat} {xs : Nat → Int32} (hL : L ≤ 2560) (C0 : lw_At p s m meth c b L xs) : W p l e room_1 s m #[Value.ref b] below meth c s.heap [] 0 0 (lw_Z below #[Value.ref b] s) (entryFrame m ([Value.ref b] : List Value).toArray 9) := by
  sorry
-- ===== YOUR PART ENDS =====
set_option maxHeartbeats 4000000 in
theorem lw_walk (l : Launch) (hflags : l.flags = flags0) (b : Addr) (xs : List Int32) : MetFree l x (headSpec (Jvm.Cond.code x code maxLocals ret :: tables_1) room_1) (lw_P b xs) (fun _ _ _ _ _ => True) lw_Q := by
  refine MetFree.of_bodyS (code := code) (maxLocals := maxLocals) (ret := ret) (by decide) ?_ ?_
  · intro args s m h hn
    obtain ⟨meth, c, h1, h2, h3, h4, h5, h6, -, -⟩ := Cond.code_spec hn (atoms_spec (ws := Jvm.Cond.code x code maxLocals ret :: tables_1) h _ List.mem_cons_self)
    exact ⟨meth, c, h1, h2, h3, h4, h5, h6⟩
  · intro p e s m args below meth c s₁ B hml0 hP _
    obtain ⟨rfl, hx, hbd, hgv⟩ := hP
    obtain ⟨scr, harrAt, hlist, hof, hsmall⟩ := hx
    obtain ⟨hcb, hkn, -, -⟩ := State.arrayAt?_spec harrAt
    have hown : s.vm.findClass R_law = some m.cls := findClass_of_methodNamed B.named
    have hts0 : ∀ c ∈ (Jvm.Cond.code x code maxLocals ret :: tables_1), c.before #[Value.ref b] s = true := atoms_spec (ws := Jvm.Cond.code x code maxLocals ret :: tables_1) B.pre
    have hts : ∀ w ∈ lw_tbl, w.before #[Value.ref b] s = true := k2_hts_sels lw_privs (fun w hw => hts0 w (List.mem_cons_of_mem _ hw)) lw_privs_ok
    have hml : c.maxLocals = 9 := B.maxLocals_eq (hts0 _ List.mem_cons_self)
    have X₀ : Stand p l e room_1 s m #[Value.ref b] below meth c s₁ [] 0 0 := Stand.of_body B
    have hh0 : s₁.heap = s.heap := by rw [B.state]; rfl
    have hsz : scr.slots.size = xs.length := by rw [← Array.length_toList, hlist, List.length_map]
    have hval : ∀ j : Nat, j < xs.length → scr.slots[j]? = some (.int (xs.getD j 0)) := fun j hj => by
      rw [← Array.getElem?_toList, hlist]
      simp [hj]
    have hbl : b < s.heap.size := (Array.getElem?_eq_some_iff.mp hcb).1
    have hX : va_X b xs.length (fun j => xs.getD j 0) s s.heap := ⟨scr, hcb, hof, hkn, hsz, hval⟩
    have K : W p l e room_1 s m #[Value.ref b] below meth c s₁.heap [] 0 0 (lw_Z below #[Value.ref b] s) (entryFrame m ([Value.ref b] : List Value).toArray 9) := by
      rw [hh0]
      exact whole_start l hflags hbd ⟨B.exec, B.bytes, B.returns, hml, hown, hts, hX, hbl, B.notSynchronized, hgv⟩
    obtain ⟨t, a1, o, b1, b2, b3⟩ := K s₁ rfl X₀
    exact ⟨t, o, a1, b1, b2, b3⟩
theorem lw_pre_spec {args : Array Value} {s : State} (h : (Jvm.Cond.and given_1 narrow_1).before args s = true) (hr : rest_1_c.before args s = true) : ∃ (b : Addr) (xs : List Int32), lw_P b xs args s := by
  have hs := flat_of_before _ h
  have hq := flat_of_before _ hr
  have hc : (Cond.count 1).before args s = true := hs _ (by decide +kernel)
  have harr : (Cond.arrayOf (.arg 0) .int).before args s = true := hs _ (by decide +kernel)
  have hle : (Cond.le (.length (.arg 0)) (.int 2560)).before args s = true := hs _ (by decide +kernel)
  have hlen : (Cond.isInt (.length (.arg 0))).before args s = true := hq _ (by decide +kernel)
  have hall : (Cond.all (.arg 0) (.isInt (.elem (.arg 0) (.index 0)))).before args s = true := hq _ (by decide +kernel)
  obtain ⟨b, xs, hb, hx⟩ := State.ints_of_pre rfl harr hlen hall
  have hsm : xs.length < 2 ^ 31 := hx.choose_spec.2.2.2
  have hev : (Term.length (.arg 0)).eval args s none [] s = some (.int xs.length.toInt32) := hx.length_eval hb
  have hv := Cond.le_ints hev (show (Term.int 2560).eval args s none [] s = some (.int 2560) from rfl)
  have hd : xs.length.toInt32 ≤ 2560 := by
    simpa [Cond.before, Cond.holds, hv] using hle
  have hN : xs.length ≤ 2560 := (Int32.ofNat_le_ofNat hsm (by decide)).mp (show Int32.ofNat xs.length ≤ Int32.ofNat 2560 from hd)
  exact ⟨b, xs, Cond.one_arg hc (show args[0]? = some (.ref b) from hb), hx, hN, h⟩
theorem lw_comes (l : Launch) (hflags : l.flags = flags0) : Comes l x (Jvm.Cond.code x code maxLocals ret :: tables_1) room_1 (fun tb e args s => Calls_1 tb e args s ∧ rest_1 tb e args s ∧ Pre_1 tb e args s)
    (fun _ _ args s o t => lw_Q args s o t) := by
  intro p e ha hc hk s m args below hf hfit hheap happ hpre
  obtain ⟨b, xs, hP⟩ := lw_pre_spec hpre.2.2 hpre.2.1
  obtain ⟨k, o, h1, h2, h3, hQ⟩ := lw_walk l hflags b xs p e ha hc hk s m args below hf ((Spec.applies_iff_loose hf).mp happ).1 hP trivial
  exact ⟨k, o, h1, h2, h3, hQ⟩
theorem lw_frame {s t : State} {o : Outcome} {args : Array Value} (h : State.butDraws s t lw_cs (fun t1 => Framed s o t1 [] 601024 7293034)) :
    State.butDraws s t [Jvm.Choice.named "NaN.bits"] (fun t1 => Framed s o t1 (fieldLocs frame_1_writes args s ++ arrayLocs frame_1_arrays args s ++ staticLocs frame_1_statics s) 601024 7293034) := h
theorem lw_limb (L : Cond) (hL : ∀ (args : Array Value) (s t : State), L.after args s (.returned (some (.int 1))) t = true) :
    ArmFor flags0 classFile x code maxLocals ret World_1 tables_1 room_1 Calls_1 rest_1 Pre_1
      (fun tb e a s o t => postC L tb e a s o t ∧ State.butDraws s t [Jvm.Choice.named "NaN.bits"] (fun t1 => Framed s o t1 (fieldLocs frame_1_writes a s ++ arrayLocs frame_1_arrays a s ++ staticLocs frame_1_statics s) 601024 7293034)) := by
  intro l hflags _ _ p e ha hc hk s m args below hf hfit hheap happ hpre
  obtain ⟨k, o, h1, h2, h3, rfl, hF⟩ := lw_comes l hflags p e ha hc hk s m args below hf hfit hheap happ hpre
  exact ⟨k, _, h1, h2, h3, hL args s _, lw_frame hF⟩
theorem i_vc : Claimed_1_1 ∧ Claimed_1_2 := ⟨lw_limb limb_1_1 (fun args s t => by simp [limb_1_1, Cond.after, Cond.holds, Cond.value]), lw_limb limb_1_2 (fun args s t => Cond.after_iff.mpr (by
  first | (rw [show limb_1_2 = Cond.eq .result (.int 1) from rfl, Cond.eq_ints (x := 1) (y := 1) rfl rfl]; simp; done) | (simp [limb_1_2, Cond.value, Term.eval]; done)))⟩
end
