section
-- ===== PART A: goes FIRST, ahead of the names: the tables' words, and 'selects' of the private methods out of them =====
/-- a private method of a class that the tables say can be made, by its rows of tables_1 -/
def lw_okq (q : MethodName × Nat) : Prop := (q.1.cls ≠ "java/lang/invoke/MethodHandle" ∧ q.1.cls ≠ "java/lang/invoke/VarHandle") ∧ Cond.instantiable q.1.cls q.2 ∈ tables_1 ∧ Cond.privateMethod q.1 ∈ tables_1 ∧ Cond.instanceMethod q.1 ∈ tables_1
theorem lw_p0 : lw_okq (⟨"PowerRails", "putWord", "(I)V"⟩, 13) := ⟨⟨by decide +kernel, by decide +kernel⟩, List.mem_of_getElem? (i := 23) (by decide +kernel), List.mem_of_getElem? (i := 445) (by decide +kernel), List.mem_of_getElem? (i := 446) (by decide +kernel)⟩
theorem lw_p1 : lw_okq (⟨"PowerRails$Reader", "cutAll", "(I)V"⟩, 15) := ⟨⟨by decide +kernel, by decide +kernel⟩, List.mem_of_getElem? (i := 31) (by decide +kernel), List.mem_of_getElem? (i := 457) (by decide +kernel), List.mem_of_getElem? (i := 458) (by decide +kernel)⟩
theorem lw_p2 : lw_okq (⟨"PowerRails$Reader", "skipBlanks", "()V"⟩, 15) := ⟨⟨by decide +kernel, by decide +kernel⟩, List.mem_of_getElem? (i := 31) (by decide +kernel), List.mem_of_getElem? (i := 461) (by decide +kernel), List.mem_of_getElem? (i := 462) (by decide +kernel)⟩
theorem lw_p3 : lw_okq (⟨"PowerRails$Reader", "peekByte", "()I"⟩, 15) := ⟨⟨by decide +kernel, by decide +kernel⟩, List.mem_of_getElem? (i := 31) (by decide +kernel), List.mem_of_getElem? (i := 465) (by decide +kernel), List.mem_of_getElem? (i := 466) (by decide +kernel)⟩
theorem lw_p4 : lw_okq (⟨"PowerRails$Reader", "cutToken", "(I)V"⟩, 15) := ⟨⟨by decide +kernel, by decide +kernel⟩, List.mem_of_getElem? (i := 31) (by decide +kernel), List.mem_of_getElem? (i := 469) (by decide +kernel), List.mem_of_getElem? (i := 470) (by decide +kernel)⟩
theorem lw_p5 : lw_okq (⟨"PowerRails$Reader", "cutWord", "()V"⟩, 15) := ⟨⟨by decide +kernel, by decide +kernel⟩, List.mem_of_getElem? (i := 31) (by decide +kernel), List.mem_of_getElem? (i := 473) (by decide +kernel), List.mem_of_getElem? (i := 474) (by decide +kernel)⟩
theorem lw_p6 : lw_okq (⟨"PowerRails$Reader", "wordOfLanguage", "(I)I"⟩, 15) := ⟨⟨by decide +kernel, by decide +kernel⟩, List.mem_of_getElem? (i := 31) (by decide +kernel), List.mem_of_getElem? (i := 477) (by decide +kernel), List.mem_of_getElem? (i := 478) (by decide +kernel)⟩
theorem lw_p7 : lw_okq (⟨"PowerRails$Reader", "cutNumber", "()V"⟩, 15) := ⟨⟨by decide +kernel, by decide +kernel⟩, List.mem_of_getElem? (i := 31) (by decide +kernel), List.mem_of_getElem? (i := 484) (by decide +kernel), List.mem_of_getElem? (i := 485) (by decide +kernel)⟩
theorem lw_p8 : lw_okq (⟨"PowerRails$Reader", "advance", "()V"⟩, 15) := ⟨⟨by decide +kernel, by decide +kernel⟩, List.mem_of_getElem? (i := 31) (by decide +kernel), List.mem_of_getElem? (i := 493) (by decide +kernel), List.mem_of_getElem? (i := 494) (by decide +kernel)⟩
theorem lw_p9 : lw_okq (⟨"PowerRails$Reader", "readLine", "()V"⟩, 15) := ⟨⟨by decide +kernel, by decide +kernel⟩, List.mem_of_getElem? (i := 31) (by decide +kernel), List.mem_of_getElem? (i := 497) (by decide +kernel), List.mem_of_getElem? (i := 498) (by decide +kernel)⟩
theorem lw_p10 : lw_okq (⟨"PowerRails$Reader", "refuse", "(I)V"⟩, 15) := ⟨⟨by decide +kernel, by decide +kernel⟩, List.mem_of_getElem? (i := 31) (by decide +kernel), List.mem_of_getElem? (i := 501) (by decide +kernel), List.mem_of_getElem? (i := 502) (by decide +kernel)⟩
theorem lw_p11 : lw_okq (⟨"PowerRails$Reader", "readRail", "()V"⟩, 15) := ⟨⟨by decide +kernel, by decide +kernel⟩, List.mem_of_getElem? (i := 31) (by decide +kernel), List.mem_of_getElem? (i := 505) (by decide +kernel), List.mem_of_getElem? (i := 506) (by decide +kernel)⟩
theorem lw_p12 : lw_okq (⟨"PowerRails$Reader", "freshName", "()I"⟩, 15) := ⟨⟨by decide +kernel, by decide +kernel⟩, List.mem_of_getElem? (i := 31) (by decide +kernel), List.mem_of_getElem? (i := 509) (by decide +kernel), List.mem_of_getElem? (i := 510) (by decide +kernel)⟩
theorem lw_p13 : lw_okq (⟨"PowerRails$Reader", "take", "(I)V"⟩, 15) := ⟨⟨by decide +kernel, by decide +kernel⟩, List.mem_of_getElem? (i := 31) (by decide +kernel), List.mem_of_getElem? (i := 517) (by decide +kernel), List.mem_of_getElem? (i := 518) (by decide +kernel)⟩
theorem lw_p14 : lw_okq (⟨"PowerRails$Reader", "parentOrSource", "()I"⟩, 15) := ⟨⟨by decide +kernel, by decide +kernel⟩, List.mem_of_getElem? (i := 31) (by decide +kernel), List.mem_of_getElem? (i := 521) (by decide +kernel), List.mem_of_getElem? (i := 522) (by decide +kernel)⟩
theorem lw_p15 : lw_okq (⟨"PowerRails$Reader", "toldRail", "()I"⟩, 15) := ⟨⟨by decide +kernel, by decide +kernel⟩, List.mem_of_getElem? (i := 31) (by decide +kernel), List.mem_of_getElem? (i := 525) (by decide +kernel), List.mem_of_getElem? (i := 526) (by decide +kernel)⟩
def lw_privs_1 : List (MethodName × Nat) := [(⟨"PowerRails", "putWord", "(I)V"⟩, 13), (⟨"PowerRails$Reader", "cutAll", "(I)V"⟩, 15), (⟨"PowerRails$Reader", "skipBlanks", "()V"⟩, 15), (⟨"PowerRails$Reader", "peekByte", "()I"⟩, 15), (⟨"PowerRails$Reader", "cutToken", "(I)V"⟩, 15), (⟨"PowerRails$Reader", "cutWord", "()V"⟩, 15), (⟨"PowerRails$Reader", "wordOfLanguage", "(I)I"⟩, 15), (⟨"PowerRails$Reader", "cutNumber", "()V"⟩, 15), (⟨"PowerRails$Reader", "advance", "()V"⟩, 15), (⟨"PowerRails$Reader", "readLine", "()V"⟩, 15), (⟨"PowerRails$Reader", "refuse", "(I)V"⟩, 15), (⟨"PowerRails$Reader", "readRail", "()V"⟩, 15), (⟨"PowerRails$Reader", "freshName", "()I"⟩, 15), (⟨"PowerRails$Reader", "take", "(I)V"⟩, 15), (⟨"PowerRails$Reader", "parentOrSource", "()I"⟩, 15), (⟨"PowerRails$Reader", "toldRail", "()I"⟩, 15)]
theorem lw_r1 : ∀ q ∈ lw_privs_1, lw_okq q := List.forall_mem_cons.mpr ⟨lw_p0, List.forall_mem_cons.mpr ⟨lw_p1, List.forall_mem_cons.mpr ⟨lw_p2, List.forall_mem_cons.mpr ⟨lw_p3, List.forall_mem_cons.mpr ⟨lw_p4, List.forall_mem_cons.mpr ⟨lw_p5, List.forall_mem_cons.mpr ⟨lw_p6, List.forall_mem_cons.mpr ⟨lw_p7, List.forall_mem_cons.mpr ⟨lw_p8, List.forall_mem_cons.mpr ⟨lw_p9, List.forall_mem_cons.mpr ⟨lw_p10, List.forall_mem_cons.mpr ⟨lw_p11, List.forall_mem_cons.mpr ⟨lw_p12, List.forall_mem_cons.mpr ⟨lw_p13, List.forall_mem_cons.mpr ⟨lw_p14, List.forall_mem_cons.mpr ⟨lw_p15, fun _ h => absurd h List.not_mem_nil⟩⟩⟩⟩⟩⟩⟩⟩⟩⟩⟩⟩⟩⟩⟩⟩
theorem lw_p16 : lw_okq (⟨"PowerRails$Reader", "number", "(II)I"⟩, 15) := ⟨⟨by decide +kernel, by decide +kernel⟩, List.mem_of_getElem? (i := 31) (by decide +kernel), List.mem_of_getElem? (i := 532) (by decide +kernel), List.mem_of_getElem? (i := 533) (by decide +kernel)⟩
theorem lw_p17 : lw_okq (⟨"PowerRails$Reader", "readNeed", "()V"⟩, 15) := ⟨⟨by decide +kernel, by decide +kernel⟩, List.mem_of_getElem? (i := 31) (by decide +kernel), List.mem_of_getElem? (i := 537) (by decide +kernel), List.mem_of_getElem? (i := 538) (by decide +kernel)⟩
theorem lw_p18 : lw_okq (⟨"PowerRails$Reader", "readStep", "(I)V"⟩, 15) := ⟨⟨by decide +kernel, by decide +kernel⟩, List.mem_of_getElem? (i := 31) (by decide +kernel), List.mem_of_getElem? (i := 545) (by decide +kernel), List.mem_of_getElem? (i := 546) (by decide +kernel)⟩
theorem lw_p19 : lw_okq (⟨"PowerRails$Reader", "readSetting", "(I)V"⟩, 15) := ⟨⟨by decide +kernel, by decide +kernel⟩, List.mem_of_getElem? (i := 31) (by decide +kernel), List.mem_of_getElem? (i := 553) (by decide +kernel), List.mem_of_getElem? (i := 554) (by decide +kernel)⟩
theorem lw_p20 : lw_okq (⟨"PowerRails", "forgetPast", "()V"⟩, 13) := ⟨⟨by decide +kernel, by decide +kernel⟩, List.mem_of_getElem? (i := 23) (by decide +kernel), List.mem_of_getElem? (i := 574) (by decide +kernel), List.mem_of_getElem? (i := 575) (by decide +kernel)⟩
theorem lw_p21 : lw_okq (⟨"PowerRails", "remember", "()V"⟩, 13) := ⟨⟨by decide +kernel, by decide +kernel⟩, List.mem_of_getElem? (i := 23) (by decide +kernel), List.mem_of_getElem? (i := 591) (by decide +kernel), List.mem_of_getElem? (i := 592) (by decide +kernel)⟩
theorem lw_p22 : lw_okq (⟨"PowerRails$Board", "comeAgain", "()V"⟩, 11) := ⟨⟨by decide +kernel, by decide +kernel⟩, List.mem_of_getElem? (i := 260) (by decide +kernel), List.mem_of_getElem? (i := 615) (by decide +kernel), List.mem_of_getElem? (i := 616) (by decide +kernel)⟩
theorem lw_p23 : lw_okq (⟨"PowerRails$Board", "waitIfOff", "(I)V"⟩, 11) := ⟨⟨by decide +kernel, by decide +kernel⟩, List.mem_of_getElem? (i := 260) (by decide +kernel), List.mem_of_getElem? (i := 619) (by decide +kernel), List.mem_of_getElem? (i := 620) (by decide +kernel)⟩
theorem lw_p24 : lw_okq (⟨"PowerRails$Board", "write", "(II)V"⟩, 11) := ⟨⟨by decide +kernel, by decide +kernel⟩, List.mem_of_getElem? (i := 260) (by decide +kernel), List.mem_of_getElem? (i := 627) (by decide +kernel), List.mem_of_getElem? (i := 628) (by decide +kernel)⟩
theorem lw_p25 : lw_okq (⟨"PowerRails$Board", "runSequence", "()V"⟩, 11) := ⟨⟨by decide +kernel, by decide +kernel⟩, List.mem_of_getElem? (i := 260) (by decide +kernel), List.mem_of_getElem? (i := 634) (by decide +kernel), List.mem_of_getElem? (i := 635) (by decide +kernel)⟩
theorem lw_p26 : lw_okq (⟨"PowerRails$Board", "takesStep", "()Z"⟩, 11) := ⟨⟨by decide +kernel, by decide +kernel⟩, List.mem_of_getElem? (i := 260) (by decide +kernel), List.mem_of_getElem? (i := 638) (by decide +kernel), List.mem_of_getElem? (i := 639) (by decide +kernel)⟩
theorem lw_p27 : lw_okq (⟨"PowerRails$Board", "unwind", "(I)V"⟩, 11) := ⟨⟨by decide +kernel, by decide +kernel⟩, List.mem_of_getElem? (i := 260) (by decide +kernel), List.mem_of_getElem? (i := 654) (by decide +kernel), List.mem_of_getElem? (i := 655) (by decide +kernel)⟩
theorem lw_p28 : lw_okq (⟨"PowerRails$Board", "latestToGo", "(I)I"⟩, 11) := ⟨⟨by decide +kernel, by decide +kernel⟩, List.mem_of_getElem? (i := 260) (by decide +kernel), List.mem_of_getElem? (i := 658) (by decide +kernel), List.mem_of_getElem? (i := 659) (by decide +kernel)⟩
theorem lw_p29 : lw_okq (⟨"PowerRails$Board", "failSequence", "()V"⟩, 11) := ⟨⟨by decide +kernel, by decide +kernel⟩, List.mem_of_getElem? (i := 260) (by decide +kernel), List.mem_of_getElem? (i := 666) (by decide +kernel), List.mem_of_getElem? (i := 667) (by decide +kernel)⟩
theorem lw_p30 : lw_okq (⟨"PowerRails$Board", "beginToRise", "()V"⟩, 11) := ⟨⟨by decide +kernel, by decide +kernel⟩, List.mem_of_getElem? (i := 260) (by decide +kernel), List.mem_of_getElem? (i := 674) (by decide +kernel), List.mem_of_getElem? (i := 675) (by decide +kernel)⟩
theorem lw_p31 : lw_okq (⟨"PowerRails$Board", "moveVolts", "()V"⟩, 11) := ⟨⟨by decide +kernel, by decide +kernel⟩, List.mem_of_getElem? (i := 260) (by decide +kernel), List.mem_of_getElem? (i := 690) (by decide +kernel), List.mem_of_getElem? (i := 691) (by decide +kernel)⟩
def lw_privs_2 : List (MethodName × Nat) := [(⟨"PowerRails$Reader", "number", "(II)I"⟩, 15), (⟨"PowerRails$Reader", "readNeed", "()V"⟩, 15), (⟨"PowerRails$Reader", "readStep", "(I)V"⟩, 15), (⟨"PowerRails$Reader", "readSetting", "(I)V"⟩, 15), (⟨"PowerRails", "forgetPast", "()V"⟩, 13), (⟨"PowerRails", "remember", "()V"⟩, 13), (⟨"PowerRails$Board", "comeAgain", "()V"⟩, 11), (⟨"PowerRails$Board", "waitIfOff", "(I)V"⟩, 11), (⟨"PowerRails$Board", "write", "(II)V"⟩, 11), (⟨"PowerRails$Board", "runSequence", "()V"⟩, 11), (⟨"PowerRails$Board", "takesStep", "()Z"⟩, 11), (⟨"PowerRails$Board", "unwind", "(I)V"⟩, 11), (⟨"PowerRails$Board", "latestToGo", "(I)I"⟩, 11), (⟨"PowerRails$Board", "failSequence", "()V"⟩, 11), (⟨"PowerRails$Board", "beginToRise", "()V"⟩, 11), (⟨"PowerRails$Board", "moveVolts", "()V"⟩, 11)]
theorem lw_r2 : ∀ q ∈ lw_privs_2, lw_okq q := List.forall_mem_cons.mpr ⟨lw_p16, List.forall_mem_cons.mpr ⟨lw_p17, List.forall_mem_cons.mpr ⟨lw_p18, List.forall_mem_cons.mpr ⟨lw_p19, List.forall_mem_cons.mpr ⟨lw_p20, List.forall_mem_cons.mpr ⟨lw_p21, List.forall_mem_cons.mpr ⟨lw_p22, List.forall_mem_cons.mpr ⟨lw_p23, List.forall_mem_cons.mpr ⟨lw_p24, List.forall_mem_cons.mpr ⟨lw_p25, List.forall_mem_cons.mpr ⟨lw_p26, List.forall_mem_cons.mpr ⟨lw_p27, List.forall_mem_cons.mpr ⟨lw_p28, List.forall_mem_cons.mpr ⟨lw_p29, List.forall_mem_cons.mpr ⟨lw_p30, List.forall_mem_cons.mpr ⟨lw_p31, fun _ h => absurd h List.not_mem_nil⟩⟩⟩⟩⟩⟩⟩⟩⟩⟩⟩⟩⟩⟩⟩⟩
theorem lw_p32 : lw_okq (⟨"PowerRails$Board", "goOff", "(I)V"⟩, 11) := ⟨⟨by decide +kernel, by decide +kernel⟩, List.mem_of_getElem? (i := 260) (by decide +kernel), List.mem_of_getElem? (i := 696) (by decide +kernel), List.mem_of_getElem? (i := 697) (by decide +kernel)⟩
theorem lw_p33 : lw_okq (⟨"PowerRails$Board", "measureDraws", "()V"⟩, 11) := ⟨⟨by decide +kernel, by decide +kernel⟩, List.mem_of_getElem? (i := 260) (by decide +kernel), List.mem_of_getElem? (i := 700) (by decide +kernel), List.mem_of_getElem? (i := 701) (by decide +kernel)⟩
theorem lw_p34 : lw_okq (⟨"PowerRails$Board", "tripTheLow", "()V"⟩, 11) := ⟨⟨by decide +kernel, by decide +kernel⟩, List.mem_of_getElem? (i := 260) (by decide +kernel), List.mem_of_getElem? (i := 704) (by decide +kernel), List.mem_of_getElem? (i := 705) (by decide +kernel)⟩
theorem lw_p35 : lw_okq (⟨"PowerRails$Board", "trip", "(I)V"⟩, 11) := ⟨⟨by decide +kernel, by decide +kernel⟩, List.mem_of_getElem? (i := 260) (by decide +kernel), List.mem_of_getElem? (i := 712) (by decide +kernel), List.mem_of_getElem? (i := 713) (by decide +kernel)⟩
theorem lw_p36 : lw_okq (⟨"PowerRails$Board", "tripTheLatest", "()V"⟩, 11) := ⟨⟨by decide +kernel, by decide +kernel⟩, List.mem_of_getElem? (i := 260) (by decide +kernel), List.mem_of_getElem? (i := 716) (by decide +kernel), List.mem_of_getElem? (i := 717) (by decide +kernel)⟩
theorem lw_p37 : lw_okq (⟨"PowerRails$Board", "letFirstFall", "()V"⟩, 11) := ⟨⟨by decide +kernel, by decide +kernel⟩, List.mem_of_getElem? (i := 260) (by decide +kernel), List.mem_of_getElem? (i := 720) (by decide +kernel), List.mem_of_getElem? (i := 721) (by decide +kernel)⟩
theorem lw_p38 : lw_okq (⟨"PowerRails", "isRail", "(I)Z"⟩, 13) := ⟨⟨by decide +kernel, by decide +kernel⟩, List.mem_of_getElem? (i := 23) (by decide +kernel), List.mem_of_getElem? (i := 728) (by decide +kernel), List.mem_of_getElem? (i := 729) (by decide +kernel)⟩
theorem lw_p39 : lw_okq (⟨"PowerRails", "totalIfOff", "(II)I"⟩, 13) := ⟨⟨by decide +kernel, by decide +kernel⟩, List.mem_of_getElem? (i := 23) (by decide +kernel), List.mem_of_getElem? (i := 901) (by decide +kernel), List.mem_of_getElem? (i := 902) (by decide +kernel)⟩
theorem lw_p40 : lw_okq (⟨"java/lang/Throwable", "fillInStackTrace", "(I)Ljava/lang/Throwable;"⟩, 6) := ⟨⟨by decide +kernel, by decide +kernel⟩, List.mem_of_getElem? (i := 980) (by decide +kernel), List.mem_of_getElem? (i := 978) (by decide +kernel), List.mem_of_getElem? (i := 979) (by decide +kernel)⟩
theorem lw_p41 : lw_okq (⟨"PowerRailsModel", "freshText", "()V"⟩, 41) := ⟨⟨by decide +kernel, by decide +kernel⟩, List.mem_of_getElem? (i := 1021) (by decide +kernel), List.mem_of_getElem? (i := 1027) (by decide +kernel), List.mem_of_getElem? (i := 1028) (by decide +kernel)⟩
theorem lw_p42 : lw_okq (⟨"PowerRailsModel", "reads", "(II)V"⟩, 41) := ⟨⟨by decide +kernel, by decide +kernel⟩, List.mem_of_getElem? (i := 1021) (by decide +kernel), List.mem_of_getElem? (i := 1031) (by decide +kernel), List.mem_of_getElem? (i := 1032) (by decide +kernel)⟩
theorem lw_p43 : lw_okq (⟨"PowerRailsModel", "takeText", "()V"⟩, 41) := ⟨⟨by decide +kernel, by decide +kernel⟩, List.mem_of_getElem? (i := 1021) (by decide +kernel), List.mem_of_getElem? (i := 1036) (by decide +kernel), List.mem_of_getElem? (i := 1037) (by decide +kernel)⟩
theorem lw_p44 : lw_okq (⟨"PowerRailsModel", "reading", "(I)I"⟩, 41) := ⟨⟨by decide +kernel, by decide +kernel⟩, List.mem_of_getElem? (i := 1021) (by decide +kernel), List.mem_of_getElem? (i := 1040) (by decide +kernel), List.mem_of_getElem? (i := 1041) (by decide +kernel)⟩
theorem lw_p45 : lw_okq (⟨"PowerRailsModel", "laysOn", "()V"⟩, 41) := ⟨⟨by decide +kernel, by decide +kernel⟩, List.mem_of_getElem? (i := 1021) (by decide +kernel), List.mem_of_getElem? (i := 1044) (by decide +kernel), List.mem_of_getElem? (i := 1045) (by decide +kernel)⟩
theorem lw_p46 : lw_okq (⟨"PowerRailsModel", "rails", "()I"⟩, 41) := ⟨⟨by decide +kernel, by decide +kernel⟩, List.mem_of_getElem? (i := 1021) (by decide +kernel), List.mem_of_getElem? (i := 1048) (by decide +kernel), List.mem_of_getElem? (i := 1049) (by decide +kernel)⟩
theorem lw_p47 : lw_okq (⟨"PowerRailsModel", "begins", "()V"⟩, 41) := ⟨⟨by decide +kernel, by decide +kernel⟩, List.mem_of_getElem? (i := 1021) (by decide +kernel), List.mem_of_getElem? (i := 1052) (by decide +kernel), List.mem_of_getElem? (i := 1053) (by decide +kernel)⟩
def lw_privs_3 : List (MethodName × Nat) := [(⟨"PowerRails$Board", "goOff", "(I)V"⟩, 11), (⟨"PowerRails$Board", "measureDraws", "()V"⟩, 11), (⟨"PowerRails$Board", "tripTheLow", "()V"⟩, 11), (⟨"PowerRails$Board", "trip", "(I)V"⟩, 11), (⟨"PowerRails$Board", "tripTheLatest", "()V"⟩, 11), (⟨"PowerRails$Board", "letFirstFall", "()V"⟩, 11), (⟨"PowerRails", "isRail", "(I)Z"⟩, 13), (⟨"PowerRails", "totalIfOff", "(II)I"⟩, 13), (⟨"java/lang/Throwable", "fillInStackTrace", "(I)Ljava/lang/Throwable;"⟩, 6), (⟨"PowerRailsModel", "freshText", "()V"⟩, 41), (⟨"PowerRailsModel", "reads", "(II)V"⟩, 41), (⟨"PowerRailsModel", "takeText", "()V"⟩, 41), (⟨"PowerRailsModel", "reading", "(I)I"⟩, 41), (⟨"PowerRailsModel", "laysOn", "()V"⟩, 41), (⟨"PowerRailsModel", "rails", "()I"⟩, 41), (⟨"PowerRailsModel", "begins", "()V"⟩, 41)]
theorem lw_r3 : ∀ q ∈ lw_privs_3, lw_okq q := List.forall_mem_cons.mpr ⟨lw_p32, List.forall_mem_cons.mpr ⟨lw_p33, List.forall_mem_cons.mpr ⟨lw_p34, List.forall_mem_cons.mpr ⟨lw_p35, List.forall_mem_cons.mpr ⟨lw_p36, List.forall_mem_cons.mpr ⟨lw_p37, List.forall_mem_cons.mpr ⟨lw_p38, List.forall_mem_cons.mpr ⟨lw_p39, List.forall_mem_cons.mpr ⟨lw_p40, List.forall_mem_cons.mpr ⟨lw_p41, List.forall_mem_cons.mpr ⟨lw_p42, List.forall_mem_cons.mpr ⟨lw_p43, List.forall_mem_cons.mpr ⟨lw_p44, List.forall_mem_cons.mpr ⟨lw_p45, List.forall_mem_cons.mpr ⟨lw_p46, List.forall_mem_cons.mpr ⟨lw_p47, fun _ h => absurd h List.not_mem_nil⟩⟩⟩⟩⟩⟩⟩⟩⟩⟩⟩⟩⟩⟩⟩⟩
theorem lw_p48 : lw_okq (⟨"PowerRailsModel", "readText", "(I)V"⟩, 41) := ⟨⟨by decide +kernel, by decide +kernel⟩, List.mem_of_getElem? (i := 1021) (by decide +kernel), List.mem_of_getElem? (i := 1193) (by decide +kernel), List.mem_of_getElem? (i := 1194) (by decide +kernel)⟩
theorem lw_p49 : lw_okq (⟨"PowerRailsModel", "token", "()V"⟩, 41) := ⟨⟨by decide +kernel, by decide +kernel⟩, List.mem_of_getElem? (i := 1021) (by decide +kernel), List.mem_of_getElem? (i := 1197) (by decide +kernel), List.mem_of_getElem? (i := 1198) (by decide +kernel)⟩
theorem lw_p50 : lw_okq (⟨"PowerRailsModel", "here", "()I"⟩, 41) := ⟨⟨by decide +kernel, by decide +kernel⟩, List.mem_of_getElem? (i := 1021) (by decide +kernel), List.mem_of_getElem? (i := 1201) (by decide +kernel), List.mem_of_getElem? (i := 1202) (by decide +kernel)⟩
theorem lw_p51 : lw_okq (⟨"PowerRailsModel", "wordHere", "()I"⟩, 41) := ⟨⟨by decide +kernel, by decide +kernel⟩, List.mem_of_getElem? (i := 1021) (by decide +kernel), List.mem_of_getElem? (i := 1208) (by decide +kernel), List.mem_of_getElem? (i := 1209) (by decide +kernel)⟩
theorem lw_p52 : lw_okq (⟨"PowerRailsModel", "nameHere", "()V"⟩, 41) := ⟨⟨by decide +kernel, by decide +kernel⟩, List.mem_of_getElem? (i := 1021) (by decide +kernel), List.mem_of_getElem? (i := 1215) (by decide +kernel), List.mem_of_getElem? (i := 1216) (by decide +kernel)⟩
theorem lw_p53 : lw_okq (⟨"PowerRailsModel", "readLine", "()V"⟩, 41) := ⟨⟨by decide +kernel, by decide +kernel⟩, List.mem_of_getElem? (i := 1021) (by decide +kernel), List.mem_of_getElem? (i := 1223) (by decide +kernel), List.mem_of_getElem? (i := 1224) (by decide +kernel)⟩
theorem lw_p54 : lw_okq (⟨"PowerRailsModel", "wrong", "(I)V"⟩, 41) := ⟨⟨by decide +kernel, by decide +kernel⟩, List.mem_of_getElem? (i := 1021) (by decide +kernel), List.mem_of_getElem? (i := 1227) (by decide +kernel), List.mem_of_getElem? (i := 1228) (by decide +kernel)⟩
theorem lw_p55 : lw_okq (⟨"PowerRailsModel", "readRail", "()V"⟩, 41) := ⟨⟨by decide +kernel, by decide +kernel⟩, List.mem_of_getElem? (i := 1021) (by decide +kernel), List.mem_of_getElem? (i := 1231) (by decide +kernel), List.mem_of_getElem? (i := 1232) (by decide +kernel)⟩
theorem lw_p56 : lw_okq (⟨"PowerRailsModel", "goOn", "()V"⟩, 41) := ⟨⟨by decide +kernel, by decide +kernel⟩, List.mem_of_getElem? (i := 1021) (by decide +kernel), List.mem_of_getElem? (i := 1235) (by decide +kernel), List.mem_of_getElem? (i := 1236) (by decide +kernel)⟩
theorem lw_p57 : lw_okq (⟨"PowerRailsModel", "namedAt", "(III)I"⟩, 41) := ⟨⟨by decide +kernel, by decide +kernel⟩, List.mem_of_getElem? (i := 1021) (by decide +kernel), List.mem_of_getElem? (i := 1239) (by decide +kernel), List.mem_of_getElem? (i := 1240) (by decide +kernel)⟩
theorem lw_p58 : lw_okq (⟨"PowerRailsModel", "railHere", "()I"⟩, 41) := ⟨⟨by decide +kernel, by decide +kernel⟩, List.mem_of_getElem? (i := 1021) (by decide +kernel), List.mem_of_getElem? (i := 1243) (by decide +kernel), List.mem_of_getElem? (i := 1244) (by decide +kernel)⟩
theorem lw_p59 : lw_okq (⟨"PowerRailsModel", "numeral", "(II)I"⟩, 41) := ⟨⟨by decide +kernel, by decide +kernel⟩, List.mem_of_getElem? (i := 1021) (by decide +kernel), List.mem_of_getElem? (i := 1247) (by decide +kernel), List.mem_of_getElem? (i := 1248) (by decide +kernel)⟩
theorem lw_p60 : lw_okq (⟨"PowerRailsModel", "readNeeds", "()V"⟩, 41) := ⟨⟨by decide +kernel, by decide +kernel⟩, List.mem_of_getElem? (i := 1021) (by decide +kernel), List.mem_of_getElem? (i := 1251) (by decide +kernel), List.mem_of_getElem? (i := 1252) (by decide +kernel)⟩
theorem lw_p61 : lw_okq (⟨"PowerRailsModel", "readStep", "(I)V"⟩, 41) := ⟨⟨by decide +kernel, by decide +kernel⟩, List.mem_of_getElem? (i := 1021) (by decide +kernel), List.mem_of_getElem? (i := 1255) (by decide +kernel), List.mem_of_getElem? (i := 1256) (by decide +kernel)⟩
theorem lw_p62 : lw_okq (⟨"PowerRailsModel", "readOnce", "(IIII)V"⟩, 41) := ⟨⟨by decide +kernel, by decide +kernel⟩, List.mem_of_getElem? (i := 1021) (by decide +kernel), List.mem_of_getElem? (i := 1259) (by decide +kernel), List.mem_of_getElem? (i := 1260) (by decide +kernel)⟩
theorem lw_p63 : lw_okq (⟨"PowerRailsModel", "readRetry", "()V"⟩, 41) := ⟨⟨by decide +kernel, by decide +kernel⟩, List.mem_of_getElem? (i := 1021) (by decide +kernel), List.mem_of_getElem? (i := 1263) (by decide +kernel), List.mem_of_getElem? (i := 1264) (by decide +kernel)⟩
def lw_privs_4 : List (MethodName × Nat) := [(⟨"PowerRailsModel", "readText", "(I)V"⟩, 41), (⟨"PowerRailsModel", "token", "()V"⟩, 41), (⟨"PowerRailsModel", "here", "()I"⟩, 41), (⟨"PowerRailsModel", "wordHere", "()I"⟩, 41), (⟨"PowerRailsModel", "nameHere", "()V"⟩, 41), (⟨"PowerRailsModel", "readLine", "()V"⟩, 41), (⟨"PowerRailsModel", "wrong", "(I)V"⟩, 41), (⟨"PowerRailsModel", "readRail", "()V"⟩, 41), (⟨"PowerRailsModel", "goOn", "()V"⟩, 41), (⟨"PowerRailsModel", "namedAt", "(III)I"⟩, 41), (⟨"PowerRailsModel", "railHere", "()I"⟩, 41), (⟨"PowerRailsModel", "numeral", "(II)I"⟩, 41), (⟨"PowerRailsModel", "readNeeds", "()V"⟩, 41), (⟨"PowerRailsModel", "readStep", "(I)V"⟩, 41), (⟨"PowerRailsModel", "readOnce", "(IIII)V"⟩, 41), (⟨"PowerRailsModel", "readRetry", "()V"⟩, 41)]
theorem lw_r4 : ∀ q ∈ lw_privs_4, lw_okq q := List.forall_mem_cons.mpr ⟨lw_p48, List.forall_mem_cons.mpr ⟨lw_p49, List.forall_mem_cons.mpr ⟨lw_p50, List.forall_mem_cons.mpr ⟨lw_p51, List.forall_mem_cons.mpr ⟨lw_p52, List.forall_mem_cons.mpr ⟨lw_p53, List.forall_mem_cons.mpr ⟨lw_p54, List.forall_mem_cons.mpr ⟨lw_p55, List.forall_mem_cons.mpr ⟨lw_p56, List.forall_mem_cons.mpr ⟨lw_p57, List.forall_mem_cons.mpr ⟨lw_p58, List.forall_mem_cons.mpr ⟨lw_p59, List.forall_mem_cons.mpr ⟨lw_p60, List.forall_mem_cons.mpr ⟨lw_p61, List.forall_mem_cons.mpr ⟨lw_p62, List.forall_mem_cons.mpr ⟨lw_p63, fun _ h => absurd h List.not_mem_nil⟩⟩⟩⟩⟩⟩⟩⟩⟩⟩⟩⟩⟩⟩⟩⟩
theorem lw_p64 : lw_okq (⟨"PowerRailsModel", "remembers", "()V"⟩, 41) := ⟨⟨by decide +kernel, by decide +kernel⟩, List.mem_of_getElem? (i := 1021) (by decide +kernel), List.mem_of_getElem? (i := 1294) (by decide +kernel), List.mem_of_getElem? (i := 1295) (by decide +kernel)⟩
theorem lw_p65 : lw_okq (⟨"PowerRailsModel", "tickGoes", "()V"⟩, 41) := ⟨⟨by decide +kernel, by decide +kernel⟩, List.mem_of_getElem? (i := 1021) (by decide +kernel), List.mem_of_getElem? (i := 1298) (by decide +kernel), List.mem_of_getElem? (i := 1299) (by decide +kernel)⟩
theorem lw_p66 : lw_okq (⟨"PowerRailsModel", "comeAgain", "()V"⟩, 41) := ⟨⟨by decide +kernel, by decide +kernel⟩, List.mem_of_getElem? (i := 1021) (by decide +kernel), List.mem_of_getElem? (i := 1302) (by decide +kernel), List.mem_of_getElem? (i := 1303) (by decide +kernel)⟩
theorem lw_p67 : lw_okq (⟨"PowerRailsModel", "state", "(I)I"⟩, 41) := ⟨⟨by decide +kernel, by decide +kernel⟩, List.mem_of_getElem? (i := 1021) (by decide +kernel), List.mem_of_getElem? (i := 1306) (by decide +kernel), List.mem_of_getElem? (i := 1307) (by decide +kernel)⟩
theorem lw_p68 : lw_okq (⟨"PowerRailsModel", "waitsNow", "(I)V"⟩, 41) := ⟨⟨by decide +kernel, by decide +kernel⟩, List.mem_of_getElem? (i := 1021) (by decide +kernel), List.mem_of_getElem? (i := 1310) (by decide +kernel), List.mem_of_getElem? (i := 1311) (by decide +kernel)⟩
theorem lw_p69 : lw_okq (⟨"PowerRailsModel", "state", "(II)V"⟩, 41) := ⟨⟨by decide +kernel, by decide +kernel⟩, List.mem_of_getElem? (i := 1021) (by decide +kernel), List.mem_of_getElem? (i := 1314) (by decide +kernel), List.mem_of_getElem? (i := 1315) (by decide +kernel)⟩
theorem lw_p70 : lw_okq (⟨"PowerRailsModel", "comesTo", "(II)V"⟩, 41) := ⟨⟨by decide +kernel, by decide +kernel⟩, List.mem_of_getElem? (i := 1021) (by decide +kernel), List.mem_of_getElem? (i := 1318) (by decide +kernel), List.mem_of_getElem? (i := 1319) (by decide +kernel)⟩
theorem lw_p71 : lw_okq (⟨"PowerRailsModel", "logs", "(II)V"⟩, 41) := ⟨⟨by decide +kernel, by decide +kernel⟩, List.mem_of_getElem? (i := 1021) (by decide +kernel), List.mem_of_getElem? (i := 1322) (by decide +kernel), List.mem_of_getElem? (i := 1323) (by decide +kernel)⟩
theorem lw_p72 : lw_okq (⟨"PowerRailsModel", "sequenceGoes", "()V"⟩, 41) := ⟨⟨by decide +kernel, by decide +kernel⟩, List.mem_of_getElem? (i := 1021) (by decide +kernel), List.mem_of_getElem? (i := 1326) (by decide +kernel), List.mem_of_getElem? (i := 1327) (by decide +kernel)⟩
theorem lw_p73 : lw_okq (⟨"PowerRailsModel", "isThrough", "(I)Z"⟩, 41) := ⟨⟨by decide +kernel, by decide +kernel⟩, List.mem_of_getElem? (i := 1021) (by decide +kernel), List.mem_of_getElem? (i := 1330) (by decide +kernel), List.mem_of_getElem? (i := 1331) (by decide +kernel)⟩
theorem lw_p74 : lw_okq (⟨"PowerRailsModel", "asks", "(IZ)V"⟩, 41) := ⟨⟨by decide +kernel, by decide +kernel⟩, List.mem_of_getElem? (i := 1021) (by decide +kernel), List.mem_of_getElem? (i := 1334) (by decide +kernel), List.mem_of_getElem? (i := 1335) (by decide +kernel)⟩
theorem lw_p75 : lw_okq (⟨"PowerRailsModel", "goesOut", "(II)V"⟩, 41) := ⟨⟨by decide +kernel, by decide +kernel⟩, List.mem_of_getElem? (i := 1021) (by decide +kernel), List.mem_of_getElem? (i := 1338) (by decide +kernel), List.mem_of_getElem? (i := 1339) (by decide +kernel)⟩
theorem lw_p76 : lw_okq (⟨"PowerRailsModel", "hangOn", "(I)I"⟩, 41) := ⟨⟨by decide +kernel, by decide +kernel⟩, List.mem_of_getElem? (i := 1021) (by decide +kernel), List.mem_of_getElem? (i := 1342) (by decide +kernel), List.mem_of_getElem? (i := 1343) (by decide +kernel)⟩
theorem lw_p77 : lw_okq (⟨"PowerRailsModel", "unwinds", "(II)V"⟩, 41) := ⟨⟨by decide +kernel, by decide +kernel⟩, List.mem_of_getElem? (i := 1021) (by decide +kernel), List.mem_of_getElem? (i := 1346) (by decide +kernel), List.mem_of_getElem? (i := 1347) (by decide +kernel)⟩
theorem lw_p78 : lw_okq (⟨"PowerRailsModel", "latestOf", "(I)I"⟩, 41) := ⟨⟨by decide +kernel, by decide +kernel⟩, List.mem_of_getElem? (i := 1021) (by decide +kernel), List.mem_of_getElem? (i := 1350) (by decide +kernel), List.mem_of_getElem? (i := 1351) (by decide +kernel)⟩
theorem lw_p79 : lw_okq (⟨"PowerRailsModel", "isLive", "(I)Z"⟩, 41) := ⟨⟨by decide +kernel, by decide +kernel⟩, List.mem_of_getElem? (i := 1021) (by decide +kernel), List.mem_of_getElem? (i := 1354) (by decide +kernel), List.mem_of_getElem? (i := 1355) (by decide +kernel)⟩
def lw_privs_5 : List (MethodName × Nat) := [(⟨"PowerRailsModel", "remembers", "()V"⟩, 41), (⟨"PowerRailsModel", "tickGoes", "()V"⟩, 41), (⟨"PowerRailsModel", "comeAgain", "()V"⟩, 41), (⟨"PowerRailsModel", "state", "(I)I"⟩, 41), (⟨"PowerRailsModel", "waitsNow", "(I)V"⟩, 41), (⟨"PowerRailsModel", "state", "(II)V"⟩, 41), (⟨"PowerRailsModel", "comesTo", "(II)V"⟩, 41), (⟨"PowerRailsModel", "logs", "(II)V"⟩, 41), (⟨"PowerRailsModel", "sequenceGoes", "()V"⟩, 41), (⟨"PowerRailsModel", "isThrough", "(I)Z"⟩, 41), (⟨"PowerRailsModel", "asks", "(IZ)V"⟩, 41), (⟨"PowerRailsModel", "goesOut", "(II)V"⟩, 41), (⟨"PowerRailsModel", "hangOn", "(I)I"⟩, 41), (⟨"PowerRailsModel", "unwinds", "(II)V"⟩, 41), (⟨"PowerRailsModel", "latestOf", "(I)I"⟩, 41), (⟨"PowerRailsModel", "isLive", "(I)Z"⟩, 41)]
theorem lw_r5 : ∀ q ∈ lw_privs_5, lw_okq q := List.forall_mem_cons.mpr ⟨lw_p64, List.forall_mem_cons.mpr ⟨lw_p65, List.forall_mem_cons.mpr ⟨lw_p66, List.forall_mem_cons.mpr ⟨lw_p67, List.forall_mem_cons.mpr ⟨lw_p68, List.forall_mem_cons.mpr ⟨lw_p69, List.forall_mem_cons.mpr ⟨lw_p70, List.forall_mem_cons.mpr ⟨lw_p71, List.forall_mem_cons.mpr ⟨lw_p72, List.forall_mem_cons.mpr ⟨lw_p73, List.forall_mem_cons.mpr ⟨lw_p74, List.forall_mem_cons.mpr ⟨lw_p75, List.forall_mem_cons.mpr ⟨lw_p76, List.forall_mem_cons.mpr ⟨lw_p77, List.forall_mem_cons.mpr ⟨lw_p78, List.forall_mem_cons.mpr ⟨lw_p79, fun _ h => absurd h List.not_mem_nil⟩⟩⟩⟩⟩⟩⟩⟩⟩⟩⟩⟩⟩⟩⟩⟩
theorem lw_p80 : lw_okq (⟨"PowerRailsModel", "isGood", "(I)Z"⟩, 41) := ⟨⟨by decide +kernel, by decide +kernel⟩, List.mem_of_getElem? (i := 1021) (by decide +kernel), List.mem_of_getElem? (i := 1358) (by decide +kernel), List.mem_of_getElem? (i := 1359) (by decide +kernel)⟩
theorem lw_p81 : lw_okq (⟨"PowerRailsModel", "fails", "(Z)V"⟩, 41) := ⟨⟨by decide +kernel, by decide +kernel⟩, List.mem_of_getElem? (i := 1021) (by decide +kernel), List.mem_of_getElem? (i := 1362) (by decide +kernel), List.mem_of_getElem? (i := 1363) (by decide +kernel)⟩
theorem lw_p82 : lw_okq (⟨"PowerRailsModel", "beginsToRise", "()V"⟩, 41) := ⟨⟨by decide +kernel, by decide +kernel⟩, List.mem_of_getElem? (i := 1021) (by decide +kernel), List.mem_of_getElem? (i := 1366) (by decide +kernel), List.mem_of_getElem? (i := 1367) (by decide +kernel)⟩
theorem lw_p83 : lw_okq (⟨"PowerRailsModel", "whyNot", "(I)I"⟩, 41) := ⟨⟨by decide +kernel, by decide +kernel⟩, List.mem_of_getElem? (i := 1021) (by decide +kernel), List.mem_of_getElem? (i := 1370) (by decide +kernel), List.mem_of_getElem? (i := 1371) (by decide +kernel)⟩
theorem lw_p84 : lw_okq (⟨"PowerRailsModel", "voltsGo", "(I)V"⟩, 41) := ⟨⟨by decide +kernel, by decide +kernel⟩, List.mem_of_getElem? (i := 1021) (by decide +kernel), List.mem_of_getElem? (i := 1374) (by decide +kernel), List.mem_of_getElem? (i := 1375) (by decide +kernel)⟩
theorem lw_p85 : lw_okq (⟨"PowerRailsModel", "draws", "()V"⟩, 41) := ⟨⟨by decide +kernel, by decide +kernel⟩, List.mem_of_getElem? (i := 1021) (by decide +kernel), List.mem_of_getElem? (i := 1378) (by decide +kernel), List.mem_of_getElem? (i := 1379) (by decide +kernel)⟩
theorem lw_p86 : lw_okq (⟨"PowerRailsModel", "trips", "(I)V"⟩, 41) := ⟨⟨by decide +kernel, by decide +kernel⟩, List.mem_of_getElem? (i := 1021) (by decide +kernel), List.mem_of_getElem? (i := 1382) (by decide +kernel), List.mem_of_getElem? (i := 1383) (by decide +kernel)⟩
theorem lw_p87 : lw_okq (⟨"PowerRailsModel", "isRail", "(I)Z"⟩, 41) := ⟨⟨by decide +kernel, by decide +kernel⟩, List.mem_of_getElem? (i := 1021) (by decide +kernel), List.mem_of_getElem? (i := 1390) (by decide +kernel), List.mem_of_getElem? (i := 1391) (by decide +kernel)⟩
theorem lw_p88 : lw_okq (⟨"PowerRailsModel", "laysRing", "()V"⟩, 41) := ⟨⟨by decide +kernel, by decide +kernel⟩, List.mem_of_getElem? (i := 1021) (by decide +kernel), List.mem_of_getElem? (i := 1442) (by decide +kernel), List.mem_of_getElem? (i := 1443) (by decide +kernel)⟩
theorem lw_p89 : lw_okq (⟨"PowerRailsModel", "inRings", "()I"⟩, 41) := ⟨⟨by decide +kernel, by decide +kernel⟩, List.mem_of_getElem? (i := 1021) (by decide +kernel), List.mem_of_getElem? (i := 1446) (by decide +kernel), List.mem_of_getElem? (i := 1447) (by decide +kernel)⟩
theorem lw_p90 : lw_okq (⟨"PowerRailsModel", "laysSteps", "(I)V"⟩, 41) := ⟨⟨by decide +kernel, by decide +kernel⟩, List.mem_of_getElem? (i := 1021) (by decide +kernel), List.mem_of_getElem? (i := 1450) (by decide +kernel), List.mem_of_getElem? (i := 1451) (by decide +kernel)⟩
theorem lw_p91 : lw_okq (⟨"PowerRailsModel", "laysHeat", "()V"⟩, 41) := ⟨⟨by decide +kernel, by decide +kernel⟩, List.mem_of_getElem? (i := 1021) (by decide +kernel), List.mem_of_getElem? (i := 1462) (by decide +kernel), List.mem_of_getElem? (i := 1463) (by decide +kernel)⟩
theorem lw_p92 : lw_okq (⟨"PowerRailsModel", "mayCome", "(II)Z"⟩, 41) := ⟨⟨by decide +kernel, by decide +kernel⟩, List.mem_of_getElem? (i := 1021) (by decide +kernel), List.mem_of_getElem? (i := 1467) (by decide +kernel), List.mem_of_getElem? (i := 1468) (by decide +kernel)⟩
theorem lw_p93 : lw_okq (⟨"PowerRailsModel", "heatAt", "(II)I"⟩, 41) := ⟨⟨by decide +kernel, by decide +kernel⟩, List.mem_of_getElem? (i := 1021) (by decide +kernel), List.mem_of_getElem? (i := 1471) (by decide +kernel), List.mem_of_getElem? (i := 1472) (by decide +kernel)⟩
theorem lw_p94 : lw_okq (⟨"PowerRailsModel", "isQuiet", "()Z"⟩, 41) := ⟨⟨by decide +kernel, by decide +kernel⟩, List.mem_of_getElem? (i := 1021) (by decide +kernel), List.mem_of_getElem? (i := 1497) (by decide +kernel), List.mem_of_getElem? (i := 1498) (by decide +kernel)⟩
theorem lw_p95 : lw_okq (⟨"PowerRailsModel", "tripsAll", "()I"⟩, 41) := ⟨⟨by decide +kernel, by decide +kernel⟩, List.mem_of_getElem? (i := 1021) (by decide +kernel), List.mem_of_getElem? (i := 1521) (by decide +kernel), List.mem_of_getElem? (i := 1522) (by decide +kernel)⟩
def lw_privs_6 : List (MethodName × Nat) := [(⟨"PowerRailsModel", "isGood", "(I)Z"⟩, 41), (⟨"PowerRailsModel", "fails", "(Z)V"⟩, 41), (⟨"PowerRailsModel", "beginsToRise", "()V"⟩, 41), (⟨"PowerRailsModel", "whyNot", "(I)I"⟩, 41), (⟨"PowerRailsModel", "voltsGo", "(I)V"⟩, 41), (⟨"PowerRailsModel", "draws", "()V"⟩, 41), (⟨"PowerRailsModel", "trips", "(I)V"⟩, 41), (⟨"PowerRailsModel", "isRail", "(I)Z"⟩, 41), (⟨"PowerRailsModel", "laysRing", "()V"⟩, 41), (⟨"PowerRailsModel", "inRings", "()I"⟩, 41), (⟨"PowerRailsModel", "laysSteps", "(I)V"⟩, 41), (⟨"PowerRailsModel", "laysHeat", "()V"⟩, 41), (⟨"PowerRailsModel", "mayCome", "(II)Z"⟩, 41), (⟨"PowerRailsModel", "heatAt", "(II)I"⟩, 41), (⟨"PowerRailsModel", "isQuiet", "()Z"⟩, 41), (⟨"PowerRailsModel", "tripsAll", "()I"⟩, 41)]
theorem lw_r6 : ∀ q ∈ lw_privs_6, lw_okq q := List.forall_mem_cons.mpr ⟨lw_p80, List.forall_mem_cons.mpr ⟨lw_p81, List.forall_mem_cons.mpr ⟨lw_p82, List.forall_mem_cons.mpr ⟨lw_p83, List.forall_mem_cons.mpr ⟨lw_p84, List.forall_mem_cons.mpr ⟨lw_p85, List.forall_mem_cons.mpr ⟨lw_p86, List.forall_mem_cons.mpr ⟨lw_p87, List.forall_mem_cons.mpr ⟨lw_p88, List.forall_mem_cons.mpr ⟨lw_p89, List.forall_mem_cons.mpr ⟨lw_p90, List.forall_mem_cons.mpr ⟨lw_p91, List.forall_mem_cons.mpr ⟨lw_p92, List.forall_mem_cons.mpr ⟨lw_p93, List.forall_mem_cons.mpr ⟨lw_p94, List.forall_mem_cons.mpr ⟨lw_p95, fun _ h => absurd h List.not_mem_nil⟩⟩⟩⟩⟩⟩⟩⟩⟩⟩⟩⟩⟩⟩⟩⟩
theorem lw_p96 : lw_okq (⟨"PowerRailsModel", "draw", "(I)I"⟩, 41) := ⟨⟨by decide +kernel, by decide +kernel⟩, List.mem_of_getElem? (i := 1021) (by decide +kernel), List.mem_of_getElem? (i := 1525) (by decide +kernel), List.mem_of_getElem? (i := 1526) (by decide +kernel)⟩
theorem lw_p97 : lw_okq (⟨"PowerRailsModel", "good", "()I"⟩, 41) := ⟨⟨by decide +kernel, by decide +kernel⟩, List.mem_of_getElem? (i := 1021) (by decide +kernel), List.mem_of_getElem? (i := 1531) (by decide +kernel), List.mem_of_getElem? (i := 1532) (by decide +kernel)⟩
theorem lw_p98 : lw_okq (⟨"PowerRailsModel", "goodMany", "()I"⟩, 41) := ⟨⟨by decide +kernel, by decide +kernel⟩, List.mem_of_getElem? (i := 1021) (by decide +kernel), List.mem_of_getElem? (i := 1539) (by decide +kernel), List.mem_of_getElem? (i := 1540) (by decide +kernel)⟩
def lw_privs_7 : List (MethodName × Nat) := [(⟨"PowerRailsModel", "draw", "(I)I"⟩, 41), (⟨"PowerRailsModel", "good", "()I"⟩, 41), (⟨"PowerRailsModel", "goodMany", "()I"⟩, 41)]
theorem lw_r7 : ∀ q ∈ lw_privs_7, lw_okq q := List.forall_mem_cons.mpr ⟨lw_p96, List.forall_mem_cons.mpr ⟨lw_p97, List.forall_mem_cons.mpr ⟨lw_p98, fun _ h => absurd h List.not_mem_nil⟩⟩⟩
def lw_privs : List (MethodName × Nat) := lw_privs_1 ++ (lw_privs_2 ++ (lw_privs_3 ++ (lw_privs_4 ++ (lw_privs_5 ++ (lw_privs_6 ++ (lw_privs_7))))))
def lw_tbl : List Cond := k2_sels lw_privs ++ tables_1
theorem lw_privs_ok : ∀ q ∈ lw_privs, lw_okq q := by
  show ∀ q ∈ lw_privs_1 ++ (lw_privs_2 ++ (lw_privs_3 ++ (lw_privs_4 ++ (lw_privs_5 ++ (lw_privs_6 ++ (lw_privs_7)))))), lw_okq q
  exact List.forall_mem_append.mpr ⟨lw_r1, List.forall_mem_append.mpr ⟨lw_r2, List.forall_mem_append.mpr ⟨lw_r3, List.forall_mem_append.mpr ⟨lw_r4, List.forall_mem_append.mpr ⟨lw_r5, List.forall_mem_append.mpr ⟨lw_r6, lw_r7⟩⟩⟩⟩⟩⟩
-- ===== end of PART A; then your names; then what follows =====
-- the words that every method may use: those of the tables that hold in any warmed state
def pxW : List Cond := lw_tbl.filter goodWord
theorem pxW_good {w : Cond} (h : w ∈ pxW) : (w.onTables && w.keeps) = true ∨ ∃ ty, w = .arrayClass ty := good_of_word (List.mem_filter.mp h).2
theorem pxW_tbl {w : Cond} (h : w ∈ pxW) : w ∈ lw_tbl := (List.mem_filter.mp h).1
end
section
def R_PR : String := "PowerRails"
def F_PR : u_T := fun k => match k with
  | 0 => ("PowerRails", "tape", "[B", true)
  | 1 => ("PowerRails", "reader", "LPowerRails$Reader;", true)
  | 2 => ("PowerRails", "past", "[LPowerRails$Board;", true)
  | 3 => ("PowerRails", "image", "LPowerRails$Board;", true)
  | 4 => ("PowerRails", "now", "LPowerRails$Board;", true)
  | 5 => ("PowerRails", "scratch", "LPowerRails$Board;", true)
  | 6 => ("PowerRails", "plan", "LPowerRails$Plan;", false)
  | 7 => ("PowerRails", "tapeLength", "I", false)
  | 8 => ("PowerRails", "faultKind", "I", false)
  | 9 => ("PowerRails", "faultPlace", "I", false)
  | 10 => ("PowerRails", "imageKept", "Z", false)
  | 11 => ("PowerRails", "pastFirst", "I", false)
  | _ => ("PowerRails", "pastCount", "I", false)
def t_PR : Nat → FieldType := fun k => match k with
  | 0 => .array .byte
  | 1 => .object "PowerRails$Reader"
  | 2 => .array (.object "PowerRails$Board")
  | 3 => .object "PowerRails$Board"
  | 4 => .object "PowerRails$Board"
  | 5 => .object "PowerRails$Board"
  | 6 => .object "PowerRails$Plan"
  | 7 => .int
  | 8 => .int
  | 9 => .int
  | 10 => .boolean
  | 11 => .int
  | _ => .int
theorem n_PR : ∀ a, a < 13 → ∀ b, b < 13 → a ≠ b → (F_PR a).2.1 ≠ (F_PR b).2.1 := by decide +kernel
theorem k_PR : ∀ k, k < 13 → parseFieldDescriptor (F_PR k).2.2.1 = some (t_PR k) := by decide +kernel
theorem i_PR : ∀ w ∈ u_ws R_PR F_PR 13, w ∈ pxW := by decide +kernel
def R_Pl : String := "PowerRails$Plan"
def F_Pl : u_T := fun k => match k with
  | 0 => ("PowerRails$Plan", "rails", "I", false)
  | 1 => ("PowerRails$Plan", "needLines", "I", false)
  | 2 => ("PowerRails$Plan", "steps", "I", false)
  | 3 => ("PowerRails$Plan", "name", "[I", true)
  | 4 => ("PowerRails$Plan", "parent", "[I", true)
  | 5 => ("PowerRails$Plan", "level", "[I", true)
  | 6 => ("PowerRails$Plan", "ramp", "[I", true)
  | 7 => ("PowerRails$Plan", "charge", "[I", true)
  | 8 => ("PowerRails$Plan", "firstLoad", "[I", true)
  | 9 => ("PowerRails$Plan", "firstLimit", "[I", true)
  | 10 => ("PowerRails$Plan", "needs", "[I", true)
  | 11 => ("PowerRails$Plan", "direct", "[I", true)
  | 12 => ("PowerRails$Plan", "above", "[I", true)
  | 13 => ("PowerRails$Plan", "below", "[I", true)
  | 14 => ("PowerRails$Plan", "stepKind", "[I", true)
  | 15 => ("PowerRails$Plan", "stepRail", "[I", true)
  | 16 => ("PowerRails$Plan", "stepTime", "[I", true)
  | _ => ("PowerRails$Plan", "setting", "[I", true)
def t_Pl : Nat → FieldType := fun k => match k with
  | 0 => .int
  | 1 => .int
  | 2 => .int
  | 3 => .array .int
  | 4 => .array .int
  | 5 => .array .int
  | 6 => .array .int
  | 7 => .array .int
  | 8 => .array .int
  | 9 => .array .int
  | 10 => .array .int
  | 11 => .array .int
  | 12 => .array .int
  | 13 => .array .int
  | 14 => .array .int
  | 15 => .array .int
  | 16 => .array .int
  | _ => .array .int
theorem n_Pl : ∀ a, a < 18 → ∀ b, b < 18 → a ≠ b → (F_Pl a).2.1 ≠ (F_Pl b).2.1 := by decide +kernel
theorem k_Pl : ∀ k, k < 18 → parseFieldDescriptor (F_Pl k).2.2.1 = some (t_Pl k) := by decide +kernel
theorem i_Pl : ∀ w ∈ u_ws R_Pl F_Pl 18, w ∈ pxW := by decide +kernel
def R_Bo : String := "PowerRails$Board"
def F_Bo : u_T := fun k => match k with
  | 0 => ("PowerRails$Board", "rails", "[LPowerRails$Rail;", true)
  | 1 => ("PowerRails$Board", "waiting", "LPowerRails$Queue;", true)
  | 2 => ("PowerRails$Board", "row", "LPowerRails$Queue;", true)
  | 3 => ("PowerRails$Board", "logRow", "[I", true)
  | 4 => ("PowerRails$Board", "plan", "LPowerRails$Plan;", false)
  | 5 => ("PowerRails$Board", "tick", "I", false)
  | 6 => ("PowerRails$Board", "total", "I", false)
  | 7 => ("PowerRails$Board", "mode", "I", false)
  | 8 => ("PowerRails$Board", "step", "I", false)
  | 9 => ("PowerRails$Board", "stay", "I", false)
  | _ => ("PowerRails$Board", "logged", "I", false)
def t_Bo : Nat → FieldType := fun k => match k with
  | 0 => .array (.object "PowerRails$Rail")
  | 1 => .object "PowerRails$Queue"
  | 2 => .object "PowerRails$Queue"
  | 3 => .array .int
  | 4 => .object "PowerRails$Plan"
  | 5 => .int
  | 6 => .int
  | 7 => .int
  | 8 => .int
  | 9 => .int
  | _ => .int
theorem n_Bo : ∀ a, a < 11 → ∀ b, b < 11 → a ≠ b → (F_Bo a).2.1 ≠ (F_Bo b).2.1 := by decide +kernel
theorem k_Bo : ∀ k, k < 11 → parseFieldDescriptor (F_Bo k).2.2.1 = some (t_Bo k) := by decide +kernel
theorem i_Bo : ∀ w ∈ u_ws R_Bo F_Bo 11, w ∈ pxW := by decide +kernel
def R_Ra : String := "PowerRails$Rail"
def F_Ra : u_T := fun k => match k with
  | 0 => ("PowerRails$Rail", "load", "I", false)
  | 1 => ("PowerRails$Rail", "limit", "I", false)
  | 2 => ("PowerRails$Rail", "state", "I", false)
  | 3 => ("PowerRails$Rail", "volts", "I", false)
  | 4 => ("PowerRails$Rail", "rose", "I", false)
  | 5 => ("PowerRails$Rail", "draw", "I", false)
  | 6 => ("PowerRails$Rail", "over", "Z", false)
  | 7 => ("PowerRails$Rail", "lowTicks", "I", false)
  | 8 => ("PowerRails$Rail", "began", "I", false)
  | 9 => ("PowerRails$Rail", "trips", "I", false)
  | 10 => ("PowerRails$Rail", "retries", "I", false)
  | 11 => ("PowerRails$Rail", "again", "I", false)
  | _ => ("PowerRails$Rail", "wentByTrip", "Z", false)
def t_Ra : Nat → FieldType := fun k => match k with
  | 0 => .int
  | 1 => .int
  | 2 => .int
  | 3 => .int
  | 4 => .int
  | 5 => .int
  | 6 => .boolean
  | 7 => .int
  | 8 => .int
  | 9 => .int
  | 10 => .int
  | 11 => .int
  | _ => .boolean
theorem n_Ra : ∀ a, a < 13 → ∀ b, b < 13 → a ≠ b → (F_Ra a).2.1 ≠ (F_Ra b).2.1 := by decide +kernel
theorem k_Ra : ∀ k, k < 13 → parseFieldDescriptor (F_Ra k).2.2.1 = some (t_Ra k) := by decide +kernel
theorem i_Ra : ∀ w ∈ u_ws R_Ra F_Ra 13, w ∈ pxW := by decide +kernel
def R_Qu : String := "PowerRails$Queue"
def F_Qu : u_T := fun k => match k with
  | 0 => ("PowerRails$Queue", "item", "[I", true)
  | 1 => ("PowerRails$Queue", "size", "I", false)
  | _ => ("PowerRails$Queue", "bits", "I", false)
def t_Qu : Nat → FieldType := fun k => match k with
  | 0 => .array .int
  | 1 => .int
  | _ => .int
theorem n_Qu : ∀ a, a < 3 → ∀ b, b < 3 → a ≠ b → (F_Qu a).2.1 ≠ (F_Qu b).2.1 := by decide +kernel
theorem k_Qu : ∀ k, k < 3 → parseFieldDescriptor (F_Qu k).2.2.1 = some (t_Qu k) := by decide +kernel
theorem i_Qu : ∀ w ∈ u_ws R_Qu F_Qu 3, w ∈ pxW := by decide +kernel
def R_Re : String := "PowerRails$Reader"
def F_Re : u_T := fun k => match k with
  | 0 => ("PowerRails$Reader", "plan", "LPowerRails$Plan;", false)
  | 1 => ("PowerRails$Reader", "fault", "I", false)
  | 2 => ("PowerRails$Reader", "place", "I", false)
  | 3 => ("PowerRails$Reader", "wordLetters", "[I", true)
  | 4 => ("PowerRails$Reader", "kinds", "[I", true)
  | 5 => ("PowerRails$Reader", "values", "[I", true)
  | 6 => ("PowerRails$Reader", "places", "[I", true)
  | 7 => ("PowerRails$Reader", "tokens", "I", false)
  | 8 => ("PowerRails$Reader", "bytes", "[B", true)
  | 9 => ("PowerRails$Reader", "length", "I", false)
  | 10 => ("PowerRails$Reader", "at", "I", false)
  | 11 => ("PowerRails$Reader", "kind", "I", false)
  | 12 => ("PowerRails$Reader", "value", "I", false)
  | 13 => ("PowerRails$Reader", "next", "I", false)
  | _ => ("PowerRails$Reader", "settingsTold", "I", false)
def t_Re : Nat → FieldType := fun k => match k with
  | 0 => .object "PowerRails$Plan"
  | 1 => .int
  | 2 => .int
  | 3 => .array .int
  | 4 => .array .int
  | 5 => .array .int
  | 6 => .array .int
  | 7 => .int
  | 8 => .array .byte
  | 9 => .int
  | 10 => .int
  | 11 => .int
  | 12 => .int
  | 13 => .int
  | _ => .int
theorem n_Re : ∀ a, a < 15 → ∀ b, b < 15 → a ≠ b → (F_Re a).2.1 ≠ (F_Re b).2.1 := by decide +kernel
theorem k_Re : ∀ k, k < 15 → parseFieldDescriptor (F_Re k).2.2.1 = some (t_Re k) := by decide +kernel
theorem i_Re : ∀ w ∈ u_ws R_Re F_Re 15, w ∈ pxW := by decide +kernel
def R_Mo : String := "PowerRailsModel"
def F_Mo : u_T := fun k => match k with
  | 0 => ("PowerRailsModel", "thrown", "I", false)
  | 1 => ("PowerRailsModel", "tape", "[I", true)
  | 2 => ("PowerRailsModel", "taped", "I", false)
  | 3 => ("PowerRailsModel", "number", "[I", true)
  | 4 => ("PowerRailsModel", "isTold", "[Z", true)
  | 5 => ("PowerRailsModel", "name", "[I", true)
  | 6 => ("PowerRailsModel", "parent", "[I", true)
  | 7 => ("PowerRailsModel", "level", "[I", true)
  | 8 => ("PowerRailsModel", "ramp", "[I", true)
  | 9 => ("PowerRailsModel", "charge", "[I", true)
  | 10 => ("PowerRailsModel", "loadTold", "[I", true)
  | 11 => ("PowerRailsModel", "limitTold", "[I", true)
  | 12 => ("PowerRailsModel", "needs", "[I", true)
  | 13 => ("PowerRailsModel", "stepSort", "[I", true)
  | 14 => ("PowerRailsModel", "stepRail", "[I", true)
  | 15 => ("PowerRailsModel", "stepN", "[I", true)
  | 16 => ("PowerRailsModel", "lines", "I", false)
  | 17 => ("PowerRailsModel", "size", "I", false)
  | 18 => ("PowerRailsModel", "at", "I", false)
  | 19 => ("PowerRailsModel", "place", "I", false)
  | 20 => ("PowerRailsModel", "sort", "I", false)
  | 21 => ("PowerRailsModel", "value", "I", false)
  | 22 => ("PowerRailsModel", "fault", "I", false)
  | 23 => ("PowerRailsModel", "faultPlace", "I", false)
  | 24 => ("PowerRailsModel", "lastFault", "I", false)
  | 25 => ("PowerRailsModel", "lastPlace", "I", false)
  | 26 => ("PowerRailsModel", "directly", "[I", true)
  | 27 => ("PowerRailsModel", "hangsOn", "[I", true)
  | 28 => ("PowerRailsModel", "s", "[I", true)
  | 29 => ("PowerRailsModel", "aside", "[I", true)
  | 30 => ("PowerRailsModel", "image", "[I", true)
  | 31 => ("PowerRailsModel", "pasts", "[I", true)
  | 32 => ("PowerRailsModel", "undoable", "I", false)
  | 33 => ("PowerRailsModel", "hasImage", "Z", false)
  | 34 => ("PowerRailsModel", "rose", "[I", true)
  | 35 => ("PowerRailsModel", "begin", "[I", true)
  | 36 => ("PowerRailsModel", "steps", "[I", true)
  | 37 => ("PowerRailsModel", "ring", "[I", true)
  | 38 => ("PowerRailsModel", "ringLong", "I", false)
  | 39 => ("PowerRailsModel", "heatOf", "[I", true)
  | _ => ("PowerRailsModel", "drawn", "I", false)
def t_Mo : Nat → FieldType := fun k => match k with
  | 0 => .int
  | 1 => .array .int
  | 2 => .int
  | 3 => .array .int
  | 4 => .array .boolean
  | 5 => .array .int
  | 6 => .array .int
  | 7 => .array .int
  | 8 => .array .int
  | 9 => .array .int
  | 10 => .array .int
  | 11 => .array .int
  | 12 => .array .int
  | 13 => .array .int
  | 14 => .array .int
  | 15 => .array .int
  | 16 => .int
  | 17 => .int
  | 18 => .int
  | 19 => .int
  | 20 => .int
  | 21 => .int
  | 22 => .int
  | 23 => .int
  | 24 => .int
  | 25 => .int
  | 26 => .array .int
  | 27 => .array .int
  | 28 => .array .int
  | 29 => .array .int
  | 30 => .array .int
  | 31 => .array .int
  | 32 => .int
  | 33 => .boolean
  | 34 => .array .int
  | 35 => .array .int
  | 36 => .array .int
  | 37 => .array .int
  | 38 => .int
  | 39 => .array .int
  | _ => .int
theorem n_Mo : ∀ a, a < 41 → ∀ b, b < 41 → a ≠ b → (F_Mo a).2.1 ≠ (F_Mo b).2.1 := by decide +kernel
theorem k_Mo : ∀ k, k < 41 → parseFieldDescriptor (F_Mo k).2.2.1 = some (t_Mo k) := by decide +kernel
theorem i_Mo : ∀ w ∈ u_ws R_Mo F_Mo 41, w ∈ pxW := by decide +kernel
abbrev classes : List vw_C := [(R_PR, F_PR, 13), (R_Pl, F_Pl, 18), (R_Bo, F_Bo, 11), (R_Ra, F_Ra, 13), (R_Qu, F_Qu, 3), (R_Re, F_Re, 15), (R_Mo, F_Mo, 41)]
def px_ty (ci : Nat) : Nat → FieldType := match ci with
  | 0 => t_PR
  | 1 => t_Pl
  | 2 => t_Bo
  | 3 => t_Ra
  | 4 => t_Qu
  | 5 => t_Re
  | _ => t_Mo
theorem px_cls {ci : Nat} {q : vw_C} (h : classes[ci]? = some q) : (∀ w ∈ u_ws q.1 q.2.1 q.2.2, w ∈ pxW) ∧ (∀ k, k < q.2.2 → parseFieldDescriptor (q.2.1 k).2.2.1 = some (px_ty ci k)) ∧ (∀ a, a < q.2.2 → ∀ b, b < q.2.2 → a ≠ b → (q.2.1 a).2.1 ≠ (q.2.1 b).2.1) := by
  match ci, h with
  | 0, h => cases h; exact ⟨i_PR, k_PR, n_PR⟩
  | 1, h => cases h; exact ⟨i_Pl, k_Pl, n_Pl⟩
  | 2, h => cases h; exact ⟨i_Bo, k_Bo, n_Bo⟩
  | 3, h => cases h; exact ⟨i_Ra, k_Ra, n_Ra⟩
  | 4, h => cases h; exact ⟨i_Qu, k_Qu, n_Qu⟩
  | 5, h => cases h; exact ⟨i_Re, k_Re, n_Re⟩
  | 6, h => cases h; exact ⟨i_Mo, k_Mo, n_Mo⟩
  | n + 7, h => exact absurd h (by simp [classes])
end
section
/-! A SYSTEM IN NUMBERS: its cells have ids; what a cell is (its class, what its references are) is told by its id; all else is numbers, one for each id and place.
'pw': from a program counter, with locals, stack and numbers as told, the method comes to an end that 'Rt' allows. 'pm': a method's contract. A row an instruction; no heap, no address is seen above them. -/
abbrev pxI : Type := Nat × Nat × Nat
abbrev pxV : Type := Int32 ⊕ Option pxI
abbrev pxS : Type := pxI → Nat → Int32
abbrev pxK : Type := Option (Nat ⊕ Option pxI)
abbrev pxC : Type := (Nat × Nat) ⊕ ((Nat × Nat × (Nat → Option pxI)) ⊕ (Nat × List pxK))
abbrev pxG : Type := pxI → pxC
def px_sv (q : pxK) (x : Int32) : pxV := match q with
  | none => .inl x
  | some (.inl kd) => .inr (some (kd, x.toNatClampNeg, 0))
  | some (.inr r) => .inr r
def px_mv (ad : pxI → Nat) (v : pxV) : Value := match v with
  | .inl x => .int x
  | .inr none => .null
  | .inr (some i) => .ref (ad i)
def px_fs (ad : pxI → Nat) (sl : List pxK) (f : Nat → Int32) : List Value := sl.mapIdx fun k q => px_mv ad (px_sv q (f k))
def px_ce (ad : pxI → Nat) (tA : Nat → ClassId) (c : pxC) (f : Nat → Int32) : va_E := match c with
  | .inl (t, n) => .inl (tA t, n, .inl f)
  | .inr (.inl (t, n, g)) => .inl (tA t, n, .inr (.inr (.inr (.inr fun j => (g j).map ad))))
  | .inr (.inr (ci, sl)) => .inr (ci, px_fs ad sl f)
def px_ws (ad : pxI → Nat) (tA : Nat → ClassId) (ids : List pxI) (G : pxG) (σ : pxS) : va_W := ids.map fun i => (ad i, px_ce ad tA (G i) (σ i))
def px_vv (ids : List pxI) (v : pxV) : Prop := ∀ r, v = .inr (some r) → r ∈ ids
/-- every reference that a cell holds is one of the system's -/
def px_clo (ids : List pxI) (G : pxG) (σ : pxS) : Prop := ∀ i ∈ ids, match G i with
  | .inl _ => True
  | .inr (.inl (_, n, g)) => ∀ j, j < n → px_vv ids (.inr (g j))
  | .inr (.inr (_, sl)) => ∀ k q, sl[k]? = some q → px_vv ids (px_sv q (σ i k))
def px_up (σ : pxS) (i : pxI) (k : Nat) (v : Int32) : pxS := fun j n => if j = i ∧ n = k then v else σ j n
theorem px_up_ne {σ : pxS} {i j : pxI} {k : Nat} {v : Int32} (h : j ≠ i) : px_up σ i k v j = σ j := by
  funext n
  simp [px_up, h]
theorem px_up_self {σ : pxS} {i : pxI} {k : Nat} {v : Int32} : px_up σ i k v i = upd (σ i) k v := by
  funext n
  simp [px_up, upd]
theorem px_ws_get {ad : pxI → Nat} {tA : Nat → ClassId} {ids : List pxI} {G : pxG} {σ : pxS} {q0 : Nat} {i : pxI} (h : ids[q0]? = some i) : (px_ws ad tA ids G σ)[q0]? = some (ad i, px_ce ad tA (G i) (σ i)) := by
  simp [px_ws, h]
theorem px_ws_set {A : Nat → Prop} {ad : pxI → Nat} {tA : Nat → ClassId} {ids : List pxI} {G G' : pxG} {σ σ' : pxS} {q0 : Nat} {i : pxI} (hD : va_D A (px_ws ad tA ids G σ)) (h : ids[q0]? = some i) (ho : ∀ j ∈ ids, j ≠ i → px_ce ad tA (G' j) (σ' j) = px_ce ad tA (G j) (σ j)) : (px_ws ad tA ids G σ).set q0 (ad i, px_ce ad tA (G' i) (σ' i)) = px_ws ad tA ids G' σ' := by
  apply List.ext_getElem?
  intro k
  by_cases hk : q0 = k
  · subst hk
    have hl : q0 < (px_ws ad tA ids G σ).length := by
      have := (List.getElem?_eq_some_iff.mp h).1
      simpa [px_ws] using this
    rw [List.getElem?_set_self hl, px_ws_get h]
  · rw [List.getElem?_set_ne hk]
    cases hj : ids[k]? with
    | none => simp [px_ws, hj]
    | some j =>
      rw [px_ws_get hj, px_ws_get hj]
      have hne : j ≠ i := fun e => by
        subst e
        exact hk (hD.1 q0 k _ _ (px_ws_get h) (px_ws_get hj) rfl)
      rw [ho j (List.mem_of_getElem? hj) hne]
theorem px_fs_get {ad : pxI → Nat} {sl : List pxK} {f : Nat → Int32} {k : Nat} {q : pxK} (h : sl[k]? = some q) : (px_fs ad sl f)[k]? = some (px_mv ad (px_sv q (f k))) := by
  simp [px_fs, h]
theorem px_fs_set {ad : pxI → Nat} {sl : List pxK} {f : Nat → Int32} {k : Nat} {q : pxK} {v : Int32} (h : sl[k]? = some q) : (px_fs ad sl f).set k (px_mv ad (px_sv q v)) = px_fs ad sl (upd f k v) := by
  have hl : k < sl.length := (List.getElem?_eq_some_iff.mp h).1
  apply List.ext_getElem?
  intro j
  by_cases hj : k = j
  · subst hj
    rw [List.getElem?_set_self (by simpa [px_fs] using hl), px_fs_get h]
    simp [upd]
  · rw [List.getElem?_set_ne hj]
    cases hq : sl[j]? with
    | none => simp [px_fs, hq]
    | some q' =>
      rw [px_fs_get hq, px_fs_get hq]
      simp [upd, Ne.symm hj]
theorem px_mv_cat (ad : pxI → Nat) (v : pxV) : (px_mv ad v).category = 1 := by
  rcases v with x | r | r <;> rfl
theorem px_vi {ids : List pxI} {x : Int32} : px_vv ids (.inl x) := fun r h => by cases h
def px_tys (tA : Nat → ClassId) : List (ClassId × FieldType) := [(tA 0, .int), (tA 1, .byte), (tA 2, .boolean), (tA 3, .object "PowerRails$Board"), (tA 4, .object "PowerRails$Rail")]
def px_ctx (p : Program) (s : State) (m : MethodId) (args : Array Value) (meth : Method) (c : Code) (y : MethodName) (cc : ByteArray) (nL : Nat) (ret : Option FieldType) (D : va_G) (tA : Nat → ClassId) : Prop :=
  p.tables.exec = Jvm.exec ∧ c.code = cc ∧ meth.sig.returnType = ret ∧ c.maxLocals = nL ∧ meth.name = y.name ∧ (∀ w ∈ pxW, w.before args s = true) ∧ s.vm.findClass y.cls = some m.cls ∧ meth.locks = false ∧ va_K D classes (px_tys tA) s
def px_rel (D : va_G) (tA : Nat → ClassId) (ad : pxI → Nat) (A : Nat → Prop) (ids : List pxI) (G : pxG) (σ : pxS) (H0 H : Heap) (locs : List Loc) : Prop :=
  va_P D classes (px_ws ad tA ids G σ) H ∧ va_D A (px_ws ad tA ids G σ) ∧ va_S A H0 H locs ∧ px_clo ids G σ ∧ ∀ q : Nat, H0.size ≤ q → A q
def px_ml (ad : pxI → Nat) (L : List (Nat × pxV)) : List (Nat × Value) := L.map fun q => (q.1, px_mv ad q.2)
def px_Qc (D : va_G) (tA : Nat → ClassId) (ad0 : pxI → Nat) (ids0 : List pxI) (Rt : Option pxV → List pxI → pxG → pxS → Prop) (A : Nat → Prop) : Array Value → State → Outcome → State → Prop := fun _ st o t =>
  ∃ (v : Option pxV) (ids : List pxI) (G : pxG) (σ : pxS) (ad : pxI → Nat), Rt v ids G σ ∧ (∀ i ∈ ids0, i ∈ ids) ∧ (∀ i ∈ ids0, ad i = ad0 i) ∧ o = .returned (v.map (px_mv ad)) ∧ (∀ w, v = some w → px_vv ids w) ∧ px_clo ids G σ ∧
    va_P D classes (px_ws ad tA ids G σ) t.heap ∧ va_D A (px_ws ad tA ids G σ) ∧ va_F A st t
def px_X (p : Program) (l : Launch) (e : Env) (R : Room) (s : State) (m : MethodId) (args : Array Value) (below : List Frame) (meth : Method) (c : Code) (H : Heap) (locs : List Loc) (ls : Array Slot) (D : va_G) (tA : Nat → ClassId) (ad ad0 : pxI → Nat) (ids0 : List pxI) (A : Nat → Prop)
    (y : MethodName) (cc : ByteArray) (nL : Nat) (ret : Option FieldType) (L : List (Nat × pxV)) (st : List pxV) (ids : List pxI) (G : pxG) (σ : pxS) : Prop :=
  px_ctx p s m args meth c y cc nL ret D tA ∧ px_rel D tA ad A ids G σ s.heap H locs ∧ lv_has ls nL (px_ml ad L) ∧ (∀ q ∈ L, px_vv ids q.2) ∧ (∀ v ∈ st, px_vv ids v) ∧ (∀ i ∈ ids0, i ∈ ids) ∧ ∀ i ∈ ids0, ad i = ad0 i
def pw (l : Launch) (R : Room) (y : MethodName) (cc : ByteArray) (nL : Nat) (ret : Option FieldType) (pc : Nat) (L : List (Nat × pxV)) (st : List pxV) (ids : List pxI) (G : pxG) (σ : pxS) (k n : Nat) (Rt : Option pxV → List pxI → pxG → pxS → Prop) : Prop :=
  ∀ (p : Program) (e : Env) (s : State) (m : MethodId) (args : Array Value) (below : List Frame) (meth : Method) (c : Code) (H : Heap) (locs : List Loc) (ls : Array Slot) (D : va_G) (tA : Nat → ClassId) (ad ad0 : pxI → Nat) (ids0 : List pxI) (A : Nat → Prop),
    px_X p l e R s m args below meth c H locs ls D tA ad ad0 ids0 A y cc nL ret L st ids G σ →
    W p l e R s m args below meth c H locs k n (MQ below (px_Qc D tA ad0 ids0 Rt A) args s R.cells R.slots A) (F0 m pc ls (st.map (px_mv ad)))
def px_Pc (D : va_G) (tA : Nat → ClassId) (ad : pxI → Nat) (ids : List pxI) (G : pxG) (σ : pxS) (as : List pxV) (sz : Nat) : Array Value → State → Prop := fun v U =>
  v = (as.map (px_mv ad)).toArray ∧ U.heap.size = sz ∧ va_P D classes (px_ws ad tA ids G σ) U.heap ∧ va_K D classes (px_tys tA) U ∧ va_D (fun _ => True) (px_ws ad tA ids G σ) ∧ px_clo ids G σ ∧ ∀ w ∈ as, px_vv ids w
def pxws (y : MethodName) (cc : ByteArray) (nL : Nat) (ret : Option FieldType) : List Cond := .code y cc nL ret :: pxW
def pm (l : Launch) (y : MethodName) (cc : ByteArray) (nL : Nat) (ret : Option FieldType) (R : Room) (as : List pxV) (ids : List pxI) (G : pxG) (σ : pxS) (Rt : Option pxV → List pxI → pxG → pxS → Prop) : Prop :=
  ∀ (D : va_G) (tA : Nat → ClassId) (ad : pxI → Nat) (sz : Nat), Met l y (pxws y cc nL ret) R (px_Pc D tA ad ids G σ as sz) (px_Qc D tA ad ids Rt (va_A (px_ws ad tA ids G σ) sz)) R.cells R.slots (va_A (px_ws ad tA ids G σ) sz)
def px_args : Nat → List pxV → List (Nat × pxV)
  | _, [] => []
  | i, v :: vs => (i, v) :: px_args (i + 1) vs
theorem px_args_ml (ad : pxI → Nat) : ∀ (as : List pxV) (i : Nat), px_ml ad (px_args i as) = lv_args i (as.map (px_mv ad))
  | [], _ => rfl
  | v :: vs, i => by
    have h := px_args_ml ad vs (i + 1)
    show (i, px_mv ad v) :: px_ml ad (px_args (i + 1) vs) = (i, px_mv ad v) :: lv_args (if (px_mv ad v).category = 2 then i + 2 else i + 1) (vs.map (px_mv ad))
    rw [if_neg (by rw [px_mv_cat]; decide), h]
theorem px_sl_len (ad : pxI → Nat) : ∀ (as : List pxV), (lg_sl (as.map (px_mv ad))).length = as.length
  | [] => rfl
  | v :: vs => by
    have h := px_sl_len ad vs
    show ((if (px_mv ad v).category = 2 then [Slot.val (px_mv ad v), .second] else [.val (px_mv ad v)]) ++ lg_sl (vs.map (px_mv ad))).length = vs.length + 1
    rw [if_neg (by rw [px_mv_cat]; decide), List.length_append, h]
    simp [Nat.add_comm]
theorem px_args_mem : ∀ (as : List pxV) (i : Nat) (q : Nat × pxV), q ∈ px_args i as → q.2 ∈ as
  | [], _, _, h => by cases h
  | v :: vs, i, q, h => by
    rcases List.mem_cons.mp h with rfl | h
    · exact List.mem_cons_self
    · exact List.mem_cons_of_mem _ (px_args_mem vs (i + 1) q h)
theorem pm_of {l : Launch} {y : MethodName} {cc : ByteArray} {nL : Nat} {ret : Option FieldType} {R : Room} {as : List pxV} {ids : List pxI} {G : pxG} {σ : pxS} {Rt : Option pxV → List pxI → pxG → pxS → Prop}
    (hy : plainName y.cls = true) (hn : as.length ≤ nL) (h : pw l R y cc nL ret 0 (px_args 0 as) [] ids G σ 0 0 Rt) : pm l y cc nL ret R as ids G σ Rt := by
  intro D tA ad sz
  refine Met.ofW (cc := cc) (maxL := nL) (ret := ret) hy rfl ?_
  intro p e s m args below meth c s₁ B hml hv
  obtain ⟨rfl, hsz, hP, hK, hD0, hcl, hvv⟩ := hv
  subst hsz
  have hts := atoms_spec (ws := pxws y cc nL ret) B.pre
  rw [lg_entry_eq]
  exact h p e s m _ below meth c s.heap [] _ D tA ad ad ids _
    ⟨⟨B.exec, B.bytes, B.returns, hml, (name_of_methodNamed B.named B.method).1, fun w hw => hts w (List.mem_cons_of_mem _ hw), findClass_of_methodNamed B.named, B.notSynchronized, hK⟩,
      ⟨hP, hD0.self, va_S.rf, hcl, fun q hq => Or.inr hq⟩, by rw [px_args_ml]; exact lv_entry _ (by rw [px_sl_len]; exact hn), fun q hq => hvv _ (px_args_mem as 0 q hq), fun v hv => absurd hv List.not_mem_nil, fun i hi => hi, fun i _ => rfl⟩
end
section
/-! THE ROWS: what each instruction does to 'pw' -/
theorem px_X.stk {p : Program} {l : Launch} {e : Env} {R : Room} {s : State} {m : MethodId} {args : Array Value} {below : List Frame} {meth : Method} {c : Code} {H : Heap} {locs : List Loc} {ls : Array Slot} {D : va_G} {tA : Nat → ClassId} {ad ad0 : pxI → Nat} {ids0 : List pxI} {A : Nat → Prop} {y : MethodName} {cc : ByteArray} {nL : Nat} {ret : Option FieldType} {L : List (Nat × pxV)} {st st' : List pxV} {ids : List pxI} {G : pxG} {σ : pxS}
    (X : px_X p l e R s m args below meth c H locs ls D tA ad ad0 ids0 A y cc nL ret L st ids G σ) (h : ∀ v ∈ st', px_vv ids v) : px_X p l e R s m args below meth c H locs ls D tA ad ad0 ids0 A y cc nL ret L st' ids G σ :=
  ⟨X.1, X.2.1, X.2.2.1, X.2.2.2.1, h, X.2.2.2.2.2⟩
theorem px_c {ids : List pxI} {v : pxV} {st : List pxV} (h : px_vv ids v) (hs : ∀ w ∈ st, px_vv ids w) : ∀ w ∈ v :: st, px_vv ids w := fun w hw => by
  rcases List.mem_cons.mp hw with rfl | hw
  · exact h
  · exact hs w hw
theorem px_t {ids : List pxI} {v : pxV} {st : List pxV} (hs : ∀ w ∈ v :: st, px_vv ids w) : ∀ w ∈ st, px_vv ids w := fun w hw => hs w (List.mem_cons_of_mem _ hw)
theorem px_h {ids : List pxI} {v : pxV} {st : List pxV} (hs : ∀ w ∈ v :: st, px_vv ids w) : px_vv ids v := hs v List.mem_cons_self
def px_setL (i : Nat) (v : pxV) (L : List (Nat × pxV)) : List (Nat × pxV) := (i, v) :: L.filter (fun q => !(q.1 == i))
theorem px_setL_ml (ad : pxI → Nat) (i : Nat) (v : pxV) (L : List (Nat × pxV)) : (i, px_mv ad v) :: (px_ml ad L).filter (fun q => !(q.1 == i) && !(q.1 + 1 == i && q.2.category == 2)) = px_ml ad (px_setL i v L) := by
  have h : ∀ L : List (Nat × pxV), (px_ml ad L).filter (fun q => !(q.1 == i) && !(q.1 + 1 == i && q.2.category == 2)) = px_ml ad (L.filter (fun q => !(q.1 == i))) := by
    intro L
    induction L with
    | nil => rfl
    | cons q L ih =>
      have e : (!(q.1 == i) && !(q.1 + 1 == i && (px_mv ad q.2).category == 2)) = !(q.1 == i) := by
        rw [px_mv_cat]
        simp
      show List.filter _ ((q.1, px_mv ad q.2) :: px_ml ad L) = px_ml ad (List.filter _ (q :: L))
      rw [List.filter_cons, List.filter_cons, ih]
      show (if (!(q.1 == i) && !(q.1 + 1 == i && (px_mv ad q.2).category == 2)) = true then _ else _) = _
      rw [e]
      by_cases h : (!(q.1 == i)) = true
      · rw [if_pos h, if_pos h]
        rfl
      · rw [if_neg h, if_neg h]
  show _ = (i, px_mv ad v) :: px_ml ad (L.filter (fun q => !(q.1 == i)))
  rw [h]
theorem px_setL_mem {i : Nat} {v : pxV} {L : List (Nat × pxV)} {ids : List pxI} (h : px_vv ids v) (hL : ∀ q ∈ L, px_vv ids q.2) : ∀ q ∈ px_setL i v L, px_vv ids q.2 := fun q hq => by
  rcases List.mem_cons.mp hq with rfl | hq
  · exact h
  · exact hL q (List.mem_filter.mp hq).1
section PXR
variable {l : Launch} {R : Room} {y : MethodName} {cc : ByteArray} {nL : Nat} {ret : Option FieldType} {pc : Nat} {L : List (Nat × pxV)} {st : List pxV} {ids : List pxI} {G : pxG} {σ : pxS} {k n : Nat} {Rt : Option pxV → List pxI → pxG → pxS → Prop}
/-- other locals, of those that there are -/
theorem pw_L (L' : List (Nat × pxV)) (ps : List Nat) (hp : ps.filterMap (fun j => L[j]?) = L') (h : pw l R y cc nL ret pc L' st ids G σ k n Rt) : pw l R y cc nL ret pc L st ids G σ k n Rt := by
  have hm : ∀ q ∈ L', q ∈ L := fun q hq => by
    rw [← hp] at hq
    obtain ⟨j, -, hj⟩ := List.mem_filterMap.mp hq
    exact List.mem_of_getElem? hj
  intro p e s m args below meth c H locs ls D tA ad ad0 ids0 A X
  refine h p e s m args below meth c H locs ls D tA ad ad0 ids0 A ⟨X.1, X.2.1, ⟨X.2.2.1.1, X.2.2.1.2.1, fun q hq => ?_⟩, fun q hq => X.2.2.2.1 q (hm q hq), X.2.2.2.2⟩
  obtain ⟨q', h1, rfl⟩ := List.mem_map.mp hq
  exact X.2.2.1.2.2 _ (List.mem_map.mpr ⟨q', hm q' h1, rfl⟩)
theorem pw_iconst {j : Int} {v : Int32} (hd : decode cc pc = .ok (.iconst j, 1)) (hv : Int32.ofInt j = v) (h : pw l R y cc nL ret (pc + 1) L (.inl v :: st) ids G σ k n Rt) : pw l R y cc nL ret pc L st ids G σ k n Rt := by
  intro p e s m args below meth c H locs ls D tA ad ad0 ids0 A X
  exact lv_iconst X.1.1 X.1.2.1 hd hv (h p e s m args below meth c H locs ls D tA ad ad0 ids0 A (X.stk (px_c px_vi X.2.2.2.2.1)))
theorem pw_bipush {j : Int} {v : Int32} (hd : decode cc pc = .ok (.bipush j, 2)) (hv : (Int8.ofInt j).toInt32 = v) (h : pw l R y cc nL ret (pc + 2) L (.inl v :: st) ids G σ k n Rt) : pw l R y cc nL ret pc L st ids G σ k n Rt := by
  intro p e s m args below meth c H locs ls D tA ad ad0 ids0 A X
  exact lv_bipush X.1.1 X.1.2.1 hd hv (h p e s m args below meth c H locs ls D tA ad ad0 ids0 A (X.stk (px_c px_vi X.2.2.2.2.1)))
theorem pw_sipush {j : Int} {v : Int32} (hd : decode cc pc = .ok (.sipush j, 3)) (hv : (Int16.ofInt j).toInt32 = v) (h : pw l R y cc nL ret (pc + 3) L (.inl v :: st) ids G σ k n Rt) : pw l R y cc nL ret pc L st ids G σ k n Rt := by
  intro p e s m args below meth c H locs ls D tA ad ad0 ids0 A X
  exact lv_sipush X.1.1 X.1.2.1 hd hv (h p e s m args below meth c H locs ls D tA ad ad0 ids0 A (X.stk (px_c px_vi X.2.2.2.2.1)))
theorem pw_ldc {j : Nat} {v : Int32} (hd : decode cc pc = .ok (.ldc j, 2)) (hv : Cond.constant y.cls j v ∈ pxW) (h : pw l R y cc nL ret (pc + 2) L (.inl v :: st) ids G σ k n Rt) : pw l R y cc nL ret pc L st ids G σ k n Rt := by
  intro p e s m args below meth c H locs ls D tA ad ad0 ids0 A X
  exact lv_ldc X.1.1 X.1.2.1 X.1.2.2.2.2.2.2.1 (X.1.2.2.2.2.2.1 _ hv) hd (h p e s m args below meth c H locs ls D tA ad ad0 ids0 A (X.stk (px_c px_vi X.2.2.2.2.1)))
theorem pw_ldcw {j : Nat} {v : Int32} (hd : decode cc pc = .ok (.ldc_w j, 3)) (hv : Cond.constant y.cls j v ∈ pxW) (h : pw l R y cc nL ret (pc + 3) L (.inl v :: st) ids G σ k n Rt) : pw l R y cc nL ret pc L st ids G σ k n Rt := by
  intro p e s m args below meth c H locs ls D tA ad ad0 ids0 A X
  exact lv_ldcw X.1.1 X.1.2.1 X.1.2.2.2.2.2.2.1 (X.1.2.2.2.2.2.1 _ hv) hd (h p e s m args below meth c H locs ls D tA ad ad0 ids0 A (X.stk (px_c px_vi X.2.2.2.2.1)))
theorem pw_iload_n {j : Fin 4} {i : Nat} {x : Int32} (q : Nat) (hd : decode cc pc = .ok (.iload_n j, 1)) (hi : (j : Nat) = i) (hq : L[q]? = some (i, .inl x)) (h : pw l R y cc nL ret (pc + 1) L (.inl x :: st) ids G σ k n Rt) : pw l R y cc nL ret pc L st ids G σ k n Rt := by
  intro p e s m args below meth c H locs ls D tA ad ad0 ids0 A X
  exact lv_iload_n X.1.1 X.1.2.1 hd hi (X.2.2.1.2.2 (i, .int x) (List.mem_map.mpr ⟨_, List.mem_of_getElem? hq, rfl⟩)) (h p e s m args below meth c H locs ls D tA ad ad0 ids0 A (X.stk (px_c px_vi X.2.2.2.2.1)))
theorem pw_iload {i : Nat} {x : Int32} (q : Nat) (hd : decode cc pc = .ok (.iload i, 2)) (hq : L[q]? = some (i, .inl x)) (h : pw l R y cc nL ret (pc + 2) L (.inl x :: st) ids G σ k n Rt) : pw l R y cc nL ret pc L st ids G σ k n Rt := by
  intro p e s m args below meth c H locs ls D tA ad ad0 ids0 A X
  exact lv_iload X.1.1 X.1.2.1 hd (X.2.2.1.2.2 (i, .int x) (List.mem_map.mpr ⟨_, List.mem_of_getElem? hq, rfl⟩)) (h p e s m args below meth c H locs ls D tA ad ad0 ids0 A (X.stk (px_c px_vi X.2.2.2.2.1)))
theorem pw_aload_n {j : Fin 4} {i : Nat} {r : pxI} (q : Nat) (hd : decode cc pc = .ok (.aload_n j, 1)) (hi : (j : Nat) = i) (hq : L[q]? = some (i, .inr (some r))) (h : pw l R y cc nL ret (pc + 1) L (.inr (some r) :: st) ids G σ k n Rt) : pw l R y cc nL ret pc L st ids G σ k n Rt := by
  intro p e s m args below meth c H locs ls D tA ad ad0 ids0 A X
  exact lv_aload_n X.1.1 X.1.2.1 hd hi (X.2.2.1.2.2 (i, .ref (ad r)) (List.mem_map.mpr ⟨_, List.mem_of_getElem? hq, rfl⟩)) (h p e s m args below meth c H locs ls D tA ad ad0 ids0 A (X.stk (px_c (X.2.2.2.1 _ (List.mem_of_getElem? hq)) X.2.2.2.2.1)))
theorem pw_aload {i : Nat} {r : pxI} (q : Nat) (hd : decode cc pc = .ok (.aload i, 2)) (hq : L[q]? = some (i, .inr (some r))) (h : pw l R y cc nL ret (pc + 2) L (.inr (some r) :: st) ids G σ k n Rt) : pw l R y cc nL ret pc L st ids G σ k n Rt := by
  intro p e s m args below meth c H locs ls D tA ad ad0 ids0 A X
  exact lv_aload X.1.1 X.1.2.1 hd (X.2.2.1.2.2 (i, .ref (ad r)) (List.mem_map.mpr ⟨_, List.mem_of_getElem? hq, rfl⟩)) (h p e s m args below meth c H locs ls D tA ad ad0 ids0 A (X.stk (px_c (X.2.2.2.1 _ (List.mem_of_getElem? hq)) X.2.2.2.2.1)))
theorem px_X.loc {p : Program} {l : Launch} {e : Env} {R : Room} {s : State} {m : MethodId} {args : Array Value} {below : List Frame} {meth : Method} {c : Code} {H : Heap} {locs : List Loc} {ls ls' : Array Slot} {D : va_G} {tA : Nat → ClassId} {ad ad0 : pxI → Nat} {ids0 : List pxI} {A : Nat → Prop} {L L' : List (Nat × pxV)} {v : pxV} {i : Nat}
    (X : px_X p l e R s m args below meth c H locs ls D tA ad ad0 ids0 A y cc nL ret L (v :: st) ids G σ) (hL : px_setL i v L = L') (hl : lv_has ls' nL (px_ml ad L')) : px_X p l e R s m args below meth c H locs ls' D tA ad ad0 ids0 A y cc nL ret L' st ids G σ :=
  ⟨X.1, X.2.1, hl, by rw [← hL]; exact px_setL_mem (px_h X.2.2.2.2.1) X.2.2.2.1, px_t X.2.2.2.2.1, X.2.2.2.2.2⟩
theorem pw_istore_n {j : Fin 4} {i : Nat} {x : Int32} {L' : List (Nat × pxV)} (hd : decode cc pc = .ok (.istore_n j, 1)) (hi : (j : Nat) = i) (hn : i < nL) (hL : px_setL i (.inl x) L = L') (h : pw l R y cc nL ret (pc + 1) L' st ids G σ k n Rt) : pw l R y cc nL ret pc L (.inl x :: st) ids G σ k n Rt := by
  intro p e s m args below meth c H locs ls D tA ad ad0 ids0 A X
  exact lv_istore_n X.1.1 X.1.2.1 hd hi X.2.2.1 hn (by rw [← hL]; exact px_setL_ml ad i (.inl x) L) fun ls' hl => h p e s m args below meth c H locs ls' D tA ad ad0 ids0 A (X.loc hL hl)
theorem pw_istore {i : Nat} {x : Int32} {L' : List (Nat × pxV)} (hd : decode cc pc = .ok (.istore i, 2)) (hn : i < nL) (hL : px_setL i (.inl x) L = L') (h : pw l R y cc nL ret (pc + 2) L' st ids G σ k n Rt) : pw l R y cc nL ret pc L (.inl x :: st) ids G σ k n Rt := by
  intro p e s m args below meth c H locs ls D tA ad ad0 ids0 A X
  exact lv_istore X.1.1 X.1.2.1 hd X.2.2.1 hn (by rw [← hL]; exact px_setL_ml ad i (.inl x) L) fun ls' hl => h p e s m args below meth c H locs ls' D tA ad ad0 ids0 A (X.loc hL hl)
theorem pw_astore_n {j : Fin 4} {i : Nat} {r : pxI} {L' : List (Nat × pxV)} (hd : decode cc pc = .ok (.astore_n j, 1)) (hi : (j : Nat) = i) (hn : i < nL) (hL : px_setL i (.inr (some r)) L = L') (h : pw l R y cc nL ret (pc + 1) L' st ids G σ k n Rt) : pw l R y cc nL ret pc L (.inr (some r) :: st) ids G σ k n Rt := by
  intro p e s m args below meth c H locs ls D tA ad ad0 ids0 A X
  exact lv_astore_n X.1.1 X.1.2.1 hd hi X.2.2.1 hn (by rw [← hL]; exact px_setL_ml ad i (.inr (some r)) L) fun ls' hl => h p e s m args below meth c H locs ls' D tA ad ad0 ids0 A (X.loc hL hl)
theorem pw_astore {i : Nat} {r : pxI} {L' : List (Nat × pxV)} (hd : decode cc pc = .ok (.astore i, 2)) (hn : i < nL) (hL : px_setL i (.inr (some r)) L = L') (h : pw l R y cc nL ret (pc + 2) L' st ids G σ k n Rt) : pw l R y cc nL ret pc L (.inr (some r) :: st) ids G σ k n Rt := by
  intro p e s m args below meth c H locs ls D tA ad ad0 ids0 A X
  exact lv_astore X.1.1 X.1.2.1 hd X.2.2.1 hn (by rw [← hL]; exact px_setL_ml ad i (.inr (some r)) L) fun ls' hl => h p e s m args below meth c H locs ls' D tA ad ad0 ids0 A (X.loc hL hl)
theorem pw_iinc {i q : Nat} {j : Int} {x v : Int32} {L' : List (Nat × pxV)} (hd : decode cc pc = .ok (.iinc i j, 3)) (hq : L[q]? = some (i, .inl x)) (hv : x + Int32.ofInt j = v) (hn : i < nL) (hL : px_setL i (.inl v) L = L') (h : pw l R y cc nL ret (pc + 3) L' st ids G σ k n Rt) : pw l R y cc nL ret pc L st ids G σ k n Rt := by
  intro p e s m args below meth c H locs ls D tA ad ad0 ids0 A X
  refine lv_iinc (lv' := px_ml ad L') X.1.1 X.1.2.1 hd X.2.2.1 (k := q) (by simp [px_ml, hq, px_mv]) hv hn (by rw [← hL]; exact px_setL_ml ad i (.inl v) L) fun ls' hl => h p e s m args below meth c H locs ls' D tA ad ad0 ids0 A ?_
  exact (X.stk (st' := .inl v :: st) (px_c px_vi X.2.2.2.2.1)).loc hL hl
theorem pw_iadd {a b : Int32} (hd : decode cc pc = .ok (.iadd, 1)) (h : pw l R y cc nL ret (pc + 1) L (.inl (a + b) :: st) ids G σ k n Rt) : pw l R y cc nL ret pc L (.inl b :: .inl a :: st) ids G σ k n Rt := by
  intro p e s m args below meth c H locs ls D tA ad ad0 ids0 A X
  exact lv_iadd X.1.1 X.1.2.1 hd (h p e s m args below meth c H locs ls D tA ad ad0 ids0 A (X.stk (px_c px_vi (px_t (px_t X.2.2.2.2.1)))))
theorem pw_isub {a b : Int32} (hd : decode cc pc = .ok (.isub, 1)) (h : pw l R y cc nL ret (pc + 1) L (.inl (a - b) :: st) ids G σ k n Rt) : pw l R y cc nL ret pc L (.inl b :: .inl a :: st) ids G σ k n Rt := by
  intro p e s m args below meth c H locs ls D tA ad ad0 ids0 A X
  exact lv_isub X.1.1 X.1.2.1 hd (h p e s m args below meth c H locs ls D tA ad ad0 ids0 A (X.stk (px_c px_vi (px_t (px_t X.2.2.2.2.1)))))
theorem pw_imul {a b : Int32} (hd : decode cc pc = .ok (.imul, 1)) (h : pw l R y cc nL ret (pc + 1) L (.inl (a * b) :: st) ids G σ k n Rt) : pw l R y cc nL ret pc L (.inl b :: .inl a :: st) ids G σ k n Rt := by
  intro p e s m args below meth c H locs ls D tA ad ad0 ids0 A X
  exact lv_imul X.1.1 X.1.2.1 hd (h p e s m args below meth c H locs ls D tA ad ad0 ids0 A (X.stk (px_c px_vi (px_t (px_t X.2.2.2.2.1)))))
theorem pw_iand {a b : Int32} (hd : decode cc pc = .ok (.iand, 1)) (h : pw l R y cc nL ret (pc + 1) L (.inl (a &&& b) :: st) ids G σ k n Rt) : pw l R y cc nL ret pc L (.inl b :: .inl a :: st) ids G σ k n Rt := by
  intro p e s m args below meth c H locs ls D tA ad ad0 ids0 A X
  exact lv_iand X.1.1 X.1.2.1 hd (h p e s m args below meth c H locs ls D tA ad ad0 ids0 A (X.stk (px_c px_vi (px_t (px_t X.2.2.2.2.1)))))
theorem pw_ior {a b : Int32} (hd : decode cc pc = .ok (.ior, 1)) (h : pw l R y cc nL ret (pc + 1) L (.inl (a ||| b) :: st) ids G σ k n Rt) : pw l R y cc nL ret pc L (.inl b :: .inl a :: st) ids G σ k n Rt := by
  intro p e s m args below meth c H locs ls D tA ad ad0 ids0 A X
  exact lv_ior X.1.1 X.1.2.1 hd (h p e s m args below meth c H locs ls D tA ad ad0 ids0 A (X.stk (px_c px_vi (px_t (px_t X.2.2.2.2.1)))))
theorem pw_ixor {a b : Int32} (hd : decode cc pc = .ok (.ixor, 1)) (h : pw l R y cc nL ret (pc + 1) L (.inl (a ^^^ b) :: st) ids G σ k n Rt) : pw l R y cc nL ret pc L (.inl b :: .inl a :: st) ids G σ k n Rt := by
  intro p e s m args below meth c H locs ls D tA ad ad0 ids0 A X
  exact lv_ixor X.1.1 X.1.2.1 hd (h p e s m args below meth c H locs ls D tA ad ad0 ids0 A (X.stk (px_c px_vi (px_t (px_t X.2.2.2.2.1)))))
theorem pw_ishl {a b : Int32} (hd : decode cc pc = .ok (.ishl, 1)) (h : pw l R y cc nL ret (pc + 1) L (.inl (a <<< (b &&& 31)) :: st) ids G σ k n Rt) : pw l R y cc nL ret pc L (.inl b :: .inl a :: st) ids G σ k n Rt := by
  intro p e s m args below meth c H locs ls D tA ad ad0 ids0 A X
  exact lv_ishl X.1.1 X.1.2.1 hd (h p e s m args below meth c H locs ls D tA ad ad0 ids0 A (X.stk (px_c px_vi (px_t (px_t X.2.2.2.2.1)))))
theorem pw_ishr {a b : Int32} (hd : decode cc pc = .ok (.ishr, 1)) (h : pw l R y cc nL ret (pc + 1) L (.inl (a >>> (b &&& 31)) :: st) ids G σ k n Rt) : pw l R y cc nL ret pc L (.inl b :: .inl a :: st) ids G σ k n Rt := by
  intro p e s m args below meth c H locs ls D tA ad ad0 ids0 A X
  exact lv_ishr X.1.1 X.1.2.1 hd (h p e s m args below meth c H locs ls D tA ad ad0 ids0 A (X.stk (px_c px_vi (px_t (px_t X.2.2.2.2.1)))))
theorem pw_iushr {a b : Int32} (hd : decode cc pc = .ok (.iushr, 1)) (h : pw l R y cc nL ret (pc + 1) L (.inl ((a.toUInt32 >>> (b.toUInt32 &&& Int32.toUInt32 31)).toInt32) :: st) ids G σ k n Rt) : pw l R y cc nL ret pc L (.inl b :: .inl a :: st) ids G σ k n Rt := by
  intro p e s m args below meth c H locs ls D tA ad ad0 ids0 A X
  exact lv_iushr X.1.1 X.1.2.1 hd rfl (h p e s m args below meth c H locs ls D tA ad ad0 ids0 A (X.stk (px_c px_vi (px_t (px_t X.2.2.2.2.1)))))
theorem pw_idiv {a b : Int32} (hd : decode cc pc = .ok (.idiv, 1)) (hne : ¬ b = 0) (h : pw l R y cc nL ret (pc + 1) L (.inl (a / b) :: st) ids G σ k n Rt) : pw l R y cc nL ret pc L (.inl b :: .inl a :: st) ids G σ k n Rt := by
  intro p e s m args below meth c H locs ls D tA ad ad0 ids0 A X
  exact lv_idiv X.1.1 X.1.2.1 hd hne (h p e s m args below meth c H locs ls D tA ad ad0 ids0 A (X.stk (px_c px_vi (px_t (px_t X.2.2.2.2.1)))))
theorem pw_irem {a b : Int32} (hd : decode cc pc = .ok (.irem, 1)) (hne : ¬ b = 0) (h : pw l R y cc nL ret (pc + 1) L (.inl (a - a / b * b) :: st) ids G σ k n Rt) : pw l R y cc nL ret pc L (.inl b :: .inl a :: st) ids G σ k n Rt := by
  intro p e s m args below meth c H locs ls D tA ad ad0 ids0 A X
  exact lv_irem X.1.1 X.1.2.1 hd hne (h p e s m args below meth c H locs ls D tA ad ad0 ids0 A (X.stk (px_c px_vi (px_t (px_t X.2.2.2.2.1)))))
theorem pw_ineg {a : Int32} (hd : decode cc pc = .ok (.ineg, 1)) (h : pw l R y cc nL ret (pc + 1) L (.inl (-a) :: st) ids G σ k n Rt) : pw l R y cc nL ret pc L (.inl a :: st) ids G σ k n Rt := by
  intro p e s m args below meth c H locs ls D tA ad ad0 ids0 A X
  exact lv_ineg X.1.1 X.1.2.1 hd (h p e s m args below meth c H locs ls D tA ad ad0 ids0 A (X.stk (px_c px_vi (px_t X.2.2.2.2.1))))
theorem pw_i2b {a : Int32} (hd : decode cc pc = .ok (.i2b, 1)) (h : pw l R y cc nL ret (pc + 1) L (.inl a.toInt8.toInt32 :: st) ids G σ k n Rt) : pw l R y cc nL ret pc L (.inl a :: st) ids G σ k n Rt := by
  intro p e s m args below meth c H locs ls D tA ad ad0 ids0 A X
  exact lv_i2b X.1.1 X.1.2.1 hd rfl (h p e s m args below meth c H locs ls D tA ad ad0 ids0 A (X.stk (px_c px_vi (px_t X.2.2.2.2.1))))
theorem pw_dup {v : pxV} (hd : decode cc pc = .ok (.dup, 1)) (h : pw l R y cc nL ret (pc + 1) L (v :: v :: st) ids G σ k n Rt) : pw l R y cc nL ret pc L (v :: st) ids G σ k n Rt := by
  intro p e s m args below meth c H locs ls D tA ad ad0 ids0 A X
  exact lv_dup X.1.1 X.1.2.1 hd (px_mv_cat ad v) (h p e s m args below meth c H locs ls D tA ad ad0 ids0 A (X.stk (px_c (px_h X.2.2.2.2.1) X.2.2.2.2.1)))
theorem pw_dup2 {v w : pxV} (hd : decode cc pc = .ok (.dup2, 1)) (h : pw l R y cc nL ret (pc + 1) L (v :: w :: v :: w :: st) ids G σ k n Rt) : pw l R y cc nL ret pc L (v :: w :: st) ids G σ k n Rt := by
  intro p e s m args below meth c H locs ls D tA ad ad0 ids0 A X
  exact lv_dup2_11 X.1.1 X.1.2.1 hd (px_mv_cat ad v) (px_mv_cat ad w) (h p e s m args below meth c H locs ls D tA ad ad0 ids0 A (X.stk (px_c (px_h X.2.2.2.2.1) (px_c (px_h (px_t X.2.2.2.2.1)) X.2.2.2.2.1))))
theorem pw_dup_x1 {v w : pxV} (hd : decode cc pc = .ok (.dup_x1, 1)) (h : pw l R y cc nL ret (pc + 1) L (v :: w :: v :: st) ids G σ k n Rt) : pw l R y cc nL ret pc L (v :: w :: st) ids G σ k n Rt := by
  intro p e s m args below meth c H locs ls D tA ad ad0 ids0 A X
  exact lv_dup_x1 X.1.1 X.1.2.1 hd (px_mv_cat ad v) (px_mv_cat ad w) (h p e s m args below meth c H locs ls D tA ad ad0 ids0 A (X.stk (px_c (px_h X.2.2.2.2.1) (px_c (px_h (px_t X.2.2.2.2.1)) (px_c (px_h X.2.2.2.2.1) (px_t (px_t X.2.2.2.2.1)))))))
theorem pw_pop {v : pxV} (hd : decode cc pc = .ok (.pop, 1)) (h : pw l R y cc nL ret (pc + 1) L st ids G σ k n Rt) : pw l R y cc nL ret pc L (v :: st) ids G σ k n Rt := by
  intro p e s m args below meth c H locs ls D tA ad ad0 ids0 A X
  exact lv_pop X.1.1 X.1.2.1 hd (px_mv_cat ad v) (h p e s m args below meth c H locs ls D tA ad ad0 ids0 A (X.stk (px_t X.2.2.2.2.1)))
theorem pw_goto {off : Int} (tgt : Nat) (hd : decode cc pc = .ok (.goto off, 3)) (ht : (pc : Int) + off = (tgt : Int)) (h : pw l R y cc nL ret tgt L st ids G σ k n Rt) : pw l R y cc nL ret pc L st ids G σ k n Rt := by
  intro p e s m args below meth c H locs ls D tA ad ad0 ids0 A X
  exact lv_goto X.1.1 X.1.2.1 hd ht (h p e s m args below meth c H locs ls D tA ad ad0 ids0 A X)
theorem pw_icmp_eq {off : Int} {a b : Int32} (tgt : Nat) (hd : decode cc pc = .ok (.if_icmp .eq off, 3)) (ht : (pc : Int) + off = (tgt : Int)) (h1 : a = b → pw l R y cc nL ret tgt L st ids G σ k n Rt) (h2 : ¬ a = b → pw l R y cc nL ret (pc + 3) L st ids G σ k n Rt) : pw l R y cc nL ret pc L (.inl b :: .inl a :: st) ids G σ k n Rt := by
  intro p e s m args below meth c H locs ls D tA ad ad0 ids0 A X
  exact lv_icmp_eq X.1.1 X.1.2.1 hd ht (fun q => h1 q p e s m args below meth c H locs ls D tA ad ad0 ids0 A (X.stk (px_t (px_t X.2.2.2.2.1)))) (fun q => h2 q p e s m args below meth c H locs ls D tA ad ad0 ids0 A (X.stk (px_t (px_t X.2.2.2.2.1))))
theorem pw_icmp_ne {off : Int} {a b : Int32} (tgt : Nat) (hd : decode cc pc = .ok (.if_icmp .ne off, 3)) (ht : (pc : Int) + off = (tgt : Int)) (h1 : ¬ a = b → pw l R y cc nL ret tgt L st ids G σ k n Rt) (h2 : a = b → pw l R y cc nL ret (pc + 3) L st ids G σ k n Rt) : pw l R y cc nL ret pc L (.inl b :: .inl a :: st) ids G σ k n Rt := by
  intro p e s m args below meth c H locs ls D tA ad ad0 ids0 A X
  exact lv_icmp_ne X.1.1 X.1.2.1 hd ht (fun q => h1 q p e s m args below meth c H locs ls D tA ad ad0 ids0 A (X.stk (px_t (px_t X.2.2.2.2.1)))) (fun q => h2 q p e s m args below meth c H locs ls D tA ad ad0 ids0 A (X.stk (px_t (px_t X.2.2.2.2.1))))
theorem pw_icmp_lt {off : Int} {a b : Int32} (tgt : Nat) (hd : decode cc pc = .ok (.if_icmp .lt off, 3)) (ht : (pc : Int) + off = (tgt : Int)) (h1 : a < b → pw l R y cc nL ret tgt L st ids G σ k n Rt) (h2 : ¬ a < b → pw l R y cc nL ret (pc + 3) L st ids G σ k n Rt) : pw l R y cc nL ret pc L (.inl b :: .inl a :: st) ids G σ k n Rt := by
  intro p e s m args below meth c H locs ls D tA ad ad0 ids0 A X
  exact lv_icmp_lt X.1.1 X.1.2.1 hd ht (fun q => h1 q p e s m args below meth c H locs ls D tA ad ad0 ids0 A (X.stk (px_t (px_t X.2.2.2.2.1)))) (fun q => h2 q p e s m args below meth c H locs ls D tA ad ad0 ids0 A (X.stk (px_t (px_t X.2.2.2.2.1))))
theorem pw_icmp_le {off : Int} {a b : Int32} (tgt : Nat) (hd : decode cc pc = .ok (.if_icmp .le off, 3)) (ht : (pc : Int) + off = (tgt : Int)) (h1 : a ≤ b → pw l R y cc nL ret tgt L st ids G σ k n Rt) (h2 : ¬ a ≤ b → pw l R y cc nL ret (pc + 3) L st ids G σ k n Rt) : pw l R y cc nL ret pc L (.inl b :: .inl a :: st) ids G σ k n Rt := by
  intro p e s m args below meth c H locs ls D tA ad ad0 ids0 A X
  exact lv_icmp_le X.1.1 X.1.2.1 hd ht (fun q => h1 q p e s m args below meth c H locs ls D tA ad ad0 ids0 A (X.stk (px_t (px_t X.2.2.2.2.1)))) (fun q => h2 q p e s m args below meth c H locs ls D tA ad ad0 ids0 A (X.stk (px_t (px_t X.2.2.2.2.1))))
theorem pw_icmp_gt {off : Int} {a b : Int32} (tgt : Nat) (hd : decode cc pc = .ok (.if_icmp .gt off, 3)) (ht : (pc : Int) + off = (tgt : Int)) (h1 : b < a → pw l R y cc nL ret tgt L st ids G σ k n Rt) (h2 : ¬ b < a → pw l R y cc nL ret (pc + 3) L st ids G σ k n Rt) : pw l R y cc nL ret pc L (.inl b :: .inl a :: st) ids G σ k n Rt := by
  intro p e s m args below meth c H locs ls D tA ad ad0 ids0 A X
  exact lv_icmp_gt X.1.1 X.1.2.1 hd ht (fun q => h1 q p e s m args below meth c H locs ls D tA ad ad0 ids0 A (X.stk (px_t (px_t X.2.2.2.2.1)))) (fun q => h2 q p e s m args below meth c H locs ls D tA ad ad0 ids0 A (X.stk (px_t (px_t X.2.2.2.2.1))))
theorem pw_icmp_ge {off : Int} {a b : Int32} (tgt : Nat) (hd : decode cc pc = .ok (.if_icmp .ge off, 3)) (ht : (pc : Int) + off = (tgt : Int)) (h1 : b ≤ a → pw l R y cc nL ret tgt L st ids G σ k n Rt) (h2 : ¬ b ≤ a → pw l R y cc nL ret (pc + 3) L st ids G σ k n Rt) : pw l R y cc nL ret pc L (.inl b :: .inl a :: st) ids G σ k n Rt := by
  intro p e s m args below meth c H locs ls D tA ad ad0 ids0 A X
  exact lv_icmp_ge X.1.1 X.1.2.1 hd ht (fun q => h1 q p e s m args below meth c H locs ls D tA ad ad0 ids0 A (X.stk (px_t (px_t X.2.2.2.2.1)))) (fun q => h2 q p e s m args below meth c H locs ls D tA ad ad0 ids0 A (X.stk (px_t (px_t X.2.2.2.2.1))))
theorem pw_if_eq {off : Int} {a : Int32} (tgt : Nat) (hd : decode cc pc = .ok (.ifCond .eq off, 3)) (ht : (pc : Int) + off = (tgt : Int)) (h1 : a = 0 → pw l R y cc nL ret tgt L st ids G σ k n Rt) (h2 : ¬ a = 0 → pw l R y cc nL ret (pc + 3) L st ids G σ k n Rt) : pw l R y cc nL ret pc L (.inl a :: st) ids G σ k n Rt := by
  intro p e s m args below meth c H locs ls D tA ad ad0 ids0 A X
  exact lv_if_eq X.1.1 X.1.2.1 hd ht (fun q => h1 q p e s m args below meth c H locs ls D tA ad ad0 ids0 A (X.stk (px_t X.2.2.2.2.1))) (fun q => h2 q p e s m args below meth c H locs ls D tA ad ad0 ids0 A (X.stk (px_t X.2.2.2.2.1)))
theorem pw_if_ne {off : Int} {a : Int32} (tgt : Nat) (hd : decode cc pc = .ok (.ifCond .ne off, 3)) (ht : (pc : Int) + off = (tgt : Int)) (h1 : ¬ a = 0 → pw l R y cc nL ret tgt L st ids G σ k n Rt) (h2 : a = 0 → pw l R y cc nL ret (pc + 3) L st ids G σ k n Rt) : pw l R y cc nL ret pc L (.inl a :: st) ids G σ k n Rt := by
  intro p e s m args below meth c H locs ls D tA ad ad0 ids0 A X
  exact lv_if_ne X.1.1 X.1.2.1 hd ht (fun q => h1 q p e s m args below meth c H locs ls D tA ad ad0 ids0 A (X.stk (px_t X.2.2.2.2.1))) (fun q => h2 q p e s m args below meth c H locs ls D tA ad ad0 ids0 A (X.stk (px_t X.2.2.2.2.1)))
theorem pw_if_lt {off : Int} {a : Int32} (tgt : Nat) (hd : decode cc pc = .ok (.ifCond .lt off, 3)) (ht : (pc : Int) + off = (tgt : Int)) (h1 : a < 0 → pw l R y cc nL ret tgt L st ids G σ k n Rt) (h2 : ¬ a < 0 → pw l R y cc nL ret (pc + 3) L st ids G σ k n Rt) : pw l R y cc nL ret pc L (.inl a :: st) ids G σ k n Rt := by
  intro p e s m args below meth c H locs ls D tA ad ad0 ids0 A X
  exact lv_if_lt X.1.1 X.1.2.1 hd ht (fun q => h1 q p e s m args below meth c H locs ls D tA ad ad0 ids0 A (X.stk (px_t X.2.2.2.2.1))) (fun q => h2 q p e s m args below meth c H locs ls D tA ad ad0 ids0 A (X.stk (px_t X.2.2.2.2.1)))
theorem pw_if_ge {off : Int} {a : Int32} (tgt : Nat) (hd : decode cc pc = .ok (.ifCond .ge off, 3)) (ht : (pc : Int) + off = (tgt : Int)) (h1 : 0 ≤ a → pw l R y cc nL ret tgt L st ids G σ k n Rt) (h2 : ¬ 0 ≤ a → pw l R y cc nL ret (pc + 3) L st ids G σ k n Rt) : pw l R y cc nL ret pc L (.inl a :: st) ids G σ k n Rt := by
  intro p e s m args below meth c H locs ls D tA ad ad0 ids0 A X
  exact lv_if_ge X.1.1 X.1.2.1 hd ht (fun q => h1 q p e s m args below meth c H locs ls D tA ad ad0 ids0 A (X.stk (px_t X.2.2.2.2.1))) (fun q => h2 q p e s m args below meth c H locs ls D tA ad ad0 ids0 A (X.stk (px_t X.2.2.2.2.1)))
theorem pw_if_gt {off : Int} {a : Int32} (tgt : Nat) (hd : decode cc pc = .ok (.ifCond .gt off, 3)) (ht : (pc : Int) + off = (tgt : Int)) (h1 : 0 < a → pw l R y cc nL ret tgt L st ids G σ k n Rt) (h2 : ¬ 0 < a → pw l R y cc nL ret (pc + 3) L st ids G σ k n Rt) : pw l R y cc nL ret pc L (.inl a :: st) ids G σ k n Rt := by
  intro p e s m args below meth c H locs ls D tA ad ad0 ids0 A X
  exact lv_if_gt X.1.1 X.1.2.1 hd ht (fun q => h1 q p e s m args below meth c H locs ls D tA ad ad0 ids0 A (X.stk (px_t X.2.2.2.2.1))) (fun q => h2 q p e s m args below meth c H locs ls D tA ad ad0 ids0 A (X.stk (px_t X.2.2.2.2.1)))
theorem pw_if_le {off : Int} {a : Int32} (tgt : Nat) (hd : decode cc pc = .ok (.ifCond .le off, 3)) (ht : (pc : Int) + off = (tgt : Int)) (h1 : a ≤ 0 → pw l R y cc nL ret tgt L st ids G σ k n Rt) (h2 : ¬ a ≤ 0 → pw l R y cc nL ret (pc + 3) L st ids G σ k n Rt) : pw l R y cc nL ret pc L (.inl a :: st) ids G σ k n Rt := by
  intro p e s m args below meth c H locs ls D tA ad ad0 ids0 A X
  exact lv_if_le X.1.1 X.1.2.1 hd ht (fun q => h1 q p e s m args below meth c H locs ls D tA ad ad0 ids0 A (X.stk (px_t X.2.2.2.2.1))) (fun q => h2 q p e s m args below meth c H locs ls D tA ad ad0 ids0 A (X.stk (px_t X.2.2.2.2.1)))
end PXR
end
section
/-! cells: fields, arrays; ends -/
def px_F (own : String) (idx ci kf : Nat) : Prop := ∃ q : vw_C, classes[ci]? = some q ∧ kf < q.2.2 ∧ Cond.fieldLink own idx (q.2.1 kf).1 (q.2.1 kf).2.1 (q.2.1 kf).2.2.1 ∈ pxW
def px_FW (own : String) (idx ci kf : Nat) (ty : FieldType) : Prop := ∃ q : vw_C, classes[ci]? = some q ∧ kf < q.2.2 ∧ Cond.fieldLink own idx (q.2.1 kf).1 (q.2.1 kf).2.1 (q.2.1 kf).2.2.1 ∈ pxW ∧ (q.2.1 kf).2.2.2 = false ∧ px_ty ci kf = ty
theorem px_clo_up {ids : List pxI} {G : pxG} {σ : pxS} {i : pxI} {k : Nat} {x : Int32} (h : px_clo ids G σ) (hi : ∀ (c : Nat) (sl : List pxK) (q : pxK), G i = .inr (.inr (c, sl)) → sl[k]? = some q → px_vv ids (px_sv q x)) : px_clo ids G (px_up σ i k x) := by
  intro j hj
  have h1 := h j hj
  cases hG : G j with
  | inl a => trivial
  | inr b =>
    cases b with
    | inl a => rw [hG] at h1; exact h1
    | inr a =>
      rw [hG] at h1
      intro k' q hq
      by_cases hji : j = i
      · subst hji
        by_cases hk : k' = k
        · subst hk
          have := hi a.1 a.2 q hG hq
          simpa [px_up] using this
        · have := h1 k' q hq
          simpa [px_up, hk] using this
      · have := h1 k' q hq
        simpa [px_up, hji] using this
section PXM
variable {l : Launch} {R : Room} {y : MethodName} {cc : ByteArray} {nL : Nat} {ret : Option FieldType} {pc : Nat} {L : List (Nat × pxV)} {st : List pxV} {ids : List pxI} {G : pxG} {σ : pxS} {k n : Nat} {Rt : Option pxV → List pxI → pxG → pxS → Prop}
theorem pw_getf {idx ci kf : Nat} {q : pxK} {sl : List pxK} {i : pxI} {v : pxV} (hd : decode cc pc = .ok (.getfield idx, 3)) (hf : px_F y.cls idx ci kf) (hG : G i = .inr (.inr (ci, sl))) (hq : sl[kf]? = some q) (hv : px_sv q (σ i kf) = v)
    (h : pw l R y cc nL ret (pc + 3) L (v :: st) ids G σ k n Rt) : pw l R y cc nL ret pc L (.inr (some i) :: st) ids G σ k n Rt := by
  intro p e s m args below meth c H locs ls D tA ad ad0 ids0 A X
  obtain ⟨hx, hb, hr, hml, hnm, hts, hown, hlk, hK⟩ := X.1
  obtain ⟨hP, hD, hS, hcl, hA⟩ := X.2.1
  obtain ⟨qc, hc, hk, hw⟩ := hf
  have hi : i ∈ ids := px_h X.2.2.2.2.1 i rfl
  obtain ⟨q0, h0⟩ := List.getElem?_of_mem hi
  have he := px_ws_get (ad := ad) (tA := tA) (G := G) (σ := σ) h0
  rw [hG] at he
  have hvv : px_vv ids v := by
    have h1 := hcl i hi
    rw [hG] at h1
    rw [← hv]
    exact h1 kf q hq
  exact va_get hx hb hts (px_cls hc).1 hown hK hP q0 he hc kf hk (hts _ hw) (fun _ h9 => h9) (by rw [px_fs_get hq, hv]) hd (h p e s m args below meth c H locs ls D tA ad ad0 ids0 A (X.stk (px_c hvv (px_t X.2.2.2.2.1))))
/-- a number, or a reference by its number, into a field -/
theorem pw_put {idx ci kf : Nat} {q : pxK} {sl : List pxK} {i : pxI} {x : Int32} {ty : FieldType} {v : pxV} (hd : decode cc pc = .ok (.putfield idx, 3)) (hf : px_FW y.cls idx ci kf ty) (hG : G i = .inr (.inr (ci, sl))) (hq : sl[kf]? = some q) (hv : px_sv q x = v)
    (hn : ∀ ad : pxI → Nat, narrow ty (px_mv ad v) = px_mv ad v ∧ fits ty (px_mv ad v) = true)
    (h : pw l R y cc nL ret (pc + 3) L st ids G (px_up σ i kf x) k n Rt) : pw l R y cc nL ret pc L (v :: .inr (some i) :: st) ids G σ k n Rt := by
  intro p e s m args below meth c H locs ls D tA ad ad0 ids0 A X
  obtain ⟨hx, hb, hr, hml, hnm, hts, hown, hlk, hK⟩ := X.1
  obtain ⟨hP, hD, hS, hcl, hA⟩ := X.2.1
  obtain ⟨qc, hc, hk, hw, hfin, hty⟩ := hf
  have hi : i ∈ ids := px_h (px_t X.2.2.2.2.1) i rfl
  obtain ⟨q0, h0⟩ := List.getElem?_of_mem hi
  have he := px_ws_get (ad := ad) (tA := tA) (G := G) (σ := σ) h0
  rw [hG] at he
  have hset : (px_ws ad tA ids G σ).set q0 (ad i, .inr (ci, (px_fs ad sl (σ i)).set kf (px_mv ad v))) = px_ws ad tA ids G (px_up σ i kf x) := by
    rw [← px_ws_set hD h0 (G' := G) (σ' := px_up σ i kf x) (fun j _ hj => by rw [px_up_ne hj]), px_up_self, hG]
    show _ = List.set _ _ (ad i, Sum.inr (ci, px_fs ad sl (upd (σ i) kf x)))
    rw [← hv, px_fs_set hq]
  refine va_put hx hb hts (px_cls hc).1 (px_ty ci) (px_cls hc).2.1 (px_cls hc).2.2 hown hK hP hD hS q0 he hc kf hk (hts _ hw) (fun _ h9 => h9) hfin (by rw [← hty]; exact (px_cls hc).2.1 kf hk) (hn ad).1 (hn ad).2 ?_ hd fun H1 locs1 hP1 hD1 hS1 => ?_
  · have := (List.getElem?_eq_some_iff.mp (px_fs_get (ad := ad) (f := σ i) hq)).1
    exact this
  · rw [hset] at hP1 hD1
    exact h p e s m args below meth c H1 locs1 ls D tA ad ad0 ids0 A ⟨X.1, ⟨hP1, hD1, hS1, px_clo_up hcl (fun c' sl' q' e1 e2 => by
      rw [hG] at e1
      cases e1
      rw [hq] at e2
      cases e2
      rw [hv]
      exact px_h X.2.2.2.2.1), hA⟩, X.2.2.1, X.2.2.2.1, px_t (px_t X.2.2.2.2.1), X.2.2.2.2.2⟩
theorem pw_puti {idx ci kf : Nat} {sl : List pxK} {i : pxI} {x : Int32} (hd : decode cc pc = .ok (.putfield idx, 3)) (hf : px_FW y.cls idx ci kf .int) (hG : G i = .inr (.inr (ci, sl))) (hq : sl[kf]? = some none)
    (h : pw l R y cc nL ret (pc + 3) L st ids G (px_up σ i kf x) k n Rt) : pw l R y cc nL ret pc L (.inl x :: .inr (some i) :: st) ids G σ k n Rt :=
  pw_put hd hf hG hq rfl (fun ad => ⟨rfl, rfl⟩) h
theorem px_bool {x : Int32} (h : x = 0 ∨ x = 1) : narrow .boolean (.int x) = .int x ∧ fits .boolean (.int x) = true := by
  rcases h with rfl | rfl <;> exact ⟨by decide +kernel, by decide +kernel⟩
theorem pw_putz {idx ci kf : Nat} {sl : List pxK} {i : pxI} {x : Int32} (hd : decode cc pc = .ok (.putfield idx, 3)) (hf : px_FW y.cls idx ci kf .boolean) (hG : G i = .inr (.inr (ci, sl))) (hq : sl[kf]? = some none) (hb : x = 0 ∨ x = 1)
    (h : pw l R y cc nL ret (pc + 3) L st ids G (px_up σ i kf x) k n Rt) : pw l R y cc nL ret pc L (.inl x :: .inr (some i) :: st) ids G σ k n Rt :=
  pw_put hd hf hG hq rfl (fun ad => px_bool hb) h
theorem pw_putr {idx ci kf kd : Nat} {sl : List pxK} {i : pxI} {C : String} (x : Int32) (hd : decode cc pc = .ok (.putfield idx, 3)) (hf : px_FW y.cls idx ci kf (.object C)) (hG : G i = .inr (.inr (ci, sl))) (hq : sl[kf]? = some (some (.inl kd)))
    (h : pw l R y cc nL ret (pc + 3) L st ids G (px_up σ i kf x) k n Rt) : pw l R y cc nL ret pc L (.inr (some (kd, x.toNatClampNeg, 0)) :: .inr (some i) :: st) ids G σ k n Rt :=
  pw_put hd hf hG hq rfl (fun ad => ⟨rfl, rfl⟩) h
theorem pw_iald {i : pxI} {j : Int32} {N : Nat} (hd : decode cc pc = .ok (.iaload, 1)) (hG : G i = .inl (0, N)) (hin : vp_in j N)
    (h : pw l R y cc nL ret (pc + 1) L (.inl (σ i j.toNatClampNeg) :: st) ids G σ k n Rt) : pw l R y cc nL ret pc L (.inl j :: .inr (some i) :: st) ids G σ k n Rt := by
  intro p e s m args below meth c H locs ls D tA ad ad0 ids0 A X
  obtain ⟨hx, hb, hr, hml, hnm, hts, hown, hlk, hK⟩ := X.1
  obtain ⟨hP, hD, hS, hcl, hA⟩ := X.2.1
  obtain ⟨q0, h0⟩ := List.getElem?_of_mem (px_h (px_t X.2.2.2.2.1) i rfl)
  have he := px_ws_get (ad := ad) (tA := tA) (G := G) (σ := σ) h0
  rw [hG] at he
  exact va_iald hx hb hK hP q0 0 he rfl hin hd (h p e s m args below meth c H locs ls D tA ad ad0 ids0 A (X.stk (px_c px_vi (px_t (px_t X.2.2.2.2.1)))))
theorem pw_bald {i : pxI} {j : Int32} {N : Nat} (hd : decode cc pc = .ok (.baload, 1)) (hG : G i = .inl (1, N)) (hin : vp_in j N)
    (h : pw l R y cc nL ret (pc + 1) L (.inl (σ i j.toNatClampNeg) :: st) ids G σ k n Rt) : pw l R y cc nL ret pc L (.inl j :: .inr (some i) :: st) ids G σ k n Rt := by
  intro p e s m args below meth c H locs ls D tA ad ad0 ids0 A X
  obtain ⟨hx, hb, hr, hml, hnm, hts, hown, hlk, hK⟩ := X.1
  obtain ⟨hP, hD, hS, hcl, hA⟩ := X.2.1
  obtain ⟨q0, h0⟩ := List.getElem?_of_mem (px_h (px_t X.2.2.2.2.1) i rfl)
  have he := px_ws_get (ad := ad) (tA := tA) (G := G) (σ := σ) h0
  rw [hG] at he
  exact va_bald hx hb hK hP q0 1 he rfl hin hd (h p e s m args below meth c H locs ls D tA ad ad0 ids0 A (X.stk (px_c px_vi (px_t (px_t X.2.2.2.2.1)))))
theorem pw_zald {i : pxI} {j : Int32} {N : Nat} (hd : decode cc pc = .ok (.baload, 1)) (hG : G i = .inl (2, N)) (hin : vp_in j N)
    (h : pw l R y cc nL ret (pc + 1) L (.inl (σ i j.toNatClampNeg) :: st) ids G σ k n Rt) : pw l R y cc nL ret pc L (.inl j :: .inr (some i) :: st) ids G σ k n Rt := by
  intro p e s m args below meth c H locs ls D tA ad ad0 ids0 A X
  obtain ⟨hx, hb, hr, hml, hnm, hts, hown, hlk, hK⟩ := X.1
  obtain ⟨hP, hD, hS, hcl, hA⟩ := X.2.1
  obtain ⟨q0, h0⟩ := List.getElem?_of_mem (px_h (px_t X.2.2.2.2.1) i rfl)
  have he := px_ws_get (ad := ad) (tA := tA) (G := G) (σ := σ) h0
  rw [hG] at he
  exact va_zald hx hb hK hP q0 2 he rfl hin hd (h p e s m args below meth c H locs ls D tA ad ad0 ids0 A (X.stk (px_c px_vi (px_t (px_t X.2.2.2.2.1)))))
theorem pw_aald {i : pxI} {j : Int32} {t N : Nat} {g : Nat → Option pxI} {r : pxI} {C : String} (hd : decode cc pc = .ok (.aaload, 1)) (hG : G i = .inr (.inl (t, N, g))) (ht : ∀ tA : Nat → ClassId, (px_tys tA)[t]? = some (tA t, .object C)) (hin : vp_in j N) (hg : g j.toNatClampNeg = some r)
    (h : pw l R y cc nL ret (pc + 1) L (.inr (some r) :: st) ids G σ k n Rt) : pw l R y cc nL ret pc L (.inl j :: .inr (some i) :: st) ids G σ k n Rt := by
  intro p e s m args below meth c H locs ls D tA ad ad0 ids0 A X
  obtain ⟨hx, hb, hr, hml, hnm, hts, hown, hlk, hK⟩ := X.1
  obtain ⟨hP, hD, hS, hcl, hA⟩ := X.2.1
  have hi : i ∈ ids := px_h (px_t X.2.2.2.2.1) i rfl
  obtain ⟨q0, h0⟩ := List.getElem?_of_mem hi
  have he := px_ws_get (ad := ad) (tA := tA) (G := G) (σ := σ) h0
  rw [hG] at he
  have hlt : j.toNatClampNeg < N := Nat.not_le.mp fun q => hin (Or.inr q)
  have hvv : px_vv ids (.inr (some r)) := by
    have h1 := hcl i hi
    rw [hG] at h1
    rw [← hg]
    exact h1 _ hlt
  refine va_aldq hx hb hK hP q0 t he (ht tA) hin hd ?_
  show W p l e R s m args below meth c H locs k n _ (F0 m (pc + 1) ls (va_rf ((g j.toNatClampNeg).map ad) :: st.map (px_mv ad)))
  rw [hg]
  exact h p e s m args below meth c H locs ls D tA ad ad0 ids0 A (X.stk (px_c hvv (px_t (px_t X.2.2.2.2.1))))
theorem pw_alen {i : pxI} {t N : Nat} {v : Int32} (hd : decode cc pc = .ok (.arraylength, 1)) (hG : G i = .inl (t, N)) (ht : ∃ ty, ∀ tA : Nat → ClassId, (px_tys tA)[t]? = some (tA t, ty)) (hv : Int32.ofNat N = v)
    (h : pw l R y cc nL ret (pc + 1) L (.inl v :: st) ids G σ k n Rt) : pw l R y cc nL ret pc L (.inr (some i) :: st) ids G σ k n Rt := by
  intro p e s m args below meth c H locs ls D tA ad ad0 ids0 A X
  obtain ⟨hx, hb, hr, hml, hnm, hts, hown, hlk, hK⟩ := X.1
  obtain ⟨hP, hD, hS, hcl, hA⟩ := X.2.1
  obtain ⟨q0, h0⟩ := List.getElem?_of_mem (px_h X.2.2.2.2.1 i rfl)
  have he := px_ws_get (ad := ad) (tA := tA) (G := G) (σ := σ) h0
  rw [hG] at he
  obtain ⟨ty, ht⟩ := ht
  exact va_alen hx hb hK hP q0 t he (ht tA) hv hd (h p e s m args below meth c H locs ls D tA ad ad0 ids0 A (X.stk (px_c px_vi (px_t X.2.2.2.2.1))))
theorem px_arr_set {A : Nat → Prop} {ad : pxI → Nat} {tA : Nat → ClassId} {q0 t N j : Nat} {i : pxI} {x : Int32} (hD : va_D A (px_ws ad tA ids G σ)) (h0 : ids[q0]? = some i) (hG : G i = .inl (t, N)) : (px_ws ad tA ids G σ).set q0 (ad i, .inl (tA t, N, .inl (upd (σ i) j x))) = px_ws ad tA ids G (px_up σ i j x) := by
  rw [← px_ws_set hD h0 (G' := G) (σ' := px_up σ i j x) (fun j' _ hj => by rw [px_up_ne hj]), px_up_self, hG]
  rfl
theorem pw_iast {i : pxI} {j x : Int32} {N : Nat} (hd : decode cc pc = .ok (.iastore, 1)) (hG : G i = .inl (0, N)) (hin : vp_in j N)
    (h : pw l R y cc nL ret (pc + 1) L st ids G (px_up σ i j.toNatClampNeg x) k n Rt) : pw l R y cc nL ret pc L (.inl x :: .inl j :: .inr (some i) :: st) ids G σ k n Rt := by
  intro p e s m args below meth c H locs ls D tA ad ad0 ids0 A X
  obtain ⟨hx, hb, hr, hml, hnm, hts, hown, hlk, hK⟩ := X.1
  obtain ⟨hP, hD, hS, hcl, hA⟩ := X.2.1
  obtain ⟨q0, h0⟩ := List.getElem?_of_mem (px_h (px_t (px_t X.2.2.2.2.1)) i rfl)
  have he := px_ws_get (ad := ad) (tA := tA) (G := G) (σ := σ) h0
  rw [hG] at he
  refine va_iast hx hb hK hP hD hS q0 0 he rfl hin hd fun H1 locs1 hP1 hD1 hS1 => ?_
  rw [px_arr_set hD h0 hG] at hP1 hD1
  exact h p e s m args below meth c H1 locs1 ls D tA ad ad0 ids0 A ⟨X.1, ⟨hP1, hD1, hS1, px_clo_up hcl (fun c' sl' q' e1 _ => by rw [hG] at e1; cases e1), hA⟩, X.2.2.1, X.2.2.2.1, px_t (px_t (px_t X.2.2.2.2.1)), X.2.2.2.2.2⟩
theorem pw_bast {i : pxI} {j x : Int32} {N : Nat} (hd : decode cc pc = .ok (.bastore, 1)) (hG : G i = .inl (1, N)) (hin : vp_in j N)
    (h : pw l R y cc nL ret (pc + 1) L st ids G (px_up σ i j.toNatClampNeg (vp_nar .byte x)) k n Rt) : pw l R y cc nL ret pc L (.inl x :: .inl j :: .inr (some i) :: st) ids G σ k n Rt := by
  intro p e s m args below meth c H locs ls D tA ad ad0 ids0 A X
  obtain ⟨hx, hb, hr, hml, hnm, hts, hown, hlk, hK⟩ := X.1
  obtain ⟨hP, hD, hS, hcl, hA⟩ := X.2.1
  obtain ⟨q0, h0⟩ := List.getElem?_of_mem (px_h (px_t (px_t X.2.2.2.2.1)) i rfl)
  have he := px_ws_get (ad := ad) (tA := tA) (G := G) (σ := σ) h0
  rw [hG] at he
  refine va_bast hx hb hK hP hD hS q0 1 he rfl hin hd fun H1 locs1 hP1 hD1 hS1 => ?_
  rw [px_arr_set hD h0 hG] at hP1 hD1
  exact h p e s m args below meth c H1 locs1 ls D tA ad ad0 ids0 A ⟨X.1, ⟨hP1, hD1, hS1, px_clo_up hcl (fun c' sl' q' e1 _ => by rw [hG] at e1; cases e1), hA⟩, X.2.2.1, X.2.2.2.1, px_t (px_t (px_t X.2.2.2.2.1)), X.2.2.2.2.2⟩
theorem pw_zast {i : pxI} {j x : Int32} {N : Nat} (hd : decode cc pc = .ok (.bastore, 1)) (hG : G i = .inl (2, N)) (hin : vp_in j N)
    (h : pw l R y cc nL ret (pc + 1) L st ids G (px_up σ i j.toNatClampNeg (vp_nar .boolean x)) k n Rt) : pw l R y cc nL ret pc L (.inl x :: .inl j :: .inr (some i) :: st) ids G σ k n Rt := by
  intro p e s m args below meth c H locs ls D tA ad ad0 ids0 A X
  obtain ⟨hx, hb, hr, hml, hnm, hts, hown, hlk, hK⟩ := X.1
  obtain ⟨hP, hD, hS, hcl, hA⟩ := X.2.1
  obtain ⟨q0, h0⟩ := List.getElem?_of_mem (px_h (px_t (px_t X.2.2.2.2.1)) i rfl)
  have he := px_ws_get (ad := ad) (tA := tA) (G := G) (σ := σ) h0
  rw [hG] at he
  refine va_zast hx hb hK hP hD hS q0 2 he rfl hin hd fun H1 locs1 hP1 hD1 hS1 => ?_
  rw [px_arr_set hD h0 hG] at hP1 hD1
  exact h p e s m args below meth c H1 locs1 ls D tA ad ad0 ids0 A ⟨X.1, ⟨hP1, hD1, hS1, px_clo_up hcl (fun c' sl' q' e1 _ => by rw [hG] at e1; cases e1), hA⟩, X.2.2.1, X.2.2.2.1, px_t (px_t (px_t X.2.2.2.2.1)), X.2.2.2.2.2⟩
theorem px_end {p : Program} {e : Env} {s : State} {m : MethodId} {args : Array Value} {below : List Frame} {meth : Method} {c : Code} {H : Heap} {locs : List Loc} {ls : Array Slot} {D : va_G} {tA : Nat → ClassId} {ad ad0 : pxI → Nat} {ids0 : List pxI} {A : Nat → Prop} (X : px_X p l e R s m args below meth c H locs ls D tA ad ad0 ids0 A y cc nL ret L st ids G σ) {v : Option pxV} (hv : ∀ w, v = some w → px_vv ids w) (hR : Rt v ids G σ) {t : State} (ht : t.heap = H) :
    px_Qc D tA ad0 ids0 Rt A args s (.returned (v.map (px_mv ad))) t := by
  obtain ⟨hP, hD, hS, hcl, hA⟩ := X.2.1
  exact ⟨v, ids, G, σ, ad, hR, X.2.2.2.2.2.1, X.2.2.2.2.2.2, rfl, hv, hcl, by rw [ht]; exact hP, hD, hS.F ht⟩
theorem pw_iret {x : Int32} (hd : decode cc pc = .ok (.ireturn, 1)) (hr : ret = some .int) (hk : k ≤ R.cells) (hn : n ≤ R.slots) (h : Rt (some (.inl x)) ids G σ) : pw l R y cc nL ret pc L [.inl x] ids G σ k n Rt := by
  intro p e s m args below meth c H locs ls D tA ad ad0 ids0 A X
  refine W.widen hk hn ?_
  have hlocks := X.1.2.2.2.2.2.2.2.1
  exact W.iret (v := x) X.1.1 X.1.2.1 (X.1.2.2.1.trans hr) (fun t ht _ => px_end X (v := some (.inl x)) (fun w hw => by cases hw; exact px_vi) h ht) X.2.1.2.2.1.2.2 hd hlocks
theorem pw_zret {x : Int32} (hd : decode cc pc = .ok (.ireturn, 1)) (hr : ret = some .boolean) (hb : x = 0 ∨ x = 1) (hk : k ≤ R.cells) (hn : n ≤ R.slots) (h : Rt (some (.inl x)) ids G σ) : pw l R y cc nL ret pc L [.inl x] ids G σ k n Rt := by
  intro p e s m args below meth c H locs ls D tA ad ad0 ids0 A X
  refine W.widen hk hn ?_
  have hlocks := X.1.2.2.2.2.2.2.2.1
  exact W.zret (v := x) X.1.1 X.1.2.1 (X.1.2.2.1.trans hr) (px_bool hb).1 (fun t ht _ => px_end X (v := some (.inl x)) (fun w hw => by cases hw; exact px_vi) h ht) X.2.1.2.2.1.2.2 hd hlocks
theorem pw_vret (hd : decode cc pc = .ok (.return_, 1)) (hr : ret = none) (hk : k ≤ R.cells) (hn : n ≤ R.slots) (h : Rt none ids G σ) : pw l R y cc nL ret pc L [] ids G σ k n Rt := by
  intro p e s m args below meth c H locs ls D tA ad ad0 ids0 A X
  refine W.widen hk hn ?_
  have hlocks := X.1.2.2.2.2.2.2.2.1
  exact W.vret X.1.1 X.1.2.1 (X.1.2.2.1.trans hr) (fun t ht _ => px_end X (v := none) (fun w hw => by cases hw) h ht) X.2.1.2.2.1.2.2 hd hlocks
end PXM
end
section
/-! calls -/
def px_y (own : String) (idx : Nat) (y : MethodName) (cc : ByteArray) (nL : Nat) (ret : Option FieldType) (n : Nat) : Prop :=
  (Cond.methodLink own idx y ∈ pxW ∧ Cond.initialized y.cls ∈ pxW ∧ Cond.code y cc nL ret ∈ pxW) ∧ y.cls ≠ "java/lang/invoke/MethodHandle" ∧ y.cls ≠ "java/lang/invoke/VarHandle" ∧ (parseMethodDescriptor y.desc).map (fun d => d.parameters.length) = some n
theorem px_good {y : MethodName} {cc : ByteArray} {nL : Nat} {ret : Option FieldType} (h : Cond.code y cc nL ret ∈ pxW) : GoodIn pxW (pxws y cc nL ret) := fun w hw => by
  rcases List.mem_cons.mp hw with rfl | hw
  · exact ⟨h, pxW_good h⟩
  · exact ⟨hw, pxW_good hw⟩
theorem px_blind (D : va_G) (tA : Nat → ClassId) (ad : pxI → Nat) (ids : List pxI) (G : pxG) (σ : pxS) (as : List pxV) (sz : Nat) : FrameBlind (px_Pc D tA ad ids G σ as sz) := fun a U g mk h => by
  obtain ⟨h1, h2, h3, h4, h5, h6, h7⟩ := h
  exact ⟨h1, h2, h3, va_K.moved (u := U) (U := U.calling g mk a) (Vm.Alike.refl U.vm) h4, h5, h6, h7⟩
theorem px_ml_eq {ad ad' : pxI → Nat} {ids : List pxI} (h : ∀ i ∈ ids, ad' i = ad i) : ∀ (L : List (Nat × pxV)), (∀ q ∈ L, px_vv ids q.2) → px_ml ad' L = px_ml ad L := fun L hL => by
  refine List.map_congr_left fun q hq => ?_
  obtain ⟨i, v⟩ := q
  rcases v with x | r | r
  · rfl
  · rfl
  · show (i, Value.ref (ad' r)) = (i, Value.ref (ad r))
    rw [h r (hL _ hq r rfl)]
theorem px_st_eq {ad ad' : pxI → Nat} {ids : List pxI} (h : ∀ i ∈ ids, ad' i = ad i) : ∀ (st : List pxV), (∀ v ∈ st, px_vv ids v) → st.map (px_mv ad') = st.map (px_mv ad) := fun st hs => by
  refine List.map_congr_left fun v hv => ?_
  rcases v with x | r | r
  · rfl
  · rfl
  · show Value.ref (ad' r) = Value.ref (ad r)
    rw [h r (hs _ hv r rfl)]
theorem px_cat_sum (ad : pxI → Nat) : ∀ st : List pxV, ((st.map (px_mv ad)).map fun v => v.category).sum = st.length
  | [] => rfl
  | v :: st => by
    have h := px_cat_sum ad st
    simp only [List.map_cons, List.sum_cons, List.length_cons, px_mv_cat, h]
    omega
section PXC
variable {l : Launch} {R : Room} {y : MethodName} {cc : ByteArray} {nL : Nat} {ret : Option FieldType} {pc : Nat} {L : List (Nat × pxV)} {st : List pxV} {ids : List pxI} {G : pxG} {σ : pxS} {k n : Nat} {Rt : Option pxV → List pxI → pxG → pxS → Prop}
/-- behind a call: what the callee's end gives -/
theorem px_after {p : Program} {e : Env} {s : State} {m : MethodId} {args : Array Value} {below : List Frame} {meth : Method} {c : Code} {H : Heap} {locs : List Loc} {ls : Array Slot} {D : va_G} {tA : Nat → ClassId} {ad ad0 : pxI → Nat} {ids0 : List pxI} {A : Nat → Prop} {st0 : List pxV} {mst : List Value} {R' : Room} {a' : Array Value} {Rt' : Option pxV → List pxI → pxG → pxS → Prop}
    (X : px_X p l e R s m args below meth c H locs ls D tA ad ad0 ids0 A y cc nL ret L st0 ids G σ) (hst : ∀ v ∈ st, px_vv ids v)
    (hr : va_Run p l e R s m args below meth c H locs k n R'.cells R'.slots (F0 m pc ls mst) (st.map (px_mv ad)) (px_Qc D tA ad ids Rt' (va_A (px_ws ad tA ids G σ) H.size) a') (va_A (px_ws ad tA ids G σ) H.size))
    (h : ∀ (v : Option pxV) (ids' : List pxI) (G' : pxG) (σ' : pxS), Rt' v ids' G' σ' → (∀ i ∈ ids, i ∈ ids') → pw l R y cc nL ret (pc + 3) L (v.toList ++ st) ids' G' σ' (k + R'.cells) (n + R'.slots) Rt) :
    W p l e R s m args below meth c H locs k n (MQ below (px_Qc D tA ad0 ids0 Rt A) args s R.cells R.slots A) (F0 m pc ls mst) := by
  intro T hT XT
  obtain ⟨v, st₀, t, T', L', h0, X', hL, e1, e2, ⟨v', ids', G', σ', ad', hRt, hin, had, hv, hvv, hcl', hP', hD', hF⟩, stp⟩ := hr T hT XT
  obtain ⟨hP, hD, hS, hcl, hA⟩ := X.2.1
  have hfree : ∀ q : Nat, va_A (px_ws ad tA ids G σ) H.size q → A q := fun q hq => by
    rcases hq with ⟨k2, e2, hq⟩ | hq
    · exact hD.2 k2 _ hq
    · exact hA q (Nat.le_trans hS.1 hq)
  have hz : H.size ≤ T'.heap.size := by rw [e1, ← h0]; exact hF.1
  have hk : ∀ q : Nat, q < H.size → ¬ va_A (px_ws ad tA ids G σ) H.size q → T'.heap[q]? = H[q]? := fun q h1 h2 => by rw [e1, ← h0]; exact hF.2 q (by rw [h0]; exact h1) h2
  have hS' : va_S A s.heap T'.heap (locs ++ L') := ⟨Nat.le_trans hS.1 hz, fun q h1 h2 => by
      rw [hk q (Nat.lt_of_lt_of_le h1 hS.1) (fun z => h2 (hfree q z))]
      exact hS.2.1 q h1 h2, fun q hq => by
      rcases List.mem_append.mp hq with h | h
      · exact hS.2.2 q h
      · exact hfree _ (hL q h)⟩
  have hK := X.1
  have hml := px_ml_eq had L X.2.2.2.1
  have hsl := px_st_eq had st hst
  have X2 : px_X p l e R s m args below meth c T'.heap (locs ++ L') ls D tA ad' ad0 ids0 A y cc nL ret L (v'.toList ++ st) ids' G' σ' :=
    ⟨hK, ⟨by rw [e1]; exact hP', hD'.weaken (fun _ q _ h => hfree q.1 h), hS', hcl', hA⟩, by rw [hml]; exact X.2.2.1, fun q hq r hr => hin r (X.2.2.2.1 q hq r hr), fun w hw r hr => by
      rcases List.mem_append.mp hw with h | h
      · exact hvv w (Option.mem_toList.mp h) r hr
      · exact hin r (hst w h r hr), fun i hi => hin i (X.2.2.2.2.2.1 i hi), fun i hi => (had i (X.2.2.2.2.2.1 i hi)).trans (X.2.2.2.2.2.2 i hi)⟩
  have hw := h v' ids' G' σ' hRt hin p e s m args below meth c T'.heap (locs ++ L') ls D tA ad' ad0 ids0 A X2
  obtain ⟨t2, a1, b1⟩ := hw T' rfl X'
  refine ⟨t2, stp t2 ?_, b1⟩
  have hv2 : v = v'.map (px_mv ad') := by cases hv; rfl
  have e3 : v.toList ++ st.map (px_mv ad) = (v'.toList ++ st).map (px_mv ad') := by
    rw [List.map_append, hsl, hv2]
    cases v' <;> rfl
  show Steps p.tables e below (T'.setTop { F0 m pc ls mst with pc := pc + 3, stack := v.toList ++ st.map (px_mv ad) }) t2
  rw [e3]
  exact a1
theorem pw_callV {idx ci N : Nat} {y' : MethodName} {cc' : ByteArray} {nL' : Nat} {ret' : Option FieldType} {R' : Room} {o : pxI} {sl : List pxK} {st0 : List pxV} {Rt' : Option pxV → List pxI → pxG → pxS → Prop} (xs : List pxV)
    (hd : decode cc pc = .ok (.invokevirtual idx, 3)) (hw : px_y y.cls idx y' cc' nL' ret' N) (hi : Cond.instanceMethod y' ∈ pxW) (hs : Cond.selects y'.cls y' y' ∈ pxW) (hc : (classes[ci]?).map (fun q => q.1) = some y'.cls) (hG : G o = .inr (.inr (ci, sl)))
    (hst : st0 = xs.reverse ++ .inr (some o) :: st) (hN : xs.length = N) (h8 : st.length ≤ 8) (hR : R'.frames + 1 ≤ R.frames ∧ 8 + (nL' + 11) + R'.locals ≤ R.locals) (hk : k + R'.cells ≤ R.cells ∧ n + R'.slots ≤ R.slots)
    (hm : pm l y' cc' nL' ret' R' (.inr (some o) :: xs) ids G σ Rt')
    (h : ∀ (v : Option pxV) (ids' : List pxI) (G' : pxG) (σ' : pxS), Rt' v ids' G' σ' → (∀ i ∈ ids, i ∈ ids') → pw l R y cc nL ret (pc + 3) L (v.toList ++ st) ids' G' σ' (k + R'.cells) (n + R'.slots) Rt) :
    pw l R y cc nL ret pc L st0 ids G σ k n Rt := by
  intro p e s m args below meth c H locs ls D tA ad ad0 ids0 A X
  subst hst
  obtain ⟨hx, hb, hr, hml, hnm, hts, hown, hlk, hK⟩ := X.1
  obtain ⟨hP, hD, hS, hcl, hA⟩ := X.2.1
  have hvs : ∀ v ∈ (.inr (some o) : pxV) :: xs, px_vv ids v := fun v hv => X.2.2.2.2.1 v (by
    rcases List.mem_cons.mp hv with rfl | hv
    · exact List.mem_append_right _ List.mem_cons_self
    · exact List.mem_append_left _ (List.mem_reverse.mpr hv))
  have hst : ∀ v ∈ st, px_vv ids v := fun v hv => X.2.2.2.2.1 v (List.mem_append_right _ (List.mem_cons_of_mem _ hv))
  obtain ⟨q0, h0⟩ := List.getElem?_of_mem (hvs _ List.mem_cons_self o rfl)
  have he := px_ws_get (ad := ad) (tA := tA) (G := G) (σ := σ) h0
  rw [hG] at he
  obtain ⟨qc, hc1, hc2⟩ := Option.map_eq_some_iff.mp hc
  obtain ⟨⟨w1, w2, w3⟩, w4⟩ := hw
  have hT : GoodIn pxW (wsV y.cls idx y'.cls y' (pxws y' cc' nL' ret')) := fun w hw => by
    rcases List.mem_append.mp hw with hw | hw
    · have hmem : w ∈ pxW := by
        simp only [List.mem_cons, List.not_mem_nil, or_false] at hw
        rcases hw with rfl | rfl | rfl | rfl
        · exact w1
        · exact hi
        · exact hs
        · exact w2
      exact ⟨hmem, pxW_good hmem⟩
    · exact px_good w3 w hw
  refine px_after X hst (va_runV (As := xs.map (px_mv ad)) (n := N) (C := y'.cls) (own := y.cls) (index := idx) (Ts := pxW) (nL := nL) (b := ad o) ⟨hx, hb, hml, hown, hts⟩ (hm D tA ad H.size) (cwV N hts hT rfl rfl rfl ⟨rfl, w4⟩ hR) ⟨px_blind D tA ad ids G σ _ _, ?_, fun U hU hW => ?_⟩ rfl (by rw [List.length_map]; exact hN) X.2.2.1.1 ?_ (lv_room (by rw [px_cat_sum]; exact h8)) hd hk) h
  · have := va_recv hK hP hc1 he
    rw [hc2] at this
    exact this
  · exact ⟨rfl, by rw [hU], by rw [hU]; exact hP, va_K.moved hW.alike hK, hD.weaken (fun _ _ _ _ => trivial), hcl, hvs⟩
  · show List.map (px_mv ad) _ = _
    rw [List.map_append, List.map_cons, List.map_reverse]
    rfl
theorem pw_callS {idx N : Nat} {y' : MethodName} {cc' : ByteArray} {nL' : Nat} {ret' : Option FieldType} {R' : Room} {st0 : List pxV} {Rt' : Option pxV → List pxI → pxG → pxS → Prop} (xs : List pxV)
    (hd : decode cc pc = .ok (.invokestatic idx, 3)) (hw : px_y y.cls idx y' cc' nL' ret' N) (hi : Cond.static y' ∈ pxW)
    (hst : st0 = xs.reverse ++ st) (hN : xs.length = N) (h8 : st.length ≤ 8) (hR : R'.frames + 1 ≤ R.frames ∧ 8 + (nL' + 11) + R'.locals ≤ R.locals) (hk : k + R'.cells ≤ R.cells ∧ n + R'.slots ≤ R.slots)
    (hm : pm l y' cc' nL' ret' R' xs ids G σ Rt')
    (h : ∀ (v : Option pxV) (ids' : List pxI) (G' : pxG) (σ' : pxS), Rt' v ids' G' σ' → (∀ i ∈ ids, i ∈ ids') → pw l R y cc nL ret (pc + 3) L (v.toList ++ st) ids' G' σ' (k + R'.cells) (n + R'.slots) Rt) :
    pw l R y cc nL ret pc L st0 ids G σ k n Rt := by
  intro p e s m args below meth c H locs ls D tA ad ad0 ids0 A X
  subst hst
  obtain ⟨hx, hb, hr, hml, hnm, hts, hown, hlk, hK⟩ := X.1
  obtain ⟨hP, hD, hS, hcl, hA⟩ := X.2.1
  have hvs : ∀ v ∈ xs, px_vv ids v := fun v hv => X.2.2.2.2.1 v (List.mem_append_left _ (List.mem_reverse.mpr hv))
  have hst : ∀ v ∈ st, px_vv ids v := fun v hv => X.2.2.2.2.1 v (List.mem_append_right _ hv)
  obtain ⟨⟨w1, w2, w3⟩, w4⟩ := hw
  refine px_after X hst (va_runS (As := xs.map (px_mv ad)) (n := N) (own := y.cls) (index := idx) (Ts := pxW) (nL := nL) ⟨hx, hb, hml, hown, hts⟩ (hm D tA ad H.size) ⟨callB_of N hts (px_good w3) rfl rfl rfl (hts _ w2) (hts _ w1) w4 hR, hts _ hi⟩ ⟨px_blind D tA ad ids G σ _ _, fun U hU hW => ?_⟩ rfl (by rw [List.length_map]; exact hN) X.2.2.1.1 ?_ (lv_room (by rw [px_cat_sum]; exact h8)) hd hk) h
  · exact ⟨rfl, by rw [hU], by rw [hU]; exact hP, va_K.moved hW.alike hK, hD.weaken (fun _ _ _ _ => trivial), hcl, hvs⟩
  · show List.map (px_mv ad) _ = _
    rw [List.map_append, List.map_reverse]
/-- a call whose end is one value, one world -/
def px_r (v : Option pxV) (ids : List pxI) (G : pxG) (σ : pxS) : Option pxV → List pxI → pxG → pxS → Prop := fun v' ids' G' σ' => v' = v ∧ ids' = ids ∧ G' = G ∧ σ' = σ
theorem px_r_k {v : Option pxV} {ids ids2 : List pxI} {G G2 : pxG} {σ σ2 : pxS} {k' n' pc' : Nat} {L' : List (Nat × pxV)} (h : pw l R y cc nL ret pc' L' (v.toList ++ st) ids2 G2 σ2 k' n' Rt) : ∀ (v' : Option pxV) (ids' : List pxI) (G' : pxG) (σ' : pxS), px_r v ids2 G2 σ2 v' ids' G' σ' → (∀ i ∈ ids, i ∈ ids') → pw l R y cc nL ret pc' L' (v'.toList ++ st) ids' G' σ' k' n' Rt := by
  rintro v' ids' G' σ' ⟨rfl, rfl, rfl, rfl⟩ _
  exact h
/-- Math.max, Math.min: as one row -/
theorem pw_mmax {idx : Nat} {a b : Int32} (hd : decode cc pc = .ok (.invokestatic idx, 3)) (h1 : Cond.methodLink y.cls idx Lib.Math.max.name ∈ pxW) (h2 : Cond.static Lib.Math.max.name ∈ pxW) (h3 : Cond.initialized "java/lang/Math" ∈ pxW) (h4 : Cond.code Lib.Math.max.name Lib.Math.max.code 2 (some .int) ∈ pxW)
    (hf : 1 ≤ R.frames) (hl : st.length + 13 ≤ R.locals) (hk : k ≤ R.cells) (hn : n ≤ R.slots) (h : pw l R y cc nL ret (pc + 3) L (.inl (if a < b then b else a) :: st) ids G σ k n Rt) : pw l R y cc nL ret pc L (.inl b :: .inl a :: st) ids G σ k n Rt := by
  intro p e s m args below meth c H locs ls D tA ad ad0 ids0 A X
  obtain ⟨hx, hb, hr, hml, hnm, hts, hown, hlk, hK⟩ := X.1
  exact va_mmax hx hb (hml.trans X.2.2.1.1.symm) hown (hts _ h1) (hts _ h2) (hts _ h3) (hts _ h4) hf (by rw [px_cat_sum]; exact hl) hk hn hd (h p e s m args below meth c H locs ls D tA ad ad0 ids0 A (X.stk (px_c px_vi (px_t (px_t X.2.2.2.2.1)))))
theorem pw_mmin {idx : Nat} {a b : Int32} (hd : decode cc pc = .ok (.invokestatic idx, 3)) (h1 : Cond.methodLink y.cls idx Lib.Math.min.name ∈ pxW) (h2 : Cond.static Lib.Math.min.name ∈ pxW) (h3 : Cond.initialized "java/lang/Math" ∈ pxW) (h4 : Cond.code Lib.Math.min.name Lib.Math.min.code 2 (some .int) ∈ pxW)
    (hf : 1 ≤ R.frames) (hl : st.length + 13 ≤ R.locals) (hk : k ≤ R.cells) (hn : n ≤ R.slots) (h : pw l R y cc nL ret (pc + 3) L (.inl (if b < a then b else a) :: st) ids G σ k n Rt) : pw l R y cc nL ret pc L (.inl b :: .inl a :: st) ids G σ k n Rt := by
  intro p e s m args below meth c H locs ls D tA ad ad0 ids0 A X
  obtain ⟨hx, hb, hr, hml, hnm, hts, hown, hlk, hK⟩ := X.1
  exact va_mmin hx hb (hml.trans X.2.2.1.1.symm) hown (hts _ h1) (hts _ h2) (hts _ h3) (hts _ h4) hf (by rw [px_cat_sum]; exact hl) hk hn hd (h p e s m args below meth c H locs ls D tA ad ad0 ids0 A (X.stk (px_c px_vi (px_t (px_t X.2.2.2.2.1)))))
/-- the numbers behind a copy of the first N of an int row onto another's first N -/
def px_cp (σ : pxS) (i j : pxI) (N : Nat) : pxS := fun r q => if r = j ∧ q < N then σ i q else σ r q
theorem pw_copyi {idx : Nat} {i j : pxI} {N0 N1 : Nat} {N : Nat} {c : Int32} (hd : decode cc pc = .ok (.invokestatic idx, 3)) (h1 : Cond.methodLink y.cls idx arraycopyName ∈ pxW) (h2 : Cond.native arraycopyName ∈ pxW) (h3 : Cond.static arraycopyName ∈ pxW) (h4 : Cond.initialized "java/lang/System" ∈ pxW)
    (hi : G i = .inl (0, N0)) (hj : G j = .inl (0, N1)) (hc : c.toNatClampNeg = N) (h5 : ¬ c < 0) (hN0 : N ≤ N0) (hN1 : N ≤ N1)
    (hf : 1 ≤ R.frames) (hl : st.length + (nativeFrameWords "java/lang/System" "arraycopy" 5 + 11) ≤ R.locals) (h : pw l R y cc nL ret (pc + 3) L st ids G (px_cp σ i j N) k n Rt) : pw l R y cc nL ret pc L (.inl c :: .inl 0 :: .inr (some j) :: .inl 0 :: .inr (some i) :: st) ids G σ k n Rt := by
  intro p e s m args below meth c9 H locs ls D tA ad ad0 ids0 A X
  obtain ⟨hx, hb, hr, hml, hnm, hts, hown, hlk, hK⟩ := X.1
  obtain ⟨hP, hD, hS, hcl, hA⟩ := X.2.1
  obtain ⟨q1, e1⟩ := List.getElem?_of_mem (px_h (px_t (px_t X.2.2.2.2.1)) j rfl)
  obtain ⟨q0, e0⟩ := List.getElem?_of_mem (px_h (px_t (px_t (px_t (px_t X.2.2.2.2.1)))) i rfl)
  have g0 := px_ws_get (ad := ad) (tA := tA) (G := G) (σ := σ) e0
  have g1 := px_ws_get (ad := ad) (tA := tA) (G := G) (σ := σ) e1
  rw [hi] at g0
  rw [hj] at g1
  have z0 : (0 : Int32).toNatClampNeg = 0 := by decide +kernel
  refine va_copyi hx hb (hml.trans X.2.2.1.1.symm) hown (hts _ h1) (hts _ h2) (hts _ h3) (hts _ h4) hK hP hD hS q0 q1 0 0 g0 g1 rfl rfl rfl (by decide +kernel) (by decide +kernel) h5 (by rw [z0, hc]; omega) (by rw [z0, hc]; omega) (fun _ _ => rfl) hf (by rw [px_cat_sum]; exact hl) hd fun H1 locs1 hP1 hD1 hS1 => ?_
  have hset : (px_ws ad tA ids G σ).set q1 (ad j, .inl (tA 0, N1, .inl (va_cpy (σ i) (σ j) (0 : Int32).toNatClampNeg (0 : Int32).toNatClampNeg c.toNatClampNeg))) = px_ws ad tA ids G (px_cp σ i j N) := by
    rw [← px_ws_set hD e1 (G' := G) (σ' := px_cp σ i j N) (fun j' _ hj' => by
      have : px_cp σ i j N j' = σ j' := by funext q; simp [px_cp, hj']
      rw [this]), hj]
    have : px_cp σ i j N j = va_cpy (σ i) (σ j) (0 : Int32).toNatClampNeg (0 : Int32).toNatClampNeg c.toNatClampNeg := by
      funext q
      rw [z0, hc]
      simp [px_cp, va_cpy]
    show _ = List.set _ _ (ad j, Sum.inl (tA 0, N1, Sum.inl (px_cp σ i j N j)))
    rw [this]
  rw [hset] at hP1 hD1
  refine h p e s m args below meth c9 H1 locs1 ls D tA ad ad0 ids0 A ⟨X.1, ⟨hP1, hD1, hS1, ?_, hA⟩, X.2.2.1, X.2.2.2.1, px_t (px_t (px_t (px_t (px_t X.2.2.2.2.1)))), X.2.2.2.2.2⟩
  intro r hr
  have h9 := hcl r hr
  by_cases hrj : r = j
  · subst hrj
    rw [hj]
    trivial
  · have : px_cp σ i j N r = σ r := by funext q; simp [px_cp, hrj]
    rw [this]
    exact h9
/-- a switch by a row of targets: within, without -/
theorem pw_tin {dflt lo hi off : Int} {offs : Array Int} {len : Nat} {x : Int32} (c : Int32) (tgt : Nat) (hd : decode cc pc = .ok (.tableswitch dflt lo hi offs, len)) (hx : x = c) (h1 : ¬ c.toInt < lo) (h2 : ¬ hi < c.toInt) (ho : offs[(c.toInt - lo).toNat]? = some off) (ht : (pc : Int) + off = (tgt : Int))
    (h : pw l R y cc nL ret tgt L st ids G σ k n Rt) : pw l R y cc nL ret pc L (.inl x :: st) ids G σ k n Rt := by
  intro p e s m args below meth c9 H locs ls D tA ad ad0 ids0 A X
  subst hx
  exact lv_tableIn X.1.1 X.1.2.1 hd h1 h2 ho ht (h p e s m args below meth c9 H locs ls D tA ad ad0 ids0 A (X.stk (px_t X.2.2.2.2.1)))
theorem px_out {lo hi : Int} {x : Int32} (cs : List Int32) (hc : ∀ j : Nat, j < (hi - lo + 1).toNat → ∃ c ∈ cs, c.toInt = lo + j) (h : ∀ c ∈ cs, ¬ x = c) : x.toInt < lo ∨ hi < x.toInt := by
  by_cases h1 : x.toInt < lo
  · exact Or.inl h1
  · by_cases h2 : hi < x.toInt
    · exact Or.inr h2
    · obtain ⟨c, hm, e⟩ := hc (x.toInt - lo).toNat (by omega)
      exact absurd (Int32.toInt_inj.mp (by rw [e]; omega)) (h c hm)
theorem pw_tout {dflt lo hi : Int} {offs : Array Int} {len : Nat} {x : Int32} (tgt : Nat) (hd : decode cc pc = .ok (.tableswitch dflt lo hi offs, len)) (hx : x.toInt < lo ∨ hi < x.toInt) (ht : (pc : Int) + dflt = (tgt : Int))
    (h : pw l R y cc nL ret tgt L st ids G σ k n Rt) : pw l R y cc nL ret pc L (.inl x :: st) ids G σ k n Rt := by
  intro p e s m args below meth c9 H locs ls D tA ad ad0 ids0 A X
  exact lv_tableOut X.1.1 X.1.2.1 hd hx ht (h p e s m args below meth c9 H locs ls D tA ad ad0 ids0 A (X.stk (px_t X.2.2.2.2.1)))
theorem pw_look {dflt off : Int} {ps : Array (Int × Int)} {len : Nat} {x : Int32} (tgt : Nat) (hd : decode cc pc = .ok (.lookupswitch dflt ps, len)) (hp : (ps.toList.zip (ps.toList.drop 1)).all (fun (a, next) => a.1 < next.1) = true) (ho : Op.lookupswitch.offset ps.toList dflt x.toInt = off) (ht : (pc : Int) + off = (tgt : Int))
    (h : pw l R y cc nL ret tgt L st ids G σ k n Rt) : pw l R y cc nL ret pc L (.inl x :: st) ids G σ k n Rt := by
  intro p e s m args below meth c9 H locs ls D tA ad ad0 ids0 A X
  exact lv_lookup X.1.1 X.1.2.1 hd hp ho ht (h p e s m args below meth c9 H locs ls D tA ad ad0 ids0 A (X.stk (px_t X.2.2.2.2.1)))
end PXC
end
section
/-! what a method does, as a function on numbers: the words of these functions, and rows in the form that a program lays -/
def px_b1 {α β : Type} (o : Option α) (f : α → Option β) : Option β := match o with
  | none => none
  | some a => f a
def px_b2 {α γ β : Type} (o : Option (α × γ)) (f : α → γ → Option β) : Option β := match o with
  | none => none
  | some a => f a.1 a.2
def px_l {α β : Type} (a : α) (f : α → Option β) : Option β := f a
def px_gd {β : Type} (j : Int32) (N : Nat) (A : Option β) : Option β := if ¬ j < 0 ∧ j.toNatClampNeg < N then A else none
def px_gz {β : Type} (j : Int32) (A : Option β) : Option β := if j = 0 then none else A
def px_gb {β : Type} (j : Int32) (A : Option β) : Option β := if j = 0 ∨ j = 1 then A else none
def px_it {S E : Type} (f : S → Option (S ⊕ E)) : Nat → S → Option E
  | 0, _ => none
  | n + 1, s => match f s with
    | none => none
    | some (.inl s') => px_it f n s'
    | some (.inr e) => some e
def px_N : Nat := 100000
theorem px_b1_e {α β : Type} {o : Option α} {f : α → Option β} {r : β} (h : px_b1 o f = some r) : ∃ a, o = some a ∧ f a = some r := by
  cases o with
  | none => cases h
  | some a => exact ⟨a, rfl, h⟩
theorem px_b2_e {α γ β : Type} {o : Option (α × γ)} {f : α → γ → Option β} {r : β} (h : px_b2 o f = some r) : ∃ a b, o = some (a, b) ∧ f a b = some r := by
  cases o with
  | none => cases h
  | some a => exact ⟨a.1, a.2, rfl, h⟩
theorem px_l_e {α β : Type} {a : α} {f : α → Option β} {r : β} (h : px_l a f = some r) : ∃ s, s = a ∧ f s = some r := ⟨a, rfl, h⟩
theorem px_ite {β : Type} {c : Prop} {_ : Decidable c} {A B : Option β} {r : β} (h : (if c then A else B) = some r) : (c ∧ A = some r) ∨ (¬ c ∧ B = some r) := by
  by_cases hc : c
  · rw [if_pos hc] at h
    exact Or.inl ⟨hc, h⟩
  · rw [if_neg hc] at h
    exact Or.inr ⟨hc, h⟩
theorem px_gd_e {β : Type} {j : Int32} {N : Nat} {A : Option β} {r : β} (h : px_gd j N A = some r) : vp_in j N ∧ A = some r := by
  unfold px_gd at h
  rcases px_ite h with ⟨h1, h2⟩ | ⟨_, h2⟩
  · refine ⟨fun q => ?_, h2⟩
    rcases q with q | q
    · exact h1.1 q
    · omega
  · cases h2
theorem px_gz_e {β : Type} {j : Int32} {A : Option β} {r : β} (h : px_gz j A = some r) : ¬ j = 0 ∧ A = some r := by
  unfold px_gz at h
  rcases px_ite h with ⟨_, h2⟩ | ⟨h1, h2⟩
  · cases h2
  · exact ⟨h1, h2⟩
theorem px_gb_e {β : Type} {j : Int32} {A : Option β} {r : β} (h : px_gb j A = some r) : (j = 0 ∨ j = 1) ∧ A = some r := by
  unfold px_gb at h
  rcases px_ite h with ⟨h1, h2⟩ | ⟨_, h2⟩
  · exact ⟨h1, h2⟩
  · cases h2
theorem px_inL {j : Int32} {N q : Nat} (h1 : ¬ j < 0) (h2 : j.toNatClampNeg = q) (h3 : q < N) : vp_in j N := fun z => by
  rcases z with z | z
  · exact h1 z
  · omega
/-- a loop: if each round takes 'C s' back to 'C' of the next state, and its end back to what holds behind it -/
theorem px_it_rule {S E : Type} {f : S → Option (S ⊕ E)} {C : S → Prop} {X : E → Prop} (hc : ∀ s s', f s = some (.inl s') → C s' → C s) (hx : ∀ s e, f s = some (.inr e) → X e → C s) : ∀ (n : Nat) (s : S) (e : E), px_it f n s = some e → X e → C s := by
  intro n
  induction n with
  | zero => intro s e h; cases h
  | succ n ih =>
    intro s e h hX
    unfold px_it at h
    cases hf : f s with
    | none => rw [hf] at h; cases h
    | some o =>
      rw [hf] at h
      cases o with
      | inl s' => exact hc s s' hf (ih s' e h hX)
      | inr e1 =>
        have he : e1 = e := Option.some.inj h
        subst he
        exact hx s e1 hf hX
theorem px_at {cc : ByteArray} {tb : List (Nat × Instr × Nat)} (h : ∀ q ∈ tb, decode cc q.1 = .ok q.2) (i : Nat) {pc len : Nat} {ins : Instr} (e : tb[i]? = some (pc, ins, len)) : decode cc pc = .ok (ins, len) := by
  have h1 := h (pc, ins, len) (List.mem_of_getElem? e)
  dsimp only at h1
  exact h1
theorem px_w (i : Nat) {w : Cond} (e : lw_tbl[i]? = some w) (h : goodWord w = true) : w ∈ pxW := List.mem_filter.mpr ⟨List.mem_of_getElem? e, h⟩
abbrev px_R (d : Nat) : Room := { frames := d, cells := 0, slots := 0, locals := 40 * d }
section PXQ
variable {l : Launch} {R : Room} {y : MethodName} {cc : ByteArray} {nL : Nat} {ret : Option FieldType} {pc : Nat} {L : List (Nat × pxV)} {st : List pxV} {ids : List pxI} {G : pxG} {σ : pxS} {k n : Nat} {Rt : Option pxV → List pxI → pxG → pxS → Prop}
theorem pw_s {σ' : pxS} (e : σ' = σ) (h : pw l R y cc nL ret pc L st ids G σ' k n Rt) : pw l R y cc nL ret pc L st ids G σ k n Rt := e ▸ h
theorem pw_ial {i : pxI} {j : Int32} {N q : Nat} (hd : decode cc pc = .ok (.iaload, 1)) (hG : G i = .inl (0, N)) (hin : vp_in j N) (e : j.toNatClampNeg = q)
    (h : pw l R y cc nL ret (pc + 1) L (.inl (σ i q) :: st) ids G σ k n Rt) : pw l R y cc nL ret pc L (.inl j :: .inr (some i) :: st) ids G σ k n Rt := by
  subst e
  exact pw_iald hd hG hin h
theorem pw_bal {i : pxI} {j : Int32} {N q : Nat} (hd : decode cc pc = .ok (.baload, 1)) (hG : G i = .inl (1, N)) (hin : vp_in j N) (e : j.toNatClampNeg = q)
    (h : pw l R y cc nL ret (pc + 1) L (.inl (σ i q) :: st) ids G σ k n Rt) : pw l R y cc nL ret pc L (.inl j :: .inr (some i) :: st) ids G σ k n Rt := by
  subst e
  exact pw_bald hd hG hin h
theorem pw_zal {i : pxI} {j : Int32} {N q : Nat} (hd : decode cc pc = .ok (.baload, 1)) (hG : G i = .inl (2, N)) (hin : vp_in j N) (e : j.toNatClampNeg = q)
    (h : pw l R y cc nL ret (pc + 1) L (.inl (σ i q) :: st) ids G σ k n Rt) : pw l R y cc nL ret pc L (.inl j :: .inr (some i) :: st) ids G σ k n Rt := by
  subst e
  exact pw_zald hd hG hin h
theorem pw_ias {i : pxI} {j x : Int32} {N q : Nat} {σ' : pxS} (hd : decode cc pc = .ok (.iastore, 1)) (hG : G i = .inl (0, N)) (hin : vp_in j N) (e : j.toNatClampNeg = q) (hs : σ' = px_up σ i q x)
    (h : pw l R y cc nL ret (pc + 1) L st ids G σ' k n Rt) : pw l R y cc nL ret pc L (.inl x :: .inl j :: .inr (some i) :: st) ids G σ k n Rt := by
  subst e
  exact pw_iast hd hG hin (pw_s hs h)
theorem pw_bas {i : pxI} {j x : Int32} {N q : Nat} {σ' : pxS} (hd : decode cc pc = .ok (.bastore, 1)) (hG : G i = .inl (1, N)) (hin : vp_in j N) (e : j.toNatClampNeg = q) (hs : σ' = px_up σ i q (vp_nar .byte x))
    (h : pw l R y cc nL ret (pc + 1) L st ids G σ' k n Rt) : pw l R y cc nL ret pc L (.inl x :: .inl j :: .inr (some i) :: st) ids G σ k n Rt := by
  subst e
  exact pw_bast hd hG hin (pw_s hs h)
theorem pw_zas {i : pxI} {j x : Int32} {N q : Nat} {σ' : pxS} (hd : decode cc pc = .ok (.bastore, 1)) (hG : G i = .inl (2, N)) (hin : vp_in j N) (e : j.toNatClampNeg = q) (hs : σ' = px_up σ i q (vp_nar .boolean x))
    (h : pw l R y cc nL ret (pc + 1) L st ids G σ' k n Rt) : pw l R y cc nL ret pc L (.inl x :: .inl j :: .inr (some i) :: st) ids G σ k n Rt := by
  subst e
  exact pw_zast hd hG hin (pw_s hs h)
/-- behind a call of one end: with a value, without -/
theorem px_k1 {r : Int32} {ids2 : List pxI} {G2 : pxG} {σ2 : pxS} {k' n' pc' : Nat} {L' : List (Nat × pxV)} (h : pw l R y cc nL ret pc' L' (.inl r :: st) ids2 G2 σ2 k' n' Rt) : ∀ (v' : Option pxV) (ids' : List pxI) (G' : pxG) (σ' : pxS), px_r (some (.inl r)) ids2 G2 σ2 v' ids' G' σ' → (∀ i ∈ ids, i ∈ ids') → pw l R y cc nL ret pc' L' (v'.toList ++ st) ids' G' σ' k' n' Rt := by
  rintro v' ids' G' σ' ⟨rfl, rfl, rfl, rfl⟩ _
  exact h
theorem px_k0 {ids2 : List pxI} {G2 : pxG} {σ2 : pxS} {k' n' pc' : Nat} {L' : List (Nat × pxV)} (h : pw l R y cc nL ret pc' L' st ids2 G2 σ2 k' n' Rt) : ∀ (v' : Option pxV) (ids' : List pxI) (G' : pxG) (σ' : pxS), px_r none ids2 G2 σ2 v' ids' G' σ' → (∀ i ∈ ids, i ∈ ids') → pw l R y cc nL ret pc' L' (v'.toList ++ st) ids' G' σ' k' n' Rt := by
  rintro v' ids' G' σ' ⟨rfl, rfl, rfl, rfl⟩ _
  exact h
theorem px_look2 {a b : Int} {dflt off : Int} {x : Int32} (h : (x = 0 ∧ off = a) ∨ (x = 1 ∧ off = b) ∨ (¬ x = 0 ∧ ¬ x = 1 ∧ off = dflt)) : Op.lookupswitch.offset (#[(0, a), (1, b)] : Array (Int × Int)).toList dflt x.toInt = off := by
  rcases h with ⟨rfl, rfl⟩ | ⟨rfl, rfl⟩ | ⟨h0, h1, rfl⟩
  · rfl
  · rfl
  · have e0 : ¬ x.toInt = 0 := fun e => h0 (Int32.toInt_inj.mp (e.trans (by decide)))
    have e1 : ¬ x.toInt = 1 := fun e => h1 (Int32.toInt_inj.mp (e.trans (by decide)))
    have e0' : ¬ 0 = x.toInt := fun e => e0 e.symm
    have e1' : ¬ 1 = x.toInt := fun e => e1 e.symm
    simp [Op.lookupswitch.offset, e0', e1', e0, e1]
end PXQ
end
section
/-! calls in the form that a program lays -/
def px_yV (own : String) (idx ci : Nat) (y : MethodName) (cc : ByteArray) (nL : Nat) (ret : Option FieldType) (N : Nat) : Prop := px_y own idx y cc nL ret N ∧ Cond.instanceMethod y ∈ pxW ∧ Cond.selects y.cls y y ∈ pxW ∧ (classes[ci]?).map (fun q => q.1) = some y.cls
def px_yS (own : String) (idx : Nat) (y : MethodName) (cc : ByteArray) (nL : Nat) (ret : Option FieldType) (N : Nat) : Prop := px_y own idx y cc nL ret N ∧ Cond.static y ∈ pxW
section PXD
variable {l : Launch} {d d' : Nat} {y : MethodName} {cc : ByteArray} {nL : Nat} {ret : Option FieldType} {pc : Nat} {L : List (Nat × pxV)} {ids : List pxI} {G : pxG} {σ σ2 : pxS} {Rt : Option pxV → List pxI → pxG → pxS → Prop}
  {idx ci N : Nat} {y' : MethodName} {cc' : ByteArray} {nL' : Nat} {ret' : Option FieldType} {sl : List pxK} {st0 : List pxV} {r : Int32}
theorem pw_cV1 (o : pxI) (xs st : List pxV) (hd : decode cc pc = .ok (.invokevirtual idx, 3)) (hw : px_yV y.cls idx ci y' cc' nL' ret' N) (hG : G o = .inr (.inr (ci, sl))) (hst : st0 = xs.reverse ++ .inr (some o) :: st) (hN : xs.length = N) (h8 : st.length ≤ 8) (hR : d' + 1 ≤ d ∧ 8 + (nL' + 11) + 40 * d' ≤ 40 * d)
    (hm : pm l y' cc' nL' ret' (px_R d') (.inr (some o) :: xs) ids G σ (px_r (some (.inl r)) ids G σ2)) (h : pw l (px_R d) y cc nL ret (pc + 3) L (.inl r :: st) ids G σ2 0 0 Rt) : pw l (px_R d) y cc nL ret pc L st0 ids G σ 0 0 Rt :=
  pw_callV (R' := px_R d') xs hd hw.1 hw.2.1 hw.2.2.1 hw.2.2.2 hG hst hN h8 hR ⟨Nat.le_refl 0, Nat.le_refl 0⟩ hm (px_k1 h)
theorem pw_cV0 (o : pxI) (xs st : List pxV) (hd : decode cc pc = .ok (.invokevirtual idx, 3)) (hw : px_yV y.cls idx ci y' cc' nL' ret' N) (hG : G o = .inr (.inr (ci, sl))) (hst : st0 = xs.reverse ++ .inr (some o) :: st) (hN : xs.length = N) (h8 : st.length ≤ 8) (hR : d' + 1 ≤ d ∧ 8 + (nL' + 11) + 40 * d' ≤ 40 * d)
    (hm : pm l y' cc' nL' ret' (px_R d') (.inr (some o) :: xs) ids G σ (px_r none ids G σ2)) (h : pw l (px_R d) y cc nL ret (pc + 3) L st ids G σ2 0 0 Rt) : pw l (px_R d) y cc nL ret pc L st0 ids G σ 0 0 Rt :=
  pw_callV (R' := px_R d') xs hd hw.1 hw.2.1 hw.2.2.1 hw.2.2.2 hG hst hN h8 hR ⟨Nat.le_refl 0, Nat.le_refl 0⟩ hm (px_k0 h)
theorem pw_cS1 (xs st : List pxV) (hd : decode cc pc = .ok (.invokestatic idx, 3)) (hw : px_yS y.cls idx y' cc' nL' ret' N) (hst : st0 = xs.reverse ++ st) (hN : xs.length = N) (h8 : st.length ≤ 8) (hR : d' + 1 ≤ d ∧ 8 + (nL' + 11) + 40 * d' ≤ 40 * d)
    (hm : pm l y' cc' nL' ret' (px_R d') xs ids G σ (px_r (some (.inl r)) ids G σ2)) (h : pw l (px_R d) y cc nL ret (pc + 3) L (.inl r :: st) ids G σ2 0 0 Rt) : pw l (px_R d) y cc nL ret pc L st0 ids G σ 0 0 Rt :=
  pw_callS (R' := px_R d') xs hd hw.1 hw.2 hst hN h8 hR ⟨Nat.le_refl 0, Nat.le_refl 0⟩ hm (px_k1 h)
theorem pw_cS0 (xs st : List pxV) (hd : decode cc pc = .ok (.invokestatic idx, 3)) (hw : px_yS y.cls idx y' cc' nL' ret' N) (hst : st0 = xs.reverse ++ st) (hN : xs.length = N) (h8 : st.length ≤ 8) (hR : d' + 1 ≤ d ∧ 8 + (nL' + 11) + 40 * d' ≤ 40 * d)
    (hm : pm l y' cc' nL' ret' (px_R d') xs ids G σ (px_r none ids G σ2)) (h : pw l (px_R d) y cc nL ret (pc + 3) L st ids G σ2 0 0 Rt) : pw l (px_R d) y cc nL ret pc L st0 ids G σ 0 0 Rt :=
  pw_callS (R' := px_R d') xs hd hw.1 hw.2 hst hN h8 hR ⟨Nat.le_refl 0, Nat.le_refl 0⟩ hm (px_k0 h)
end PXD
/-! what the cells of the class, and of the reference, are -/
def cG : pxG := fun i => match i with
  | (0, _, _) => .inr (.inr (0, [some (.inr (some (5, 0, 0))), some (.inr (some (6, 0, 0))), some (.inr (some (7, 0, 0))), some (.inr (some (2, 0, 0))), some (.inr (some (2, 1, 0))), some (.inr (some (2, 2, 0))), some (.inl 1), none, none, none, none, none, none]))
  | (1, p, _) => .inr (.inr (1, [none, none, none, some (.inr (some (8, p, 0))), some (.inr (some (8, p, 1))), some (.inr (some (8, p, 2))), some (.inr (some (8, p, 3))), some (.inr (some (8, p, 4))), some (.inr (some (8, p, 5))), some (.inr (some (8, p, 6))), some (.inr (some (8, p, 7))), some (.inr (some (8, p, 8))), some (.inr (some (8, p, 9))), some (.inr (some (8, p, 10))), some (.inr (some (8, p, 11))), some (.inr (some (8, p, 12))), some (.inr (some (8, p, 13))), some (.inr (some (8, p, 14)))]))
  | (2, k, _) => .inr (.inr (2, [some (.inr (some (9, k, 0))), some (.inr (some (4, k, 0))), some (.inr (some (4, k, 1))), some (.inr (some (11, k, 0))), some (.inl 1), none, none, none, none, none, none]))
  | (3, _, _) => .inr (.inr (3, [none, none, none, none, none, none, none, none, none, none, none, none, none]))
  | (4, k, w) => .inr (.inr (4, [some (.inr (some (10, k, w))), none, none]))
  | (5, _, _) => .inl (1, 700)
  | (6, _, _) => .inr (.inr (5, [some (.inl 1), none, none, some (.inr (some (12, 0, 0))), some (.inr (some (12, 1, 0))), some (.inr (some (12, 2, 0))), some (.inr (some (12, 3, 0))), none, some (.inr (some (5, 0, 0))), none, none, none, none, none, none]))
  | (7, _, _) => .inr (.inl (3, 20, fun j => some (2, j + 3, 0)))
  | (8, _, 11) => .inl (0, 24)
  | (8, _, 12) => .inl (0, 24)
  | (8, _, 13) => .inl (0, 24)
  | (8, _, 14) => .inl (0, 8)
  | (8, _, _) => .inl (0, 12)
  | (9, k, _) => .inr (.inl (4, 12, fun j => some (3, k, j)))
  | (10, _, _) => .inl (0, 12)
  | (11, _, _) => .inl (0, 40)
  | (12, 0, _) => .inl (0, 14)
  | (12, _, _) => .inl (0, 701)
  | (_, _, _) => .inl (0, 0)
def mGn (a : Nat) : Nat × Nat := match a with
  | 1 => (0, 700)
  | 3 => (0, 22)
  | 4 => (2, 14)
  | 5 => (0, 24)
  | 6 => (0, 24)
  | 7 => (0, 24)
  | 8 => (0, 24)
  | 9 => (0, 24)
  | 10 => (0, 24)
  | 11 => (0, 24)
  | 12 => (0, 24)
  | 13 => (0, 48)
  | 14 => (0, 48)
  | 15 => (0, 48)
  | 26 => (0, 12)
  | 27 => (0, 12)
  | 28 => (0, 308)
  | 29 => (0, 308)
  | 30 => (0, 308)
  | 31 => (0, 6160)
  | 34 => (0, 12)
  | 35 => (0, 12)
  | 36 => (0, 12)
  | 37 => (0, 12)
  | 39 => (0, 4096)
  | _ => (0, 0)
def mG : pxG := fun i => match i with
  | (0, _, _) => .inr (.inr (6, [none, some (.inr (some (1, 1, 0))), none, some (.inr (some (1, 3, 0))), some (.inr (some (1, 4, 0))), some (.inr (some (1, 5, 0))), some (.inr (some (1, 6, 0))), some (.inr (some (1, 7, 0))), some (.inr (some (1, 8, 0))), some (.inr (some (1, 9, 0))), some (.inr (some (1, 10, 0))), some (.inr (some (1, 11, 0))), some (.inr (some (1, 12, 0))), some (.inr (some (1, 13, 0))), some (.inr (some (1, 14, 0))), some (.inr (some (1, 15, 0))), none, none, none, none, none, none, none, none, none, none, some (.inr (some (1, 26, 0))), some (.inr (some (1, 27, 0))), some (.inr (some (1, 28, 0))), some (.inr (some (1, 29, 0))), some (.inr (some (1, 30, 0))), some (.inr (some (1, 31, 0))), none, none, some (.inr (some (1, 34, 0))), some (.inr (some (1, 35, 0))), some (.inr (some (1, 36, 0))), some (.inr (some (1, 37, 0))), none, some (.inr (some (1, 39, 0))), none]))
  | (_, a, _) => .inl (mGn a)
end
section
/-! names of the methods, and what the words say of each call and field (laid by wip/whole/gen.py) -/
def R_Or : String := "PowerRails$Orders"
def R_Ri : String := "PowerRails$Rings"
def R_Ma : String := "java/lang/Math"
def R_In : String := "java/lang/Integer"
def y_Bo_init : MethodName := ⟨R_Bo, "<init>", "(LPowerRails$Plan;)V"⟩
abbrev c_Bo_init : ByteArray := prog_2_method_1_code
def y_Bo_start : MethodName := ⟨R_Bo, "start", "(LPowerRails$Plan;)V"⟩
abbrev c_Bo_start : ByteArray := prog_2_method_2_code
def y_Bo_copyFrom : MethodName := ⟨R_Bo, "copyFrom", "(LPowerRails$Board;)V"⟩
abbrev c_Bo_copyFrom : ByteArray := prog_2_method_3_code
def y_Bo_isGood : MethodName := ⟨R_Bo, "isGood", "(I)Z"⟩
abbrev c_Bo_isGood : ByteArray := prog_2_method_4_code
def y_Bo_isOn : MethodName := ⟨R_Bo, "isOn", "(I)Z"⟩
abbrev c_Bo_isOn : ByteArray := prog_2_method_5_code
def y_Bo_goodRails : MethodName := ⟨R_Bo, "goodRails", "()I"⟩
abbrev c_Bo_goodRails : ByteArray := prog_2_method_6_code
def y_Bo_allTrips : MethodName := ⟨R_Bo, "allTrips", "()I"⟩
abbrev c_Bo_allTrips : ByteArray := prog_2_method_7_code
def y_Bo_heldBy : MethodName := ⟨R_Bo, "heldBy", "(II)I"⟩
abbrev c_Bo_heldBy : ByteArray := prog_2_method_8_code
def y_Bo_isQuiet : MethodName := ⟨R_Bo, "isQuiet", "()Z"⟩
abbrev c_Bo_isQuiet : ByteArray := prog_2_method_9_code
def y_Bo_logKept : MethodName := ⟨R_Bo, "logKept", "()I"⟩
abbrev c_Bo_logKept : ByteArray := prog_2_method_10_code
def y_Bo_logEntry : MethodName := ⟨R_Bo, "logEntry", "(I)I"⟩
abbrev c_Bo_logEntry : ByteArray := prog_2_method_11_code
def y_Bo_write : MethodName := ⟨R_Bo, "write", "(II)V"⟩
abbrev c_Bo_write : ByteArray := prog_2_method_12_code
def y_Bo_askRail : MethodName := ⟨R_Bo, "askRail", "(IZ)V"⟩
abbrev c_Bo_askRail : ByteArray := prog_2_method_13_code
def y_Bo_waitIfOff : MethodName := ⟨R_Bo, "waitIfOff", "(I)V"⟩
abbrev c_Bo_waitIfOff : ByteArray := prog_2_method_14_code
def y_Bo_unwind : MethodName := ⟨R_Bo, "unwind", "(I)V"⟩
abbrev c_Bo_unwind : ByteArray := prog_2_method_15_code
def y_Bo_latestToGo : MethodName := ⟨R_Bo, "latestToGo", "(I)I"⟩
abbrev c_Bo_latestToGo : ByteArray := prog_2_method_16_code
def y_Bo_trip : MethodName := ⟨R_Bo, "trip", "(I)V"⟩
abbrev c_Bo_trip : ByteArray := prog_2_method_17_code
def y_Bo_failSequence : MethodName := ⟨R_Bo, "failSequence", "()V"⟩
abbrev c_Bo_failSequence : ByteArray := prog_2_method_18_code
def y_Bo_runFromFirst : MethodName := ⟨R_Bo, "runFromFirst", "()V"⟩
abbrev c_Bo_runFromFirst : ByteArray := prog_2_method_19_code
def y_Bo_pass : MethodName := ⟨R_Bo, "pass", "()V"⟩
abbrev c_Bo_pass : ByteArray := prog_2_method_20_code
def y_Bo_passByChance : MethodName := ⟨R_Bo, "passByChance", "(III)I"⟩
abbrev c_Bo_passByChance : ByteArray := prog_2_method_21_code
def y_Bo_following : MethodName := ⟨R_Bo, "following", "(I)I"⟩
abbrev c_Bo_following : ByteArray := prog_2_method_22_code
def y_Bo_drawn : MethodName := ⟨R_Bo, "drawn", "(II)I"⟩
abbrev c_Bo_drawn : ByteArray := prog_2_method_23_code
def y_Bo_comeAgain : MethodName := ⟨R_Bo, "comeAgain", "()V"⟩
abbrev c_Bo_comeAgain : ByteArray := prog_2_method_24_code
def y_Bo_runSequence : MethodName := ⟨R_Bo, "runSequence", "()V"⟩
abbrev c_Bo_runSequence : ByteArray := prog_2_method_25_code
def y_Bo_takesStep : MethodName := ⟨R_Bo, "takesStep", "()Z"⟩
abbrev c_Bo_takesStep : ByteArray := prog_2_method_26_code
def y_Bo_beginToRise : MethodName := ⟨R_Bo, "beginToRise", "()V"⟩
abbrev c_Bo_beginToRise : ByteArray := prog_2_method_27_code
def y_Bo_moveVolts : MethodName := ⟨R_Bo, "moveVolts", "()V"⟩
abbrev c_Bo_moveVolts : ByteArray := prog_2_method_28_code
def y_Bo_goOff : MethodName := ⟨R_Bo, "goOff", "(I)V"⟩
abbrev c_Bo_goOff : ByteArray := prog_2_method_29_code
def y_Bo_measureDraws : MethodName := ⟨R_Bo, "measureDraws", "()V"⟩
abbrev c_Bo_measureDraws : ByteArray := prog_2_method_30_code
def y_Bo_tripTheLow : MethodName := ⟨R_Bo, "tripTheLow", "()V"⟩
abbrev c_Bo_tripTheLow : ByteArray := prog_2_method_31_code
def y_Bo_tripTheLatest : MethodName := ⟨R_Bo, "tripTheLatest", "()V"⟩
abbrev c_Bo_tripTheLatest : ByteArray := prog_2_method_32_code
def y_Bo_letFirstFall : MethodName := ⟨R_Bo, "letFirstFall", "()V"⟩
abbrev c_Bo_letFirstFall : ByteArray := prog_2_method_33_code
def y_Or_leastHeat : MethodName := ⟨R_Or, "leastHeat", "(LPowerRails$Board;I)I"⟩
abbrev c_Or_leastHeat : ByteArray := prog_3_method_2_code
def y_Or_railAt : MethodName := ⟨R_Or, "railAt", "(LPowerRails$Board;I)I"⟩
abbrev c_Or_railAt : ByteArray := prog_3_method_3_code
def y_Or_firstThatFits : MethodName := ⟨R_Or, "firstThatFits", "(LPowerRails$Board;II)I"⟩
abbrev c_Or_firstThatFits : ByteArray := prog_3_method_4_code
def y_Or_leastSurge : MethodName := ⟨R_Or, "leastSurge", "(LPowerRails$Plan;I)I"⟩
abbrev c_Or_leastSurge : ByteArray := prog_3_method_5_code
def y_Or_allLoads : MethodName := ⟨R_Or, "allLoads", "(LPowerRails$Board;)I"⟩
abbrev c_Or_allLoads : ByteArray := prog_3_method_6_code
def y_Pl_init : MethodName := ⟨R_Pl, "<init>", "()V"⟩
abbrev c_Pl_init : ByteArray := prog_4_method_1_code
def y_Pl_forget : MethodName := ⟨R_Pl, "forget", "()V"⟩
abbrev c_Pl_forget : ByteArray := prog_4_method_2_code
def y_Pl_find : MethodName := ⟨R_Pl, "find", "(I)I"⟩
abbrev c_Pl_find : ByteArray := prog_4_method_3_code
def y_Pl_allRails : MethodName := ⟨R_Pl, "allRails", "()I"⟩
abbrev c_Pl_allRails : ByteArray := prog_4_method_4_code
def y_Pl_addNeed : MethodName := ⟨R_Pl, "addNeed", "(II)V"⟩
abbrev c_Pl_addNeed : ByteArray := prog_4_method_5_code
def y_Pl_addStep : MethodName := ⟨R_Pl, "addStep", "(III)V"⟩
abbrev c_Pl_addStep : ByteArray := prog_4_method_6_code
def y_Pl_tieTogether : MethodName := ⟨R_Pl, "tieTogether", "()V"⟩
abbrev c_Pl_tieTogether : ByteArray := prog_4_method_7_code
def y_Pl_directOfAll : MethodName := ⟨R_Pl, "directOfAll", "(I)I"⟩
abbrev c_Pl_directOfAll : ByteArray := prog_4_method_8_code
def y_Pl_surge : MethodName := ⟨R_Pl, "surge", "(I)I"⟩
abbrev c_Pl_surge : ByteArray := prog_4_method_9_code
def y_Qu_init : MethodName := ⟨R_Qu, "<init>", "()V"⟩
abbrev c_Qu_init : ByteArray := prog_5_method_1_code
def y_Qu_at : MethodName := ⟨R_Qu, "at", "(I)I"⟩
abbrev c_Qu_at : ByteArray := prog_5_method_2_code
def y_Qu_holds : MethodName := ⟨R_Qu, "holds", "(I)Z"⟩
abbrev c_Qu_holds : ByteArray := prog_5_method_3_code
def y_Qu_add : MethodName := ⟨R_Qu, "add", "(I)V"⟩
abbrev c_Qu_add : ByteArray := prog_5_method_4_code
def y_Qu_drop : MethodName := ⟨R_Qu, "drop", "(I)V"⟩
abbrev c_Qu_drop : ByteArray := prog_5_method_5_code
def y_Qu_forget : MethodName := ⟨R_Qu, "forget", "()V"⟩
abbrev c_Qu_forget : ByteArray := prog_5_method_6_code
def y_Qu_copyFrom : MethodName := ⟨R_Qu, "copyFrom", "(LPowerRails$Queue;)V"⟩
abbrev c_Qu_copyFrom : ByteArray := prog_5_method_7_code
def y_Ra_init : MethodName := ⟨R_Ra, "<init>", "()V"⟩
abbrev c_Ra_init : ByteArray := prog_6_method_1_code
def y_Ra_start : MethodName := ⟨R_Ra, "start", "(II)V"⟩
abbrev c_Ra_start : ByteArray := prog_6_method_2_code
def y_Ra_copyFrom : MethodName := ⟨R_Ra, "copyFrom", "(LPowerRails$Rail;)V"⟩
abbrev c_Ra_copyFrom : ByteArray := prog_6_method_3_code
def y_Re_init : MethodName := ⟨R_Re, "<init>", "([B)V"⟩
abbrev c_Re_init : ByteArray := prog_7_method_1_code
def y_Re_readAll : MethodName := ⟨R_Re, "readAll", "(I)I"⟩
abbrev c_Re_readAll : ByteArray := prog_7_method_2_code
def y_Re_readLine : MethodName := ⟨R_Re, "readLine", "()V"⟩
abbrev c_Re_readLine : ByteArray := prog_7_method_3_code
def y_Re_readRail : MethodName := ⟨R_Re, "readRail", "()V"⟩
abbrev c_Re_readRail : ByteArray := prog_7_method_4_code
def y_Re_readNeed : MethodName := ⟨R_Re, "readNeed", "()V"⟩
abbrev c_Re_readNeed : ByteArray := prog_7_method_5_code
def y_Re_readStep : MethodName := ⟨R_Re, "readStep", "(I)V"⟩
abbrev c_Re_readStep : ByteArray := prog_7_method_6_code
def y_Re_readSetting : MethodName := ⟨R_Re, "readSetting", "(I)V"⟩
abbrev c_Re_readSetting : ByteArray := prog_7_method_7_code
def y_Re_freshName : MethodName := ⟨R_Re, "freshName", "()I"⟩
abbrev c_Re_freshName : ByteArray := prog_7_method_8_code
def y_Re_toldRail : MethodName := ⟨R_Re, "toldRail", "()I"⟩
abbrev c_Re_toldRail : ByteArray := prog_7_method_9_code
def y_Re_parentOrSource : MethodName := ⟨R_Re, "parentOrSource", "()I"⟩
abbrev c_Re_parentOrSource : ByteArray := prog_7_method_10_code
def y_Re_number : MethodName := ⟨R_Re, "number", "(II)I"⟩
abbrev c_Re_number : ByteArray := prog_7_method_11_code
def y_Re_take : MethodName := ⟨R_Re, "take", "(I)V"⟩
abbrev c_Re_take : ByteArray := prog_7_method_12_code
def y_Re_refuse : MethodName := ⟨R_Re, "refuse", "(I)V"⟩
abbrev c_Re_refuse : ByteArray := prog_7_method_13_code
def y_Re_advance : MethodName := ⟨R_Re, "advance", "()V"⟩
abbrev c_Re_advance : ByteArray := prog_7_method_14_code
def y_Re_cutAll : MethodName := ⟨R_Re, "cutAll", "(I)V"⟩
abbrev c_Re_cutAll : ByteArray := prog_7_method_15_code
def y_Re_skipBlanks : MethodName := ⟨R_Re, "skipBlanks", "()V"⟩
abbrev c_Re_skipBlanks : ByteArray := prog_7_method_16_code
def y_Re_cutToken : MethodName := ⟨R_Re, "cutToken", "(I)V"⟩
abbrev c_Re_cutToken : ByteArray := prog_7_method_17_code
def y_Re_peekByte : MethodName := ⟨R_Re, "peekByte", "()I"⟩
abbrev c_Re_peekByte : ByteArray := prog_7_method_18_code
def y_Re_cutWord : MethodName := ⟨R_Re, "cutWord", "()V"⟩
abbrev c_Re_cutWord : ByteArray := prog_7_method_19_code
def y_Re_cutNumber : MethodName := ⟨R_Re, "cutNumber", "()V"⟩
abbrev c_Re_cutNumber : ByteArray := prog_7_method_20_code
def y_Re_wordOfLanguage : MethodName := ⟨R_Re, "wordOfLanguage", "(I)I"⟩
abbrev c_Re_wordOfLanguage : ByteArray := prog_7_method_21_code
def y_Re_lettersOf : MethodName := ⟨R_Re, "lettersOf", "(I)I"⟩
abbrev c_Re_lettersOf : ByteArray := prog_7_method_22_code
def y_Re_letterBits : MethodName := ⟨R_Re, "letterBits", "(II)I"⟩
abbrev c_Re_letterBits : ByteArray := prog_7_method_23_code
def y_Re_isLetter : MethodName := ⟨R_Re, "isLetter", "(I)Z"⟩
abbrev c_Re_isLetter : ByteArray := prog_7_method_24_code
def y_Re_isDigit : MethodName := ⟨R_Re, "isDigit", "(I)Z"⟩
abbrev c_Re_isDigit : ByteArray := prog_7_method_25_code
def y_Ri_within : MethodName := ⟨R_Ri, "within", "(LPowerRails$Plan;)I"⟩
abbrev c_Ri_within : ByteArray := prog_8_method_2_code
def y_Ri_withinOrAbove : MethodName := ⟨R_Ri, "withinOrAbove", "(LPowerRails$Plan;)I"⟩
abbrev c_Ri_withinOrAbove : ByteArray := prog_8_method_3_code
def y_Ri_lowest : MethodName := ⟨R_Ri, "lowest", "(I)I"⟩
abbrev c_Ri_lowest : ByteArray := prog_8_method_4_code
def y_Ri_railAt : MethodName := ⟨R_Ri, "railAt", "(LPowerRails$Plan;I)I"⟩
abbrev c_Ri_railAt : ByteArray := prog_8_method_5_code
def y_Ri_linksBack : MethodName := ⟨R_Ri, "linksBack", "(LPowerRails$Plan;I)I"⟩
abbrev c_Ri_linksBack : ByteArray := prog_8_method_6_code
def y_Ri_reaching : MethodName := ⟨R_Ri, "reaching", "(LPowerRails$Plan;II)I"⟩
abbrev c_Ri_reaching : ByteArray := prog_8_method_7_code
def y_PR_init : MethodName := ⟨R_PR, "<init>", "()V"⟩
abbrev c_PR_init : ByteArray := prog_1_method_1_code
def y_PR_feed : MethodName := ⟨R_PR, "feed", "(IIIII)I"⟩
abbrev c_PR_feed : ByteArray := prog_1_method_2_code
def y_PR_putWord : MethodName := ⟨R_PR, "putWord", "(I)V"⟩
abbrev c_PR_putWord : ByteArray := prog_1_method_3_code
def y_PR_text : MethodName := ⟨R_PR, "text", "(I)I"⟩
abbrev c_PR_text : ByteArray := prog_1_method_4_code
def y_PR_fault : MethodName := ⟨R_PR, "fault", "(I)I"⟩
abbrev c_PR_fault : ByteArray := prog_1_method_5_code
def y_PR_named : MethodName := ⟨R_PR, "named", "(I)I"⟩
abbrev c_PR_named : ByteArray := prog_1_method_6_code
def y_PR_tick : MethodName := ⟨R_PR, "tick", "(I)I"⟩
abbrev c_PR_tick : ByteArray := prog_1_method_7_code
def y_PR_ask : MethodName := ⟨R_PR, "ask", "(IZ)I"⟩
abbrev c_PR_ask : ByteArray := prog_1_method_8_code
def y_PR_begin : MethodName := ⟨R_PR, "begin", "()I"⟩
abbrev c_PR_begin : ByteArray := prog_1_method_9_code
def y_PR_load : MethodName := ⟨R_PR, "load", "(II)I"⟩
abbrev c_PR_load : ByteArray := prog_1_method_10_code
def y_PR_limit : MethodName := ⟨R_PR, "limit", "(II)I"⟩
abbrev c_PR_limit : ByteArray := prog_1_method_11_code
def y_PR_rail : MethodName := ⟨R_PR, "rail", "(II)I"⟩
abbrev c_PR_rail : ByteArray := prog_1_method_12_code
def y_PR_hangs : MethodName := ⟨R_PR, "hangs", "(II)I"⟩
abbrev c_PR_hangs : ByteArray := prog_1_method_13_code
def y_PR_waiting : MethodName := ⟨R_PR, "waiting", "(IZ)I"⟩
abbrev c_PR_waiting : ByteArray := prog_1_method_14_code
def y_PR_sequence : MethodName := ⟨R_PR, "sequence", "(I)I"⟩
abbrev c_PR_sequence : ByteArray := prog_1_method_15_code
def y_PR_step : MethodName := ⟨R_PR, "step", "(II)I"⟩
abbrev c_PR_step : ByteArray := prog_1_method_16_code
def y_PR_why : MethodName := ⟨R_PR, "why", "(I)I"⟩
abbrev c_PR_why : ByteArray := prog_1_method_17_code
def y_PR_ring : MethodName := ⟨R_PR, "ring", "(I)I"⟩
abbrev c_PR_ring : ByteArray := prog_1_method_18_code
def y_PR_never : MethodName := ⟨R_PR, "never", "(I)I"⟩
abbrev c_PR_never : ByteArray := prog_1_method_19_code
def y_PR_order : MethodName := ⟨R_PR, "order", "(I)I"⟩
abbrev c_PR_order : ByteArray := prog_1_method_20_code
def y_PR_heat : MethodName := ⟨R_PR, "heat", "()I"⟩
abbrev c_PR_heat : ByteArray := prog_1_method_21_code
def y_PR_total : MethodName := ⟨R_PR, "total", "()I"⟩
abbrev c_PR_total : ByteArray := prog_1_method_22_code
def y_PR_log : MethodName := ⟨R_PR, "log", "(II)I"⟩
abbrev c_PR_log : ByteArray := prog_1_method_23_code
def y_PR_count : MethodName := ⟨R_PR, "count", "(I)I"⟩
abbrev c_PR_count : ByteArray := prog_1_method_24_code
def y_PR_ahead : MethodName := ⟨R_PR, "ahead", "(III)I"⟩
abbrev c_PR_ahead : ByteArray := prog_1_method_25_code
def y_PR_peak : MethodName := ⟨R_PR, "peak", "(I)I"⟩
abbrev c_PR_peak : ByteArray := prog_1_method_26_code
def y_PR_quiet : MethodName := ⟨R_PR, "quiet", "()I"⟩
abbrev c_PR_quiet : ByteArray := prog_1_method_27_code
def y_PR_leastLimit : MethodName := ⟨R_PR, "leastLimit", "(I)I"⟩
abbrev c_PR_leastLimit : ByteArray := prog_1_method_28_code
def y_PR_ifLoad : MethodName := ⟨R_PR, "ifLoad", "(II)I"⟩
abbrev c_PR_ifLoad : ByteArray := prog_1_method_29_code
def y_PR_ifOff : MethodName := ⟨R_PR, "ifOff", "(I)I"⟩
abbrev c_PR_ifOff : ByteArray := prog_1_method_30_code
def y_PR_bestOff : MethodName := ⟨R_PR, "bestOff", "(I)I"⟩
abbrev c_PR_bestOff : ByteArray := prog_1_method_31_code
def y_PR_totalIfOff : MethodName := ⟨R_PR, "totalIfOff", "(II)I"⟩
abbrev c_PR_totalIfOff : ByteArray := prog_1_method_32_code
def y_PR_chance : MethodName := ⟨R_PR, "chance", "(IIII)I"⟩
abbrev c_PR_chance : ByteArray := prog_1_method_33_code
def y_PR_undo : MethodName := ⟨R_PR, "undo", "()I"⟩
abbrev c_PR_undo : ByteArray := prog_1_method_34_code
def y_PR_keep : MethodName := ⟨R_PR, "keep", "()I"⟩
abbrev c_PR_keep : ByteArray := prog_1_method_35_code
def y_PR_back : MethodName := ⟨R_PR, "back", "()I"⟩
abbrev c_PR_back : ByteArray := prog_1_method_36_code
def y_PR_remember : MethodName := ⟨R_PR, "remember", "()V"⟩
abbrev c_PR_remember : ByteArray := prog_1_method_37_code
def y_PR_forgetPast : MethodName := ⟨R_PR, "forgetPast", "()V"⟩
abbrev c_PR_forgetPast : ByteArray := prog_1_method_38_code
def y_PR_isRail : MethodName := ⟨R_PR, "isRail", "(I)Z"⟩
abbrev c_PR_isRail : ByteArray := prog_1_method_39_code
def y_Mo_init : MethodName := ⟨R_Mo, "<init>", "()V"⟩
abbrev c_Mo_init : ByteArray := prog_10_method_1_code
def y_Mo_thrown : MethodName := ⟨R_Mo, "thrown", "()I"⟩
abbrev c_Mo_thrown : ByteArray := prog_10_method_2_code
def y_Mo_feed : MethodName := ⟨R_Mo, "feed", "(IIIII)I"⟩
abbrev c_Mo_feed : ByteArray := prog_10_method_3_code
def y_Mo_here : MethodName := ⟨R_Mo, "here", "()I"⟩
abbrev c_Mo_here : ByteArray := prog_10_method_4_code
def y_Mo_isSmall : MethodName := ⟨R_Mo, "isSmall", "(I)Z"⟩
abbrev c_Mo_isSmall : ByteArray := prog_10_method_5_code
def y_Mo_isDigit : MethodName := ⟨R_Mo, "isDigit", "(I)Z"⟩
abbrev c_Mo_isDigit : ByteArray := prog_10_method_6_code
def y_Mo_token : MethodName := ⟨R_Mo, "token", "()V"⟩
abbrev c_Mo_token : ByteArray := prog_10_method_7_code
def y_Mo_wordHere : MethodName := ⟨R_Mo, "wordHere", "()I"⟩
abbrev c_Mo_wordHere : ByteArray := prog_10_method_8_code
def y_Mo_nameHere : MethodName := ⟨R_Mo, "nameHere", "()V"⟩
abbrev c_Mo_nameHere : ByteArray := prog_10_method_9_code
def y_Mo_wrong : MethodName := ⟨R_Mo, "wrong", "(I)V"⟩
abbrev c_Mo_wrong : ByteArray := prog_10_method_10_code
def y_Mo_goOn : MethodName := ⟨R_Mo, "goOn", "()V"⟩
abbrev c_Mo_goOn : ByteArray := prog_10_method_11_code
def y_Mo_numeral : MethodName := ⟨R_Mo, "numeral", "(II)I"⟩
abbrev c_Mo_numeral : ByteArray := prog_10_method_12_code
def y_Mo_reading : MethodName := ⟨R_Mo, "reading", "(I)I"⟩
abbrev c_Mo_reading : ByteArray := prog_10_method_13_code
def y_Mo_reads : MethodName := ⟨R_Mo, "reads", "(II)V"⟩
abbrev c_Mo_reads : ByteArray := prog_10_method_14_code
def y_Mo_readOnce : MethodName := ⟨R_Mo, "readOnce", "(IIII)V"⟩
abbrev c_Mo_readOnce : ByteArray := prog_10_method_15_code
def y_Mo_namedAt : MethodName := ⟨R_Mo, "namedAt", "(III)I"⟩
abbrev c_Mo_namedAt : ByteArray := prog_10_method_16_code
def y_Mo_railHere : MethodName := ⟨R_Mo, "railHere", "()I"⟩
abbrev c_Mo_railHere : ByteArray := prog_10_method_17_code
def y_Mo_readRail : MethodName := ⟨R_Mo, "readRail", "()V"⟩
abbrev c_Mo_readRail : ByteArray := prog_10_method_18_code
def y_Mo_readNeeds : MethodName := ⟨R_Mo, "readNeeds", "()V"⟩
abbrev c_Mo_readNeeds : ByteArray := prog_10_method_19_code
def y_Mo_readStep : MethodName := ⟨R_Mo, "readStep", "(I)V"⟩
abbrev c_Mo_readStep : ByteArray := prog_10_method_20_code
def y_Mo_readRetry : MethodName := ⟨R_Mo, "readRetry", "()V"⟩
abbrev c_Mo_readRetry : ByteArray := prog_10_method_21_code
def y_Mo_readLine : MethodName := ⟨R_Mo, "readLine", "()V"⟩
abbrev c_Mo_readLine : ByteArray := prog_10_method_22_code
def y_Mo_freshText : MethodName := ⟨R_Mo, "freshText", "()V"⟩
abbrev c_Mo_freshText : ByteArray := prog_10_method_23_code
def y_Mo_readText : MethodName := ⟨R_Mo, "readText", "(I)V"⟩
abbrev c_Mo_readText : ByteArray := prog_10_method_24_code
def y_Mo_takeText : MethodName := ⟨R_Mo, "takeText", "()V"⟩
abbrev c_Mo_takeText : ByteArray := prog_10_method_25_code
def y_Mo_text : MethodName := ⟨R_Mo, "text", "(I)I"⟩
abbrev c_Mo_text : ByteArray := prog_10_method_26_code
def y_Mo_fault : MethodName := ⟨R_Mo, "fault", "(I)I"⟩
abbrev c_Mo_fault : ByteArray := prog_10_method_27_code
def y_Mo_rails : MethodName := ⟨R_Mo, "rails", "()I"⟩
abbrev c_Mo_rails : ByteArray := prog_10_method_28_code
def y_Mo_named : MethodName := ⟨R_Mo, "named", "(I)I"⟩
abbrev c_Mo_named : ByteArray := prog_10_method_29_code
def y_Mo_laysOn : MethodName := ⟨R_Mo, "laysOn", "()V"⟩
abbrev c_Mo_laysOn : ByteArray := prog_10_method_30_code
def y_Mo_hangOn : MethodName := ⟨R_Mo, "hangOn", "(I)I"⟩
abbrev c_Mo_hangOn : ByteArray := prog_10_method_31_code
def y_Mo_copies : MethodName := ⟨R_Mo, "copies", "([II[II)V"⟩
abbrev c_Mo_copies : ByteArray := prog_10_method_32_code
def y_Mo_begins : MethodName := ⟨R_Mo, "begins", "()V"⟩
abbrev c_Mo_begins : ByteArray := prog_10_method_33_code
def y_Mo_remembers : MethodName := ⟨R_Mo, "remembers", "()V"⟩
abbrev c_Mo_remembers : ByteArray := prog_10_method_34_code
def y_Mo_undo : MethodName := ⟨R_Mo, "undo", "()I"⟩
abbrev c_Mo_undo : ByteArray := prog_10_method_35_code
def y_Mo_keep : MethodName := ⟨R_Mo, "keep", "()I"⟩
abbrev c_Mo_keep : ByteArray := prog_10_method_36_code
def y_Mo_back : MethodName := ⟨R_Mo, "back", "()I"⟩
abbrev c_Mo_back : ByteArray := prog_10_method_37_code
def y_Mo_state : MethodName := ⟨R_Mo, "state", "(I)I"⟩
abbrev c_Mo_state : ByteArray := prog_10_method_38_code
def y_Mo_state_ : MethodName := ⟨R_Mo, "state", "(II)V"⟩
abbrev c_Mo_state_ : ByteArray := prog_10_method_39_code
def y_Mo_isGood : MethodName := ⟨R_Mo, "isGood", "(I)Z"⟩
abbrev c_Mo_isGood : ByteArray := prog_10_method_40_code
def y_Mo_logs : MethodName := ⟨R_Mo, "logs", "(II)V"⟩
abbrev c_Mo_logs : ByteArray := prog_10_method_41_code
def y_Mo_goesOut : MethodName := ⟨R_Mo, "goesOut", "(II)V"⟩
abbrev c_Mo_goesOut : ByteArray := prog_10_method_42_code
def y_Mo_comesTo : MethodName := ⟨R_Mo, "comesTo", "(II)V"⟩
abbrev c_Mo_comesTo : ByteArray := prog_10_method_43_code
def y_Mo_isLive : MethodName := ⟨R_Mo, "isLive", "(I)Z"⟩
abbrev c_Mo_isLive : ByteArray := prog_10_method_44_code
def y_Mo_latestOf : MethodName := ⟨R_Mo, "latestOf", "(I)I"⟩
abbrev c_Mo_latestOf : ByteArray := prog_10_method_45_code
def y_Mo_unwinds : MethodName := ⟨R_Mo, "unwinds", "(II)V"⟩
abbrev c_Mo_unwinds : ByteArray := prog_10_method_46_code
def y_Mo_waitsNow : MethodName := ⟨R_Mo, "waitsNow", "(I)V"⟩
abbrev c_Mo_waitsNow : ByteArray := prog_10_method_47_code
def y_Mo_asks : MethodName := ⟨R_Mo, "asks", "(IZ)V"⟩
abbrev c_Mo_asks : ByteArray := prog_10_method_48_code
def y_Mo_comeAgain : MethodName := ⟨R_Mo, "comeAgain", "()V"⟩
abbrev c_Mo_comeAgain : ByteArray := prog_10_method_49_code
def y_Mo_sequenceGoes : MethodName := ⟨R_Mo, "sequenceGoes", "()V"⟩
abbrev c_Mo_sequenceGoes : ByteArray := prog_10_method_50_code
def y_Mo_isThrough : MethodName := ⟨R_Mo, "isThrough", "(I)Z"⟩
abbrev c_Mo_isThrough : ByteArray := prog_10_method_51_code
def y_Mo_fails : MethodName := ⟨R_Mo, "fails", "(Z)V"⟩
abbrev c_Mo_fails : ByteArray := prog_10_method_52_code
def y_Mo_whyNot : MethodName := ⟨R_Mo, "whyNot", "(I)I"⟩
abbrev c_Mo_whyNot : ByteArray := prog_10_method_53_code
def y_Mo_beginsToRise : MethodName := ⟨R_Mo, "beginsToRise", "()V"⟩
abbrev c_Mo_beginsToRise : ByteArray := prog_10_method_54_code
def y_Mo_voltsGo : MethodName := ⟨R_Mo, "voltsGo", "(I)V"⟩
abbrev c_Mo_voltsGo : ByteArray := prog_10_method_55_code
def y_Mo_draws : MethodName := ⟨R_Mo, "draws", "()V"⟩
abbrev c_Mo_draws : ByteArray := prog_10_method_56_code
def y_Mo_trips : MethodName := ⟨R_Mo, "trips", "(I)V"⟩
abbrev c_Mo_trips : ByteArray := prog_10_method_57_code
def y_Mo_tickGoes : MethodName := ⟨R_Mo, "tickGoes", "()V"⟩
abbrev c_Mo_tickGoes : ByteArray := prog_10_method_58_code
def y_Mo_tick : MethodName := ⟨R_Mo, "tick", "(I)I"⟩
abbrev c_Mo_tick : ByteArray := prog_10_method_59_code
def y_Mo_isRail : MethodName := ⟨R_Mo, "isRail", "(I)Z"⟩
abbrev c_Mo_isRail : ByteArray := prog_10_method_60_code
def y_Mo_ask : MethodName := ⟨R_Mo, "ask", "(IZ)I"⟩
abbrev c_Mo_ask : ByteArray := prog_10_method_61_code
def y_Mo_begin : MethodName := ⟨R_Mo, "begin", "()I"⟩
abbrev c_Mo_begin : ByteArray := prog_10_method_62_code
def y_Mo_load : MethodName := ⟨R_Mo, "load", "(II)I"⟩
abbrev c_Mo_load : ByteArray := prog_10_method_63_code
def y_Mo_limit : MethodName := ⟨R_Mo, "limit", "(II)I"⟩
abbrev c_Mo_limit : ByteArray := prog_10_method_64_code
def y_Mo_rail : MethodName := ⟨R_Mo, "rail", "(II)I"⟩
abbrev c_Mo_rail : ByteArray := prog_10_method_65_code
def y_Mo_hangs : MethodName := ⟨R_Mo, "hangs", "(II)I"⟩
abbrev c_Mo_hangs : ByteArray := prog_10_method_66_code
def y_Mo_waiting : MethodName := ⟨R_Mo, "waiting", "(IZ)I"⟩
abbrev c_Mo_waiting : ByteArray := prog_10_method_67_code
def y_Mo_sequence : MethodName := ⟨R_Mo, "sequence", "(I)I"⟩
abbrev c_Mo_sequence : ByteArray := prog_10_method_68_code
def y_Mo_step : MethodName := ⟨R_Mo, "step", "(II)I"⟩
abbrev c_Mo_step : ByteArray := prog_10_method_69_code
def y_Mo_why : MethodName := ⟨R_Mo, "why", "(I)I"⟩
abbrev c_Mo_why : ByteArray := prog_10_method_70_code
def y_Mo_total : MethodName := ⟨R_Mo, "total", "()I"⟩
abbrev c_Mo_total : ByteArray := prog_10_method_71_code
def y_Mo_log : MethodName := ⟨R_Mo, "log", "(II)I"⟩
abbrev c_Mo_log : ByteArray := prog_10_method_72_code
def y_Mo_inRings : MethodName := ⟨R_Mo, "inRings", "()I"⟩
abbrev c_Mo_inRings : ByteArray := prog_10_method_73_code
def y_Mo_laysSteps : MethodName := ⟨R_Mo, "laysSteps", "(I)V"⟩
abbrev c_Mo_laysSteps : ByteArray := prog_10_method_74_code
def y_Mo_laysRing : MethodName := ⟨R_Mo, "laysRing", "()V"⟩
abbrev c_Mo_laysRing : ByteArray := prog_10_method_75_code
def y_Mo_ring : MethodName := ⟨R_Mo, "ring", "(I)I"⟩
abbrev c_Mo_ring : ByteArray := prog_10_method_76_code
def y_Mo_never : MethodName := ⟨R_Mo, "never", "(I)I"⟩
abbrev c_Mo_never : ByteArray := prog_10_method_77_code
def y_Mo_heatAt : MethodName := ⟨R_Mo, "heatAt", "(II)I"⟩
abbrev c_Mo_heatAt : ByteArray := prog_10_method_78_code
def y_Mo_greater : MethodName := ⟨R_Mo, "greater", "(II)I"⟩
abbrev c_Mo_greater : ByteArray := prog_10_method_79_code
def y_Mo_mayCome : MethodName := ⟨R_Mo, "mayCome", "(II)Z"⟩
abbrev c_Mo_mayCome : ByteArray := prog_10_method_80_code
def y_Mo_laysHeat : MethodName := ⟨R_Mo, "laysHeat", "()V"⟩
abbrev c_Mo_laysHeat : ByteArray := prog_10_method_81_code
def y_Mo_heat : MethodName := ⟨R_Mo, "heat", "()I"⟩
abbrev c_Mo_heat : ByteArray := prog_10_method_82_code
def y_Mo_order : MethodName := ⟨R_Mo, "order", "(I)I"⟩
abbrev c_Mo_order : ByteArray := prog_10_method_83_code
def y_Mo_isFar : MethodName := ⟨R_Mo, "isFar", "(I)Z"⟩
abbrev c_Mo_isFar : ByteArray := prog_10_method_84_code
def y_Mo_ahead : MethodName := ⟨R_Mo, "ahead", "(III)I"⟩
abbrev c_Mo_ahead : ByteArray := prog_10_method_85_code
def y_Mo_peak : MethodName := ⟨R_Mo, "peak", "(I)I"⟩
abbrev c_Mo_peak : ByteArray := prog_10_method_86_code
def y_Mo_isQuiet : MethodName := ⟨R_Mo, "isQuiet", "()Z"⟩
abbrev c_Mo_isQuiet : ByteArray := prog_10_method_87_code
def y_Mo_quiet : MethodName := ⟨R_Mo, "quiet", "()I"⟩
abbrev c_Mo_quiet : ByteArray := prog_10_method_88_code
def y_Mo_leastLimit : MethodName := ⟨R_Mo, "leastLimit", "(I)I"⟩
abbrev c_Mo_leastLimit : ByteArray := prog_10_method_89_code
def y_Mo_ifLoad : MethodName := ⟨R_Mo, "ifLoad", "(II)I"⟩
abbrev c_Mo_ifLoad : ByteArray := prog_10_method_90_code
def y_Mo_ifOff : MethodName := ⟨R_Mo, "ifOff", "(I)I"⟩
abbrev c_Mo_ifOff : ByteArray := prog_10_method_91_code
def y_Mo_bestOff : MethodName := ⟨R_Mo, "bestOff", "(I)I"⟩
abbrev c_Mo_bestOff : ByteArray := prog_10_method_92_code
def y_Mo_draw : MethodName := ⟨R_Mo, "draw", "(I)I"⟩
abbrev c_Mo_draw : ByteArray := prog_10_method_93_code
def y_Mo_tripsAll : MethodName := ⟨R_Mo, "tripsAll", "()I"⟩
abbrev c_Mo_tripsAll : ByteArray := prog_10_method_94_code
def y_Mo_good : MethodName := ⟨R_Mo, "good", "()I"⟩
abbrev c_Mo_good : ByteArray := prog_10_method_95_code
def y_Mo_chance : MethodName := ⟨R_Mo, "chance", "(IIII)I"⟩
abbrev c_Mo_chance : ByteArray := prog_10_method_96_code
def y_Mo_goodMany : MethodName := ⟨R_Mo, "goodMany", "()I"⟩
abbrev c_Mo_goodMany : ByteArray := prog_10_method_97_code
def y_Mo_count : MethodName := ⟨R_Mo, "count", "(I)I"⟩
abbrev c_Mo_count : ByteArray := prog_10_method_98_code
def y_In_bitCount : MethodName := ⟨R_In, "bitCount", "(I)I"⟩
abbrev c_In_bitCount : ByteArray := prog_16_method_49_code
def y_Ma_floorMod : MethodName := ⟨R_Ma, "floorMod", "(II)I"⟩
abbrev c_Ma_floorMod : ByteArray := prog_17_method_50_code
theorem px_z0 : (0 : Int32).toNatClampNeg = 0 := by decide +kernel
theorem px_z1 : (1 : Int32).toNatClampNeg = 1 := by decide +kernel
theorem px_z2 : (2 : Int32).toNatClampNeg = 2 := by decide +kernel
theorem px_z3 : (3 : Int32).toNatClampNeg = 3 := by decide +kernel
theorem px_z4 : (4 : Int32).toNatClampNeg = 4 := by decide +kernel
theorem px_z5 : (5 : Int32).toNatClampNeg = 5 := by decide +kernel
theorem px_z6 : (6 : Int32).toNatClampNeg = 6 := by decide +kernel
theorem px_z7 : (7 : Int32).toNatClampNeg = 7 := by decide +kernel
theorem px_z8 : (8 : Int32).toNatClampNeg = 8 := by decide +kernel
theorem px_z9 : (9 : Int32).toNatClampNeg = 9 := by decide +kernel
theorem px_z10 : (10 : Int32).toNatClampNeg = 10 := by decide +kernel
theorem px_z12 : (12 : Int32).toNatClampNeg = 12 := by decide +kernel
theorem px_z40 : (40 : Int32).toNatClampNeg = 40 := by decide +kernel
theorem px_z156 : (156 : Int32).toNatClampNeg = 156 := by decide +kernel
theorem px_z169 : (169 : Int32).toNatClampNeg = 169 := by decide +kernel
theorem px_z170 : (170 : Int32).toNatClampNeg = 170 := by decide +kernel
theorem px_z182 : (182 : Int32).toNatClampNeg = 182 := by decide +kernel
theorem px_z183 : (183 : Int32).toNatClampNeg = 183 := by decide +kernel
theorem px_z184 : (184 : Int32).toNatClampNeg = 184 := by decide +kernel
theorem px_z185 : (185 : Int32).toNatClampNeg = 185 := by decide +kernel
theorem px_z186 : (186 : Int32).toNatClampNeg = 186 := by decide +kernel
theorem px_z187 : (187 : Int32).toNatClampNeg = 187 := by decide +kernel
theorem px_z188 : (188 : Int32).toNatClampNeg = 188 := by decide +kernel
theorem px_z189 : (189 : Int32).toNatClampNeg = 189 := by decide +kernel
theorem px_z190 : (190 : Int32).toNatClampNeg = 190 := by decide +kernel
theorem wn_System_arraycopy : Cond.native arraycopyName ∈ pxW := (px_w 707 (by decide +kernel) (by decide +kernel))
theorem ws_System_arraycopy : Cond.static arraycopyName ∈ pxW := (px_w 706 (by decide +kernel) (by decide +kernel))
theorem wi_java_lang_System : Cond.initialized "java/lang/System" ∈ pxW := (px_w 112 (by decide +kernel) (by decide +kernel))
theorem ws_Math_min : Cond.static Lib.Math.min.name ∈ pxW := (px_w 588 (by decide +kernel) (by decide +kernel))
theorem wi_java_lang_Math : Cond.initialized "java/lang/Math" ∈ pxW := (px_w 111 (by decide +kernel) (by decide +kernel))
theorem wc_Math_min : Cond.code Lib.Math.min.name Lib.Math.min.code 2 (some .int) ∈ pxW := (px_w 589 (by decide +kernel) (by decide +kernel))
theorem ws_Math_max : Cond.static Lib.Math.max.name ∈ pxW := (px_w 628 (by decide +kernel) (by decide +kernel))
theorem wc_Math_max : Cond.code Lib.Math.max.name Lib.Math.max.code 2 (some .int) ∈ pxW := (px_w 629 (by decide +kernel) (by decide +kernel))
theorem lw_Bo_31 : px_FW R_Bo 31 2 4 (.object "PowerRails$Plan") := ⟨_, rfl, by decide, (px_w 463 (by decide +kernel) (by decide +kernel)), by decide, rfl⟩
theorem lf_Bo_11 : px_F R_Bo 11 2 0 := ⟨_, rfl, by decide, (px_w 455 (by decide +kernel) (by decide +kernel))⟩
theorem lf_Bo_31 : px_F R_Bo 31 2 4 := ⟨_, rfl, by decide, (px_w 463 (by decide +kernel) (by decide +kernel))⟩
theorem lf_Bo_36 : px_F R_Bo 36 1 8 := ⟨_, rfl, by decide, (px_w 173 (by decide +kernel) (by decide +kernel))⟩
theorem lf_Bo_41 : px_F R_Bo 41 1 9 := ⟨_, rfl, by decide, (px_w 176 (by decide +kernel) (by decide +kernel))⟩
theorem lw_Ra_9 : px_FW R_Ra 9 3 0 .int := ⟨_, rfl, by decide, (px_w 391 (by decide +kernel) (by decide +kernel)), by decide, rfl⟩
theorem lw_Ra_15 : px_FW R_Ra 15 3 1 .int := ⟨_, rfl, by decide, (px_w 395 (by decide +kernel) (by decide +kernel)), by decide, rfl⟩
theorem lw_Ra_18 : px_FW R_Ra 18 3 2 .int := ⟨_, rfl, by decide, (px_w 398 (by decide +kernel) (by decide +kernel)), by decide, rfl⟩
theorem lw_Ra_21 : px_FW R_Ra 21 3 3 .int := ⟨_, rfl, by decide, (px_w 401 (by decide +kernel) (by decide +kernel)), by decide, rfl⟩
theorem lw_Ra_24 : px_FW R_Ra 24 3 4 .int := ⟨_, rfl, by decide, (px_w 404 (by decide +kernel) (by decide +kernel)), by decide, rfl⟩
theorem lw_Ra_27 : px_FW R_Ra 27 3 5 .int := ⟨_, rfl, by decide, (px_w 406 (by decide +kernel) (by decide +kernel)), by decide, rfl⟩
theorem lw_Ra_30 : px_FW R_Ra 30 3 6 .boolean := ⟨_, rfl, by decide, (px_w 409 (by decide +kernel) (by decide +kernel)), by decide, rfl⟩
theorem lw_Ra_34 : px_FW R_Ra 34 3 7 .int := ⟨_, rfl, by decide, (px_w 412 (by decide +kernel) (by decide +kernel)), by decide, rfl⟩
theorem lw_Ra_37 : px_FW R_Ra 37 3 8 .int := ⟨_, rfl, by decide, (px_w 414 (by decide +kernel) (by decide +kernel)), by decide, rfl⟩
theorem lw_Ra_40 : px_FW R_Ra 40 3 9 .int := ⟨_, rfl, by decide, (px_w 417 (by decide +kernel) (by decide +kernel)), by decide, rfl⟩
theorem lw_Ra_43 : px_FW R_Ra 43 3 10 .int := ⟨_, rfl, by decide, (px_w 420 (by decide +kernel) (by decide +kernel)), by decide, rfl⟩
theorem lw_Ra_46 : px_FW R_Ra 46 3 11 .int := ⟨_, rfl, by decide, (px_w 423 (by decide +kernel) (by decide +kernel)), by decide, rfl⟩
theorem lw_Ra_49 : px_FW R_Ra 49 3 12 .boolean := ⟨_, rfl, by decide, (px_w 426 (by decide +kernel) (by decide +kernel)), by decide, rfl⟩
theorem lV_Bo_44 : px_yV R_Bo 44 3 y_Ra_start c_Ra_start 3 none 2 := ⟨⟨⟨(px_w 664 (by decide +kernel) (by decide +kernel)), (px_w 109 (by decide +kernel) (by decide +kernel)), (px_w 667 (by decide +kernel) (by decide +kernel))⟩, by decide +kernel, by decide +kernel, by decide +kernel⟩, (px_w 665 (by decide +kernel) (by decide +kernel)), (px_w 666 (by decide +kernel) (by decide +kernel)), rfl⟩
theorem lf_Bo_20 : px_F R_Bo 20 2 1 := ⟨_, rfl, by decide, (px_w 458 (by decide +kernel) (by decide +kernel))⟩
theorem lw_Qu_15 : px_FW R_Qu 15 4 1 .int := ⟨_, rfl, by decide, (px_w 373 (by decide +kernel) (by decide +kernel)), by decide, rfl⟩
theorem lw_Qu_19 : px_FW R_Qu 19 4 2 .int := ⟨_, rfl, by decide, (px_w 376 (by decide +kernel) (by decide +kernel)), by decide, rfl⟩
theorem lV_Bo_48 : px_yV R_Bo 48 4 y_Qu_forget c_Qu_forget 1 none 0 := ⟨⟨⟨(px_w 668 (by decide +kernel) (by decide +kernel)), (px_w 108 (by decide +kernel) (by decide +kernel)), (px_w 671 (by decide +kernel) (by decide +kernel))⟩, by decide +kernel, by decide +kernel, by decide +kernel⟩, (px_w 669 (by decide +kernel) (by decide +kernel)), (px_w 670 (by decide +kernel) (by decide +kernel)), rfl⟩
theorem lf_Bo_24 : px_F R_Bo 24 2 2 := ⟨_, rfl, by decide, (px_w 460 (by decide +kernel) (by decide +kernel))⟩
theorem lw_Bo_51 : px_FW R_Bo 51 2 5 .int := ⟨_, rfl, by decide, (px_w 465 (by decide +kernel) (by decide +kernel)), by decide, rfl⟩
theorem lw_Bo_55 : px_FW R_Bo 55 2 6 .int := ⟨_, rfl, by decide, (px_w 467 (by decide +kernel) (by decide +kernel)), by decide, rfl⟩
theorem lw_Bo_58 : px_FW R_Bo 58 2 7 .int := ⟨_, rfl, by decide, (px_w 469 (by decide +kernel) (by decide +kernel)), by decide, rfl⟩
theorem lw_Bo_61 : px_FW R_Bo 61 2 8 .int := ⟨_, rfl, by decide, (px_w 471 (by decide +kernel) (by decide +kernel)), by decide, rfl⟩
theorem lw_Bo_64 : px_FW R_Bo 64 2 9 .int := ⟨_, rfl, by decide, (px_w 473 (by decide +kernel) (by decide +kernel)), by decide, rfl⟩
theorem lw_Bo_67 : px_FW R_Bo 67 2 10 .int := ⟨_, rfl, by decide, (px_w 475 (by decide +kernel) (by decide +kernel)), by decide, rfl⟩
theorem lf_Bo_70 : px_F R_Bo 70 1 0 := ⟨_, rfl, by decide, (px_w 143 (by decide +kernel) (by decide +kernel))⟩
theorem lf_Ra_9 : px_F R_Ra 9 3 0 := ⟨_, rfl, by decide, (px_w 391 (by decide +kernel) (by decide +kernel))⟩
theorem lf_Ra_15 : px_F R_Ra 15 3 1 := ⟨_, rfl, by decide, (px_w 395 (by decide +kernel) (by decide +kernel))⟩
theorem lf_Ra_18 : px_F R_Ra 18 3 2 := ⟨_, rfl, by decide, (px_w 398 (by decide +kernel) (by decide +kernel))⟩
theorem lf_Ra_21 : px_F R_Ra 21 3 3 := ⟨_, rfl, by decide, (px_w 401 (by decide +kernel) (by decide +kernel))⟩
theorem lf_Ra_24 : px_F R_Ra 24 3 4 := ⟨_, rfl, by decide, (px_w 404 (by decide +kernel) (by decide +kernel))⟩
theorem lf_Ra_27 : px_F R_Ra 27 3 5 := ⟨_, rfl, by decide, (px_w 406 (by decide +kernel) (by decide +kernel))⟩
theorem lf_Ra_30 : px_F R_Ra 30 3 6 := ⟨_, rfl, by decide, (px_w 409 (by decide +kernel) (by decide +kernel))⟩
theorem lf_Ra_34 : px_F R_Ra 34 3 7 := ⟨_, rfl, by decide, (px_w 412 (by decide +kernel) (by decide +kernel))⟩
theorem lf_Ra_37 : px_F R_Ra 37 3 8 := ⟨_, rfl, by decide, (px_w 414 (by decide +kernel) (by decide +kernel))⟩
theorem lf_Ra_40 : px_F R_Ra 40 3 9 := ⟨_, rfl, by decide, (px_w 417 (by decide +kernel) (by decide +kernel))⟩
theorem lf_Ra_43 : px_F R_Ra 43 3 10 := ⟨_, rfl, by decide, (px_w 420 (by decide +kernel) (by decide +kernel))⟩
theorem lf_Ra_46 : px_F R_Ra 46 3 11 := ⟨_, rfl, by decide, (px_w 423 (by decide +kernel) (by decide +kernel))⟩
theorem lf_Ra_49 : px_F R_Ra 49 3 12 := ⟨_, rfl, by decide, (px_w 426 (by decide +kernel) (by decide +kernel))⟩
theorem lV_Bo_72 : px_yV R_Bo 72 3 y_Ra_copyFrom c_Ra_copyFrom 2 none 1 := ⟨⟨⟨(px_w 697 (by decide +kernel) (by decide +kernel)), (px_w 109 (by decide +kernel) (by decide +kernel)), (px_w 700 (by decide +kernel) (by decide +kernel))⟩, by decide +kernel, by decide +kernel, by decide +kernel⟩, (px_w 698 (by decide +kernel) (by decide +kernel)), (px_w 699 (by decide +kernel) (by decide +kernel)), rfl⟩
theorem lf_Qu_15 : px_F R_Qu 15 4 1 := ⟨_, rfl, by decide, (px_w 373 (by decide +kernel) (by decide +kernel))⟩
theorem lf_Qu_19 : px_F R_Qu 19 4 2 := ⟨_, rfl, by decide, (px_w 376 (by decide +kernel) (by decide +kernel))⟩
theorem lf_Qu_9 : px_F R_Qu 9 4 0 := ⟨_, rfl, by decide, (px_w 372 (by decide +kernel) (by decide +kernel))⟩
theorem lm_Qu_22 : Cond.methodLink R_Qu 22 arraycopyName ∈ pxW := (px_w 705 (by decide +kernel) (by decide +kernel))
theorem lV_Bo_76 : px_yV R_Bo 76 4 y_Qu_copyFrom c_Qu_copyFrom 2 none 1 := ⟨⟨⟨(px_w 701 (by decide +kernel) (by decide +kernel)), (px_w 108 (by decide +kernel) (by decide +kernel)), (px_w 704 (by decide +kernel) (by decide +kernel))⟩, by decide +kernel, by decide +kernel, by decide +kernel⟩, (px_w 702 (by decide +kernel) (by decide +kernel)), (px_w 703 (by decide +kernel) (by decide +kernel)), rfl⟩
theorem lf_Bo_27 : px_F R_Bo 27 2 3 := ⟨_, rfl, by decide, (px_w 462 (by decide +kernel) (by decide +kernel))⟩
theorem lm_Bo_79 : Cond.methodLink R_Bo 79 arraycopyName ∈ pxW := (px_w 708 (by decide +kernel) (by decide +kernel))
theorem lf_Bo_51 : px_F R_Bo 51 2 5 := ⟨_, rfl, by decide, (px_w 465 (by decide +kernel) (by decide +kernel))⟩
theorem lf_Bo_55 : px_F R_Bo 55 2 6 := ⟨_, rfl, by decide, (px_w 467 (by decide +kernel) (by decide +kernel))⟩
theorem lf_Bo_58 : px_F R_Bo 58 2 7 := ⟨_, rfl, by decide, (px_w 469 (by decide +kernel) (by decide +kernel))⟩
theorem lf_Bo_61 : px_F R_Bo 61 2 8 := ⟨_, rfl, by decide, (px_w 471 (by decide +kernel) (by decide +kernel))⟩
theorem lf_Bo_64 : px_F R_Bo 64 2 9 := ⟨_, rfl, by decide, (px_w 473 (by decide +kernel) (by decide +kernel))⟩
theorem lf_Bo_67 : px_F R_Bo 67 2 10 := ⟨_, rfl, by decide, (px_w 475 (by decide +kernel) (by decide +kernel))⟩
theorem lf_Bo_85 : px_F R_Bo 85 3 2 := ⟨_, rfl, by decide, (px_w 399 (by decide +kernel) (by decide +kernel))⟩
theorem lf_Bo_88 : px_F R_Bo 88 3 3 := ⟨_, rfl, by decide, (px_w 402 (by decide +kernel) (by decide +kernel))⟩
theorem lf_Bo_91 : px_F R_Bo 91 1 5 := ⟨_, rfl, by decide, (px_w 161 (by decide +kernel) (by decide +kernel))⟩
theorem lf_Bo_94 : px_F R_Bo 94 1 17 := ⟨_, rfl, by decide, (px_w 201 (by decide +kernel) (by decide +kernel))⟩
theorem lV_Bo_97 : px_yV R_Bo 97 2 y_Bo_isGood c_Bo_isGood 2 (some .boolean) 1 := ⟨⟨⟨(px_w 760 (by decide +kernel) (by decide +kernel)), (px_w 107 (by decide +kernel) (by decide +kernel)), (px_w 763 (by decide +kernel) (by decide +kernel))⟩, by decide +kernel, by decide +kernel, by decide +kernel⟩, (px_w 761 (by decide +kernel) (by decide +kernel)), (px_w 762 (by decide +kernel) (by decide +kernel)), rfl⟩
theorem lf_Bo_101 : px_F R_Bo 101 3 9 := ⟨_, rfl, by decide, (px_w 418 (by decide +kernel) (by decide +kernel))⟩
theorem lf_Bo_104 : px_F R_Bo 104 1 4 := ⟨_, rfl, by decide, (px_w 158 (by decide +kernel) (by decide +kernel))⟩
theorem lf_Bo_107 : px_F R_Bo 107 1 10 := ⟨_, rfl, by decide, (px_w 180 (by decide +kernel) (by decide +kernel))⟩
theorem lf_Bo_110 : px_F R_Bo 110 4 1 := ⟨_, rfl, by decide, (px_w 374 (by decide +kernel) (by decide +kernel))⟩
theorem lf_Bo_113 : px_F R_Bo 113 3 11 := ⟨_, rfl, by decide, (px_w 424 (by decide +kernel) (by decide +kernel))⟩
theorem lm_Bo_116 : Cond.methodLink R_Bo 116 Lib.Math.min.name ∈ pxW := (px_w 792 (by decide +kernel) (by decide +kernel))
theorem lS_Bo_122 : px_yS R_Bo 122 y_Ma_floorMod c_Ma_floorMod 3 (some .int) 2 := ⟨⟨⟨(px_w 729 (by decide +kernel) (by decide +kernel)), (px_w 111 (by decide +kernel) (by decide +kernel)), (px_w 731 (by decide +kernel) (by decide +kernel))⟩, by decide +kernel, by decide +kernel, by decide +kernel⟩, (px_w 730 (by decide +kernel) (by decide +kernel))⟩
theorem lw_Bo_113 : px_FW R_Bo 113 3 11 .int := ⟨_, rfl, by decide, (px_w 424 (by decide +kernel) (by decide +kernel)), by decide, rfl⟩
theorem lw_Bo_125 : px_FW R_Bo 125 3 10 .int := ⟨_, rfl, by decide, (px_w 422 (by decide +kernel) (by decide +kernel)), by decide, rfl⟩
theorem lw_Bo_128 : px_FW R_Bo 128 3 12 .boolean := ⟨_, rfl, by decide, (px_w 427 (by decide +kernel) (by decide +kernel)), by decide, rfl⟩
theorem lV_Bo_139 : px_yV R_Bo 139 2 y_Bo_isOn c_Bo_isOn 2 (some .boolean) 1 := ⟨⟨⟨(px_w 748 (by decide +kernel) (by decide +kernel)), (px_w 107 (by decide +kernel) (by decide +kernel)), (px_w 751 (by decide +kernel) (by decide +kernel))⟩, by decide +kernel, by decide +kernel, by decide +kernel⟩, (px_w 749 (by decide +kernel) (by decide +kernel)), (px_w 750 (by decide +kernel) (by decide +kernel)), rfl⟩
theorem lf_Bo_142 : px_F R_Bo 142 1 13 := ⟨_, rfl, by decide, (px_w 190 (by decide +kernel) (by decide +kernel))⟩
theorem lw_Bo_85 : px_FW R_Bo 85 3 2 .int := ⟨_, rfl, by decide, (px_w 399 (by decide +kernel) (by decide +kernel)), by decide, rfl⟩
theorem lV_Bo_136 : px_yV R_Bo 136 4 y_Qu_drop c_Qu_drop 4 none 1 := ⟨⟨⟨(px_w 744 (by decide +kernel) (by decide +kernel)), (px_w 108 (by decide +kernel) (by decide +kernel)), (px_w 747 (by decide +kernel) (by decide +kernel))⟩, by decide +kernel, by decide +kernel, by decide +kernel⟩, (px_w 745 (by decide +kernel) (by decide +kernel)), (px_w 746 (by decide +kernel) (by decide +kernel)), rfl⟩
theorem lf_Bo_155 : px_F R_Bo 155 4 2 := ⟨_, rfl, by decide, (px_w 377 (by decide +kernel) (by decide +kernel))⟩
theorem lf_Bo_158 : px_F R_Bo 158 3 8 := ⟨_, rfl, by decide, (px_w 416 (by decide +kernel) (by decide +kernel))⟩
theorem lV_Bo_151 : px_yV R_Bo 151 2 y_Bo_latestToGo c_Bo_latestToGo 7 (some .int) 1 := ⟨⟨⟨(px_w 756 (by decide +kernel) (by decide +kernel)), (px_w 107 (by decide +kernel) (by decide +kernel)), (px_w 759 (by decide +kernel) (by decide +kernel))⟩, by decide +kernel, by decide +kernel, by decide +kernel⟩, (px_w 758 (by decide +kernel) (by decide +kernel)), (px_w 28 (by decide +kernel) (by decide +kernel)), rfl⟩
theorem lV_Bo_148 : px_yV R_Bo 148 4 y_Qu_add c_Qu_add 2 none 1 := ⟨⟨⟨(px_w 721 (by decide +kernel) (by decide +kernel)), (px_w 108 (by decide +kernel) (by decide +kernel)), (px_w 724 (by decide +kernel) (by decide +kernel))⟩, by decide +kernel, by decide +kernel, by decide +kernel⟩, (px_w 722 (by decide +kernel) (by decide +kernel)), (px_w 723 (by decide +kernel) (by decide +kernel)), rfl⟩
theorem lV_Bo_145 : px_yV R_Bo 145 2 y_Bo_unwind c_Bo_unwind 4 none 1 := ⟨⟨⟨(px_w 752 (by decide +kernel) (by decide +kernel)), (px_w 107 (by decide +kernel) (by decide +kernel)), (px_w 755 (by decide +kernel) (by decide +kernel))⟩, by decide +kernel, by decide +kernel, by decide +kernel⟩, (px_w 754 (by decide +kernel) (by decide +kernel)), (px_w 27 (by decide +kernel) (by decide +kernel)), rfl⟩
theorem lV_Bo_132 : px_yV R_Bo 132 2 y_Bo_waitIfOff c_Bo_waitIfOff 2 none 1 := ⟨⟨⟨(px_w 717 (by decide +kernel) (by decide +kernel)), (px_w 107 (by decide +kernel) (by decide +kernel)), (px_w 720 (by decide +kernel) (by decide +kernel))⟩, by decide +kernel, by decide +kernel, by decide +kernel⟩, (px_w 719 (by decide +kernel) (by decide +kernel)), (px_w 23 (by decide +kernel) (by decide +kernel)), rfl⟩
theorem lw_Bo_101 : px_FW R_Bo 101 3 9 .int := ⟨_, rfl, by decide, (px_w 418 (by decide +kernel) (by decide +kernel)), by decide, rfl⟩
theorem lV_Bo_161 : px_yV R_Bo 161 2 y_Bo_write c_Bo_write 3 none 2 := ⟨⟨⟨(px_w 725 (by decide +kernel) (by decide +kernel)), (px_w 107 (by decide +kernel) (by decide +kernel)), (px_w 728 (by decide +kernel) (by decide +kernel))⟩, by decide +kernel, by decide +kernel, by decide +kernel⟩, (px_w 727 (by decide +kernel) (by decide +kernel)), (px_w 24 (by decide +kernel) (by decide +kernel)), rfl⟩
theorem lV_Bo_164 : px_yV R_Bo 164 2 y_Bo_failSequence c_Bo_failSequence 1 none 0 := ⟨⟨⟨(px_w 764 (by decide +kernel) (by decide +kernel)), (px_w 107 (by decide +kernel) (by decide +kernel)), (px_w 767 (by decide +kernel) (by decide +kernel))⟩, by decide +kernel, by decide +kernel, by decide +kernel⟩, (px_w 766 (by decide +kernel) (by decide +kernel)), (px_w 29 (by decide +kernel) (by decide +kernel)), rfl⟩
theorem lf_Bo_125 : px_F R_Bo 125 3 10 := ⟨_, rfl, by decide, (px_w 422 (by decide +kernel) (by decide +kernel))⟩
theorem lV_Bo_167 : px_yV R_Bo 167 2 y_Bo_comeAgain c_Bo_comeAgain 3 none 0 := ⟨⟨⟨(px_w 713 (by decide +kernel) (by decide +kernel)), (px_w 107 (by decide +kernel) (by decide +kernel)), (px_w 716 (by decide +kernel) (by decide +kernel))⟩, by decide +kernel, by decide +kernel, by decide +kernel⟩, (px_w 715 (by decide +kernel) (by decide +kernel)), (px_w 22 (by decide +kernel) (by decide +kernel)), rfl⟩
theorem lf_Bo_208 : px_F R_Bo 208 1 2 := ⟨_, rfl, by decide, (px_w 153 (by decide +kernel) (by decide +kernel))⟩
theorem lf_Bo_215 : px_F R_Bo 215 1 14 := ⟨_, rfl, by decide, (px_w 193 (by decide +kernel) (by decide +kernel))⟩
theorem lf_Bo_218 : px_F R_Bo 218 1 15 := ⟨_, rfl, by decide, (px_w 196 (by decide +kernel) (by decide +kernel))⟩
theorem lf_Bo_221 : px_F R_Bo 221 1 16 := ⟨_, rfl, by decide, (px_w 199 (by decide +kernel) (by decide +kernel))⟩
theorem lf_Pl_57 : px_F R_Pl 57 1 0 := ⟨_, rfl, by decide, (px_w 141 (by decide +kernel) (by decide +kernel))⟩
theorem lV_Bo_228 : px_yV R_Bo 228 1 y_Pl_allRails c_Pl_allRails 1 (some .int) 0 := ⟨⟨⟨(px_w 768 (by decide +kernel) (by decide +kernel)), (px_w 102 (by decide +kernel) (by decide +kernel)), (px_w 771 (by decide +kernel) (by decide +kernel))⟩, by decide +kernel, by decide +kernel, by decide +kernel⟩, (px_w 769 (by decide +kernel) (by decide +kernel)), (px_w 770 (by decide +kernel) (by decide +kernel)), rfl⟩
theorem lV_Bo_224 : px_yV R_Bo 224 2 y_Bo_askRail c_Bo_askRail 4 none 2 := ⟨⟨⟨(px_w 740 (by decide +kernel) (by decide +kernel)), (px_w 107 (by decide +kernel) (by decide +kernel)), (px_w 743 (by decide +kernel) (by decide +kernel))⟩, by decide +kernel, by decide +kernel, by decide +kernel⟩, (px_w 741 (by decide +kernel) (by decide +kernel)), (px_w 742 (by decide +kernel) (by decide +kernel)), rfl⟩
theorem lV_Bo_211 : px_yV R_Bo 211 2 y_Bo_takesStep c_Bo_takesStep 4 (some .boolean) 0 := ⟨⟨⟨(px_w 736 (by decide +kernel) (by decide +kernel)), (px_w 107 (by decide +kernel) (by decide +kernel)), (px_w 739 (by decide +kernel) (by decide +kernel))⟩, by decide +kernel, by decide +kernel, by decide +kernel⟩, (px_w 738 (by decide +kernel) (by decide +kernel)), (px_w 26 (by decide +kernel) (by decide +kernel)), rfl⟩
theorem lV_Bo_170 : px_yV R_Bo 170 2 y_Bo_runSequence c_Bo_runSequence 2 none 0 := ⟨⟨⟨(px_w 732 (by decide +kernel) (by decide +kernel)), (px_w 107 (by decide +kernel) (by decide +kernel)), (px_w 735 (by decide +kernel) (by decide +kernel))⟩, by decide +kernel, by decide +kernel, by decide +kernel⟩, (px_w 734 (by decide +kernel) (by decide +kernel)), (px_w 25 (by decide +kernel) (by decide +kernel)), rfl⟩
theorem lV_Bo_232 : px_yV R_Bo 232 2 y_Bo_goodRails c_Bo_goodRails 3 (some .int) 0 := ⟨⟨⟨(px_w 776 (by decide +kernel) (by decide +kernel)), (px_w 107 (by decide +kernel) (by decide +kernel)), (px_w 779 (by decide +kernel) (by decide +kernel))⟩, by decide +kernel, by decide +kernel, by decide +kernel⟩, (px_w 777 (by decide +kernel) (by decide +kernel)), (px_w 778 (by decide +kernel) (by decide +kernel)), rfl⟩
theorem lV_Bo_235 : px_yV R_Bo 235 4 y_Qu_at c_Qu_at 2 (some .int) 1 := ⟨⟨⟨(px_w 780 (by decide +kernel) (by decide +kernel)), (px_w 108 (by decide +kernel) (by decide +kernel)), (px_w 783 (by decide +kernel) (by decide +kernel))⟩, by decide +kernel, by decide +kernel, by decide +kernel⟩, (px_w 781 (by decide +kernel) (by decide +kernel)), (px_w 782 (by decide +kernel) (by decide +kernel)), rfl⟩
theorem lV_Bo_238 : px_yV R_Bo 238 2 y_Bo_heldBy c_Bo_heldBy 3 (some .int) 2 := ⟨⟨⟨(px_w 784 (by decide +kernel) (by decide +kernel)), (px_w 107 (by decide +kernel) (by decide +kernel)), (px_w 787 (by decide +kernel) (by decide +kernel))⟩, by decide +kernel, by decide +kernel, by decide +kernel⟩, (px_w 785 (by decide +kernel) (by decide +kernel)), (px_w 786 (by decide +kernel) (by decide +kernel)), rfl⟩
theorem lw_Bo_158 : px_FW R_Bo 158 3 8 .int := ⟨_, rfl, by decide, (px_w 416 (by decide +kernel) (by decide +kernel)), by decide, rfl⟩
theorem lV_Bo_173 : px_yV R_Bo 173 2 y_Bo_beginToRise c_Bo_beginToRise 5 none 0 := ⟨⟨⟨(px_w 772 (by decide +kernel) (by decide +kernel)), (px_w 107 (by decide +kernel) (by decide +kernel)), (px_w 775 (by decide +kernel) (by decide +kernel))⟩, by decide +kernel, by decide +kernel, by decide +kernel⟩, (px_w 774 (by decide +kernel) (by decide +kernel)), (px_w 30 (by decide +kernel) (by decide +kernel)), rfl⟩
theorem lf_Bo_241 : px_F R_Bo 241 1 6 := ⟨_, rfl, by decide, (px_w 167 (by decide +kernel) (by decide +kernel))⟩
theorem lm_Bo_203 : Cond.methodLink R_Bo 203 Lib.Math.max.name ∈ pxW := (px_w 793 (by decide +kernel) (by decide +kernel))
theorem lw_Bo_250 : px_FW R_Bo 250 3 4 .int := ⟨_, rfl, by decide, (px_w 405 (by decide +kernel) (by decide +kernel)), by decide, rfl⟩
theorem lw_Bo_88 : px_FW R_Bo 88 3 3 .int := ⟨_, rfl, by decide, (px_w 402 (by decide +kernel) (by decide +kernel)), by decide, rfl⟩
theorem lf_Bo_244 : px_F R_Bo 244 3 6 := ⟨_, rfl, by decide, (px_w 411 (by decide +kernel) (by decide +kernel))⟩
theorem lf_Bo_128 : px_F R_Bo 128 3 12 := ⟨_, rfl, by decide, (px_w 427 (by decide +kernel) (by decide +kernel))⟩
theorem lV_Bo_247 : px_yV R_Bo 247 2 y_Bo_goOff c_Bo_goOff 3 none 1 := ⟨⟨⟨(px_w 794 (by decide +kernel) (by decide +kernel)), (px_w 107 (by decide +kernel) (by decide +kernel)), (px_w 797 (by decide +kernel) (by decide +kernel))⟩, by decide +kernel, by decide +kernel, by decide +kernel⟩, (px_w 796 (by decide +kernel) (by decide +kernel)), (px_w 32 (by decide +kernel) (by decide +kernel)), rfl⟩
theorem lV_Bo_176 : px_yV R_Bo 176 2 y_Bo_moveVolts c_Bo_moveVolts 5 none 0 := ⟨⟨⟨(px_w 788 (by decide +kernel) (by decide +kernel)), (px_w 107 (by decide +kernel) (by decide +kernel)), (px_w 791 (by decide +kernel) (by decide +kernel))⟩, by decide +kernel, by decide +kernel, by decide +kernel⟩, (px_w 790 (by decide +kernel) (by decide +kernel)), (px_w 31 (by decide +kernel) (by decide +kernel)), rfl⟩
theorem lw_Bo_253 : px_FW R_Bo 253 3 5 .int := ⟨_, rfl, by decide, (px_w 408 (by decide +kernel) (by decide +kernel)), by decide, rfl⟩
theorem lf_Bo_253 : px_F R_Bo 253 3 5 := ⟨_, rfl, by decide, (px_w 408 (by decide +kernel) (by decide +kernel))⟩
theorem lf_Bo_256 : px_F R_Bo 256 1 7 := ⟨_, rfl, by decide, (px_w 171 (by decide +kernel) (by decide +kernel))⟩
theorem lf_Bo_250 : px_F R_Bo 250 3 4 := ⟨_, rfl, by decide, (px_w 405 (by decide +kernel) (by decide +kernel))⟩
theorem lf_Bo_259 : px_F R_Bo 259 3 1 := ⟨_, rfl, by decide, (px_w 397 (by decide +kernel) (by decide +kernel))⟩
theorem lw_Bo_244 : px_FW R_Bo 244 3 6 .boolean := ⟨_, rfl, by decide, (px_w 411 (by decide +kernel) (by decide +kernel)), by decide, rfl⟩
theorem lf_Bo_197 : px_F R_Bo 197 3 0 := ⟨_, rfl, by decide, (px_w 394 (by decide +kernel) (by decide +kernel))⟩
theorem lV_Bo_179 : px_yV R_Bo 179 2 y_Bo_measureDraws c_Bo_measureDraws 5 none 0 := ⟨⟨⟨(px_w 798 (by decide +kernel) (by decide +kernel)), (px_w 107 (by decide +kernel) (by decide +kernel)), (px_w 801 (by decide +kernel) (by decide +kernel))⟩, by decide +kernel, by decide +kernel, by decide +kernel⟩, (px_w 800 (by decide +kernel) (by decide +kernel)), (px_w 33 (by decide +kernel) (by decide +kernel)), rfl⟩
theorem lw_Bo_262 : px_FW R_Bo 262 3 7 .int := ⟨_, rfl, by decide, (px_w 413 (by decide +kernel) (by decide +kernel)), by decide, rfl⟩
theorem lf_Bo_262 : px_F R_Bo 262 3 7 := ⟨_, rfl, by decide, (px_w 413 (by decide +kernel) (by decide +kernel))⟩
theorem lV_Bo_265 : px_yV R_Bo 265 4 y_Qu_holds c_Qu_holds 2 (some .boolean) 1 := ⟨⟨⟨(px_w 806 (by decide +kernel) (by decide +kernel)), (px_w 108 (by decide +kernel) (by decide +kernel)), (px_w 809 (by decide +kernel) (by decide +kernel))⟩, by decide +kernel, by decide +kernel, by decide +kernel⟩, (px_w 807 (by decide +kernel) (by decide +kernel)), (px_w 808 (by decide +kernel) (by decide +kernel)), rfl⟩
theorem lV_Bo_268 : px_yV R_Bo 268 2 y_Bo_trip c_Bo_trip 2 none 1 := ⟨⟨⟨(px_w 810 (by decide +kernel) (by decide +kernel)), (px_w 107 (by decide +kernel) (by decide +kernel)), (px_w 813 (by decide +kernel) (by decide +kernel))⟩, by decide +kernel, by decide +kernel, by decide +kernel⟩, (px_w 812 (by decide +kernel) (by decide +kernel)), (px_w 35 (by decide +kernel) (by decide +kernel)), rfl⟩
theorem lV_Bo_182 : px_yV R_Bo 182 2 y_Bo_tripTheLow c_Bo_tripTheLow 3 none 0 := ⟨⟨⟨(px_w 802 (by decide +kernel) (by decide +kernel)), (px_w 107 (by decide +kernel) (by decide +kernel)), (px_w 805 (by decide +kernel) (by decide +kernel))⟩, by decide +kernel, by decide +kernel, by decide +kernel⟩, (px_w 804 (by decide +kernel) (by decide +kernel)), (px_w 34 (by decide +kernel) (by decide +kernel)), rfl⟩
theorem lV_Bo_188 : px_yV R_Bo 188 2 y_Bo_letFirstFall c_Bo_letFirstFall 2 none 0 := ⟨⟨⟨(px_w 818 (by decide +kernel) (by decide +kernel)), (px_w 107 (by decide +kernel) (by decide +kernel)), (px_w 821 (by decide +kernel) (by decide +kernel))⟩, by decide +kernel, by decide +kernel, by decide +kernel⟩, (px_w 820 (by decide +kernel) (by decide +kernel)), (px_w 37 (by decide +kernel) (by decide +kernel)), rfl⟩
theorem lV_Bo_185 : px_yV R_Bo 185 2 y_Bo_tripTheLatest c_Bo_tripTheLatest 2 none 0 := ⟨⟨⟨(px_w 814 (by decide +kernel) (by decide +kernel)), (px_w 107 (by decide +kernel) (by decide +kernel)), (px_w 817 (by decide +kernel) (by decide +kernel))⟩, by decide +kernel, by decide +kernel, by decide +kernel⟩, (px_w 816 (by decide +kernel) (by decide +kernel)), (px_w 36 (by decide +kernel) (by decide +kernel)), rfl⟩
theorem lV_Bo_200 : px_yV R_Bo 200 2 y_Bo_pass c_Bo_pass 1 none 0 := ⟨⟨⟨(px_w 1019 (by decide +kernel) (by decide +kernel)), (px_w 107 (by decide +kernel) (by decide +kernel)), (px_w 712 (by decide +kernel) (by decide +kernel))⟩, by decide +kernel, by decide +kernel, by decide +kernel⟩, (px_w 710 (by decide +kernel) (by decide +kernel)), (px_w 711 (by decide +kernel) (by decide +kernel)), rfl⟩
theorem lc_Bo_206 : Cond.constant R_Bo 206 (1103515245) ∈ pxW := (px_w 1014 (by decide +kernel) (by decide +kernel))
theorem lc_Bo_207 : Cond.constant R_Bo 207 (2147483647) ∈ pxW := (px_w 1015 (by decide +kernel) (by decide +kernel))
theorem lS_Bo_191 : px_yS R_Bo 191 y_Bo_following c_Bo_following 1 (some .int) 1 := ⟨⟨⟨(px_w 1011 (by decide +kernel) (by decide +kernel)), (px_w 107 (by decide +kernel) (by decide +kernel)), (px_w 1013 (by decide +kernel) (by decide +kernel))⟩, by decide +kernel, by decide +kernel, by decide +kernel⟩, (px_w 1012 (by decide +kernel) (by decide +kernel))⟩
theorem lS_Bo_194 : px_yS R_Bo 194 y_Bo_drawn c_Bo_drawn 2 (some .int) 2 := ⟨⟨⟨(px_w 1016 (by decide +kernel) (by decide +kernel)), (px_w 107 (by decide +kernel) (by decide +kernel)), (px_w 1018 (by decide +kernel) (by decide +kernel))⟩, by decide +kernel, by decide +kernel, by decide +kernel⟩, (px_w 1017 (by decide +kernel) (by decide +kernel))⟩
theorem lw_Bo_197 : px_FW R_Bo 197 3 0 .int := ⟨_, rfl, by decide, (px_w 394 (by decide +kernel) (by decide +kernel)), by decide, rfl⟩
theorem lf_Or_9 : px_F R_Or 9 2 4 := ⟨_, rfl, by decide, (px_w 464 (by decide +kernel) (by decide +kernel))⟩
theorem lf_Or_62 : px_F R_Or 62 1 0 := ⟨_, rfl, by decide, (px_w 145 (by decide +kernel) (by decide +kernel))⟩
theorem lf_Or_40 : px_F R_Or 40 2 0 := ⟨_, rfl, by decide, (px_w 456 (by decide +kernel) (by decide +kernel))⟩
theorem lf_Or_44 : px_F R_Or 44 3 0 := ⟨_, rfl, by decide, (px_w 392 (by decide +kernel) (by decide +kernel))⟩
theorem lS_Or_15 : px_yS R_Or 15 y_Or_allLoads c_Or_allLoads 3 (some .int) 1 := ⟨⟨⟨(px_w 909 (by decide +kernel) (by decide +kernel)), (px_w 119 (by decide +kernel) (by decide +kernel)), (px_w 911 (by decide +kernel) (by decide +kernel))⟩, by decide +kernel, by decide +kernel, by decide +kernel⟩, (px_w 910 (by decide +kernel) (by decide +kernel))⟩
theorem lf_Pl_36 : px_F R_Pl 36 1 11 := ⟨_, rfl, by decide, (px_w 182 (by decide +kernel) (by decide +kernel))⟩
theorem lV_Or_21 : px_yV R_Or 21 1 y_Pl_directOfAll c_Pl_directOfAll 4 (some .int) 1 := ⟨⟨⟨(px_w 912 (by decide +kernel) (by decide +kernel)), (px_w 102 (by decide +kernel) (by decide +kernel)), (px_w 915 (by decide +kernel) (by decide +kernel))⟩, by decide +kernel, by decide +kernel, by decide +kernel⟩, (px_w 913 (by decide +kernel) (by decide +kernel)), (px_w 914 (by decide +kernel) (by decide +kernel)), rfl⟩
theorem lf_Pl_24 : px_F R_Pl 24 1 7 := ⟨_, rfl, by decide, (px_w 168 (by decide +kernel) (by decide +kernel))⟩
theorem lf_Pl_21 : px_F R_Pl 21 1 6 := ⟨_, rfl, by decide, (px_w 164 (by decide +kernel) (by decide +kernel))⟩
theorem lf_Pl_18 : px_F R_Pl 18 1 5 := ⟨_, rfl, by decide, (px_w 160 (by decide +kernel) (by decide +kernel))⟩
theorem lm_Pl_68 : Cond.methodLink R_Pl 68 Lib.Math.min.name ∈ pxW := (px_w 923 (by decide +kernel) (by decide +kernel))
theorem lV_Or_31 : px_yV R_Or 31 1 y_Pl_surge c_Pl_surge 2 (some .int) 1 := ⟨⟨⟨(px_w 919 (by decide +kernel) (by decide +kernel)), (px_w 102 (by decide +kernel) (by decide +kernel)), (px_w 922 (by decide +kernel) (by decide +kernel))⟩, by decide +kernel, by decide +kernel, by decide +kernel⟩, (px_w 920 (by decide +kernel) (by decide +kernel)), (px_w 921 (by decide +kernel) (by decide +kernel)), rfl⟩
theorem lS_Or_27 : px_yS R_Or 27 y_Or_leastSurge c_Or_leastSurge 4 (some .int) 2 := ⟨⟨⟨(px_w 916 (by decide +kernel) (by decide +kernel)), (px_w 119 (by decide +kernel) (by decide +kernel)), (px_w 918 (by decide +kernel) (by decide +kernel))⟩, by decide +kernel, by decide +kernel, by decide +kernel⟩, (px_w 917 (by decide +kernel) (by decide +kernel))⟩
theorem lm_Or_34 : Cond.methodLink R_Or 34 Lib.Math.max.name ∈ pxW := (px_w 924 (by decide +kernel) (by decide +kernel))
theorem lV_Or_50 : px_yV R_Or 50 1 y_Pl_allRails c_Pl_allRails 1 (some .int) 0 := ⟨⟨⟨(px_w 905 (by decide +kernel) (by decide +kernel)), (px_w 102 (by decide +kernel) (by decide +kernel)), (px_w 771 (by decide +kernel) (by decide +kernel))⟩, by decide +kernel, by decide +kernel, by decide +kernel⟩, (px_w 769 (by decide +kernel) (by decide +kernel)), (px_w 770 (by decide +kernel) (by decide +kernel)), rfl⟩
theorem lS_Or_54 : px_yS R_Or 54 y_Or_leastHeat c_Or_leastHeat 8 (some .int) 2 := ⟨⟨⟨(px_w 906 (by decide +kernel) (by decide +kernel)), (px_w 119 (by decide +kernel) (by decide +kernel)), (px_w 908 (by decide +kernel) (by decide +kernel))⟩, by decide +kernel, by decide +kernel, by decide +kernel⟩, (px_w 907 (by decide +kernel) (by decide +kernel))⟩
theorem lf_Or_64 : px_F R_Or 64 1 11 := ⟨_, rfl, by decide, (px_w 183 (by decide +kernel) (by decide +kernel))⟩
theorem lS_Or_58 : px_yS R_Or 58 y_Or_firstThatFits c_Or_firstThatFits 6 (some .int) 3 := ⟨⟨⟨(px_w 925 (by decide +kernel) (by decide +kernel)), (px_w 119 (by decide +kernel) (by decide +kernel)), (px_w 927 (by decide +kernel) (by decide +kernel))⟩, by decide +kernel, by decide +kernel, by decide +kernel⟩, (px_w 926 (by decide +kernel) (by decide +kernel))⟩
theorem lw_Pl_57 : px_FW R_Pl 57 1 0 .int := ⟨_, rfl, by decide, (px_w 141 (by decide +kernel) (by decide +kernel)), by decide, rfl⟩
theorem lw_Pl_61 : px_FW R_Pl 61 1 1 .int := ⟨_, rfl, by decide, (px_w 147 (by decide +kernel) (by decide +kernel)), by decide, rfl⟩
theorem lw_Pl_64 : px_FW R_Pl 64 1 2 .int := ⟨_, rfl, by decide, (px_w 150 (by decide +kernel) (by decide +kernel)), by decide, rfl⟩
theorem lf_Pl_54 : px_F R_Pl 54 1 17 := ⟨_, rfl, by decide, (px_w 200 (by decide +kernel) (by decide +kernel))⟩
theorem lc_Pl_67 : Cond.constant R_Pl 67 (99999) ∈ pxW := (px_w 358 (by decide +kernel) (by decide +kernel))
theorem lf_Pl_9 : px_F R_Pl 9 1 3 := ⟨_, rfl, by decide, (px_w 154 (by decide +kernel) (by decide +kernel))⟩
theorem lf_Pl_61 : px_F R_Pl 61 1 1 := ⟨_, rfl, by decide, (px_w 147 (by decide +kernel) (by decide +kernel))⟩
theorem lf_Pl_33 : px_F R_Pl 33 1 10 := ⟨_, rfl, by decide, (px_w 178 (by decide +kernel) (by decide +kernel))⟩
theorem lf_Pl_64 : px_F R_Pl 64 1 2 := ⟨_, rfl, by decide, (px_w 150 (by decide +kernel) (by decide +kernel))⟩
theorem lf_Pl_45 : px_F R_Pl 45 1 14 := ⟨_, rfl, by decide, (px_w 191 (by decide +kernel) (by decide +kernel))⟩
theorem lf_Pl_48 : px_F R_Pl 48 1 15 := ⟨_, rfl, by decide, (px_w 194 (by decide +kernel) (by decide +kernel))⟩
theorem lf_Pl_51 : px_F R_Pl 51 1 16 := ⟨_, rfl, by decide, (px_w 197 (by decide +kernel) (by decide +kernel))⟩
theorem lf_Pl_15 : px_F R_Pl 15 1 4 := ⟨_, rfl, by decide, (px_w 156 (by decide +kernel) (by decide +kernel))⟩
theorem lf_Pl_39 : px_F R_Pl 39 1 12 := ⟨_, rfl, by decide, (px_w 185 (by decide +kernel) (by decide +kernel))⟩
theorem lf_Pl_42 : px_F R_Pl 42 1 13 := ⟨_, rfl, by decide, (px_w 188 (by decide +kernel) (by decide +kernel))⟩
theorem lw_Re_157 : px_FW R_Re 157 5 9 .int := ⟨_, rfl, by decide, (px_w 313 (by decide +kernel) (by decide +kernel)), by decide, rfl⟩
theorem lw_Re_163 : px_FW R_Re 163 5 10 .int := ⟨_, rfl, by decide, (px_w 314 (by decide +kernel) (by decide +kernel)), by decide, rfl⟩
theorem lw_Re_62 : px_FW R_Re 62 5 11 .int := ⟨_, rfl, by decide, (px_w 315 (by decide +kernel) (by decide +kernel)), by decide, rfl⟩
theorem lf_Re_62 : px_F R_Re 62 5 11 := ⟨_, rfl, by decide, (px_w 315 (by decide +kernel) (by decide +kernel))⟩
theorem lf_Re_163 : px_F R_Re 163 5 10 := ⟨_, rfl, by decide, (px_w 314 (by decide +kernel) (by decide +kernel))⟩
theorem lf_Re_157 : px_F R_Re 157 5 9 := ⟨_, rfl, by decide, (px_w 313 (by decide +kernel) (by decide +kernel))⟩
theorem lf_Re_31 : px_F R_Re 31 5 8 := ⟨_, rfl, by decide, (px_w 312 (by decide +kernel) (by decide +kernel))⟩
theorem lV_Re_169 : px_yV R_Re 169 5 y_Re_peekByte c_Re_peekByte 1 (some .int) 0 := ⟨⟨⟨(px_w 563 (by decide +kernel) (by decide +kernel)), (px_w 101 (by decide +kernel) (by decide +kernel)), (px_w 566 (by decide +kernel) (by decide +kernel))⟩, by decide +kernel, by decide +kernel, by decide +kernel⟩, (px_w 565 (by decide +kernel) (by decide +kernel)), (px_w 3 (by decide +kernel) (by decide +kernel)), rfl⟩
theorem lV_Re_166 : px_yV R_Re 166 5 y_Re_skipBlanks c_Re_skipBlanks 3 none 0 := ⟨⟨⟨(px_w 559 (by decide +kernel) (by decide +kernel)), (px_w 101 (by decide +kernel) (by decide +kernel)), (px_w 562 (by decide +kernel) (by decide +kernel))⟩, by decide +kernel, by decide +kernel, by decide +kernel⟩, (px_w 561 (by decide +kernel) (by decide +kernel)), (px_w 2 (by decide +kernel) (by decide +kernel)), rfl⟩
theorem lf_Re_28 : px_F R_Re 28 5 6 := ⟨_, rfl, by decide, (px_w 310 (by decide +kernel) (by decide +kernel))⟩
theorem lw_Re_68 : px_FW R_Re 68 5 12 .int := ⟨_, rfl, by decide, (px_w 316 (by decide +kernel) (by decide +kernel)), by decide, rfl⟩
theorem lS_Re_175 : px_yS R_Re 175 y_Re_isLetter c_Re_isLetter 1 (some .boolean) 1 := ⟨⟨⟨(px_w 295 (by decide +kernel) (by decide +kernel)), (px_w 101 (by decide +kernel) (by decide +kernel)), (px_w 297 (by decide +kernel) (by decide +kernel))⟩, by decide +kernel, by decide +kernel, by decide +kernel⟩, (px_w 296 (by decide +kernel) (by decide +kernel))⟩
theorem lS_Re_182 : px_yS R_Re 182 y_Re_isDigit c_Re_isDigit 1 (some .boolean) 1 := ⟨⟨⟨(px_w 579 (by decide +kernel) (by decide +kernel)), (px_w 101 (by decide +kernel) (by decide +kernel)), (px_w 581 (by decide +kernel) (by decide +kernel))⟩, by decide +kernel, by decide +kernel, by decide +kernel⟩, (px_w 580 (by decide +kernel) (by decide +kernel))⟩
theorem lc_Re_194 : Cond.constant R_Re 194 (1000000) ∈ pxW := (px_w 586 (by decide +kernel) (by decide +kernel))
theorem lf_Re_68 : px_F R_Re 68 5 12 := ⟨_, rfl, by decide, (px_w 316 (by decide +kernel) (by decide +kernel))⟩
theorem lm_Re_195 : Cond.methodLink R_Re 195 Lib.Math.min.name ∈ pxW := (px_w 587 (by decide +kernel) (by decide +kernel))
theorem lV_Re_185 : px_yV R_Re 185 5 y_Re_cutNumber c_Re_cutNumber 3 none 0 := ⟨⟨⟨(px_w 582 (by decide +kernel) (by decide +kernel)), (px_w 101 (by decide +kernel) (by decide +kernel)), (px_w 585 (by decide +kernel) (by decide +kernel))⟩, by decide +kernel, by decide +kernel, by decide +kernel⟩, (px_w 584 (by decide +kernel) (by decide +kernel)), (px_w 7 (by decide +kernel) (by decide +kernel)), rfl⟩
theorem lS_Re_188 : px_yS R_Re 188 y_Re_letterBits c_Re_letterBits 2 (some .int) 2 := ⟨⟨⟨(px_w 298 (by decide +kernel) (by decide +kernel)), (px_w 101 (by decide +kernel) (by decide +kernel)), (px_w 300 (by decide +kernel) (by decide +kernel))⟩, by decide +kernel, by decide +kernel, by decide +kernel⟩, (px_w 299 (by decide +kernel) (by decide +kernel))⟩
theorem lf_Re_18 : px_F R_Re 18 5 3 := ⟨_, rfl, by decide, (px_w 307 (by decide +kernel) (by decide +kernel))⟩
theorem lV_Re_191 : px_yV R_Re 191 5 y_Re_wordOfLanguage c_Re_wordOfLanguage 3 (some .int) 1 := ⟨⟨⟨(px_w 575 (by decide +kernel) (by decide +kernel)), (px_w 101 (by decide +kernel) (by decide +kernel)), (px_w 578 (by decide +kernel) (by decide +kernel))⟩, by decide +kernel, by decide +kernel, by decide +kernel⟩, (px_w 577 (by decide +kernel) (by decide +kernel)), (px_w 6 (by decide +kernel) (by decide +kernel)), rfl⟩
theorem lV_Re_179 : px_yV R_Re 179 5 y_Re_cutWord c_Re_cutWord 5 none 0 := ⟨⟨⟨(px_w 571 (by decide +kernel) (by decide +kernel)), (px_w 101 (by decide +kernel) (by decide +kernel)), (px_w 574 (by decide +kernel) (by decide +kernel))⟩, by decide +kernel, by decide +kernel, by decide +kernel⟩, (px_w 573 (by decide +kernel) (by decide +kernel)), (px_w 5 (by decide +kernel) (by decide +kernel)), rfl⟩
theorem lV_Re_172 : px_yV R_Re 172 5 y_Re_cutToken c_Re_cutToken 2 none 1 := ⟨⟨⟨(px_w 567 (by decide +kernel) (by decide +kernel)), (px_w 101 (by decide +kernel) (by decide +kernel)), (px_w 570 (by decide +kernel) (by decide +kernel))⟩, by decide +kernel, by decide +kernel, by decide +kernel⟩, (px_w 569 (by decide +kernel) (by decide +kernel)), (px_w 4 (by decide +kernel) (by decide +kernel)), rfl⟩
theorem lf_Re_22 : px_F R_Re 22 5 4 := ⟨_, rfl, by decide, (px_w 308 (by decide +kernel) (by decide +kernel))⟩
theorem lf_Re_25 : px_F R_Re 25 5 5 := ⟨_, rfl, by decide, (px_w 309 (by decide +kernel) (by decide +kernel))⟩
theorem lw_Re_59 : px_FW R_Re 59 5 7 .int := ⟨_, rfl, by decide, (px_w 311 (by decide +kernel) (by decide +kernel)), by decide, rfl⟩
theorem lV_Re_39 : px_yV R_Re 39 5 y_Re_cutAll c_Re_cutAll 3 none 1 := ⟨⟨⟨(px_w 555 (by decide +kernel) (by decide +kernel)), (px_w 101 (by decide +kernel) (by decide +kernel)), (px_w 558 (by decide +kernel) (by decide +kernel))⟩, by decide +kernel, by decide +kernel, by decide +kernel⟩, (px_w 557 (by decide +kernel) (by decide +kernel)), (px_w 1 (by decide +kernel) (by decide +kernel)), rfl⟩
theorem lf_Re_12 : px_F R_Re 12 5 0 := ⟨_, rfl, by decide, (px_w 301 (by decide +kernel) (by decide +kernel))⟩
theorem lV_Re_43 : px_yV R_Re 43 1 y_Pl_forget c_Pl_forget 1 none 0 := ⟨⟨⟨(px_w 590 (by decide +kernel) (by decide +kernel)), (px_w 102 (by decide +kernel) (by decide +kernel)), (px_w 357 (by decide +kernel) (by decide +kernel))⟩, by decide +kernel, by decide +kernel, by decide +kernel⟩, (px_w 355 (by decide +kernel) (by decide +kernel)), (px_w 356 (by decide +kernel) (by decide +kernel)), rfl⟩
theorem lw_Re_46 : px_FW R_Re 46 5 14 .int := ⟨_, rfl, by decide, (px_w 318 (by decide +kernel) (by decide +kernel)), by decide, rfl⟩
theorem lw_Re_50 : px_FW R_Re 50 5 1 .int := ⟨_, rfl, by decide, (px_w 303 (by decide +kernel) (by decide +kernel)), by decide, rfl⟩
theorem lw_Re_53 : px_FW R_Re 53 5 13 .int := ⟨_, rfl, by decide, (px_w 317 (by decide +kernel) (by decide +kernel)), by decide, rfl⟩
theorem lf_Re_53 : px_F R_Re 53 5 13 := ⟨_, rfl, by decide, (px_w 317 (by decide +kernel) (by decide +kernel))⟩
theorem lf_Re_59 : px_F R_Re 59 5 7 := ⟨_, rfl, by decide, (px_w 311 (by decide +kernel) (by decide +kernel))⟩
theorem lV_Re_56 : px_yV R_Re 56 5 y_Re_advance c_Re_advance 1 none 0 := ⟨⟨⟨(px_w 591 (by decide +kernel) (by decide +kernel)), (px_w 101 (by decide +kernel) (by decide +kernel)), (px_w 594 (by decide +kernel) (by decide +kernel))⟩, by decide +kernel, by decide +kernel, by decide +kernel⟩, (px_w 593 (by decide +kernel) (by decide +kernel)), (px_w 8 (by decide +kernel) (by decide +kernel)), rfl⟩
theorem lf_Re_50 : px_F R_Re 50 5 1 := ⟨_, rfl, by decide, (px_w 303 (by decide +kernel) (by decide +kernel))⟩
theorem lw_Re_160 : px_FW R_Re 160 5 2 .int := ⟨_, rfl, by decide, (px_w 306 (by decide +kernel) (by decide +kernel)), by decide, rfl⟩
theorem lV_Re_71 : px_yV R_Re 71 5 y_Re_refuse c_Re_refuse 2 none 1 := ⟨⟨⟨(px_w 599 (by decide +kernel) (by decide +kernel)), (px_w 101 (by decide +kernel) (by decide +kernel)), (px_w 602 (by decide +kernel) (by decide +kernel))⟩, by decide +kernel, by decide +kernel, by decide +kernel⟩, (px_w 601 (by decide +kernel) (by decide +kernel)), (px_w 10 (by decide +kernel) (by decide +kernel)), rfl⟩
theorem lV_Re_86 : px_yV R_Re 86 5 y_Re_take c_Re_take 2 none 1 := ⟨⟨⟨(px_w 615 (by decide +kernel) (by decide +kernel)), (px_w 101 (by decide +kernel) (by decide +kernel)), (px_w 618 (by decide +kernel) (by decide +kernel))⟩, by decide +kernel, by decide +kernel, by decide +kernel⟩, (px_w 617 (by decide +kernel) (by decide +kernel)), (px_w 13 (by decide +kernel) (by decide +kernel)), rfl⟩
theorem lf_Re_46 : px_F R_Re 46 5 14 := ⟨_, rfl, by decide, (px_w 318 (by decide +kernel) (by decide +kernel))⟩
theorem lf_Re_148 : px_F R_Re 148 1 17 := ⟨_, rfl, by decide, (px_w 202 (by decide +kernel) (by decide +kernel))⟩
theorem lc_Re_124 : Cond.constant R_Re 124 (99999) ∈ pxW := (px_w 634 (by decide +kernel) (by decide +kernel))
theorem lV_Re_108 : px_yV R_Re 108 5 y_Re_number c_Re_number 4 (some .int) 2 := ⟨⟨⟨(px_w 630 (by decide +kernel) (by decide +kernel)), (px_w 101 (by decide +kernel) (by decide +kernel)), (px_w 633 (by decide +kernel) (by decide +kernel))⟩, by decide +kernel, by decide +kernel, by decide +kernel⟩, (px_w 632 (by decide +kernel) (by decide +kernel)), (px_w 16 (by decide +kernel) (by decide +kernel)), rfl⟩
theorem lc_Re_151 : Cond.constant R_Re 151 (999999) ∈ pxW := (px_w 655 (by decide +kernel) (by decide +kernel))
theorem lV_Re_83 : px_yV R_Re 83 5 y_Re_readSetting c_Re_readSetting 2 none 1 := ⟨⟨⟨(px_w 651 (by decide +kernel) (by decide +kernel)), (px_w 101 (by decide +kernel) (by decide +kernel)), (px_w 654 (by decide +kernel) (by decide +kernel))⟩, by decide +kernel, by decide +kernel, by decide +kernel⟩, (px_w 653 (by decide +kernel) (by decide +kernel)), (px_w 19 (by decide +kernel) (by decide +kernel)), rfl⟩
theorem lf_Re_141 : px_F R_Re 141 1 2 := ⟨_, rfl, by decide, (px_w 151 (by decide +kernel) (by decide +kernel))⟩
theorem lV_Re_134 : px_yV R_Re 134 1 y_Pl_find c_Pl_find 3 (some .int) 1 := ⟨⟨⟨(px_w 611 (by decide +kernel) (by decide +kernel)), (px_w 102 (by decide +kernel) (by decide +kernel)), (px_w 614 (by decide +kernel) (by decide +kernel))⟩, by decide +kernel, by decide +kernel, by decide +kernel⟩, (px_w 612 (by decide +kernel) (by decide +kernel)), (px_w 613 (by decide +kernel) (by decide +kernel)), rfl⟩
theorem lm_Re_152 : Cond.methodLink R_Re 152 Lib.Math.max.name ∈ pxW := (px_w 627 (by decide +kernel) (by decide +kernel))
theorem lV_Re_131 : px_yV R_Re 131 5 y_Re_toldRail c_Re_toldRail 2 (some .int) 0 := ⟨⟨⟨(px_w 623 (by decide +kernel) (by decide +kernel)), (px_w 101 (by decide +kernel) (by decide +kernel)), (px_w 626 (by decide +kernel) (by decide +kernel))⟩, by decide +kernel, by decide +kernel, by decide +kernel⟩, (px_w 625 (by decide +kernel) (by decide +kernel)), (px_w 15 (by decide +kernel) (by decide +kernel)), rfl⟩
theorem lV_Re_144 : px_yV R_Re 144 1 y_Pl_addStep c_Pl_addStep 4 none 3 := ⟨⟨⟨(px_w 647 (by decide +kernel) (by decide +kernel)), (px_w 102 (by decide +kernel) (by decide +kernel)), (px_w 650 (by decide +kernel) (by decide +kernel))⟩, by decide +kernel, by decide +kernel, by decide +kernel⟩, (px_w 648 (by decide +kernel) (by decide +kernel)), (px_w 649 (by decide +kernel) (by decide +kernel)), rfl⟩
theorem lV_Re_80 : px_yV R_Re 80 5 y_Re_readStep c_Re_readStep 4 none 1 := ⟨⟨⟨(px_w 643 (by decide +kernel) (by decide +kernel)), (px_w 101 (by decide +kernel) (by decide +kernel)), (px_w 646 (by decide +kernel) (by decide +kernel))⟩, by decide +kernel, by decide +kernel, by decide +kernel⟩, (px_w 645 (by decide +kernel) (by decide +kernel)), (px_w 18 (by decide +kernel) (by decide +kernel)), rfl⟩
theorem lf_Re_128 : px_F R_Re 128 1 1 := ⟨_, rfl, by decide, (px_w 148 (by decide +kernel) (by decide +kernel))⟩
theorem lV_Re_137 : px_yV R_Re 137 1 y_Pl_addNeed c_Pl_addNeed 3 none 2 := ⟨⟨⟨(px_w 639 (by decide +kernel) (by decide +kernel)), (px_w 102 (by decide +kernel) (by decide +kernel)), (px_w 642 (by decide +kernel) (by decide +kernel))⟩, by decide +kernel, by decide +kernel, by decide +kernel⟩, (px_w 640 (by decide +kernel) (by decide +kernel)), (px_w 641 (by decide +kernel) (by decide +kernel)), rfl⟩
theorem lf_Re_125 : px_F R_Re 125 1 10 := ⟨_, rfl, by decide, (px_w 179 (by decide +kernel) (by decide +kernel))⟩
theorem lV_Re_77 : px_yV R_Re 77 5 y_Re_readNeed c_Re_readNeed 3 none 0 := ⟨⟨⟨(px_w 635 (by decide +kernel) (by decide +kernel)), (px_w 101 (by decide +kernel) (by decide +kernel)), (px_w 638 (by decide +kernel) (by decide +kernel))⟩, by decide +kernel, by decide +kernel, by decide +kernel⟩, (px_w 637 (by decide +kernel) (by decide +kernel)), (px_w 17 (by decide +kernel) (by decide +kernel)), rfl⟩
theorem lf_Re_89 : px_F R_Re 89 1 0 := ⟨_, rfl, by decide, (px_w 144 (by decide +kernel) (by decide +kernel))⟩
theorem lf_Re_92 : px_F R_Re 92 1 3 := ⟨_, rfl, by decide, (px_w 155 (by decide +kernel) (by decide +kernel))⟩
theorem lV_Re_95 : px_yV R_Re 95 5 y_Re_freshName c_Re_freshName 2 (some .int) 0 := ⟨⟨⟨(px_w 607 (by decide +kernel) (by decide +kernel)), (px_w 101 (by decide +kernel) (by decide +kernel)), (px_w 610 (by decide +kernel) (by decide +kernel))⟩, by decide +kernel, by decide +kernel, by decide +kernel⟩, (px_w 609 (by decide +kernel) (by decide +kernel)), (px_w 12 (by decide +kernel) (by decide +kernel)), rfl⟩
theorem lf_Re_99 : px_F R_Re 99 1 4 := ⟨_, rfl, by decide, (px_w 157 (by decide +kernel) (by decide +kernel))⟩
theorem lV_Re_102 : px_yV R_Re 102 5 y_Re_parentOrSource c_Re_parentOrSource 1 (some .int) 0 := ⟨⟨⟨(px_w 619 (by decide +kernel) (by decide +kernel)), (px_w 101 (by decide +kernel) (by decide +kernel)), (px_w 622 (by decide +kernel) (by decide +kernel))⟩, by decide +kernel, by decide +kernel, by decide +kernel⟩, (px_w 621 (by decide +kernel) (by decide +kernel)), (px_w 14 (by decide +kernel) (by decide +kernel)), rfl⟩
theorem lf_Re_105 : px_F R_Re 105 1 5 := ⟨_, rfl, by decide, (px_w 162 (by decide +kernel) (by decide +kernel))⟩
theorem lf_Re_112 : px_F R_Re 112 1 6 := ⟨_, rfl, by decide, (px_w 165 (by decide +kernel) (by decide +kernel))⟩
theorem lf_Re_115 : px_F R_Re 115 1 7 := ⟨_, rfl, by decide, (px_w 169 (by decide +kernel) (by decide +kernel))⟩
theorem lf_Re_118 : px_F R_Re 118 1 8 := ⟨_, rfl, by decide, (px_w 174 (by decide +kernel) (by decide +kernel))⟩
theorem lf_Re_121 : px_F R_Re 121 1 9 := ⟨_, rfl, by decide, (px_w 177 (by decide +kernel) (by decide +kernel))⟩
theorem lw_Re_89 : px_FW R_Re 89 1 0 .int := ⟨_, rfl, by decide, (px_w 144 (by decide +kernel) (by decide +kernel)), by decide, rfl⟩
theorem lV_Re_74 : px_yV R_Re 74 5 y_Re_readRail c_Re_readRail 2 none 0 := ⟨⟨⟨(px_w 603 (by decide +kernel) (by decide +kernel)), (px_w 101 (by decide +kernel) (by decide +kernel)), (px_w 606 (by decide +kernel) (by decide +kernel))⟩, by decide +kernel, by decide +kernel, by decide +kernel⟩, (px_w 605 (by decide +kernel) (by decide +kernel)), (px_w 11 (by decide +kernel) (by decide +kernel)), rfl⟩
theorem lV_Re_65 : px_yV R_Re 65 5 y_Re_readLine c_Re_readLine 1 none 0 := ⟨⟨⟨(px_w 595 (by decide +kernel) (by decide +kernel)), (px_w 101 (by decide +kernel) (by decide +kernel)), (px_w 598 (by decide +kernel) (by decide +kernel))⟩, by decide +kernel, by decide +kernel, by decide +kernel⟩, (px_w 597 (by decide +kernel) (by decide +kernel)), (px_w 9 (by decide +kernel) (by decide +kernel)), rfl⟩
theorem lf_Ri_9 : px_F R_Ri 9 1 0 := ⟨_, rfl, by decide, (px_w 142 (by decide +kernel) (by decide +kernel))⟩
theorem lf_Ri_15 : px_F R_Ri 15 1 12 := ⟨_, rfl, by decide, (px_w 186 (by decide +kernel) (by decide +kernel))⟩
theorem lS_Ri_19 : px_yS R_Ri 19 y_Ri_within c_Ri_within 3 (some .int) 1 := ⟨⟨⟨(px_w 878 (by decide +kernel) (by decide +kernel)), (px_w 118 (by decide +kernel) (by decide +kernel)), (px_w 880 (by decide +kernel) (by decide +kernel))⟩, by decide +kernel, by decide +kernel, by decide +kernel⟩, (px_w 879 (by decide +kernel) (by decide +kernel))⟩
theorem lS_Ri_25 : px_yS R_Ri 25 y_Ri_lowest c_Ri_lowest 2 (some .int) 1 := ⟨⟨⟨(px_w 881 (by decide +kernel) (by decide +kernel)), (px_w 118 (by decide +kernel) (by decide +kernel)), (px_w 883 (by decide +kernel) (by decide +kernel))⟩, by decide +kernel, by decide +kernel, by decide +kernel⟩, (px_w 882 (by decide +kernel) (by decide +kernel))⟩
theorem lf_Ri_33 : px_F R_Ri 33 1 11 := ⟨_, rfl, by decide, (px_w 184 (by decide +kernel) (by decide +kernel))⟩
theorem lS_Ri_36 : px_yS R_Ri 36 y_Ri_reaching c_Ri_reaching 7 (some .int) 3 := ⟨⟨⟨(px_w 887 (by decide +kernel) (by decide +kernel)), (px_w 118 (by decide +kernel) (by decide +kernel)), (px_w 889 (by decide +kernel) (by decide +kernel))⟩, by decide +kernel, by decide +kernel, by decide +kernel⟩, (px_w 888 (by decide +kernel) (by decide +kernel))⟩
theorem lS_Ri_29 : px_yS R_Ri 29 y_Ri_linksBack c_Ri_linksBack 3 (some .int) 2 := ⟨⟨⟨(px_w 884 (by decide +kernel) (by decide +kernel)), (px_w 118 (by decide +kernel) (by decide +kernel)), (px_w 886 (by decide +kernel) (by decide +kernel))⟩, by decide +kernel, by decide +kernel, by decide +kernel⟩, (px_w 885 (by decide +kernel) (by decide +kernel))⟩
theorem lf_PR_55 : px_F R_PR 55 0 7 := ⟨_, rfl, by decide, (px_w 506 (by decide +kernel) (by decide +kernel))⟩
theorem lf_PR_9 : px_F R_PR 9 0 0 := ⟨_, rfl, by decide, (px_w 499 (by decide +kernel) (by decide +kernel))⟩
theorem lw_PR_55 : px_FW R_PR 55 0 7 .int := ⟨_, rfl, by decide, (px_w 506 (by decide +kernel) (by decide +kernel)), by decide, rfl⟩
theorem lV_PR_58 : px_yV R_PR 58 0 y_PR_putWord c_PR_putWord 3 none 1 := ⟨⟨⟨(px_w 543 (by decide +kernel) (by decide +kernel)), (px_w 100 (by decide +kernel) (by decide +kernel)), (px_w 546 (by decide +kernel) (by decide +kernel))⟩, by decide +kernel, by decide +kernel, by decide +kernel⟩, (px_w 545 (by decide +kernel) (by decide +kernel)), (px_w 0 (by decide +kernel) (by decide +kernel)), rfl⟩
theorem lf_PR_18 : px_F R_PR 18 0 1 := ⟨_, rfl, by decide, (px_w 500 (by decide +kernel) (by decide +kernel))⟩
theorem lV_PR_62 : px_yV R_PR 62 5 y_Re_readAll c_Re_readAll 4 (some .int) 1 := ⟨⟨⟨(px_w 551 (by decide +kernel) (by decide +kernel)), (px_w 101 (by decide +kernel) (by decide +kernel)), (px_w 554 (by decide +kernel) (by decide +kernel))⟩, by decide +kernel, by decide +kernel, by decide +kernel⟩, (px_w 552 (by decide +kernel) (by decide +kernel)), (px_w 553 (by decide +kernel) (by decide +kernel)), rfl⟩
theorem lf_PR_66 : px_F R_PR 66 5 1 := ⟨_, rfl, by decide, (px_w 304 (by decide +kernel) (by decide +kernel))⟩
theorem lw_PR_69 : px_FW R_PR 69 0 8 .int := ⟨_, rfl, by decide, (px_w 507 (by decide +kernel) (by decide +kernel)), by decide, rfl⟩
theorem lf_PR_72 : px_F R_PR 72 5 2 := ⟨_, rfl, by decide, (px_w 305 (by decide +kernel) (by decide +kernel))⟩
theorem lw_PR_35 : px_FW R_PR 35 0 9 .int := ⟨_, rfl, by decide, (px_w 508 (by decide +kernel) (by decide +kernel)), by decide, rfl⟩
theorem lf_PR_31 : px_F R_PR 31 0 6 := ⟨_, rfl, by decide, (px_w 505 (by decide +kernel) (by decide +kernel))⟩
theorem lf_PR_75 : px_F R_PR 75 5 0 := ⟨_, rfl, by decide, (px_w 302 (by decide +kernel) (by decide +kernel))⟩
theorem lw_PR_31 : px_FW R_PR 31 0 6 (.object "PowerRails$Plan") := ⟨_, rfl, by decide, (px_w 505 (by decide +kernel) (by decide +kernel)), by decide, rfl⟩
theorem lw_PR_75 : px_FW R_PR 75 5 0 (.object "PowerRails$Plan") := ⟨_, rfl, by decide, (px_w 302 (by decide +kernel) (by decide +kernel)), by decide, rfl⟩
theorem lV_PR_76 : px_yV R_PR 76 1 y_Pl_tieTogether c_Pl_tieTogether 3 none 0 := ⟨⟨⟨(px_w 656 (by decide +kernel) (by decide +kernel)), (px_w 102 (by decide +kernel) (by decide +kernel)), (px_w 659 (by decide +kernel) (by decide +kernel))⟩, by decide +kernel, by decide +kernel, by decide +kernel⟩, (px_w 657 (by decide +kernel) (by decide +kernel)), (px_w 658 (by decide +kernel) (by decide +kernel)), rfl⟩
theorem lf_PR_49 : px_F R_PR 49 0 4 := ⟨_, rfl, by decide, (px_w 503 (by decide +kernel) (by decide +kernel))⟩
theorem lV_PR_79 : px_yV R_PR 79 2 y_Bo_start c_Bo_start 3 none 1 := ⟨⟨⟨(px_w 660 (by decide +kernel) (by decide +kernel)), (px_w 107 (by decide +kernel) (by decide +kernel)), (px_w 663 (by decide +kernel) (by decide +kernel))⟩, by decide +kernel, by decide +kernel, by decide +kernel⟩, (px_w 661 (by decide +kernel) (by decide +kernel)), (px_w 662 (by decide +kernel) (by decide +kernel)), rfl⟩
theorem lw_PR_82 : px_FW R_PR 82 0 10 .boolean := ⟨_, rfl, by decide, (px_w 509 (by decide +kernel) (by decide +kernel)), by decide, rfl⟩
theorem lw_PR_303 : px_FW R_PR 303 0 11 .int := ⟨_, rfl, by decide, (px_w 510 (by decide +kernel) (by decide +kernel)), by decide, rfl⟩
theorem lw_PR_270 : px_FW R_PR 270 0 12 .int := ⟨_, rfl, by decide, (px_w 511 (by decide +kernel) (by decide +kernel)), by decide, rfl⟩
theorem lV_PR_86 : px_yV R_PR 86 0 y_PR_forgetPast c_PR_forgetPast 1 none 0 := ⟨⟨⟨(px_w 672 (by decide +kernel) (by decide +kernel)), (px_w 100 (by decide +kernel) (by decide +kernel)), (px_w 675 (by decide +kernel) (by decide +kernel))⟩, by decide +kernel, by decide +kernel, by decide +kernel⟩, (px_w 674 (by decide +kernel) (by decide +kernel)), (px_w 20 (by decide +kernel) (by decide +kernel)), rfl⟩
theorem lf_PR_69 : px_F R_PR 69 0 8 := ⟨_, rfl, by decide, (px_w 507 (by decide +kernel) (by decide +kernel))⟩
theorem lf_PR_35 : px_F R_PR 35 0 9 := ⟨_, rfl, by decide, (px_w 508 (by decide +kernel) (by decide +kernel))⟩
theorem lV_PR_89 : px_yV R_PR 89 1 y_Pl_find c_Pl_find 3 (some .int) 1 := ⟨⟨⟨(px_w 684 (by decide +kernel) (by decide +kernel)), (px_w 102 (by decide +kernel) (by decide +kernel)), (px_w 614 (by decide +kernel) (by decide +kernel))⟩, by decide +kernel, by decide +kernel, by decide +kernel⟩, (px_w 612 (by decide +kernel) (by decide +kernel)), (px_w 613 (by decide +kernel) (by decide +kernel)), rfl⟩
theorem lf_PR_92 : px_F R_PR 92 2 5 := ⟨_, rfl, by decide, (px_w 466 (by decide +kernel) (by decide +kernel))⟩
theorem lf_PR_270 : px_F R_PR 270 0 12 := ⟨_, rfl, by decide, (px_w 511 (by decide +kernel) (by decide +kernel))⟩
theorem lf_PR_24 : px_F R_PR 24 0 2 := ⟨_, rfl, by decide, (px_w 501 (by decide +kernel) (by decide +kernel))⟩
theorem lf_PR_303 : px_F R_PR 303 0 11 := ⟨_, rfl, by decide, (px_w 510 (by decide +kernel) (by decide +kernel))⟩
theorem lV_PR_273 : px_yV R_PR 273 2 y_Bo_copyFrom c_Bo_copyFrom 3 none 1 := ⟨⟨⟨(px_w 693 (by decide +kernel) (by decide +kernel)), (px_w 107 (by decide +kernel) (by decide +kernel)), (px_w 696 (by decide +kernel) (by decide +kernel))⟩, by decide +kernel, by decide +kernel, by decide +kernel⟩, (px_w 694 (by decide +kernel) (by decide +kernel)), (px_w 695 (by decide +kernel) (by decide +kernel)), rfl⟩
theorem lV_PR_95 : px_yV R_PR 95 0 y_PR_remember c_PR_remember 1 none 0 := ⟨⟨⟨(px_w 689 (by decide +kernel) (by decide +kernel)), (px_w 100 (by decide +kernel) (by decide +kernel)), (px_w 692 (by decide +kernel) (by decide +kernel))⟩, by decide +kernel, by decide +kernel, by decide +kernel⟩, (px_w 691 (by decide +kernel) (by decide +kernel)), (px_w 21 (by decide +kernel) (by decide +kernel)), rfl⟩
theorem lV_PR_98 : px_yV R_PR 98 2 y_Bo_pass c_Bo_pass 1 none 0 := ⟨⟨⟨(px_w 709 (by decide +kernel) (by decide +kernel)), (px_w 107 (by decide +kernel) (by decide +kernel)), (px_w 712 (by decide +kernel) (by decide +kernel))⟩, by decide +kernel, by decide +kernel, by decide +kernel⟩, (px_w 710 (by decide +kernel) (by decide +kernel)), (px_w 711 (by decide +kernel) (by decide +kernel)), rfl⟩
theorem lf_PR_254 : px_F R_PR 254 1 0 := ⟨_, rfl, by decide, (px_w 146 (by decide +kernel) (by decide +kernel))⟩
theorem lV_PR_101 : px_yV R_PR 101 0 y_PR_isRail c_PR_isRail 2 (some .boolean) 1 := ⟨⟨⟨(px_w 826 (by decide +kernel) (by decide +kernel)), (px_w 100 (by decide +kernel) (by decide +kernel)), (px_w 829 (by decide +kernel) (by decide +kernel))⟩, by decide +kernel, by decide +kernel, by decide +kernel⟩, (px_w 828 (by decide +kernel) (by decide +kernel)), (px_w 38 (by decide +kernel) (by decide +kernel)), rfl⟩
theorem lV_PR_105 : px_yV R_PR 105 2 y_Bo_askRail c_Bo_askRail 4 none 2 := ⟨⟨⟨(px_w 830 (by decide +kernel) (by decide +kernel)), (px_w 107 (by decide +kernel) (by decide +kernel)), (px_w 743 (by decide +kernel) (by decide +kernel))⟩, by decide +kernel, by decide +kernel, by decide +kernel⟩, (px_w 741 (by decide +kernel) (by decide +kernel)), (px_w 742 (by decide +kernel) (by decide +kernel)), rfl⟩
theorem lf_PR_109 : px_F R_PR 109 2 0 := ⟨_, rfl, by decide, (px_w 457 (by decide +kernel) (by decide +kernel))⟩
theorem lf_PR_113 : px_F R_PR 113 3 2 := ⟨_, rfl, by decide, (px_w 400 (by decide +kernel) (by decide +kernel))⟩
theorem lf_PR_118 : px_F R_PR 118 1 2 := ⟨_, rfl, by decide, (px_w 152 (by decide +kernel) (by decide +kernel))⟩
theorem lf_PR_121 : px_F R_PR 121 2 7 := ⟨_, rfl, by decide, (px_w 470 (by decide +kernel) (by decide +kernel))⟩
theorem lV_PR_124 : px_yV R_PR 124 2 y_Bo_runFromFirst c_Bo_runFromFirst 1 none 0 := ⟨⟨⟨(px_w 835 (by decide +kernel) (by decide +kernel)), (px_w 107 (by decide +kernel) (by decide +kernel)), (px_w 838 (by decide +kernel) (by decide +kernel))⟩, by decide +kernel, by decide +kernel, by decide +kernel⟩, (px_w 836 (by decide +kernel) (by decide +kernel)), (px_w 837 (by decide +kernel) (by decide +kernel)), rfl⟩
theorem lf_PR_127 : px_F R_PR 127 3 0 := ⟨_, rfl, by decide, (px_w 393 (by decide +kernel) (by decide +kernel))⟩
theorem lw_PR_127 : px_FW R_PR 127 3 0 .int := ⟨_, rfl, by decide, (px_w 393 (by decide +kernel) (by decide +kernel)), by decide, rfl⟩
theorem lc_PR_130 : Cond.constant R_PR 130 (99999) ∈ pxW := (px_w 847 (by decide +kernel) (by decide +kernel))
theorem lf_PR_131 : px_F R_PR 131 3 1 := ⟨_, rfl, by decide, (px_w 396 (by decide +kernel) (by decide +kernel))⟩
theorem lw_PR_131 : px_FW R_PR 131 3 1 .int := ⟨_, rfl, by decide, (px_w 396 (by decide +kernel) (by decide +kernel)), by decide, rfl⟩
theorem lf_PR_177 : px_F R_PR 177 1 10 := ⟨_, rfl, by decide, (px_w 181 (by decide +kernel) (by decide +kernel))⟩
theorem lf_PR_180 : px_F R_PR 180 1 12 := ⟨_, rfl, by decide, (px_w 187 (by decide +kernel) (by decide +kernel))⟩
theorem lf_PR_183 : px_F R_PR 183 1 13 := ⟨_, rfl, by decide, (px_w 189 (by decide +kernel) (by decide +kernel))⟩
theorem lf_PR_195 : px_F R_PR 195 2 1 := ⟨_, rfl, by decide, (px_w 459 (by decide +kernel) (by decide +kernel))⟩
theorem lV_PR_190 : px_yV R_PR 190 4 y_Qu_at c_Qu_at 2 (some .int) 1 := ⟨⟨⟨(px_w 856 (by decide +kernel) (by decide +kernel)), (px_w 108 (by decide +kernel) (by decide +kernel)), (px_w 783 (by decide +kernel) (by decide +kernel))⟩, by decide +kernel, by decide +kernel, by decide +kernel⟩, (px_w 781 (by decide +kernel) (by decide +kernel)), (px_w 782 (by decide +kernel) (by decide +kernel)), rfl⟩
theorem lf_PR_186 : px_F R_PR 186 2 2 := ⟨_, rfl, by decide, (px_w 461 (by decide +kernel) (by decide +kernel))⟩
theorem lf_PR_198 : px_F R_PR 198 2 8 := ⟨_, rfl, by decide, (px_w 472 (by decide +kernel) (by decide +kernel))⟩
theorem lf_PR_201 : px_F R_PR 201 2 9 := ⟨_, rfl, by decide, (px_w 474 (by decide +kernel) (by decide +kernel))⟩
theorem lf_PR_204 : px_F R_PR 204 1 14 := ⟨_, rfl, by decide, (px_w 192 (by decide +kernel) (by decide +kernel))⟩
theorem lf_PR_207 : px_F R_PR 207 1 15 := ⟨_, rfl, by decide, (px_w 195 (by decide +kernel) (by decide +kernel))⟩
theorem lf_PR_210 : px_F R_PR 210 1 16 := ⟨_, rfl, by decide, (px_w 198 (by decide +kernel) (by decide +kernel))⟩
theorem lV_PR_213 : px_yV R_PR 213 2 y_Bo_goodRails c_Bo_goodRails 3 (some .int) 0 := ⟨⟨⟨(px_w 869 (by decide +kernel) (by decide +kernel)), (px_w 107 (by decide +kernel) (by decide +kernel)), (px_w 779 (by decide +kernel) (by decide +kernel))⟩, by decide +kernel, by decide +kernel, by decide +kernel⟩, (px_w 777 (by decide +kernel) (by decide +kernel)), (px_w 778 (by decide +kernel) (by decide +kernel)), rfl⟩
theorem lV_PR_217 : px_yV R_PR 217 2 y_Bo_heldBy c_Bo_heldBy 3 (some .int) 2 := ⟨⟨⟨(px_w 870 (by decide +kernel) (by decide +kernel)), (px_w 107 (by decide +kernel) (by decide +kernel)), (px_w 787 (by decide +kernel) (by decide +kernel))⟩, by decide +kernel, by decide +kernel, by decide +kernel⟩, (px_w 785 (by decide +kernel) (by decide +kernel)), (px_w 786 (by decide +kernel) (by decide +kernel)), rfl⟩
theorem lS_PR_221 : px_yS R_PR 221 y_Ri_railAt c_Ri_railAt 8 (some .int) 2 := ⟨⟨⟨(px_w 875 (by decide +kernel) (by decide +kernel)), (px_w 118 (by decide +kernel) (by decide +kernel)), (px_w 877 (by decide +kernel) (by decide +kernel))⟩, by decide +kernel, by decide +kernel, by decide +kernel⟩, (px_w 876 (by decide +kernel) (by decide +kernel))⟩
theorem lS_PR_227 : px_yS R_PR 227 y_Ri_within c_Ri_within 3 (some .int) 1 := ⟨⟨⟨(px_w 894 (by decide +kernel) (by decide +kernel)), (px_w 118 (by decide +kernel) (by decide +kernel)), (px_w 880 (by decide +kernel) (by decide +kernel))⟩, by decide +kernel, by decide +kernel, by decide +kernel⟩, (px_w 879 (by decide +kernel) (by decide +kernel))⟩
theorem lS_PR_231 : px_yS R_PR 231 y_Ri_withinOrAbove c_Ri_withinOrAbove 4 (some .int) 1 := ⟨⟨⟨(px_w 895 (by decide +kernel) (by decide +kernel)), (px_w 118 (by decide +kernel) (by decide +kernel)), (px_w 897 (by decide +kernel) (by decide +kernel))⟩, by decide +kernel, by decide +kernel, by decide +kernel⟩, (px_w 896 (by decide +kernel) (by decide +kernel))⟩
theorem lS_PR_234 : px_yS R_PR 234 y_Or_railAt c_Or_railAt 6 (some .int) 2 := ⟨⟨⟨(px_w 902 (by decide +kernel) (by decide +kernel)), (px_w 119 (by decide +kernel) (by decide +kernel)), (px_w 904 (by decide +kernel) (by decide +kernel))⟩, by decide +kernel, by decide +kernel, by decide +kernel⟩, (px_w 903 (by decide +kernel) (by decide +kernel))⟩
theorem lV_PR_239 : px_yV R_PR 239 1 y_Pl_allRails c_Pl_allRails 1 (some .int) 0 := ⟨⟨⟨(px_w 932 (by decide +kernel) (by decide +kernel)), (px_w 102 (by decide +kernel) (by decide +kernel)), (px_w 771 (by decide +kernel) (by decide +kernel))⟩, by decide +kernel, by decide +kernel, by decide +kernel⟩, (px_w 769 (by decide +kernel) (by decide +kernel)), (px_w 770 (by decide +kernel) (by decide +kernel)), rfl⟩
theorem lS_PR_242 : px_yS R_PR 242 y_Or_leastHeat c_Or_leastHeat 8 (some .int) 2 := ⟨⟨⟨(px_w 933 (by decide +kernel) (by decide +kernel)), (px_w 119 (by decide +kernel) (by decide +kernel)), (px_w 908 (by decide +kernel) (by decide +kernel))⟩, by decide +kernel, by decide +kernel, by decide +kernel⟩, (px_w 907 (by decide +kernel) (by decide +kernel))⟩
theorem lf_PR_245 : px_F R_PR 245 2 6 := ⟨_, rfl, by decide, (px_w 468 (by decide +kernel) (by decide +kernel))⟩
theorem lV_PR_248 : px_yV R_PR 248 2 y_Bo_logKept c_Bo_logKept 1 (some .int) 0 := ⟨⟨⟨(px_w 942 (by decide +kernel) (by decide +kernel)), (px_w 107 (by decide +kernel) (by decide +kernel)), (px_w 945 (by decide +kernel) (by decide +kernel))⟩, by decide +kernel, by decide +kernel, by decide +kernel⟩, (px_w 943 (by decide +kernel) (by decide +kernel)), (px_w 944 (by decide +kernel) (by decide +kernel)), rfl⟩
theorem lV_PR_251 : px_yV R_PR 251 2 y_Bo_logEntry c_Bo_logEntry 2 (some .int) 1 := ⟨⟨⟨(px_w 946 (by decide +kernel) (by decide +kernel)), (px_w 107 (by decide +kernel) (by decide +kernel)), (px_w 949 (by decide +kernel) (by decide +kernel))⟩, by decide +kernel, by decide +kernel, by decide +kernel⟩, (px_w 947 (by decide +kernel) (by decide +kernel)), (px_w 948 (by decide +kernel) (by decide +kernel)), rfl⟩
theorem lf_PR_256 : px_F R_PR 256 1 1 := ⟨_, rfl, by decide, (px_w 149 (by decide +kernel) (by decide +kernel))⟩
theorem lf_PR_259 : px_F R_PR 259 4 1 := ⟨_, rfl, by decide, (px_w 375 (by decide +kernel) (by decide +kernel))⟩
theorem lc_In_265 : Cond.constant R_In 265 (1431655765) ∈ pxW := (px_w 957 (by decide +kernel) (by decide +kernel))
theorem lc_In_266 : Cond.constant R_In 266 (858993459) ∈ pxW := (px_w 958 (by decide +kernel) (by decide +kernel))
theorem lc_In_267 : Cond.constant R_In 267 (252645135) ∈ pxW := (px_w 959 (by decide +kernel) (by decide +kernel))
theorem lS_PR_262 : px_yS R_PR 262 y_In_bitCount c_In_bitCount 1 (some .int) 1 := ⟨⟨⟨(px_w 954 (by decide +kernel) (by decide +kernel)), (px_w 120 (by decide +kernel) (by decide +kernel)), (px_w 956 (by decide +kernel) (by decide +kernel))⟩, by decide +kernel, by decide +kernel, by decide +kernel⟩, (px_w 955 (by decide +kernel) (by decide +kernel))⟩
theorem lV_PR_267 : px_yV R_PR 267 2 y_Bo_allTrips c_Bo_allTrips 3 (some .int) 0 := ⟨⟨⟨(px_w 960 (by decide +kernel) (by decide +kernel)), (px_w 107 (by decide +kernel) (by decide +kernel)), (px_w 963 (by decide +kernel) (by decide +kernel))⟩, by decide +kernel, by decide +kernel, by decide +kernel⟩, (px_w 961 (by decide +kernel) (by decide +kernel)), (px_w 962 (by decide +kernel) (by decide +kernel)), rfl⟩
theorem lf_PR_52 : px_F R_PR 52 0 5 := ⟨_, rfl, by decide, (px_w 504 (by decide +kernel) (by decide +kernel))⟩
theorem lf_PR_153 : px_F R_PR 153 3 5 := ⟨_, rfl, by decide, (px_w 407 (by decide +kernel) (by decide +kernel))⟩
theorem lm_PR_277 : Cond.methodLink R_PR 277 Lib.Math.max.name ∈ pxW := (px_w 968 (by decide +kernel) (by decide +kernel))
theorem lf_PR_165 : px_F R_PR 165 3 9 := ⟨_, rfl, by decide, (px_w 419 (by decide +kernel) (by decide +kernel))⟩
theorem lf_PR_150 : px_F R_PR 150 3 3 := ⟨_, rfl, by decide, (px_w 403 (by decide +kernel) (by decide +kernel))⟩
theorem lV_PR_282 : px_yV R_PR 282 2 y_Bo_isQuiet c_Bo_isQuiet 4 (some .boolean) 0 := ⟨⟨⟨(px_w 977 (by decide +kernel) (by decide +kernel)), (px_w 107 (by decide +kernel) (by decide +kernel)), (px_w 980 (by decide +kernel) (by decide +kernel))⟩, by decide +kernel, by decide +kernel, by decide +kernel⟩, (px_w 978 (by decide +kernel) (by decide +kernel)), (px_w 979 (by decide +kernel) (by decide +kernel)), rfl⟩
theorem lc_PR_286 : Cond.constant R_PR 286 (2147483647) ∈ pxW := (px_w 985 (by decide +kernel) (by decide +kernel))
theorem lf_PR_287 : px_F R_PR 287 4 2 := ⟨_, rfl, by decide, (px_w 378 (by decide +kernel) (by decide +kernel))⟩
theorem lV_PR_290 : px_yV R_PR 290 2 y_Bo_isOn c_Bo_isOn 2 (some .boolean) 1 := ⟨⟨⟨(px_w 998 (by decide +kernel) (by decide +kernel)), (px_w 107 (by decide +kernel) (by decide +kernel)), (px_w 751 (by decide +kernel) (by decide +kernel))⟩, by decide +kernel, by decide +kernel, by decide +kernel⟩, (px_w 749 (by decide +kernel) (by decide +kernel)), (px_w 750 (by decide +kernel) (by decide +kernel)), rfl⟩
theorem lV_PR_293 : px_yV R_PR 293 0 y_PR_totalIfOff c_PR_totalIfOff 4 (some .int) 2 := ⟨⟨⟨(px_w 999 (by decide +kernel) (by decide +kernel)), (px_w 100 (by decide +kernel) (by decide +kernel)), (px_w 1002 (by decide +kernel) (by decide +kernel))⟩, by decide +kernel, by decide +kernel, by decide +kernel⟩, (px_w 1001 (by decide +kernel) (by decide +kernel)), (px_w 39 (by decide +kernel) (by decide +kernel)), rfl⟩
theorem lV_PR_299 : px_yV R_PR 299 2 y_Bo_passByChance c_Bo_passByChance 9 (some .int) 3 := ⟨⟨⟨(px_w 1007 (by decide +kernel) (by decide +kernel)), (px_w 107 (by decide +kernel) (by decide +kernel)), (px_w 1010 (by decide +kernel) (by decide +kernel))⟩, by decide +kernel, by decide +kernel, by decide +kernel⟩, (px_w 1008 (by decide +kernel) (by decide +kernel)), (px_w 1009 (by decide +kernel) (by decide +kernel)), rfl⟩
theorem lf_PR_296 : px_F R_PR 296 1 17 := ⟨_, rfl, by decide, (px_w 203 (by decide +kernel) (by decide +kernel))⟩
theorem lf_PR_45 : px_F R_PR 45 0 3 := ⟨_, rfl, by decide, (px_w 502 (by decide +kernel) (by decide +kernel))⟩
theorem lf_PR_82 : px_F R_PR 82 0 10 := ⟨_, rfl, by decide, (px_w 509 (by decide +kernel) (by decide +kernel))⟩
theorem lf_Mo_99 : px_F R_Mo 99 6 0 := ⟨_, rfl, by decide, (px_w 1154 (by decide +kernel) (by decide +kernel))⟩
theorem lw_Mo_99 : px_FW R_Mo 99 6 0 .int := ⟨_, rfl, by decide, (px_w 1154 (by decide +kernel) (by decide +kernel)), by decide, rfl⟩
theorem lf_Mo_102 : px_F R_Mo 102 6 2 := ⟨_, rfl, by decide, (px_w 1156 (by decide +kernel) (by decide +kernel))⟩
theorem lf_Mo_7 : px_F R_Mo 7 6 1 := ⟨_, rfl, by decide, (px_w 1155 (by decide +kernel) (by decide +kernel))⟩
theorem lw_Mo_102 : px_FW R_Mo 102 6 2 .int := ⟨_, rfl, by decide, (px_w 1156 (by decide +kernel) (by decide +kernel)), by decide, rfl⟩
theorem lf_Mo_105 : px_F R_Mo 105 6 18 := ⟨_, rfl, by decide, (px_w 1172 (by decide +kernel) (by decide +kernel))⟩
theorem lf_Mo_108 : px_F R_Mo 108 6 17 := ⟨_, rfl, by decide, (px_w 1171 (by decide +kernel) (by decide +kernel))⟩
theorem lV_Mo_111 : px_yV R_Mo 111 6 y_Mo_here c_Mo_here 1 (some .int) 0 := ⟨⟨⟨(px_w 1299 (by decide +kernel) (by decide +kernel)), (px_w 110 (by decide +kernel) (by decide +kernel)), (px_w 1302 (by decide +kernel) (by decide +kernel))⟩, by decide +kernel, by decide +kernel, by decide +kernel⟩, (px_w 1301 (by decide +kernel) (by decide +kernel)), (px_w 50 (by decide +kernel) (by decide +kernel)), rfl⟩
theorem lw_Mo_105 : px_FW R_Mo 105 6 18 .int := ⟨_, rfl, by decide, (px_w 1172 (by decide +kernel) (by decide +kernel)), by decide, rfl⟩
theorem lw_Mo_115 : px_FW R_Mo 115 6 19 .int := ⟨_, rfl, by decide, (px_w 1173 (by decide +kernel) (by decide +kernel)), by decide, rfl⟩
theorem lS_Mo_121 : px_yS R_Mo 121 y_Mo_isSmall c_Mo_isSmall 1 (some .boolean) 1 := ⟨⟨⟨(px_w 1303 (by decide +kernel) (by decide +kernel)), (px_w 110 (by decide +kernel) (by decide +kernel)), (px_w 1305 (by decide +kernel) (by decide +kernel))⟩, by decide +kernel, by decide +kernel, by decide +kernel⟩, (px_w 1304 (by decide +kernel) (by decide +kernel))⟩
theorem lS_Mo_134 : px_yS R_Mo 134 y_Mo_isDigit c_Mo_isDigit 1 (some .boolean) 1 := ⟨⟨⟨(px_w 1317 (by decide +kernel) (by decide +kernel)), (px_w 110 (by decide +kernel) (by decide +kernel)), (px_w 1319 (by decide +kernel) (by decide +kernel))⟩, by decide +kernel, by decide +kernel, by decide +kernel⟩, (px_w 1318 (by decide +kernel) (by decide +kernel))⟩
theorem lw_Mo_118 : px_FW R_Mo 118 6 20 .int := ⟨_, rfl, by decide, (px_w 1174 (by decide +kernel) (by decide +kernel)), by decide, rfl⟩
theorem lw_Mo_128 : px_FW R_Mo 128 6 21 .int := ⟨_, rfl, by decide, (px_w 1175 (by decide +kernel) (by decide +kernel)), by decide, rfl⟩
theorem lf_Mo_128 : px_F R_Mo 128 6 21 := ⟨_, rfl, by decide, (px_w 1175 (by decide +kernel) (by decide +kernel))⟩
theorem lc_Mo_137 : Cond.constant R_Mo 137 (999999) ∈ pxW := (px_w 1320 (by decide +kernel) (by decide +kernel))
theorem lV_Mo_125 : px_yV R_Mo 125 6 y_Mo_wordHere c_Mo_wordHere 4 (some .int) 0 := ⟨⟨⟨(px_w 1306 (by decide +kernel) (by decide +kernel)), (px_w 110 (by decide +kernel) (by decide +kernel)), (px_w 1309 (by decide +kernel) (by decide +kernel))⟩, by decide +kernel, by decide +kernel, by decide +kernel⟩, (px_w 1308 (by decide +kernel) (by decide +kernel)), (px_w 51 (by decide +kernel) (by decide +kernel)), rfl⟩
theorem lf_Mo_115 : px_F R_Mo 115 6 19 := ⟨_, rfl, by decide, (px_w 1173 (by decide +kernel) (by decide +kernel))⟩
theorem lf_Mo_118 : px_F R_Mo 118 6 20 := ⟨_, rfl, by decide, (px_w 1174 (by decide +kernel) (by decide +kernel))⟩
theorem lV_Mo_131 : px_yV R_Mo 131 6 y_Mo_nameHere c_Mo_nameHere 2 none 0 := ⟨⟨⟨(px_w 1313 (by decide +kernel) (by decide +kernel)), (px_w 110 (by decide +kernel) (by decide +kernel)), (px_w 1316 (by decide +kernel) (by decide +kernel))⟩, by decide +kernel, by decide +kernel, by decide +kernel⟩, (px_w 1315 (by decide +kernel) (by decide +kernel)), (px_w 52 (by decide +kernel) (by decide +kernel)), rfl⟩
theorem lf_Mo_149 : px_F R_Mo 149 6 22 := ⟨_, rfl, by decide, (px_w 1176 (by decide +kernel) (by decide +kernel))⟩
theorem lw_Mo_149 : px_FW R_Mo 149 6 22 .int := ⟨_, rfl, by decide, (px_w 1176 (by decide +kernel) (by decide +kernel)), by decide, rfl⟩
theorem lw_Mo_152 : px_FW R_Mo 152 6 23 .int := ⟨_, rfl, by decide, (px_w 1177 (by decide +kernel) (by decide +kernel)), by decide, rfl⟩
theorem lV_Mo_155 : px_yV R_Mo 155 6 y_Mo_token c_Mo_token 2 none 0 := ⟨⟨⟨(px_w 1295 (by decide +kernel) (by decide +kernel)), (px_w 110 (by decide +kernel) (by decide +kernel)), (px_w 1298 (by decide +kernel) (by decide +kernel))⟩, by decide +kernel, by decide +kernel, by decide +kernel⟩, (px_w 1297 (by decide +kernel) (by decide +kernel)), (px_w 49 (by decide +kernel) (by decide +kernel)), rfl⟩
theorem lV_Mo_158 : px_yV R_Mo 158 6 y_Mo_wrong c_Mo_wrong 2 none 1 := ⟨⟨⟨(px_w 1325 (by decide +kernel) (by decide +kernel)), (px_w 110 (by decide +kernel) (by decide +kernel)), (px_w 1328 (by decide +kernel) (by decide +kernel))⟩, by decide +kernel, by decide +kernel, by decide +kernel⟩, (px_w 1327 (by decide +kernel) (by decide +kernel)), (px_w 54 (by decide +kernel) (by decide +kernel)), rfl⟩
theorem lV_Mo_162 : px_yV R_Mo 162 6 y_Mo_goOn c_Mo_goOn 1 none 0 := ⟨⟨⟨(px_w 1333 (by decide +kernel) (by decide +kernel)), (px_w 110 (by decide +kernel) (by decide +kernel)), (px_w 1336 (by decide +kernel) (by decide +kernel))⟩, by decide +kernel, by decide +kernel, by decide +kernel⟩, (px_w 1335 (by decide +kernel) (by decide +kernel)), (px_w 56 (by decide +kernel) (by decide +kernel)), rfl⟩
theorem lf_Mo_13 : px_F R_Mo 13 6 3 := ⟨_, rfl, by decide, (px_w 1157 (by decide +kernel) (by decide +kernel))⟩
theorem lf_Mo_16 : px_F R_Mo 16 6 4 := ⟨_, rfl, by decide, (px_w 1158 (by decide +kernel) (by decide +kernel))⟩
theorem lV_Mo_165 : px_yV R_Mo 165 6 y_Mo_numeral c_Mo_numeral 4 (some .int) 2 := ⟨⟨⟨(px_w 1345 (by decide +kernel) (by decide +kernel)), (px_w 110 (by decide +kernel) (by decide +kernel)), (px_w 1348 (by decide +kernel) (by decide +kernel))⟩, by decide +kernel, by decide +kernel, by decide +kernel⟩, (px_w 1347 (by decide +kernel) (by decide +kernel)), (px_w 59 (by decide +kernel) (by decide +kernel)), rfl⟩
theorem lV_Mo_169 : px_yV R_Mo 169 6 y_Mo_reads c_Mo_reads 3 none 2 := ⟨⟨⟨(px_w 1129 (by decide +kernel) (by decide +kernel)), (px_w 110 (by decide +kernel) (by decide +kernel)), (px_w 1132 (by decide +kernel) (by decide +kernel))⟩, by decide +kernel, by decide +kernel, by decide +kernel⟩, (px_w 1131 (by decide +kernel) (by decide +kernel)), (px_w 42 (by decide +kernel) (by decide +kernel)), rfl⟩
theorem lf_Mo_20 : px_F R_Mo 20 6 5 := ⟨_, rfl, by decide, (px_w 1159 (by decide +kernel) (by decide +kernel))⟩
theorem lV_Mo_173 : px_yV R_Mo 173 6 y_Mo_reading c_Mo_reading 2 (some .int) 1 := ⟨⟨⟨(px_w 1138 (by decide +kernel) (by decide +kernel)), (px_w 110 (by decide +kernel) (by decide +kernel)), (px_w 1141 (by decide +kernel) (by decide +kernel))⟩, by decide +kernel, by decide +kernel, by decide +kernel⟩, (px_w 1140 (by decide +kernel) (by decide +kernel)), (px_w 44 (by decide +kernel) (by decide +kernel)), rfl⟩
theorem lV_Mo_177 : px_yV R_Mo 177 6 y_Mo_namedAt c_Mo_namedAt 5 (some .int) 3 := ⟨⟨⟨(px_w 1337 (by decide +kernel) (by decide +kernel)), (px_w 110 (by decide +kernel) (by decide +kernel)), (px_w 1340 (by decide +kernel) (by decide +kernel))⟩, by decide +kernel, by decide +kernel, by decide +kernel⟩, (px_w 1339 (by decide +kernel) (by decide +kernel)), (px_w 57 (by decide +kernel) (by decide +kernel)), rfl⟩
theorem lf_Mo_23 : px_F R_Mo 23 6 6 := ⟨_, rfl, by decide, (px_w 1160 (by decide +kernel) (by decide +kernel))⟩
theorem lV_Mo_181 : px_yV R_Mo 181 6 y_Mo_railHere c_Mo_railHere 2 (some .int) 0 := ⟨⟨⟨(px_w 1341 (by decide +kernel) (by decide +kernel)), (px_w 110 (by decide +kernel) (by decide +kernel)), (px_w 1344 (by decide +kernel) (by decide +kernel))⟩, by decide +kernel, by decide +kernel, by decide +kernel⟩, (px_w 1343 (by decide +kernel) (by decide +kernel)), (px_w 58 (by decide +kernel) (by decide +kernel)), rfl⟩
theorem lf_Mo_26 : px_F R_Mo 26 6 7 := ⟨_, rfl, by decide, (px_w 1161 (by decide +kernel) (by decide +kernel))⟩
theorem lf_Mo_29 : px_F R_Mo 29 6 8 := ⟨_, rfl, by decide, (px_w 1162 (by decide +kernel) (by decide +kernel))⟩
theorem lf_Mo_32 : px_F R_Mo 32 6 9 := ⟨_, rfl, by decide, (px_w 1163 (by decide +kernel) (by decide +kernel))⟩
theorem lf_Mo_35 : px_F R_Mo 35 6 10 := ⟨_, rfl, by decide, (px_w 1164 (by decide +kernel) (by decide +kernel))⟩
theorem lf_Mo_38 : px_F R_Mo 38 6 11 := ⟨_, rfl, by decide, (px_w 1165 (by decide +kernel) (by decide +kernel))⟩
theorem lc_Mo_184 : Cond.constant R_Mo 184 (99999) ∈ pxW := (px_w 1133 (by decide +kernel) (by decide +kernel))
theorem lf_Mo_41 : px_F R_Mo 41 6 12 := ⟨_, rfl, by decide, (px_w 1166 (by decide +kernel) (by decide +kernel))⟩
theorem lf_Mo_44 : px_F R_Mo 44 6 13 := ⟨_, rfl, by decide, (px_w 1167 (by decide +kernel) (by decide +kernel))⟩
theorem lf_Mo_47 : px_F R_Mo 47 6 14 := ⟨_, rfl, by decide, (px_w 1168 (by decide +kernel) (by decide +kernel))⟩
theorem lf_Mo_50 : px_F R_Mo 50 6 15 := ⟨_, rfl, by decide, (px_w 1169 (by decide +kernel) (by decide +kernel))⟩
theorem lV_Mo_185 : px_yV R_Mo 185 6 y_Mo_readOnce c_Mo_readOnce 5 none 4 := ⟨⟨⟨(px_w 1357 (by decide +kernel) (by decide +kernel)), (px_w 110 (by decide +kernel) (by decide +kernel)), (px_w 1360 (by decide +kernel) (by decide +kernel))⟩, by decide +kernel, by decide +kernel, by decide +kernel⟩, (px_w 1359 (by decide +kernel) (by decide +kernel)), (px_w 62 (by decide +kernel) (by decide +kernel)), rfl⟩
theorem lf_Mo_201 : px_F R_Mo 201 6 16 := ⟨_, rfl, by decide, (px_w 1170 (by decide +kernel) (by decide +kernel))⟩
theorem lw_Mo_201 : px_FW R_Mo 201 6 16 .int := ⟨_, rfl, by decide, (px_w 1170 (by decide +kernel) (by decide +kernel)), by decide, rfl⟩
theorem lV_Mo_198 : px_yV R_Mo 198 6 y_Mo_readRetry c_Mo_readRetry 1 none 0 := ⟨⟨⟨(px_w 1361 (by decide +kernel) (by decide +kernel)), (px_w 110 (by decide +kernel) (by decide +kernel)), (px_w 1364 (by decide +kernel) (by decide +kernel))⟩, by decide +kernel, by decide +kernel, by decide +kernel⟩, (px_w 1363 (by decide +kernel) (by decide +kernel)), (px_w 63 (by decide +kernel) (by decide +kernel)), rfl⟩
theorem lV_Mo_195 : px_yV R_Mo 195 6 y_Mo_readStep c_Mo_readStep 5 none 1 := ⟨⟨⟨(px_w 1353 (by decide +kernel) (by decide +kernel)), (px_w 110 (by decide +kernel) (by decide +kernel)), (px_w 1356 (by decide +kernel) (by decide +kernel))⟩, by decide +kernel, by decide +kernel, by decide +kernel⟩, (px_w 1355 (by decide +kernel) (by decide +kernel)), (px_w 61 (by decide +kernel) (by decide +kernel)), rfl⟩
theorem lV_Mo_192 : px_yV R_Mo 192 6 y_Mo_readNeeds c_Mo_readNeeds 3 none 0 := ⟨⟨⟨(px_w 1349 (by decide +kernel) (by decide +kernel)), (px_w 110 (by decide +kernel) (by decide +kernel)), (px_w 1352 (by decide +kernel) (by decide +kernel))⟩, by decide +kernel, by decide +kernel, by decide +kernel⟩, (px_w 1351 (by decide +kernel) (by decide +kernel)), (px_w 60 (by decide +kernel) (by decide +kernel)), rfl⟩
theorem lV_Mo_189 : px_yV R_Mo 189 6 y_Mo_readRail c_Mo_readRail 3 none 0 := ⟨⟨⟨(px_w 1329 (by decide +kernel) (by decide +kernel)), (px_w 110 (by decide +kernel) (by decide +kernel)), (px_w 1332 (by decide +kernel) (by decide +kernel))⟩, by decide +kernel, by decide +kernel, by decide +kernel⟩, (px_w 1331 (by decide +kernel) (by decide +kernel)), (px_w 55 (by decide +kernel) (by decide +kernel)), rfl⟩
theorem lw_Mo_108 : px_FW R_Mo 108 6 17 .int := ⟨_, rfl, by decide, (px_w 1171 (by decide +kernel) (by decide +kernel)), by decide, rfl⟩
theorem lV_Mo_90 : px_yV R_Mo 90 6 y_Mo_freshText c_Mo_freshText 2 none 0 := ⟨⟨⟨(px_w 1125 (by decide +kernel) (by decide +kernel)), (px_w 110 (by decide +kernel) (by decide +kernel)), (px_w 1128 (by decide +kernel) (by decide +kernel))⟩, by decide +kernel, by decide +kernel, by decide +kernel⟩, (px_w 1127 (by decide +kernel) (by decide +kernel)), (px_w 41 (by decide +kernel) (by decide +kernel)), rfl⟩
theorem lV_Mo_204 : px_yV R_Mo 204 6 y_Mo_readLine c_Mo_readLine 1 none 0 := ⟨⟨⟨(px_w 1321 (by decide +kernel) (by decide +kernel)), (px_w 110 (by decide +kernel) (by decide +kernel)), (px_w 1324 (by decide +kernel) (by decide +kernel))⟩, by decide +kernel, by decide +kernel, by decide +kernel⟩, (px_w 1323 (by decide +kernel) (by decide +kernel)), (px_w 53 (by decide +kernel) (by decide +kernel)), rfl⟩
theorem lV_Mo_223 : px_yV R_Mo 223 6 y_Mo_rails c_Mo_rails 1 (some .int) 0 := ⟨⟨⟨(px_w 1146 (by decide +kernel) (by decide +kernel)), (px_w 110 (by decide +kernel) (by decide +kernel)), (px_w 1149 (by decide +kernel) (by decide +kernel))⟩, by decide +kernel, by decide +kernel, by decide +kernel⟩, (px_w 1148 (by decide +kernel) (by decide +kernel)), (px_w 46 (by decide +kernel) (by decide +kernel)), rfl⟩
theorem lf_Mo_57 : px_F R_Mo 57 6 26 := ⟨_, rfl, by decide, (px_w 1180 (by decide +kernel) (by decide +kernel))⟩
theorem lf_Mo_60 : px_F R_Mo 60 6 27 := ⟨_, rfl, by decide, (px_w 1181 (by decide +kernel) (by decide +kernel))⟩
theorem lV_Mo_207 : px_yV R_Mo 207 6 y_Mo_laysOn c_Mo_laysOn 4 none 0 := ⟨⟨⟨(px_w 1142 (by decide +kernel) (by decide +kernel)), (px_w 110 (by decide +kernel) (by decide +kernel)), (px_w 1145 (by decide +kernel) (by decide +kernel))⟩, by decide +kernel, by decide +kernel, by decide +kernel⟩, (px_w 1144 (by decide +kernel) (by decide +kernel)), (px_w 45 (by decide +kernel) (by decide +kernel)), rfl⟩
theorem lV_Mo_210 : px_yV R_Mo 210 6 y_Mo_readText c_Mo_readText 2 none 1 := ⟨⟨⟨(px_w 1291 (by decide +kernel) (by decide +kernel)), (px_w 110 (by decide +kernel) (by decide +kernel)), (px_w 1294 (by decide +kernel) (by decide +kernel))⟩, by decide +kernel, by decide +kernel, by decide +kernel⟩, (px_w 1293 (by decide +kernel) (by decide +kernel)), (px_w 48 (by decide +kernel) (by decide +kernel)), rfl⟩
theorem lw_Mo_213 : px_FW R_Mo 213 6 24 .int := ⟨_, rfl, by decide, (px_w 1178 (by decide +kernel) (by decide +kernel)), by decide, rfl⟩
theorem lf_Mo_152 : px_F R_Mo 152 6 23 := ⟨_, rfl, by decide, (px_w 1177 (by decide +kernel) (by decide +kernel))⟩
theorem lw_Mo_53 : px_FW R_Mo 53 6 25 .int := ⟨_, rfl, by decide, (px_w 1179 (by decide +kernel) (by decide +kernel)), by decide, rfl⟩
theorem lV_Mo_93 : px_yV R_Mo 93 6 y_Mo_takeText c_Mo_takeText 2 none 0 := ⟨⟨⟨(px_w 1134 (by decide +kernel) (by decide +kernel)), (px_w 110 (by decide +kernel) (by decide +kernel)), (px_w 1137 (by decide +kernel) (by decide +kernel))⟩, by decide +kernel, by decide +kernel, by decide +kernel⟩, (px_w 1136 (by decide +kernel) (by decide +kernel)), (px_w 43 (by decide +kernel) (by decide +kernel)), rfl⟩
theorem lf_Mo_63 : px_F R_Mo 63 6 28 := ⟨_, rfl, by decide, (px_w 1182 (by decide +kernel) (by decide +kernel))⟩
theorem lV_Mo_96 : px_yV R_Mo 96 6 y_Mo_begins c_Mo_begins 2 none 0 := ⟨⟨⟨(px_w 1150 (by decide +kernel) (by decide +kernel)), (px_w 110 (by decide +kernel) (by decide +kernel)), (px_w 1153 (by decide +kernel) (by decide +kernel))⟩, by decide +kernel, by decide +kernel, by decide +kernel⟩, (px_w 1152 (by decide +kernel) (by decide +kernel)), (px_w 47 (by decide +kernel) (by decide +kernel)), rfl⟩
theorem lw_Mo_216 : px_FW R_Mo 216 6 32 .int := ⟨_, rfl, by decide, (px_w 1186 (by decide +kernel) (by decide +kernel)), by decide, rfl⟩
theorem lw_Mo_219 : px_FW R_Mo 219 6 33 .boolean := ⟨_, rfl, by decide, (px_w 1187 (by decide +kernel) (by decide +kernel)), by decide, rfl⟩
theorem lf_Mo_53 : px_F R_Mo 53 6 25 := ⟨_, rfl, by decide, (px_w 1179 (by decide +kernel) (by decide +kernel))⟩
theorem lf_Mo_213 : px_F R_Mo 213 6 24 := ⟨_, rfl, by decide, (px_w 1178 (by decide +kernel) (by decide +kernel))⟩
theorem lf_Mo_216 : px_F R_Mo 216 6 32 := ⟨_, rfl, by decide, (px_w 1186 (by decide +kernel) (by decide +kernel))⟩
theorem lf_Mo_72 : px_F R_Mo 72 6 31 := ⟨_, rfl, by decide, (px_w 1185 (by decide +kernel) (by decide +kernel))⟩
theorem lS_Mo_226 : px_yS R_Mo 226 y_Mo_copies c_Mo_copies 5 none 4 := ⟨⟨⟨(px_w 1377 (by decide +kernel) (by decide +kernel)), (px_w 110 (by decide +kernel) (by decide +kernel)), (px_w 1379 (by decide +kernel) (by decide +kernel))⟩, by decide +kernel, by decide +kernel, by decide +kernel⟩, (px_w 1378 (by decide +kernel) (by decide +kernel))⟩
theorem lf_Mo_69 : px_F R_Mo 69 6 30 := ⟨_, rfl, by decide, (px_w 1184 (by decide +kernel) (by decide +kernel))⟩
theorem lf_Mo_219 : px_F R_Mo 219 6 33 := ⟨_, rfl, by decide, (px_w 1187 (by decide +kernel) (by decide +kernel))⟩
theorem lV_Mo_230 : px_yV R_Mo 230 6 y_Mo_state c_Mo_state 2 (some .int) 1 := ⟨⟨⟨(px_w 1404 (by decide +kernel) (by decide +kernel)), (px_w 110 (by decide +kernel) (by decide +kernel)), (px_w 1407 (by decide +kernel) (by decide +kernel))⟩, by decide +kernel, by decide +kernel, by decide +kernel⟩, (px_w 1406 (by decide +kernel) (by decide +kernel)), (px_w 67 (by decide +kernel) (by decide +kernel)), rfl⟩
theorem lV_Mo_233 : px_yV R_Mo 233 6 y_Mo_isLive c_Mo_isLive 2 (some .boolean) 1 := ⟨⟨⟨(px_w 1452 (by decide +kernel) (by decide +kernel)), (px_w 110 (by decide +kernel) (by decide +kernel)), (px_w 1455 (by decide +kernel) (by decide +kernel))⟩, by decide +kernel, by decide +kernel, by decide +kernel⟩, (px_w 1454 (by decide +kernel) (by decide +kernel)), (px_w 79 (by decide +kernel) (by decide +kernel)), rfl⟩
theorem lV_Mo_236 : px_yV R_Mo 236 6 y_Mo_state_ c_Mo_state_ 3 none 2 := ⟨⟨⟨(px_w 1412 (by decide +kernel) (by decide +kernel)), (px_w 110 (by decide +kernel) (by decide +kernel)), (px_w 1415 (by decide +kernel) (by decide +kernel))⟩, by decide +kernel, by decide +kernel, by decide +kernel⟩, (px_w 1414 (by decide +kernel) (by decide +kernel)), (px_w 69 (by decide +kernel) (by decide +kernel)), rfl⟩
theorem lV_Mo_238 : px_yV R_Mo 238 6 y_Mo_goesOut c_Mo_goesOut 6 none 2 := ⟨⟨⟨(px_w 1436 (by decide +kernel) (by decide +kernel)), (px_w 110 (by decide +kernel) (by decide +kernel)), (px_w 1439 (by decide +kernel) (by decide +kernel))⟩, by decide +kernel, by decide +kernel, by decide +kernel⟩, (px_w 1438 (by decide +kernel) (by decide +kernel)), (px_w 75 (by decide +kernel) (by decide +kernel)), rfl⟩
theorem lV_Mo_241 : px_yV R_Mo 241 6 y_Mo_latestOf c_Mo_latestOf 4 (some .int) 1 := ⟨⟨⟨(px_w 1448 (by decide +kernel) (by decide +kernel)), (px_w 110 (by decide +kernel) (by decide +kernel)), (px_w 1451 (by decide +kernel) (by decide +kernel))⟩, by decide +kernel, by decide +kernel, by decide +kernel⟩, (px_w 1450 (by decide +kernel) (by decide +kernel)), (px_w 78 (by decide +kernel) (by decide +kernel)), rfl⟩
theorem lV_Mo_244 : px_yV R_Mo 244 6 y_Mo_comesTo c_Mo_comesTo 3 none 2 := ⟨⟨⟨(px_w 1416 (by decide +kernel) (by decide +kernel)), (px_w 110 (by decide +kernel) (by decide +kernel)), (px_w 1419 (by decide +kernel) (by decide +kernel))⟩, by decide +kernel, by decide +kernel, by decide +kernel⟩, (px_w 1418 (by decide +kernel) (by decide +kernel)), (px_w 70 (by decide +kernel) (by decide +kernel)), rfl⟩
theorem lV_Mo_250 : px_yV R_Mo 250 6 y_Mo_hangOn c_Mo_hangOn 4 (some .int) 1 := ⟨⟨⟨(px_w 1440 (by decide +kernel) (by decide +kernel)), (px_w 110 (by decide +kernel) (by decide +kernel)), (px_w 1443 (by decide +kernel) (by decide +kernel))⟩, by decide +kernel, by decide +kernel, by decide +kernel⟩, (px_w 1442 (by decide +kernel) (by decide +kernel)), (px_w 76 (by decide +kernel) (by decide +kernel)), rfl⟩
theorem lV_Mo_253 : px_yV R_Mo 253 6 y_Mo_unwinds c_Mo_unwinds 4 none 2 := ⟨⟨⟨(px_w 1444 (by decide +kernel) (by decide +kernel)), (px_w 110 (by decide +kernel) (by decide +kernel)), (px_w 1447 (by decide +kernel) (by decide +kernel))⟩, by decide +kernel, by decide +kernel, by decide +kernel⟩, (px_w 1446 (by decide +kernel) (by decide +kernel)), (px_w 77 (by decide +kernel) (by decide +kernel)), rfl⟩
theorem lV_Mo_247 : px_yV R_Mo 247 6 y_Mo_waitsNow c_Mo_waitsNow 2 none 1 := ⟨⟨⟨(px_w 1408 (by decide +kernel) (by decide +kernel)), (px_w 110 (by decide +kernel) (by decide +kernel)), (px_w 1411 (by decide +kernel) (by decide +kernel))⟩, by decide +kernel, by decide +kernel, by decide +kernel⟩, (px_w 1410 (by decide +kernel) (by decide +kernel)), (px_w 68 (by decide +kernel) (by decide +kernel)), rfl⟩
theorem lV_Mo_256 : px_yV R_Mo 256 6 y_Mo_logs c_Mo_logs 5 none 2 := ⟨⟨⟨(px_w 1420 (by decide +kernel) (by decide +kernel)), (px_w 110 (by decide +kernel) (by decide +kernel)), (px_w 1423 (by decide +kernel) (by decide +kernel))⟩, by decide +kernel, by decide +kernel, by decide +kernel⟩, (px_w 1422 (by decide +kernel) (by decide +kernel)), (px_w 71 (by decide +kernel) (by decide +kernel)), rfl⟩
theorem lV_Mo_266 : px_yV R_Mo 266 6 y_Mo_isGood c_Mo_isGood 2 (some .boolean) 1 := ⟨⟨⟨(px_w 1456 (by decide +kernel) (by decide +kernel)), (px_w 110 (by decide +kernel) (by decide +kernel)), (px_w 1459 (by decide +kernel) (by decide +kernel))⟩, by decide +kernel, by decide +kernel, by decide +kernel⟩, (px_w 1458 (by decide +kernel) (by decide +kernel)), (px_w 80 (by decide +kernel) (by decide +kernel)), rfl⟩
theorem lV_Mo_269 : px_yV R_Mo 269 6 y_Mo_fails c_Mo_fails 2 none 1 := ⟨⟨⟨(px_w 1460 (by decide +kernel) (by decide +kernel)), (px_w 110 (by decide +kernel) (by decide +kernel)), (px_w 1463 (by decide +kernel) (by decide +kernel))⟩, by decide +kernel, by decide +kernel, by decide +kernel⟩, (px_w 1462 (by decide +kernel) (by decide +kernel)), (px_w 81 (by decide +kernel) (by decide +kernel)), rfl⟩
theorem lV_Mo_262 : px_yV R_Mo 262 6 y_Mo_asks c_Mo_asks 3 none 2 := ⟨⟨⟨(px_w 1432 (by decide +kernel) (by decide +kernel)), (px_w 110 (by decide +kernel) (by decide +kernel)), (px_w 1435 (by decide +kernel) (by decide +kernel))⟩, by decide +kernel, by decide +kernel, by decide +kernel⟩, (px_w 1434 (by decide +kernel) (by decide +kernel)), (px_w 74 (by decide +kernel) (by decide +kernel)), rfl⟩
theorem lV_Mo_259 : px_yV R_Mo 259 6 y_Mo_isThrough c_Mo_isThrough 3 (some .boolean) 1 := ⟨⟨⟨(px_w 1428 (by decide +kernel) (by decide +kernel)), (px_w 110 (by decide +kernel) (by decide +kernel)), (px_w 1431 (by decide +kernel) (by decide +kernel))⟩, by decide +kernel, by decide +kernel, by decide +kernel⟩, (px_w 1430 (by decide +kernel) (by decide +kernel)), (px_w 73 (by decide +kernel) (by decide +kernel)), rfl⟩
theorem lV_Mo_273 : px_yV R_Mo 273 6 y_Mo_whyNot c_Mo_whyNot 3 (some .int) 1 := ⟨⟨⟨(px_w 1468 (by decide +kernel) (by decide +kernel)), (px_w 110 (by decide +kernel) (by decide +kernel)), (px_w 1471 (by decide +kernel) (by decide +kernel))⟩, by decide +kernel, by decide +kernel, by decide +kernel⟩, (px_w 1470 (by decide +kernel) (by decide +kernel)), (px_w 83 (by decide +kernel) (by decide +kernel)), rfl⟩
theorem lf_Mo_78 : px_F R_Mo 78 6 35 := ⟨_, rfl, by decide, (px_w 1189 (by decide +kernel) (by decide +kernel))⟩
theorem lf_Mo_75 : px_F R_Mo 75 6 34 := ⟨_, rfl, by decide, (px_w 1188 (by decide +kernel) (by decide +kernel))⟩
theorem lV_Mo_276 : px_yV R_Mo 276 6 y_Mo_comeAgain c_Mo_comeAgain 2 none 0 := ⟨⟨⟨(px_w 1400 (by decide +kernel) (by decide +kernel)), (px_w 110 (by decide +kernel) (by decide +kernel)), (px_w 1403 (by decide +kernel) (by decide +kernel))⟩, by decide +kernel, by decide +kernel, by decide +kernel⟩, (px_w 1402 (by decide +kernel) (by decide +kernel)), (px_w 66 (by decide +kernel) (by decide +kernel)), rfl⟩
theorem lV_Mo_279 : px_yV R_Mo 279 6 y_Mo_sequenceGoes c_Mo_sequenceGoes 3 none 0 := ⟨⟨⟨(px_w 1424 (by decide +kernel) (by decide +kernel)), (px_w 110 (by decide +kernel) (by decide +kernel)), (px_w 1427 (by decide +kernel) (by decide +kernel))⟩, by decide +kernel, by decide +kernel, by decide +kernel⟩, (px_w 1426 (by decide +kernel) (by decide +kernel)), (px_w 72 (by decide +kernel) (by decide +kernel)), rfl⟩
theorem lV_Mo_282 : px_yV R_Mo 282 6 y_Mo_beginsToRise c_Mo_beginsToRise 4 none 0 := ⟨⟨⟨(px_w 1464 (by decide +kernel) (by decide +kernel)), (px_w 110 (by decide +kernel) (by decide +kernel)), (px_w 1467 (by decide +kernel) (by decide +kernel))⟩, by decide +kernel, by decide +kernel, by decide +kernel⟩, (px_w 1466 (by decide +kernel) (by decide +kernel)), (px_w 82 (by decide +kernel) (by decide +kernel)), rfl⟩
theorem lV_Mo_285 : px_yV R_Mo 285 6 y_Mo_voltsGo c_Mo_voltsGo 5 none 1 := ⟨⟨⟨(px_w 1472 (by decide +kernel) (by decide +kernel)), (px_w 110 (by decide +kernel) (by decide +kernel)), (px_w 1475 (by decide +kernel) (by decide +kernel))⟩, by decide +kernel, by decide +kernel, by decide +kernel⟩, (px_w 1474 (by decide +kernel) (by decide +kernel)), (px_w 84 (by decide +kernel) (by decide +kernel)), rfl⟩
theorem lV_Mo_288 : px_yV R_Mo 288 6 y_Mo_draws c_Mo_draws 5 none 0 := ⟨⟨⟨(px_w 1476 (by decide +kernel) (by decide +kernel)), (px_w 110 (by decide +kernel) (by decide +kernel)), (px_w 1479 (by decide +kernel) (by decide +kernel))⟩, by decide +kernel, by decide +kernel, by decide +kernel⟩, (px_w 1478 (by decide +kernel) (by decide +kernel)), (px_w 85 (by decide +kernel) (by decide +kernel)), rfl⟩
theorem lV_Mo_291 : px_yV R_Mo 291 6 y_Mo_trips c_Mo_trips 2 none 1 := ⟨⟨⟨(px_w 1480 (by decide +kernel) (by decide +kernel)), (px_w 110 (by decide +kernel) (by decide +kernel)), (px_w 1483 (by decide +kernel) (by decide +kernel))⟩, by decide +kernel, by decide +kernel, by decide +kernel⟩, (px_w 1482 (by decide +kernel) (by decide +kernel)), (px_w 86 (by decide +kernel) (by decide +kernel)), rfl⟩
theorem lV_Mo_294 : px_yV R_Mo 294 6 y_Mo_remembers c_Mo_remembers 2 none 0 := ⟨⟨⟨(px_w 1392 (by decide +kernel) (by decide +kernel)), (px_w 110 (by decide +kernel) (by decide +kernel)), (px_w 1395 (by decide +kernel) (by decide +kernel))⟩, by decide +kernel, by decide +kernel, by decide +kernel⟩, (px_w 1394 (by decide +kernel) (by decide +kernel)), (px_w 64 (by decide +kernel) (by decide +kernel)), rfl⟩
theorem lV_Mo_297 : px_yV R_Mo 297 6 y_Mo_tickGoes c_Mo_tickGoes 3 none 0 := ⟨⟨⟨(px_w 1396 (by decide +kernel) (by decide +kernel)), (px_w 110 (by decide +kernel) (by decide +kernel)), (px_w 1399 (by decide +kernel) (by decide +kernel))⟩, by decide +kernel, by decide +kernel, by decide +kernel⟩, (px_w 1398 (by decide +kernel) (by decide +kernel)), (px_w 65 (by decide +kernel) (by decide +kernel)), rfl⟩
theorem lV_Mo_300 : px_yV R_Mo 300 6 y_Mo_isRail c_Mo_isRail 2 (some .boolean) 1 := ⟨⟨⟨(px_w 1488 (by decide +kernel) (by decide +kernel)), (px_w 110 (by decide +kernel) (by decide +kernel)), (px_w 1491 (by decide +kernel) (by decide +kernel))⟩, by decide +kernel, by decide +kernel, by decide +kernel⟩, (px_w 1490 (by decide +kernel) (by decide +kernel)), (px_w 87 (by decide +kernel) (by decide +kernel)), rfl⟩
theorem lf_Mo_81 : px_F R_Mo 81 6 36 := ⟨_, rfl, by decide, (px_w 1190 (by decide +kernel) (by decide +kernel))⟩
theorem lw_Mo_303 : px_FW R_Mo 303 6 38 .int := ⟨_, rfl, by decide, (px_w 1192 (by decide +kernel) (by decide +kernel)), by decide, rfl⟩
theorem lV_Mo_306 : px_yV R_Mo 306 6 y_Mo_inRings c_Mo_inRings 3 (some .int) 0 := ⟨⟨⟨(px_w 1544 (by decide +kernel) (by decide +kernel)), (px_w 110 (by decide +kernel) (by decide +kernel)), (px_w 1547 (by decide +kernel) (by decide +kernel))⟩, by decide +kernel, by decide +kernel, by decide +kernel⟩, (px_w 1546 (by decide +kernel) (by decide +kernel)), (px_w 89 (by decide +kernel) (by decide +kernel)), rfl⟩
theorem lV_Mo_309 : px_yV R_Mo 309 6 y_Mo_laysSteps c_Mo_laysSteps 5 none 1 := ⟨⟨⟨(px_w 1548 (by decide +kernel) (by decide +kernel)), (px_w 110 (by decide +kernel) (by decide +kernel)), (px_w 1551 (by decide +kernel) (by decide +kernel))⟩, by decide +kernel, by decide +kernel, by decide +kernel⟩, (px_w 1550 (by decide +kernel) (by decide +kernel)), (px_w 90 (by decide +kernel) (by decide +kernel)), rfl⟩
theorem lf_Mo_84 : px_F R_Mo 84 6 37 := ⟨_, rfl, by decide, (px_w 1191 (by decide +kernel) (by decide +kernel))⟩
theorem lf_Mo_303 : px_F R_Mo 303 6 38 := ⟨_, rfl, by decide, (px_w 1192 (by decide +kernel) (by decide +kernel))⟩
theorem lV_Mo_312 : px_yV R_Mo 312 6 y_Mo_laysRing c_Mo_laysRing 5 none 0 := ⟨⟨⟨(px_w 1540 (by decide +kernel) (by decide +kernel)), (px_w 110 (by decide +kernel) (by decide +kernel)), (px_w 1543 (by decide +kernel) (by decide +kernel))⟩, by decide +kernel, by decide +kernel, by decide +kernel⟩, (px_w 1542 (by decide +kernel) (by decide +kernel)), (px_w 88 (by decide +kernel) (by decide +kernel)), rfl⟩
theorem lf_Mo_87 : px_F R_Mo 87 6 39 := ⟨_, rfl, by decide, (px_w 1193 (by decide +kernel) (by decide +kernel))⟩
theorem lc_Mo_315 : Cond.constant R_Mo 315 (268435456) ∈ pxW := (px_w 1564 (by decide +kernel) (by decide +kernel))
theorem lV_Mo_316 : px_yV R_Mo 316 6 y_Mo_mayCome c_Mo_mayCome 3 (some .boolean) 2 := ⟨⟨⟨(px_w 1565 (by decide +kernel) (by decide +kernel)), (px_w 110 (by decide +kernel) (by decide +kernel)), (px_w 1568 (by decide +kernel) (by decide +kernel))⟩, by decide +kernel, by decide +kernel, by decide +kernel⟩, (px_w 1567 (by decide +kernel) (by decide +kernel)), (px_w 92 (by decide +kernel) (by decide +kernel)), rfl⟩
theorem lV_Mo_320 : px_yV R_Mo 320 6 y_Mo_heatAt c_Mo_heatAt 5 (some .int) 2 := ⟨⟨⟨(px_w 1569 (by decide +kernel) (by decide +kernel)), (px_w 110 (by decide +kernel) (by decide +kernel)), (px_w 1572 (by decide +kernel) (by decide +kernel))⟩, by decide +kernel, by decide +kernel, by decide +kernel⟩, (px_w 1571 (by decide +kernel) (by decide +kernel)), (px_w 93 (by decide +kernel) (by decide +kernel)), rfl⟩
theorem lS_Mo_323 : px_yS R_Mo 323 y_Mo_greater c_Mo_greater 2 (some .int) 2 := ⟨⟨⟨(px_w 1573 (by decide +kernel) (by decide +kernel)), (px_w 110 (by decide +kernel) (by decide +kernel)), (px_w 1575 (by decide +kernel) (by decide +kernel))⟩, by decide +kernel, by decide +kernel, by decide +kernel⟩, (px_w 1574 (by decide +kernel) (by decide +kernel))⟩
theorem lV_Mo_326 : px_yV R_Mo 326 6 y_Mo_laysHeat c_Mo_laysHeat 6 none 0 := ⟨⟨⟨(px_w 1560 (by decide +kernel) (by decide +kernel)), (px_w 110 (by decide +kernel) (by decide +kernel)), (px_w 1563 (by decide +kernel) (by decide +kernel))⟩, by decide +kernel, by decide +kernel, by decide +kernel⟩, (px_w 1562 (by decide +kernel) (by decide +kernel)), (px_w 91 (by decide +kernel) (by decide +kernel)), rfl⟩
theorem lS_Mo_329 : px_yS R_Mo 329 y_Mo_isFar c_Mo_isFar 1 (some .boolean) 1 := ⟨⟨⟨(px_w 1584 (by decide +kernel) (by decide +kernel)), (px_w 110 (by decide +kernel) (by decide +kernel)), (px_w 1586 (by decide +kernel) (by decide +kernel))⟩, by decide +kernel, by decide +kernel, by decide +kernel⟩, (px_w 1585 (by decide +kernel) (by decide +kernel))⟩
theorem lf_Mo_66 : px_F R_Mo 66 6 29 := ⟨_, rfl, by decide, (px_w 1183 (by decide +kernel) (by decide +kernel))⟩
theorem lV_Mo_332 : px_yV R_Mo 332 6 y_Mo_isQuiet c_Mo_isQuiet 3 (some .boolean) 0 := ⟨⟨⟨(px_w 1595 (by decide +kernel) (by decide +kernel)), (px_w 110 (by decide +kernel) (by decide +kernel)), (px_w 1598 (by decide +kernel) (by decide +kernel))⟩, by decide +kernel, by decide +kernel, by decide +kernel⟩, (px_w 1597 (by decide +kernel) (by decide +kernel)), (px_w 94 (by decide +kernel) (by decide +kernel)), rfl⟩
theorem lf_Mo_336 : px_F R_Mo 336 6 40 := ⟨_, rfl, by decide, (px_w 1194 (by decide +kernel) (by decide +kernel))⟩
theorem lc_Mo_339 : Cond.constant R_Mo 339 (1103515245) ∈ pxW := (px_w 1627 (by decide +kernel) (by decide +kernel))
theorem lc_Mo_340 : Cond.constant R_Mo 340 (2147483647) ∈ pxW := (px_w 1628 (by decide +kernel) (by decide +kernel))
theorem lw_Mo_336 : px_FW R_Mo 336 6 40 .int := ⟨_, rfl, by decide, (px_w 1194 (by decide +kernel) (by decide +kernel)), by decide, rfl⟩
theorem lV_Mo_341 : px_yV R_Mo 341 6 y_Mo_tripsAll c_Mo_tripsAll 3 (some .int) 0 := ⟨⟨⟨(px_w 1619 (by decide +kernel) (by decide +kernel)), (px_w 110 (by decide +kernel) (by decide +kernel)), (px_w 1622 (by decide +kernel) (by decide +kernel))⟩, by decide +kernel, by decide +kernel, by decide +kernel⟩, (px_w 1621 (by decide +kernel) (by decide +kernel)), (px_w 95 (by decide +kernel) (by decide +kernel)), rfl⟩
theorem lV_Mo_344 : px_yV R_Mo 344 6 y_Mo_draw c_Mo_draw 2 (some .int) 1 := ⟨⟨⟨(px_w 1623 (by decide +kernel) (by decide +kernel)), (px_w 110 (by decide +kernel) (by decide +kernel)), (px_w 1626 (by decide +kernel) (by decide +kernel))⟩, by decide +kernel, by decide +kernel, by decide +kernel⟩, (px_w 1625 (by decide +kernel) (by decide +kernel)), (px_w 96 (by decide +kernel) (by decide +kernel)), rfl⟩
theorem lV_Mo_347 : px_yV R_Mo 347 6 y_Mo_good c_Mo_good 3 (some .int) 0 := ⟨⟨⟨(px_w 1629 (by decide +kernel) (by decide +kernel)), (px_w 110 (by decide +kernel) (by decide +kernel)), (px_w 1632 (by decide +kernel) (by decide +kernel))⟩, by decide +kernel, by decide +kernel, by decide +kernel⟩, (px_w 1631 (by decide +kernel) (by decide +kernel)), (px_w 97 (by decide +kernel) (by decide +kernel)), rfl⟩
theorem lV_Mo_350 : px_yV R_Mo 350 6 y_Mo_goodMany c_Mo_goodMany 3 (some .int) 0 := ⟨⟨⟨(px_w 1637 (by decide +kernel) (by decide +kernel)), (px_w 110 (by decide +kernel) (by decide +kernel)), (px_w 1640 (by decide +kernel) (by decide +kernel))⟩, by decide +kernel, by decide +kernel, by decide +kernel⟩, (px_w 1639 (by decide +kernel) (by decide +kernel)), (px_w 98 (by decide +kernel) (by decide +kernel)), rfl⟩
end
section
/-! the methods, decoded (laid by wip/whole/gen.py) -/
def tb_Ra_start : List (Nat × Instr × Nat) := [(0, .aload_n 0, 1), (1, .iload_n 1, 1), (2, .putfield 9, 3), (5, .aload_n 0, 1), (6, .iload_n 2, 1), (7, .putfield 15, 3), (10, .aload_n 0, 1), (11, .iconst 0, 1), (12, .putfield 18, 3), (15, .aload_n 0, 1), (16, .iconst 0, 1), (17, .putfield 21, 3), (20, .aload_n 0, 1), (21, .iconst 0, 1), (22, .putfield 24, 3), (25, .aload_n 0, 1), (26, .iconst 0, 1), (27, .putfield 27, 3), (30, .aload_n 0, 1), (31, .iconst 0, 1), (32, .putfield 30, 3), (35, .aload_n 0, 1), (36, .iconst 0, 1), (37, .putfield 34, 3), (40, .aload_n 0, 1), (41, .bipush (-2), 2), (43, .putfield 37, 3), (46, .aload_n 0, 1), (47, .iconst 0, 1), (48, .putfield 40, 3), (51, .aload_n 0, 1), (52, .iconst 0, 1), (53, .putfield 43, 3), (56, .aload_n 0, 1), (57, .bipush (-2), 2), (59, .putfield 46, 3), (62, .aload_n 0, 1), (63, .iconst 0, 1), (64, .putfield 49, 3), (67, .return_, 1)]
set_option maxRecDepth 100000 in
theorem td_Ra_start : ∀ q ∈ tb_Ra_start, decode c_Ra_start q.1 = .ok q.2 := by decide +kernel
def tb_Qu_forget : List (Nat × Instr × Nat) := [(0, .aload_n 0, 1), (1, .iconst 0, 1), (2, .putfield 15, 3), (5, .aload_n 0, 1), (6, .iconst 0, 1), (7, .putfield 19, 3), (10, .return_, 1)]
set_option maxRecDepth 100000 in
theorem td_Qu_forget : ∀ q ∈ tb_Qu_forget, decode c_Qu_forget q.1 = .ok q.2 := by decide +kernel
def tb_Bo_start : List (Nat × Instr × Nat) := [(0, .aload_n 0, 1), (1, .aload_n 1, 1), (2, .putfield 31, 3), (5, .iconst 0, 1), (6, .istore_n 2, 1), (7, .iload_n 2, 1), (8, .bipush 12, 2), (10, .if_icmp .ge 36, 3), (13, .aload_n 0, 1), (14, .getfield 11, 3), (17, .iload_n 2, 1), (18, .aaload, 1), (19, .aload_n 0, 1), (20, .getfield 31, 3), (23, .getfield 36, 3), (26, .iload_n 2, 1), (27, .iaload, 1), (28, .aload_n 0, 1), (29, .getfield 31, 3), (32, .getfield 41, 3), (35, .iload_n 2, 1), (36, .iaload, 1), (37, .invokevirtual 44, 3), (40, .iinc 2 1, 3), (43, .goto (-36), 3), (46, .aload_n 0, 1), (47, .getfield 20, 3), (50, .invokevirtual 48, 3), (53, .aload_n 0, 1), (54, .getfield 24, 3), (57, .invokevirtual 48, 3), (60, .aload_n 0, 1), (61, .iconst 0, 1), (62, .putfield 51, 3), (65, .aload_n 0, 1), (66, .iconst 0, 1), (67, .putfield 55, 3), (70, .aload_n 0, 1), (71, .iconst 0, 1), (72, .putfield 58, 3), (75, .aload_n 0, 1), (76, .iconst 0, 1), (77, .putfield 61, 3), (80, .aload_n 0, 1), (81, .iconst 0, 1), (82, .putfield 64, 3), (85, .aload_n 0, 1), (86, .iconst 0, 1), (87, .putfield 67, 3), (90, .return_, 1)]
set_option maxRecDepth 100000 in
theorem td_Bo_start : ∀ q ∈ tb_Bo_start, decode c_Bo_start q.1 = .ok q.2 := by decide +kernel
def tb_Ra_copyFrom : List (Nat × Instr × Nat) := [(0, .aload_n 0, 1), (1, .aload_n 1, 1), (2, .getfield 9, 3), (5, .putfield 9, 3), (8, .aload_n 0, 1), (9, .aload_n 1, 1), (10, .getfield 15, 3), (13, .putfield 15, 3), (16, .aload_n 0, 1), (17, .aload_n 1, 1), (18, .getfield 18, 3), (21, .putfield 18, 3), (24, .aload_n 0, 1), (25, .aload_n 1, 1), (26, .getfield 21, 3), (29, .putfield 21, 3), (32, .aload_n 0, 1), (33, .aload_n 1, 1), (34, .getfield 24, 3), (37, .putfield 24, 3), (40, .aload_n 0, 1), (41, .aload_n 1, 1), (42, .getfield 27, 3), (45, .putfield 27, 3), (48, .aload_n 0, 1), (49, .aload_n 1, 1), (50, .getfield 30, 3), (53, .putfield 30, 3), (56, .aload_n 0, 1), (57, .aload_n 1, 1), (58, .getfield 34, 3), (61, .putfield 34, 3), (64, .aload_n 0, 1), (65, .aload_n 1, 1), (66, .getfield 37, 3), (69, .putfield 37, 3), (72, .aload_n 0, 1), (73, .aload_n 1, 1), (74, .getfield 40, 3), (77, .putfield 40, 3), (80, .aload_n 0, 1), (81, .aload_n 1, 1), (82, .getfield 43, 3), (85, .putfield 43, 3), (88, .aload_n 0, 1), (89, .aload_n 1, 1), (90, .getfield 46, 3), (93, .putfield 46, 3), (96, .aload_n 0, 1), (97, .aload_n 1, 1), (98, .getfield 49, 3), (101, .putfield 49, 3), (104, .return_, 1)]
set_option maxRecDepth 100000 in
theorem td_Ra_copyFrom : ∀ q ∈ tb_Ra_copyFrom, decode c_Ra_copyFrom q.1 = .ok q.2 := by decide +kernel
def tb_Qu_copyFrom : List (Nat × Instr × Nat) := [(0, .aload_n 0, 1), (1, .aload_n 1, 1), (2, .getfield 15, 3), (5, .putfield 15, 3), (8, .aload_n 0, 1), (9, .aload_n 1, 1), (10, .getfield 19, 3), (13, .putfield 19, 3), (16, .aload_n 1, 1), (17, .getfield 9, 3), (20, .iconst 0, 1), (21, .aload_n 0, 1), (22, .getfield 9, 3), (25, .iconst 0, 1), (26, .bipush 12, 2), (28, .invokestatic 22, 3), (31, .return_, 1)]
set_option maxRecDepth 100000 in
theorem td_Qu_copyFrom : ∀ q ∈ tb_Qu_copyFrom, decode c_Qu_copyFrom q.1 = .ok q.2 := by decide +kernel
def tb_Bo_copyFrom : List (Nat × Instr × Nat) := [(0, .aload_n 0, 1), (1, .aload_n 1, 1), (2, .getfield 31, 3), (5, .putfield 31, 3), (8, .iconst 0, 1), (9, .istore_n 2, 1), (10, .iload_n 2, 1), (11, .aload_n 0, 1), (12, .getfield 31, 3), (15, .getfield 70, 3), (18, .if_icmp .ge 24, 3), (21, .aload_n 0, 1), (22, .getfield 11, 3), (25, .iload_n 2, 1), (26, .aaload, 1), (27, .aload_n 1, 1), (28, .getfield 11, 3), (31, .iload_n 2, 1), (32, .aaload, 1), (33, .invokevirtual 72, 3), (36, .iinc 2 1, 3), (39, .goto (-29), 3), (42, .aload_n 0, 1), (43, .getfield 20, 3), (46, .aload_n 1, 1), (47, .getfield 20, 3), (50, .invokevirtual 76, 3), (53, .aload_n 0, 1), (54, .getfield 24, 3), (57, .aload_n 1, 1), (58, .getfield 24, 3), (61, .invokevirtual 76, 3), (64, .aload_n 1, 1), (65, .getfield 27, 3), (68, .iconst 0, 1), (69, .aload_n 0, 1), (70, .getfield 27, 3), (73, .iconst 0, 1), (74, .bipush 40, 2), (76, .invokestatic 79, 3), (79, .aload_n 0, 1), (80, .aload_n 1, 1), (81, .getfield 51, 3), (84, .putfield 51, 3), (87, .aload_n 0, 1), (88, .aload_n 1, 1), (89, .getfield 55, 3), (92, .putfield 55, 3), (95, .aload_n 0, 1), (96, .aload_n 1, 1), (97, .getfield 58, 3), (100, .putfield 58, 3), (103, .aload_n 0, 1), (104, .aload_n 1, 1), (105, .getfield 61, 3), (108, .putfield 61, 3), (111, .aload_n 0, 1), (112, .aload_n 1, 1), (113, .getfield 64, 3), (116, .putfield 64, 3), (119, .aload_n 0, 1), (120, .aload_n 1, 1), (121, .getfield 67, 3), (124, .putfield 67, 3), (127, .return_, 1)]
set_option maxRecDepth 100000 in
theorem td_Bo_copyFrom : ∀ q ∈ tb_Bo_copyFrom, decode c_Bo_copyFrom q.1 = .ok q.2 := by decide +kernel
def tb_Bo_isGood : List (Nat × Instr × Nat) := [(0, .aload_n 0, 1), (1, .getfield 11, 3), (4, .iload_n 1, 1), (5, .aaload, 1), (6, .getfield 85, 3), (9, .iconst 3, 1), (10, .if_icmp .ne 41, 3), (13, .aload_n 0, 1), (14, .getfield 11, 3), (17, .iload_n 1, 1), (18, .aaload, 1), (19, .getfield 88, 3), (22, .bipush 100, 2), (24, .imul, 1), (25, .aload_n 0, 1), (26, .getfield 31, 3), (29, .getfield 91, 3), (32, .iload_n 1, 1), (33, .iaload, 1), (34, .aload_n 0, 1), (35, .getfield 31, 3), (38, .getfield 94, 3), (41, .iconst 2, 1), (42, .iaload, 1), (43, .imul, 1), (44, .if_icmp .lt 7, 3), (47, .iconst 1, 1), (48, .goto 4, 3), (51, .iconst 0, 1), (52, .ireturn, 1)]
set_option maxRecDepth 100000 in
theorem td_Bo_isGood : ∀ q ∈ tb_Bo_isGood, decode c_Bo_isGood q.1 = .ok q.2 := by decide +kernel
def tb_Bo_isOn : List (Nat × Instr × Nat) := [(0, .aload_n 0, 1), (1, .getfield 11, 3), (4, .iload_n 1, 1), (5, .aaload, 1), (6, .getfield 85, 3), (9, .iconst 2, 1), (10, .if_icmp .eq 16, 3), (13, .aload_n 0, 1), (14, .getfield 11, 3), (17, .iload_n 1, 1), (18, .aaload, 1), (19, .getfield 85, 3), (22, .iconst 3, 1), (23, .if_icmp .ne 7, 3), (26, .iconst 1, 1), (27, .goto 4, 3), (30, .iconst 0, 1), (31, .ireturn, 1)]
set_option maxRecDepth 100000 in
theorem td_Bo_isOn : ∀ q ∈ tb_Bo_isOn, decode c_Bo_isOn q.1 = .ok q.2 := by decide +kernel
def tb_Bo_goodRails : List (Nat × Instr × Nat) := [(0, .iconst 0, 1), (1, .istore_n 1, 1), (2, .iconst 0, 1), (3, .istore_n 2, 1), (4, .iload_n 2, 1), (5, .aload_n 0, 1), (6, .getfield 31, 3), (9, .getfield 70, 3), (12, .if_icmp .ge 23, 3), (15, .aload_n 0, 1), (16, .iload_n 2, 1), (17, .invokevirtual 97, 3), (20, .ifCond .eq 9, 3), (23, .iload_n 1, 1), (24, .iconst 1, 1), (25, .iload_n 2, 1), (26, .ishl, 1), (27, .ior, 1), (28, .istore_n 1, 1), (29, .iinc 2 1, 3), (32, .goto (-28), 3), (35, .iload_n 1, 1), (36, .ireturn, 1)]
set_option maxRecDepth 100000 in
theorem td_Bo_goodRails : ∀ q ∈ tb_Bo_goodRails, decode c_Bo_goodRails q.1 = .ok q.2 := by decide +kernel
def tb_Bo_allTrips : List (Nat × Instr × Nat) := [(0, .iconst 0, 1), (1, .istore_n 1, 1), (2, .iconst 0, 1), (3, .istore_n 2, 1), (4, .iload_n 2, 1), (5, .aload_n 0, 1), (6, .getfield 31, 3), (9, .getfield 70, 3), (12, .if_icmp .ge 21, 3), (15, .iload_n 1, 1), (16, .aload_n 0, 1), (17, .getfield 11, 3), (20, .iload_n 2, 1), (21, .aaload, 1), (22, .getfield 101, 3), (25, .iadd, 1), (26, .istore_n 1, 1), (27, .iinc 2 1, 3), (30, .goto (-26), 3), (33, .iload_n 1, 1), (34, .ireturn, 1)]
set_option maxRecDepth 100000 in
theorem td_Bo_allTrips : ∀ q ∈ tb_Bo_allTrips, decode c_Bo_allTrips q.1 = .ok q.2 := by decide +kernel
def tb_Bo_heldBy : List (Nat × Instr × Nat) := [(0, .aload_n 0, 1), (1, .getfield 31, 3), (4, .getfield 104, 3), (7, .iload_n 1, 1), (8, .iaload, 1), (9, .ifCond .lt 21, 3), (12, .iload_n 2, 1), (13, .aload_n 0, 1), (14, .getfield 31, 3), (17, .getfield 104, 3), (20, .iload_n 1, 1), (21, .iaload, 1), (22, .ishr, 1), (23, .iconst 1, 1), (24, .iand, 1), (25, .ifCond .ne 5, 3), (28, .iconst 1, 1), (29, .ireturn, 1), (30, .aload_n 0, 1), (31, .getfield 31, 3), (34, .getfield 107, 3), (37, .iload_n 1, 1), (38, .iaload, 1), (39, .iload_n 2, 1), (40, .iconst (-1), 1), (41, .ixor, 1), (42, .iand, 1), (43, .ifCond .eq 7, 3), (46, .iconst 2, 1), (47, .goto 4, 3), (50, .iconst 0, 1), (51, .ireturn, 1)]
set_option maxRecDepth 100000 in
theorem td_Bo_heldBy : ∀ q ∈ tb_Bo_heldBy, decode c_Bo_heldBy q.1 = .ok q.2 := by decide +kernel
def tb_Bo_isQuiet : List (Nat × Instr × Nat) := [(0, .aload_n 0, 1), (1, .getfield 20, 3), (4, .getfield 110, 3), (7, .ifCond .gt 21, 3), (10, .aload_n 0, 1), (11, .getfield 24, 3), (14, .getfield 110, 3), (17, .ifCond .gt 11, 3), (20, .aload_n 0, 1), (21, .getfield 58, 3), (24, .iconst 1, 1), (25, .if_icmp .ne 5, 3), (28, .iconst 0, 1), (29, .ireturn, 1), (30, .iconst 0, 1), (31, .istore_n 1, 1), (32, .iload_n 1, 1), (33, .aload_n 0, 1), (34, .getfield 31, 3), (37, .getfield 70, 3), (40, .if_icmp .ge 66, 3), (43, .aload_n 0, 1), (44, .getfield 11, 3), (47, .iload_n 1, 1), (48, .aaload, 1), (49, .astore_n 2, 1), (50, .aload_n 2, 1), (51, .getfield 85, 3), (54, .ifCond .eq 27, 3), (57, .aload_n 2, 1), (58, .getfield 85, 3), (61, .iconst 3, 1), (62, .if_icmp .ne 23, 3), (65, .aload_n 2, 1), (66, .getfield 88, 3), (69, .aload_n 0, 1), (70, .getfield 31, 3), (73, .getfield 91, 3), (76, .iload_n 1, 1), (77, .iaload, 1), (78, .if_icmp .lt 7, 3), (81, .iconst 1, 1), (82, .goto 4, 3), (85, .iconst 0, 1), (86, .istore_n 3, 1), (87, .iload_n 3, 1), (88, .ifCond .eq 10, 3), (91, .aload_n 2, 1), (92, .getfield 113, 3), (95, .ifCond .lt 5, 3), (98, .iconst 0, 1), (99, .ireturn, 1), (100, .iinc 1 1, 3), (103, .goto (-71), 3), (106, .iconst 1, 1), (107, .ireturn, 1)]
set_option maxRecDepth 100000 in
theorem td_Bo_isQuiet : ∀ q ∈ tb_Bo_isQuiet, decode c_Bo_isQuiet q.1 = .ok q.2 := by decide +kernel
def tb_Bo_logKept : List (Nat × Instr × Nat) := [(0, .aload_n 0, 1), (1, .getfield 67, 3), (4, .bipush 40, 2), (6, .invokestatic 116, 3), (9, .ireturn, 1)]
set_option maxRecDepth 100000 in
theorem td_Bo_logKept : ∀ q ∈ tb_Bo_logKept, decode c_Bo_logKept q.1 = .ok q.2 := by decide +kernel
def tb_Ma_floorMod : List (Nat × Instr × Nat) := [(0, .iload_n 0, 1), (1, .iload_n 1, 1), (2, .irem, 1), (3, .istore_n 2, 1), (4, .iload_n 0, 1), (5, .iload_n 1, 1), (6, .ixor, 1), (7, .ifCond .ge 11, 3), (10, .iload_n 2, 1), (11, .ifCond .eq 7, 3), (14, .iload_n 2, 1), (15, .iload_n 1, 1), (16, .iadd, 1), (17, .ireturn, 1), (18, .iload_n 2, 1), (19, .ireturn, 1)]
set_option maxRecDepth 100000 in
theorem td_Ma_floorMod : ∀ q ∈ tb_Ma_floorMod, decode c_Ma_floorMod q.1 = .ok q.2 := by decide +kernel
def tb_Bo_logEntry : List (Nat × Instr × Nat) := [(0, .aload_n 0, 1), (1, .getfield 27, 3), (4, .aload_n 0, 1), (5, .getfield 67, 3), (8, .iconst 1, 1), (9, .isub, 1), (10, .iload_n 1, 1), (11, .isub, 1), (12, .bipush 40, 2), (14, .invokestatic 122, 3), (17, .iaload, 1), (18, .ireturn, 1)]
set_option maxRecDepth 100000 in
theorem td_Bo_logEntry : ∀ q ∈ tb_Bo_logEntry, decode c_Bo_logEntry q.1 = .ok q.2 := by decide +kernel
def tb_Bo_write : List (Nat × Instr × Nat) := [(0, .aload_n 0, 1), (1, .getfield 27, 3), (4, .aload_n 0, 1), (5, .getfield 67, 3), (8, .bipush 40, 2), (10, .invokestatic 122, 3), (13, .aload_n 0, 1), (14, .getfield 51, 3), (17, .bipush 7, 2), (19, .ishl, 1), (20, .iload_n 1, 1), (21, .bipush (-2), 2), (23, .isub, 1), (24, .iconst 3, 1), (25, .ishl, 1), (26, .ior, 1), (27, .iload_n 2, 1), (28, .ior, 1), (29, .iastore, 1), (30, .aload_n 0, 1), (31, .dup, 1), (32, .getfield 67, 3), (35, .iconst 1, 1), (36, .iadd, 1), (37, .putfield 67, 3), (40, .return_, 1)]
set_option maxRecDepth 100000 in
theorem td_Bo_write : ∀ q ∈ tb_Bo_write, decode c_Bo_write q.1 = .ok q.2 := by decide +kernel
def tb_Qu_drop : List (Nat × Instr × Nat) := [(0, .iconst 0, 1), (1, .istore_n 2, 1), (2, .iconst 0, 1), (3, .istore_n 3, 1), (4, .iload_n 3, 1), (5, .aload_n 0, 1), (6, .getfield 15, 3), (9, .if_icmp .ge 40, 3), (12, .iload_n 3, 1), (13, .bipush 12, 2), (15, .if_icmp .ge 34, 3), (18, .aload_n 0, 1), (19, .getfield 9, 3), (22, .iload_n 3, 1), (23, .iaload, 1), (24, .iload_n 1, 1), (25, .if_icmp .eq 18, 3), (28, .aload_n 0, 1), (29, .getfield 9, 3), (32, .iload_n 2, 1), (33, .aload_n 0, 1), (34, .getfield 9, 3), (37, .iload_n 3, 1), (38, .iaload, 1), (39, .iastore, 1), (40, .iinc 2 1, 3), (43, .iinc 3 1, 3), (46, .goto (-42), 3), (49, .aload_n 0, 1), (50, .iload_n 2, 1), (51, .putfield 15, 3), (54, .aload_n 0, 1), (55, .dup, 1), (56, .getfield 19, 3), (59, .iconst 1, 1), (60, .iload_n 1, 1), (61, .ishl, 1), (62, .iconst (-1), 1), (63, .ixor, 1), (64, .iand, 1), (65, .putfield 19, 3), (68, .return_, 1)]
set_option maxRecDepth 100000 in
theorem td_Qu_drop : ∀ q ∈ tb_Qu_drop, decode c_Qu_drop q.1 = .ok q.2 := by decide +kernel
def tb_Bo_latestToGo : List (Nat × Instr × Nat) := [(0, .iload_n 1, 1), (1, .aload_n 0, 1), (2, .getfield 24, 3), (5, .getfield 155, 3), (8, .iconst (-1), 1), (9, .ixor, 1), (10, .iand, 1), (11, .istore_n 2, 1), (12, .iconst (-1), 1), (13, .istore_n 3, 1), (14, .iconst 0, 1), (15, .istore 4, 2), (17, .iload 4, 2), (19, .aload_n 0, 1), (20, .getfield 31, 3), (23, .getfield 70, 3), (26, .if_icmp .ge 83, 3), (29, .aload_n 0, 1), (30, .getfield 11, 3), (33, .iload 4, 2), (35, .aaload, 1), (36, .getfield 85, 3), (39, .istore 5, 2), (41, .iload_n 2, 1), (42, .iload 4, 2), (44, .ishr, 1), (45, .iconst 1, 1), (46, .iand, 1), (47, .ifCond .eq 19, 3), (50, .iload 5, 2), (52, .iconst 2, 1), (53, .if_icmp .eq 9, 3), (56, .iload 5, 2), (58, .iconst 3, 1), (59, .if_icmp .ne 7, 3), (62, .iconst 1, 1), (63, .goto 4, 3), (66, .iconst 0, 1), (67, .istore 6, 2), (69, .iload 6, 2), (71, .ifCond .eq 32, 3), (74, .iload_n 3, 1), (75, .ifCond .lt 25, 3), (78, .aload_n 0, 1), (79, .getfield 11, 3), (82, .iload 4, 2), (84, .aaload, 1), (85, .getfield 158, 3), (88, .aload_n 0, 1), (89, .getfield 11, 3), (92, .iload_n 3, 1), (93, .aaload, 1), (94, .getfield 158, 3), (97, .if_icmp .lt 6, 3), (100, .iload 4, 2), (102, .istore_n 3, 1), (103, .iinc 4 1, 3), (106, .goto (-89), 3), (109, .iload_n 3, 1), (110, .ireturn, 1)]
set_option maxRecDepth 100000 in
theorem td_Bo_latestToGo : ∀ q ∈ tb_Bo_latestToGo, decode c_Bo_latestToGo q.1 = .ok q.2 := by decide +kernel
def tb_Qu_add : List (Nat × Instr × Nat) := [(0, .aload_n 0, 1), (1, .getfield 15, 3), (4, .bipush 12, 2), (6, .if_icmp .ge 46, 3), (9, .aload_n 0, 1), (10, .getfield 19, 3), (13, .iload_n 1, 1), (14, .ishr, 1), (15, .iconst 1, 1), (16, .iand, 1), (17, .ifCond .ne 35, 3), (20, .aload_n 0, 1), (21, .getfield 9, 3), (24, .aload_n 0, 1), (25, .getfield 15, 3), (28, .iload_n 1, 1), (29, .iastore, 1), (30, .aload_n 0, 1), (31, .dup, 1), (32, .getfield 15, 3), (35, .iconst 1, 1), (36, .iadd, 1), (37, .putfield 15, 3), (40, .aload_n 0, 1), (41, .dup, 1), (42, .getfield 19, 3), (45, .iconst 1, 1), (46, .iload_n 1, 1), (47, .ishl, 1), (48, .ior, 1), (49, .putfield 19, 3), (52, .return_, 1)]
set_option maxRecDepth 100000 in
theorem td_Qu_add : ∀ q ∈ tb_Qu_add, decode c_Qu_add q.1 = .ok q.2 := by decide +kernel
def tb_Bo_unwind : List (Nat × Instr × Nat) := [(0, .iconst 0, 1), (1, .istore_n 2, 1), (2, .iload_n 2, 1), (3, .aload_n 0, 1), (4, .getfield 31, 3), (7, .getfield 70, 3), (10, .if_icmp .ge 48, 3), (13, .iload_n 1, 1), (14, .iload_n 2, 1), (15, .ishr, 1), (16, .iconst 1, 1), (17, .iand, 1), (18, .ifCond .eq 34, 3), (21, .aload_n 0, 1), (22, .getfield 11, 3), (25, .iload_n 2, 1), (26, .aaload, 1), (27, .getfield 85, 3), (30, .iconst 1, 1), (31, .if_icmp .ne 21, 3), (34, .aload_n 0, 1), (35, .getfield 11, 3), (38, .iload_n 2, 1), (39, .aaload, 1), (40, .iconst 0, 1), (41, .putfield 85, 3), (44, .aload_n 0, 1), (45, .getfield 20, 3), (48, .iload_n 2, 1), (49, .invokevirtual 136, 3), (52, .iinc 2 1, 3), (55, .goto (-53), 3), (58, .aload_n 0, 1), (59, .iload_n 1, 1), (60, .invokevirtual 151, 3), (63, .istore_n 2, 1), (64, .iconst 0, 1), (65, .istore_n 3, 1), (66, .iload_n 3, 1), (67, .bipush 12, 2), (69, .if_icmp .ge 37, 3), (72, .iload_n 2, 1), (73, .ifCond .lt 33, 3), (76, .aload_n 0, 1), (77, .getfield 24, 3), (80, .iload_n 2, 1), (81, .invokevirtual 148, 3), (84, .aload_n 0, 1), (85, .getfield 11, 3), (88, .iload_n 2, 1), (89, .aaload, 1), (90, .iconst 0, 1), (91, .putfield 128, 3), (94, .aload_n 0, 1), (95, .iload_n 1, 1), (96, .invokevirtual 151, 3), (99, .istore_n 2, 1), (100, .iinc 3 1, 3), (103, .goto (-37), 3), (106, .return_, 1)]
set_option maxRecDepth 100000 in
theorem td_Bo_unwind : ∀ q ∈ tb_Bo_unwind, decode c_Bo_unwind q.1 = .ok q.2 := by decide +kernel
def tb_Bo_waitIfOff : List (Nat × Instr × Nat) := [(0, .aload_n 0, 1), (1, .getfield 11, 3), (4, .iload_n 1, 1), (5, .aaload, 1), (6, .getfield 85, 3), (9, .ifCond .ne 21, 3), (12, .aload_n 0, 1), (13, .getfield 11, 3), (16, .iload_n 1, 1), (17, .aaload, 1), (18, .iconst 1, 1), (19, .putfield 85, 3), (22, .aload_n 0, 1), (23, .getfield 20, 3), (26, .iload_n 1, 1), (27, .invokevirtual 148, 3), (30, .return_, 1)]
set_option maxRecDepth 100000 in
theorem td_Bo_waitIfOff : ∀ q ∈ tb_Bo_waitIfOff, decode c_Bo_waitIfOff q.1 = .ok q.2 := by decide +kernel
def tb_Bo_askRail : List (Nat × Instr × Nat) := [(0, .aload_n 0, 1), (1, .getfield 11, 3), (4, .iload_n 1, 1), (5, .aaload, 1), (6, .astore_n 3, 1), (7, .aload_n 3, 1), (8, .bipush (-2), 2), (10, .putfield 113, 3), (13, .aload_n 3, 1), (14, .iconst 0, 1), (15, .putfield 125, 3), (18, .aload_n 3, 1), (19, .iconst 0, 1), (20, .putfield 128, 3), (23, .iload_n 2, 1), (24, .ifCond .ne 11, 3), (27, .aload_n 0, 1), (28, .iload_n 1, 1), (29, .invokevirtual 132, 3), (32, .goto 52, 3), (35, .aload_n 3, 1), (36, .getfield 85, 3), (39, .iconst 1, 1), (40, .if_icmp .ne 19, 3), (43, .aload_n 3, 1), (44, .iconst 0, 1), (45, .putfield 85, 3), (48, .aload_n 0, 1), (49, .getfield 20, 3), (52, .iload_n 1, 1), (53, .invokevirtual 136, 3), (56, .goto 28, 3), (59, .aload_n 0, 1), (60, .iload_n 1, 1), (61, .invokevirtual 139, 3), (64, .ifCond .eq 20, 3), (67, .aload_n 0, 1), (68, .iconst 1, 1), (69, .iload_n 1, 1), (70, .ishl, 1), (71, .aload_n 0, 1), (72, .getfield 31, 3), (75, .getfield 142, 3), (78, .iload_n 1, 1), (79, .iaload, 1), (80, .ior, 1), (81, .invokevirtual 145, 3), (84, .return_, 1)]
set_option maxRecDepth 100000 in
theorem td_Bo_askRail : ∀ q ∈ tb_Bo_askRail, decode c_Bo_askRail q.1 = .ok q.2 := by decide +kernel
def tb_Bo_failSequence : List (Nat × Instr × Nat) := [(0, .aload_n 0, 1), (1, .iconst 3, 1), (2, .putfield 58, 3), (5, .aload_n 0, 1), (6, .bipush (-2), 2), (8, .iconst 5, 1), (9, .invokevirtual 161, 3), (12, .return_, 1)]
set_option maxRecDepth 100000 in
theorem td_Bo_failSequence : ∀ q ∈ tb_Bo_failSequence, decode c_Bo_failSequence q.1 = .ok q.2 := by decide +kernel
def tb_Bo_trip : List (Nat × Instr × Nat) := [(0, .aload_n 0, 1), (1, .getfield 11, 3), (4, .iload_n 1, 1), (5, .aaload, 1), (6, .dup, 1), (7, .getfield 101, 3), (10, .iconst 1, 1), (11, .iadd, 1), (12, .putfield 101, 3), (15, .aload_n 0, 1), (16, .iload_n 1, 1), (17, .iconst 2, 1), (18, .invokevirtual 161, 3), (21, .aload_n 0, 1), (22, .iconst 1, 1), (23, .iload_n 1, 1), (24, .ishl, 1), (25, .aload_n 0, 1), (26, .getfield 31, 3), (29, .getfield 142, 3), (32, .iload_n 1, 1), (33, .iaload, 1), (34, .ior, 1), (35, .invokevirtual 145, 3), (38, .aload_n 0, 1), (39, .getfield 11, 3), (42, .iload_n 1, 1), (43, .aaload, 1), (44, .iconst 1, 1), (45, .putfield 128, 3), (48, .aload_n 0, 1), (49, .getfield 58, 3), (52, .iconst 1, 1), (53, .if_icmp .ne 7, 3), (56, .aload_n 0, 1), (57, .invokevirtual 164, 3), (60, .return_, 1)]
set_option maxRecDepth 100000 in
theorem td_Bo_trip : ∀ q ∈ tb_Bo_trip, decode c_Bo_trip q.1 = .ok q.2 := by decide +kernel
def tb_Bo_runFromFirst : List (Nat × Instr × Nat) := [(0, .aload_n 0, 1), (1, .iconst 1, 1), (2, .putfield 58, 3), (5, .aload_n 0, 1), (6, .iconst 0, 1), (7, .putfield 61, 3), (10, .aload_n 0, 1), (11, .iconst 0, 1), (12, .putfield 64, 3), (15, .return_, 1)]
set_option maxRecDepth 100000 in
theorem td_Bo_runFromFirst : ∀ q ∈ tb_Bo_runFromFirst, decode c_Bo_runFromFirst q.1 = .ok q.2 := by decide +kernel
def tb_Bo_comeAgain : List (Nat × Instr × Nat) := [(0, .iconst 0, 1), (1, .istore_n 1, 1), (2, .iload_n 1, 1), (3, .aload_n 0, 1), (4, .getfield 31, 3), (7, .getfield 70, 3), (10, .if_icmp .ge 62, 3), (13, .aload_n 0, 1), (14, .getfield 11, 3), (17, .iload_n 1, 1), (18, .aaload, 1), (19, .astore_n 2, 1), (20, .aload_n 2, 1), (21, .getfield 113, 3), (24, .aload_n 0, 1), (25, .getfield 51, 3), (28, .if_icmp .ne 38, 3), (31, .aload_n 2, 1), (32, .bipush (-2), 2), (34, .putfield 113, 3), (37, .aload_n 2, 1), (38, .getfield 85, 3), (41, .ifCond .ne 25, 3), (44, .aload_n 0, 1), (45, .iload_n 1, 1), (46, .invokevirtual 132, 3), (49, .aload_n 2, 1), (50, .dup, 1), (51, .getfield 125, 3), (54, .iconst 1, 1), (55, .iadd, 1), (56, .putfield 125, 3), (59, .aload_n 0, 1), (60, .iload_n 1, 1), (61, .bipush 7, 2), (63, .invokevirtual 161, 3), (66, .iinc 1 1, 3), (69, .goto (-67), 3), (72, .return_, 1)]
set_option maxRecDepth 100000 in
theorem td_Bo_comeAgain : ∀ q ∈ tb_Bo_comeAgain, decode c_Bo_comeAgain q.1 = .ok q.2 := by decide +kernel
def tb_Pl_allRails : List (Nat × Instr × Nat) := [(0, .iconst 1, 1), (1, .aload_n 0, 1), (2, .getfield 57, 3), (5, .ishl, 1), (6, .iconst 1, 1), (7, .isub, 1), (8, .ireturn, 1)]
set_option maxRecDepth 100000 in
theorem td_Pl_allRails : ∀ q ∈ tb_Pl_allRails, decode c_Pl_allRails q.1 = .ok q.2 := by decide +kernel
def tb_Bo_takesStep : List (Nat × Instr × Nat) := [(0, .aload_n 0, 1), (1, .getfield 31, 3), (4, .getfield 215, 3), (7, .aload_n 0, 1), (8, .getfield 61, 3), (11, .iaload, 1), (12, .istore_n 1, 1), (13, .aload_n 0, 1), (14, .getfield 31, 3), (17, .getfield 218, 3), (20, .aload_n 0, 1), (21, .getfield 61, 3), (24, .iaload, 1), (25, .istore_n 2, 1), (26, .aload_n 0, 1), (27, .getfield 31, 3), (30, .getfield 221, 3), (33, .aload_n 0, 1), (34, .getfield 61, 3), (37, .iaload, 1), (38, .istore_n 3, 1), (39, .iload_n 1, 1), (40, .tableswitch 67 0 2 #[28, 28, 45], 28), (68, .aload_n 0, 1), (69, .iload_n 2, 1), (70, .iload_n 1, 1), (71, .iconst 1, 1), (72, .if_icmp .ne 7, 3), (75, .iconst 1, 1), (76, .goto 4, 3), (79, .iconst 0, 1), (80, .invokevirtual 224, 3), (83, .iconst 1, 1), (84, .ireturn, 1), (85, .aload_n 0, 1), (86, .getfield 64, 3), (89, .iload_n 3, 1), (90, .if_icmp .lt 5, 3), (93, .iconst 1, 1), (94, .ireturn, 1), (95, .aload_n 0, 1), (96, .dup, 1), (97, .getfield 64, 3), (100, .iconst 1, 1), (101, .iadd, 1), (102, .putfield 64, 3), (105, .iconst 0, 1), (106, .ireturn, 1), (107, .aload_n 0, 1), (108, .iload_n 2, 1), (109, .invokevirtual 97, 3), (112, .ifCond .eq 5, 3), (115, .iconst 1, 1), (116, .ireturn, 1), (117, .aload_n 0, 1), (118, .dup, 1), (119, .getfield 64, 3), (122, .iconst 1, 1), (123, .iadd, 1), (124, .putfield 64, 3), (127, .aload_n 0, 1), (128, .getfield 64, 3), (131, .iload_n 3, 1), (132, .if_icmp .lt 18, 3), (135, .aload_n 0, 1), (136, .invokevirtual 164, 3), (139, .aload_n 0, 1), (140, .aload_n 0, 1), (141, .getfield 31, 3), (144, .invokevirtual 228, 3), (147, .invokevirtual 145, 3), (150, .iconst 0, 1), (151, .ireturn, 1)]
set_option maxRecDepth 100000 in
theorem td_Bo_takesStep : ∀ q ∈ tb_Bo_takesStep, decode c_Bo_takesStep q.1 = .ok q.2 := by decide +kernel
def tb_Bo_runSequence : List (Nat × Instr × Nat) := [(0, .iconst 0, 1), (1, .istore_n 1, 1), (2, .iload_n 1, 1), (3, .bipush 24, 2), (5, .if_icmp .gt 80, 3), (8, .aload_n 0, 1), (9, .getfield 58, 3), (12, .iconst 1, 1), (13, .if_icmp .ne 72, 3), (16, .aload_n 0, 1), (17, .getfield 61, 3), (20, .ifCond .lt 17, 3), (23, .aload_n 0, 1), (24, .getfield 61, 3), (27, .aload_n 0, 1), (28, .getfield 31, 3), (31, .getfield 208, 3), (34, .if_icmp .lt 19, 3), (37, .aload_n 0, 1), (38, .iconst 2, 1), (39, .putfield 58, 3), (42, .aload_n 0, 1), (43, .bipush (-2), 2), (45, .bipush 6, 2), (47, .invokevirtual 161, 3), (50, .goto 29, 3), (53, .aload_n 0, 1), (54, .invokevirtual 211, 3), (57, .ifCond .eq 21, 3), (60, .aload_n 0, 1), (61, .dup, 1), (62, .getfield 61, 3), (65, .iconst 1, 1), (66, .iadd, 1), (67, .putfield 61, 3), (70, .aload_n 0, 1), (71, .iconst 0, 1), (72, .putfield 64, 3), (75, .goto 4, 3), (78, .return_, 1), (79, .iinc 1 1, 3), (82, .goto (-80), 3), (85, .return_, 1)]
set_option maxRecDepth 100000 in
theorem td_Bo_runSequence : ∀ q ∈ tb_Bo_runSequence, decode c_Bo_runSequence q.1 = .ok q.2 := by decide +kernel
def tb_Qu_at : List (Nat × Instr × Nat) := [(0, .iload_n 1, 1), (1, .ifCond .lt 26, 3), (4, .iload_n 1, 1), (5, .aload_n 0, 1), (6, .getfield 15, 3), (9, .if_icmp .ge 18, 3), (12, .iload_n 1, 1), (13, .bipush 12, 2), (15, .if_icmp .ge 12, 3), (18, .aload_n 0, 1), (19, .getfield 9, 3), (22, .iload_n 1, 1), (23, .iaload, 1), (24, .goto 5, 3), (27, .bipush (-2), 2), (29, .ireturn, 1)]
set_option maxRecDepth 100000 in
theorem td_Qu_at : ∀ q ∈ tb_Qu_at, decode c_Qu_at q.1 = .ok q.2 := by decide +kernel
def tb_Bo_beginToRise : List (Nat × Instr × Nat) := [(0, .aload_n 0, 1), (1, .invokevirtual 232, 3), (4, .istore_n 1, 1), (5, .iconst 0, 1), (6, .istore_n 2, 1), (7, .iconst 0, 1), (8, .istore_n 3, 1), (9, .iload_n 3, 1), (10, .bipush 12, 2), (12, .if_icmp .ge 92, 3), (15, .iload_n 2, 1), (16, .aload_n 0, 1), (17, .getfield 20, 3), (20, .getfield 110, 3), (23, .if_icmp .ge 81, 3), (26, .aload_n 0, 1), (27, .getfield 20, 3), (30, .iload_n 2, 1), (31, .invokevirtual 235, 3), (34, .istore 4, 2), (36, .iload 4, 2), (38, .ifCond .lt 57, 3), (41, .aload_n 0, 1), (42, .iload 4, 2), (44, .iload_n 1, 1), (45, .invokevirtual 238, 3), (48, .ifCond .ne 47, 3), (51, .aload_n 0, 1), (52, .getfield 20, 3), (55, .iload 4, 2), (57, .invokevirtual 136, 3), (60, .aload_n 0, 1), (61, .getfield 11, 3), (64, .iload 4, 2), (66, .aaload, 1), (67, .iconst 2, 1), (68, .putfield 85, 3), (71, .aload_n 0, 1), (72, .getfield 11, 3), (75, .iload 4, 2), (77, .aaload, 1), (78, .aload_n 0, 1), (79, .getfield 51, 3), (82, .putfield 158, 3), (85, .aload_n 0, 1), (86, .iload 4, 2), (88, .iconst 0, 1), (89, .invokevirtual 161, 3), (92, .goto 6, 3), (95, .iinc 2 1, 3), (98, .iinc 3 1, 3), (101, .goto (-92), 3), (104, .return_, 1)]
set_option maxRecDepth 100000 in
theorem td_Bo_beginToRise : ∀ q ∈ tb_Bo_beginToRise, decode c_Bo_beginToRise q.1 = .ok q.2 := by decide +kernel
def tb_Bo_goOff : List (Nat × Instr × Nat) := [(0, .aload_n 0, 1), (1, .getfield 11, 3), (4, .iload_n 1, 1), (5, .aaload, 1), (6, .astore_n 2, 1), (7, .aload_n 2, 1), (8, .iconst 0, 1), (9, .putfield 85, 3), (12, .aload_n 0, 1), (13, .iload_n 1, 1), (14, .iconst 4, 1), (15, .invokevirtual 161, 3), (18, .aload_n 2, 1), (19, .getfield 128, 3), (22, .ifCond .eq 37, 3), (25, .aload_n 2, 1), (26, .getfield 125, 3), (29, .aload_n 0, 1), (30, .getfield 31, 3), (33, .getfield 94, 3), (36, .iconst 4, 1), (37, .iaload, 1), (38, .if_icmp .ge 21, 3), (41, .aload_n 2, 1), (42, .aload_n 0, 1), (43, .getfield 51, 3), (46, .aload_n 0, 1), (47, .getfield 31, 3), (50, .getfield 94, 3), (53, .iconst 5, 1), (54, .iaload, 1), (55, .iadd, 1), (56, .putfield 113, 3), (59, .return_, 1)]
set_option maxRecDepth 100000 in
theorem td_Bo_goOff : ∀ q ∈ tb_Bo_goOff, decode c_Bo_goOff q.1 = .ok q.2 := by decide +kernel
def tb_Bo_moveVolts : List (Nat × Instr × Nat) := [(0, .iconst 0, 1), (1, .istore_n 1, 1), (2, .iload_n 1, 1), (3, .aload_n 0, 1), (4, .getfield 31, 3), (7, .getfield 70, 3), (10, .if_icmp .ge 192, 3), (13, .aload_n 0, 1), (14, .getfield 11, 3), (17, .iload_n 1, 1), (18, .aaload, 1), (19, .astore_n 2, 1), (20, .aload_n 2, 1), (21, .getfield 88, 3), (24, .istore_n 3, 1), (25, .aload_n 0, 1), (26, .getfield 31, 3), (29, .getfield 91, 3), (32, .iload_n 1, 1), (33, .iaload, 1), (34, .iload_n 3, 1), (35, .aload_n 0, 1), (36, .getfield 31, 3), (39, .getfield 241, 3), (42, .iload_n 1, 1), (43, .iaload, 1), (44, .iadd, 1), (45, .invokestatic 116, 3), (48, .istore 4, 2), (50, .aload_n 2, 1), (51, .getfield 85, 3), (54, .tableswitch 128 2 4 #[26, 60, 94], 26), (80, .aload_n 2, 1), (81, .iload 4, 2), (83, .putfield 88, 3), (86, .iload 4, 2), (88, .aload_n 0, 1), (89, .getfield 31, 3), (92, .getfield 91, 3), (95, .iload_n 1, 1), (96, .iaload, 1), (97, .if_icmp .ne 85, 3), (100, .aload_n 2, 1), (101, .iconst 3, 1), (102, .putfield 85, 3), (105, .aload_n 0, 1), (106, .iload_n 1, 1), (107, .iconst 1, 1), (108, .invokevirtual 161, 3), (111, .goto 71, 3), (114, .aload_n 2, 1), (115, .aload_n 2, 1), (116, .getfield 244, 3), (119, .ifCond .eq 21, 3), (122, .iconst 0, 1), (123, .iload_n 3, 1), (124, .aload_n 0, 1), (125, .getfield 31, 3), (128, .getfield 94, 3), (131, .iconst 0, 1), (132, .iaload, 1), (133, .isub, 1), (134, .invokestatic 203, 3), (137, .goto 5, 3), (140, .iload 4, 2), (142, .putfield 88, 3), (145, .goto 37, 3), (148, .aload_n 2, 1), (149, .iconst 0, 1), (150, .iload_n 3, 1), (151, .aload_n 0, 1), (152, .getfield 31, 3), (155, .getfield 94, 3), (158, .iconst 1, 1), (159, .iaload, 1), (160, .isub, 1), (161, .invokestatic 203, 3), (164, .putfield 88, 3), (167, .aload_n 2, 1), (168, .getfield 88, 3), (171, .ifCond .ne 11, 3), (174, .aload_n 0, 1), (175, .iload_n 1, 1), (176, .invokevirtual 247, 3), (179, .goto 3, 3), (182, .aload_n 2, 1), (183, .iconst 0, 1), (184, .aload_n 2, 1), (185, .getfield 88, 3), (188, .iload_n 3, 1), (189, .isub, 1), (190, .invokestatic 203, 3), (193, .putfield 250, 3), (196, .iinc 1 1, 3), (199, .goto (-197), 3), (202, .return_, 1)]
set_option maxRecDepth 100000 in
theorem td_Bo_moveVolts : ∀ q ∈ tb_Bo_moveVolts, decode c_Bo_moveVolts q.1 = .ok q.2 := by decide +kernel
def tb_Bo_measureDraws : List (Nat × Instr × Nat) := [(0, .aload_n 0, 1), (1, .iconst 0, 1), (2, .putfield 55, 3), (5, .iconst 0, 1), (6, .istore_n 1, 1), (7, .iload_n 1, 1), (8, .aload_n 0, 1), (9, .getfield 31, 3), (12, .getfield 70, 3), (15, .if_icmp .ge 19, 3), (18, .aload_n 0, 1), (19, .getfield 11, 3), (22, .iload_n 1, 1), (23, .aaload, 1), (24, .iconst 0, 1), (25, .putfield 253, 3), (28, .iinc 1 1, 3), (31, .goto (-24), 3), (34, .aload_n 0, 1), (35, .getfield 31, 3), (38, .getfield 70, 3), (41, .iconst 1, 1), (42, .isub, 1), (43, .istore_n 1, 1), (44, .iload_n 1, 1), (45, .ifCond .lt 161, 3), (48, .aload_n 0, 1), (49, .getfield 11, 3), (52, .iload_n 1, 1), (53, .aaload, 1), (54, .astore_n 2, 1), (55, .aload_n 0, 1), (56, .getfield 31, 3), (59, .getfield 91, 3), (62, .iload_n 1, 1), (63, .iaload, 1), (64, .istore_n 3, 1), (65, .aload_n 0, 1), (66, .iload_n 1, 1), (67, .invokevirtual 139, 3), (70, .ifCond .eq 27, 3), (73, .iload_n 3, 1), (74, .ifCond .le 23, 3), (77, .aload_n 2, 1), (78, .dup, 1), (79, .getfield 253, 3), (82, .aload_n 2, 1), (83, .getfield 197, 3), (86, .aload_n 2, 1), (87, .getfield 88, 3), (90, .imul, 1), (91, .iload_n 3, 1), (92, .idiv, 1), (93, .iadd, 1), (94, .putfield 253, 3), (97, .aload_n 2, 1), (98, .dup, 1), (99, .getfield 253, 3), (102, .aload_n 0, 1), (103, .getfield 31, 3), (106, .getfield 256, 3), (109, .iload_n 1, 1), (110, .iaload, 1), (111, .aload_n 2, 1), (112, .getfield 250, 3), (115, .imul, 1), (116, .bipush 16, 2), (118, .idiv, 1), (119, .iadd, 1), (120, .putfield 253, 3), (123, .aload_n 2, 1), (124, .aload_n 2, 1), (125, .getfield 253, 3), (128, .aload_n 2, 1), (129, .getfield 259, 3), (132, .if_icmp .le 7, 3), (135, .iconst 1, 1), (136, .goto 4, 3), (139, .iconst 0, 1), (140, .putfield 244, 3), (143, .aload_n 0, 1), (144, .getfield 31, 3), (147, .getfield 104, 3), (150, .iload_n 1, 1), (151, .iaload, 1), (152, .istore 4, 2), (154, .iload 4, 2), (156, .ifCond .lt 31, 3), (159, .iload 4, 2), (161, .iload_n 1, 1), (162, .if_icmp .ge 25, 3), (165, .aload_n 0, 1), (166, .getfield 11, 3), (169, .iload 4, 2), (171, .aaload, 1), (172, .dup, 1), (173, .getfield 253, 3), (176, .aload_n 2, 1), (177, .getfield 253, 3), (180, .iadd, 1), (181, .putfield 253, 3), (184, .goto 16, 3), (187, .aload_n 0, 1), (188, .dup, 1), (189, .getfield 55, 3), (192, .aload_n 2, 1), (193, .getfield 253, 3), (196, .iadd, 1), (197, .putfield 55, 3), (200, .iinc 1 (-1), 3), (203, .goto (-159), 3), (206, .return_, 1)]
set_option maxRecDepth 100000 in
theorem td_Bo_measureDraws : ∀ q ∈ tb_Bo_measureDraws, decode c_Bo_measureDraws q.1 = .ok q.2 := by decide +kernel
def tb_Qu_holds : List (Nat × Instr × Nat) := [(0, .aload_n 0, 1), (1, .getfield 19, 3), (4, .iload_n 1, 1), (5, .ishr, 1), (6, .iconst 1, 1), (7, .iand, 1), (8, .ifCond .eq 7, 3), (11, .iconst 1, 1), (12, .goto 4, 3), (15, .iconst 0, 1), (16, .ireturn, 1)]
set_option maxRecDepth 100000 in
theorem td_Qu_holds : ∀ q ∈ tb_Qu_holds, decode c_Qu_holds q.1 = .ok q.2 := by decide +kernel
def tb_Bo_tripTheLow : List (Nat × Instr × Nat) := [(0, .iconst 0, 1), (1, .istore_n 1, 1), (2, .iload_n 1, 1), (3, .aload_n 0, 1), (4, .getfield 31, 3), (7, .getfield 70, 3), (10, .if_icmp .ge 78, 3), (13, .aload_n 0, 1), (14, .getfield 11, 3), (17, .iload_n 1, 1), (18, .aaload, 1), (19, .astore_n 2, 1), (20, .aload_n 2, 1), (21, .aload_n 2, 1), (22, .getfield 85, 3), (25, .iconst 3, 1), (26, .if_icmp .ne 20, 3), (29, .aload_n 0, 1), (30, .iload_n 1, 1), (31, .invokevirtual 97, 3), (34, .ifCond .ne 12, 3), (37, .aload_n 2, 1), (38, .getfield 262, 3), (41, .iconst 1, 1), (42, .iadd, 1), (43, .goto 4, 3), (46, .iconst 0, 1), (47, .putfield 262, 3), (50, .aload_n 2, 1), (51, .getfield 262, 3), (54, .aload_n 0, 1), (55, .getfield 31, 3), (58, .getfield 94, 3), (61, .iconst 3, 1), (62, .iaload, 1), (63, .if_icmp .lt 19, 3), (66, .aload_n 0, 1), (67, .getfield 24, 3), (70, .iload_n 1, 1), (71, .invokevirtual 265, 3), (74, .ifCond .ne 8, 3), (77, .aload_n 0, 1), (78, .iload_n 1, 1), (79, .invokevirtual 268, 3), (82, .iinc 1 1, 3), (85, .goto (-83), 3), (88, .return_, 1)]
set_option maxRecDepth 100000 in
theorem td_Bo_tripTheLow : ∀ q ∈ tb_Bo_tripTheLow, decode c_Bo_tripTheLow q.1 = .ok q.2 := by decide +kernel
def tb_Bo_letFirstFall : List (Nat × Instr × Nat) := [(0, .aload_n 0, 1), (1, .getfield 24, 3), (4, .iconst 0, 1), (5, .invokevirtual 235, 3), (8, .istore_n 1, 1), (9, .iload_n 1, 1), (10, .ifCond .lt 27, 3), (13, .aload_n 0, 1), (14, .getfield 24, 3), (17, .iload_n 1, 1), (18, .invokevirtual 136, 3), (21, .aload_n 0, 1), (22, .getfield 11, 3), (25, .iload_n 1, 1), (26, .aaload, 1), (27, .iconst 4, 1), (28, .putfield 85, 3), (31, .aload_n 0, 1), (32, .iload_n 1, 1), (33, .iconst 3, 1), (34, .invokevirtual 161, 3), (37, .return_, 1)]
set_option maxRecDepth 100000 in
theorem td_Bo_letFirstFall : ∀ q ∈ tb_Bo_letFirstFall, decode c_Bo_letFirstFall q.1 = .ok q.2 := by decide +kernel
def tb_Bo_tripTheLatest : List (Nat × Instr × Nat) := [(0, .aload_n 0, 1), (1, .aload_n 0, 1), (2, .getfield 31, 3), (5, .invokevirtual 228, 3), (8, .invokevirtual 151, 3), (11, .istore_n 1, 1), (12, .iload_n 1, 1), (13, .ifCond .lt 8, 3), (16, .aload_n 0, 1), (17, .iload_n 1, 1), (18, .invokevirtual 268, 3), (21, .return_, 1)]
set_option maxRecDepth 100000 in
theorem td_Bo_tripTheLatest : ∀ q ∈ tb_Bo_tripTheLatest, decode c_Bo_tripTheLatest q.1 = .ok q.2 := by decide +kernel
def tb_Bo_pass : List (Nat × Instr × Nat) := [(0, .aload_n 0, 1), (1, .dup, 1), (2, .getfield 51, 3), (5, .iconst 1, 1), (6, .iadd, 1), (7, .putfield 51, 3), (10, .aload_n 0, 1), (11, .invokevirtual 167, 3), (14, .aload_n 0, 1), (15, .invokevirtual 170, 3), (18, .aload_n 0, 1), (19, .invokevirtual 173, 3), (22, .aload_n 0, 1), (23, .invokevirtual 176, 3), (26, .aload_n 0, 1), (27, .invokevirtual 179, 3), (30, .aload_n 0, 1), (31, .invokevirtual 182, 3), (34, .aload_n 0, 1), (35, .getfield 55, 3), (38, .aload_n 0, 1), (39, .getfield 31, 3), (42, .getfield 94, 3), (45, .bipush 6, 2), (47, .iaload, 1), (48, .if_icmp .le 7, 3), (51, .aload_n 0, 1), (52, .invokevirtual 185, 3), (55, .aload_n 0, 1), (56, .invokevirtual 188, 3), (59, .return_, 1)]
set_option maxRecDepth 100000 in
theorem td_Bo_pass : ∀ q ∈ tb_Bo_pass, decode c_Bo_pass q.1 = .ok q.2 := by decide +kernel
def tb_Bo_following : List (Nat × Instr × Nat) := [(0, .iload_n 0, 1), (1, .ldc 206, 2), (3, .imul, 1), (4, .sipush 12345, 3), (7, .iadd, 1), (8, .ldc 207, 2), (10, .iand, 1), (11, .ireturn, 1)]
set_option maxRecDepth 100000 in
theorem td_Bo_following : ∀ q ∈ tb_Bo_following, decode c_Bo_following q.1 = .ok q.2 := by decide +kernel
def tb_Bo_drawn : List (Nat × Instr × Nat) := [(0, .iload_n 1, 1), (1, .ifCond .le 12, 3), (4, .iload_n 0, 1), (5, .bipush 16, 2), (7, .ishr, 1), (8, .iload_n 1, 1), (9, .irem, 1), (10, .goto 4, 3), (13, .iconst 0, 1), (14, .ireturn, 1)]
set_option maxRecDepth 100000 in
theorem td_Bo_drawn : ∀ q ∈ tb_Bo_drawn, decode c_Bo_drawn q.1 = .ok q.2 := by decide +kernel
def tb_Bo_passByChance : List (Nat × Instr × Nat) := [(0, .iload_n 1, 1), (1, .istore 4, 2), (3, .iconst 0, 1), (4, .istore 5, 2), (6, .aload_n 0, 1), (7, .getfield 31, 3), (10, .getfield 70, 3), (13, .istore 6, 2), (15, .iconst 0, 1), (16, .istore 7, 2), (18, .iload 7, 2), (20, .iload_n 2, 1), (21, .if_icmp .ge 70, 3), (24, .iload 6, 2), (26, .ifCond .le 44, 3), (29, .iload 4, 2), (31, .invokestatic 191, 3), (34, .istore 4, 2), (36, .iload 4, 2), (38, .iload 6, 2), (40, .invokestatic 194, 3), (43, .istore 8, 2), (45, .iload 4, 2), (47, .invokestatic 191, 3), (50, .istore 4, 2), (52, .aload_n 0, 1), (53, .getfield 11, 3), (56, .iload 8, 2), (58, .aaload, 1), (59, .iload 4, 2), (61, .iload_n 3, 1), (62, .iconst 1, 1), (63, .iadd, 1), (64, .invokestatic 194, 3), (67, .putfield 197, 3), (70, .aload_n 0, 1), (71, .invokevirtual 200, 3), (74, .iload 5, 2), (76, .aload_n 0, 1), (77, .getfield 55, 3), (80, .invokestatic 203, 3), (83, .istore 5, 2), (85, .iinc 7 1, 3), (88, .goto (-70), 3), (91, .iload 5, 2), (93, .ireturn, 1)]
set_option maxRecDepth 100000 in
theorem td_Bo_passByChance : ∀ q ∈ tb_Bo_passByChance, decode c_Bo_passByChance q.1 = .ok q.2 := by decide +kernel
def tb_Or_allLoads : List (Nat × Instr × Nat) := [(0, .iconst 0, 1), (1, .istore_n 1, 1), (2, .iconst 0, 1), (3, .istore_n 2, 1), (4, .iload_n 2, 1), (5, .aload_n 0, 1), (6, .getfield 9, 3), (9, .getfield 62, 3), (12, .if_icmp .ge 21, 3), (15, .iload_n 1, 1), (16, .aload_n 0, 1), (17, .getfield 40, 3), (20, .iload_n 2, 1), (21, .aaload, 1), (22, .getfield 44, 3), (25, .iadd, 1), (26, .istore_n 1, 1), (27, .iinc 2 1, 3), (30, .goto (-26), 3), (33, .iload_n 1, 1), (34, .ireturn, 1)]
set_option maxRecDepth 100000 in
theorem td_Or_allLoads : ∀ q ∈ tb_Or_allLoads, decode c_Or_allLoads q.1 = .ok q.2 := by decide +kernel
def tb_Pl_directOfAll : List (Nat × Instr × Nat) := [(0, .iconst 0, 1), (1, .istore_n 2, 1), (2, .iconst 0, 1), (3, .istore_n 3, 1), (4, .iload_n 3, 1), (5, .aload_n 0, 1), (6, .getfield 57, 3), (9, .if_icmp .ge 26, 3), (12, .iload_n 1, 1), (13, .iload_n 3, 1), (14, .ishr, 1), (15, .iconst 1, 1), (16, .iand, 1), (17, .ifCond .eq 12, 3), (20, .iload_n 2, 1), (21, .aload_n 0, 1), (22, .getfield 36, 3), (25, .iload_n 3, 1), (26, .iaload, 1), (27, .ior, 1), (28, .istore_n 2, 1), (29, .iinc 3 1, 3), (32, .goto (-28), 3), (35, .iload_n 2, 1), (36, .ireturn, 1)]
set_option maxRecDepth 100000 in
theorem td_Pl_directOfAll : ∀ q ∈ tb_Pl_directOfAll, decode c_Pl_directOfAll q.1 = .ok q.2 := by decide +kernel
def tb_Pl_surge : List (Nat × Instr × Nat) := [(0, .aload_n 0, 1), (1, .getfield 24, 3), (4, .iload_n 1, 1), (5, .iaload, 1), (6, .aload_n 0, 1), (7, .getfield 21, 3), (10, .iload_n 1, 1), (11, .iaload, 1), (12, .aload_n 0, 1), (13, .getfield 18, 3), (16, .iload_n 1, 1), (17, .iaload, 1), (18, .invokestatic 68, 3), (21, .imul, 1), (22, .bipush 16, 2), (24, .idiv, 1), (25, .ireturn, 1)]
set_option maxRecDepth 100000 in
theorem td_Pl_surge : ∀ q ∈ tb_Pl_surge, decode c_Pl_surge q.1 = .ok q.2 := by decide +kernel
def tb_Or_leastSurge : List (Nat × Instr × Nat) := [(0, .bipush (-2), 2), (2, .istore_n 2, 1), (3, .iconst 0, 1), (4, .istore_n 3, 1), (5, .iload_n 3, 1), (6, .aload_n 0, 1), (7, .getfield 62, 3), (10, .if_icmp .ge 36, 3), (13, .iload_n 1, 1), (14, .iload_n 3, 1), (15, .ishr, 1), (16, .iconst 1, 1), (17, .iand, 1), (18, .ifCond .eq 22, 3), (21, .iload_n 2, 1), (22, .ifCond .lt 16, 3), (25, .aload_n 0, 1), (26, .iload_n 3, 1), (27, .invokevirtual 31, 3), (30, .aload_n 0, 1), (31, .iload_n 2, 1), (32, .invokevirtual 31, 3), (35, .if_icmp .ge 5, 3), (38, .iload_n 3, 1), (39, .istore_n 2, 1), (40, .iinc 3 1, 3), (43, .goto (-38), 3), (46, .iload_n 2, 1), (47, .ireturn, 1)]
set_option maxRecDepth 100000 in
theorem td_Or_leastSurge : ∀ q ∈ tb_Or_leastSurge, decode c_Or_leastSurge q.1 = .ok q.2 := by decide +kernel
def tb_Or_leastHeat : List (Nat × Instr × Nat) := [(0, .aload_n 0, 1), (1, .getfield 9, 3), (4, .astore_n 2, 1), (5, .iload_n 1, 1), (6, .istore_n 3, 1), (7, .aload_n 0, 1), (8, .invokestatic 15, 3), (11, .istore 4, 2), (13, .iconst 0, 1), (14, .istore 5, 2), (16, .iconst 0, 1), (17, .istore 6, 2), (19, .iload 6, 2), (21, .bipush 12, 2), (23, .if_icmp .ge 76, 3), (26, .iload_n 3, 1), (27, .ifCond .eq 72, 3), (30, .aload_n 2, 1), (31, .iload_n 3, 1), (32, .aload_n 2, 1), (33, .iload_n 3, 1), (34, .invokevirtual 21, 3), (37, .iconst (-1), 1), (38, .ixor, 1), (39, .iand, 1), (40, .invokestatic 27, 3), (43, .istore 7, 2), (45, .iload 7, 2), (47, .ifCond .ge 6, 3), (50, .bipush (-2), 2), (52, .ireturn, 1), (53, .iload 5, 2), (55, .iload 4, 2), (57, .aload_n 2, 1), (58, .iload 7, 2), (60, .invokevirtual 31, 3), (63, .iadd, 1), (64, .invokestatic 34, 3), (67, .istore 5, 2), (69, .iload 4, 2), (71, .aload_n 0, 1), (72, .getfield 40, 3), (75, .iload 7, 2), (77, .aaload, 1), (78, .getfield 44, 3), (81, .isub, 1), (82, .istore 4, 2), (84, .iload_n 3, 1), (85, .iconst 1, 1), (86, .iload 7, 2), (88, .ishl, 1), (89, .iconst (-1), 1), (90, .ixor, 1), (91, .iand, 1), (92, .istore_n 3, 1), (93, .iinc 6 1, 3), (96, .goto (-77), 3), (99, .iload 5, 2), (101, .ireturn, 1)]
set_option maxRecDepth 100000 in
theorem td_Or_leastHeat : ∀ q ∈ tb_Or_leastHeat, decode c_Or_leastHeat q.1 = .ok q.2 := by decide +kernel
def tb_Or_firstThatFits : List (Nat × Instr × Nat) := [(0, .aload_n 0, 1), (1, .getfield 9, 3), (4, .astore_n 3, 1), (5, .iconst 0, 1), (6, .istore 4, 2), (8, .iload 4, 2), (10, .aload_n 3, 1), (11, .getfield 62, 3), (14, .if_icmp .ge 61, 3), (17, .iload_n 1, 1), (18, .iload 4, 2), (20, .ishr, 1), (21, .iconst 1, 1), (22, .iand, 1), (23, .ifCond .eq 19, 3), (26, .aload_n 3, 1), (27, .getfield 64, 3), (30, .iload 4, 2), (32, .iaload, 1), (33, .iload_n 1, 1), (34, .iand, 1), (35, .ifCond .ne 7, 3), (38, .iconst 1, 1), (39, .goto 4, 3), (42, .iconst 0, 1), (43, .istore 5, 2), (45, .iload 5, 2), (47, .ifCond .eq 22, 3), (50, .aload_n 0, 1), (51, .iload_n 1, 1), (52, .iconst 1, 1), (53, .iload 4, 2), (55, .ishl, 1), (56, .iconst (-1), 1), (57, .ixor, 1), (58, .iand, 1), (59, .invokestatic 54, 3), (62, .iload_n 2, 1), (63, .if_icmp .gt 6, 3), (66, .iload 4, 2), (68, .ireturn, 1), (69, .iinc 4 1, 3), (72, .goto (-64), 3), (75, .bipush (-2), 2), (77, .ireturn, 1)]
set_option maxRecDepth 100000 in
theorem td_Or_firstThatFits : ∀ q ∈ tb_Or_firstThatFits, decode c_Or_firstThatFits q.1 = .ok q.2 := by decide +kernel
def tb_Or_railAt : List (Nat × Instr × Nat) := [(0, .aload_n 0, 1), (1, .getfield 9, 3), (4, .invokevirtual 50, 3), (7, .istore_n 2, 1), (8, .aload_n 0, 1), (9, .iload_n 2, 1), (10, .invokestatic 54, 3), (13, .istore_n 3, 1), (14, .bipush (-2), 2), (16, .istore 4, 2), (18, .iconst 0, 1), (19, .istore 5, 2), (21, .iload 5, 2), (23, .iload_n 1, 1), (24, .if_icmp .gt 45, 3), (27, .iload 5, 2), (29, .bipush 12, 2), (31, .if_icmp .ge 38, 3), (34, .iload_n 3, 1), (35, .ifCond .lt 34, 3), (38, .aload_n 0, 1), (39, .iload_n 2, 1), (40, .iload_n 3, 1), (41, .invokestatic 58, 3), (44, .istore 4, 2), (46, .iload 4, 2), (48, .ifCond .ge 6, 3), (51, .bipush (-2), 2), (53, .ireturn, 1), (54, .iload_n 2, 1), (55, .iconst 1, 1), (56, .iload 4, 2), (58, .ishl, 1), (59, .iconst (-1), 1), (60, .ixor, 1), (61, .iand, 1), (62, .istore_n 2, 1), (63, .iinc 5 1, 3), (66, .goto (-45), 3), (69, .iload 4, 2), (71, .ireturn, 1)]
set_option maxRecDepth 100000 in
theorem td_Or_railAt : ∀ q ∈ tb_Or_railAt, decode c_Or_railAt q.1 = .ok q.2 := by decide +kernel
def tb_Pl_forget : List (Nat × Instr × Nat) := [(0, .aload_n 0, 1), (1, .iconst 0, 1), (2, .putfield 57, 3), (5, .aload_n 0, 1), (6, .iconst 0, 1), (7, .putfield 61, 3), (10, .aload_n 0, 1), (11, .iconst 0, 1), (12, .putfield 64, 3), (15, .aload_n 0, 1), (16, .getfield 54, 3), (19, .iconst 0, 1), (20, .bipush 50, 2), (22, .iastore, 1), (23, .aload_n 0, 1), (24, .getfield 54, 3), (27, .iconst 1, 1), (28, .sipush 500, 3), (31, .iastore, 1), (32, .aload_n 0, 1), (33, .getfield 54, 3), (36, .iconst 2, 1), (37, .bipush 90, 2), (39, .iastore, 1), (40, .aload_n 0, 1), (41, .getfield 54, 3), (44, .iconst 3, 1), (45, .iconst 1, 1), (46, .iastore, 1), (47, .aload_n 0, 1), (48, .getfield 54, 3), (51, .iconst 4, 1), (52, .iconst 0, 1), (53, .iastore, 1), (54, .aload_n 0, 1), (55, .getfield 54, 3), (58, .iconst 5, 1), (59, .bipush 10, 2), (61, .iastore, 1), (62, .aload_n 0, 1), (63, .getfield 54, 3), (66, .bipush 6, 2), (68, .ldc 67, 2), (70, .iastore, 1), (71, .aload_n 0, 1), (72, .getfield 54, 3), (75, .bipush 7, 2), (77, .iconst 0, 1), (78, .iastore, 1), (79, .return_, 1)]
set_option maxRecDepth 100000 in
theorem td_Pl_forget : ∀ q ∈ tb_Pl_forget, decode c_Pl_forget q.1 = .ok q.2 := by decide +kernel
def tb_Pl_find : List (Nat × Instr × Nat) := [(0, .iconst 0, 1), (1, .istore_n 2, 1), (2, .iload_n 2, 1), (3, .aload_n 0, 1), (4, .getfield 57, 3), (7, .if_icmp .ge 21, 3), (10, .aload_n 0, 1), (11, .getfield 9, 3), (14, .iload_n 2, 1), (15, .iaload, 1), (16, .iload_n 1, 1), (17, .if_icmp .ne 5, 3), (20, .iload_n 2, 1), (21, .ireturn, 1), (22, .iinc 2 1, 3), (25, .goto (-23), 3), (28, .iconst (-1), 1), (29, .ireturn, 1)]
set_option maxRecDepth 100000 in
theorem td_Pl_find : ∀ q ∈ tb_Pl_find, decode c_Pl_find q.1 = .ok q.2 := by decide +kernel
def tb_Pl_addNeed : List (Nat × Instr × Nat) := [(0, .iload_n 1, 1), (1, .ifCond .lt 42, 3), (4, .iload_n 1, 1), (5, .aload_n 0, 1), (6, .getfield 57, 3), (9, .if_icmp .ge 34, 3), (12, .aload_n 0, 1), (13, .getfield 61, 3), (16, .bipush 20, 2), (18, .if_icmp .ge 25, 3), (21, .aload_n 0, 1), (22, .getfield 33, 3), (25, .iload_n 1, 1), (26, .dup2, 1), (27, .iaload, 1), (28, .iconst 1, 1), (29, .iload_n 2, 1), (30, .ishl, 1), (31, .ior, 1), (32, .iastore, 1), (33, .aload_n 0, 1), (34, .dup, 1), (35, .getfield 61, 3), (38, .iconst 1, 1), (39, .iadd, 1), (40, .putfield 61, 3), (43, .return_, 1)]
set_option maxRecDepth 100000 in
theorem td_Pl_addNeed : ∀ q ∈ tb_Pl_addNeed, decode c_Pl_addNeed q.1 = .ok q.2 := by decide +kernel
def tb_Pl_addStep : List (Nat × Instr × Nat) := [(0, .aload_n 0, 1), (1, .getfield 64, 3), (4, .bipush 24, 2), (6, .if_icmp .ge 43, 3), (9, .aload_n 0, 1), (10, .getfield 45, 3), (13, .aload_n 0, 1), (14, .getfield 64, 3), (17, .iload_n 1, 1), (18, .iastore, 1), (19, .aload_n 0, 1), (20, .getfield 48, 3), (23, .aload_n 0, 1), (24, .getfield 64, 3), (27, .iload_n 2, 1), (28, .iastore, 1), (29, .aload_n 0, 1), (30, .getfield 51, 3), (33, .aload_n 0, 1), (34, .getfield 64, 3), (37, .iload_n 3, 1), (38, .iastore, 1), (39, .aload_n 0, 1), (40, .dup, 1), (41, .getfield 64, 3), (44, .iconst 1, 1), (45, .iadd, 1), (46, .putfield 64, 3), (49, .return_, 1)]
set_option maxRecDepth 100000 in
theorem td_Pl_addStep : ∀ q ∈ tb_Pl_addStep, decode c_Pl_addStep q.1 = .ok q.2 := by decide +kernel
def tb_Pl_tieTogether : List (Nat × Instr × Nat) := [(0, .iconst 0, 1), (1, .istore_n 1, 1), (2, .iload_n 1, 1), (3, .aload_n 0, 1), (4, .getfield 57, 3), (7, .if_icmp .ge 62, 3), (10, .aload_n 0, 1), (11, .getfield 36, 3), (14, .iload_n 1, 1), (15, .aload_n 0, 1), (16, .getfield 33, 3), (19, .iload_n 1, 1), (20, .iaload, 1), (21, .aload_n 0, 1), (22, .getfield 15, 3), (25, .iload_n 1, 1), (26, .iaload, 1), (27, .ifCond .lt 14, 3), (30, .iconst 1, 1), (31, .aload_n 0, 1), (32, .getfield 15, 3), (35, .iload_n 1, 1), (36, .iaload, 1), (37, .ishl, 1), (38, .goto 4, 3), (41, .iconst 0, 1), (42, .ior, 1), (43, .iastore, 1), (44, .aload_n 0, 1), (45, .getfield 39, 3), (48, .iload_n 1, 1), (49, .aload_n 0, 1), (50, .getfield 36, 3), (53, .iload_n 1, 1), (54, .iaload, 1), (55, .iastore, 1), (56, .aload_n 0, 1), (57, .getfield 42, 3), (60, .iload_n 1, 1), (61, .iconst 0, 1), (62, .iastore, 1), (63, .iinc 1 1, 3), (66, .goto (-64), 3), (69, .iconst 0, 1), (70, .istore_n 1, 1), (71, .iload_n 1, 1), (72, .aload_n 0, 1), (73, .getfield 57, 3), (76, .if_icmp .ge 53, 3), (79, .iconst 0, 1), (80, .istore_n 2, 1), (81, .iload_n 2, 1), (82, .aload_n 0, 1), (83, .getfield 57, 3), (86, .if_icmp .ge 37, 3), (89, .aload_n 0, 1), (90, .getfield 39, 3), (93, .iload_n 2, 1), (94, .iaload, 1), (95, .iload_n 1, 1), (96, .ishr, 1), (97, .iconst 1, 1), (98, .iand, 1), (99, .ifCond .eq 18, 3), (102, .aload_n 0, 1), (103, .getfield 39, 3), (106, .iload_n 2, 1), (107, .dup2, 1), (108, .iaload, 1), (109, .aload_n 0, 1), (110, .getfield 39, 3), (113, .iload_n 1, 1), (114, .iaload, 1), (115, .ior, 1), (116, .iastore, 1), (117, .iinc 2 1, 3), (120, .goto (-39), 3), (123, .iinc 1 1, 3), (126, .goto (-55), 3), (129, .iconst 0, 1), (130, .istore_n 1, 1), (131, .iload_n 1, 1), (132, .aload_n 0, 1), (133, .getfield 57, 3), (136, .if_icmp .ge 46, 3), (139, .iconst 0, 1), (140, .istore_n 2, 1), (141, .iload_n 2, 1), (142, .aload_n 0, 1), (143, .getfield 57, 3), (146, .if_icmp .ge 30, 3), (149, .aload_n 0, 1), (150, .getfield 42, 3), (153, .iload_n 1, 1), (154, .dup2, 1), (155, .iaload, 1), (156, .aload_n 0, 1), (157, .getfield 39, 3), (160, .iload_n 2, 1), (161, .iaload, 1), (162, .iload_n 1, 1), (163, .ishr, 1), (164, .iconst 1, 1), (165, .iand, 1), (166, .iload_n 2, 1), (167, .ishl, 1), (168, .ior, 1), (169, .iastore, 1), (170, .iinc 2 1, 3), (173, .goto (-32), 3), (176, .iinc 1 1, 3), (179, .goto (-48), 3), (182, .return_, 1)]
set_option maxRecDepth 100000 in
theorem td_Pl_tieTogether : ∀ q ∈ tb_Pl_tieTogether, decode c_Pl_tieTogether q.1 = .ok q.2 := by decide +kernel
def tb_Re_peekByte : List (Nat × Instr × Nat) := [(0, .aload_n 0, 1), (1, .getfield 163, 3), (4, .ifCond .lt 42, 3), (7, .aload_n 0, 1), (8, .getfield 163, 3), (11, .aload_n 0, 1), (12, .getfield 157, 3), (15, .if_icmp .ge 31, 3), (18, .aload_n 0, 1), (19, .getfield 163, 3), (22, .aload_n 0, 1), (23, .getfield 31, 3), (26, .arraylength, 1), (27, .if_icmp .ge 19, 3), (30, .aload_n 0, 1), (31, .getfield 31, 3), (34, .aload_n 0, 1), (35, .getfield 163, 3), (38, .baload, 1), (39, .sipush 255, 3), (42, .iand, 1), (43, .goto 4, 3), (46, .iconst (-1), 1), (47, .ireturn, 1)]
set_option maxRecDepth 100000 in
theorem td_Re_peekByte : ∀ q ∈ tb_Re_peekByte, decode c_Re_peekByte q.1 = .ok q.2 := by decide +kernel
def tb_Re_skipBlanks : List (Nat × Instr × Nat) := [(0, .aload_n 0, 1), (1, .invokevirtual 169, 3), (4, .istore_n 1, 1), (5, .iconst 0, 1), (6, .istore_n 2, 1), (7, .iload_n 2, 1), (8, .sipush 700, 3), (11, .if_icmp .ge 36, 3), (14, .iload_n 1, 1), (15, .bipush 10, 2), (17, .if_icmp .eq 9, 3), (20, .iload_n 1, 1), (21, .bipush 32, 2), (23, .if_icmp .ne 24, 3), (26, .aload_n 0, 1), (27, .dup, 1), (28, .getfield 163, 3), (31, .iconst 1, 1), (32, .iadd, 1), (33, .putfield 163, 3), (36, .aload_n 0, 1), (37, .invokevirtual 169, 3), (40, .istore_n 1, 1), (41, .iinc 2 1, 3), (44, .goto (-37), 3), (47, .return_, 1)]
set_option maxRecDepth 100000 in
theorem td_Re_skipBlanks : ∀ q ∈ tb_Re_skipBlanks, decode c_Re_skipBlanks q.1 = .ok q.2 := by decide +kernel
def tb_Re_isLetter : List (Nat × Instr × Nat) := [(0, .iload_n 0, 1), (1, .bipush 97, 2), (3, .if_icmp .lt 13, 3), (6, .iload_n 0, 1), (7, .bipush 122, 2), (9, .if_icmp .gt 7, 3), (12, .iconst 1, 1), (13, .goto 4, 3), (16, .iconst 0, 1), (17, .ireturn, 1)]
set_option maxRecDepth 100000 in
theorem td_Re_isLetter : ∀ q ∈ tb_Re_isLetter, decode c_Re_isLetter q.1 = .ok q.2 := by decide +kernel
def tb_Re_isDigit : List (Nat × Instr × Nat) := [(0, .iload_n 0, 1), (1, .bipush 48, 2), (3, .if_icmp .lt 13, 3), (6, .iload_n 0, 1), (7, .bipush 57, 2), (9, .if_icmp .gt 7, 3), (12, .iconst 1, 1), (13, .goto 4, 3), (16, .iconst 0, 1), (17, .ireturn, 1)]
set_option maxRecDepth 100000 in
theorem td_Re_isDigit : ∀ q ∈ tb_Re_isDigit, decode c_Re_isDigit q.1 = .ok q.2 := by decide +kernel
def tb_Re_cutNumber : List (Nat × Instr × Nat) := [(0, .aload_n 0, 1), (1, .invokevirtual 169, 3), (4, .istore_n 1, 1), (5, .iconst 0, 1), (6, .istore_n 2, 1), (7, .iload_n 2, 1), (8, .sipush 700, 3), (11, .if_icmp .ge 52, 3), (14, .iload_n 1, 1), (15, .invokestatic 182, 3), (18, .ifCond .eq 45, 3), (21, .aload_n 0, 1), (22, .ldc 194, 2), (24, .aload_n 0, 1), (25, .getfield 68, 3), (28, .bipush 10, 2), (30, .imul, 1), (31, .iload_n 1, 1), (32, .bipush 48, 2), (34, .isub, 1), (35, .iadd, 1), (36, .invokestatic 195, 3), (39, .putfield 68, 3), (42, .aload_n 0, 1), (43, .dup, 1), (44, .getfield 163, 3), (47, .iconst 1, 1), (48, .iadd, 1), (49, .putfield 163, 3), (52, .aload_n 0, 1), (53, .invokevirtual 169, 3), (56, .istore_n 1, 1), (57, .iinc 2 1, 3), (60, .goto (-53), 3), (63, .aload_n 0, 1), (64, .iconst 3, 1), (65, .putfield 62, 3), (68, .return_, 1)]
set_option maxRecDepth 100000 in
theorem td_Re_cutNumber : ∀ q ∈ tb_Re_cutNumber, decode c_Re_cutNumber q.1 = .ok q.2 := by decide +kernel
def tb_Re_letterBits : List (Nat × Instr × Nat) := [(0, .iload_n 0, 1), (1, .bipush 97, 2), (3, .isub, 1), (4, .iconst 1, 1), (5, .iadd, 1), (6, .bipush 25, 2), (8, .iconst 5, 1), (9, .iload_n 1, 1), (10, .imul, 1), (11, .isub, 1), (12, .ishl, 1), (13, .ireturn, 1)]
set_option maxRecDepth 100000 in
theorem td_Re_letterBits : ∀ q ∈ tb_Re_letterBits, decode c_Re_letterBits q.1 = .ok q.2 := by decide +kernel
def tb_Re_wordOfLanguage : List (Nat × Instr × Nat) := [(0, .iconst 0, 1), (1, .istore_n 2, 1), (2, .iload_n 2, 1), (3, .bipush 14, 2), (5, .if_icmp .ge 21, 3), (8, .aload_n 0, 1), (9, .getfield 18, 3), (12, .iload_n 2, 1), (13, .iaload, 1), (14, .iload_n 1, 1), (15, .if_icmp .ne 5, 3), (18, .iload_n 2, 1), (19, .ireturn, 1), (20, .iinc 2 1, 3), (23, .goto (-21), 3), (26, .iconst (-1), 1), (27, .ireturn, 1)]
set_option maxRecDepth 100000 in
theorem td_Re_wordOfLanguage : ∀ q ∈ tb_Re_wordOfLanguage, decode c_Re_wordOfLanguage q.1 = .ok q.2 := by decide +kernel
def tb_Re_cutWord : List (Nat × Instr × Nat) := [(0, .iconst 0, 1), (1, .istore_n 1, 1), (2, .iconst 0, 1), (3, .istore_n 2, 1), (4, .aload_n 0, 1), (5, .invokevirtual 169, 3), (8, .istore_n 3, 1), (9, .iconst 0, 1), (10, .istore 4, 2), (12, .iload 4, 2), (14, .sipush 700, 3), (17, .if_icmp .ge 48, 3), (20, .iload_n 3, 1), (21, .invokestatic 175, 3), (24, .ifCond .eq 41, 3), (27, .iload_n 2, 1), (28, .bipush 6, 2), (30, .if_icmp .ge 11, 3), (33, .iload_n 1, 1), (34, .iload_n 3, 1), (35, .iload_n 2, 1), (36, .invokestatic 188, 3), (39, .ior, 1), (40, .istore_n 1, 1), (41, .iinc 2 1, 3), (44, .aload_n 0, 1), (45, .dup, 1), (46, .getfield 163, 3), (49, .iconst 1, 1), (50, .iadd, 1), (51, .putfield 163, 3), (54, .aload_n 0, 1), (55, .invokevirtual 169, 3), (58, .istore_n 3, 1), (59, .iinc 4 1, 3), (62, .goto (-50), 3), (65, .iload_n 2, 1), (66, .bipush 6, 2), (68, .if_icmp .le 9, 3), (71, .aload_n 0, 1), (72, .iconst 5, 1), (73, .putfield 62, 3), (76, .return_, 1), (77, .aload_n 0, 1), (78, .iload_n 1, 1), (79, .invokevirtual 191, 3), (82, .istore 4, 2), (84, .aload_n 0, 1), (85, .iload 4, 2), (87, .ifCond .lt 7, 3), (90, .iconst 2, 1), (91, .goto 4, 3), (94, .iconst 1, 1), (95, .putfield 62, 3), (98, .aload_n 0, 1), (99, .iload 4, 2), (101, .ifCond .lt 8, 3), (104, .iload 4, 2), (106, .goto 4, 3), (109, .iload_n 1, 1), (110, .putfield 68, 3), (113, .return_, 1)]
set_option maxRecDepth 100000 in
theorem td_Re_cutWord : ∀ q ∈ tb_Re_cutWord, decode c_Re_cutWord q.1 = .ok q.2 := by decide +kernel
def tb_Re_cutToken : List (Nat × Instr × Nat) := [(0, .iload_n 1, 1), (1, .ifCond .ge 11, 3), (4, .aload_n 0, 1), (5, .iconst 0, 1), (6, .putfield 62, 3), (9, .goto 56, 3), (12, .iload_n 1, 1), (13, .invokestatic 175, 3), (16, .ifCond .eq 10, 3), (19, .aload_n 0, 1), (20, .invokevirtual 179, 3), (23, .goto 42, 3), (26, .iload_n 1, 1), (27, .invokestatic 182, 3), (30, .ifCond .eq 10, 3), (33, .aload_n 0, 1), (34, .invokevirtual 185, 3), (37, .goto 28, 3), (40, .aload_n 0, 1), (41, .iload_n 1, 1), (42, .bipush 59, 2), (44, .if_icmp .ne 7, 3), (47, .iconst 4, 1), (48, .goto 4, 3), (51, .iconst 5, 1), (52, .putfield 62, 3), (55, .aload_n 0, 1), (56, .dup, 1), (57, .getfield 163, 3), (60, .iconst 1, 1), (61, .iadd, 1), (62, .putfield 163, 3), (65, .return_, 1)]
set_option maxRecDepth 100000 in
theorem td_Re_cutToken : ∀ q ∈ tb_Re_cutToken, decode c_Re_cutToken q.1 = .ok q.2 := by decide +kernel
def tb_Re_cutAll : List (Nat × Instr × Nat) := [(0, .aload_n 0, 1), (1, .iload_n 1, 1), (2, .putfield 157, 3), (5, .aload_n 0, 1), (6, .iconst 0, 1), (7, .putfield 163, 3), (10, .aload_n 0, 1), (11, .iconst (-1), 1), (12, .putfield 62, 3), (15, .iconst 0, 1), (16, .istore_n 2, 1), (17, .iload_n 2, 1), (18, .sipush 700, 3), (21, .if_icmp .gt 70, 3), (24, .aload_n 0, 1), (25, .getfield 62, 3), (28, .ifCond .eq 63, 3), (31, .aload_n 0, 1), (32, .invokevirtual 166, 3), (35, .aload_n 0, 1), (36, .getfield 28, 3), (39, .iload_n 2, 1), (40, .aload_n 0, 1), (41, .getfield 163, 3), (44, .iastore, 1), (45, .aload_n 0, 1), (46, .iconst 0, 1), (47, .putfield 68, 3), (50, .aload_n 0, 1), (51, .aload_n 0, 1), (52, .invokevirtual 169, 3), (55, .invokevirtual 172, 3), (58, .aload_n 0, 1), (59, .getfield 22, 3), (62, .iload_n 2, 1), (63, .aload_n 0, 1), (64, .getfield 62, 3), (67, .iastore, 1), (68, .aload_n 0, 1), (69, .getfield 25, 3), (72, .iload_n 2, 1), (73, .aload_n 0, 1), (74, .getfield 68, 3), (77, .iastore, 1), (78, .aload_n 0, 1), (79, .iload_n 2, 1), (80, .iconst 1, 1), (81, .iadd, 1), (82, .putfield 59, 3), (85, .iinc 2 1, 3), (88, .goto (-71), 3), (91, .return_, 1)]
set_option maxRecDepth 100000 in
theorem td_Re_cutAll : ∀ q ∈ tb_Re_cutAll, decode c_Re_cutAll q.1 = .ok q.2 := by decide +kernel
def tb_Re_advance : List (Nat × Instr × Nat) := [(0, .aload_n 0, 1), (1, .getfield 53, 3), (4, .ifCond .lt 60, 3), (7, .aload_n 0, 1), (8, .getfield 53, 3), (11, .aload_n 0, 1), (12, .getfield 59, 3), (15, .if_icmp .ge 49, 3), (18, .aload_n 0, 1), (19, .getfield 53, 3), (22, .sipush 700, 3), (25, .if_icmp .gt 39, 3), (28, .aload_n 0, 1), (29, .aload_n 0, 1), (30, .getfield 22, 3), (33, .aload_n 0, 1), (34, .getfield 53, 3), (37, .iaload, 1), (38, .putfield 62, 3), (41, .aload_n 0, 1), (42, .aload_n 0, 1), (43, .getfield 25, 3), (46, .aload_n 0, 1), (47, .getfield 53, 3), (50, .iaload, 1), (51, .putfield 68, 3), (54, .aload_n 0, 1), (55, .dup, 1), (56, .getfield 53, 3), (59, .iconst 1, 1), (60, .iadd, 1), (61, .putfield 53, 3), (64, .return_, 1)]
set_option maxRecDepth 100000 in
theorem td_Re_advance : ∀ q ∈ tb_Re_advance, decode c_Re_advance q.1 = .ok q.2 := by decide +kernel
def tb_Re_refuse : List (Nat × Instr × Nat) := [(0, .aload_n 0, 1), (1, .iload_n 1, 1), (2, .putfield 50, 3), (5, .aload_n 0, 1), (6, .aload_n 0, 1), (7, .getfield 53, 3), (10, .iconst 1, 1), (11, .if_icmp .lt 27, 3), (14, .aload_n 0, 1), (15, .getfield 53, 3), (18, .sipush 701, 3), (21, .if_icmp .gt 17, 3), (24, .aload_n 0, 1), (25, .getfield 28, 3), (28, .aload_n 0, 1), (29, .getfield 53, 3), (32, .iconst 1, 1), (33, .isub, 1), (34, .iaload, 1), (35, .goto 7, 3), (38, .aload_n 0, 1), (39, .getfield 157, 3), (42, .putfield 160, 3), (45, .return_, 1)]
set_option maxRecDepth 100000 in
theorem td_Re_refuse : ∀ q ∈ tb_Re_refuse, decode c_Re_refuse q.1 = .ok q.2 := by decide +kernel
def tb_Re_take : List (Nat × Instr × Nat) := [(0, .aload_n 0, 1), (1, .getfield 50, 3), (4, .ifCond .eq 4, 3), (7, .return_, 1), (8, .aload_n 0, 1), (9, .getfield 62, 3), (12, .iload_n 1, 1), (13, .if_icmp .ne 10, 3), (16, .aload_n 0, 1), (17, .invokevirtual 56, 3), (20, .goto 8, 3), (23, .aload_n 0, 1), (24, .iconst 1, 1), (25, .invokevirtual 71, 3), (28, .return_, 1)]
set_option maxRecDepth 100000 in
theorem td_Re_take : ∀ q ∈ tb_Re_take, decode c_Re_take q.1 = .ok q.2 := by decide +kernel
def tb_Re_number : List (Nat × Instr × Nat) := [(0, .aload_n 0, 1), (1, .getfield 68, 3), (4, .istore_n 3, 1), (5, .aload_n 0, 1), (6, .getfield 50, 3), (9, .ifCond .ne 26, 3), (12, .aload_n 0, 1), (13, .getfield 62, 3), (16, .iconst 3, 1), (17, .if_icmp .ne 18, 3), (20, .iload_n 3, 1), (21, .iload_n 1, 1), (22, .if_icmp .lt 8, 3), (25, .iload_n 3, 1), (26, .iload_n 2, 1), (27, .if_icmp .le 8, 3), (30, .aload_n 0, 1), (31, .iconst 2, 1), (32, .invokevirtual 71, 3), (35, .aload_n 0, 1), (36, .iconst 3, 1), (37, .invokevirtual 86, 3), (40, .iload_n 3, 1), (41, .ireturn, 1)]
set_option maxRecDepth 100000 in
theorem td_Re_number : ∀ q ∈ tb_Re_number, decode c_Re_number q.1 = .ok q.2 := by decide +kernel
def tb_Re_readSetting : List (Nat × Instr × Nat) := [(0, .aload_n 0, 1), (1, .getfield 46, 3), (4, .iload_n 1, 1), (5, .ishr, 1), (6, .iconst 1, 1), (7, .iand, 1), (8, .ifCond .eq 9, 3), (11, .aload_n 0, 1), (12, .iconst 3, 1), (13, .invokevirtual 71, 3), (16, .return_, 1), (17, .aload_n 0, 1), (18, .dup, 1), (19, .getfield 46, 3), (22, .iconst 1, 1), (23, .iload_n 1, 1), (24, .ishl, 1), (25, .ior, 1), (26, .putfield 46, 3), (29, .aload_n 0, 1), (30, .invokevirtual 56, 3), (33, .iload_n 1, 1), (34, .bipush 6, 2), (36, .isub, 1), (37, .tableswitch 172 0 5 #[39, 59, 79, 98, 117, 152], 39), (76, .aload_n 0, 1), (77, .getfield 12, 3), (80, .getfield 148, 3), (83, .iconst 0, 1), (84, .aload_n 0, 1), (85, .iconst 1, 1), (86, .sipush 999, 3), (89, .invokevirtual 108, 3), (92, .iastore, 1), (93, .goto 133, 3), (96, .aload_n 0, 1), (97, .getfield 12, 3), (100, .getfield 148, 3), (103, .iconst 1, 1), (104, .aload_n 0, 1), (105, .iconst 1, 1), (106, .sipush 9999, 3), (109, .invokevirtual 108, 3), (112, .iastore, 1), (113, .goto 113, 3), (116, .aload_n 0, 1), (117, .getfield 12, 3), (120, .getfield 148, 3), (123, .iconst 2, 1), (124, .aload_n 0, 1), (125, .iconst 1, 1), (126, .bipush 100, 2), (128, .invokevirtual 108, 3), (131, .iastore, 1), (132, .goto 94, 3), (135, .aload_n 0, 1), (136, .getfield 12, 3), (139, .getfield 148, 3), (142, .iconst 3, 1), (143, .aload_n 0, 1), (144, .iconst 1, 1), (145, .bipush 9, 2), (147, .invokevirtual 108, 3), (150, .iastore, 1), (151, .goto 75, 3), (154, .aload_n 0, 1), (155, .getfield 12, 3), (158, .getfield 148, 3), (161, .iconst 4, 1), (162, .aload_n 0, 1), (163, .iconst 0, 1), (164, .bipush 9, 2), (166, .invokevirtual 108, 3), (169, .iastore, 1), (170, .aload_n 0, 1), (171, .getfield 12, 3), (174, .getfield 148, 3), (177, .iconst 5, 1), (178, .aload_n 0, 1), (179, .iconst 1, 1), (180, .bipush 99, 2), (182, .invokevirtual 108, 3), (185, .iastore, 1), (186, .goto 40, 3), (189, .aload_n 0, 1), (190, .getfield 12, 3), (193, .getfield 148, 3), (196, .bipush 6, 2), (198, .aload_n 0, 1), (199, .iconst 1, 1), (200, .ldc 151, 2), (202, .invokevirtual 108, 3), (205, .iastore, 1), (206, .goto 20, 3), (209, .aload_n 0, 1), (210, .getfield 12, 3), (213, .getfield 148, 3), (216, .bipush 7, 2), (218, .aload_n 0, 1), (219, .iconst 0, 1), (220, .ldc 124, 2), (222, .invokevirtual 108, 3), (225, .iastore, 1), (226, .return_, 1)]
set_option maxRecDepth 100000 in
theorem td_Re_readSetting : ∀ q ∈ tb_Re_readSetting, decode c_Re_readSetting q.1 = .ok q.2 := by decide +kernel
def tb_Re_toldRail : List (Nat × Instr × Nat) := [(0, .aload_n 0, 1), (1, .getfield 12, 3), (4, .aload_n 0, 1), (5, .getfield 68, 3), (8, .invokevirtual 134, 3), (11, .istore_n 1, 1), (12, .aload_n 0, 1), (13, .getfield 50, 3), (16, .ifCond .ne 20, 3), (19, .aload_n 0, 1), (20, .getfield 62, 3), (23, .iconst 1, 1), (24, .if_icmp .ne 12, 3), (27, .iload_n 1, 1), (28, .ifCond .ge 8, 3), (31, .aload_n 0, 1), (32, .iconst 4, 1), (33, .invokevirtual 71, 3), (36, .aload_n 0, 1), (37, .iconst 1, 1), (38, .invokevirtual 86, 3), (41, .iload_n 1, 1), (42, .iconst 0, 1), (43, .invokestatic 152, 3), (46, .ireturn, 1)]
set_option maxRecDepth 100000 in
theorem td_Re_toldRail : ∀ q ∈ tb_Re_toldRail, decode c_Re_toldRail q.1 = .ok q.2 := by decide +kernel
def tb_Re_readStep : List (Nat × Instr × Nat) := [(0, .aload_n 0, 1), (1, .getfield 12, 3), (4, .getfield 141, 3), (7, .bipush 24, 2), (9, .if_icmp .lt 9, 3), (12, .aload_n 0, 1), (13, .iconst 2, 1), (14, .invokevirtual 71, 3), (17, .return_, 1), (18, .aload_n 0, 1), (19, .invokevirtual 56, 3), (22, .iload_n 1, 1), (23, .iconst 2, 1), (24, .if_icmp .ne 8, 3), (27, .bipush (-2), 2), (29, .goto 7, 3), (32, .aload_n 0, 1), (33, .invokevirtual 131, 3), (36, .istore_n 2, 1), (37, .iload_n 1, 1), (38, .iconst 2, 1), (39, .if_icmp .eq 8, 3), (42, .iload_n 1, 1), (43, .iconst 3, 1), (44, .if_icmp .ne 13, 3), (47, .aload_n 0, 1), (48, .iconst 1, 1), (49, .bipush 99, 2), (51, .invokevirtual 108, 3), (54, .goto 4, 3), (57, .iconst 0, 1), (58, .istore_n 3, 1), (59, .aload_n 0, 1), (60, .getfield 12, 3), (63, .iload_n 1, 1), (64, .iload_n 2, 1), (65, .iload_n 3, 1), (66, .invokevirtual 144, 3), (69, .return_, 1)]
set_option maxRecDepth 100000 in
theorem td_Re_readStep : ∀ q ∈ tb_Re_readStep, decode c_Re_readStep q.1 = .ok q.2 := by decide +kernel
def tb_Re_readNeed : List (Nat × Instr × Nat) := [(0, .aload_n 0, 1), (1, .getfield 12, 3), (4, .getfield 128, 3), (7, .bipush 20, 2), (9, .if_icmp .lt 9, 3), (12, .aload_n 0, 1), (13, .iconst 2, 1), (14, .invokevirtual 71, 3), (17, .return_, 1), (18, .aload_n 0, 1), (19, .invokevirtual 56, 3), (22, .aload_n 0, 1), (23, .invokevirtual 131, 3), (26, .istore_n 1, 1), (27, .aload_n 0, 1), (28, .getfield 50, 3), (31, .ifCond .eq 4, 3), (34, .return_, 1), (35, .aload_n 0, 1), (36, .getfield 62, 3), (39, .iconst 1, 1), (40, .if_icmp .ne 17, 3), (43, .aload_n 0, 1), (44, .getfield 12, 3), (47, .aload_n 0, 1), (48, .getfield 68, 3), (51, .invokevirtual 134, 3), (54, .goto 4, 3), (57, .iconst (-1), 1), (58, .istore_n 2, 1), (59, .iload_n 2, 1), (60, .iload_n 1, 1), (61, .if_icmp .ne 11, 3), (64, .aload_n 0, 1), (65, .iconst 2, 1), (66, .invokevirtual 71, 3), (69, .goto 43, 3), (72, .iload_n 2, 1), (73, .ifCond .lt 27, 3), (76, .aload_n 0, 1), (77, .getfield 12, 3), (80, .getfield 125, 3), (83, .iload_n 1, 1), (84, .iaload, 1), (85, .iload_n 2, 1), (86, .ishr, 1), (87, .iconst 1, 1), (88, .iand, 1), (89, .ifCond .eq 11, 3), (92, .aload_n 0, 1), (93, .iconst 3, 1), (94, .invokevirtual 71, 3), (97, .goto 15, 3), (100, .aload_n 0, 1), (101, .getfield 12, 3), (104, .iload_n 1, 1), (105, .aload_n 0, 1), (106, .invokevirtual 131, 3), (109, .invokevirtual 137, 3), (112, .return_, 1)]
set_option maxRecDepth 100000 in
theorem td_Re_readNeed : ∀ q ∈ tb_Re_readNeed, decode c_Re_readNeed q.1 = .ok q.2 := by decide +kernel
def tb_Re_freshName : List (Nat × Instr × Nat) := [(0, .aload_n 0, 1), (1, .getfield 68, 3), (4, .istore_n 1, 1), (5, .aload_n 0, 1), (6, .getfield 50, 3), (9, .ifCond .ne 27, 3), (12, .aload_n 0, 1), (13, .getfield 62, 3), (16, .iconst 1, 1), (17, .if_icmp .ne 19, 3), (20, .aload_n 0, 1), (21, .getfield 12, 3), (24, .iload_n 1, 1), (25, .invokevirtual 134, 3), (28, .ifCond .lt 8, 3), (31, .aload_n 0, 1), (32, .iconst 3, 1), (33, .invokevirtual 71, 3), (36, .aload_n 0, 1), (37, .iconst 1, 1), (38, .invokevirtual 86, 3), (41, .iload_n 1, 1), (42, .ireturn, 1)]
set_option maxRecDepth 100000 in
theorem td_Re_freshName : ∀ q ∈ tb_Re_freshName, decode c_Re_freshName q.1 = .ok q.2 := by decide +kernel
def tb_Re_parentOrSource : List (Nat × Instr × Nat) := [(0, .aload_n 0, 1), (1, .getfield 62, 3), (4, .iconst 2, 1), (5, .if_icmp .ne 20, 3), (8, .aload_n 0, 1), (9, .getfield 68, 3), (12, .bipush 13, 2), (14, .if_icmp .ne 11, 3), (17, .aload_n 0, 1), (18, .iconst 2, 1), (19, .invokevirtual 86, 3), (22, .bipush (-2), 2), (24, .ireturn, 1), (25, .aload_n 0, 1), (26, .invokevirtual 131, 3), (29, .ireturn, 1)]
set_option maxRecDepth 100000 in
theorem td_Re_parentOrSource : ∀ q ∈ tb_Re_parentOrSource, decode c_Re_parentOrSource q.1 = .ok q.2 := by decide +kernel
def tb_Re_readRail : List (Nat × Instr × Nat) := [(0, .aload_n 0, 1), (1, .getfield 12, 3), (4, .getfield 89, 3), (7, .bipush 12, 2), (9, .if_icmp .lt 9, 3), (12, .aload_n 0, 1), (13, .iconst 2, 1), (14, .invokevirtual 71, 3), (17, .return_, 1), (18, .aload_n 0, 1), (19, .getfield 12, 3), (22, .getfield 89, 3), (25, .istore_n 1, 1), (26, .aload_n 0, 1), (27, .invokevirtual 56, 3), (30, .aload_n 0, 1), (31, .getfield 12, 3), (34, .getfield 92, 3), (37, .iload_n 1, 1), (38, .aload_n 0, 1), (39, .invokevirtual 95, 3), (42, .iastore, 1), (43, .aload_n 0, 1), (44, .getfield 12, 3), (47, .getfield 99, 3), (50, .iload_n 1, 1), (51, .aload_n 0, 1), (52, .invokevirtual 102, 3), (55, .iastore, 1), (56, .aload_n 0, 1), (57, .getfield 12, 3), (60, .getfield 105, 3), (63, .iload_n 1, 1), (64, .aload_n 0, 1), (65, .iconst 1, 1), (66, .sipush 9999, 3), (69, .invokevirtual 108, 3), (72, .iastore, 1), (73, .aload_n 0, 1), (74, .getfield 12, 3), (77, .getfield 112, 3), (80, .iload_n 1, 1), (81, .aload_n 0, 1), (82, .iconst 1, 1), (83, .sipush 9999, 3), (86, .invokevirtual 108, 3), (89, .iastore, 1), (90, .aload_n 0, 1), (91, .getfield 12, 3), (94, .getfield 115, 3), (97, .iload_n 1, 1), (98, .aload_n 0, 1), (99, .iconst 0, 1), (100, .bipush 99, 2), (102, .invokevirtual 108, 3), (105, .iastore, 1), (106, .aload_n 0, 1), (107, .getfield 12, 3), (110, .getfield 118, 3), (113, .iload_n 1, 1), (114, .aload_n 0, 1), (115, .iconst 0, 1), (116, .sipush 999, 3), (119, .invokevirtual 108, 3), (122, .iastore, 1), (123, .aload_n 0, 1), (124, .getfield 12, 3), (127, .getfield 121, 3), (130, .iload_n 1, 1), (131, .aload_n 0, 1), (132, .iconst 1, 1), (133, .ldc 124, 2), (135, .invokevirtual 108, 3), (138, .iastore, 1), (139, .aload_n 0, 1), (140, .getfield 12, 3), (143, .getfield 125, 3), (146, .iload_n 1, 1), (147, .iconst 0, 1), (148, .iastore, 1), (149, .aload_n 0, 1), (150, .getfield 12, 3), (153, .dup, 1), (154, .getfield 89, 3), (157, .iconst 1, 1), (158, .iadd, 1), (159, .putfield 89, 3), (162, .return_, 1)]
set_option maxRecDepth 100000 in
theorem td_Re_readRail : ∀ q ∈ tb_Re_readRail, decode c_Re_readRail q.1 = .ok q.2 := by decide +kernel
def tb_Re_readLine : List (Nat × Instr × Nat) := [(0, .aload_n 0, 1), (1, .getfield 62, 3), (4, .iconst 2, 1), (5, .if_icmp .ne 12, 3), (8, .aload_n 0, 1), (9, .getfield 68, 3), (12, .bipush 13, 2), (14, .if_icmp .ne 11, 3), (17, .aload_n 0, 1), (18, .iconst 1, 1), (19, .invokevirtual 71, 3), (22, .goto 62, 3), (25, .aload_n 0, 1), (26, .getfield 68, 3), (29, .ifCond .ne 10, 3), (32, .aload_n 0, 1), (33, .invokevirtual 74, 3), (36, .goto 48, 3), (39, .aload_n 0, 1), (40, .getfield 68, 3), (43, .iconst 1, 1), (44, .if_icmp .ne 10, 3), (47, .aload_n 0, 1), (48, .invokevirtual 77, 3), (51, .goto 33, 3), (54, .aload_n 0, 1), (55, .getfield 68, 3), (58, .bipush 6, 2), (60, .if_icmp .ge 16, 3), (63, .aload_n 0, 1), (64, .aload_n 0, 1), (65, .getfield 68, 3), (68, .iconst 2, 1), (69, .isub, 1), (70, .invokevirtual 80, 3), (73, .goto 11, 3), (76, .aload_n 0, 1), (77, .aload_n 0, 1), (78, .getfield 68, 3), (81, .invokevirtual 83, 3), (84, .aload_n 0, 1), (85, .iconst 4, 1), (86, .invokevirtual 86, 3), (89, .return_, 1)]
set_option maxRecDepth 100000 in
theorem td_Re_readLine : ∀ q ∈ tb_Re_readLine, decode c_Re_readLine q.1 = .ok q.2 := by decide +kernel
def tb_Re_readAll : List (Nat × Instr × Nat) := [(0, .aload_n 0, 1), (1, .iload_n 1, 1), (2, .invokevirtual 39, 3), (5, .aload_n 0, 1), (6, .getfield 12, 3), (9, .invokevirtual 43, 3), (12, .aload_n 0, 1), (13, .iconst 0, 1), (14, .putfield 46, 3), (17, .aload_n 0, 1), (18, .iconst 0, 1), (19, .putfield 50, 3), (22, .aload_n 0, 1), (23, .iconst 0, 1), (24, .putfield 53, 3), (27, .aload_n 0, 1), (28, .invokevirtual 56, 3), (31, .iconst 0, 1), (32, .istore_n 2, 1), (33, .iconst 0, 1), (34, .istore_n 3, 1), (35, .iload_n 3, 1), (36, .aload_n 0, 1), (37, .getfield 59, 3), (40, .if_icmp .ge 30, 3), (43, .aload_n 0, 1), (44, .getfield 62, 3), (47, .ifCond .eq 23, 3), (50, .aload_n 0, 1), (51, .getfield 50, 3), (54, .ifCond .ne 16, 3), (57, .aload_n 0, 1), (58, .invokevirtual 65, 3), (61, .iinc 2 1, 3), (64, .iinc 3 1, 3), (67, .goto (-32), 3), (70, .iload_n 2, 1), (71, .ireturn, 1)]
set_option maxRecDepth 100000 in
theorem td_Re_readAll : ∀ q ∈ tb_Re_readAll, decode c_Re_readAll q.1 = .ok q.2 := by decide +kernel
def tb_Ri_within : List (Nat × Instr × Nat) := [(0, .iconst 0, 1), (1, .istore_n 1, 1), (2, .iconst 0, 1), (3, .istore_n 2, 1), (4, .iload_n 2, 1), (5, .aload_n 0, 1), (6, .getfield 9, 3), (9, .if_icmp .ge 22, 3), (12, .iload_n 1, 1), (13, .aload_n 0, 1), (14, .getfield 15, 3), (17, .iload_n 2, 1), (18, .iaload, 1), (19, .iconst 1, 1), (20, .iload_n 2, 1), (21, .ishl, 1), (22, .iand, 1), (23, .ior, 1), (24, .istore_n 1, 1), (25, .iinc 2 1, 3), (28, .goto (-24), 3), (31, .iload_n 1, 1), (32, .ireturn, 1)]
set_option maxRecDepth 100000 in
theorem td_Ri_within : ∀ q ∈ tb_Ri_within, decode c_Ri_within q.1 = .ok q.2 := by decide +kernel
def tb_Ri_withinOrAbove : List (Nat × Instr × Nat) := [(0, .aload_n 0, 1), (1, .invokestatic 19, 3), (4, .istore_n 1, 1), (5, .iload_n 1, 1), (6, .istore_n 2, 1), (7, .iconst 0, 1), (8, .istore_n 3, 1), (9, .iload_n 3, 1), (10, .aload_n 0, 1), (11, .getfield 9, 3), (14, .if_icmp .ge 26, 3), (17, .aload_n 0, 1), (18, .getfield 15, 3), (21, .iload_n 3, 1), (22, .iaload, 1), (23, .iload_n 1, 1), (24, .iand, 1), (25, .ifCond .eq 9, 3), (28, .iload_n 2, 1), (29, .iconst 1, 1), (30, .iload_n 3, 1), (31, .ishl, 1), (32, .ior, 1), (33, .istore_n 2, 1), (34, .iinc 3 1, 3), (37, .goto (-28), 3), (40, .iload_n 2, 1), (41, .ireturn, 1)]
set_option maxRecDepth 100000 in
theorem td_Ri_withinOrAbove : ∀ q ∈ tb_Ri_withinOrAbove, decode c_Ri_withinOrAbove q.1 = .ok q.2 := by decide +kernel
def tb_Ri_lowest : List (Nat × Instr × Nat) := [(0, .iconst 0, 1), (1, .istore_n 1, 1), (2, .iload_n 1, 1), (3, .bipush 12, 2), (5, .if_icmp .ge 17, 3), (8, .iload_n 0, 1), (9, .iload_n 1, 1), (10, .ishr, 1), (11, .iconst 1, 1), (12, .iand, 1), (13, .ifCond .ne 9, 3), (16, .iinc 1 1, 3), (19, .goto (-17), 3), (22, .iload_n 1, 1), (23, .ireturn, 1)]
set_option maxRecDepth 100000 in
theorem td_Ri_lowest : ∀ q ∈ tb_Ri_lowest, decode c_Ri_lowest q.1 = .ok q.2 := by decide +kernel
def tb_Ri_reaching : List (Nat × Instr × Nat) := [(0, .iconst 1, 1), (1, .iload_n 1, 1), (2, .ishl, 1), (3, .istore_n 3, 1), (4, .iconst 0, 1), (5, .istore 4, 2), (7, .iload 4, 2), (9, .iload_n 2, 1), (10, .if_icmp .ge 61, 3), (13, .iload 4, 2), (15, .bipush 12, 2), (17, .if_icmp .ge 54, 3), (20, .iload_n 3, 1), (21, .istore 5, 2), (23, .iconst 0, 1), (24, .istore 6, 2), (26, .iload 6, 2), (28, .aload_n 0, 1), (29, .getfield 9, 3), (32, .if_icmp .ge 30, 3), (35, .aload_n 0, 1), (36, .getfield 33, 3), (39, .iload 6, 2), (41, .iaload, 1), (42, .iload_n 3, 1), (43, .iand, 1), (44, .ifCond .eq 12, 3), (47, .iload 5, 2), (49, .iconst 1, 1), (50, .iload 6, 2), (52, .ishl, 1), (53, .ior, 1), (54, .istore 5, 2), (56, .iinc 6 1, 3), (59, .goto (-33), 3), (62, .iload 5, 2), (64, .istore_n 3, 1), (65, .iinc 4 1, 3), (68, .goto (-61), 3), (71, .iload_n 3, 1), (72, .ireturn, 1)]
set_option maxRecDepth 100000 in
theorem td_Ri_reaching : ∀ q ∈ tb_Ri_reaching, decode c_Ri_reaching q.1 = .ok q.2 := by decide +kernel
def tb_Ri_linksBack : List (Nat × Instr × Nat) := [(0, .iconst 1, 1), (1, .istore_n 2, 1), (2, .iload_n 2, 1), (3, .aload_n 0, 1), (4, .getfield 9, 3), (7, .if_icmp .gt 29, 3), (10, .aload_n 0, 1), (11, .getfield 33, 3), (14, .iload_n 1, 1), (15, .iaload, 1), (16, .aload_n 0, 1), (17, .iload_n 1, 1), (18, .iload_n 2, 1), (19, .iconst 1, 1), (20, .isub, 1), (21, .invokestatic 36, 3), (24, .iand, 1), (25, .ifCond .eq 5, 3), (28, .iload_n 2, 1), (29, .ireturn, 1), (30, .iinc 2 1, 3), (33, .goto (-31), 3), (36, .iconst 0, 1), (37, .ireturn, 1)]
set_option maxRecDepth 100000 in
theorem td_Ri_linksBack : ∀ q ∈ tb_Ri_linksBack, decode c_Ri_linksBack q.1 = .ok q.2 := by decide +kernel
def tb_Ri_railAt : List (Nat × Instr × Nat) := [(0, .aload_n 0, 1), (1, .invokestatic 19, 3), (4, .istore_n 2, 1), (5, .iload_n 2, 1), (6, .ifCond .ne 6, 3), (9, .bipush (-2), 2), (11, .ireturn, 1), (12, .iload_n 2, 1), (13, .invokestatic 25, 3), (16, .istore_n 3, 1), (17, .aload_n 0, 1), (18, .iload_n 3, 1), (19, .invokestatic 29, 3), (22, .istore 4, 2), (24, .iload_n 3, 1), (25, .istore 5, 2), (27, .iconst 0, 1), (28, .istore 6, 2), (30, .iload 6, 2), (32, .iload_n 1, 1), (33, .if_icmp .ge 56, 3), (36, .iload 6, 2), (38, .bipush 12, 2), (40, .if_icmp .ge 49, 3), (43, .iinc 4 (-1), 3), (46, .aload_n 0, 1), (47, .getfield 33, 3), (50, .iload 5, 2), (52, .iaload, 1), (53, .aload_n 0, 1), (54, .iload_n 3, 1), (55, .iload 4, 2), (57, .invokestatic 36, 3), (60, .iand, 1), (61, .istore 7, 2), (63, .iload 4, 2), (65, .ifCond .le 8, 3), (68, .iload 7, 2), (70, .ifCond .ne 6, 3), (73, .bipush (-2), 2), (75, .ireturn, 1), (76, .iload 7, 2), (78, .invokestatic 25, 3), (81, .istore 5, 2), (83, .iinc 6 1, 3), (86, .goto (-56), 3), (89, .iload 5, 2), (91, .ireturn, 1)]
set_option maxRecDepth 100000 in
theorem td_Ri_railAt : ∀ q ∈ tb_Ri_railAt, decode c_Ri_railAt q.1 = .ok q.2 := by decide +kernel
def tb_PR_putWord : List (Nat × Instr × Nat) := [(0, .bipush 24, 2), (2, .istore_n 2, 1), (3, .iload_n 2, 1), (4, .ifCond .lt 42, 3), (7, .aload_n 0, 1), (8, .getfield 55, 3), (11, .sipush 700, 3), (14, .if_icmp .ge 32, 3), (17, .aload_n 0, 1), (18, .getfield 9, 3), (21, .aload_n 0, 1), (22, .getfield 55, 3), (25, .iload_n 1, 1), (26, .iload_n 2, 1), (27, .ishr, 1), (28, .i2b, 1), (29, .bastore, 1), (30, .aload_n 0, 1), (31, .dup, 1), (32, .getfield 55, 3), (35, .iconst 1, 1), (36, .iadd, 1), (37, .putfield 55, 3), (40, .iinc 2 (-8), 3), (43, .goto (-40), 3), (46, .return_, 1)]
set_option maxRecDepth 100000 in
theorem td_PR_putWord : ∀ q ∈ tb_PR_putWord, decode c_PR_putWord q.1 = .ok q.2 := by decide +kernel
def tb_PR_feed : List (Nat × Instr × Nat) := [(0, .aload_n 0, 1), (1, .getfield 55, 3), (4, .bipush 20, 2), (6, .iadd, 1), (7, .sipush 700, 3), (10, .if_icmp .le 5, 3), (13, .iconst (-1), 1), (14, .ireturn, 1), (15, .aload_n 0, 1), (16, .iload_n 1, 1), (17, .invokevirtual 58, 3), (20, .aload_n 0, 1), (21, .iload_n 2, 1), (22, .invokevirtual 58, 3), (25, .aload_n 0, 1), (26, .iload_n 3, 1), (27, .invokevirtual 58, 3), (30, .aload_n 0, 1), (31, .iload 4, 2), (33, .invokevirtual 58, 3), (36, .aload_n 0, 1), (37, .iload 5, 2), (39, .invokevirtual 58, 3), (42, .aload_n 0, 1), (43, .getfield 55, 3), (46, .ireturn, 1)]
set_option maxRecDepth 100000 in
theorem td_PR_feed : ∀ q ∈ tb_PR_feed, decode c_PR_feed q.1 = .ok q.2 := by decide +kernel
def tb_PR_forgetPast : List (Nat × Instr × Nat) := [(0, .aload_n 0, 1), (1, .iconst 0, 1), (2, .putfield 303, 3), (5, .aload_n 0, 1), (6, .iconst 0, 1), (7, .putfield 270, 3), (10, .return_, 1)]
set_option maxRecDepth 100000 in
theorem td_PR_forgetPast : ∀ q ∈ tb_PR_forgetPast, decode c_PR_forgetPast q.1 = .ok q.2 := by decide +kernel
def tb_PR_text : List (Nat × Instr × Nat) := [(0, .iload_n 1, 1), (1, .ifCond .lt 11, 3), (4, .iload_n 1, 1), (5, .aload_n 0, 1), (6, .getfield 55, 3), (9, .if_icmp .le 6, 3), (12, .bipush (-2), 2), (14, .ireturn, 1), (15, .aload_n 0, 1), (16, .iconst 0, 1), (17, .putfield 55, 3), (20, .aload_n 0, 1), (21, .getfield 18, 3), (24, .iload_n 1, 1), (25, .invokevirtual 62, 3), (28, .istore_n 2, 1), (29, .aload_n 0, 1), (30, .aload_n 0, 1), (31, .getfield 18, 3), (34, .getfield 66, 3), (37, .putfield 69, 3), (40, .aload_n 0, 1), (41, .aload_n 0, 1), (42, .getfield 18, 3), (45, .getfield 66, 3), (48, .ifCond .ne 7, 3), (51, .iconst (-1), 1), (52, .goto 10, 3), (55, .aload_n 0, 1), (56, .getfield 18, 3), (59, .getfield 72, 3), (62, .putfield 35, 3), (65, .aload_n 0, 1), (66, .getfield 18, 3), (69, .getfield 66, 3), (72, .ifCond .eq 5, 3), (75, .iconst (-1), 1), (76, .ireturn, 1), (77, .aload_n 0, 1), (78, .getfield 31, 3), (81, .astore_n 3, 1), (82, .aload_n 0, 1), (83, .aload_n 0, 1), (84, .getfield 18, 3), (87, .getfield 75, 3), (90, .putfield 31, 3), (93, .aload_n 0, 1), (94, .getfield 18, 3), (97, .aload_n 3, 1), (98, .putfield 75, 3), (101, .aload_n 0, 1), (102, .getfield 31, 3), (105, .invokevirtual 76, 3), (108, .aload_n 0, 1), (109, .getfield 49, 3), (112, .aload_n 0, 1), (113, .getfield 31, 3), (116, .invokevirtual 79, 3), (119, .aload_n 0, 1), (120, .iconst 0, 1), (121, .putfield 82, 3), (124, .aload_n 0, 1), (125, .invokevirtual 86, 3), (128, .iload_n 2, 1), (129, .ireturn, 1)]
set_option maxRecDepth 100000 in
theorem td_PR_text : ∀ q ∈ tb_PR_text, decode c_PR_text q.1 = .ok q.2 := by decide +kernel
def tb_PR_fault : List (Nat × Instr × Nat) := [(0, .iload_n 1, 1), (1, .lookupswitch 37 #[(0, 27), (1, 32)], 27), (28, .aload_n 0, 1), (29, .getfield 69, 3), (32, .ireturn, 1), (33, .aload_n 0, 1), (34, .getfield 35, 3), (37, .ireturn, 1), (38, .iconst (-1), 1), (39, .ireturn, 1)]
set_option maxRecDepth 100000 in
theorem td_PR_fault : ∀ q ∈ tb_PR_fault, decode c_PR_fault q.1 = .ok q.2 := by decide +kernel
def tb_PR_named : List (Nat × Instr × Nat) := [(0, .aload_n 0, 1), (1, .getfield 31, 3), (4, .iload_n 1, 1), (5, .invokevirtual 89, 3), (8, .ireturn, 1)]
set_option maxRecDepth 100000 in
theorem td_PR_named : ∀ q ∈ tb_PR_named, decode c_PR_named q.1 = .ok q.2 := by decide +kernel
def tb_PR_remember : List (Nat × Instr × Nat) := [(0, .aload_n 0, 1), (1, .getfield 270, 3), (4, .bipush 20, 2), (6, .if_icmp .ne 26, 3), (9, .aload_n 0, 1), (10, .aload_n 0, 1), (11, .getfield 303, 3), (14, .iconst 1, 1), (15, .iadd, 1), (16, .bipush 20, 2), (18, .irem, 1), (19, .putfield 303, 3), (22, .aload_n 0, 1), (23, .dup, 1), (24, .getfield 270, 3), (27, .iconst 1, 1), (28, .isub, 1), (29, .putfield 270, 3), (32, .aload_n 0, 1), (33, .getfield 24, 3), (36, .aload_n 0, 1), (37, .getfield 303, 3), (40, .aload_n 0, 1), (41, .getfield 270, 3), (44, .iadd, 1), (45, .bipush 20, 2), (47, .irem, 1), (48, .aaload, 1), (49, .aload_n 0, 1), (50, .getfield 49, 3), (53, .invokevirtual 273, 3), (56, .aload_n 0, 1), (57, .dup, 1), (58, .getfield 270, 3), (61, .iconst 1, 1), (62, .iadd, 1), (63, .putfield 270, 3), (66, .return_, 1)]
set_option maxRecDepth 100000 in
theorem td_PR_remember : ∀ q ∈ tb_PR_remember, decode c_PR_remember q.1 = .ok q.2 := by decide +kernel
def tb_PR_tick : List (Nat × Instr × Nat) := [(0, .iload_n 1, 1), (1, .iconst 1, 1), (2, .if_icmp .lt 9, 3), (5, .iload_n 1, 1), (6, .bipush 50, 2), (8, .if_icmp .le 5, 3), (11, .iconst (-1), 1), (12, .ireturn, 1), (13, .aload_n 0, 1), (14, .getfield 49, 3), (17, .getfield 92, 3), (20, .iload_n 1, 1), (21, .iadd, 1), (22, .sipush 9999, 3), (25, .if_icmp .le 6, 3), (28, .bipush (-2), 2), (30, .ireturn, 1), (31, .aload_n 0, 1), (32, .invokevirtual 95, 3), (35, .iconst 0, 1), (36, .istore_n 2, 1), (37, .iload_n 2, 1), (38, .iload_n 1, 1), (39, .if_icmp .ge 16, 3), (42, .aload_n 0, 1), (43, .getfield 49, 3), (46, .invokevirtual 98, 3), (49, .iinc 2 1, 3), (52, .goto (-15), 3), (55, .aload_n 0, 1), (56, .getfield 49, 3), (59, .getfield 92, 3), (62, .ireturn, 1)]
set_option maxRecDepth 100000 in
theorem td_PR_tick : ∀ q ∈ tb_PR_tick, decode c_PR_tick q.1 = .ok q.2 := by decide +kernel
def tb_PR_isRail : List (Nat × Instr × Nat) := [(0, .iload_n 1, 1), (1, .ifCond .lt 18, 3), (4, .iload_n 1, 1), (5, .aload_n 0, 1), (6, .getfield 31, 3), (9, .getfield 254, 3), (12, .if_icmp .ge 7, 3), (15, .iconst 1, 1), (16, .goto 4, 3), (19, .iconst 0, 1), (20, .ireturn, 1)]
set_option maxRecDepth 100000 in
theorem td_PR_isRail : ∀ q ∈ tb_PR_isRail, decode c_PR_isRail q.1 = .ok q.2 := by decide +kernel
def tb_PR_ask : List (Nat × Instr × Nat) := [(0, .aload_n 0, 1), (1, .iload_n 1, 1), (2, .invokevirtual 101, 3), (5, .ifCond .ne 5, 3), (8, .iconst (-1), 1), (9, .ireturn, 1), (10, .aload_n 0, 1), (11, .invokevirtual 95, 3), (14, .aload_n 0, 1), (15, .getfield 49, 3), (18, .iload_n 1, 1), (19, .iload_n 2, 1), (20, .invokevirtual 105, 3), (23, .aload_n 0, 1), (24, .getfield 49, 3), (27, .getfield 109, 3), (30, .iload_n 1, 1), (31, .aaload, 1), (32, .getfield 113, 3), (35, .ireturn, 1)]
set_option maxRecDepth 100000 in
theorem td_PR_ask : ∀ q ∈ tb_PR_ask, decode c_PR_ask q.1 = .ok q.2 := by decide +kernel
def tb_PR_begin : List (Nat × Instr × Nat) := [(0, .aload_n 0, 1), (1, .getfield 31, 3), (4, .getfield 118, 3), (7, .ifCond .ne 5, 3), (10, .iconst (-1), 1), (11, .ireturn, 1), (12, .aload_n 0, 1), (13, .getfield 49, 3), (16, .getfield 121, 3), (19, .iconst 1, 1), (20, .if_icmp .ne 6, 3), (23, .bipush (-2), 2), (25, .ireturn, 1), (26, .aload_n 0, 1), (27, .invokevirtual 95, 3), (30, .aload_n 0, 1), (31, .getfield 49, 3), (34, .invokevirtual 124, 3), (37, .aload_n 0, 1), (38, .getfield 31, 3), (41, .getfield 118, 3), (44, .ireturn, 1)]
set_option maxRecDepth 100000 in
theorem td_PR_begin : ∀ q ∈ tb_PR_begin, decode c_PR_begin q.1 = .ok q.2 := by decide +kernel
def tb_PR_load : List (Nat × Instr × Nat) := [(0, .aload_n 0, 1), (1, .iload_n 1, 1), (2, .invokevirtual 101, 3), (5, .ifCond .eq 14, 3), (8, .iload_n 2, 1), (9, .ifCond .lt 10, 3), (12, .iload_n 2, 1), (13, .sipush 9999, 3), (16, .if_icmp .le 5, 3), (19, .iconst (-1), 1), (20, .ireturn, 1), (21, .aload_n 0, 1), (22, .invokevirtual 95, 3), (25, .aload_n 0, 1), (26, .getfield 49, 3), (29, .getfield 109, 3), (32, .iload_n 1, 1), (33, .aaload, 1), (34, .getfield 127, 3), (37, .istore_n 3, 1), (38, .aload_n 0, 1), (39, .getfield 49, 3), (42, .getfield 109, 3), (45, .iload_n 1, 1), (46, .aaload, 1), (47, .iload_n 2, 1), (48, .putfield 127, 3), (51, .iload_n 3, 1), (52, .ireturn, 1)]
set_option maxRecDepth 100000 in
theorem td_PR_load : ∀ q ∈ tb_PR_load, decode c_PR_load q.1 = .ok q.2 := by decide +kernel
def tb_PR_limit : List (Nat × Instr × Nat) := [(0, .aload_n 0, 1), (1, .iload_n 1, 1), (2, .invokevirtual 101, 3), (5, .ifCond .eq 14, 3), (8, .iload_n 2, 1), (9, .iconst 1, 1), (10, .if_icmp .lt 9, 3), (13, .iload_n 2, 1), (14, .ldc 130, 2), (16, .if_icmp .le 5, 3), (19, .iconst (-1), 1), (20, .ireturn, 1), (21, .aload_n 0, 1), (22, .invokevirtual 95, 3), (25, .aload_n 0, 1), (26, .getfield 49, 3), (29, .getfield 109, 3), (32, .iload_n 1, 1), (33, .aaload, 1), (34, .getfield 131, 3), (37, .istore_n 3, 1), (38, .aload_n 0, 1), (39, .getfield 49, 3), (42, .getfield 109, 3), (45, .iload_n 1, 1), (46, .aaload, 1), (47, .iload_n 2, 1), (48, .putfield 131, 3), (51, .iload_n 3, 1), (52, .ireturn, 1)]
set_option maxRecDepth 100000 in
theorem td_PR_limit : ∀ q ∈ tb_PR_limit, decode c_PR_limit q.1 = .ok q.2 := by decide +kernel
def tb_PR_hangs : List (Nat × Instr × Nat) := [(0, .aload_n 0, 1), (1, .iload_n 1, 1), (2, .invokevirtual 101, 3), (5, .ifCond .ne 5, 3), (8, .iconst (-1), 1), (9, .ireturn, 1), (10, .iload_n 2, 1), (11, .tableswitch 55 0 2 #[25, 35, 45], 25), (36, .aload_n 0, 1), (37, .getfield 31, 3), (40, .getfield 177, 3), (43, .iload_n 1, 1), (44, .iaload, 1), (45, .ireturn, 1), (46, .aload_n 0, 1), (47, .getfield 31, 3), (50, .getfield 180, 3), (53, .iload_n 1, 1), (54, .iaload, 1), (55, .ireturn, 1), (56, .aload_n 0, 1), (57, .getfield 31, 3), (60, .getfield 183, 3), (63, .iload_n 1, 1), (64, .iaload, 1), (65, .ireturn, 1), (66, .iconst (-1), 1), (67, .ireturn, 1)]
set_option maxRecDepth 100000 in
theorem td_PR_hangs : ∀ q ∈ tb_PR_hangs, decode c_PR_hangs q.1 = .ok q.2 := by decide +kernel
def tb_PR_waiting : List (Nat × Instr × Nat) := [(0, .iload_n 1, 1), (1, .ifCond .ge 5, 3), (4, .iconst (-1), 1), (5, .ireturn, 1), (6, .iload_n 2, 1), (7, .ifCond .eq 17, 3), (10, .aload_n 0, 1), (11, .getfield 49, 3), (14, .getfield 186, 3), (17, .iload_n 1, 1), (18, .invokevirtual 190, 3), (21, .goto 14, 3), (24, .aload_n 0, 1), (25, .getfield 49, 3), (28, .getfield 195, 3), (31, .iload_n 1, 1), (32, .invokevirtual 190, 3), (35, .ireturn, 1)]
set_option maxRecDepth 100000 in
theorem td_PR_waiting : ∀ q ∈ tb_PR_waiting, decode c_PR_waiting q.1 = .ok q.2 := by decide +kernel
def tb_PR_sequence : List (Nat × Instr × Nat) := [(0, .iload_n 1, 1), (1, .tableswitch 51 0 2 #[27, 35, 43], 27), (28, .aload_n 0, 1), (29, .getfield 49, 3), (32, .getfield 121, 3), (35, .ireturn, 1), (36, .aload_n 0, 1), (37, .getfield 49, 3), (40, .getfield 198, 3), (43, .ireturn, 1), (44, .aload_n 0, 1), (45, .getfield 49, 3), (48, .getfield 201, 3), (51, .ireturn, 1), (52, .iconst (-1), 1), (53, .ireturn, 1)]
set_option maxRecDepth 100000 in
theorem td_PR_sequence : ∀ q ∈ tb_PR_sequence, decode c_PR_sequence q.1 = .ok q.2 := by decide +kernel
def tb_PR_step : List (Nat × Instr × Nat) := [(0, .iload_n 1, 1), (1, .ifCond .lt 14, 3), (4, .iload_n 1, 1), (5, .aload_n 0, 1), (6, .getfield 31, 3), (9, .getfield 118, 3), (12, .if_icmp .lt 5, 3), (15, .iconst (-1), 1), (16, .ireturn, 1), (17, .iload_n 2, 1), (18, .tableswitch 56 0 2 #[26, 36, 46], 26), (44, .aload_n 0, 1), (45, .getfield 31, 3), (48, .getfield 204, 3), (51, .iload_n 1, 1), (52, .iaload, 1), (53, .ireturn, 1), (54, .aload_n 0, 1), (55, .getfield 31, 3), (58, .getfield 207, 3), (61, .iload_n 1, 1), (62, .iaload, 1), (63, .ireturn, 1), (64, .aload_n 0, 1), (65, .getfield 31, 3), (68, .getfield 210, 3), (71, .iload_n 1, 1), (72, .iaload, 1), (73, .ireturn, 1), (74, .iconst (-1), 1), (75, .ireturn, 1)]
set_option maxRecDepth 100000 in
theorem td_PR_step : ∀ q ∈ tb_PR_step, decode c_PR_step q.1 = .ok q.2 := by decide +kernel
def tb_PR_why : List (Nat × Instr × Nat) := [(0, .aload_n 0, 1), (1, .iload_n 1, 1), (2, .invokevirtual 101, 3), (5, .ifCond .ne 5, 3), (8, .iconst (-1), 1), (9, .ireturn, 1), (10, .aload_n 0, 1), (11, .getfield 49, 3), (14, .getfield 109, 3), (17, .iload_n 1, 1), (18, .aaload, 1), (19, .getfield 113, 3), (22, .iconst 1, 1), (23, .if_icmp .eq 6, 3), (26, .bipush (-2), 2), (28, .ireturn, 1), (29, .aload_n 0, 1), (30, .getfield 49, 3), (33, .iload_n 1, 1), (34, .aload_n 0, 1), (35, .getfield 49, 3), (38, .invokevirtual 213, 3), (41, .invokevirtual 217, 3), (44, .ireturn, 1)]
set_option maxRecDepth 100000 in
theorem td_PR_why : ∀ q ∈ tb_PR_why, decode c_PR_why q.1 = .ok q.2 := by decide +kernel
def tb_PR_ring : List (Nat × Instr × Nat) := [(0, .iload_n 1, 1), (1, .ifCond .ge 5, 3), (4, .iconst (-1), 1), (5, .ireturn, 1), (6, .aload_n 0, 1), (7, .getfield 31, 3), (10, .iload_n 1, 1), (11, .invokestatic 221, 3), (14, .ireturn, 1)]
set_option maxRecDepth 100000 in
theorem td_PR_ring : ∀ q ∈ tb_PR_ring, decode c_PR_ring q.1 = .ok q.2 := by decide +kernel
def tb_PR_never : List (Nat × Instr × Nat) := [(0, .iload_n 1, 1), (1, .lookupswitch 43 #[(0, 27), (1, 35)], 27), (28, .aload_n 0, 1), (29, .getfield 31, 3), (32, .invokestatic 227, 3), (35, .ireturn, 1), (36, .aload_n 0, 1), (37, .getfield 31, 3), (40, .invokestatic 231, 3), (43, .ireturn, 1), (44, .iconst (-1), 1), (45, .ireturn, 1)]
set_option maxRecDepth 100000 in
theorem td_PR_never : ∀ q ∈ tb_PR_never, decode c_PR_never q.1 = .ok q.2 := by decide +kernel
def tb_PR_order : List (Nat × Instr × Nat) := [(0, .aload_n 0, 1), (1, .iload_n 1, 1), (2, .invokevirtual 101, 3), (5, .ifCond .ne 5, 3), (8, .iconst (-1), 1), (9, .ireturn, 1), (10, .aload_n 0, 1), (11, .getfield 49, 3), (14, .iload_n 1, 1), (15, .invokestatic 234, 3), (18, .ireturn, 1)]
set_option maxRecDepth 100000 in
theorem td_PR_order : ∀ q ∈ tb_PR_order, decode c_PR_order q.1 = .ok q.2 := by decide +kernel
def tb_PR_heat : List (Nat × Instr × Nat) := [(0, .aload_n 0, 1), (1, .getfield 49, 3), (4, .aload_n 0, 1), (5, .getfield 31, 3), (8, .invokevirtual 239, 3), (11, .invokestatic 242, 3), (14, .ireturn, 1)]
set_option maxRecDepth 100000 in
theorem td_PR_heat : ∀ q ∈ tb_PR_heat, decode c_PR_heat q.1 = .ok q.2 := by decide +kernel
def tb_PR_total : List (Nat × Instr × Nat) := [(0, .aload_n 0, 1), (1, .getfield 49, 3), (4, .getfield 245, 3), (7, .ireturn, 1)]
set_option maxRecDepth 100000 in
theorem td_PR_total : ∀ q ∈ tb_PR_total, decode c_PR_total q.1 = .ok q.2 := by decide +kernel
def tb_PR_log : List (Nat × Instr × Nat) := [(0, .iload_n 1, 1), (1, .ifCond .lt 14, 3), (4, .iload_n 1, 1), (5, .aload_n 0, 1), (6, .getfield 49, 3), (9, .invokevirtual 248, 3), (12, .if_icmp .lt 5, 3), (15, .iconst (-1), 1), (16, .ireturn, 1), (17, .aload_n 0, 1), (18, .getfield 49, 3), (21, .iload_n 1, 1), (22, .invokevirtual 251, 3), (25, .istore_n 3, 1), (26, .iload_n 2, 1), (27, .tableswitch 45 0 2 #[25, 30, 40], 25), (52, .iload_n 3, 1), (53, .bipush 7, 2), (55, .ishr, 1), (56, .ireturn, 1), (57, .iload_n 3, 1), (58, .iconst 3, 1), (59, .ishr, 1), (60, .bipush 15, 2), (62, .iand, 1), (63, .bipush (-2), 2), (65, .iadd, 1), (66, .ireturn, 1), (67, .iload_n 3, 1), (68, .bipush 7, 2), (70, .iand, 1), (71, .ireturn, 1), (72, .iconst (-1), 1), (73, .ireturn, 1)]
set_option maxRecDepth 100000 in
theorem td_PR_log : ∀ q ∈ tb_PR_log, decode c_PR_log q.1 = .ok q.2 := by decide +kernel
def tb_In_bitCount : List (Nat × Instr × Nat) := [(0, .iload_n 0, 1), (1, .iload_n 0, 1), (2, .iconst 1, 1), (3, .iushr, 1), (4, .ldc_w 265, 3), (7, .iand, 1), (8, .isub, 1), (9, .istore_n 0, 1), (10, .iload_n 0, 1), (11, .ldc_w 266, 3), (14, .iand, 1), (15, .iload_n 0, 1), (16, .iconst 2, 1), (17, .iushr, 1), (18, .ldc_w 266, 3), (21, .iand, 1), (22, .iadd, 1), (23, .istore_n 0, 1), (24, .iload_n 0, 1), (25, .iload_n 0, 1), (26, .iconst 4, 1), (27, .iushr, 1), (28, .iadd, 1), (29, .ldc_w 267, 3), (32, .iand, 1), (33, .istore_n 0, 1), (34, .iload_n 0, 1), (35, .iload_n 0, 1), (36, .bipush 8, 2), (38, .iushr, 1), (39, .iadd, 1), (40, .istore_n 0, 1), (41, .iload_n 0, 1), (42, .iload_n 0, 1), (43, .bipush 16, 2), (45, .iushr, 1), (46, .iadd, 1), (47, .istore_n 0, 1), (48, .iload_n 0, 1), (49, .bipush 63, 2), (51, .iand, 1), (52, .ireturn, 1)]
set_option maxRecDepth 100000 in
theorem td_In_bitCount : ∀ q ∈ tb_In_bitCount, decode c_In_bitCount q.1 = .ok q.2 := by decide +kernel
def tb_PR_count : List (Nat × Instr × Nat) := [(0, .iload_n 1, 1), (1, .tableswitch 150 0 10 #[59, 67, 75, 83, 91, 102, 113, 124, 132, 140, 145], 59), (60, .aload_n 0, 1), (61, .getfield 31, 3), (64, .getfield 254, 3), (67, .ireturn, 1), (68, .aload_n 0, 1), (69, .getfield 31, 3), (72, .getfield 256, 3), (75, .ireturn, 1), (76, .aload_n 0, 1), (77, .getfield 31, 3), (80, .getfield 118, 3), (83, .ireturn, 1), (84, .aload_n 0, 1), (85, .getfield 49, 3), (88, .getfield 92, 3), (91, .ireturn, 1), (92, .aload_n 0, 1), (93, .getfield 49, 3), (96, .getfield 195, 3), (99, .getfield 259, 3), (102, .ireturn, 1), (103, .aload_n 0, 1), (104, .getfield 49, 3), (107, .getfield 186, 3), (110, .getfield 259, 3), (113, .ireturn, 1), (114, .aload_n 0, 1), (115, .getfield 49, 3), (118, .invokevirtual 213, 3), (121, .invokestatic 262, 3), (124, .ireturn, 1), (125, .aload_n 0, 1), (126, .getfield 49, 3), (129, .invokevirtual 267, 3), (132, .ireturn, 1), (133, .aload_n 0, 1), (134, .getfield 49, 3), (137, .invokevirtual 248, 3), (140, .ireturn, 1), (141, .aload_n 0, 1), (142, .getfield 270, 3), (145, .ireturn, 1), (146, .aload_n 0, 1), (147, .getfield 55, 3), (150, .ireturn, 1), (151, .iconst (-1), 1), (152, .ireturn, 1)]
set_option maxRecDepth 100000 in
theorem td_PR_count : ∀ q ∈ tb_PR_count, decode c_PR_count q.1 = .ok q.2 := by decide +kernel
def tb_PR_ahead : List (Nat × Instr × Nat) := [(0, .aload_n 0, 1), (1, .iload_n 1, 1), (2, .invokevirtual 101, 3), (5, .ifCond .eq 23, 3), (8, .iload_n 2, 1), (9, .ifCond .lt 19, 3), (12, .iload_n 2, 1), (13, .sipush 300, 3), (16, .if_icmp .gt 12, 3), (19, .iload_n 3, 1), (20, .ifCond .lt 8, 3), (23, .iload_n 3, 1), (24, .iconst 3, 1), (25, .if_icmp .le 5, 3), (28, .iconst (-1), 1), (29, .ireturn, 1), (30, .aload_n 0, 1), (31, .getfield 52, 3), (34, .aload_n 0, 1), (35, .getfield 49, 3), (38, .invokevirtual 273, 3), (41, .aload_n 0, 1), (42, .getfield 52, 3), (45, .getfield 109, 3), (48, .iload_n 1, 1), (49, .aaload, 1), (50, .astore 4, 2), (52, .aload 4, 2), (54, .getfield 153, 3), (57, .istore 5, 2), (59, .iconst 0, 1), (60, .istore 6, 2), (62, .iload 6, 2), (64, .iload_n 2, 1), (65, .if_icmp .ge 28, 3), (68, .aload_n 0, 1), (69, .getfield 52, 3), (72, .invokevirtual 98, 3), (75, .iload 5, 2), (77, .aload 4, 2), (79, .getfield 153, 3), (82, .invokestatic 277, 3), (85, .istore 5, 2), (87, .iinc 6 1, 3), (90, .goto (-28), 3), (93, .iload_n 3, 1), (94, .tableswitch 41 0 2 #[26, 32, 38], 26), (120, .aload 4, 2), (122, .getfield 113, 3), (125, .ireturn, 1), (126, .aload 4, 2), (128, .getfield 150, 3), (131, .ireturn, 1), (132, .iload 5, 2), (134, .ireturn, 1), (135, .aload 4, 2), (137, .getfield 165, 3), (140, .aload_n 0, 1), (141, .getfield 49, 3), (144, .getfield 109, 3), (147, .iload_n 1, 1), (148, .aaload, 1), (149, .getfield 165, 3), (152, .isub, 1), (153, .ireturn, 1)]
set_option maxRecDepth 100000 in
theorem td_PR_ahead : ∀ q ∈ tb_PR_ahead, decode c_PR_ahead q.1 = .ok q.2 := by decide +kernel
def tb_PR_peak : List (Nat × Instr × Nat) := [(0, .iload_n 1, 1), (1, .ifCond .lt 10, 3), (4, .iload_n 1, 1), (5, .sipush 300, 3), (8, .if_icmp .le 5, 3), (11, .iconst (-1), 1), (12, .ireturn, 1), (13, .aload_n 0, 1), (14, .getfield 52, 3), (17, .aload_n 0, 1), (18, .getfield 49, 3), (21, .invokevirtual 273, 3), (24, .aload_n 0, 1), (25, .getfield 52, 3), (28, .getfield 245, 3), (31, .istore_n 2, 1), (32, .iconst 0, 1), (33, .istore_n 3, 1), (34, .iload_n 3, 1), (35, .iload_n 1, 1), (36, .if_icmp .ge 28, 3), (39, .aload_n 0, 1), (40, .getfield 52, 3), (43, .invokevirtual 98, 3), (46, .iload_n 2, 1), (47, .aload_n 0, 1), (48, .getfield 52, 3), (51, .getfield 245, 3), (54, .invokestatic 277, 3), (57, .istore_n 2, 1), (58, .iinc 3 1, 3), (61, .goto (-27), 3), (64, .iload_n 2, 1), (65, .ireturn, 1)]
set_option maxRecDepth 100000 in
theorem td_PR_peak : ∀ q ∈ tb_PR_peak, decode c_PR_peak q.1 = .ok q.2 := by decide +kernel
def tb_PR_quiet : List (Nat × Instr × Nat) := [(0, .aload_n 0, 1), (1, .getfield 52, 3), (4, .aload_n 0, 1), (5, .getfield 49, 3), (8, .invokevirtual 273, 3), (11, .iconst 0, 1), (12, .istore_n 1, 1), (13, .iload_n 1, 1), (14, .sipush 300, 3), (17, .if_icmp .ge 28, 3), (20, .aload_n 0, 1), (21, .getfield 52, 3), (24, .invokevirtual 282, 3), (27, .ifCond .eq 5, 3), (30, .iload_n 1, 1), (31, .ireturn, 1), (32, .aload_n 0, 1), (33, .getfield 52, 3), (36, .invokevirtual 98, 3), (39, .iinc 1 1, 3), (42, .goto (-29), 3), (45, .aload_n 0, 1), (46, .getfield 52, 3), (49, .invokevirtual 282, 3), (52, .ifCond .eq 9, 3), (55, .sipush 300, 3), (58, .goto 5, 3), (61, .bipush (-2), 2), (63, .ireturn, 1)]
set_option maxRecDepth 100000 in
theorem td_PR_quiet : ∀ q ∈ tb_PR_quiet, decode c_PR_quiet q.1 = .ok q.2 := by decide +kernel
def tb_PR_leastLimit : List (Nat × Instr × Nat) := [(0, .aload_n 0, 1), (1, .iload_n 1, 1), (2, .invokevirtual 101, 3), (5, .ifCond .ne 5, 3), (8, .iconst (-1), 1), (9, .ireturn, 1), (10, .aload_n 0, 1), (11, .getfield 52, 3), (14, .aload_n 0, 1), (15, .getfield 49, 3), (18, .invokevirtual 273, 3), (21, .aload_n 0, 1), (22, .getfield 52, 3), (25, .getfield 109, 3), (28, .iload_n 1, 1), (29, .aaload, 1), (30, .astore_n 2, 1), (31, .aload_n 2, 1), (32, .ldc_w 286, 3), (35, .putfield 131, 3), (38, .iconst 1, 1), (39, .istore_n 3, 1), (40, .iconst 0, 1), (41, .istore 4, 2), (43, .iload 4, 2), (45, .bipush 100, 2), (47, .if_icmp .ge 25, 3), (50, .aload_n 0, 1), (51, .getfield 52, 3), (54, .invokevirtual 98, 3), (57, .iload_n 3, 1), (58, .aload_n 2, 1), (59, .getfield 153, 3), (62, .invokestatic 277, 3), (65, .istore_n 3, 1), (66, .iinc 4 1, 3), (69, .goto (-26), 3), (72, .iload_n 3, 1), (73, .ldc 130, 2), (75, .if_icmp .le 8, 3), (78, .bipush (-2), 2), (80, .goto 4, 3), (83, .iload_n 3, 1), (84, .ireturn, 1)]
set_option maxRecDepth 100000 in
theorem td_PR_leastLimit : ∀ q ∈ tb_PR_leastLimit, decode c_PR_leastLimit q.1 = .ok q.2 := by decide +kernel
def tb_PR_ifLoad : List (Nat × Instr × Nat) := [(0, .aload_n 0, 1), (1, .iload_n 1, 1), (2, .invokevirtual 101, 3), (5, .ifCond .eq 14, 3), (8, .iload_n 2, 1), (9, .ifCond .lt 10, 3), (12, .iload_n 2, 1), (13, .sipush 9999, 3), (16, .if_icmp .le 5, 3), (19, .iconst (-1), 1), (20, .ireturn, 1), (21, .aload_n 0, 1), (22, .getfield 52, 3), (25, .aload_n 0, 1), (26, .getfield 49, 3), (29, .invokevirtual 273, 3), (32, .aload_n 0, 1), (33, .getfield 52, 3), (36, .getfield 109, 3), (39, .iload_n 1, 1), (40, .aaload, 1), (41, .iload_n 2, 1), (42, .putfield 127, 3), (45, .iconst 0, 1), (46, .istore_n 3, 1), (47, .iload_n 3, 1), (48, .bipush 100, 2), (50, .if_icmp .ge 16, 3), (53, .aload_n 0, 1), (54, .getfield 52, 3), (57, .invokevirtual 98, 3), (60, .iinc 3 1, 3), (63, .goto (-16), 3), (66, .iconst 0, 1), (67, .istore_n 3, 1), (68, .iconst 0, 1), (69, .istore 4, 2), (71, .iload 4, 2), (73, .aload_n 0, 1), (74, .getfield 31, 3), (77, .getfield 254, 3), (80, .if_icmp .ge 45, 3), (83, .aload_n 0, 1), (84, .getfield 52, 3), (87, .getfield 109, 3), (90, .iload 4, 2), (92, .aaload, 1), (93, .getfield 165, 3), (96, .aload_n 0, 1), (97, .getfield 49, 3), (100, .getfield 109, 3), (103, .iload 4, 2), (105, .aaload, 1), (106, .getfield 165, 3), (109, .if_icmp .le 10, 3), (112, .iload_n 3, 1), (113, .iconst 1, 1), (114, .iload 4, 2), (116, .ishl, 1), (117, .ior, 1), (118, .istore_n 3, 1), (119, .iinc 4 1, 3), (122, .goto (-51), 3), (125, .iload_n 3, 1), (126, .ireturn, 1)]
set_option maxRecDepth 100000 in
theorem td_PR_ifLoad : ∀ q ∈ tb_PR_ifLoad, decode c_PR_ifLoad q.1 = .ok q.2 := by decide +kernel
def tb_PR_ifOff : List (Nat × Instr × Nat) := [(0, .aload_n 0, 1), (1, .iload_n 1, 1), (2, .invokevirtual 101, 3), (5, .ifCond .ne 5, 3), (8, .iconst (-1), 1), (9, .ireturn, 1), (10, .aload_n 0, 1), (11, .getfield 52, 3), (14, .aload_n 0, 1), (15, .getfield 49, 3), (18, .invokevirtual 273, 3), (21, .aload_n 0, 1), (22, .getfield 52, 3), (25, .iload_n 1, 1), (26, .iconst 1, 1), (27, .invokevirtual 105, 3), (30, .aload_n 0, 1), (31, .getfield 52, 3), (34, .getfield 186, 3), (37, .getfield 287, 3), (40, .aload_n 0, 1), (41, .getfield 49, 3), (44, .getfield 186, 3), (47, .getfield 287, 3), (50, .iconst (-1), 1), (51, .ixor, 1), (52, .iand, 1), (53, .istore_n 2, 1), (54, .aload_n 0, 1), (55, .getfield 49, 3), (58, .getfield 195, 3), (61, .getfield 287, 3), (64, .aload_n 0, 1), (65, .getfield 52, 3), (68, .getfield 195, 3), (71, .getfield 287, 3), (74, .iconst (-1), 1), (75, .ixor, 1), (76, .iand, 1), (77, .istore_n 3, 1), (78, .iload_n 2, 1), (79, .iload_n 3, 1), (80, .ior, 1), (81, .ireturn, 1)]
set_option maxRecDepth 100000 in
theorem td_PR_ifOff : ∀ q ∈ tb_PR_ifOff, decode c_PR_ifOff q.1 = .ok q.2 := by decide +kernel
def tb_PR_totalIfOff : List (Nat × Instr × Nat) := [(0, .aload_n 0, 1), (1, .getfield 52, 3), (4, .aload_n 0, 1), (5, .getfield 49, 3), (8, .invokevirtual 273, 3), (11, .aload_n 0, 1), (12, .getfield 52, 3), (15, .iload_n 1, 1), (16, .iconst 1, 1), (17, .invokevirtual 105, 3), (20, .iconst 0, 1), (21, .istore_n 3, 1), (22, .iload_n 3, 1), (23, .iload_n 2, 1), (24, .if_icmp .ge 16, 3), (27, .aload_n 0, 1), (28, .getfield 52, 3), (31, .invokevirtual 98, 3), (34, .iinc 3 1, 3), (37, .goto (-15), 3), (40, .aload_n 0, 1), (41, .getfield 52, 3), (44, .getfield 245, 3), (47, .ireturn, 1)]
set_option maxRecDepth 100000 in
theorem td_PR_totalIfOff : ∀ q ∈ tb_PR_totalIfOff, decode c_PR_totalIfOff q.1 = .ok q.2 := by decide +kernel
def tb_PR_bestOff : List (Nat × Instr × Nat) := [(0, .iload_n 1, 1), (1, .iconst 1, 1), (2, .if_icmp .lt 9, 3), (5, .iload_n 1, 1), (6, .bipush 60, 2), (8, .if_icmp .le 5, 3), (11, .iconst (-1), 1), (12, .ireturn, 1), (13, .bipush (-2), 2), (15, .istore_n 2, 1), (16, .iconst 0, 1), (17, .istore_n 3, 1), (18, .iconst 0, 1), (19, .istore 4, 2), (21, .iload 4, 2), (23, .aload_n 0, 1), (24, .getfield 31, 3), (27, .getfield 254, 3), (30, .if_icmp .ge 46, 3), (33, .aload_n 0, 1), (34, .getfield 49, 3), (37, .iload 4, 2), (39, .invokevirtual 290, 3), (42, .ifCond .eq 28, 3), (45, .aload_n 0, 1), (46, .iload 4, 2), (48, .iload_n 1, 1), (49, .invokevirtual 293, 3), (52, .istore 5, 2), (54, .iload_n 2, 1), (55, .ifCond .lt 9, 3), (58, .iload 5, 2), (60, .iload_n 3, 1), (61, .if_icmp .ge 9, 3), (64, .iload 4, 2), (66, .istore_n 2, 1), (67, .iload 5, 2), (69, .istore_n 3, 1), (70, .iinc 4 1, 3), (73, .goto (-52), 3), (76, .iload_n 2, 1), (77, .ireturn, 1)]
set_option maxRecDepth 100000 in
theorem td_PR_bestOff : ∀ q ∈ tb_PR_bestOff, decode c_PR_bestOff q.1 = .ok q.2 := by decide +kernel
def tb_PR_chance : List (Nat × Instr × Nat) := [(0, .iload_n 1, 1), (1, .iconst (-1), 1), (2, .if_icmp .lt 38, 3), (5, .iload_n 2, 1), (6, .iconst 1, 1), (7, .if_icmp .lt 33, 3), (10, .iload_n 2, 1), (11, .sipush 200, 3), (14, .if_icmp .gt 26, 3), (17, .iload_n 3, 1), (18, .iconst 1, 1), (19, .if_icmp .lt 21, 3), (22, .iload_n 3, 1), (23, .sipush 9999, 3), (26, .if_icmp .gt 14, 3), (29, .iload 4, 2), (31, .ifCond .lt 9, 3), (34, .iload 4, 2), (36, .iconst 2, 1), (37, .if_icmp .le 5, 3), (40, .iconst (-1), 1), (41, .ireturn, 1), (42, .aload_n 0, 1), (43, .getfield 52, 3), (46, .aload_n 0, 1), (47, .getfield 49, 3), (50, .invokevirtual 273, 3), (53, .aload_n 0, 1), (54, .getfield 52, 3), (57, .iload_n 1, 1), (58, .ifCond .ge 16, 3), (61, .aload_n 0, 1), (62, .getfield 31, 3), (65, .getfield 296, 3), (68, .bipush 7, 2), (70, .iaload, 1), (71, .goto 4, 3), (74, .iload_n 1, 1), (75, .iload_n 2, 1), (76, .iload_n 3, 1), (77, .invokevirtual 299, 3), (80, .istore 5, 2), (82, .iload 4, 2), (84, .lookupswitch 47 #[(0, 28), (1, 31)], 28), (112, .iload 5, 2), (114, .ireturn, 1), (115, .aload_n 0, 1), (116, .getfield 52, 3), (119, .invokevirtual 267, 3), (122, .aload_n 0, 1), (123, .getfield 49, 3), (126, .invokevirtual 267, 3), (129, .isub, 1), (130, .ireturn, 1), (131, .aload_n 0, 1), (132, .getfield 52, 3), (135, .invokevirtual 213, 3), (138, .ireturn, 1)]
set_option maxRecDepth 100000 in
theorem td_PR_chance : ∀ q ∈ tb_PR_chance, decode c_PR_chance q.1 = .ok q.2 := by decide +kernel
def tb_PR_undo : List (Nat × Instr × Nat) := [(0, .aload_n 0, 1), (1, .getfield 270, 3), (4, .ifCond .ne 5, 3), (7, .iconst (-1), 1), (8, .ireturn, 1), (9, .aload_n 0, 1), (10, .dup, 1), (11, .getfield 270, 3), (14, .iconst 1, 1), (15, .isub, 1), (16, .putfield 270, 3), (19, .aload_n 0, 1), (20, .getfield 49, 3), (23, .aload_n 0, 1), (24, .getfield 24, 3), (27, .aload_n 0, 1), (28, .getfield 303, 3), (31, .aload_n 0, 1), (32, .getfield 270, 3), (35, .iadd, 1), (36, .bipush 20, 2), (38, .irem, 1), (39, .aaload, 1), (40, .invokevirtual 273, 3), (43, .aload_n 0, 1), (44, .getfield 270, 3), (47, .ireturn, 1)]
set_option maxRecDepth 100000 in
theorem td_PR_undo : ∀ q ∈ tb_PR_undo, decode c_PR_undo q.1 = .ok q.2 := by decide +kernel
def tb_PR_keep : List (Nat × Instr × Nat) := [(0, .aload_n 0, 1), (1, .getfield 45, 3), (4, .aload_n 0, 1), (5, .getfield 49, 3), (8, .invokevirtual 273, 3), (11, .aload_n 0, 1), (12, .iconst 1, 1), (13, .putfield 82, 3), (16, .aload_n 0, 1), (17, .getfield 49, 3), (20, .getfield 92, 3), (23, .ireturn, 1)]
set_option maxRecDepth 100000 in
theorem td_PR_keep : ∀ q ∈ tb_PR_keep, decode c_PR_keep q.1 = .ok q.2 := by decide +kernel
def tb_PR_back : List (Nat × Instr × Nat) := [(0, .aload_n 0, 1), (1, .getfield 82, 3), (4, .ifCond .ne 5, 3), (7, .iconst (-1), 1), (8, .ireturn, 1), (9, .aload_n 0, 1), (10, .getfield 49, 3), (13, .aload_n 0, 1), (14, .getfield 45, 3), (17, .invokevirtual 273, 3), (20, .aload_n 0, 1), (21, .invokevirtual 86, 3), (24, .aload_n 0, 1), (25, .getfield 49, 3), (28, .getfield 92, 3), (31, .ireturn, 1)]
set_option maxRecDepth 100000 in
theorem td_PR_back : ∀ q ∈ tb_PR_back, decode c_PR_back q.1 = .ok q.2 := by decide +kernel
def tb_Mo_thrown : List (Nat × Instr × Nat) := [(0, .aload_n 0, 1), (1, .getfield 99, 3), (4, .ireturn, 1)]
set_option maxRecDepth 100000 in
theorem td_Mo_thrown : ∀ q ∈ tb_Mo_thrown, decode c_Mo_thrown q.1 = .ok q.2 := by decide +kernel
def tb_Mo_feed : List (Nat × Instr × Nat) := [(0, .aload_n 0, 1), (1, .iconst 0, 1), (2, .putfield 99, 3), (5, .aload_n 0, 1), (6, .getfield 102, 3), (9, .sipush 680, 3), (12, .if_icmp .le 5, 3), (15, .iconst (-1), 1), (16, .ireturn, 1), (17, .iconst 0, 1), (18, .istore 6, 2), (20, .iload 6, 2), (22, .bipush 20, 2), (24, .if_icmp .ge 86, 3), (27, .iload 6, 2), (29, .iconst 4, 1), (30, .if_icmp .ge 7, 3), (33, .iload_n 1, 1), (34, .goto 39, 3), (37, .iload 6, 2), (39, .bipush 8, 2), (41, .if_icmp .ge 7, 3), (44, .iload_n 2, 1), (45, .goto 28, 3), (48, .iload 6, 2), (50, .bipush 12, 2), (52, .if_icmp .ge 7, 3), (55, .iload_n 3, 1), (56, .goto 17, 3), (59, .iload 6, 2), (61, .bipush 16, 2), (63, .if_icmp .ge 8, 3), (66, .iload 4, 2), (68, .goto 5, 3), (71, .iload 5, 2), (73, .istore 7, 2), (75, .aload_n 0, 1), (76, .getfield 7, 3), (79, .aload_n 0, 1), (80, .getfield 102, 3), (83, .iload 6, 2), (85, .iadd, 1), (86, .iload 7, 2), (88, .bipush 24, 2), (90, .bipush 8, 2), (92, .iload 6, 2), (94, .iconst 4, 1), (95, .irem, 1), (96, .imul, 1), (97, .isub, 1), (98, .ishr, 1), (99, .sipush 255, 3), (102, .iand, 1), (103, .iastore, 1), (104, .iinc 6 1, 3), (107, .goto (-87), 3), (110, .aload_n 0, 1), (111, .dup, 1), (112, .getfield 102, 3), (115, .bipush 20, 2), (117, .iadd, 1), (118, .putfield 102, 3), (121, .aload_n 0, 1), (122, .getfield 102, 3), (125, .ireturn, 1)]
set_option maxRecDepth 100000 in
theorem td_Mo_feed : ∀ q ∈ tb_Mo_feed, decode c_Mo_feed q.1 = .ok q.2 := by decide +kernel
def tb_Mo_here : List (Nat × Instr × Nat) := [(0, .aload_n 0, 1), (1, .getfield 105, 3), (4, .aload_n 0, 1), (5, .getfield 108, 3), (8, .if_icmp .ge 15, 3), (11, .aload_n 0, 1), (12, .getfield 7, 3), (15, .aload_n 0, 1), (16, .getfield 105, 3), (19, .iaload, 1), (20, .goto 4, 3), (23, .iconst (-1), 1), (24, .ireturn, 1)]
set_option maxRecDepth 100000 in
theorem td_Mo_here : ∀ q ∈ tb_Mo_here, decode c_Mo_here q.1 = .ok q.2 := by decide +kernel
def tb_Mo_isSmall : List (Nat × Instr × Nat) := [(0, .iload_n 0, 1), (1, .bipush 97, 2), (3, .if_icmp .lt 13, 3), (6, .iload_n 0, 1), (7, .bipush 122, 2), (9, .if_icmp .gt 7, 3), (12, .iconst 1, 1), (13, .goto 4, 3), (16, .iconst 0, 1), (17, .ireturn, 1)]
set_option maxRecDepth 100000 in
theorem td_Mo_isSmall : ∀ q ∈ tb_Mo_isSmall, decode c_Mo_isSmall q.1 = .ok q.2 := by decide +kernel
def tb_Mo_isDigit : List (Nat × Instr × Nat) := [(0, .iload_n 0, 1), (1, .bipush 48, 2), (3, .if_icmp .lt 13, 3), (6, .iload_n 0, 1), (7, .bipush 57, 2), (9, .if_icmp .gt 7, 3), (12, .iconst 1, 1), (13, .goto 4, 3), (16, .iconst 0, 1), (17, .ireturn, 1)]
set_option maxRecDepth 100000 in
theorem td_Mo_isDigit : ∀ q ∈ tb_Mo_isDigit, decode c_Mo_isDigit q.1 = .ok q.2 := by decide +kernel
def tb_Mo_nameHere : List (Nat × Instr × Nat) := [(0, .aload_n 0, 1), (1, .iconst 0, 1), (2, .putfield 128, 3), (5, .iconst 0, 1), (6, .istore_n 1, 1), (7, .iload_n 1, 1), (8, .bipush 6, 2), (10, .if_icmp .ge 53, 3), (13, .aload_n 0, 1), (14, .aload_n 0, 1), (15, .getfield 128, 3), (18, .iconst 5, 1), (19, .ishl, 1), (20, .aload_n 0, 1), (21, .getfield 115, 3), (24, .iload_n 1, 1), (25, .iadd, 1), (26, .aload_n 0, 1), (27, .getfield 105, 3), (30, .if_icmp .ge 22, 3), (33, .aload_n 0, 1), (34, .getfield 7, 3), (37, .aload_n 0, 1), (38, .getfield 115, 3), (41, .iload_n 1, 1), (42, .iadd, 1), (43, .iaload, 1), (44, .bipush 97, 2), (46, .isub, 1), (47, .iconst 1, 1), (48, .iadd, 1), (49, .goto 4, 3), (52, .iconst 0, 1), (53, .ior, 1), (54, .putfield 128, 3), (57, .iinc 1 1, 3), (60, .goto (-53), 3), (63, .return_, 1)]
set_option maxRecDepth 100000 in
theorem td_Mo_nameHere : ∀ q ∈ tb_Mo_nameHere, decode c_Mo_nameHere q.1 = .ok q.2 := by decide +kernel
def tb_Mo_token : List (Nat × Instr × Nat) := [(0, .aload_n 0, 1), (1, .invokevirtual 111, 3), (4, .bipush 10, 2), (6, .if_icmp .eq 12, 3), (9, .aload_n 0, 1), (10, .invokevirtual 111, 3), (13, .bipush 32, 2), (15, .if_icmp .ne 16, 3), (18, .aload_n 0, 1), (19, .dup, 1), (20, .getfield 105, 3), (23, .iconst 1, 1), (24, .iadd, 1), (25, .putfield 105, 3), (28, .goto (-28), 3), (31, .aload_n 0, 1), (32, .aload_n 0, 1), (33, .getfield 105, 3), (36, .putfield 115, 3), (39, .aload_n 0, 1), (40, .invokevirtual 111, 3), (43, .istore_n 1, 1), (44, .iload_n 1, 1), (45, .iconst (-1), 1), (46, .if_icmp .ne 11, 3), (49, .aload_n 0, 1), (50, .iconst 4, 1), (51, .putfield 118, 3), (54, .goto 191, 3), (57, .iload_n 1, 1), (58, .invokestatic 121, 3), (61, .ifCond .eq 84, 3), (64, .aload_n 0, 1), (65, .invokevirtual 111, 3), (68, .invokestatic 121, 3), (71, .ifCond .eq 16, 3), (74, .aload_n 0, 1), (75, .dup, 1), (76, .getfield 105, 3), (79, .iconst 1, 1), (80, .iadd, 1), (81, .putfield 105, 3), (84, .goto (-20), 3), (87, .aload_n 0, 1), (88, .aload_n 0, 1), (89, .invokevirtual 125, 3), (92, .putfield 128, 3), (95, .aload_n 0, 1), (96, .aload_n 0, 1), (97, .getfield 128, 3), (100, .iconst (-1), 1), (101, .if_icmp .eq 7, 3), (104, .iconst 0, 1), (105, .goto 22, 3), (108, .aload_n 0, 1), (109, .getfield 105, 3), (112, .aload_n 0, 1), (113, .getfield 115, 3), (116, .isub, 1), (117, .bipush 6, 2), (119, .if_icmp .le 7, 3), (122, .iconst 5, 1), (123, .goto 4, 3), (126, .iconst 1, 1), (127, .putfield 118, 3), (130, .aload_n 0, 1), (131, .getfield 118, 3), (134, .iconst 1, 1), (135, .if_icmp .ne 110, 3), (138, .aload_n 0, 1), (139, .invokevirtual 131, 3), (142, .goto 103, 3), (145, .iload_n 1, 1), (146, .invokestatic 134, 3), (149, .ifCond .eq 71, 3), (152, .aload_n 0, 1), (153, .iconst 2, 1), (154, .putfield 118, 3), (157, .aload_n 0, 1), (158, .iconst 0, 1), (159, .putfield 128, 3), (162, .aload_n 0, 1), (163, .invokevirtual 111, 3), (166, .invokestatic 134, 3), (169, .ifCond .eq 76, 3), (172, .aload_n 0, 1), (173, .aload_n 0, 1), (174, .getfield 128, 3), (177, .ldc 137, 2), (179, .if_icmp .le 10, 3), (182, .aload_n 0, 1), (183, .getfield 128, 3), (186, .goto 18, 3), (189, .bipush 10, 2), (191, .aload_n 0, 1), (192, .getfield 128, 3), (195, .imul, 1), (196, .aload_n 0, 1), (197, .invokevirtual 111, 3), (200, .iadd, 1), (201, .bipush 48, 2), (203, .isub, 1), (204, .putfield 128, 3), (207, .aload_n 0, 1), (208, .dup, 1), (209, .getfield 105, 3), (212, .iconst 1, 1), (213, .iadd, 1), (214, .putfield 105, 3), (217, .goto (-55), 3), (220, .aload_n 0, 1), (221, .iload_n 1, 1), (222, .bipush 59, 2), (224, .if_icmp .ne 7, 3), (227, .iconst 3, 1), (228, .goto 4, 3), (231, .iconst 5, 1), (232, .putfield 118, 3), (235, .aload_n 0, 1), (236, .dup, 1), (237, .getfield 105, 3), (240, .iconst 1, 1), (241, .iadd, 1), (242, .putfield 105, 3), (245, .return_, 1)]
set_option maxRecDepth 100000 in
theorem td_Mo_token : ∀ q ∈ tb_Mo_token, decode c_Mo_token q.1 = .ok q.2 := by decide +kernel
def tb_Mo_wrong : List (Nat × Instr × Nat) := [(0, .aload_n 0, 1), (1, .getfield 149, 3), (4, .ifCond .eq 4, 3), (7, .return_, 1), (8, .aload_n 0, 1), (9, .iload_n 1, 1), (10, .putfield 149, 3), (13, .aload_n 0, 1), (14, .aload_n 0, 1), (15, .getfield 115, 3), (18, .putfield 152, 3), (21, .return_, 1)]
set_option maxRecDepth 100000 in
theorem td_Mo_wrong : ∀ q ∈ tb_Mo_wrong, decode c_Mo_wrong q.1 = .ok q.2 := by decide +kernel
def tb_Mo_goOn : List (Nat × Instr × Nat) := [(0, .aload_n 0, 1), (1, .getfield 149, 3), (4, .ifCond .ne 7, 3), (7, .aload_n 0, 1), (8, .invokevirtual 155, 3), (11, .return_, 1)]
set_option maxRecDepth 100000 in
theorem td_Mo_goOn : ∀ q ∈ tb_Mo_goOn, decode c_Mo_goOn q.1 = .ok q.2 := by decide +kernel
def tb_Mo_numeral : List (Nat × Instr × Nat) := [(0, .aload_n 0, 1), (1, .getfield 149, 3), (4, .ifCond .eq 5, 3), (7, .iload_n 1, 1), (8, .ireturn, 1), (9, .aload_n 0, 1), (10, .getfield 118, 3), (13, .iconst 2, 1), (14, .if_icmp .eq 11, 3), (17, .aload_n 0, 1), (18, .iconst 1, 1), (19, .invokevirtual 158, 3), (22, .goto 24, 3), (25, .aload_n 0, 1), (26, .getfield 128, 3), (29, .iload_n 1, 1), (30, .if_icmp .lt 11, 3), (33, .aload_n 0, 1), (34, .getfield 128, 3), (37, .iload_n 2, 1), (38, .if_icmp .le 8, 3), (41, .aload_n 0, 1), (42, .iconst 2, 1), (43, .invokevirtual 158, 3), (46, .aload_n 0, 1), (47, .getfield 149, 3), (50, .ifCond .ne 10, 3), (53, .aload_n 0, 1), (54, .getfield 128, 3), (57, .goto 4, 3), (60, .iload_n 1, 1), (61, .istore_n 3, 1), (62, .aload_n 0, 1), (63, .invokevirtual 162, 3), (66, .iload_n 3, 1), (67, .ireturn, 1)]
set_option maxRecDepth 100000 in
theorem td_Mo_numeral : ∀ q ∈ tb_Mo_numeral, decode c_Mo_numeral q.1 = .ok q.2 := by decide +kernel
def tb_Mo_reading : List (Nat × Instr × Nat) := [(0, .aload_n 0, 1), (1, .getfield 13, 3), (4, .bipush 11, 2), (6, .iload_n 1, 1), (7, .iadd, 1), (8, .iaload, 1), (9, .ireturn, 1)]
set_option maxRecDepth 100000 in
theorem td_Mo_reading : ∀ q ∈ tb_Mo_reading, decode c_Mo_reading q.1 = .ok q.2 := by decide +kernel
def tb_Mo_reads : List (Nat × Instr × Nat) := [(0, .aload_n 0, 1), (1, .getfield 13, 3), (4, .bipush 11, 2), (6, .iload_n 1, 1), (7, .iadd, 1), (8, .iload_n 2, 1), (9, .iastore, 1), (10, .return_, 1)]
set_option maxRecDepth 100000 in
theorem td_Mo_reads : ∀ q ∈ tb_Mo_reads, decode c_Mo_reads q.1 = .ok q.2 := by decide +kernel
def tb_Mo_readOnce : List (Nat × Instr × Nat) := [(0, .aload_n 0, 1), (1, .getfield 16, 3), (4, .iload_n 1, 1), (5, .baload, 1), (6, .ifCond .eq 8, 3), (9, .aload_n 0, 1), (10, .iconst 3, 1), (11, .invokevirtual 158, 3), (14, .aload_n 0, 1), (15, .getfield 16, 3), (18, .iload_n 1, 1), (19, .iconst 1, 1), (20, .bastore, 1), (21, .aload_n 0, 1), (22, .invokevirtual 162, 3), (25, .aload_n 0, 1), (26, .iload_n 2, 1), (27, .aload_n 0, 1), (28, .iload_n 3, 1), (29, .iload 4, 2), (31, .invokevirtual 165, 3), (34, .invokevirtual 169, 3), (37, .return_, 1)]
set_option maxRecDepth 100000 in
theorem td_Mo_readOnce : ∀ q ∈ tb_Mo_readOnce, decode c_Mo_readOnce q.1 = .ok q.2 := by decide +kernel
def tb_Mo_namedAt : List (Nat × Instr × Nat) := [(0, .iconst 0, 1), (1, .istore 4, 2), (3, .iload 4, 2), (5, .iload_n 2, 1), (6, .if_icmp .ge 25, 3), (9, .aload_n 0, 1), (10, .getfield 20, 3), (13, .iload_n 1, 1), (14, .iload 4, 2), (16, .iadd, 1), (17, .iaload, 1), (18, .iload_n 3, 1), (19, .if_icmp .ne 6, 3), (22, .iload 4, 2), (24, .ireturn, 1), (25, .iinc 4 1, 3), (28, .goto (-25), 3), (31, .iconst (-1), 1), (32, .ireturn, 1)]
set_option maxRecDepth 100000 in
theorem td_Mo_namedAt : ∀ q ∈ tb_Mo_namedAt, decode c_Mo_namedAt q.1 = .ok q.2 := by decide +kernel
def tb_Mo_railHere : List (Nat × Instr × Nat) := [(0, .aload_n 0, 1), (1, .getfield 149, 3), (4, .ifCond .eq 5, 3), (7, .iconst 0, 1), (8, .ireturn, 1), (9, .aload_n 0, 1), (10, .getfield 118, 3), (13, .iconst 1, 1), (14, .if_icmp .eq 8, 3), (17, .aload_n 0, 1), (18, .iconst 1, 1), (19, .invokevirtual 158, 3), (22, .aload_n 0, 1), (23, .getfield 149, 3), (26, .ifCond .ne 21, 3), (29, .aload_n 0, 1), (30, .bipush 12, 2), (32, .aload_n 0, 1), (33, .iconst 0, 1), (34, .invokevirtual 173, 3), (37, .aload_n 0, 1), (38, .getfield 128, 3), (41, .invokevirtual 177, 3), (44, .goto 4, 3), (47, .iconst 0, 1), (48, .istore_n 1, 1), (49, .iload_n 1, 1), (50, .iconst (-1), 1), (51, .if_icmp .ne 8, 3), (54, .aload_n 0, 1), (55, .iconst 4, 1), (56, .invokevirtual 158, 3), (59, .iload_n 1, 1), (60, .iconst (-1), 1), (61, .if_icmp .ne 7, 3), (64, .iconst 0, 1), (65, .goto 4, 3), (68, .iload_n 1, 1), (69, .ireturn, 1)]
set_option maxRecDepth 100000 in
theorem td_Mo_railHere : ∀ q ∈ tb_Mo_railHere, decode c_Mo_railHere q.1 = .ok q.2 := by decide +kernel
def tb_Mo_readRail : List (Nat × Instr × Nat) := [(0, .bipush 12, 2), (2, .aload_n 0, 1), (3, .iconst 0, 1), (4, .invokevirtual 173, 3), (7, .iadd, 1), (8, .istore_n 1, 1), (9, .iload_n 1, 1), (10, .bipush 24, 2), (12, .if_icmp .ne 8, 3), (15, .aload_n 0, 1), (16, .iconst 2, 1), (17, .invokevirtual 158, 3), (20, .aload_n 0, 1), (21, .invokevirtual 162, 3), (24, .aload_n 0, 1), (25, .getfield 149, 3), (28, .ifCond .eq 4, 3), (31, .return_, 1), (32, .aload_n 0, 1), (33, .getfield 118, 3), (36, .iconst 1, 1), (37, .if_icmp .eq 11, 3), (40, .aload_n 0, 1), (41, .iconst 1, 1), (42, .invokevirtual 158, 3), (45, .goto 27, 3), (48, .aload_n 0, 1), (49, .bipush 12, 2), (51, .aload_n 0, 1), (52, .iconst 0, 1), (53, .invokevirtual 173, 3), (56, .aload_n 0, 1), (57, .getfield 128, 3), (60, .invokevirtual 177, 3), (63, .iconst (-1), 1), (64, .if_icmp .eq 8, 3), (67, .aload_n 0, 1), (68, .iconst 3, 1), (69, .invokevirtual 158, 3), (72, .aload_n 0, 1), (73, .getfield 149, 3), (76, .ifCond .eq 4, 3), (79, .return_, 1), (80, .aload_n 0, 1), (81, .getfield 20, 3), (84, .iload_n 1, 1), (85, .aload_n 0, 1), (86, .getfield 128, 3), (89, .iastore, 1), (90, .aload_n 0, 1), (91, .invokevirtual 155, 3), (94, .aload_n 0, 1), (95, .getfield 118, 3), (98, .ifCond .ne 16, 3), (101, .aload_n 0, 1), (102, .getfield 128, 3), (105, .bipush 13, 2), (107, .if_icmp .ne 7, 3), (110, .iconst 1, 1), (111, .goto 4, 3), (114, .iconst 0, 1), (115, .istore_n 2, 1), (116, .aload_n 0, 1), (117, .getfield 23, 3), (120, .iload_n 1, 1), (121, .iload_n 2, 1), (122, .ifCond .eq 8, 3), (125, .bipush (-2), 2), (127, .goto 7, 3), (130, .aload_n 0, 1), (131, .invokevirtual 181, 3), (134, .iastore, 1), (135, .aload_n 0, 1), (136, .invokevirtual 162, 3), (139, .aload_n 0, 1), (140, .getfield 26, 3), (143, .iload_n 1, 1), (144, .aload_n 0, 1), (145, .iconst 1, 1), (146, .sipush 9999, 3), (149, .invokevirtual 165, 3), (152, .iastore, 1), (153, .aload_n 0, 1), (154, .getfield 29, 3), (157, .iload_n 1, 1), (158, .aload_n 0, 1), (159, .iconst 1, 1), (160, .sipush 9999, 3), (163, .invokevirtual 165, 3), (166, .iastore, 1), (167, .aload_n 0, 1), (168, .getfield 32, 3), (171, .iload_n 1, 1), (172, .aload_n 0, 1), (173, .iconst 0, 1), (174, .bipush 99, 2), (176, .invokevirtual 165, 3), (179, .iastore, 1), (180, .aload_n 0, 1), (181, .getfield 35, 3), (184, .iload_n 1, 1), (185, .aload_n 0, 1), (186, .iconst 0, 1), (187, .sipush 999, 3), (190, .invokevirtual 165, 3), (193, .iastore, 1), (194, .aload_n 0, 1), (195, .getfield 38, 3), (198, .iload_n 1, 1), (199, .aload_n 0, 1), (200, .iconst 1, 1), (201, .ldc 184, 2), (203, .invokevirtual 165, 3), (206, .iastore, 1), (207, .aload_n 0, 1), (208, .getfield 41, 3), (211, .iload_n 1, 1), (212, .iconst 0, 1), (213, .iastore, 1), (214, .aload_n 0, 1), (215, .iconst 0, 1), (216, .aload_n 0, 1), (217, .iconst 0, 1), (218, .invokevirtual 173, 3), (221, .iconst 1, 1), (222, .iadd, 1), (223, .invokevirtual 169, 3), (226, .return_, 1)]
set_option maxRecDepth 100000 in
theorem td_Mo_readRail : ∀ q ∈ tb_Mo_readRail, decode c_Mo_readRail q.1 = .ok q.2 := by decide +kernel
def tb_Mo_readNeeds : List (Nat × Instr × Nat) := [(0, .aload_n 0, 1), (1, .iconst 1, 1), (2, .invokevirtual 173, 3), (5, .bipush 20, 2), (7, .if_icmp .ne 8, 3), (10, .aload_n 0, 1), (11, .iconst 2, 1), (12, .invokevirtual 158, 3), (15, .aload_n 0, 1), (16, .invokevirtual 162, 3), (19, .aload_n 0, 1), (20, .invokevirtual 181, 3), (23, .istore_n 1, 1), (24, .aload_n 0, 1), (25, .invokevirtual 162, 3), (28, .aload_n 0, 1), (29, .invokevirtual 181, 3), (32, .istore_n 2, 1), (33, .aload_n 0, 1), (34, .getfield 149, 3), (37, .ifCond .ne 13, 3), (40, .iload_n 1, 1), (41, .iload_n 2, 1), (42, .if_icmp .ne 8, 3), (45, .aload_n 0, 1), (46, .iconst 2, 1), (47, .invokevirtual 158, 3), (50, .aload_n 0, 1), (51, .getfield 149, 3), (54, .ifCond .ne 25, 3), (57, .aload_n 0, 1), (58, .getfield 41, 3), (61, .bipush 12, 2), (63, .iload_n 1, 1), (64, .iadd, 1), (65, .iaload, 1), (66, .iload_n 2, 1), (67, .ishr, 1), (68, .iconst 1, 1), (69, .iand, 1), (70, .iconst 1, 1), (71, .if_icmp .ne 8, 3), (74, .aload_n 0, 1), (75, .iconst 3, 1), (76, .invokevirtual 158, 3), (79, .aload_n 0, 1), (80, .getfield 149, 3), (83, .ifCond .eq 4, 3), (86, .return_, 1), (87, .aload_n 0, 1), (88, .getfield 41, 3), (91, .bipush 12, 2), (93, .iload_n 1, 1), (94, .iadd, 1), (95, .dup2, 1), (96, .iaload, 1), (97, .iconst 1, 1), (98, .iload_n 2, 1), (99, .ishl, 1), (100, .ior, 1), (101, .iastore, 1), (102, .aload_n 0, 1), (103, .invokevirtual 155, 3), (106, .aload_n 0, 1), (107, .iconst 1, 1), (108, .aload_n 0, 1), (109, .iconst 1, 1), (110, .invokevirtual 173, 3), (113, .iconst 1, 1), (114, .iadd, 1), (115, .invokevirtual 169, 3), (118, .return_, 1)]
set_option maxRecDepth 100000 in
theorem td_Mo_readNeeds : ∀ q ∈ tb_Mo_readNeeds, decode c_Mo_readNeeds q.1 = .ok q.2 := by decide +kernel
def tb_Mo_readStep : List (Nat × Instr × Nat) := [(0, .bipush 24, 2), (2, .aload_n 0, 1), (3, .iconst 2, 1), (4, .invokevirtual 173, 3), (7, .iadd, 1), (8, .istore_n 2, 1), (9, .iload_n 2, 1), (10, .bipush 48, 2), (12, .if_icmp .ne 8, 3), (15, .aload_n 0, 1), (16, .iconst 2, 1), (17, .invokevirtual 158, 3), (20, .aload_n 0, 1), (21, .invokevirtual 162, 3), (24, .bipush (-2), 2), (26, .istore_n 3, 1), (27, .iload_n 1, 1), (28, .iconst 4, 1), (29, .if_icmp .eq 12, 3), (32, .aload_n 0, 1), (33, .invokevirtual 181, 3), (36, .istore_n 3, 1), (37, .aload_n 0, 1), (38, .invokevirtual 162, 3), (41, .iload_n 1, 1), (42, .iconst 4, 1), (43, .if_icmp .eq 8, 3), (46, .iload_n 1, 1), (47, .iconst 5, 1), (48, .if_icmp .ne 13, 3), (51, .aload_n 0, 1), (52, .iconst 1, 1), (53, .bipush 99, 2), (55, .invokevirtual 165, 3), (58, .goto 4, 3), (61, .iconst 0, 1), (62, .istore 4, 2), (64, .aload_n 0, 1), (65, .getfield 149, 3), (68, .ifCond .eq 4, 3), (71, .return_, 1), (72, .aload_n 0, 1), (73, .getfield 44, 3), (76, .iload_n 2, 1), (77, .iload_n 1, 1), (78, .iconst 2, 1), (79, .isub, 1), (80, .iastore, 1), (81, .aload_n 0, 1), (82, .getfield 47, 3), (85, .iload_n 2, 1), (86, .iload_n 3, 1), (87, .iastore, 1), (88, .aload_n 0, 1), (89, .getfield 50, 3), (92, .iload_n 2, 1), (93, .iload 4, 2), (95, .iastore, 1), (96, .aload_n 0, 1), (97, .iconst 2, 1), (98, .aload_n 0, 1), (99, .iconst 2, 1), (100, .invokevirtual 173, 3), (103, .iconst 1, 1), (104, .iadd, 1), (105, .invokevirtual 169, 3), (108, .return_, 1)]
set_option maxRecDepth 100000 in
theorem td_Mo_readStep : ∀ q ∈ tb_Mo_readStep, decode c_Mo_readStep q.1 = .ok q.2 := by decide +kernel
def tb_Mo_readRetry : List (Nat × Instr × Nat) := [(0, .aload_n 0, 1), (1, .bipush 10, 2), (3, .bipush 9, 2), (5, .iconst 0, 1), (6, .bipush 9, 2), (8, .invokevirtual 185, 3), (11, .aload_n 0, 1), (12, .bipush 10, 2), (14, .aload_n 0, 1), (15, .iconst 1, 1), (16, .bipush 99, 2), (18, .invokevirtual 165, 3), (21, .invokevirtual 169, 3), (24, .return_, 1)]
set_option maxRecDepth 100000 in
theorem td_Mo_readRetry : ∀ q ∈ tb_Mo_readRetry, decode c_Mo_readRetry q.1 = .ok q.2 := by decide +kernel
def tb_Mo_readLine : List (Nat × Instr × Nat) := [(0, .aload_n 0, 1), (1, .getfield 118, 3), (4, .ifCond .ne 12, 3), (7, .aload_n 0, 1), (8, .getfield 128, 3), (11, .bipush 13, 2), (13, .if_icmp .ne 11, 3), (16, .aload_n 0, 1), (17, .iconst 1, 1), (18, .invokevirtual 158, 3), (21, .goto 200, 3), (24, .aload_n 0, 1), (25, .getfield 128, 3), (28, .ifCond .ne 10, 3), (31, .aload_n 0, 1), (32, .invokevirtual 189, 3), (35, .goto 186, 3), (38, .aload_n 0, 1), (39, .getfield 128, 3), (42, .iconst 1, 1), (43, .if_icmp .ne 10, 3), (46, .aload_n 0, 1), (47, .invokevirtual 192, 3), (50, .goto 171, 3), (53, .aload_n 0, 1), (54, .getfield 128, 3), (57, .iconst 2, 1), (58, .if_icmp .lt 22, 3), (61, .aload_n 0, 1), (62, .getfield 128, 3), (65, .iconst 5, 1), (66, .if_icmp .gt 14, 3), (69, .aload_n 0, 1), (70, .aload_n 0, 1), (71, .getfield 128, 3), (74, .invokevirtual 195, 3), (77, .goto 144, 3), (80, .aload_n 0, 1), (81, .getfield 128, 3), (84, .bipush 6, 2), (86, .if_icmp .ne 17, 3), (89, .aload_n 0, 1), (90, .bipush 6, 2), (92, .iconst 3, 1), (93, .iconst 1, 1), (94, .sipush 999, 3), (97, .invokevirtual 185, 3), (100, .goto 121, 3), (103, .aload_n 0, 1), (104, .getfield 128, 3), (107, .bipush 7, 2), (109, .if_icmp .ne 17, 3), (112, .aload_n 0, 1), (113, .bipush 7, 2), (115, .iconst 4, 1), (116, .iconst 1, 1), (117, .sipush 9999, 3), (120, .invokevirtual 185, 3), (123, .goto 98, 3), (126, .aload_n 0, 1), (127, .getfield 128, 3), (130, .bipush 8, 2), (132, .if_icmp .ne 16, 3), (135, .aload_n 0, 1), (136, .bipush 8, 2), (138, .iconst 5, 1), (139, .iconst 1, 1), (140, .bipush 100, 2), (142, .invokevirtual 185, 3), (145, .goto 76, 3), (148, .aload_n 0, 1), (149, .getfield 128, 3), (152, .bipush 9, 2), (154, .if_icmp .ne 17, 3), (157, .aload_n 0, 1), (158, .bipush 9, 2), (160, .bipush 8, 2), (162, .iconst 1, 1), (163, .bipush 9, 2), (165, .invokevirtual 185, 3), (168, .goto 53, 3), (171, .aload_n 0, 1), (172, .getfield 128, 3), (175, .bipush 10, 2), (177, .if_icmp .ne 10, 3), (180, .aload_n 0, 1), (181, .invokevirtual 198, 3), (184, .goto 37, 3), (187, .aload_n 0, 1), (188, .getfield 128, 3), (191, .bipush 11, 2), (193, .if_icmp .ne 17, 3), (196, .aload_n 0, 1), (197, .bipush 11, 2), (199, .bipush 6, 2), (201, .iconst 1, 1), (202, .ldc 137, 2), (204, .invokevirtual 185, 3), (207, .goto 14, 3), (210, .aload_n 0, 1), (211, .bipush 12, 2), (213, .bipush 7, 2), (215, .iconst 0, 1), (216, .ldc 184, 2), (218, .invokevirtual 185, 3), (221, .aload_n 0, 1), (222, .getfield 149, 3), (225, .ifCond .ne 16, 3), (228, .aload_n 0, 1), (229, .getfield 118, 3), (232, .iconst 3, 1), (233, .if_icmp .eq 8, 3), (236, .aload_n 0, 1), (237, .iconst 1, 1), (238, .invokevirtual 158, 3), (241, .aload_n 0, 1), (242, .invokevirtual 162, 3), (245, .aload_n 0, 1), (246, .dup, 1), (247, .getfield 201, 3), (250, .iconst 1, 1), (251, .iadd, 1), (252, .putfield 201, 3), (255, .return_, 1)]
set_option maxRecDepth 100000 in
theorem td_Mo_readLine : ∀ q ∈ tb_Mo_readLine, decode c_Mo_readLine q.1 = .ok q.2 := by decide +kernel
def tb_Mo_freshText : List (Nat × Instr × Nat) := [(0, .iconst 0, 1), (1, .istore_n 1, 1), (2, .iload_n 1, 1), (3, .bipush 11, 2), (5, .if_icmp .ge 15, 3), (8, .aload_n 0, 1), (9, .iload_n 1, 1), (10, .iconst 0, 1), (11, .invokevirtual 169, 3), (14, .iinc 1 1, 3), (17, .goto (-15), 3), (20, .aload_n 0, 1), (21, .iconst 3, 1), (22, .bipush 50, 2), (24, .invokevirtual 169, 3), (27, .aload_n 0, 1), (28, .iconst 4, 1), (29, .sipush 500, 3), (32, .invokevirtual 169, 3), (35, .aload_n 0, 1), (36, .iconst 5, 1), (37, .bipush 90, 2), (39, .invokevirtual 169, 3), (42, .aload_n 0, 1), (43, .bipush 6, 2), (45, .ldc 184, 2), (47, .invokevirtual 169, 3), (50, .aload_n 0, 1), (51, .bipush 8, 2), (53, .iconst 1, 1), (54, .invokevirtual 169, 3), (57, .aload_n 0, 1), (58, .bipush 10, 2), (60, .bipush 10, 2), (62, .invokevirtual 169, 3), (65, .iconst 0, 1), (66, .istore_n 1, 1), (67, .iload_n 1, 1), (68, .bipush 14, 2), (70, .if_icmp .ge 16, 3), (73, .aload_n 0, 1), (74, .getfield 16, 3), (77, .iload_n 1, 1), (78, .iconst 0, 1), (79, .bastore, 1), (80, .iinc 1 1, 3), (83, .goto (-16), 3), (86, .return_, 1)]
set_option maxRecDepth 100000 in
theorem td_Mo_freshText : ∀ q ∈ tb_Mo_freshText, decode c_Mo_freshText q.1 = .ok q.2 := by decide +kernel
def tb_Mo_readText : List (Nat × Instr × Nat) := [(0, .aload_n 0, 1), (1, .iload_n 1, 1), (2, .putfield 108, 3), (5, .aload_n 0, 1), (6, .iconst 0, 1), (7, .putfield 105, 3), (10, .aload_n 0, 1), (11, .iconst 0, 1), (12, .putfield 149, 3), (15, .aload_n 0, 1), (16, .iconst 0, 1), (17, .putfield 201, 3), (20, .aload_n 0, 1), (21, .invokevirtual 90, 3), (24, .aload_n 0, 1), (25, .invokevirtual 155, 3), (28, .aload_n 0, 1), (29, .getfield 149, 3), (32, .ifCond .ne 18, 3), (35, .aload_n 0, 1), (36, .getfield 118, 3), (39, .iconst 4, 1), (40, .if_icmp .eq 10, 3), (43, .aload_n 0, 1), (44, .invokevirtual 204, 3), (47, .goto (-19), 3), (50, .return_, 1)]
set_option maxRecDepth 100000 in
theorem td_Mo_readText : ∀ q ∈ tb_Mo_readText, decode c_Mo_readText q.1 = .ok q.2 := by decide +kernel
def tb_Mo_rails : List (Nat × Instr × Nat) := [(0, .aload_n 0, 1), (1, .getfield 13, 3), (4, .iconst 0, 1), (5, .iaload, 1), (6, .ireturn, 1)]
set_option maxRecDepth 100000 in
theorem td_Mo_rails : ∀ q ∈ tb_Mo_rails, decode c_Mo_rails q.1 = .ok q.2 := by decide +kernel
def tb_Mo_laysOn : List (Nat × Instr × Nat) := [(0, .iconst 0, 1), (1, .istore_n 1, 1), (2, .iload_n 1, 1), (3, .aload_n 0, 1), (4, .invokevirtual 223, 3), (7, .if_icmp .ge 57, 3), (10, .aload_n 0, 1), (11, .getfield 57, 3), (14, .iload_n 1, 1), (15, .aload_n 0, 1), (16, .getfield 41, 3), (19, .iload_n 1, 1), (20, .iaload, 1), (21, .aload_n 0, 1), (22, .getfield 23, 3), (25, .iload_n 1, 1), (26, .iaload, 1), (27, .bipush (-2), 2), (29, .if_icmp .ne 7, 3), (32, .iconst 0, 1), (33, .goto 11, 3), (36, .iconst 1, 1), (37, .aload_n 0, 1), (38, .getfield 23, 3), (41, .iload_n 1, 1), (42, .iaload, 1), (43, .ishl, 1), (44, .ior, 1), (45, .iastore, 1), (46, .aload_n 0, 1), (47, .getfield 60, 3), (50, .iload_n 1, 1), (51, .aload_n 0, 1), (52, .getfield 57, 3), (55, .iload_n 1, 1), (56, .iaload, 1), (57, .iastore, 1), (58, .iinc 1 1, 3), (61, .goto (-59), 3), (64, .iconst 0, 1), (65, .istore_n 1, 1), (66, .iload_n 1, 1), (67, .aload_n 0, 1), (68, .invokevirtual 223, 3), (71, .if_icmp .ge 70, 3), (74, .iconst 0, 1), (75, .istore_n 2, 1), (76, .iload_n 2, 1), (77, .aload_n 0, 1), (78, .invokevirtual 223, 3), (81, .if_icmp .ge 54, 3), (84, .iconst 0, 1), (85, .istore_n 3, 1), (86, .iload_n 3, 1), (87, .aload_n 0, 1), (88, .invokevirtual 223, 3), (91, .if_icmp .ge 38, 3), (94, .aload_n 0, 1), (95, .getfield 60, 3), (98, .iload_n 2, 1), (99, .iaload, 1), (100, .iload_n 3, 1), (101, .ishr, 1), (102, .iconst 1, 1), (103, .iand, 1), (104, .iconst 1, 1), (105, .if_icmp .ne 18, 3), (108, .aload_n 0, 1), (109, .getfield 60, 3), (112, .iload_n 2, 1), (113, .dup2, 1), (114, .iaload, 1), (115, .aload_n 0, 1), (116, .getfield 60, 3), (119, .iload_n 3, 1), (120, .iaload, 1), (121, .ior, 1), (122, .iastore, 1), (123, .iinc 3 1, 3), (126, .goto (-40), 3), (129, .iinc 2 1, 3), (132, .goto (-56), 3), (135, .iinc 1 1, 3), (138, .goto (-72), 3), (141, .return_, 1)]
set_option maxRecDepth 100000 in
theorem td_Mo_laysOn : ∀ q ∈ tb_Mo_laysOn, decode c_Mo_laysOn q.1 = .ok q.2 := by decide +kernel
def tb_Mo_takeText : List (Nat × Instr × Nat) := [(0, .iconst 0, 1), (1, .istore_n 1, 1), (2, .iload_n 1, 1), (3, .bipush 11, 2), (5, .if_icmp .ge 20, 3), (8, .aload_n 0, 1), (9, .getfield 13, 3), (12, .iload_n 1, 1), (13, .aload_n 0, 1), (14, .iload_n 1, 1), (15, .invokevirtual 173, 3), (18, .iastore, 1), (19, .iinc 1 1, 3), (22, .goto (-20), 3), (25, .iconst 0, 1), (26, .istore_n 1, 1), (27, .iload_n 1, 1), (28, .bipush 12, 2), (30, .if_icmp .ge 129, 3), (33, .aload_n 0, 1), (34, .getfield 20, 3), (37, .iload_n 1, 1), (38, .aload_n 0, 1), (39, .getfield 20, 3), (42, .bipush 12, 2), (44, .iload_n 1, 1), (45, .iadd, 1), (46, .iaload, 1), (47, .iastore, 1), (48, .aload_n 0, 1), (49, .getfield 23, 3), (52, .iload_n 1, 1), (53, .aload_n 0, 1), (54, .getfield 23, 3), (57, .bipush 12, 2), (59, .iload_n 1, 1), (60, .iadd, 1), (61, .iaload, 1), (62, .iastore, 1), (63, .aload_n 0, 1), (64, .getfield 26, 3), (67, .iload_n 1, 1), (68, .aload_n 0, 1), (69, .getfield 26, 3), (72, .bipush 12, 2), (74, .iload_n 1, 1), (75, .iadd, 1), (76, .iaload, 1), (77, .iastore, 1), (78, .aload_n 0, 1), (79, .getfield 29, 3), (82, .iload_n 1, 1), (83, .aload_n 0, 1), (84, .getfield 29, 3), (87, .bipush 12, 2), (89, .iload_n 1, 1), (90, .iadd, 1), (91, .iaload, 1), (92, .iastore, 1), (93, .aload_n 0, 1), (94, .getfield 32, 3), (97, .iload_n 1, 1), (98, .aload_n 0, 1), (99, .getfield 32, 3), (102, .bipush 12, 2), (104, .iload_n 1, 1), (105, .iadd, 1), (106, .iaload, 1), (107, .iastore, 1), (108, .aload_n 0, 1), (109, .getfield 35, 3), (112, .iload_n 1, 1), (113, .aload_n 0, 1), (114, .getfield 35, 3), (117, .bipush 12, 2), (119, .iload_n 1, 1), (120, .iadd, 1), (121, .iaload, 1), (122, .iastore, 1), (123, .aload_n 0, 1), (124, .getfield 38, 3), (127, .iload_n 1, 1), (128, .aload_n 0, 1), (129, .getfield 38, 3), (132, .bipush 12, 2), (134, .iload_n 1, 1), (135, .iadd, 1), (136, .iaload, 1), (137, .iastore, 1), (138, .aload_n 0, 1), (139, .getfield 41, 3), (142, .iload_n 1, 1), (143, .aload_n 0, 1), (144, .getfield 41, 3), (147, .bipush 12, 2), (149, .iload_n 1, 1), (150, .iadd, 1), (151, .iaload, 1), (152, .iastore, 1), (153, .iinc 1 1, 3), (156, .goto (-129), 3), (159, .iconst 0, 1), (160, .istore_n 1, 1), (161, .iload_n 1, 1), (162, .bipush 24, 2), (164, .if_icmp .ge 54, 3), (167, .aload_n 0, 1), (168, .getfield 44, 3), (171, .iload_n 1, 1), (172, .aload_n 0, 1), (173, .getfield 44, 3), (176, .bipush 24, 2), (178, .iload_n 1, 1), (179, .iadd, 1), (180, .iaload, 1), (181, .iastore, 1), (182, .aload_n 0, 1), (183, .getfield 47, 3), (186, .iload_n 1, 1), (187, .aload_n 0, 1), (188, .getfield 47, 3), (191, .bipush 24, 2), (193, .iload_n 1, 1), (194, .iadd, 1), (195, .iaload, 1), (196, .iastore, 1), (197, .aload_n 0, 1), (198, .getfield 50, 3), (201, .iload_n 1, 1), (202, .aload_n 0, 1), (203, .getfield 50, 3), (206, .bipush 24, 2), (208, .iload_n 1, 1), (209, .iadd, 1), (210, .iaload, 1), (211, .iastore, 1), (212, .iinc 1 1, 3), (215, .goto (-54), 3), (218, .aload_n 0, 1), (219, .invokevirtual 207, 3), (222, .return_, 1)]
set_option maxRecDepth 100000 in
theorem td_Mo_takeText : ∀ q ∈ tb_Mo_takeText, decode c_Mo_takeText q.1 = .ok q.2 := by decide +kernel
def tb_Mo_begins : List (Nat × Instr × Nat) := [(0, .iconst 0, 1), (1, .istore_n 1, 1), (2, .iload_n 1, 1), (3, .sipush 308, 3), (6, .if_icmp .ge 16, 3), (9, .aload_n 0, 1), (10, .getfield 63, 3), (13, .iload_n 1, 1), (14, .iconst 0, 1), (15, .iastore, 1), (16, .iinc 1 1, 3), (19, .goto (-17), 3), (22, .iconst 0, 1), (23, .istore_n 1, 1), (24, .iload_n 1, 1), (25, .aload_n 0, 1), (26, .invokevirtual 223, 3), (29, .if_icmp .ge 58, 3), (32, .aload_n 0, 1), (33, .getfield 63, 3), (36, .bipush 13, 2), (38, .iload_n 1, 1), (39, .imul, 1), (40, .iconst 4, 1), (41, .iadd, 1), (42, .bipush (-2), 2), (44, .iastore, 1), (45, .aload_n 0, 1), (46, .getfield 63, 3), (49, .bipush 13, 2), (51, .iload_n 1, 1), (52, .imul, 1), (53, .bipush 6, 2), (55, .iadd, 1), (56, .aload_n 0, 1), (57, .getfield 35, 3), (60, .iload_n 1, 1), (61, .iaload, 1), (62, .iastore, 1), (63, .aload_n 0, 1), (64, .getfield 63, 3), (67, .bipush 13, 2), (69, .iload_n 1, 1), (70, .imul, 1), (71, .bipush 7, 2), (73, .iadd, 1), (74, .aload_n 0, 1), (75, .getfield 38, 3), (78, .iload_n 1, 1), (79, .iaload, 1), (80, .iastore, 1), (81, .iinc 1 1, 3), (84, .goto (-60), 3), (87, .return_, 1)]
set_option maxRecDepth 100000 in
theorem td_Mo_begins : ∀ q ∈ tb_Mo_begins, decode c_Mo_begins q.1 = .ok q.2 := by decide +kernel
def tb_Mo_text : List (Nat × Instr × Nat) := [(0, .aload_n 0, 1), (1, .iconst 0, 1), (2, .putfield 99, 3), (5, .iload_n 1, 1), (6, .ifCond .lt 11, 3), (9, .iload_n 1, 1), (10, .aload_n 0, 1), (11, .getfield 102, 3), (14, .if_icmp .le 6, 3), (17, .bipush (-2), 2), (19, .ireturn, 1), (20, .aload_n 0, 1), (21, .iload_n 1, 1), (22, .invokevirtual 210, 3), (25, .aload_n 0, 1), (26, .iconst 0, 1), (27, .putfield 102, 3), (30, .aload_n 0, 1), (31, .aload_n 0, 1), (32, .getfield 149, 3), (35, .putfield 213, 3), (38, .aload_n 0, 1), (39, .aload_n 0, 1), (40, .getfield 149, 3), (43, .ifCond .ne 7, 3), (46, .iconst (-1), 1), (47, .goto 7, 3), (50, .aload_n 0, 1), (51, .getfield 152, 3), (54, .putfield 53, 3), (57, .aload_n 0, 1), (58, .getfield 149, 3), (61, .ifCond .eq 5, 3), (64, .iconst (-1), 1), (65, .ireturn, 1), (66, .aload_n 0, 1), (67, .invokevirtual 93, 3), (70, .aload_n 0, 1), (71, .invokevirtual 96, 3), (74, .aload_n 0, 1), (75, .iconst 0, 1), (76, .putfield 216, 3), (79, .aload_n 0, 1), (80, .iconst 0, 1), (81, .putfield 219, 3), (84, .aload_n 0, 1), (85, .getfield 201, 3), (88, .ireturn, 1)]
set_option maxRecDepth 100000 in
theorem td_Mo_text : ∀ q ∈ tb_Mo_text, decode c_Mo_text q.1 = .ok q.2 := by decide +kernel
def tb_Mo_fault : List (Nat × Instr × Nat) := [(0, .aload_n 0, 1), (1, .iconst 0, 1), (2, .putfield 99, 3), (5, .iload_n 1, 1), (6, .ifCond .ne 10, 3), (9, .aload_n 0, 1), (10, .getfield 213, 3), (13, .goto 16, 3), (16, .iload_n 1, 1), (17, .iconst 1, 1), (18, .if_icmp .ne 10, 3), (21, .aload_n 0, 1), (22, .getfield 53, 3), (25, .goto 4, 3), (28, .iconst (-1), 1), (29, .ireturn, 1)]
set_option maxRecDepth 100000 in
theorem td_Mo_fault : ∀ q ∈ tb_Mo_fault, decode c_Mo_fault q.1 = .ok q.2 := by decide +kernel
def tb_Mo_named : List (Nat × Instr × Nat) := [(0, .aload_n 0, 1), (1, .iconst 0, 1), (2, .putfield 99, 3), (5, .aload_n 0, 1), (6, .iconst 0, 1), (7, .aload_n 0, 1), (8, .invokevirtual 223, 3), (11, .iload_n 1, 1), (12, .invokevirtual 177, 3), (15, .ireturn, 1)]
set_option maxRecDepth 100000 in
theorem td_Mo_named : ∀ q ∈ tb_Mo_named, decode c_Mo_named q.1 = .ok q.2 := by decide +kernel
def tb_Mo_hangOn : List (Nat × Instr × Nat) := [(0, .iconst 0, 1), (1, .istore_n 2, 1), (2, .iconst 0, 1), (3, .istore_n 3, 1), (4, .iload_n 3, 1), (5, .aload_n 0, 1), (6, .invokevirtual 223, 3), (9, .if_icmp .ge 29, 3), (12, .aload_n 0, 1), (13, .getfield 60, 3), (16, .iload_n 3, 1), (17, .iaload, 1), (18, .iload_n 1, 1), (19, .ishr, 1), (20, .iconst 1, 1), (21, .iand, 1), (22, .iconst 1, 1), (23, .if_icmp .ne 9, 3), (26, .iload_n 2, 1), (27, .iconst 1, 1), (28, .iload_n 3, 1), (29, .ishl, 1), (30, .ior, 1), (31, .istore_n 2, 1), (32, .iinc 3 1, 3), (35, .goto (-31), 3), (38, .iload_n 2, 1), (39, .ireturn, 1)]
set_option maxRecDepth 100000 in
theorem td_Mo_hangOn : ∀ q ∈ tb_Mo_hangOn, decode c_Mo_hangOn q.1 = .ok q.2 := by decide +kernel
def tb_Mo_copies : List (Nat × Instr × Nat) := [(0, .iconst 0, 1), (1, .istore 4, 2), (3, .iload 4, 2), (5, .sipush 308, 3), (8, .if_icmp .ge 21, 3), (11, .aload_n 2, 1), (12, .iload_n 3, 1), (13, .iload 4, 2), (15, .iadd, 1), (16, .aload_n 0, 1), (17, .iload_n 1, 1), (18, .iload 4, 2), (20, .iadd, 1), (21, .iaload, 1), (22, .iastore, 1), (23, .iinc 4 1, 3), (26, .goto (-23), 3), (29, .return_, 1)]
set_option maxRecDepth 100000 in
theorem td_Mo_copies : ∀ q ∈ tb_Mo_copies, decode c_Mo_copies q.1 = .ok q.2 := by decide +kernel
def tb_Mo_remembers : List (Nat × Instr × Nat) := [(0, .aload_n 0, 1), (1, .getfield 216, 3), (4, .bipush 20, 2), (6, .if_icmp .ne 44, 3), (9, .iconst 0, 1), (10, .istore_n 1, 1), (11, .iload_n 1, 1), (12, .sipush 5852, 3), (15, .if_icmp .ge 25, 3), (18, .aload_n 0, 1), (19, .getfield 72, 3), (22, .iload_n 1, 1), (23, .aload_n 0, 1), (24, .getfield 72, 3), (27, .sipush 308, 3), (30, .iload_n 1, 1), (31, .iadd, 1), (32, .iaload, 1), (33, .iastore, 1), (34, .iinc 1 1, 3), (37, .goto (-26), 3), (40, .aload_n 0, 1), (41, .dup, 1), (42, .getfield 216, 3), (45, .iconst 1, 1), (46, .isub, 1), (47, .putfield 216, 3), (50, .aload_n 0, 1), (51, .getfield 63, 3), (54, .iconst 0, 1), (55, .aload_n 0, 1), (56, .getfield 72, 3), (59, .sipush 308, 3), (62, .aload_n 0, 1), (63, .getfield 216, 3), (66, .imul, 1), (67, .invokestatic 226, 3), (70, .aload_n 0, 1), (71, .dup, 1), (72, .getfield 216, 3), (75, .iconst 1, 1), (76, .iadd, 1), (77, .putfield 216, 3), (80, .return_, 1)]
set_option maxRecDepth 100000 in
theorem td_Mo_remembers : ∀ q ∈ tb_Mo_remembers, decode c_Mo_remembers q.1 = .ok q.2 := by decide +kernel
def tb_Mo_undo : List (Nat × Instr × Nat) := [(0, .aload_n 0, 1), (1, .iconst 0, 1), (2, .putfield 99, 3), (5, .aload_n 0, 1), (6, .getfield 216, 3), (9, .ifCond .ne 5, 3), (12, .iconst (-1), 1), (13, .ireturn, 1), (14, .aload_n 0, 1), (15, .dup, 1), (16, .getfield 216, 3), (19, .iconst 1, 1), (20, .isub, 1), (21, .putfield 216, 3), (24, .aload_n 0, 1), (25, .getfield 72, 3), (28, .sipush 308, 3), (31, .aload_n 0, 1), (32, .getfield 216, 3), (35, .imul, 1), (36, .aload_n 0, 1), (37, .getfield 63, 3), (40, .iconst 0, 1), (41, .invokestatic 226, 3), (44, .aload_n 0, 1), (45, .getfield 216, 3), (48, .ireturn, 1)]
set_option maxRecDepth 100000 in
theorem td_Mo_undo : ∀ q ∈ tb_Mo_undo, decode c_Mo_undo q.1 = .ok q.2 := by decide +kernel
def tb_Mo_keep : List (Nat × Instr × Nat) := [(0, .aload_n 0, 1), (1, .iconst 0, 1), (2, .putfield 99, 3), (5, .aload_n 0, 1), (6, .getfield 63, 3), (9, .iconst 0, 1), (10, .aload_n 0, 1), (11, .getfield 69, 3), (14, .iconst 0, 1), (15, .invokestatic 226, 3), (18, .aload_n 0, 1), (19, .iconst 1, 1), (20, .putfield 219, 3), (23, .aload_n 0, 1), (24, .getfield 63, 3), (27, .sipush 182, 3), (30, .iaload, 1), (31, .ireturn, 1)]
set_option maxRecDepth 100000 in
theorem td_Mo_keep : ∀ q ∈ tb_Mo_keep, decode c_Mo_keep q.1 = .ok q.2 := by decide +kernel
def tb_Mo_back : List (Nat × Instr × Nat) := [(0, .aload_n 0, 1), (1, .iconst 0, 1), (2, .putfield 99, 3), (5, .aload_n 0, 1), (6, .getfield 219, 3), (9, .ifCond .ne 5, 3), (12, .iconst (-1), 1), (13, .ireturn, 1), (14, .aload_n 0, 1), (15, .getfield 69, 3), (18, .iconst 0, 1), (19, .aload_n 0, 1), (20, .getfield 63, 3), (23, .iconst 0, 1), (24, .invokestatic 226, 3), (27, .aload_n 0, 1), (28, .iconst 0, 1), (29, .putfield 216, 3), (32, .aload_n 0, 1), (33, .getfield 63, 3), (36, .sipush 182, 3), (39, .iaload, 1), (40, .ireturn, 1)]
set_option maxRecDepth 100000 in
theorem td_Mo_back : ∀ q ∈ tb_Mo_back, decode c_Mo_back q.1 = .ok q.2 := by decide +kernel
def tb_Mo_state : List (Nat × Instr × Nat) := [(0, .aload_n 0, 1), (1, .getfield 63, 3), (4, .bipush 13, 2), (6, .iload_n 1, 1), (7, .imul, 1), (8, .iconst 0, 1), (9, .iadd, 1), (10, .iaload, 1), (11, .ireturn, 1)]
set_option maxRecDepth 100000 in
theorem td_Mo_state : ∀ q ∈ tb_Mo_state, decode c_Mo_state q.1 = .ok q.2 := by decide +kernel
def tb_Mo_state_ : List (Nat × Instr × Nat) := [(0, .aload_n 0, 1), (1, .getfield 63, 3), (4, .bipush 13, 2), (6, .iload_n 1, 1), (7, .imul, 1), (8, .iconst 0, 1), (9, .iadd, 1), (10, .iload_n 2, 1), (11, .iastore, 1), (12, .return_, 1)]
set_option maxRecDepth 100000 in
theorem td_Mo_state_ : ∀ q ∈ tb_Mo_state_, decode c_Mo_state_ q.1 = .ok q.2 := by decide +kernel
def tb_Mo_isGood : List (Nat × Instr × Nat) := [(0, .aload_n 0, 1), (1, .iload_n 1, 1), (2, .invokevirtual 230, 3), (5, .iconst 3, 1), (6, .if_icmp .ne 37, 3), (9, .aload_n 0, 1), (10, .getfield 63, 3), (13, .bipush 13, 2), (15, .iload_n 1, 1), (16, .imul, 1), (17, .iconst 1, 1), (18, .iadd, 1), (19, .iaload, 1), (20, .bipush 100, 2), (22, .imul, 1), (23, .aload_n 0, 1), (24, .getfield 26, 3), (27, .iload_n 1, 1), (28, .iaload, 1), (29, .aload_n 0, 1), (30, .getfield 13, 3), (33, .iconst 5, 1), (34, .iaload, 1), (35, .imul, 1), (36, .if_icmp .lt 7, 3), (39, .iconst 1, 1), (40, .goto 4, 3), (43, .iconst 0, 1), (44, .ireturn, 1)]
set_option maxRecDepth 100000 in
theorem td_Mo_isGood : ∀ q ∈ tb_Mo_isGood, decode c_Mo_isGood q.1 = .ok q.2 := by decide +kernel
def tb_Mo_logs : List (Nat × Instr × Nat) := [(0, .bipush 39, 2), (2, .istore_n 3, 1), (3, .iload_n 3, 1), (4, .ifCond .le 56, 3), (7, .iconst 0, 1), (8, .istore 4, 2), (10, .iload 4, 2), (12, .iconst 3, 1), (13, .if_icmp .ge 41, 3), (16, .aload_n 0, 1), (17, .getfield 63, 3), (20, .sipush 188, 3), (23, .iconst 3, 1), (24, .iload_n 3, 1), (25, .imul, 1), (26, .iadd, 1), (27, .iload 4, 2), (29, .iadd, 1), (30, .aload_n 0, 1), (31, .getfield 63, 3), (34, .sipush 188, 3), (37, .iconst 3, 1), (38, .iload_n 3, 1), (39, .imul, 1), (40, .iadd, 1), (41, .iconst 3, 1), (42, .isub, 1), (43, .iload 4, 2), (45, .iadd, 1), (46, .iaload, 1), (47, .iastore, 1), (48, .iinc 4 1, 3), (51, .goto (-41), 3), (54, .iinc 3 (-1), 3), (57, .goto (-54), 3), (60, .aload_n 0, 1), (61, .getfield 63, 3), (64, .sipush 188, 3), (67, .aload_n 0, 1), (68, .getfield 63, 3), (71, .sipush 182, 3), (74, .iaload, 1), (75, .iastore, 1), (76, .aload_n 0, 1), (77, .getfield 63, 3), (80, .sipush 189, 3), (83, .iload_n 1, 1), (84, .iastore, 1), (85, .aload_n 0, 1), (86, .getfield 63, 3), (89, .sipush 190, 3), (92, .iload_n 2, 1), (93, .iastore, 1), (94, .aload_n 0, 1), (95, .getfield 63, 3), (98, .sipush 187, 3), (101, .aload_n 0, 1), (102, .getfield 63, 3), (105, .sipush 187, 3), (108, .iaload, 1), (109, .bipush 40, 2), (111, .if_icmp .ge 16, 3), (114, .aload_n 0, 1), (115, .getfield 63, 3), (118, .sipush 187, 3), (121, .iaload, 1), (122, .iconst 1, 1), (123, .iadd, 1), (124, .goto 5, 3), (127, .bipush 40, 2), (129, .iastore, 1), (130, .return_, 1)]
set_option maxRecDepth 100000 in
theorem td_Mo_logs : ∀ q ∈ tb_Mo_logs, decode c_Mo_logs q.1 = .ok q.2 := by decide +kernel
def tb_Mo_goesOut : List (Nat × Instr × Nat) := [(0, .aload_n 0, 1), (1, .getfield 63, 3), (4, .iload_n 1, 1), (5, .iaload, 1), (6, .istore_n 3, 1), (7, .iconst 0, 1), (8, .istore 4, 2), (10, .iconst 0, 1), (11, .istore 5, 2), (13, .iload 5, 2), (15, .iload_n 3, 1), (16, .if_icmp .ge 52, 3), (19, .aload_n 0, 1), (20, .getfield 63, 3), (23, .iload_n 1, 1), (24, .iconst 1, 1), (25, .iadd, 1), (26, .iload 5, 2), (28, .iadd, 1), (29, .iaload, 1), (30, .iload_n 2, 1), (31, .if_icmp .ne 6, 3), (34, .goto 28, 3), (37, .aload_n 0, 1), (38, .getfield 63, 3), (41, .iload_n 1, 1), (42, .iconst 1, 1), (43, .iadd, 1), (44, .iload 4, 2), (46, .iadd, 1), (47, .aload_n 0, 1), (48, .getfield 63, 3), (51, .iload_n 1, 1), (52, .iconst 1, 1), (53, .iadd, 1), (54, .iload 5, 2), (56, .iadd, 1), (57, .iaload, 1), (58, .iastore, 1), (59, .iinc 4 1, 3), (62, .iinc 5 1, 3), (65, .goto (-52), 3), (68, .aload_n 0, 1), (69, .getfield 63, 3), (72, .iload_n 1, 1), (73, .iload 4, 2), (75, .iastore, 1), (76, .return_, 1)]
set_option maxRecDepth 100000 in
theorem td_Mo_goesOut : ∀ q ∈ tb_Mo_goesOut, decode c_Mo_goesOut q.1 = .ok q.2 := by decide +kernel
def tb_Mo_comesTo : List (Nat × Instr × Nat) := [(0, .aload_n 0, 1), (1, .getfield 63, 3), (4, .iload_n 1, 1), (5, .iconst 1, 1), (6, .iadd, 1), (7, .aload_n 0, 1), (8, .getfield 63, 3), (11, .iload_n 1, 1), (12, .iaload, 1), (13, .iadd, 1), (14, .iload_n 2, 1), (15, .iastore, 1), (16, .aload_n 0, 1), (17, .getfield 63, 3), (20, .iload_n 1, 1), (21, .dup2, 1), (22, .iaload, 1), (23, .iconst 1, 1), (24, .iadd, 1), (25, .iastore, 1), (26, .return_, 1)]
set_option maxRecDepth 100000 in
theorem td_Mo_comesTo : ∀ q ∈ tb_Mo_comesTo, decode c_Mo_comesTo q.1 = .ok q.2 := by decide +kernel
def tb_Mo_isLive : List (Nat × Instr × Nat) := [(0, .aload_n 0, 1), (1, .iload_n 1, 1), (2, .invokevirtual 230, 3), (5, .iconst 2, 1), (6, .if_icmp .eq 12, 3), (9, .aload_n 0, 1), (10, .iload_n 1, 1), (11, .invokevirtual 230, 3), (14, .iconst 3, 1), (15, .if_icmp .ne 22, 3), (18, .aload_n 0, 1), (19, .getfield 63, 3), (22, .bipush 13, 2), (24, .iload_n 1, 1), (25, .imul, 1), (26, .bipush 8, 2), (28, .iadd, 1), (29, .iaload, 1), (30, .ifCond .ne 7, 3), (33, .iconst 1, 1), (34, .goto 4, 3), (37, .iconst 0, 1), (38, .ireturn, 1)]
set_option maxRecDepth 100000 in
theorem td_Mo_isLive : ∀ q ∈ tb_Mo_isLive, decode c_Mo_isLive q.1 = .ok q.2 := by decide +kernel
def tb_Mo_latestOf : List (Nat × Instr × Nat) := [(0, .iconst (-1), 1), (1, .istore_n 2, 1), (2, .iconst 0, 1), (3, .istore_n 3, 1), (4, .iload_n 3, 1), (5, .aload_n 0, 1), (6, .invokevirtual 223, 3), (9, .if_icmp .ge 60, 3), (12, .iload_n 1, 1), (13, .iload_n 3, 1), (14, .ishr, 1), (15, .iconst 1, 1), (16, .iand, 1), (17, .ifCond .eq 46, 3), (20, .aload_n 0, 1), (21, .iload_n 3, 1), (22, .invokevirtual 233, 3), (25, .ifCond .ne 6, 3), (28, .goto 35, 3), (31, .iload_n 2, 1), (32, .iconst (-1), 1), (33, .if_icmp .eq 28, 3), (36, .aload_n 0, 1), (37, .getfield 63, 3), (40, .bipush 13, 2), (42, .iload_n 3, 1), (43, .imul, 1), (44, .iconst 4, 1), (45, .iadd, 1), (46, .iaload, 1), (47, .aload_n 0, 1), (48, .getfield 63, 3), (51, .bipush 13, 2), (53, .iload_n 2, 1), (54, .imul, 1), (55, .iconst 4, 1), (56, .iadd, 1), (57, .iaload, 1), (58, .if_icmp .lt 5, 3), (61, .iload_n 3, 1), (62, .istore_n 2, 1), (63, .iinc 3 1, 3), (66, .goto (-62), 3), (69, .iload_n 2, 1), (70, .ireturn, 1)]
set_option maxRecDepth 100000 in
theorem td_Mo_latestOf : ∀ q ∈ tb_Mo_latestOf, decode c_Mo_latestOf q.1 = .ok q.2 := by decide +kernel
def tb_Mo_unwinds : List (Nat × Instr × Nat) := [(0, .iconst 0, 1), (1, .istore_n 3, 1), (2, .iload_n 3, 1), (3, .aload_n 0, 1), (4, .invokevirtual 223, 3), (7, .if_icmp .ge 43, 3), (10, .iload_n 1, 1), (11, .iload_n 3, 1), (12, .ishr, 1), (13, .iconst 1, 1), (14, .iand, 1), (15, .ifCond .eq 29, 3), (18, .aload_n 0, 1), (19, .iload_n 3, 1), (20, .invokevirtual 230, 3), (23, .iconst 1, 1), (24, .if_icmp .eq 6, 3), (27, .goto 17, 3), (30, .aload_n 0, 1), (31, .iload_n 3, 1), (32, .iconst 0, 1), (33, .invokevirtual 236, 3), (36, .aload_n 0, 1), (37, .sipush 156, 3), (40, .iload_n 3, 1), (41, .invokevirtual 238, 3), (44, .iinc 3 1, 3), (47, .goto (-45), 3), (50, .aload_n 0, 1), (51, .iload_n 1, 1), (52, .invokevirtual 241, 3), (55, .istore_n 3, 1), (56, .iload_n 3, 1), (57, .iconst (-1), 1), (58, .if_icmp .eq 55, 3), (61, .aload_n 0, 1), (62, .getfield 63, 3), (65, .bipush 13, 2), (67, .iload_n 3, 1), (68, .imul, 1), (69, .bipush 8, 2), (71, .iadd, 1), (72, .iconst 1, 1), (73, .iastore, 1), (74, .aload_n 0, 1), (75, .getfield 63, 3), (78, .bipush 13, 2), (80, .iload_n 3, 1), (81, .imul, 1), (82, .bipush 12, 2), (84, .iadd, 1), (85, .iload_n 3, 1), (86, .iload_n 2, 1), (87, .if_icmp .ne 7, 3), (90, .iconst 1, 1), (91, .goto 4, 3), (94, .iconst 0, 1), (95, .iastore, 1), (96, .aload_n 0, 1), (97, .sipush 169, 3), (100, .iload_n 3, 1), (101, .invokevirtual 244, 3), (104, .aload_n 0, 1), (105, .iload_n 1, 1), (106, .invokevirtual 241, 3), (109, .istore_n 3, 1), (110, .goto (-54), 3), (113, .return_, 1)]
set_option maxRecDepth 100000 in
theorem td_Mo_unwinds : ∀ q ∈ tb_Mo_unwinds, decode c_Mo_unwinds q.1 = .ok q.2 := by decide +kernel
def tb_Mo_waitsNow : List (Nat × Instr × Nat) := [(0, .aload_n 0, 1), (1, .iload_n 1, 1), (2, .invokevirtual 230, 3), (5, .ifCond .eq 4, 3), (8, .return_, 1), (9, .aload_n 0, 1), (10, .iload_n 1, 1), (11, .iconst 1, 1), (12, .invokevirtual 236, 3), (15, .aload_n 0, 1), (16, .sipush 156, 3), (19, .iload_n 1, 1), (20, .invokevirtual 244, 3), (23, .return_, 1)]
set_option maxRecDepth 100000 in
theorem td_Mo_waitsNow : ∀ q ∈ tb_Mo_waitsNow, decode c_Mo_waitsNow q.1 = .ok q.2 := by decide +kernel
def tb_Mo_asks : List (Nat × Instr × Nat) := [(0, .aload_n 0, 1), (1, .getfield 63, 3), (4, .bipush 13, 2), (6, .iload_n 1, 1), (7, .imul, 1), (8, .bipush 10, 2), (10, .iadd, 1), (11, .iconst 0, 1), (12, .iastore, 1), (13, .aload_n 0, 1), (14, .getfield 63, 3), (17, .bipush 13, 2), (19, .iload_n 1, 1), (20, .imul, 1), (21, .bipush 11, 2), (23, .iadd, 1), (24, .iconst 0, 1), (25, .iastore, 1), (26, .aload_n 0, 1), (27, .getfield 63, 3), (30, .bipush 13, 2), (32, .iload_n 1, 1), (33, .imul, 1), (34, .bipush 12, 2), (36, .iadd, 1), (37, .iconst 0, 1), (38, .iastore, 1), (39, .iload_n 2, 1), (40, .ifCond .ne 9, 3), (43, .aload_n 0, 1), (44, .iload_n 1, 1), (45, .invokevirtual 247, 3), (48, .return_, 1), (49, .aload_n 0, 1), (50, .iload_n 1, 1), (51, .invokevirtual 230, 3), (54, .iconst 1, 1), (55, .if_icmp .ne 20, 3), (58, .aload_n 0, 1), (59, .iload_n 1, 1), (60, .iconst 0, 1), (61, .invokevirtual 236, 3), (64, .aload_n 0, 1), (65, .sipush 156, 3), (68, .iload_n 1, 1), (69, .invokevirtual 238, 3), (72, .goto 35, 3), (75, .aload_n 0, 1), (76, .iload_n 1, 1), (77, .invokevirtual 230, 3), (80, .iconst 2, 1), (81, .if_icmp .eq 12, 3), (84, .aload_n 0, 1), (85, .iload_n 1, 1), (86, .invokevirtual 230, 3), (89, .iconst 3, 1), (90, .if_icmp .ne 17, 3), (93, .aload_n 0, 1), (94, .iconst 1, 1), (95, .iload_n 1, 1), (96, .ishl, 1), (97, .aload_n 0, 1), (98, .iload_n 1, 1), (99, .invokevirtual 250, 3), (102, .ior, 1), (103, .iconst (-1), 1), (104, .invokevirtual 253, 3), (107, .return_, 1)]
set_option maxRecDepth 100000 in
theorem td_Mo_asks : ∀ q ∈ tb_Mo_asks, decode c_Mo_asks q.1 = .ok q.2 := by decide +kernel
def tb_Mo_comeAgain : List (Nat × Instr × Nat) := [(0, .iconst 0, 1), (1, .istore_n 1, 1), (2, .iload_n 1, 1), (3, .aload_n 0, 1), (4, .invokevirtual 223, 3), (7, .if_icmp .ge 102, 3), (10, .aload_n 0, 1), (11, .getfield 63, 3), (14, .bipush 13, 2), (16, .iload_n 1, 1), (17, .imul, 1), (18, .bipush 10, 2), (20, .iadd, 1), (21, .iaload, 1), (22, .ifCond .eq 81, 3), (25, .aload_n 0, 1), (26, .getfield 63, 3), (29, .bipush 13, 2), (31, .iload_n 1, 1), (32, .imul, 1), (33, .bipush 10, 2), (35, .iadd, 1), (36, .iaload, 1), (37, .aload_n 0, 1), (38, .getfield 63, 3), (41, .sipush 182, 3), (44, .iaload, 1), (45, .if_icmp .eq 6, 3), (48, .goto 55, 3), (51, .aload_n 0, 1), (52, .getfield 63, 3), (55, .bipush 13, 2), (57, .iload_n 1, 1), (58, .imul, 1), (59, .bipush 10, 2), (61, .iadd, 1), (62, .iconst 0, 1), (63, .iastore, 1), (64, .aload_n 0, 1), (65, .iload_n 1, 1), (66, .invokevirtual 230, 3), (69, .ifCond .eq 6, 3), (72, .goto 31, 3), (75, .aload_n 0, 1), (76, .iload_n 1, 1), (77, .invokevirtual 247, 3), (80, .aload_n 0, 1), (81, .getfield 63, 3), (84, .bipush 13, 2), (86, .iload_n 1, 1), (87, .imul, 1), (88, .bipush 11, 2), (90, .iadd, 1), (91, .dup2, 1), (92, .iaload, 1), (93, .iconst 1, 1), (94, .iadd, 1), (95, .iastore, 1), (96, .aload_n 0, 1), (97, .iload_n 1, 1), (98, .bipush 7, 2), (100, .invokevirtual 256, 3), (103, .iinc 1 1, 3), (106, .goto (-104), 3), (109, .return_, 1)]
set_option maxRecDepth 100000 in
theorem td_Mo_comeAgain : ∀ q ∈ tb_Mo_comeAgain, decode c_Mo_comeAgain q.1 = .ok q.2 := by decide +kernel
def tb_Mo_fails : List (Nat × Instr × Nat) := [(0, .aload_n 0, 1), (1, .getfield 63, 3), (4, .sipush 183, 3), (7, .iconst 3, 1), (8, .iastore, 1), (9, .aload_n 0, 1), (10, .bipush (-2), 2), (12, .iconst 5, 1), (13, .invokevirtual 256, 3), (16, .iload_n 1, 1), (17, .ifCond .eq 16, 3), (20, .aload_n 0, 1), (21, .iconst 1, 1), (22, .aload_n 0, 1), (23, .invokevirtual 223, 3), (26, .ishl, 1), (27, .iconst 1, 1), (28, .isub, 1), (29, .iconst (-1), 1), (30, .invokevirtual 253, 3), (33, .return_, 1)]
set_option maxRecDepth 100000 in
theorem td_Mo_fails : ∀ q ∈ tb_Mo_fails, decode c_Mo_fails q.1 = .ok q.2 := by decide +kernel
def tb_Mo_isThrough : List (Nat × Instr × Nat) := [(0, .aload_n 0, 1), (1, .getfield 47, 3), (4, .iload_n 1, 1), (5, .iaload, 1), (6, .istore_n 2, 1), (7, .aload_n 0, 1), (8, .getfield 44, 3), (11, .iload_n 1, 1), (12, .iaload, 1), (13, .tableswitch 76 0 2 #[27, 35, 43], 27), (40, .aload_n 0, 1), (41, .iload_n 2, 1), (42, .iconst 0, 1), (43, .invokevirtual 262, 3), (46, .iconst 1, 1), (47, .ireturn, 1), (48, .aload_n 0, 1), (49, .iload_n 2, 1), (50, .iconst 1, 1), (51, .invokevirtual 262, 3), (54, .iconst 1, 1), (55, .ireturn, 1), (56, .aload_n 0, 1), (57, .getfield 63, 3), (60, .sipush 185, 3), (63, .iaload, 1), (64, .aload_n 0, 1), (65, .getfield 50, 3), (68, .iload_n 1, 1), (69, .iaload, 1), (70, .if_icmp .ne 5, 3), (73, .iconst 1, 1), (74, .ireturn, 1), (75, .aload_n 0, 1), (76, .getfield 63, 3), (79, .sipush 185, 3), (82, .dup2, 1), (83, .iaload, 1), (84, .iconst 1, 1), (85, .iadd, 1), (86, .iastore, 1), (87, .iconst 0, 1), (88, .ireturn, 1), (89, .aload_n 0, 1), (90, .iload_n 2, 1), (91, .invokevirtual 266, 3), (94, .ifCond .eq 5, 3), (97, .iconst 1, 1), (98, .ireturn, 1), (99, .aload_n 0, 1), (100, .getfield 63, 3), (103, .sipush 185, 3), (106, .dup2, 1), (107, .iaload, 1), (108, .iconst 1, 1), (109, .iadd, 1), (110, .iastore, 1), (111, .aload_n 0, 1), (112, .getfield 63, 3), (115, .sipush 185, 3), (118, .iaload, 1), (119, .aload_n 0, 1), (120, .getfield 50, 3), (123, .iload_n 1, 1), (124, .iaload, 1), (125, .if_icmp .ne 8, 3), (128, .aload_n 0, 1), (129, .iconst 1, 1), (130, .invokevirtual 269, 3), (133, .iconst 0, 1), (134, .ireturn, 1)]
set_option maxRecDepth 100000 in
theorem td_Mo_isThrough : ∀ q ∈ tb_Mo_isThrough, decode c_Mo_isThrough q.1 = .ok q.2 := by decide +kernel
def tb_Mo_sequenceGoes : List (Nat × Instr × Nat) := [(0, .aload_n 0, 1), (1, .getfield 63, 3), (4, .sipush 183, 3), (7, .iaload, 1), (8, .iconst 1, 1), (9, .if_icmp .ne 7, 3), (12, .iconst 1, 1), (13, .goto 4, 3), (16, .iconst 0, 1), (17, .istore_n 1, 1), (18, .iload_n 1, 1), (19, .ifCond .eq 75, 3), (22, .aload_n 0, 1), (23, .getfield 63, 3), (26, .sipush 184, 3), (29, .iaload, 1), (30, .istore_n 2, 1), (31, .iload_n 2, 1), (32, .aload_n 0, 1), (33, .getfield 13, 3), (36, .iconst 2, 1), (37, .iaload, 1), (38, .if_icmp .ne 21, 3), (41, .aload_n 0, 1), (42, .getfield 63, 3), (45, .sipush 183, 3), (48, .iconst 2, 1), (49, .iastore, 1), (50, .aload_n 0, 1), (51, .bipush (-2), 2), (53, .bipush 6, 2), (55, .invokevirtual 256, 3), (58, .return_, 1), (59, .aload_n 0, 1), (60, .iload_n 2, 1), (61, .invokevirtual 259, 3), (64, .istore_n 1, 1), (65, .iload_n 1, 1), (66, .ifCond .ne 4, 3), (69, .return_, 1), (70, .aload_n 0, 1), (71, .getfield 63, 3), (74, .sipush 184, 3), (77, .dup2, 1), (78, .iaload, 1), (79, .iconst 1, 1), (80, .iadd, 1), (81, .iastore, 1), (82, .aload_n 0, 1), (83, .getfield 63, 3), (86, .sipush 185, 3), (89, .iconst 0, 1), (90, .iastore, 1), (91, .goto (-73), 3), (94, .return_, 1)]
set_option maxRecDepth 100000 in
theorem td_Mo_sequenceGoes : ∀ q ∈ tb_Mo_sequenceGoes, decode c_Mo_sequenceGoes q.1 = .ok q.2 := by decide +kernel
def tb_Mo_whyNot : List (Nat × Instr × Nat) := [(0, .aload_n 0, 1), (1, .getfield 23, 3), (4, .iload_n 1, 1), (5, .iaload, 1), (6, .bipush (-2), 2), (8, .if_icmp .eq 18, 3), (11, .aload_n 0, 1), (12, .aload_n 0, 1), (13, .getfield 23, 3), (16, .iload_n 1, 1), (17, .iaload, 1), (18, .invokevirtual 266, 3), (21, .ifCond .ne 5, 3), (24, .iconst 1, 1), (25, .ireturn, 1), (26, .iconst 0, 1), (27, .istore_n 2, 1), (28, .iload_n 2, 1), (29, .aload_n 0, 1), (30, .invokevirtual 223, 3), (33, .if_icmp .ge 33, 3), (36, .aload_n 0, 1), (37, .getfield 41, 3), (40, .iload_n 1, 1), (41, .iaload, 1), (42, .iload_n 2, 1), (43, .ishr, 1), (44, .iconst 1, 1), (45, .iand, 1), (46, .iconst 1, 1), (47, .if_icmp .ne 13, 3), (50, .aload_n 0, 1), (51, .iload_n 2, 1), (52, .invokevirtual 266, 3), (55, .ifCond .ne 5, 3), (58, .iconst 2, 1), (59, .ireturn, 1), (60, .iinc 2 1, 3), (63, .goto (-35), 3), (66, .iconst 0, 1), (67, .ireturn, 1)]
set_option maxRecDepth 100000 in
theorem td_Mo_whyNot : ∀ q ∈ tb_Mo_whyNot, decode c_Mo_whyNot q.1 = .ok q.2 := by decide +kernel
def tb_Mo_beginsToRise : List (Nat × Instr × Nat) := [(0, .iconst 0, 1), (1, .istore_n 1, 1), (2, .iconst 0, 1), (3, .istore_n 2, 1), (4, .iload_n 2, 1), (5, .aload_n 0, 1), (6, .getfield 63, 3), (9, .sipush 156, 3), (12, .iaload, 1), (13, .if_icmp .ge 48, 3), (16, .aload_n 0, 1), (17, .aload_n 0, 1), (18, .getfield 63, 3), (21, .sipush 157, 3), (24, .iload_n 2, 1), (25, .iadd, 1), (26, .iaload, 1), (27, .invokevirtual 273, 3), (30, .ifCond .eq 6, 3), (33, .goto 22, 3), (36, .aload_n 0, 1), (37, .getfield 78, 3), (40, .iload_n 1, 1), (41, .aload_n 0, 1), (42, .getfield 63, 3), (45, .sipush 157, 3), (48, .iload_n 2, 1), (49, .iadd, 1), (50, .iaload, 1), (51, .iastore, 1), (52, .iinc 1 1, 3), (55, .iinc 2 1, 3), (58, .goto (-54), 3), (61, .iconst 0, 1), (62, .istore_n 2, 1), (63, .iload_n 2, 1), (64, .iload_n 1, 1), (65, .if_icmp .ge 55, 3), (68, .aload_n 0, 1), (69, .getfield 78, 3), (72, .iload_n 2, 1), (73, .iaload, 1), (74, .istore_n 3, 1), (75, .aload_n 0, 1), (76, .sipush 156, 3), (79, .iload_n 3, 1), (80, .invokevirtual 238, 3), (83, .aload_n 0, 1), (84, .iload_n 3, 1), (85, .iconst 2, 1), (86, .invokevirtual 236, 3), (89, .aload_n 0, 1), (90, .getfield 63, 3), (93, .bipush 13, 2), (95, .iload_n 3, 1), (96, .imul, 1), (97, .iconst 4, 1), (98, .iadd, 1), (99, .aload_n 0, 1), (100, .getfield 63, 3), (103, .sipush 182, 3), (106, .iaload, 1), (107, .iastore, 1), (108, .aload_n 0, 1), (109, .iload_n 3, 1), (110, .iconst 0, 1), (111, .invokevirtual 256, 3), (114, .iinc 2 1, 3), (117, .goto (-54), 3), (120, .return_, 1)]
set_option maxRecDepth 100000 in
theorem td_Mo_beginsToRise : ∀ q ∈ tb_Mo_beginsToRise, decode c_Mo_beginsToRise q.1 = .ok q.2 := by decide +kernel
def tb_Mo_voltsGo : List (Nat × Instr × Nat) := [(0, .bipush 13, 2), (2, .iload_n 1, 1), (3, .imul, 1), (4, .istore_n 2, 1), (5, .aload_n 0, 1), (6, .getfield 63, 3), (9, .iload_n 2, 1), (10, .iconst 1, 1), (11, .iadd, 1), (12, .iaload, 1), (13, .istore_n 3, 1), (14, .iload_n 3, 1), (15, .istore 4, 2), (17, .aload_n 0, 1), (18, .iload_n 1, 1), (19, .invokevirtual 230, 3), (22, .iconst 2, 1), (23, .if_icmp .ne 65, 3), (26, .iload_n 3, 1), (27, .aload_n 0, 1), (28, .getfield 29, 3), (31, .iload_n 1, 1), (32, .iaload, 1), (33, .iadd, 1), (34, .aload_n 0, 1), (35, .getfield 26, 3), (38, .iload_n 1, 1), (39, .iaload, 1), (40, .if_icmp .ge 14, 3), (43, .iload_n 3, 1), (44, .aload_n 0, 1), (45, .getfield 29, 3), (48, .iload_n 1, 1), (49, .iaload, 1), (50, .iadd, 1), (51, .goto 9, 3), (54, .aload_n 0, 1), (55, .getfield 26, 3), (58, .iload_n 1, 1), (59, .iaload, 1), (60, .istore 4, 2), (62, .iload 4, 2), (64, .aload_n 0, 1), (65, .getfield 26, 3), (68, .iload_n 1, 1), (69, .iaload, 1), (70, .if_icmp .ne 203, 3), (73, .aload_n 0, 1), (74, .iload_n 1, 1), (75, .iconst 3, 1), (76, .invokevirtual 236, 3), (79, .aload_n 0, 1), (80, .iload_n 1, 1), (81, .iconst 1, 1), (82, .invokevirtual 256, 3), (85, .goto 188, 3), (88, .aload_n 0, 1), (89, .iload_n 1, 1), (90, .invokevirtual 230, 3), (93, .iconst 3, 1), (94, .if_icmp .ne 72, 3), (97, .aload_n 0, 1), (98, .getfield 63, 3), (101, .iload_n 2, 1), (102, .iconst 3, 1), (103, .iadd, 1), (104, .iaload, 1), (105, .iconst 1, 1), (106, .if_icmp .ne 14, 3), (109, .iload_n 3, 1), (110, .aload_n 0, 1), (111, .getfield 13, 3), (114, .iconst 3, 1), (115, .iaload, 1), (116, .isub, 1), (117, .goto 11, 3), (120, .iload_n 3, 1), (121, .aload_n 0, 1), (122, .getfield 29, 3), (125, .iload_n 1, 1), (126, .iaload, 1), (127, .iadd, 1), (128, .istore 4, 2), (130, .iload 4, 2), (132, .ifCond .ge 7, 3), (135, .iconst 0, 1), (136, .goto 25, 3), (139, .iload 4, 2), (141, .aload_n 0, 1), (142, .getfield 26, 3), (145, .iload_n 1, 1), (146, .iaload, 1), (147, .if_icmp .le 12, 3), (150, .aload_n 0, 1), (151, .getfield 26, 3), (154, .iload_n 1, 1), (155, .iaload, 1), (156, .goto 5, 3), (159, .iload 4, 2), (161, .istore 4, 2), (163, .goto 110, 3), (166, .aload_n 0, 1), (167, .iload_n 1, 1), (168, .invokevirtual 230, 3), (171, .iconst 4, 1), (172, .if_icmp .ne 101, 3), (175, .iload_n 3, 1), (176, .aload_n 0, 1), (177, .getfield 13, 3), (180, .iconst 4, 1), (181, .iaload, 1), (182, .if_icmp .le 14, 3), (185, .iload_n 3, 1), (186, .aload_n 0, 1), (187, .getfield 13, 3), (190, .iconst 4, 1), (191, .iaload, 1), (192, .isub, 1), (193, .goto 4, 3), (196, .iconst 0, 1), (197, .istore 4, 2), (199, .iload 4, 2), (201, .ifCond .ne 72, 3), (204, .aload_n 0, 1), (205, .iload_n 1, 1), (206, .iconst 0, 1), (207, .invokevirtual 236, 3), (210, .aload_n 0, 1), (211, .iload_n 1, 1), (212, .iconst 4, 1), (213, .invokevirtual 256, 3), (216, .aload_n 0, 1), (217, .getfield 63, 3), (220, .iload_n 2, 1), (221, .bipush 12, 2), (223, .iadd, 1), (224, .iaload, 1), (225, .iconst 1, 1), (226, .if_icmp .ne 47, 3), (229, .aload_n 0, 1), (230, .getfield 63, 3), (233, .iload_n 2, 1), (234, .bipush 11, 2), (236, .iadd, 1), (237, .iaload, 1), (238, .aload_n 0, 1), (239, .getfield 13, 3), (242, .bipush 9, 2), (244, .iaload, 1), (245, .if_icmp .ge 28, 3), (248, .aload_n 0, 1), (249, .getfield 63, 3), (252, .iload_n 2, 1), (253, .bipush 10, 2), (255, .iadd, 1), (256, .aload_n 0, 1), (257, .getfield 63, 3), (260, .sipush 182, 3), (263, .iaload, 1), (264, .aload_n 0, 1), (265, .getfield 13, 3), (268, .bipush 10, 2), (270, .iaload, 1), (271, .iadd, 1), (272, .iastore, 1), (273, .aload_n 0, 1), (274, .getfield 63, 3), (277, .iload_n 2, 1), (278, .iconst 1, 1), (279, .iadd, 1), (280, .iload 4, 2), (282, .iastore, 1), (283, .aload_n 0, 1), (284, .getfield 75, 3), (287, .iload_n 1, 1), (288, .iload 4, 2), (290, .iload_n 3, 1), (291, .if_icmp .le 10, 3), (294, .iload 4, 2), (296, .iload_n 3, 1), (297, .isub, 1), (298, .goto 4, 3), (301, .iconst 0, 1), (302, .iastore, 1), (303, .aload_n 0, 1), (304, .getfield 63, 3), (307, .iload_n 2, 1), (308, .bipush 9, 2), (310, .iadd, 1), (311, .aload_n 0, 1), (312, .iload_n 1, 1), (313, .invokevirtual 230, 3), (316, .iconst 3, 1), (317, .if_icmp .ne 25, 3), (320, .aload_n 0, 1), (321, .iload_n 1, 1), (322, .invokevirtual 266, 3), (325, .ifCond .ne 17, 3), (328, .aload_n 0, 1), (329, .getfield 63, 3), (332, .iload_n 2, 1), (333, .bipush 9, 2), (335, .iadd, 1), (336, .iaload, 1), (337, .iconst 1, 1), (338, .iadd, 1), (339, .goto 4, 3), (342, .iconst 0, 1), (343, .iastore, 1), (344, .return_, 1)]
set_option maxRecDepth 100000 in
theorem td_Mo_voltsGo : ∀ q ∈ tb_Mo_voltsGo, decode c_Mo_voltsGo q.1 = .ok q.2 := by decide +kernel
def tb_Mo_draws : List (Nat × Instr × Nat) := [(0, .aload_n 0, 1), (1, .getfield 63, 3), (4, .sipush 186, 3), (7, .iconst 0, 1), (8, .iastore, 1), (9, .aload_n 0, 1), (10, .invokevirtual 223, 3), (13, .iconst 1, 1), (14, .isub, 1), (15, .istore_n 1, 1), (16, .iload_n 1, 1), (17, .ifCond .lt 193, 3), (20, .bipush 13, 2), (22, .iload_n 1, 1), (23, .imul, 1), (24, .istore_n 2, 1), (25, .aload_n 0, 1), (26, .iload_n 1, 1), (27, .invokevirtual 230, 3), (30, .iconst 2, 1), (31, .if_icmp .eq 12, 3), (34, .aload_n 0, 1), (35, .iload_n 1, 1), (36, .invokevirtual 230, 3), (39, .iconst 3, 1), (40, .if_icmp .ne 31, 3), (43, .aload_n 0, 1), (44, .getfield 63, 3), (47, .iload_n 2, 1), (48, .bipush 6, 2), (50, .iadd, 1), (51, .iaload, 1), (52, .aload_n 0, 1), (53, .getfield 63, 3), (56, .iload_n 2, 1), (57, .iconst 1, 1), (58, .iadd, 1), (59, .iaload, 1), (60, .imul, 1), (61, .aload_n 0, 1), (62, .getfield 26, 3), (65, .iload_n 1, 1), (66, .iaload, 1), (67, .idiv, 1), (68, .goto 4, 3), (71, .iconst 0, 1), (72, .istore_n 3, 1), (73, .iload_n 3, 1), (74, .aload_n 0, 1), (75, .getfield 32, 3), (78, .iload_n 1, 1), (79, .iaload, 1), (80, .aload_n 0, 1), (81, .getfield 75, 3), (84, .iload_n 1, 1), (85, .iaload, 1), (86, .imul, 1), (87, .bipush 16, 2), (89, .idiv, 1), (90, .iadd, 1), (91, .istore_n 3, 1), (92, .iload_n 1, 1), (93, .iconst 1, 1), (94, .iadd, 1), (95, .istore 4, 2), (97, .iload 4, 2), (99, .aload_n 0, 1), (100, .invokevirtual 223, 3), (103, .if_icmp .ge 39, 3), (106, .iload_n 3, 1), (107, .aload_n 0, 1), (108, .getfield 23, 3), (111, .iload 4, 2), (113, .iaload, 1), (114, .iload_n 1, 1), (115, .if_icmp .ne 18, 3), (118, .aload_n 0, 1), (119, .getfield 63, 3), (122, .bipush 13, 2), (124, .iload 4, 2), (126, .imul, 1), (127, .iconst 2, 1), (128, .iadd, 1), (129, .iaload, 1), (130, .goto 4, 3), (133, .iconst 0, 1), (134, .iadd, 1), (135, .istore_n 3, 1), (136, .iinc 4 1, 3), (139, .goto (-42), 3), (142, .aload_n 0, 1), (143, .getfield 63, 3), (146, .iload_n 2, 1), (147, .iconst 2, 1), (148, .iadd, 1), (149, .iload_n 3, 1), (150, .iastore, 1), (151, .aload_n 0, 1), (152, .getfield 63, 3), (155, .iload_n 2, 1), (156, .iconst 3, 1), (157, .iadd, 1), (158, .iload_n 3, 1), (159, .aload_n 0, 1), (160, .getfield 63, 3), (163, .iload_n 2, 1), (164, .bipush 7, 2), (166, .iadd, 1), (167, .iaload, 1), (168, .if_icmp .le 7, 3), (171, .iconst 1, 1), (172, .goto 4, 3), (175, .iconst 0, 1), (176, .iastore, 1), (177, .aload_n 0, 1), (178, .getfield 63, 3), (181, .sipush 186, 3), (184, .dup2, 1), (185, .iaload, 1), (186, .aload_n 0, 1), (187, .getfield 23, 3), (190, .iload_n 1, 1), (191, .iaload, 1), (192, .bipush (-2), 2), (194, .if_icmp .ne 7, 3), (197, .iload_n 3, 1), (198, .goto 4, 3), (201, .iconst 0, 1), (202, .iadd, 1), (203, .iastore, 1), (204, .iinc 1 (-1), 3), (207, .goto (-191), 3), (210, .return_, 1)]
set_option maxRecDepth 100000 in
theorem td_Mo_draws : ∀ q ∈ tb_Mo_draws, decode c_Mo_draws q.1 = .ok q.2 := by decide +kernel
def tb_Mo_trips : List (Nat × Instr × Nat) := [(0, .aload_n 0, 1), (1, .getfield 63, 3), (4, .bipush 13, 2), (6, .iload_n 1, 1), (7, .imul, 1), (8, .iconst 5, 1), (9, .iadd, 1), (10, .dup2, 1), (11, .iaload, 1), (12, .iconst 1, 1), (13, .iadd, 1), (14, .iastore, 1), (15, .aload_n 0, 1), (16, .iload_n 1, 1), (17, .iconst 2, 1), (18, .invokevirtual 256, 3), (21, .aload_n 0, 1), (22, .iconst 1, 1), (23, .iload_n 1, 1), (24, .ishl, 1), (25, .aload_n 0, 1), (26, .iload_n 1, 1), (27, .invokevirtual 250, 3), (30, .ior, 1), (31, .iload_n 1, 1), (32, .invokevirtual 253, 3), (35, .aload_n 0, 1), (36, .getfield 63, 3), (39, .sipush 183, 3), (42, .iaload, 1), (43, .iconst 1, 1), (44, .if_icmp .ne 8, 3), (47, .aload_n 0, 1), (48, .iconst 0, 1), (49, .invokevirtual 269, 3), (52, .return_, 1)]
set_option maxRecDepth 100000 in
theorem td_Mo_trips : ∀ q ∈ tb_Mo_trips, decode c_Mo_trips q.1 = .ok q.2 := by decide +kernel
def tb_Mo_tickGoes : List (Nat × Instr × Nat) := [(0, .aload_n 0, 1), (1, .getfield 63, 3), (4, .sipush 182, 3), (7, .dup2, 1), (8, .iaload, 1), (9, .iconst 1, 1), (10, .iadd, 1), (11, .iastore, 1), (12, .aload_n 0, 1), (13, .invokevirtual 276, 3), (16, .aload_n 0, 1), (17, .invokevirtual 279, 3), (20, .aload_n 0, 1), (21, .invokevirtual 282, 3), (24, .iconst 0, 1), (25, .istore_n 1, 1), (26, .iload_n 1, 1), (27, .aload_n 0, 1), (28, .invokevirtual 223, 3), (31, .if_icmp .ge 14, 3), (34, .aload_n 0, 1), (35, .iload_n 1, 1), (36, .invokevirtual 285, 3), (39, .iinc 1 1, 3), (42, .goto (-16), 3), (45, .aload_n 0, 1), (46, .invokevirtual 288, 3), (49, .iconst 0, 1), (50, .istore_n 1, 1), (51, .iload_n 1, 1), (52, .aload_n 0, 1), (53, .invokevirtual 223, 3), (56, .if_icmp .ge 60, 3), (59, .aload_n 0, 1), (60, .iload_n 1, 1), (61, .invokevirtual 230, 3), (64, .iconst 3, 1), (65, .if_icmp .ne 45, 3), (68, .aload_n 0, 1), (69, .getfield 63, 3), (72, .bipush 13, 2), (74, .iload_n 1, 1), (75, .imul, 1), (76, .bipush 9, 2), (78, .iadd, 1), (79, .iaload, 1), (80, .aload_n 0, 1), (81, .getfield 13, 3), (84, .bipush 8, 2), (86, .iaload, 1), (87, .if_icmp .lt 23, 3), (90, .aload_n 0, 1), (91, .getfield 63, 3), (94, .bipush 13, 2), (96, .iload_n 1, 1), (97, .imul, 1), (98, .bipush 8, 2), (100, .iadd, 1), (101, .iaload, 1), (102, .ifCond .ne 8, 3), (105, .aload_n 0, 1), (106, .iload_n 1, 1), (107, .invokevirtual 291, 3), (110, .iinc 1 1, 3), (113, .goto (-62), 3), (116, .aload_n 0, 1), (117, .getfield 63, 3), (120, .sipush 186, 3), (123, .iaload, 1), (124, .aload_n 0, 1), (125, .getfield 13, 3), (128, .bipush 6, 2), (130, .iaload, 1), (131, .if_icmp .le 18, 3), (134, .aload_n 0, 1), (135, .iconst 1, 1), (136, .aload_n 0, 1), (137, .invokevirtual 223, 3), (140, .ishl, 1), (141, .iconst 1, 1), (142, .isub, 1), (143, .invokevirtual 241, 3), (146, .goto 4, 3), (149, .iconst (-1), 1), (150, .istore_n 1, 1), (151, .iload_n 1, 1), (152, .iconst (-1), 1), (153, .if_icmp .eq 8, 3), (156, .aload_n 0, 1), (157, .iload_n 1, 1), (158, .invokevirtual 291, 3), (161, .aload_n 0, 1), (162, .getfield 63, 3), (165, .sipush 169, 3), (168, .iaload, 1), (169, .ifCond .ne 4, 3), (172, .return_, 1), (173, .aload_n 0, 1), (174, .getfield 63, 3), (177, .sipush 170, 3), (180, .iaload, 1), (181, .istore_n 2, 1), (182, .aload_n 0, 1), (183, .sipush 169, 3), (186, .iload_n 2, 1), (187, .invokevirtual 238, 3), (190, .aload_n 0, 1), (191, .getfield 63, 3), (194, .bipush 13, 2), (196, .iload_n 2, 1), (197, .imul, 1), (198, .bipush 8, 2), (200, .iadd, 1), (201, .iconst 0, 1), (202, .iastore, 1), (203, .aload_n 0, 1), (204, .iload_n 2, 1), (205, .iconst 4, 1), (206, .invokevirtual 236, 3), (209, .aload_n 0, 1), (210, .iload_n 2, 1), (211, .iconst 3, 1), (212, .invokevirtual 256, 3), (215, .return_, 1)]
set_option maxRecDepth 100000 in
theorem td_Mo_tickGoes : ∀ q ∈ tb_Mo_tickGoes, decode c_Mo_tickGoes q.1 = .ok q.2 := by decide +kernel
def tb_Mo_tick : List (Nat × Instr × Nat) := [(0, .aload_n 0, 1), (1, .iconst 0, 1), (2, .putfield 99, 3), (5, .iload_n 1, 1), (6, .iconst 1, 1), (7, .if_icmp .lt 9, 3), (10, .iload_n 1, 1), (11, .bipush 50, 2), (13, .if_icmp .le 5, 3), (16, .iconst (-1), 1), (17, .ireturn, 1), (18, .aload_n 0, 1), (19, .getfield 63, 3), (22, .sipush 182, 3), (25, .iaload, 1), (26, .iload_n 1, 1), (27, .iadd, 1), (28, .sipush 9999, 3), (31, .if_icmp .le 6, 3), (34, .bipush (-2), 2), (36, .ireturn, 1), (37, .aload_n 0, 1), (38, .invokevirtual 294, 3), (41, .iconst 0, 1), (42, .istore_n 2, 1), (43, .iload_n 2, 1), (44, .iload_n 1, 1), (45, .if_icmp .ge 13, 3), (48, .aload_n 0, 1), (49, .invokevirtual 297, 3), (52, .iinc 2 1, 3), (55, .goto (-12), 3), (58, .aload_n 0, 1), (59, .getfield 63, 3), (62, .sipush 182, 3), (65, .iaload, 1), (66, .ireturn, 1)]
set_option maxRecDepth 100000 in
theorem td_Mo_tick : ∀ q ∈ tb_Mo_tick, decode c_Mo_tick q.1 = .ok q.2 := by decide +kernel
def tb_Mo_isRail : List (Nat × Instr × Nat) := [(0, .iload_n 1, 1), (1, .ifCond .lt 15, 3), (4, .iload_n 1, 1), (5, .aload_n 0, 1), (6, .invokevirtual 223, 3), (9, .if_icmp .ge 7, 3), (12, .iconst 1, 1), (13, .goto 4, 3), (16, .iconst 0, 1), (17, .ireturn, 1)]
set_option maxRecDepth 100000 in
theorem td_Mo_isRail : ∀ q ∈ tb_Mo_isRail, decode c_Mo_isRail q.1 = .ok q.2 := by decide +kernel
def tb_Mo_ask : List (Nat × Instr × Nat) := [(0, .aload_n 0, 1), (1, .iconst 0, 1), (2, .putfield 99, 3), (5, .aload_n 0, 1), (6, .iload_n 1, 1), (7, .invokevirtual 300, 3), (10, .ifCond .ne 5, 3), (13, .iconst (-1), 1), (14, .ireturn, 1), (15, .aload_n 0, 1), (16, .invokevirtual 294, 3), (19, .aload_n 0, 1), (20, .iload_n 1, 1), (21, .iload_n 2, 1), (22, .invokevirtual 262, 3), (25, .aload_n 0, 1), (26, .iload_n 1, 1), (27, .invokevirtual 230, 3), (30, .ireturn, 1)]
set_option maxRecDepth 100000 in
theorem td_Mo_ask : ∀ q ∈ tb_Mo_ask, decode c_Mo_ask q.1 = .ok q.2 := by decide +kernel
def tb_Mo_begin : List (Nat × Instr × Nat) := [(0, .aload_n 0, 1), (1, .iconst 0, 1), (2, .putfield 99, 3), (5, .aload_n 0, 1), (6, .getfield 13, 3), (9, .iconst 2, 1), (10, .iaload, 1), (11, .ifCond .ne 5, 3), (14, .iconst (-1), 1), (15, .ireturn, 1), (16, .aload_n 0, 1), (17, .getfield 63, 3), (20, .sipush 183, 3), (23, .iaload, 1), (24, .iconst 1, 1), (25, .if_icmp .ne 6, 3), (28, .bipush (-2), 2), (30, .ireturn, 1), (31, .aload_n 0, 1), (32, .invokevirtual 294, 3), (35, .aload_n 0, 1), (36, .getfield 63, 3), (39, .sipush 183, 3), (42, .iconst 1, 1), (43, .iastore, 1), (44, .aload_n 0, 1), (45, .getfield 63, 3), (48, .sipush 184, 3), (51, .iconst 0, 1), (52, .iastore, 1), (53, .aload_n 0, 1), (54, .getfield 63, 3), (57, .sipush 185, 3), (60, .iconst 0, 1), (61, .iastore, 1), (62, .aload_n 0, 1), (63, .getfield 13, 3), (66, .iconst 2, 1), (67, .iaload, 1), (68, .ireturn, 1)]
set_option maxRecDepth 100000 in
theorem td_Mo_begin : ∀ q ∈ tb_Mo_begin, decode c_Mo_begin q.1 = .ok q.2 := by decide +kernel
def tb_Mo_load : List (Nat × Instr × Nat) := [(0, .aload_n 0, 1), (1, .iconst 0, 1), (2, .putfield 99, 3), (5, .aload_n 0, 1), (6, .iload_n 1, 1), (7, .invokevirtual 300, 3), (10, .ifCond .eq 14, 3), (13, .iload_n 2, 1), (14, .ifCond .lt 10, 3), (17, .iload_n 2, 1), (18, .sipush 9999, 3), (21, .if_icmp .le 5, 3), (24, .iconst (-1), 1), (25, .ireturn, 1), (26, .aload_n 0, 1), (27, .getfield 63, 3), (30, .bipush 13, 2), (32, .iload_n 1, 1), (33, .imul, 1), (34, .bipush 6, 2), (36, .iadd, 1), (37, .iaload, 1), (38, .istore_n 3, 1), (39, .aload_n 0, 1), (40, .invokevirtual 294, 3), (43, .aload_n 0, 1), (44, .getfield 63, 3), (47, .bipush 13, 2), (49, .iload_n 1, 1), (50, .imul, 1), (51, .bipush 6, 2), (53, .iadd, 1), (54, .iload_n 2, 1), (55, .iastore, 1), (56, .iload_n 3, 1), (57, .ireturn, 1)]
set_option maxRecDepth 100000 in
theorem td_Mo_load : ∀ q ∈ tb_Mo_load, decode c_Mo_load q.1 = .ok q.2 := by decide +kernel
def tb_Mo_limit : List (Nat × Instr × Nat) := [(0, .aload_n 0, 1), (1, .iconst 0, 1), (2, .putfield 99, 3), (5, .aload_n 0, 1), (6, .iload_n 1, 1), (7, .invokevirtual 300, 3), (10, .ifCond .eq 14, 3), (13, .iload_n 2, 1), (14, .iconst 1, 1), (15, .if_icmp .lt 9, 3), (18, .iload_n 2, 1), (19, .ldc 184, 2), (21, .if_icmp .le 5, 3), (24, .iconst (-1), 1), (25, .ireturn, 1), (26, .aload_n 0, 1), (27, .getfield 63, 3), (30, .bipush 13, 2), (32, .iload_n 1, 1), (33, .imul, 1), (34, .bipush 7, 2), (36, .iadd, 1), (37, .iaload, 1), (38, .istore_n 3, 1), (39, .aload_n 0, 1), (40, .invokevirtual 294, 3), (43, .aload_n 0, 1), (44, .getfield 63, 3), (47, .bipush 13, 2), (49, .iload_n 1, 1), (50, .imul, 1), (51, .bipush 7, 2), (53, .iadd, 1), (54, .iload_n 2, 1), (55, .iastore, 1), (56, .iload_n 3, 1), (57, .ireturn, 1)]
set_option maxRecDepth 100000 in
theorem td_Mo_limit : ∀ q ∈ tb_Mo_limit, decode c_Mo_limit q.1 = .ok q.2 := by decide +kernel
def tb_Mo_rail : List (Nat × Instr × Nat) := [(0, .aload_n 0, 1), (1, .iconst 0, 1), (2, .putfield 99, 3), (5, .aload_n 0, 1), (6, .iload_n 1, 1), (7, .invokevirtual 300, 3), (10, .ifCond .ne 10, 3), (13, .aload_n 0, 1), (14, .iconst 1, 1), (15, .putfield 99, 3), (18, .iconst 0, 1), (19, .ireturn, 1), (20, .bipush 13, 2), (22, .iload_n 1, 1), (23, .imul, 1), (24, .istore_n 3, 1), (25, .iload_n 2, 1), (26, .tableswitch 236 0 14 #[74, 81, 88, 95, 102, 112, 122, 131, 140, 149, 158, 172, 181, 190, 200], 74), (100, .aload_n 0, 1), (101, .getfield 23, 3), (104, .iload_n 1, 1), (105, .iaload, 1), (106, .ireturn, 1), (107, .aload_n 0, 1), (108, .getfield 26, 3), (111, .iload_n 1, 1), (112, .iaload, 1), (113, .ireturn, 1), (114, .aload_n 0, 1), (115, .getfield 29, 3), (118, .iload_n 1, 1), (119, .iaload, 1), (120, .ireturn, 1), (121, .aload_n 0, 1), (122, .getfield 32, 3), (125, .iload_n 1, 1), (126, .iaload, 1), (127, .ireturn, 1), (128, .aload_n 0, 1), (129, .getfield 63, 3), (132, .iload_n 3, 1), (133, .bipush 6, 2), (135, .iadd, 1), (136, .iaload, 1), (137, .ireturn, 1), (138, .aload_n 0, 1), (139, .getfield 63, 3), (142, .iload_n 3, 1), (143, .bipush 7, 2), (145, .iadd, 1), (146, .iaload, 1), (147, .ireturn, 1), (148, .aload_n 0, 1), (149, .getfield 63, 3), (152, .iload_n 3, 1), (153, .iconst 0, 1), (154, .iadd, 1), (155, .iaload, 1), (156, .ireturn, 1), (157, .aload_n 0, 1), (158, .getfield 63, 3), (161, .iload_n 3, 1), (162, .iconst 1, 1), (163, .iadd, 1), (164, .iaload, 1), (165, .ireturn, 1), (166, .aload_n 0, 1), (167, .getfield 63, 3), (170, .iload_n 3, 1), (171, .iconst 2, 1), (172, .iadd, 1), (173, .iaload, 1), (174, .ireturn, 1), (175, .aload_n 0, 1), (176, .getfield 63, 3), (179, .iload_n 3, 1), (180, .iconst 3, 1), (181, .iadd, 1), (182, .iaload, 1), (183, .ireturn, 1), (184, .aload_n 0, 1), (185, .iload_n 1, 1), (186, .invokevirtual 266, 3), (189, .ifCond .eq 7, 3), (192, .iconst 1, 1), (193, .goto 4, 3), (196, .iconst 0, 1), (197, .ireturn, 1), (198, .aload_n 0, 1), (199, .getfield 63, 3), (202, .iload_n 3, 1), (203, .iconst 4, 1), (204, .iadd, 1), (205, .iaload, 1), (206, .ireturn, 1), (207, .aload_n 0, 1), (208, .getfield 63, 3), (211, .iload_n 3, 1), (212, .iconst 5, 1), (213, .iadd, 1), (214, .iaload, 1), (215, .ireturn, 1), (216, .aload_n 0, 1), (217, .getfield 63, 3), (220, .iload_n 3, 1), (221, .bipush 11, 2), (223, .iadd, 1), (224, .iaload, 1), (225, .ireturn, 1), (226, .aload_n 0, 1), (227, .getfield 63, 3), (230, .iload_n 3, 1), (231, .bipush 10, 2), (233, .iadd, 1), (234, .iaload, 1), (235, .ifCond .ne 8, 3), (238, .bipush (-2), 2), (240, .goto 21, 3), (243, .aload_n 0, 1), (244, .getfield 63, 3), (247, .iload_n 3, 1), (248, .bipush 10, 2), (250, .iadd, 1), (251, .iaload, 1), (252, .aload_n 0, 1), (253, .getfield 63, 3), (256, .sipush 182, 3), (259, .iaload, 1), (260, .isub, 1), (261, .ireturn, 1), (262, .aload_n 0, 1), (263, .iconst 2, 1), (264, .putfield 99, 3), (267, .iconst 0, 1), (268, .ireturn, 1)]
set_option maxRecDepth 100000 in
theorem td_Mo_rail : ∀ q ∈ tb_Mo_rail, decode c_Mo_rail q.1 = .ok q.2 := by decide +kernel
def tb_Mo_hangs : List (Nat × Instr × Nat) := [(0, .aload_n 0, 1), (1, .iconst 0, 1), (2, .putfield 99, 3), (5, .aload_n 0, 1), (6, .iload_n 1, 1), (7, .invokevirtual 300, 3), (10, .ifCond .ne 5, 3), (13, .iconst (-1), 1), (14, .ireturn, 1), (15, .iload_n 2, 1), (16, .tableswitch 48 0 2 #[28, 35, 42], 28), (44, .aload_n 0, 1), (45, .getfield 41, 3), (48, .iload_n 1, 1), (49, .iaload, 1), (50, .ireturn, 1), (51, .aload_n 0, 1), (52, .getfield 60, 3), (55, .iload_n 1, 1), (56, .iaload, 1), (57, .ireturn, 1), (58, .aload_n 0, 1), (59, .iload_n 1, 1), (60, .invokevirtual 250, 3), (63, .ireturn, 1), (64, .iconst (-1), 1), (65, .ireturn, 1)]
set_option maxRecDepth 100000 in
theorem td_Mo_hangs : ∀ q ∈ tb_Mo_hangs, decode c_Mo_hangs q.1 = .ok q.2 := by decide +kernel
def tb_Mo_waiting : List (Nat × Instr × Nat) := [(0, .aload_n 0, 1), (1, .iconst 0, 1), (2, .putfield 99, 3), (5, .iload_n 1, 1), (6, .ifCond .ge 5, 3), (9, .iconst (-1), 1), (10, .ireturn, 1), (11, .iload_n 2, 1), (12, .ifCond .eq 9, 3), (15, .sipush 169, 3), (18, .goto 6, 3), (21, .sipush 156, 3), (24, .istore_n 3, 1), (25, .iload_n 1, 1), (26, .aload_n 0, 1), (27, .getfield 63, 3), (30, .iload_n 3, 1), (31, .iaload, 1), (32, .if_icmp .ge 16, 3), (35, .aload_n 0, 1), (36, .getfield 63, 3), (39, .iload_n 3, 1), (40, .iconst 1, 1), (41, .iadd, 1), (42, .iload_n 1, 1), (43, .iadd, 1), (44, .iaload, 1), (45, .goto 5, 3), (48, .bipush (-2), 2), (50, .ireturn, 1)]
set_option maxRecDepth 100000 in
theorem td_Mo_waiting : ∀ q ∈ tb_Mo_waiting, decode c_Mo_waiting q.1 = .ok q.2 := by decide +kernel
def tb_Mo_sequence : List (Nat × Instr × Nat) := [(0, .aload_n 0, 1), (1, .iconst 0, 1), (2, .putfield 99, 3), (5, .iload_n 1, 1), (6, .ifCond .ne 14, 3), (9, .aload_n 0, 1), (10, .getfield 63, 3), (13, .sipush 183, 3), (16, .iaload, 1), (17, .goto 36, 3), (20, .iload_n 1, 1), (21, .iconst 1, 1), (22, .if_icmp .ne 14, 3), (25, .aload_n 0, 1), (26, .getfield 63, 3), (29, .sipush 184, 3), (32, .iaload, 1), (33, .goto 20, 3), (36, .iload_n 1, 1), (37, .iconst 2, 1), (38, .if_icmp .ne 14, 3), (41, .aload_n 0, 1), (42, .getfield 63, 3), (45, .sipush 185, 3), (48, .iaload, 1), (49, .goto 4, 3), (52, .iconst (-1), 1), (53, .ireturn, 1)]
set_option maxRecDepth 100000 in
theorem td_Mo_sequence : ∀ q ∈ tb_Mo_sequence, decode c_Mo_sequence q.1 = .ok q.2 := by decide +kernel
def tb_Mo_step : List (Nat × Instr × Nat) := [(0, .aload_n 0, 1), (1, .iconst 0, 1), (2, .putfield 99, 3), (5, .iload_n 1, 1), (6, .ifCond .lt 13, 3), (9, .iload_n 1, 1), (10, .aload_n 0, 1), (11, .getfield 13, 3), (14, .iconst 2, 1), (15, .iaload, 1), (16, .if_icmp .lt 5, 3), (19, .iconst (-1), 1), (20, .ireturn, 1), (21, .iload_n 2, 1), (22, .ifCond .ne 12, 3), (25, .aload_n 0, 1), (26, .getfield 44, 3), (29, .iload_n 1, 1), (30, .iaload, 1), (31, .goto 32, 3), (34, .iload_n 2, 1), (35, .iconst 1, 1), (36, .if_icmp .ne 12, 3), (39, .aload_n 0, 1), (40, .getfield 47, 3), (43, .iload_n 1, 1), (44, .iaload, 1), (45, .goto 18, 3), (48, .iload_n 2, 1), (49, .iconst 2, 1), (50, .if_icmp .ne 12, 3), (53, .aload_n 0, 1), (54, .getfield 50, 3), (57, .iload_n 1, 1), (58, .iaload, 1), (59, .goto 4, 3), (62, .iconst (-1), 1), (63, .ireturn, 1)]
set_option maxRecDepth 100000 in
theorem td_Mo_step : ∀ q ∈ tb_Mo_step, decode c_Mo_step q.1 = .ok q.2 := by decide +kernel
def tb_Mo_why : List (Nat × Instr × Nat) := [(0, .aload_n 0, 1), (1, .iconst 0, 1), (2, .putfield 99, 3), (5, .aload_n 0, 1), (6, .iload_n 1, 1), (7, .invokevirtual 300, 3), (10, .ifCond .ne 5, 3), (13, .iconst (-1), 1), (14, .ireturn, 1), (15, .aload_n 0, 1), (16, .iload_n 1, 1), (17, .invokevirtual 230, 3), (20, .iconst 1, 1), (21, .if_icmp .ne 11, 3), (24, .aload_n 0, 1), (25, .iload_n 1, 1), (26, .invokevirtual 273, 3), (29, .goto 5, 3), (32, .bipush (-2), 2), (34, .ireturn, 1)]
set_option maxRecDepth 100000 in
theorem td_Mo_why : ∀ q ∈ tb_Mo_why, decode c_Mo_why q.1 = .ok q.2 := by decide +kernel
def tb_Mo_total : List (Nat × Instr × Nat) := [(0, .aload_n 0, 1), (1, .iconst 0, 1), (2, .putfield 99, 3), (5, .aload_n 0, 1), (6, .getfield 63, 3), (9, .sipush 186, 3), (12, .iaload, 1), (13, .ireturn, 1)]
set_option maxRecDepth 100000 in
theorem td_Mo_total : ∀ q ∈ tb_Mo_total, decode c_Mo_total q.1 = .ok q.2 := by decide +kernel
def tb_Mo_log : List (Nat × Instr × Nat) := [(0, .aload_n 0, 1), (1, .iconst 0, 1), (2, .putfield 99, 3), (5, .iload_n 1, 1), (6, .ifCond .lt 41, 3), (9, .iload_n 1, 1), (10, .aload_n 0, 1), (11, .getfield 63, 3), (14, .sipush 187, 3), (17, .iaload, 1), (18, .if_icmp .ge 29, 3), (21, .iload_n 2, 1), (22, .ifCond .lt 25, 3), (25, .iload_n 2, 1), (26, .iconst 2, 1), (27, .if_icmp .gt 20, 3), (30, .aload_n 0, 1), (31, .getfield 63, 3), (34, .sipush 188, 3), (37, .iconst 3, 1), (38, .iload_n 1, 1), (39, .imul, 1), (40, .iadd, 1), (41, .iload_n 2, 1), (42, .iadd, 1), (43, .iaload, 1), (44, .goto 4, 3), (47, .iconst (-1), 1), (48, .ireturn, 1)]
set_option maxRecDepth 100000 in
theorem td_Mo_log : ∀ q ∈ tb_Mo_log, decode c_Mo_log q.1 = .ok q.2 := by decide +kernel
def tb_Mo_inRings : List (Nat × Instr × Nat) := [(0, .iconst 0, 1), (1, .istore_n 1, 1), (2, .iconst 0, 1), (3, .istore_n 2, 1), (4, .iload_n 2, 1), (5, .aload_n 0, 1), (6, .invokevirtual 223, 3), (9, .if_icmp .ge 22, 3), (12, .iload_n 1, 1), (13, .aload_n 0, 1), (14, .getfield 60, 3), (17, .iload_n 2, 1), (18, .iaload, 1), (19, .iconst 1, 1), (20, .iload_n 2, 1), (21, .ishl, 1), (22, .iand, 1), (23, .ior, 1), (24, .istore_n 1, 1), (25, .iinc 2 1, 3), (28, .goto (-24), 3), (31, .iload_n 1, 1), (32, .ireturn, 1)]
set_option maxRecDepth 100000 in
theorem td_Mo_inRings : ∀ q ∈ tb_Mo_inRings, decode c_Mo_inRings q.1 = .ok q.2 := by decide +kernel
def tb_Mo_laysSteps : List (Nat × Instr × Nat) := [(0, .iconst 0, 1), (1, .istore_n 2, 1), (2, .iload_n 2, 1), (3, .aload_n 0, 1), (4, .invokevirtual 223, 3), (7, .if_icmp .ge 34, 3), (10, .aload_n 0, 1), (11, .getfield 81, 3), (14, .iload_n 2, 1), (15, .aload_n 0, 1), (16, .getfield 57, 3), (19, .iload_n 2, 1), (20, .iaload, 1), (21, .iload_n 1, 1), (22, .ishr, 1), (23, .iconst 1, 1), (24, .iand, 1), (25, .iconst 1, 1), (26, .if_icmp .ne 7, 3), (29, .iconst 1, 1), (30, .goto 4, 3), (33, .iconst (-1), 1), (34, .iastore, 1), (35, .iinc 2 1, 3), (38, .goto (-36), 3), (41, .iconst 2, 1), (42, .istore_n 2, 1), (43, .iload_n 2, 1), (44, .aload_n 0, 1), (45, .invokevirtual 223, 3), (48, .if_icmp .gt 94, 3), (51, .iconst 0, 1), (52, .istore_n 3, 1), (53, .iload_n 3, 1), (54, .aload_n 0, 1), (55, .invokevirtual 223, 3), (58, .if_icmp .ge 78, 3), (61, .iconst 0, 1), (62, .istore 4, 2), (64, .iload 4, 2), (66, .aload_n 0, 1), (67, .invokevirtual 223, 3), (70, .if_icmp .ge 60, 3), (73, .aload_n 0, 1), (74, .getfield 81, 3), (77, .iload_n 3, 1), (78, .iaload, 1), (79, .iconst (-1), 1), (80, .if_icmp .ne 50, 3), (83, .iload 4, 2), (85, .iload_n 1, 1), (86, .if_icmp .eq 38, 3), (89, .aload_n 0, 1), (90, .getfield 57, 3), (93, .iload_n 3, 1), (94, .iaload, 1), (95, .iload 4, 2), (97, .ishr, 1), (98, .iconst 1, 1), (99, .iand, 1), (100, .iconst 1, 1), (101, .if_icmp .ne 23, 3), (104, .aload_n 0, 1), (105, .getfield 81, 3), (108, .iload 4, 2), (110, .iaload, 1), (111, .iload_n 2, 1), (112, .iconst 1, 1), (113, .isub, 1), (114, .if_icmp .ne 10, 3), (117, .aload_n 0, 1), (118, .getfield 81, 3), (121, .iload_n 3, 1), (122, .iload_n 2, 1), (123, .iastore, 1), (124, .iinc 4 1, 3), (127, .goto (-63), 3), (130, .iinc 3 1, 3), (133, .goto (-80), 3), (136, .iinc 2 1, 3), (139, .goto (-96), 3), (142, .return_, 1)]
set_option maxRecDepth 100000 in
theorem td_Mo_laysSteps : ∀ q ∈ tb_Mo_laysSteps, decode c_Mo_laysSteps q.1 = .ok q.2 := by decide +kernel
def tb_Mo_laysRing : List (Nat × Instr × Nat) := [(0, .aload_n 0, 1), (1, .iconst 0, 1), (2, .putfield 303, 3), (5, .aload_n 0, 1), (6, .invokevirtual 306, 3), (9, .istore_n 1, 1), (10, .iload_n 1, 1), (11, .ifCond .ne 4, 3), (14, .return_, 1), (15, .iconst 0, 1), (16, .istore_n 2, 1), (17, .iload_n 1, 1), (18, .iload_n 2, 1), (19, .ishr, 1), (20, .iconst 1, 1), (21, .iand, 1), (22, .ifCond .ne 9, 3), (25, .iinc 2 1, 3), (28, .goto (-11), 3), (31, .aload_n 0, 1), (32, .iload_n 2, 1), (33, .invokevirtual 309, 3), (36, .aload_n 0, 1), (37, .aload_n 0, 1), (38, .getfield 81, 3), (41, .iload_n 2, 1), (42, .iaload, 1), (43, .putfield 303, 3), (46, .aload_n 0, 1), (47, .getfield 84, 3), (50, .iconst 0, 1), (51, .iload_n 2, 1), (52, .iastore, 1), (53, .iconst 1, 1), (54, .istore_n 3, 1), (55, .iload_n 3, 1), (56, .aload_n 0, 1), (57, .getfield 303, 3), (60, .if_icmp .ge 69, 3), (63, .iconst 0, 1), (64, .istore 4, 2), (66, .iload 4, 2), (68, .iload_n 2, 1), (69, .if_icmp .eq 40, 3), (72, .aload_n 0, 1), (73, .getfield 57, 3), (76, .aload_n 0, 1), (77, .getfield 84, 3), (80, .iload_n 3, 1), (81, .iconst 1, 1), (82, .isub, 1), (83, .iaload, 1), (84, .iaload, 1), (85, .iload 4, 2), (87, .ishr, 1), (88, .iconst 1, 1), (89, .iand, 1), (90, .ifCond .eq 19, 3), (93, .aload_n 0, 1), (94, .getfield 81, 3), (97, .iload 4, 2), (99, .iaload, 1), (100, .aload_n 0, 1), (101, .getfield 303, 3), (104, .iload_n 3, 1), (105, .isub, 1), (106, .if_icmp .eq 9, 3), (109, .iinc 4 1, 3), (112, .goto (-46), 3), (115, .aload_n 0, 1), (116, .getfield 84, 3), (119, .iload_n 3, 1), (120, .iload 4, 2), (122, .iastore, 1), (123, .iinc 3 1, 3), (126, .goto (-71), 3), (129, .return_, 1)]
set_option maxRecDepth 100000 in
theorem td_Mo_laysRing : ∀ q ∈ tb_Mo_laysRing, decode c_Mo_laysRing q.1 = .ok q.2 := by decide +kernel
def tb_Mo_ring : List (Nat × Instr × Nat) := [(0, .aload_n 0, 1), (1, .iconst 0, 1), (2, .putfield 99, 3), (5, .iload_n 1, 1), (6, .ifCond .ge 5, 3), (9, .iconst (-1), 1), (10, .ireturn, 1), (11, .aload_n 0, 1), (12, .invokevirtual 312, 3), (15, .iload_n 1, 1), (16, .aload_n 0, 1), (17, .getfield 303, 3), (20, .if_icmp .ge 12, 3), (23, .aload_n 0, 1), (24, .getfield 84, 3), (27, .iload_n 1, 1), (28, .iaload, 1), (29, .goto 5, 3), (32, .bipush (-2), 2), (34, .ireturn, 1)]
set_option maxRecDepth 100000 in
theorem td_Mo_ring : ∀ q ∈ tb_Mo_ring, decode c_Mo_ring q.1 = .ok q.2 := by decide +kernel
def tb_Mo_never : List (Nat × Instr × Nat) := [(0, .aload_n 0, 1), (1, .iconst 0, 1), (2, .putfield 99, 3), (5, .iload_n 1, 1), (6, .ifCond .lt 8, 3), (9, .iload_n 1, 1), (10, .iconst 1, 1), (11, .if_icmp .le 5, 3), (14, .iconst (-1), 1), (15, .ireturn, 1), (16, .aload_n 0, 1), (17, .invokevirtual 306, 3), (20, .istore_n 2, 1), (21, .iload_n 2, 1), (22, .istore_n 3, 1), (23, .iconst 0, 1), (24, .istore 4, 2), (26, .iload 4, 2), (28, .aload_n 0, 1), (29, .invokevirtual 223, 3), (32, .if_icmp .ge 33, 3), (35, .iload_n 1, 1), (36, .iconst 1, 1), (37, .if_icmp .ne 28, 3), (40, .aload_n 0, 1), (41, .getfield 60, 3), (44, .iload 4, 2), (46, .iaload, 1), (47, .iload_n 2, 1), (48, .iand, 1), (49, .ifCond .eq 10, 3), (52, .iload_n 3, 1), (53, .iconst 1, 1), (54, .iload 4, 2), (56, .ishl, 1), (57, .ior, 1), (58, .istore_n 3, 1), (59, .iinc 4 1, 3), (62, .goto (-36), 3), (65, .iload_n 3, 1), (66, .ireturn, 1)]
set_option maxRecDepth 100000 in
theorem td_Mo_never : ∀ q ∈ tb_Mo_never, decode c_Mo_never q.1 = .ok q.2 := by decide +kernel
def tb_Mo_heatAt : List (Nat × Instr × Nat) := [(0, .iconst 0, 1), (1, .istore_n 3, 1), (2, .iconst 0, 1), (3, .istore 4, 2), (5, .iload 4, 2), (7, .aload_n 0, 1), (8, .invokevirtual 223, 3), (11, .if_icmp .ge 39, 3), (14, .iload_n 3, 1), (15, .iload_n 1, 1), (16, .iload 4, 2), (18, .ishr, 1), (19, .iconst 1, 1), (20, .iand, 1), (21, .iconst 1, 1), (22, .if_icmp .ne 19, 3), (25, .aload_n 0, 1), (26, .getfield 63, 3), (29, .bipush 13, 2), (31, .iload 4, 2), (33, .imul, 1), (34, .bipush 6, 2), (36, .iadd, 1), (37, .iaload, 1), (38, .goto 4, 3), (41, .iconst 0, 1), (42, .iadd, 1), (43, .istore_n 3, 1), (44, .iinc 4 1, 3), (47, .goto (-42), 3), (50, .aload_n 0, 1), (51, .getfield 29, 3), (54, .iload_n 2, 1), (55, .iaload, 1), (56, .aload_n 0, 1), (57, .getfield 26, 3), (60, .iload_n 2, 1), (61, .iaload, 1), (62, .if_icmp .ge 12, 3), (65, .aload_n 0, 1), (66, .getfield 29, 3), (69, .iload_n 2, 1), (70, .iaload, 1), (71, .goto 9, 3), (74, .aload_n 0, 1), (75, .getfield 26, 3), (78, .iload_n 2, 1), (79, .iaload, 1), (80, .istore 4, 2), (82, .iload_n 3, 1), (83, .aload_n 0, 1), (84, .getfield 63, 3), (87, .bipush 13, 2), (89, .iload_n 2, 1), (90, .imul, 1), (91, .bipush 6, 2), (93, .iadd, 1), (94, .iaload, 1), (95, .iadd, 1), (96, .aload_n 0, 1), (97, .getfield 32, 3), (100, .iload_n 2, 1), (101, .iaload, 1), (102, .iload 4, 2), (104, .imul, 1), (105, .bipush 16, 2), (107, .idiv, 1), (108, .iadd, 1), (109, .ireturn, 1)]
set_option maxRecDepth 100000 in
theorem td_Mo_heatAt : ∀ q ∈ tb_Mo_heatAt, decode c_Mo_heatAt q.1 = .ok q.2 := by decide +kernel
def tb_Mo_greater : List (Nat × Instr × Nat) := [(0, .iload_n 0, 1), (1, .iload_n 1, 1), (2, .if_icmp .le 7, 3), (5, .iload_n 0, 1), (6, .goto 4, 3), (9, .iload_n 1, 1), (10, .ireturn, 1)]
set_option maxRecDepth 100000 in
theorem td_Mo_greater : ∀ q ∈ tb_Mo_greater, decode c_Mo_greater q.1 = .ok q.2 := by decide +kernel
def tb_Mo_mayCome : List (Nat × Instr × Nat) := [(0, .iload_n 1, 1), (1, .iload_n 2, 1), (2, .ishr, 1), (3, .iconst 1, 1), (4, .iand, 1), (5, .ifCond .ne 20, 3), (8, .aload_n 0, 1), (9, .getfield 57, 3), (12, .iload_n 2, 1), (13, .iaload, 1), (14, .iload_n 1, 1), (15, .iconst (-1), 1), (16, .ixor, 1), (17, .iand, 1), (18, .ifCond .ne 7, 3), (21, .iconst 1, 1), (22, .goto 4, 3), (25, .iconst 0, 1), (26, .ireturn, 1)]
set_option maxRecDepth 100000 in
theorem td_Mo_mayCome : ∀ q ∈ tb_Mo_mayCome, decode c_Mo_mayCome q.1 = .ok q.2 := by decide +kernel
def tb_Mo_laysHeat : List (Nat × Instr × Nat) := [(0, .iconst 1, 1), (1, .aload_n 0, 1), (2, .invokevirtual 223, 3), (5, .ishl, 1), (6, .iconst 1, 1), (7, .isub, 1), (8, .istore_n 1, 1), (9, .aload_n 0, 1), (10, .getfield 87, 3), (13, .iload_n 1, 1), (14, .iconst 0, 1), (15, .iastore, 1), (16, .iload_n 1, 1), (17, .iconst 1, 1), (18, .isub, 1), (19, .istore_n 2, 1), (20, .iload_n 2, 1), (21, .ifCond .lt 87, 3), (24, .ldc_w 315, 3), (27, .istore_n 3, 1), (28, .iconst 0, 1), (29, .istore 4, 2), (31, .iload 4, 2), (33, .aload_n 0, 1), (34, .invokevirtual 223, 3), (37, .if_icmp .ge 58, 3), (40, .aload_n 0, 1), (41, .iload_n 2, 1), (42, .iload 4, 2), (44, .invokevirtual 316, 3), (47, .ifCond .ne 6, 3), (50, .goto 39, 3), (53, .aload_n 0, 1), (54, .iload_n 2, 1), (55, .iload 4, 2), (57, .invokevirtual 320, 3), (60, .aload_n 0, 1), (61, .getfield 87, 3), (64, .iload_n 2, 1), (65, .iconst 1, 1), (66, .iload 4, 2), (68, .ishl, 1), (69, .ior, 1), (70, .iaload, 1), (71, .invokestatic 323, 3), (74, .istore 5, 2), (76, .iload 5, 2), (78, .iload_n 3, 1), (79, .if_icmp .ge 8, 3), (82, .iload 5, 2), (84, .goto 4, 3), (87, .iload_n 3, 1), (88, .istore_n 3, 1), (89, .iinc 4 1, 3), (92, .goto (-61), 3), (95, .aload_n 0, 1), (96, .getfield 87, 3), (99, .iload_n 2, 1), (100, .iload_n 3, 1), (101, .iastore, 1), (102, .iinc 2 (-1), 3), (105, .goto (-85), 3), (108, .return_, 1)]
set_option maxRecDepth 100000 in
theorem td_Mo_laysHeat : ∀ q ∈ tb_Mo_laysHeat, decode c_Mo_laysHeat q.1 = .ok q.2 := by decide +kernel
def tb_Mo_heat : List (Nat × Instr × Nat) := [(0, .aload_n 0, 1), (1, .iconst 0, 1), (2, .putfield 99, 3), (5, .aload_n 0, 1), (6, .invokevirtual 326, 3), (9, .aload_n 0, 1), (10, .getfield 87, 3), (13, .iconst 0, 1), (14, .iaload, 1), (15, .ldc_w 315, 3), (18, .if_icmp .ne 8, 3), (21, .bipush (-2), 2), (23, .goto 9, 3), (26, .aload_n 0, 1), (27, .getfield 87, 3), (30, .iconst 0, 1), (31, .iaload, 1), (32, .ireturn, 1)]
set_option maxRecDepth 100000 in
theorem td_Mo_heat : ∀ q ∈ tb_Mo_heat, decode c_Mo_heat q.1 = .ok q.2 := by decide +kernel
def tb_Mo_order : List (Nat × Instr × Nat) := [(0, .aload_n 0, 1), (1, .iconst 0, 1), (2, .putfield 99, 3), (5, .iload_n 1, 1), (6, .ifCond .lt 11, 3), (9, .iload_n 1, 1), (10, .aload_n 0, 1), (11, .invokevirtual 223, 3), (14, .if_icmp .lt 5, 3), (17, .iconst (-1), 1), (18, .ireturn, 1), (19, .aload_n 0, 1), (20, .invokevirtual 326, 3), (23, .aload_n 0, 1), (24, .getfield 87, 3), (27, .iconst 0, 1), (28, .iaload, 1), (29, .ldc_w 315, 3), (32, .if_icmp .ne 6, 3), (35, .bipush (-2), 2), (37, .ireturn, 1), (38, .iconst 0, 1), (39, .istore_n 2, 1), (40, .iconst 0, 1), (41, .istore_n 3, 1), (42, .iconst 0, 1), (43, .istore 4, 2), (45, .iload 4, 2), (47, .iload_n 1, 1), (48, .if_icmp .gt 60, 3), (51, .iconst 0, 1), (52, .istore_n 3, 1), (53, .aload_n 0, 1), (54, .iload_n 2, 1), (55, .iload_n 3, 1), (56, .invokevirtual 316, 3), (59, .ifCond .eq 31, 3), (62, .aload_n 0, 1), (63, .iload_n 2, 1), (64, .iload_n 3, 1), (65, .invokevirtual 320, 3), (68, .aload_n 0, 1), (69, .getfield 87, 3), (72, .iload_n 2, 1), (73, .iconst 1, 1), (74, .iload_n 3, 1), (75, .ishl, 1), (76, .ior, 1), (77, .iaload, 1), (78, .invokestatic 323, 3), (81, .aload_n 0, 1), (82, .getfield 87, 3), (85, .iconst 0, 1), (86, .iaload, 1), (87, .if_icmp .le 9, 3), (90, .iinc 3 1, 3), (93, .goto (-40), 3), (96, .iload_n 2, 1), (97, .iconst 1, 1), (98, .iload_n 3, 1), (99, .ishl, 1), (100, .ior, 1), (101, .istore_n 2, 1), (102, .iinc 4 1, 3), (105, .goto (-60), 3), (108, .iload_n 3, 1), (109, .ireturn, 1)]
set_option maxRecDepth 100000 in
theorem td_Mo_order : ∀ q ∈ tb_Mo_order, decode c_Mo_order q.1 = .ok q.2 := by decide +kernel
def tb_Mo_isFar : List (Nat × Instr × Nat) := [(0, .iload_n 0, 1), (1, .ifCond .lt 14, 3), (4, .iload_n 0, 1), (5, .sipush 300, 3), (8, .if_icmp .gt 7, 3), (11, .iconst 1, 1), (12, .goto 4, 3), (15, .iconst 0, 1), (16, .ireturn, 1)]
set_option maxRecDepth 100000 in
theorem td_Mo_isFar : ∀ q ∈ tb_Mo_isFar, decode c_Mo_isFar q.1 = .ok q.2 := by decide +kernel
def tb_Mo_ahead : List (Nat × Instr × Nat) := [(0, .aload_n 0, 1), (1, .iconst 0, 1), (2, .putfield 99, 3), (5, .aload_n 0, 1), (6, .iload_n 1, 1), (7, .invokevirtual 300, 3), (10, .ifCond .eq 19, 3), (13, .iload_n 2, 1), (14, .invokestatic 329, 3), (17, .ifCond .eq 12, 3), (20, .iload_n 3, 1), (21, .ifCond .lt 8, 3), (24, .iload_n 3, 1), (25, .iconst 3, 1), (26, .if_icmp .le 5, 3), (29, .iconst (-1), 1), (30, .ireturn, 1), (31, .aload_n 0, 1), (32, .getfield 63, 3), (35, .iconst 0, 1), (36, .aload_n 0, 1), (37, .getfield 66, 3), (40, .iconst 0, 1), (41, .invokestatic 226, 3), (44, .bipush 13, 2), (46, .iload_n 1, 1), (47, .imul, 1), (48, .istore 4, 2), (50, .aload_n 0, 1), (51, .getfield 63, 3), (54, .iload 4, 2), (56, .iconst 2, 1), (57, .iadd, 1), (58, .iaload, 1), (59, .istore 5, 2), (61, .aload_n 0, 1), (62, .getfield 63, 3), (65, .iload 4, 2), (67, .iconst 5, 1), (68, .iadd, 1), (69, .iaload, 1), (70, .istore 6, 2), (72, .iconst 0, 1), (73, .istore 7, 2), (75, .iload 7, 2), (77, .iload_n 2, 1), (78, .if_icmp .ge 29, 3), (81, .aload_n 0, 1), (82, .invokevirtual 297, 3), (85, .iload 5, 2), (87, .aload_n 0, 1), (88, .getfield 63, 3), (91, .iload 4, 2), (93, .iconst 2, 1), (94, .iadd, 1), (95, .iaload, 1), (96, .invokestatic 323, 3), (99, .istore 5, 2), (101, .iinc 7 1, 3), (104, .goto (-29), 3), (107, .iload_n 3, 1), (108, .ifCond .ne 15, 3), (111, .aload_n 0, 1), (112, .getfield 63, 3), (115, .iload 4, 2), (117, .iconst 0, 1), (118, .iadd, 1), (119, .iaload, 1), (120, .goto 42, 3), (123, .iload_n 3, 1), (124, .iconst 1, 1), (125, .if_icmp .ne 15, 3), (128, .aload_n 0, 1), (129, .getfield 63, 3), (132, .iload 4, 2), (134, .iconst 1, 1), (135, .iadd, 1), (136, .iaload, 1), (137, .goto 25, 3), (140, .iload_n 3, 1), (141, .iconst 2, 1), (142, .if_icmp .ne 8, 3), (145, .iload 5, 2), (147, .goto 15, 3), (150, .aload_n 0, 1), (151, .getfield 63, 3), (154, .iload 4, 2), (156, .iconst 5, 1), (157, .iadd, 1), (158, .iaload, 1), (159, .iload 6, 2), (161, .isub, 1), (162, .istore 7, 2), (164, .aload_n 0, 1), (165, .getfield 66, 3), (168, .iconst 0, 1), (169, .aload_n 0, 1), (170, .getfield 63, 3), (173, .iconst 0, 1), (174, .invokestatic 226, 3), (177, .iload 7, 2), (179, .ireturn, 1)]
set_option maxRecDepth 100000 in
theorem td_Mo_ahead : ∀ q ∈ tb_Mo_ahead, decode c_Mo_ahead q.1 = .ok q.2 := by decide +kernel
def tb_Mo_peak : List (Nat × Instr × Nat) := [(0, .aload_n 0, 1), (1, .iconst 0, 1), (2, .putfield 99, 3), (5, .iload_n 1, 1), (6, .invokestatic 329, 3), (9, .ifCond .ne 5, 3), (12, .iconst (-1), 1), (13, .ireturn, 1), (14, .aload_n 0, 1), (15, .getfield 63, 3), (18, .iconst 0, 1), (19, .aload_n 0, 1), (20, .getfield 66, 3), (23, .iconst 0, 1), (24, .invokestatic 226, 3), (27, .aload_n 0, 1), (28, .getfield 63, 3), (31, .sipush 186, 3), (34, .iaload, 1), (35, .istore_n 2, 1), (36, .iconst 0, 1), (37, .istore_n 3, 1), (38, .iload_n 3, 1), (39, .iload_n 1, 1), (40, .if_icmp .ge 26, 3), (43, .aload_n 0, 1), (44, .invokevirtual 297, 3), (47, .iload_n 2, 1), (48, .aload_n 0, 1), (49, .getfield 63, 3), (52, .sipush 186, 3), (55, .iaload, 1), (56, .invokestatic 323, 3), (59, .istore_n 2, 1), (60, .iinc 3 1, 3), (63, .goto (-25), 3), (66, .aload_n 0, 1), (67, .getfield 66, 3), (70, .iconst 0, 1), (71, .aload_n 0, 1), (72, .getfield 63, 3), (75, .iconst 0, 1), (76, .invokestatic 226, 3), (79, .iload_n 2, 1), (80, .ireturn, 1)]
set_option maxRecDepth 100000 in
theorem td_Mo_peak : ∀ q ∈ tb_Mo_peak, decode c_Mo_peak q.1 = .ok q.2 := by decide +kernel
def tb_Mo_isQuiet : List (Nat × Instr × Nat) := [(0, .aload_n 0, 1), (1, .getfield 63, 3), (4, .sipush 183, 3), (7, .iaload, 1), (8, .iconst 1, 1), (9, .if_icmp .eq 14, 3), (12, .aload_n 0, 1), (13, .getfield 63, 3), (16, .sipush 169, 3), (19, .iaload, 1), (20, .ifCond .le 5, 3), (23, .iconst 0, 1), (24, .ireturn, 1), (25, .iconst 0, 1), (26, .istore_n 1, 1), (27, .iload_n 1, 1), (28, .aload_n 0, 1), (29, .invokevirtual 223, 3), (32, .if_icmp .ge 73, 3), (35, .aload_n 0, 1), (36, .getfield 63, 3), (39, .bipush 13, 2), (41, .iload_n 1, 1), (42, .imul, 1), (43, .bipush 10, 2), (45, .iadd, 1), (46, .iaload, 1), (47, .ifCond .ne 11, 3), (50, .aload_n 0, 1), (51, .iload_n 1, 1), (52, .invokevirtual 230, 3), (55, .ifCond .eq 32, 3), (58, .aload_n 0, 1), (59, .iload_n 1, 1), (60, .invokevirtual 230, 3), (63, .iconst 3, 1), (64, .if_icmp .ne 27, 3), (67, .aload_n 0, 1), (68, .getfield 63, 3), (71, .bipush 13, 2), (73, .iload_n 1, 1), (74, .imul, 1), (75, .iconst 1, 1), (76, .iadd, 1), (77, .iaload, 1), (78, .aload_n 0, 1), (79, .getfield 26, 3), (82, .iload_n 1, 1), (83, .iaload, 1), (84, .if_icmp .ne 7, 3), (87, .iconst 1, 1), (88, .goto 4, 3), (91, .iconst 0, 1), (92, .istore_n 2, 1), (93, .iload_n 2, 1), (94, .ifCond .ne 5, 3), (97, .iconst 0, 1), (98, .ireturn, 1), (99, .iinc 1 1, 3), (102, .goto (-75), 3), (105, .iconst 1, 1), (106, .ireturn, 1)]
set_option maxRecDepth 100000 in
theorem td_Mo_isQuiet : ∀ q ∈ tb_Mo_isQuiet, decode c_Mo_isQuiet q.1 = .ok q.2 := by decide +kernel
def tb_Mo_quiet : List (Nat × Instr × Nat) := [(0, .aload_n 0, 1), (1, .iconst 0, 1), (2, .putfield 99, 3), (5, .aload_n 0, 1), (6, .getfield 63, 3), (9, .iconst 0, 1), (10, .aload_n 0, 1), (11, .getfield 66, 3), (14, .iconst 0, 1), (15, .invokestatic 226, 3), (18, .iconst 0, 1), (19, .istore_n 1, 1), (20, .iload_n 1, 1), (21, .sipush 300, 3), (24, .if_icmp .ge 20, 3), (27, .aload_n 0, 1), (28, .invokevirtual 332, 3), (31, .ifCond .ne 13, 3), (34, .aload_n 0, 1), (35, .invokevirtual 297, 3), (38, .iinc 1 1, 3), (41, .goto (-21), 3), (44, .aload_n 0, 1), (45, .invokevirtual 332, 3), (48, .istore_n 2, 1), (49, .aload_n 0, 1), (50, .getfield 66, 3), (53, .iconst 0, 1), (54, .aload_n 0, 1), (55, .getfield 63, 3), (58, .iconst 0, 1), (59, .invokestatic 226, 3), (62, .iload_n 2, 1), (63, .ifCond .eq 7, 3), (66, .iload_n 1, 1), (67, .goto 5, 3), (70, .bipush (-2), 2), (72, .ireturn, 1)]
set_option maxRecDepth 100000 in
theorem td_Mo_quiet : ∀ q ∈ tb_Mo_quiet, decode c_Mo_quiet q.1 = .ok q.2 := by decide +kernel
def tb_Mo_leastLimit : List (Nat × Instr × Nat) := [(0, .aload_n 0, 1), (1, .iconst 0, 1), (2, .putfield 99, 3), (5, .aload_n 0, 1), (6, .iload_n 1, 1), (7, .invokevirtual 300, 3), (10, .ifCond .ne 5, 3), (13, .iconst (-1), 1), (14, .ireturn, 1), (15, .aload_n 0, 1), (16, .getfield 63, 3), (19, .iconst 0, 1), (20, .aload_n 0, 1), (21, .getfield 66, 3), (24, .iconst 0, 1), (25, .invokestatic 226, 3), (28, .aload_n 0, 1), (29, .getfield 63, 3), (32, .bipush 13, 2), (34, .iload_n 1, 1), (35, .imul, 1), (36, .bipush 7, 2), (38, .iadd, 1), (39, .ldc 184, 2), (41, .iastore, 1), (42, .iconst 1, 1), (43, .istore_n 2, 1), (44, .iconst 0, 1), (45, .istore_n 3, 1), (46, .iconst 0, 1), (47, .istore 4, 2), (49, .iload 4, 2), (51, .bipush 100, 2), (53, .if_icmp .ge 54, 3), (56, .aload_n 0, 1), (57, .invokevirtual 297, 3), (60, .iload_n 2, 1), (61, .aload_n 0, 1), (62, .getfield 63, 3), (65, .bipush 13, 2), (67, .iload_n 1, 1), (68, .imul, 1), (69, .iconst 2, 1), (70, .iadd, 1), (71, .iaload, 1), (72, .invokestatic 323, 3), (75, .istore_n 2, 1), (76, .iload_n 3, 1), (77, .ifCond .ne 18, 3), (80, .aload_n 0, 1), (81, .getfield 63, 3), (84, .bipush 13, 2), (86, .iload_n 1, 1), (87, .imul, 1), (88, .iconst 3, 1), (89, .iadd, 1), (90, .iaload, 1), (91, .iconst 1, 1), (92, .if_icmp .ne 7, 3), (95, .iconst 1, 1), (96, .goto 4, 3), (99, .iconst 0, 1), (100, .istore_n 3, 1), (101, .iinc 4 1, 3), (104, .goto (-55), 3), (107, .aload_n 0, 1), (108, .getfield 66, 3), (111, .iconst 0, 1), (112, .aload_n 0, 1), (113, .getfield 63, 3), (116, .iconst 0, 1), (117, .invokestatic 226, 3), (120, .iload_n 3, 1), (121, .ifCond .eq 8, 3), (124, .bipush (-2), 2), (126, .goto 4, 3), (129, .iload_n 2, 1), (130, .ireturn, 1)]
set_option maxRecDepth 100000 in
theorem td_Mo_leastLimit : ∀ q ∈ tb_Mo_leastLimit, decode c_Mo_leastLimit q.1 = .ok q.2 := by decide +kernel
def tb_Mo_ifLoad : List (Nat × Instr × Nat) := [(0, .aload_n 0, 1), (1, .iconst 0, 1), (2, .putfield 99, 3), (5, .aload_n 0, 1), (6, .iload_n 1, 1), (7, .invokevirtual 300, 3), (10, .ifCond .eq 14, 3), (13, .iload_n 2, 1), (14, .ifCond .lt 10, 3), (17, .iload_n 2, 1), (18, .sipush 9999, 3), (21, .if_icmp .le 5, 3), (24, .iconst (-1), 1), (25, .ireturn, 1), (26, .aload_n 0, 1), (27, .getfield 63, 3), (30, .iconst 0, 1), (31, .aload_n 0, 1), (32, .getfield 66, 3), (35, .iconst 0, 1), (36, .invokestatic 226, 3), (39, .aload_n 0, 1), (40, .getfield 63, 3), (43, .bipush 13, 2), (45, .iload_n 1, 1), (46, .imul, 1), (47, .bipush 6, 2), (49, .iadd, 1), (50, .iload_n 2, 1), (51, .iastore, 1), (52, .iconst 0, 1), (53, .istore_n 3, 1), (54, .iload_n 3, 1), (55, .bipush 100, 2), (57, .if_icmp .ge 13, 3), (60, .aload_n 0, 1), (61, .invokevirtual 297, 3), (64, .iinc 3 1, 3), (67, .goto (-13), 3), (70, .iconst 0, 1), (71, .istore_n 3, 1), (72, .iconst 0, 1), (73, .istore 4, 2), (75, .iload 4, 2), (77, .aload_n 0, 1), (78, .invokevirtual 223, 3), (81, .if_icmp .ge 43, 3), (84, .aload_n 0, 1), (85, .getfield 63, 3), (88, .bipush 13, 2), (90, .iload 4, 2), (92, .imul, 1), (93, .iconst 5, 1), (94, .iadd, 1), (95, .iaload, 1), (96, .aload_n 0, 1), (97, .getfield 66, 3), (100, .bipush 13, 2), (102, .iload 4, 2), (104, .imul, 1), (105, .iconst 5, 1), (106, .iadd, 1), (107, .iaload, 1), (108, .if_icmp .le 10, 3), (111, .iload_n 3, 1), (112, .iconst 1, 1), (113, .iload 4, 2), (115, .ishl, 1), (116, .ior, 1), (117, .istore_n 3, 1), (118, .iinc 4 1, 3), (121, .goto (-46), 3), (124, .aload_n 0, 1), (125, .getfield 66, 3), (128, .iconst 0, 1), (129, .aload_n 0, 1), (130, .getfield 63, 3), (133, .iconst 0, 1), (134, .invokestatic 226, 3), (137, .iload_n 3, 1), (138, .ireturn, 1)]
set_option maxRecDepth 100000 in
theorem td_Mo_ifLoad : ∀ q ∈ tb_Mo_ifLoad, decode c_Mo_ifLoad q.1 = .ok q.2 := by decide +kernel
def tb_Mo_ifOff : List (Nat × Instr × Nat) := [(0, .aload_n 0, 1), (1, .iconst 0, 1), (2, .putfield 99, 3), (5, .aload_n 0, 1), (6, .iload_n 1, 1), (7, .invokevirtual 300, 3), (10, .ifCond .ne 5, 3), (13, .iconst (-1), 1), (14, .ireturn, 1), (15, .aload_n 0, 1), (16, .getfield 63, 3), (19, .iconst 0, 1), (20, .aload_n 0, 1), (21, .getfield 66, 3), (24, .iconst 0, 1), (25, .invokestatic 226, 3), (28, .aload_n 0, 1), (29, .iload_n 1, 1), (30, .iconst 1, 1), (31, .invokevirtual 262, 3), (34, .iconst 0, 1), (35, .istore_n 2, 1), (36, .iconst 0, 1), (37, .istore_n 3, 1), (38, .iload_n 3, 1), (39, .aload_n 0, 1), (40, .invokevirtual 223, 3), (43, .if_icmp .ge 81, 3), (46, .aload_n 0, 1), (47, .getfield 63, 3), (50, .bipush 13, 2), (52, .iload_n 3, 1), (53, .imul, 1), (54, .bipush 8, 2), (56, .iadd, 1), (57, .iaload, 1), (58, .iconst 1, 1), (59, .if_icmp .ne 22, 3), (62, .aload_n 0, 1), (63, .getfield 66, 3), (66, .bipush 13, 2), (68, .iload_n 3, 1), (69, .imul, 1), (70, .bipush 8, 2), (72, .iadd, 1), (73, .iaload, 1), (74, .ifCond .ne 7, 3), (77, .iconst 1, 1), (78, .goto 4, 3), (81, .iconst 0, 1), (82, .istore 4, 2), (84, .iload 4, 2), (86, .ifCond .ne 26, 3), (89, .aload_n 0, 1), (90, .iload_n 3, 1), (91, .invokevirtual 230, 3), (94, .ifCond .ne 24, 3), (97, .aload_n 0, 1), (98, .getfield 66, 3), (101, .bipush 13, 2), (103, .iload_n 3, 1), (104, .imul, 1), (105, .iconst 0, 1), (106, .iadd, 1), (107, .iaload, 1), (108, .iconst 1, 1), (109, .if_icmp .ne 9, 3), (112, .iload_n 2, 1), (113, .iconst 1, 1), (114, .iload_n 3, 1), (115, .ishl, 1), (116, .ior, 1), (117, .istore_n 2, 1), (118, .iinc 3 1, 3), (121, .goto (-83), 3), (124, .aload_n 0, 1), (125, .getfield 66, 3), (128, .iconst 0, 1), (129, .aload_n 0, 1), (130, .getfield 63, 3), (133, .iconst 0, 1), (134, .invokestatic 226, 3), (137, .iload_n 2, 1), (138, .ireturn, 1)]
set_option maxRecDepth 100000 in
theorem td_Mo_ifOff : ∀ q ∈ tb_Mo_ifOff, decode c_Mo_ifOff q.1 = .ok q.2 := by decide +kernel
def tb_Mo_bestOff : List (Nat × Instr × Nat) := [(0, .aload_n 0, 1), (1, .iconst 0, 1), (2, .putfield 99, 3), (5, .iload_n 1, 1), (6, .iconst 1, 1), (7, .if_icmp .lt 9, 3), (10, .iload_n 1, 1), (11, .bipush 60, 2), (13, .if_icmp .le 5, 3), (16, .iconst (-1), 1), (17, .ireturn, 1), (18, .bipush (-2), 2), (20, .istore_n 2, 1), (21, .ldc_w 315, 3), (24, .istore_n 3, 1), (25, .aload_n 0, 1), (26, .getfield 63, 3), (29, .iconst 0, 1), (30, .aload_n 0, 1), (31, .getfield 66, 3), (34, .iconst 0, 1), (35, .invokestatic 226, 3), (38, .iconst 0, 1), (39, .istore 4, 2), (41, .iload 4, 2), (43, .aload_n 0, 1), (44, .invokevirtual 223, 3), (47, .if_icmp .ge 96, 3), (50, .aload_n 0, 1), (51, .iload 4, 2), (53, .invokevirtual 230, 3), (56, .iconst 2, 1), (57, .if_icmp .eq 16, 3), (60, .aload_n 0, 1), (61, .iload 4, 2), (63, .invokevirtual 230, 3), (66, .iconst 3, 1), (67, .if_icmp .eq 6, 3), (70, .goto 67, 3), (73, .aload_n 0, 1), (74, .iload 4, 2), (76, .iconst 1, 1), (77, .invokevirtual 262, 3), (80, .iconst 0, 1), (81, .istore 5, 2), (83, .iload 5, 2), (85, .iload_n 1, 1), (86, .if_icmp .ge 13, 3), (89, .aload_n 0, 1), (90, .invokevirtual 297, 3), (93, .iinc 5 1, 3), (96, .goto (-13), 3), (99, .aload_n 0, 1), (100, .getfield 63, 3), (103, .sipush 186, 3), (106, .iaload, 1), (107, .istore 5, 2), (109, .aload_n 0, 1), (110, .getfield 66, 3), (113, .iconst 0, 1), (114, .aload_n 0, 1), (115, .getfield 63, 3), (118, .iconst 0, 1), (119, .invokestatic 226, 3), (122, .iload 5, 2), (124, .iload_n 3, 1), (125, .if_icmp .lt 6, 3), (128, .goto 9, 3), (131, .iload 4, 2), (133, .istore_n 2, 1), (134, .iload 5, 2), (136, .istore_n 3, 1), (137, .iinc 4 1, 3), (140, .goto (-99), 3), (143, .iload_n 2, 1), (144, .ireturn, 1)]
set_option maxRecDepth 100000 in
theorem td_Mo_bestOff : ∀ q ∈ tb_Mo_bestOff, decode c_Mo_bestOff q.1 = .ok q.2 := by decide +kernel
def tb_Mo_draw : List (Nat × Instr × Nat) := [(0, .aload_n 0, 1), (1, .aload_n 0, 1), (2, .getfield 336, 3), (5, .ldc_w 339, 3), (8, .imul, 1), (9, .sipush 12345, 3), (12, .iadd, 1), (13, .ldc_w 340, 3), (16, .iand, 1), (17, .putfield 336, 3), (20, .aload_n 0, 1), (21, .getfield 336, 3), (24, .bipush 16, 2), (26, .ishr, 1), (27, .iload_n 1, 1), (28, .irem, 1), (29, .ireturn, 1)]
set_option maxRecDepth 100000 in
theorem td_Mo_draw : ∀ q ∈ tb_Mo_draw, decode c_Mo_draw q.1 = .ok q.2 := by decide +kernel
def tb_Mo_tripsAll : List (Nat × Instr × Nat) := [(0, .iconst 0, 1), (1, .istore_n 1, 1), (2, .iconst 0, 1), (3, .istore_n 2, 1), (4, .iload_n 2, 1), (5, .aload_n 0, 1), (6, .invokevirtual 223, 3), (9, .if_icmp .ge 23, 3), (12, .iload_n 1, 1), (13, .aload_n 0, 1), (14, .getfield 63, 3), (17, .bipush 13, 2), (19, .iload_n 2, 1), (20, .imul, 1), (21, .iconst 5, 1), (22, .iadd, 1), (23, .iaload, 1), (24, .iadd, 1), (25, .istore_n 1, 1), (26, .iinc 2 1, 3), (29, .goto (-25), 3), (32, .iload_n 1, 1), (33, .ireturn, 1)]
set_option maxRecDepth 100000 in
theorem td_Mo_tripsAll : ∀ q ∈ tb_Mo_tripsAll, decode c_Mo_tripsAll q.1 = .ok q.2 := by decide +kernel
def tb_Mo_good : List (Nat × Instr × Nat) := [(0, .iconst 0, 1), (1, .istore_n 1, 1), (2, .iconst 0, 1), (3, .istore_n 2, 1), (4, .iload_n 2, 1), (5, .aload_n 0, 1), (6, .invokevirtual 223, 3), (9, .if_icmp .ge 27, 3), (12, .iload_n 1, 1), (13, .aload_n 0, 1), (14, .iload_n 2, 1), (15, .invokevirtual 266, 3), (18, .ifCond .eq 9, 3), (21, .iconst 1, 1), (22, .iload_n 2, 1), (23, .ishl, 1), (24, .goto 4, 3), (27, .iconst 0, 1), (28, .ior, 1), (29, .istore_n 1, 1), (30, .iinc 2 1, 3), (33, .goto (-29), 3), (36, .iload_n 1, 1), (37, .ireturn, 1)]
set_option maxRecDepth 100000 in
theorem td_Mo_good : ∀ q ∈ tb_Mo_good, decode c_Mo_good q.1 = .ok q.2 := by decide +kernel
def tb_Mo_chance : List (Nat × Instr × Nat) := [(0, .aload_n 0, 1), (1, .iconst 0, 1), (2, .putfield 99, 3), (5, .iload_n 1, 1), (6, .iconst (-1), 1), (7, .if_icmp .lt 38, 3), (10, .iload_n 2, 1), (11, .iconst 1, 1), (12, .if_icmp .lt 33, 3), (15, .iload_n 2, 1), (16, .sipush 200, 3), (19, .if_icmp .gt 26, 3), (22, .iload_n 3, 1), (23, .iconst 1, 1), (24, .if_icmp .lt 21, 3), (27, .iload_n 3, 1), (28, .sipush 9999, 3), (31, .if_icmp .gt 14, 3), (34, .iload 4, 2), (36, .ifCond .lt 9, 3), (39, .iload 4, 2), (41, .iconst 2, 1), (42, .if_icmp .le 5, 3), (45, .iconst (-1), 1), (46, .ireturn, 1), (47, .aload_n 0, 1), (48, .iload_n 1, 1), (49, .iconst (-1), 1), (50, .if_icmp .ne 13, 3), (53, .aload_n 0, 1), (54, .getfield 13, 3), (57, .bipush 7, 2), (59, .iaload, 1), (60, .goto 4, 3), (63, .iload_n 1, 1), (64, .putfield 336, 3), (67, .aload_n 0, 1), (68, .getfield 63, 3), (71, .iconst 0, 1), (72, .aload_n 0, 1), (73, .getfield 66, 3), (76, .iconst 0, 1), (77, .invokestatic 226, 3), (80, .aload_n 0, 1), (81, .invokevirtual 341, 3), (84, .istore 5, 2), (86, .iconst 0, 1), (87, .istore 6, 2), (89, .iconst 0, 1), (90, .istore 7, 2), (92, .iload 7, 2), (94, .iload_n 2, 1), (95, .if_icmp .ge 65, 3), (98, .aload_n 0, 1), (99, .invokevirtual 223, 3), (102, .ifCond .le 33, 3), (105, .aload_n 0, 1), (106, .aload_n 0, 1), (107, .invokevirtual 223, 3), (110, .invokevirtual 344, 3), (113, .istore 8, 2), (115, .aload_n 0, 1), (116, .getfield 63, 3), (119, .bipush 13, 2), (121, .iload 8, 2), (123, .imul, 1), (124, .bipush 6, 2), (126, .iadd, 1), (127, .aload_n 0, 1), (128, .iload_n 3, 1), (129, .iconst 1, 1), (130, .iadd, 1), (131, .invokevirtual 344, 3), (134, .iastore, 1), (135, .aload_n 0, 1), (136, .invokevirtual 297, 3), (139, .iload 6, 2), (141, .aload_n 0, 1), (142, .getfield 63, 3), (145, .sipush 186, 3), (148, .iaload, 1), (149, .invokestatic 323, 3), (152, .istore 6, 2), (154, .iinc 7 1, 3), (157, .goto (-65), 3), (160, .iload 4, 2), (162, .ifCond .ne 8, 3), (165, .iload 6, 2), (167, .goto 23, 3), (170, .iload 4, 2), (172, .iconst 1, 1), (173, .if_icmp .ne 13, 3), (176, .aload_n 0, 1), (177, .invokevirtual 341, 3), (180, .iload 5, 2), (182, .isub, 1), (183, .goto 7, 3), (186, .aload_n 0, 1), (187, .invokevirtual 347, 3), (190, .istore 7, 2), (192, .aload_n 0, 1), (193, .getfield 66, 3), (196, .iconst 0, 1), (197, .aload_n 0, 1), (198, .getfield 63, 3), (201, .iconst 0, 1), (202, .invokestatic 226, 3), (205, .iload 7, 2), (207, .ireturn, 1)]
set_option maxRecDepth 100000 in
theorem td_Mo_chance : ∀ q ∈ tb_Mo_chance, decode c_Mo_chance q.1 = .ok q.2 := by decide +kernel
def tb_Mo_goodMany : List (Nat × Instr × Nat) := [(0, .iconst 0, 1), (1, .istore_n 1, 1), (2, .aload_n 0, 1), (3, .invokevirtual 347, 3), (6, .istore_n 2, 1), (7, .iload_n 2, 1), (8, .ifCond .eq 15, 3), (11, .iinc 1 1, 3), (14, .iload_n 2, 1), (15, .iload_n 2, 1), (16, .iconst 1, 1), (17, .isub, 1), (18, .iand, 1), (19, .istore_n 2, 1), (20, .goto (-13), 3), (23, .iload_n 1, 1), (24, .ireturn, 1)]
set_option maxRecDepth 100000 in
theorem td_Mo_goodMany : ∀ q ∈ tb_Mo_goodMany, decode c_Mo_goodMany q.1 = .ok q.2 := by decide +kernel
def tb_Mo_count : List (Nat × Instr × Nat) := [(0, .aload_n 0, 1), (1, .iconst 0, 1), (2, .putfield 99, 3), (5, .iload_n 1, 1), (6, .tableswitch 133 0 10 #[58, 63, 70, 77, 86, 95, 104, 109, 114, 123, 128], 58), (64, .aload_n 0, 1), (65, .invokevirtual 223, 3), (68, .ireturn, 1), (69, .aload_n 0, 1), (70, .getfield 13, 3), (73, .iconst 1, 1), (74, .iaload, 1), (75, .ireturn, 1), (76, .aload_n 0, 1), (77, .getfield 13, 3), (80, .iconst 2, 1), (81, .iaload, 1), (82, .ireturn, 1), (83, .aload_n 0, 1), (84, .getfield 63, 3), (87, .sipush 182, 3), (90, .iaload, 1), (91, .ireturn, 1), (92, .aload_n 0, 1), (93, .getfield 63, 3), (96, .sipush 156, 3), (99, .iaload, 1), (100, .ireturn, 1), (101, .aload_n 0, 1), (102, .getfield 63, 3), (105, .sipush 169, 3), (108, .iaload, 1), (109, .ireturn, 1), (110, .aload_n 0, 1), (111, .invokevirtual 350, 3), (114, .ireturn, 1), (115, .aload_n 0, 1), (116, .invokevirtual 341, 3), (119, .ireturn, 1), (120, .aload_n 0, 1), (121, .getfield 63, 3), (124, .sipush 187, 3), (127, .iaload, 1), (128, .ireturn, 1), (129, .aload_n 0, 1), (130, .getfield 216, 3), (133, .ireturn, 1), (134, .aload_n 0, 1), (135, .getfield 102, 3), (138, .ireturn, 1), (139, .iconst (-1), 1), (140, .ireturn, 1)]
set_option maxRecDepth 100000 in
theorem td_Mo_count : ∀ q ∈ tb_Mo_count, decode c_Mo_count q.1 = .ok q.2 := by decide +kernel
end
section
/-- a contract out of a walk: of a method for which the machine has no entry of its own -/
theorem pm_ofF {l : Launch} {y : MethodName} {cc : ByteArray} {nL : Nat} {ret : Option FieldType} {R : Room} {as : List pxV} {ids : List pxI} {G : pxG} {σ : pxS} {Rt : Option pxV → List pxI → pxG → pxS → Prop}
    (hy : plainFor y = true) (hn : as.length ≤ nL) (h : pw l R y cc nL ret 0 (px_args 0 as) [] ids G σ 0 0 Rt) : pm l y cc nL ret R as ids G σ Rt := by
  intro D tA ad sz
  refine va_MetF (cc := cc) (maxL := nL) (ret := ret) hy rfl ?_
  intro p e s m args below meth c s₁ B hml hv
  obtain ⟨rfl, hsz, hP, hK, hD0, hcl, hvv⟩ := hv
  subst hsz
  have hts := atoms_spec (ws := pxws y cc nL ret) B.pre
  rw [lg_entry_eq]
  exact h p e s m _ below meth c s.heap [] _ D tA ad ad ids _
    ⟨⟨B.exec, B.bytes, B.returns, hml, (name_of_methodNamed B.named B.method).1, fun w hw => hts w (List.mem_cons_of_mem _ hw), findClass_of_methodNamed B.named, B.notSynchronized, hK⟩,
      ⟨hP, hD0.self, va_S.rf, hcl, fun q hq => Or.inr hq⟩, by rw [px_args_ml]; exact lv_entry _ (by rw [px_sl_len]; exact hn), fun q hq => hvv _ (px_args_mem as 0 q hq), fun v hv => absurd hv List.not_mem_nil, fun i hi => hi, fun i _ => rfl⟩
end
section
/-! Ra_start -/
def F_Ra_start (σ : pxS) (k0 : Nat) (j0 : Nat) (v1 : Int32) (v2 : Int32) : Option (pxS) :=
  px_l (px_up σ (3, k0, j0) 0 v1) fun σ1 =>
  px_l (px_up σ1 (3, k0, j0) 1 v2) fun σ2 =>
  px_l (px_up σ2 (3, k0, j0) 2 0) fun σ3 =>
  px_l (px_up σ3 (3, k0, j0) 3 0) fun σ4 =>
  px_l (px_up σ4 (3, k0, j0) 4 0) fun σ5 =>
  px_l (px_up σ5 (3, k0, j0) 5 0) fun σ6 =>
  px_l (px_up σ6 (3, k0, j0) 6 0) fun σ7 =>
  px_l (px_up σ7 (3, k0, j0) 7 0) fun σ8 =>
  px_l (px_up σ8 (3, k0, j0) 8 (-2)) fun σ9 =>
  px_l (px_up σ9 (3, k0, j0) 9 0) fun σ10 =>
  px_l (px_up σ10 (3, k0, j0) 10 0) fun σ11 =>
  px_l (px_up σ11 (3, k0, j0) 11 (-2)) fun σ12 =>
  px_l (px_up σ12 (3, k0, j0) 12 0) fun σ13 =>
  some σ13
set_option maxRecDepth 100000 in
theorem e_Ra_start {l : Launch} {ids : List pxI} {Rt : Option pxV → List pxI → pxG → pxS → Prop} {σ : pxS} {k0 : Nat} {j0 : Nat} {v1 : Int32} {v2 : Int32} {res : pxS} (h : F_Ra_start σ k0 j0 v1 v2 = some res) (hR : Rt none ids cG res) : pw l (px_R 1) y_Ra_start c_Ra_start 3 none 0 [(0, .inr (some (3, k0, j0))), (1, .inl v1), (2, .inl v2)] [] ids cG σ 0 0 Rt := by
  unfold F_Ra_start at h
  refine pw_aload_n 0 (px_at td_Ra_start 0 rfl) rfl rfl ?_
  refine pw_iload_n 1 (px_at td_Ra_start 1 rfl) rfl rfl ?_
  obtain ⟨σ1, hσ1, h⟩ := px_l_e h
  refine pw_puti (px_at td_Ra_start 2 rfl) lw_Ra_9 rfl rfl (pw_s hσ1 ?_)
  refine pw_aload_n 0 (px_at td_Ra_start 3 rfl) rfl rfl ?_
  refine pw_iload_n 2 (px_at td_Ra_start 4 rfl) rfl rfl ?_
  obtain ⟨σ2, hσ2, h⟩ := px_l_e h
  refine pw_puti (px_at td_Ra_start 5 rfl) lw_Ra_15 rfl rfl (pw_s hσ2 ?_)
  refine pw_aload_n 0 (px_at td_Ra_start 6 rfl) rfl rfl ?_
  refine pw_iconst (v := 0) (px_at td_Ra_start 7 rfl) (by decide) ?_
  obtain ⟨σ3, hσ3, h⟩ := px_l_e h
  refine pw_puti (px_at td_Ra_start 8 rfl) lw_Ra_18 rfl rfl (pw_s hσ3 ?_)
  refine pw_aload_n 0 (px_at td_Ra_start 9 rfl) rfl rfl ?_
  refine pw_iconst (v := 0) (px_at td_Ra_start 10 rfl) (by decide) ?_
  obtain ⟨σ4, hσ4, h⟩ := px_l_e h
  refine pw_puti (px_at td_Ra_start 11 rfl) lw_Ra_21 rfl rfl (pw_s hσ4 ?_)
  refine pw_aload_n 0 (px_at td_Ra_start 12 rfl) rfl rfl ?_
  refine pw_iconst (v := 0) (px_at td_Ra_start 13 rfl) (by decide) ?_
  obtain ⟨σ5, hσ5, h⟩ := px_l_e h
  refine pw_puti (px_at td_Ra_start 14 rfl) lw_Ra_24 rfl rfl (pw_s hσ5 ?_)
  refine pw_aload_n 0 (px_at td_Ra_start 15 rfl) rfl rfl ?_
  refine pw_iconst (v := 0) (px_at td_Ra_start 16 rfl) (by decide) ?_
  obtain ⟨σ6, hσ6, h⟩ := px_l_e h
  refine pw_puti (px_at td_Ra_start 17 rfl) lw_Ra_27 rfl rfl (pw_s hσ6 ?_)
  refine pw_aload_n 0 (px_at td_Ra_start 18 rfl) rfl rfl ?_
  refine pw_iconst (v := 0) (px_at td_Ra_start 19 rfl) (by decide) ?_
  obtain ⟨σ7, hσ7, h⟩ := px_l_e h
  refine pw_putz (px_at td_Ra_start 20 rfl) lw_Ra_30 rfl rfl (by decide) (pw_s hσ7 ?_)
  refine pw_aload_n 0 (px_at td_Ra_start 21 rfl) rfl rfl ?_
  refine pw_iconst (v := 0) (px_at td_Ra_start 22 rfl) (by decide) ?_
  obtain ⟨σ8, hσ8, h⟩ := px_l_e h
  refine pw_puti (px_at td_Ra_start 23 rfl) lw_Ra_34 rfl rfl (pw_s hσ8 ?_)
  refine pw_aload_n 0 (px_at td_Ra_start 24 rfl) rfl rfl ?_
  refine pw_bipush (v := (-2)) (px_at td_Ra_start 25 rfl) (by decide) ?_
  obtain ⟨σ9, hσ9, h⟩ := px_l_e h
  refine pw_puti (px_at td_Ra_start 26 rfl) lw_Ra_37 rfl rfl (pw_s hσ9 ?_)
  refine pw_aload_n 0 (px_at td_Ra_start 27 rfl) rfl rfl ?_
  refine pw_iconst (v := 0) (px_at td_Ra_start 28 rfl) (by decide) ?_
  obtain ⟨σ10, hσ10, h⟩ := px_l_e h
  refine pw_puti (px_at td_Ra_start 29 rfl) lw_Ra_40 rfl rfl (pw_s hσ10 ?_)
  refine pw_aload_n 0 (px_at td_Ra_start 30 rfl) rfl rfl ?_
  refine pw_iconst (v := 0) (px_at td_Ra_start 31 rfl) (by decide) ?_
  obtain ⟨σ11, hσ11, h⟩ := px_l_e h
  refine pw_puti (px_at td_Ra_start 32 rfl) lw_Ra_43 rfl rfl (pw_s hσ11 ?_)
  refine pw_aload_n 0 (px_at td_Ra_start 33 rfl) rfl rfl ?_
  refine pw_bipush (v := (-2)) (px_at td_Ra_start 34 rfl) (by decide) ?_
  obtain ⟨σ12, hσ12, h⟩ := px_l_e h
  refine pw_puti (px_at td_Ra_start 35 rfl) lw_Ra_46 rfl rfl (pw_s hσ12 ?_)
  refine pw_aload_n 0 (px_at td_Ra_start 36 rfl) rfl rfl ?_
  refine pw_iconst (v := 0) (px_at td_Ra_start 37 rfl) (by decide) ?_
  obtain ⟨σ13, hσ13, h⟩ := px_l_e h
  refine pw_putz (px_at td_Ra_start 38 rfl) lw_Ra_49 rfl rfl (by decide) (pw_s hσ13 ?_)
  obtain rfl := Option.some.inj h
  exact pw_vret (px_at td_Ra_start 39 rfl) rfl (Nat.le_refl 0) (Nat.le_refl 0) hR
theorem k_Ra_start {l : Launch} {ids : List pxI} {σ : pxS} {k0 : Nat} {j0 : Nat} {v1 : Int32} {v2 : Int32} {res : pxS} (h : F_Ra_start σ k0 j0 v1 v2 = some res) : pm l y_Ra_start c_Ra_start 3 none (px_R 1) [.inr (some (3, k0, j0)), .inl v1, .inl v2] ids cG σ (px_r none ids cG res) :=
  pm_ofF (by decide +kernel) (Nat.le_of_ble_eq_true rfl) (e_Ra_start h ⟨rfl, rfl, rfl, rfl⟩)
/-! Qu_forget -/
def F_Qu_forget (σ : pxS) (k0 : Nat) (j0 : Nat) : Option (pxS) :=
  px_l (px_up σ (4, k0, j0) 1 0) fun σ1 =>
  px_l (px_up σ1 (4, k0, j0) 2 0) fun σ2 =>
  some σ2
set_option maxRecDepth 100000 in
theorem e_Qu_forget {l : Launch} {ids : List pxI} {Rt : Option pxV → List pxI → pxG → pxS → Prop} {σ : pxS} {k0 : Nat} {j0 : Nat} {res : pxS} (h : F_Qu_forget σ k0 j0 = some res) (hR : Rt none ids cG res) : pw l (px_R 1) y_Qu_forget c_Qu_forget 1 none 0 [(0, .inr (some (4, k0, j0)))] [] ids cG σ 0 0 Rt := by
  unfold F_Qu_forget at h
  refine pw_aload_n 0 (px_at td_Qu_forget 0 rfl) rfl rfl ?_
  refine pw_iconst (v := 0) (px_at td_Qu_forget 1 rfl) (by decide) ?_
  obtain ⟨σ1, hσ1, h⟩ := px_l_e h
  refine pw_puti (px_at td_Qu_forget 2 rfl) lw_Qu_15 rfl rfl (pw_s hσ1 ?_)
  refine pw_aload_n 0 (px_at td_Qu_forget 3 rfl) rfl rfl ?_
  refine pw_iconst (v := 0) (px_at td_Qu_forget 4 rfl) (by decide) ?_
  obtain ⟨σ2, hσ2, h⟩ := px_l_e h
  refine pw_puti (px_at td_Qu_forget 5 rfl) lw_Qu_19 rfl rfl (pw_s hσ2 ?_)
  obtain rfl := Option.some.inj h
  exact pw_vret (px_at td_Qu_forget 6 rfl) rfl (Nat.le_refl 0) (Nat.le_refl 0) hR
theorem k_Qu_forget {l : Launch} {ids : List pxI} {σ : pxS} {k0 : Nat} {j0 : Nat} {res : pxS} (h : F_Qu_forget σ k0 j0 = some res) : pm l y_Qu_forget c_Qu_forget 1 none (px_R 1) [.inr (some (4, k0, j0))] ids cG σ (px_r none ids cG res) :=
  pm_ofF (by decide +kernel) (Nat.le_of_ble_eq_true rfl) (e_Qu_forget h ⟨rfl, rfl, rfl, rfl⟩)
/-! Ra_copyFrom -/
def F_Ra_copyFrom (σ : pxS) (k0 : Nat) (j0 : Nat) (k1 : Nat) (j1 : Nat) : Option (pxS) :=
  px_l (px_up σ (3, k0, j0) 0 (σ (3, k1, j1) 0)) fun σ1 =>
  px_l (px_up σ1 (3, k0, j0) 1 (σ1 (3, k1, j1) 1)) fun σ2 =>
  px_l (px_up σ2 (3, k0, j0) 2 (σ2 (3, k1, j1) 2)) fun σ3 =>
  px_l (px_up σ3 (3, k0, j0) 3 (σ3 (3, k1, j1) 3)) fun σ4 =>
  px_l (px_up σ4 (3, k0, j0) 4 (σ4 (3, k1, j1) 4)) fun σ5 =>
  px_l (px_up σ5 (3, k0, j0) 5 (σ5 (3, k1, j1) 5)) fun σ6 =>
  px_gb (σ6 (3, k1, j1) 6) (px_l (px_up σ6 (3, k0, j0) 6 (σ6 (3, k1, j1) 6)) fun σ7 =>
  px_l (px_up σ7 (3, k0, j0) 7 (σ7 (3, k1, j1) 7)) fun σ8 =>
  px_l (px_up σ8 (3, k0, j0) 8 (σ8 (3, k1, j1) 8)) fun σ9 =>
  px_l (px_up σ9 (3, k0, j0) 9 (σ9 (3, k1, j1) 9)) fun σ10 =>
  px_l (px_up σ10 (3, k0, j0) 10 (σ10 (3, k1, j1) 10)) fun σ11 =>
  px_l (px_up σ11 (3, k0, j0) 11 (σ11 (3, k1, j1) 11)) fun σ12 =>
  px_gb (σ12 (3, k1, j1) 12) (px_l (px_up σ12 (3, k0, j0) 12 (σ12 (3, k1, j1) 12)) fun σ13 =>
  some σ13))
set_option maxRecDepth 100000 in
theorem e_Ra_copyFrom {l : Launch} {ids : List pxI} {Rt : Option pxV → List pxI → pxG → pxS → Prop} {σ : pxS} {k0 : Nat} {j0 : Nat} {k1 : Nat} {j1 : Nat} {res : pxS} (h : F_Ra_copyFrom σ k0 j0 k1 j1 = some res) (hR : Rt none ids cG res) : pw l (px_R 1) y_Ra_copyFrom c_Ra_copyFrom 2 none 0 [(0, .inr (some (3, k0, j0))), (1, .inr (some (3, k1, j1)))] [] ids cG σ 0 0 Rt := by
  unfold F_Ra_copyFrom at h
  refine pw_aload_n 0 (px_at td_Ra_copyFrom 0 rfl) rfl rfl ?_
  refine pw_aload_n 1 (px_at td_Ra_copyFrom 1 rfl) rfl rfl ?_
  refine pw_getf (v := .inl (σ (3, k1, j1) 0)) (px_at td_Ra_copyFrom 2 rfl) lf_Ra_9 rfl rfl rfl ?_
  obtain ⟨σ1, hσ1, h⟩ := px_l_e h
  refine pw_puti (px_at td_Ra_copyFrom 3 rfl) lw_Ra_9 rfl rfl (pw_s hσ1 ?_)
  refine pw_aload_n 0 (px_at td_Ra_copyFrom 4 rfl) rfl rfl ?_
  refine pw_aload_n 1 (px_at td_Ra_copyFrom 5 rfl) rfl rfl ?_
  refine pw_getf (v := .inl (σ1 (3, k1, j1) 1)) (px_at td_Ra_copyFrom 6 rfl) lf_Ra_15 rfl rfl rfl ?_
  obtain ⟨σ2, hσ2, h⟩ := px_l_e h
  refine pw_puti (px_at td_Ra_copyFrom 7 rfl) lw_Ra_15 rfl rfl (pw_s hσ2 ?_)
  refine pw_aload_n 0 (px_at td_Ra_copyFrom 8 rfl) rfl rfl ?_
  refine pw_aload_n 1 (px_at td_Ra_copyFrom 9 rfl) rfl rfl ?_
  refine pw_getf (v := .inl (σ2 (3, k1, j1) 2)) (px_at td_Ra_copyFrom 10 rfl) lf_Ra_18 rfl rfl rfl ?_
  obtain ⟨σ3, hσ3, h⟩ := px_l_e h
  refine pw_puti (px_at td_Ra_copyFrom 11 rfl) lw_Ra_18 rfl rfl (pw_s hσ3 ?_)
  refine pw_aload_n 0 (px_at td_Ra_copyFrom 12 rfl) rfl rfl ?_
  refine pw_aload_n 1 (px_at td_Ra_copyFrom 13 rfl) rfl rfl ?_
  refine pw_getf (v := .inl (σ3 (3, k1, j1) 3)) (px_at td_Ra_copyFrom 14 rfl) lf_Ra_21 rfl rfl rfl ?_
  obtain ⟨σ4, hσ4, h⟩ := px_l_e h
  refine pw_puti (px_at td_Ra_copyFrom 15 rfl) lw_Ra_21 rfl rfl (pw_s hσ4 ?_)
  refine pw_aload_n 0 (px_at td_Ra_copyFrom 16 rfl) rfl rfl ?_
  refine pw_aload_n 1 (px_at td_Ra_copyFrom 17 rfl) rfl rfl ?_
  refine pw_getf (v := .inl (σ4 (3, k1, j1) 4)) (px_at td_Ra_copyFrom 18 rfl) lf_Ra_24 rfl rfl rfl ?_
  obtain ⟨σ5, hσ5, h⟩ := px_l_e h
  refine pw_puti (px_at td_Ra_copyFrom 19 rfl) lw_Ra_24 rfl rfl (pw_s hσ5 ?_)
  refine pw_aload_n 0 (px_at td_Ra_copyFrom 20 rfl) rfl rfl ?_
  refine pw_aload_n 1 (px_at td_Ra_copyFrom 21 rfl) rfl rfl ?_
  refine pw_getf (v := .inl (σ5 (3, k1, j1) 5)) (px_at td_Ra_copyFrom 22 rfl) lf_Ra_27 rfl rfl rfl ?_
  obtain ⟨σ6, hσ6, h⟩ := px_l_e h
  refine pw_puti (px_at td_Ra_copyFrom 23 rfl) lw_Ra_27 rfl rfl (pw_s hσ6 ?_)
  refine pw_aload_n 0 (px_at td_Ra_copyFrom 24 rfl) rfl rfl ?_
  refine pw_aload_n 1 (px_at td_Ra_copyFrom 25 rfl) rfl rfl ?_
  refine pw_getf (v := .inl (σ6 (3, k1, j1) 6)) (px_at td_Ra_copyFrom 26 rfl) lf_Ra_30 rfl rfl rfl ?_
  obtain ⟨hb7, h⟩ := px_gb_e h
  obtain ⟨σ7, hσ7, h⟩ := px_l_e h
  refine pw_putz (px_at td_Ra_copyFrom 27 rfl) lw_Ra_30 rfl rfl hb7 (pw_s hσ7 ?_)
  refine pw_aload_n 0 (px_at td_Ra_copyFrom 28 rfl) rfl rfl ?_
  refine pw_aload_n 1 (px_at td_Ra_copyFrom 29 rfl) rfl rfl ?_
  refine pw_getf (v := .inl (σ7 (3, k1, j1) 7)) (px_at td_Ra_copyFrom 30 rfl) lf_Ra_34 rfl rfl rfl ?_
  obtain ⟨σ8, hσ8, h⟩ := px_l_e h
  refine pw_puti (px_at td_Ra_copyFrom 31 rfl) lw_Ra_34 rfl rfl (pw_s hσ8 ?_)
  refine pw_aload_n 0 (px_at td_Ra_copyFrom 32 rfl) rfl rfl ?_
  refine pw_aload_n 1 (px_at td_Ra_copyFrom 33 rfl) rfl rfl ?_
  refine pw_getf (v := .inl (σ8 (3, k1, j1) 8)) (px_at td_Ra_copyFrom 34 rfl) lf_Ra_37 rfl rfl rfl ?_
  obtain ⟨σ9, hσ9, h⟩ := px_l_e h
  refine pw_puti (px_at td_Ra_copyFrom 35 rfl) lw_Ra_37 rfl rfl (pw_s hσ9 ?_)
  refine pw_aload_n 0 (px_at td_Ra_copyFrom 36 rfl) rfl rfl ?_
  refine pw_aload_n 1 (px_at td_Ra_copyFrom 37 rfl) rfl rfl ?_
  refine pw_getf (v := .inl (σ9 (3, k1, j1) 9)) (px_at td_Ra_copyFrom 38 rfl) lf_Ra_40 rfl rfl rfl ?_
  obtain ⟨σ10, hσ10, h⟩ := px_l_e h
  refine pw_puti (px_at td_Ra_copyFrom 39 rfl) lw_Ra_40 rfl rfl (pw_s hσ10 ?_)
  refine pw_aload_n 0 (px_at td_Ra_copyFrom 40 rfl) rfl rfl ?_
  refine pw_aload_n 1 (px_at td_Ra_copyFrom 41 rfl) rfl rfl ?_
  refine pw_getf (v := .inl (σ10 (3, k1, j1) 10)) (px_at td_Ra_copyFrom 42 rfl) lf_Ra_43 rfl rfl rfl ?_
  obtain ⟨σ11, hσ11, h⟩ := px_l_e h
  refine pw_puti (px_at td_Ra_copyFrom 43 rfl) lw_Ra_43 rfl rfl (pw_s hσ11 ?_)
  refine pw_aload_n 0 (px_at td_Ra_copyFrom 44 rfl) rfl rfl ?_
  refine pw_aload_n 1 (px_at td_Ra_copyFrom 45 rfl) rfl rfl ?_
  refine pw_getf (v := .inl (σ11 (3, k1, j1) 11)) (px_at td_Ra_copyFrom 46 rfl) lf_Ra_46 rfl rfl rfl ?_
  obtain ⟨σ12, hσ12, h⟩ := px_l_e h
  refine pw_puti (px_at td_Ra_copyFrom 47 rfl) lw_Ra_46 rfl rfl (pw_s hσ12 ?_)
  refine pw_aload_n 0 (px_at td_Ra_copyFrom 48 rfl) rfl rfl ?_
  refine pw_aload_n 1 (px_at td_Ra_copyFrom 49 rfl) rfl rfl ?_
  refine pw_getf (v := .inl (σ12 (3, k1, j1) 12)) (px_at td_Ra_copyFrom 50 rfl) lf_Ra_49 rfl rfl rfl ?_
  obtain ⟨hb13, h⟩ := px_gb_e h
  obtain ⟨σ13, hσ13, h⟩ := px_l_e h
  refine pw_putz (px_at td_Ra_copyFrom 51 rfl) lw_Ra_49 rfl rfl hb13 (pw_s hσ13 ?_)
  obtain rfl := Option.some.inj h
  exact pw_vret (px_at td_Ra_copyFrom 52 rfl) rfl (Nat.le_refl 0) (Nat.le_refl 0) hR
theorem k_Ra_copyFrom {l : Launch} {ids : List pxI} {σ : pxS} {k0 : Nat} {j0 : Nat} {k1 : Nat} {j1 : Nat} {res : pxS} (h : F_Ra_copyFrom σ k0 j0 k1 j1 = some res) : pm l y_Ra_copyFrom c_Ra_copyFrom 2 none (px_R 1) [.inr (some (3, k0, j0)), .inr (some (3, k1, j1))] ids cG σ (px_r none ids cG res) :=
  pm_ofF (by decide +kernel) (Nat.le_of_ble_eq_true rfl) (e_Ra_copyFrom h ⟨rfl, rfl, rfl, rfl⟩)
/-! Qu_copyFrom -/
def F_Qu_copyFrom (σ : pxS) (k0 : Nat) (j0 : Nat) (k1 : Nat) (j1 : Nat) : Option (pxS) :=
  px_l (px_up σ (4, k0, j0) 1 (σ (4, k1, j1) 1)) fun σ1 =>
  px_l (px_up σ1 (4, k0, j0) 2 (σ1 (4, k1, j1) 2)) fun σ2 =>
  px_l (px_cp σ2 (10, k1, j1) (10, k0, j0) 12) fun σ3 =>
  some σ3
set_option maxRecDepth 100000 in
theorem e_Qu_copyFrom {l : Launch} {ids : List pxI} {Rt : Option pxV → List pxI → pxG → pxS → Prop} {σ : pxS} {k0 : Nat} {j0 : Nat} {k1 : Nat} {j1 : Nat} {res : pxS} (h : F_Qu_copyFrom σ k0 j0 k1 j1 = some res) (hR : Rt none ids cG res) : pw l (px_R 1) y_Qu_copyFrom c_Qu_copyFrom 2 none 0 [(0, .inr (some (4, k0, j0))), (1, .inr (some (4, k1, j1)))] [] ids cG σ 0 0 Rt := by
  unfold F_Qu_copyFrom at h
  refine pw_aload_n 0 (px_at td_Qu_copyFrom 0 rfl) rfl rfl ?_
  refine pw_aload_n 1 (px_at td_Qu_copyFrom 1 rfl) rfl rfl ?_
  refine pw_getf (v := .inl (σ (4, k1, j1) 1)) (px_at td_Qu_copyFrom 2 rfl) lf_Qu_15 rfl rfl rfl ?_
  obtain ⟨σ1, hσ1, h⟩ := px_l_e h
  refine pw_puti (px_at td_Qu_copyFrom 3 rfl) lw_Qu_15 rfl rfl (pw_s hσ1 ?_)
  refine pw_aload_n 0 (px_at td_Qu_copyFrom 4 rfl) rfl rfl ?_
  refine pw_aload_n 1 (px_at td_Qu_copyFrom 5 rfl) rfl rfl ?_
  refine pw_getf (v := .inl (σ1 (4, k1, j1) 2)) (px_at td_Qu_copyFrom 6 rfl) lf_Qu_19 rfl rfl rfl ?_
  obtain ⟨σ2, hσ2, h⟩ := px_l_e h
  refine pw_puti (px_at td_Qu_copyFrom 7 rfl) lw_Qu_19 rfl rfl (pw_s hσ2 ?_)
  refine pw_aload_n 1 (px_at td_Qu_copyFrom 8 rfl) rfl rfl ?_
  refine pw_getf (v := .inr (some (10, k1, j1))) (px_at td_Qu_copyFrom 9 rfl) lf_Qu_9 rfl rfl rfl ?_
  refine pw_iconst (v := 0) (px_at td_Qu_copyFrom 10 rfl) (by decide) ?_
  refine pw_aload_n 0 (px_at td_Qu_copyFrom 11 rfl) rfl rfl ?_
  refine pw_getf (v := .inr (some (10, k0, j0))) (px_at td_Qu_copyFrom 12 rfl) lf_Qu_9 rfl rfl rfl ?_
  refine pw_iconst (v := 0) (px_at td_Qu_copyFrom 13 rfl) (by decide) ?_
  refine pw_bipush (v := 12) (px_at td_Qu_copyFrom 14 rfl) (by decide) ?_
  obtain ⟨σ3, hσ3, h⟩ := px_l_e h
  refine pw_copyi (px_at td_Qu_copyFrom 15 rfl) lm_Qu_22 wn_System_arraycopy ws_System_arraycopy wi_java_lang_System rfl rfl px_z12 (by decide) (by decide) (by decide) (by decide) (Nat.le_of_ble_eq_true rfl) (pw_s hσ3 ?_)
  obtain rfl := Option.some.inj h
  exact pw_vret (px_at td_Qu_copyFrom 16 rfl) rfl (Nat.le_refl 0) (Nat.le_refl 0) hR
theorem k_Qu_copyFrom {l : Launch} {ids : List pxI} {σ : pxS} {k0 : Nat} {j0 : Nat} {k1 : Nat} {j1 : Nat} {res : pxS} (h : F_Qu_copyFrom σ k0 j0 k1 j1 = some res) : pm l y_Qu_copyFrom c_Qu_copyFrom 2 none (px_R 1) [.inr (some (4, k0, j0)), .inr (some (4, k1, j1))] ids cG σ (px_r none ids cG res) :=
  pm_ofF (by decide +kernel) (Nat.le_of_ble_eq_true rfl) (e_Qu_copyFrom h ⟨rfl, rfl, rfl, rfl⟩)
/-! Qu_drop -/
def Qu_drop_n43 (σ : pxS) (k0 : Nat) (j0 : Nat) (v1 : Int32) (v2 : Int32) (v3 : Int32) : Option ((Int32 × Int32 × pxS) ⊕ (Int32 × pxS)) :=
  some (.inl (v2, (v3 + 1), σ))
set_option maxRecDepth 100000 in
theorem Qu_drop_n43_l {l : Launch} {ids : List pxI} {Rt : Option pxV → List pxI → pxG → pxS → Prop} {σ : pxS} {k0 : Nat} {j0 : Nat} {v1 : Int32} {v2 : Int32} {v3 : Int32} {o : (Int32 × Int32 × pxS) ⊕ (Int32 × pxS)} (h : Qu_drop_n43 σ k0 j0 v1 v2 v3 = some o) (hC : ∀ s, o = .inl s → pw l (px_R 1) y_Qu_drop c_Qu_drop 4 none 4 [(0, .inr (some (4, k0, j0))), (1, .inl v1), (2, .inl s.1), (3, .inl s.2.1)] [] ids cG s.2.2 0 0 Rt) (hX0 : ∀ e, o = .inr e → pw l (px_R 1) y_Qu_drop c_Qu_drop 4 none 49 [(0, .inr (some (4, k0, j0))), (1, .inl v1), (2, .inl e.1)] [] ids cG e.2 0 0 Rt) : pw l (px_R 1) y_Qu_drop c_Qu_drop 4 none 43 [(0, .inr (some (4, k0, j0))), (1, .inl v1), (2, .inl v2), (3, .inl v3)] [] ids cG σ 0 0 Rt := by
  unfold Qu_drop_n43 at h
  refine pw_iinc (q := 3) (v := (v3 + 1)) (L' := [(3, .inl (v3 + 1)), (0, .inr (some (4, k0, j0))), (1, .inl v1), (2, .inl v2)]) (px_at td_Qu_drop 26 rfl) rfl rfl (by decide) rfl ?_
  refine pw_goto 4 (px_at td_Qu_drop 27 rfl) (by decide) ?_
  refine pw_L [(0, .inr (some (4, k0, j0))), (1, .inl v1), (2, .inl v2), (3, .inl (v3 + 1))] [1, 2, 3, 0] rfl ?_
  exact hC _ (Option.some.inj h).symm
def Qu_drop_n4 (σ : pxS) (k0 : Nat) (j0 : Nat) (v1 : Int32) (v2 : Int32) (v3 : Int32) : Option ((Int32 × Int32 × pxS) ⊕ (Int32 × pxS)) :=
  (if (σ (4, k0, j0) 1) ≤ v3 then some (.inr (v2, σ)) else (if 12 ≤ v3 then some (.inr (v2, σ)) else px_gd v3 12 ((if (σ (10, k0, j0) v3.toNatClampNeg) = v1 then Qu_drop_n43 σ k0 j0 v1 v2 v3 else px_gd v3 12 (px_gd v2 12 (px_l (px_up σ (10, k0, j0) v2.toNatClampNeg (σ (10, k0, j0) v3.toNatClampNeg)) fun σ4 =>
  Qu_drop_n43 σ4 k0 j0 v1 (v2 + 1) v3))))))
set_option maxRecDepth 100000 in
theorem Qu_drop_n4_l {l : Launch} {ids : List pxI} {Rt : Option pxV → List pxI → pxG → pxS → Prop} {σ : pxS} {k0 : Nat} {j0 : Nat} {v1 : Int32} {v2 : Int32} {v3 : Int32} {o : (Int32 × Int32 × pxS) ⊕ (Int32 × pxS)} (h : Qu_drop_n4 σ k0 j0 v1 v2 v3 = some o) (hC : ∀ s, o = .inl s → pw l (px_R 1) y_Qu_drop c_Qu_drop 4 none 4 [(0, .inr (some (4, k0, j0))), (1, .inl v1), (2, .inl s.1), (3, .inl s.2.1)] [] ids cG s.2.2 0 0 Rt) (hX0 : ∀ e, o = .inr e → pw l (px_R 1) y_Qu_drop c_Qu_drop 4 none 49 [(0, .inr (some (4, k0, j0))), (1, .inl v1), (2, .inl e.1)] [] ids cG e.2 0 0 Rt) : pw l (px_R 1) y_Qu_drop c_Qu_drop 4 none 4 [(0, .inr (some (4, k0, j0))), (1, .inl v1), (2, .inl v2), (3, .inl v3)] [] ids cG σ 0 0 Rt := by
  unfold Qu_drop_n4 at h
  refine pw_iload_n 3 (px_at td_Qu_drop 4 rfl) rfl rfl ?_
  refine pw_aload_n 0 (px_at td_Qu_drop 5 rfl) rfl rfl ?_
  refine pw_getf (v := .inl (σ (4, k0, j0) 1)) (px_at td_Qu_drop 6 rfl) lf_Qu_15 rfl rfl rfl ?_
  rcases px_ite h with ⟨hc7, h⟩ | ⟨hc7, h⟩
  · refine pw_icmp_ge 49 (px_at td_Qu_drop 7 rfl) (by decide) (fun _ => ?_) (fun hn => absurd hc7 hn)
    refine pw_L [(0, .inr (some (4, k0, j0))), (1, .inl v1), (2, .inl v2)] [0, 1, 2] rfl ?_
    exact hX0 _ (Option.some.inj h).symm
  · refine pw_icmp_ge 49 (px_at td_Qu_drop 7 rfl) (by decide) (fun hn => absurd hn hc7) (fun _ => ?_)
    refine pw_iload_n 3 (px_at td_Qu_drop 8 rfl) rfl rfl ?_
    refine pw_bipush (v := 12) (px_at td_Qu_drop 9 rfl) (by decide) ?_
    rcases px_ite h with ⟨hc6, h⟩ | ⟨hc6, h⟩
    · refine pw_icmp_ge 49 (px_at td_Qu_drop 10 rfl) (by decide) (fun _ => ?_) (fun hn => absurd hc6 hn)
      refine pw_L [(0, .inr (some (4, k0, j0))), (1, .inl v1), (2, .inl v2)] [0, 1, 2] rfl ?_
      exact hX0 _ (Option.some.inj h).symm
    · refine pw_icmp_ge 49 (px_at td_Qu_drop 10 rfl) (by decide) (fun hn => absurd hn hc6) (fun _ => ?_)
      refine pw_aload_n 0 (px_at td_Qu_drop 11 rfl) rfl rfl ?_
      refine pw_getf (v := .inr (some (10, k0, j0))) (px_at td_Qu_drop 12 rfl) lf_Qu_9 rfl rfl rfl ?_
      refine pw_iload_n 3 (px_at td_Qu_drop 13 rfl) rfl rfl ?_
      obtain ⟨hi1, h⟩ := px_gd_e h
      refine pw_ial (px_at td_Qu_drop 14 rfl) rfl hi1 rfl ?_
      refine pw_iload_n 1 (px_at td_Qu_drop 15 rfl) rfl rfl ?_
      rcases px_ite h with ⟨hc5, h⟩ | ⟨hc5, h⟩
      · refine pw_icmp_eq 43 (px_at td_Qu_drop 16 rfl) (by decide) (fun _ => ?_) (fun hn => absurd hc5 hn)
        exact Qu_drop_n43_l h hC hX0
      · refine pw_icmp_eq 43 (px_at td_Qu_drop 16 rfl) (by decide) (fun hn => absurd hn hc5) (fun _ => ?_)
        refine pw_aload_n 0 (px_at td_Qu_drop 17 rfl) rfl rfl ?_
        refine pw_getf (v := .inr (some (10, k0, j0))) (px_at td_Qu_drop 18 rfl) lf_Qu_9 rfl rfl rfl ?_
        refine pw_iload_n 2 (px_at td_Qu_drop 19 rfl) rfl rfl ?_
        refine pw_aload_n 0 (px_at td_Qu_drop 20 rfl) rfl rfl ?_
        refine pw_getf (v := .inr (some (10, k0, j0))) (px_at td_Qu_drop 21 rfl) lf_Qu_9 rfl rfl rfl ?_
        refine pw_iload_n 3 (px_at td_Qu_drop 22 rfl) rfl rfl ?_
        obtain ⟨hi2, h⟩ := px_gd_e h
        refine pw_ial (px_at td_Qu_drop 23 rfl) rfl hi2 rfl ?_
        obtain ⟨hi3, h⟩ := px_gd_e h
        obtain ⟨σ4, hσ4, h⟩ := px_l_e h
        refine pw_ias (px_at td_Qu_drop 24 rfl) rfl hi3 rfl hσ4 ?_
        refine pw_iinc (q := 2) (v := (v2 + 1)) (L' := [(2, .inl (v2 + 1)), (0, .inr (some (4, k0, j0))), (1, .inl v1), (3, .inl v3)]) (px_at td_Qu_drop 25 rfl) rfl rfl (by decide) rfl ?_
        refine pw_L [(0, .inr (some (4, k0, j0))), (1, .inl v1), (2, .inl (v2 + 1)), (3, .inl v3)] [1, 2, 0, 3] rfl ?_
        exact Qu_drop_n43_l h hC hX0
def Qu_drop_L4 (k0 : Nat) (j0 : Nat) (v1 : Int32) : (Int32 × Int32 × pxS) → Option ((Int32 × Int32 × pxS) ⊕ (Int32 × pxS)) := fun s => Qu_drop_n4 s.2.2 k0 j0 v1 s.1 s.2.1
set_option maxRecDepth 100000 in
theorem Qu_drop_L4_l {l : Launch} {ids : List pxI} {Rt : Option pxV → List pxI → pxG → pxS → Prop} {k0 : Nat} {j0 : Nat} {v1 : Int32} {n : Nat} {s : Int32 × Int32 × pxS} {e : Int32 × pxS} (h : px_it (Qu_drop_L4 k0 j0 v1) n s = some e) (hX0 : pw l (px_R 1) y_Qu_drop c_Qu_drop 4 none 49 [(0, .inr (some (4, k0, j0))), (1, .inl v1), (2, .inl e.1)] [] ids cG e.2 0 0 Rt) : pw l (px_R 1) y_Qu_drop c_Qu_drop 4 none 4 [(0, .inr (some (4, k0, j0))), (1, .inl v1), (2, .inl s.1), (3, .inl s.2.1)] [] ids cG s.2.2 0 0 Rt := by
  refine px_it_rule (f := Qu_drop_L4 k0 j0 v1) (C := fun s => pw l (px_R 1) y_Qu_drop c_Qu_drop 4 none 4 [(0, .inr (some (4, k0, j0))), (1, .inl v1), (2, .inl s.1), (3, .inl s.2.1)] [] ids cG s.2.2 0 0 Rt) (X := fun e => (pw l (px_R 1) y_Qu_drop c_Qu_drop 4 none 49 [(0, .inr (some (4, k0, j0))), (1, .inl v1), (2, .inl e.1)] [] ids cG e.2 0 0 Rt)) ?_ ?_ n s e h hX0
  · intro s s1 hf hC
    exact Qu_drop_n4_l hf (fun s2 hs => by cases hs; exact hC) (fun e he => by cases he)
  · intro s e hf hX
    exact Qu_drop_n4_l hf (fun s2 hs => by cases hs) (fun e1 he => by cases he; exact hX)
def F_Qu_drop (σ : pxS) (k0 : Nat) (j0 : Nat) (v1 : Int32) : Option (pxS) :=
  px_b1 (px_it (Qu_drop_L4 k0 j0 v1) px_N (0, 0, σ)) fun e8 =>
  px_l (px_up e8.2 (4, k0, j0) 1 e8.1) fun σ9 =>
  px_l (px_up σ9 (4, k0, j0) 2 ((σ9 (4, k0, j0) 2) &&& ((1 <<< (v1 &&& 31)) ^^^ (-1)))) fun σ10 =>
  some σ10
set_option maxRecDepth 100000 in
theorem e_Qu_drop {l : Launch} {ids : List pxI} {Rt : Option pxV → List pxI → pxG → pxS → Prop} {σ : pxS} {k0 : Nat} {j0 : Nat} {v1 : Int32} {res : pxS} (h : F_Qu_drop σ k0 j0 v1 = some res) (hR : Rt none ids cG res) : pw l (px_R 1) y_Qu_drop c_Qu_drop 4 none 0 [(0, .inr (some (4, k0, j0))), (1, .inl v1)] [] ids cG σ 0 0 Rt := by
  unfold F_Qu_drop at h
  refine pw_iconst (v := 0) (px_at td_Qu_drop 0 rfl) (by decide) ?_
  refine pw_istore_n (L' := [(2, .inl 0), (0, .inr (some (4, k0, j0))), (1, .inl v1)]) (px_at td_Qu_drop 1 rfl) rfl (by decide) rfl ?_
  refine pw_iconst (v := 0) (px_at td_Qu_drop 2 rfl) (by decide) ?_
  refine pw_istore_n (L' := [(3, .inl 0), (2, .inl 0), (0, .inr (some (4, k0, j0))), (1, .inl v1)]) (px_at td_Qu_drop 3 rfl) rfl (by decide) rfl ?_
  obtain ⟨e8, he8, h⟩ := px_b1_e h
  refine pw_L [(0, .inr (some (4, k0, j0))), (1, .inl v1), (2, .inl 0), (3, .inl 0)] [2, 3, 1, 0] rfl ?_
  refine Qu_drop_L4_l he8 ?_
  refine pw_aload_n 0 (px_at td_Qu_drop 28 rfl) rfl rfl ?_
  refine pw_iload_n 2 (px_at td_Qu_drop 29 rfl) rfl rfl ?_
  obtain ⟨σ9, hσ9, h⟩ := px_l_e h
  refine pw_puti (px_at td_Qu_drop 30 rfl) lw_Qu_15 rfl rfl (pw_s hσ9 ?_)
  refine pw_aload_n 0 (px_at td_Qu_drop 31 rfl) rfl rfl ?_
  refine pw_dup (px_at td_Qu_drop 32 rfl) ?_
  refine pw_getf (v := .inl (σ9 (4, k0, j0) 2)) (px_at td_Qu_drop 33 rfl) lf_Qu_19 rfl rfl rfl ?_
  refine pw_iconst (v := 1) (px_at td_Qu_drop 34 rfl) (by decide) ?_
  refine pw_iload_n 1 (px_at td_Qu_drop 35 rfl) rfl rfl ?_
  refine pw_ishl (px_at td_Qu_drop 36 rfl) ?_
  refine pw_iconst (v := (-1)) (px_at td_Qu_drop 37 rfl) (by decide) ?_
  refine pw_ixor (px_at td_Qu_drop 38 rfl) ?_
  refine pw_iand (px_at td_Qu_drop 39 rfl) ?_
  obtain ⟨σ10, hσ10, h⟩ := px_l_e h
  refine pw_puti (px_at td_Qu_drop 40 rfl) lw_Qu_19 rfl rfl (pw_s hσ10 ?_)
  obtain rfl := Option.some.inj h
  exact pw_vret (px_at td_Qu_drop 41 rfl) rfl (Nat.le_refl 0) (Nat.le_refl 0) hR
theorem k_Qu_drop {l : Launch} {ids : List pxI} {σ : pxS} {k0 : Nat} {j0 : Nat} {v1 : Int32} {res : pxS} (h : F_Qu_drop σ k0 j0 v1 = some res) : pm l y_Qu_drop c_Qu_drop 4 none (px_R 1) [.inr (some (4, k0, j0)), .inl v1] ids cG σ (px_r none ids cG res) :=
  pm_ofF (by decide +kernel) (Nat.le_of_ble_eq_true rfl) (e_Qu_drop h ⟨rfl, rfl, rfl, rfl⟩)
/-! Qu_add -/
def F_Qu_add (σ : pxS) (k0 : Nat) (j0 : Nat) (v1 : Int32) : Option (pxS) :=
  (if 12 ≤ (σ (4, k0, j0) 1) then some σ else (if (((σ (4, k0, j0) 2) >>> (v1 &&& 31)) &&& 1) = 0 then px_gd (σ (4, k0, j0) 1) 12 (px_l (px_up σ (10, k0, j0) (σ (4, k0, j0) 1).toNatClampNeg v1) fun σ2 =>
  px_l (px_up σ2 (4, k0, j0) 1 ((σ2 (4, k0, j0) 1) + 1)) fun σ3 =>
  px_l (px_up σ3 (4, k0, j0) 2 ((σ3 (4, k0, j0) 2) ||| (1 <<< (v1 &&& 31)))) fun σ4 =>
  some σ4) else some σ))
set_option maxRecDepth 100000 in
theorem e_Qu_add {l : Launch} {ids : List pxI} {Rt : Option pxV → List pxI → pxG → pxS → Prop} {σ : pxS} {k0 : Nat} {j0 : Nat} {v1 : Int32} {res : pxS} (h : F_Qu_add σ k0 j0 v1 = some res) (hR : Rt none ids cG res) : pw l (px_R 1) y_Qu_add c_Qu_add 2 none 0 [(0, .inr (some (4, k0, j0))), (1, .inl v1)] [] ids cG σ 0 0 Rt := by
  unfold F_Qu_add at h
  refine pw_aload_n 0 (px_at td_Qu_add 0 rfl) rfl rfl ?_
  refine pw_getf (v := .inl (σ (4, k0, j0) 1)) (px_at td_Qu_add 1 rfl) lf_Qu_15 rfl rfl rfl ?_
  refine pw_bipush (v := 12) (px_at td_Qu_add 2 rfl) (by decide) ?_
  rcases px_ite h with ⟨hc6, h⟩ | ⟨hc6, h⟩
  · refine pw_icmp_ge 52 (px_at td_Qu_add 3 rfl) (by decide) (fun _ => ?_) (fun hn => absurd hc6 hn)
    obtain rfl := Option.some.inj h
    exact pw_vret (px_at td_Qu_add 31 rfl) rfl (Nat.le_refl 0) (Nat.le_refl 0) hR
  · refine pw_icmp_ge 52 (px_at td_Qu_add 3 rfl) (by decide) (fun hn => absurd hn hc6) (fun _ => ?_)
    refine pw_aload_n 0 (px_at td_Qu_add 4 rfl) rfl rfl ?_
    refine pw_getf (v := .inl (σ (4, k0, j0) 2)) (px_at td_Qu_add 5 rfl) lf_Qu_19 rfl rfl rfl ?_
    refine pw_iload_n 1 (px_at td_Qu_add 6 rfl) rfl rfl ?_
    refine pw_ishr (px_at td_Qu_add 7 rfl) ?_
    refine pw_iconst (v := 1) (px_at td_Qu_add 8 rfl) (by decide) ?_
    refine pw_iand (px_at td_Qu_add 9 rfl) ?_
    rcases px_ite h with ⟨hc5, h⟩ | ⟨hc5, h⟩
    · refine pw_if_ne 52 (px_at td_Qu_add 10 rfl) (by decide) (fun hn => absurd hc5 hn) (fun _ => ?_)
      refine pw_aload_n 0 (px_at td_Qu_add 11 rfl) rfl rfl ?_
      refine pw_getf (v := .inr (some (10, k0, j0))) (px_at td_Qu_add 12 rfl) lf_Qu_9 rfl rfl rfl ?_
      refine pw_aload_n 0 (px_at td_Qu_add 13 rfl) rfl rfl ?_
      refine pw_getf (v := .inl (σ (4, k0, j0) 1)) (px_at td_Qu_add 14 rfl) lf_Qu_15 rfl rfl rfl ?_
      refine pw_iload_n 1 (px_at td_Qu_add 15 rfl) rfl rfl ?_
      obtain ⟨hi1, h⟩ := px_gd_e h
      obtain ⟨σ2, hσ2, h⟩ := px_l_e h
      refine pw_ias (px_at td_Qu_add 16 rfl) rfl hi1 rfl hσ2 ?_
      refine pw_aload_n 0 (px_at td_Qu_add 17 rfl) rfl rfl ?_
      refine pw_dup (px_at td_Qu_add 18 rfl) ?_
      refine pw_getf (v := .inl (σ2 (4, k0, j0) 1)) (px_at td_Qu_add 19 rfl) lf_Qu_15 rfl rfl rfl ?_
      refine pw_iconst (v := 1) (px_at td_Qu_add 20 rfl) (by decide) ?_
      refine pw_iadd (px_at td_Qu_add 21 rfl) ?_
      obtain ⟨σ3, hσ3, h⟩ := px_l_e h
      refine pw_puti (px_at td_Qu_add 22 rfl) lw_Qu_15 rfl rfl (pw_s hσ3 ?_)
      refine pw_aload_n 0 (px_at td_Qu_add 23 rfl) rfl rfl ?_
      refine pw_dup (px_at td_Qu_add 24 rfl) ?_
      refine pw_getf (v := .inl (σ3 (4, k0, j0) 2)) (px_at td_Qu_add 25 rfl) lf_Qu_19 rfl rfl rfl ?_
      refine pw_iconst (v := 1) (px_at td_Qu_add 26 rfl) (by decide) ?_
      refine pw_iload_n 1 (px_at td_Qu_add 27 rfl) rfl rfl ?_
      refine pw_ishl (px_at td_Qu_add 28 rfl) ?_
      refine pw_ior (px_at td_Qu_add 29 rfl) ?_
      obtain ⟨σ4, hσ4, h⟩ := px_l_e h
      refine pw_puti (px_at td_Qu_add 30 rfl) lw_Qu_19 rfl rfl (pw_s hσ4 ?_)
      obtain rfl := Option.some.inj h
      exact pw_vret (px_at td_Qu_add 31 rfl) rfl (Nat.le_refl 0) (Nat.le_refl 0) hR
    · refine pw_if_ne 52 (px_at td_Qu_add 10 rfl) (by decide) (fun _ => ?_) (fun hn => absurd hn hc5)
      obtain rfl := Option.some.inj h
      exact pw_vret (px_at td_Qu_add 31 rfl) rfl (Nat.le_refl 0) (Nat.le_refl 0) hR
theorem k_Qu_add {l : Launch} {ids : List pxI} {σ : pxS} {k0 : Nat} {j0 : Nat} {v1 : Int32} {res : pxS} (h : F_Qu_add σ k0 j0 v1 = some res) : pm l y_Qu_add c_Qu_add 2 none (px_R 1) [.inr (some (4, k0, j0)), .inl v1] ids cG σ (px_r none ids cG res) :=
  pm_ofF (by decide +kernel) (Nat.le_of_ble_eq_true rfl) (e_Qu_add h ⟨rfl, rfl, rfl, rfl⟩)
/-! Qu_at -/
def Qu_at_n27 (σ : pxS)  : Option (Int32) :=
  some ((-2))
set_option maxRecDepth 100000 in
theorem Qu_at_n27_l {l : Launch} {ids : List pxI} {Rt : Option pxV → List pxI → pxG → pxS → Prop} {σ : pxS}  {res : Int32} (h : Qu_at_n27 σ  = some res) (hR : Rt (some (.inl res)) ids cG σ) : pw l (px_R 1) y_Qu_at c_Qu_at 2 (some .int) 27 [] [] ids cG σ 0 0 Rt := by
  unfold Qu_at_n27 at h
  refine pw_bipush (v := (-2)) (px_at td_Qu_at 14 rfl) (by decide) ?_
  obtain rfl := Option.some.inj h
  exact pw_iret (px_at td_Qu_at 15 rfl) rfl (Nat.le_refl 0) (Nat.le_refl 0) hR
def F_Qu_at (σ : pxS) (k0 : Nat) (j0 : Nat) (v1 : Int32) : Option (Int32) :=
  (if v1 < 0 then Qu_at_n27 σ  else (if (σ (4, k0, j0) 1) ≤ v1 then Qu_at_n27 σ  else (if 12 ≤ v1 then Qu_at_n27 σ  else px_gd v1 12 (some ((σ (10, k0, j0) v1.toNatClampNeg))))))
set_option maxRecDepth 100000 in
theorem e_Qu_at {l : Launch} {ids : List pxI} {Rt : Option pxV → List pxI → pxG → pxS → Prop} {σ : pxS} {k0 : Nat} {j0 : Nat} {v1 : Int32} {res : Int32} (h : F_Qu_at σ k0 j0 v1 = some res) (hR : Rt (some (.inl res)) ids cG σ) : pw l (px_R 1) y_Qu_at c_Qu_at 2 (some .int) 0 [(0, .inr (some (4, k0, j0))), (1, .inl v1)] [] ids cG σ 0 0 Rt := by
  unfold F_Qu_at at h
  refine pw_iload_n 1 (px_at td_Qu_at 0 rfl) rfl rfl ?_
  rcases px_ite h with ⟨hc4, h⟩ | ⟨hc4, h⟩
  · refine pw_if_lt 27 (px_at td_Qu_at 1 rfl) (by decide) (fun _ => ?_) (fun hn => absurd hc4 hn)
    refine pw_L [] [] rfl ?_
    exact Qu_at_n27_l h hR
  · refine pw_if_lt 27 (px_at td_Qu_at 1 rfl) (by decide) (fun hn => absurd hn hc4) (fun _ => ?_)
    refine pw_iload_n 1 (px_at td_Qu_at 2 rfl) rfl rfl ?_
    refine pw_aload_n 0 (px_at td_Qu_at 3 rfl) rfl rfl ?_
    refine pw_getf (v := .inl (σ (4, k0, j0) 1)) (px_at td_Qu_at 4 rfl) lf_Qu_15 rfl rfl rfl ?_
    rcases px_ite h with ⟨hc3, h⟩ | ⟨hc3, h⟩
    · refine pw_icmp_ge 27 (px_at td_Qu_at 5 rfl) (by decide) (fun _ => ?_) (fun hn => absurd hc3 hn)
      refine pw_L [] [] rfl ?_
      exact Qu_at_n27_l h hR
    · refine pw_icmp_ge 27 (px_at td_Qu_at 5 rfl) (by decide) (fun hn => absurd hn hc3) (fun _ => ?_)
      refine pw_iload_n 1 (px_at td_Qu_at 6 rfl) rfl rfl ?_
      refine pw_bipush (v := 12) (px_at td_Qu_at 7 rfl) (by decide) ?_
      rcases px_ite h with ⟨hc2, h⟩ | ⟨hc2, h⟩
      · refine pw_icmp_ge 27 (px_at td_Qu_at 8 rfl) (by decide) (fun _ => ?_) (fun hn => absurd hc2 hn)
        refine pw_L [] [] rfl ?_
        exact Qu_at_n27_l h hR
      · refine pw_icmp_ge 27 (px_at td_Qu_at 8 rfl) (by decide) (fun hn => absurd hn hc2) (fun _ => ?_)
        refine pw_aload_n 0 (px_at td_Qu_at 9 rfl) rfl rfl ?_
        refine pw_getf (v := .inr (some (10, k0, j0))) (px_at td_Qu_at 10 rfl) lf_Qu_9 rfl rfl rfl ?_
        refine pw_iload_n 1 (px_at td_Qu_at 11 rfl) rfl rfl ?_
        obtain ⟨hi1, h⟩ := px_gd_e h
        refine pw_ial (px_at td_Qu_at 12 rfl) rfl hi1 rfl ?_
        refine pw_goto 29 (px_at td_Qu_at 13 rfl) (by decide) ?_
        obtain rfl := Option.some.inj h
        exact pw_iret (px_at td_Qu_at 15 rfl) rfl (Nat.le_refl 0) (Nat.le_refl 0) hR
theorem k_Qu_at {l : Launch} {ids : List pxI} {σ : pxS} {k0 : Nat} {j0 : Nat} {v1 : Int32} {res : Int32} (h : F_Qu_at σ k0 j0 v1 = some res) : pm l y_Qu_at c_Qu_at 2 (some .int) (px_R 1) [.inr (some (4, k0, j0)), .inl v1] ids cG σ (px_r (some (.inl res)) ids cG σ) :=
  pm_ofF (by decide +kernel) (Nat.le_of_ble_eq_true rfl) (e_Qu_at h ⟨rfl, rfl, rfl, rfl⟩)
/-! Qu_holds -/
def F_Qu_holds (σ : pxS) (k0 : Nat) (j0 : Nat) (v1 : Int32) : Option (Int32) :=
  (if (((σ (4, k0, j0) 2) >>> (v1 &&& 31)) &&& 1) = 0 then some (0) else some (1))
set_option maxRecDepth 100000 in
theorem e_Qu_holds {l : Launch} {ids : List pxI} {Rt : Option pxV → List pxI → pxG → pxS → Prop} {σ : pxS} {k0 : Nat} {j0 : Nat} {v1 : Int32} {res : Int32} (h : F_Qu_holds σ k0 j0 v1 = some res) (hR : Rt (some (.inl res)) ids cG σ) : pw l (px_R 1) y_Qu_holds c_Qu_holds 2 (some .boolean) 0 [(0, .inr (some (4, k0, j0))), (1, .inl v1)] [] ids cG σ 0 0 Rt := by
  unfold F_Qu_holds at h
  refine pw_aload_n 0 (px_at td_Qu_holds 0 rfl) rfl rfl ?_
  refine pw_getf (v := .inl (σ (4, k0, j0) 2)) (px_at td_Qu_holds 1 rfl) lf_Qu_19 rfl rfl rfl ?_
  refine pw_iload_n 1 (px_at td_Qu_holds 2 rfl) rfl rfl ?_
  refine pw_ishr (px_at td_Qu_holds 3 rfl) ?_
  refine pw_iconst (v := 1) (px_at td_Qu_holds 4 rfl) (by decide) ?_
  refine pw_iand (px_at td_Qu_holds 5 rfl) ?_
  rcases px_ite h with ⟨hc1, h⟩ | ⟨hc1, h⟩
  · refine pw_if_eq 15 (px_at td_Qu_holds 6 rfl) (by decide) (fun _ => ?_) (fun hn => absurd hc1 hn)
    refine pw_iconst (v := 0) (px_at td_Qu_holds 9 rfl) (by decide) ?_
    obtain rfl := Option.some.inj h
    exact pw_zret (px_at td_Qu_holds 10 rfl) rfl (by decide) (Nat.le_refl 0) (Nat.le_refl 0) hR
  · refine pw_if_eq 15 (px_at td_Qu_holds 6 rfl) (by decide) (fun hn => absurd hn hc1) (fun _ => ?_)
    refine pw_iconst (v := 1) (px_at td_Qu_holds 7 rfl) (by decide) ?_
    refine pw_goto 16 (px_at td_Qu_holds 8 rfl) (by decide) ?_
    obtain rfl := Option.some.inj h
    exact pw_zret (px_at td_Qu_holds 10 rfl) rfl (by decide) (Nat.le_refl 0) (Nat.le_refl 0) hR
theorem k_Qu_holds {l : Launch} {ids : List pxI} {σ : pxS} {k0 : Nat} {j0 : Nat} {v1 : Int32} {res : Int32} (h : F_Qu_holds σ k0 j0 v1 = some res) : pm l y_Qu_holds c_Qu_holds 2 (some .boolean) (px_R 1) [.inr (some (4, k0, j0)), .inl v1] ids cG σ (px_r (some (.inl res)) ids cG σ) :=
  pm_ofF (by decide +kernel) (Nat.le_of_ble_eq_true rfl) (e_Qu_holds h ⟨rfl, rfl, rfl, rfl⟩)
end
section
/-! Ma_floorMod -/
def Ma_floorMod_n18 (σ : pxS) (v2 : Int32) : Option (Int32) :=
  some (v2)
set_option maxRecDepth 100000 in
theorem Ma_floorMod_n18_l {l : Launch} {ids : List pxI} {Rt : Option pxV → List pxI → pxG → pxS → Prop} {σ : pxS} {v2 : Int32} {res : Int32} (h : Ma_floorMod_n18 σ v2 = some res) (hR : Rt (some (.inl res)) ids cG σ) : pw l (px_R 1) y_Ma_floorMod c_Ma_floorMod 3 (some .int) 18 [(2, .inl v2)] [] ids cG σ 0 0 Rt := by
  unfold Ma_floorMod_n18 at h
  refine pw_iload_n 0 (px_at td_Ma_floorMod 14 rfl) rfl rfl ?_
  obtain rfl := Option.some.inj h
  exact pw_iret (px_at td_Ma_floorMod 15 rfl) rfl (Nat.le_refl 0) (Nat.le_refl 0) hR
def F_Ma_floorMod (σ : pxS) (v0 : Int32) (v1 : Int32) : Option (Int32) :=
  px_gz v1 ((if 0 ≤ (v0 ^^^ v1) then Ma_floorMod_n18 σ (v0 - v0 / v1 * v1) else (if (v0 - v0 / v1 * v1) = 0 then Ma_floorMod_n18 σ (v0 - v0 / v1 * v1) else some (((v0 - v0 / v1 * v1) + v1)))))
set_option maxRecDepth 100000 in
theorem e_Ma_floorMod {l : Launch} {ids : List pxI} {Rt : Option pxV → List pxI → pxG → pxS → Prop} {σ : pxS} {v0 : Int32} {v1 : Int32} {res : Int32} (h : F_Ma_floorMod σ v0 v1 = some res) (hR : Rt (some (.inl res)) ids cG σ) : pw l (px_R 1) y_Ma_floorMod c_Ma_floorMod 3 (some .int) 0 [(0, .inl v0), (1, .inl v1)] [] ids cG σ 0 0 Rt := by
  unfold F_Ma_floorMod at h
  refine pw_iload_n 0 (px_at td_Ma_floorMod 0 rfl) rfl rfl ?_
  refine pw_iload_n 1 (px_at td_Ma_floorMod 1 rfl) rfl rfl ?_
  obtain ⟨hz1, h⟩ := px_gz_e h
  refine pw_irem (px_at td_Ma_floorMod 2 rfl) hz1 ?_
  refine pw_istore_n (L' := [(2, .inl (v0 - v0 / v1 * v1)), (0, .inl v0), (1, .inl v1)]) (px_at td_Ma_floorMod 3 rfl) rfl (by decide) rfl ?_
  refine pw_iload_n 1 (px_at td_Ma_floorMod 4 rfl) rfl rfl ?_
  refine pw_iload_n 2 (px_at td_Ma_floorMod 5 rfl) rfl rfl ?_
  refine pw_ixor (px_at td_Ma_floorMod 6 rfl) ?_
  rcases px_ite h with ⟨hc3, h⟩ | ⟨hc3, h⟩
  · refine pw_if_ge 18 (px_at td_Ma_floorMod 7 rfl) (by decide) (fun _ => ?_) (fun hn => absurd hc3 hn)
    refine pw_L [(2, .inl (v0 - v0 / v1 * v1))] [0] rfl ?_
    exact Ma_floorMod_n18_l h hR
  · refine pw_if_ge 18 (px_at td_Ma_floorMod 7 rfl) (by decide) (fun hn => absurd hn hc3) (fun _ => ?_)
    refine pw_iload_n 0 (px_at td_Ma_floorMod 8 rfl) rfl rfl ?_
    rcases px_ite h with ⟨hc2, h⟩ | ⟨hc2, h⟩
    · refine pw_if_eq 18 (px_at td_Ma_floorMod 9 rfl) (by decide) (fun _ => ?_) (fun hn => absurd hc2 hn)
      refine pw_L [(2, .inl (v0 - v0 / v1 * v1))] [0] rfl ?_
      exact Ma_floorMod_n18_l h hR
    · refine pw_if_eq 18 (px_at td_Ma_floorMod 9 rfl) (by decide) (fun hn => absurd hn hc2) (fun _ => ?_)
      refine pw_iload_n 0 (px_at td_Ma_floorMod 10 rfl) rfl rfl ?_
      refine pw_iload_n 2 (px_at td_Ma_floorMod 11 rfl) rfl rfl ?_
      refine pw_iadd (px_at td_Ma_floorMod 12 rfl) ?_
      obtain rfl := Option.some.inj h
      exact pw_iret (px_at td_Ma_floorMod 13 rfl) rfl (Nat.le_refl 0) (Nat.le_refl 0) hR
theorem k_Ma_floorMod {l : Launch} {ids : List pxI} {σ : pxS} {v0 : Int32} {v1 : Int32} {res : Int32} (h : F_Ma_floorMod σ v0 v1 = some res) : pm l y_Ma_floorMod c_Ma_floorMod 3 (some .int) (px_R 1) [.inl v0, .inl v1] ids cG σ (px_r (some (.inl res)) ids cG σ) :=
  pm_ofF (by decide +kernel) (Nat.le_of_ble_eq_true rfl) (e_Ma_floorMod h ⟨rfl, rfl, rfl, rfl⟩)
/-! Pl_allRails -/
def F_Pl_allRails (σ : pxS) (p0 : Int32) : Option (Int32) :=
  some (((1 <<< ((σ (1, p0.toNatClampNeg, 0) 0) &&& 31)) - 1))
set_option maxRecDepth 100000 in
theorem e_Pl_allRails {l : Launch} {ids : List pxI} {Rt : Option pxV → List pxI → pxG → pxS → Prop} {σ : pxS} {p0 : Int32} {res : Int32} (h : F_Pl_allRails σ p0 = some res) (hR : Rt (some (.inl res)) ids cG σ) : pw l (px_R 1) y_Pl_allRails c_Pl_allRails 1 (some .int) 0 [(0, .inr (some (1, p0.toNatClampNeg, 0)))] [] ids cG σ 0 0 Rt := by
  unfold F_Pl_allRails at h
  refine pw_iconst (v := 1) (px_at td_Pl_allRails 0 rfl) (by decide) ?_
  refine pw_aload_n 0 (px_at td_Pl_allRails 1 rfl) rfl rfl ?_
  refine pw_getf (v := .inl (σ (1, p0.toNatClampNeg, 0) 0)) (px_at td_Pl_allRails 2 rfl) lf_Pl_57 rfl rfl rfl ?_
  refine pw_ishl (px_at td_Pl_allRails 3 rfl) ?_
  refine pw_iconst (v := 1) (px_at td_Pl_allRails 4 rfl) (by decide) ?_
  refine pw_isub (px_at td_Pl_allRails 5 rfl) ?_
  obtain rfl := Option.some.inj h
  exact pw_iret (px_at td_Pl_allRails 6 rfl) rfl (Nat.le_refl 0) (Nat.le_refl 0) hR
theorem k_Pl_allRails {l : Launch} {ids : List pxI} {σ : pxS} {p0 : Int32} {res : Int32} (h : F_Pl_allRails σ p0 = some res) : pm l y_Pl_allRails c_Pl_allRails 1 (some .int) (px_R 1) [.inr (some (1, p0.toNatClampNeg, 0))] ids cG σ (px_r (some (.inl res)) ids cG σ) :=
  pm_ofF (by decide +kernel) (Nat.le_of_ble_eq_true rfl) (e_Pl_allRails h ⟨rfl, rfl, rfl, rfl⟩)
/-! Pl_directOfAll -/
def Pl_directOfAll_n29 (σ : pxS) (p0 : Int32) (v1 : Int32) (v2 : Int32) (v3 : Int32) : Option ((Int32 × Int32) ⊕ (Int32)) :=
  some (.inl (v2, (v3 + 1)))
set_option maxRecDepth 100000 in
theorem Pl_directOfAll_n29_l {l : Launch} {ids : List pxI} {Rt : Option pxV → List pxI → pxG → pxS → Prop} {σ : pxS} {p0 : Int32} {v1 : Int32} {v2 : Int32} {v3 : Int32} {o : (Int32 × Int32) ⊕ (Int32)} (h : Pl_directOfAll_n29 σ p0 v1 v2 v3 = some o) (hC : ∀ s, o = .inl s → pw l (px_R 1) y_Pl_directOfAll c_Pl_directOfAll 4 (some .int) 4 [(0, .inr (some (1, p0.toNatClampNeg, 0))), (1, .inl v1), (2, .inl s.1), (3, .inl s.2)] [] ids cG σ 0 0 Rt) (hX0 : ∀ e, o = .inr e → pw l (px_R 1) y_Pl_directOfAll c_Pl_directOfAll 4 (some .int) 35 [(2, .inl e)] [] ids cG σ 0 0 Rt) : pw l (px_R 1) y_Pl_directOfAll c_Pl_directOfAll 4 (some .int) 29 [(0, .inr (some (1, p0.toNatClampNeg, 0))), (1, .inl v1), (2, .inl v2), (3, .inl v3)] [] ids cG σ 0 0 Rt := by
  unfold Pl_directOfAll_n29 at h
  refine pw_iinc (q := 3) (v := (v3 + 1)) (L' := [(3, .inl (v3 + 1)), (0, .inr (some (1, p0.toNatClampNeg, 0))), (1, .inl v1), (2, .inl v2)]) (px_at td_Pl_directOfAll 21 rfl) rfl rfl (by decide) rfl ?_
  refine pw_goto 4 (px_at td_Pl_directOfAll 22 rfl) (by decide) ?_
  refine pw_L [(0, .inr (some (1, p0.toNatClampNeg, 0))), (1, .inl v1), (2, .inl v2), (3, .inl (v3 + 1))] [1, 2, 3, 0] rfl ?_
  exact hC _ (Option.some.inj h).symm
def Pl_directOfAll_n4 (σ : pxS) (p0 : Int32) (v1 : Int32) (v2 : Int32) (v3 : Int32) : Option ((Int32 × Int32) ⊕ (Int32)) :=
  (if (σ (1, p0.toNatClampNeg, 0) 0) ≤ v3 then some (.inr v2) else (if ((v1 >>> (v3 &&& 31)) &&& 1) = 0 then Pl_directOfAll_n29 σ p0 v1 v2 v3 else px_gd v3 12 (Pl_directOfAll_n29 σ p0 v1 (v2 ||| (σ (8, p0.toNatClampNeg, 8) v3.toNatClampNeg)) v3)))
set_option maxRecDepth 100000 in
theorem Pl_directOfAll_n4_l {l : Launch} {ids : List pxI} {Rt : Option pxV → List pxI → pxG → pxS → Prop} {σ : pxS} {p0 : Int32} {v1 : Int32} {v2 : Int32} {v3 : Int32} {o : (Int32 × Int32) ⊕ (Int32)} (h : Pl_directOfAll_n4 σ p0 v1 v2 v3 = some o) (hC : ∀ s, o = .inl s → pw l (px_R 1) y_Pl_directOfAll c_Pl_directOfAll 4 (some .int) 4 [(0, .inr (some (1, p0.toNatClampNeg, 0))), (1, .inl v1), (2, .inl s.1), (3, .inl s.2)] [] ids cG σ 0 0 Rt) (hX0 : ∀ e, o = .inr e → pw l (px_R 1) y_Pl_directOfAll c_Pl_directOfAll 4 (some .int) 35 [(2, .inl e)] [] ids cG σ 0 0 Rt) : pw l (px_R 1) y_Pl_directOfAll c_Pl_directOfAll 4 (some .int) 4 [(0, .inr (some (1, p0.toNatClampNeg, 0))), (1, .inl v1), (2, .inl v2), (3, .inl v3)] [] ids cG σ 0 0 Rt := by
  unfold Pl_directOfAll_n4 at h
  refine pw_iload_n 3 (px_at td_Pl_directOfAll 4 rfl) rfl rfl ?_
  refine pw_aload_n 0 (px_at td_Pl_directOfAll 5 rfl) rfl rfl ?_
  refine pw_getf (v := .inl (σ (1, p0.toNatClampNeg, 0) 0)) (px_at td_Pl_directOfAll 6 rfl) lf_Pl_57 rfl rfl rfl ?_
  rcases px_ite h with ⟨hc3, h⟩ | ⟨hc3, h⟩
  · refine pw_icmp_ge 35 (px_at td_Pl_directOfAll 7 rfl) (by decide) (fun _ => ?_) (fun hn => absurd hc3 hn)
    refine pw_L [(2, .inl v2)] [2] rfl ?_
    exact hX0 _ (Option.some.inj h).symm
  · refine pw_icmp_ge 35 (px_at td_Pl_directOfAll 7 rfl) (by decide) (fun hn => absurd hn hc3) (fun _ => ?_)
    refine pw_iload_n 1 (px_at td_Pl_directOfAll 8 rfl) rfl rfl ?_
    refine pw_iload_n 3 (px_at td_Pl_directOfAll 9 rfl) rfl rfl ?_
    refine pw_ishr (px_at td_Pl_directOfAll 10 rfl) ?_
    refine pw_iconst (v := 1) (px_at td_Pl_directOfAll 11 rfl) (by decide) ?_
    refine pw_iand (px_at td_Pl_directOfAll 12 rfl) ?_
    rcases px_ite h with ⟨hc2, h⟩ | ⟨hc2, h⟩
    · refine pw_if_eq 29 (px_at td_Pl_directOfAll 13 rfl) (by decide) (fun _ => ?_) (fun hn => absurd hc2 hn)
      exact Pl_directOfAll_n29_l h hC hX0
    · refine pw_if_eq 29 (px_at td_Pl_directOfAll 13 rfl) (by decide) (fun hn => absurd hn hc2) (fun _ => ?_)
      refine pw_iload_n 2 (px_at td_Pl_directOfAll 14 rfl) rfl rfl ?_
      refine pw_aload_n 0 (px_at td_Pl_directOfAll 15 rfl) rfl rfl ?_
      refine pw_getf (v := .inr (some (8, p0.toNatClampNeg, 8))) (px_at td_Pl_directOfAll 16 rfl) lf_Pl_36 rfl rfl rfl ?_
      refine pw_iload_n 3 (px_at td_Pl_directOfAll 17 rfl) rfl rfl ?_
      obtain ⟨hi1, h⟩ := px_gd_e h
      refine pw_ial (px_at td_Pl_directOfAll 18 rfl) rfl hi1 rfl ?_
      refine pw_ior (px_at td_Pl_directOfAll 19 rfl) ?_
      refine pw_istore_n (L' := [(2, .inl (v2 ||| (σ (8, p0.toNatClampNeg, 8) v3.toNatClampNeg))), (0, .inr (some (1, p0.toNatClampNeg, 0))), (1, .inl v1), (3, .inl v3)]) (px_at td_Pl_directOfAll 20 rfl) rfl (by decide) rfl ?_
      refine pw_L [(0, .inr (some (1, p0.toNatClampNeg, 0))), (1, .inl v1), (2, .inl (v2 ||| (σ (8, p0.toNatClampNeg, 8) v3.toNatClampNeg))), (3, .inl v3)] [1, 2, 0, 3] rfl ?_
      exact Pl_directOfAll_n29_l h hC hX0
def Pl_directOfAll_L4 (σ : pxS) (p0 : Int32) (v1 : Int32) : (Int32 × Int32) → Option ((Int32 × Int32) ⊕ (Int32)) := fun s => Pl_directOfAll_n4 σ p0 v1 s.1 s.2
set_option maxRecDepth 100000 in
theorem Pl_directOfAll_L4_l {l : Launch} {ids : List pxI} {Rt : Option pxV → List pxI → pxG → pxS → Prop} {σ : pxS} {p0 : Int32} {v1 : Int32} {n : Nat} {s : Int32 × Int32} {e : Int32} (h : px_it (Pl_directOfAll_L4 σ p0 v1) n s = some e) (hX0 : pw l (px_R 1) y_Pl_directOfAll c_Pl_directOfAll 4 (some .int) 35 [(2, .inl e)] [] ids cG σ 0 0 Rt) : pw l (px_R 1) y_Pl_directOfAll c_Pl_directOfAll 4 (some .int) 4 [(0, .inr (some (1, p0.toNatClampNeg, 0))), (1, .inl v1), (2, .inl s.1), (3, .inl s.2)] [] ids cG σ 0 0 Rt := by
  refine px_it_rule (f := Pl_directOfAll_L4 σ p0 v1) (C := fun s => pw l (px_R 1) y_Pl_directOfAll c_Pl_directOfAll 4 (some .int) 4 [(0, .inr (some (1, p0.toNatClampNeg, 0))), (1, .inl v1), (2, .inl s.1), (3, .inl s.2)] [] ids cG σ 0 0 Rt) (X := fun e => (pw l (px_R 1) y_Pl_directOfAll c_Pl_directOfAll 4 (some .int) 35 [(2, .inl e)] [] ids cG σ 0 0 Rt)) ?_ ?_ n s e h hX0
  · intro s s1 hf hC
    exact Pl_directOfAll_n4_l hf (fun s2 hs => by cases hs; exact hC) (fun e he => by cases he)
  · intro s e hf hX
    exact Pl_directOfAll_n4_l hf (fun s2 hs => by cases hs) (fun e1 he => by cases he; exact hX)
def F_Pl_directOfAll (σ : pxS) (p0 : Int32) (v1 : Int32) : Option (Int32) :=
  px_b1 (px_it (Pl_directOfAll_L4 σ p0 v1) px_N (0, 0)) fun e4 =>
  some (e4)
set_option maxRecDepth 100000 in
theorem e_Pl_directOfAll {l : Launch} {ids : List pxI} {Rt : Option pxV → List pxI → pxG → pxS → Prop} {σ : pxS} {p0 : Int32} {v1 : Int32} {res : Int32} (h : F_Pl_directOfAll σ p0 v1 = some res) (hR : Rt (some (.inl res)) ids cG σ) : pw l (px_R 1) y_Pl_directOfAll c_Pl_directOfAll 4 (some .int) 0 [(0, .inr (some (1, p0.toNatClampNeg, 0))), (1, .inl v1)] [] ids cG σ 0 0 Rt := by
  unfold F_Pl_directOfAll at h
  refine pw_iconst (v := 0) (px_at td_Pl_directOfAll 0 rfl) (by decide) ?_
  refine pw_istore_n (L' := [(2, .inl 0), (0, .inr (some (1, p0.toNatClampNeg, 0))), (1, .inl v1)]) (px_at td_Pl_directOfAll 1 rfl) rfl (by decide) rfl ?_
  refine pw_iconst (v := 0) (px_at td_Pl_directOfAll 2 rfl) (by decide) ?_
  refine pw_istore_n (L' := [(3, .inl 0), (2, .inl 0), (0, .inr (some (1, p0.toNatClampNeg, 0))), (1, .inl v1)]) (px_at td_Pl_directOfAll 3 rfl) rfl (by decide) rfl ?_
  obtain ⟨e4, he4, h⟩ := px_b1_e h
  refine pw_L [(0, .inr (some (1, p0.toNatClampNeg, 0))), (1, .inl v1), (2, .inl 0), (3, .inl 0)] [2, 3, 1, 0] rfl ?_
  refine Pl_directOfAll_L4_l he4 ?_
  refine pw_iload_n 0 (px_at td_Pl_directOfAll 23 rfl) rfl rfl ?_
  obtain rfl := Option.some.inj h
  exact pw_iret (px_at td_Pl_directOfAll 24 rfl) rfl (Nat.le_refl 0) (Nat.le_refl 0) hR
theorem k_Pl_directOfAll {l : Launch} {ids : List pxI} {σ : pxS} {p0 : Int32} {v1 : Int32} {res : Int32} (h : F_Pl_directOfAll σ p0 v1 = some res) : pm l y_Pl_directOfAll c_Pl_directOfAll 4 (some .int) (px_R 1) [.inr (some (1, p0.toNatClampNeg, 0)), .inl v1] ids cG σ (px_r (some (.inl res)) ids cG σ) :=
  pm_ofF (by decide +kernel) (Nat.le_of_ble_eq_true rfl) (e_Pl_directOfAll h ⟨rfl, rfl, rfl, rfl⟩)
/-! Pl_surge -/
def F_Pl_surge (σ : pxS) (p0 : Int32) (v1 : Int32) : Option (Int32) :=
  px_gd v1 12 (px_gd v1 12 (px_gd v1 12 (some ((((σ (8, p0.toNatClampNeg, 4) v1.toNatClampNeg) * (if (σ (8, p0.toNatClampNeg, 2) v1.toNatClampNeg) < (σ (8, p0.toNatClampNeg, 3) v1.toNatClampNeg) then (σ (8, p0.toNatClampNeg, 2) v1.toNatClampNeg) else (σ (8, p0.toNatClampNeg, 3) v1.toNatClampNeg))) / 16)))))
set_option maxRecDepth 100000 in
theorem e_Pl_surge {l : Launch} {ids : List pxI} {Rt : Option pxV → List pxI → pxG → pxS → Prop} {σ : pxS} {p0 : Int32} {v1 : Int32} {res : Int32} (h : F_Pl_surge σ p0 v1 = some res) (hR : Rt (some (.inl res)) ids cG σ) : pw l (px_R 1) y_Pl_surge c_Pl_surge 2 (some .int) 0 [(0, .inr (some (1, p0.toNatClampNeg, 0))), (1, .inl v1)] [] ids cG σ 0 0 Rt := by
  unfold F_Pl_surge at h
  refine pw_aload_n 0 (px_at td_Pl_surge 0 rfl) rfl rfl ?_
  refine pw_getf (v := .inr (some (8, p0.toNatClampNeg, 4))) (px_at td_Pl_surge 1 rfl) lf_Pl_24 rfl rfl rfl ?_
  refine pw_iload_n 1 (px_at td_Pl_surge 2 rfl) rfl rfl ?_
  obtain ⟨hi1, h⟩ := px_gd_e h
  refine pw_ial (px_at td_Pl_surge 3 rfl) rfl hi1 rfl ?_
  refine pw_aload_n 0 (px_at td_Pl_surge 4 rfl) rfl rfl ?_
  refine pw_getf (v := .inr (some (8, p0.toNatClampNeg, 3))) (px_at td_Pl_surge 5 rfl) lf_Pl_21 rfl rfl rfl ?_
  refine pw_iload_n 1 (px_at td_Pl_surge 6 rfl) rfl rfl ?_
  obtain ⟨hi2, h⟩ := px_gd_e h
  refine pw_ial (px_at td_Pl_surge 7 rfl) rfl hi2 rfl ?_
  refine pw_aload_n 0 (px_at td_Pl_surge 8 rfl) rfl rfl ?_
  refine pw_getf (v := .inr (some (8, p0.toNatClampNeg, 2))) (px_at td_Pl_surge 9 rfl) lf_Pl_18 rfl rfl rfl ?_
  refine pw_iload_n 1 (px_at td_Pl_surge 10 rfl) rfl rfl ?_
  obtain ⟨hi3, h⟩ := px_gd_e h
  refine pw_ial (px_at td_Pl_surge 11 rfl) rfl hi3 rfl ?_
  refine pw_mmin (px_at td_Pl_surge 12 rfl) lm_Pl_68 ws_Math_min wi_java_lang_Math wc_Math_min (by decide) (Nat.le_of_ble_eq_true rfl) (Nat.le_refl 0) (Nat.le_refl 0) ?_
  refine pw_imul (px_at td_Pl_surge 13 rfl) ?_
  refine pw_bipush (v := 16) (px_at td_Pl_surge 14 rfl) (by decide) ?_
  refine pw_idiv (px_at td_Pl_surge 15 rfl) (by decide) ?_
  obtain rfl := Option.some.inj h
  exact pw_iret (px_at td_Pl_surge 16 rfl) rfl (Nat.le_refl 0) (Nat.le_refl 0) hR
theorem k_Pl_surge {l : Launch} {ids : List pxI} {σ : pxS} {p0 : Int32} {v1 : Int32} {res : Int32} (h : F_Pl_surge σ p0 v1 = some res) : pm l y_Pl_surge c_Pl_surge 2 (some .int) (px_R 1) [.inr (some (1, p0.toNatClampNeg, 0)), .inl v1] ids cG σ (px_r (some (.inl res)) ids cG σ) :=
  pm_ofF (by decide +kernel) (Nat.le_of_ble_eq_true rfl) (e_Pl_surge h ⟨rfl, rfl, rfl, rfl⟩)
/-! Pl_forget -/
def F_Pl_forget (σ : pxS) (p0 : Int32) : Option (pxS) :=
  px_l (px_up σ (1, p0.toNatClampNeg, 0) 0 0) fun σ1 =>
  px_l (px_up σ1 (1, p0.toNatClampNeg, 0) 1 0) fun σ2 =>
  px_l (px_up σ2 (1, p0.toNatClampNeg, 0) 2 0) fun σ3 =>
  px_l (px_up σ3 (8, p0.toNatClampNeg, 14) 0 50) fun σ4 =>
  px_l (px_up σ4 (8, p0.toNatClampNeg, 14) 1 500) fun σ5 =>
  px_l (px_up σ5 (8, p0.toNatClampNeg, 14) 2 90) fun σ6 =>
  px_l (px_up σ6 (8, p0.toNatClampNeg, 14) 3 1) fun σ7 =>
  px_l (px_up σ7 (8, p0.toNatClampNeg, 14) 4 0) fun σ8 =>
  px_l (px_up σ8 (8, p0.toNatClampNeg, 14) 5 10) fun σ9 =>
  px_l (px_up σ9 (8, p0.toNatClampNeg, 14) 6 99999) fun σ10 =>
  px_l (px_up σ10 (8, p0.toNatClampNeg, 14) 7 0) fun σ11 =>
  some σ11
set_option maxRecDepth 100000 in
theorem e_Pl_forget {l : Launch} {ids : List pxI} {Rt : Option pxV → List pxI → pxG → pxS → Prop} {σ : pxS} {p0 : Int32} {res : pxS} (h : F_Pl_forget σ p0 = some res) (hR : Rt none ids cG res) : pw l (px_R 1) y_Pl_forget c_Pl_forget 1 none 0 [(0, .inr (some (1, p0.toNatClampNeg, 0)))] [] ids cG σ 0 0 Rt := by
  unfold F_Pl_forget at h
  refine pw_aload_n 0 (px_at td_Pl_forget 0 rfl) rfl rfl ?_
  refine pw_iconst (v := 0) (px_at td_Pl_forget 1 rfl) (by decide) ?_
  obtain ⟨σ1, hσ1, h⟩ := px_l_e h
  refine pw_puti (px_at td_Pl_forget 2 rfl) lw_Pl_57 rfl rfl (pw_s hσ1 ?_)
  refine pw_aload_n 0 (px_at td_Pl_forget 3 rfl) rfl rfl ?_
  refine pw_iconst (v := 0) (px_at td_Pl_forget 4 rfl) (by decide) ?_
  obtain ⟨σ2, hσ2, h⟩ := px_l_e h
  refine pw_puti (px_at td_Pl_forget 5 rfl) lw_Pl_61 rfl rfl (pw_s hσ2 ?_)
  refine pw_aload_n 0 (px_at td_Pl_forget 6 rfl) rfl rfl ?_
  refine pw_iconst (v := 0) (px_at td_Pl_forget 7 rfl) (by decide) ?_
  obtain ⟨σ3, hσ3, h⟩ := px_l_e h
  refine pw_puti (px_at td_Pl_forget 8 rfl) lw_Pl_64 rfl rfl (pw_s hσ3 ?_)
  refine pw_aload_n 0 (px_at td_Pl_forget 9 rfl) rfl rfl ?_
  refine pw_getf (v := .inr (some (8, p0.toNatClampNeg, 14))) (px_at td_Pl_forget 10 rfl) lf_Pl_54 rfl rfl rfl ?_
  refine pw_iconst (v := 0) (px_at td_Pl_forget 11 rfl) (by decide) ?_
  refine pw_bipush (v := 50) (px_at td_Pl_forget 12 rfl) (by decide) ?_
  obtain ⟨σ4, hσ4, h⟩ := px_l_e h
  refine pw_ias (px_at td_Pl_forget 13 rfl) rfl (px_inL (by decide) px_z0 (by decide)) px_z0 hσ4 ?_
  refine pw_aload_n 0 (px_at td_Pl_forget 14 rfl) rfl rfl ?_
  refine pw_getf (v := .inr (some (8, p0.toNatClampNeg, 14))) (px_at td_Pl_forget 15 rfl) lf_Pl_54 rfl rfl rfl ?_
  refine pw_iconst (v := 1) (px_at td_Pl_forget 16 rfl) (by decide) ?_
  refine pw_sipush (v := 500) (px_at td_Pl_forget 17 rfl) (by decide) ?_
  obtain ⟨σ5, hσ5, h⟩ := px_l_e h
  refine pw_ias (px_at td_Pl_forget 18 rfl) rfl (px_inL (by decide) px_z1 (by decide)) px_z1 hσ5 ?_
  refine pw_aload_n 0 (px_at td_Pl_forget 19 rfl) rfl rfl ?_
  refine pw_getf (v := .inr (some (8, p0.toNatClampNeg, 14))) (px_at td_Pl_forget 20 rfl) lf_Pl_54 rfl rfl rfl ?_
  refine pw_iconst (v := 2) (px_at td_Pl_forget 21 rfl) (by decide) ?_
  refine pw_bipush (v := 90) (px_at td_Pl_forget 22 rfl) (by decide) ?_
  obtain ⟨σ6, hσ6, h⟩ := px_l_e h
  refine pw_ias (px_at td_Pl_forget 23 rfl) rfl (px_inL (by decide) px_z2 (by decide)) px_z2 hσ6 ?_
  refine pw_aload_n 0 (px_at td_Pl_forget 24 rfl) rfl rfl ?_
  refine pw_getf (v := .inr (some (8, p0.toNatClampNeg, 14))) (px_at td_Pl_forget 25 rfl) lf_Pl_54 rfl rfl rfl ?_
  refine pw_iconst (v := 3) (px_at td_Pl_forget 26 rfl) (by decide) ?_
  refine pw_iconst (v := 1) (px_at td_Pl_forget 27 rfl) (by decide) ?_
  obtain ⟨σ7, hσ7, h⟩ := px_l_e h
  refine pw_ias (px_at td_Pl_forget 28 rfl) rfl (px_inL (by decide) px_z3 (by decide)) px_z3 hσ7 ?_
  refine pw_aload_n 0 (px_at td_Pl_forget 29 rfl) rfl rfl ?_
  refine pw_getf (v := .inr (some (8, p0.toNatClampNeg, 14))) (px_at td_Pl_forget 30 rfl) lf_Pl_54 rfl rfl rfl ?_
  refine pw_iconst (v := 4) (px_at td_Pl_forget 31 rfl) (by decide) ?_
  refine pw_iconst (v := 0) (px_at td_Pl_forget 32 rfl) (by decide) ?_
  obtain ⟨σ8, hσ8, h⟩ := px_l_e h
  refine pw_ias (px_at td_Pl_forget 33 rfl) rfl (px_inL (by decide) px_z4 (by decide)) px_z4 hσ8 ?_
  refine pw_aload_n 0 (px_at td_Pl_forget 34 rfl) rfl rfl ?_
  refine pw_getf (v := .inr (some (8, p0.toNatClampNeg, 14))) (px_at td_Pl_forget 35 rfl) lf_Pl_54 rfl rfl rfl ?_
  refine pw_iconst (v := 5) (px_at td_Pl_forget 36 rfl) (by decide) ?_
  refine pw_bipush (v := 10) (px_at td_Pl_forget 37 rfl) (by decide) ?_
  obtain ⟨σ9, hσ9, h⟩ := px_l_e h
  refine pw_ias (px_at td_Pl_forget 38 rfl) rfl (px_inL (by decide) px_z5 (by decide)) px_z5 hσ9 ?_
  refine pw_aload_n 0 (px_at td_Pl_forget 39 rfl) rfl rfl ?_
  refine pw_getf (v := .inr (some (8, p0.toNatClampNeg, 14))) (px_at td_Pl_forget 40 rfl) lf_Pl_54 rfl rfl rfl ?_
  refine pw_bipush (v := 6) (px_at td_Pl_forget 41 rfl) (by decide) ?_
  refine pw_ldc (v := 99999) (px_at td_Pl_forget 42 rfl) lc_Pl_67 ?_
  obtain ⟨σ10, hσ10, h⟩ := px_l_e h
  refine pw_ias (px_at td_Pl_forget 43 rfl) rfl (px_inL (by decide) px_z6 (by decide)) px_z6 hσ10 ?_
  refine pw_aload_n 0 (px_at td_Pl_forget 44 rfl) rfl rfl ?_
  refine pw_getf (v := .inr (some (8, p0.toNatClampNeg, 14))) (px_at td_Pl_forget 45 rfl) lf_Pl_54 rfl rfl rfl ?_
  refine pw_bipush (v := 7) (px_at td_Pl_forget 46 rfl) (by decide) ?_
  refine pw_iconst (v := 0) (px_at td_Pl_forget 47 rfl) (by decide) ?_
  obtain ⟨σ11, hσ11, h⟩ := px_l_e h
  refine pw_ias (px_at td_Pl_forget 48 rfl) rfl (px_inL (by decide) px_z7 (by decide)) px_z7 hσ11 ?_
  obtain rfl := Option.some.inj h
  exact pw_vret (px_at td_Pl_forget 49 rfl) rfl (Nat.le_refl 0) (Nat.le_refl 0) hR
theorem k_Pl_forget {l : Launch} {ids : List pxI} {σ : pxS} {p0 : Int32} {res : pxS} (h : F_Pl_forget σ p0 = some res) : pm l y_Pl_forget c_Pl_forget 1 none (px_R 1) [.inr (some (1, p0.toNatClampNeg, 0))] ids cG σ (px_r none ids cG res) :=
  pm_ofF (by decide +kernel) (Nat.le_of_ble_eq_true rfl) (e_Pl_forget h ⟨rfl, rfl, rfl, rfl⟩)
/-! Pl_find -/
def Pl_find_n2 (σ : pxS) (p0 : Int32) (v1 : Int32) (v2 : Int32) : Option ((Int32) ⊕ (Nat × Int32)) :=
  (if (σ (1, p0.toNatClampNeg, 0) 0) ≤ v2 then some (.inr (1, 0)) else px_gd v2 12 ((if (σ (8, p0.toNatClampNeg, 0) v2.toNatClampNeg) = v1 then some (.inr (0, v2)) else some (.inl (v2 + 1)))))
set_option maxRecDepth 100000 in
theorem Pl_find_n2_l {l : Launch} {ids : List pxI} {Rt : Option pxV → List pxI → pxG → pxS → Prop} {σ : pxS} {p0 : Int32} {v1 : Int32} {v2 : Int32} {o : (Int32) ⊕ (Nat × Int32)} (h : Pl_find_n2 σ p0 v1 v2 = some o) (hC : ∀ s, o = .inl s → pw l (px_R 1) y_Pl_find c_Pl_find 3 (some .int) 2 [(0, .inr (some (1, p0.toNatClampNeg, 0))), (1, .inl v1), (2, .inl s)] [] ids cG σ 0 0 Rt) (hX0 : ∀ e, o = .inr e → e.1 = 0 → pw l (px_R 1) y_Pl_find c_Pl_find 3 (some .int) 20 [(2, .inl e.2)] [] ids cG σ 0 0 Rt) (hX1 : ∀ e, o = .inr e → e.1 = 1 → pw l (px_R 1) y_Pl_find c_Pl_find 3 (some .int) 28 [] [] ids cG σ 0 0 Rt) : pw l (px_R 1) y_Pl_find c_Pl_find 3 (some .int) 2 [(0, .inr (some (1, p0.toNatClampNeg, 0))), (1, .inl v1), (2, .inl v2)] [] ids cG σ 0 0 Rt := by
  unfold Pl_find_n2 at h
  refine pw_iload_n 2 (px_at td_Pl_find 2 rfl) rfl rfl ?_
  refine pw_aload_n 0 (px_at td_Pl_find 3 rfl) rfl rfl ?_
  refine pw_getf (v := .inl (σ (1, p0.toNatClampNeg, 0) 0)) (px_at td_Pl_find 4 rfl) lf_Pl_57 rfl rfl rfl ?_
  rcases px_ite h with ⟨hc3, h⟩ | ⟨hc3, h⟩
  · refine pw_icmp_ge 28 (px_at td_Pl_find 5 rfl) (by decide) (fun _ => ?_) (fun hn => absurd hc3 hn)
    refine pw_L [] [] rfl ?_
    exact hX1 _ (Option.some.inj h).symm rfl
  · refine pw_icmp_ge 28 (px_at td_Pl_find 5 rfl) (by decide) (fun hn => absurd hn hc3) (fun _ => ?_)
    refine pw_aload_n 0 (px_at td_Pl_find 6 rfl) rfl rfl ?_
    refine pw_getf (v := .inr (some (8, p0.toNatClampNeg, 0))) (px_at td_Pl_find 7 rfl) lf_Pl_9 rfl rfl rfl ?_
    refine pw_iload_n 2 (px_at td_Pl_find 8 rfl) rfl rfl ?_
    obtain ⟨hi1, h⟩ := px_gd_e h
    refine pw_ial (px_at td_Pl_find 9 rfl) rfl hi1 rfl ?_
    refine pw_iload_n 1 (px_at td_Pl_find 10 rfl) rfl rfl ?_
    rcases px_ite h with ⟨hc2, h⟩ | ⟨hc2, h⟩
    · refine pw_icmp_ne 22 (px_at td_Pl_find 11 rfl) (by decide) (fun hn => absurd hc2 hn) (fun _ => ?_)
      refine pw_L [(2, .inl v2)] [2] rfl ?_
      exact hX0 _ (Option.some.inj h).symm rfl
    · refine pw_icmp_ne 22 (px_at td_Pl_find 11 rfl) (by decide) (fun _ => ?_) (fun hn => absurd hn hc2)
      refine pw_iinc (q := 2) (v := (v2 + 1)) (L' := [(2, .inl (v2 + 1)), (0, .inr (some (1, p0.toNatClampNeg, 0))), (1, .inl v1)]) (px_at td_Pl_find 14 rfl) rfl rfl (by decide) rfl ?_
      refine pw_goto 2 (px_at td_Pl_find 15 rfl) (by decide) ?_
      refine pw_L [(0, .inr (some (1, p0.toNatClampNeg, 0))), (1, .inl v1), (2, .inl (v2 + 1))] [1, 2, 0] rfl ?_
      exact hC _ (Option.some.inj h).symm
def Pl_find_L2 (σ : pxS) (p0 : Int32) (v1 : Int32) : (Int32) → Option ((Int32) ⊕ (Nat × Int32)) := fun s => Pl_find_n2 σ p0 v1 s
set_option maxRecDepth 100000 in
theorem Pl_find_L2_l {l : Launch} {ids : List pxI} {Rt : Option pxV → List pxI → pxG → pxS → Prop} {σ : pxS} {p0 : Int32} {v1 : Int32} {n : Nat} {s : Int32} {e : Nat × Int32} (h : px_it (Pl_find_L2 σ p0 v1) n s = some e) (hX0 : e.1 = 0 → pw l (px_R 1) y_Pl_find c_Pl_find 3 (some .int) 20 [(2, .inl e.2)] [] ids cG σ 0 0 Rt) (hX1 : e.1 = 1 → pw l (px_R 1) y_Pl_find c_Pl_find 3 (some .int) 28 [] [] ids cG σ 0 0 Rt) : pw l (px_R 1) y_Pl_find c_Pl_find 3 (some .int) 2 [(0, .inr (some (1, p0.toNatClampNeg, 0))), (1, .inl v1), (2, .inl s)] [] ids cG σ 0 0 Rt := by
  refine px_it_rule (f := Pl_find_L2 σ p0 v1) (C := fun s => pw l (px_R 1) y_Pl_find c_Pl_find 3 (some .int) 2 [(0, .inr (some (1, p0.toNatClampNeg, 0))), (1, .inl v1), (2, .inl s)] [] ids cG σ 0 0 Rt) (X := fun e => (e.1 = 0 → pw l (px_R 1) y_Pl_find c_Pl_find 3 (some .int) 20 [(2, .inl e.2)] [] ids cG σ 0 0 Rt) ∧ (e.1 = 1 → pw l (px_R 1) y_Pl_find c_Pl_find 3 (some .int) 28 [] [] ids cG σ 0 0 Rt)) ?_ ?_ n s e h ⟨hX0, hX1⟩
  · intro s s1 hf hC
    exact Pl_find_n2_l hf (fun s2 hs => by cases hs; exact hC) (fun e he ht => by cases he) (fun e he ht => by cases he)
  · intro s e hf hX
    exact Pl_find_n2_l hf (fun s2 hs => by cases hs) (fun e1 he ht => by cases he; exact hX.1 ht) (fun e1 he ht => by cases he; exact hX.2 ht)
def F_Pl_find (σ : pxS) (p0 : Int32) (v1 : Int32) : Option (Int32) :=
  px_b1 (px_it (Pl_find_L2 σ p0 v1) px_N 0) fun e4 =>
  (if e4.1 = 0 then some (e4.2) else some ((-1)))
set_option maxRecDepth 100000 in
theorem e_Pl_find {l : Launch} {ids : List pxI} {Rt : Option pxV → List pxI → pxG → pxS → Prop} {σ : pxS} {p0 : Int32} {v1 : Int32} {res : Int32} (h : F_Pl_find σ p0 v1 = some res) (hR : Rt (some (.inl res)) ids cG σ) : pw l (px_R 1) y_Pl_find c_Pl_find 3 (some .int) 0 [(0, .inr (some (1, p0.toNatClampNeg, 0))), (1, .inl v1)] [] ids cG σ 0 0 Rt := by
  unfold F_Pl_find at h
  refine pw_iconst (v := 0) (px_at td_Pl_find 0 rfl) (by decide) ?_
  refine pw_istore_n (L' := [(2, .inl 0), (0, .inr (some (1, p0.toNatClampNeg, 0))), (1, .inl v1)]) (px_at td_Pl_find 1 rfl) rfl (by decide) rfl ?_
  obtain ⟨e4, he4, h⟩ := px_b1_e h
  refine pw_L [(0, .inr (some (1, p0.toNatClampNeg, 0))), (1, .inl v1), (2, .inl 0)] [1, 2, 0] rfl ?_
  refine Pl_find_L2_l he4 (fun ht0 => ?_) (fun ht1 => ?_)
  · rw [if_pos ht0] at h
    refine pw_iload_n 0 (px_at td_Pl_find 12 rfl) rfl rfl ?_
    obtain rfl := Option.some.inj h
    exact pw_iret (px_at td_Pl_find 13 rfl) rfl (Nat.le_refl 0) (Nat.le_refl 0) hR
  · rw [if_neg (by rw [ht1]; decide)] at h
    refine pw_iconst (v := (-1)) (px_at td_Pl_find 16 rfl) (by decide) ?_
    obtain rfl := Option.some.inj h
    exact pw_iret (px_at td_Pl_find 17 rfl) rfl (Nat.le_refl 0) (Nat.le_refl 0) hR
theorem k_Pl_find {l : Launch} {ids : List pxI} {σ : pxS} {p0 : Int32} {v1 : Int32} {res : Int32} (h : F_Pl_find σ p0 v1 = some res) : pm l y_Pl_find c_Pl_find 3 (some .int) (px_R 1) [.inr (some (1, p0.toNatClampNeg, 0)), .inl v1] ids cG σ (px_r (some (.inl res)) ids cG σ) :=
  pm_ofF (by decide +kernel) (Nat.le_of_ble_eq_true rfl) (e_Pl_find h ⟨rfl, rfl, rfl, rfl⟩)
/-! Pl_addNeed -/
def F_Pl_addNeed (σ : pxS) (p0 : Int32) (v1 : Int32) (v2 : Int32) : Option (pxS) :=
  (if v1 < 0 then some σ else (if (σ (1, p0.toNatClampNeg, 0) 0) ≤ v1 then some σ else (if 20 ≤ (σ (1, p0.toNatClampNeg, 0) 1) then some σ else px_gd v1 12 (px_gd v1 12 (px_l (px_up σ (8, p0.toNatClampNeg, 7) v1.toNatClampNeg ((σ (8, p0.toNatClampNeg, 7) v1.toNatClampNeg) ||| (1 <<< (v2 &&& 31)))) fun σ3 =>
  px_l (px_up σ3 (1, p0.toNatClampNeg, 0) 1 ((σ3 (1, p0.toNatClampNeg, 0) 1) + 1)) fun σ4 =>
  some σ4)))))
set_option maxRecDepth 100000 in
theorem e_Pl_addNeed {l : Launch} {ids : List pxI} {Rt : Option pxV → List pxI → pxG → pxS → Prop} {σ : pxS} {p0 : Int32} {v1 : Int32} {v2 : Int32} {res : pxS} (h : F_Pl_addNeed σ p0 v1 v2 = some res) (hR : Rt none ids cG res) : pw l (px_R 1) y_Pl_addNeed c_Pl_addNeed 3 none 0 [(0, .inr (some (1, p0.toNatClampNeg, 0))), (1, .inl v1), (2, .inl v2)] [] ids cG σ 0 0 Rt := by
  unfold F_Pl_addNeed at h
  refine pw_iload_n 1 (px_at td_Pl_addNeed 0 rfl) rfl rfl ?_
  rcases px_ite h with ⟨hc7, h⟩ | ⟨hc7, h⟩
  · refine pw_if_lt 43 (px_at td_Pl_addNeed 1 rfl) (by decide) (fun _ => ?_) (fun hn => absurd hc7 hn)
    obtain rfl := Option.some.inj h
    exact pw_vret (px_at td_Pl_addNeed 26 rfl) rfl (Nat.le_refl 0) (Nat.le_refl 0) hR
  · refine pw_if_lt 43 (px_at td_Pl_addNeed 1 rfl) (by decide) (fun hn => absurd hn hc7) (fun _ => ?_)
    refine pw_iload_n 1 (px_at td_Pl_addNeed 2 rfl) rfl rfl ?_
    refine pw_aload_n 0 (px_at td_Pl_addNeed 3 rfl) rfl rfl ?_
    refine pw_getf (v := .inl (σ (1, p0.toNatClampNeg, 0) 0)) (px_at td_Pl_addNeed 4 rfl) lf_Pl_57 rfl rfl rfl ?_
    rcases px_ite h with ⟨hc6, h⟩ | ⟨hc6, h⟩
    · refine pw_icmp_ge 43 (px_at td_Pl_addNeed 5 rfl) (by decide) (fun _ => ?_) (fun hn => absurd hc6 hn)
      obtain rfl := Option.some.inj h
      exact pw_vret (px_at td_Pl_addNeed 26 rfl) rfl (Nat.le_refl 0) (Nat.le_refl 0) hR
    · refine pw_icmp_ge 43 (px_at td_Pl_addNeed 5 rfl) (by decide) (fun hn => absurd hn hc6) (fun _ => ?_)
      refine pw_aload_n 0 (px_at td_Pl_addNeed 6 rfl) rfl rfl ?_
      refine pw_getf (v := .inl (σ (1, p0.toNatClampNeg, 0) 1)) (px_at td_Pl_addNeed 7 rfl) lf_Pl_61 rfl rfl rfl ?_
      refine pw_bipush (v := 20) (px_at td_Pl_addNeed 8 rfl) (by decide) ?_
      rcases px_ite h with ⟨hc5, h⟩ | ⟨hc5, h⟩
      · refine pw_icmp_ge 43 (px_at td_Pl_addNeed 9 rfl) (by decide) (fun _ => ?_) (fun hn => absurd hc5 hn)
        obtain rfl := Option.some.inj h
        exact pw_vret (px_at td_Pl_addNeed 26 rfl) rfl (Nat.le_refl 0) (Nat.le_refl 0) hR
      · refine pw_icmp_ge 43 (px_at td_Pl_addNeed 9 rfl) (by decide) (fun hn => absurd hn hc5) (fun _ => ?_)
        refine pw_aload_n 0 (px_at td_Pl_addNeed 10 rfl) rfl rfl ?_
        refine pw_getf (v := .inr (some (8, p0.toNatClampNeg, 7))) (px_at td_Pl_addNeed 11 rfl) lf_Pl_33 rfl rfl rfl ?_
        refine pw_iload_n 1 (px_at td_Pl_addNeed 12 rfl) rfl rfl ?_
        refine pw_dup2 (px_at td_Pl_addNeed 13 rfl) ?_
        obtain ⟨hi1, h⟩ := px_gd_e h
        refine pw_ial (px_at td_Pl_addNeed 14 rfl) rfl hi1 rfl ?_
        refine pw_iconst (v := 1) (px_at td_Pl_addNeed 15 rfl) (by decide) ?_
        refine pw_iload_n 2 (px_at td_Pl_addNeed 16 rfl) rfl rfl ?_
        refine pw_ishl (px_at td_Pl_addNeed 17 rfl) ?_
        refine pw_ior (px_at td_Pl_addNeed 18 rfl) ?_
        obtain ⟨hi2, h⟩ := px_gd_e h
        obtain ⟨σ3, hσ3, h⟩ := px_l_e h
        refine pw_ias (px_at td_Pl_addNeed 19 rfl) rfl hi2 rfl hσ3 ?_
        refine pw_aload_n 0 (px_at td_Pl_addNeed 20 rfl) rfl rfl ?_
        refine pw_dup (px_at td_Pl_addNeed 21 rfl) ?_
        refine pw_getf (v := .inl (σ3 (1, p0.toNatClampNeg, 0) 1)) (px_at td_Pl_addNeed 22 rfl) lf_Pl_61 rfl rfl rfl ?_
        refine pw_iconst (v := 1) (px_at td_Pl_addNeed 23 rfl) (by decide) ?_
        refine pw_iadd (px_at td_Pl_addNeed 24 rfl) ?_
        obtain ⟨σ4, hσ4, h⟩ := px_l_e h
        refine pw_puti (px_at td_Pl_addNeed 25 rfl) lw_Pl_61 rfl rfl (pw_s hσ4 ?_)
        obtain rfl := Option.some.inj h
        exact pw_vret (px_at td_Pl_addNeed 26 rfl) rfl (Nat.le_refl 0) (Nat.le_refl 0) hR
theorem k_Pl_addNeed {l : Launch} {ids : List pxI} {σ : pxS} {p0 : Int32} {v1 : Int32} {v2 : Int32} {res : pxS} (h : F_Pl_addNeed σ p0 v1 v2 = some res) : pm l y_Pl_addNeed c_Pl_addNeed 3 none (px_R 1) [.inr (some (1, p0.toNatClampNeg, 0)), .inl v1, .inl v2] ids cG σ (px_r none ids cG res) :=
  pm_ofF (by decide +kernel) (Nat.le_of_ble_eq_true rfl) (e_Pl_addNeed h ⟨rfl, rfl, rfl, rfl⟩)
/-! Pl_addStep -/
def F_Pl_addStep (σ : pxS) (p0 : Int32) (v1 : Int32) (v2 : Int32) (v3 : Int32) : Option (pxS) :=
  (if 24 ≤ (σ (1, p0.toNatClampNeg, 0) 2) then some σ else px_gd (σ (1, p0.toNatClampNeg, 0) 2) 24 (px_l (px_up σ (8, p0.toNatClampNeg, 11) (σ (1, p0.toNatClampNeg, 0) 2).toNatClampNeg v1) fun σ2 =>
  px_gd (σ2 (1, p0.toNatClampNeg, 0) 2) 24 (px_l (px_up σ2 (8, p0.toNatClampNeg, 12) (σ2 (1, p0.toNatClampNeg, 0) 2).toNatClampNeg v2) fun σ4 =>
  px_gd (σ4 (1, p0.toNatClampNeg, 0) 2) 24 (px_l (px_up σ4 (8, p0.toNatClampNeg, 13) (σ4 (1, p0.toNatClampNeg, 0) 2).toNatClampNeg v3) fun σ6 =>
  px_l (px_up σ6 (1, p0.toNatClampNeg, 0) 2 ((σ6 (1, p0.toNatClampNeg, 0) 2) + 1)) fun σ7 =>
  some σ7))))
set_option maxRecDepth 100000 in
theorem e_Pl_addStep {l : Launch} {ids : List pxI} {Rt : Option pxV → List pxI → pxG → pxS → Prop} {σ : pxS} {p0 : Int32} {v1 : Int32} {v2 : Int32} {v3 : Int32} {res : pxS} (h : F_Pl_addStep σ p0 v1 v2 v3 = some res) (hR : Rt none ids cG res) : pw l (px_R 1) y_Pl_addStep c_Pl_addStep 4 none 0 [(0, .inr (some (1, p0.toNatClampNeg, 0))), (1, .inl v1), (2, .inl v2), (3, .inl v3)] [] ids cG σ 0 0 Rt := by
  unfold F_Pl_addStep at h
  refine pw_aload_n 0 (px_at td_Pl_addStep 0 rfl) rfl rfl ?_
  refine pw_getf (v := .inl (σ (1, p0.toNatClampNeg, 0) 2)) (px_at td_Pl_addStep 1 rfl) lf_Pl_64 rfl rfl rfl ?_
  refine pw_bipush (v := 24) (px_at td_Pl_addStep 2 rfl) (by decide) ?_
  rcases px_ite h with ⟨hc8, h⟩ | ⟨hc8, h⟩
  · refine pw_icmp_ge 49 (px_at td_Pl_addStep 3 rfl) (by decide) (fun _ => ?_) (fun hn => absurd hc8 hn)
    obtain rfl := Option.some.inj h
    exact pw_vret (px_at td_Pl_addStep 28 rfl) rfl (Nat.le_refl 0) (Nat.le_refl 0) hR
  · refine pw_icmp_ge 49 (px_at td_Pl_addStep 3 rfl) (by decide) (fun hn => absurd hn hc8) (fun _ => ?_)
    refine pw_aload_n 0 (px_at td_Pl_addStep 4 rfl) rfl rfl ?_
    refine pw_getf (v := .inr (some (8, p0.toNatClampNeg, 11))) (px_at td_Pl_addStep 5 rfl) lf_Pl_45 rfl rfl rfl ?_
    refine pw_aload_n 0 (px_at td_Pl_addStep 6 rfl) rfl rfl ?_
    refine pw_getf (v := .inl (σ (1, p0.toNatClampNeg, 0) 2)) (px_at td_Pl_addStep 7 rfl) lf_Pl_64 rfl rfl rfl ?_
    refine pw_iload_n 1 (px_at td_Pl_addStep 8 rfl) rfl rfl ?_
    obtain ⟨hi1, h⟩ := px_gd_e h
    obtain ⟨σ2, hσ2, h⟩ := px_l_e h
    refine pw_ias (px_at td_Pl_addStep 9 rfl) rfl hi1 rfl hσ2 ?_
    refine pw_aload_n 0 (px_at td_Pl_addStep 10 rfl) rfl rfl ?_
    refine pw_getf (v := .inr (some (8, p0.toNatClampNeg, 12))) (px_at td_Pl_addStep 11 rfl) lf_Pl_48 rfl rfl rfl ?_
    refine pw_aload_n 0 (px_at td_Pl_addStep 12 rfl) rfl rfl ?_
    refine pw_getf (v := .inl (σ2 (1, p0.toNatClampNeg, 0) 2)) (px_at td_Pl_addStep 13 rfl) lf_Pl_64 rfl rfl rfl ?_
    refine pw_iload_n 2 (px_at td_Pl_addStep 14 rfl) rfl rfl ?_
    obtain ⟨hi3, h⟩ := px_gd_e h
    obtain ⟨σ4, hσ4, h⟩ := px_l_e h
    refine pw_ias (px_at td_Pl_addStep 15 rfl) rfl hi3 rfl hσ4 ?_
    refine pw_aload_n 0 (px_at td_Pl_addStep 16 rfl) rfl rfl ?_
    refine pw_getf (v := .inr (some (8, p0.toNatClampNeg, 13))) (px_at td_Pl_addStep 17 rfl) lf_Pl_51 rfl rfl rfl ?_
    refine pw_aload_n 0 (px_at td_Pl_addStep 18 rfl) rfl rfl ?_
    refine pw_getf (v := .inl (σ4 (1, p0.toNatClampNeg, 0) 2)) (px_at td_Pl_addStep 19 rfl) lf_Pl_64 rfl rfl rfl ?_
    refine pw_iload_n 3 (px_at td_Pl_addStep 20 rfl) rfl rfl ?_
    obtain ⟨hi5, h⟩ := px_gd_e h
    obtain ⟨σ6, hσ6, h⟩ := px_l_e h
    refine pw_ias (px_at td_Pl_addStep 21 rfl) rfl hi5 rfl hσ6 ?_
    refine pw_aload_n 0 (px_at td_Pl_addStep 22 rfl) rfl rfl ?_
    refine pw_dup (px_at td_Pl_addStep 23 rfl) ?_
    refine pw_getf (v := .inl (σ6 (1, p0.toNatClampNeg, 0) 2)) (px_at td_Pl_addStep 24 rfl) lf_Pl_64 rfl rfl rfl ?_
    refine pw_iconst (v := 1) (px_at td_Pl_addStep 25 rfl) (by decide) ?_
    refine pw_iadd (px_at td_Pl_addStep 26 rfl) ?_
    obtain ⟨σ7, hσ7, h⟩ := px_l_e h
    refine pw_puti (px_at td_Pl_addStep 27 rfl) lw_Pl_64 rfl rfl (pw_s hσ7 ?_)
    obtain rfl := Option.some.inj h
    exact pw_vret (px_at td_Pl_addStep 28 rfl) rfl (Nat.le_refl 0) (Nat.le_refl 0) hR
theorem k_Pl_addStep {l : Launch} {ids : List pxI} {σ : pxS} {p0 : Int32} {v1 : Int32} {v2 : Int32} {v3 : Int32} {res : pxS} (h : F_Pl_addStep σ p0 v1 v2 v3 = some res) : pm l y_Pl_addStep c_Pl_addStep 4 none (px_R 1) [.inr (some (1, p0.toNatClampNeg, 0)), .inl v1, .inl v2, .inl v3] ids cG σ (px_r none ids cG res) :=
  pm_ofF (by decide +kernel) (Nat.le_of_ble_eq_true rfl) (e_Pl_addStep h ⟨rfl, rfl, rfl, rfl⟩)
/-! Pl_tieTogether -/
def Pl_tieTogether_n2 (σ : pxS) (p0 : Int32) (v1 : Int32) : Option ((Int32 × pxS) ⊕ (pxS)) :=
  (if (σ (1, p0.toNatClampNeg, 0) 0) ≤ v1 then some (.inr σ) else px_gd v1 12 (px_gd v1 12 ((if (σ (8, p0.toNatClampNeg, 1) v1.toNatClampNeg) < 0 then px_gd v1 12 (px_l (px_up σ (8, p0.toNatClampNeg, 8) v1.toNatClampNeg ((σ (8, p0.toNatClampNeg, 7) v1.toNatClampNeg) ||| 0)) fun σ4 =>
  px_gd v1 12 (px_gd v1 12 (px_l (px_up σ4 (8, p0.toNatClampNeg, 9) v1.toNatClampNeg (σ4 (8, p0.toNatClampNeg, 8) v1.toNatClampNeg)) fun σ7 =>
  px_gd v1 12 (px_l (px_up σ7 (8, p0.toNatClampNeg, 10) v1.toNatClampNeg 0) fun σ9 =>
  some (.inl ((v1 + 1), σ9)))))) else px_gd v1 12 (px_gd v1 12 (px_l (px_up σ (8, p0.toNatClampNeg, 8) v1.toNatClampNeg ((σ (8, p0.toNatClampNeg, 7) v1.toNatClampNeg) ||| (1 <<< ((σ (8, p0.toNatClampNeg, 1) v1.toNatClampNeg) &&& 31)))) fun σ12 =>
  px_gd v1 12 (px_gd v1 12 (px_l (px_up σ12 (8, p0.toNatClampNeg, 9) v1.toNatClampNeg (σ12 (8, p0.toNatClampNeg, 8) v1.toNatClampNeg)) fun σ15 =>
  px_gd v1 12 (px_l (px_up σ15 (8, p0.toNatClampNeg, 10) v1.toNatClampNeg 0) fun σ17 =>
  some (.inl ((v1 + 1), σ17)))))))))))
set_option maxRecDepth 100000 in
theorem Pl_tieTogether_n2_l {l : Launch} {ids : List pxI} {Rt : Option pxV → List pxI → pxG → pxS → Prop} {σ : pxS} {p0 : Int32} {v1 : Int32} {o : (Int32 × pxS) ⊕ (pxS)} (h : Pl_tieTogether_n2 σ p0 v1 = some o) (hC : ∀ s, o = .inl s → pw l (px_R 1) y_Pl_tieTogether c_Pl_tieTogether 3 none 2 [(0, .inr (some (1, p0.toNatClampNeg, 0))), (1, .inl s.1)] [] ids cG s.2 0 0 Rt) (hX0 : ∀ e, o = .inr e → pw l (px_R 1) y_Pl_tieTogether c_Pl_tieTogether 3 none 69 [(0, .inr (some (1, p0.toNatClampNeg, 0)))] [] ids cG e 0 0 Rt) : pw l (px_R 1) y_Pl_tieTogether c_Pl_tieTogether 3 none 2 [(0, .inr (some (1, p0.toNatClampNeg, 0))), (1, .inl v1)] [] ids cG σ 0 0 Rt := by
  unfold Pl_tieTogether_n2 at h
  refine pw_iload_n 1 (px_at td_Pl_tieTogether 2 rfl) rfl rfl ?_
  refine pw_aload_n 0 (px_at td_Pl_tieTogether 3 rfl) rfl rfl ?_
  refine pw_getf (v := .inl (σ (1, p0.toNatClampNeg, 0) 0)) (px_at td_Pl_tieTogether 4 rfl) lf_Pl_57 rfl rfl rfl ?_
  rcases px_ite h with ⟨hc19, h⟩ | ⟨hc19, h⟩
  · refine pw_icmp_ge 69 (px_at td_Pl_tieTogether 5 rfl) (by decide) (fun _ => ?_) (fun hn => absurd hc19 hn)
    refine pw_L [(0, .inr (some (1, p0.toNatClampNeg, 0)))] [0] rfl ?_
    exact hX0 _ (Option.some.inj h).symm
  · refine pw_icmp_ge 69 (px_at td_Pl_tieTogether 5 rfl) (by decide) (fun hn => absurd hn hc19) (fun _ => ?_)
    refine pw_aload_n 0 (px_at td_Pl_tieTogether 6 rfl) rfl rfl ?_
    refine pw_getf (v := .inr (some (8, p0.toNatClampNeg, 8))) (px_at td_Pl_tieTogether 7 rfl) lf_Pl_36 rfl rfl rfl ?_
    refine pw_iload_n 1 (px_at td_Pl_tieTogether 8 rfl) rfl rfl ?_
    refine pw_aload_n 0 (px_at td_Pl_tieTogether 9 rfl) rfl rfl ?_
    refine pw_getf (v := .inr (some (8, p0.toNatClampNeg, 7))) (px_at td_Pl_tieTogether 10 rfl) lf_Pl_33 rfl rfl rfl ?_
    refine pw_iload_n 1 (px_at td_Pl_tieTogether 11 rfl) rfl rfl ?_
    obtain ⟨hi1, h⟩ := px_gd_e h
    refine pw_ial (px_at td_Pl_tieTogether 12 rfl) rfl hi1 rfl ?_
    refine pw_aload_n 0 (px_at td_Pl_tieTogether 13 rfl) rfl rfl ?_
    refine pw_getf (v := .inr (some (8, p0.toNatClampNeg, 1))) (px_at td_Pl_tieTogether 14 rfl) lf_Pl_15 rfl rfl rfl ?_
    refine pw_iload_n 1 (px_at td_Pl_tieTogether 15 rfl) rfl rfl ?_
    obtain ⟨hi2, h⟩ := px_gd_e h
    refine pw_ial (px_at td_Pl_tieTogether 16 rfl) rfl hi2 rfl ?_
    rcases px_ite h with ⟨hc18, h⟩ | ⟨hc18, h⟩
    · refine pw_if_lt 41 (px_at td_Pl_tieTogether 17 rfl) (by decide) (fun _ => ?_) (fun hn => absurd hc18 hn)
      refine pw_iconst (v := 0) (px_at td_Pl_tieTogether 25 rfl) (by decide) ?_
      refine pw_ior (px_at td_Pl_tieTogether 26 rfl) ?_
      obtain ⟨hi3, h⟩ := px_gd_e h
      obtain ⟨σ4, hσ4, h⟩ := px_l_e h
      refine pw_ias (px_at td_Pl_tieTogether 27 rfl) rfl hi3 rfl hσ4 ?_
      refine pw_aload_n 0 (px_at td_Pl_tieTogether 28 rfl) rfl rfl ?_
      refine pw_getf (v := .inr (some (8, p0.toNatClampNeg, 9))) (px_at td_Pl_tieTogether 29 rfl) lf_Pl_39 rfl rfl rfl ?_
      refine pw_iload_n 1 (px_at td_Pl_tieTogether 30 rfl) rfl rfl ?_
      refine pw_aload_n 0 (px_at td_Pl_tieTogether 31 rfl) rfl rfl ?_
      refine pw_getf (v := .inr (some (8, p0.toNatClampNeg, 8))) (px_at td_Pl_tieTogether 32 rfl) lf_Pl_36 rfl rfl rfl ?_
      refine pw_iload_n 1 (px_at td_Pl_tieTogether 33 rfl) rfl rfl ?_
      obtain ⟨hi5, h⟩ := px_gd_e h
      refine pw_ial (px_at td_Pl_tieTogether 34 rfl) rfl hi5 rfl ?_
      obtain ⟨hi6, h⟩ := px_gd_e h
      obtain ⟨σ7, hσ7, h⟩ := px_l_e h
      refine pw_ias (px_at td_Pl_tieTogether 35 rfl) rfl hi6 rfl hσ7 ?_
      refine pw_aload_n 0 (px_at td_Pl_tieTogether 36 rfl) rfl rfl ?_
      refine pw_getf (v := .inr (some (8, p0.toNatClampNeg, 10))) (px_at td_Pl_tieTogether 37 rfl) lf_Pl_42 rfl rfl rfl ?_
      refine pw_iload_n 1 (px_at td_Pl_tieTogether 38 rfl) rfl rfl ?_
      refine pw_iconst (v := 0) (px_at td_Pl_tieTogether 39 rfl) (by decide) ?_
      obtain ⟨hi8, h⟩ := px_gd_e h
      obtain ⟨σ9, hσ9, h⟩ := px_l_e h
      refine pw_ias (px_at td_Pl_tieTogether 40 rfl) rfl hi8 rfl hσ9 ?_
      refine pw_iinc (q := 1) (v := (v1 + 1)) (L' := [(1, .inl (v1 + 1)), (0, .inr (some (1, p0.toNatClampNeg, 0)))]) (px_at td_Pl_tieTogether 41 rfl) rfl rfl (by decide) rfl ?_
      refine pw_goto 2 (px_at td_Pl_tieTogether 42 rfl) (by decide) ?_
      refine pw_L [(0, .inr (some (1, p0.toNatClampNeg, 0))), (1, .inl (v1 + 1))] [1, 0] rfl ?_
      exact hC _ (Option.some.inj h).symm
    · refine pw_if_lt 41 (px_at td_Pl_tieTogether 17 rfl) (by decide) (fun hn => absurd hn hc18) (fun _ => ?_)
      refine pw_iconst (v := 1) (px_at td_Pl_tieTogether 18 rfl) (by decide) ?_
      refine pw_aload_n 0 (px_at td_Pl_tieTogether 19 rfl) rfl rfl ?_
      refine pw_getf (v := .inr (some (8, p0.toNatClampNeg, 1))) (px_at td_Pl_tieTogether 20 rfl) lf_Pl_15 rfl rfl rfl ?_
      refine pw_iload_n 1 (px_at td_Pl_tieTogether 21 rfl) rfl rfl ?_
      obtain ⟨hi10, h⟩ := px_gd_e h
      refine pw_ial (px_at td_Pl_tieTogether 22 rfl) rfl hi10 rfl ?_
      refine pw_ishl (px_at td_Pl_tieTogether 23 rfl) ?_
      refine pw_goto 42 (px_at td_Pl_tieTogether 24 rfl) (by decide) ?_
      refine pw_ior (px_at td_Pl_tieTogether 26 rfl) ?_
      obtain ⟨hi11, h⟩ := px_gd_e h
      obtain ⟨σ12, hσ12, h⟩ := px_l_e h
      refine pw_ias (px_at td_Pl_tieTogether 27 rfl) rfl hi11 rfl hσ12 ?_
      refine pw_aload_n 0 (px_at td_Pl_tieTogether 28 rfl) rfl rfl ?_
      refine pw_getf (v := .inr (some (8, p0.toNatClampNeg, 9))) (px_at td_Pl_tieTogether 29 rfl) lf_Pl_39 rfl rfl rfl ?_
      refine pw_iload_n 1 (px_at td_Pl_tieTogether 30 rfl) rfl rfl ?_
      refine pw_aload_n 0 (px_at td_Pl_tieTogether 31 rfl) rfl rfl ?_
      refine pw_getf (v := .inr (some (8, p0.toNatClampNeg, 8))) (px_at td_Pl_tieTogether 32 rfl) lf_Pl_36 rfl rfl rfl ?_
      refine pw_iload_n 1 (px_at td_Pl_tieTogether 33 rfl) rfl rfl ?_
      obtain ⟨hi13, h⟩ := px_gd_e h
      refine pw_ial (px_at td_Pl_tieTogether 34 rfl) rfl hi13 rfl ?_
      obtain ⟨hi14, h⟩ := px_gd_e h
      obtain ⟨σ15, hσ15, h⟩ := px_l_e h
      refine pw_ias (px_at td_Pl_tieTogether 35 rfl) rfl hi14 rfl hσ15 ?_
      refine pw_aload_n 0 (px_at td_Pl_tieTogether 36 rfl) rfl rfl ?_
      refine pw_getf (v := .inr (some (8, p0.toNatClampNeg, 10))) (px_at td_Pl_tieTogether 37 rfl) lf_Pl_42 rfl rfl rfl ?_
      refine pw_iload_n 1 (px_at td_Pl_tieTogether 38 rfl) rfl rfl ?_
      refine pw_iconst (v := 0) (px_at td_Pl_tieTogether 39 rfl) (by decide) ?_
      obtain ⟨hi16, h⟩ := px_gd_e h
      obtain ⟨σ17, hσ17, h⟩ := px_l_e h
      refine pw_ias (px_at td_Pl_tieTogether 40 rfl) rfl hi16 rfl hσ17 ?_
      refine pw_iinc (q := 1) (v := (v1 + 1)) (L' := [(1, .inl (v1 + 1)), (0, .inr (some (1, p0.toNatClampNeg, 0)))]) (px_at td_Pl_tieTogether 41 rfl) rfl rfl (by decide) rfl ?_
      refine pw_goto 2 (px_at td_Pl_tieTogether 42 rfl) (by decide) ?_
      refine pw_L [(0, .inr (some (1, p0.toNatClampNeg, 0))), (1, .inl (v1 + 1))] [1, 0] rfl ?_
      exact hC _ (Option.some.inj h).symm
def Pl_tieTogether_L2 (p0 : Int32) : (Int32 × pxS) → Option ((Int32 × pxS) ⊕ (pxS)) := fun s => Pl_tieTogether_n2 s.2 p0 s.1
set_option maxRecDepth 100000 in
theorem Pl_tieTogether_L2_l {l : Launch} {ids : List pxI} {Rt : Option pxV → List pxI → pxG → pxS → Prop} {p0 : Int32} {n : Nat} {s : Int32 × pxS} {e : pxS} (h : px_it (Pl_tieTogether_L2 p0) n s = some e) (hX0 : pw l (px_R 1) y_Pl_tieTogether c_Pl_tieTogether 3 none 69 [(0, .inr (some (1, p0.toNatClampNeg, 0)))] [] ids cG e 0 0 Rt) : pw l (px_R 1) y_Pl_tieTogether c_Pl_tieTogether 3 none 2 [(0, .inr (some (1, p0.toNatClampNeg, 0))), (1, .inl s.1)] [] ids cG s.2 0 0 Rt := by
  refine px_it_rule (f := Pl_tieTogether_L2 p0) (C := fun s => pw l (px_R 1) y_Pl_tieTogether c_Pl_tieTogether 3 none 2 [(0, .inr (some (1, p0.toNatClampNeg, 0))), (1, .inl s.1)] [] ids cG s.2 0 0 Rt) (X := fun e => (pw l (px_R 1) y_Pl_tieTogether c_Pl_tieTogether 3 none 69 [(0, .inr (some (1, p0.toNatClampNeg, 0)))] [] ids cG e 0 0 Rt)) ?_ ?_ n s e h hX0
  · intro s s1 hf hC
    exact Pl_tieTogether_n2_l hf (fun s2 hs => by cases hs; exact hC) (fun e he => by cases he)
  · intro s e hf hX
    exact Pl_tieTogether_n2_l hf (fun s2 hs => by cases hs) (fun e1 he => by cases he; exact hX)
def Pl_tieTogether_n117 (σ : pxS) (p0 : Int32) (v1 : Int32) (v2 : Int32) : Option ((Int32 × pxS) ⊕ (pxS)) :=
  some (.inl ((v2 + 1), σ))
set_option maxRecDepth 100000 in
theorem Pl_tieTogether_n117_l {l : Launch} {ids : List pxI} {Rt : Option pxV → List pxI → pxG → pxS → Prop} {σ : pxS} {p0 : Int32} {v1 : Int32} {v2 : Int32} {o : (Int32 × pxS) ⊕ (pxS)} (h : Pl_tieTogether_n117 σ p0 v1 v2 = some o) (hC : ∀ s, o = .inl s → pw l (px_R 1) y_Pl_tieTogether c_Pl_tieTogether 3 none 81 [(0, .inr (some (1, p0.toNatClampNeg, 0))), (1, .inl v1), (2, .inl s.1)] [] ids cG s.2 0 0 Rt) (hX0 : ∀ e, o = .inr e → pw l (px_R 1) y_Pl_tieTogether c_Pl_tieTogether 3 none 123 [(0, .inr (some (1, p0.toNatClampNeg, 0))), (1, .inl v1)] [] ids cG e 0 0 Rt) : pw l (px_R 1) y_Pl_tieTogether c_Pl_tieTogether 3 none 117 [(0, .inr (some (1, p0.toNatClampNeg, 0))), (1, .inl v1), (2, .inl v2)] [] ids cG σ 0 0 Rt := by
  unfold Pl_tieTogether_n117 at h
  refine pw_iinc (q := 2) (v := (v2 + 1)) (L' := [(2, .inl (v2 + 1)), (0, .inr (some (1, p0.toNatClampNeg, 0))), (1, .inl v1)]) (px_at td_Pl_tieTogether 75 rfl) rfl rfl (by decide) rfl ?_
  refine pw_goto 81 (px_at td_Pl_tieTogether 76 rfl) (by decide) ?_
  refine pw_L [(0, .inr (some (1, p0.toNatClampNeg, 0))), (1, .inl v1), (2, .inl (v2 + 1))] [1, 2, 0] rfl ?_
  exact hC _ (Option.some.inj h).symm
def Pl_tieTogether_n81 (σ : pxS) (p0 : Int32) (v1 : Int32) (v2 : Int32) : Option ((Int32 × pxS) ⊕ (pxS)) :=
  (if (σ (1, p0.toNatClampNeg, 0) 0) ≤ v2 then some (.inr σ) else px_gd v2 12 ((if (((σ (8, p0.toNatClampNeg, 9) v2.toNatClampNeg) >>> (v1 &&& 31)) &&& 1) = 0 then Pl_tieTogether_n117 σ p0 v1 v2 else px_gd v2 12 (px_gd v1 12 (px_gd v2 12 (px_l (px_up σ (8, p0.toNatClampNeg, 9) v2.toNatClampNeg ((σ (8, p0.toNatClampNeg, 9) v2.toNatClampNeg) ||| (σ (8, p0.toNatClampNeg, 9) v1.toNatClampNeg))) fun σ25 =>
  Pl_tieTogether_n117 σ25 p0 v1 v2))))))
set_option maxRecDepth 100000 in
theorem Pl_tieTogether_n81_l {l : Launch} {ids : List pxI} {Rt : Option pxV → List pxI → pxG → pxS → Prop} {σ : pxS} {p0 : Int32} {v1 : Int32} {v2 : Int32} {o : (Int32 × pxS) ⊕ (pxS)} (h : Pl_tieTogether_n81 σ p0 v1 v2 = some o) (hC : ∀ s, o = .inl s → pw l (px_R 1) y_Pl_tieTogether c_Pl_tieTogether 3 none 81 [(0, .inr (some (1, p0.toNatClampNeg, 0))), (1, .inl v1), (2, .inl s.1)] [] ids cG s.2 0 0 Rt) (hX0 : ∀ e, o = .inr e → pw l (px_R 1) y_Pl_tieTogether c_Pl_tieTogether 3 none 123 [(0, .inr (some (1, p0.toNatClampNeg, 0))), (1, .inl v1)] [] ids cG e 0 0 Rt) : pw l (px_R 1) y_Pl_tieTogether c_Pl_tieTogether 3 none 81 [(0, .inr (some (1, p0.toNatClampNeg, 0))), (1, .inl v1), (2, .inl v2)] [] ids cG σ 0 0 Rt := by
  unfold Pl_tieTogether_n81 at h
  refine pw_iload_n 2 (px_at td_Pl_tieTogether 51 rfl) rfl rfl ?_
  refine pw_aload_n 0 (px_at td_Pl_tieTogether 52 rfl) rfl rfl ?_
  refine pw_getf (v := .inl (σ (1, p0.toNatClampNeg, 0) 0)) (px_at td_Pl_tieTogether 53 rfl) lf_Pl_57 rfl rfl rfl ?_
  rcases px_ite h with ⟨hc27, h⟩ | ⟨hc27, h⟩
  · refine pw_icmp_ge 123 (px_at td_Pl_tieTogether 54 rfl) (by decide) (fun _ => ?_) (fun hn => absurd hc27 hn)
    refine pw_L [(0, .inr (some (1, p0.toNatClampNeg, 0))), (1, .inl v1)] [0, 1] rfl ?_
    exact hX0 _ (Option.some.inj h).symm
  · refine pw_icmp_ge 123 (px_at td_Pl_tieTogether 54 rfl) (by decide) (fun hn => absurd hn hc27) (fun _ => ?_)
    refine pw_aload_n 0 (px_at td_Pl_tieTogether 55 rfl) rfl rfl ?_
    refine pw_getf (v := .inr (some (8, p0.toNatClampNeg, 9))) (px_at td_Pl_tieTogether 56 rfl) lf_Pl_39 rfl rfl rfl ?_
    refine pw_iload_n 2 (px_at td_Pl_tieTogether 57 rfl) rfl rfl ?_
    obtain ⟨hi21, h⟩ := px_gd_e h
    refine pw_ial (px_at td_Pl_tieTogether 58 rfl) rfl hi21 rfl ?_
    refine pw_iload_n 1 (px_at td_Pl_tieTogether 59 rfl) rfl rfl ?_
    refine pw_ishr (px_at td_Pl_tieTogether 60 rfl) ?_
    refine pw_iconst (v := 1) (px_at td_Pl_tieTogether 61 rfl) (by decide) ?_
    refine pw_iand (px_at td_Pl_tieTogether 62 rfl) ?_
    rcases px_ite h with ⟨hc26, h⟩ | ⟨hc26, h⟩
    · refine pw_if_eq 117 (px_at td_Pl_tieTogether 63 rfl) (by decide) (fun _ => ?_) (fun hn => absurd hc26 hn)
      exact Pl_tieTogether_n117_l h hC hX0
    · refine pw_if_eq 117 (px_at td_Pl_tieTogether 63 rfl) (by decide) (fun hn => absurd hn hc26) (fun _ => ?_)
      refine pw_aload_n 0 (px_at td_Pl_tieTogether 64 rfl) rfl rfl ?_
      refine pw_getf (v := .inr (some (8, p0.toNatClampNeg, 9))) (px_at td_Pl_tieTogether 65 rfl) lf_Pl_39 rfl rfl rfl ?_
      refine pw_iload_n 2 (px_at td_Pl_tieTogether 66 rfl) rfl rfl ?_
      refine pw_dup2 (px_at td_Pl_tieTogether 67 rfl) ?_
      obtain ⟨hi22, h⟩ := px_gd_e h
      refine pw_ial (px_at td_Pl_tieTogether 68 rfl) rfl hi22 rfl ?_
      refine pw_aload_n 0 (px_at td_Pl_tieTogether 69 rfl) rfl rfl ?_
      refine pw_getf (v := .inr (some (8, p0.toNatClampNeg, 9))) (px_at td_Pl_tieTogether 70 rfl) lf_Pl_39 rfl rfl rfl ?_
      refine pw_iload_n 1 (px_at td_Pl_tieTogether 71 rfl) rfl rfl ?_
      obtain ⟨hi23, h⟩ := px_gd_e h
      refine pw_ial (px_at td_Pl_tieTogether 72 rfl) rfl hi23 rfl ?_
      refine pw_ior (px_at td_Pl_tieTogether 73 rfl) ?_
      obtain ⟨hi24, h⟩ := px_gd_e h
      obtain ⟨σ25, hσ25, h⟩ := px_l_e h
      refine pw_ias (px_at td_Pl_tieTogether 74 rfl) rfl hi24 rfl hσ25 ?_
      exact Pl_tieTogether_n117_l h hC hX0
def Pl_tieTogether_L81 (p0 : Int32) (v1 : Int32) : (Int32 × pxS) → Option ((Int32 × pxS) ⊕ (pxS)) := fun s => Pl_tieTogether_n81 s.2 p0 v1 s.1
set_option maxRecDepth 100000 in
theorem Pl_tieTogether_L81_l {l : Launch} {ids : List pxI} {Rt : Option pxV → List pxI → pxG → pxS → Prop} {p0 : Int32} {v1 : Int32} {n : Nat} {s : Int32 × pxS} {e : pxS} (h : px_it (Pl_tieTogether_L81 p0 v1) n s = some e) (hX0 : pw l (px_R 1) y_Pl_tieTogether c_Pl_tieTogether 3 none 123 [(0, .inr (some (1, p0.toNatClampNeg, 0))), (1, .inl v1)] [] ids cG e 0 0 Rt) : pw l (px_R 1) y_Pl_tieTogether c_Pl_tieTogether 3 none 81 [(0, .inr (some (1, p0.toNatClampNeg, 0))), (1, .inl v1), (2, .inl s.1)] [] ids cG s.2 0 0 Rt := by
  refine px_it_rule (f := Pl_tieTogether_L81 p0 v1) (C := fun s => pw l (px_R 1) y_Pl_tieTogether c_Pl_tieTogether 3 none 81 [(0, .inr (some (1, p0.toNatClampNeg, 0))), (1, .inl v1), (2, .inl s.1)] [] ids cG s.2 0 0 Rt) (X := fun e => (pw l (px_R 1) y_Pl_tieTogether c_Pl_tieTogether 3 none 123 [(0, .inr (some (1, p0.toNatClampNeg, 0))), (1, .inl v1)] [] ids cG e 0 0 Rt)) ?_ ?_ n s e h hX0
  · intro s s1 hf hC
    exact Pl_tieTogether_n81_l hf (fun s2 hs => by cases hs; exact hC) (fun e he => by cases he)
  · intro s e hf hX
    exact Pl_tieTogether_n81_l hf (fun s2 hs => by cases hs) (fun e1 he => by cases he; exact hX)
def Pl_tieTogether_n71 (σ : pxS) (p0 : Int32) (v1 : Int32) : Option ((Int32 × pxS) ⊕ (pxS)) :=
  (if (σ (1, p0.toNatClampNeg, 0) 0) ≤ v1 then some (.inr σ) else px_b1 (px_it (Pl_tieTogether_L81 p0 v1) px_N (0, σ)) fun e28 =>
  some (.inl ((v1 + 1), e28)))
set_option maxRecDepth 100000 in
theorem Pl_tieTogether_n71_l {l : Launch} {ids : List pxI} {Rt : Option pxV → List pxI → pxG → pxS → Prop} {σ : pxS} {p0 : Int32} {v1 : Int32} {o : (Int32 × pxS) ⊕ (pxS)} (h : Pl_tieTogether_n71 σ p0 v1 = some o) (hC : ∀ s, o = .inl s → pw l (px_R 1) y_Pl_tieTogether c_Pl_tieTogether 3 none 71 [(0, .inr (some (1, p0.toNatClampNeg, 0))), (1, .inl s.1)] [] ids cG s.2 0 0 Rt) (hX0 : ∀ e, o = .inr e → pw l (px_R 1) y_Pl_tieTogether c_Pl_tieTogether 3 none 129 [(0, .inr (some (1, p0.toNatClampNeg, 0)))] [] ids cG e 0 0 Rt) : pw l (px_R 1) y_Pl_tieTogether c_Pl_tieTogether 3 none 71 [(0, .inr (some (1, p0.toNatClampNeg, 0))), (1, .inl v1)] [] ids cG σ 0 0 Rt := by
  unfold Pl_tieTogether_n71 at h
  refine pw_iload_n 1 (px_at td_Pl_tieTogether 45 rfl) rfl rfl ?_
  refine pw_aload_n 0 (px_at td_Pl_tieTogether 46 rfl) rfl rfl ?_
  refine pw_getf (v := .inl (σ (1, p0.toNatClampNeg, 0) 0)) (px_at td_Pl_tieTogether 47 rfl) lf_Pl_57 rfl rfl rfl ?_
  rcases px_ite h with ⟨hc29, h⟩ | ⟨hc29, h⟩
  · refine pw_icmp_ge 129 (px_at td_Pl_tieTogether 48 rfl) (by decide) (fun _ => ?_) (fun hn => absurd hc29 hn)
    refine pw_L [(0, .inr (some (1, p0.toNatClampNeg, 0)))] [0] rfl ?_
    exact hX0 _ (Option.some.inj h).symm
  · refine pw_icmp_ge 129 (px_at td_Pl_tieTogether 48 rfl) (by decide) (fun hn => absurd hn hc29) (fun _ => ?_)
    refine pw_iconst (v := 0) (px_at td_Pl_tieTogether 49 rfl) (by decide) ?_
    refine pw_istore_n (L' := [(2, .inl 0), (0, .inr (some (1, p0.toNatClampNeg, 0))), (1, .inl v1)]) (px_at td_Pl_tieTogether 50 rfl) rfl (by decide) rfl ?_
    obtain ⟨e28, he28, h⟩ := px_b1_e h
    refine pw_L [(0, .inr (some (1, p0.toNatClampNeg, 0))), (1, .inl v1), (2, .inl 0)] [1, 2, 0] rfl ?_
    refine Pl_tieTogether_L81_l he28 ?_
    refine pw_iinc (q := 1) (v := (v1 + 1)) (L' := [(1, .inl (v1 + 1)), (0, .inr (some (1, p0.toNatClampNeg, 0)))]) (px_at td_Pl_tieTogether 77 rfl) rfl rfl (by decide) rfl ?_
    refine pw_goto 71 (px_at td_Pl_tieTogether 78 rfl) (by decide) ?_
    refine pw_L [(0, .inr (some (1, p0.toNatClampNeg, 0))), (1, .inl (v1 + 1))] [1, 0] rfl ?_
    exact hC _ (Option.some.inj h).symm
def Pl_tieTogether_L71 (p0 : Int32) : (Int32 × pxS) → Option ((Int32 × pxS) ⊕ (pxS)) := fun s => Pl_tieTogether_n71 s.2 p0 s.1
set_option maxRecDepth 100000 in
theorem Pl_tieTogether_L71_l {l : Launch} {ids : List pxI} {Rt : Option pxV → List pxI → pxG → pxS → Prop} {p0 : Int32} {n : Nat} {s : Int32 × pxS} {e : pxS} (h : px_it (Pl_tieTogether_L71 p0) n s = some e) (hX0 : pw l (px_R 1) y_Pl_tieTogether c_Pl_tieTogether 3 none 129 [(0, .inr (some (1, p0.toNatClampNeg, 0)))] [] ids cG e 0 0 Rt) : pw l (px_R 1) y_Pl_tieTogether c_Pl_tieTogether 3 none 71 [(0, .inr (some (1, p0.toNatClampNeg, 0))), (1, .inl s.1)] [] ids cG s.2 0 0 Rt := by
  refine px_it_rule (f := Pl_tieTogether_L71 p0) (C := fun s => pw l (px_R 1) y_Pl_tieTogether c_Pl_tieTogether 3 none 71 [(0, .inr (some (1, p0.toNatClampNeg, 0))), (1, .inl s.1)] [] ids cG s.2 0 0 Rt) (X := fun e => (pw l (px_R 1) y_Pl_tieTogether c_Pl_tieTogether 3 none 129 [(0, .inr (some (1, p0.toNatClampNeg, 0)))] [] ids cG e 0 0 Rt)) ?_ ?_ n s e h hX0
  · intro s s1 hf hC
    exact Pl_tieTogether_n71_l hf (fun s2 hs => by cases hs; exact hC) (fun e he => by cases he)
  · intro s e hf hX
    exact Pl_tieTogether_n71_l hf (fun s2 hs => by cases hs) (fun e1 he => by cases he; exact hX)
def Pl_tieTogether_n141 (σ : pxS) (p0 : Int32) (v1 : Int32) (v2 : Int32) : Option ((Int32 × pxS) ⊕ (pxS)) :=
  (if (σ (1, p0.toNatClampNeg, 0) 0) ≤ v2 then some (.inr σ) else px_gd v1 12 (px_gd v2 12 (px_gd v1 12 (px_l (px_up σ (8, p0.toNatClampNeg, 10) v1.toNatClampNeg ((σ (8, p0.toNatClampNeg, 10) v1.toNatClampNeg) ||| ((((σ (8, p0.toNatClampNeg, 9) v2.toNatClampNeg) >>> (v1 &&& 31)) &&& 1) <<< (v2 &&& 31)))) fun σ34 =>
  some (.inl ((v2 + 1), σ34))))))
set_option maxRecDepth 100000 in
theorem Pl_tieTogether_n141_l {l : Launch} {ids : List pxI} {Rt : Option pxV → List pxI → pxG → pxS → Prop} {σ : pxS} {p0 : Int32} {v1 : Int32} {v2 : Int32} {o : (Int32 × pxS) ⊕ (pxS)} (h : Pl_tieTogether_n141 σ p0 v1 v2 = some o) (hC : ∀ s, o = .inl s → pw l (px_R 1) y_Pl_tieTogether c_Pl_tieTogether 3 none 141 [(0, .inr (some (1, p0.toNatClampNeg, 0))), (1, .inl v1), (2, .inl s.1)] [] ids cG s.2 0 0 Rt) (hX0 : ∀ e, o = .inr e → pw l (px_R 1) y_Pl_tieTogether c_Pl_tieTogether 3 none 176 [(0, .inr (some (1, p0.toNatClampNeg, 0))), (1, .inl v1)] [] ids cG e 0 0 Rt) : pw l (px_R 1) y_Pl_tieTogether c_Pl_tieTogether 3 none 141 [(0, .inr (some (1, p0.toNatClampNeg, 0))), (1, .inl v1), (2, .inl v2)] [] ids cG σ 0 0 Rt := by
  unfold Pl_tieTogether_n141 at h
  refine pw_iload_n 2 (px_at td_Pl_tieTogether 87 rfl) rfl rfl ?_
  refine pw_aload_n 0 (px_at td_Pl_tieTogether 88 rfl) rfl rfl ?_
  refine pw_getf (v := .inl (σ (1, p0.toNatClampNeg, 0) 0)) (px_at td_Pl_tieTogether 89 rfl) lf_Pl_57 rfl rfl rfl ?_
  rcases px_ite h with ⟨hc35, h⟩ | ⟨hc35, h⟩
  · refine pw_icmp_ge 176 (px_at td_Pl_tieTogether 90 rfl) (by decide) (fun _ => ?_) (fun hn => absurd hc35 hn)
    refine pw_L [(0, .inr (some (1, p0.toNatClampNeg, 0))), (1, .inl v1)] [0, 1] rfl ?_
    exact hX0 _ (Option.some.inj h).symm
  · refine pw_icmp_ge 176 (px_at td_Pl_tieTogether 90 rfl) (by decide) (fun hn => absurd hn hc35) (fun _ => ?_)
    refine pw_aload_n 0 (px_at td_Pl_tieTogether 91 rfl) rfl rfl ?_
    refine pw_getf (v := .inr (some (8, p0.toNatClampNeg, 10))) (px_at td_Pl_tieTogether 92 rfl) lf_Pl_42 rfl rfl rfl ?_
    refine pw_iload_n 1 (px_at td_Pl_tieTogether 93 rfl) rfl rfl ?_
    refine pw_dup2 (px_at td_Pl_tieTogether 94 rfl) ?_
    obtain ⟨hi31, h⟩ := px_gd_e h
    refine pw_ial (px_at td_Pl_tieTogether 95 rfl) rfl hi31 rfl ?_
    refine pw_aload_n 0 (px_at td_Pl_tieTogether 96 rfl) rfl rfl ?_
    refine pw_getf (v := .inr (some (8, p0.toNatClampNeg, 9))) (px_at td_Pl_tieTogether 97 rfl) lf_Pl_39 rfl rfl rfl ?_
    refine pw_iload_n 2 (px_at td_Pl_tieTogether 98 rfl) rfl rfl ?_
    obtain ⟨hi32, h⟩ := px_gd_e h
    refine pw_ial (px_at td_Pl_tieTogether 99 rfl) rfl hi32 rfl ?_
    refine pw_iload_n 1 (px_at td_Pl_tieTogether 100 rfl) rfl rfl ?_
    refine pw_ishr (px_at td_Pl_tieTogether 101 rfl) ?_
    refine pw_iconst (v := 1) (px_at td_Pl_tieTogether 102 rfl) (by decide) ?_
    refine pw_iand (px_at td_Pl_tieTogether 103 rfl) ?_
    refine pw_iload_n 2 (px_at td_Pl_tieTogether 104 rfl) rfl rfl ?_
    refine pw_ishl (px_at td_Pl_tieTogether 105 rfl) ?_
    refine pw_ior (px_at td_Pl_tieTogether 106 rfl) ?_
    obtain ⟨hi33, h⟩ := px_gd_e h
    obtain ⟨σ34, hσ34, h⟩ := px_l_e h
    refine pw_ias (px_at td_Pl_tieTogether 107 rfl) rfl hi33 rfl hσ34 ?_
    refine pw_iinc (q := 2) (v := (v2 + 1)) (L' := [(2, .inl (v2 + 1)), (0, .inr (some (1, p0.toNatClampNeg, 0))), (1, .inl v1)]) (px_at td_Pl_tieTogether 108 rfl) rfl rfl (by decide) rfl ?_
    refine pw_goto 141 (px_at td_Pl_tieTogether 109 rfl) (by decide) ?_
    refine pw_L [(0, .inr (some (1, p0.toNatClampNeg, 0))), (1, .inl v1), (2, .inl (v2 + 1))] [1, 2, 0] rfl ?_
    exact hC _ (Option.some.inj h).symm
def Pl_tieTogether_L141 (p0 : Int32) (v1 : Int32) : (Int32 × pxS) → Option ((Int32 × pxS) ⊕ (pxS)) := fun s => Pl_tieTogether_n141 s.2 p0 v1 s.1
set_option maxRecDepth 100000 in
theorem Pl_tieTogether_L141_l {l : Launch} {ids : List pxI} {Rt : Option pxV → List pxI → pxG → pxS → Prop} {p0 : Int32} {v1 : Int32} {n : Nat} {s : Int32 × pxS} {e : pxS} (h : px_it (Pl_tieTogether_L141 p0 v1) n s = some e) (hX0 : pw l (px_R 1) y_Pl_tieTogether c_Pl_tieTogether 3 none 176 [(0, .inr (some (1, p0.toNatClampNeg, 0))), (1, .inl v1)] [] ids cG e 0 0 Rt) : pw l (px_R 1) y_Pl_tieTogether c_Pl_tieTogether 3 none 141 [(0, .inr (some (1, p0.toNatClampNeg, 0))), (1, .inl v1), (2, .inl s.1)] [] ids cG s.2 0 0 Rt := by
  refine px_it_rule (f := Pl_tieTogether_L141 p0 v1) (C := fun s => pw l (px_R 1) y_Pl_tieTogether c_Pl_tieTogether 3 none 141 [(0, .inr (some (1, p0.toNatClampNeg, 0))), (1, .inl v1), (2, .inl s.1)] [] ids cG s.2 0 0 Rt) (X := fun e => (pw l (px_R 1) y_Pl_tieTogether c_Pl_tieTogether 3 none 176 [(0, .inr (some (1, p0.toNatClampNeg, 0))), (1, .inl v1)] [] ids cG e 0 0 Rt)) ?_ ?_ n s e h hX0
  · intro s s1 hf hC
    exact Pl_tieTogether_n141_l hf (fun s2 hs => by cases hs; exact hC) (fun e he => by cases he)
  · intro s e hf hX
    exact Pl_tieTogether_n141_l hf (fun s2 hs => by cases hs) (fun e1 he => by cases he; exact hX)
def Pl_tieTogether_n131 (σ : pxS) (p0 : Int32) (v1 : Int32) : Option ((Int32 × pxS) ⊕ (pxS)) :=
  (if (σ (1, p0.toNatClampNeg, 0) 0) ≤ v1 then some (.inr σ) else px_b1 (px_it (Pl_tieTogether_L141 p0 v1) px_N (0, σ)) fun e36 =>
  some (.inl ((v1 + 1), e36)))
set_option maxRecDepth 100000 in
theorem Pl_tieTogether_n131_l {l : Launch} {ids : List pxI} {Rt : Option pxV → List pxI → pxG → pxS → Prop} {σ : pxS} {p0 : Int32} {v1 : Int32} {o : (Int32 × pxS) ⊕ (pxS)} (h : Pl_tieTogether_n131 σ p0 v1 = some o) (hC : ∀ s, o = .inl s → pw l (px_R 1) y_Pl_tieTogether c_Pl_tieTogether 3 none 131 [(0, .inr (some (1, p0.toNatClampNeg, 0))), (1, .inl s.1)] [] ids cG s.2 0 0 Rt) (hX0 : ∀ e, o = .inr e → pw l (px_R 1) y_Pl_tieTogether c_Pl_tieTogether 3 none 182 [] [] ids cG e 0 0 Rt) : pw l (px_R 1) y_Pl_tieTogether c_Pl_tieTogether 3 none 131 [(0, .inr (some (1, p0.toNatClampNeg, 0))), (1, .inl v1)] [] ids cG σ 0 0 Rt := by
  unfold Pl_tieTogether_n131 at h
  refine pw_iload_n 1 (px_at td_Pl_tieTogether 81 rfl) rfl rfl ?_
  refine pw_aload_n 0 (px_at td_Pl_tieTogether 82 rfl) rfl rfl ?_
  refine pw_getf (v := .inl (σ (1, p0.toNatClampNeg, 0) 0)) (px_at td_Pl_tieTogether 83 rfl) lf_Pl_57 rfl rfl rfl ?_
  rcases px_ite h with ⟨hc37, h⟩ | ⟨hc37, h⟩
  · refine pw_icmp_ge 182 (px_at td_Pl_tieTogether 84 rfl) (by decide) (fun _ => ?_) (fun hn => absurd hc37 hn)
    refine pw_L [] [] rfl ?_
    exact hX0 _ (Option.some.inj h).symm
  · refine pw_icmp_ge 182 (px_at td_Pl_tieTogether 84 rfl) (by decide) (fun hn => absurd hn hc37) (fun _ => ?_)
    refine pw_iconst (v := 0) (px_at td_Pl_tieTogether 85 rfl) (by decide) ?_
    refine pw_istore_n (L' := [(2, .inl 0), (0, .inr (some (1, p0.toNatClampNeg, 0))), (1, .inl v1)]) (px_at td_Pl_tieTogether 86 rfl) rfl (by decide) rfl ?_
    obtain ⟨e36, he36, h⟩ := px_b1_e h
    refine pw_L [(0, .inr (some (1, p0.toNatClampNeg, 0))), (1, .inl v1), (2, .inl 0)] [1, 2, 0] rfl ?_
    refine Pl_tieTogether_L141_l he36 ?_
    refine pw_iinc (q := 1) (v := (v1 + 1)) (L' := [(1, .inl (v1 + 1)), (0, .inr (some (1, p0.toNatClampNeg, 0)))]) (px_at td_Pl_tieTogether 110 rfl) rfl rfl (by decide) rfl ?_
    refine pw_goto 131 (px_at td_Pl_tieTogether 111 rfl) (by decide) ?_
    refine pw_L [(0, .inr (some (1, p0.toNatClampNeg, 0))), (1, .inl (v1 + 1))] [1, 0] rfl ?_
    exact hC _ (Option.some.inj h).symm
def Pl_tieTogether_L131 (p0 : Int32) : (Int32 × pxS) → Option ((Int32 × pxS) ⊕ (pxS)) := fun s => Pl_tieTogether_n131 s.2 p0 s.1
set_option maxRecDepth 100000 in
theorem Pl_tieTogether_L131_l {l : Launch} {ids : List pxI} {Rt : Option pxV → List pxI → pxG → pxS → Prop} {p0 : Int32} {n : Nat} {s : Int32 × pxS} {e : pxS} (h : px_it (Pl_tieTogether_L131 p0) n s = some e) (hX0 : pw l (px_R 1) y_Pl_tieTogether c_Pl_tieTogether 3 none 182 [] [] ids cG e 0 0 Rt) : pw l (px_R 1) y_Pl_tieTogether c_Pl_tieTogether 3 none 131 [(0, .inr (some (1, p0.toNatClampNeg, 0))), (1, .inl s.1)] [] ids cG s.2 0 0 Rt := by
  refine px_it_rule (f := Pl_tieTogether_L131 p0) (C := fun s => pw l (px_R 1) y_Pl_tieTogether c_Pl_tieTogether 3 none 131 [(0, .inr (some (1, p0.toNatClampNeg, 0))), (1, .inl s.1)] [] ids cG s.2 0 0 Rt) (X := fun e => (pw l (px_R 1) y_Pl_tieTogether c_Pl_tieTogether 3 none 182 [] [] ids cG e 0 0 Rt)) ?_ ?_ n s e h hX0
  · intro s s1 hf hC
    exact Pl_tieTogether_n131_l hf (fun s2 hs => by cases hs; exact hC) (fun e he => by cases he)
  · intro s e hf hX
    exact Pl_tieTogether_n131_l hf (fun s2 hs => by cases hs) (fun e1 he => by cases he; exact hX)
def F_Pl_tieTogether (σ : pxS) (p0 : Int32) : Option (pxS) :=
  px_b1 (px_it (Pl_tieTogether_L2 p0) px_N (0, σ)) fun e20 =>
  px_b1 (px_it (Pl_tieTogether_L71 p0) px_N (0, e20)) fun e30 =>
  px_b1 (px_it (Pl_tieTogether_L131 p0) px_N (0, e30)) fun e38 =>
  some e38
set_option maxRecDepth 100000 in
theorem e_Pl_tieTogether {l : Launch} {ids : List pxI} {Rt : Option pxV → List pxI → pxG → pxS → Prop} {σ : pxS} {p0 : Int32} {res : pxS} (h : F_Pl_tieTogether σ p0 = some res) (hR : Rt none ids cG res) : pw l (px_R 1) y_Pl_tieTogether c_Pl_tieTogether 3 none 0 [(0, .inr (some (1, p0.toNatClampNeg, 0)))] [] ids cG σ 0 0 Rt := by
  unfold F_Pl_tieTogether at h
  refine pw_iconst (v := 0) (px_at td_Pl_tieTogether 0 rfl) (by decide) ?_
  refine pw_istore_n (L' := [(1, .inl 0), (0, .inr (some (1, p0.toNatClampNeg, 0)))]) (px_at td_Pl_tieTogether 1 rfl) rfl (by decide) rfl ?_
  obtain ⟨e20, he20, h⟩ := px_b1_e h
  refine pw_L [(0, .inr (some (1, p0.toNatClampNeg, 0))), (1, .inl 0)] [1, 0] rfl ?_
  refine Pl_tieTogether_L2_l he20 ?_
  refine pw_iconst (v := 0) (px_at td_Pl_tieTogether 43 rfl) (by decide) ?_
  refine pw_istore_n (L' := [(1, .inl 0), (0, .inr (some (1, p0.toNatClampNeg, 0)))]) (px_at td_Pl_tieTogether 44 rfl) rfl (by decide) rfl ?_
  obtain ⟨e30, he30, h⟩ := px_b1_e h
  refine pw_L [(0, .inr (some (1, p0.toNatClampNeg, 0))), (1, .inl 0)] [1, 0] rfl ?_
  refine Pl_tieTogether_L71_l he30 ?_
  refine pw_iconst (v := 0) (px_at td_Pl_tieTogether 79 rfl) (by decide) ?_
  refine pw_istore_n (L' := [(1, .inl 0), (0, .inr (some (1, p0.toNatClampNeg, 0)))]) (px_at td_Pl_tieTogether 80 rfl) rfl (by decide) rfl ?_
  obtain ⟨e38, he38, h⟩ := px_b1_e h
  refine pw_L [(0, .inr (some (1, p0.toNatClampNeg, 0))), (1, .inl 0)] [1, 0] rfl ?_
  refine Pl_tieTogether_L131_l he38 ?_
  obtain rfl := Option.some.inj h
  exact pw_vret (px_at td_Pl_tieTogether 112 rfl) rfl (Nat.le_refl 0) (Nat.le_refl 0) hR
theorem k_Pl_tieTogether {l : Launch} {ids : List pxI} {σ : pxS} {p0 : Int32} {res : pxS} (h : F_Pl_tieTogether σ p0 = some res) : pm l y_Pl_tieTogether c_Pl_tieTogether 3 none (px_R 1) [.inr (some (1, p0.toNatClampNeg, 0))] ids cG σ (px_r none ids cG res) :=
  pm_ofF (by decide +kernel) (Nat.le_of_ble_eq_true rfl) (e_Pl_tieTogether h ⟨rfl, rfl, rfl, rfl⟩)
/-! In_bitCount -/
def F_In_bitCount (σ : pxS) (v0 : Int32) : Option (Int32) :=
  some (((((((((v0 - ((((v0 : Int32).toUInt32 >>> ((1 : Int32).toUInt32 &&& Int32.toUInt32 31)).toInt32) &&& 1431655765)) &&& 858993459) + (((((v0 - ((((v0 : Int32).toUInt32 >>> ((1 : Int32).toUInt32 &&& Int32.toUInt32 31)).toInt32) &&& 1431655765)) : Int32).toUInt32 >>> ((2 : Int32).toUInt32 &&& Int32.toUInt32 31)).toInt32) &&& 858993459)) + ((((((v0 - ((((v0 : Int32).toUInt32 >>> ((1 : Int32).toUInt32 &&& Int32.toUInt32 31)).toInt32) &&& 1431655765)) &&& 858993459) + (((((v0 - ((((v0 : Int32).toUInt32 >>> ((1 : Int32).toUInt32 &&& Int32.toUInt32 31)).toInt32) &&& 1431655765)) : Int32).toUInt32 >>> ((2 : Int32).toUInt32 &&& Int32.toUInt32 31)).toInt32) &&& 858993459)) : Int32).toUInt32 >>> ((4 : Int32).toUInt32 &&& Int32.toUInt32 31)).toInt32)) &&& 252645135) + ((((((((v0 - ((((v0 : Int32).toUInt32 >>> ((1 : Int32).toUInt32 &&& Int32.toUInt32 31)).toInt32) &&& 1431655765)) &&& 858993459) + (((((v0 - ((((v0 : Int32).toUInt32 >>> ((1 : Int32).toUInt32 &&& Int32.toUInt32 31)).toInt32) &&& 1431655765)) : Int32).toUInt32 >>> ((2 : Int32).toUInt32 &&& Int32.toUInt32 31)).toInt32) &&& 858993459)) + ((((((v0 - ((((v0 : Int32).toUInt32 >>> ((1 : Int32).toUInt32 &&& Int32.toUInt32 31)).toInt32) &&& 1431655765)) &&& 858993459) + (((((v0 - ((((v0 : Int32).toUInt32 >>> ((1 : Int32).toUInt32 &&& Int32.toUInt32 31)).toInt32) &&& 1431655765)) : Int32).toUInt32 >>> ((2 : Int32).toUInt32 &&& Int32.toUInt32 31)).toInt32) &&& 858993459)) : Int32).toUInt32 >>> ((4 : Int32).toUInt32 &&& Int32.toUInt32 31)).toInt32)) &&& 252645135) : Int32).toUInt32 >>> ((8 : Int32).toUInt32 &&& Int32.toUInt32 31)).toInt32)) + (((((((((v0 - ((((v0 : Int32).toUInt32 >>> ((1 : Int32).toUInt32 &&& Int32.toUInt32 31)).toInt32) &&& 1431655765)) &&& 858993459) + (((((v0 - ((((v0 : Int32).toUInt32 >>> ((1 : Int32).toUInt32 &&& Int32.toUInt32 31)).toInt32) &&& 1431655765)) : Int32).toUInt32 >>> ((2 : Int32).toUInt32 &&& Int32.toUInt32 31)).toInt32) &&& 858993459)) + ((((((v0 - ((((v0 : Int32).toUInt32 >>> ((1 : Int32).toUInt32 &&& Int32.toUInt32 31)).toInt32) &&& 1431655765)) &&& 858993459) + (((((v0 - ((((v0 : Int32).toUInt32 >>> ((1 : Int32).toUInt32 &&& Int32.toUInt32 31)).toInt32) &&& 1431655765)) : Int32).toUInt32 >>> ((2 : Int32).toUInt32 &&& Int32.toUInt32 31)).toInt32) &&& 858993459)) : Int32).toUInt32 >>> ((4 : Int32).toUInt32 &&& Int32.toUInt32 31)).toInt32)) &&& 252645135) + ((((((((v0 - ((((v0 : Int32).toUInt32 >>> ((1 : Int32).toUInt32 &&& Int32.toUInt32 31)).toInt32) &&& 1431655765)) &&& 858993459) + (((((v0 - ((((v0 : Int32).toUInt32 >>> ((1 : Int32).toUInt32 &&& Int32.toUInt32 31)).toInt32) &&& 1431655765)) : Int32).toUInt32 >>> ((2 : Int32).toUInt32 &&& Int32.toUInt32 31)).toInt32) &&& 858993459)) + ((((((v0 - ((((v0 : Int32).toUInt32 >>> ((1 : Int32).toUInt32 &&& Int32.toUInt32 31)).toInt32) &&& 1431655765)) &&& 858993459) + (((((v0 - ((((v0 : Int32).toUInt32 >>> ((1 : Int32).toUInt32 &&& Int32.toUInt32 31)).toInt32) &&& 1431655765)) : Int32).toUInt32 >>> ((2 : Int32).toUInt32 &&& Int32.toUInt32 31)).toInt32) &&& 858993459)) : Int32).toUInt32 >>> ((4 : Int32).toUInt32 &&& Int32.toUInt32 31)).toInt32)) &&& 252645135) : Int32).toUInt32 >>> ((8 : Int32).toUInt32 &&& Int32.toUInt32 31)).toInt32)) : Int32).toUInt32 >>> ((16 : Int32).toUInt32 &&& Int32.toUInt32 31)).toInt32)) &&& 63))
set_option maxRecDepth 100000 in
theorem e_In_bitCount {l : Launch} {ids : List pxI} {Rt : Option pxV → List pxI → pxG → pxS → Prop} {σ : pxS} {v0 : Int32} {res : Int32} (h : F_In_bitCount σ v0 = some res) (hR : Rt (some (.inl res)) ids cG σ) : pw l (px_R 1) y_In_bitCount c_In_bitCount 1 (some .int) 0 [(0, .inl v0)] [] ids cG σ 0 0 Rt := by
  unfold F_In_bitCount at h
  refine pw_iload_n 0 (px_at td_In_bitCount 0 rfl) rfl rfl ?_
  refine pw_iload_n 0 (px_at td_In_bitCount 1 rfl) rfl rfl ?_
  refine pw_iconst (v := 1) (px_at td_In_bitCount 2 rfl) (by decide) ?_
  refine pw_iushr (px_at td_In_bitCount 3 rfl) ?_
  refine pw_ldcw (v := 1431655765) (px_at td_In_bitCount 4 rfl) lc_In_265 ?_
  refine pw_iand (px_at td_In_bitCount 5 rfl) ?_
  refine pw_isub (px_at td_In_bitCount 6 rfl) ?_
  refine pw_istore_n (L' := [(0, .inl (v0 - ((((v0 : Int32).toUInt32 >>> ((1 : Int32).toUInt32 &&& Int32.toUInt32 31)).toInt32) &&& 1431655765)))]) (px_at td_In_bitCount 7 rfl) rfl (by decide) rfl ?_
  refine pw_iload_n 0 (px_at td_In_bitCount 8 rfl) rfl rfl ?_
  refine pw_ldcw (v := 858993459) (px_at td_In_bitCount 9 rfl) lc_In_266 ?_
  refine pw_iand (px_at td_In_bitCount 10 rfl) ?_
  refine pw_iload_n 0 (px_at td_In_bitCount 11 rfl) rfl rfl ?_
  refine pw_iconst (v := 2) (px_at td_In_bitCount 12 rfl) (by decide) ?_
  refine pw_iushr (px_at td_In_bitCount 13 rfl) ?_
  refine pw_ldcw (v := 858993459) (px_at td_In_bitCount 14 rfl) lc_In_266 ?_
  refine pw_iand (px_at td_In_bitCount 15 rfl) ?_
  refine pw_iadd (px_at td_In_bitCount 16 rfl) ?_
  refine pw_istore_n (L' := [(0, .inl (((v0 - ((((v0 : Int32).toUInt32 >>> ((1 : Int32).toUInt32 &&& Int32.toUInt32 31)).toInt32) &&& 1431655765)) &&& 858993459) + (((((v0 - ((((v0 : Int32).toUInt32 >>> ((1 : Int32).toUInt32 &&& Int32.toUInt32 31)).toInt32) &&& 1431655765)) : Int32).toUInt32 >>> ((2 : Int32).toUInt32 &&& Int32.toUInt32 31)).toInt32) &&& 858993459)))]) (px_at td_In_bitCount 17 rfl) rfl (by decide) rfl ?_
  refine pw_iload_n 0 (px_at td_In_bitCount 18 rfl) rfl rfl ?_
  refine pw_iload_n 0 (px_at td_In_bitCount 19 rfl) rfl rfl ?_
  refine pw_iconst (v := 4) (px_at td_In_bitCount 20 rfl) (by decide) ?_
  refine pw_iushr (px_at td_In_bitCount 21 rfl) ?_
  refine pw_iadd (px_at td_In_bitCount 22 rfl) ?_
  refine pw_ldcw (v := 252645135) (px_at td_In_bitCount 23 rfl) lc_In_267 ?_
  refine pw_iand (px_at td_In_bitCount 24 rfl) ?_
  refine pw_istore_n (L' := [(0, .inl (((((v0 - ((((v0 : Int32).toUInt32 >>> ((1 : Int32).toUInt32 &&& Int32.toUInt32 31)).toInt32) &&& 1431655765)) &&& 858993459) + (((((v0 - ((((v0 : Int32).toUInt32 >>> ((1 : Int32).toUInt32 &&& Int32.toUInt32 31)).toInt32) &&& 1431655765)) : Int32).toUInt32 >>> ((2 : Int32).toUInt32 &&& Int32.toUInt32 31)).toInt32) &&& 858993459)) + ((((((v0 - ((((v0 : Int32).toUInt32 >>> ((1 : Int32).toUInt32 &&& Int32.toUInt32 31)).toInt32) &&& 1431655765)) &&& 858993459) + (((((v0 - ((((v0 : Int32).toUInt32 >>> ((1 : Int32).toUInt32 &&& Int32.toUInt32 31)).toInt32) &&& 1431655765)) : Int32).toUInt32 >>> ((2 : Int32).toUInt32 &&& Int32.toUInt32 31)).toInt32) &&& 858993459)) : Int32).toUInt32 >>> ((4 : Int32).toUInt32 &&& Int32.toUInt32 31)).toInt32)) &&& 252645135))]) (px_at td_In_bitCount 25 rfl) rfl (by decide) rfl ?_
  refine pw_iload_n 0 (px_at td_In_bitCount 26 rfl) rfl rfl ?_
  refine pw_iload_n 0 (px_at td_In_bitCount 27 rfl) rfl rfl ?_
  refine pw_bipush (v := 8) (px_at td_In_bitCount 28 rfl) (by decide) ?_
  refine pw_iushr (px_at td_In_bitCount 29 rfl) ?_
  refine pw_iadd (px_at td_In_bitCount 30 rfl) ?_
  refine pw_istore_n (L' := [(0, .inl ((((((v0 - ((((v0 : Int32).toUInt32 >>> ((1 : Int32).toUInt32 &&& Int32.toUInt32 31)).toInt32) &&& 1431655765)) &&& 858993459) + (((((v0 - ((((v0 : Int32).toUInt32 >>> ((1 : Int32).toUInt32 &&& Int32.toUInt32 31)).toInt32) &&& 1431655765)) : Int32).toUInt32 >>> ((2 : Int32).toUInt32 &&& Int32.toUInt32 31)).toInt32) &&& 858993459)) + ((((((v0 - ((((v0 : Int32).toUInt32 >>> ((1 : Int32).toUInt32 &&& Int32.toUInt32 31)).toInt32) &&& 1431655765)) &&& 858993459) + (((((v0 - ((((v0 : Int32).toUInt32 >>> ((1 : Int32).toUInt32 &&& Int32.toUInt32 31)).toInt32) &&& 1431655765)) : Int32).toUInt32 >>> ((2 : Int32).toUInt32 &&& Int32.toUInt32 31)).toInt32) &&& 858993459)) : Int32).toUInt32 >>> ((4 : Int32).toUInt32 &&& Int32.toUInt32 31)).toInt32)) &&& 252645135) + ((((((((v0 - ((((v0 : Int32).toUInt32 >>> ((1 : Int32).toUInt32 &&& Int32.toUInt32 31)).toInt32) &&& 1431655765)) &&& 858993459) + (((((v0 - ((((v0 : Int32).toUInt32 >>> ((1 : Int32).toUInt32 &&& Int32.toUInt32 31)).toInt32) &&& 1431655765)) : Int32).toUInt32 >>> ((2 : Int32).toUInt32 &&& Int32.toUInt32 31)).toInt32) &&& 858993459)) + ((((((v0 - ((((v0 : Int32).toUInt32 >>> ((1 : Int32).toUInt32 &&& Int32.toUInt32 31)).toInt32) &&& 1431655765)) &&& 858993459) + (((((v0 - ((((v0 : Int32).toUInt32 >>> ((1 : Int32).toUInt32 &&& Int32.toUInt32 31)).toInt32) &&& 1431655765)) : Int32).toUInt32 >>> ((2 : Int32).toUInt32 &&& Int32.toUInt32 31)).toInt32) &&& 858993459)) : Int32).toUInt32 >>> ((4 : Int32).toUInt32 &&& Int32.toUInt32 31)).toInt32)) &&& 252645135) : Int32).toUInt32 >>> ((8 : Int32).toUInt32 &&& Int32.toUInt32 31)).toInt32)))]) (px_at td_In_bitCount 31 rfl) rfl (by decide) rfl ?_
  refine pw_iload_n 0 (px_at td_In_bitCount 32 rfl) rfl rfl ?_
  refine pw_iload_n 0 (px_at td_In_bitCount 33 rfl) rfl rfl ?_
  refine pw_bipush (v := 16) (px_at td_In_bitCount 34 rfl) (by decide) ?_
  refine pw_iushr (px_at td_In_bitCount 35 rfl) ?_
  refine pw_iadd (px_at td_In_bitCount 36 rfl) ?_
  refine pw_istore_n (L' := [(0, .inl (((((((v0 - ((((v0 : Int32).toUInt32 >>> ((1 : Int32).toUInt32 &&& Int32.toUInt32 31)).toInt32) &&& 1431655765)) &&& 858993459) + (((((v0 - ((((v0 : Int32).toUInt32 >>> ((1 : Int32).toUInt32 &&& Int32.toUInt32 31)).toInt32) &&& 1431655765)) : Int32).toUInt32 >>> ((2 : Int32).toUInt32 &&& Int32.toUInt32 31)).toInt32) &&& 858993459)) + ((((((v0 - ((((v0 : Int32).toUInt32 >>> ((1 : Int32).toUInt32 &&& Int32.toUInt32 31)).toInt32) &&& 1431655765)) &&& 858993459) + (((((v0 - ((((v0 : Int32).toUInt32 >>> ((1 : Int32).toUInt32 &&& Int32.toUInt32 31)).toInt32) &&& 1431655765)) : Int32).toUInt32 >>> ((2 : Int32).toUInt32 &&& Int32.toUInt32 31)).toInt32) &&& 858993459)) : Int32).toUInt32 >>> ((4 : Int32).toUInt32 &&& Int32.toUInt32 31)).toInt32)) &&& 252645135) + ((((((((v0 - ((((v0 : Int32).toUInt32 >>> ((1 : Int32).toUInt32 &&& Int32.toUInt32 31)).toInt32) &&& 1431655765)) &&& 858993459) + (((((v0 - ((((v0 : Int32).toUInt32 >>> ((1 : Int32).toUInt32 &&& Int32.toUInt32 31)).toInt32) &&& 1431655765)) : Int32).toUInt32 >>> ((2 : Int32).toUInt32 &&& Int32.toUInt32 31)).toInt32) &&& 858993459)) + ((((((v0 - ((((v0 : Int32).toUInt32 >>> ((1 : Int32).toUInt32 &&& Int32.toUInt32 31)).toInt32) &&& 1431655765)) &&& 858993459) + (((((v0 - ((((v0 : Int32).toUInt32 >>> ((1 : Int32).toUInt32 &&& Int32.toUInt32 31)).toInt32) &&& 1431655765)) : Int32).toUInt32 >>> ((2 : Int32).toUInt32 &&& Int32.toUInt32 31)).toInt32) &&& 858993459)) : Int32).toUInt32 >>> ((4 : Int32).toUInt32 &&& Int32.toUInt32 31)).toInt32)) &&& 252645135) : Int32).toUInt32 >>> ((8 : Int32).toUInt32 &&& Int32.toUInt32 31)).toInt32)) + (((((((((v0 - ((((v0 : Int32).toUInt32 >>> ((1 : Int32).toUInt32 &&& Int32.toUInt32 31)).toInt32) &&& 1431655765)) &&& 858993459) + (((((v0 - ((((v0 : Int32).toUInt32 >>> ((1 : Int32).toUInt32 &&& Int32.toUInt32 31)).toInt32) &&& 1431655765)) : Int32).toUInt32 >>> ((2 : Int32).toUInt32 &&& Int32.toUInt32 31)).toInt32) &&& 858993459)) + ((((((v0 - ((((v0 : Int32).toUInt32 >>> ((1 : Int32).toUInt32 &&& Int32.toUInt32 31)).toInt32) &&& 1431655765)) &&& 858993459) + (((((v0 - ((((v0 : Int32).toUInt32 >>> ((1 : Int32).toUInt32 &&& Int32.toUInt32 31)).toInt32) &&& 1431655765)) : Int32).toUInt32 >>> ((2 : Int32).toUInt32 &&& Int32.toUInt32 31)).toInt32) &&& 858993459)) : Int32).toUInt32 >>> ((4 : Int32).toUInt32 &&& Int32.toUInt32 31)).toInt32)) &&& 252645135) + ((((((((v0 - ((((v0 : Int32).toUInt32 >>> ((1 : Int32).toUInt32 &&& Int32.toUInt32 31)).toInt32) &&& 1431655765)) &&& 858993459) + (((((v0 - ((((v0 : Int32).toUInt32 >>> ((1 : Int32).toUInt32 &&& Int32.toUInt32 31)).toInt32) &&& 1431655765)) : Int32).toUInt32 >>> ((2 : Int32).toUInt32 &&& Int32.toUInt32 31)).toInt32) &&& 858993459)) + ((((((v0 - ((((v0 : Int32).toUInt32 >>> ((1 : Int32).toUInt32 &&& Int32.toUInt32 31)).toInt32) &&& 1431655765)) &&& 858993459) + (((((v0 - ((((v0 : Int32).toUInt32 >>> ((1 : Int32).toUInt32 &&& Int32.toUInt32 31)).toInt32) &&& 1431655765)) : Int32).toUInt32 >>> ((2 : Int32).toUInt32 &&& Int32.toUInt32 31)).toInt32) &&& 858993459)) : Int32).toUInt32 >>> ((4 : Int32).toUInt32 &&& Int32.toUInt32 31)).toInt32)) &&& 252645135) : Int32).toUInt32 >>> ((8 : Int32).toUInt32 &&& Int32.toUInt32 31)).toInt32)) : Int32).toUInt32 >>> ((16 : Int32).toUInt32 &&& Int32.toUInt32 31)).toInt32)))]) (px_at td_In_bitCount 37 rfl) rfl (by decide) rfl ?_
  refine pw_iload_n 0 (px_at td_In_bitCount 38 rfl) rfl rfl ?_
  refine pw_bipush (v := 63) (px_at td_In_bitCount 39 rfl) (by decide) ?_
  refine pw_iand (px_at td_In_bitCount 40 rfl) ?_
  obtain rfl := Option.some.inj h
  exact pw_iret (px_at td_In_bitCount 41 rfl) rfl (Nat.le_refl 0) (Nat.le_refl 0) hR
theorem k_In_bitCount {l : Launch} {ids : List pxI} {σ : pxS} {v0 : Int32} {res : Int32} (h : F_In_bitCount σ v0 = some res) : pm l y_In_bitCount c_In_bitCount 1 (some .int) (px_R 1) [.inl v0] ids cG σ (px_r (some (.inl res)) ids cG σ) :=
  pm_ofF (by decide +kernel) (Nat.le_of_ble_eq_true rfl) (e_In_bitCount h ⟨rfl, rfl, rfl, rfl⟩)
end
