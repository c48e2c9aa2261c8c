section
-- ===== PART A: goes FIRST, ahead of the names: the tables' words, and 'selects' of the private methods out of them =====
/-- a private method of a class that the tables say can be made, by its rows of tables_1 -/
def lw_okq (q : MethodName × Nat) : Prop := (q.1.cls ≠ "java/lang/invoke/MethodHandle" ∧ q.1.cls ≠ "java/lang/invoke/VarHandle") ∧ Cond.instantiable q.1.cls q.2 ∈ tables_1 ∧ Cond.privateMethod q.1 ∈ tables_1 ∧ Cond.instanceMethod q.1 ∈ tables_1
theorem lw_p0 : lw_okq (⟨"PowerRails", "putWord", "(I)V"⟩, 13) := ⟨⟨by decide +kernel, by decide +kernel⟩, List.mem_of_getElem? (i := 23) (by decide +kernel), List.mem_of_getElem? (i := 445) (by decide +kernel), List.mem_of_getElem? (i := 446) (by decide +kernel)⟩
theorem lw_p1 : lw_okq (⟨"PowerRails$Reader", "cutAll", "(I)V"⟩, 15) := ⟨⟨by decide +kernel, by decide +kernel⟩, List.mem_of_getElem? (i := 31) (by decide +kernel), List.mem_of_getElem? (i := 457) (by decide +kernel), List.mem_of_getElem? (i := 458) (by decide +kernel)⟩
theorem lw_p2 : lw_okq (⟨"PowerRails$Reader", "skipBlanks", "()V"⟩, 15) := ⟨⟨by decide +kernel, by decide +kernel⟩, List.mem_of_getElem? (i := 31) (by decide +kernel), List.mem_of_getElem? (i := 461) (by decide +kernel), List.mem_of_getElem? (i := 462) (by decide +kernel)⟩
theorem lw_p3 : lw_okq (⟨"PowerRails$Reader", "peekByte", "()I"⟩, 15) := ⟨⟨by decide +kernel, by decide +kernel⟩, List.mem_of_getElem? (i := 31) (by decide +kernel), List.mem_of_getElem? (i := 465) (by decide +kernel), List.mem_of_getElem? (i := 466) (by decide +kernel)⟩
theorem lw_p4 : lw_okq (⟨"PowerRails$Reader", "cutToken", "(I)V"⟩, 15) := ⟨⟨by decide +kernel, by decide +kernel⟩, List.mem_of_getElem? (i := 31) (by decide +kernel), List.mem_of_getElem? (i := 469) (by decide +kernel), List.mem_of_getElem? (i := 470) (by decide +kernel)⟩
theorem lw_p5 : lw_okq (⟨"PowerRails$Reader", "cutWord", "()V"⟩, 15) := ⟨⟨by decide +kernel, by decide +kernel⟩, List.mem_of_getElem? (i := 31) (by decide +kernel), List.mem_of_getElem? (i := 473) (by decide +kernel), List.mem_of_getElem? (i := 474) (by decide +kernel)⟩
theorem lw_p6 : lw_okq (⟨"PowerRails$Reader", "wordOfLanguage", "(I)I"⟩, 15) := ⟨⟨by decide +kernel, by decide +kernel⟩, List.mem_of_getElem? (i := 31) (by decide +kernel), List.mem_of_getElem? (i := 477) (by decide +kernel), List.mem_of_getElem? (i := 478) (by decide +kernel)⟩
theorem lw_p7 : lw_okq (⟨"PowerRails$Reader", "cutNumber", "()V"⟩, 15) := ⟨⟨by decide +kernel, by decide +kernel⟩, List.mem_of_getElem? (i := 31) (by decide +kernel), List.mem_of_getElem? (i := 484) (by decide +kernel), List.mem_of_getElem? (i := 485) (by decide +kernel)⟩
theorem lw_p8 : lw_okq (⟨"PowerRails$Reader", "advance", "()V"⟩, 15) := ⟨⟨by decide +kernel, by decide +kernel⟩, List.mem_of_getElem? (i := 31) (by decide +kernel), List.mem_of_getElem? (i := 493) (by decide +kernel), List.mem_of_getElem? (i := 494) (by decide +kernel)⟩
theorem lw_p9 : lw_okq (⟨"PowerRails$Reader", "readLine", "()V"⟩, 15) := ⟨⟨by decide +kernel, by decide +kernel⟩, List.mem_of_getElem? (i := 31) (by decide +kernel), List.mem_of_getElem? (i := 497) (by decide +kernel), List.mem_of_getElem? (i := 498) (by decide +kernel)⟩
theorem lw_p10 : lw_okq (⟨"PowerRails$Reader", "refuse", "(I)V"⟩, 15) := ⟨⟨by decide +kernel, by decide +kernel⟩, List.mem_of_getElem? (i := 31) (by decide +kernel), List.mem_of_getElem? (i := 501) (by decide +kernel), List.mem_of_getElem? (i := 502) (by decide +kernel)⟩
theorem lw_p11 : lw_okq (⟨"PowerRails$Reader", "readRail", "()V"⟩, 15) := ⟨⟨by decide +kernel, by decide +kernel⟩, List.mem_of_getElem? (i := 31) (by decide +kernel), List.mem_of_getElem? (i := 505) (by decide +kernel), List.mem_of_getElem? (i := 506) (by decide +kernel)⟩
theorem lw_p12 : lw_okq (⟨"PowerRails$Reader", "freshName", "()I"⟩, 15) := ⟨⟨by decide +kernel, by decide +kernel⟩, List.mem_of_getElem? (i := 31) (by decide +kernel), List.mem_of_getElem? (i := 509) (by decide +kernel), List.mem_of_getElem? (i := 510) (by decide +kernel)⟩
theorem lw_p13 : lw_okq (⟨"PowerRails$Reader", "take", "(I)V"⟩, 15) := ⟨⟨by decide +kernel, by decide +kernel⟩, List.mem_of_getElem? (i := 31) (by decide +kernel), List.mem_of_getElem? (i := 517) (by decide +kernel), List.mem_of_getElem? (i := 518) (by decide +kernel)⟩
theorem lw_p14 : lw_okq (⟨"PowerRails$Reader", "parentOrSource", "()I"⟩, 15) := ⟨⟨by decide +kernel, by decide +kernel⟩, List.mem_of_getElem? (i := 31) (by decide +kernel), List.mem_of_getElem? (i := 521) (by decide +kernel), List.mem_of_getElem? (i := 522) (by decide +kernel)⟩
theorem lw_p15 : lw_okq (⟨"PowerRails$Reader", "toldRail", "()I"⟩, 15) := ⟨⟨by decide +kernel, by decide +kernel⟩, List.mem_of_getElem? (i := 31) (by decide +kernel), List.mem_of_getElem? (i := 525) (by decide +kernel), List.mem_of_getElem? (i := 526) (by decide +kernel)⟩
def lw_privs_1 : List (MethodName × Nat) := [(⟨"PowerRails", "putWord", "(I)V"⟩, 13), (⟨"PowerRails$Reader", "cutAll", "(I)V"⟩, 15), (⟨"PowerRails$Reader", "skipBlanks", "()V"⟩, 15), (⟨"PowerRails$Reader", "peekByte", "()I"⟩, 15), (⟨"PowerRails$Reader", "cutToken", "(I)V"⟩, 15), (⟨"PowerRails$Reader", "cutWord", "()V"⟩, 15), (⟨"PowerRails$Reader", "wordOfLanguage", "(I)I"⟩, 15), (⟨"PowerRails$Reader", "cutNumber", "()V"⟩, 15), (⟨"PowerRails$Reader", "advance", "()V"⟩, 15), (⟨"PowerRails$Reader", "readLine", "()V"⟩, 15), (⟨"PowerRails$Reader", "refuse", "(I)V"⟩, 15), (⟨"PowerRails$Reader", "readRail", "()V"⟩, 15), (⟨"PowerRails$Reader", "freshName", "()I"⟩, 15), (⟨"PowerRails$Reader", "take", "(I)V"⟩, 15), (⟨"PowerRails$Reader", "parentOrSource", "()I"⟩, 15), (⟨"PowerRails$Reader", "toldRail", "()I"⟩, 15)]
theorem lw_r1 : ∀ q ∈ lw_privs_1, lw_okq q := List.forall_mem_cons.mpr ⟨lw_p0, List.forall_mem_cons.mpr ⟨lw_p1, List.forall_mem_cons.mpr ⟨lw_p2, List.forall_mem_cons.mpr ⟨lw_p3, List.forall_mem_cons.mpr ⟨lw_p4, List.forall_mem_cons.mpr ⟨lw_p5, List.forall_mem_cons.mpr ⟨lw_p6, List.forall_mem_cons.mpr ⟨lw_p7, List.forall_mem_cons.mpr ⟨lw_p8, List.forall_mem_cons.mpr ⟨lw_p9, List.forall_mem_cons.mpr ⟨lw_p10, List.forall_mem_cons.mpr ⟨lw_p11, List.forall_mem_cons.mpr ⟨lw_p12, List.forall_mem_cons.mpr ⟨lw_p13, List.forall_mem_cons.mpr ⟨lw_p14, List.forall_mem_cons.mpr ⟨lw_p15, fun _ h => absurd h List.not_mem_nil⟩⟩⟩⟩⟩⟩⟩⟩⟩⟩⟩⟩⟩⟩⟩⟩
theorem lw_p16 : lw_okq (⟨"PowerRails$Reader", "number", "(II)I"⟩, 15) := ⟨⟨by decide +kernel, by decide +kernel⟩, List.mem_of_getElem? (i := 31) (by decide +kernel), List.mem_of_getElem? (i := 532) (by decide +kernel), List.mem_of_getElem? (i := 533) (by decide +kernel)⟩
theorem lw_p17 : lw_okq (⟨"PowerRails$Reader", "readNeed", "()V"⟩, 15) := ⟨⟨by decide +kernel, by decide +kernel⟩, List.mem_of_getElem? (i := 31) (by decide +kernel), List.mem_of_getElem? (i := 537) (by decide +kernel), List.mem_of_getElem? (i := 538) (by decide +kernel)⟩
theorem lw_p18 : lw_okq (⟨"PowerRails$Reader", "readStep", "(I)V"⟩, 15) := ⟨⟨by decide +kernel, by decide +kernel⟩, List.mem_of_getElem? (i := 31) (by decide +kernel), List.mem_of_getElem? (i := 545) (by decide +kernel), List.mem_of_getElem? (i := 546) (by decide +kernel)⟩
theorem lw_p19 : lw_okq (⟨"PowerRails$Reader", "readSetting", "(I)V"⟩, 15) := ⟨⟨by decide +kernel, by decide +kernel⟩, List.mem_of_getElem? (i := 31) (by decide +kernel), List.mem_of_getElem? (i := 553) (by decide +kernel), List.mem_of_getElem? (i := 554) (by decide +kernel)⟩
theorem lw_p20 : lw_okq (⟨"PowerRails", "forgetPast", "()V"⟩, 13) := ⟨⟨by decide +kernel, by decide +kernel⟩, List.mem_of_getElem? (i := 23) (by decide +kernel), List.mem_of_getElem? (i := 574) (by decide +kernel), List.mem_of_getElem? (i := 575) (by decide +kernel)⟩
theorem lw_p21 : lw_okq (⟨"PowerRails", "remember", "()V"⟩, 13) := ⟨⟨by decide +kernel, by decide +kernel⟩, List.mem_of_getElem? (i := 23) (by decide +kernel), List.mem_of_getElem? (i := 591) (by decide +kernel), List.mem_of_getElem? (i := 592) (by decide +kernel)⟩
theorem lw_p22 : lw_okq (⟨"PowerRails$Board", "comeAgain", "()V"⟩, 11) := ⟨⟨by decide +kernel, by decide +kernel⟩, List.mem_of_getElem? (i := 260) (by decide +kernel), List.mem_of_getElem? (i := 615) (by decide +kernel), List.mem_of_getElem? (i := 616) (by decide +kernel)⟩
theorem lw_p23 : lw_okq (⟨"PowerRails$Board", "waitIfOff", "(I)V"⟩, 11) := ⟨⟨by decide +kernel, by decide +kernel⟩, List.mem_of_getElem? (i := 260) (by decide +kernel), List.mem_of_getElem? (i := 619) (by decide +kernel), List.mem_of_getElem? (i := 620) (by decide +kernel)⟩
theorem lw_p24 : lw_okq (⟨"PowerRails$Board", "write", "(II)V"⟩, 11) := ⟨⟨by decide +kernel, by decide +kernel⟩, List.mem_of_getElem? (i := 260) (by decide +kernel), List.mem_of_getElem? (i := 627) (by decide +kernel), List.mem_of_getElem? (i := 628) (by decide +kernel)⟩
theorem lw_p25 : lw_okq (⟨"PowerRails$Board", "runSequence", "()V"⟩, 11) := ⟨⟨by decide +kernel, by decide +kernel⟩, List.mem_of_getElem? (i := 260) (by decide +kernel), List.mem_of_getElem? (i := 634) (by decide +kernel), List.mem_of_getElem? (i := 635) (by decide +kernel)⟩
theorem lw_p26 : lw_okq (⟨"PowerRails$Board", "takesStep", "()Z"⟩, 11) := ⟨⟨by decide +kernel, by decide +kernel⟩, List.mem_of_getElem? (i := 260) (by decide +kernel), List.mem_of_getElem? (i := 638) (by decide +kernel), List.mem_of_getElem? (i := 639) (by decide +kernel)⟩
theorem lw_p27 : lw_okq (⟨"PowerRails$Board", "unwind", "(I)V"⟩, 11) := ⟨⟨by decide +kernel, by decide +kernel⟩, List.mem_of_getElem? (i := 260) (by decide +kernel), List.mem_of_getElem? (i := 654) (by decide +kernel), List.mem_of_getElem? (i := 655) (by decide +kernel)⟩
theorem lw_p28 : lw_okq (⟨"PowerRails$Board", "latestToGo", "(I)I"⟩, 11) := ⟨⟨by decide +kernel, by decide +kernel⟩, List.mem_of_getElem? (i := 260) (by decide +kernel), List.mem_of_getElem? (i := 658) (by decide +kernel), List.mem_of_getElem? (i := 659) (by decide +kernel)⟩
theorem lw_p29 : lw_okq (⟨"PowerRails$Board", "failSequence", "()V"⟩, 11) := ⟨⟨by decide +kernel, by decide +kernel⟩, List.mem_of_getElem? (i := 260) (by decide +kernel), List.mem_of_getElem? (i := 666) (by decide +kernel), List.mem_of_getElem? (i := 667) (by decide +kernel)⟩
theorem lw_p30 : lw_okq (⟨"PowerRails$Board", "beginToRise", "()V"⟩, 11) := ⟨⟨by decide +kernel, by decide +kernel⟩, List.mem_of_getElem? (i := 260) (by decide +kernel), List.mem_of_getElem? (i := 674) (by decide +kernel), List.mem_of_getElem? (i := 675) (by decide +kernel)⟩
theorem lw_p31 : lw_okq (⟨"PowerRails$Board", "moveVolts", "()V"⟩, 11) := ⟨⟨by decide +kernel, by decide +kernel⟩, List.mem_of_getElem? (i := 260) (by decide +kernel), List.mem_of_getElem? (i := 690) (by decide +kernel), List.mem_of_getElem? (i := 691) (by decide +kernel)⟩
def lw_privs_2 : List (MethodName × Nat) := [(⟨"PowerRails$Reader", "number", "(II)I"⟩, 15), (⟨"PowerRails$Reader", "readNeed", "()V"⟩, 15), (⟨"PowerRails$Reader", "readStep", "(I)V"⟩, 15), (⟨"PowerRails$Reader", "readSetting", "(I)V"⟩, 15), (⟨"PowerRails", "forgetPast", "()V"⟩, 13), (⟨"PowerRails", "remember", "()V"⟩, 13), (⟨"PowerRails$Board", "comeAgain", "()V"⟩, 11), (⟨"PowerRails$Board", "waitIfOff", "(I)V"⟩, 11), (⟨"PowerRails$Board", "write", "(II)V"⟩, 11), (⟨"PowerRails$Board", "runSequence", "()V"⟩, 11), (⟨"PowerRails$Board", "takesStep", "()Z"⟩, 11), (⟨"PowerRails$Board", "unwind", "(I)V"⟩, 11), (⟨"PowerRails$Board", "latestToGo", "(I)I"⟩, 11), (⟨"PowerRails$Board", "failSequence", "()V"⟩, 11), (⟨"PowerRails$Board", "beginToRise", "()V"⟩, 11), (⟨"PowerRails$Board", "moveVolts", "()V"⟩, 11)]
theorem lw_r2 : ∀ q ∈ lw_privs_2, lw_okq q := List.forall_mem_cons.mpr ⟨lw_p16, List.forall_mem_cons.mpr ⟨lw_p17, List.forall_mem_cons.mpr ⟨lw_p18, List.forall_mem_cons.mpr ⟨lw_p19, List.forall_mem_cons.mpr ⟨lw_p20, List.forall_mem_cons.mpr ⟨lw_p21, List.forall_mem_cons.mpr ⟨lw_p22, List.forall_mem_cons.mpr ⟨lw_p23, List.forall_mem_cons.mpr ⟨lw_p24, List.forall_mem_cons.mpr ⟨lw_p25, List.forall_mem_cons.mpr ⟨lw_p26, List.forall_mem_cons.mpr ⟨lw_p27, List.forall_mem_cons.mpr ⟨lw_p28, List.forall_mem_cons.mpr ⟨lw_p29, List.forall_mem_cons.mpr ⟨lw_p30, List.forall_mem_cons.mpr ⟨lw_p31, fun _ h => absurd h List.not_mem_nil⟩⟩⟩⟩⟩⟩⟩⟩⟩⟩⟩⟩⟩⟩⟩⟩
theorem lw_p32 : lw_okq (⟨"PowerRails$Board", "goOff", "(I)V"⟩, 11) := ⟨⟨by decide +kernel, by decide +kernel⟩, List.mem_of_getElem? (i := 260) (by decide +kernel), List.mem_of_getElem? (i := 696) (by decide +kernel), List.mem_of_getElem? (i := 697) (by decide +kernel)⟩
theorem lw_p33 : lw_okq (⟨"PowerRails$Board", "measureDraws", "()V"⟩, 11) := ⟨⟨by decide +kernel, by decide +kernel⟩, List.mem_of_getElem? (i := 260) (by decide +kernel), List.mem_of_getElem? (i := 700) (by decide +kernel), List.mem_of_getElem? (i := 701) (by decide +kernel)⟩
theorem lw_p34 : lw_okq (⟨"PowerRails$Board", "tripTheLow", "()V"⟩, 11) := ⟨⟨by decide +kernel, by decide +kernel⟩, List.mem_of_getElem? (i := 260) (by decide +kernel), List.mem_of_getElem? (i := 704) (by decide +kernel), List.mem_of_getElem? (i := 705) (by decide +kernel)⟩
theorem lw_p35 : lw_okq (⟨"PowerRails$Board", "trip", "(I)V"⟩, 11) := ⟨⟨by decide +kernel, by decide +kernel⟩, List.mem_of_getElem? (i := 260) (by decide +kernel), List.mem_of_getElem? (i := 712) (by decide +kernel), List.mem_of_getElem? (i := 713) (by decide +kernel)⟩
theorem lw_p36 : lw_okq (⟨"PowerRails$Board", "tripTheLatest", "()V"⟩, 11) := ⟨⟨by decide +kernel, by decide +kernel⟩, List.mem_of_getElem? (i := 260) (by decide +kernel), List.mem_of_getElem? (i := 716) (by decide +kernel), List.mem_of_getElem? (i := 717) (by decide +kernel)⟩
theorem lw_p37 : lw_okq (⟨"PowerRails$Board", "letFirstFall", "()V"⟩, 11) := ⟨⟨by decide +kernel, by decide +kernel⟩, List.mem_of_getElem? (i := 260) (by decide +kernel), List.mem_of_getElem? (i := 720) (by decide +kernel), List.mem_of_getElem? (i := 721) (by decide +kernel)⟩
theorem lw_p38 : lw_okq (⟨"PowerRails", "isRail", "(I)Z"⟩, 13) := ⟨⟨by decide +kernel, by decide +kernel⟩, List.mem_of_getElem? (i := 23) (by decide +kernel), List.mem_of_getElem? (i := 728) (by decide +kernel), List.mem_of_getElem? (i := 729) (by decide +kernel)⟩
theorem lw_p39 : lw_okq (⟨"PowerRails", "totalIfOff", "(II)I"⟩, 13) := ⟨⟨by decide +kernel, by decide +kernel⟩, List.mem_of_getElem? (i := 23) (by decide +kernel), List.mem_of_getElem? (i := 901) (by decide +kernel), List.mem_of_getElem? (i := 902) (by decide +kernel)⟩
theorem lw_p40 : lw_okq (⟨"java/lang/Throwable", "fillInStackTrace", "(I)Ljava/lang/Throwable;"⟩, 6) := ⟨⟨by decide +kernel, by decide +kernel⟩, List.mem_of_getElem? (i := 980) (by decide +kernel), List.mem_of_getElem? (i := 978) (by decide +kernel), List.mem_of_getElem? (i := 979) (by decide +kernel)⟩
theorem lw_p41 : lw_okq (⟨"PowerRailsModel", "freshText", "()V"⟩, 41) := ⟨⟨by decide +kernel, by decide +kernel⟩, List.mem_of_getElem? (i := 1021) (by decide +kernel), List.mem_of_getElem? (i := 1027) (by decide +kernel), List.mem_of_getElem? (i := 1028) (by decide +kernel)⟩
theorem lw_p42 : lw_okq (⟨"PowerRailsModel", "reads", "(II)V"⟩, 41) := ⟨⟨by decide +kernel, by decide +kernel⟩, List.mem_of_getElem? (i := 1021) (by decide +kernel), List.mem_of_getElem? (i := 1031) (by decide +kernel), List.mem_of_getElem? (i := 1032) (by decide +kernel)⟩
theorem lw_p43 : lw_okq (⟨"PowerRailsModel", "takeText", "()V"⟩, 41) := ⟨⟨by decide +kernel, by decide +kernel⟩, List.mem_of_getElem? (i := 1021) (by decide +kernel), List.mem_of_getElem? (i := 1036) (by decide +kernel), List.mem_of_getElem? (i := 1037) (by decide +kernel)⟩
theorem lw_p44 : lw_okq (⟨"PowerRailsModel", "reading", "(I)I"⟩, 41) := ⟨⟨by decide +kernel, by decide +kernel⟩, List.mem_of_getElem? (i := 1021) (by decide +kernel), List.mem_of_getElem? (i := 1040) (by decide +kernel), List.mem_of_getElem? (i := 1041) (by decide +kernel)⟩
theorem lw_p45 : lw_okq (⟨"PowerRailsModel", "laysOn", "()V"⟩, 41) := ⟨⟨by decide +kernel, by decide +kernel⟩, List.mem_of_getElem? (i := 1021) (by decide +kernel), List.mem_of_getElem? (i := 1044) (by decide +kernel), List.mem_of_getElem? (i := 1045) (by decide +kernel)⟩
theorem lw_p46 : lw_okq (⟨"PowerRailsModel", "rails", "()I"⟩, 41) := ⟨⟨by decide +kernel, by decide +kernel⟩, List.mem_of_getElem? (i := 1021) (by decide +kernel), List.mem_of_getElem? (i := 1048) (by decide +kernel), List.mem_of_getElem? (i := 1049) (by decide +kernel)⟩
theorem lw_p47 : lw_okq (⟨"PowerRailsModel", "begins", "()V"⟩, 41) := ⟨⟨by decide +kernel, by decide +kernel⟩, List.mem_of_getElem? (i := 1021) (by decide +kernel), List.mem_of_getElem? (i := 1052) (by decide +kernel), List.mem_of_getElem? (i := 1053) (by decide +kernel)⟩
def lw_privs_3 : List (MethodName × Nat) := [(⟨"PowerRails$Board", "goOff", "(I)V"⟩, 11), (⟨"PowerRails$Board", "measureDraws", "()V"⟩, 11), (⟨"PowerRails$Board", "tripTheLow", "()V"⟩, 11), (⟨"PowerRails$Board", "trip", "(I)V"⟩, 11), (⟨"PowerRails$Board", "tripTheLatest", "()V"⟩, 11), (⟨"PowerRails$Board", "letFirstFall", "()V"⟩, 11), (⟨"PowerRails", "isRail", "(I)Z"⟩, 13), (⟨"PowerRails", "totalIfOff", "(II)I"⟩, 13), (⟨"java/lang/Throwable", "fillInStackTrace", "(I)Ljava/lang/Throwable;"⟩, 6), (⟨"PowerRailsModel", "freshText", "()V"⟩, 41), (⟨"PowerRailsModel", "reads", "(II)V"⟩, 41), (⟨"PowerRailsModel", "takeText", "()V"⟩, 41), (⟨"PowerRailsModel", "reading", "(I)I"⟩, 41), (⟨"PowerRailsModel", "laysOn", "()V"⟩, 41), (⟨"PowerRailsModel", "rails", "()I"⟩, 41), (⟨"PowerRailsModel", "begins", "()V"⟩, 41)]
theorem lw_r3 : ∀ q ∈ lw_privs_3, lw_okq q := List.forall_mem_cons.mpr ⟨lw_p32, List.forall_mem_cons.mpr ⟨lw_p33, List.forall_mem_cons.mpr ⟨lw_p34, List.forall_mem_cons.mpr ⟨lw_p35, List.forall_mem_cons.mpr ⟨lw_p36, List.forall_mem_cons.mpr ⟨lw_p37, List.forall_mem_cons.mpr ⟨lw_p38, List.forall_mem_cons.mpr ⟨lw_p39, List.forall_mem_cons.mpr ⟨lw_p40, List.forall_mem_cons.mpr ⟨lw_p41, List.forall_mem_cons.mpr ⟨lw_p42, List.forall_mem_cons.mpr ⟨lw_p43, List.forall_mem_cons.mpr ⟨lw_p44, List.forall_mem_cons.mpr ⟨lw_p45, List.forall_mem_cons.mpr ⟨lw_p46, List.forall_mem_cons.mpr ⟨lw_p47, fun _ h => absurd h List.not_mem_nil⟩⟩⟩⟩⟩⟩⟩⟩⟩⟩⟩⟩⟩⟩⟩⟩
theorem lw_p48 : lw_okq (⟨"PowerRailsModel", "readText", "(I)V"⟩, 41) := ⟨⟨by decide +kernel, by decide +kernel⟩, List.mem_of_getElem? (i := 1021) (by decide +kernel), List.mem_of_getElem? (i := 1193) (by decide +kernel), List.mem_of_getElem? (i := 1194) (by decide +kernel)⟩
theorem lw_p49 : lw_okq (⟨"PowerRailsModel", "token", "()V"⟩, 41) := ⟨⟨by decide +kernel, by decide +kernel⟩, List.mem_of_getElem? (i := 1021) (by decide +kernel), List.mem_of_getElem? (i := 1197) (by decide +kernel), List.mem_of_getElem? (i := 1198) (by decide +kernel)⟩
theorem lw_p50 : lw_okq (⟨"PowerRailsModel", "here", "()I"⟩, 41) := ⟨⟨by decide +kernel, by decide +kernel⟩, List.mem_of_getElem? (i := 1021) (by decide +kernel), List.mem_of_getElem? (i := 1201) (by decide +kernel), List.mem_of_getElem? (i := 1202) (by decide +kernel)⟩
theorem lw_p51 : lw_okq (⟨"PowerRailsModel", "wordHere", "()I"⟩, 41) := ⟨⟨by decide +kernel, by decide +kernel⟩, List.mem_of_getElem? (i := 1021) (by decide +kernel), List.mem_of_getElem? (i := 1208) (by decide +kernel), List.mem_of_getElem? (i := 1209) (by decide +kernel)⟩
theorem lw_p52 : lw_okq (⟨"PowerRailsModel", "nameHere", "()V"⟩, 41) := ⟨⟨by decide +kernel, by decide +kernel⟩, List.mem_of_getElem? (i := 1021) (by decide +kernel), List.mem_of_getElem? (i := 1215) (by decide +kernel), List.mem_of_getElem? (i := 1216) (by decide +kernel)⟩
theorem lw_p53 : lw_okq (⟨"PowerRailsModel", "readLine", "()V"⟩, 41) := ⟨⟨by decide +kernel, by decide +kernel⟩, List.mem_of_getElem? (i := 1021) (by decide +kernel), List.mem_of_getElem? (i := 1223) (by decide +kernel), List.mem_of_getElem? (i := 1224) (by decide +kernel)⟩
theorem lw_p54 : lw_okq (⟨"PowerRailsModel", "wrong", "(I)V"⟩, 41) := ⟨⟨by decide +kernel, by decide +kernel⟩, List.mem_of_getElem? (i := 1021) (by decide +kernel), List.mem_of_getElem? (i := 1227) (by decide +kernel), List.mem_of_getElem? (i := 1228) (by decide +kernel)⟩
theorem lw_p55 : lw_okq (⟨"PowerRailsModel", "readRail", "()V"⟩, 41) := ⟨⟨by decide +kernel, by decide +kernel⟩, List.mem_of_getElem? (i := 1021) (by decide +kernel), List.mem_of_getElem? (i := 1231) (by decide +kernel), List.mem_of_getElem? (i := 1232) (by decide +kernel)⟩
theorem lw_p56 : lw_okq (⟨"PowerRailsModel", "goOn", "()V"⟩, 41) := ⟨⟨by decide +kernel, by decide +kernel⟩, List.mem_of_getElem? (i := 1021) (by decide +kernel), List.mem_of_getElem? (i := 1235) (by decide +kernel), List.mem_of_getElem? (i := 1236) (by decide +kernel)⟩
theorem lw_p57 : lw_okq (⟨"PowerRailsModel", "namedAt", "(III)I"⟩, 41) := ⟨⟨by decide +kernel, by decide +kernel⟩, List.mem_of_getElem? (i := 1021) (by decide +kernel), List.mem_of_getElem? (i := 1239) (by decide +kernel), List.mem_of_getElem? (i := 1240) (by decide +kernel)⟩
theorem lw_p58 : lw_okq (⟨"PowerRailsModel", "railHere", "()I"⟩, 41) := ⟨⟨by decide +kernel, by decide +kernel⟩, List.mem_of_getElem? (i := 1021) (by decide +kernel), List.mem_of_getElem? (i := 1243) (by decide +kernel), List.mem_of_getElem? (i := 1244) (by decide +kernel)⟩
theorem lw_p59 : lw_okq (⟨"PowerRailsModel", "numeral", "(II)I"⟩, 41) := ⟨⟨by decide +kernel, by decide +kernel⟩, List.mem_of_getElem? (i := 1021) (by decide +kernel), List.mem_of_getElem? (i := 1247) (by decide +kernel), List.mem_of_getElem? (i := 1248) (by decide +kernel)⟩
theorem lw_p60 : lw_okq (⟨"PowerRailsModel", "readNeeds", "()V"⟩, 41) := ⟨⟨by decide +kernel, by decide +kernel⟩, List.mem_of_getElem? (i := 1021) (by decide +kernel), List.mem_of_getElem? (i := 1251) (by decide +kernel), List.mem_of_getElem? (i := 1252) (by decide +kernel)⟩
theorem lw_p61 : lw_okq (⟨"PowerRailsModel", "readStep", "(I)V"⟩, 41) := ⟨⟨by decide +kernel, by decide +kernel⟩, List.mem_of_getElem? (i := 1021) (by decide +kernel), List.mem_of_getElem? (i := 1255) (by decide +kernel), List.mem_of_getElem? (i := 1256) (by decide +kernel)⟩
theorem lw_p62 : lw_okq (⟨"PowerRailsModel", "readOnce", "(IIII)V"⟩, 41) := ⟨⟨by decide +kernel, by decide +kernel⟩, List.mem_of_getElem? (i := 1021) (by decide +kernel), List.mem_of_getElem? (i := 1259) (by decide +kernel), List.mem_of_getElem? (i := 1260) (by decide +kernel)⟩
theorem lw_p63 : lw_okq (⟨"PowerRailsModel", "readRetry", "()V"⟩, 41) := ⟨⟨by decide +kernel, by decide +kernel⟩, List.mem_of_getElem? (i := 1021) (by decide +kernel), List.mem_of_getElem? (i := 1263) (by decide +kernel), List.mem_of_getElem? (i := 1264) (by decide +kernel)⟩
def lw_privs_4 : List (MethodName × Nat) := [(⟨"PowerRailsModel", "readText", "(I)V"⟩, 41), (⟨"PowerRailsModel", "token", "()V"⟩, 41), (⟨"PowerRailsModel", "here", "()I"⟩, 41), (⟨"PowerRailsModel", "wordHere", "()I"⟩, 41), (⟨"PowerRailsModel", "nameHere", "()V"⟩, 41), (⟨"PowerRailsModel", "readLine", "()V"⟩, 41), (⟨"PowerRailsModel", "wrong", "(I)V"⟩, 41), (⟨"PowerRailsModel", "readRail", "()V"⟩, 41), (⟨"PowerRailsModel", "goOn", "()V"⟩, 41), (⟨"PowerRailsModel", "namedAt", "(III)I"⟩, 41), (⟨"PowerRailsModel", "railHere", "()I"⟩, 41), (⟨"PowerRailsModel", "numeral", "(II)I"⟩, 41), (⟨"PowerRailsModel", "readNeeds", "()V"⟩, 41), (⟨"PowerRailsModel", "readStep", "(I)V"⟩, 41), (⟨"PowerRailsModel", "readOnce", "(IIII)V"⟩, 41), (⟨"PowerRailsModel", "readRetry", "()V"⟩, 41)]
theorem lw_r4 : ∀ q ∈ lw_privs_4, lw_okq q := List.forall_mem_cons.mpr ⟨lw_p48, List.forall_mem_cons.mpr ⟨lw_p49, List.forall_mem_cons.mpr ⟨lw_p50, List.forall_mem_cons.mpr ⟨lw_p51, List.forall_mem_cons.mpr ⟨lw_p52, List.forall_mem_cons.mpr ⟨lw_p53, List.forall_mem_cons.mpr ⟨lw_p54, List.forall_mem_cons.mpr ⟨lw_p55, List.forall_mem_cons.mpr ⟨lw_p56, List.forall_mem_cons.mpr ⟨lw_p57, List.forall_mem_cons.mpr ⟨lw_p58, List.forall_mem_cons.mpr ⟨lw_p59, List.forall_mem_cons.mpr ⟨lw_p60, List.forall_mem_cons.mpr ⟨lw_p61, List.forall_mem_cons.mpr ⟨lw_p62, List.forall_mem_cons.mpr ⟨lw_p63, fun _ h => absurd h List.not_mem_nil⟩⟩⟩⟩⟩⟩⟩⟩⟩⟩⟩⟩⟩⟩⟩⟩
theorem lw_p64 : lw_okq (⟨"PowerRailsModel", "remembers", "()V"⟩, 41) := ⟨⟨by decide +kernel, by decide +kernel⟩, List.mem_of_getElem? (i := 1021) (by decide +kernel), List.mem_of_getElem? (i := 1294) (by decide +kernel), List.mem_of_getElem? (i := 1295) (by decide +kernel)⟩
theorem lw_p65 : lw_okq (⟨"PowerRailsModel", "tickGoes", "()V"⟩, 41) := ⟨⟨by decide +kernel, by decide +kernel⟩, List.mem_of_getElem? (i := 1021) (by decide +kernel), List.mem_of_getElem? (i := 1298) (by decide +kernel), List.mem_of_getElem? (i := 1299) (by decide +kernel)⟩
theorem lw_p66 : lw_okq (⟨"PowerRailsModel", "comeAgain", "()V"⟩, 41) := ⟨⟨by decide +kernel, by decide +kernel⟩, List.mem_of_getElem? (i := 1021) (by decide +kernel), List.mem_of_getElem? (i := 1302) (by decide +kernel), List.mem_of_getElem? (i := 1303) (by decide +kernel)⟩
theorem lw_p67 : lw_okq (⟨"PowerRailsModel", "state", "(I)I"⟩, 41) := ⟨⟨by decide +kernel, by decide +kernel⟩, List.mem_of_getElem? (i := 1021) (by decide +kernel), List.mem_of_getElem? (i := 1306) (by decide +kernel), List.mem_of_getElem? (i := 1307) (by decide +kernel)⟩
theorem lw_p68 : lw_okq (⟨"PowerRailsModel", "waitsNow", "(I)V"⟩, 41) := ⟨⟨by decide +kernel, by decide +kernel⟩, List.mem_of_getElem? (i := 1021) (by decide +kernel), List.mem_of_getElem? (i := 1310) (by decide +kernel), List.mem_of_getElem? (i := 1311) (by decide +kernel)⟩
theorem lw_p69 : lw_okq (⟨"PowerRailsModel", "state", "(II)V"⟩, 41) := ⟨⟨by decide +kernel, by decide +kernel⟩, List.mem_of_getElem? (i := 1021) (by decide +kernel), List.mem_of_getElem? (i := 1314) (by decide +kernel), List.mem_of_getElem? (i := 1315) (by decide +kernel)⟩
theorem lw_p70 : lw_okq (⟨"PowerRailsModel", "comesTo", "(II)V"⟩, 41) := ⟨⟨by decide +kernel, by decide +kernel⟩, List.mem_of_getElem? (i := 1021) (by decide +kernel), List.mem_of_getElem? (i := 1318) (by decide +kernel), List.mem_of_getElem? (i := 1319) (by decide +kernel)⟩
theorem lw_p71 : lw_okq (⟨"PowerRailsModel", "logs", "(II)V"⟩, 41) := ⟨⟨by decide +kernel, by decide +kernel⟩, List.mem_of_getElem? (i := 1021) (by decide +kernel), List.mem_of_getElem? (i := 1322) (by decide +kernel), List.mem_of_getElem? (i := 1323) (by decide +kernel)⟩
theorem lw_p72 : lw_okq (⟨"PowerRailsModel", "sequenceGoes", "()V"⟩, 41) := ⟨⟨by decide +kernel, by decide +kernel⟩, List.mem_of_getElem? (i := 1021) (by decide +kernel), List.mem_of_getElem? (i := 1326) (by decide +kernel), List.mem_of_getElem? (i := 1327) (by decide +kernel)⟩
theorem lw_p73 : lw_okq (⟨"PowerRailsModel", "isThrough", "(I)Z"⟩, 41) := ⟨⟨by decide +kernel, by decide +kernel⟩, List.mem_of_getElem? (i := 1021) (by decide +kernel), List.mem_of_getElem? (i := 1330) (by decide +kernel), List.mem_of_getElem? (i := 1331) (by decide +kernel)⟩
theorem lw_p74 : lw_okq (⟨"PowerRailsModel", "asks", "(IZ)V"⟩, 41) := ⟨⟨by decide +kernel, by decide +kernel⟩, List.mem_of_getElem? (i := 1021) (by decide +kernel), List.mem_of_getElem? (i := 1334) (by decide +kernel), List.mem_of_getElem? (i := 1335) (by decide +kernel)⟩
theorem lw_p75 : lw_okq (⟨"PowerRailsModel", "goesOut", "(II)V"⟩, 41) := ⟨⟨by decide +kernel, by decide +kernel⟩, List.mem_of_getElem? (i := 1021) (by decide +kernel), List.mem_of_getElem? (i := 1338) (by decide +kernel), List.mem_of_getElem? (i := 1339) (by decide +kernel)⟩
theorem lw_p76 : lw_okq (⟨"PowerRailsModel", "hangOn", "(I)I"⟩, 41) := ⟨⟨by decide +kernel, by decide +kernel⟩, List.mem_of_getElem? (i := 1021) (by decide +kernel), List.mem_of_getElem? (i := 1342) (by decide +kernel), List.mem_of_getElem? (i := 1343) (by decide +kernel)⟩
theorem lw_p77 : lw_okq (⟨"PowerRailsModel", "unwinds", "(II)V"⟩, 41) := ⟨⟨by decide +kernel, by decide +kernel⟩, List.mem_of_getElem? (i := 1021) (by decide +kernel), List.mem_of_getElem? (i := 1346) (by decide +kernel), List.mem_of_getElem? (i := 1347) (by decide +kernel)⟩
theorem lw_p78 : lw_okq (⟨"PowerRailsModel", "latestOf", "(I)I"⟩, 41) := ⟨⟨by decide +kernel, by decide +kernel⟩, List.mem_of_getElem? (i := 1021) (by decide +kernel), List.mem_of_getElem? (i := 1350) (by decide +kernel), List.mem_of_getElem? (i := 1351) (by decide +kernel)⟩
theorem lw_p79 : lw_okq (⟨"PowerRailsModel", "isLive", "(I)Z"⟩, 41) := ⟨⟨by decide +kernel, by decide +kernel⟩, List.mem_of_getElem? (i := 1021) (by decide +kernel), List.mem_of_getElem? (i := 1354) (by decide +kernel), List.mem_of_getElem? (i := 1355) (by decide +kernel)⟩
def lw_privs_5 : List (MethodName × Nat) := [(⟨"PowerRailsModel", "remembers", "()V"⟩, 41), (⟨"PowerRailsModel", "tickGoes", "()V"⟩, 41), (⟨"PowerRailsModel", "comeAgain", "()V"⟩, 41), (⟨"PowerRailsModel", "state", "(I)I"⟩, 41), (⟨"PowerRailsModel", "waitsNow", "(I)V"⟩, 41), (⟨"PowerRailsModel", "state", "(II)V"⟩, 41), (⟨"PowerRailsModel", "comesTo", "(II)V"⟩, 41), (⟨"PowerRailsModel", "logs", "(II)V"⟩, 41), (⟨"PowerRailsModel", "sequenceGoes", "()V"⟩, 41), (⟨"PowerRailsModel", "isThrough", "(I)Z"⟩, 41), (⟨"PowerRailsModel", "asks", "(IZ)V"⟩, 41), (⟨"PowerRailsModel", "goesOut", "(II)V"⟩, 41), (⟨"PowerRailsModel", "hangOn", "(I)I"⟩, 41), (⟨"PowerRailsModel", "unwinds", "(II)V"⟩, 41), (⟨"PowerRailsModel", "latestOf", "(I)I"⟩, 41), (⟨"PowerRailsModel", "isLive", "(I)Z"⟩, 41)]
theorem lw_r5 : ∀ q ∈ lw_privs_5, lw_okq q := List.forall_mem_cons.mpr ⟨lw_p64, List.forall_mem_cons.mpr ⟨lw_p65, List.forall_mem_cons.mpr ⟨lw_p66, List.forall_mem_cons.mpr ⟨lw_p67, List.forall_mem_cons.mpr ⟨lw_p68, List.forall_mem_cons.mpr ⟨lw_p69, List.forall_mem_cons.mpr ⟨lw_p70, List.forall_mem_cons.mpr ⟨lw_p71, List.forall_mem_cons.mpr ⟨lw_p72, List.forall_mem_cons.mpr ⟨lw_p73, List.forall_mem_cons.mpr ⟨lw_p74, List.forall_mem_cons.mpr ⟨lw_p75, List.forall_mem_cons.mpr ⟨lw_p76, List.forall_mem_cons.mpr ⟨lw_p77, List.forall_mem_cons.mpr ⟨lw_p78, List.forall_mem_cons.mpr ⟨lw_p79, fun _ h => absurd h List.not_mem_nil⟩⟩⟩⟩⟩⟩⟩⟩⟩⟩⟩⟩⟩⟩⟩⟩
theorem lw_p80 : lw_okq (⟨"PowerRailsModel", "isGood", "(I)Z"⟩, 41) := ⟨⟨by decide +kernel, by decide +kernel⟩, List.mem_of_getElem? (i := 1021) (by decide +kernel), List.mem_of_getElem? (i := 1358) (by decide +kernel), List.mem_of_getElem? (i := 1359) (by decide +kernel)⟩
theorem lw_p81 : lw_okq (⟨"PowerRailsModel", "fails", "(Z)V"⟩, 41) := ⟨⟨by decide +kernel, by decide +kernel⟩, List.mem_of_getElem? (i := 1021) (by decide +kernel), List.mem_of_getElem? (i := 1362) (by decide +kernel), List.mem_of_getElem? (i := 1363) (by decide +kernel)⟩
theorem lw_p82 : lw_okq (⟨"PowerRailsModel", "beginsToRise", "()V"⟩, 41) := ⟨⟨by decide +kernel, by decide +kernel⟩, List.mem_of_getElem? (i := 1021) (by decide +kernel), List.mem_of_getElem? (i := 1366) (by decide +kernel), List.mem_of_getElem? (i := 1367) (by decide +kernel)⟩
theorem lw_p83 : lw_okq (⟨"PowerRailsModel", "whyNot", "(I)I"⟩, 41) := ⟨⟨by decide +kernel, by decide +kernel⟩, List.mem_of_getElem? (i := 1021) (by decide +kernel), List.mem_of_getElem? (i := 1370) (by decide +kernel), List.mem_of_getElem? (i := 1371) (by decide +kernel)⟩
theorem lw_p84 : lw_okq (⟨"PowerRailsModel", "voltsGo", "(I)V"⟩, 41) := ⟨⟨by decide +kernel, by decide +kernel⟩, List.mem_of_getElem? (i := 1021) (by decide +kernel), List.mem_of_getElem? (i := 1374) (by decide +kernel), List.mem_of_getElem? (i := 1375) (by decide +kernel)⟩
theorem lw_p85 : lw_okq (⟨"PowerRailsModel", "draws", "()V"⟩, 41) := ⟨⟨by decide +kernel, by decide +kernel⟩, List.mem_of_getElem? (i := 1021) (by decide +kernel), List.mem_of_getElem? (i := 1378) (by decide +kernel), List.mem_of_getElem? (i := 1379) (by decide +kernel)⟩
theorem lw_p86 : lw_okq (⟨"PowerRailsModel", "trips", "(I)V"⟩, 41) := ⟨⟨by decide +kernel, by decide +kernel⟩, List.mem_of_getElem? (i := 1021) (by decide +kernel), List.mem_of_getElem? (i := 1382) (by decide +kernel), List.mem_of_getElem? (i := 1383) (by decide +kernel)⟩
theorem lw_p87 : lw_okq (⟨"PowerRailsModel", "isRail", "(I)Z"⟩, 41) := ⟨⟨by decide +kernel, by decide +kernel⟩, List.mem_of_getElem? (i := 1021) (by decide +kernel), List.mem_of_getElem? (i := 1390) (by decide +kernel), List.mem_of_getElem? (i := 1391) (by decide +kernel)⟩
theorem lw_p88 : lw_okq (⟨"PowerRailsModel", "laysRing", "()V"⟩, 41) := ⟨⟨by decide +kernel, by decide +kernel⟩, List.mem_of_getElem? (i := 1021) (by decide +kernel), List.mem_of_getElem? (i := 1442) (by decide +kernel), List.mem_of_getElem? (i := 1443) (by decide +kernel)⟩
theorem lw_p89 : lw_okq (⟨"PowerRailsModel", "inRings", "()I"⟩, 41) := ⟨⟨by decide +kernel, by decide +kernel⟩, List.mem_of_getElem? (i := 1021) (by decide +kernel), List.mem_of_getElem? (i := 1446) (by decide +kernel), List.mem_of_getElem? (i := 1447) (by decide +kernel)⟩
theorem lw_p90 : lw_okq (⟨"PowerRailsModel", "laysSteps", "(I)V"⟩, 41) := ⟨⟨by decide +kernel, by decide +kernel⟩, List.mem_of_getElem? (i := 1021) (by decide +kernel), List.mem_of_getElem? (i := 1450) (by decide +kernel), List.mem_of_getElem? (i := 1451) (by decide +kernel)⟩
theorem lw_p91 : lw_okq (⟨"PowerRailsModel", "laysHeat", "()V"⟩, 41) := ⟨⟨by decide +kernel, by decide +kernel⟩, List.mem_of_getElem? (i := 1021) (by decide +kernel), List.mem_of_getElem? (i := 1462) (by decide +kernel), List.mem_of_getElem? (i := 1463) (by decide +kernel)⟩
theorem lw_p92 : lw_okq (⟨"PowerRailsModel", "mayCome", "(II)Z"⟩, 41) := ⟨⟨by decide +kernel, by decide +kernel⟩, List.mem_of_getElem? (i := 1021) (by decide +kernel), List.mem_of_getElem? (i := 1467) (by decide +kernel), List.mem_of_getElem? (i := 1468) (by decide +kernel)⟩
theorem lw_p93 : lw_okq (⟨"PowerRailsModel", "heatAt", "(II)I"⟩, 41) := ⟨⟨by decide +kernel, by decide +kernel⟩, List.mem_of_getElem? (i := 1021) (by decide +kernel), List.mem_of_getElem? (i := 1471) (by decide +kernel), List.mem_of_getElem? (i := 1472) (by decide +kernel)⟩
theorem lw_p94 : lw_okq (⟨"PowerRailsModel", "isQuiet", "()Z"⟩, 41) := ⟨⟨by decide +kernel, by decide +kernel⟩, List.mem_of_getElem? (i := 1021) (by decide +kernel), List.mem_of_getElem? (i := 1497) (by decide +kernel), List.mem_of_getElem? (i := 1498) (by decide +kernel)⟩
theorem lw_p95 : lw_okq (⟨"PowerRailsModel", "tripsAll", "()I"⟩, 41) := ⟨⟨by decide +kernel, by decide +kernel⟩, List.mem_of_getElem? (i := 1021) (by decide +kernel), List.mem_of_getElem? (i := 1521) (by decide +kernel), List.mem_of_getElem? (i := 1522) (by decide +kernel)⟩
def lw_privs_6 : List (MethodName × Nat) := [(⟨"PowerRailsModel", "isGood", "(I)Z"⟩, 41), (⟨"PowerRailsModel", "fails", "(Z)V"⟩, 41), (⟨"PowerRailsModel", "beginsToRise", "()V"⟩, 41), (⟨"PowerRailsModel", "whyNot", "(I)I"⟩, 41), (⟨"PowerRailsModel", "voltsGo", "(I)V"⟩, 41), (⟨"PowerRailsModel", "draws", "()V"⟩, 41), (⟨"PowerRailsModel", "trips", "(I)V"⟩, 41), (⟨"PowerRailsModel", "isRail", "(I)Z"⟩, 41), (⟨"PowerRailsModel", "laysRing", "()V"⟩, 41), (⟨"PowerRailsModel", "inRings", "()I"⟩, 41), (⟨"PowerRailsModel", "laysSteps", "(I)V"⟩, 41), (⟨"PowerRailsModel", "laysHeat", "()V"⟩, 41), (⟨"PowerRailsModel", "mayCome", "(II)Z"⟩, 41), (⟨"PowerRailsModel", "heatAt", "(II)I"⟩, 41), (⟨"PowerRailsModel", "isQuiet", "()Z"⟩, 41), (⟨"PowerRailsModel", "tripsAll", "()I"⟩, 41)]
theorem lw_r6 : ∀ q ∈ lw_privs_6, lw_okq q := List.forall_mem_cons.mpr ⟨lw_p80, List.forall_mem_cons.mpr ⟨lw_p81, List.forall_mem_cons.mpr ⟨lw_p82, List.forall_mem_cons.mpr ⟨lw_p83, List.forall_mem_cons.mpr ⟨lw_p84, List.forall_mem_cons.mpr ⟨lw_p85, List.forall_mem_cons.mpr ⟨lw_p86, List.forall_mem_cons.mpr ⟨lw_p87, List.forall_mem_cons.mpr ⟨lw_p88, List.forall_mem_cons.mpr ⟨lw_p89, List.forall_mem_cons.mpr ⟨lw_p90, List.forall_mem_cons.mpr ⟨lw_p91, List.forall_mem_cons.mpr ⟨lw_p92, List.forall_mem_cons.mpr ⟨lw_p93, List.forall_mem_cons.mpr ⟨lw_p94, List.forall_mem_cons.mpr ⟨lw_p95, fun _ h => absurd h List.not_mem_nil⟩⟩⟩⟩⟩⟩⟩⟩⟩⟩⟩⟩⟩⟩⟩⟩
theorem lw_p96 : lw_okq (⟨"PowerRailsModel", "draw", "(I)I"⟩, 41) := ⟨⟨by decide +kernel, by decide +kernel⟩, List.mem_of_getElem? (i := 1021) (by decide +kernel), List.mem_of_getElem? (i := 1525) (by decide +kernel), List.mem_of_getElem? (i := 1526) (by decide +kernel)⟩
theorem lw_p97 : lw_okq (⟨"PowerRailsModel", "good", "()I"⟩, 41) := ⟨⟨by decide +kernel, by decide +kernel⟩, List.mem_of_getElem? (i := 1021) (by decide +kernel), List.mem_of_getElem? (i := 1531) (by decide +kernel), List.mem_of_getElem? (i := 1532) (by decide +kernel)⟩
theorem lw_p98 : lw_okq (⟨"PowerRailsModel", "goodMany", "()I"⟩, 41) := ⟨⟨by decide +kernel, by decide +kernel⟩, List.mem_of_getElem? (i := 1021) (by decide +kernel), List.mem_of_getElem? (i := 1539) (by decide +kernel), List.mem_of_getElem? (i := 1540) (by decide +kernel)⟩
def lw_privs_7 : List (MethodName × Nat) := [(⟨"PowerRailsModel", "draw", "(I)I"⟩, 41), (⟨"PowerRailsModel", "good", "()I"⟩, 41), (⟨"PowerRailsModel", "goodMany", "()I"⟩, 41)]
theorem lw_r7 : ∀ q ∈ lw_privs_7, lw_okq q := List.forall_mem_cons.mpr ⟨lw_p96, List.forall_mem_cons.mpr ⟨lw_p97, List.forall_mem_cons.mpr ⟨lw_p98, fun _ h => absurd h List.not_mem_nil⟩⟩⟩
def lw_privs : List (MethodName × Nat) := lw_privs_1 ++ (lw_privs_2 ++ (lw_privs_3 ++ (lw_privs_4 ++ (lw_privs_5 ++ (lw_privs_6 ++ (lw_privs_7))))))
def lw_tbl : List Cond := k2_sels lw_privs ++ tables_1
theorem lw_privs_ok : ∀ q ∈ lw_privs, lw_okq q := by
  show ∀ q ∈ lw_privs_1 ++ (lw_privs_2 ++ (lw_privs_3 ++ (lw_privs_4 ++ (lw_privs_5 ++ (lw_privs_6 ++ (lw_privs_7)))))), lw_okq q
  exact List.forall_mem_append.mpr ⟨lw_r1, List.forall_mem_append.mpr ⟨lw_r2, List.forall_mem_append.mpr ⟨lw_r3, List.forall_mem_append.mpr ⟨lw_r4, List.forall_mem_append.mpr ⟨lw_r5, List.forall_mem_append.mpr ⟨lw_r6, lw_r7⟩⟩⟩⟩⟩⟩
-- ===== end of PART A; then your names; then what follows =====
-- the words that every method may use: those of the tables that hold in any warmed state
def pxW : List Cond := lw_tbl.filter goodWord
theorem pxW_good {w : Cond} (h : w ∈ pxW) : (w.onTables && w.keeps) = true ∨ ∃ ty, w = .arrayClass ty := good_of_word (List.mem_filter.mp h).2
theorem pxW_tbl {w : Cond} (h : w ∈ pxW) : w ∈ lw_tbl := (List.mem_filter.mp h).1
end
section
def R_PR : String := "PowerRails"
def F_PR : u_T := fun k => match k with
  | 0 => ("PowerRails", "tape", "[B", true)
  | 1 => ("PowerRails", "reader", "LPowerRails$Reader;", true)
  | 2 => ("PowerRails", "past", "[LPowerRails$Board;", true)
  | 3 => ("PowerRails", "image", "LPowerRails$Board;", true)
  | 4 => ("PowerRails", "now", "LPowerRails$Board;", true)
  | 5 => ("PowerRails", "scratch", "LPowerRails$Board;", true)
  | 6 => ("PowerRails", "plan", "LPowerRails$Plan;", false)
  | 7 => ("PowerRails", "tapeLength", "I", false)
  | 8 => ("PowerRails", "faultKind", "I", false)
  | 9 => ("PowerRails", "faultPlace", "I", false)
  | 10 => ("PowerRails", "imageKept", "Z", false)
  | 11 => ("PowerRails", "pastFirst", "I", false)
  | _ => ("PowerRails", "pastCount", "I", false)
def t_PR : Nat → FieldType := fun k => match k with
  | 0 => .array .byte
  | 1 => .object "PowerRails$Reader"
  | 2 => .array (.object "PowerRails$Board")
  | 3 => .object "PowerRails$Board"
  | 4 => .object "PowerRails$Board"
  | 5 => .object "PowerRails$Board"
  | 6 => .object "PowerRails$Plan"
  | 7 => .int
  | 8 => .int
  | 9 => .int
  | 10 => .boolean
  | 11 => .int
  | _ => .int
theorem n_PR : ∀ a, a < 13 → ∀ b, b < 13 → a ≠ b → (F_PR a).2.1 ≠ (F_PR b).2.1 := by decide +kernel
theorem k_PR : ∀ k, k < 13 → parseFieldDescriptor (F_PR k).2.2.1 = some (t_PR k) := by decide +kernel
theorem i_PR : ∀ w ∈ u_ws R_PR F_PR 13, w ∈ pxW := by decide +kernel
def R_Pl : String := "PowerRails$Plan"
def F_Pl : u_T := fun k => match k with
  | 0 => ("PowerRails$Plan", "rails", "I", false)
  | 1 => ("PowerRails$Plan", "needLines", "I", false)
  | 2 => ("PowerRails$Plan", "steps", "I", false)
  | 3 => ("PowerRails$Plan", "name", "[I", true)
  | 4 => ("PowerRails$Plan", "parent", "[I", true)
  | 5 => ("PowerRails$Plan", "level", "[I", true)
  | 6 => ("PowerRails$Plan", "ramp", "[I", true)
  | 7 => ("PowerRails$Plan", "charge", "[I", true)
  | 8 => ("PowerRails$Plan", "firstLoad", "[I", true)
  | 9 => ("PowerRails$Plan", "firstLimit", "[I", true)
  | 10 => ("PowerRails$Plan", "needs", "[I", true)
  | 11 => ("PowerRails$Plan", "direct", "[I", true)
  | 12 => ("PowerRails$Plan", "above", "[I", true)
  | 13 => ("PowerRails$Plan", "below", "[I", true)
  | 14 => ("PowerRails$Plan", "stepKind", "[I", true)
  | 15 => ("PowerRails$Plan", "stepRail", "[I", true)
  | 16 => ("PowerRails$Plan", "stepTime", "[I", true)
  | _ => ("PowerRails$Plan", "setting", "[I", true)
def t_Pl : Nat → FieldType := fun k => match k with
  | 0 => .int
  | 1 => .int
  | 2 => .int
  | 3 => .array .int
  | 4 => .array .int
  | 5 => .array .int
  | 6 => .array .int
  | 7 => .array .int
  | 8 => .array .int
  | 9 => .array .int
  | 10 => .array .int
  | 11 => .array .int
  | 12 => .array .int
  | 13 => .array .int
  | 14 => .array .int
  | 15 => .array .int
  | 16 => .array .int
  | _ => .array .int
theorem n_Pl : ∀ a, a < 18 → ∀ b, b < 18 → a ≠ b → (F_Pl a).2.1 ≠ (F_Pl b).2.1 := by decide +kernel
theorem k_Pl : ∀ k, k < 18 → parseFieldDescriptor (F_Pl k).2.2.1 = some (t_Pl k) := by decide +kernel
theorem i_Pl : ∀ w ∈ u_ws R_Pl F_Pl 18, w ∈ pxW := by decide +kernel
def R_Bo : String := "PowerRails$Board"
def F_Bo : u_T := fun k => match k with
  | 0 => ("PowerRails$Board", "rails", "[LPowerRails$Rail;", true)
  | 1 => ("PowerRails$Board", "waiting", "LPowerRails$Queue;", true)
  | 2 => ("PowerRails$Board", "row", "LPowerRails$Queue;", true)
  | 3 => ("PowerRails$Board", "logRow", "[I", true)
  | 4 => ("PowerRails$Board", "plan", "LPowerRails$Plan;", false)
  | 5 => ("PowerRails$Board", "tick", "I", false)
  | 6 => ("PowerRails$Board", "total", "I", false)
  | 7 => ("PowerRails$Board", "mode", "I", false)
  | 8 => ("PowerRails$Board", "step", "I", false)
  | 9 => ("PowerRails$Board", "stay", "I", false)
  | _ => ("PowerRails$Board", "logged", "I", false)
def t_Bo : Nat → FieldType := fun k => match k with
  | 0 => .array (.object "PowerRails$Rail")
  | 1 => .object "PowerRails$Queue"
  | 2 => .object "PowerRails$Queue"
  | 3 => .array .int
  | 4 => .object "PowerRails$Plan"
  | 5 => .int
  | 6 => .int
  | 7 => .int
  | 8 => .int
  | 9 => .int
  | _ => .int
theorem n_Bo : ∀ a, a < 11 → ∀ b, b < 11 → a ≠ b → (F_Bo a).2.1 ≠ (F_Bo b).2.1 := by decide +kernel
theorem k_Bo : ∀ k, k < 11 → parseFieldDescriptor (F_Bo k).2.2.1 = some (t_Bo k) := by decide +kernel
theorem i_Bo : ∀ w ∈ u_ws R_Bo F_Bo 11, w ∈ pxW := by decide +kernel
def R_Ra : String := "PowerRails$Rail"
def F_Ra : u_T := fun k => match k with
  | 0 => ("PowerRails$Rail", "load", "I", false)
  | 1 => ("PowerRails$Rail", "limit", "I", false)
  | 2 => ("PowerRails$Rail", "state", "I", false)
  | 3 => ("PowerRails$Rail", "volts", "I", false)
  | 4 => ("PowerRails$Rail", "rose", "I", false)
  | 5 => ("PowerRails$Rail", "draw", "I", false)
  | 6 => ("PowerRails$Rail", "over", "Z", false)
  | 7 => ("PowerRails$Rail", "lowTicks", "I", false)
  | 8 => ("PowerRails$Rail", "began", "I", false)
  | 9 => ("PowerRails$Rail", "trips", "I", false)
  | 10 => ("PowerRails$Rail", "retries", "I", false)
  | 11 => ("PowerRails$Rail", "again", "I", false)
  | _ => ("PowerRails$Rail", "wentByTrip", "Z", false)
def t_Ra : Nat → FieldType := fun k => match k with
  | 0 => .int
  | 1 => .int
  | 2 => .int
  | 3 => .int
  | 4 => .int
  | 5 => .int
  | 6 => .boolean
  | 7 => .int
  | 8 => .int
  | 9 => .int
  | 10 => .int
  | 11 => .int
  | _ => .boolean
theorem n_Ra : ∀ a, a < 13 → ∀ b, b < 13 → a ≠ b → (F_Ra a).2.1 ≠ (F_Ra b).2.1 := by decide +kernel
theorem k_Ra : ∀ k, k < 13 → parseFieldDescriptor (F_Ra k).2.2.1 = some (t_Ra k) := by decide +kernel
theorem i_Ra : ∀ w ∈ u_ws R_Ra F_Ra 13, w ∈ pxW := by decide +kernel
def R_Qu : String := "PowerRails$Queue"
def F_Qu : u_T := fun k => match k with
  | 0 => ("PowerRails$Queue", "item", "[I", true)
  | 1 => ("PowerRails$Queue", "size", "I", false)
  | _ => ("PowerRails$Queue", "bits", "I", false)
def t_Qu : Nat → FieldType := fun k => match k with
  | 0 => .array .int
  | 1 => .int
  | _ => .int
theorem n_Qu : ∀ a, a < 3 → ∀ b, b < 3 → a ≠ b → (F_Qu a).2.1 ≠ (F_Qu b).2.1 := by decide +kernel
theorem k_Qu : ∀ k, k < 3 → parseFieldDescriptor (F_Qu k).2.2.1 = some (t_Qu k) := by decide +kernel
theorem i_Qu : ∀ w ∈ u_ws R_Qu F_Qu 3, w ∈ pxW := by decide +kernel
def R_Re : String := "PowerRails$Reader"
def F_Re : u_T := fun k => match k with
  | 0 => ("PowerRails$Reader", "plan", "LPowerRails$Plan;", false)
  | 1 => ("PowerRails$Reader", "fault", "I", false)
  | 2 => ("PowerRails$Reader", "place", "I", false)
  | 3 => ("PowerRails$Reader", "wordLetters", "[I", true)
  | 4 => ("PowerRails$Reader", "kinds", "[I", true)
  | 5 => ("PowerRails$Reader", "values", "[I", true)
  | 6 => ("PowerRails$Reader", "places", "[I", true)
  | 7 => ("PowerRails$Reader", "tokens", "I", false)
  | 8 => ("PowerRails$Reader", "bytes", "[B", true)
  | 9 => ("PowerRails$Reader", "length", "I", false)
  | 10 => ("PowerRails$Reader", "at", "I", false)
  | 11 => ("PowerRails$Reader", "kind", "I", false)
  | 12 => ("PowerRails$Reader", "value", "I", false)
  | 13 => ("PowerRails$Reader", "next", "I", false)
  | _ => ("PowerRails$Reader", "settingsTold", "I", false)
def t_Re : Nat → FieldType := fun k => match k with
  | 0 => .object "PowerRails$Plan"
  | 1 => .int
  | 2 => .int
  | 3 => .array .int
  | 4 => .array .int
  | 5 => .array .int
  | 6 => .array .int
  | 7 => .int
  | 8 => .array .byte
  | 9 => .int
  | 10 => .int
  | 11 => .int
  | 12 => .int
  | 13 => .int
  | _ => .int
theorem n_Re : ∀ a, a < 15 → ∀ b, b < 15 → a ≠ b → (F_Re a).2.1 ≠ (F_Re b).2.1 := by decide +kernel
theorem k_Re : ∀ k, k < 15 → parseFieldDescriptor (F_Re k).2.2.1 = some (t_Re k) := by decide +kernel
theorem i_Re : ∀ w ∈ u_ws R_Re F_Re 15, w ∈ pxW := by decide +kernel
def R_Mo : String := "PowerRailsModel"
def F_Mo : u_T := fun k => match k with
  | 0 => ("PowerRailsModel", "thrown", "I", false)
  | 1 => ("PowerRailsModel", "tape", "[I", true)
  | 2 => ("PowerRailsModel", "taped", "I", false)
  | 3 => ("PowerRailsModel", "number", "[I", true)
  | 4 => ("PowerRailsModel", "isTold", "[Z", true)
  | 5 => ("PowerRailsModel", "name", "[I", true)
  | 6 => ("PowerRailsModel", "parent", "[I", true)
  | 7 => ("PowerRailsModel", "level", "[I", true)
  | 8 => ("PowerRailsModel", "ramp", "[I", true)
  | 9 => ("PowerRailsModel", "charge", "[I", true)
  | 10 => ("PowerRailsModel", "loadTold", "[I", true)
  | 11 => ("PowerRailsModel", "limitTold", "[I", true)
  | 12 => ("PowerRailsModel", "needs", "[I", true)
  | 13 => ("PowerRailsModel", "stepSort", "[I", true)
  | 14 => ("PowerRailsModel", "stepRail", "[I", true)
  | 15 => ("PowerRailsModel", "stepN", "[I", true)
  | 16 => ("PowerRailsModel", "lines", "I", false)
  | 17 => ("PowerRailsModel", "size", "I", false)
  | 18 => ("PowerRailsModel", "at", "I", false)
  | 19 => ("PowerRailsModel", "place", "I", false)
  | 20 => ("PowerRailsModel", "sort", "I", false)
  | 21 => ("PowerRailsModel", "value", "I", false)
  | 22 => ("PowerRailsModel", "fault", "I", false)
  | 23 => ("PowerRailsModel", "faultPlace", "I", false)
  | 24 => ("PowerRailsModel", "lastFault", "I", false)
  | 25 => ("PowerRailsModel", "lastPlace", "I", false)
  | 26 => ("PowerRailsModel", "directly", "[I", true)
  | 27 => ("PowerRailsModel", "hangsOn", "[I", true)
  | 28 => ("PowerRailsModel", "s", "[I", true)
  | 29 => ("PowerRailsModel", "aside", "[I", true)
  | 30 => ("PowerRailsModel", "image", "[I", true)
  | 31 => ("PowerRailsModel", "pasts", "[I", true)
  | 32 => ("PowerRailsModel", "undoable", "I", false)
  | 33 => ("PowerRailsModel", "hasImage", "Z", false)
  | 34 => ("PowerRailsModel", "rose", "[I", true)
  | 35 => ("PowerRailsModel", "begin", "[I", true)
  | 36 => ("PowerRailsModel", "steps", "[I", true)
  | 37 => ("PowerRailsModel", "ring", "[I", true)
  | 38 => ("PowerRailsModel", "ringLong", "I", false)
  | 39 => ("PowerRailsModel", "heatOf", "[I", true)
  | _ => ("PowerRailsModel", "drawn", "I", false)
def t_Mo : Nat → FieldType := fun k => match k with
  | 0 => .int
  | 1 => .array .int
  | 2 => .int
  | 3 => .array .int
  | 4 => .array .boolean
  | 5 => .array .int
  | 6 => .array .int
  | 7 => .array .int
  | 8 => .array .int
  | 9 => .array .int
  | 10 => .array .int
  | 11 => .array .int
  | 12 => .array .int
  | 13 => .array .int
  | 14 => .array .int
  | 15 => .array .int
  | 16 => .int
  | 17 => .int
  | 18 => .int
  | 19 => .int
  | 20 => .int
  | 21 => .int
  | 22 => .int
  | 23 => .int
  | 24 => .int
  | 25 => .int
  | 26 => .array .int
  | 27 => .array .int
  | 28 => .array .int
  | 29 => .array .int
  | 30 => .array .int
  | 31 => .array .int
  | 32 => .int
  | 33 => .boolean
  | 34 => .array .int
  | 35 => .array .int
  | 36 => .array .int
  | 37 => .array .int
  | 38 => .int
  | 39 => .array .int
  | _ => .int
theorem n_Mo : ∀ a, a < 41 → ∀ b, b < 41 → a ≠ b → (F_Mo a).2.1 ≠ (F_Mo b).2.1 := by decide +kernel
theorem k_Mo : ∀ k, k < 41 → parseFieldDescriptor (F_Mo k).2.2.1 = some (t_Mo k) := by decide +kernel
theorem i_Mo : ∀ w ∈ u_ws R_Mo F_Mo 41, w ∈ pxW := by decide +kernel
abbrev classes : List vw_C := [(R_PR, F_PR, 13), (R_Pl, F_Pl, 18), (R_Bo, F_Bo, 11), (R_Ra, F_Ra, 13), (R_Qu, F_Qu, 3), (R_Re, F_Re, 15), (R_Mo, F_Mo, 41)]
def px_ty (ci : Nat) : Nat → FieldType := match ci with
  | 0 => t_PR
  | 1 => t_Pl
  | 2 => t_Bo
  | 3 => t_Ra
  | 4 => t_Qu
  | 5 => t_Re
  | _ => t_Mo
theorem px_cls {ci : Nat} {q : vw_C} (h : classes[ci]? = some q) : (∀ w ∈ u_ws q.1 q.2.1 q.2.2, w ∈ pxW) ∧ (∀ k, k < q.2.2 → parseFieldDescriptor (q.2.1 k).2.2.1 = some (px_ty ci k)) ∧ (∀ a, a < q.2.2 → ∀ b, b < q.2.2 → a ≠ b → (q.2.1 a).2.1 ≠ (q.2.1 b).2.1) := by
  match ci, h with
  | 0, h => cases h; exact ⟨i_PR, k_PR, n_PR⟩
  | 1, h => cases h; exact ⟨i_Pl, k_Pl, n_Pl⟩
  | 2, h => cases h; exact ⟨i_Bo, k_Bo, n_Bo⟩
  | 3, h => cases h; exact ⟨i_Ra, k_Ra, n_Ra⟩
  | 4, h => cases h; exact ⟨i_Qu, k_Qu, n_Qu⟩
  | 5, h => cases h; exact ⟨i_Re, k_Re, n_Re⟩
  | 6, h => cases h; exact ⟨i_Mo, k_Mo, n_Mo⟩
  | n + 7, h => exact absurd h (by simp [classes])
end
section
/-! A SYSTEM IN NUMBERS: its cells have ids; what a cell is (its class, what its references are) is told by its id; all else is numbers, one for each id and place.
'pw': from a program counter, with locals, stack and numbers as told, the method comes to an end that 'Rt' allows. 'pm': a method's contract. A row an instruction; no heap, no address is seen above them. -/
abbrev pxI : Type := Nat × Nat × Nat
abbrev pxV : Type := Int32 ⊕ Option pxI
abbrev pxS : Type := pxI → Nat → Int32
abbrev pxK : Type := Option (Nat ⊕ Option pxI)
abbrev pxC : Type := (Nat × Nat) ⊕ ((Nat × Nat × (Nat → Option pxI)) ⊕ (Nat × List pxK))
abbrev pxG : Type := pxI → pxC
def px_sv (q : pxK) (x : Int32) : pxV := match q with
  | none => .inl x
  | some (.inl kd) => .inr (some (kd, x.toNatClampNeg, 0))
  | some (.inr r) => .inr r
def px_mv (ad : pxI → Nat) (v : pxV) : Value := match v with
  | .inl x => .int x
  | .inr none => .null
  | .inr (some i) => .ref (ad i)
def px_fs (ad : pxI → Nat) (sl : List pxK) (f : Nat → Int32) : List Value := sl.mapIdx fun k q => px_mv ad (px_sv q (f k))
def px_ce (ad : pxI → Nat) (tA : Nat → ClassId) (c : pxC) (f : Nat → Int32) : va_E := match c with
  | .inl (t, n) => .inl (tA t, n, .inl f)
  | .inr (.inl (t, n, g)) => .inl (tA t, n, .inr (.inr (.inr (.inr fun j => if j < n then (g j).map ad else none))))
  | .inr (.inr (ci, sl)) => .inr (ci, px_fs ad sl f)
def px_ws (ad : pxI → Nat) (tA : Nat → ClassId) (ids : List pxI) (G : pxG) (σ : pxS) : va_W := ids.map fun i => (ad i, px_ce ad tA (G i) (σ i))
def px_vv (ids : List pxI) (v : pxV) : Prop := ∀ r, v = .inr (some r) → r ∈ ids
/-- every reference that a cell holds is one of the system's -/
def px_clo (ids : List pxI) (G : pxG) (σ : pxS) : Prop := ∀ i ∈ ids, match G i with
  | .inl _ => True
  | .inr (.inl (_, n, g)) => ∀ j, j < n → px_vv ids (.inr (g j))
  | .inr (.inr (_, sl)) => ∀ k q, sl[k]? = some q → px_vv ids (px_sv q (σ i k))
def px_up (σ : pxS) (i : pxI) (k : Nat) (v : Int32) : pxS := fun j n => if j = i ∧ n = k then v else σ j n
theorem px_up_ne {σ : pxS} {i j : pxI} {k : Nat} {v : Int32} (h : j ≠ i) : px_up σ i k v j = σ j := by
  funext n
  simp [px_up, h]
theorem px_up_self {σ : pxS} {i : pxI} {k : Nat} {v : Int32} : px_up σ i k v i = upd (σ i) k v := by
  funext n
  simp [px_up, upd]
theorem px_ws_get {ad : pxI → Nat} {tA : Nat → ClassId} {ids : List pxI} {G : pxG} {σ : pxS} {q0 : Nat} {i : pxI} (h : ids[q0]? = some i) : (px_ws ad tA ids G σ)[q0]? = some (ad i, px_ce ad tA (G i) (σ i)) := by
  simp [px_ws, h]
theorem px_ws_set {A : Nat → Prop} {ad : pxI → Nat} {tA : Nat → ClassId} {ids : List pxI} {G G' : pxG} {σ σ' : pxS} {q0 : Nat} {i : pxI} (hD : va_D A (px_ws ad tA ids G σ)) (h : ids[q0]? = some i) (ho : ∀ j ∈ ids, j ≠ i → px_ce ad tA (G' j) (σ' j) = px_ce ad tA (G j) (σ j)) : (px_ws ad tA ids G σ).set q0 (ad i, px_ce ad tA (G' i) (σ' i)) = px_ws ad tA ids G' σ' := by
  apply List.ext_getElem?
  intro k
  by_cases hk : q0 = k
  · subst hk
    have hl : q0 < (px_ws ad tA ids G σ).length := by
      have := (List.getElem?_eq_some_iff.mp h).1
      simpa [px_ws] using this
    rw [List.getElem?_set_self hl, px_ws_get h]
  · rw [List.getElem?_set_ne hk]
    cases hj : ids[k]? with
    | none => simp [px_ws, hj]
    | some j =>
      rw [px_ws_get hj, px_ws_get hj]
      have hne : j ≠ i := fun e => by
        subst e
        exact hk (hD.1 q0 k _ _ (px_ws_get h) (px_ws_get hj) rfl)
      rw [ho j (List.mem_of_getElem? hj) hne]
theorem px_fs_get {ad : pxI → Nat} {sl : List pxK} {f : Nat → Int32} {k : Nat} {q : pxK} (h : sl[k]? = some q) : (px_fs ad sl f)[k]? = some (px_mv ad (px_sv q (f k))) := by
  simp [px_fs, h]
theorem px_fs_set {ad : pxI → Nat} {sl : List pxK} {f : Nat → Int32} {k : Nat} {q : pxK} {v : Int32} (h : sl[k]? = some q) : (px_fs ad sl f).set k (px_mv ad (px_sv q v)) = px_fs ad sl (upd f k v) := by
  have hl : k < sl.length := (List.getElem?_eq_some_iff.mp h).1
  apply List.ext_getElem?
  intro j
  by_cases hj : k = j
  · subst hj
    rw [List.getElem?_set_self (by simpa [px_fs] using hl), px_fs_get h]
    simp [upd]
  · rw [List.getElem?_set_ne hj]
    cases hq : sl[j]? with
    | none => simp [px_fs, hq]
    | some q' =>
      rw [px_fs_get hq, px_fs_get hq]
      simp [upd, Ne.symm hj]
theorem px_mv_cat (ad : pxI → Nat) (v : pxV) : (px_mv ad v).category = 1 := by
  rcases v with x | r | r <;> rfl
theorem px_vi {ids : List pxI} {x : Int32} : px_vv ids (.inl x) := fun r h => by cases h
def px_tys (tA : Nat → ClassId) : List (ClassId × FieldType) := [(tA 0, .int), (tA 1, .byte), (tA 2, .boolean), (tA 3, .object "PowerRails$Board"), (tA 4, .object "PowerRails$Rail")]
/-- what stands outside of every system: the two texts, and two statics of the JDK's -/
def px_len : List Nat := [76, 84]
def px_byt : List (List Int32) := [[114, 97, 105, 108, 32, 110, 101, 101, 100, 115, 32, 111, 110, 32, 111, 102, 102, 32, 119, 97, 105, 116, 32, 103, 117, 97, 114, 100, 32, 100, 114, 111, 111, 112, 32, 102, 97, 108, 108, 32, 108, 111, 119, 32, 102, 105, 108, 116, 101, 114, 32, 114, 101, 116, 114, 121, 32, 98, 117, 100, 103, 101, 116, 32, 115, 101, 101, 100, 32, 115, 111, 117, 114, 99, 101, 32], [114, 97, 105, 108, 32, 32, 110, 101, 101, 100, 115, 32, 111, 110, 32, 32, 32, 32, 111, 102, 102, 32, 32, 32, 119, 97, 105, 116, 32, 32, 103, 117, 97, 114, 100, 32, 100, 114, 111, 111, 112, 32, 102, 97, 108, 108, 32, 32, 108, 111, 119, 32, 32, 32, 102, 105, 108, 116, 101, 114, 114, 101, 116, 114, 121, 32, 98, 117, 100, 103, 101, 116, 115, 101, 101, 100, 32, 32, 115, 111, 117, 114, 99, 101]]
def px_nl : List (String × Nat × MethodName × String) := [("PowerRails$Reader", 11, ⟨"PowerRails$Plan", "<init>", "()V"⟩, "PowerRails"), ("PowerRails", 30, ⟨"PowerRails$Plan", "<init>", "()V"⟩, "PowerRails"), ("PowerRails$Board", 19, ⟨"PowerRails$Queue", "<init>", "()V"⟩, "PowerRails"), ("PowerRails$Board", 35, ⟨"PowerRails$Rail", "<init>", "()V"⟩, "PowerRails")]
def px_nr : List String := ["PowerRails$Board", "PowerRails$Rail"]
def px_Ns (U : State) : Prop := (∀ q ∈ px_nl, va_Nw (.methodLinkNest q.1 q.2.1 q.2.2.1 q.2.2.2) U) ∧ ∀ C ∈ px_nr, va_AO C U
theorem px_Ns.warm {s U : State} (hW : s.WarmedH U.vm) (h : px_Ns s) : px_Ns U := ⟨fun q hq => va_Nw.warmM hW (h.1 q hq), fun C hC => va_AO.moved hW.alike (h.2 C hC)⟩
theorem px_Ns.calling {U : State} {g : JFrame} {mk : MethodId} {a : Array Value} (h : px_Ns U) : px_Ns (U.calling g mk a) := ⟨fun q hq => va_Nw.same rfl (u := U) (U := U.calling g mk a) rfl (h.1 q hq), fun C hC => va_AO.moved (u := U) (U := U.calling g mk a) (Vm.Alike.refl U.vm) (h.2 C hC)⟩
def px_E (A : Nat → Prop) (U : State) (H : Heap) : Prop := ∃ adK adV : Nat → Nat, vk_S 2 px_len px_byt adK adV A U H ∧ vk_R "PowerRailsModel" 138 "rail needs on off wait guard droop fall low filter retry budget seed source " (adK 0) U ∧ vk_R "PowerRails$Reader" 198 "rail  needs on    off   wait  guard droop fall  low   filterretry budgetseed  source" (adK 1) U ∧
  va_Z "java/lang/String" "COMPACT_STRINGS" "Z" (.int 1) A U H ∧ va_Zq "jdk/internal/util/Preconditions" "SIOOBE_FORMATTER" "Ljava/util/function/BiFunction;" A U H ∧ px_Ns U
theorem px_E.call {A B : Nat → Prop} {s U : State} {H : Heap} {locs : List Loc} (h : px_E A s s.heap) (hS : va_S A s.heap H locs) (hBA : ∀ q, B q → A q) (hW : s.WarmedH U.vm) (hU : U.heap = H) : px_E B U U.heap := by
  obtain ⟨adK, adV, h1, h2, h3, h4, h5, h6⟩ := h
  subst hU
  exact ⟨adK, adV, ((h1.kept hS.2.1).moved hW.alike).narrow hBA, h2.warm hW, h3.warm hW, ((h4.kept hS.2.1).moved hW.alike).narrow hBA, ((h5.kept hS.2.1).moved hW.alike).narrow hBA, h6.warm hW⟩
theorem px_E.ns {A : Nat → Prop} {U : State} {H : Heap} (h : px_E A U H) : px_Ns U := by
  obtain ⟨adK, adV, h1, h2, h3, h4, h5, h6⟩ := h
  exact h6
theorem px_E.calling {A : Nat → Prop} {U : State} {g : JFrame} {mk : MethodId} {a : Array Value} (h : px_E A U U.heap) : px_E A (U.calling g mk a) (U.calling g mk a).heap := by
  obtain ⟨adK, adV, h1, h2, h3, h4, h5, h6⟩ := h
  exact ⟨adK, adV, h1.moved (u := U) (U := U.calling g mk a) (Vm.Alike.refl U.vm), vk_R.same (u := U) (U := U.calling g mk a) rfl h2, vk_R.same (u := U) (U := U.calling g mk a) rfl h3, h4.moved (u := U) (U := U.calling g mk a) (Vm.Alike.refl U.vm), h5.moved (u := U) (U := U.calling g mk a) (Vm.Alike.refl U.vm), h6.calling⟩
def px_ctx (p : Program) (s : State) (m : MethodId) (args : Array Value) (meth : Method) (c : Code) (y : MethodName) (cc : ByteArray) (nL : Nat) (ret : Option FieldType) (D : va_G) (tA : Nat → ClassId) (A : Nat → Prop) : Prop :=
  p.tables.exec = Jvm.exec ∧ c.code = cc ∧ meth.sig.returnType = ret ∧ c.maxLocals = nL ∧ meth.name = y.name ∧ (∀ w ∈ pxW, w.before args s = true) ∧ s.vm.findClass y.cls = some m.cls ∧ meth.locks = false ∧ px_E A s s.heap ∧ va_K D classes (px_tys tA) s
def px_rel (D : va_G) (tA : Nat → ClassId) (ad : pxI → Nat) (A : Nat → Prop) (ids : List pxI) (G : pxG) (σ : pxS) (H0 H : Heap) (locs : List Loc) : Prop :=
  va_P D classes (px_ws ad tA ids G σ) H ∧ va_D A (px_ws ad tA ids G σ) ∧ va_S A H0 H locs ∧ px_clo ids G σ ∧ ∀ q : Nat, H0.size ≤ q → A q
def px_ml (ad : pxI → Nat) (L : List (Nat × pxV)) : List (Nat × Value) := L.map fun q => (q.1, px_mv ad q.2)
def px_Qc (D : va_G) (tA : Nat → ClassId) (ad0 : pxI → Nat) (ids0 : List pxI) (Rt : Option pxV → List pxI → pxG → pxS → Prop) (A : Nat → Prop) : Array Value → State → Outcome → State → Prop := fun _ st o t =>
  ∃ (v : Option pxV) (ids : List pxI) (G : pxG) (σ : pxS) (ad : pxI → Nat), Rt v ids G σ ∧ (∀ i ∈ ids0, i ∈ ids) ∧ (∀ i ∈ ids0, ad i = ad0 i) ∧ o = .returned (v.map (px_mv ad)) ∧ (∀ w, v = some w → px_vv ids w) ∧ px_clo ids G σ ∧
    va_P D classes (px_ws ad tA ids G σ) t.heap ∧ va_D A (px_ws ad tA ids G σ) ∧ va_F A st t
def px_X (p : Program) (l : Launch) (e : Env) (R : Room) (s : State) (m : MethodId) (args : Array Value) (below : List Frame) (meth : Method) (c : Code) (H : Heap) (locs : List Loc) (ls : Array Slot) (D : va_G) (tA : Nat → ClassId) (ad ad0 : pxI → Nat) (ids0 : List pxI) (A : Nat → Prop)
    (y : MethodName) (cc : ByteArray) (nL : Nat) (ret : Option FieldType) (L : List (Nat × pxV)) (st : List pxV) (ids : List pxI) (G : pxG) (σ : pxS) : Prop :=
  px_ctx p s m args meth c y cc nL ret D tA A ∧ px_rel D tA ad A ids G σ s.heap H locs ∧ lv_has ls nL (px_ml ad L) ∧ (∀ q ∈ L, px_vv ids q.2) ∧ (∀ v ∈ st, px_vv ids v) ∧ (∀ i ∈ ids0, i ∈ ids) ∧ ∀ i ∈ ids0, ad i = ad0 i
def pw (l : Launch) (R : Room) (y : MethodName) (cc : ByteArray) (nL : Nat) (ret : Option FieldType) (pc : Nat) (L : List (Nat × pxV)) (st : List pxV) (ids : List pxI) (G : pxG) (σ : pxS) (k n : Nat) (Rt : Option pxV → List pxI → pxG → pxS → Prop) : Prop :=
  ∀ (p : Program) (e : Env) (s : State) (m : MethodId) (args : Array Value) (below : List Frame) (meth : Method) (c : Code) (H : Heap) (locs : List Loc) (ls : Array Slot) (D : va_G) (tA : Nat → ClassId) (ad ad0 : pxI → Nat) (ids0 : List pxI) (A : Nat → Prop),
    px_X p l e R s m args below meth c H locs ls D tA ad ad0 ids0 A y cc nL ret L st ids G σ →
    W p l e R s m args below meth c H locs k n (MQ below (px_Qc D tA ad0 ids0 Rt A) args s R.cells R.slots A) (F0 m pc ls (st.map (px_mv ad)))
def px_Pc (D : va_G) (tA : Nat → ClassId) (ad : pxI → Nat) (ids : List pxI) (G : pxG) (σ : pxS) (as : List pxV) (sz : Nat) : Array Value → State → Prop := fun v U =>
  v = (as.map (px_mv ad)).toArray ∧ U.heap.size = sz ∧ va_P D classes (px_ws ad tA ids G σ) U.heap ∧ va_K D classes (px_tys tA) U ∧ va_D (fun _ => True) (px_ws ad tA ids G σ) ∧ px_clo ids G σ ∧ (∀ w ∈ as, px_vv ids w) ∧ px_E (va_A (px_ws ad tA ids G σ) sz) U U.heap
def pxws (y : MethodName) (cc : ByteArray) (nL : Nat) (ret : Option FieldType) : List Cond := .code y cc nL ret :: pxW
def pm (l : Launch) (y : MethodName) (cc : ByteArray) (nL : Nat) (ret : Option FieldType) (R : Room) (as : List pxV) (ids : List pxI) (G : pxG) (σ : pxS) (Rt : Option pxV → List pxI → pxG → pxS → Prop) : Prop :=
  ∀ (D : va_G) (tA : Nat → ClassId) (ad : pxI → Nat) (sz : Nat), Met l y (pxws y cc nL ret) R (px_Pc D tA ad ids G σ as sz) (px_Qc D tA ad ids Rt (va_A (px_ws ad tA ids G σ) sz)) R.cells R.slots (va_A (px_ws ad tA ids G σ) sz)
def px_args : Nat → List pxV → List (Nat × pxV)
  | _, [] => []
  | i, v :: vs => (i, v) :: px_args (i + 1) vs
theorem px_args_ml (ad : pxI → Nat) : ∀ (as : List pxV) (i : Nat), px_ml ad (px_args i as) = lv_args i (as.map (px_mv ad))
  | [], _ => rfl
  | v :: vs, i => by
    have h := px_args_ml ad vs (i + 1)
    show (i, px_mv ad v) :: px_ml ad (px_args (i + 1) vs) = (i, px_mv ad v) :: lv_args (if (px_mv ad v).category = 2 then i + 2 else i + 1) (vs.map (px_mv ad))
    rw [if_neg (by rw [px_mv_cat]; decide), h]
theorem px_sl_len (ad : pxI → Nat) : ∀ (as : List pxV), (lg_sl (as.map (px_mv ad))).length = as.length
  | [] => rfl
  | v :: vs => by
    have h := px_sl_len ad vs
    show ((if (px_mv ad v).category = 2 then [Slot.val (px_mv ad v), .second] else [.val (px_mv ad v)]) ++ lg_sl (vs.map (px_mv ad))).length = vs.length + 1
    rw [if_neg (by rw [px_mv_cat]; decide), List.length_append, h]
    simp [Nat.add_comm]
theorem px_args_mem : ∀ (as : List pxV) (i : Nat) (q : Nat × pxV), q ∈ px_args i as → q.2 ∈ as
  | [], _, _, h => by cases h
  | v :: vs, i, q, h => by
    rcases List.mem_cons.mp h with rfl | h
    · exact List.mem_cons_self
    · exact List.mem_cons_of_mem _ (px_args_mem vs (i + 1) q h)
theorem pm_of {l : Launch} {y : MethodName} {cc : ByteArray} {nL : Nat} {ret : Option FieldType} {R : Room} {as : List pxV} {ids : List pxI} {G : pxG} {σ : pxS} {Rt : Option pxV → List pxI → pxG → pxS → Prop}
    (hy : plainName y.cls = true) (hn : as.length ≤ nL) (h : pw l R y cc nL ret 0 (px_args 0 as) [] ids G σ 0 0 Rt) : pm l y cc nL ret R as ids G σ Rt := by
  intro D tA ad sz
  refine Met.ofW (cc := cc) (maxL := nL) (ret := ret) hy rfl ?_
  intro p e s m args below meth c s₁ B hml hv
  obtain ⟨rfl, hsz, hP, hK, hD0, hcl, hvv, hE⟩ := hv
  subst hsz
  have hts := atoms_spec (ws := pxws y cc nL ret) B.pre
  rw [lg_entry_eq]
  exact h p e s m _ below meth c s.heap [] _ D tA ad ad ids _
    ⟨⟨B.exec, B.bytes, B.returns, hml, (name_of_methodNamed B.named B.method).1, fun w hw => hts w (List.mem_cons_of_mem _ hw), findClass_of_methodNamed B.named, B.notSynchronized, hE, hK⟩,
      ⟨hP, hD0.self, va_S.rf, hcl, fun q hq => Or.inr hq⟩, by rw [px_args_ml]; exact lv_entry _ (by rw [px_sl_len]; exact hn), fun q hq => hvv _ (px_args_mem as 0 q hq), fun v hv => absurd hv List.not_mem_nil, fun i hi => hi, fun i _ => rfl⟩
end
section
/-! THE ROWS: what each instruction does to 'pw' -/
theorem px_X.stk {p : Program} {l : Launch} {e : Env} {R : Room} {s : State} {m : MethodId} {args : Array Value} {below : List Frame} {meth : Method} {c : Code} {H : Heap} {locs : List Loc} {ls : Array Slot} {D : va_G} {tA : Nat → ClassId} {ad ad0 : pxI → Nat} {ids0 : List pxI} {A : Nat → Prop} {y : MethodName} {cc : ByteArray} {nL : Nat} {ret : Option FieldType} {L : List (Nat × pxV)} {st st' : List pxV} {ids : List pxI} {G : pxG} {σ : pxS}
    (X : px_X p l e R s m args below meth c H locs ls D tA ad ad0 ids0 A y cc nL ret L st ids G σ) (h : ∀ v ∈ st', px_vv ids v) : px_X p l e R s m args below meth c H locs ls D tA ad ad0 ids0 A y cc nL ret L st' ids G σ :=
  ⟨X.1, X.2.1, X.2.2.1, X.2.2.2.1, h, X.2.2.2.2.2⟩
theorem px_c {ids : List pxI} {v : pxV} {st : List pxV} (h : px_vv ids v) (hs : ∀ w ∈ st, px_vv ids w) : ∀ w ∈ v :: st, px_vv ids w := fun w hw => by
  rcases List.mem_cons.mp hw with rfl | hw
  · exact h
  · exact hs w hw
theorem px_t {ids : List pxI} {v : pxV} {st : List pxV} (hs : ∀ w ∈ v :: st, px_vv ids w) : ∀ w ∈ st, px_vv ids w := fun w hw => hs w (List.mem_cons_of_mem _ hw)
theorem px_h {ids : List pxI} {v : pxV} {st : List pxV} (hs : ∀ w ∈ v :: st, px_vv ids w) : px_vv ids v := hs v List.mem_cons_self
def px_setL (i : Nat) (v : pxV) (L : List (Nat × pxV)) : List (Nat × pxV) := (i, v) :: L.filter (fun q => !(q.1 == i))
theorem px_setL_ml (ad : pxI → Nat) (i : Nat) (v : pxV) (L : List (Nat × pxV)) : (i, px_mv ad v) :: (px_ml ad L).filter (fun q => !(q.1 == i) && !(q.1 + 1 == i && q.2.category == 2)) = px_ml ad (px_setL i v L) := by
  have h : ∀ L : List (Nat × pxV), (px_ml ad L).filter (fun q => !(q.1 == i) && !(q.1 + 1 == i && q.2.category == 2)) = px_ml ad (L.filter (fun q => !(q.1 == i))) := by
    intro L
    induction L with
    | nil => rfl
    | cons q L ih =>
      have e : (!(q.1 == i) && !(q.1 + 1 == i && (px_mv ad q.2).category == 2)) = !(q.1 == i) := by
        rw [px_mv_cat]
        simp
      show List.filter _ ((q.1, px_mv ad q.2) :: px_ml ad L) = px_ml ad (List.filter _ (q :: L))
      rw [List.filter_cons, List.filter_cons, ih]
      show (if (!(q.1 == i) && !(q.1 + 1 == i && (px_mv ad q.2).category == 2)) = true then _ else _) = _
      rw [e]
      by_cases h : (!(q.1 == i)) = true
      · rw [if_pos h, if_pos h]
        rfl
      · rw [if_neg h, if_neg h]
  show _ = (i, px_mv ad v) :: px_ml ad (L.filter (fun q => !(q.1 == i)))
  rw [h]
theorem px_setL_mem {i : Nat} {v : pxV} {L : List (Nat × pxV)} {ids : List pxI} (h : px_vv ids v) (hL : ∀ q ∈ L, px_vv ids q.2) : ∀ q ∈ px_setL i v L, px_vv ids q.2 := fun q hq => by
  rcases List.mem_cons.mp hq with rfl | hq
  · exact h
  · exact hL q (List.mem_filter.mp hq).1
section PXR
variable {l : Launch} {R : Room} {y : MethodName} {cc : ByteArray} {nL : Nat} {ret : Option FieldType} {pc : Nat} {L : List (Nat × pxV)} {st : List pxV} {ids : List pxI} {G : pxG} {σ : pxS} {k n : Nat} {Rt : Option pxV → List pxI → pxG → pxS → Prop}
/-- other locals, of those that there are -/
theorem pw_L (L' : List (Nat × pxV)) (ps : List Nat) (hp : ps.filterMap (fun j => L[j]?) = L') (h : pw l R y cc nL ret pc L' st ids G σ k n Rt) : pw l R y cc nL ret pc L st ids G σ k n Rt := by
  have hm : ∀ q ∈ L', q ∈ L := fun q hq => by
    rw [← hp] at hq
    obtain ⟨j, -, hj⟩ := List.mem_filterMap.mp hq
    exact List.mem_of_getElem? hj
  intro p e s m args below meth c H locs ls D tA ad ad0 ids0 A X
  refine h p e s m args below meth c H locs ls D tA ad ad0 ids0 A ⟨X.1, X.2.1, ⟨X.2.2.1.1, X.2.2.1.2.1, fun q hq => ?_⟩, fun q hq => X.2.2.2.1 q (hm q hq), X.2.2.2.2⟩
  obtain ⟨q', h1, rfl⟩ := List.mem_map.mp hq
  exact X.2.2.1.2.2 _ (List.mem_map.mpr ⟨q', hm q' h1, rfl⟩)
theorem pw_iconst {j : Int} {v : Int32} (hd : decode cc pc = .ok (.iconst j, 1)) (hv : Int32.ofInt j = v) (h : pw l R y cc nL ret (pc + 1) L (.inl v :: st) ids G σ k n Rt) : pw l R y cc nL ret pc L st ids G σ k n Rt := by
  intro p e s m args below meth c H locs ls D tA ad ad0 ids0 A X
  exact lv_iconst X.1.1 X.1.2.1 hd hv (h p e s m args below meth c H locs ls D tA ad ad0 ids0 A (X.stk (px_c px_vi X.2.2.2.2.1)))
theorem pw_bipush {j : Int} {v : Int32} (hd : decode cc pc = .ok (.bipush j, 2)) (hv : (Int8.ofInt j).toInt32 = v) (h : pw l R y cc nL ret (pc + 2) L (.inl v :: st) ids G σ k n Rt) : pw l R y cc nL ret pc L st ids G σ k n Rt := by
  intro p e s m args below meth c H locs ls D tA ad ad0 ids0 A X
  exact lv_bipush X.1.1 X.1.2.1 hd hv (h p e s m args below meth c H locs ls D tA ad ad0 ids0 A (X.stk (px_c px_vi X.2.2.2.2.1)))
theorem pw_sipush {j : Int} {v : Int32} (hd : decode cc pc = .ok (.sipush j, 3)) (hv : (Int16.ofInt j).toInt32 = v) (h : pw l R y cc nL ret (pc + 3) L (.inl v :: st) ids G σ k n Rt) : pw l R y cc nL ret pc L st ids G σ k n Rt := by
  intro p e s m args below meth c H locs ls D tA ad ad0 ids0 A X
  exact lv_sipush X.1.1 X.1.2.1 hd hv (h p e s m args below meth c H locs ls D tA ad ad0 ids0 A (X.stk (px_c px_vi X.2.2.2.2.1)))
theorem pw_ldc {j : Nat} {v : Int32} (hd : decode cc pc = .ok (.ldc j, 2)) (hv : Cond.constant y.cls j v ∈ pxW) (h : pw l R y cc nL ret (pc + 2) L (.inl v :: st) ids G σ k n Rt) : pw l R y cc nL ret pc L st ids G σ k n Rt := by
  intro p e s m args below meth c H locs ls D tA ad ad0 ids0 A X
  exact lv_ldc X.1.1 X.1.2.1 X.1.2.2.2.2.2.2.1 (X.1.2.2.2.2.2.1 _ hv) hd (h p e s m args below meth c H locs ls D tA ad ad0 ids0 A (X.stk (px_c px_vi X.2.2.2.2.1)))
theorem pw_ldcw {j : Nat} {v : Int32} (hd : decode cc pc = .ok (.ldc_w j, 3)) (hv : Cond.constant y.cls j v ∈ pxW) (h : pw l R y cc nL ret (pc + 3) L (.inl v :: st) ids G σ k n Rt) : pw l R y cc nL ret pc L st ids G σ k n Rt := by
  intro p e s m args below meth c H locs ls D tA ad ad0 ids0 A X
  exact lv_ldcw X.1.1 X.1.2.1 X.1.2.2.2.2.2.2.1 (X.1.2.2.2.2.2.1 _ hv) hd (h p e s m args below meth c H locs ls D tA ad ad0 ids0 A (X.stk (px_c px_vi X.2.2.2.2.1)))
theorem pw_iload_n {j : Fin 4} {i : Nat} {x : Int32} (q : Nat) (hd : decode cc pc = .ok (.iload_n j, 1)) (hi : (j : Nat) = i) (hq : L[q]? = some (i, .inl x)) (h : pw l R y cc nL ret (pc + 1) L (.inl x :: st) ids G σ k n Rt) : pw l R y cc nL ret pc L st ids G σ k n Rt := by
  intro p e s m args below meth c H locs ls D tA ad ad0 ids0 A X
  exact lv_iload_n X.1.1 X.1.2.1 hd hi (X.2.2.1.2.2 (i, .int x) (List.mem_map.mpr ⟨_, List.mem_of_getElem? hq, rfl⟩)) (h p e s m args below meth c H locs ls D tA ad ad0 ids0 A (X.stk (px_c px_vi X.2.2.2.2.1)))
theorem pw_iload {i : Nat} {x : Int32} (q : Nat) (hd : decode cc pc = .ok (.iload i, 2)) (hq : L[q]? = some (i, .inl x)) (h : pw l R y cc nL ret (pc + 2) L (.inl x :: st) ids G σ k n Rt) : pw l R y cc nL ret pc L st ids G σ k n Rt := by
  intro p e s m args below meth c H locs ls D tA ad ad0 ids0 A X
  exact lv_iload X.1.1 X.1.2.1 hd (X.2.2.1.2.2 (i, .int x) (List.mem_map.mpr ⟨_, List.mem_of_getElem? hq, rfl⟩)) (h p e s m args below meth c H locs ls D tA ad ad0 ids0 A (X.stk (px_c px_vi X.2.2.2.2.1)))
theorem pw_aload_n {j : Fin 4} {i : Nat} {r : pxI} (q : Nat) (hd : decode cc pc = .ok (.aload_n j, 1)) (hi : (j : Nat) = i) (hq : L[q]? = some (i, .inr (some r))) (h : pw l R y cc nL ret (pc + 1) L (.inr (some r) :: st) ids G σ k n Rt) : pw l R y cc nL ret pc L st ids G σ k n Rt := by
  intro p e s m args below meth c H locs ls D tA ad ad0 ids0 A X
  exact lv_aload_n X.1.1 X.1.2.1 hd hi (X.2.2.1.2.2 (i, .ref (ad r)) (List.mem_map.mpr ⟨_, List.mem_of_getElem? hq, rfl⟩)) (h p e s m args below meth c H locs ls D tA ad ad0 ids0 A (X.stk (px_c (X.2.2.2.1 _ (List.mem_of_getElem? hq)) X.2.2.2.2.1)))
theorem pw_aload {i : Nat} {r : pxI} (q : Nat) (hd : decode cc pc = .ok (.aload i, 2)) (hq : L[q]? = some (i, .inr (some r))) (h : pw l R y cc nL ret (pc + 2) L (.inr (some r) :: st) ids G σ k n Rt) : pw l R y cc nL ret pc L st ids G σ k n Rt := by
  intro p e s m args below meth c H locs ls D tA ad ad0 ids0 A X
  exact lv_aload X.1.1 X.1.2.1 hd (X.2.2.1.2.2 (i, .ref (ad r)) (List.mem_map.mpr ⟨_, List.mem_of_getElem? hq, rfl⟩)) (h p e s m args below meth c H locs ls D tA ad ad0 ids0 A (X.stk (px_c (X.2.2.2.1 _ (List.mem_of_getElem? hq)) X.2.2.2.2.1)))
theorem px_X.loc {p : Program} {l : Launch} {e : Env} {R : Room} {s : State} {m : MethodId} {args : Array Value} {below : List Frame} {meth : Method} {c : Code} {H : Heap} {locs : List Loc} {ls ls' : Array Slot} {D : va_G} {tA : Nat → ClassId} {ad ad0 : pxI → Nat} {ids0 : List pxI} {A : Nat → Prop} {L L' : List (Nat × pxV)} {v : pxV} {i : Nat}
    (X : px_X p l e R s m args below meth c H locs ls D tA ad ad0 ids0 A y cc nL ret L (v :: st) ids G σ) (hL : px_setL i v L = L') (hl : lv_has ls' nL (px_ml ad L')) : px_X p l e R s m args below meth c H locs ls' D tA ad ad0 ids0 A y cc nL ret L' st ids G σ :=
  ⟨X.1, X.2.1, hl, by rw [← hL]; exact px_setL_mem (px_h X.2.2.2.2.1) X.2.2.2.1, px_t X.2.2.2.2.1, X.2.2.2.2.2⟩
theorem pw_istore_n {j : Fin 4} {i : Nat} {x : Int32} {L' : List (Nat × pxV)} (hd : decode cc pc = .ok (.istore_n j, 1)) (hi : (j : Nat) = i) (hn : i < nL) (hL : px_setL i (.inl x) L = L') (h : pw l R y cc nL ret (pc + 1) L' st ids G σ k n Rt) : pw l R y cc nL ret pc L (.inl x :: st) ids G σ k n Rt := by
  intro p e s m args below meth c H locs ls D tA ad ad0 ids0 A X
  exact lv_istore_n X.1.1 X.1.2.1 hd hi X.2.2.1 hn (by rw [← hL]; exact px_setL_ml ad i (.inl x) L) fun ls' hl => h p e s m args below meth c H locs ls' D tA ad ad0 ids0 A (X.loc hL hl)
theorem pw_istore {i : Nat} {x : Int32} {L' : List (Nat × pxV)} (hd : decode cc pc = .ok (.istore i, 2)) (hn : i < nL) (hL : px_setL i (.inl x) L = L') (h : pw l R y cc nL ret (pc + 2) L' st ids G σ k n Rt) : pw l R y cc nL ret pc L (.inl x :: st) ids G σ k n Rt := by
  intro p e s m args below meth c H locs ls D tA ad ad0 ids0 A X
  exact lv_istore X.1.1 X.1.2.1 hd X.2.2.1 hn (by rw [← hL]; exact px_setL_ml ad i (.inl x) L) fun ls' hl => h p e s m args below meth c H locs ls' D tA ad ad0 ids0 A (X.loc hL hl)
theorem pw_astore_n {j : Fin 4} {i : Nat} {r : pxI} {L' : List (Nat × pxV)} (hd : decode cc pc = .ok (.astore_n j, 1)) (hi : (j : Nat) = i) (hn : i < nL) (hL : px_setL i (.inr (some r)) L = L') (h : pw l R y cc nL ret (pc + 1) L' st ids G σ k n Rt) : pw l R y cc nL ret pc L (.inr (some r) :: st) ids G σ k n Rt := by
  intro p e s m args below meth c H locs ls D tA ad ad0 ids0 A X
  exact lv_astore_n X.1.1 X.1.2.1 hd hi X.2.2.1 hn (by rw [← hL]; exact px_setL_ml ad i (.inr (some r)) L) fun ls' hl => h p e s m args below meth c H locs ls' D tA ad ad0 ids0 A (X.loc hL hl)
theorem pw_astore {i : Nat} {r : pxI} {L' : List (Nat × pxV)} (hd : decode cc pc = .ok (.astore i, 2)) (hn : i < nL) (hL : px_setL i (.inr (some r)) L = L') (h : pw l R y cc nL ret (pc + 2) L' st ids G σ k n Rt) : pw l R y cc nL ret pc L (.inr (some r) :: st) ids G σ k n Rt := by
  intro p e s m args below meth c H locs ls D tA ad ad0 ids0 A X
  exact lv_astore X.1.1 X.1.2.1 hd X.2.2.1 hn (by rw [← hL]; exact px_setL_ml ad i (.inr (some r)) L) fun ls' hl => h p e s m args below meth c H locs ls' D tA ad ad0 ids0 A (X.loc hL hl)
theorem pw_iinc {i q : Nat} {j : Int} {x v : Int32} {L' : List (Nat × pxV)} (hd : decode cc pc = .ok (.iinc i j, 3)) (hq : L[q]? = some (i, .inl x)) (hv : x + Int32.ofInt j = v) (hn : i < nL) (hL : px_setL i (.inl v) L = L') (h : pw l R y cc nL ret (pc + 3) L' st ids G σ k n Rt) : pw l R y cc nL ret pc L st ids G σ k n Rt := by
  intro p e s m args below meth c H locs ls D tA ad ad0 ids0 A X
  refine lv_iinc (lv' := px_ml ad L') X.1.1 X.1.2.1 hd X.2.2.1 (k := q) (by simp [px_ml, hq, px_mv]) hv hn (by rw [← hL]; exact px_setL_ml ad i (.inl v) L) fun ls' hl => h p e s m args below meth c H locs ls' D tA ad ad0 ids0 A ?_
  exact (X.stk (st' := .inl v :: st) (px_c px_vi X.2.2.2.2.1)).loc hL hl
theorem pw_iadd {a b : Int32} (hd : decode cc pc = .ok (.iadd, 1)) (h : pw l R y cc nL ret (pc + 1) L (.inl (a + b) :: st) ids G σ k n Rt) : pw l R y cc nL ret pc L (.inl b :: .inl a :: st) ids G σ k n Rt := by
  intro p e s m args below meth c H locs ls D tA ad ad0 ids0 A X
  exact lv_iadd X.1.1 X.1.2.1 hd (h p e s m args below meth c H locs ls D tA ad ad0 ids0 A (X.stk (px_c px_vi (px_t (px_t X.2.2.2.2.1)))))
theorem pw_isub {a b : Int32} (hd : decode cc pc = .ok (.isub, 1)) (h : pw l R y cc nL ret (pc + 1) L (.inl (a - b) :: st) ids G σ k n Rt) : pw l R y cc nL ret pc L (.inl b :: .inl a :: st) ids G σ k n Rt := by
  intro p e s m args below meth c H locs ls D tA ad ad0 ids0 A X
  exact lv_isub X.1.1 X.1.2.1 hd (h p e s m args below meth c H locs ls D tA ad ad0 ids0 A (X.stk (px_c px_vi (px_t (px_t X.2.2.2.2.1)))))
theorem pw_imul {a b : Int32} (hd : decode cc pc = .ok (.imul, 1)) (h : pw l R y cc nL ret (pc + 1) L (.inl (a * b) :: st) ids G σ k n Rt) : pw l R y cc nL ret pc L (.inl b :: .inl a :: st) ids G σ k n Rt := by
  intro p e s m args below meth c H locs ls D tA ad ad0 ids0 A X
  exact lv_imul X.1.1 X.1.2.1 hd (h p e s m args below meth c H locs ls D tA ad ad0 ids0 A (X.stk (px_c px_vi (px_t (px_t X.2.2.2.2.1)))))
theorem pw_iand {a b : Int32} (hd : decode cc pc = .ok (.iand, 1)) (h : pw l R y cc nL ret (pc + 1) L (.inl (a &&& b) :: st) ids G σ k n Rt) : pw l R y cc nL ret pc L (.inl b :: .inl a :: st) ids G σ k n Rt := by
  intro p e s m args below meth c H locs ls D tA ad ad0 ids0 A X
  exact lv_iand X.1.1 X.1.2.1 hd (h p e s m args below meth c H locs ls D tA ad ad0 ids0 A (X.stk (px_c px_vi (px_t (px_t X.2.2.2.2.1)))))
theorem pw_ior {a b : Int32} (hd : decode cc pc = .ok (.ior, 1)) (h : pw l R y cc nL ret (pc + 1) L (.inl (a ||| b) :: st) ids G σ k n Rt) : pw l R y cc nL ret pc L (.inl b :: .inl a :: st) ids G σ k n Rt := by
  intro p e s m args below meth c H locs ls D tA ad ad0 ids0 A X
  exact lv_ior X.1.1 X.1.2.1 hd (h p e s m args below meth c H locs ls D tA ad ad0 ids0 A (X.stk (px_c px_vi (px_t (px_t X.2.2.2.2.1)))))
theorem pw_ixor {a b : Int32} (hd : decode cc pc = .ok (.ixor, 1)) (h : pw l R y cc nL ret (pc + 1) L (.inl (a ^^^ b) :: st) ids G σ k n Rt) : pw l R y cc nL ret pc L (.inl b :: .inl a :: st) ids G σ k n Rt := by
  intro p e s m args below meth c H locs ls D tA ad ad0 ids0 A X
  exact lv_ixor X.1.1 X.1.2.1 hd (h p e s m args below meth c H locs ls D tA ad ad0 ids0 A (X.stk (px_c px_vi (px_t (px_t X.2.2.2.2.1)))))
theorem pw_ishl {a b : Int32} (hd : decode cc pc = .ok (.ishl, 1)) (h : pw l R y cc nL ret (pc + 1) L (.inl (a <<< (b &&& 31)) :: st) ids G σ k n Rt) : pw l R y cc nL ret pc L (.inl b :: .inl a :: st) ids G σ k n Rt := by
  intro p e s m args below meth c H locs ls D tA ad ad0 ids0 A X
  exact lv_ishl X.1.1 X.1.2.1 hd (h p e s m args below meth c H locs ls D tA ad ad0 ids0 A (X.stk (px_c px_vi (px_t (px_t X.2.2.2.2.1)))))
theorem pw_ishr {a b : Int32} (hd : decode cc pc = .ok (.ishr, 1)) (h : pw l R y cc nL ret (pc + 1) L (.inl (a >>> (b &&& 31)) :: st) ids G σ k n Rt) : pw l R y cc nL ret pc L (.inl b :: .inl a :: st) ids G σ k n Rt := by
  intro p e s m args below meth c H locs ls D tA ad ad0 ids0 A X
  exact lv_ishr X.1.1 X.1.2.1 hd (h p e s m args below meth c H locs ls D tA ad ad0 ids0 A (X.stk (px_c px_vi (px_t (px_t X.2.2.2.2.1)))))
theorem pw_iushr {a b : Int32} (hd : decode cc pc = .ok (.iushr, 1)) (h : pw l R y cc nL ret (pc + 1) L (.inl ((a.toUInt32 >>> (b.toUInt32 &&& Int32.toUInt32 31)).toInt32) :: st) ids G σ k n Rt) : pw l R y cc nL ret pc L (.inl b :: .inl a :: st) ids G σ k n Rt := by
  intro p e s m args below meth c H locs ls D tA ad ad0 ids0 A X
  exact lv_iushr X.1.1 X.1.2.1 hd rfl (h p e s m args below meth c H locs ls D tA ad ad0 ids0 A (X.stk (px_c px_vi (px_t (px_t X.2.2.2.2.1)))))
theorem pw_idiv {a b : Int32} (hd : decode cc pc = .ok (.idiv, 1)) (hne : ¬ b = 0) (h : pw l R y cc nL ret (pc + 1) L (.inl (a / b) :: st) ids G σ k n Rt) : pw l R y cc nL ret pc L (.inl b :: .inl a :: st) ids G σ k n Rt := by
  intro p e s m args below meth c H locs ls D tA ad ad0 ids0 A X
  exact lv_idiv X.1.1 X.1.2.1 hd hne (h p e s m args below meth c H locs ls D tA ad ad0 ids0 A (X.stk (px_c px_vi (px_t (px_t X.2.2.2.2.1)))))
theorem pw_irem {a b : Int32} (hd : decode cc pc = .ok (.irem, 1)) (hne : ¬ b = 0) (h : pw l R y cc nL ret (pc + 1) L (.inl (a - a / b * b) :: st) ids G σ k n Rt) : pw l R y cc nL ret pc L (.inl b :: .inl a :: st) ids G σ k n Rt := by
  intro p e s m args below meth c H locs ls D tA ad ad0 ids0 A X
  exact lv_irem X.1.1 X.1.2.1 hd hne (h p e s m args below meth c H locs ls D tA ad ad0 ids0 A (X.stk (px_c px_vi (px_t (px_t X.2.2.2.2.1)))))
theorem pw_ineg {a : Int32} (hd : decode cc pc = .ok (.ineg, 1)) (h : pw l R y cc nL ret (pc + 1) L (.inl (-a) :: st) ids G σ k n Rt) : pw l R y cc nL ret pc L (.inl a :: st) ids G σ k n Rt := by
  intro p e s m args below meth c H locs ls D tA ad ad0 ids0 A X
  exact lv_ineg X.1.1 X.1.2.1 hd (h p e s m args below meth c H locs ls D tA ad ad0 ids0 A (X.stk (px_c px_vi (px_t X.2.2.2.2.1))))
theorem pw_i2b {a : Int32} (hd : decode cc pc = .ok (.i2b, 1)) (h : pw l R y cc nL ret (pc + 1) L (.inl a.toInt8.toInt32 :: st) ids G σ k n Rt) : pw l R y cc nL ret pc L (.inl a :: st) ids G σ k n Rt := by
  intro p e s m args below meth c H locs ls D tA ad ad0 ids0 A X
  exact lv_i2b X.1.1 X.1.2.1 hd rfl (h p e s m args below meth c H locs ls D tA ad ad0 ids0 A (X.stk (px_c px_vi (px_t X.2.2.2.2.1))))
theorem pw_dup {v : pxV} (hd : decode cc pc = .ok (.dup, 1)) (h : pw l R y cc nL ret (pc + 1) L (v :: v :: st) ids G σ k n Rt) : pw l R y cc nL ret pc L (v :: st) ids G σ k n Rt := by
  intro p e s m args below meth c H locs ls D tA ad ad0 ids0 A X
  exact lv_dup X.1.1 X.1.2.1 hd (px_mv_cat ad v) (h p e s m args below meth c H locs ls D tA ad ad0 ids0 A (X.stk (px_c (px_h X.2.2.2.2.1) X.2.2.2.2.1)))
theorem pw_dup2 {v w : pxV} (hd : decode cc pc = .ok (.dup2, 1)) (h : pw l R y cc nL ret (pc + 1) L (v :: w :: v :: w :: st) ids G σ k n Rt) : pw l R y cc nL ret pc L (v :: w :: st) ids G σ k n Rt := by
  intro p e s m args below meth c H locs ls D tA ad ad0 ids0 A X
  exact lv_dup2_11 X.1.1 X.1.2.1 hd (px_mv_cat ad v) (px_mv_cat ad w) (h p e s m args below meth c H locs ls D tA ad ad0 ids0 A (X.stk (px_c (px_h X.2.2.2.2.1) (px_c (px_h (px_t X.2.2.2.2.1)) X.2.2.2.2.1))))
theorem pw_dup_x1 {v w : pxV} (hd : decode cc pc = .ok (.dup_x1, 1)) (h : pw l R y cc nL ret (pc + 1) L (v :: w :: v :: st) ids G σ k n Rt) : pw l R y cc nL ret pc L (v :: w :: st) ids G σ k n Rt := by
  intro p e s m args below meth c H locs ls D tA ad ad0 ids0 A X
  exact lv_dup_x1 X.1.1 X.1.2.1 hd (px_mv_cat ad v) (px_mv_cat ad w) (h p e s m args below meth c H locs ls D tA ad ad0 ids0 A (X.stk (px_c (px_h X.2.2.2.2.1) (px_c (px_h (px_t X.2.2.2.2.1)) (px_c (px_h X.2.2.2.2.1) (px_t (px_t X.2.2.2.2.1)))))))
theorem pw_pop {v : pxV} (hd : decode cc pc = .ok (.pop, 1)) (h : pw l R y cc nL ret (pc + 1) L st ids G σ k n Rt) : pw l R y cc nL ret pc L (v :: st) ids G σ k n Rt := by
  intro p e s m args below meth c H locs ls D tA ad ad0 ids0 A X
  exact lv_pop X.1.1 X.1.2.1 hd (px_mv_cat ad v) (h p e s m args below meth c H locs ls D tA ad ad0 ids0 A (X.stk (px_t X.2.2.2.2.1)))
theorem pw_goto {off : Int} (tgt : Nat) (hd : decode cc pc = .ok (.goto off, 3)) (ht : (pc : Int) + off = (tgt : Int)) (h : pw l R y cc nL ret tgt L st ids G σ k n Rt) : pw l R y cc nL ret pc L st ids G σ k n Rt := by
  intro p e s m args below meth c H locs ls D tA ad ad0 ids0 A X
  exact lv_goto X.1.1 X.1.2.1 hd ht (h p e s m args below meth c H locs ls D tA ad ad0 ids0 A X)
theorem pw_icmp_eq {off : Int} {a b : Int32} (tgt : Nat) (hd : decode cc pc = .ok (.if_icmp .eq off, 3)) (ht : (pc : Int) + off = (tgt : Int)) (h1 : a = b → pw l R y cc nL ret tgt L st ids G σ k n Rt) (h2 : ¬ a = b → pw l R y cc nL ret (pc + 3) L st ids G σ k n Rt) : pw l R y cc nL ret pc L (.inl b :: .inl a :: st) ids G σ k n Rt := by
  intro p e s m args below meth c H locs ls D tA ad ad0 ids0 A X
  exact lv_icmp_eq X.1.1 X.1.2.1 hd ht (fun q => h1 q p e s m args below meth c H locs ls D tA ad ad0 ids0 A (X.stk (px_t (px_t X.2.2.2.2.1)))) (fun q => h2 q p e s m args below meth c H locs ls D tA ad ad0 ids0 A (X.stk (px_t (px_t X.2.2.2.2.1))))
theorem pw_icmp_ne {off : Int} {a b : Int32} (tgt : Nat) (hd : decode cc pc = .ok (.if_icmp .ne off, 3)) (ht : (pc : Int) + off = (tgt : Int)) (h1 : ¬ a = b → pw l R y cc nL ret tgt L st ids G σ k n Rt) (h2 : a = b → pw l R y cc nL ret (pc + 3) L st ids G σ k n Rt) : pw l R y cc nL ret pc L (.inl b :: .inl a :: st) ids G σ k n Rt := by
  intro p e s m args below meth c H locs ls D tA ad ad0 ids0 A X
  exact lv_icmp_ne X.1.1 X.1.2.1 hd ht (fun q => h1 q p e s m args below meth c H locs ls D tA ad ad0 ids0 A (X.stk (px_t (px_t X.2.2.2.2.1)))) (fun q => h2 q p e s m args below meth c H locs ls D tA ad ad0 ids0 A (X.stk (px_t (px_t X.2.2.2.2.1))))
theorem pw_icmp_lt {off : Int} {a b : Int32} (tgt : Nat) (hd : decode cc pc = .ok (.if_icmp .lt off, 3)) (ht : (pc : Int) + off = (tgt : Int)) (h1 : a < b → pw l R y cc nL ret tgt L st ids G σ k n Rt) (h2 : ¬ a < b → pw l R y cc nL ret (pc + 3) L st ids G σ k n Rt) : pw l R y cc nL ret pc L (.inl b :: .inl a :: st) ids G σ k n Rt := by
  intro p e s m args below meth c H locs ls D tA ad ad0 ids0 A X
  exact lv_icmp_lt X.1.1 X.1.2.1 hd ht (fun q => h1 q p e s m args below meth c H locs ls D tA ad ad0 ids0 A (X.stk (px_t (px_t X.2.2.2.2.1)))) (fun q => h2 q p e s m args below meth c H locs ls D tA ad ad0 ids0 A (X.stk (px_t (px_t X.2.2.2.2.1))))
theorem pw_icmp_le {off : Int} {a b : Int32} (tgt : Nat) (hd : decode cc pc = .ok (.if_icmp .le off, 3)) (ht : (pc : Int) + off = (tgt : Int)) (h1 : a ≤ b → pw l R y cc nL ret tgt L st ids G σ k n Rt) (h2 : ¬ a ≤ b → pw l R y cc nL ret (pc + 3) L st ids G σ k n Rt) : pw l R y cc nL ret pc L (.inl b :: .inl a :: st) ids G σ k n Rt := by
  intro p e s m args below meth c H locs ls D tA ad ad0 ids0 A X
  exact lv_icmp_le X.1.1 X.1.2.1 hd ht (fun q => h1 q p e s m args below meth c H locs ls D tA ad ad0 ids0 A (X.stk (px_t (px_t X.2.2.2.2.1)))) (fun q => h2 q p e s m args below meth c H locs ls D tA ad ad0 ids0 A (X.stk (px_t (px_t X.2.2.2.2.1))))
theorem pw_icmp_gt {off : Int} {a b : Int32} (tgt : Nat) (hd : decode cc pc = .ok (.if_icmp .gt off, 3)) (ht : (pc : Int) + off = (tgt : Int)) (h1 : b < a → pw l R y cc nL ret tgt L st ids G σ k n Rt) (h2 : ¬ b < a → pw l R y cc nL ret (pc + 3) L st ids G σ k n Rt) : pw l R y cc nL ret pc L (.inl b :: .inl a :: st) ids G σ k n Rt := by
  intro p e s m args below meth c H locs ls D tA ad ad0 ids0 A X
  exact lv_icmp_gt X.1.1 X.1.2.1 hd ht (fun q => h1 q p e s m args below meth c H locs ls D tA ad ad0 ids0 A (X.stk (px_t (px_t X.2.2.2.2.1)))) (fun q => h2 q p e s m args below meth c H locs ls D tA ad ad0 ids0 A (X.stk (px_t (px_t X.2.2.2.2.1))))
theorem pw_icmp_ge {off : Int} {a b : Int32} (tgt : Nat) (hd : decode cc pc = .ok (.if_icmp .ge off, 3)) (ht : (pc : Int) + off = (tgt : Int)) (h1 : b ≤ a → pw l R y cc nL ret tgt L st ids G σ k n Rt) (h2 : ¬ b ≤ a → pw l R y cc nL ret (pc + 3) L st ids G σ k n Rt) : pw l R y cc nL ret pc L (.inl b :: .inl a :: st) ids G σ k n Rt := by
  intro p e s m args below meth c H locs ls D tA ad ad0 ids0 A X
  exact lv_icmp_ge X.1.1 X.1.2.1 hd ht (fun q => h1 q p e s m args below meth c H locs ls D tA ad ad0 ids0 A (X.stk (px_t (px_t X.2.2.2.2.1)))) (fun q => h2 q p e s m args below meth c H locs ls D tA ad ad0 ids0 A (X.stk (px_t (px_t X.2.2.2.2.1))))
theorem pw_if_eq {off : Int} {a : Int32} (tgt : Nat) (hd : decode cc pc = .ok (.ifCond .eq off, 3)) (ht : (pc : Int) + off = (tgt : Int)) (h1 : a = 0 → pw l R y cc nL ret tgt L st ids G σ k n Rt) (h2 : ¬ a = 0 → pw l R y cc nL ret (pc + 3) L st ids G σ k n Rt) : pw l R y cc nL ret pc L (.inl a :: st) ids G σ k n Rt := by
  intro p e s m args below meth c H locs ls D tA ad ad0 ids0 A X
  exact lv_if_eq X.1.1 X.1.2.1 hd ht (fun q => h1 q p e s m args below meth c H locs ls D tA ad ad0 ids0 A (X.stk (px_t X.2.2.2.2.1))) (fun q => h2 q p e s m args below meth c H locs ls D tA ad ad0 ids0 A (X.stk (px_t X.2.2.2.2.1)))
theorem pw_if_ne {off : Int} {a : Int32} (tgt : Nat) (hd : decode cc pc = .ok (.ifCond .ne off, 3)) (ht : (pc : Int) + off = (tgt : Int)) (h1 : ¬ a = 0 → pw l R y cc nL ret tgt L st ids G σ k n Rt) (h2 : a = 0 → pw l R y cc nL ret (pc + 3) L st ids G σ k n Rt) : pw l R y cc nL ret pc L (.inl a :: st) ids G σ k n Rt := by
  intro p e s m args below meth c H locs ls D tA ad ad0 ids0 A X
  exact lv_if_ne X.1.1 X.1.2.1 hd ht (fun q => h1 q p e s m args below meth c H locs ls D tA ad ad0 ids0 A (X.stk (px_t X.2.2.2.2.1))) (fun q => h2 q p e s m args below meth c H locs ls D tA ad ad0 ids0 A (X.stk (px_t X.2.2.2.2.1)))
theorem pw_if_lt {off : Int} {a : Int32} (tgt : Nat) (hd : decode cc pc = .ok (.ifCond .lt off, 3)) (ht : (pc : Int) + off = (tgt : Int)) (h1 : a < 0 → pw l R y cc nL ret tgt L st ids G σ k n Rt) (h2 : ¬ a < 0 → pw l R y cc nL ret (pc + 3) L st ids G σ k n Rt) : pw l R y cc nL ret pc L (.inl a :: st) ids G σ k n Rt := by
  intro p e s m args below meth c H locs ls D tA ad ad0 ids0 A X
  exact lv_if_lt X.1.1 X.1.2.1 hd ht (fun q => h1 q p e s m args below meth c H locs ls D tA ad ad0 ids0 A (X.stk (px_t X.2.2.2.2.1))) (fun q => h2 q p e s m args below meth c H locs ls D tA ad ad0 ids0 A (X.stk (px_t X.2.2.2.2.1)))
theorem pw_if_ge {off : Int} {a : Int32} (tgt : Nat) (hd : decode cc pc = .ok (.ifCond .ge off, 3)) (ht : (pc : Int) + off = (tgt : Int)) (h1 : 0 ≤ a → pw l R y cc nL ret tgt L st ids G σ k n Rt) (h2 : ¬ 0 ≤ a → pw l R y cc nL ret (pc + 3) L st ids G σ k n Rt) : pw l R y cc nL ret pc L (.inl a :: st) ids G σ k n Rt := by
  intro p e s m args below meth c H locs ls D tA ad ad0 ids0 A X
  exact lv_if_ge X.1.1 X.1.2.1 hd ht (fun q => h1 q p e s m args below meth c H locs ls D tA ad ad0 ids0 A (X.stk (px_t X.2.2.2.2.1))) (fun q => h2 q p e s m args below meth c H locs ls D tA ad ad0 ids0 A (X.stk (px_t X.2.2.2.2.1)))
theorem pw_if_gt {off : Int} {a : Int32} (tgt : Nat) (hd : decode cc pc = .ok (.ifCond .gt off, 3)) (ht : (pc : Int) + off = (tgt : Int)) (h1 : 0 < a → pw l R y cc nL ret tgt L st ids G σ k n Rt) (h2 : ¬ 0 < a → pw l R y cc nL ret (pc + 3) L st ids G σ k n Rt) : pw l R y cc nL ret pc L (.inl a :: st) ids G σ k n Rt := by
  intro p e s m args below meth c H locs ls D tA ad ad0 ids0 A X
  exact lv_if_gt X.1.1 X.1.2.1 hd ht (fun q => h1 q p e s m args below meth c H locs ls D tA ad ad0 ids0 A (X.stk (px_t X.2.2.2.2.1))) (fun q => h2 q p e s m args below meth c H locs ls D tA ad ad0 ids0 A (X.stk (px_t X.2.2.2.2.1)))
theorem pw_if_le {off : Int} {a : Int32} (tgt : Nat) (hd : decode cc pc = .ok (.ifCond .le off, 3)) (ht : (pc : Int) + off = (tgt : Int)) (h1 : a ≤ 0 → pw l R y cc nL ret tgt L st ids G σ k n Rt) (h2 : ¬ a ≤ 0 → pw l R y cc nL ret (pc + 3) L st ids G σ k n Rt) : pw l R y cc nL ret pc L (.inl a :: st) ids G σ k n Rt := by
  intro p e s m args below meth c H locs ls D tA ad ad0 ids0 A X
  exact lv_if_le X.1.1 X.1.2.1 hd ht (fun q => h1 q p e s m args below meth c H locs ls D tA ad ad0 ids0 A (X.stk (px_t X.2.2.2.2.1))) (fun q => h2 q p e s m args below meth c H locs ls D tA ad ad0 ids0 A (X.stk (px_t X.2.2.2.2.1)))
end PXR
end
section
/-! cells: fields, arrays; ends -/
def px_F (own : String) (idx ci kf : Nat) : Prop := ∃ q : vw_C, classes[ci]? = some q ∧ kf < q.2.2 ∧ Cond.fieldLink own idx (q.2.1 kf).1 (q.2.1 kf).2.1 (q.2.1 kf).2.2.1 ∈ pxW
def px_FW (own : String) (idx ci kf : Nat) (ty : FieldType) : Prop := ∃ q : vw_C, classes[ci]? = some q ∧ kf < q.2.2 ∧ Cond.fieldLink own idx (q.2.1 kf).1 (q.2.1 kf).2.1 (q.2.1 kf).2.2.1 ∈ pxW ∧ (q.2.1 kf).2.2.2 = false ∧ px_ty ci kf = ty
theorem px_clo_up {ids : List pxI} {G : pxG} {σ : pxS} {i : pxI} {k : Nat} {x : Int32} (h : px_clo ids G σ) (hi : ∀ (c : Nat) (sl : List pxK) (q : pxK), G i = .inr (.inr (c, sl)) → sl[k]? = some q → px_vv ids (px_sv q x)) : px_clo ids G (px_up σ i k x) := by
  intro j hj
  have h1 := h j hj
  cases hG : G j with
  | inl a => trivial
  | inr b =>
    cases b with
    | inl a => rw [hG] at h1; exact h1
    | inr a =>
      rw [hG] at h1
      intro k' q hq
      by_cases hji : j = i
      · subst hji
        by_cases hk : k' = k
        · subst hk
          have := hi a.1 a.2 q hG hq
          simpa [px_up] using this
        · have := h1 k' q hq
          simpa [px_up, hk] using this
      · have := h1 k' q hq
        simpa [px_up, hji] using this
section PXM
variable {l : Launch} {R : Room} {y : MethodName} {cc : ByteArray} {nL : Nat} {ret : Option FieldType} {pc : Nat} {L : List (Nat × pxV)} {st : List pxV} {ids : List pxI} {G : pxG} {σ : pxS} {k n : Nat} {Rt : Option pxV → List pxI → pxG → pxS → Prop}
theorem pw_getf {idx ci kf : Nat} {q : pxK} {sl : List pxK} {i : pxI} {v : pxV} (hd : decode cc pc = .ok (.getfield idx, 3)) (hf : px_F y.cls idx ci kf) (hG : G i = .inr (.inr (ci, sl))) (hq : sl[kf]? = some q) (hv : px_sv q (σ i kf) = v)
    (h : pw l R y cc nL ret (pc + 3) L (v :: st) ids G σ k n Rt) : pw l R y cc nL ret pc L (.inr (some i) :: st) ids G σ k n Rt := by
  intro p e s m args below meth c H locs ls D tA ad ad0 ids0 A X
  obtain ⟨hx, hb, hr, hml, hnm, hts, hown, hlk, hE, hK⟩ := X.1
  obtain ⟨hP, hD, hS, hcl, hA⟩ := X.2.1
  obtain ⟨qc, hc, hk, hw⟩ := hf
  have hi : i ∈ ids := px_h X.2.2.2.2.1 i rfl
  obtain ⟨q0, h0⟩ := List.getElem?_of_mem hi
  have he := px_ws_get (ad := ad) (tA := tA) (G := G) (σ := σ) h0
  rw [hG] at he
  have hvv : px_vv ids v := by
    have h1 := hcl i hi
    rw [hG] at h1
    rw [← hv]
    exact h1 kf q hq
  exact va_get hx hb hts (px_cls hc).1 hown hK hP q0 he hc kf hk (hts _ hw) (fun _ h9 => h9) (by rw [px_fs_get hq, hv]) hd (h p e s m args below meth c H locs ls D tA ad ad0 ids0 A (X.stk (px_c hvv (px_t X.2.2.2.2.1))))
/-- a number, or a reference by its number, into a field -/
theorem pw_put {idx ci kf : Nat} {q : pxK} {sl : List pxK} {i : pxI} {x : Int32} {ty : FieldType} {v : pxV} (hd : decode cc pc = .ok (.putfield idx, 3)) (hf : px_FW y.cls idx ci kf ty) (hG : G i = .inr (.inr (ci, sl))) (hq : sl[kf]? = some q) (hv : px_sv q x = v)
    (hn : ∀ ad : pxI → Nat, narrow ty (px_mv ad v) = px_mv ad v ∧ fits ty (px_mv ad v) = true)
    (h : pw l R y cc nL ret (pc + 3) L st ids G (px_up σ i kf x) k n Rt) : pw l R y cc nL ret pc L (v :: .inr (some i) :: st) ids G σ k n Rt := by
  intro p e s m args below meth c H locs ls D tA ad ad0 ids0 A X
  obtain ⟨hx, hb, hr, hml, hnm, hts, hown, hlk, hE, hK⟩ := X.1
  obtain ⟨hP, hD, hS, hcl, hA⟩ := X.2.1
  obtain ⟨qc, hc, hk, hw, hfin, hty⟩ := hf
  have hi : i ∈ ids := px_h (px_t X.2.2.2.2.1) i rfl
  obtain ⟨q0, h0⟩ := List.getElem?_of_mem hi
  have he := px_ws_get (ad := ad) (tA := tA) (G := G) (σ := σ) h0
  rw [hG] at he
  have hset : (px_ws ad tA ids G σ).set q0 (ad i, .inr (ci, (px_fs ad sl (σ i)).set kf (px_mv ad v))) = px_ws ad tA ids G (px_up σ i kf x) := by
    rw [← px_ws_set hD h0 (G' := G) (σ' := px_up σ i kf x) (fun j _ hj => by rw [px_up_ne hj]), px_up_self, hG]
    show _ = List.set _ _ (ad i, Sum.inr (ci, px_fs ad sl (upd (σ i) kf x)))
    rw [← hv, px_fs_set hq]
  refine va_put hx hb hts (px_cls hc).1 (px_ty ci) (px_cls hc).2.1 (px_cls hc).2.2 hown hK hP hD hS q0 he hc kf hk (hts _ hw) (fun _ h9 => h9) hfin (by rw [← hty]; exact (px_cls hc).2.1 kf hk) (hn ad).1 (hn ad).2 ?_ hd fun H1 locs1 hP1 hD1 hS1 => ?_
  · have := (List.getElem?_eq_some_iff.mp (px_fs_get (ad := ad) (f := σ i) hq)).1
    exact this
  · rw [hset] at hP1 hD1
    exact h p e s m args below meth c H1 locs1 ls D tA ad ad0 ids0 A ⟨X.1, ⟨hP1, hD1, hS1, px_clo_up hcl (fun c' sl' q' e1 e2 => by
      rw [hG] at e1
      cases e1
      rw [hq] at e2
      cases e2
      rw [hv]
      exact px_h X.2.2.2.2.1), hA⟩, X.2.2.1, X.2.2.2.1, px_t (px_t X.2.2.2.2.1), X.2.2.2.2.2⟩
theorem pw_puti {idx ci kf : Nat} {sl : List pxK} {i : pxI} {x : Int32} (hd : decode cc pc = .ok (.putfield idx, 3)) (hf : px_FW y.cls idx ci kf .int) (hG : G i = .inr (.inr (ci, sl))) (hq : sl[kf]? = some none)
    (h : pw l R y cc nL ret (pc + 3) L st ids G (px_up σ i kf x) k n Rt) : pw l R y cc nL ret pc L (.inl x :: .inr (some i) :: st) ids G σ k n Rt :=
  pw_put hd hf hG hq rfl (fun ad => ⟨rfl, rfl⟩) h
theorem px_bool {x : Int32} (h : x = 0 ∨ x = 1) : narrow .boolean (.int x) = .int x ∧ fits .boolean (.int x) = true := by
  rcases h with rfl | rfl <;> exact ⟨by decide +kernel, by decide +kernel⟩
theorem pw_putz {idx ci kf : Nat} {sl : List pxK} {i : pxI} {x : Int32} (hd : decode cc pc = .ok (.putfield idx, 3)) (hf : px_FW y.cls idx ci kf .boolean) (hG : G i = .inr (.inr (ci, sl))) (hq : sl[kf]? = some none) (hb : x = 0 ∨ x = 1)
    (h : pw l R y cc nL ret (pc + 3) L st ids G (px_up σ i kf x) k n Rt) : pw l R y cc nL ret pc L (.inl x :: .inr (some i) :: st) ids G σ k n Rt :=
  pw_put hd hf hG hq rfl (fun ad => px_bool hb) h
theorem pw_putr {idx ci kf kd : Nat} {sl : List pxK} {i : pxI} {C : String} (x : Int32) (hd : decode cc pc = .ok (.putfield idx, 3)) (hf : px_FW y.cls idx ci kf (.object C)) (hG : G i = .inr (.inr (ci, sl))) (hq : sl[kf]? = some (some (.inl kd)))
    (h : pw l R y cc nL ret (pc + 3) L st ids G (px_up σ i kf x) k n Rt) : pw l R y cc nL ret pc L (.inr (some (kd, x.toNatClampNeg, 0)) :: .inr (some i) :: st) ids G σ k n Rt :=
  pw_put hd hf hG hq rfl (fun ad => ⟨rfl, rfl⟩) h
theorem pw_iald {i : pxI} {j : Int32} {N : Nat} (hd : decode cc pc = .ok (.iaload, 1)) (hG : G i = .inl (0, N)) (hin : vp_in j N)
    (h : pw l R y cc nL ret (pc + 1) L (.inl (σ i j.toNatClampNeg) :: st) ids G σ k n Rt) : pw l R y cc nL ret pc L (.inl j :: .inr (some i) :: st) ids G σ k n Rt := by
  intro p e s m args below meth c H locs ls D tA ad ad0 ids0 A X
  obtain ⟨hx, hb, hr, hml, hnm, hts, hown, hlk, hE, hK⟩ := X.1
  obtain ⟨hP, hD, hS, hcl, hA⟩ := X.2.1
  obtain ⟨q0, h0⟩ := List.getElem?_of_mem (px_h (px_t X.2.2.2.2.1) i rfl)
  have he := px_ws_get (ad := ad) (tA := tA) (G := G) (σ := σ) h0
  rw [hG] at he
  exact va_iald hx hb hK hP q0 0 he rfl hin hd (h p e s m args below meth c H locs ls D tA ad ad0 ids0 A (X.stk (px_c px_vi (px_t (px_t X.2.2.2.2.1)))))
theorem pw_bald {i : pxI} {j : Int32} {N : Nat} (hd : decode cc pc = .ok (.baload, 1)) (hG : G i = .inl (1, N)) (hin : vp_in j N)
    (h : pw l R y cc nL ret (pc + 1) L (.inl (σ i j.toNatClampNeg) :: st) ids G σ k n Rt) : pw l R y cc nL ret pc L (.inl j :: .inr (some i) :: st) ids G σ k n Rt := by
  intro p e s m args below meth c H locs ls D tA ad ad0 ids0 A X
  obtain ⟨hx, hb, hr, hml, hnm, hts, hown, hlk, hE, hK⟩ := X.1
  obtain ⟨hP, hD, hS, hcl, hA⟩ := X.2.1
  obtain ⟨q0, h0⟩ := List.getElem?_of_mem (px_h (px_t X.2.2.2.2.1) i rfl)
  have he := px_ws_get (ad := ad) (tA := tA) (G := G) (σ := σ) h0
  rw [hG] at he
  exact va_bald hx hb hK hP q0 1 he rfl hin hd (h p e s m args below meth c H locs ls D tA ad ad0 ids0 A (X.stk (px_c px_vi (px_t (px_t X.2.2.2.2.1)))))
theorem pw_zald {i : pxI} {j : Int32} {N : Nat} (hd : decode cc pc = .ok (.baload, 1)) (hG : G i = .inl (2, N)) (hin : vp_in j N)
    (h : pw l R y cc nL ret (pc + 1) L (.inl (σ i j.toNatClampNeg) :: st) ids G σ k n Rt) : pw l R y cc nL ret pc L (.inl j :: .inr (some i) :: st) ids G σ k n Rt := by
  intro p e s m args below meth c H locs ls D tA ad ad0 ids0 A X
  obtain ⟨hx, hb, hr, hml, hnm, hts, hown, hlk, hE, hK⟩ := X.1
  obtain ⟨hP, hD, hS, hcl, hA⟩ := X.2.1
  obtain ⟨q0, h0⟩ := List.getElem?_of_mem (px_h (px_t X.2.2.2.2.1) i rfl)
  have he := px_ws_get (ad := ad) (tA := tA) (G := G) (σ := σ) h0
  rw [hG] at he
  exact va_zald hx hb hK hP q0 2 he rfl hin hd (h p e s m args below meth c H locs ls D tA ad ad0 ids0 A (X.stk (px_c px_vi (px_t (px_t X.2.2.2.2.1)))))
theorem pw_aald {i : pxI} {j : Int32} {t N : Nat} {g : Nat → Option pxI} {r : pxI} {C : String} (hd : decode cc pc = .ok (.aaload, 1)) (hG : G i = .inr (.inl (t, N, g))) (ht : ∀ tA : Nat → ClassId, (px_tys tA)[t]? = some (tA t, .object C)) (hin : vp_in j N) (hg : g j.toNatClampNeg = some r)
    (h : pw l R y cc nL ret (pc + 1) L (.inr (some r) :: st) ids G σ k n Rt) : pw l R y cc nL ret pc L (.inl j :: .inr (some i) :: st) ids G σ k n Rt := by
  intro p e s m args below meth c H locs ls D tA ad ad0 ids0 A X
  obtain ⟨hx, hb, hr, hml, hnm, hts, hown, hlk, hE, hK⟩ := X.1
  obtain ⟨hP, hD, hS, hcl, hA⟩ := X.2.1
  have hi : i ∈ ids := px_h (px_t X.2.2.2.2.1) i rfl
  obtain ⟨q0, h0⟩ := List.getElem?_of_mem hi
  have he := px_ws_get (ad := ad) (tA := tA) (G := G) (σ := σ) h0
  rw [hG] at he
  have hlt : j.toNatClampNeg < N := Nat.not_le.mp fun q => hin (Or.inr q)
  have hvv : px_vv ids (.inr (some r)) := by
    have h1 := hcl i hi
    rw [hG] at h1
    rw [← hg]
    exact h1 _ hlt
  refine va_aldq hx hb hK hP q0 t he (ht tA) hin hd ?_
  show W p l e R s m args below meth c H locs k n _ (F0 m (pc + 1) ls (va_rf (if j.toNatClampNeg < N then (g j.toNatClampNeg).map ad else none) :: st.map (px_mv ad)))
  rw [if_pos hlt, hg]
  exact h p e s m args below meth c H locs ls D tA ad ad0 ids0 A (X.stk (px_c hvv (px_t (px_t X.2.2.2.2.1))))
theorem pw_alen {i : pxI} {t N : Nat} {v : Int32} (hd : decode cc pc = .ok (.arraylength, 1)) (hG : G i = .inl (t, N)) (ht : ∃ ty, ∀ tA : Nat → ClassId, (px_tys tA)[t]? = some (tA t, ty)) (hv : Int32.ofNat N = v)
    (h : pw l R y cc nL ret (pc + 1) L (.inl v :: st) ids G σ k n Rt) : pw l R y cc nL ret pc L (.inr (some i) :: st) ids G σ k n Rt := by
  intro p e s m args below meth c H locs ls D tA ad ad0 ids0 A X
  obtain ⟨hx, hb, hr, hml, hnm, hts, hown, hlk, hE, hK⟩ := X.1
  obtain ⟨hP, hD, hS, hcl, hA⟩ := X.2.1
  obtain ⟨q0, h0⟩ := List.getElem?_of_mem (px_h X.2.2.2.2.1 i rfl)
  have he := px_ws_get (ad := ad) (tA := tA) (G := G) (σ := σ) h0
  rw [hG] at he
  obtain ⟨ty, ht⟩ := ht
  exact va_alen hx hb hK hP q0 t he (ht tA) hv hd (h p e s m args below meth c H locs ls D tA ad ad0 ids0 A (X.stk (px_c px_vi (px_t X.2.2.2.2.1))))
theorem px_arr_set {A : Nat → Prop} {ad : pxI → Nat} {tA : Nat → ClassId} {q0 t N j : Nat} {i : pxI} {x : Int32} (hD : va_D A (px_ws ad tA ids G σ)) (h0 : ids[q0]? = some i) (hG : G i = .inl (t, N)) : (px_ws ad tA ids G σ).set q0 (ad i, .inl (tA t, N, .inl (upd (σ i) j x))) = px_ws ad tA ids G (px_up σ i j x) := by
  rw [← px_ws_set hD h0 (G' := G) (σ' := px_up σ i j x) (fun j' _ hj => by rw [px_up_ne hj]), px_up_self, hG]
  rfl
theorem pw_iast {i : pxI} {j x : Int32} {N : Nat} (hd : decode cc pc = .ok (.iastore, 1)) (hG : G i = .inl (0, N)) (hin : vp_in j N)
    (h : pw l R y cc nL ret (pc + 1) L st ids G (px_up σ i j.toNatClampNeg x) k n Rt) : pw l R y cc nL ret pc L (.inl x :: .inl j :: .inr (some i) :: st) ids G σ k n Rt := by
  intro p e s m args below meth c H locs ls D tA ad ad0 ids0 A X
  obtain ⟨hx, hb, hr, hml, hnm, hts, hown, hlk, hE, hK⟩ := X.1
  obtain ⟨hP, hD, hS, hcl, hA⟩ := X.2.1
  obtain ⟨q0, h0⟩ := List.getElem?_of_mem (px_h (px_t (px_t X.2.2.2.2.1)) i rfl)
  have he := px_ws_get (ad := ad) (tA := tA) (G := G) (σ := σ) h0
  rw [hG] at he
  refine va_iast hx hb hK hP hD hS q0 0 he rfl hin hd fun H1 locs1 hP1 hD1 hS1 => ?_
  rw [px_arr_set hD h0 hG] at hP1 hD1
  exact h p e s m args below meth c H1 locs1 ls D tA ad ad0 ids0 A ⟨X.1, ⟨hP1, hD1, hS1, px_clo_up hcl (fun c' sl' q' e1 _ => by rw [hG] at e1; cases e1), hA⟩, X.2.2.1, X.2.2.2.1, px_t (px_t (px_t X.2.2.2.2.1)), X.2.2.2.2.2⟩
theorem pw_bast {i : pxI} {j x : Int32} {N : Nat} (hd : decode cc pc = .ok (.bastore, 1)) (hG : G i = .inl (1, N)) (hin : vp_in j N)
    (h : pw l R y cc nL ret (pc + 1) L st ids G (px_up σ i j.toNatClampNeg (vp_nar .byte x)) k n Rt) : pw l R y cc nL ret pc L (.inl x :: .inl j :: .inr (some i) :: st) ids G σ k n Rt := by
  intro p e s m args below meth c H locs ls D tA ad ad0 ids0 A X
  obtain ⟨hx, hb, hr, hml, hnm, hts, hown, hlk, hE, hK⟩ := X.1
  obtain ⟨hP, hD, hS, hcl, hA⟩ := X.2.1
  obtain ⟨q0, h0⟩ := List.getElem?_of_mem (px_h (px_t (px_t X.2.2.2.2.1)) i rfl)
  have he := px_ws_get (ad := ad) (tA := tA) (G := G) (σ := σ) h0
  rw [hG] at he
  refine va_bast hx hb hK hP hD hS q0 1 he rfl hin hd fun H1 locs1 hP1 hD1 hS1 => ?_
  rw [px_arr_set hD h0 hG] at hP1 hD1
  exact h p e s m args below meth c H1 locs1 ls D tA ad ad0 ids0 A ⟨X.1, ⟨hP1, hD1, hS1, px_clo_up hcl (fun c' sl' q' e1 _ => by rw [hG] at e1; cases e1), hA⟩, X.2.2.1, X.2.2.2.1, px_t (px_t (px_t X.2.2.2.2.1)), X.2.2.2.2.2⟩
theorem pw_zast {i : pxI} {j x : Int32} {N : Nat} (hd : decode cc pc = .ok (.bastore, 1)) (hG : G i = .inl (2, N)) (hin : vp_in j N)
    (h : pw l R y cc nL ret (pc + 1) L st ids G (px_up σ i j.toNatClampNeg (vp_nar .boolean x)) k n Rt) : pw l R y cc nL ret pc L (.inl x :: .inl j :: .inr (some i) :: st) ids G σ k n Rt := by
  intro p e s m args below meth c H locs ls D tA ad ad0 ids0 A X
  obtain ⟨hx, hb, hr, hml, hnm, hts, hown, hlk, hE, hK⟩ := X.1
  obtain ⟨hP, hD, hS, hcl, hA⟩ := X.2.1
  obtain ⟨q0, h0⟩ := List.getElem?_of_mem (px_h (px_t (px_t X.2.2.2.2.1)) i rfl)
  have he := px_ws_get (ad := ad) (tA := tA) (G := G) (σ := σ) h0
  rw [hG] at he
  refine va_zast hx hb hK hP hD hS q0 2 he rfl hin hd fun H1 locs1 hP1 hD1 hS1 => ?_
  rw [px_arr_set hD h0 hG] at hP1 hD1
  exact h p e s m args below meth c H1 locs1 ls D tA ad ad0 ids0 A ⟨X.1, ⟨hP1, hD1, hS1, px_clo_up hcl (fun c' sl' q' e1 _ => by rw [hG] at e1; cases e1), hA⟩, X.2.2.1, X.2.2.2.1, px_t (px_t (px_t X.2.2.2.2.1)), X.2.2.2.2.2⟩
theorem px_end {p : Program} {e : Env} {s : State} {m : MethodId} {args : Array Value} {below : List Frame} {meth : Method} {c : Code} {H : Heap} {locs : List Loc} {ls : Array Slot} {D : va_G} {tA : Nat → ClassId} {ad ad0 : pxI → Nat} {ids0 : List pxI} {A : Nat → Prop} (X : px_X p l e R s m args below meth c H locs ls D tA ad ad0 ids0 A y cc nL ret L st ids G σ) {v : Option pxV} (hv : ∀ w, v = some w → px_vv ids w) (hR : Rt v ids G σ) {t : State} (ht : t.heap = H) :
    px_Qc D tA ad0 ids0 Rt A args s (.returned (v.map (px_mv ad))) t := by
  obtain ⟨hP, hD, hS, hcl, hA⟩ := X.2.1
  exact ⟨v, ids, G, σ, ad, hR, X.2.2.2.2.2.1, X.2.2.2.2.2.2, rfl, hv, hcl, by rw [ht]; exact hP, hD, hS.F ht⟩
theorem pw_iret {x : Int32} (hd : decode cc pc = .ok (.ireturn, 1)) (hr : ret = some .int) (hk : k ≤ R.cells) (hn : n ≤ R.slots) (h : Rt (some (.inl x)) ids G σ) : pw l R y cc nL ret pc L [.inl x] ids G σ k n Rt := by
  intro p e s m args below meth c H locs ls D tA ad ad0 ids0 A X
  refine W.widen hk hn ?_
  have hlocks := X.1.2.2.2.2.2.2.2.1
  exact W.iret (v := x) X.1.1 X.1.2.1 (X.1.2.2.1.trans hr) (fun t ht _ => px_end X (v := some (.inl x)) (fun w hw => by cases hw; exact px_vi) h ht) X.2.1.2.2.1.2.2 hd hlocks
theorem pw_zret {x : Int32} (hd : decode cc pc = .ok (.ireturn, 1)) (hr : ret = some .boolean) (hb : x = 0 ∨ x = 1) (hk : k ≤ R.cells) (hn : n ≤ R.slots) (h : Rt (some (.inl x)) ids G σ) : pw l R y cc nL ret pc L [.inl x] ids G σ k n Rt := by
  intro p e s m args below meth c H locs ls D tA ad ad0 ids0 A X
  refine W.widen hk hn ?_
  have hlocks := X.1.2.2.2.2.2.2.2.1
  exact W.zret (v := x) X.1.1 X.1.2.1 (X.1.2.2.1.trans hr) (px_bool hb).1 (fun t ht _ => px_end X (v := some (.inl x)) (fun w hw => by cases hw; exact px_vi) h ht) X.2.1.2.2.1.2.2 hd hlocks
theorem pw_vret (hd : decode cc pc = .ok (.return_, 1)) (hr : ret = none) (hk : k ≤ R.cells) (hn : n ≤ R.slots) (h : Rt none ids G σ) : pw l R y cc nL ret pc L [] ids G σ k n Rt := by
  intro p e s m args below meth c H locs ls D tA ad ad0 ids0 A X
  refine W.widen hk hn ?_
  have hlocks := X.1.2.2.2.2.2.2.2.1
  exact W.vret X.1.1 X.1.2.1 (X.1.2.2.1.trans hr) (fun t ht _ => px_end X (v := none) (fun w hw => by cases hw) h ht) X.2.1.2.2.1.2.2 hd hlocks
end PXM
end
section
/-! calls -/
def px_y (own : String) (idx : Nat) (y : MethodName) (cc : ByteArray) (nL : Nat) (ret : Option FieldType) (n : Nat) : Prop :=
  (Cond.methodLink own idx y ∈ pxW ∧ Cond.initialized y.cls ∈ pxW ∧ Cond.code y cc nL ret ∈ pxW) ∧ y.cls ≠ "java/lang/invoke/MethodHandle" ∧ y.cls ≠ "java/lang/invoke/VarHandle" ∧ (parseMethodDescriptor y.desc).map (fun d => d.parameters.length) = some n
theorem px_good {y : MethodName} {cc : ByteArray} {nL : Nat} {ret : Option FieldType} (h : Cond.code y cc nL ret ∈ pxW) : GoodIn pxW (pxws y cc nL ret) := fun w hw => by
  rcases List.mem_cons.mp hw with rfl | hw
  · exact ⟨h, pxW_good h⟩
  · exact ⟨hw, pxW_good hw⟩
theorem px_blind (D : va_G) (tA : Nat → ClassId) (ad : pxI → Nat) (ids : List pxI) (G : pxG) (σ : pxS) (as : List pxV) (sz : Nat) : FrameBlind (px_Pc D tA ad ids G σ as sz) := fun a U g mk h => by
  obtain ⟨h1, h2, h3, h4, h5, h6, h7, h8⟩ := h
  exact ⟨h1, h2, h3, va_K.moved (u := U) (U := U.calling g mk a) (Vm.Alike.refl U.vm) h4, h5, h6, h7, h8.calling⟩
theorem px_ml_eq {ad ad' : pxI → Nat} {ids : List pxI} (h : ∀ i ∈ ids, ad' i = ad i) : ∀ (L : List (Nat × pxV)), (∀ q ∈ L, px_vv ids q.2) → px_ml ad' L = px_ml ad L := fun L hL => by
  refine List.map_congr_left fun q hq => ?_
  obtain ⟨i, v⟩ := q
  rcases v with x | r | r
  · rfl
  · rfl
  · show (i, Value.ref (ad' r)) = (i, Value.ref (ad r))
    rw [h r (hL _ hq r rfl)]
theorem px_st_eq {ad ad' : pxI → Nat} {ids : List pxI} (h : ∀ i ∈ ids, ad' i = ad i) : ∀ (st : List pxV), (∀ v ∈ st, px_vv ids v) → st.map (px_mv ad') = st.map (px_mv ad) := fun st hs => by
  refine List.map_congr_left fun v hv => ?_
  rcases v with x | r | r
  · rfl
  · rfl
  · show Value.ref (ad' r) = Value.ref (ad r)
    rw [h r (hs _ hv r rfl)]
theorem px_cat_sum (ad : pxI → Nat) : ∀ st : List pxV, ((st.map (px_mv ad)).map fun v => v.category).sum = st.length
  | [] => rfl
  | v :: st => by
    have h := px_cat_sum ad st
    simp only [List.map_cons, List.sum_cons, List.length_cons, px_mv_cat, h]
    omega
theorem px_free {A : Nat → Prop} {ad : pxI → Nat} {tA : Nat → ClassId} {ids : List pxI} {G : pxG} {σ : pxS} {H0 H : Heap} {locs : List Loc} (hD : va_D A (px_ws ad tA ids G σ)) (hS : va_S A H0 H locs) (hA : ∀ q : Nat, H0.size ≤ q → A q) : ∀ q : Nat, va_A (px_ws ad tA ids G σ) H.size q → A q := fun q hq => by
  rcases hq with ⟨k2, e2, hq⟩ | hq
  · exact hD.2 k2 _ hq
  · exact hA q (Nat.le_trans hS.1 hq)
section PXC
variable {l : Launch} {R : Room} {y : MethodName} {cc : ByteArray} {nL : Nat} {ret : Option FieldType} {pc : Nat} {L : List (Nat × pxV)} {st : List pxV} {ids : List pxI} {G : pxG} {σ : pxS} {k n : Nat} {Rt : Option pxV → List pxI → pxG → pxS → Prop}
/-- behind a call: what the callee's end gives -/
theorem px_after {p : Program} {e : Env} {s : State} {m : MethodId} {args : Array Value} {below : List Frame} {meth : Method} {c : Code} {H : Heap} {locs : List Loc} {ls : Array Slot} {D : va_G} {tA : Nat → ClassId} {ad ad0 : pxI → Nat} {ids0 : List pxI} {A : Nat → Prop} {st0 : List pxV} {mst : List Value} {R' : Room} {a' : Array Value} {Rt' : Option pxV → List pxI → pxG → pxS → Prop}
    (X : px_X p l e R s m args below meth c H locs ls D tA ad ad0 ids0 A y cc nL ret L st0 ids G σ) (hst : ∀ v ∈ st, px_vv ids v)
    (hr : va_Run p l e R s m args below meth c H locs k n R'.cells R'.slots (F0 m pc ls mst) (st.map (px_mv ad)) (px_Qc D tA ad ids Rt' (va_A (px_ws ad tA ids G σ) H.size) a') (va_A (px_ws ad tA ids G σ) H.size))
    (h : ∀ (v : Option pxV) (ids' : List pxI) (G' : pxG) (σ' : pxS), Rt' v ids' G' σ' → (∀ i ∈ ids, i ∈ ids') → pw l R y cc nL ret (pc + 3) L (v.toList ++ st) ids' G' σ' (k + R'.cells) (n + R'.slots) Rt) :
    W p l e R s m args below meth c H locs k n (MQ below (px_Qc D tA ad0 ids0 Rt A) args s R.cells R.slots A) (F0 m pc ls mst) := by
  intro T hT XT
  obtain ⟨v, st₀, t, T', L', h0, X', hL, e1, e2, ⟨v', ids', G', σ', ad', hRt, hin, had, hv, hvv, hcl', hP', hD', hF⟩, stp⟩ := hr T hT XT
  obtain ⟨hP, hD, hS, hcl, hA⟩ := X.2.1
  have hfree : ∀ q : Nat, va_A (px_ws ad tA ids G σ) H.size q → A q := fun q hq => by
    rcases hq with ⟨k2, e2, hq⟩ | hq
    · exact hD.2 k2 _ hq
    · exact hA q (Nat.le_trans hS.1 hq)
  have hz : H.size ≤ T'.heap.size := by rw [e1, ← h0]; exact hF.1
  have hk : ∀ q : Nat, q < H.size → ¬ va_A (px_ws ad tA ids G σ) H.size q → T'.heap[q]? = H[q]? := fun q h1 h2 => by rw [e1, ← h0]; exact hF.2 q (by rw [h0]; exact h1) h2
  have hS' : va_S A s.heap T'.heap (locs ++ L') := ⟨Nat.le_trans hS.1 hz, fun q h1 h2 => by
      rw [hk q (Nat.lt_of_lt_of_le h1 hS.1) (fun z => h2 (hfree q z))]
      exact hS.2.1 q h1 h2, fun q hq => by
      rcases List.mem_append.mp hq with h | h
      · exact hS.2.2 q h
      · exact hfree _ (hL q h)⟩
  have hK := X.1
  have hml := px_ml_eq had L X.2.2.2.1
  have hsl := px_st_eq had st hst
  have X2 : px_X p l e R s m args below meth c T'.heap (locs ++ L') ls D tA ad' ad0 ids0 A y cc nL ret L (v'.toList ++ st) ids' G' σ' :=
    ⟨hK, ⟨by rw [e1]; exact hP', hD'.weaken (fun _ q _ h => hfree q.1 h), hS', hcl', hA⟩, by rw [hml]; exact X.2.2.1, fun q hq r hr => hin r (X.2.2.2.1 q hq r hr), fun w hw r hr => by
      rcases List.mem_append.mp hw with h | h
      · exact hvv w (Option.mem_toList.mp h) r hr
      · exact hin r (hst w h r hr), fun i hi => hin i (X.2.2.2.2.2.1 i hi), fun i hi => (had i (X.2.2.2.2.2.1 i hi)).trans (X.2.2.2.2.2.2 i hi)⟩
  have hw := h v' ids' G' σ' hRt hin p e s m args below meth c T'.heap (locs ++ L') ls D tA ad' ad0 ids0 A X2
  obtain ⟨t2, a1, b1⟩ := hw T' rfl X'
  refine ⟨t2, stp t2 ?_, b1⟩
  have hv2 : v = v'.map (px_mv ad') := by cases hv; rfl
  have e3 : v.toList ++ st.map (px_mv ad) = (v'.toList ++ st).map (px_mv ad') := by
    rw [List.map_append, hsl, hv2]
    cases v' <;> rfl
  show Steps p.tables e below (T'.setTop { F0 m pc ls mst with pc := pc + 3, stack := v.toList ++ st.map (px_mv ad) }) t2
  rw [e3]
  exact a1
theorem pw_callV {idx ci N : Nat} {y' : MethodName} {cc' : ByteArray} {nL' : Nat} {ret' : Option FieldType} {R' : Room} {o : pxI} {sl : List pxK} {st0 : List pxV} {Rt' : Option pxV → List pxI → pxG → pxS → Prop} (xs : List pxV)
    (hd : decode cc pc = .ok (.invokevirtual idx, 3)) (hw : px_y y.cls idx y' cc' nL' ret' N) (hi : Cond.instanceMethod y' ∈ pxW) (hs : Cond.selects y'.cls y' y' ∈ pxW) (hc : (classes[ci]?).map (fun q => q.1) = some y'.cls) (hG : G o = .inr (.inr (ci, sl)))
    (hst : st0 = xs.reverse ++ .inr (some o) :: st) (hN : xs.length = N) (h8 : st.length ≤ 8) (hR : R'.frames + 1 ≤ R.frames ∧ 8 + (nL' + 11) + R'.locals ≤ R.locals) (hk : k + R'.cells ≤ R.cells ∧ n + R'.slots ≤ R.slots)
    (hm : pm l y' cc' nL' ret' R' (.inr (some o) :: xs) ids G σ Rt')
    (h : ∀ (v : Option pxV) (ids' : List pxI) (G' : pxG) (σ' : pxS), Rt' v ids' G' σ' → (∀ i ∈ ids, i ∈ ids') → pw l R y cc nL ret (pc + 3) L (v.toList ++ st) ids' G' σ' (k + R'.cells) (n + R'.slots) Rt) :
    pw l R y cc nL ret pc L st0 ids G σ k n Rt := by
  intro p e s m args below meth c H locs ls D tA ad ad0 ids0 A X
  subst hst
  obtain ⟨hx, hb, hr, hml, hnm, hts, hown, hlk, hE, hK⟩ := X.1
  obtain ⟨hP, hD, hS, hcl, hA⟩ := X.2.1
  have hvs : ∀ v ∈ (.inr (some o) : pxV) :: xs, px_vv ids v := fun v hv => X.2.2.2.2.1 v (by
    rcases List.mem_cons.mp hv with rfl | hv
    · exact List.mem_append_right _ List.mem_cons_self
    · exact List.mem_append_left _ (List.mem_reverse.mpr hv))
  have hst : ∀ v ∈ st, px_vv ids v := fun v hv => X.2.2.2.2.1 v (List.mem_append_right _ (List.mem_cons_of_mem _ hv))
  obtain ⟨q0, h0⟩ := List.getElem?_of_mem (hvs _ List.mem_cons_self o rfl)
  have he := px_ws_get (ad := ad) (tA := tA) (G := G) (σ := σ) h0
  rw [hG] at he
  obtain ⟨qc, hc1, hc2⟩ := Option.map_eq_some_iff.mp hc
  obtain ⟨⟨w1, w2, w3⟩, w4⟩ := hw
  have hT : GoodIn pxW (wsV y.cls idx y'.cls y' (pxws y' cc' nL' ret')) := fun w hw => by
    rcases List.mem_append.mp hw with hw | hw
    · have hmem : w ∈ pxW := by
        simp only [List.mem_cons, List.not_mem_nil, or_false] at hw
        rcases hw with rfl | rfl | rfl | rfl
        · exact w1
        · exact hi
        · exact hs
        · exact w2
      exact ⟨hmem, pxW_good hmem⟩
    · exact px_good w3 w hw
  refine px_after X hst (va_runV (As := xs.map (px_mv ad)) (n := N) (C := y'.cls) (own := y.cls) (index := idx) (Ts := pxW) (nL := nL) (b := ad o) ⟨hx, hb, hml, hown, hts⟩ (hm D tA ad H.size) (cwV N hts hT rfl rfl rfl ⟨rfl, w4⟩ hR) ⟨px_blind D tA ad ids G σ _ _, ?_, fun U hU hW => ?_⟩ rfl (by rw [List.length_map]; exact hN) X.2.2.1.1 ?_ (lv_room (by rw [px_cat_sum]; exact h8)) hd hk) h
  · have := va_recv hK hP hc1 he
    rw [hc2] at this
    exact this
  · exact ⟨rfl, by rw [hU], by rw [hU]; exact hP, va_K.moved hW.alike hK, hD.weaken (fun _ _ _ _ => trivial), hcl, hvs, hE.call hS (px_free hD hS hA) hW hU⟩
  · show List.map (px_mv ad) _ = _
    rw [List.map_append, List.map_cons, List.map_reverse]
    rfl
theorem pw_callS {idx N : Nat} {y' : MethodName} {cc' : ByteArray} {nL' : Nat} {ret' : Option FieldType} {R' : Room} {st0 : List pxV} {Rt' : Option pxV → List pxI → pxG → pxS → Prop} (xs : List pxV)
    (hd : decode cc pc = .ok (.invokestatic idx, 3)) (hw : px_y y.cls idx y' cc' nL' ret' N) (hi : Cond.static y' ∈ pxW)
    (hst : st0 = xs.reverse ++ st) (hN : xs.length = N) (h8 : st.length ≤ 8) (hR : R'.frames + 1 ≤ R.frames ∧ 8 + (nL' + 11) + R'.locals ≤ R.locals) (hk : k + R'.cells ≤ R.cells ∧ n + R'.slots ≤ R.slots)
    (hm : pm l y' cc' nL' ret' R' xs ids G σ Rt')
    (h : ∀ (v : Option pxV) (ids' : List pxI) (G' : pxG) (σ' : pxS), Rt' v ids' G' σ' → (∀ i ∈ ids, i ∈ ids') → pw l R y cc nL ret (pc + 3) L (v.toList ++ st) ids' G' σ' (k + R'.cells) (n + R'.slots) Rt) :
    pw l R y cc nL ret pc L st0 ids G σ k n Rt := by
  intro p e s m args below meth c H locs ls D tA ad ad0 ids0 A X
  subst hst
  obtain ⟨hx, hb, hr, hml, hnm, hts, hown, hlk, hE, hK⟩ := X.1
  obtain ⟨hP, hD, hS, hcl, hA⟩ := X.2.1
  have hvs : ∀ v ∈ xs, px_vv ids v := fun v hv => X.2.2.2.2.1 v (List.mem_append_left _ (List.mem_reverse.mpr hv))
  have hst : ∀ v ∈ st, px_vv ids v := fun v hv => X.2.2.2.2.1 v (List.mem_append_right _ hv)
  obtain ⟨⟨w1, w2, w3⟩, w4⟩ := hw
  refine px_after X hst (va_runS (As := xs.map (px_mv ad)) (n := N) (own := y.cls) (index := idx) (Ts := pxW) (nL := nL) ⟨hx, hb, hml, hown, hts⟩ (hm D tA ad H.size) ⟨callB_of N hts (px_good w3) rfl rfl rfl (hts _ w2) (hts _ w1) w4 hR, hts _ hi⟩ ⟨px_blind D tA ad ids G σ _ _, fun U hU hW => ?_⟩ rfl (by rw [List.length_map]; exact hN) X.2.2.1.1 ?_ (lv_room (by rw [px_cat_sum]; exact h8)) hd hk) h
  · exact ⟨rfl, by rw [hU], by rw [hU]; exact hP, va_K.moved hW.alike hK, hD.weaken (fun _ _ _ _ => trivial), hcl, hvs, hE.call hS (px_free hD hS hA) hW hU⟩
  · show List.map (px_mv ad) _ = _
    rw [List.map_append, List.map_reverse]
/-- a call whose end is one value, one world -/
def px_r (v : Option pxV) (ids : List pxI) (G : pxG) (σ : pxS) : Option pxV → List pxI → pxG → pxS → Prop := fun v' ids' G' σ' => v' = v ∧ ids' = ids ∧ G' = G ∧ σ' = σ
theorem px_r_k {v : Option pxV} {ids ids2 : List pxI} {G G2 : pxG} {σ σ2 : pxS} {k' n' pc' : Nat} {L' : List (Nat × pxV)} (h : pw l R y cc nL ret pc' L' (v.toList ++ st) ids2 G2 σ2 k' n' Rt) : ∀ (v' : Option pxV) (ids' : List pxI) (G' : pxG) (σ' : pxS), px_r v ids2 G2 σ2 v' ids' G' σ' → (∀ i ∈ ids, i ∈ ids') → pw l R y cc nL ret pc' L' (v'.toList ++ st) ids' G' σ' k' n' Rt := by
  rintro v' ids' G' σ' ⟨rfl, rfl, rfl, rfl⟩ _
  exact h
/-- Math.max, Math.min: as one row -/
theorem pw_mmax {idx : Nat} {a b : Int32} (hd : decode cc pc = .ok (.invokestatic idx, 3)) (h1 : Cond.methodLink y.cls idx Lib.Math.max.name ∈ pxW) (h2 : Cond.static Lib.Math.max.name ∈ pxW) (h3 : Cond.initialized "java/lang/Math" ∈ pxW) (h4 : Cond.code Lib.Math.max.name Lib.Math.max.code 2 (some .int) ∈ pxW)
    (hf : 1 ≤ R.frames) (hl : st.length + 13 ≤ R.locals) (hk : k ≤ R.cells) (hn : n ≤ R.slots) (h : pw l R y cc nL ret (pc + 3) L (.inl (if a < b then b else a) :: st) ids G σ k n Rt) : pw l R y cc nL ret pc L (.inl b :: .inl a :: st) ids G σ k n Rt := by
  intro p e s m args below meth c H locs ls D tA ad ad0 ids0 A X
  obtain ⟨hx, hb, hr, hml, hnm, hts, hown, hlk, hE, hK⟩ := X.1
  exact va_mmax hx hb (hml.trans X.2.2.1.1.symm) hown (hts _ h1) (hts _ h2) (hts _ h3) (hts _ h4) hf (by rw [px_cat_sum]; exact hl) hk hn hd (h p e s m args below meth c H locs ls D tA ad ad0 ids0 A (X.stk (px_c px_vi (px_t (px_t X.2.2.2.2.1)))))
theorem pw_mmin {idx : Nat} {a b : Int32} (hd : decode cc pc = .ok (.invokestatic idx, 3)) (h1 : Cond.methodLink y.cls idx Lib.Math.min.name ∈ pxW) (h2 : Cond.static Lib.Math.min.name ∈ pxW) (h3 : Cond.initialized "java/lang/Math" ∈ pxW) (h4 : Cond.code Lib.Math.min.name Lib.Math.min.code 2 (some .int) ∈ pxW)
    (hf : 1 ≤ R.frames) (hl : st.length + 13 ≤ R.locals) (hk : k ≤ R.cells) (hn : n ≤ R.slots) (h : pw l R y cc nL ret (pc + 3) L (.inl (if b < a then b else a) :: st) ids G σ k n Rt) : pw l R y cc nL ret pc L (.inl b :: .inl a :: st) ids G σ k n Rt := by
  intro p e s m args below meth c H locs ls D tA ad ad0 ids0 A X
  obtain ⟨hx, hb, hr, hml, hnm, hts, hown, hlk, hE, hK⟩ := X.1
  exact va_mmin hx hb (hml.trans X.2.2.1.1.symm) hown (hts _ h1) (hts _ h2) (hts _ h3) (hts _ h4) hf (by rw [px_cat_sum]; exact hl) hk hn hd (h p e s m args below meth c H locs ls D tA ad ad0 ids0 A (X.stk (px_c px_vi (px_t (px_t X.2.2.2.2.1)))))
/-- the numbers behind a copy of the first N of an int row onto another's first N -/
def px_cp (σ : pxS) (i j : pxI) (N : Nat) : pxS := fun r q => if r = j ∧ q < N then σ i q else σ r q
theorem pw_copyi {idx : Nat} {i j : pxI} {N0 N1 : Nat} {N : Nat} {c : Int32} (hd : decode cc pc = .ok (.invokestatic idx, 3)) (h1 : Cond.methodLink y.cls idx arraycopyName ∈ pxW) (h2 : Cond.native arraycopyName ∈ pxW) (h3 : Cond.static arraycopyName ∈ pxW) (h4 : Cond.initialized "java/lang/System" ∈ pxW)
    (hi : G i = .inl (0, N0)) (hj : G j = .inl (0, N1)) (hc : c.toNatClampNeg = N) (h5 : ¬ c < 0) (hN0 : N ≤ N0) (hN1 : N ≤ N1)
    (hf : 1 ≤ R.frames) (hl : st.length + (nativeFrameWords "java/lang/System" "arraycopy" 5 + 11) ≤ R.locals) (h : pw l R y cc nL ret (pc + 3) L st ids G (px_cp σ i j N) k n Rt) : pw l R y cc nL ret pc L (.inl c :: .inl 0 :: .inr (some j) :: .inl 0 :: .inr (some i) :: st) ids G σ k n Rt := by
  intro p e s m args below meth c9 H locs ls D tA ad ad0 ids0 A X
  obtain ⟨hx, hb, hr, hml, hnm, hts, hown, hlk, hE, hK⟩ := X.1
  obtain ⟨hP, hD, hS, hcl, hA⟩ := X.2.1
  obtain ⟨q1, e1⟩ := List.getElem?_of_mem (px_h (px_t (px_t X.2.2.2.2.1)) j rfl)
  obtain ⟨q0, e0⟩ := List.getElem?_of_mem (px_h (px_t (px_t (px_t (px_t X.2.2.2.2.1)))) i rfl)
  have g0 := px_ws_get (ad := ad) (tA := tA) (G := G) (σ := σ) e0
  have g1 := px_ws_get (ad := ad) (tA := tA) (G := G) (σ := σ) e1
  rw [hi] at g0
  rw [hj] at g1
  have z0 : (0 : Int32).toNatClampNeg = 0 := by decide +kernel
  refine va_copyi hx hb (hml.trans X.2.2.1.1.symm) hown (hts _ h1) (hts _ h2) (hts _ h3) (hts _ h4) hK hP hD hS q0 q1 0 0 g0 g1 rfl rfl rfl (by decide +kernel) (by decide +kernel) h5 (by rw [z0, hc]; omega) (by rw [z0, hc]; omega) (fun _ _ => rfl) hf (by rw [px_cat_sum]; exact hl) hd fun H1 locs1 hP1 hD1 hS1 => ?_
  have hset : (px_ws ad tA ids G σ).set q1 (ad j, .inl (tA 0, N1, .inl (va_cpy (σ i) (σ j) (0 : Int32).toNatClampNeg (0 : Int32).toNatClampNeg c.toNatClampNeg))) = px_ws ad tA ids G (px_cp σ i j N) := by
    rw [← px_ws_set hD e1 (G' := G) (σ' := px_cp σ i j N) (fun j' _ hj' => by
      have : px_cp σ i j N j' = σ j' := by funext q; simp [px_cp, hj']
      rw [this]), hj]
    have : px_cp σ i j N j = va_cpy (σ i) (σ j) (0 : Int32).toNatClampNeg (0 : Int32).toNatClampNeg c.toNatClampNeg := by
      funext q
      rw [z0, hc]
      simp [px_cp, va_cpy]
    show _ = List.set _ _ (ad j, Sum.inl (tA 0, N1, Sum.inl (px_cp σ i j N j)))
    rw [this]
  rw [hset] at hP1 hD1
  refine h p e s m args below meth c9 H1 locs1 ls D tA ad ad0 ids0 A ⟨X.1, ⟨hP1, hD1, hS1, ?_, hA⟩, X.2.2.1, X.2.2.2.1, px_t (px_t (px_t (px_t (px_t X.2.2.2.2.1)))), X.2.2.2.2.2⟩
  intro r hr
  have h9 := hcl r hr
  by_cases hrj : r = j
  · subst hrj
    rw [hj]
    trivial
  · have : px_cp σ i j N r = σ r := by funext q; simp [px_cp, hrj]
    rw [this]
    exact h9
/-- a switch by a row of targets: within, without -/
theorem pw_tin {dflt lo hi off : Int} {offs : Array Int} {len : Nat} {x : Int32} (c : Int32) (tgt : Nat) (hd : decode cc pc = .ok (.tableswitch dflt lo hi offs, len)) (hx : x = c) (h1 : ¬ c.toInt < lo) (h2 : ¬ hi < c.toInt) (ho : offs[(c.toInt - lo).toNat]? = some off) (ht : (pc : Int) + off = (tgt : Int))
    (h : pw l R y cc nL ret tgt L st ids G σ k n Rt) : pw l R y cc nL ret pc L (.inl x :: st) ids G σ k n Rt := by
  intro p e s m args below meth c9 H locs ls D tA ad ad0 ids0 A X
  subst hx
  exact lv_tableIn X.1.1 X.1.2.1 hd h1 h2 ho ht (h p e s m args below meth c9 H locs ls D tA ad ad0 ids0 A (X.stk (px_t X.2.2.2.2.1)))
theorem px_out {lo hi : Int} {x : Int32} (cs : List Int32) (hc : ∀ j : Nat, j < (hi - lo + 1).toNat → ∃ c ∈ cs, c.toInt = lo + j) (h : ∀ c ∈ cs, ¬ x = c) : x.toInt < lo ∨ hi < x.toInt := by
  by_cases h1 : x.toInt < lo
  · exact Or.inl h1
  · by_cases h2 : hi < x.toInt
    · exact Or.inr h2
    · obtain ⟨c, hm, e⟩ := hc (x.toInt - lo).toNat (by omega)
      exact absurd (Int32.toInt_inj.mp (by rw [e]; omega)) (h c hm)
theorem pw_tout {dflt lo hi : Int} {offs : Array Int} {len : Nat} {x : Int32} (tgt : Nat) (hd : decode cc pc = .ok (.tableswitch dflt lo hi offs, len)) (hx : x.toInt < lo ∨ hi < x.toInt) (ht : (pc : Int) + dflt = (tgt : Int))
    (h : pw l R y cc nL ret tgt L st ids G σ k n Rt) : pw l R y cc nL ret pc L (.inl x :: st) ids G σ k n Rt := by
  intro p e s m args below meth c9 H locs ls D tA ad ad0 ids0 A X
  exact lv_tableOut X.1.1 X.1.2.1 hd hx ht (h p e s m args below meth c9 H locs ls D tA ad ad0 ids0 A (X.stk (px_t X.2.2.2.2.1)))
theorem pw_look {dflt off : Int} {ps : Array (Int × Int)} {len : Nat} {x : Int32} (tgt : Nat) (hd : decode cc pc = .ok (.lookupswitch dflt ps, len)) (hp : (ps.toList.zip (ps.toList.drop 1)).all (fun (a, next) => a.1 < next.1) = true) (ho : Op.lookupswitch.offset ps.toList dflt x.toInt = off) (ht : (pc : Int) + off = (tgt : Int))
    (h : pw l R y cc nL ret tgt L st ids G σ k n Rt) : pw l R y cc nL ret pc L (.inl x :: st) ids G σ k n Rt := by
  intro p e s m args below meth c9 H locs ls D tA ad ad0 ids0 A X
  exact lv_lookup X.1.1 X.1.2.1 hd hp ho ht (h p e s m args below meth c9 H locs ls D tA ad ad0 ids0 A (X.stk (px_t X.2.2.2.2.1)))
end PXC
end
section
/-! what a method does, as a function on numbers: the words of these functions, and rows in the form that a program lays -/
def px_b1 {α β : Type} (o : Option α) (f : α → Option β) : Option β := match o with
  | none => none
  | some a => f a
def px_b2 {α γ β : Type} (o : Option (α × γ)) (f : α → γ → Option β) : Option β := match o with
  | none => none
  | some a => f a.1 a.2
def px_l {α β : Type} (a : α) (f : α → Option β) : Option β := f a
def px_gd {β : Type} (j : Int32) (N : Nat) (A : Option β) : Option β := if ¬ j < 0 ∧ j.toNatClampNeg < N then A else none
def px_gz {β : Type} (j : Int32) (A : Option β) : Option β := if j = 0 then none else A
def px_gb {β : Type} (j : Int32) (A : Option β) : Option β := if j = 0 ∨ j = 1 then A else none
def px_it {S E : Type} (f : S → Option (S ⊕ E)) : Nat → S → Option E
  | 0, _ => none
  | n + 1, s => match f s with
    | none => none
    | some (.inl s') => px_it f n s'
    | some (.inr e) => some e
def px_N : Nat := 100000
theorem px_b1_e {α β : Type} {o : Option α} {f : α → Option β} {r : β} (h : px_b1 o f = some r) : ∃ a, o = some a ∧ f a = some r := by
  cases o with
  | none => cases h
  | some a => exact ⟨a, rfl, h⟩
theorem px_b2_e {α γ β : Type} {o : Option (α × γ)} {f : α → γ → Option β} {r : β} (h : px_b2 o f = some r) : ∃ a b, o = some (a, b) ∧ f a b = some r := by
  cases o with
  | none => cases h
  | some a => exact ⟨a.1, a.2, rfl, h⟩
theorem px_l_e {α β : Type} {a : α} {f : α → Option β} {r : β} (h : px_l a f = some r) : ∃ s, s = a ∧ f s = some r := ⟨a, rfl, h⟩
theorem px_ite {β : Type} {c : Prop} {_ : Decidable c} {A B : Option β} {r : β} (h : (if c then A else B) = some r) : (c ∧ A = some r) ∨ (¬ c ∧ B = some r) := by
  by_cases hc : c
  · rw [if_pos hc] at h
    exact Or.inl ⟨hc, h⟩
  · rw [if_neg hc] at h
    exact Or.inr ⟨hc, h⟩
theorem px_gd_e {β : Type} {j : Int32} {N : Nat} {A : Option β} {r : β} (h : px_gd j N A = some r) : vp_in j N ∧ A = some r := by
  unfold px_gd at h
  rcases px_ite h with ⟨h1, h2⟩ | ⟨_, h2⟩
  · refine ⟨fun q => ?_, h2⟩
    rcases q with q | q
    · exact h1.1 q
    · omega
  · cases h2
theorem px_gz_e {β : Type} {j : Int32} {A : Option β} {r : β} (h : px_gz j A = some r) : ¬ j = 0 ∧ A = some r := by
  unfold px_gz at h
  rcases px_ite h with ⟨_, h2⟩ | ⟨h1, h2⟩
  · cases h2
  · exact ⟨h1, h2⟩
theorem px_gb_e {β : Type} {j : Int32} {A : Option β} {r : β} (h : px_gb j A = some r) : (j = 0 ∨ j = 1) ∧ A = some r := by
  unfold px_gb at h
  rcases px_ite h with ⟨h1, h2⟩ | ⟨_, h2⟩
  · exact ⟨h1, h2⟩
  · cases h2
theorem px_inL {j : Int32} {N q : Nat} (h1 : ¬ j < 0) (h2 : j.toNatClampNeg = q) (h3 : q < N) : vp_in j N := fun z => by
  rcases z with z | z
  · exact h1 z
  · omega
/-- a loop: if each round takes 'C s' back to 'C' of the next state, and its end back to what holds behind it -/
theorem px_it_rule {S E : Type} {f : S → Option (S ⊕ E)} {C : S → Prop} {X : E → Prop} (hc : ∀ s s', f s = some (.inl s') → C s' → C s) (hx : ∀ s e, f s = some (.inr e) → X e → C s) : ∀ (n : Nat) (s : S) (e : E), px_it f n s = some e → X e → C s := by
  intro n
  induction n with
  | zero => intro s e h; cases h
  | succ n ih =>
    intro s e h hX
    unfold px_it at h
    cases hf : f s with
    | none => rw [hf] at h; cases h
    | some o =>
      rw [hf] at h
      cases o with
      | inl s' => exact hc s s' hf (ih s' e h hX)
      | inr e1 =>
        have he : e1 = e := Option.some.inj h
        subst he
        exact hx s e1 hf hX
theorem px_at {cc : ByteArray} {tb : List (Nat × Instr × Nat)} (h : ∀ q ∈ tb, decode cc q.1 = .ok q.2) (i : Nat) {pc len : Nat} {ins : Instr} (e : tb[i]? = some (pc, ins, len)) : decode cc pc = .ok (ins, len) := by
  have h1 := h (pc, ins, len) (List.mem_of_getElem? e)
  dsimp only at h1
  exact h1
theorem px_w (i : Nat) {w : Cond} (e : lw_tbl[i]? = some w) (h : goodWord w = true) : w ∈ pxW := List.mem_filter.mpr ⟨List.mem_of_getElem? e, h⟩
abbrev px_R (d : Nat) : Room := { frames := d, cells := 0, slots := 0, locals := 40 * d }
section PXQ
variable {l : Launch} {R : Room} {y : MethodName} {cc : ByteArray} {nL : Nat} {ret : Option FieldType} {pc : Nat} {L : List (Nat × pxV)} {st : List pxV} {ids : List pxI} {G : pxG} {σ : pxS} {k n : Nat} {Rt : Option pxV → List pxI → pxG → pxS → Prop}
theorem pw_s {σ' : pxS} (e : σ' = σ) (h : pw l R y cc nL ret pc L st ids G σ' k n Rt) : pw l R y cc nL ret pc L st ids G σ k n Rt := e ▸ h
theorem pw_ial {i : pxI} {j : Int32} {N q : Nat} (hd : decode cc pc = .ok (.iaload, 1)) (hG : G i = .inl (0, N)) (hin : vp_in j N) (e : j.toNatClampNeg = q)
    (h : pw l R y cc nL ret (pc + 1) L (.inl (σ i q) :: st) ids G σ k n Rt) : pw l R y cc nL ret pc L (.inl j :: .inr (some i) :: st) ids G σ k n Rt := by
  subst e
  exact pw_iald hd hG hin h
theorem pw_bal {i : pxI} {j : Int32} {N q : Nat} (hd : decode cc pc = .ok (.baload, 1)) (hG : G i = .inl (1, N)) (hin : vp_in j N) (e : j.toNatClampNeg = q)
    (h : pw l R y cc nL ret (pc + 1) L (.inl (σ i q) :: st) ids G σ k n Rt) : pw l R y cc nL ret pc L (.inl j :: .inr (some i) :: st) ids G σ k n Rt := by
  subst e
  exact pw_bald hd hG hin h
theorem pw_zal {i : pxI} {j : Int32} {N q : Nat} (hd : decode cc pc = .ok (.baload, 1)) (hG : G i = .inl (2, N)) (hin : vp_in j N) (e : j.toNatClampNeg = q)
    (h : pw l R y cc nL ret (pc + 1) L (.inl (σ i q) :: st) ids G σ k n Rt) : pw l R y cc nL ret pc L (.inl j :: .inr (some i) :: st) ids G σ k n Rt := by
  subst e
  exact pw_zald hd hG hin h
theorem pw_ias {i : pxI} {j x : Int32} {N q : Nat} {σ' : pxS} (hd : decode cc pc = .ok (.iastore, 1)) (hG : G i = .inl (0, N)) (hin : vp_in j N) (e : j.toNatClampNeg = q) (hs : σ' = px_up σ i q x)
    (h : pw l R y cc nL ret (pc + 1) L st ids G σ' k n Rt) : pw l R y cc nL ret pc L (.inl x :: .inl j :: .inr (some i) :: st) ids G σ k n Rt := by
  subst e
  exact pw_iast hd hG hin (pw_s hs h)
theorem pw_bas {i : pxI} {j x : Int32} {N q : Nat} {σ' : pxS} (hd : decode cc pc = .ok (.bastore, 1)) (hG : G i = .inl (1, N)) (hin : vp_in j N) (e : j.toNatClampNeg = q) (hs : σ' = px_up σ i q (vp_nar .byte x))
    (h : pw l R y cc nL ret (pc + 1) L st ids G σ' k n Rt) : pw l R y cc nL ret pc L (.inl x :: .inl j :: .inr (some i) :: st) ids G σ k n Rt := by
  subst e
  exact pw_bast hd hG hin (pw_s hs h)
theorem pw_zas {i : pxI} {j x : Int32} {N q : Nat} {σ' : pxS} (hd : decode cc pc = .ok (.bastore, 1)) (hG : G i = .inl (2, N)) (hin : vp_in j N) (e : j.toNatClampNeg = q) (hs : σ' = px_up σ i q (vp_nar .boolean x))
    (h : pw l R y cc nL ret (pc + 1) L st ids G σ' k n Rt) : pw l R y cc nL ret pc L (.inl x :: .inl j :: .inr (some i) :: st) ids G σ k n Rt := by
  subst e
  exact pw_zast hd hG hin (pw_s hs h)
/-- behind a call of one end: with a value, without -/
theorem px_k1 {r : Int32} {ids2 : List pxI} {G2 : pxG} {σ2 : pxS} {k' n' pc' : Nat} {L' : List (Nat × pxV)} (h : pw l R y cc nL ret pc' L' (.inl r :: st) ids2 G2 σ2 k' n' Rt) : ∀ (v' : Option pxV) (ids' : List pxI) (G' : pxG) (σ' : pxS), px_r (some (.inl r)) ids2 G2 σ2 v' ids' G' σ' → (∀ i ∈ ids, i ∈ ids') → pw l R y cc nL ret pc' L' (v'.toList ++ st) ids' G' σ' k' n' Rt := by
  rintro v' ids' G' σ' ⟨rfl, rfl, rfl, rfl⟩ _
  exact h
theorem px_k0 {ids2 : List pxI} {G2 : pxG} {σ2 : pxS} {k' n' pc' : Nat} {L' : List (Nat × pxV)} (h : pw l R y cc nL ret pc' L' st ids2 G2 σ2 k' n' Rt) : ∀ (v' : Option pxV) (ids' : List pxI) (G' : pxG) (σ' : pxS), px_r none ids2 G2 σ2 v' ids' G' σ' → (∀ i ∈ ids, i ∈ ids') → pw l R y cc nL ret pc' L' (v'.toList ++ st) ids' G' σ' k' n' Rt := by
  rintro v' ids' G' σ' ⟨rfl, rfl, rfl, rfl⟩ _
  exact h
theorem px_look2 {a b : Int} {dflt off : Int} {x : Int32} (h : (x = 0 ∧ off = a) ∨ (x = 1 ∧ off = b) ∨ (¬ x = 0 ∧ ¬ x = 1 ∧ off = dflt)) : Op.lookupswitch.offset (#[(0, a), (1, b)] : Array (Int × Int)).toList dflt x.toInt = off := by
  rcases h with ⟨rfl, rfl⟩ | ⟨rfl, rfl⟩ | ⟨h0, h1, rfl⟩
  · rfl
  · rfl
  · have e0 : ¬ x.toInt = 0 := fun e => h0 (Int32.toInt_inj.mp (e.trans (by decide)))
    have e1 : ¬ x.toInt = 1 := fun e => h1 (Int32.toInt_inj.mp (e.trans (by decide)))
    have e0' : ¬ 0 = x.toInt := fun e => e0 e.symm
    have e1' : ¬ 1 = x.toInt := fun e => e1 e.symm
    simp [Op.lookupswitch.offset, e0', e1', e0, e1]
end PXQ
end
section
/-! calls in the form that a program lays -/
def px_yV (own : String) (idx ci : Nat) (y : MethodName) (cc : ByteArray) (nL : Nat) (ret : Option FieldType) (N : Nat) : Prop := px_y own idx y cc nL ret N ∧ Cond.instanceMethod y ∈ pxW ∧ Cond.selects y.cls y y ∈ pxW ∧ (classes[ci]?).map (fun q => q.1) = some y.cls
def px_yS (own : String) (idx : Nat) (y : MethodName) (cc : ByteArray) (nL : Nat) (ret : Option FieldType) (N : Nat) : Prop := px_y own idx y cc nL ret N ∧ Cond.static y ∈ pxW
section PXD
variable {l : Launch} {d d' : Nat} {y : MethodName} {cc : ByteArray} {nL : Nat} {ret : Option FieldType} {pc : Nat} {L : List (Nat × pxV)} {ids : List pxI} {G : pxG} {σ σ2 : pxS} {Rt : Option pxV → List pxI → pxG → pxS → Prop}
  {idx ci N : Nat} {y' : MethodName} {cc' : ByteArray} {nL' : Nat} {ret' : Option FieldType} {sl : List pxK} {st0 : List pxV} {r : Int32}
theorem pw_cV1 (o : pxI) (xs st : List pxV) (hd : decode cc pc = .ok (.invokevirtual idx, 3)) (hw : px_yV y.cls idx ci y' cc' nL' ret' N) (hG : G o = .inr (.inr (ci, sl))) (hst : st0 = xs.reverse ++ .inr (some o) :: st) (hN : xs.length = N) (h8 : st.length ≤ 8) (hR : d' + 1 ≤ d ∧ 8 + (nL' + 11) + 40 * d' ≤ 40 * d)
    (hm : pm l y' cc' nL' ret' (px_R d') (.inr (some o) :: xs) ids G σ (px_r (some (.inl r)) ids G σ2)) (h : pw l (px_R d) y cc nL ret (pc + 3) L (.inl r :: st) ids G σ2 0 0 Rt) : pw l (px_R d) y cc nL ret pc L st0 ids G σ 0 0 Rt :=
  pw_callV (R' := px_R d') xs hd hw.1 hw.2.1 hw.2.2.1 hw.2.2.2 hG hst hN h8 hR ⟨Nat.le_refl 0, Nat.le_refl 0⟩ hm (px_k1 h)
theorem pw_cV0 (o : pxI) (xs st : List pxV) (hd : decode cc pc = .ok (.invokevirtual idx, 3)) (hw : px_yV y.cls idx ci y' cc' nL' ret' N) (hG : G o = .inr (.inr (ci, sl))) (hst : st0 = xs.reverse ++ .inr (some o) :: st) (hN : xs.length = N) (h8 : st.length ≤ 8) (hR : d' + 1 ≤ d ∧ 8 + (nL' + 11) + 40 * d' ≤ 40 * d)
    (hm : pm l y' cc' nL' ret' (px_R d') (.inr (some o) :: xs) ids G σ (px_r none ids G σ2)) (h : pw l (px_R d) y cc nL ret (pc + 3) L st ids G σ2 0 0 Rt) : pw l (px_R d) y cc nL ret pc L st0 ids G σ 0 0 Rt :=
  pw_callV (R' := px_R d') xs hd hw.1 hw.2.1 hw.2.2.1 hw.2.2.2 hG hst hN h8 hR ⟨Nat.le_refl 0, Nat.le_refl 0⟩ hm (px_k0 h)
theorem pw_cS1 (xs st : List pxV) (hd : decode cc pc = .ok (.invokestatic idx, 3)) (hw : px_yS y.cls idx y' cc' nL' ret' N) (hst : st0 = xs.reverse ++ st) (hN : xs.length = N) (h8 : st.length ≤ 8) (hR : d' + 1 ≤ d ∧ 8 + (nL' + 11) + 40 * d' ≤ 40 * d)
    (hm : pm l y' cc' nL' ret' (px_R d') xs ids G σ (px_r (some (.inl r)) ids G σ2)) (h : pw l (px_R d) y cc nL ret (pc + 3) L (.inl r :: st) ids G σ2 0 0 Rt) : pw l (px_R d) y cc nL ret pc L st0 ids G σ 0 0 Rt :=
  pw_callS (R' := px_R d') xs hd hw.1 hw.2 hst hN h8 hR ⟨Nat.le_refl 0, Nat.le_refl 0⟩ hm (px_k1 h)
theorem pw_cS0 (xs st : List pxV) (hd : decode cc pc = .ok (.invokestatic idx, 3)) (hw : px_yS y.cls idx y' cc' nL' ret' N) (hst : st0 = xs.reverse ++ st) (hN : xs.length = N) (h8 : st.length ≤ 8) (hR : d' + 1 ≤ d ∧ 8 + (nL' + 11) + 40 * d' ≤ 40 * d)
    (hm : pm l y' cc' nL' ret' (px_R d') xs ids G σ (px_r none ids G σ2)) (h : pw l (px_R d) y cc nL ret (pc + 3) L st ids G σ2 0 0 Rt) : pw l (px_R d) y cc nL ret pc L st0 ids G σ 0 0 Rt :=
  pw_callS (R' := px_R d') xs hd hw.1 hw.2 hst hN h8 hR ⟨Nat.le_refl 0, Nat.le_refl 0⟩ hm (px_k0 h)
end PXD
/-! what the cells of the class, and of the reference, are -/
def cG : pxG := fun i => match i with
  | (0, _, _) => .inr (.inr (0, [some (.inr (some (5, 0, 0))), some (.inr (some (6, 0, 0))), some (.inr (some (7, 0, 0))), some (.inr (some (2, 0, 0))), some (.inr (some (2, 1, 0))), some (.inr (some (2, 2, 0))), some (.inl 1), none, none, none, none, none, none]))
  | (1, p, _) => .inr (.inr (1, [none, none, none, some (.inr (some (8, p, 0))), some (.inr (some (8, p, 1))), some (.inr (some (8, p, 2))), some (.inr (some (8, p, 3))), some (.inr (some (8, p, 4))), some (.inr (some (8, p, 5))), some (.inr (some (8, p, 6))), some (.inr (some (8, p, 7))), some (.inr (some (8, p, 8))), some (.inr (some (8, p, 9))), some (.inr (some (8, p, 10))), some (.inr (some (8, p, 11))), some (.inr (some (8, p, 12))), some (.inr (some (8, p, 13))), some (.inr (some (8, p, 14)))]))
  | (2, k, _) => .inr (.inr (2, [some (.inr (some (9, k, 0))), some (.inr (some (4, k, 0))), some (.inr (some (4, k, 1))), some (.inr (some (11, k, 0))), some (.inl 1), none, none, none, none, none, none]))
  | (3, _, _) => .inr (.inr (3, [none, none, none, none, none, none, none, none, none, none, none, none, none]))
  | (4, k, w) => .inr (.inr (4, [some (.inr (some (10, k, w))), none, none]))
  | (5, _, _) => .inl (1, 700)
  | (6, _, _) => .inr (.inr (5, [some (.inl 1), none, none, some (.inr (some (12, 0, 0))), some (.inr (some (12, 1, 0))), some (.inr (some (12, 2, 0))), some (.inr (some (12, 3, 0))), none, some (.inr (some (5, 0, 0))), none, none, none, none, none, none]))
  | (7, _, _) => .inr (.inl (3, 20, fun j => some (2, j + 3, 0)))
  | (8, _, 11) => .inl (0, 24)
  | (8, _, 12) => .inl (0, 24)
  | (8, _, 13) => .inl (0, 24)
  | (8, _, 14) => .inl (0, 8)
  | (8, _, _) => .inl (0, 12)
  | (9, k, _) => .inr (.inl (4, 12, fun j => some (3, k, j)))
  | (10, _, _) => .inl (0, 12)
  | (11, _, _) => .inl (0, 40)
  | (12, 0, _) => .inl (0, 14)
  | (12, _, _) => .inl (0, 701)
  | (_, _, _) => .inl (0, 0)
def mGn (a : Nat) : Nat × Nat := match a with
  | 1 => (0, 700)
  | 3 => (0, 22)
  | 4 => (2, 14)
  | 5 => (0, 24)
  | 6 => (0, 24)
  | 7 => (0, 24)
  | 8 => (0, 24)
  | 9 => (0, 24)
  | 10 => (0, 24)
  | 11 => (0, 24)
  | 12 => (0, 24)
  | 13 => (0, 48)
  | 14 => (0, 48)
  | 15 => (0, 48)
  | 26 => (0, 12)
  | 27 => (0, 12)
  | 28 => (0, 308)
  | 29 => (0, 308)
  | 30 => (0, 308)
  | 31 => (0, 6160)
  | 34 => (0, 12)
  | 35 => (0, 12)
  | 36 => (0, 12)
  | 37 => (0, 12)
  | 39 => (0, 4096)
  | _ => (0, 0)
def mG : pxG := fun i => match i with
  | (0, _, _) => .inr (.inr (6, [none, some (.inr (some (1, 1, 0))), none, some (.inr (some (1, 3, 0))), some (.inr (some (1, 4, 0))), some (.inr (some (1, 5, 0))), some (.inr (some (1, 6, 0))), some (.inr (some (1, 7, 0))), some (.inr (some (1, 8, 0))), some (.inr (some (1, 9, 0))), some (.inr (some (1, 10, 0))), some (.inr (some (1, 11, 0))), some (.inr (some (1, 12, 0))), some (.inr (some (1, 13, 0))), some (.inr (some (1, 14, 0))), some (.inr (some (1, 15, 0))), none, none, none, none, none, none, none, none, none, none, some (.inr (some (1, 26, 0))), some (.inr (some (1, 27, 0))), some (.inr (some (1, 28, 0))), some (.inr (some (1, 29, 0))), some (.inr (some (1, 30, 0))), some (.inr (some (1, 31, 0))), none, none, some (.inr (some (1, 34, 0))), some (.inr (some (1, 35, 0))), some (.inr (some (1, 36, 0))), some (.inr (some (1, 37, 0))), none, some (.inr (some (1, 39, 0))), none]))
  | (_, a, _) => .inl (mGn a)
end
section
def ys_cod : MethodName := ⟨"java/lang/String", "coder", "()B"⟩
abbrev cs_cod : ByteArray := prog_19_method_152_code
theorem ds_cod_0 : decode cs_cod 0 = .ok (.getstatic 38, 3) := by decide +kernel
theorem ds_cod_3 : decode cs_cod 3 = .ok (.ifCond .eq 10, 3) := by decide +kernel
theorem ds_cod_6 : decode cs_cod 6 = .ok (.aload_n 0, 1) := by decide +kernel
theorem ds_cod_7 : decode cs_cod 7 = .ok (.getfield 15, 3) := by decide +kernel
theorem ds_cod_10 : decode cs_cod 10 = .ok (.goto 4, 3) := by decide +kernel
theorem ds_cod_13 : decode cs_cod 13 = .ok (.iconst 1, 1) := by decide +kernel
theorem ds_cod_14 : decode cs_cod 14 = .ok (.ireturn, 1) := by decide +kernel
def ys_len : MethodName := ⟨"java/lang/String", "length", "()I"⟩
abbrev cs_len : ByteArray := prog_19_method_54_code
theorem ds_len_0 : decode cs_len 0 = .ok (.aload_n 0, 1) := by decide +kernel
theorem ds_len_1 : decode cs_len 1 = .ok (.getfield 9, 3) := by decide +kernel
theorem ds_len_4 : decode cs_len 4 = .ok (.arraylength, 1) := by decide +kernel
theorem ds_len_5 : decode cs_len 5 = .ok (.aload_n 0, 1) := by decide +kernel
theorem ds_len_6 : decode cs_len 6 = .ok (.invokevirtual 335, 3) := by decide +kernel
theorem ds_len_9 : decode cs_len 9 = .ok (.ishr, 1) := by decide +kernel
theorem ds_len_10 : decode cs_len 10 = .ok (.ireturn, 1) := by decide +kernel
def ys_lat : MethodName := ⟨"java/lang/String", "isLatin1", "()Z"⟩
abbrev cs_lat : ByteArray := prog_19_method_154_code
theorem ds_lat_0 : decode cs_lat 0 = .ok (.getstatic 38, 3) := by decide +kernel
theorem ds_lat_3 : decode cs_lat 3 = .ok (.ifCond .eq 14, 3) := by decide +kernel
theorem ds_lat_6 : decode cs_lat 6 = .ok (.aload_n 0, 1) := by decide +kernel
theorem ds_lat_7 : decode cs_lat 7 = .ok (.getfield 15, 3) := by decide +kernel
theorem ds_lat_10 : decode cs_lat 10 = .ok (.ifCond .ne 7, 3) := by decide +kernel
theorem ds_lat_13 : decode cs_lat 13 = .ok (.iconst 1, 1) := by decide +kernel
theorem ds_lat_14 : decode cs_lat 14 = .ok (.goto 4, 3) := by decide +kernel
theorem ds_lat_17 : decode cs_lat 17 = .ok (.iconst 0, 1) := by decide +kernel
theorem ds_lat_18 : decode cs_lat 18 = .ok (.ireturn, 1) := by decide +kernel
def ys_chk : MethodName := ⟨"jdk/internal/util/Preconditions", "checkIndex", "(IILjava/util/function/BiFunction;)I"⟩
abbrev cs_chk : ByteArray := prog_27_method_11_code
theorem ds_chk_0 : decode cs_chk 0 = .ok (.iload_n 0, 1) := by decide +kernel
theorem ds_chk_1 : decode cs_chk 1 = .ok (.ifCond .lt 8, 3) := by decide +kernel
theorem ds_chk_4 : decode cs_chk 4 = .ok (.iload_n 0, 1) := by decide +kernel
theorem ds_chk_5 : decode cs_chk 5 = .ok (.iload_n 1, 1) := by decide +kernel
theorem ds_chk_6 : decode cs_chk 6 = .ok (.if_icmp .lt 10, 3) := by decide +kernel
theorem ds_chk_9 : decode cs_chk 9 = .ok (.aload_n 2, 1) := by decide +kernel
theorem ds_chk_10 : decode cs_chk 10 = .ok (.iload_n 0, 1) := by decide +kernel
theorem ds_chk_11 : decode cs_chk 11 = .ok (.iload_n 1, 1) := by decide +kernel
theorem ds_chk_12 : decode cs_chk 12 = .ok (.invokestatic 95, 3) := by decide +kernel
theorem ds_chk_15 : decode cs_chk 15 = .ok (.athrow, 1) := by decide +kernel
theorem ds_chk_16 : decode cs_chk 16 = .ok (.iload_n 0, 1) := by decide +kernel
theorem ds_chk_17 : decode cs_chk 17 = .ok (.ireturn, 1) := by decide +kernel
def ys_sck : MethodName := ⟨"java/lang/String", "checkIndex", "(II)V"⟩
abbrev cs_sck : ByteArray := prog_19_method_155_code
theorem ds_sck_0 : decode cs_sck 0 = .ok (.iload_n 0, 1) := by decide +kernel
theorem ds_sck_1 : decode cs_sck 1 = .ok (.iload_n 1, 1) := by decide +kernel
theorem ds_sck_2 : decode cs_sck 2 = .ok (.getstatic 1053, 3) := by decide +kernel
theorem ds_sck_5 : decode cs_sck 5 = .ok (.invokestatic 1059, 3) := by decide +kernel
theorem ds_sck_8 : decode cs_sck 8 = .ok (.pop, 1) := by decide +kernel
theorem ds_sck_9 : decode cs_sck 9 = .ok (.return_, 1) := by decide +kernel
def ys_lch : MethodName := ⟨"java/lang/StringLatin1", "charAt", "([BI)C"⟩
abbrev cs_lch : ByteArray := prog_20_method_2_code
theorem ds_lch_0 : decode cs_lch 0 = .ok (.iload_n 1, 1) := by decide +kernel
theorem ds_lch_1 : decode cs_lch 1 = .ok (.aload_n 0, 1) := by decide +kernel
theorem ds_lch_2 : decode cs_lch 2 = .ok (.arraylength, 1) := by decide +kernel
theorem ds_lch_3 : decode cs_lch 3 = .ok (.invokestatic 9, 3) := by decide +kernel
theorem ds_lch_6 : decode cs_lch 6 = .ok (.aload_n 0, 1) := by decide +kernel
theorem ds_lch_7 : decode cs_lch 7 = .ok (.iload_n 1, 1) := by decide +kernel
theorem ds_lch_8 : decode cs_lch 8 = .ok (.baload, 1) := by decide +kernel
theorem ds_lch_9 : decode cs_lch 9 = .ok (.sipush 255, 3) := by decide +kernel
theorem ds_lch_12 : decode cs_lch 12 = .ok (.iand, 1) := by decide +kernel
theorem ds_lch_13 : decode cs_lch 13 = .ok (.i2c, 1) := by decide +kernel
theorem ds_lch_14 : decode cs_lch 14 = .ok (.ireturn, 1) := by decide +kernel
def ys_cha : MethodName := ⟨"java/lang/String", "charAt", "(I)C"⟩
abbrev cs_cha : ByteArray := prog_19_method_56_code
theorem ds_cha_0 : decode cs_cha 0 = .ok (.aload_n 0, 1) := by decide +kernel
theorem ds_cha_1 : decode cs_cha 1 = .ok (.invokevirtual 492, 3) := by decide +kernel
theorem ds_cha_4 : decode cs_cha 4 = .ok (.ifCond .eq 12, 3) := by decide +kernel
theorem ds_cha_7 : decode cs_cha 7 = .ok (.aload_n 0, 1) := by decide +kernel
theorem ds_cha_8 : decode cs_cha 8 = .ok (.getfield 9, 3) := by decide +kernel
theorem ds_cha_11 : decode cs_cha 11 = .ok (.iload_n 1, 1) := by decide +kernel
theorem ds_cha_12 : decode cs_cha 12 = .ok (.invokestatic 495, 3) := by decide +kernel
theorem ds_cha_15 : decode cs_cha 15 = .ok (.ireturn, 1) := by decide +kernel
theorem ds_cha_16 : decode cs_cha 16 = .ok (.aload_n 0, 1) := by decide +kernel
theorem ds_cha_17 : decode cs_cha 17 = .ok (.getfield 9, 3) := by decide +kernel
theorem ds_cha_20 : decode cs_cha 20 = .ok (.iload_n 1, 1) := by decide +kernel
theorem ds_cha_21 : decode cs_cha 21 = .ok (.invokestatic 498, 3) := by decide +kernel
theorem ds_cha_24 : decode cs_cha 24 = .ok (.ireturn, 1) := by decide +kernel
theorem ws_cod : Cond.code ys_cod cs_cod 1 (some .byte) ∈ pxW := (px_w 254 (by decide +kernel) (by decide +kernel))
theorem ws_len : Cond.code ys_len cs_len 1 (some .int) ∈ pxW := (px_w 250 (by decide +kernel) (by decide +kernel))
theorem ws_lat : Cond.code ys_lat cs_lat 1 (some .boolean) ∈ pxW := (px_w 264 (by decide +kernel) (by decide +kernel))
theorem ws_chk : Cond.code ys_chk cs_chk 3 (some .int) ∈ pxW := (px_w 275 (by decide +kernel) (by decide +kernel))
theorem ws_sck : Cond.code ys_sck cs_sck 2 none ∈ pxW := (px_w 270 (by decide +kernel) (by decide +kernel))
theorem ws_lch : Cond.code ys_lch cs_lch 2 (some .char) ∈ pxW := (px_w 267 (by decide +kernel) (by decide +kernel))
theorem ws_cha : Cond.code ys_cha cs_cha 2 (some .char) ∈ pxW := (px_w 260 (by decide +kernel) (by decide +kernel))
theorem wv_cod : Cond.instanceMethod ys_cod ∈ pxW ∧ Cond.selects "java/lang/String" ys_cod ys_cod ∈ pxW := ⟨(px_w 252 (by decide +kernel) (by decide +kernel)), (px_w 253 (by decide +kernel) (by decide +kernel))⟩
theorem wv_lat : Cond.instanceMethod ys_lat ∈ pxW ∧ Cond.selects "java/lang/String" ys_lat ys_lat ∈ pxW := ⟨(px_w 262 (by decide +kernel) (by decide +kernel)), (px_w 263 (by decide +kernel) (by decide +kernel))⟩
theorem wv_len : Cond.instanceMethod ys_len ∈ pxW ∧ Cond.selects "java/lang/String" ys_len ys_len ∈ pxW := ⟨(px_w 248 (by decide +kernel) (by decide +kernel)), (px_w 249 (by decide +kernel) (by decide +kernel))⟩
theorem wv_cha : Cond.instanceMethod ys_cha ∈ pxW ∧ Cond.selects "java/lang/String" ys_cha ys_cha ∈ pxW := ⟨(px_w 258 (by decide +kernel) (by decide +kernel)), (px_w 259 (by decide +kernel) (by decide +kernel))⟩
theorem wt_chk : Cond.static ys_chk ∈ pxW := (px_w 274 (by decide +kernel) (by decide +kernel))
theorem wt_sck : Cond.static ys_sck ∈ pxW := (px_w 269 (by decide +kernel) (by decide +kernel))
theorem wt_lch : Cond.static ys_lch ∈ pxW := (px_w 266 (by decide +kernel) (by decide +kernel))
theorem wn_St : Cond.initialized "java/lang/String" ∈ pxW := (px_w 103 (by decide +kernel) (by decide +kernel))
theorem wn_S1 : Cond.initialized "java/lang/StringLatin1" ∈ pxW := (px_w 104 (by decide +kernel) (by decide +kernel))
theorem wn_Pr : Cond.initialized "jdk/internal/util/Preconditions" ∈ pxW := (px_w 105 (by decide +kernel) (by decide +kernel))
theorem wf_38 : Cond.fieldLink "java/lang/String" 38 "java/lang/String" "COMPACT_STRINGS" "Z" ∈ pxW := (px_w 255 (by decide +kernel) (by decide +kernel))
theorem wf_15 : Cond.fieldLink "java/lang/String" 15 "java/lang/String" "coder" "B" ∈ pxW := (px_w 1655 (by decide +kernel) (by decide +kernel))
theorem wf_9 : Cond.fieldLink "java/lang/String" 9 "java/lang/String" "value" "[B" ∈ pxW := (px_w 1654 (by decide +kernel) (by decide +kernel))
theorem wf_1053 : Cond.fieldLink "java/lang/String" 1053 "jdk/internal/util/Preconditions" "SIOOBE_FORMATTER" "Ljava/util/function/BiFunction;" ∈ pxW := (px_w 271 (by decide +kernel) (by decide +kernel))
theorem wm_335 : Cond.methodLink "java/lang/String" 335 ys_cod ∈ pxW := (px_w 251 (by decide +kernel) (by decide +kernel))
theorem wm_492 : Cond.methodLink "java/lang/String" 492 ys_lat ∈ pxW := (px_w 261 (by decide +kernel) (by decide +kernel))
theorem wm_495 : Cond.methodLink "java/lang/String" 495 ys_lch ∈ pxW := (px_w 265 (by decide +kernel) (by decide +kernel))
theorem wm_1059 : Cond.methodLink "java/lang/String" 1059 ys_chk ∈ pxW := (px_w 273 (by decide +kernel) (by decide +kernel))
theorem wm_9 : Cond.methodLink "java/lang/StringLatin1" 9 ys_sck ∈ pxW := (px_w 268 (by decide +kernel) (by decide +kernel))
def px_T0 : Nat → Prop := fun _ => False
/-- a text at its place, whatever else the heap holds -/
def px_T (i aK aV : Nat) (U : State) (H : Heap) : Prop := va_O "java/lang/String" aK px_T0 U H ∧ va_OF "java/lang/String" "coder" "B" (.int 0) aK px_T0 U H ∧ va_OF "java/lang/String" "value" "[B" (.ref aV) aK px_T0 U H ∧ va_T .byte aV (px_len.getD i 0) (fun j => .int ((px_byt.getD i []).getD j 0)) px_T0 U H ∧
  va_Z "java/lang/String" "COMPACT_STRINGS" "Z" (.int 1) px_T0 U H ∧ va_Zq "jdk/internal/util/Preconditions" "SIOOBE_FORMATTER" "Ljava/util/function/BiFunction;" px_T0 U H
theorem px_T.move {i aK aV : Nat} {s U : State} (h : px_T i aK aV s s.heap) (hW : s.WarmedH U.vm) (hU : U.heap = s.heap) : px_T i aK aV U U.heap := by
  obtain ⟨h1, h2, h3, h4, h5, h6⟩ := h
  rw [hU]
  exact ⟨h1.moved hW.alike, h2.moved hW.alike, h3.moved hW.alike, h4.moved hW.alike, h5.moved hW.alike, h6.moved hW.alike⟩
theorem px_T.calling {i aK aV : Nat} {U : State} {g : JFrame} {mk : MethodId} {a : Array Value} (h : px_T i aK aV U U.heap) : px_T i aK aV (U.calling g mk a) (U.calling g mk a).heap := by
  obtain ⟨h1, h2, h3, h4, h5, h6⟩ := h
  exact ⟨h1.moved (u := U) (U := U.calling g mk a) (Vm.Alike.refl U.vm), h2.moved (u := U) (U := U.calling g mk a) (Vm.Alike.refl U.vm), h3.moved (u := U) (U := U.calling g mk a) (Vm.Alike.refl U.vm), h4.moved (u := U) (U := U.calling g mk a) (Vm.Alike.refl U.vm), h5.moved (u := U) (U := U.calling g mk a) (Vm.Alike.refl U.vm), h6.moved (u := U) (U := U.calling g mk a) (Vm.Alike.refl U.vm)⟩
def px_TP (i aK aV : Nat) (as : List Value) : Array Value → State → Prop := fun v U => v = as.toArray ∧ px_T i aK aV U U.heap
theorem px_TP_b (i aK aV : Nat) (as : List Value) : FrameBlind (px_TP i aK aV as) := fun a U g mk h => ⟨h.1, h.2.calling⟩
def px_TQ (v : Option Value) : Array Value → State → Outcome → State → Prop := fun _ st o t => o = .returned v ∧ t.heap = st.heap
abbrev px_Ro (d : Nat) : Room := { frames := d, cells := 0, slots := 0, locals := 40 * d }
section PXS
variable {p : Program} {l : Launch} {e : Env} {R : Room} {s : State} {m : MethodId} {args : Array Value} {below : List Frame} {meth : Method} {c : Code} {H : Heap} {locs : List Loc} {cells slots : Nat} {Q : State → Prop} {pc : Nat} {ls : Array Slot} {rest st0 : List Value} {a : Array Value}
theorem px_callT {v : Option Value} {free : Addr → Prop} (hfr : ∀ q, ¬ free q) (hr : va_Run p l e R s m args below meth c H locs cells slots 0 0 (F0 m pc ls st0) rest (px_TQ v a) free) (kk : W p l e R s m args below meth c H locs cells slots Q (F0 m (pc + 3) ls (v.toList ++ rest))) : W p l e R s m args below meth c H locs cells slots Q (F0 m pc ls st0) := by
  intro T hT X
  obtain ⟨v', st₀, t, T', L, h0, X', hL, e1, e2, ⟨hv, hh⟩, st⟩ := hr T hT X
  cases hv
  obtain ⟨t2, a1, b1⟩ := kk T' (by rw [e1, hh, h0]) (Stand.forget X' (fun q h => (hfr _ (hL q h)).elim))
  exact ⟨t2, st t2 a1, b1⟩
end PXS
theorem px_TW {l : Launch} {y : MethodName} {cc : ByteArray} {nL : Nat} {ret : Option FieldType} {d : Nat} {i aK aV : Nat} {as : List Value} {v : Option Value} (hy : plainFor y = true) (hn : (lg_sl as).length ≤ nL)
    (body : ∀ (p : Program) (e : Env) (s : State) (m : MethodId) (below : List Frame) (meth : Method) (c : Code) (ls : Array Slot), p.tables.exec = Jvm.exec → c.code = cc → meth.sig.returnType = ret → c.maxLocals = nL → (∀ w ∈ pxW, w.before as.toArray s = true) → s.vm.findClass y.cls = some m.cls → meth.locks = false → px_T i aK aV s s.heap → lv_has ls nL (lv_args 0 as) →
      W p l e (px_Ro d) s m as.toArray below meth c s.heap [] 0 0 (MQ below (px_TQ v) as.toArray s 0 0 (fun _ => False)) (F0 m 0 ls [])) : Met l y (pxws y cc nL ret) (px_Ro d) (px_TP i aK aV as) (px_TQ v) 0 0 (fun _ => False) := by
  refine va_MetF (cc := cc) (maxL := nL) (ret := ret) hy rfl ?_
  intro p e s m args below meth c s₁ B hml hv
  obtain ⟨rfl, hT⟩ := hv
  have hts := atoms_spec (ws := pxws y cc nL ret) B.pre
  rw [lg_entry_eq]
  exact body p e s m below meth c _ B.exec B.bytes B.returns hml (fun w hw => hts w (List.mem_cons_of_mem _ hw)) (findClass_of_methodNamed B.named) B.notSynchronized hT (lv_entry _ hn)
set_option maxRecDepth 100000 in
theorem ks_cod (l : Launch) (i aK aV : Nat) : Met l ys_cod (pxws ys_cod cs_cod 1 (some .byte)) (px_Ro 1) (px_TP i aK aV [.ref aK]) (px_TQ (some (.int 0))) 0 0 (fun _ => False) := by
  refine px_TW (by decide +kernel) (Nat.le_of_ble_eq_true rfl) ?_
  intro p e s m below meth c ls hx hb hr hml hts hown hlk hT hl
  obtain ⟨hO, hc, hv, hV, hZ, hZq⟩ := id hT
  have hS : va_S px_T0 s.heap s.heap [] := va_S.rf
  have hl : lv_has ls 1 ([(0, .ref aK)]) := hl
  refine va_gets hx hb hZ hS hown (hts _ wf_38) (fun _ h => h) ds_cod_0 ?_
  refine lv_if_eq (tgt := 13) hx hb ds_cod_3 (by decide) (fun h => absurd h (by decide)) (fun _ => ?_)
  refine lv_aload_n hx hb ds_cod_6 rfl (lv_at hl 0 rfl) ?_
  refine vk_getf hx hb hc hS hown (hts _ wf_15) (fun _ h => h) ds_cod_7 ?_
  refine lv_goto (tgt := 14) hx hb ds_cod_10 (by decide) ?_
  exact W.zret (v := 0) hx hb hr (by decide +kernel) (fun t ht _ => ⟨rfl, ht⟩) hS.2.2 ds_cod_14 hlk
set_option maxRecDepth 100000 in
theorem ks_lat (l : Launch) (i aK aV : Nat) : Met l ys_lat (pxws ys_lat cs_lat 1 (some .boolean)) (px_Ro 1) (px_TP i aK aV [.ref aK]) (px_TQ (some (.int 1))) 0 0 (fun _ => False) := by
  refine px_TW (by decide +kernel) (Nat.le_of_ble_eq_true rfl) ?_
  intro p e s m below meth c ls hx hb hr hml hts hown hlk hT hl
  obtain ⟨hO, hc, hv, hV, hZ, hZq⟩ := id hT
  have hS : va_S px_T0 s.heap s.heap [] := va_S.rf
  have hl : lv_has ls 1 ([(0, .ref aK)]) := hl
  refine va_gets hx hb hZ hS hown (hts _ wf_38) (fun _ h => h) ds_lat_0 ?_
  refine lv_if_eq (tgt := 17) hx hb ds_lat_3 (by decide) (fun h => absurd h (by decide)) (fun _ => ?_)
  refine lv_aload_n hx hb ds_lat_6 rfl (lv_at hl 0 rfl) ?_
  refine vk_getf hx hb hc hS hown (hts _ wf_15) (fun _ h => h) ds_lat_7 ?_
  refine lv_if_ne (tgt := 17) hx hb ds_lat_10 (by decide) (fun h => absurd rfl h) (fun _ => ?_)
  refine lv_iconst (v := 1) hx hb ds_lat_13 (by decide) ?_
  refine lv_goto (tgt := 18) hx hb ds_lat_14 (by decide) ?_
  exact W.zret (v := 1) hx hb hr (by decide +kernel) (fun t ht _ => ⟨rfl, ht⟩) hS.2.2 ds_lat_18 hlk
set_option maxRecDepth 100000 in
theorem ks_chk (l : Launch) (i aK aV : Nat) {x n : Int32} {f : Value} (h0 : ¬ x < 0) (h1 : x < n) (hf : f = .null ∨ ∃ q, f = .ref q) : Met l ys_chk (pxws ys_chk cs_chk 3 (some .int)) (px_Ro 1) (px_TP i aK aV [.int x, .int n, f]) (px_TQ (some (.int x))) 0 0 (fun _ => False) := by
  refine px_TW (by decide +kernel) (by rcases hf with rfl | ⟨q, rfl⟩ <;> exact Nat.le_of_ble_eq_true rfl) ?_
  intro p e s m below meth c ls hx hb hr hml hts hown hlk hT hl
  obtain ⟨hO, hc, hv, hV, hZ, hZq⟩ := id hT
  have hS : va_S px_T0 s.heap s.heap [] := va_S.rf
  have hl : lv_has ls 3 ([(0, .int x), (1, .int n)]) := lv_sub hl [0, 1] (by rcases hf with rfl | ⟨q, rfl⟩ <;> rfl)
  refine lv_iload_n hx hb ds_chk_0 rfl (lv_at hl 0 rfl) ?_
  refine lv_if_lt (tgt := 9) hx hb ds_chk_1 (by decide) (fun h => absurd h h0) (fun _ => ?_)
  refine lv_iload_n hx hb ds_chk_4 rfl (lv_at hl 0 rfl) ?_
  refine lv_iload_n hx hb ds_chk_5 rfl (lv_at hl 1 rfl) ?_
  refine lv_icmp_lt (tgt := 16) hx hb ds_chk_6 (by decide) (fun _ => ?_) (fun h => absurd h1 h)
  refine lv_iload_n hx hb ds_chk_16 rfl (lv_at hl 0 rfl) ?_
  exact W.iret (v := x) hx hb hr (fun t ht _ => ⟨rfl, ht⟩) hS.2.2 ds_chk_17 hlk
theorem px_Trecv {aK : Nat} {s : State} (h : va_O "java/lang/String" aK px_T0 s s.heap) : ∃ cell : Cell, s.heap[aK]? = some cell ∧ cell.vm.isStatics = false ∧ s.vm.findClass "java/lang/String" = some cell.cls := by
  obtain ⟨cell, h1, h2, h3, -⟩ := h
  exact ⟨cell, h1, h2, h3⟩
set_option maxRecDepth 100000 in
theorem ks_sck (l : Launch) (i aK aV : Nat) {x n : Int32} (h0 : ¬ x < 0) (h1 : x < n) : Met l ys_sck (pxws ys_sck cs_sck 2 none) (px_Ro 2) (px_TP i aK aV [.int x, .int n]) (px_TQ none) 0 0 (fun _ => False) := by
  refine px_TW (by decide +kernel) (Nat.le_of_ble_eq_true rfl) ?_
  intro p e s m below meth c ls hx hb hr hml hts hown hlk hT hl
  obtain ⟨hO, hc, hv, hV, hZ, hZq⟩ := id hT
  have hS : va_S px_T0 s.heap s.heap [] := va_S.rf
  have hl : lv_has ls 2 ([(0, .int x), (1, .int n)]) := hl
  have hgo : ∀ f : Value, (f = .null ∨ ∃ q, f = .ref q) → W p l e (px_Ro 2) s m _ below meth c s.heap [] 0 0 (MQ below (px_TQ none) _ s 0 0 (fun _ => False)) (F0 m (0 + 1 + 1 + 3) ls [f, .int n, .int x]) := fun f hf => by
    refine px_callT (fun _ h => h) (va_runS (As := [.int x, .int n, f]) (n := 3) (rest := []) (Ts := pxW) ⟨hx, hb, hml, hown, hts⟩ (ks_chk l i aK aV h0 h1 hf) ⟨callB_of 3 hts (px_good ws_chk) rfl rfl rfl (hts _ wn_Pr) (hts _ wm_1059) ⟨by decide +kernel, by decide +kernel, by decide +kernel⟩ ⟨by decide, by decide⟩, hts _ wt_chk⟩ ⟨px_TP_b _ _ _ _, fun U hU hW => ⟨rfl, hT.move hW hU⟩⟩ rfl rfl hl.1 rfl (lv_room (Nat.le_of_ble_eq_true rfl)) ds_sck_5 ⟨Nat.le_refl 0, Nat.le_refl 0⟩) ?_
    refine lv_pop hx hb ds_sck_8 rfl ?_
    exact W.vret hx hb hr (fun t ht _ => ⟨rfl, ht⟩) hS.2.2 ds_sck_9 hlk
  refine lv_iload_n hx hb ds_sck_0 rfl (lv_at hl 0 rfl) ?_
  refine lv_iload_n hx hb ds_sck_1 rfl (lv_at hl 1 rfl) ?_
  rcases hZq with hZq | ⟨t, hZq⟩
  · exact va_gets hx hb hZq hS hown (hts _ wf_1053) (fun _ h => h) ds_sck_2 (hgo _ (Or.inl rfl))
  · exact va_gets hx hb hZq hS hown (hts _ wf_1053) (fun _ h => h) ds_sck_2 (hgo _ (Or.inr ⟨t, rfl⟩))
theorem px_chr_k : ∀ i, i < 2 → (px_byt.getD i []).length = px_len.getD i 0 ∧ ∀ b ∈ px_byt.getD i [], narrow .char (.int ((b &&& 255).toUInt32 % 65536).toInt32) = .int ((b &&& 255).toUInt32 % 65536).toInt32 ∧ ((b &&& 255).toUInt32 % 65536).toInt32 = b &&& 255 := by decide +kernel
def px_chr (i j : Nat) : Int32 := (px_byt.getD i []).getD j 0 &&& 255
theorem px_chr_n {i j : Nat} (hi : i < 2) (hj : j < px_len.getD i 0) : ((((px_byt.getD i []).getD j 0) &&& 255).toUInt32 % 65536).toInt32 = px_chr i j ∧ narrow .char (.int (px_chr i j)) = .int (px_chr i j) := by
  obtain ⟨h1, h2⟩ := px_chr_k i hi
  have hm : (px_byt.getD i []).getD j 0 ∈ px_byt.getD i [] := by
    have hl : j < (px_byt.getD i []).length := by rw [h1]; exact hj
    generalize px_byt.getD i [] = b at hl ⊢
    rw [List.getD_eq_getElem?_getD, List.getElem?_eq_getElem hl]
    exact List.getElem_mem hl
  obtain ⟨h3, h4⟩ := h2 _ hm
  exact ⟨h4, by unfold px_chr; rw [h4] at h3; exact h3⟩
theorem px_len_s : ∀ i, i < 2 → px_len.getD i 0 < 2 ^ 31 := by decide
theorem px_lt_of {x : Int32} {n : Nat} (h0 : ¬ x < 0) (h1 : x.toNatClampNeg < n) (hn : n < 2 ^ 31) : x < Int32.ofNat n := by
  obtain ⟨j, hj, rfl⟩ := nI_of h0
  rw [nI_clamp hj] at h1
  exact nI_lt h1 hn
section PXL
variable {p : Program} {l : Launch} {e : Env} {R : Room} {s : State} {m : MethodId} {args : Array Value} {below : List Frame} {meth : Method} {c : Code} {H : Heap} {locs : List Loc} {cells slots : Nat} {Q : State → Prop} {cc : ByteArray} {pc : Nat} {ls : Array Slot} {rest : List Value}
theorem va_tln {A : Nat → Prop} {t N : Nat} {f : Nat → Value} (hexec : p.tables.exec = Jvm.exec) (hb : c.code = cc) (hT : va_T .byte t N f A s s.heap) (hS : va_S A s.heap H locs) (hdg : decode cc pc = .ok (.arraylength, 1))
    (kk : W p l e R s m args below meth c H locs cells slots Q (F0 m (pc + 1) ls (.int (Int32.ofNat N) :: rest))) : W p l e R s m args below meth c H locs cells slots Q (F0 m pc ls (.ref t :: rest)) := by
  obtain ⟨cell, h1, h2, h3, h4, h5, h6, h7⟩ := hT
  exact W.alen (n := Int32.ofNat N) hexec hb (by rw [hS.2.1 t (Array.getElem?_eq_some_iff.mp h1).1 h7]; exact h1) h2 h5 rfl rfl hdg kk
end PXL
set_option maxRecDepth 100000 in
theorem ks_lch (l : Launch) (i aK aV : Nat) (hi : i < 2) {x : Int32} (hin : vp_in x (px_len.getD i 0)) : Met l ys_lch (pxws ys_lch cs_lch 2 (some .char)) (px_Ro 3) (px_TP i aK aV [.ref aV, .int x]) (px_TQ (some (.int (px_chr i x.toNatClampNeg)))) 0 0 (fun _ => False) := by
  refine px_TW (by decide +kernel) (Nat.le_of_ble_eq_true rfl) ?_
  intro p e s m below meth c ls hx hb hr hml hts hown hlk hT hl
  obtain ⟨hO, hc, hv, hV, hZ, hZq⟩ := id hT
  have hS : va_S px_T0 s.heap s.heap [] := va_S.rf
  have hl : lv_has ls 2 ([(0, .ref aV), (1, .int x)]) := hl
  have hlt : x.toNatClampNeg < px_len.getD i 0 := Nat.not_le.mp fun q => hin (Or.inr q)
  have h0 : ¬ x < 0 := fun q => hin (Or.inl q)
  have hlen : px_len.getD i 0 < 2 ^ 31 := px_len_s i hi
  have h1 : x < Int32.ofNat (px_len.getD i 0) := px_lt_of h0 hlt hlen
  obtain ⟨c1, c2⟩ := px_chr_n hi hlt
  refine lv_iload_n hx hb ds_lch_0 rfl (lv_at hl 1 rfl) ?_
  refine lv_aload_n hx hb ds_lch_1 rfl (lv_at hl 0 rfl) ?_
  refine va_tln hx hb hV hS ds_lch_2 ?_
  refine px_callT (fun _ h => h) (va_runS (As := [.int x, .int (Int32.ofNat (px_len.getD i 0))]) (n := 2) (rest := []) (Ts := pxW) ⟨hx, hb, hml, hown, hts⟩ (ks_sck l i aK aV h0 h1) ⟨callB_of 2 hts (px_good ws_sck) rfl rfl rfl (hts _ wn_St) (hts _ wm_9) ⟨by decide +kernel, by decide +kernel, by decide +kernel⟩ ⟨by decide, by decide⟩, hts _ wt_sck⟩ ⟨px_TP_b _ _ _ _, fun U hU hW => ⟨rfl, hT.move hW hU⟩⟩ rfl rfl hl.1 rfl (lv_room (Nat.le_of_ble_eq_true rfl)) ds_lch_3 ⟨Nat.le_refl 0, Nat.le_refl 0⟩) ?_
  refine lv_aload_n hx hb ds_lch_6 rfl (lv_at hl 0 rfl) ?_
  refine lv_iload_n hx hb ds_lch_7 rfl (lv_at hl 1 rfl) ?_
  refine va_tb hx hb hV hS hin rfl ds_lch_8 ?_
  refine lv_sipush (v := 255) hx hb ds_lch_9 (by decide) ?_
  refine lv_iand hx hb ds_lch_12 ?_
  refine lv_i2c hx hb ds_lch_13 c1 ?_
  exact W.zret (v := px_chr i x.toNatClampNeg) hx hb hr c2 (fun t ht _ => ⟨rfl, ht⟩) hS.2.2 ds_lch_14 hlk
theorem px_shr0 : ∀ i, i < 2 → Int32.ofNat (px_len.getD i 0) >>> ((0 : Int32) &&& 31) = Int32.ofNat (px_len.getD i 0) := by decide +kernel
set_option maxRecDepth 100000 in
theorem ks_len (l : Launch) (i aK aV : Nat) (hi : i < 2) : Met l ys_len (pxws ys_len cs_len 1 (some .int)) (px_Ro 2) (px_TP i aK aV [.ref aK]) (px_TQ (some (.int (Int32.ofNat (px_len.getD i 0))))) 0 0 (fun _ => False) := by
  refine px_TW (by decide +kernel) (Nat.le_of_ble_eq_true rfl) ?_
  intro p e s m below meth c ls hx hb hr hml hts hown hlk hT hl
  obtain ⟨hO, hc, hv, hV, hZ, hZq⟩ := id hT
  have hS : va_S px_T0 s.heap s.heap [] := va_S.rf
  have hl : lv_has ls 1 ([(0, .ref aK)]) := hl
  refine lv_aload_n hx hb ds_len_0 rfl (lv_at hl 0 rfl) ?_
  refine vk_getf hx hb hv hS hown (hts _ wf_9) (fun _ h => h) ds_len_1 ?_
  refine va_tln hx hb hV hS ds_len_4 ?_
  refine lv_aload_n hx hb ds_len_5 rfl (lv_at hl 0 rfl) ?_
  refine px_callT (fun _ h => h) (va_runV (As := []) (n := 0) (rest := [.int (Int32.ofNat (px_len.getD i 0))]) (C := "java/lang/String") (Ts := pxW) ⟨hx, hb, hml, hown, hts⟩ (ks_cod l i aK aV) ⟨callB_of 0 hts (px_good ws_cod) rfl rfl rfl (hts _ wn_St) (hts _ wm_335) ⟨by decide +kernel, by decide +kernel, by decide +kernel⟩ ⟨by decide, by decide⟩, hts _ wv_cod.1, hts _ wv_cod.2⟩ ⟨px_TP_b _ _ _ _, px_Trecv hO, fun U hU hW => ⟨rfl, hT.move hW hU⟩⟩ rfl rfl hl.1 rfl (lv_room (Nat.le_of_ble_eq_true rfl)) ds_len_6 ⟨Nat.le_refl 0, Nat.le_refl 0⟩) ?_
  refine lv_ishr hx hb ds_len_9 ?_
  have e1 : Int32.ofNat (px_len.getD i 0) >>> ((0 : Int32) &&& 31) = Int32.ofNat (px_len.getD i 0) := px_shr0 i hi
  rw [e1]
  exact W.iret (v := Int32.ofNat (px_len.getD i 0)) hx hb hr (fun t ht _ => ⟨rfl, ht⟩) hS.2.2 ds_len_10 hlk
set_option maxRecDepth 100000 in
theorem ks_cha (l : Launch) (i aK aV : Nat) (hi : i < 2) {x : Int32} (hin : vp_in x (px_len.getD i 0)) : Met l ys_cha (pxws ys_cha cs_cha 2 (some .char)) (px_Ro 4) (px_TP i aK aV [.ref aK, .int x]) (px_TQ (some (.int (px_chr i x.toNatClampNeg)))) 0 0 (fun _ => False) := by
  refine px_TW (by decide +kernel) (Nat.le_of_ble_eq_true rfl) ?_
  intro p e s m below meth c ls hx hb hr hml hts hown hlk hT hl
  obtain ⟨hO, hc, hv, hV, hZ, hZq⟩ := id hT
  have hS : va_S px_T0 s.heap s.heap [] := va_S.rf
  have hl : lv_has ls 2 ([(0, .ref aK), (1, .int x)]) := hl
  refine lv_aload_n hx hb ds_cha_0 rfl (lv_at hl 0 rfl) ?_
  refine px_callT (fun _ h => h) (va_runV (As := []) (n := 0) (rest := []) (C := "java/lang/String") (Ts := pxW) ⟨hx, hb, hml, hown, hts⟩ (ks_lat l i aK aV) ⟨callB_of 0 hts (px_good ws_lat) rfl rfl rfl (hts _ wn_St) (hts _ wm_492) ⟨by decide +kernel, by decide +kernel, by decide +kernel⟩ ⟨by decide, by decide⟩, hts _ wv_lat.1, hts _ wv_lat.2⟩ ⟨px_TP_b _ _ _ _, px_Trecv hO, fun U hU hW => ⟨rfl, hT.move hW hU⟩⟩ rfl rfl hl.1 rfl (lv_room (Nat.le_of_ble_eq_true rfl)) ds_cha_1 ⟨Nat.le_refl 0, Nat.le_refl 0⟩) ?_
  refine lv_if_eq (tgt := 16) hx hb ds_cha_4 (by decide) (fun h => absurd h (by decide)) (fun _ => ?_)
  refine lv_aload_n hx hb ds_cha_7 rfl (lv_at hl 0 rfl) ?_
  refine vk_getf hx hb hv hS hown (hts _ wf_9) (fun _ h => h) ds_cha_8 ?_
  refine lv_iload_n hx hb ds_cha_11 rfl (lv_at hl 1 rfl) ?_
  refine px_callT (fun _ h => h) (va_runS (As := [.ref aV, .int x]) (n := 2) (rest := []) (Ts := pxW) ⟨hx, hb, hml, hown, hts⟩ (ks_lch l i aK aV hi hin) ⟨callB_of 2 hts (px_good ws_lch) rfl rfl rfl (hts _ wn_S1) (hts _ wm_495) ⟨by decide +kernel, by decide +kernel, by decide +kernel⟩ ⟨by decide, by decide⟩, hts _ wt_lch⟩ ⟨px_TP_b _ _ _ _, fun U hU hW => ⟨rfl, hT.move hW hU⟩⟩ rfl rfl hl.1 rfl (lv_room (Nat.le_of_ble_eq_true rfl)) ds_cha_12 ⟨Nat.le_refl 0, Nat.le_refl 0⟩) ?_
  have hlt : x.toNatClampNeg < px_len.getD i 0 := Nat.not_le.mp fun q => hin (Or.inr q)
  exact W.zret (v := px_chr i x.toNatClampNeg) hx hb hr (px_chr_n hi hlt).2 (fun t ht _ => ⟨rfl, ht⟩) hS.2.2 ds_cha_15 hlk
end
section
/-! the texts in a walk: their lengths and letters -/
abbrev y_St_length : MethodName := ys_len
abbrev y_St_charAt : MethodName := ys_cha
def px_str (own : String) (idx i : Nat) : Prop := (own = "PowerRailsModel" ∧ idx = 138 ∧ i = 0) ∨ (own = "PowerRails$Reader" ∧ idx = 198 ∧ i = 1)
theorem px_str_i {own : String} {idx i : Nat} (h : px_str own idx i) : i < 2 := by
  rcases h with ⟨_, _, rfl⟩ | ⟨_, _, rfl⟩ <;> decide
theorem px_E.text {A : Nat → Prop} {s : State} {own : String} {idx i : Nat} (h : px_E A s s.heap) (hs : px_str own idx i) : ∃ (aK aV : Nat) (tx : String), vk_R own idx tx aK s ∧ ∀ (U : State) (H : Heap) (locs : List Loc), va_S A s.heap H locs → s.WarmedH U.vm → U.heap = H → px_T i aK aV U U.heap := by
  obtain ⟨adK, adV, h1, h2, h3, h4, h5, h6⟩ := h
  refine ⟨adK i, adV i, ?_⟩
  have hi := px_str_i hs
  have hT : ∀ (U : State) (H : Heap) (locs : List Loc), va_S A s.heap H locs → s.WarmedH U.vm → U.heap = H → px_T i (adK i) (adV i) U U.heap := fun U H locs hS hW hU => by
    subst hU
    have n : ∀ q, px_T0 q → A q := fun _ h => h.elim
    obtain ⟨g1, g2, g3, g4⟩ := h1.1 i hi
    exact ⟨((g1.kept hS.2.1).moved hW.alike).narrow n, ((g2.kept hS.2.1).moved hW.alike).narrow n, ((g3.kept hS.2.1).moved hW.alike).narrow n, ((g4.kept hS.2.1).moved hW.alike).narrow n, ((h4.kept hS.2.1).moved hW.alike).narrow n, ((h5.kept hS.2.1).moved hW.alike).narrow n⟩
  rcases hs with ⟨rfl, rfl, rfl⟩ | ⟨rfl, rfl, rfl⟩
  · exact ⟨_, h2, hT⟩
  · exact ⟨_, h3, hT⟩
section PXT
variable {l : Launch} {d : Nat} {y : MethodName} {cc : ByteArray} {nL : Nat} {ret : Option FieldType} {pc : Nat} {L : List (Nat × pxV)} {st : List pxV} {ids : List pxI} {G : pxG} {σ : pxS} {Rt : Option pxV → List pxI → pxG → pxS → Prop} {i idx iv : Nat}
theorem pw_slen {v : Int32} (hd1 : decode cc pc = .ok (.ldc idx, 2)) (hd2 : decode cc (pc + 2) = .ok (.invokevirtual iv, 3)) (hs : px_str y.cls idx i) (hw : Cond.methodLink y.cls iv y_St_length ∈ pxW) (hv : Int32.ofNat (px_len.getD i 0) = v) (hd : 6 ≤ d) (h8 : st.length ≤ 6)
    (h : pw l (px_R d) y cc nL ret (pc + 2 + 3) L (.inl v :: st) ids G σ 0 0 Rt) : pw l (px_R d) y cc nL ret pc L st ids G σ 0 0 Rt := by
  intro p e s m args below meth c H locs ls D tA ad ad0 ids0 A X
  obtain ⟨hx, hb, hr, hml, hnm, hts, hown, hlk, hE, hK⟩ := X.1
  obtain ⟨hP, hD, hS, hcl, hA⟩ := X.2.1
  obtain ⟨aK, aV, tx, hR, hT⟩ := hE.text hs
  have hi := px_str_i hs
  subst hv
  refine va_ldcS hx hb hown hR hd1 ?_
  have hO : ∃ cell : Cell, H[aK]? = some cell ∧ cell.vm.isStatics = false ∧ s.vm.findClass "java/lang/String" = some cell.cls := by
    obtain ⟨adK, adV, h1, -⟩ := hE
    obtain ⟨cell, g1, g2, g3, -⟩ := (hT (({ s with heap := H } : State)) H locs hS (State.WarmedH.refl s) rfl).1
    exact ⟨cell, g1, g2, g3⟩
  refine px_callT (fun _ h => h) (va_runV (As := []) (n := 0) (rest := st.map (px_mv ad)) (C := "java/lang/String") (Ts := pxW) ⟨hx, hb, hml, hown, hts⟩ (ks_len l i aK aV hi) ⟨callB_of 0 hts (px_good ws_len) rfl rfl rfl (hts _ wn_St) (hts _ hw) ⟨by decide +kernel, by decide +kernel, by decide +kernel⟩ ⟨by show 2 + 1 ≤ d; omega, by show 8 + (1 + 11) + 40 * 2 ≤ 40 * d; omega⟩, hts _ wv_len.1, hts _ wv_len.2⟩ ⟨px_TP_b _ _ _ _, hO, fun U hU hW => ⟨rfl, hT U H locs hS hW hU⟩⟩ rfl rfl X.2.2.1.1 rfl (lv_room (by rw [px_cat_sum]; omega)) hd2 ⟨Nat.le_refl 0, Nat.le_refl 0⟩) ?_
  exact h p e s m args below meth c H locs ls D tA ad ad0 ids0 A (X.stk (px_c px_vi X.2.2.2.2.1))
theorem px_sch {x : Int32} {p : Program} {e : Env} {s : State} {m : MethodId} {args : Array Value} {below : List Frame} {meth : Method} {c : Code} {H : Heap} {locs : List Loc} {ls : Array Slot} {D : va_G} {tA : Nat → ClassId} {ad ad0 : pxI → Nat} {ids0 : List pxI} {A : Nat → Prop} {pc2 aK aV : Nat} {Q : State → Prop}
    (X : px_X p l e (px_R d) s m args below meth c H locs ls D tA ad ad0 ids0 A y cc nL ret L st ids G σ) (hT : ∀ (U : State) (H : Heap) (locs : List Loc), va_S A s.heap H locs → s.WarmedH U.vm → U.heap = H → px_T i aK aV U U.heap) (hi : i < 2) (hd2 : decode cc pc2 = .ok (.invokevirtual iv, 3)) (hw : Cond.methodLink y.cls iv y_St_charAt ∈ pxW) (hin : vp_in x (px_len.getD i 0)) (hd : 6 ≤ d) (h8 : st.length ≤ 6)
    (h : W p l e (px_R d) s m args below meth c H locs 0 0 Q (F0 m (pc2 + 3) ls (.int (px_chr i x.toNatClampNeg) :: st.map (px_mv ad)))) : W p l e (px_R d) s m args below meth c H locs 0 0 Q (F0 m pc2 ls (.int x :: .ref aK :: st.map (px_mv ad))) := by
  obtain ⟨hx, hb, hr, hml, hnm, hts, hown, hlk, hE, hK⟩ := X.1
  obtain ⟨hP, hD, hS, hcl, hA⟩ := X.2.1
  have hO : ∃ cell : Cell, H[aK]? = some cell ∧ cell.vm.isStatics = false ∧ s.vm.findClass "java/lang/String" = some cell.cls := by
    obtain ⟨cell, g1, g2, g3, -⟩ := (hT (({ s with heap := H } : State)) H locs hS (State.WarmedH.refl s) rfl).1
    exact ⟨cell, g1, g2, g3⟩
  refine px_callT (fun _ h => h) (va_runV (As := [.int x]) (n := 1) (rest := st.map (px_mv ad)) (C := "java/lang/String") (Ts := pxW) ⟨hx, hb, hml, hown, hts⟩ (ks_cha l i aK aV hi hin) ⟨callB_of 1 hts (px_good ws_cha) rfl rfl rfl (hts _ wn_St) (hts _ hw) ⟨by decide +kernel, by decide +kernel, by decide +kernel⟩ ⟨by show 4 + 1 ≤ d; omega, by show 8 + (2 + 11) + 40 * 4 ≤ 40 * d; omega⟩, hts _ wv_cha.1, hts _ wv_cha.2⟩ ⟨px_TP_b _ _ _ _, hO, fun U hU hW => ⟨rfl, hT U H locs hS hW hU⟩⟩ rfl rfl X.2.2.1.1 rfl (lv_room (by rw [px_cat_sum]; omega)) hd2 ⟨Nat.le_refl 0, Nat.le_refl 0⟩) ?_
  exact h
theorem pw_sch1 {a : Fin 4} {ai : Nat} {x : Int32} (qa : Nat) (hd1 : decode cc pc = .ok (.ldc idx, 2)) (hd2 : decode cc (pc + 2) = .ok (.iload_n a, 1)) (hd3 : decode cc (pc + 2 + 1) = .ok (.invokevirtual iv, 3)) (ha : (a : Nat) = ai) (hqa : L[qa]? = some (ai, .inl x)) (hs : px_str y.cls idx i) (hw : Cond.methodLink y.cls iv y_St_charAt ∈ pxW) (hin : vp_in x (px_len.getD i 0)) (hd : 6 ≤ d) (h8 : st.length ≤ 6)
    (h : pw l (px_R d) y cc nL ret (pc + 2 + 1 + 3) L (.inl (px_chr i x.toNatClampNeg) :: st) ids G σ 0 0 Rt) : pw l (px_R d) y cc nL ret pc L st ids G σ 0 0 Rt := by
  intro p e s m args below meth c H locs ls D tA ad ad0 ids0 A X
  obtain ⟨hx, hb, hr, hml, hnm, hts, hown, hlk, hE, hK⟩ := X.1
  obtain ⟨aK, aV, tx, hR, hT⟩ := hE.text hs
  refine va_ldcS hx hb hown hR hd1 ?_
  refine lv_iload_n hx hb hd2 ha (X.2.2.1.2.2 (ai, .int x) (List.mem_map.mpr ⟨_, List.mem_of_getElem? hqa, rfl⟩)) ?_
  exact px_sch X hT (px_str_i hs) hd3 hw hin hd h8 (h p e s m args below meth c H locs ls D tA ad ad0 ids0 A (X.stk (px_c px_vi X.2.2.2.2.1)))
theorem pw_sch2 {a b : Fin 4} {ai bi : Nat} {x z : Int32} (qa qb : Nat) (hd1 : decode cc pc = .ok (.ldc idx, 2)) (hd2 : decode cc (pc + 2) = .ok (.iload_n a, 1)) (hd3 : decode cc (pc + 2 + 1) = .ok (.iload_n b, 1)) (hd4 : decode cc (pc + 2 + 1 + 1) = .ok (.iadd, 1)) (hd5 : decode cc (pc + 2 + 1 + 1 + 1) = .ok (.invokevirtual iv, 3)) (ha : (a : Nat) = ai) (hqa : L[qa]? = some (ai, .inl x)) (hb : (b : Nat) = bi) (hqb : L[qb]? = some (bi, .inl z)) (hs : px_str y.cls idx i) (hw : Cond.methodLink y.cls iv y_St_charAt ∈ pxW) (hin : vp_in (x + z) (px_len.getD i 0)) (hd : 6 ≤ d) (h8 : st.length ≤ 6)
    (h : pw l (px_R d) y cc nL ret (pc + 2 + 1 + 1 + 1 + 3) L (.inl (px_chr i (x + z).toNatClampNeg) :: st) ids G σ 0 0 Rt) : pw l (px_R d) y cc nL ret pc L st ids G σ 0 0 Rt := by
  intro p e s m args below meth c H locs ls D tA ad ad0 ids0 A X
  obtain ⟨hx, hb9, hr, hml, hnm, hts, hown, hlk, hE, hK⟩ := X.1
  obtain ⟨aK, aV, tx, hR, hT⟩ := hE.text hs
  refine va_ldcS hx hb9 hown hR hd1 ?_
  refine lv_iload_n hx hb9 hd2 ha (X.2.2.1.2.2 (ai, .int x) (List.mem_map.mpr ⟨_, List.mem_of_getElem? hqa, rfl⟩)) ?_
  refine lv_iload_n hx hb9 hd3 hb (X.2.2.1.2.2 (bi, .int z) (List.mem_map.mpr ⟨_, List.mem_of_getElem? hqb, rfl⟩)) ?_
  refine lv_iadd hx hb9 hd4 ?_
  exact px_sch X hT (px_str_i hs) hd5 hw hin hd h8 (h p e s m args below meth c H locs ls D tA ad ad0 ids0 A (X.stk (px_c px_vi X.2.2.2.2.1)))
end PXT
end
