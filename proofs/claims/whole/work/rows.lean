section
-- ===== PART A: goes FIRST, ahead of the names: the tables' words, and 'selects' of the private methods out of them =====
/-- a private method of a class that the tables say can be made, by its rows of tables_1 -/
def lw_okq (q : MethodName × Nat) : Prop := (q.1.cls ≠ "java/lang/invoke/MethodHandle" ∧ q.1.cls ≠ "java/lang/invoke/VarHandle") ∧ Cond.instantiable q.1.cls q.2 ∈ tables_1 ∧ Cond.privateMethod q.1 ∈ tables_1 ∧ Cond.instanceMethod q.1 ∈ tables_1
theorem lw_p0 : lw_okq (⟨"java/util/ArrayList", "add", "(Ljava/lang/Object;[Ljava/lang/Object;I)V"⟩, 3) := ⟨⟨by decide +kernel, by decide +kernel⟩, List.mem_of_getElem? (i := 66) (by decide +kernel), List.mem_of_getElem? (i := 116) (by decide +kernel), List.mem_of_getElem? (i := 117) (by decide +kernel)⟩
theorem lw_p1 : lw_okq (⟨"java/util/ArrayList", "grow", "()[Ljava/lang/Object;"⟩, 3) := ⟨⟨by decide +kernel, by decide +kernel⟩, List.mem_of_getElem? (i := 66) (by decide +kernel), List.mem_of_getElem? (i := 120) (by decide +kernel), List.mem_of_getElem? (i := 121) (by decide +kernel)⟩
theorem lw_p2 : lw_okq (⟨"java/util/ArrayList", "grow", "(I)[Ljava/lang/Object;"⟩, 3) := ⟨⟨by decide +kernel, by decide +kernel⟩, List.mem_of_getElem? (i := 66) (by decide +kernel), List.mem_of_getElem? (i := 124) (by decide +kernel), List.mem_of_getElem? (i := 125) (by decide +kernel)⟩
theorem lw_p3 : lw_okq (⟨"TonguerootFamily$Lexicon", "tellWord", "(II)V"⟩, 7) := ⟨⟨by decide +kernel, by decide +kernel⟩, List.mem_of_getElem? (i := 192) (by decide +kernel), List.mem_of_getElem? (i := 322) (by decide +kernel), List.mem_of_getElem? (i := 323) (by decide +kernel)⟩
theorem lw_p4 : lw_okq (⟨"TonguerootFamily$Lexicon", "inherit", "(II)V"⟩, 7) := ⟨⟨by decide +kernel, by decide +kernel⟩, List.mem_of_getElem? (i := 192) (by decide +kernel), List.mem_of_getElem? (i := 326) (by decide +kernel), List.mem_of_getElem? (i := 327) (by decide +kernel)⟩
theorem lw_p5 : lw_okq (⟨"TonguerootFamily$Lexicon", "borrow", "(III)V"⟩, 7) := ⟨⟨by decide +kernel, by decide +kernel⟩, List.mem_of_getElem? (i := 192) (by decide +kernel), List.mem_of_getElem? (i := 348) (by decide +kernel), List.mem_of_getElem? (i := 349) (by decide +kernel)⟩
theorem lw_p6 : lw_okq (⟨"TonguerootFamily$Law", "holdsAt", "(JI)Z"⟩, 4) := ⟨⟨by decide +kernel, by decide +kernel⟩, List.mem_of_getElem? (i := 374) (by decide +kernel), List.mem_of_getElem? (i := 372) (by decide +kernel), List.mem_of_getElem? (i := 373) (by decide +kernel)⟩
theorem lw_p7 : lw_okq (⟨"TonguerootFamily$Law", "heirOf", "(ILTonguerootFamily$Sounds;)I"⟩, 4) := ⟨⟨by decide +kernel, by decide +kernel⟩, List.mem_of_getElem? (i := 374) (by decide +kernel), List.mem_of_getElem? (i := 380) (by decide +kernel), List.mem_of_getElem? (i := 381) (by decide +kernel)⟩
theorem lw_p8 : lw_okq (⟨"TonguerootFamily", "lawsOf", "(I)Ljava/util/ArrayList;"⟩, 10) := ⟨⟨by decide +kernel, by decide +kernel⟩, List.mem_of_getElem? (i := 35) (by decide +kernel), List.mem_of_getElem? (i := 398) (by decide +kernel), List.mem_of_getElem? (i := 399) (by decide +kernel)⟩
theorem lw_p9 : lw_okq (⟨"TonguerootFamily", "countWords", "(I)I"⟩, 10) := ⟨⟨by decide +kernel, by decide +kernel⟩, List.mem_of_getElem? (i := 35) (by decide +kernel), List.mem_of_getElem? (i := 403) (by decide +kernel), List.mem_of_getElem? (i := 404) (by decide +kernel)⟩
theorem lw_p10 : lw_okq (⟨"TonguerootFamily", "countAlike", "(I)I"⟩, 10) := ⟨⟨by decide +kernel, by decide +kernel⟩, List.mem_of_getElem? (i := 35) (by decide +kernel), List.mem_of_getElem? (i := 408) (by decide +kernel), List.mem_of_getElem? (i := 409) (by decide +kernel)⟩
theorem lw_p11 : lw_okq (⟨"TonguerootFamily", "collectSounds", "(I)I"⟩, 10) := ⟨⟨by decide +kernel, by decide +kernel⟩, List.mem_of_getElem? (i := 35) (by decide +kernel), List.mem_of_getElem? (i := 416) (by decide +kernel), List.mem_of_getElem? (i := 417) (by decide +kernel)⟩
theorem lw_p12 : lw_okq (⟨"TonguerootFamily", "nearestTo", "(I)I"⟩, 10) := ⟨⟨by decide +kernel, by decide +kernel⟩, List.mem_of_getElem? (i := 35) (by decide +kernel), List.mem_of_getElem? (i := 422) (by decide +kernel), List.mem_of_getElem? (i := 423) (by decide +kernel)⟩
theorem lw_p13 : lw_okq (⟨"TonguerootFamily", "distanceOf", "(II)D"⟩, 10) := ⟨⟨by decide +kernel, by decide +kernel⟩, List.mem_of_getElem? (i := 35) (by decide +kernel), List.mem_of_getElem? (i := 427) (by decide +kernel), List.mem_of_getElem? (i := 428) (by decide +kernel)⟩
theorem lw_p14 : lw_okq (⟨"TonguerootFamily", "leastCost", "(III)I"⟩, 10) := ⟨⟨by decide +kernel, by decide +kernel⟩, List.mem_of_getElem? (i := 35) (by decide +kernel), List.mem_of_getElem? (i := 431) (by decide +kernel), List.mem_of_getElem? (i := 432) (by decide +kernel)⟩
theorem lw_p15 : lw_okq (⟨"TonguerootFamily$Alignment", "leastFrom", "(II)I"⟩, 8) := ⟨⟨by decide +kernel, by decide +kernel⟩, List.mem_of_getElem? (i := 221) (by decide +kernel), List.mem_of_getElem? (i := 451) (by decide +kernel), List.mem_of_getElem? (i := 452) (by decide +kernel)⟩
def lw_privs_1 : List (MethodName × Nat) := [(⟨"java/util/ArrayList", "add", "(Ljava/lang/Object;[Ljava/lang/Object;I)V"⟩, 3), (⟨"java/util/ArrayList", "grow", "()[Ljava/lang/Object;"⟩, 3), (⟨"java/util/ArrayList", "grow", "(I)[Ljava/lang/Object;"⟩, 3), (⟨"TonguerootFamily$Lexicon", "tellWord", "(II)V"⟩, 7), (⟨"TonguerootFamily$Lexicon", "inherit", "(II)V"⟩, 7), (⟨"TonguerootFamily$Lexicon", "borrow", "(III)V"⟩, 7), (⟨"TonguerootFamily$Law", "holdsAt", "(JI)Z"⟩, 4), (⟨"TonguerootFamily$Law", "heirOf", "(ILTonguerootFamily$Sounds;)I"⟩, 4), (⟨"TonguerootFamily", "lawsOf", "(I)Ljava/util/ArrayList;"⟩, 10), (⟨"TonguerootFamily", "countWords", "(I)I"⟩, 10), (⟨"TonguerootFamily", "countAlike", "(I)I"⟩, 10), (⟨"TonguerootFamily", "collectSounds", "(I)I"⟩, 10), (⟨"TonguerootFamily", "nearestTo", "(I)I"⟩, 10), (⟨"TonguerootFamily", "distanceOf", "(II)D"⟩, 10), (⟨"TonguerootFamily", "leastCost", "(III)I"⟩, 10), (⟨"TonguerootFamily$Alignment", "leastFrom", "(II)I"⟩, 8)]
theorem lw_r1 : ∀ q ∈ lw_privs_1, lw_okq q := List.forall_mem_cons.mpr ⟨lw_p0, List.forall_mem_cons.mpr ⟨lw_p1, List.forall_mem_cons.mpr ⟨lw_p2, List.forall_mem_cons.mpr ⟨lw_p3, List.forall_mem_cons.mpr ⟨lw_p4, List.forall_mem_cons.mpr ⟨lw_p5, List.forall_mem_cons.mpr ⟨lw_p6, List.forall_mem_cons.mpr ⟨lw_p7, List.forall_mem_cons.mpr ⟨lw_p8, List.forall_mem_cons.mpr ⟨lw_p9, List.forall_mem_cons.mpr ⟨lw_p10, List.forall_mem_cons.mpr ⟨lw_p11, List.forall_mem_cons.mpr ⟨lw_p12, List.forall_mem_cons.mpr ⟨lw_p13, List.forall_mem_cons.mpr ⟨lw_p14, List.forall_mem_cons.mpr ⟨lw_p15, fun _ h => absurd h List.not_mem_nil⟩⟩⟩⟩⟩⟩⟩⟩⟩⟩⟩⟩⟩⟩⟩⟩
theorem lw_p16 : lw_okq (⟨"TonguerootFamily$Alignment", "pairFrom", "(II)I"⟩, 8) := ⟨⟨by decide +kernel, by decide +kernel⟩, List.mem_of_getElem? (i := 221) (by decide +kernel), List.mem_of_getElem? (i := 455) (by decide +kernel), List.mem_of_getElem? (i := 456) (by decide +kernel)⟩
theorem lw_p17 : lw_okq (⟨"TonguerootFamily", "countRecalledWell", "(I)I"⟩, 10) := ⟨⟨by decide +kernel, by decide +kernel⟩, List.mem_of_getElem? (i := 35) (by decide +kernel), List.mem_of_getElem? (i := 459) (by decide +kernel), List.mem_of_getElem? (i := 460) (by decide +kernel)⟩
theorem lw_p18 : lw_okq (⟨"TonguerootFamily", "recall", "(II)J"⟩, 10) := ⟨⟨by decide +kernel, by decide +kernel⟩, List.mem_of_getElem? (i := 35) (by decide +kernel), List.mem_of_getElem? (i := 463) (by decide +kernel), List.mem_of_getElem? (i := 464) (by decide +kernel)⟩
theorem lw_p19 : lw_okq (⟨"TonguerootFamily", "isWitness", "(III)Z"⟩, 10) := ⟨⟨by decide +kernel, by decide +kernel⟩, List.mem_of_getElem? (i := 35) (by decide +kernel), List.mem_of_getElem? (i := 467) (by decide +kernel), List.mem_of_getElem? (i := 468) (by decide +kernel)⟩
theorem lw_p20 : lw_okq (⟨"TonguerootFamily", "openVotes", "(J)V"⟩, 10) := ⟨⟨by decide +kernel, by decide +kernel⟩, List.mem_of_getElem? (i := 35) (by decide +kernel), List.mem_of_getElem? (i := 479) (by decide +kernel), List.mem_of_getElem? (i := 480) (by decide +kernel)⟩
theorem lw_p21 : lw_okq (⟨"TonguerootFamily$Alignment", "takesPair", "(II)Z"⟩, 8) := ⟨⟨by decide +kernel, by decide +kernel⟩, List.mem_of_getElem? (i := 221) (by decide +kernel), List.mem_of_getElem? (i := 497) (by decide +kernel), List.mem_of_getElem? (i := 498) (by decide +kernel)⟩
theorem lw_p22 : lw_okq (⟨"TonguerootFamily$Alignment", "takesFirstAlone", "(II)Z"⟩, 8) := ⟨⟨by decide +kernel, by decide +kernel⟩, List.mem_of_getElem? (i := 221) (by decide +kernel), List.mem_of_getElem? (i := 501) (by decide +kernel), List.mem_of_getElem? (i := 502) (by decide +kernel)⟩
theorem lw_p23 : lw_okq (⟨"TonguerootFamily", "castVotes", "(I)V"⟩, 10) := ⟨⟨by decide +kernel, by decide +kernel⟩, List.mem_of_getElem? (i := 35) (by decide +kernel), List.mem_of_getElem? (i := 505) (by decide +kernel), List.mem_of_getElem? (i := 506) (by decide +kernel)⟩
theorem lw_p24 : lw_okq (⟨"TonguerootFamily", "elected", "(I)J"⟩, 10) := ⟨⟨by decide +kernel, by decide +kernel⟩, List.mem_of_getElem? (i := 35) (by decide +kernel), List.mem_of_getElem? (i := 517) (by decide +kernel), List.mem_of_getElem? (i := 518) (by decide +kernel)⟩
theorem lw_p25 : lw_okq (⟨"TonguerootFamily", "mixWord", "(JII)J"⟩, 10) := ⟨⟨by decide +kernel, by decide +kernel⟩, List.mem_of_getElem? (i := 35) (by decide +kernel), List.mem_of_getElem? (i := 529) (by decide +kernel), List.mem_of_getElem? (i := 530) (by decide +kernel)⟩
theorem lw_p26 : lw_okq (⟨"TonguerootFamily", "differs", "(LTonguerootFamily$Lexicon;II)Z"⟩, 10) := ⟨⟨by decide +kernel, by decide +kernel⟩, List.mem_of_getElem? (i := 35) (by decide +kernel), List.mem_of_getElem? (i := 541) (by decide +kernel), List.mem_of_getElem? (i := 542) (by decide +kernel)⟩
theorem lw_p27 : lw_okq (⟨"TonguerootFamily", "mixCosts", "(J)J"⟩, 10) := ⟨⟨by decide +kernel, by decide +kernel⟩, List.mem_of_getElem? (i := 35) (by decide +kernel), List.mem_of_getElem? (i := 545) (by decide +kernel), List.mem_of_getElem? (i := 546) (by decide +kernel)⟩
theorem lw_p28 : lw_okq (⟨"java/lang/Throwable", "fillInStackTrace", "(I)Ljava/lang/Throwable;"⟩, 6) := ⟨⟨by decide +kernel, by decide +kernel⟩, List.mem_of_getElem? (i := 598) (by decide +kernel), List.mem_of_getElem? (i := 596) (by decide +kernel), List.mem_of_getElem? (i := 597) (by decide +kernel)⟩
theorem lw_p29 : lw_okq (⟨"TonguerootFamily", "forgetAll", "()V"⟩, 10) := ⟨⟨by decide +kernel, by decide +kernel⟩, List.mem_of_getElem? (i := 35) (by decide +kernel), List.mem_of_getElem? (i := 642) (by decide +kernel), List.mem_of_getElem? (i := 643) (by decide +kernel)⟩
theorem lw_p30 : lw_okq (⟨"TonguerootFamily", "forgetMeaning", "(I)V"⟩, 10) := ⟨⟨by decide +kernel, by decide +kernel⟩, List.mem_of_getElem? (i := 35) (by decide +kernel), List.mem_of_getElem? (i := 646) (by decide +kernel), List.mem_of_getElem? (i := 647) (by decide +kernel)⟩
theorem lw_p31 : lw_okq (⟨"TonguerootFamily", "isLanguage", "(I)Z"⟩, 10) := ⟨⟨by decide +kernel, by decide +kernel⟩, List.mem_of_getElem? (i := 35) (by decide +kernel), List.mem_of_getElem? (i := 699) (by decide +kernel), List.mem_of_getElem? (i := 700) (by decide +kernel)⟩
def lw_privs_2 : List (MethodName × Nat) := [(⟨"TonguerootFamily$Alignment", "pairFrom", "(II)I"⟩, 8), (⟨"TonguerootFamily", "countRecalledWell", "(I)I"⟩, 10), (⟨"TonguerootFamily", "recall", "(II)J"⟩, 10), (⟨"TonguerootFamily", "isWitness", "(III)Z"⟩, 10), (⟨"TonguerootFamily", "openVotes", "(J)V"⟩, 10), (⟨"TonguerootFamily$Alignment", "takesPair", "(II)Z"⟩, 8), (⟨"TonguerootFamily$Alignment", "takesFirstAlone", "(II)Z"⟩, 8), (⟨"TonguerootFamily", "castVotes", "(I)V"⟩, 10), (⟨"TonguerootFamily", "elected", "(I)J"⟩, 10), (⟨"TonguerootFamily", "mixWord", "(JII)J"⟩, 10), (⟨"TonguerootFamily", "differs", "(LTonguerootFamily$Lexicon;II)Z"⟩, 10), (⟨"TonguerootFamily", "mixCosts", "(J)J"⟩, 10), (⟨"java/lang/Throwable", "fillInStackTrace", "(I)Ljava/lang/Throwable;"⟩, 6), (⟨"TonguerootFamily", "forgetAll", "()V"⟩, 10), (⟨"TonguerootFamily", "forgetMeaning", "(I)V"⟩, 10), (⟨"TonguerootFamily", "isLanguage", "(I)Z"⟩, 10)]
theorem lw_r2 : ∀ q ∈ lw_privs_2, lw_okq q := List.forall_mem_cons.mpr ⟨lw_p16, List.forall_mem_cons.mpr ⟨lw_p17, List.forall_mem_cons.mpr ⟨lw_p18, List.forall_mem_cons.mpr ⟨lw_p19, List.forall_mem_cons.mpr ⟨lw_p20, List.forall_mem_cons.mpr ⟨lw_p21, List.forall_mem_cons.mpr ⟨lw_p22, List.forall_mem_cons.mpr ⟨lw_p23, List.forall_mem_cons.mpr ⟨lw_p24, List.forall_mem_cons.mpr ⟨lw_p25, List.forall_mem_cons.mpr ⟨lw_p26, List.forall_mem_cons.mpr ⟨lw_p27, List.forall_mem_cons.mpr ⟨lw_p28, List.forall_mem_cons.mpr ⟨lw_p29, List.forall_mem_cons.mpr ⟨lw_p30, List.forall_mem_cons.mpr ⟨lw_p31, fun _ h => absurd h List.not_mem_nil⟩⟩⟩⟩⟩⟩⟩⟩⟩⟩⟩⟩⟩⟩⟩⟩
theorem lw_p32 : lw_okq (⟨"java/util/ArrayList", "fastRemove", "([Ljava/lang/Object;I)V"⟩, 3) := ⟨⟨by decide +kernel, by decide +kernel⟩, List.mem_of_getElem? (i := 66) (by decide +kernel), List.mem_of_getElem? (i := 767) (by decide +kernel), List.mem_of_getElem? (i := 768) (by decide +kernel)⟩
theorem lw_p33 : lw_okq (⟨"TonguerootFamily", "layOut", "(III)I"⟩, 10) := ⟨⟨by decide +kernel, by decide +kernel⟩, List.mem_of_getElem? (i := 35) (by decide +kernel), List.mem_of_getElem? (i := 881) (by decide +kernel), List.mem_of_getElem? (i := 882) (by decide +kernel)⟩
theorem lw_p34 : lw_okq (⟨"TonguerootFamily", "collectAnswers", "(III)V"⟩, 10) := ⟨⟨by decide +kernel, by decide +kernel⟩, List.mem_of_getElem? (i := 35) (by decide +kernel), List.mem_of_getElem? (i := 905) (by decide +kernel), List.mem_of_getElem? (i := 906) (by decide +kernel)⟩
theorem lw_p35 : lw_okq (⟨"TonguerootFamily", "isLaw", "(II)Z"⟩, 10) := ⟨⟨by decide +kernel, by decide +kernel⟩, List.mem_of_getElem? (i := 35) (by decide +kernel), List.mem_of_getElem? (i := 962) (by decide +kernel), List.mem_of_getElem? (i := 963) (by decide +kernel)⟩
theorem lw_p36 : lw_okq (⟨"java/util/ArrayList", "rangeCheckForAdd", "(I)V"⟩, 3) := ⟨⟨by decide +kernel, by decide +kernel⟩, List.mem_of_getElem? (i := 66) (by decide +kernel), List.mem_of_getElem? (i := 984) (by decide +kernel), List.mem_of_getElem? (i := 985) (by decide +kernel)⟩
theorem lw_p37 : lw_okq (⟨"java/util/ArrayList", "outOfBoundsMsg", "(I)Ljava/lang/String;"⟩, 3) := ⟨⟨by decide +kernel, by decide +kernel⟩, List.mem_of_getElem? (i := 66) (by decide +kernel), List.mem_of_getElem? (i := 989) (by decide +kernel), List.mem_of_getElem? (i := 990) (by decide +kernel)⟩
theorem lw_p38 : lw_okq (⟨"TonguerootFamily", "suppose", "(ILTonguerootFamily$Language;)V"⟩, 10) := ⟨⟨by decide +kernel, by decide +kernel⟩, List.mem_of_getElem? (i := 35) (by decide +kernel), List.mem_of_getElem? (i := 1225) (by decide +kernel), List.mem_of_getElem? (i := 1226) (by decide +kernel)⟩
theorem lw_p39 : lw_okq (⟨"TonguerootFamily", "countDifferent", "(I)I"⟩, 10) := ⟨⟨by decide +kernel, by decide +kernel⟩, List.mem_of_getElem? (i := 35) (by decide +kernel), List.mem_of_getElem? (i := 1245) (by decide +kernel), List.mem_of_getElem? (i := 1246) (by decide +kernel)⟩
theorem lw_p40 : lw_okq (⟨"TonguerootFamilyModel", "no", "(I)I"⟩, 27) := ⟨⟨by decide +kernel, by decide +kernel⟩, List.mem_of_getElem? (i := 1276) (by decide +kernel), List.mem_of_getElem? (i := 1378) (by decide +kernel), List.mem_of_getElem? (i := 1379) (by decide +kernel)⟩
theorem lw_p41 : lw_okq (⟨"TonguerootFamilyModel", "isLanguage", "(I)Z"⟩, 27) := ⟨⟨by decide +kernel, by decide +kernel⟩, List.mem_of_getElem? (i := 1276) (by decide +kernel), List.mem_of_getElem? (i := 1401) (by decide +kernel), List.mem_of_getElem? (i := 1402) (by decide +kernel)⟩
theorem lw_p42 : lw_okq (⟨"TonguerootFamilyModel", "ok", "(I)I"⟩, 27) := ⟨⟨by decide +kernel, by decide +kernel⟩, List.mem_of_getElem? (i := 1276) (by decide +kernel), List.mem_of_getElem? (i := 1423) (by decide +kernel), List.mem_of_getElem? (i := 1424) (by decide +kernel)⟩
theorem lw_p43 : lw_okq (⟨"TonguerootFamilyModel", "isAsked", "(II)Z"⟩, 27) := ⟨⟨by decide +kernel, by decide +kernel⟩, List.mem_of_getElem? (i := 1276) (by decide +kernel), List.mem_of_getElem? (i := 1443) (by decide +kernel), List.mem_of_getElem? (i := 1444) (by decide +kernel)⟩
theorem lw_p44 : lw_okq (⟨"TonguerootFamilyModel", "solve", "()V"⟩, 27) := ⟨⟨by decide +kernel, by decide +kernel⟩, List.mem_of_getElem? (i := 1276) (by decide +kernel), List.mem_of_getElem? (i := 1447) (by decide +kernel), List.mem_of_getElem? (i := 1448) (by decide +kernel)⟩
theorem lw_p45 : lw_okq (⟨"TonguerootFamilyModel", "grow", "(II)V"⟩, 27) := ⟨⟨by decide +kernel, by decide +kernel⟩, List.mem_of_getElem? (i := 1276) (by decide +kernel), List.mem_of_getElem? (i := 1451) (by decide +kernel), List.mem_of_getElem? (i := 1452) (by decide +kernel)⟩
theorem lw_p46 : lw_okq (⟨"TonguerootFamilyModel", "borrow", "(IIII)V"⟩, 27) := ⟨⟨by decide +kernel, by decide +kernel⟩, List.mem_of_getElem? (i := 1276) (by decide +kernel), List.mem_of_getElem? (i := 1455) (by decide +kernel), List.mem_of_getElem? (i := 1456) (by decide +kernel)⟩
theorem lw_p47 : lw_okq (⟨"TonguerootFamilyModel", "changed", "(JI)J"⟩, 27) := ⟨⟨by decide +kernel, by decide +kernel⟩, List.mem_of_getElem? (i := 1276) (by decide +kernel), List.mem_of_getElem? (i := 1459) (by decide +kernel), List.mem_of_getElem? (i := 1460) (by decide +kernel)⟩
def lw_privs_3 : List (MethodName × Nat) := [(⟨"java/util/ArrayList", "fastRemove", "([Ljava/lang/Object;I)V"⟩, 3), (⟨"TonguerootFamily", "layOut", "(III)I"⟩, 10), (⟨"TonguerootFamily", "collectAnswers", "(III)V"⟩, 10), (⟨"TonguerootFamily", "isLaw", "(II)Z"⟩, 10), (⟨"java/util/ArrayList", "rangeCheckForAdd", "(I)V"⟩, 3), (⟨"java/util/ArrayList", "outOfBoundsMsg", "(I)Ljava/lang/String;"⟩, 3), (⟨"TonguerootFamily", "suppose", "(ILTonguerootFamily$Language;)V"⟩, 10), (⟨"TonguerootFamily", "countDifferent", "(I)I"⟩, 10), (⟨"TonguerootFamilyModel", "no", "(I)I"⟩, 27), (⟨"TonguerootFamilyModel", "isLanguage", "(I)Z"⟩, 27), (⟨"TonguerootFamilyModel", "ok", "(I)I"⟩, 27), (⟨"TonguerootFamilyModel", "isAsked", "(II)Z"⟩, 27), (⟨"TonguerootFamilyModel", "solve", "()V"⟩, 27), (⟨"TonguerootFamilyModel", "grow", "(II)V"⟩, 27), (⟨"TonguerootFamilyModel", "borrow", "(IIII)V"⟩, 27), (⟨"TonguerootFamilyModel", "changed", "(JI)J"⟩, 27)]
theorem lw_r3 : ∀ q ∈ lw_privs_3, lw_okq q := List.forall_mem_cons.mpr ⟨lw_p32, List.forall_mem_cons.mpr ⟨lw_p33, List.forall_mem_cons.mpr ⟨lw_p34, List.forall_mem_cons.mpr ⟨lw_p35, List.forall_mem_cons.mpr ⟨lw_p36, List.forall_mem_cons.mpr ⟨lw_p37, List.forall_mem_cons.mpr ⟨lw_p38, List.forall_mem_cons.mpr ⟨lw_p39, List.forall_mem_cons.mpr ⟨lw_p40, List.forall_mem_cons.mpr ⟨lw_p41, List.forall_mem_cons.mpr ⟨lw_p42, List.forall_mem_cons.mpr ⟨lw_p43, List.forall_mem_cons.mpr ⟨lw_p44, List.forall_mem_cons.mpr ⟨lw_p45, List.forall_mem_cons.mpr ⟨lw_p46, List.forall_mem_cons.mpr ⟨lw_p47, fun _ h => absurd h List.not_mem_nil⟩⟩⟩⟩⟩⟩⟩⟩⟩⟩⟩⟩⟩⟩⟩⟩
theorem lw_p48 : lw_okq (⟨"TonguerootFamilyModel", "turned", "(II)I"⟩, 27) := ⟨⟨by decide +kernel, by decide +kernel⟩, List.mem_of_getElem? (i := 1276) (by decide +kernel), List.mem_of_getElem? (i := 1469) (by decide +kernel), List.mem_of_getElem? (i := 1470) (by decide +kernel)⟩
theorem lw_p49 : lw_okq (⟨"TonguerootFamilyModel", "wordOf", "(II)J"⟩, 27) := ⟨⟨by decide +kernel, by decide +kernel⟩, List.mem_of_getElem? (i := 1276) (by decide +kernel), List.mem_of_getElem? (i := 1473) (by decide +kernel), List.mem_of_getElem? (i := 1474) (by decide +kernel)⟩
theorem lw_p50 : lw_okq (⟨"TonguerootFamilyModel", "originOf", "(II)I"⟩, 27) := ⟨⟨by decide +kernel, by decide +kernel⟩, List.mem_of_getElem? (i := 1276) (by decide +kernel), List.mem_of_getElem? (i := 1485) (by decide +kernel), List.mem_of_getElem? (i := 1486) (by decide +kernel)⟩
theorem lw_p51 : lw_okq (⟨"TonguerootFamilyModel", "hasWord", "(II)Z"⟩, 27) := ⟨⟨by decide +kernel, by decide +kernel⟩, List.mem_of_getElem? (i := 1276) (by decide +kernel), List.mem_of_getElem? (i := 1489) (by decide +kernel), List.mem_of_getElem? (i := 1490) (by decide +kernel)⟩
theorem lw_p52 : lw_okq (⟨"TonguerootFamilyModel", "changesOf", "(II)I"⟩, 27) := ⟨⟨by decide +kernel, by decide +kernel⟩, List.mem_of_getElem? (i := 1276) (by decide +kernel), List.mem_of_getElem? (i := 1497) (by decide +kernel), List.mem_of_getElem? (i := 1498) (by decide +kernel)⟩
theorem lw_p53 : lw_okq (⟨"TonguerootFamilyModel", "wealthOf", "(I)I"⟩, 27) := ⟨⟨by decide +kernel, by decide +kernel⟩, List.mem_of_getElem? (i := 1276) (by decide +kernel), List.mem_of_getElem? (i := 1505) (by decide +kernel), List.mem_of_getElem? (i := 1506) (by decide +kernel)⟩
theorem lw_p54 : lw_okq (⟨"TonguerootFamilyModel", "alikeIn", "(I)I"⟩, 27) := ⟨⟨by decide +kernel, by decide +kernel⟩, List.mem_of_getElem? (i := 1276) (by decide +kernel), List.mem_of_getElem? (i := 1513) (by decide +kernel), List.mem_of_getElem? (i := 1514) (by decide +kernel)⟩
theorem lw_p55 : lw_okq (⟨"TonguerootFamilyModel", "soundsIn", "(I)I"⟩, 27) := ⟨⟨by decide +kernel, by decide +kernel⟩, List.mem_of_getElem? (i := 1276) (by decide +kernel), List.mem_of_getElem? (i := 1521) (by decide +kernel), List.mem_of_getElem? (i := 1522) (by decide +kernel)⟩
theorem lw_p56 : lw_okq (⟨"TonguerootFamilyModel", "areAsked", "(III)Z"⟩, 27) := ⟨⟨by decide +kernel, by decide +kernel⟩, List.mem_of_getElem? (i := 1276) (by decide +kernel), List.mem_of_getElem? (i := 1529) (by decide +kernel), List.mem_of_getElem? (i := 1530) (by decide +kernel)⟩
theorem lw_p57 : lw_okq (⟨"TonguerootFamilyModel", "costNow", "(III)I"⟩, 27) := ⟨⟨by decide +kernel, by decide +kernel⟩, List.mem_of_getElem? (i := 1276) (by decide +kernel), List.mem_of_getElem? (i := 1533) (by decide +kernel), List.mem_of_getElem? (i := 1534) (by decide +kernel)⟩
theorem lw_p58 : lw_okq (⟨"TonguerootFamilyModel", "align", "(JJ)I"⟩, 27) := ⟨⟨by decide +kernel, by decide +kernel⟩, List.mem_of_getElem? (i := 1276) (by decide +kernel), List.mem_of_getElem? (i := 1537) (by decide +kernel), List.mem_of_getElem? (i := 1538) (by decide +kernel)⟩
theorem lw_p59 : lw_okq (⟨"TonguerootFamilyModel", "costOf", "(II)I"⟩, 27) := ⟨⟨by decide +kernel, by decide +kernel⟩, List.mem_of_getElem? (i := 1276) (by decide +kernel), List.mem_of_getElem? (i := 1545) (by decide +kernel), List.mem_of_getElem? (i := 1546) (by decide +kernel)⟩
theorem lw_p60 : lw_okq (⟨"TonguerootFamilyModel", "restAt", "(II)I"⟩, 27) := ⟨⟨by decide +kernel, by decide +kernel⟩, List.mem_of_getElem? (i := 1276) (by decide +kernel), List.mem_of_getElem? (i := 1549) (by decide +kernel), List.mem_of_getElem? (i := 1550) (by decide +kernel)⟩
theorem lw_p61 : lw_okq (⟨"TonguerootFamilyModel", "columnsNow", "(III)I"⟩, 27) := ⟨⟨by decide +kernel, by decide +kernel⟩, List.mem_of_getElem? (i := 1276) (by decide +kernel), List.mem_of_getElem? (i := 1558) (by decide +kernel), List.mem_of_getElem? (i := 1559) (by decide +kernel)⟩
theorem lw_p62 : lw_okq (⟨"TonguerootFamilyModel", "answersNow", "(IIII)I"⟩, 27) := ⟨⟨by decide +kernel, by decide +kernel⟩, List.mem_of_getElem? (i := 1276) (by decide +kernel), List.mem_of_getElem? (i := 1570) (by decide +kernel), List.mem_of_getElem? (i := 1571) (by decide +kernel)⟩
theorem lw_p63 : lw_okq (⟨"TonguerootFamilyModel", "areKin", "(III)Z"⟩, 27) := ⟨⟨by decide +kernel, by decide +kernel⟩, List.mem_of_getElem? (i := 1276) (by decide +kernel), List.mem_of_getElem? (i := 1574) (by decide +kernel), List.mem_of_getElem? (i := 1575) (by decide +kernel)⟩
def lw_privs_4 : List (MethodName × Nat) := [(⟨"TonguerootFamilyModel", "turned", "(II)I"⟩, 27), (⟨"TonguerootFamilyModel", "wordOf", "(II)J"⟩, 27), (⟨"TonguerootFamilyModel", "originOf", "(II)I"⟩, 27), (⟨"TonguerootFamilyModel", "hasWord", "(II)Z"⟩, 27), (⟨"TonguerootFamilyModel", "changesOf", "(II)I"⟩, 27), (⟨"TonguerootFamilyModel", "wealthOf", "(I)I"⟩, 27), (⟨"TonguerootFamilyModel", "alikeIn", "(I)I"⟩, 27), (⟨"TonguerootFamilyModel", "soundsIn", "(I)I"⟩, 27), (⟨"TonguerootFamilyModel", "areAsked", "(III)Z"⟩, 27), (⟨"TonguerootFamilyModel", "costNow", "(III)I"⟩, 27), (⟨"TonguerootFamilyModel", "align", "(JJ)I"⟩, 27), (⟨"TonguerootFamilyModel", "costOf", "(II)I"⟩, 27), (⟨"TonguerootFamilyModel", "restAt", "(II)I"⟩, 27), (⟨"TonguerootFamilyModel", "columnsNow", "(III)I"⟩, 27), (⟨"TonguerootFamilyModel", "answersNow", "(IIII)I"⟩, 27), (⟨"TonguerootFamilyModel", "areKin", "(III)Z"⟩, 27)]
theorem lw_r4 : ∀ q ∈ lw_privs_4, lw_okq q := List.forall_mem_cons.mpr ⟨lw_p48, List.forall_mem_cons.mpr ⟨lw_p49, List.forall_mem_cons.mpr ⟨lw_p50, List.forall_mem_cons.mpr ⟨lw_p51, List.forall_mem_cons.mpr ⟨lw_p52, List.forall_mem_cons.mpr ⟨lw_p53, List.forall_mem_cons.mpr ⟨lw_p54, List.forall_mem_cons.mpr ⟨lw_p55, List.forall_mem_cons.mpr ⟨lw_p56, List.forall_mem_cons.mpr ⟨lw_p57, List.forall_mem_cons.mpr ⟨lw_p58, List.forall_mem_cons.mpr ⟨lw_p59, List.forall_mem_cons.mpr ⟨lw_p60, List.forall_mem_cons.mpr ⟨lw_p61, List.forall_mem_cons.mpr ⟨lw_p62, List.forall_mem_cons.mpr ⟨lw_p63, fun _ h => absurd h List.not_mem_nil⟩⟩⟩⟩⟩⟩⟩⟩⟩⟩⟩⟩⟩⟩⟩⟩
theorem lw_p64 : lw_okq (⟨"TonguerootFamilyModel", "costs", "()[I"⟩, 27) := ⟨⟨by decide +kernel, by decide +kernel⟩, List.mem_of_getElem? (i := 1276) (by decide +kernel), List.mem_of_getElem? (i := 1586) (by decide +kernel), List.mem_of_getElem? (i := 1587) (by decide +kernel)⟩
theorem lw_p65 : lw_okq (⟨"TonguerootFamilyModel", "farBy", "([III)D"⟩, 27) := ⟨⟨by decide +kernel, by decide +kernel⟩, List.mem_of_getElem? (i := 1276) (by decide +kernel), List.mem_of_getElem? (i := 1590) (by decide +kernel), List.mem_of_getElem? (i := 1591) (by decide +kernel)⟩
theorem lw_p66 : lw_okq (⟨"TonguerootFamilyModel", "shared", "(II)I"⟩, 27) := ⟨⟨by decide +kernel, by decide +kernel⟩, List.mem_of_getElem? (i := 1276) (by decide +kernel), List.mem_of_getElem? (i := 1595) (by decide +kernel), List.mem_of_getElem? (i := 1596) (by decide +kernel)⟩
theorem lw_p67 : lw_okq (⟨"TonguerootFamilyModel", "nearestBy", "([II)I"⟩, 27) := ⟨⟨by decide +kernel, by decide +kernel⟩, List.mem_of_getElem? (i := 1276) (by decide +kernel), List.mem_of_getElem? (i := 1603) (by decide +kernel), List.mem_of_getElem? (i := 1604) (by decide +kernel)⟩
theorem lw_p68 : lw_okq (⟨"TonguerootFamilyModel", "recalledNow", "(II)J"⟩, 27) := ⟨⟨by decide +kernel, by decide +kernel⟩, List.mem_of_getElem? (i := 1276) (by decide +kernel), List.mem_of_getElem? (i := 1611) (by decide +kernel), List.mem_of_getElem? (i := 1612) (by decide +kernel)⟩
theorem lw_p69 : lw_okq (⟨"TonguerootFamilyModel", "wellNow", "(I)I"⟩, 27) := ⟨⟨by decide +kernel, by decide +kernel⟩, List.mem_of_getElem? (i := 1276) (by decide +kernel), List.mem_of_getElem? (i := 1623) (by decide +kernel), List.mem_of_getElem? (i := 1624) (by decide +kernel)⟩
theorem lw_p70 : lw_okq (⟨"TonguerootFamilyModel", "told", "()[J"⟩, 27) := ⟨⟨by decide +kernel, by decide +kernel⟩, List.mem_of_getElem? (i := 1276) (by decide +kernel), List.mem_of_getElem? (i := 1631) (by decide +kernel), List.mem_of_getElem? (i := 1632) (by decide +kernel)⟩
theorem lw_p71 : lw_okq (⟨"TonguerootFamilyModel", "swapLaws", "(II)V"⟩, 27) := ⟨⟨by decide +kernel, by decide +kernel⟩, List.mem_of_getElem? (i := 1276) (by decide +kernel), List.mem_of_getElem? (i := 1636) (by decide +kernel), List.mem_of_getElem? (i := 1637) (by decide +kernel)⟩
theorem lw_p72 : lw_okq (⟨"TonguerootFamilyModel", "unlike", "([JII)I"⟩, 27) := ⟨⟨by decide +kernel, by decide +kernel⟩, List.mem_of_getElem? (i := 1276) (by decide +kernel), List.mem_of_getElem? (i := 1643) (by decide +kernel), List.mem_of_getElem? (i := 1644) (by decide +kernel)⟩
theorem lw_p73 : lw_okq (⟨"TonguerootFamilyModel", "unlent", "()[J"⟩, 27) := ⟨⟨by decide +kernel, by decide +kernel⟩, List.mem_of_getElem? (i := 1276) (by decide +kernel), List.mem_of_getElem? (i := 1659) (by decide +kernel), List.mem_of_getElem? (i := 1660) (by decide +kernel)⟩
def lw_privs_5 : List (MethodName × Nat) := [(⟨"TonguerootFamilyModel", "costs", "()[I"⟩, 27), (⟨"TonguerootFamilyModel", "farBy", "([III)D"⟩, 27), (⟨"TonguerootFamilyModel", "shared", "(II)I"⟩, 27), (⟨"TonguerootFamilyModel", "nearestBy", "([II)I"⟩, 27), (⟨"TonguerootFamilyModel", "recalledNow", "(II)J"⟩, 27), (⟨"TonguerootFamilyModel", "wellNow", "(I)I"⟩, 27), (⟨"TonguerootFamilyModel", "told", "()[J"⟩, 27), (⟨"TonguerootFamilyModel", "swapLaws", "(II)V"⟩, 27), (⟨"TonguerootFamilyModel", "unlike", "([JII)I"⟩, 27), (⟨"TonguerootFamilyModel", "unlent", "()[J"⟩, 27)]
theorem lw_r5 : ∀ q ∈ lw_privs_5, lw_okq q := List.forall_mem_cons.mpr ⟨lw_p64, List.forall_mem_cons.mpr ⟨lw_p65, List.forall_mem_cons.mpr ⟨lw_p66, List.forall_mem_cons.mpr ⟨lw_p67, List.forall_mem_cons.mpr ⟨lw_p68, List.forall_mem_cons.mpr ⟨lw_p69, List.forall_mem_cons.mpr ⟨lw_p70, List.forall_mem_cons.mpr ⟨lw_p71, List.forall_mem_cons.mpr ⟨lw_p72, List.forall_mem_cons.mpr ⟨lw_p73, fun _ h => absurd h List.not_mem_nil⟩⟩⟩⟩⟩⟩⟩⟩⟩⟩
def lw_privs : List (MethodName × Nat) := lw_privs_1 ++ (lw_privs_2 ++ (lw_privs_3 ++ (lw_privs_4 ++ (lw_privs_5))))
def lw_tbl : List Cond := k2_sels lw_privs ++ tables_1
theorem lw_privs_ok : ∀ q ∈ lw_privs, lw_okq q := by
  show ∀ q ∈ lw_privs_1 ++ (lw_privs_2 ++ (lw_privs_3 ++ (lw_privs_4 ++ (lw_privs_5)))), lw_okq q
  exact List.forall_mem_append.mpr ⟨lw_r1, List.forall_mem_append.mpr ⟨lw_r2, List.forall_mem_append.mpr ⟨lw_r3, List.forall_mem_append.mpr ⟨lw_r4, lw_r5⟩⟩⟩⟩
/-- the streams that the claim lets the run draw from -/
abbrev lw_cs : List Choice := [Jvm.Choice.named "NaN.bits"]
theorem lw_bits : nanBits ∈ lw_cs := by first | decide | exact List.mem_cons_self | simp [lw_cs, nanBits]
/-! ===== BEGIN words of one list among another's, by their places ===== -/
theorem goodIn_r {big : List Cond} (ws : List Cond) (ps : List Nat) (hp : ws = ps.filterMap (fun i => big[i]?)) (h : ws.all goodWord = true) : GoodIn big ws := by
  intro w hw
  have h1 := List.all_eq_true.mp h w hw
  rw [hp] at hw
  obtain ⟨i, -, hi⟩ := List.mem_filterMap.mp hw
  have hm : w ∈ big := by first | exact List.mem_of_getElem? hi | exact List.getElem?_mem hi
  exact ⟨hm, good_of_word h1⟩
theorem goodIn_app {big a b : List Cond} (ha : GoodIn big a) (hb : GoodIn big b) : GoodIn big (a ++ b) := fun w h => (List.mem_append.mp h).elim (ha w) (hb w)
theorem goodIn_ca {big a b : List Cond} {c : Cond} (ha : GoodIn big (c :: a)) (hb : GoodIn big b) : GoodIn big (c :: (a ++ b)) := fun w h => (List.mem_cons.mp h).elim (fun e => ha w (List.mem_cons.mpr (Or.inl e))) (fun h => (List.mem_append.mp h).elim (fun h => ha w (List.mem_cons.mpr (Or.inr h))) (hb w))
theorem goodIn_sub {big ws : List Cond} (hm : ∀ w ∈ ws, w ∈ big) (h : ws.all goodWord = true) : GoodIn big ws := fun w hw => ⟨hm w hw, good_of_word (List.all_eq_true.mp h w hw)⟩
/-! ===== END ===== -/

theorem vr_outer (c : ClassId) (N h0 : Nat) : ∀ i : Nat, Jvm.Free.Multi.outerC c N h0 i = arrV c N (fun j => va_rf (if j < i then some (h0 + 1 + j) else none))
  | 0 => by
    show ({ cls := c, slots := Array.replicate N .null, vm := .none } : Cell) = _
    rw [arrV_new]
    refine congrArg (arrV c N) (funext fun j => ?_)
    simp [va_rf]
  | i + 1 => by
    show (Jvm.Free.Multi.outerC c N h0 i).setSlot i (.ref (h0 + 1 + i)) = _
    rw [vr_outer c N h0 i, arrV_store]
    refine congrArg (arrV c N) (funext fun j => ?_)
    by_cases e : j = i
    · subst e
      simp [updV, va_rf]
    · by_cases h : j < i
      · simp [updV, e, h, Nat.lt_succ_of_lt h]
      · simp [updV, e, h, show ¬ j < i + 1 by omega]

/-! ===== BEGIN exceptions that leave a method, and their catching by the caller (launches without stack traces) ===== -/
section VXA
/-! The laws vx_back, vx_callV, vx_callS, vx_callSW, vx_throw0, vx_throwS follow proofs of the library, with one case more: JvmDerived/Free/Laws.lean (Back.of_free), Shelf42/LK1.lean (callV, callS), Shelf/KitTraced.lean (throwNew0V, throwNewS). -/
/-- where a method has thrown q: the class by its name, the cell, what was written, the world -/
def vx_T (XC : String → State → State → Prop) (st : State) (q : Addr) (t : State) (mc ms : Nat) (free : Addr → Prop) : Prop :=
  ∃ (E : String) (ce : Cell) (L : List Loc), XC E st t ∧ t.heap[q]? = some ce ∧ ce.vm = .none ∧ st.vm.findClass E = some ce.cls ∧ st.WarmedH t.vm ∧ st.sameButNew ({ t with vm := st.vm } : State) L mc ms ∧ ∀ z ∈ L, free z.base
def vx_Q (Qc : Array Value → State → Outcome → State → Prop) (XC : String → State → State → Prop) (mc ms : Nat) (free : Addr → Prop) : Array Value → State → Outcome → State → Prop := fun a st o t =>
  (Qc a st o t ∧ ∃ L, FrameEnd st o t L mc ms ∧ ∀ q ∈ L, free q.base) ∨ ∃ q, o = .threw q ∧ vx_T XC st q t mc ms free
/-- a callee that returns or throws -/
def vx_Met (l : Launch) (y : MethodName) (ws : List Cond) (rm : Room) (Pc : Array Value → State → Prop) (Qc : Array Value → State → Outcome → State → Prop) (XC : String → State → State → Prop) (mc ms : Nat) (free : Addr → Prop) : Prop :=
  MetFree l y (headSpec ws rm) Pc (fun _ _ _ _ _ => True) (vx_Q Qc XC mc ms free)
def vx_Post (XC : String → State → State → Prop) (mc ms : Nat) (free : Addr → Prop) : Pt → Array Value → Addr → Pt → Prop := fun A a q B =>
  ∃ (g : JFrame) (mk : MethodId) (t : State) (L : List Loc) (E : String) (ce : Cell), B.U.heap = t.heap ∧ B.U.vm = t.vm ∧ XC E (A.U.calling g mk a) t ∧ t.heap[q]? = some ce ∧ ce.vm = .none ∧ A.U.vm.findClass E = some ce.cls ∧ B.locs = A.locs ++ L ∧ (∀ z ∈ L, free z.base) ∧ B.cells = A.cells + mc ∧ B.slots = A.slots + ms
def vx_Back (l : Launch) (R : Room) (p : Program) (e : Env) (below : List Frame) (s : State) (sargs : Array Value) (y : MethodName) (len W9 : Nat)
    (Pre : Pt → Array Value → Prop) (Post : Pt → Array Value → Option Value → Pt → Prop) (PostX : Pt → Array Value → Addr → Pt → Prop) : Prop :=
  ∀ (m : MethodId) (meth : Method) (c : Code) (A : Pt) (g : JFrame) (ig : Instr) (mk : MethodId) (a : Array Value),
    Stand p l e R s m sargs below meth c A.U A.locs A.cells A.slots → g.method = m → g.locals.size = c.maxLocals → decode c.code g.pc = .ok (ig, len) →
    2 * g.monitorRoom + (g.stack.map fun v => v.category).sum ≤ W9 → A.U.methodNamed? y = some mk → Pre A a →
    (∃ (v : Option Value) (B : Pt), Stand p l e R s m sargs below meth c B.U B.locs B.cells B.slots ∧ Post A a v B ∧
      Steps p.tables e below (doInvoke e (A.U.setTop g) [] mk a).1 (B.U.setTop { g with pc := g.pc + len, stack := v.toList ++ g.stack })) ∨
    (∃ (q : Addr) (B : Pt), Stand p l e R s m sargs below meth c B.U B.locs B.cells B.slots ∧ PostX A a q B ∧
      Steps p.tables e below (doInvoke e (A.U.setTop g) [] mk a).1 ((B.U.setTop g).pushFrame (.throwing q)))
section Payer
variable {l : Launch} {R : Room} {p : Program} {e : Env} {below : List Frame} {s : State} {sargs : Array Value} {y : MethodName} {len W9 : Nat}
theorem vx_back {ws : List Cond} {rm : Room} {Pc : Array Value → State → Prop} {Qc : Array Value → State → Outcome → State → Prop} {XC : String → State → State → Prop} {mc ms : Nat} {free : Addr → Prop} {bytes : ByteArray} {maxL : Nat} {ret : Option FieldType}
    (hM : vx_Met l y ws rm Pc Qc XC mc ms free) (hblind : FrameBlind Pc) (hrc : rm.cells = mc) (hrs : rm.slots = ms)
    (hframes : rm.frames + 1 ≤ R.frames) (hlocals : W9 + (maxL + 11) + rm.locals ≤ R.locals)
    (hws : ∀ w ∈ ws, ∀ a' U, s.WarmedH U.vm → w.before a' U = true) (hcode : Cond.code y bytes maxL ret ∈ ws) (hinit : ∀ a' U, s.WarmedH U.vm → (Cond.initialized y.cls).before a' U = true) :
    vx_Back l R p e below s sargs y len W9 (PreOf R mc ms Pc) (PostOf Qc mc ms free) (vx_Post XC mc ms free) := by
  intro m meth c A g ig mk a X hg hsize hdg hW hn hp
  have h1 : (headSpec ws rm).pre.before a A.U = true := atoms_intro fun w hw => hws w hw _ _ X.warmed
  have h2 : (Cond.code y bytes maxL ret).before a A.U = true := hws _ hcode _ _ X.warmed
  have h3 : (Cond.initialized y.cls).before a A.U = true := hinit _ _ X.warmed
  have h4 : A.cells + (headSpec ws rm).room.cells ≤ R.cells := by rw [show (headSpec ws rm).room.cells = mc from hrc]; exact hp.1
  have h5 : A.slots + (headSpec ws rm).room.slots ≤ R.slots := by rw [show (headSpec ws rm).room.slots = ms from hrs]; exact hp.2.1
  have hPc : Pc a (A.U.calling g mk a) := hblind _ _ _ _ hp.2.2
  obtain ⟨U, Ls, c0, s0⟩ := A
  dsimp only [Pt.U, Pt.locs, Pt.cells, Pt.slots] at h1 h2 h3 h4 h5 X hn hPc ⊢
  obtain ⟨methY, cY, hmY, hcY, -, hlY, -, -, -, -⟩ := Cond.code_spec hn h2
  obtain ⟨kY, hkY, -⟩ := className_of_methodNamed hn
  have hinitY : kY.init = .initialized := Cond.initialized_spec (findClass_of_methodNamed hn) hkY h3
  have h : At U g.method c below := by rw [hg]; exact X.here
  have hlocals9 : W9 + (maxL + 11) + (headSpec ws rm).room.locals ≤ R.locals := hlocals
  have happ : (headSpec ws rm).appliesLoose y e.platform (U.calling g mk a) = true :=
    Spec.appliesLoose_calling (g := g) h hdg hn hkY hinitY
      (X.room_calling (g := g) (R' := (headSpec ws rm).room) hsize hmY hcY hframes (by rw [hlY]; omega) h4 h5) h1
  obtain ⟨mid, hmid⟩ := h.above
  have hfr : (U.setTop g).frames = (.java g :: mid) ++ below := by rw [State.frames_setTop' g h.top, hmid]; rfl
  obtain ⟨o, s₂, hsteps, -, hend, hq⟩ := Steps.callFree hM p X.admits X.cas X.clock (acts := []) hfr happ hPc trivial
  have hq' : vx_Q Qc XC mc ms free a (U.calling g mk a) o s₂ := hq
  rw [State.frames_setTop' g h.top] at hend
  obtain ⟨g₀, hg0⟩ := Option.isSome_iff_exists.mp h.top
  obtain ⟨r, hr⟩ := State.topJava?_eq_some.mp hg0
  have hr' : (({ U with heap := s₂.heap, slotsUsed := s₂.slotsUsed } : State).setVm s₂.vm).frames = .java g₀ :: r := hr
  rcases hq' with ⟨hqc, L, hfe, hL⟩ | ⟨q, rfl, E, ce, L, hx, hce, hcv, hcl, hW₂, hsm, hL⟩
  · obtain ⟨⟨v, rfl⟩, hW₂, e2, q2, q3, q4, q5, q6⟩ := id hfe
    have e3 : s₂ = ({ (U.calling g mk a).setFrames s₂.frames with heap := s₂.heap, slotsUsed := s₂.slotsUsed } : State).setVm s₂.vm := by
      have : s₂ = ({ s₂ with vm := (U.calling g mk a).vm } : State).setVm s₂.vm := rfl
      rw [e2] at this
      exact this
    obtain ⟨c₂, i₂, len₂, hc₂, hd₂, hf₂⟩ := hend
    have hW' : U.WarmedH s₂.vm := hW₂
    have hcc : c₂ = c := by
      have h1 : s₂.code? g.method = U.code? g.method := by
        rw [State.code?_eq, State.code?_eq, hW'.alike.method?]
      exact Option.some.inj (hc₂.symm.trans (h1.trans h.code))
    subst hcc
    have hlen : len₂ = len := by rw [hdg] at hd₂; cases hd₂; rfl
    subst hlen
    have hs₂ : s₂ = (({ U with heap := s₂.heap, slotsUsed := s₂.slotsUsed } : State).setVm s₂.vm).setTop { g with pc := g.pc + len₂, stack := v.toList ++ g.stack } := by
      refine e3.trans ?_
      rw [hf₂, State.calling_eq h.top, State.setFrames_setFrames, State.setTop_of_frames _ hr', hr]
      rfl
    have hsame : U.sameButNew ({ U with heap := s₂.heap, slotsUsed := s₂.slotsUsed } : State) L mc ms := by
      refine ⟨?_, q2, q3, q4, q5, q6⟩
      obtain ⟨t, ht, -⟩ := State.frames_cons hr
      show ({ U with heap := s₂.heap, slotsUsed := s₂.slotsUsed } : State) = { U.setFrames U.frames with heap := s₂.heap, slotsUsed := s₂.slotsUsed }
      rw [State.setFrames_self ht]
    subst hg
    refine Or.inl ⟨v, ⟨(({ U with heap := s₂.heap, slotsUsed := s₂.slotsUsed } : State).setVm s₂.vm), Ls ++ L, c0 + mc, s0 + ms⟩,
      ⟨X.admits, X.cas, X.clock, X.frames, X.room, X.hears, X.method, X.code, (X.here.setHeapUsed s₂.heap s₂.slotsUsed).setVm hW'.alike, X.tail, State.WarmedH.trans X.warmed hW', X.limits, X.bytes, X.same.trans (hsame.setVm s.vm)⟩,
      ⟨g, mk, s₂, L, rfl, rfl, hqc, rfl, hL, rfl, rfl⟩, ?_⟩
    show Steps p.tables e below _ ((({ U with heap := s₂.heap, slotsUsed := s₂.slotsUsed } : State).setVm s₂.vm).setTop { g with pc := g.pc + len₂, stack := v.toList ++ g.stack })
    rw [← hs₂]
    exact hsteps
  · obtain ⟨e2, q2, q3, q4, q5, q6⟩ := id hsm
    have e3 : s₂ = ({ (U.calling g mk a).setFrames s₂.frames with heap := s₂.heap, slotsUsed := s₂.slotsUsed } : State).setVm s₂.vm := by
      have : s₂ = ({ s₂ with vm := (U.calling g mk a).vm } : State).setVm s₂.vm := rfl
      rw [e2] at this
      exact this
    have hf₂ : s₂.frames = .throwing q :: .java g :: U.frames.tail := hend
    have hW' : U.WarmedH s₂.vm := hW₂
    have hs₂ : s₂ = ((({ U with heap := s₂.heap, slotsUsed := s₂.slotsUsed } : State).setVm s₂.vm).setTop g).pushFrame (.throwing q) := by
      refine e3.trans ?_
      rw [hf₂, State.calling_eq h.top, State.setFrames_setFrames, State.pushFrame, State.frames_setTop _ hr', State.setTop_of_frames _ hr', State.setFrames_setFrames, hr]
      rfl
    have hsame : U.sameButNew ({ U with heap := s₂.heap, slotsUsed := s₂.slotsUsed } : State) L mc ms := by
      refine ⟨?_, q2, q3, q4, q5, q6⟩
      obtain ⟨t, ht, -⟩ := State.frames_cons hr
      show ({ U with heap := s₂.heap, slotsUsed := s₂.slotsUsed } : State) = { U.setFrames U.frames with heap := s₂.heap, slotsUsed := s₂.slotsUsed }
      rw [State.setFrames_self ht]
    subst hg
    refine Or.inr ⟨q, ⟨(({ U with heap := s₂.heap, slotsUsed := s₂.slotsUsed } : State).setVm s₂.vm), Ls ++ L, c0 + mc, s0 + ms⟩,
      ⟨X.admits, X.cas, X.clock, X.frames, X.room, X.hears, X.method, X.code, (X.here.setHeapUsed s₂.heap s₂.slotsUsed).setVm hW'.alike, X.tail, State.WarmedH.trans X.warmed hW', X.limits, X.bytes, X.same.trans (hsame.setVm s.vm)⟩,
      ⟨g, mk, s₂, L, E, ce, rfl, rfl, hx, hce, hcv, hcl, rfl, hL, rfl, rfl⟩, ?_⟩
    show Steps p.tables e below _ (((({ U with heap := s₂.heap, slotsUsed := s₂.slotsUsed } : State).setVm s₂.vm).setTop g).pushFrame (.throwing q))
    rw [← hs₂]
    exact hsteps
end Payer
section Calls
variable {p : Program} {l : Launch} {e : Env} {R : Room} {s : State} {m : MethodId} {args : Array Value} {below : List Frame} {meth : Method} {c : Code} {T : State} {locs : List Loc} {cells slots : Nat}
theorem vx_callV (X : Stand p l e R s m args below meth c T locs cells slots) (hexec : p.tables.exec = Jvm.exec) {own C : String} {index : Nat} {y : MethodName} {bytes : ByteArray} {maxL : Nat} {ret : Option FieldType}
    (hown : s.vm.findClass own = some m.cls) (hlink : (Cond.methodLink own index y).before args s = true) (hinst : (Cond.instanceMethod y).before args s = true) (hsel : (Cond.selects C y y).before args s = true)
    (hcode : (Cond.code y bytes maxL ret).before args s = true) (hy : y.cls ≠ "java/lang/invoke/MethodHandle" ∧ y.cls ≠ "java/lang/invoke/VarHandle")
    {W9 : Nat} {Pre : Pt → Array Value → Prop} {Post : Pt → Array Value → Option Value → Pt → Prop} {PostX : Pt → Array Value → Addr → Pt → Prop} (hK : vx_Back l R p e below s args y 3 W9 Pre Post PostX)
    {b : Addr} {cellB : Cell} (hcell : T.heap[b]? = some cellB) (hobj : cellB.vm.isStatics = false) (hcls : s.vm.findClass C = some cellB.cls)
    {g : JFrame} (hg : g.method = m) (hsize : g.locals.size = c.maxLocals) {argsL rest : List Value} (hlen : ∀ sig, parseMethodDescriptor y.desc = some sig → argsL.length = sig.parameters.length)
    (hstack : g.stack = argsL.reverse ++ .ref b :: rest) (hW : 2 * g.monitorRoom + (rest.map fun v => v.category).sum ≤ W9) (hdg : decode c.code g.pc = .ok (.invokevirtual index, 3))
    (hpre : ∀ vm₁, s.WarmedH vm₁ → Pre ⟨T.setVm vm₁, locs, cells, slots⟩ (Value.ref b :: argsL).toArray) :
    (∃ (v : Option Value) (vm₁ : Vm) (B : Pt), s.WarmedH vm₁ ∧ Stand p l e R s m args below meth c B.U B.locs B.cells B.slots ∧ Post ⟨T.setVm vm₁, locs, cells, slots⟩ (Value.ref b :: argsL).toArray v B ∧
      ∀ target, Steps p.tables e below (B.U.setTop { g with pc := g.pc + 3, stack := v.toList ++ rest }) target → Steps p.tables e below (T.setTop g) target) ∨
    (∃ (q : Addr) (vm₁ : Vm) (B : Pt), s.WarmedH vm₁ ∧ Stand p l e R s m args below meth c B.U B.locs B.cells B.slots ∧ PostX ⟨T.setVm vm₁, locs, cells, slots⟩ (Value.ref b :: argsL).toArray q B ∧
      Steps p.tables e below (T.setTop g) ((B.U.setTop { g with stack := rest }).pushFrame (.throwing q))) := by
  obtain ⟨mk, methM, hnamed, hmethM, hstM, habM⟩ := Cond.instanceMethod_spec hinst
  obtain ⟨methM', cM, hmethM', -, -, -, -, -, -, hsigM⟩ := Cond.code_spec hnamed hcode
  cases hmethM.symm.trans hmethM'
  obtain ⟨c2, r2, m2, q1, q2, q3, q4, kP, hkP, hkPi⟩ := Cond.selects_spec hsel
  cases hcls.symm.trans q1
  cases (State.methodFound?_of_named hnamed hy).symm.trans q2
  cases hnamed.symm.trans q3
  have hselP : selectMethod e.platform s.vm cellB.cls mk = .method mk := by rw [Launch.admits_selectMethod X.admits]; exact q4
  obtain ⟨vm₁, X₁, hstep₁⟩ := X.invokevirtual hexec hown hlink hnamed hmethM hstM hkP hkPi hy (a := b) (cell := cellB) hcell
    (fun z h => by rw [h] at hobj; cases hobj) hselP hmethM habM hkP hkPi (g := g) hg (argsL := argsL) (rest := rest) (hlen _ hsigM) hstack hdg
  rcases hK m meth c ⟨T.setVm vm₁, locs, cells, slots⟩ { g with stack := rest } (.invokevirtual index) mk (Value.ref b :: argsL).toArray X₁ hg hsize hdg hW (X₁.named hnamed) (hpre vm₁ X₁.warmed) with ⟨v, B, X', hpost, hsteps⟩ | ⟨q, B, X', hpost, hsteps⟩
  · exact Or.inl ⟨v, vm₁, B, X₁.warmed, X', hpost, fun target h => hstep₁ _ fun acts => by rw [doInvoke_state]; exact hsteps.trans h⟩
  · exact Or.inr ⟨q, vm₁, B, X₁.warmed, X', hpost, hstep₁ _ fun acts => by rw [doInvoke_state]; exact hsteps⟩
theorem vx_callS (X : Stand p l e R s m args below meth c T locs cells slots) (hexec : p.tables.exec = Jvm.exec) {own : String} {index : Nat} {y : MethodName} {bytes : ByteArray} {maxL : Nat} {ret : Option FieldType}
    (hown : s.vm.findClass own = some m.cls) (hlink : (Cond.methodLink own index y).before args s = true) (hstat : (Cond.static y).before args s = true) (hinit : (Cond.initialized y.cls).before args s = true)
    (hcode : (Cond.code y bytes maxL ret).before args s = true) (hy : y.cls ≠ "java/lang/invoke/MethodHandle" ∧ y.cls ≠ "java/lang/invoke/VarHandle")
    {W9 : Nat} {Pre : Pt → Array Value → Prop} {Post : Pt → Array Value → Option Value → Pt → Prop} {PostX : Pt → Array Value → Addr → Pt → Prop} (hK : vx_Back l R p e below s args y 3 W9 Pre Post PostX)
    {g : JFrame} (hg : g.method = m) (hsize : g.locals.size = c.maxLocals) {argsL rest : List Value} (hlen : ∀ sig, parseMethodDescriptor y.desc = some sig → argsL.length = sig.parameters.length)
    (hstack : g.stack = argsL.reverse ++ rest) (hW : 2 * g.monitorRoom + (rest.map fun v => v.category).sum ≤ W9) (hdg : decode c.code g.pc = .ok (.invokestatic index, 3))
    (hpre : ∀ vm₁, s.WarmedH vm₁ → Pre ⟨T.setVm vm₁, locs, cells, slots⟩ argsL.toArray) :
    (∃ (v : Option Value) (vm₁ : Vm) (B : Pt), s.WarmedH vm₁ ∧ Stand p l e R s m args below meth c B.U B.locs B.cells B.slots ∧ Post ⟨T.setVm vm₁, locs, cells, slots⟩ argsL.toArray v B ∧
      ∀ target, Steps p.tables e below (B.U.setTop { g with pc := g.pc + 3, stack := v.toList ++ rest }) target → Steps p.tables e below (T.setTop g) target) ∨
    (∃ (q : Addr) (vm₁ : Vm) (B : Pt), s.WarmedH vm₁ ∧ Stand p l e R s m args below meth c B.U B.locs B.cells B.slots ∧ PostX ⟨T.setVm vm₁, locs, cells, slots⟩ argsL.toArray q B ∧
      Steps p.tables e below (T.setTop g) ((B.U.setTop { g with stack := rest }).pushFrame (.throwing q))) := by
  obtain ⟨mk, hnamed⟩ := Cond.code_named hcode
  obtain ⟨methM, cM, hmethM, -, -, -, -, -, -, hsigM⟩ := Cond.code_spec hnamed hcode
  have hstatic : methM.isStatic = true := Cond.static_spec hnamed hmethM hstat
  obtain ⟨kP, hkP, -⟩ := className_of_methodNamed hnamed
  have hinitP : kP.init = .initialized := Cond.initialized_spec (findClass_of_methodNamed hnamed) hkP hinit
  obtain ⟨vm₁, X₁, hstep₁⟩ := X.invokestatic hexec hown hlink hnamed hmethM hstatic hkP hinitP hy (g := g) hg (argsL := argsL) (rest := rest) (hlen _ hsigM) hstack hdg
  rcases hK m meth c ⟨T.setVm vm₁, locs, cells, slots⟩ { g with stack := rest } (.invokestatic index) mk argsL.toArray X₁ hg hsize hdg hW (X₁.named hnamed) (hpre vm₁ X₁.warmed) with ⟨v, B, X', hpost, hsteps⟩ | ⟨q, B, X', hpost, hsteps⟩
  · exact Or.inl ⟨v, vm₁, B, X₁.warmed, X', hpost, fun target h => hstep₁ _ fun acts => by rw [doInvoke_state]; exact hsteps.trans h⟩
  · exact Or.inr ⟨q, vm₁, B, X₁.warmed, X', hpost, hstep₁ _ fun acts => by rw [doInvoke_state]; exact hsteps⟩
end Calls
theorem vx_cls {s : State} {T : State} {vm₁ : Vm} {E : String} {k : ClassId} (hW : s.WarmedH vm₁) (h : (T.setVm vm₁).vm.findClass E = some k) : s.vm.findClass E = some k := by
  have h1 : vm₁.findClass E = some k := h
  rw [hW.alike.findClass] at h1
  exact h1
/-- the method's frame g, with q thrown over it -/
def vx_W (p : Program) (l : Launch) (e : Env) (R : Room) (s : State) (m : MethodId) (args : Array Value) (below : List Frame) (meth : Method) (c : Code) (H : Heap) (locs : List Loc) (cells slots : Nat) (Q : State → Prop) (g : JFrame) (q : Addr) : Prop :=
  ∀ T : State, T.heap = H → Stand p l e R s m args below meth c T locs cells slots → ∃ t, Steps p.tables e below ((T.setTop g).pushFrame (.throwing q)) t ∧ Q t
def vx_Run (p : Program) (l : Launch) (e : Env) (R : Room) (s : State) (m : MethodId) (args : Array Value) (below : List Frame) (meth : Method) (c : Code) (H : Heap) (locs : List Loc) (cells slots mc ms : Nat) (g : JFrame) (rest : List Value) (Qa : State → Outcome → State → Prop) (XC : String → State → State → Prop) (free : Addr → Prop) : Prop :=
  ∀ T : State, T.heap = H → Stand p l e R s m args below meth c T locs cells slots →
    (∃ (v : Option Value) (st₀ t T' : State) (L : List Loc), st₀.heap = H ∧ Stand p l e R s m args below meth c T' (locs ++ L) (cells + mc) (slots + ms) ∧ (∀ q ∈ L, free q.base) ∧ T'.heap = t.heap ∧ T'.vm = t.vm ∧ Qa st₀ (.returned v) t ∧
      Goes p e below T g T' { g with pc := g.pc + 3, stack := v.toList ++ rest }) ∨
    (∃ (q : Addr) (st₀ t T' : State) (L : List Loc) (E : String) (ce : Cell), st₀.heap = H ∧ Stand p l e R s m args below meth c T' (locs ++ L) (cells + mc) (slots + ms) ∧ (∀ z ∈ L, free z.base) ∧ T'.heap = t.heap ∧ T'.vm = t.vm ∧ XC E st₀ t ∧ t.heap[q]? = some ce ∧ ce.vm = .none ∧ s.vm.findClass E = some ce.cls ∧
      Steps p.tables e below (T.setTop g) ((T'.setTop { g with stack := rest }).pushFrame (.throwing q)))
def vx_X {S : Type} (px : S → Prop) (B : String → S → State → Prop) (A : Nat → Prop) : String → State → State → Prop := fun E st t => ∃ u : S, px u ∧ B E u t ∧ va_F A st t
section Runs
variable {p : Program} {l : Launch} {e : Env} {R : Room} {s : State} {m : MethodId} {args : Array Value} {below : List Frame} {meth : Method} {c : Code} {H : Heap} {locs : List Loc} {cells slots : Nat}
variable {y : MethodName} {bytes cc : ByteArray} {maxL nL mc ms n index : Nat} {ret : Option FieldType} {ws : List Cond} {rm : Room} {Pc : Array Value → State → Prop} {Qc : Array Value → State → Outcome → State → Prop} {XC : String → State → State → Prop} {free : Addr → Prop} {Ts : List Cond} {own C : String} {b : Addr} {As rest : List Value} {g : JFrame}
theorem vx_callBack (cb : CallB R s args own index y bytes maxL ret ws rm mc ms n) (hM : vx_Met l y ws rm Pc Qc XC mc ms free) (hbl : FrameBlind Pc) : vx_Back l R p e below s args y 3 8 (PreOf R mc ms Pc) (PostOf Qc mc ms free) (vx_Post XC mc ms free) := by
  obtain ⟨hrc, hrs, hfr, hlo, hws, hcw, -, hini, -⟩ := cb
  exact vx_back (bytes := bytes) (maxL := maxL) (ret := ret) hM hbl hrc hrs hfr hlo hws hcw (fun a' U hW => word_at hW (Or.inl (by first | rfl | simp [Cond.onTables, Cond.keeps, Cond.steady])) hini)
theorem vx_runV (S : CallFix p m c cc nL s args Ts own) (hM : vx_Met l y ws rm Pc Qc XC mc ms free) (cw : CallW R s args own C index y bytes maxL ret ws rm mc ms n) (hp : PreV s H C b Pc As)
    (hg : g.method = m) (hn : As.length = n) (hsize : g.locals.size = nL) (hstack : g.stack = As.reverse ++ .ref b :: rest) (hW : 2 * g.monitorRoom + (rest.map fun v => v.category).sum ≤ 8) (hdg : decode cc g.pc = .ok (.invokevirtual index, 3)) (hf : cells + mc ≤ R.cells ∧ slots + ms ≤ R.slots) :
    vx_Run p l e R s m args below meth c H locs cells slots mc ms g rest (Qc (Value.ref b :: As).toArray) XC free := by
  have hK : vx_Back l R p e below s args y 3 8 (PreOf R mc ms Pc) (PostOf Qc mc ms free) (vx_Post XC mc ms free) := vx_callBack cw.1 hM hp.1
  obtain ⟨⟨-, -, -, -, -, -, hcode, -, hy, hlen, hl⟩, hin, hse⟩ := cw
  obtain ⟨hx, hb, hml, ho, -⟩ := S
  obtain ⟨-, ⟨cellB, hcB, hoB, hclB⟩, hPc⟩ := hp
  intro T hT X
  rcases vx_callV X hx (C := C) (bytes := bytes) (maxL := maxL) (ret := ret) ho hl hin hse hcode hy hK (by rw [hT]; exact hcB) hoB hclB hg (hsize.trans hml.symm) (argsL := As) (rest := rest) (fun sig h => hn.trans (hlen sig h)) hstack hW (by rw [hb]; exact hdg)
    (fun vm₁ hW₁ => ⟨hf.1, hf.2, hPc (T.setVm vm₁) hT hW₁⟩) with ⟨v, vm₁, ⟨U', l2, c2, s2⟩, hW₁, X', ⟨g', mk, t, L, e1, e2, hq, h1, hL, h2, h3⟩, st⟩ | ⟨q, vm₁, ⟨U', l2, c2, s2⟩, hW₁, X', ⟨g', mk, t, L, E, ce, e1, e2, hq, hce, hcv, hcl, h1, hL, h2, h3⟩, st⟩
  · dsimp only [Pt.U, Pt.locs, Pt.cells, Pt.slots] at X' e1 e2 h1 h2 h3 st
    subst h1; subst h2; subst h3
    exact Or.inl ⟨v, (T.setVm vm₁).calling g' mk (Value.ref b :: As).toArray, t, U', L, hT, X', hL, e1, e2, hq, st⟩
  · dsimp only [Pt.U, Pt.locs, Pt.cells, Pt.slots] at X' e1 e2 h1 h2 h3 st hcl
    subst h1; subst h2; subst h3
    exact Or.inr ⟨q, (T.setVm vm₁).calling g' mk (Value.ref b :: As).toArray, t, U', L, E, ce, hT, X', hL, e1, e2, hq, hce, hcv, vx_cls hW₁ hcl, st⟩
theorem vx_runS (S : CallFix p m c cc nL s args Ts own) (hM : vx_Met l y ws rm Pc Qc XC mc ms free) (cw : CallB R s args own index y bytes maxL ret ws rm mc ms n ∧ (Cond.static y).before args s = true) (hp : PreS s H Pc As)
    (hg : g.method = m) (hn : As.length = n) (hsize : g.locals.size = nL) (hstack : g.stack = As.reverse ++ rest) (hW : 2 * g.monitorRoom + (rest.map fun v => v.category).sum ≤ 8) (hdg : decode cc g.pc = .ok (.invokestatic index, 3)) (hf : cells + mc ≤ R.cells ∧ slots + ms ≤ R.slots) :
    vx_Run p l e R s m args below meth c H locs cells slots mc ms g rest (Qc As.toArray) XC free := by
  have hK : vx_Back l R p e below s args y 3 8 (PreOf R mc ms Pc) (PostOf Qc mc ms free) (vx_Post XC mc ms free) := vx_callBack cw.1 hM hp.1
  obtain ⟨⟨-, -, -, -, -, -, hcode, hini, hy, hlen, hl⟩, hstt⟩ := cw
  obtain ⟨hx, hb, hml, ho, -⟩ := S
  intro T hT X
  rcases vx_callS X hx (bytes := bytes) (maxL := maxL) (ret := ret) ho hl hstt hini hcode hy hK hg (hsize.trans hml.symm) (argsL := As) (rest := rest) (fun sig h => hn.trans (hlen sig h)) hstack hW (by rw [hb]; exact hdg)
    (fun vm₁ hW₁ => ⟨hf.1, hf.2, hp.2 (T.setVm vm₁) hT hW₁⟩) with ⟨v, vm₁, ⟨U', l2, c2, s2⟩, hW₁, X', ⟨g', mk, t, L, e1, e2, hq, h1, hL, h2, h3⟩, st⟩ | ⟨q, vm₁, ⟨U', l2, c2, s2⟩, hW₁, X', ⟨g', mk, t, L, E, ce, e1, e2, hq, hce, hcv, hcl, h1, hL, h2, h3⟩, st⟩
  · dsimp only [Pt.U, Pt.locs, Pt.cells, Pt.slots] at X' e1 e2 h1 h2 h3 st
    subst h1; subst h2; subst h3
    exact Or.inl ⟨v, (T.setVm vm₁).calling g' mk As.toArray, t, U', L, hT, X', hL, e1, e2, hq, st⟩
  · dsimp only [Pt.U, Pt.locs, Pt.cells, Pt.slots] at X' e1 e2 h1 h2 h3 st hcl
    subst h1; subst h2; subst h3
    exact Or.inr ⟨q, (T.setVm vm₁).calling g' mk As.toArray, t, U', L, E, ce, hT, X', hL, e1, e2, hq, hce, hcv, vx_cls hW₁ hcl, st⟩
end Runs
section Rows
variable {p : Program} {l : Launch} {e : Env} {R : Room} {s : State} {m : MethodId} {args : Array Value} {below : List Frame} {meth : Method} {c : Code} {H : Heap} {locs : List Loc} {cells slots : Nat} {Q : State → Prop}
variable {mc ms : Nat} {free : Addr → Prop} {A0 A1 : Nat → Prop} {H0 : Heap} {a : Array Value} {pc : Nat} {ls : Array Slot} {st0 rest : List Value}
theorem vx_keep {st₀ t T' : State} {L : List Loc} (h0 : st₀.heap = H) (e1 : T'.heap = t.heap) (hS : va_S A0 H0 H locs) (hA : ∀ q, q < H.size → A1 q → A0 q) (hf : ∀ q, free q → A0 q) (hL : ∀ q ∈ L, free q.base) (hF : va_F A1 st₀ t) :
    H.size ≤ T'.heap.size ∧ (∀ q : Nat, q < H.size → ¬ A1 q → T'.heap[q]? = H[q]?) ∧ va_S A0 H0 T'.heap (locs ++ L) := by
  obtain ⟨hz, hk⟩ := hF
  rw [h0] at hz hk
  exact ⟨by rw [e1]; exact hz, fun q h1 h2 => by rw [e1]; exact hk q h1 h2,
    ⟨Nat.le_trans hS.1 (by rw [e1]; exact hz), fun q h1 h2 => by rw [e1, hk q (Nat.lt_of_lt_of_le h1 hS.1) (fun z => h2 (hA q (Nat.lt_of_lt_of_le h1 hS.1) z))]; exact hS.2.1 q h1 h2, fun q hq => by
      rcases List.mem_append.mp hq with h | h
      · exact hS.2.2 q h
      · exact hf _ (hL q h)⟩⟩
theorem vx_calli {S SX : Type} {post : Int32 → S → Prop} {px : SX → Prop} {B : S → State → Prop} {BX : String → SX → State → Prop} {AX : Nat → Prop} (hr : vx_Run p l e R s m args below meth c H locs cells slots mc ms (F0 m pc ls st0) rest (va_Qi post B A1 a) (vx_X px BX AX) free) (hS : va_S A0 H0 H locs) (hA : ∀ q, q < H.size → A1 q → A0 q) (hf : ∀ q, free q → A0 q) (hAX : ∀ q, q < H.size → AX q → A0 q)
    (kx : ∀ (E : String) (ce : Cell) (q9 : Addr) (u : SX) (t : State) (H1 : Heap) (locs1 : List Loc), t.heap = H1 → s.vm.Alike t.vm → px u → BX E u t → H.size ≤ H1.size → (∀ q : Nat, q < H.size → ¬ AX q → H1[q]? = H[q]?) → va_S A0 H0 H1 locs1 → H1[q9]? = some ce → ce.vm = .none → s.vm.findClass E = some ce.cls → vx_W p l e R s m args below meth c H1 locs1 (cells + mc) (slots + ms) Q (F0 m pc ls rest) q9)
    (kk : ∀ (r : Int32) (u : S) (t : State) (H1 : Heap) (locs1 : List Loc), t.heap = H1 → s.vm.Alike t.vm → post r u → B u t → H.size ≤ H1.size → (∀ q : Nat, q < H.size → ¬ A1 q → H1[q]? = H[q]?) → va_S A0 H0 H1 locs1 → W p l e R s m args below meth c H1 locs1 (cells + mc) (slots + ms) Q (F0 m (pc + 3) ls (.int r :: rest))) : W p l e R s m args below meth c H locs cells slots Q (F0 m pc ls st0) := by
  intro T hT X
  rcases hr T hT X with ⟨v, st₀, t, T', L, h0, X', hL, e1, e2, ⟨⟨r, u, hv, hp, hb⟩, hF⟩, st⟩ | ⟨q, st₀, t, T', L, E, ce, h0, X', hL, e1, e2, ⟨u, hp, hb, hF⟩, hce, hcv, hcl, st⟩
  · cases hv
    obtain ⟨k1, k2, k3⟩ := vx_keep h0 e1 hS hA hf hL hF
    obtain ⟨t2, a1, b1⟩ := kk r u t T'.heap (locs ++ L) e1.symm (by rw [← e2]; exact X'.warmed.alike) hp hb k1 k2 k3 T' rfl X'
    exact ⟨t2, st t2 a1, b1⟩
  · obtain ⟨k1, k2, k3⟩ := vx_keep h0 e1 hS hAX hf hL hF
    obtain ⟨t2, a1, b1⟩ := kx E ce q u t T'.heap (locs ++ L) e1.symm (by rw [← e2]; exact X'.warmed.alike) hp hb k1 k2 k3 (by rw [e1]; exact hce) hcv hcl T' rfl X'
    exact ⟨t2, st.trans a1, b1⟩
theorem vx_calll {S SX : Type} {post : Int64 → S → Prop} {px : SX → Prop} {B : S → State → Prop} {BX : String → SX → State → Prop} {AX : Nat → Prop} (hr : vx_Run p l e R s m args below meth c H locs cells slots mc ms (F0 m pc ls st0) rest (va_Ql post B A1 a) (vx_X px BX AX) free) (hS : va_S A0 H0 H locs) (hA : ∀ q, q < H.size → A1 q → A0 q) (hf : ∀ q, free q → A0 q) (hAX : ∀ q, q < H.size → AX q → A0 q)
    (kx : ∀ (E : String) (ce : Cell) (q9 : Addr) (u : SX) (t : State) (H1 : Heap) (locs1 : List Loc), t.heap = H1 → s.vm.Alike t.vm → px u → BX E u t → H.size ≤ H1.size → (∀ q : Nat, q < H.size → ¬ AX q → H1[q]? = H[q]?) → va_S A0 H0 H1 locs1 → H1[q9]? = some ce → ce.vm = .none → s.vm.findClass E = some ce.cls → vx_W p l e R s m args below meth c H1 locs1 (cells + mc) (slots + ms) Q (F0 m pc ls rest) q9)
    (kk : ∀ (r : Int64) (u : S) (t : State) (H1 : Heap) (locs1 : List Loc), t.heap = H1 → s.vm.Alike t.vm → post r u → B u t → H.size ≤ H1.size → (∀ q : Nat, q < H.size → ¬ A1 q → H1[q]? = H[q]?) → va_S A0 H0 H1 locs1 → W p l e R s m args below meth c H1 locs1 (cells + mc) (slots + ms) Q (F0 m (pc + 3) ls (.long r :: rest))) : W p l e R s m args below meth c H locs cells slots Q (F0 m pc ls st0) := by
  intro T hT X
  rcases hr T hT X with ⟨v, st₀, t, T', L, h0, X', hL, e1, e2, ⟨⟨r, u, hv, hp, hb⟩, hF⟩, st⟩ | ⟨q, st₀, t, T', L, E, ce, h0, X', hL, e1, e2, ⟨u, hp, hb, hF⟩, hce, hcv, hcl, st⟩
  · cases hv
    obtain ⟨k1, k2, k3⟩ := vx_keep h0 e1 hS hA hf hL hF
    obtain ⟨t2, a1, b1⟩ := kk r u t T'.heap (locs ++ L) e1.symm (by rw [← e2]; exact X'.warmed.alike) hp hb k1 k2 k3 T' rfl X'
    exact ⟨t2, st t2 a1, b1⟩
  · obtain ⟨k1, k2, k3⟩ := vx_keep h0 e1 hS hAX hf hL hF
    obtain ⟨t2, a1, b1⟩ := kx E ce q u t T'.heap (locs ++ L) e1.symm (by rw [← e2]; exact X'.warmed.alike) hp hb k1 k2 k3 (by rw [e1]; exact hce) hcv hcl T' rfl X'
    exact ⟨t2, st.trans a1, b1⟩
theorem vx_callf {S SX : Type} {post : UInt32 → S → Prop} {px : SX → Prop} {B : S → State → Prop} {BX : String → SX → State → Prop} {AX : Nat → Prop} (hr : vx_Run p l e R s m args below meth c H locs cells slots mc ms (F0 m pc ls st0) rest (va_Qf post B A1 a) (vx_X px BX AX) free) (hS : va_S A0 H0 H locs) (hA : ∀ q, q < H.size → A1 q → A0 q) (hf : ∀ q, free q → A0 q) (hAX : ∀ q, q < H.size → AX q → A0 q)
    (kx : ∀ (E : String) (ce : Cell) (q9 : Addr) (u : SX) (t : State) (H1 : Heap) (locs1 : List Loc), t.heap = H1 → s.vm.Alike t.vm → px u → BX E u t → H.size ≤ H1.size → (∀ q : Nat, q < H.size → ¬ AX q → H1[q]? = H[q]?) → va_S A0 H0 H1 locs1 → H1[q9]? = some ce → ce.vm = .none → s.vm.findClass E = some ce.cls → vx_W p l e R s m args below meth c H1 locs1 (cells + mc) (slots + ms) Q (F0 m pc ls rest) q9)
    (kk : ∀ (r : UInt32) (u : S) (t : State) (H1 : Heap) (locs1 : List Loc), t.heap = H1 → s.vm.Alike t.vm → post r u → B u t → H.size ≤ H1.size → (∀ q : Nat, q < H.size → ¬ A1 q → H1[q]? = H[q]?) → va_S A0 H0 H1 locs1 → W p l e R s m args below meth c H1 locs1 (cells + mc) (slots + ms) Q (F0 m (pc + 3) ls (.float r :: rest))) : W p l e R s m args below meth c H locs cells slots Q (F0 m pc ls st0) := by
  intro T hT X
  rcases hr T hT X with ⟨v, st₀, t, T', L, h0, X', hL, e1, e2, ⟨⟨r, u, hv, hp, hb⟩, hF⟩, st⟩ | ⟨q, st₀, t, T', L, E, ce, h0, X', hL, e1, e2, ⟨u, hp, hb, hF⟩, hce, hcv, hcl, st⟩
  · cases hv
    obtain ⟨k1, k2, k3⟩ := vx_keep h0 e1 hS hA hf hL hF
    obtain ⟨t2, a1, b1⟩ := kk r u t T'.heap (locs ++ L) e1.symm (by rw [← e2]; exact X'.warmed.alike) hp hb k1 k2 k3 T' rfl X'
    exact ⟨t2, st t2 a1, b1⟩
  · obtain ⟨k1, k2, k3⟩ := vx_keep h0 e1 hS hAX hf hL hF
    obtain ⟨t2, a1, b1⟩ := kx E ce q u t T'.heap (locs ++ L) e1.symm (by rw [← e2]; exact X'.warmed.alike) hp hb k1 k2 k3 (by rw [e1]; exact hce) hcv hcl T' rfl X'
    exact ⟨t2, st.trans a1, b1⟩
theorem vx_calld {S SX : Type} {post : UInt64 → S → Prop} {px : SX → Prop} {B : S → State → Prop} {BX : String → SX → State → Prop} {AX : Nat → Prop} (hr : vx_Run p l e R s m args below meth c H locs cells slots mc ms (F0 m pc ls st0) rest (va_Qd post B A1 a) (vx_X px BX AX) free) (hS : va_S A0 H0 H locs) (hA : ∀ q, q < H.size → A1 q → A0 q) (hf : ∀ q, free q → A0 q) (hAX : ∀ q, q < H.size → AX q → A0 q)
    (kx : ∀ (E : String) (ce : Cell) (q9 : Addr) (u : SX) (t : State) (H1 : Heap) (locs1 : List Loc), t.heap = H1 → s.vm.Alike t.vm → px u → BX E u t → H.size ≤ H1.size → (∀ q : Nat, q < H.size → ¬ AX q → H1[q]? = H[q]?) → va_S A0 H0 H1 locs1 → H1[q9]? = some ce → ce.vm = .none → s.vm.findClass E = some ce.cls → vx_W p l e R s m args below meth c H1 locs1 (cells + mc) (slots + ms) Q (F0 m pc ls rest) q9)
    (kk : ∀ (r : UInt64) (u : S) (t : State) (H1 : Heap) (locs1 : List Loc), t.heap = H1 → s.vm.Alike t.vm → post r u → B u t → H.size ≤ H1.size → (∀ q : Nat, q < H.size → ¬ A1 q → H1[q]? = H[q]?) → va_S A0 H0 H1 locs1 → W p l e R s m args below meth c H1 locs1 (cells + mc) (slots + ms) Q (F0 m (pc + 3) ls (.double r :: rest))) : W p l e R s m args below meth c H locs cells slots Q (F0 m pc ls st0) := by
  intro T hT X
  rcases hr T hT X with ⟨v, st₀, t, T', L, h0, X', hL, e1, e2, ⟨⟨r, u, hv, hp, hb⟩, hF⟩, st⟩ | ⟨q, st₀, t, T', L, E, ce, h0, X', hL, e1, e2, ⟨u, hp, hb, hF⟩, hce, hcv, hcl, st⟩
  · cases hv
    obtain ⟨k1, k2, k3⟩ := vx_keep h0 e1 hS hA hf hL hF
    obtain ⟨t2, a1, b1⟩ := kk r u t T'.heap (locs ++ L) e1.symm (by rw [← e2]; exact X'.warmed.alike) hp hb k1 k2 k3 T' rfl X'
    exact ⟨t2, st t2 a1, b1⟩
  · obtain ⟨k1, k2, k3⟩ := vx_keep h0 e1 hS hAX hf hL hF
    obtain ⟨t2, a1, b1⟩ := kx E ce q u t T'.heap (locs ++ L) e1.symm (by rw [← e2]; exact X'.warmed.alike) hp hb k1 k2 k3 (by rw [e1]; exact hce) hcv hcl T' rfl X'
    exact ⟨t2, st.trans a1, b1⟩
theorem vx_callv {S SX : Type} {post : S → Prop} {px : SX → Prop} {B : S → State → Prop} {BX : String → SX → State → Prop} {AX : Nat → Prop} (hr : vx_Run p l e R s m args below meth c H locs cells slots mc ms (F0 m pc ls st0) rest (va_Qv post B A1 a) (vx_X px BX AX) free) (hS : va_S A0 H0 H locs) (hA : ∀ q, q < H.size → A1 q → A0 q) (hf : ∀ q, free q → A0 q) (hAX : ∀ q, q < H.size → AX q → A0 q)
    (kx : ∀ (E : String) (ce : Cell) (q9 : Addr) (u : SX) (t : State) (H1 : Heap) (locs1 : List Loc), t.heap = H1 → s.vm.Alike t.vm → px u → BX E u t → H.size ≤ H1.size → (∀ q : Nat, q < H.size → ¬ AX q → H1[q]? = H[q]?) → va_S A0 H0 H1 locs1 → H1[q9]? = some ce → ce.vm = .none → s.vm.findClass E = some ce.cls → vx_W p l e R s m args below meth c H1 locs1 (cells + mc) (slots + ms) Q (F0 m pc ls rest) q9)
    (kk : ∀ (u : S) (t : State) (H1 : Heap) (locs1 : List Loc), t.heap = H1 → s.vm.Alike t.vm → post u → B u t → H.size ≤ H1.size → (∀ q : Nat, q < H.size → ¬ A1 q → H1[q]? = H[q]?) → va_S A0 H0 H1 locs1 → W p l e R s m args below meth c H1 locs1 (cells + mc) (slots + ms) Q (F0 m (pc + 3) ls (rest))) : W p l e R s m args below meth c H locs cells slots Q (F0 m pc ls st0) := by
  intro T hT X
  rcases hr T hT X with ⟨v, st₀, t, T', L, h0, X', hL, e1, e2, ⟨⟨u, hv, hp, hb⟩, hF⟩, st⟩ | ⟨q, st₀, t, T', L, E, ce, h0, X', hL, e1, e2, ⟨u, hp, hb, hF⟩, hce, hcv, hcl, st⟩
  · cases hv
    obtain ⟨k1, k2, k3⟩ := vx_keep h0 e1 hS hA hf hL hF
    obtain ⟨t2, a1, b1⟩ := kk u t T'.heap (locs ++ L) e1.symm (by rw [← e2]; exact X'.warmed.alike) hp hb k1 k2 k3 T' rfl X'
    exact ⟨t2, st t2 a1, b1⟩
  · obtain ⟨k1, k2, k3⟩ := vx_keep h0 e1 hS hAX hf hL hF
    obtain ⟨t2, a1, b1⟩ := kx E ce q u t T'.heap (locs ++ L) e1.symm (by rw [← e2]; exact X'.warmed.alike) hp hb k1 k2 k3 (by rw [e1]; exact hce) hcv hcl T' rfl X'
    exact ⟨t2, st.trans a1, b1⟩
/-- caught by the row x of this method's table; the rows ahead don't take it -/
theorem vx_catch {own name : String} {E : String} {ce : Cell} {q : Addr} (hown : s.vm.findClass own = some m.cls) (pre : List ExceptionTableEntry) (x : ExceptionTableEntry) (suf : List ExceptionTableEntry) (hsplit : c.exceptionTable.toList = pre ++ x :: suf)
    (hpass : ∀ z ∈ pre, covers z pc = false ∨ (z.catchType ≠ 0 ∧ ∃ nm : String, (Cond.classLink own z.catchType nm).before args s = true ∧ va_Nc E nm s)) (hx : covers x pc = true) (h0 : x.catchType ≠ 0)
    (hlink : (Cond.classLink own x.catchType name).before args s = true) (hcast : (Cond.castable E name).before args s = true) (hcell : H[q]? = some ce) (hv : ce.vm = .none) (hcl : s.vm.findClass E = some ce.cls)
    (kk : W p l e R s m args below meth c H locs cells slots Q (F0 m x.handlerPc ls [.ref q])) : vx_W p l e R s m args below meth c H locs cells slots Q (F0 m pc ls rest) q := by
  intro T hT X
  have hpl : e.platform.magicAccessors = ({} : Platform).magicAccessors := by rw [X.admits.platform]
  obtain ⟨c3, c4, hc3, hc4, hasg⟩ := Cond.castable_spec hcast
  cases Option.some.inj (hc3.symm.trans hcl)
  obtain ⟨c5, hc5, hcl5⟩ := Cond.classLink_spec hown hlink e.platform hpl
  cases Option.some.inj (hc4.symm.trans hc5)
  obtain ⟨vm', X', st⟩ := X.thenCaughtThrough q (g := F0 m pc ls rest) rfl (Steps.refl _) (by rw [hT]; exact hcell) (by rw [hv]; rfl) (by obtain ⟨k9, h9, -⟩ := Vm.findClass_spec hcl; exact ⟨k9, h9⟩) pre x suf hsplit
    (fun z hz => by
      rcases hpass z hz with h | ⟨hz0, nm, hl1, hn1⟩
      · exact Or.inl h
      · obtain ⟨c6, hc6, hcl6⟩ := Cond.classLink_spec hown hl1 e.platform hpl
        obtain ⟨a8, b8, h1, h2, h3⟩ := hn1
        cases Option.some.inj (h1.symm.trans hcl)
        cases Option.some.inj (h2.symm.trans hc6)
        exact Or.inr ⟨hz0, _, hcl6, h3⟩) hx (Or.inr ⟨h0, c4, hcl5, hasg⟩)
  obtain ⟨t, a1, b1⟩ := kk (T.setVm vm') hT X'
  exact ⟨t, st.trans a1, b1⟩
end Rows
section Ends
variable {p : Program} {l : Launch} {e : Env} {R : Room} {s : State} {m : MethodId} {args : Array Value} {below : List Frame} {meth : Method} {c : Code} {H : Heap} {locs : List Loc} {cells slots : Nat} {Q : State → Prop}
variable {mc ms : Nat} {free : Addr → Prop} {A0 A1 : Nat → Prop} {H0 : Heap} {a : Array Value} {ls : Array Slot} {st0 rest : List Value}
variable {Qc : Array Value → State → Outcome → State → Prop} {XC : String → State → State → Prop}
/-- what a body that may throw owes at its end -/
def vx_MQ (below : List Frame) (Qc : Array Value → State → Outcome → State → Prop) (XC : String → State → State → Prop) (a : Array Value) (s : State) (mc ms : Nat) (free : Addr → Prop) : State → Prop := fun t =>
  ∃ o, t.status = .running ∧ Ended t below o ∧ vx_Q Qc XC mc ms free a s o t
theorem vx_ret {g : JFrame} {mc ms : Nat} (k : W p l e R s m args below meth c H locs cells slots (MQ below Qc args s mc ms free) g) : W p l e R s m args below meth c H locs cells slots (vx_MQ below Qc XC args s mc ms free) g := by
  intro T hT X
  obtain ⟨t, a1, o, b1, b2, b3, b4⟩ := k T hT X
  exact ⟨t, a1, o, b1, b2, Or.inl ⟨b3, b4⟩⟩
/-- not caught here: it goes on to the caller -/
theorem vx_widen {g : JFrame} {q : Addr} {k n : Nat} (h1 : cells ≤ k) (h2 : slots ≤ n) (kk : vx_W p l e R s m args below meth c H locs k n Q g q) : vx_W p l e R s m args below meth c H locs cells slots Q g q := fun T hT X => kk T hT (stand_widen X h1 h2)
theorem vx_out {pc : Nat} {E : String} {ce : Cell} {q : Addr} {mc ms : Nat} (hout : ∀ x ∈ c.exceptionTable.toList, covers x pc = false) (hlocks : meth.locks = false) (hcell : H[q]? = some ce) (hv : ce.vm = .none) (hcl : s.vm.findClass E = some ce.cls)
    (hx : ∀ t : State, t.heap = H → s.vm.Alike t.vm → XC E s t) (hf : ∀ z ∈ locs, free z.base) (hc : cells ≤ mc) (hs : slots ≤ ms) :
    vx_W p l e R s m args below meth c H locs cells slots (vx_MQ below Qc XC args s mc ms free) (F0 m pc ls rest) q := by
  intro T hT X
  obtain ⟨st1, hrun, hend, hW, hsm⟩ := X.leaveThrown q (g := F0 m pc ls rest) rfl rfl rfl hout hlocks
  have hcell9 : (T.setFrames (.throwing q :: below)).heap[q]? = some ce := by
    show T.heap[q]? = some ce
    rw [hT]; exact hcell
  exact ⟨_, st1, .threw q, hrun, hend, Or.inr ⟨q, rfl, E, ce, locs, hx _ hT hW.alike, hcell9, hv, hcl, hW, hsm.mono hc hs, hf⟩⟩
theorem vx_frame {U : State} {k n : Nat} (h : s.sameButNew ({ U with vm := s.vm } : State) locs k n) : s.heap.size ≤ U.heap.size ∧ ∀ q : Nat, q < s.heap.size → (∀ z ∈ locs, z.base ≠ q) → U.heap[q]? = s.heap[q]? := by
  obtain ⟨-, h2, -, -, -, h6⟩ := h
  refine ⟨h2, fun q hq hz => ?_⟩
  obtain ⟨c9, e1, e2, e3, e4⟩ := h6 q _ (Array.getElem?_eq_getElem hq)
  have hs : c9.slots = (s.heap[q]).slots := Array.ext_getElem? fun i => e4 i fun hm => hz _ hm rfl
  have h9 : c9 = s.heap[q] := by
    rw [hs] at e2
    exact e2
  have e5 : U.heap[q]? = some c9 := e1
  rw [e5, h9, Array.getElem?_eq_getElem hq]
/-- the words of a throw but the four that speak of the heap -/
def vx_no (w : Cond) : Bool := decide (w ≠ .isRef (.static Bundle.tN "UNASSIGNED_STACK" Bundle.steD)) && decide (w ≠ .isRef (.static Bundle.tN "SUPPRESSED_SENTINEL" Bundle.listD)) && decide (w ≠ .laysStatic Bundle.tN "UNASSIGNED_STACK" Bundle.steD) && decide (w ≠ .laysStatic Bundle.tN "SUPPRESSED_SENTINEL" Bundle.listD)
def vx_at0 (own : String) (ic : Nat) (X : String) (names : List String) : List Cond := (Bundle.ownAtoms0 own ic X names).filter vx_no
def vx_atS (own : String) (ic : Nat) (X : String) (names : List String) : List Cond := (Bundle.ownAtoms own ic X names).filter vx_no
/-- a word that the tables alone decide, or a good one -/
def vx_ot (w : Cond) : Bool := w.onTables || goodWord w
theorem vx_ot_at {args a' : Array Value} {s U : State} {w : Cond} (hW : s.WarmedH U.vm) (hvm : s.vm = U.vm) (hg : vx_ot w = true) (h : w.before args s = true) : w.before a' U = true := by
  simp only [vx_ot, Bool.or_eq_true] at hg
  rcases hg with hg | hg
  · exact va_tabs hg hvm h
  · exact word_at hW (good_of_word hg) h
/-- a list's words: the good ones out of the method's own list, the others by premises of their own -/
theorem vx_hat {args : Array Value} {s : State} {L B : List Cond} (h1 : ∀ w ∈ L.filter goodWord, w.before args s = true) (h2 : ∀ w ∈ L.filter (fun w => !goodWord w), w ∈ B) (h3 : ∀ w ∈ B, w.before args s = true) : ∀ w ∈ L, w.before args s = true := by
  intro w hw
  by_cases g : goodWord w = true
  · exact h1 w (List.mem_filter.mpr ⟨hw, g⟩)
  · refine h3 w (h2 w (List.mem_filter.mpr ⟨hw, ?_⟩))
    show (!goodWord w) = true
    cases hgw : goodWord w
    · rfl
    · exact absurd hgw g
theorem vx_c {args : Array Value} {s : State} {w : Cond} {B : List Cond} (h : w.before args s = true) (t : ∀ w ∈ B, w.before args s = true) : ∀ w' ∈ w :: B, w'.before args s = true := fun w' h' => (List.mem_cons.mp h').elim (fun e => by rw [e]; exact h) (t w')
theorem vx_n {args : Array Value} {s : State} : ∀ w ∈ ([] : List Cond), w.before args s = true := fun _ h => nomatch h
theorem vx_own {args : Array Value} {s : State} {L : List Cond} (h1 : ∀ w ∈ L.filter vx_no, w.before args s = true)
    (hU : (Cond.isRef (.static Bundle.tN "UNASSIGNED_STACK" Bundle.steD)).before args s = true) (hN : (Cond.isRef (.static Bundle.tN "SUPPRESSED_SENTINEL" Bundle.listD)).before args s = true)
    (lU : (Cond.laysStatic Bundle.tN "UNASSIGNED_STACK" Bundle.steD).before args s = true) (lN : (Cond.laysStatic Bundle.tN "SUPPRESSED_SENTINEL" Bundle.listD).before args s = true) : ∀ w ∈ L, w.before args s = true := by
  intro w hw
  by_cases e1 : w = .isRef (.static Bundle.tN "UNASSIGNED_STACK" Bundle.steD)
  · rw [e1]; exact hU
  · by_cases e2 : w = .isRef (.static Bundle.tN "SUPPRESSED_SENTINEL" Bundle.listD)
    · rw [e2]; exact hN
    · by_cases e3 : w = .laysStatic Bundle.tN "UNASSIGNED_STACK" Bundle.steD
      · rw [e3]; exact lU
      · by_cases e4 : w = .laysStatic Bundle.tN "SUPPRESSED_SENTINEL" Bundle.listD
        · rw [e4]; exact lN
        · exact h1 w (List.mem_filter.mpr ⟨hw, by unfold vx_no; rw [decide_eq_true e1, decide_eq_true e2, decide_eq_true e3, decide_eq_true e4]; rfl⟩)
/-- where a static field lies, its class's statics cell in H -/
def vx_L (C n d : String) (A : Nat → Prop) (U : State) (H : Heap) : Prop := ∃ (c : ClassId) (k : Class) (i : Nat) (f : Field) (a : Nat) (cell : Cell), U.vm.findClass C = some c ∧ U.fieldFound? C n d = some (c, k, i, f) ∧ f.isStatic = true ∧ k.statics = some a ∧ H[a]? = some cell ∧ cell.vm.isStatics = true ∧ cell.cls = c ∧ f.slot < cell.slots.size ∧ k.staticTypes[f.slot]? = some f.type ∧ ¬ A a
theorem vx_L.moved {C n d : String} {A : Nat → Prop} {u U : State} {H : Heap} (hvm : u.vm.Alike U.vm) (h : vx_L C n d A u H) : vx_L C n d A U H := by
  obtain ⟨c, k, i, f, a, cell, h1, h2, h3, h4, h5, h6, h7, h8, h9, h10⟩ := h
  obtain ⟨k', hi', he⟩ := State.fieldFound?_setVm hvm h2
  exact ⟨c, k', i, f, a, cell, by rw [hvm.findClass]; exact h1, hi', h3, by rw [he]; exact h4, h5, h6, h7, h8, by rw [he]; exact h9, h10⟩
theorem vx_L.kept {C n d : String} {A : Nat → Prop} {U : State} {H H1 : Heap} (h : vx_L C n d A U H) (hq : ∀ a : Nat, a < H.size → ¬ A a → H1[a]? = H[a]?) : vx_L C n d A U H1 := by
  obtain ⟨c, k, i, f, a, cell, h1, h2, h3, h4, h5, h6, h7, h8, h9, h10⟩ := h
  exact ⟨c, k, i, f, a, cell, h1, h2, h3, h4, by rw [hq a (Array.getElem?_eq_some_iff.mp h5).1 h10]; exact h5, h6, h7, h8, h9, h10⟩
theorem vx_L.narrow {C n d : String} {A B : Nat → Prop} {U : State} {H : Heap} (h : vx_L C n d A U H) (hAB : ∀ q, B q → A q) : vx_L C n d B U H := by
  obtain ⟨c, k, i, f, a, cell, h1, h2, h3, h4, h5, h6, h7, h8, h9, h10⟩ := h
  exact ⟨c, k, i, f, a, cell, h1, h2, h3, h4, h5, h6, h7, h8, h9, fun z => h10 (hAB _ z)⟩
theorem vx_L.word {C n d : String} {A : Nat → Prop} {s : State} {args : Array Value} (h : vx_L C n d A s s.heap) : (Cond.laysStatic C n d).before args s = true := by
  obtain ⟨c, k, i, f, a, cell, h1, h2, h3, h4, h5, h6, h7, h8, h9, -⟩ := h
  show (Cond.laysStatic C n d).holds args s none s [] = true
  exact Cond.laysStatic_of h1 h2 h3 h4 h5 h6 h7 h8 h9
/-- .. and what it holds: null or some reference -/
def vx_Zq (C n d : String) (A : Nat → Prop) (U : State) (H : Heap) : Prop := va_Zq C n d A U H ∧ vx_L C n d A U H
theorem vx_Zq.moved {C n d : String} {A : Nat → Prop} {u U : State} {H : Heap} (hvm : u.vm.Alike U.vm) (h : vx_Zq C n d A u H) : vx_Zq C n d A U H := ⟨va_Zq.moved hvm h.1, vx_L.moved hvm h.2⟩
theorem vx_Zq.kept {C n d : String} {A : Nat → Prop} {U : State} {H H1 : Heap} (h : vx_Zq C n d A U H) (hq : ∀ a : Nat, a < H.size → ¬ A a → H1[a]? = H[a]?) : vx_Zq C n d A U H1 := ⟨va_Zq.kept h.1 hq, vx_L.kept h.2 hq⟩
theorem vx_Zq.narrow {C n d : String} {A B : Nat → Prop} {U : State} {H : Heap} (h : vx_Zq C n d A U H) (hAB : ∀ q, B q → A q) : vx_Zq C n d B U H := ⟨va_Zq.narrow h.1 hAB, vx_L.narrow h.2 hAB⟩
theorem vx_Zqof {args : Array Value} {s : State} {C n d : String} {A : Nat → Prop} (hl : (Cond.laysStatic C n d).before args s = true) (hini : (Cond.initialized C).before args s = true) (h : (Cond.isRef (.static C n d)).before args s = true) (hA : ∀ a : Nat, a < s.heap.size → ¬ A a) : vx_Zq C n d A s s.heap := by
  refine ⟨va_Zqof hl hini h hA, ?_⟩
  obtain ⟨c, k, i, f, a, cell, h1, h2, h3, h4, h5, h6, h7, h8, h9⟩ := Cond.laysStatic_spec hl
  exact ⟨c, k, i, f, a, cell, h1, h2, h3, h4, h5, h6, h7, h8, h9, hA a (Array.getElem?_eq_some_iff.mp h5).1⟩
theorem vx_isRef {C n d : String} {v : Value} {A : Nat → Prop} {s : State} {args : Array Value} (h : va_Z C n d v A s s.heap) (hv : v.isRef = true) : (Cond.isRef (.static C n d)).before args s = true := by
  obtain ⟨cf, kf, fi, f, a, cell, h1, h2, h3, h4, h5, h6, h7, -⟩ := h
  have he : (Term.static C n d).eval args s none [] s = some v := by
    simp [Term.eval, State.fieldNamed?, h1, h2, h4, h5, h6, h7]
  simp only [Cond.before, Cond.holds, Cond.value, he]
  cases v <;> simp_all [Value.isRef]
theorem vx_isRefq {C n d : String} {A : Nat → Prop} {s : State} {args : Array Value} (h : va_Zq C n d A s s.heap) : (Cond.isRef (.static C n d)).before args s = true := by
  rcases h with h | ⟨t, h⟩
  · exact vx_isRef h rfl
  · exact vx_isRef h rfl
/-- the same frame, seen from here: as if the method were called anew in this heap -/
theorem vx_rebase {T : State} (X : Stand p l e R s m args below meth c T locs cells slots) {R' : Room} (hf : R'.frames ≤ R.frames) (hl : R'.locals ≤ R.locals) (hc : cells + R'.cells ≤ R.cells) (hs : slots + R'.slots ≤ R.slots) :
    Stand p l e R' ((T.setVm s.vm).setFrames (.invoking m args :: below)) m args below meth c T [] 0 0 := by
  have htop : (T.setVm s.vm).topJava?.isSome := X.here.top
  have hF : ((T.setVm s.vm).setFrames (.invoking m args :: below)).frames = .invoking m args :: below := State.frames_setFrames _ (State.cur_lt_of_top htop)
  obtain ⟨g₀, hg0⟩ := Option.isSome_iff_exists.mp htop
  obtain ⟨r, hr⟩ := State.topJava?_eq_some.mp hg0
  have hl9 : e.platform.stackLimits (T.setVm s.vm).me = e.platform.stackLimits s.me := X.limits
  have hb9 : (T.setVm s.vm).me.stackBytes = s.me.stackBytes := X.bytes
  refine ⟨X.admits, X.cas, X.clock, hF, ?_, X.hears, X.method, X.code, X.here, X.tail, X.warmed, ?_, ?_, ?_⟩
  · have h := X.room
    have hU : ((T.setVm s.vm).setFrames (.invoking m args :: below)).localsInUse = s.localsInUse := by
      rw [State.localsInUse_invoking hF (meth := meth) (c := c) X.method X.code, State.localsInUse_invoking X.frames X.method X.code]
    simp only [State.hasRoom, Bool.and_eq_true, decide_eq_true_eq] at h ⊢
    obtain ⟨⟨⟨⟨h1, h2, h3, h4, h5, h6⟩, h7⟩, h8⟩, h9⟩ := h
    rw [X.frames, List.length_cons] at h2 h3
    have q1 := X.heapSize
    have q2 := X.used
    simp only [hF, hU, List.length_cons, State.stackLimits_setFrames, State.stackBytes_setFrames, hl9, hb9]
    refine ⟨⟨⟨⟨by omega, by omega, by omega, by omega, by omega, h6⟩, ?_⟩, ?_⟩, X.book⟩
    · show T.heap.size + R'.cells ≤ e.platform.maxCells
      omega
    · show T.slotsUsed + R'.slots ≤ e.platform.maxSlots
      omega
  · rw [State.stackLimits_setFrames]; rfl
  · rw [State.stackBytes_setFrames]; rfl
  · refine ⟨?_, Nat.le_refl _, Nat.le_refl _, ?_, ?_, fun a c9 h9 => ⟨c9, h9, rfl, rfl, fun _ _ => rfl⟩⟩
    · obtain ⟨t, ht, -⟩ := State.frames_cons hr
      show T.setVm s.vm = { ((T.setVm s.vm).setFrames (.invoking m args :: below)).setFrames (T.setVm s.vm).frames with heap := T.heap, slotsUsed := T.slotsUsed }
      rw [State.setFrames_setFrames, State.setFrames_self ht]
      rfl
    · show T.slotsUsed = T.slotsUsed + ((T.heap.toList.drop T.heap.size).map (·.slots.size)).sum
      rw [List.drop_eq_nil_of_le (Nat.le_of_eq Array.length_toList)]
      rfl
    · show ((T.heap.toList.drop T.heap.size).map (·.slots.size)).sum ≤ 0
      rw [List.drop_eq_nil_of_le (Nat.le_of_eq Array.length_toList)]
      exact Nat.le_refl _
/-- 'throw new E()': new; dup; invokespecial; athrow -/
theorem vx_throw0 {cc : ByteArray} {pc : Nat} (hexec : p.tables.exec = Jvm.exec) (hb : c.code = cc) (hl : l.stackTraces = false) {own cls : String} {names : List String} {ik ic mc ms : Nat} {A : Nat → Prop}
    (hown : s.vm.findClass own = some m.cls) (hcls : Bundle.fit cls = true) (hnames : ∀ n ∈ names, Bundle.fit n = true)
    (hk : (Cond.classLink own ik cls).before args s = true) (hini : (Cond.initialized cls).before args s = true) (hat : ∀ w ∈ vx_at0 own ic cls names, w.before args s = true)
    (hgood : ∀ w ∈ Cond.classLink own ik cls :: Cond.initialized cls :: vx_at0 own ic cls names, vx_ot w = true)
    (hU : vx_Zq Bundle.tN "UNASSIGNED_STACK" Bundle.steD A s s.heap) (hN : vx_Zq Bundle.tN "SUPPRESSED_SENTINEL" Bundle.listD A s s.heap) (hS : va_S A s.heap H locs) (hsize : ls.size = c.maxLocals)
    (d0 : decode cc pc = .ok (.new ik, 3)) (d3 : decode cc (pc + 3) = .ok (.dup, 1)) (d4 : decode cc (pc + 4) = .ok (.invokespecial ic, 3)) (d7 : decode cc (pc + 7) = .ok (.athrow, 1))
    (hout : ∀ x ∈ c.exceptionTable.toList, covers x (pc + 7) = false)
    (hRframes : names.length + 3 < R.frames) (hRlocals : (rest.map fun v => v.category).sum + (13 * (names.length + 1) + 42) ≤ R.locals) (hRcells : cells + 1 ≤ R.cells) (hRslots : slots + 6 ≤ R.slots) (hlocks : meth.locks = false)
    (hx : ∀ t : State, s.vm.Alike t.vm → H.size ≤ t.heap.size → (∀ q : Nat, q < H.size → t.heap[q]? = H[q]?) → XC cls s t)
    (hf : ∀ z ∈ locs, free z.base) (hc : cells + 1 ≤ mc) (hs : slots + 6 ≤ ms) :
    W p l e R s m args below meth c H locs cells slots (vx_MQ below Qc XC args s mc ms free) (F0 m pc ls rest) := by
  intro T hT X
  have htr : e.platform.stackTraces = false := (show e.platform.stackTraces = l.stackTraces by rw [X.admits.platform]).trans hl
  have Y := vx_rebase X (R' := { frames := R.frames, locals := R.locals, cells := 1, slots := 6 }) (Nat.le_refl _) (Nat.le_refl _) hRcells hRslots
  obtain ⟨s', hA⟩ : ∃ z, z = (T.setVm s.vm).setFrames (.invoking m args :: below) := ⟨_, rfl⟩
  rw [← hA] at Y
  have hvm : s'.vm = s.vm := by rw [hA]; rfl
  have hhp : s'.heap = H := by rw [hA]; exact hT
  have hW0 : s.WarmedH s'.vm := by rw [hvm]; exact State.WarmedH.refl s
  have hat' : ∀ w ∈ vx_at0 own ic cls names, w.before args s' = true := fun w hw => vx_ot_at hW0 hvm.symm (hgood w (List.mem_cons_of_mem _ (List.mem_cons_of_mem _ hw))) (hat w hw)
  have hk' : (Cond.classLink own ik cls).before args s' = true := vx_ot_at hW0 hvm.symm (hgood _ List.mem_cons_self) hk
  have hini' : (Cond.initialized cls).before args s' = true := vx_ot_at hW0 hvm.symm (hgood _ (List.mem_cons_of_mem _ List.mem_cons_self)) hini
  have hU' : vx_Zq Bundle.tN "UNASSIGNED_STACK" Bundle.steD A s' s'.heap := by rw [hhp]; exact vx_Zq.moved hW0.alike (hU.kept hS.2.1)
  have hN' : vx_Zq Bundle.tN "SUPPRESSED_SENTINEL" Bundle.listD A s' s'.heap := by rw [hhp]; exact vx_Zq.moved hW0.alike (hN.kept hS.2.1)
  have h : ∀ w ∈ Bundle.ownAtoms0 own ic cls names, w.before args s' = true := vx_own hat' (vx_isRefq hU'.1) (vx_isRefq hN'.1) hU'.2.word hN'.2.word
  have hown' : s'.vm.findClass own = some m.cls := by rw [hvm]; exact hown
  have hins : (Cond.instantiable cls 6).before args s' = true := h _ (by simp [Bundle.ownAtoms0])
  obtain ⟨vm₁, cX, kX, hfX, hkX, -, -, X₁, st1⟩ := Y.newCold hexec (own := own) (C := cls) (index := ik) (n := 6) hown' hk' hins hini'
    (g := F0 m pc ls rest) rfl (by rw [hb]; exact d0) (Nat.le_refl _) (Nat.le_refl _)
  generalize hT1 : (T.setVm vm₁).pushCell { cls := cX, slots := kX.instanceTypes.map defaultValue, vm := .none } = T1 at X₁ st1
  have hcat : (Value.ref T.heap.size).category = 1 := rfl
  have hcellA : T1.heap[T.heap.size]? = some (freshCell cX kX) := by rw [← hT1]; exact State.heap_pushCell_size _ _
  have d3' : decode c.code (pc + 3) = .ok (.dup, 1) := by rw [hb]; exact d3
  obtain ⟨U, hsteps, hrun, hend, hW, hsame, ce, hce, hO⟩ := X₁.ctorThrow0 hexec htr (own := own) (cls := cls) (names := names) (ic := ic) hown' hcls hnames h (fun x hx => nomatch hx) hfX hkX hcellA (by rw [hhp, hT]; exact Nat.le_refl _)
    (g := { method := m, pc := pc + 4, locals := ls, stack := .ref T.heap.size :: .ref T.heap.size :: rest, locked := none }) rfl hsize rfl rfl (rest := rest) rfl
    (by rw [hb]; exact d4) (by rw [hb]; exact d7) hout hRframes (by simp only [List.map_cons, List.sum_cons, hcat]; omega) hlocks
  obtain ⟨f1, f2⟩ := vx_frame hsame
  rw [hhp] at f1 f2
  have hWs : s.WarmedH U.vm := State.WarmedH.trans hW0 hW
  have hcl : s.vm.findClass cls = some ce.cls := by
    have h9 := hO.cls
    rw [hvm] at h9
    exact h9
  have hall : s.sameButNew ({ U with vm := s.vm } : State) locs mc ms := by
    subst hA
    obtain ⟨e1, e2⟩ := hsame
    rw [State.setFrames_setFrames] at e1
    have h2 : (T.setVm s.vm).sameButNew ({ U with vm := s.vm } : State) [] (0 + 1) (0 + 6) := ⟨e1, e2⟩
    have h3 := X.same.trans h2
    rw [List.append_nil] at h3
    exact h3.mono hc hs
  refine ⟨U, ?_, .threw T.heap.size, hrun, hend, Or.inr ⟨T.heap.size, rfl, cls, ce, locs, hx U hWs.alike f1 (fun q hq => f2 q hq (fun z hz => nomatch hz)), hce, hO.vm, hcl, hWs, hall, hf⟩⟩
  refine st1 _ ?_
  show Steps p.tables e below (T1.setTop { method := m, pc := pc + 3, locals := ls, stack := .ref T.heap.size :: rest, locked := none }) _
  jvm_step X₁.here [X₁.here.top, hexec, d3', Value.category]
  exact hsteps
/-- 'throw new E("text")': new; dup; ldc; invokespecial; athrow -/
theorem vx_throwS {cc : ByteArray} {pc : Nat} (hexec : p.tables.exec = Jvm.exec) (hb : c.code = cc) (hl : l.stackTraces = false) {own cls text : String} {names : List String} {ik is ic mc ms sa : Nat} {A : Nat → Prop}
    (hown : s.vm.findClass own = some m.cls) (hcls : Bundle.fit cls = true) (hnames : ∀ n ∈ names, Bundle.fit n = true)
    (hk : (Cond.classLink own ik cls).before args s = true) (hini : (Cond.initialized cls).before args s = true) (hstr : vk_R own is text sa s) (hat : ∀ w ∈ vx_atS own ic cls names, w.before args s = true)
    (hgood : ∀ w ∈ Cond.classLink own ik cls :: Cond.initialized cls :: vx_atS own ic cls names, vx_ot w = true)
    (hU : vx_Zq Bundle.tN "UNASSIGNED_STACK" Bundle.steD A s s.heap) (hN : vx_Zq Bundle.tN "SUPPRESSED_SENTINEL" Bundle.listD A s s.heap) (hS : va_S A s.heap H locs) (hsize : ls.size = c.maxLocals)
    (d0 : decode cc pc = .ok (.new ik, 3)) (d3 : decode cc (pc + 3) = .ok (.dup, 1)) (d4 : decode cc (pc + 4) = .ok (.ldc is, 2)) (d6 : decode cc (pc + 6) = .ok (.invokespecial ic, 3)) (d9 : decode cc (pc + 9) = .ok (.athrow, 1))
    (hout : ∀ x ∈ c.exceptionTable.toList, covers x (pc + 9) = false)
    (hRframes : names.length + 3 < R.frames) (hRlocals : (rest.map fun v => v.category).sum + (13 * (names.length + 1) + 43) ≤ R.locals) (hRcells : cells + 1 ≤ R.cells) (hRslots : slots + 6 ≤ R.slots) (hlocks : meth.locks = false)
    (hx : ∀ t : State, s.vm.Alike t.vm → H.size ≤ t.heap.size → (∀ q : Nat, q < H.size → t.heap[q]? = H[q]?) → XC cls s t)
    (hf : ∀ z ∈ locs, free z.base) (hc : cells + 1 ≤ mc) (hs : slots + 6 ≤ ms) :
    W p l e R s m args below meth c H locs cells slots (vx_MQ below Qc XC args s mc ms free) (F0 m pc ls rest) := by
  intro T hT X
  have htr : e.platform.stackTraces = false := (show e.platform.stackTraces = l.stackTraces by rw [X.admits.platform]).trans hl
  have Y := vx_rebase X (R' := { frames := R.frames, locals := R.locals, cells := 1, slots := 6 }) (Nat.le_refl _) (Nat.le_refl _) hRcells hRslots
  obtain ⟨s', hA⟩ : ∃ z, z = (T.setVm s.vm).setFrames (.invoking m args :: below) := ⟨_, rfl⟩
  rw [← hA] at Y
  have hvm : s'.vm = s.vm := by rw [hA]; rfl
  have hhp : s'.heap = H := by rw [hA]; exact hT
  have hW0 : s.WarmedH s'.vm := by rw [hvm]; exact State.WarmedH.refl s
  have hat' : ∀ w ∈ vx_atS own ic cls names, w.before args s' = true := fun w hw => vx_ot_at hW0 hvm.symm (hgood w (List.mem_cons_of_mem _ (List.mem_cons_of_mem _ hw))) (hat w hw)
  have hk' : (Cond.classLink own ik cls).before args s' = true := vx_ot_at hW0 hvm.symm (hgood _ List.mem_cons_self) hk
  have hini' : (Cond.initialized cls).before args s' = true := vx_ot_at hW0 hvm.symm (hgood _ (List.mem_cons_of_mem _ List.mem_cons_self)) hini
  have hU' : vx_Zq Bundle.tN "UNASSIGNED_STACK" Bundle.steD A s' s'.heap := by rw [hhp]; exact vx_Zq.moved hW0.alike (hU.kept hS.2.1)
  have hN' : vx_Zq Bundle.tN "SUPPRESSED_SENTINEL" Bundle.listD A s' s'.heap := by rw [hhp]; exact vx_Zq.moved hW0.alike (hN.kept hS.2.1)
  have h : ∀ w ∈ Bundle.ownAtoms own ic cls names, w.before args s' = true := vx_own hat' (vx_isRefq hU'.1) (vx_isRefq hN'.1) hU'.2.word hN'.2.word
  have hown' : s'.vm.findClass own = some m.cls := by rw [hvm]; exact hown
  have hins : (Cond.instantiable cls 6).before args s' = true := h _ (by simp [Bundle.ownAtoms])
  obtain ⟨vm₁, cX, kX, hfX, hkX, -, -, X₁, st1⟩ := Y.newCold hexec (own := own) (C := cls) (index := ik) (n := 6) hown' hk' hins hini'
    (g := F0 m pc ls rest) rfl (by rw [hb]; exact d0) (Nat.le_refl _) (Nat.le_refl _)
  generalize hT1 : (T.setVm vm₁).pushCell { cls := cX, slots := kX.instanceTypes.map defaultValue, vm := .none } = T1 at X₁ st1
  have hcat : (Value.ref T.heap.size).category = 1 := rfl
  have hcellA : T1.heap[T.heap.size]? = some (freshCell cX kX) := by rw [← hT1]; exact State.heap_pushCell_size _ _
  have d3' : decode c.code (pc + 3) = .ok (.dup, 1) := by rw [hb]; exact d3
  have d4' : decode c.code (pc + 4) = .ok (.ldc is, 2) := by rw [hb]; exact d4
  have hstr' : vk_R own is text sa s' := vk_R.warm hW0 hstr
  obtain ⟨U, hsteps, hrun, hend, hW, hsame, ce, hce, hO⟩ := X₁.ctorThrowS hexec htr (own := own) (cls := cls) (names := names) (ic := ic) hown' hcls hnames h (fun x hx => nomatch hx) hfX hkX hcellA (by rw [hhp, hT]; exact Nat.le_refl _) (msg := .ref sa) rfl
    (g := { method := m, pc := pc + 6, locals := ls, stack := .ref sa :: .ref T.heap.size :: .ref T.heap.size :: rest, locked := none }) rfl hsize rfl rfl (rest := rest) rfl
    (by rw [hb]; exact d6) (by rw [hb]; exact d9) hout hRframes (by simp only [List.map_cons, List.sum_cons, hcat]; omega) hlocks
  obtain ⟨f1, f2⟩ := vx_frame hsame
  rw [hhp] at f1 f2
  have hWs : s.WarmedH U.vm := State.WarmedH.trans hW0 hW
  have hcl : s.vm.findClass cls = some ce.cls := by
    have h9 := hO.cls
    rw [hvm] at h9
    exact h9
  have hall : s.sameButNew ({ U with vm := s.vm } : State) locs mc ms := by
    subst hA
    obtain ⟨e1, e2⟩ := hsame
    rw [State.setFrames_setFrames] at e1
    have h2 : (T.setVm s.vm).sameButNew ({ U with vm := s.vm } : State) [] (0 + 1) (0 + 6) := ⟨e1, e2⟩
    have h3 := X.same.trans h2
    rw [List.append_nil] at h3
    exact h3.mono hc hs
  refine ⟨U, ?_, .threw T.heap.size, hrun, hend, Or.inr ⟨T.heap.size, rfl, cls, ce, locs, hx U hWs.alike f1 (fun q hq => f2 q hq (fun z hz => nomatch hz)), hce, hO.vm, hcl, hWs, hall, hf⟩⟩
  refine st1 _ ?_
  show Steps p.tables e below (T1.setTop { method := m, pc := pc + 3, locals := ls, stack := .ref T.heap.size :: rest, locked := none }) _
  jvm_step X₁.here [X₁.here.top, hexec, d3', Value.category]
  exact X₁.ldcString hexec (own := own) (text := text) (index := is) (a := sa) hown' hstr'.1 hstr'.2
    (g := { method := m, pc := pc + 4, locals := ls, stack := .ref T.heap.size :: .ref T.heap.size :: rest, locked := none }) rfl d4' _ hsteps
/-- 'throw new E("text")', the text by a wide index -/
theorem vx_throwSW {cc : ByteArray} {pc : Nat} (hexec : p.tables.exec = Jvm.exec) (hb : c.code = cc) (hl : l.stackTraces = false) {own cls text : String} {names : List String} {ik is ic mc ms sa : Nat} {A : Nat → Prop}
    (hown : s.vm.findClass own = some m.cls) (hcls : Bundle.fit cls = true) (hnames : ∀ n ∈ names, Bundle.fit n = true)
    (hk : (Cond.classLink own ik cls).before args s = true) (hini : (Cond.initialized cls).before args s = true) (hstr : vk_R own is text sa s) (hat : ∀ w ∈ vx_atS own ic cls names, w.before args s = true)
    (hgood : ∀ w ∈ Cond.classLink own ik cls :: Cond.initialized cls :: vx_atS own ic cls names, vx_ot w = true)
    (hU : vx_Zq Bundle.tN "UNASSIGNED_STACK" Bundle.steD A s s.heap) (hN : vx_Zq Bundle.tN "SUPPRESSED_SENTINEL" Bundle.listD A s s.heap) (hS : va_S A s.heap H locs) (hsize : ls.size = c.maxLocals)
    (d0 : decode cc pc = .ok (.new ik, 3)) (d3 : decode cc (pc + 3) = .ok (.dup, 1)) (d4 : decode cc (pc + 4) = .ok (.ldc_w is, 3)) (d7 : decode cc (pc + 7) = .ok (.invokespecial ic, 3)) (d10 : decode cc (pc + 10) = .ok (.athrow, 1))
    (hout : ∀ x ∈ c.exceptionTable.toList, covers x (pc + 10) = false)
    (hRframes : names.length + 3 < R.frames) (hRlocals : (rest.map fun v => v.category).sum + (13 * (names.length + 1) + 43) ≤ R.locals) (hRcells : cells + 1 ≤ R.cells) (hRslots : slots + 6 ≤ R.slots) (hlocks : meth.locks = false)
    (hx : ∀ t : State, s.vm.Alike t.vm → H.size ≤ t.heap.size → (∀ q : Nat, q < H.size → t.heap[q]? = H[q]?) → XC cls s t)
    (hf : ∀ z ∈ locs, free z.base) (hc : cells + 1 ≤ mc) (hs : slots + 6 ≤ ms) :
    W p l e R s m args below meth c H locs cells slots (vx_MQ below Qc XC args s mc ms free) (F0 m pc ls rest) := by
  intro T hT X
  have htr : e.platform.stackTraces = false := (show e.platform.stackTraces = l.stackTraces by rw [X.admits.platform]).trans hl
  have Y := vx_rebase X (R' := { frames := R.frames, locals := R.locals, cells := 1, slots := 6 }) (Nat.le_refl _) (Nat.le_refl _) hRcells hRslots
  obtain ⟨s', hA⟩ : ∃ z, z = (T.setVm s.vm).setFrames (.invoking m args :: below) := ⟨_, rfl⟩
  rw [← hA] at Y
  have hvm : s'.vm = s.vm := by rw [hA]; rfl
  have hhp : s'.heap = H := by rw [hA]; exact hT
  have hW0 : s.WarmedH s'.vm := by rw [hvm]; exact State.WarmedH.refl s
  have hat' : ∀ w ∈ vx_atS own ic cls names, w.before args s' = true := fun w hw => vx_ot_at hW0 hvm.symm (hgood w (List.mem_cons_of_mem _ (List.mem_cons_of_mem _ hw))) (hat w hw)
  have hk' : (Cond.classLink own ik cls).before args s' = true := vx_ot_at hW0 hvm.symm (hgood _ List.mem_cons_self) hk
  have hini' : (Cond.initialized cls).before args s' = true := vx_ot_at hW0 hvm.symm (hgood _ (List.mem_cons_of_mem _ List.mem_cons_self)) hini
  have hU' : vx_Zq Bundle.tN "UNASSIGNED_STACK" Bundle.steD A s' s'.heap := by rw [hhp]; exact vx_Zq.moved hW0.alike (hU.kept hS.2.1)
  have hN' : vx_Zq Bundle.tN "SUPPRESSED_SENTINEL" Bundle.listD A s' s'.heap := by rw [hhp]; exact vx_Zq.moved hW0.alike (hN.kept hS.2.1)
  have h : ∀ w ∈ Bundle.ownAtoms own ic cls names, w.before args s' = true := vx_own hat' (vx_isRefq hU'.1) (vx_isRefq hN'.1) hU'.2.word hN'.2.word
  have hown' : s'.vm.findClass own = some m.cls := by rw [hvm]; exact hown
  have hins : (Cond.instantiable cls 6).before args s' = true := h _ (by simp [Bundle.ownAtoms])
  obtain ⟨vm₁, cX, kX, hfX, hkX, -, -, X₁, st1⟩ := Y.newCold hexec (own := own) (C := cls) (index := ik) (n := 6) hown' hk' hins hini'
    (g := F0 m pc ls rest) rfl (by rw [hb]; exact d0) (Nat.le_refl _) (Nat.le_refl _)
  generalize hT1 : (T.setVm vm₁).pushCell { cls := cX, slots := kX.instanceTypes.map defaultValue, vm := .none } = T1 at X₁ st1
  have hcat : (Value.ref T.heap.size).category = 1 := rfl
  have hcellA : T1.heap[T.heap.size]? = some (freshCell cX kX) := by rw [← hT1]; exact State.heap_pushCell_size _ _
  have d3' : decode c.code (pc + 3) = .ok (.dup, 1) := by rw [hb]; exact d3
  have d4' : decode c.code (pc + 4) = .ok (.ldc_w is, 3) := by rw [hb]; exact d4
  have hstr' : vk_R own is text sa s' := vk_R.warm hW0 hstr
  obtain ⟨U, hsteps, hrun, hend, hW, hsame, ce, hce, hO⟩ := X₁.ctorThrowS hexec htr (own := own) (cls := cls) (names := names) (ic := ic) hown' hcls hnames h (fun x hx => nomatch hx) hfX hkX hcellA (by rw [hhp, hT]; exact Nat.le_refl _) (msg := .ref sa) rfl
    (g := { method := m, pc := pc + 7, locals := ls, stack := .ref sa :: .ref T.heap.size :: .ref T.heap.size :: rest, locked := none }) rfl hsize rfl rfl (rest := rest) rfl
    (by rw [hb]; exact d7) (by rw [hb]; exact d10) hout hRframes (by simp only [List.map_cons, List.sum_cons, hcat]; omega) hlocks
  obtain ⟨f1, f2⟩ := vx_frame hsame
  rw [hhp] at f1 f2
  have hWs : s.WarmedH U.vm := State.WarmedH.trans hW0 hW
  have hcl : s.vm.findClass cls = some ce.cls := by
    have h9 := hO.cls
    rw [hvm] at h9
    exact h9
  have hall : s.sameButNew ({ U with vm := s.vm } : State) locs mc ms := by
    subst hA
    obtain ⟨e1, e2⟩ := hsame
    rw [State.setFrames_setFrames] at e1
    have h2 : (T.setVm s.vm).sameButNew ({ U with vm := s.vm } : State) [] (0 + 1) (0 + 6) := ⟨e1, e2⟩
    have h3 := X.same.trans h2
    rw [List.append_nil] at h3
    exact h3.mono hc hs
  refine ⟨U, ?_, .threw T.heap.size, hrun, hend, Or.inr ⟨T.heap.size, rfl, cls, ce, locs, hx U hWs.alike f1 (fun q hq => f2 q hq (fun z hz => nomatch hz)), hce, hO.vm, hcl, hWs, hall, hf⟩⟩
  refine st1 _ ?_
  show Steps p.tables e below (T1.setTop { method := m, pc := pc + 3, locals := ls, stack := .ref T.heap.size :: rest, locked := none }) _
  jvm_step X₁.here [X₁.here.top, hexec, d3', Value.category]
  exact X₁.ldcStringW hexec (own := own) (text := text) (index := is) (a := sa) hown' hstr'.1 hstr'.2
    (g := { method := m, pc := pc + 4, locals := ls, stack := .ref T.heap.size :: .ref T.heap.size :: rest, locked := none }) rfl d4' _ hsteps
end Ends
section Bodies
variable {l : Launch}
theorem vx_ofW {y : MethodName} {ws ws' : List Cond} {rm : Room} {Pc : Array Value → State → Prop} {Qc : Array Value → State → Outcome → State → Prop} {XC : String → State → State → Prop} {mc ms : Nat} {free : Addr → Prop} {cc : ByteArray} {maxL : Nat} {ret : Option FieldType}
    (hy : plainName y.cls = true) (hw : ws = Cond.code y cc maxL ret :: ws')
    (body : ∀ p e s m args below meth c s₁, BodyLoose p l y (headSpec ws rm) cc maxL ret e s m args below meth c s₁ → c.maxLocals = maxL → (∀ x ∈ c.exceptionTable.toList, False) → Pc args s →
      W p l e (headSpec ws rm).room s m args below meth c s.heap [] 0 0 (vx_MQ below Qc XC args s mc ms free) (entryFrame m args maxL)) : vx_Met l y ws rm Pc Qc XC mc ms free := by
  refine MetFree.of_bodyS (code := cc) (maxLocals := maxL) (ret := ret) hy ?_ ?_
  · intro args s m h hn
    obtain ⟨meth, c, h1, h2, h3, h4, h5, h6, -, -⟩ := Cond.code_spec hn (atoms_spec (ws := ws) h _ (by rw [hw]; exact List.mem_cons_self))
    exact ⟨meth, c, h1, h2, h3, h4, h5, h6⟩
  · intro p e s m args below meth c s₁ B hml hP _
    have hh0 : s₁.heap = s.heap := by rw [B.state]; rfl
    have ht : ∀ x ∈ c.exceptionTable.toList, False := by
      obtain ⟨meth9, c9, h1, h2, -, -, -, -, h7, -⟩ := Cond.code_spec B.named (atoms_spec (ws := ws) B.pre _ (by rw [hw]; exact List.mem_cons_self))
      cases Option.some.inj (h1.symm.trans B.method)
      cases Option.some.inj (h2.symm.trans (Stand.of_body B).code)
      intro x hx
      rw [Array.isEmpty_iff.mp h7] at hx
      cases hx
    obtain ⟨t, a1, o, b1, b2, b3⟩ := body p e s m args below meth c s₁ B hml ht hP s₁ hh0 (Stand.of_body B)
    exact ⟨t, o, a1, b1, b2, b3⟩
/-- the table of a body with handlers -/
theorem vx_table {p : Program} {x y : MethodName} {S : Spec} {cc bytes : ByteArray} {maxL maxL' : Nat} {ret ret' : Option FieldType} {e : Env} {s s₁ : State} {m : MethodId} {args : Array Value} {below : List Frame} {meth : Method} {c : Code} {hh : List (Nat × Nat × Nat × Nat)}
    (B : BodyLoose p l y S cc maxL ret e s m args below meth c s₁) (h : (Cond.codeWith y bytes maxL' ret' hh).before args s = true) : c.exceptionTable.toList = tableOf hh := by
  obtain ⟨m9, meth9, c9, hn9, h1, h2, -, -, h6, -⟩ := Cond.codeWith_spec h
  cases Option.some.inj (hn9.symm.trans B.named)
  cases Option.some.inj (h1.symm.trans B.method)
  cases Option.some.inj (h2.symm.trans (Stand.of_body B).code)
  rw [← h6, table_eq]
end Bodies
end VXA
/-! ===== END ===== -/
/-! ===== BEGIN a static call of a method with an exception table ===== -/
section VXS
variable {p : Program} {l : Launch} {e : Env} {R : Room} {s : State} {m : MethodId} {args : Array Value} {below : List Frame} {meth : Method} {c : Code} {T : State} {H : Heap} {locs : List Loc} {cells slots : Nat}
abbrev vx_CSW (R : Room) (s : State) (args : Array Value) (own : String) (index : Nat) (y : MethodName) (bytes : ByteArray) (maxL : Nat) (ret : Option FieldType) (hh : List (Nat × Nat × Nat × Nat)) (ws : List Cond) (rm : Room) (mc ms n : Nat) : Prop :=
  (rm.cells = mc ∧ rm.slots = ms ∧ rm.frames + 1 ≤ R.frames ∧ 8 + (maxL + 11) + rm.locals ≤ R.locals ∧ (∀ w ∈ ws, ∀ (a' : Array Value) (U : State), s.WarmedH U.vm → w.before a' U = true) ∧ Cond.codeWith y bytes maxL ret hh ∈ ws) ∧
  (Cond.codeWith y bytes maxL ret hh).before args s = true ∧ (Cond.initialized y.cls).before args s = true ∧ (y.cls ≠ "java/lang/invoke/MethodHandle" ∧ y.cls ≠ "java/lang/invoke/VarHandle") ∧
  (∀ sig, parseMethodDescriptor y.desc = some sig → n = sig.parameters.length) ∧ (Cond.methodLink own index y).before args s = true ∧ (Cond.static y).before args s = true
theorem vx_cwSW {own : String} {index maxL mc ms : Nat} {y : MethodName} {bytes : ByteArray} {ret : Option FieldType} {hh : List (Nat × Nat × Nat × Nat)} {Ts ws ws' : List Cond} {rm : Room} (n : Nat) (ht : ∀ w ∈ Ts, w.before args s = true) (hT : GoodIn Ts (va_wsS own index y ws)) (hw : ws = Cond.codeWith y bytes maxL ret hh :: ws') (hrc : rm.cells = mc) (hrs : rm.slots = ms)
    (hd : y.cls ≠ "java/lang/invoke/MethodHandle" ∧ y.cls ≠ "java/lang/invoke/VarHandle" ∧ (parseMethodDescriptor y.desc).map (fun d => d.parameters.length) = some n) (hR : rm.frames + 1 ≤ R.frames ∧ 8 + (maxL + 11) + rm.locals ≤ R.locals) :
    vx_CSW R s args own index y bytes maxL ret hh ws rm mc ms n := by
  have ok : ∀ w ∈ va_wsS own index y ws, w.before args s = true := fun w h => ht w (hT w h).1
  have hG : GoodIn Ts ws := fun w h => hT w (by unfold va_wsS; exact List.mem_append_right _ h)
  have hc : Cond.codeWith y bytes maxL ret hh ∈ ws := by rw [hw]; exact List.mem_cons_self
  refine ⟨⟨hrc, hrs, hR.1, hR.2, pay_in ht hG, hc⟩, ht _ (hG _ hc).1, ok _ (by simp [va_wsS]), ⟨hd.1, hd.2.1⟩, fun sig h => ?_, ok _ (by simp [va_wsS]), ok _ (by simp [va_wsS])⟩
  have h2 := hd.2.2
  rw [h] at h2
  exact (Option.some.inj h2).symm
theorem vx_callSW (X : Stand p l e R s m args below meth c T locs cells slots) (hexec : p.tables.exec = Jvm.exec) {own : String} {index : Nat} {y : MethodName} {bytes : ByteArray} {maxL : Nat} {ret : Option FieldType} {hh : List (Nat × Nat × Nat × Nat)}
    (hown : s.vm.findClass own = some m.cls) (hlink : (Cond.methodLink own index y).before args s = true) (hstat : (Cond.static y).before args s = true) (hinit : (Cond.initialized y.cls).before args s = true)
    (hcode : (Cond.codeWith y bytes maxL ret hh).before args s = true) (hy : y.cls ≠ "java/lang/invoke/MethodHandle" ∧ y.cls ≠ "java/lang/invoke/VarHandle")
    {W9 : Nat} {Pre : Pt → Array Value → Prop} {Post : Pt → Array Value → Option Value → Pt → Prop} (hK : Back l R p e below s args y 3 W9 Pre Post)
    {g : JFrame} (hg : g.method = m) (hsize : g.locals.size = c.maxLocals) {argsL rest : List Value} (hlen : ∀ sig, parseMethodDescriptor y.desc = some sig → argsL.length = sig.parameters.length)
    (hstack : g.stack = argsL.reverse ++ rest) (hW : 2 * g.monitorRoom + (rest.map fun v => v.category).sum ≤ W9) (hdg : decode c.code g.pc = .ok (.invokestatic index, 3))
    (hpre : ∀ vm₁, s.WarmedH vm₁ → Pre ⟨T.setVm vm₁, locs, cells, slots⟩ argsL.toArray) :
    ∃ (v : Option Value) (vm₁ : Vm) (B : Pt), s.WarmedH vm₁ ∧ Stand p l e R s m args below meth c B.U B.locs B.cells B.slots ∧ Post ⟨T.setVm vm₁, locs, cells, slots⟩ argsL.toArray v B ∧
      ∀ target, Steps p.tables e below (B.U.setTop { g with pc := g.pc + 3, stack := v.toList ++ rest }) target → Steps p.tables e below (T.setTop g) target := by
  obtain ⟨mk, methM, cM, hnamed, hmethM, -, -, -, -, -, -, hsigM⟩ := Cond.codeWith_spec hcode
  have hstatic : methM.isStatic = true := Cond.static_spec hnamed hmethM hstat
  obtain ⟨kP, hkP, -⟩ := className_of_methodNamed hnamed
  have hinitP : kP.init = .initialized := Cond.initialized_spec (findClass_of_methodNamed hnamed) hkP hinit
  obtain ⟨vm₁, X₁, hstep₁⟩ := X.invokestatic hexec hown hlink hnamed hmethM hstatic hkP hinitP hy (g := g) hg (argsL := argsL) (rest := rest) (hlen _ hsigM) hstack hdg
  obtain ⟨v, B, X', hpost, hsteps⟩ := hK m meth c ⟨T.setVm vm₁, locs, cells, slots⟩ { g with stack := rest } (.invokestatic index) mk argsL.toArray X₁ hg hsize hdg hW (X₁.named hnamed) (hpre vm₁ X₁.warmed)
  exact ⟨v, vm₁, B, X₁.warmed, X', hpost, fun target h => hstep₁ _ fun acts => by rw [doInvoke_state]; exact hsteps.trans h⟩
theorem vx_runSW {y : MethodName} {bytes cc : ByteArray} {maxL nL mc ms n index : Nat} {ret : Option FieldType} {hh : List (Nat × Nat × Nat × Nat)} {ws : List Cond} {rm : Room} {Pc : Array Value → State → Prop} {Qc : Array Value → State → Outcome → State → Prop} {free : Addr → Prop} {Ts : List Cond} {own : String} {As rest : List Value} {g : JFrame}
    (S : CallFix p m c cc nL s args Ts own) (hM : Met l y ws rm Pc Qc mc ms free) (cw : vx_CSW R s args own index y bytes maxL ret hh ws rm mc ms n) (hp : PreS s H Pc As)
    (hg : g.method = m) (hn : As.length = n) (hsize : g.locals.size = nL) (hstack : g.stack = As.reverse ++ rest) (hW : 2 * g.monitorRoom + (rest.map fun v => v.category).sum ≤ 8) (hdg : decode cc g.pc = .ok (.invokestatic index, 3)) (hf : cells + mc ≤ R.cells ∧ slots + ms ≤ R.slots) :
    va_Run p l e R s m args below meth c H locs cells slots mc ms g rest (Qc As.toArray) (free) := by
  obtain ⟨⟨hrc, hrs, hfr, hlo, hws, hcw⟩, hcode, hini, hy, hlen, hl, hstt⟩ := cw
  have hK : Back l R p e below s args y 3 8 (PreOf R mc ms Pc) (PostOf Qc mc ms free) := va_backW (hh := hh) (bytes := bytes) (maxL := maxL) (ret := ret) hM hp.1 hrc hrs hfr hlo hws hcw (fun a' U hW => word_at hW (Or.inl (by first | rfl | simp [Cond.onTables, Cond.keeps, Cond.steady])) hini)
  obtain ⟨hx, hb, hml, ho, -⟩ := S
  intro T hT X
  obtain ⟨v, vm₁, ⟨U', l2, c2, s2⟩, hW₁, X', ⟨g', mk, t, L, e1, e2, hq, h1, hL, h2, h3⟩, st⟩ := vx_callSW X hx (hh := hh) (bytes := bytes) (maxL := maxL) (ret := ret) ho hl hstt hini hcode hy hK hg (hsize.trans hml.symm) (argsL := As) (rest := rest) (fun sig h => hn.trans (hlen sig h)) hstack hW (by rw [hb]; exact hdg)
    (fun vm₁ hW₁ => ⟨hf.1, hf.2, hp.2 (T.setVm vm₁) hT hW₁⟩)
  dsimp only [Pt.U, Pt.locs, Pt.cells, Pt.slots] at X' e1 e2 h1 h2 h3 st
  subst h1; subst h2; subst h3
  exact ⟨v, (T.setVm vm₁).calling g' mk As.toArray, t, U', L, hT, X', hL, e1, e2, hq, st⟩
/-- not caught here, past rows that name other classes: it goes on to the caller -/
theorem vx_outP {p : Program} {l : Launch} {e : Env} {R : Room} {s : State} {m : MethodId} {args : Array Value} {below : List Frame} {meth : Method} {c : Code} {H : Heap} {locs : List Loc} {cells slots : Nat} {free : Addr → Prop} {ls : Array Slot} {rest : List Value} {Qc : Array Value → State → Outcome → State → Prop} {XC : String → State → State → Prop}
    {pc : Nat} {own E : String} {ce : Cell} {q : Addr} {mc ms : Nat} (hown : s.vm.findClass own = some m.cls) (hlocks : meth.locks = false)
    (hpass : ∀ z ∈ c.exceptionTable.toList, covers z pc = false ∨ (z.catchType ≠ 0 ∧ ∃ nm : String, (Cond.classLink own z.catchType nm).before args s = true ∧ va_Nc E nm s)) (hcell : H[q]? = some ce) (hv : ce.vm = .none) (hcl : s.vm.findClass E = some ce.cls)
    (hx : ∀ t : State, t.heap = H → s.vm.Alike t.vm → XC E s t) (hf : ∀ z ∈ locs, free z.base) (hc : cells ≤ mc) (hs : slots ≤ ms) :
    vx_W p l e R s m args below meth c H locs cells slots (vx_MQ below Qc XC args s mc ms free) (F0 m pc ls rest) q := by
  intro T hT X
  have hpl : e.platform.magicAccessors = ({} : Platform).magicAccessors := by rw [X.admits.platform]
  obtain ⟨vm', hW', X', st⟩ := X.outThrough hlocks q (g := F0 m pc ls rest) rfl rfl rfl (cell := ce) (by rw [hT]; exact hcell) (by rw [hv]; rfl)
    (by obtain ⟨k9, h9, -⟩ := Vm.findClass_spec hcl; exact ⟨k9, h9⟩) (fun z hz => by
      rcases hpass z hz with h | ⟨hz0, nm, hl1, hn1⟩
      · exact Or.inl h
      · obtain ⟨c6, hc6, hcl6⟩ := Cond.classLink_spec hown hl1 e.platform hpl
        obtain ⟨a8, b8, h1, h2, h3⟩ := hn1
        cases Option.some.inj (h1.symm.trans hcl)
        cases Option.some.inj (h2.symm.trans hc6)
        exact Or.inr ⟨hz0, _, hcl6, h3⟩)
  obtain ⟨g₀, hfr⟩ := X'.frames_eq
  have hcell9 : ((T.setVm vm').setFrames (.throwing q :: below)).heap[q]? = some ce := by
    show T.heap[q]? = some ce
    rw [hT]; exact hcell
  have hend : Ended ((T.setVm vm').setFrames (.throwing q :: below)) below (.threw q) := State.frames_setFrames _ (State.cur_lt_of_frames hfr)
  refine ⟨(T.setVm vm').setFrames (.throwing q :: below), ?_, .threw q, X'.here.running, hend, Or.inr ⟨q, rfl, E, ce, locs, hx _ hT (X'.ends _).1.alike, hcell9, hv, hcl, (X'.ends _).1, (X'.ends _).2.mono hc hs, hf⟩⟩
  rw [X.pushThrowing_eq]
  exact st
/-- a thing of a world lies in the heap -/
theorem vx_lt {D : va_G} {cl : List vw_C} {ws : va_W} {H1 : Heap} (h : va_P D cl ws H1) {k : Nat} {q : Nat × va_E} (hk : ws[k]? = some q) : q.1 < H1.size := (h k q hk).lt
end VXS
/-! ===== END ===== -/
/-! ===== BEGIN methods with a table of their own: called by a name, returning or throwing ===== -/
section VXH
/-! vx_backW, vx_callVX, vx_callSX, vx_callVW, vx_runVW, vx_runVX, vx_runSX, vx_ofWH follow the same proofs as their sisters above (Free/Laws.lean, Shelf42/LK1.lean); vx_outP calls Shelf42/NT130.lean (outThrough). -/
section
variable {l : Launch} {R : Room} {p : Program} {e : Env} {below : List Frame} {s : State} {sargs : Array Value} {y : MethodName} {len W9 : Nat}
theorem vx_backW {ws : List Cond} {rm : Room} {Pc : Array Value → State → Prop} {Qc : Array Value → State → Outcome → State → Prop} {XC : String → State → State → Prop} {mc ms : Nat} {free : Addr → Prop} {bytes : ByteArray} {maxL : Nat} {ret : Option FieldType} {hh : List (Nat × Nat × Nat × Nat)}
    (hM : vx_Met l y ws rm Pc Qc XC mc ms free) (hblind : FrameBlind Pc) (hrc : rm.cells = mc) (hrs : rm.slots = ms)
    (hframes : rm.frames + 1 ≤ R.frames) (hlocals : W9 + (maxL + 11) + rm.locals ≤ R.locals)
    (hws : ∀ w ∈ ws, ∀ a' U, s.WarmedH U.vm → w.before a' U = true) (hcode : Cond.codeWith y bytes maxL ret hh ∈ ws) (hinit : ∀ a' U, s.WarmedH U.vm → (Cond.initialized y.cls).before a' U = true) :
    vx_Back l R p e below s sargs y len W9 (PreOf R mc ms Pc) (PostOf Qc mc ms free) (vx_Post XC mc ms free) := by
  intro m meth c A g ig mk a X hg hsize hdg hW hn hp
  have h1 : (headSpec ws rm).pre.before a A.U = true := atoms_intro fun w hw => hws w hw _ _ X.warmed
  have h2 : (Cond.codeWith y bytes maxL ret hh).before a A.U = true := hws _ hcode _ _ X.warmed
  have h3 : (Cond.initialized y.cls).before a A.U = true := hinit _ _ X.warmed
  have h4 : A.cells + (headSpec ws rm).room.cells ≤ R.cells := by rw [show (headSpec ws rm).room.cells = mc from hrc]; exact hp.1
  have h5 : A.slots + (headSpec ws rm).room.slots ≤ R.slots := by rw [show (headSpec ws rm).room.slots = ms from hrs]; exact hp.2.1
  have hPc : Pc a (A.U.calling g mk a) := hblind _ _ _ _ hp.2.2
  obtain ⟨U, Ls, c0, s0⟩ := A
  dsimp only [Pt.U, Pt.locs, Pt.cells, Pt.slots] at h1 h2 h3 h4 h5 X hn hPc ⊢
  obtain ⟨m9, methY, cY, hn9, hmY, hcY, -, hlY, -⟩ := Cond.codeWith_spec h2
  cases Option.some.inj (hn9.symm.trans hn)
  obtain ⟨kY, hkY, -⟩ := className_of_methodNamed hn
  have hinitY : kY.init = .initialized := Cond.initialized_spec (findClass_of_methodNamed hn) hkY h3
  have h : At U g.method c below := by rw [hg]; exact X.here
  have hlocals9 : W9 + (maxL + 11) + (headSpec ws rm).room.locals ≤ R.locals := hlocals
  have happ : (headSpec ws rm).appliesLoose y e.platform (U.calling g mk a) = true :=
    Spec.appliesLoose_calling (g := g) h hdg hn hkY hinitY
      (X.room_calling (g := g) (R' := (headSpec ws rm).room) hsize hmY hcY hframes (by rw [hlY]; omega) h4 h5) h1
  obtain ⟨mid, hmid⟩ := h.above
  have hfr : (U.setTop g).frames = (.java g :: mid) ++ below := by rw [State.frames_setTop' g h.top, hmid]; rfl
  obtain ⟨o, s₂, hsteps, -, hend, hq⟩ := Steps.callFree hM p X.admits X.cas X.clock (acts := []) hfr happ hPc trivial
  have hq' : vx_Q Qc XC mc ms free a (U.calling g mk a) o s₂ := hq
  rw [State.frames_setTop' g h.top] at hend
  obtain ⟨g₀, hg0⟩ := Option.isSome_iff_exists.mp h.top
  obtain ⟨r, hr⟩ := State.topJava?_eq_some.mp hg0
  have hr' : (({ U with heap := s₂.heap, slotsUsed := s₂.slotsUsed } : State).setVm s₂.vm).frames = .java g₀ :: r := hr
  rcases hq' with ⟨hqc, L, hfe, hL⟩ | ⟨q, rfl, E, ce, L, hx, hce, hcv, hcl, hW₂, hsm, hL⟩
  · obtain ⟨⟨v, rfl⟩, hW₂, e2, q2, q3, q4, q5, q6⟩ := id hfe
    have e3 : s₂ = ({ (U.calling g mk a).setFrames s₂.frames with heap := s₂.heap, slotsUsed := s₂.slotsUsed } : State).setVm s₂.vm := by
      have : s₂ = ({ s₂ with vm := (U.calling g mk a).vm } : State).setVm s₂.vm := rfl
      rw [e2] at this
      exact this
    obtain ⟨c₂, i₂, len₂, hc₂, hd₂, hf₂⟩ := hend
    have hW' : U.WarmedH s₂.vm := hW₂
    have hcc : c₂ = c := by
      have h1 : s₂.code? g.method = U.code? g.method := by
        rw [State.code?_eq, State.code?_eq, hW'.alike.method?]
      exact Option.some.inj (hc₂.symm.trans (h1.trans h.code))
    subst hcc
    have hlen : len₂ = len := by rw [hdg] at hd₂; cases hd₂; rfl
    subst hlen
    have hs₂ : s₂ = (({ U with heap := s₂.heap, slotsUsed := s₂.slotsUsed } : State).setVm s₂.vm).setTop { g with pc := g.pc + len₂, stack := v.toList ++ g.stack } := by
      refine e3.trans ?_
      rw [hf₂, State.calling_eq h.top, State.setFrames_setFrames, State.setTop_of_frames _ hr', hr]
      rfl
    have hsame : U.sameButNew ({ U with heap := s₂.heap, slotsUsed := s₂.slotsUsed } : State) L mc ms := by
      refine ⟨?_, q2, q3, q4, q5, q6⟩
      obtain ⟨t, ht, -⟩ := State.frames_cons hr
      show ({ U with heap := s₂.heap, slotsUsed := s₂.slotsUsed } : State) = { U.setFrames U.frames with heap := s₂.heap, slotsUsed := s₂.slotsUsed }
      rw [State.setFrames_self ht]
    subst hg
    refine Or.inl ⟨v, ⟨(({ U with heap := s₂.heap, slotsUsed := s₂.slotsUsed } : State).setVm s₂.vm), Ls ++ L, c0 + mc, s0 + ms⟩,
      ⟨X.admits, X.cas, X.clock, X.frames, X.room, X.hears, X.method, X.code, (X.here.setHeapUsed s₂.heap s₂.slotsUsed).setVm hW'.alike, X.tail, State.WarmedH.trans X.warmed hW', X.limits, X.bytes, X.same.trans (hsame.setVm s.vm)⟩,
      ⟨g, mk, s₂, L, rfl, rfl, hqc, rfl, hL, rfl, rfl⟩, ?_⟩
    show Steps p.tables e below _ ((({ U with heap := s₂.heap, slotsUsed := s₂.slotsUsed } : State).setVm s₂.vm).setTop { g with pc := g.pc + len₂, stack := v.toList ++ g.stack })
    rw [← hs₂]
    exact hsteps
  · obtain ⟨e2, q2, q3, q4, q5, q6⟩ := id hsm
    have e3 : s₂ = ({ (U.calling g mk a).setFrames s₂.frames with heap := s₂.heap, slotsUsed := s₂.slotsUsed } : State).setVm s₂.vm := by
      have : s₂ = ({ s₂ with vm := (U.calling g mk a).vm } : State).setVm s₂.vm := rfl
      rw [e2] at this
      exact this
    have hf₂ : s₂.frames = .throwing q :: .java g :: U.frames.tail := hend
    have hW' : U.WarmedH s₂.vm := hW₂
    have hs₂ : s₂ = ((({ U with heap := s₂.heap, slotsUsed := s₂.slotsUsed } : State).setVm s₂.vm).setTop g).pushFrame (.throwing q) := by
      refine e3.trans ?_
      rw [hf₂, State.calling_eq h.top, State.setFrames_setFrames, State.pushFrame, State.frames_setTop _ hr', State.setTop_of_frames _ hr', State.setFrames_setFrames, hr]
      rfl
    have hsame : U.sameButNew ({ U with heap := s₂.heap, slotsUsed := s₂.slotsUsed } : State) L mc ms := by
      refine ⟨?_, q2, q3, q4, q5, q6⟩
      obtain ⟨t, ht, -⟩ := State.frames_cons hr
      show ({ U with heap := s₂.heap, slotsUsed := s₂.slotsUsed } : State) = { U.setFrames U.frames with heap := s₂.heap, slotsUsed := s₂.slotsUsed }
      rw [State.setFrames_self ht]
    subst hg
    refine Or.inr ⟨q, ⟨(({ U with heap := s₂.heap, slotsUsed := s₂.slotsUsed } : State).setVm s₂.vm), Ls ++ L, c0 + mc, s0 + ms⟩,
      ⟨X.admits, X.cas, X.clock, X.frames, X.room, X.hears, X.method, X.code, (X.here.setHeapUsed s₂.heap s₂.slotsUsed).setVm hW'.alike, X.tail, State.WarmedH.trans X.warmed hW', X.limits, X.bytes, X.same.trans (hsame.setVm s.vm)⟩,
      ⟨g, mk, s₂, L, E, ce, rfl, rfl, hx, hce, hcv, hcl, rfl, hL, rfl, rfl⟩, ?_⟩
    show Steps p.tables e below _ (((({ U with heap := s₂.heap, slotsUsed := s₂.slotsUsed } : State).setVm s₂.vm).setTop g).pushFrame (.throwing q))
    rw [← hs₂]
    exact hsteps
end
variable {p : Program} {l : Launch} {e : Env} {R : Room} {s : State} {m : MethodId} {args : Array Value} {below : List Frame} {meth : Method} {c : Code} {T : State} {H : Heap} {locs : List Loc} {cells slots : Nat}
theorem vx_callVX (X : Stand p l e R s m args below meth c T locs cells slots) (hexec : p.tables.exec = Jvm.exec) {own C : String} {index : Nat} {y : MethodName} {bytes : ByteArray} {maxL : Nat} {ret : Option FieldType} {hh : List (Nat × Nat × Nat × Nat)}
    (hown : s.vm.findClass own = some m.cls) (hlink : (Cond.methodLink own index y).before args s = true) (hinst : (Cond.instanceMethod y).before args s = true) (hsel : (Cond.selects C y y).before args s = true)
    (hcode : (Cond.codeWith y bytes maxL ret hh).before args s = true) (hy : y.cls ≠ "java/lang/invoke/MethodHandle" ∧ y.cls ≠ "java/lang/invoke/VarHandle")
    {W9 : Nat} {Pre : Pt → Array Value → Prop} {Post : Pt → Array Value → Option Value → Pt → Prop} {PostX : Pt → Array Value → Addr → Pt → Prop} (hK : vx_Back l R p e below s args y 3 W9 Pre Post PostX)
    {b : Addr} {cellB : Cell} (hcell : T.heap[b]? = some cellB) (hobj : cellB.vm.isStatics = false) (hcls : s.vm.findClass C = some cellB.cls)
    {g : JFrame} (hg : g.method = m) (hsize : g.locals.size = c.maxLocals) {argsL rest : List Value} (hlen : ∀ sig, parseMethodDescriptor y.desc = some sig → argsL.length = sig.parameters.length)
    (hstack : g.stack = argsL.reverse ++ .ref b :: rest) (hW : 2 * g.monitorRoom + (rest.map fun v => v.category).sum ≤ W9) (hdg : decode c.code g.pc = .ok (.invokevirtual index, 3))
    (hpre : ∀ vm₁, s.WarmedH vm₁ → Pre ⟨T.setVm vm₁, locs, cells, slots⟩ (Value.ref b :: argsL).toArray) :
    (∃ (v : Option Value) (vm₁ : Vm) (B : Pt), s.WarmedH vm₁ ∧ Stand p l e R s m args below meth c B.U B.locs B.cells B.slots ∧ Post ⟨T.setVm vm₁, locs, cells, slots⟩ (Value.ref b :: argsL).toArray v B ∧
      ∀ target, Steps p.tables e below (B.U.setTop { g with pc := g.pc + 3, stack := v.toList ++ rest }) target → Steps p.tables e below (T.setTop g) target) ∨
    (∃ (q : Addr) (vm₁ : Vm) (B : Pt), s.WarmedH vm₁ ∧ Stand p l e R s m args below meth c B.U B.locs B.cells B.slots ∧ PostX ⟨T.setVm vm₁, locs, cells, slots⟩ (Value.ref b :: argsL).toArray q B ∧
      Steps p.tables e below (T.setTop g) ((B.U.setTop { g with stack := rest }).pushFrame (.throwing q))) := by
  obtain ⟨mk, methM, hnamed, hmethM, hstM, habM⟩ := Cond.instanceMethod_spec hinst
  obtain ⟨m8, methM', cM, hn8, hmethM', -, -, -, -, -, -, hsigM⟩ := Cond.codeWith_spec hcode
  cases Option.some.inj (hn8.symm.trans hnamed)
  cases hmethM.symm.trans hmethM'
  obtain ⟨c2, r2, m2, q1, q2, q3, q4, kP, hkP, hkPi⟩ := Cond.selects_spec hsel
  cases hcls.symm.trans q1
  cases (State.methodFound?_of_named hnamed hy).symm.trans q2
  cases hnamed.symm.trans q3
  have hselP : selectMethod e.platform s.vm cellB.cls mk = .method mk := by rw [Launch.admits_selectMethod X.admits]; exact q4
  obtain ⟨vm₁, X₁, hstep₁⟩ := X.invokevirtual hexec hown hlink hnamed hmethM hstM hkP hkPi hy (a := b) (cell := cellB) hcell
    (fun z h => by rw [h] at hobj; cases hobj) hselP hmethM habM hkP hkPi (g := g) hg (argsL := argsL) (rest := rest) (hlen _ hsigM) hstack hdg
  rcases hK m meth c ⟨T.setVm vm₁, locs, cells, slots⟩ { g with stack := rest } (.invokevirtual index) mk (Value.ref b :: argsL).toArray X₁ hg hsize hdg hW (X₁.named hnamed) (hpre vm₁ X₁.warmed) with ⟨v, B, X', hpost, hsteps⟩ | ⟨q, B, X', hpost, hsteps⟩
  · exact Or.inl ⟨v, vm₁, B, X₁.warmed, X', hpost, fun target h => hstep₁ _ fun acts => by rw [doInvoke_state]; exact hsteps.trans h⟩
  · exact Or.inr ⟨q, vm₁, B, X₁.warmed, X', hpost, hstep₁ _ fun acts => by rw [doInvoke_state]; exact hsteps⟩
theorem vx_callSX (X : Stand p l e R s m args below meth c T locs cells slots) (hexec : p.tables.exec = Jvm.exec) {own : String} {index : Nat} {y : MethodName} {bytes : ByteArray} {maxL : Nat} {ret : Option FieldType} {hh : List (Nat × Nat × Nat × Nat)}
    (hown : s.vm.findClass own = some m.cls) (hlink : (Cond.methodLink own index y).before args s = true) (hstat : (Cond.static y).before args s = true) (hinit : (Cond.initialized y.cls).before args s = true)
    (hcode : (Cond.codeWith y bytes maxL ret hh).before args s = true) (hy : y.cls ≠ "java/lang/invoke/MethodHandle" ∧ y.cls ≠ "java/lang/invoke/VarHandle")
    {W9 : Nat} {Pre : Pt → Array Value → Prop} {Post : Pt → Array Value → Option Value → Pt → Prop} {PostX : Pt → Array Value → Addr → Pt → Prop} (hK : vx_Back l R p e below s args y 3 W9 Pre Post PostX)
    {g : JFrame} (hg : g.method = m) (hsize : g.locals.size = c.maxLocals) {argsL rest : List Value} (hlen : ∀ sig, parseMethodDescriptor y.desc = some sig → argsL.length = sig.parameters.length)
    (hstack : g.stack = argsL.reverse ++ rest) (hW : 2 * g.monitorRoom + (rest.map fun v => v.category).sum ≤ W9) (hdg : decode c.code g.pc = .ok (.invokestatic index, 3))
    (hpre : ∀ vm₁, s.WarmedH vm₁ → Pre ⟨T.setVm vm₁, locs, cells, slots⟩ argsL.toArray) :
    (∃ (v : Option Value) (vm₁ : Vm) (B : Pt), s.WarmedH vm₁ ∧ Stand p l e R s m args below meth c B.U B.locs B.cells B.slots ∧ Post ⟨T.setVm vm₁, locs, cells, slots⟩ argsL.toArray v B ∧
      ∀ target, Steps p.tables e below (B.U.setTop { g with pc := g.pc + 3, stack := v.toList ++ rest }) target → Steps p.tables e below (T.setTop g) target) ∨
    (∃ (q : Addr) (vm₁ : Vm) (B : Pt), s.WarmedH vm₁ ∧ Stand p l e R s m args below meth c B.U B.locs B.cells B.slots ∧ PostX ⟨T.setVm vm₁, locs, cells, slots⟩ argsL.toArray q B ∧
      Steps p.tables e below (T.setTop g) ((B.U.setTop { g with stack := rest }).pushFrame (.throwing q))) := by
  obtain ⟨mk, methM, cM, hnamed, hmethM, -, -, -, -, -, -, hsigM⟩ := Cond.codeWith_spec hcode
  have hstatic : methM.isStatic = true := Cond.static_spec hnamed hmethM hstat
  obtain ⟨kP, hkP, -⟩ := className_of_methodNamed hnamed
  have hinitP : kP.init = .initialized := Cond.initialized_spec (findClass_of_methodNamed hnamed) hkP hinit
  obtain ⟨vm₁, X₁, hstep₁⟩ := X.invokestatic hexec hown hlink hnamed hmethM hstatic hkP hinitP hy (g := g) hg (argsL := argsL) (rest := rest) (hlen _ hsigM) hstack hdg
  rcases hK m meth c ⟨T.setVm vm₁, locs, cells, slots⟩ { g with stack := rest } (.invokestatic index) mk argsL.toArray X₁ hg hsize hdg hW (X₁.named hnamed) (hpre vm₁ X₁.warmed) with ⟨v, B, X', hpost, hsteps⟩ | ⟨q, B, X', hpost, hsteps⟩
  · exact Or.inl ⟨v, vm₁, B, X₁.warmed, X', hpost, fun target h => hstep₁ _ fun acts => by rw [doInvoke_state]; exact hsteps.trans h⟩
  · exact Or.inr ⟨q, vm₁, B, X₁.warmed, X', hpost, hstep₁ _ fun acts => by rw [doInvoke_state]; exact hsteps⟩
theorem vx_callVW (X : Stand p l e R s m args below meth c T locs cells slots) (hexec : p.tables.exec = Jvm.exec) {own C : String} {index : Nat} {y : MethodName} {bytes : ByteArray} {maxL : Nat} {ret : Option FieldType} {hh : List (Nat × Nat × Nat × Nat)}
    (hown : s.vm.findClass own = some m.cls) (hlink : (Cond.methodLink own index y).before args s = true) (hinst : (Cond.instanceMethod y).before args s = true) (hsel : (Cond.selects C y y).before args s = true)
    (hcode : (Cond.codeWith y bytes maxL ret hh).before args s = true) (hy : y.cls ≠ "java/lang/invoke/MethodHandle" ∧ y.cls ≠ "java/lang/invoke/VarHandle")
    {W9 : Nat} {Pre : Pt → Array Value → Prop} {Post : Pt → Array Value → Option Value → Pt → Prop} (hK : Back l R p e below s args y 3 W9 Pre Post)
    {b : Addr} {cellB : Cell} (hcell : T.heap[b]? = some cellB) (hobj : cellB.vm.isStatics = false) (hcls : s.vm.findClass C = some cellB.cls)
    {g : JFrame} (hg : g.method = m) (hsize : g.locals.size = c.maxLocals) {argsL rest : List Value} (hlen : ∀ sig, parseMethodDescriptor y.desc = some sig → argsL.length = sig.parameters.length)
    (hstack : g.stack = argsL.reverse ++ .ref b :: rest) (hW : 2 * g.monitorRoom + (rest.map fun v => v.category).sum ≤ W9) (hdg : decode c.code g.pc = .ok (.invokevirtual index, 3))
    (hpre : ∀ vm₁, s.WarmedH vm₁ → Pre ⟨T.setVm vm₁, locs, cells, slots⟩ (Value.ref b :: argsL).toArray) :
    ∃ (v : Option Value) (vm₁ : Vm) (B : Pt), s.WarmedH vm₁ ∧ Stand p l e R s m args below meth c B.U B.locs B.cells B.slots ∧ Post ⟨T.setVm vm₁, locs, cells, slots⟩ (Value.ref b :: argsL).toArray v B ∧
      ∀ target, Steps p.tables e below (B.U.setTop { g with pc := g.pc + 3, stack := v.toList ++ rest }) target → Steps p.tables e below (T.setTop g) target := by
  obtain ⟨mk, methM, hnamed, hmethM, hstM, habM⟩ := Cond.instanceMethod_spec hinst
  obtain ⟨m8, methM', cM, hn8, hmethM', -, -, -, -, -, -, hsigM⟩ := Cond.codeWith_spec hcode
  cases Option.some.inj (hn8.symm.trans hnamed)
  cases hmethM.symm.trans hmethM'
  obtain ⟨c2, r2, m2, q1, q2, q3, q4, kP, hkP, hkPi⟩ := Cond.selects_spec hsel
  cases hcls.symm.trans q1
  cases (State.methodFound?_of_named hnamed hy).symm.trans q2
  cases hnamed.symm.trans q3
  have hselP : selectMethod e.platform s.vm cellB.cls mk = .method mk := by rw [Launch.admits_selectMethod X.admits]; exact q4
  obtain ⟨vm₁, X₁, hstep₁⟩ := X.invokevirtual hexec hown hlink hnamed hmethM hstM hkP hkPi hy (a := b) (cell := cellB) hcell
    (fun z h => by rw [h] at hobj; cases hobj) hselP hmethM habM hkP hkPi (g := g) hg (argsL := argsL) (rest := rest) (hlen _ hsigM) hstack hdg
  obtain ⟨v, B, X', hpost, hsteps⟩ := hK m meth c ⟨T.setVm vm₁, locs, cells, slots⟩ { g with stack := rest } (.invokevirtual index) mk (Value.ref b :: argsL).toArray X₁ hg hsize hdg hW (X₁.named hnamed) (hpre vm₁ X₁.warmed)
  exact ⟨v, vm₁, B, X₁.warmed, X', hpost, fun target h => hstep₁ _ fun acts => by rw [doInvoke_state]; exact hsteps.trans h⟩
abbrev vx_CVW (R : Room) (s : State) (args : Array Value) (own C : String) (index : Nat) (y : MethodName) (bytes : ByteArray) (maxL : Nat) (ret : Option FieldType) (hh : List (Nat × Nat × Nat × Nat)) (ws : List Cond) (rm : Room) (mc ms n : Nat) : Prop :=
  (rm.cells = mc ∧ rm.slots = ms ∧ rm.frames + 1 ≤ R.frames ∧ 8 + (maxL + 11) + rm.locals ≤ R.locals ∧ (∀ w ∈ ws, ∀ (a' : Array Value) (U : State), s.WarmedH U.vm → w.before a' U = true) ∧ Cond.codeWith y bytes maxL ret hh ∈ ws) ∧
  (Cond.codeWith y bytes maxL ret hh).before args s = true ∧ (Cond.initialized y.cls).before args s = true ∧ (y.cls ≠ "java/lang/invoke/MethodHandle" ∧ y.cls ≠ "java/lang/invoke/VarHandle") ∧
  (∀ sig, parseMethodDescriptor y.desc = some sig → n = sig.parameters.length) ∧ (Cond.methodLink own index y).before args s = true ∧ (Cond.instanceMethod y).before args s = true ∧ (Cond.selects C y y).before args s = true
theorem vx_cwVW {own C : String} {index maxL mc ms : Nat} {y : MethodName} {bytes : ByteArray} {ret : Option FieldType} {hh : List (Nat × Nat × Nat × Nat)} {Ts ws ws' : List Cond} {rm : Room} (n : Nat) (ht : ∀ w ∈ Ts, w.before args s = true) (hT : GoodIn Ts (wsV own index C y ws)) (hw : ws = Cond.codeWith y bytes maxL ret hh :: ws') (hrc : rm.cells = mc) (hrs : rm.slots = ms)
    (hd : y.cls = C ∧ y.cls ≠ "java/lang/invoke/MethodHandle" ∧ y.cls ≠ "java/lang/invoke/VarHandle" ∧ (parseMethodDescriptor y.desc).map (fun d => d.parameters.length) = some n) (hR : rm.frames + 1 ≤ R.frames ∧ 8 + (maxL + 11) + rm.locals ≤ R.locals) :
    vx_CVW R s args own C index y bytes maxL ret hh ws rm mc ms n := by
  obtain ⟨hC, hd⟩ := hd
  subst hC
  have ok : ∀ w ∈ wsV own index y.cls y ws, w.before args s = true := fun w h => ht w (hT w h).1
  have hG : GoodIn Ts ws := fun w h => hT w (by unfold wsV; exact List.mem_append_right _ h)
  have hc : Cond.codeWith y bytes maxL ret hh ∈ ws := by rw [hw]; exact List.mem_cons_self
  refine ⟨⟨hrc, hrs, hR.1, hR.2, pay_in ht hG, hc⟩, ht _ (hG _ hc).1, ok _ (by simp [wsV]), ⟨hd.1, hd.2.1⟩, fun sig h => ?_, ok _ (by simp [wsV]), ok _ (by simp [wsV]), ok _ (by simp [wsV])⟩
  have h2 := hd.2.2
  rw [h] at h2
  exact (Option.some.inj h2).symm
theorem vx_runVW {y : MethodName} {bytes cc : ByteArray} {maxL nL mc ms n index : Nat} {ret : Option FieldType} {hh : List (Nat × Nat × Nat × Nat)} {ws : List Cond} {rm : Room} {Pc : Array Value → State → Prop} {Qc : Array Value → State → Outcome → State → Prop} {free : Addr → Prop} {Ts : List Cond} {own C : String} {b : Addr} {As rest : List Value} {g : JFrame}
    (S : CallFix p m c cc nL s args Ts own) (hM : Met l y ws rm Pc Qc mc ms free) (cw : vx_CVW R s args own C index y bytes maxL ret hh ws rm mc ms n) (hp : PreV s H C b Pc As)
    (hg : g.method = m) (hn : As.length = n) (hsize : g.locals.size = nL) (hstack : g.stack = As.reverse ++ .ref b :: rest) (hW : 2 * g.monitorRoom + (rest.map fun v => v.category).sum ≤ 8) (hdg : decode cc g.pc = .ok (.invokevirtual index, 3)) (hf : cells + mc ≤ R.cells ∧ slots + ms ≤ R.slots) :
    va_Run p l e R s m args below meth c H locs cells slots mc ms g rest (Qc (Value.ref b :: As).toArray) free := by
  obtain ⟨⟨hrc, hrs, hfr, hlo, hws, hcw⟩, hcode, hini, hy, hlen, hl, hin, hse⟩ := cw
  have hK : Back l R p e below s args y 3 8 (PreOf R mc ms Pc) (PostOf Qc mc ms free) := va_backW (hh := hh) (bytes := bytes) (maxL := maxL) (ret := ret) hM hp.1 hrc hrs hfr hlo hws hcw (fun a' U hW => word_at hW (Or.inl (by first | rfl | simp [Cond.onTables, Cond.keeps, Cond.steady])) hini)
  obtain ⟨hx, hb, hml, ho, -⟩ := S
  obtain ⟨-, ⟨cellB, hcB, hoB, hclB⟩, hPc⟩ := hp
  intro T hT X
  obtain ⟨v, vm₁, ⟨U', l2, c2, s2⟩, hW₁, X', ⟨g', mk, t, L, e1, e2, hq, h1, hL, h2, h3⟩, st⟩ := vx_callVW X hx (C := C) (hh := hh) (bytes := bytes) (maxL := maxL) (ret := ret) ho hl hin hse hcode hy hK (by rw [hT]; exact hcB) hoB hclB hg (hsize.trans hml.symm) (argsL := As) (rest := rest) (fun sig h => hn.trans (hlen sig h)) hstack hW (by rw [hb]; exact hdg)
    (fun vm₁ hW₁ => ⟨hf.1, hf.2, hPc (T.setVm vm₁) hT hW₁⟩)
  dsimp only [Pt.U, Pt.locs, Pt.cells, Pt.slots] at X' e1 e2 h1 h2 h3 st
  subst h1; subst h2; subst h3
  exact ⟨v, (T.setVm vm₁).calling g' mk (Value.ref b :: As).toArray, t, U', L, hT, X', hL, e1, e2, hq, st⟩
section
variable {y : MethodName} {bytes cc : ByteArray} {maxL nL mc ms n index : Nat} {ret : Option FieldType} {ws : List Cond} {rm : Room} {Pc : Array Value → State → Prop} {Qc : Array Value → State → Outcome → State → Prop} {XC : String → State → State → Prop} {free : Addr → Prop} {Ts : List Cond} {own C : String} {b : Addr} {As rest : List Value} {g : JFrame}
theorem vx_runVX {hh : List (Nat × Nat × Nat × Nat)} (S : CallFix p m c cc nL s args Ts own) (hM : vx_Met l y ws rm Pc Qc XC mc ms free) (cw : vx_CVW R s args own C index y bytes maxL ret hh ws rm mc ms n) (hp : PreV s H C b Pc As)
    (hg : g.method = m) (hn : As.length = n) (hsize : g.locals.size = nL) (hstack : g.stack = As.reverse ++ .ref b :: rest) (hW : 2 * g.monitorRoom + (rest.map fun v => v.category).sum ≤ 8) (hdg : decode cc g.pc = .ok (.invokevirtual index, 3)) (hf : cells + mc ≤ R.cells ∧ slots + ms ≤ R.slots) :
    vx_Run p l e R s m args below meth c H locs cells slots mc ms g rest (Qc (Value.ref b :: As).toArray) XC free := by
  obtain ⟨⟨hrc, hrs, hfr, hlo, hws, hcw⟩, hcode, hini, hy, hlen, hl, hin, hse⟩ := cw
  have hK : vx_Back l R p e below s args y 3 8 (PreOf R mc ms Pc) (PostOf Qc mc ms free) (vx_Post XC mc ms free) := vx_backW (hh := hh) (bytes := bytes) (maxL := maxL) (ret := ret) hM hp.1 hrc hrs hfr hlo hws hcw (fun a' U hW => word_at hW (Or.inl (by first | rfl | simp [Cond.onTables, Cond.keeps, Cond.steady])) hini)
  obtain ⟨hx, hb, hml, ho, -⟩ := S
  obtain ⟨-, ⟨cellB, hcB, hoB, hclB⟩, hPc⟩ := hp
  intro T hT X
  rcases vx_callVX X hx (C := C) (hh := hh) (bytes := bytes) (maxL := maxL) (ret := ret) ho hl hin hse hcode hy hK (by rw [hT]; exact hcB) hoB hclB hg (hsize.trans hml.symm) (argsL := As) (rest := rest) (fun sig h => hn.trans (hlen sig h)) hstack hW (by rw [hb]; exact hdg)
    (fun vm₁ hW₁ => ⟨hf.1, hf.2, hPc (T.setVm vm₁) hT hW₁⟩) with ⟨v, vm₁, ⟨U', l2, c2, s2⟩, hW₁, X', ⟨g', mk, t, L, e1, e2, hq, h1, hL, h2, h3⟩, st⟩ | ⟨q, vm₁, ⟨U', l2, c2, s2⟩, hW₁, X', ⟨g', mk, t, L, E, ce, e1, e2, hq, hce, hcv, hcl, h1, hL, h2, h3⟩, st⟩
  · dsimp only [Pt.U, Pt.locs, Pt.cells, Pt.slots] at X' e1 e2 h1 h2 h3 st
    subst h1; subst h2; subst h3
    exact Or.inl ⟨v, (T.setVm vm₁).calling g' mk (Value.ref b :: As).toArray, t, U', L, hT, X', hL, e1, e2, hq, st⟩
  · dsimp only [Pt.U, Pt.locs, Pt.cells, Pt.slots] at X' e1 e2 h1 h2 h3 st hcl
    subst h1; subst h2; subst h3
    exact Or.inr ⟨q, (T.setVm vm₁).calling g' mk (Value.ref b :: As).toArray, t, U', L, E, ce, hT, X', hL, e1, e2, hq, hce, hcv, vx_cls hW₁ hcl, st⟩
theorem vx_runSX {hh : List (Nat × Nat × Nat × Nat)} (S : CallFix p m c cc nL s args Ts own) (hM : vx_Met l y ws rm Pc Qc XC mc ms free) (cw : vx_CSW R s args own index y bytes maxL ret hh ws rm mc ms n) (hp : PreS s H Pc As)
    (hg : g.method = m) (hn : As.length = n) (hsize : g.locals.size = nL) (hstack : g.stack = As.reverse ++ rest) (hW : 2 * g.monitorRoom + (rest.map fun v => v.category).sum ≤ 8) (hdg : decode cc g.pc = .ok (.invokestatic index, 3)) (hf : cells + mc ≤ R.cells ∧ slots + ms ≤ R.slots) :
    vx_Run p l e R s m args below meth c H locs cells slots mc ms g rest (Qc As.toArray) XC free := by
  obtain ⟨⟨hrc, hrs, hfr, hlo, hws, hcw⟩, hcode, hini, hy, hlen, hl, hstt⟩ := cw
  have hK : vx_Back l R p e below s args y 3 8 (PreOf R mc ms Pc) (PostOf Qc mc ms free) (vx_Post XC mc ms free) := vx_backW (hh := hh) (bytes := bytes) (maxL := maxL) (ret := ret) hM hp.1 hrc hrs hfr hlo hws hcw (fun a' U hW => word_at hW (Or.inl (by first | rfl | simp [Cond.onTables, Cond.keeps, Cond.steady])) hini)
  obtain ⟨hx, hb, hml, ho, -⟩ := S
  intro T hT X
  rcases vx_callSX X hx (hh := hh) (bytes := bytes) (maxL := maxL) (ret := ret) ho hl hstt hini hcode hy hK hg (hsize.trans hml.symm) (argsL := As) (rest := rest) (fun sig h => hn.trans (hlen sig h)) hstack hW (by rw [hb]; exact hdg)
    (fun vm₁ hW₁ => ⟨hf.1, hf.2, hp.2 (T.setVm vm₁) hT hW₁⟩) with ⟨v, vm₁, ⟨U', l2, c2, s2⟩, hW₁, X', ⟨g', mk, t, L, e1, e2, hq, h1, hL, h2, h3⟩, st⟩ | ⟨q, vm₁, ⟨U', l2, c2, s2⟩, hW₁, X', ⟨g', mk, t, L, E, ce, e1, e2, hq, hce, hcv, hcl, h1, hL, h2, h3⟩, st⟩
  · dsimp only [Pt.U, Pt.locs, Pt.cells, Pt.slots] at X' e1 e2 h1 h2 h3 st
    subst h1; subst h2; subst h3
    exact Or.inl ⟨v, (T.setVm vm₁).calling g' mk As.toArray, t, U', L, hT, X', hL, e1, e2, hq, st⟩
  · dsimp only [Pt.U, Pt.locs, Pt.cells, Pt.slots] at X' e1 e2 h1 h2 h3 st hcl
    subst h1; subst h2; subst h3
    exact Or.inr ⟨q, (T.setVm vm₁).calling g' mk As.toArray, t, U', L, E, ce, hT, X', hL, e1, e2, hq, hce, hcv, vx_cls hW₁ hcl, st⟩
end
end VXH
theorem vx_ofWH {l : Launch} {y : MethodName} {ws ws' : List Cond} {rm : Room} {Pc : Array Value → State → Prop} {Qc : Array Value → State → Outcome → State → Prop} {XC : String → State → State → Prop} {mc ms : Nat} {free : Addr → Prop} {cc : ByteArray} {maxL : Nat} {ret : Option FieldType} {hh : List (Nat × Nat × Nat × Nat)}
    (hy : plainName y.cls = true) (hw : ws = Cond.codeWith y cc maxL ret hh :: ws')
    (body : ∀ p e s m args below meth c s₁, BodyLoose p l y (headSpec ws rm) cc maxL ret e s m args below meth c s₁ → c.maxLocals = maxL → Pc args s →
      W p l e (headSpec ws rm).room s m args below meth c s.heap [] 0 0 (vx_MQ below Qc XC args s mc ms free) (entryFrame m args maxL)) : vx_Met l y ws rm Pc Qc XC mc ms free := by
  refine MetFree.of_bodyS (code := cc) (maxLocals := maxL) (ret := ret) hy ?_ ?_
  · intro args s m h hn
    obtain ⟨m9, meth, c, hn9, h1, h2, h3, h4, -, h5, h6, -⟩ := Cond.codeWith_spec (atoms_spec (ws := ws) h _ (by rw [hw]; exact List.mem_cons_self))
    cases hn.symm.trans hn9
    exact ⟨meth, c, h1, h2, h3, h4, h5, h6⟩
  · intro p e s m args below meth c s₁ B hml hP _
    have hh0 : s₁.heap = s.heap := by rw [B.state]; rfl
    obtain ⟨t, a1, o, b1, b2, b3⟩ := body p e s m args below meth c s₁ B hml hP s₁ hh0 (Stand.of_body B)
    exact ⟨t, o, a1, b1, b2, b3⟩
/-! ===== END ===== -/

/-! ===== BEGIN a constructor that throws (launches without stack traces) ===== -/
section VXIA
variable {p : Program} {l : Launch} {e : Env} {R : Room} {s : State} {m : MethodId} {args : Array Value} {below : List Frame} {meth : Method} {c : Code} {T : State} {locs : List Loc} {cells slots : Nat}
theorem vx_callI (X : Stand p l e R s m args below meth c T locs cells slots) (hexec : p.tables.exec = Jvm.exec) {own : String} {index : Nat} {y : MethodName} {bytes : ByteArray} {maxL : Nat}
    (hown : s.vm.findClass own = some m.cls) (hy1 : y.name = "<init>") (hlink : (Cond.methodLink own index y).before args s = true) (hinst : (Cond.instanceMethod y).before args s = true)
    (hcode : (Cond.code y bytes maxL none).before args s = true) (hy : y.cls ≠ "java/lang/invoke/MethodHandle" ∧ y.cls ≠ "java/lang/invoke/VarHandle")
    {W9 : Nat} {Pre : Pt → Array Value → Prop} {Post : Pt → Array Value → Option Value → Pt → Prop} {PostX : Pt → Array Value → Addr → Pt → Prop} (hK : vx_Back l R p e below s args y 3 W9 Pre Post PostX)
    {g : JFrame} (hg : g.method = m) (hsize : g.locals.size = c.maxLocals) {a : Addr} {argsL rest : List Value} (hlen : ∀ sig, parseMethodDescriptor y.desc = some sig → argsL.length = sig.parameters.length)
    (hstack : g.stack = argsL.reverse ++ .ref a :: rest) (hW : 2 * g.monitorRoom + (rest.map fun v => v.category).sum ≤ W9) (hdg : decode c.code g.pc = .ok (.invokespecial index, 3))
    (hpre : ∀ vm₁, s.WarmedH vm₁ → Pre ⟨T.setVm vm₁, locs, cells, slots⟩ (Value.ref a :: argsL).toArray) :
    (∃ (v : Option Value) (vm₁ : Vm) (B : Pt), s.WarmedH vm₁ ∧ Stand p l e R s m args below meth c B.U B.locs B.cells B.slots ∧ Post ⟨T.setVm vm₁, locs, cells, slots⟩ (Value.ref a :: argsL).toArray v B ∧
      ∀ target, Steps p.tables e below (B.U.setTop { g with pc := g.pc + 3, stack := v.toList ++ rest }) target → Steps p.tables e below (T.setTop g) target) ∨
    (∃ (q : Addr) (vm₁ : Vm) (B : Pt), s.WarmedH vm₁ ∧ Stand p l e R s m args below meth c B.U B.locs B.cells B.slots ∧ PostX ⟨T.setVm vm₁, locs, cells, slots⟩ (Value.ref a :: argsL).toArray q B ∧
      Steps p.tables e below (T.setTop g) ((B.U.setTop { g with stack := rest }).pushFrame (.throwing q))) := by
  subst hg
  have hpl : e.platform.magicAccessors = ({} : Platform).magicAccessors := by rw [X.admits.platform]
  obtain ⟨mk, methM, cM, kP, vm₁, hnamed, hmethM, hcodeM, -, hlocalsM, -, hkP, -, hW₁, hstep₁⟩ := Steps.initColdArgs (e := e) X.here hexec X.warmed hpl hown hy1 hy hlink hinst hcode (f := g) rfl hlen hstack hdg
  have X₁ := X.noted hW₁
  rcases hK g.method meth c ⟨T.setVm vm₁, locs, cells, slots⟩ { g with stack := rest } (.invokespecial index) mk (Value.ref a :: argsL).toArray X₁ rfl hsize hdg hW (X₁.named hnamed) (hpre vm₁ X₁.warmed) with ⟨v, B, X', hpost, hsteps⟩ | ⟨q, B, X', hpost, hsteps⟩
  · exact Or.inl ⟨v, vm₁, B, X₁.warmed, X', hpost, fun target h => hstep₁ _ fun acts => by rw [doInvoke_state]; exact hsteps.trans h⟩
  · exact Or.inr ⟨q, vm₁, B, X₁.warmed, X', hpost, hstep₁ _ fun acts => by rw [doInvoke_state]; exact hsteps⟩
end VXIA
section VXIB
variable {p : Program} {l : Launch} {e : Env} {R : Room} {s : State} {m : MethodId} {args : Array Value} {below : List Frame} {meth : Method} {c : Code} {H : Heap} {locs : List Loc} {cells slots : Nat}
variable {y : MethodName} {bytes cc : ByteArray} {maxL nL mc ms n index : Nat} {ret : Option FieldType} {ws : List Cond} {rm : Room} {Pc : Array Value → State → Prop} {Qc : Array Value → State → Outcome → State → Prop} {XC : String → State → State → Prop} {free : Addr → Prop} {Ts : List Cond} {own C : String} {b : Addr} {As rest : List Value} {g : JFrame}
theorem vx_runI (S : CallFix p m c cc nL s args Ts own) (hM : vx_Met l y ws rm Pc Qc XC mc ms free) (cw : CallB R s args own index y bytes maxL none ws rm mc ms n ∧ y.name = "<init>" ∧ (Cond.instanceMethod y).before args s = true) (hp : PreS s H Pc (.ref b :: As))
    (hg : g.method = m) (hn : As.length = n) (hsize : g.locals.size = nL) (hstack : g.stack = As.reverse ++ .ref b :: rest) (hW : 2 * g.monitorRoom + (rest.map fun v => v.category).sum ≤ 8) (hdg : decode cc g.pc = .ok (.invokespecial index, 3)) (hf : cells + mc ≤ R.cells ∧ slots + ms ≤ R.slots) :
    vx_Run p l e R s m args below meth c H locs cells slots mc ms g rest (Qc (Value.ref b :: As).toArray) XC free := by
  have hK : vx_Back l R p e below s args y 3 8 (PreOf R mc ms Pc) (PostOf Qc mc ms free) (vx_Post XC mc ms free) := vx_callBack cw.1 hM hp.1
  obtain ⟨⟨-, -, -, -, -, -, hcode, -, hy, hlen, hl⟩, hy1, hin⟩ := cw
  obtain ⟨hx, hb, hml, ho, -⟩ := S
  have hPc := hp.2
  intro T hT X
  rcases vx_callI X hx (bytes := bytes) (maxL := maxL) ho hy1 hl hin hcode hy hK hg (hsize.trans hml.symm) (a := b) (argsL := As) (rest := rest) (fun sig h => hn.trans (hlen sig h)) hstack hW (by rw [hb]; exact hdg)
    (fun vm₁ hW₁ => ⟨hf.1, hf.2, hPc (T.setVm vm₁) hT hW₁⟩) with ⟨v, vm₁, ⟨U', l2, c2, s2⟩, hW₁, X', ⟨g', mk, t, L, e1, e2, hq, h1, hL, h2, h3⟩, st⟩ | ⟨q, vm₁, ⟨U', l2, c2, s2⟩, hW₁, X', ⟨g', mk, t, L, E, ce, e1, e2, hq, hce, hcv, hcl, h1, hL, h2, h3⟩, st⟩
  · dsimp only [Pt.U, Pt.locs, Pt.cells, Pt.slots] at X' e1 e2 h1 h2 h3 st
    subst h1; subst h2; subst h3
    exact Or.inl ⟨v, (T.setVm vm₁).calling g' mk (Value.ref b :: As).toArray, t, U', L, hT, X', hL, e1, e2, hq, st⟩
  · dsimp only [Pt.U, Pt.locs, Pt.cells, Pt.slots] at X' e1 e2 h1 h2 h3 st hcl
    subst h1; subst h2; subst h3
    exact Or.inr ⟨q, (T.setVm vm₁).calling g' mk (Value.ref b :: As).toArray, t, U', L, E, ce, hT, X', hL, e1, e2, hq, hce, hcv, vx_cls hW₁ hcl, st⟩
end VXIB
/-! ===== END ===== -/
/-! ===== BEGIN a private constructor of a nest mate that throws ===== -/
section VXIC
variable {p : Program} {l : Launch} {e : Env} {R : Room} {s : State} {m : MethodId} {args : Array Value} {below : List Frame} {meth : Method} {c : Code} {T : State} {locs : List Loc} {cells slots : Nat}
theorem vx_callIN (X : Stand p l e R s m args below meth c T locs cells slots) (hexec : p.tables.exec = Jvm.exec) {own : String} {index : Nat} {host : String} {y : MethodName} {bytes : ByteArray} {maxL : Nat}
    (hown : s.vm.findClass own = some m.cls) (hy1 : y.name = "<init>") (hlink : (Cond.methodLinkNest own index y host).before args s = true) (hinst : (Cond.instanceMethod y).before args s = true)
    (hcode : (Cond.code y bytes maxL none).before args s = true) (hy : y.cls ≠ "java/lang/invoke/MethodHandle" ∧ y.cls ≠ "java/lang/invoke/VarHandle")
    {W9 : Nat} {Pre : Pt → Array Value → Prop} {Post : Pt → Array Value → Option Value → Pt → Prop} {PostX : Pt → Array Value → Addr → Pt → Prop} (hK : vx_Back l R p e below s args y 3 W9 Pre Post PostX)
    {g : JFrame} (hg : g.method = m) (hsize : g.locals.size = c.maxLocals) {a : Addr} {argsL rest : List Value} (hlen : ∀ sig, parseMethodDescriptor y.desc = some sig → argsL.length = sig.parameters.length)
    (hstack : g.stack = argsL.reverse ++ .ref a :: rest) (hW : 2 * g.monitorRoom + (rest.map fun v => v.category).sum ≤ W9) (hdg : decode c.code g.pc = .ok (.invokespecial index, 3))
    (hpre : ∀ vm₁, s.WarmedH vm₁ → Pre ⟨T.setVm vm₁, locs, cells, slots⟩ (Value.ref a :: argsL).toArray) :
    (∃ (v : Option Value) (vm₁ : Vm) (B : Pt), s.WarmedH vm₁ ∧ Stand p l e R s m args below meth c B.U B.locs B.cells B.slots ∧ Post ⟨T.setVm vm₁, locs, cells, slots⟩ (Value.ref a :: argsL).toArray v B ∧
      ∀ target, Steps p.tables e below (B.U.setTop { g with pc := g.pc + 3, stack := v.toList ++ rest }) target → Steps p.tables e below (T.setTop g) target) ∨
    (∃ (q : Addr) (vm₁ : Vm) (B : Pt), s.WarmedH vm₁ ∧ Stand p l e R s m args below meth c B.U B.locs B.cells B.slots ∧ PostX ⟨T.setVm vm₁, locs, cells, slots⟩ (Value.ref a :: argsL).toArray q B ∧
      Steps p.tables e below (T.setTop g) ((B.U.setTop { g with stack := rest }).pushFrame (.throwing q))) := by
  subst hg
  have hpl : e.platform.magicAccessors = ({} : Platform).magicAccessors := by rw [X.admits.platform]
  obtain ⟨mk, methM, cM, kP, vm₁, hnamed, hmethM, hcodeM, -, hlocalsM, -, hkP, -, hW₁, hstep₁⟩ := Steps.initColdArgsNest (e := e) X.here hexec X.warmed hpl hown hy1 hy hlink hinst hcode (f := g) rfl hlen hstack hdg
  have X₁ := X.noted hW₁
  rcases hK g.method meth c ⟨T.setVm vm₁, locs, cells, slots⟩ { g with stack := rest } (.invokespecial index) mk (Value.ref a :: argsL).toArray X₁ rfl hsize hdg hW (X₁.named hnamed) (hpre vm₁ X₁.warmed) with ⟨v, B, X', hpost, hsteps⟩ | ⟨q, B, X', hpost, hsteps⟩
  · exact Or.inl ⟨v, vm₁, B, X₁.warmed, X', hpost, fun target h => hstep₁ _ fun acts => by rw [doInvoke_state]; exact hsteps.trans h⟩
  · exact Or.inr ⟨q, vm₁, B, X₁.warmed, X', hpost, hstep₁ _ fun acts => by rw [doInvoke_state]; exact hsteps⟩
end VXIC
section VXID
variable {p : Program} {l : Launch} {e : Env} {R : Room} {s : State} {m : MethodId} {args : Array Value} {below : List Frame} {meth : Method} {c : Code} {H : Heap} {locs : List Loc} {cells slots : Nat}
theorem vx_runIN {y : MethodName} {bytes cc : ByteArray} {maxL nL mc ms n index : Nat} {ws : List Cond} {rm : Room} {Pc : Array Value → State → Prop} {Qc : Array Value → State → Outcome → State → Prop} {XC : String → State → State → Prop} {free : Addr → Prop} {Ts : List Cond} {own host : String} {b : Addr} {As rest : List Value} {g : JFrame}
    (S : CallFix p m c cc nL s args Ts own) (hM : vx_Met l y ws rm Pc Qc XC mc ms free) (cw : va_CN R s args own index y host bytes maxL none ws rm mc ms n ∧ y.name = "<init>" ∧ (Cond.instanceMethod y).before args s = true) (hp : PreS s H Pc (.ref b :: As))
    (hg : g.method = m) (hn : As.length = n) (hsize : g.locals.size = nL) (hstack : g.stack = As.reverse ++ .ref b :: rest) (hW : 2 * g.monitorRoom + (rest.map fun v => v.category).sum ≤ 8) (hdg : decode cc g.pc = .ok (.invokespecial index, 3)) (hf : cells + mc ≤ R.cells ∧ slots + ms ≤ R.slots) :
    vx_Run p l e R s m args below meth c H locs cells slots mc ms g rest (Qc (Value.ref b :: As).toArray) XC free := by
  obtain ⟨⟨⟨hrc, hrs, hfr, hlo, hws, hcw⟩, hcode, hini, hy, hlen, hl⟩, hx1, hx2⟩ := cw
  have hK : vx_Back l R p e below s args y 3 8 (PreOf R mc ms Pc) (PostOf Qc mc ms free) (vx_Post XC mc ms free) := vx_back (bytes := bytes) (maxL := maxL) (ret := none) hM hp.1 hrc hrs hfr hlo hws hcw (fun a' U hW => word_at hW (Or.inl (by first | rfl | simp [Cond.onTables, Cond.keeps, Cond.steady])) hini)
  obtain ⟨hx, hb, hml, ho, -⟩ := S
  have hPc := hp.2
  intro T hT X
  rcases vx_callIN X hx (bytes := bytes) (maxL := maxL) ho hx1 hl hx2 hcode hy hK hg (hsize.trans hml.symm) (a := b) (argsL := As) (rest := rest) (fun sig h => hn.trans (hlen sig h)) hstack hW (by rw [hb]; exact hdg)
    (fun vm₁ hW₁ => ⟨hf.1, hf.2, hPc (T.setVm vm₁) hT hW₁⟩) with ⟨v, vm₁, ⟨U', l2, c2, s2⟩, hW₁, X', ⟨g', mk, t, L, e1, e2, hq, h1, hL, h2, h3⟩, st⟩ | ⟨q, vm₁, ⟨U', l2, c2, s2⟩, hW₁, X', ⟨g', mk, t, L, E, ce, e1, e2, hq, hce, hcv, hcl, h1, hL, h2, h3⟩, st⟩
  · dsimp only [Pt.U, Pt.locs, Pt.cells, Pt.slots] at X' e1 e2 h1 h2 h3 st
    subst h1; subst h2; subst h3
    exact Or.inl ⟨v, (T.setVm vm₁).calling g' mk (Value.ref b :: As).toArray, t, U', L, hT, X', hL, e1, e2, hq, st⟩
  · dsimp only [Pt.U, Pt.locs, Pt.cells, Pt.slots] at X' e1 e2 h1 h2 h3 st hcl
    subst h1; subst h2; subst h3
    exact Or.inr ⟨q, (T.setVm vm₁).calling g' mk (Value.ref b :: As).toArray, t, U', L, E, ce, hT, X', hL, e1, e2, hq, hce, hcv, vx_cls hW₁ hcl, st⟩
end VXID
end
section
def RX0 : String := "TonguerootFamily$Alignment"
def TX0 : u_T := fun k => match k with
  | 0 => ("TonguerootFamily$Alignment", "sounds", "LTonguerootFamily$Sounds;", true)
  | 1 => ("TonguerootFamily$Alignment", "first", "[I", true)
  | 2 => ("TonguerootFamily$Alignment", "second", "[I", true)
  | 3 => ("TonguerootFamily$Alignment", "firstSize", "I", false)
  | 4 => ("TonguerootFamily$Alignment", "secondSize", "I", false)
  | 5 => ("TonguerootFamily$Alignment", "least", "[[I", true)
  | 6 => ("TonguerootFamily$Alignment", "upper", "[I", true)
  | _ => ("TonguerootFamily$Alignment", "lower", "[I", true)
def tyX0 : Nat → FieldType := fun k => match k with
  | 0 => .object "TonguerootFamily$Sounds"
  | 1 => .array .int
  | 2 => .array .int
  | 3 => .int
  | 4 => .int
  | 5 => .array (.array .int)
  | 6 => .array .int
  | _ => .array .int
abbrev wsX00 : List Cond := u_ws RX0 TX0 8
theorem nmX0 : ∀ a, a < 8 → ∀ b, b < 8 → a ≠ b → (TX0 a).2.1 ≠ (TX0 b).2.1 := by decide +kernel
theorem tyX0_ok : ∀ k, k < 8 → parseFieldDescriptor (TX0 k).2.2.1 = some (tyX0 k) := by decide +kernel
abbrev cX0_init : ByteArray := prog_2_method_1_code
def yX0_init : MethodName := ⟨RX0, "<init>", "(LTonguerootFamily$Sounds;)V"⟩
abbrev cX0_upperAt : ByteArray := prog_2_method_2_code
def yX0_upperAt : MethodName := ⟨RX0, "upperAt", "(I)I"⟩
abbrev cX0_lowerAt : ByteArray := prog_2_method_3_code
def yX0_lowerAt : MethodName := ⟨RX0, "lowerAt", "(I)I"⟩
abbrev cX0_weigh : ByteArray := prog_2_method_4_code
def yX0_weigh : MethodName := ⟨RX0, "weigh", "(JJ)I"⟩
abbrev cX0_align : ByteArray := prog_2_method_5_code
def yX0_align : MethodName := ⟨RX0, "align", "(JJ)I"⟩
abbrev cX0_spellOut : ByteArray := prog_2_method_6_code
def yX0_spellOut : MethodName := ⟨RX0, "spellOut", "(J[I)I"⟩
abbrev cX0_leastFrom : ByteArray := prog_2_method_7_code
def yX0_leastFrom : MethodName := ⟨RX0, "leastFrom", "(II)I"⟩
abbrev cX0_pairFrom : ByteArray := prog_2_method_8_code
def yX0_pairFrom : MethodName := ⟨RX0, "pairFrom", "(II)I"⟩
abbrev cX0_takesPair : ByteArray := prog_2_method_9_code
def yX0_takesPair : MethodName := ⟨RX0, "takesPair", "(II)Z"⟩
abbrev cX0_takesFirstAlone : ByteArray := prog_2_method_10_code
def yX0_takesFirstAlone : MethodName := ⟨RX0, "takesFirstAlone", "(II)Z"⟩
def RX1 : String := "TonguerootFamily$History"
def TX1 : u_T := fun k => match k with
  | 0 => ("TonguerootFamily$History", "languages", "Ljava/util/ArrayList;", true)
  | _ => ("TonguerootFamily$History", "loans", "Ljava/util/ArrayList;", true)
def tyX1 : Nat → FieldType := fun k => match k with
  | 0 => .object "java/util/ArrayList"
  | _ => .object "java/util/ArrayList"
abbrev wsX10 : List Cond := u_ws RX1 TX1 2
theorem nmX1 : ∀ a, a < 2 → ∀ b, b < 2 → a ≠ b → (TX1 a).2.1 ≠ (TX1 b).2.1 := by decide +kernel
theorem tyX1_ok : ∀ k, k < 2 → parseFieldDescriptor (TX1 k).2.2.1 = some (tyX1 k) := by decide +kernel
abbrev cX1_init : ByteArray := prog_3_method_1_code
def yX1_init : MethodName := ⟨RX1, "<init>", "(Ljava/util/ArrayList;Ljava/util/ArrayList;)V"⟩
abbrev cX1_replacing : ByteArray := prog_3_method_2_code
def yX1_replacing : MethodName := ⟨RX1, "replacing", "(ILTonguerootFamily$Language;)LTonguerootFamily$History;"⟩
abbrev cX1_lackingLoan : ByteArray := prog_3_method_3_code
def yX1_lackingLoan : MethodName := ⟨RX1, "lackingLoan", "(I)LTonguerootFamily$History;"⟩
def RX2 : String := "TonguerootFamily$Language"
def TX2 : u_T := fun k => match k with
  | 0 => ("TonguerootFamily$Language", "parent", "I", true)
  | _ => ("TonguerootFamily$Language", "laws", "Ljava/util/ArrayList;", true)
def tyX2 : Nat → FieldType := fun k => match k with
  | 0 => .int
  | _ => .object "java/util/ArrayList"
abbrev wsX20 : List Cond := u_ws RX2 TX2 2
theorem nmX2 : ∀ a, a < 2 → ∀ b, b < 2 → a ≠ b → (TX2 a).2.1 ≠ (TX2 b).2.1 := by decide +kernel
theorem tyX2_ok : ∀ k, k < 2 → parseFieldDescriptor (TX2 k).2.2.1 = some (tyX2 k) := by decide +kernel
abbrev cX2_init : ByteArray := prog_4_method_1_code
def yX2_init : MethodName := ⟨RX2, "<init>", "(I)V"⟩
abbrev cX2_lackingLaw : ByteArray := prog_4_method_2_code
def yX2_lackingLaw : MethodName := ⟨RX2, "lackingLaw", "(I)LTonguerootFamily$Language;"⟩
abbrev cX2_swappingLaw : ByteArray := prog_4_method_3_code
def yX2_swappingLaw : MethodName := ⟨RX2, "swappingLaw", "(I)LTonguerootFamily$Language;"⟩
def RX3 : String := "TonguerootFamily$Law"
def TX3 : u_T := fun k => match k with
  | 0 => ("TonguerootFamily$Law", "sounds", "I", true)
  | 1 => ("TonguerootFamily$Law", "becomes", "I", true)
  | 2 => ("TonguerootFamily$Law", "ahead", "I", true)
  | _ => ("TonguerootFamily$Law", "behind", "I", true)
def tyX3 : Nat → FieldType := fun k => match k with
  | 0 => .int
  | 1 => .int
  | 2 => .int
  | _ => .int
abbrev wsX30 : List Cond := u_ws RX3 TX3 4
theorem nmX3 : ∀ a, a < 4 → ∀ b, b < 4 → a ≠ b → (TX3 a).2.1 ≠ (TX3 b).2.1 := by decide +kernel
theorem tyX3_ok : ∀ k, k < 4 → parseFieldDescriptor (TX3 k).2.2.1 = some (tyX3 k) := by decide +kernel
abbrev cX3_init : ByteArray := prog_5_method_1_code
def yX3_init : MethodName := ⟨RX3, "<init>", "(IIII)V"⟩
abbrev cX3_goOver : ByteArray := prog_5_method_2_code
def yX3_goOver : MethodName := ⟨RX3, "goOver", "(JLTonguerootFamily$Sounds;)J"⟩
abbrev cX3_holdsAt : ByteArray := prog_5_method_3_code
def yX3_holdsAt : MethodName := ⟨RX3, "holdsAt", "(JI)Z"⟩
abbrev cX3_heirOf : ByteArray := prog_5_method_4_code
def yX3_heirOf : MethodName := ⟨RX3, "heirOf", "(ILTonguerootFamily$Sounds;)I"⟩
abbrev cX3_has : ByteArray := prog_5_method_5_code
def yX3_has : MethodName := ⟨RX3, "has", "(II)Z"⟩
def RX4 : String := "TonguerootFamily$Lexicon"
def TX4 : u_T := fun k => match k with
  | 0 => ("TonguerootFamily$Lexicon", "history", "LTonguerootFamily$History;", false)
  | 1 => ("TonguerootFamily$Lexicon", "sounds", "LTonguerootFamily$Sounds;", true)
  | 2 => ("TonguerootFamily$Lexicon", "given", "[J", true)
  | 3 => ("TonguerootFamily$Lexicon", "words", "[J", true)
  | 4 => ("TonguerootFamily$Lexicon", "origins", "[I", true)
  | 5 => ("TonguerootFamily$Lexicon", "changers", "[I", true)
  | _ => ("TonguerootFamily$Lexicon", "fresh", "[Z", true)
def tyX4 : Nat → FieldType := fun k => match k with
  | 0 => .object "TonguerootFamily$History"
  | 1 => .object "TonguerootFamily$Sounds"
  | 2 => .array .long
  | 3 => .array .long
  | 4 => .array .int
  | 5 => .array .int
  | _ => .array .boolean
abbrev wsX40 : List Cond := u_ws RX4 TX4 7
theorem nmX4 : ∀ a, a < 7 → ∀ b, b < 7 → a ≠ b → (TX4 a).2.1 ≠ (TX4 b).2.1 := by decide +kernel
theorem tyX4_ok : ∀ k, k < 7 → parseFieldDescriptor (TX4 k).2.2.1 = some (tyX4 k) := by decide +kernel
abbrev cX4_init : ByteArray := prog_6_method_1_code
def yX4_init : MethodName := ⟨RX4, "<init>", "(LTonguerootFamily$History;LTonguerootFamily$Sounds;[J)V"⟩
abbrev cX4_tellOf : ByteArray := prog_6_method_2_code
def yX4_tellOf : MethodName := ⟨RX4, "tellOf", "(LTonguerootFamily$History;)V"⟩
abbrev cX4_forget : ByteArray := prog_6_method_3_code
def yX4_forget : MethodName := ⟨RX4, "forget", "(I)V"⟩
abbrev cX4_freshenAll : ByteArray := prog_6_method_4_code
def yX4_freshenAll : MethodName := ⟨RX4, "freshenAll", "()V"⟩
abbrev cX4_freshen : ByteArray := prog_6_method_5_code
def yX4_freshen : MethodName := ⟨RX4, "freshen", "(I)V"⟩
abbrev cX4_tellWord : ByteArray := prog_6_method_6_code
def yX4_tellWord : MethodName := ⟨RX4, "tellWord", "(II)V"⟩
abbrev cX4_inherit : ByteArray := prog_6_method_7_code
def yX4_inherit : MethodName := ⟨RX4, "inherit", "(II)V"⟩
abbrev cX4_borrow : ByteArray := prog_6_method_8_code
def yX4_borrow : MethodName := ⟨RX4, "borrow", "(III)V"⟩
abbrev cX4_hasWord : ByteArray := prog_6_method_9_code
def yX4_hasWord : MethodName := ⟨RX4, "hasWord", "(II)Z"⟩
abbrev cX4_bothHave : ByteArray := prog_6_method_10_code
def yX4_bothHave : MethodName := ⟨RX4, "bothHave", "(III)Z"⟩
abbrev cX4_areKin : ByteArray := prog_6_method_11_code
def yX4_areKin : MethodName := ⟨RX4, "areKin", "(III)Z"⟩
abbrev cX4_wordOf : ByteArray := prog_6_method_12_code
def yX4_wordOf : MethodName := ⟨RX4, "wordOf", "(II)J"⟩
abbrev cX4_originOf : ByteArray := prog_6_method_13_code
def yX4_originOf : MethodName := ⟨RX4, "originOf", "(II)I"⟩
abbrev cX4_changersOf : ByteArray := prog_6_method_14_code
def yX4_changersOf : MethodName := ⟨RX4, "changersOf", "(II)I"⟩
abbrev cX4_cell : ByteArray := prog_6_method_15_code
def yX4_cell : MethodName := ⟨RX4, "cell", "(II)I"⟩
def RX5 : String := "TonguerootFamily$Loan"
def TX5 : u_T := fun k => match k with
  | 0 => ("TonguerootFamily$Loan", "meaning", "I", true)
  | 1 => ("TonguerootFamily$Loan", "from", "I", true)
  | 2 => ("TonguerootFamily$Loan", "to", "I", true)
  | _ => ("TonguerootFamily$Loan", "moment", "I", true)
def tyX5 : Nat → FieldType := fun k => match k with
  | 0 => .int
  | 1 => .int
  | 2 => .int
  | _ => .int
abbrev wsX50 : List Cond := u_ws RX5 TX5 4
theorem nmX5 : ∀ a, a < 4 → ∀ b, b < 4 → a ≠ b → (TX5 a).2.1 ≠ (TX5 b).2.1 := by decide +kernel
theorem tyX5_ok : ∀ k, k < 4 → parseFieldDescriptor (TX5 k).2.2.1 = some (tyX5 k) := by decide +kernel
abbrev cX5_init : ByteArray := prog_7_method_1_code
def yX5_init : MethodName := ⟨RX5, "<init>", "(IIII)V"⟩
abbrev cX5_comesTo : ByteArray := prog_7_method_2_code
def yX5_comesTo : MethodName := ⟨RX5, "comesTo", "(III)Z"⟩
def RX6 : String := "TonguerootFamily$Sounds"
def TX6 : u_T := fun k => match k with
  | 0 => ("TonguerootFamily$Sounds", "features", "[I", true)
  | _ => ("TonguerootFamily$Sounds", "costs", "[[I", true)
def tyX6 : Nat → FieldType := fun k => match k with
  | 0 => .array .int
  | _ => .array (.array .int)
abbrev wsX60 : List Cond := u_ws RX6 TX6 2
theorem nmX6 : ∀ a, a < 2 → ∀ b, b < 2 → a ≠ b → (TX6 a).2.1 ≠ (TX6 b).2.1 := by decide +kernel
theorem tyX6_ok : ∀ k, k < 2 → parseFieldDescriptor (TX6 k).2.2.1 = some (tyX6 k) := by decide +kernel
abbrev cX6_init : ByteArray := prog_8_method_1_code
def yX6_init : MethodName := ⟨RX6, "<init>", "()V"⟩
abbrev cX6_featuresOf : ByteArray := prog_8_method_2_code
def yX6_featuresOf : MethodName := ⟨RX6, "featuresOf", "(I)I"⟩
abbrev cX6_giveFeatures : ByteArray := prog_8_method_3_code
def yX6_giveFeatures : MethodName := ⟨RX6, "giveFeatures", "(II)V"⟩
abbrev cX6_turned : ByteArray := prog_8_method_4_code
def yX6_turned : MethodName := ⟨RX6, "turned", "(II)I"⟩
def RX7 : String := "TonguerootFamily$Votes"
def TX7 : u_T := fun k => match k with
  | _ => ("TonguerootFamily$Votes", "counts", "[I", true)
def tyX7 : Nat → FieldType := fun k => match k with
  | _ => .array .int
abbrev wsX70 : List Cond := u_ws RX7 TX7 1
theorem nmX7 : ∀ a, a < 1 → ∀ b, b < 1 → a ≠ b → (TX7 a).2.1 ≠ (TX7 b).2.1 := by decide +kernel
theorem tyX7_ok : ∀ k, k < 1 → parseFieldDescriptor (TX7 k).2.2.1 = some (tyX7 k) := by decide +kernel
abbrev cX7_init : ByteArray := prog_9_method_1_code
def yX7_init : MethodName := ⟨RX7, "<init>", "()V"⟩
abbrev cX7_clear : ByteArray := prog_9_method_2_code
def yX7_clear : MethodName := ⟨RX7, "clear", "()V"⟩
abbrev cX7_add : ByteArray := prog_9_method_3_code
def yX7_add : MethodName := ⟨RX7, "add", "(I)V"⟩
abbrev cX7_countOf : ByteArray := prog_9_method_4_code
def yX7_countOf : MethodName := ⟨RX7, "countOf", "(I)I"⟩
abbrev cX7_winner : ByteArray := prog_9_method_5_code
def yX7_winner : MethodName := ⟨RX7, "winner", "()I"⟩
def RX8 : String := "TonguerootFamily$Word"
def TX8 : u_T := fun k => match k with
  | _ => ("", "", "", false)
def tyX8 : Nat → FieldType := fun k => match k with
  | _ => .int
abbrev wsX80 : List Cond := u_ws RX8 TX8 0
theorem nmX8 : ∀ a, a < 0 → ∀ b, b < 0 → a ≠ b → (TX8 a).2.1 ≠ (TX8 b).2.1 := by decide +kernel
theorem tyX8_ok : ∀ k, k < 0 → parseFieldDescriptor (TX8 k).2.2.1 = some (tyX8 k) := by decide +kernel
abbrev cX8_size : ByteArray := prog_10_method_2_code
def yX8_size : MethodName := ⟨RX8, "size", "(J)I"⟩
abbrev cX8_at : ByteArray := prog_10_method_3_code
def yX8_at : MethodName := ⟨RX8, "at", "(JI)I"⟩
abbrev cX8_plus : ByteArray := prog_10_method_4_code
def yX8_plus : MethodName := ⟨RX8, "plus", "(JI)J"⟩
def RX9 : String := "TonguerootFamily"
def TX9 : u_T := fun k => match k with
  | 0 => ("TonguerootFamily", "sounds", "LTonguerootFamily$Sounds;", true)
  | 1 => ("TonguerootFamily", "given", "[J", true)
  | 2 => ("TonguerootFamily", "open", "I", false)
  | 3 => ("TonguerootFamily", "history", "LTonguerootFamily$History;", true)
  | 4 => ("TonguerootFamily", "actual", "LTonguerootFamily$Lexicon;", true)
  | 5 => ("TonguerootFamily", "unlent", "LTonguerootFamily$Lexicon;", true)
  | 6 => ("TonguerootFamily", "supposed", "LTonguerootFamily$Lexicon;", true)
  | 7 => ("TonguerootFamily", "alignment", "LTonguerootFamily$Alignment;", true)
  | 8 => ("TonguerootFamily", "votes", "[LTonguerootFamily$Votes;", true)
  | _ => ("TonguerootFamily", "knownCosts", "[[I", true)
def tyX9 : Nat → FieldType := fun k => match k with
  | 0 => .object "TonguerootFamily$Sounds"
  | 1 => .array .long
  | 2 => .int
  | 3 => .object "TonguerootFamily$History"
  | 4 => .object "TonguerootFamily$Lexicon"
  | 5 => .object "TonguerootFamily$Lexicon"
  | 6 => .object "TonguerootFamily$Lexicon"
  | 7 => .object "TonguerootFamily$Alignment"
  | 8 => .array (.object "TonguerootFamily$Votes")
  | _ => .array (.array .int)
abbrev wsX90 : List Cond := u_ws RX9 TX9 10
theorem nmX9 : ∀ a, a < 10 → ∀ b, b < 10 → a ≠ b → (TX9 a).2.1 ≠ (TX9 b).2.1 := by decide +kernel
theorem tyX9_ok : ∀ k, k < 10 → parseFieldDescriptor (TX9 k).2.2.1 = some (tyX9 k) := by decide +kernel
abbrev cX9_init : ByteArray := prog_1_method_1_code
def yX9_init : MethodName := ⟨RX9, "<init>", "()V"⟩
abbrev cX9_motherAlone : ByteArray := prog_1_method_2_code
def yX9_motherAlone : MethodName := ⟨RX9, "motherAlone", "()Ljava/util/ArrayList;"⟩
abbrev cX9_setSound : ByteArray := prog_1_method_3_code
def yX9_setSound : MethodName := ⟨RX9, "setSound", "(II)I"⟩
abbrev cX9_word : ByteArray := prog_1_method_4_code
def yX9_word : MethodName := ⟨RX9, "word", "(I)I"⟩
abbrev cX9_spell : ByteArray := prog_1_method_5_code
def yX9_spell : MethodName := ⟨RX9, "spell", "(I)I"⟩
abbrev cX9_language : ByteArray := prog_1_method_6_code
def yX9_language : MethodName := ⟨RX9, "language", "(I)I"⟩
abbrev cX9_law : ByteArray := prog_1_method_7_code
def yX9_law : MethodName := ⟨RX9, "law", "(IIIII)I"⟩
abbrev cX9_unlaw : ByteArray := prog_1_method_8_code
def yX9_unlaw : MethodName := ⟨RX9, "unlaw", "(I)I"⟩
abbrev cX9_loan : ByteArray := prog_1_method_9_code
def yX9_loan : MethodName := ⟨RX9, "loan", "(IIII)I"⟩
abbrev cX9_languages : ByteArray := prog_1_method_10_code
def yX9_languages : MethodName := ⟨RX9, "languages", "()I"⟩
abbrev cX9_laws : ByteArray := prog_1_method_11_code
def yX9_laws : MethodName := ⟨RX9, "laws", "(I)I"⟩
abbrev cX9_loans : ByteArray := prog_1_method_12_code
def yX9_loans : MethodName := ⟨RX9, "loans", "()I"⟩
abbrev cX9_common : ByteArray := prog_1_method_13_code
def yX9_common : MethodName := ⟨RX9, "common", "(II)I"⟩
abbrev cX9_length : ByteArray := prog_1_method_14_code
def yX9_length : MethodName := ⟨RX9, "length", "(II)I"⟩
abbrev cX9_soundAt : ByteArray := prog_1_method_15_code
def yX9_soundAt : MethodName := ⟨RX9, "soundAt", "(III)I"⟩
abbrev cX9_origin : ByteArray := prog_1_method_16_code
def yX9_origin : MethodName := ⟨RX9, "origin", "(II)I"⟩
abbrev cX9_changedBy : ByteArray := prog_1_method_17_code
def yX9_changedBy : MethodName := ⟨RX9, "changedBy", "(II)I"⟩
abbrev cX9_wealth : ByteArray := prog_1_method_18_code
def yX9_wealth : MethodName := ⟨RX9, "wealth", "(I)I"⟩
abbrev cX9_alike : ByteArray := prog_1_method_19_code
def yX9_alike : MethodName := ⟨RX9, "alike", "(I)I"⟩
abbrev cX9_soundsOf : ByteArray := prog_1_method_20_code
def yX9_soundsOf : MethodName := ⟨RX9, "soundsOf", "(I)I"⟩
abbrev cX9_cost : ByteArray := prog_1_method_21_code
def yX9_cost : MethodName := ⟨RX9, "cost", "(III)I"⟩
abbrev cX9_columns : ByteArray := prog_1_method_22_code
def yX9_columns : MethodName := ⟨RX9, "columns", "(III)I"⟩
abbrev cX9_columnAt : ByteArray := prog_1_method_23_code
def yX9_columnAt : MethodName := ⟨RX9, "columnAt", "(IIII)I"⟩
abbrev cX9_answers : ByteArray := prog_1_method_24_code
def yX9_answers : MethodName := ⟨RX9, "answers", "(IIII)I"⟩
abbrev cX9_mainAnswer : ByteArray := prog_1_method_25_code
def yX9_mainAnswer : MethodName := ⟨RX9, "mainAnswer", "(III)I"⟩
abbrev cX9_far : ByteArray := prog_1_method_26_code
def yX9_far : MethodName := ⟨RX9, "far", "(II)D"⟩
abbrev cX9_nearest : ByteArray := prog_1_method_27_code
def yX9_nearest : MethodName := ⟨RX9, "nearest", "(I)I"⟩
abbrev cX9_recalled : ByteArray := prog_1_method_28_code
def yX9_recalled : MethodName := ⟨RX9, "recalled", "(II)I"⟩
abbrev cX9_recalledAt : ByteArray := prog_1_method_29_code
def yX9_recalledAt : MethodName := ⟨RX9, "recalledAt", "(III)I"⟩
abbrev cX9_recalledWell : ByteArray := prog_1_method_30_code
def yX9_recalledWell : MethodName := ⟨RX9, "recalledWell", "(I)I"⟩
abbrev cX9_swapped : ByteArray := prog_1_method_31_code
def yX9_swapped : MethodName := ⟨RX9, "swapped", "(II)I"⟩
abbrev cX9_without : ByteArray := prog_1_method_32_code
def yX9_without : MethodName := ⟨RX9, "without", "(II)I"⟩
abbrev cX9_withoutLoan : ByteArray := prog_1_method_33_code
def yX9_withoutLoan : MethodName := ⟨RX9, "withoutLoan", "(I)I"⟩
abbrev cX9_looksLent : ByteArray := prog_1_method_34_code
def yX9_looksLent : MethodName := ⟨RX9, "looksLent", "(II)Z"⟩
abbrev cX9_digest : ByteArray := prog_1_method_35_code
def yX9_digest : MethodName := ⟨RX9, "digest", "()J"⟩
abbrev cX9_requireThere : ByteArray := prog_1_method_36_code
def yX9_requireThere : MethodName := ⟨RX9, "requireThere", "(Z)V"⟩
abbrev cX9_refuseUnless : ByteArray := prog_1_method_37_code
def yX9_refuseUnless : MethodName := ⟨RX9, "refuseUnless", "(Z)V"⟩
abbrev cX9_requireState : ByteArray := prog_1_method_38_code
def yX9_requireState : MethodName := ⟨RX9, "requireState", "(Z)V"⟩
abbrev cX9_isSound : ByteArray := prog_1_method_39_code
def yX9_isSound : MethodName := ⟨RX9, "isSound", "(I)Z"⟩
abbrev cX9_isSoundOrNone : ByteArray := prog_1_method_40_code
def yX9_isSoundOrNone : MethodName := ⟨RX9, "isSoundOrNone", "(I)Z"⟩
abbrev cX9_isMeaning : ByteArray := prog_1_method_41_code
def yX9_isMeaning : MethodName := ⟨RX9, "isMeaning", "(I)Z"⟩
abbrev cX9_isNeighbourSet : ByteArray := prog_1_method_42_code
def yX9_isNeighbourSet : MethodName := ⟨RX9, "isNeighbourSet", "(I)Z"⟩
abbrev cX9_isLanguage : ByteArray := prog_1_method_43_code
def yX9_isLanguage : MethodName := ⟨RX9, "isLanguage", "(I)Z"⟩
abbrev cX9_isLaw : ByteArray := prog_1_method_44_code
def yX9_isLaw : MethodName := ⟨RX9, "isLaw", "(II)Z"⟩
abbrev cX9_lawsOf : ByteArray := prog_1_method_45_code
def yX9_lawsOf : MethodName := ⟨RX9, "lawsOf", "(I)Ljava/util/ArrayList;"⟩
abbrev cX9_soundIn : ByteArray := prog_1_method_46_code
def yX9_soundIn : MethodName := ⟨RX9, "soundIn", "(JI)I"⟩
abbrev cX9_forgetMeaning : ByteArray := prog_1_method_47_code
def yX9_forgetMeaning : MethodName := ⟨RX9, "forgetMeaning", "(I)V"⟩
abbrev cX9_forgetAll : ByteArray := prog_1_method_48_code
def yX9_forgetAll : MethodName := ⟨RX9, "forgetAll", "()V"⟩
abbrev cX9_countWords : ByteArray := prog_1_method_49_code
def yX9_countWords : MethodName := ⟨RX9, "countWords", "(I)I"⟩
abbrev cX9_countAlike : ByteArray := prog_1_method_50_code
def yX9_countAlike : MethodName := ⟨RX9, "countAlike", "(I)I"⟩
abbrev cX9_collectSounds : ByteArray := prog_1_method_51_code
def yX9_collectSounds : MethodName := ⟨RX9, "collectSounds", "(I)I"⟩
abbrev cX9_columnSign : ByteArray := prog_1_method_52_code
def yX9_columnSign : MethodName := ⟨RX9, "columnSign", "(I)I"⟩
abbrev cX9_leastCost : ByteArray := prog_1_method_53_code
def yX9_leastCost : MethodName := ⟨RX9, "leastCost", "(III)I"⟩
abbrev cX9_layOut : ByteArray := prog_1_method_54_code
def yX9_layOut : MethodName := ⟨RX9, "layOut", "(III)I"⟩
abbrev cX9_collectAnswers : ByteArray := prog_1_method_55_code
def yX9_collectAnswers : MethodName := ⟨RX9, "collectAnswers", "(III)V"⟩
abbrev cX9_distanceOf : ByteArray := prog_1_method_56_code
def yX9_distanceOf : MethodName := ⟨RX9, "distanceOf", "(II)D"⟩
abbrev cX9_nearestTo : ByteArray := prog_1_method_57_code
def yX9_nearestTo : MethodName := ⟨RX9, "nearestTo", "(I)I"⟩
abbrev cX9_isWitness : ByteArray := prog_1_method_58_code
def yX9_isWitness : MethodName := ⟨RX9, "isWitness", "(III)Z"⟩
abbrev cX9_recall : ByteArray := prog_1_method_59_code
def yX9_recall : MethodName := ⟨RX9, "recall", "(II)J"⟩
abbrev cX9_openVotes : ByteArray := prog_1_method_60_code
def yX9_openVotes : MethodName := ⟨RX9, "openVotes", "(J)V"⟩
abbrev cX9_castVotes : ByteArray := prog_1_method_61_code
def yX9_castVotes : MethodName := ⟨RX9, "castVotes", "(I)V"⟩
abbrev cX9_elected : ByteArray := prog_1_method_62_code
def yX9_elected : MethodName := ⟨RX9, "elected", "(I)J"⟩
abbrev cX9_countRecalledWell : ByteArray := prog_1_method_63_code
def yX9_countRecalledWell : MethodName := ⟨RX9, "countRecalledWell", "(I)I"⟩
abbrev cX9_suppose : ByteArray := prog_1_method_64_code
def yX9_suppose : MethodName := ⟨RX9, "suppose", "(ILTonguerootFamily$Language;)V"⟩
abbrev cX9_differs : ByteArray := prog_1_method_65_code
def yX9_differs : MethodName := ⟨RX9, "differs", "(LTonguerootFamily$Lexicon;II)Z"⟩
abbrev cX9_countDifferent : ByteArray := prog_1_method_66_code
def yX9_countDifferent : MethodName := ⟨RX9, "countDifferent", "(I)I"⟩
abbrev cX9_mixed : ByteArray := prog_1_method_67_code
def yX9_mixed : MethodName := ⟨RX9, "mixed", "(JJ)J"⟩
abbrev cX9_mixSounds : ByteArray := prog_1_method_68_code
def yX9_mixSounds : MethodName := ⟨RX9, "mixSounds", "(JJ)J"⟩
abbrev cX9_mixWord : ByteArray := prog_1_method_69_code
def yX9_mixWord : MethodName := ⟨RX9, "mixWord", "(JII)J"⟩
abbrev cX9_mixCosts : ByteArray := prog_1_method_70_code
def yX9_mixCosts : MethodName := ⟨RX9, "mixCosts", "(J)J"⟩
def RX10 : String := "TonguerootFamilyModel"
def TX10 : u_T := fun k => match k with
  | 0 => ("TonguerootFamilyModel", "thrown", "I", false)
  | 1 => ("TonguerootFamilyModel", "features", "[I", true)
  | 2 => ("TonguerootFamilyModel", "mother", "[J", true)
  | 3 => ("TonguerootFamilyModel", "open", "I", false)
  | 4 => ("TonguerootFamilyModel", "languages", "I", false)
  | 5 => ("TonguerootFamilyModel", "parent", "[I", true)
  | 6 => ("TonguerootFamilyModel", "laws", "[I", true)
  | 7 => ("TonguerootFamilyModel", "sounds", "[I", true)
  | 8 => ("TonguerootFamilyModel", "becomes", "[I", true)
  | 9 => ("TonguerootFamilyModel", "ahead", "[I", true)
  | 10 => ("TonguerootFamilyModel", "behind", "[I", true)
  | 11 => ("TonguerootFamilyModel", "loans", "I", false)
  | 12 => ("TonguerootFamilyModel", "loanOf", "[I", true)
  | 13 => ("TonguerootFamilyModel", "loanFrom", "[I", true)
  | 14 => ("TonguerootFamilyModel", "loanTo", "[I", true)
  | 15 => ("TonguerootFamilyModel", "moment", "[I", true)
  | 16 => ("TonguerootFamilyModel", "isLeftOut", "[Z", true)
  | 17 => ("TonguerootFamilyModel", "words", "[J", true)
  | 18 => ("TonguerootFamilyModel", "origins", "[I", true)
  | 19 => ("TonguerootFamilyModel", "changes", "[I", true)
  | 20 => ("TonguerootFamilyModel", "rest", "[I", true)
  | 21 => ("TonguerootFamilyModel", "columns", "I", false)
  | 22 => ("TonguerootFamilyModel", "first", "[I", true)
  | 23 => ("TonguerootFamilyModel", "second", "[I", true)
  | 24 => ("TonguerootFamilyModel", "ones", "[I", true)
  | 25 => ("TonguerootFamilyModel", "others", "[I", true)
  | _ => ("TonguerootFamilyModel", "votes", "[I", true)
def tyX10 : Nat → FieldType := fun k => match k with
  | 0 => .int
  | 1 => .array .int
  | 2 => .array .long
  | 3 => .int
  | 4 => .int
  | 5 => .array .int
  | 6 => .array .int
  | 7 => .array .int
  | 8 => .array .int
  | 9 => .array .int
  | 10 => .array .int
  | 11 => .int
  | 12 => .array .int
  | 13 => .array .int
  | 14 => .array .int
  | 15 => .array .int
  | 16 => .array .boolean
  | 17 => .array .long
  | 18 => .array .int
  | 19 => .array .int
  | 20 => .array .int
  | 21 => .int
  | 22 => .array .int
  | 23 => .array .int
  | 24 => .array .int
  | 25 => .array .int
  | _ => .array .int
abbrev wsX100 : List Cond := u_ws RX10 TX10 27
theorem nmX10 : ∀ a, a < 27 → ∀ b, b < 27 → a ≠ b → (TX10 a).2.1 ≠ (TX10 b).2.1 := by decide +kernel
theorem tyX10_ok : ∀ k, k < 27 → parseFieldDescriptor (TX10 k).2.2.1 = some (tyX10 k) := by decide +kernel
abbrev cX10_init : ByteArray := prog_12_method_1_code
def yX10_init : MethodName := ⟨RX10, "<init>", "()V"⟩
abbrev cX10_thrown : ByteArray := prog_12_method_2_code
def yX10_thrown : MethodName := ⟨RX10, "thrown", "()I"⟩
abbrev cX10_no : ByteArray := prog_12_method_3_code
def yX10_no : MethodName := ⟨RX10, "no", "(I)I"⟩
abbrev cX10_ok : ByteArray := prog_12_method_4_code
def yX10_ok : MethodName := ⟨RX10, "ok", "(I)I"⟩
abbrev cX10_isIn : ByteArray := prog_12_method_5_code
def yX10_isIn : MethodName := ⟨RX10, "isIn", "(III)Z"⟩
abbrev cX10_isSound : ByteArray := prog_12_method_6_code
def yX10_isSound : MethodName := ⟨RX10, "isSound", "(I)Z"⟩
abbrev cX10_isMeaning : ByteArray := prog_12_method_7_code
def yX10_isMeaning : MethodName := ⟨RX10, "isMeaning", "(I)Z"⟩
abbrev cX10_isLanguage : ByteArray := prog_12_method_8_code
def yX10_isLanguage : MethodName := ⟨RX10, "isLanguage", "(I)Z"⟩
abbrev cX10_length : ByteArray := prog_12_method_9_code
def yX10_length : MethodName := ⟨RX10, "length", "(J)I"⟩
abbrev cX10_at : ByteArray := prog_12_method_10_code
def yX10_at : MethodName := ⟨RX10, "at", "(JI)I"⟩
abbrev cX10_turned : ByteArray := prog_12_method_11_code
def yX10_turned : MethodName := ⟨RX10, "turned", "(II)I"⟩
abbrev cX10_isBeside : ByteArray := prog_12_method_12_code
def yX10_isBeside : MethodName := ⟨RX10, "isBeside", "(IZI)Z"⟩
abbrev cX10_changed : ByteArray := prog_12_method_13_code
def yX10_changed : MethodName := ⟨RX10, "changed", "(JI)J"⟩
abbrev cX10_solve : ByteArray := prog_12_method_14_code
def yX10_solve : MethodName := ⟨RX10, "solve", "()V"⟩
abbrev cX10_grow : ByteArray := prog_12_method_15_code
def yX10_grow : MethodName := ⟨RX10, "grow", "(II)V"⟩
abbrev cX10_borrow : ByteArray := prog_12_method_16_code
def yX10_borrow : MethodName := ⟨RX10, "borrow", "(IIII)V"⟩
abbrev cX10_wordOf : ByteArray := prog_12_method_17_code
def yX10_wordOf : MethodName := ⟨RX10, "wordOf", "(II)J"⟩
abbrev cX10_hasWord : ByteArray := prog_12_method_18_code
def yX10_hasWord : MethodName := ⟨RX10, "hasWord", "(II)Z"⟩
abbrev cX10_originOf : ByteArray := prog_12_method_19_code
def yX10_originOf : MethodName := ⟨RX10, "originOf", "(II)I"⟩
abbrev cX10_areKin : ByteArray := prog_12_method_20_code
def yX10_areKin : MethodName := ⟨RX10, "areKin", "(III)Z"⟩
abbrev cX10_setSound : ByteArray := prog_12_method_21_code
def yX10_setSound : MethodName := ⟨RX10, "setSound", "(II)I"⟩
abbrev cX10_word : ByteArray := prog_12_method_22_code
def yX10_word : MethodName := ⟨RX10, "word", "(I)I"⟩
abbrev cX10_spell : ByteArray := prog_12_method_23_code
def yX10_spell : MethodName := ⟨RX10, "spell", "(I)I"⟩
abbrev cX10_language : ByteArray := prog_12_method_24_code
def yX10_language : MethodName := ⟨RX10, "language", "(I)I"⟩
abbrev cX10_law : ByteArray := prog_12_method_25_code
def yX10_law : MethodName := ⟨RX10, "law", "(IIIII)I"⟩
abbrev cX10_unlaw : ByteArray := prog_12_method_26_code
def yX10_unlaw : MethodName := ⟨RX10, "unlaw", "(I)I"⟩
abbrev cX10_loan : ByteArray := prog_12_method_27_code
def yX10_loan : MethodName := ⟨RX10, "loan", "(IIII)I"⟩
abbrev cX10_languages : ByteArray := prog_12_method_28_code
def yX10_languages : MethodName := ⟨RX10, "languages", "()I"⟩
abbrev cX10_laws : ByteArray := prog_12_method_29_code
def yX10_laws : MethodName := ⟨RX10, "laws", "(I)I"⟩
abbrev cX10_loans : ByteArray := prog_12_method_30_code
def yX10_loans : MethodName := ⟨RX10, "loans", "()I"⟩
abbrev cX10_common : ByteArray := prog_12_method_31_code
def yX10_common : MethodName := ⟨RX10, "common", "(II)I"⟩
abbrev cX10_isAsked : ByteArray := prog_12_method_32_code
def yX10_isAsked : MethodName := ⟨RX10, "isAsked", "(II)Z"⟩
abbrev cX10_length_ : ByteArray := prog_12_method_33_code
def yX10_length_ : MethodName := ⟨RX10, "length", "(II)I"⟩
abbrev cX10_soundAt : ByteArray := prog_12_method_34_code
def yX10_soundAt : MethodName := ⟨RX10, "soundAt", "(III)I"⟩
abbrev cX10_origin : ByteArray := prog_12_method_35_code
def yX10_origin : MethodName := ⟨RX10, "origin", "(II)I"⟩
abbrev cX10_changesOf : ByteArray := prog_12_method_36_code
def yX10_changesOf : MethodName := ⟨RX10, "changesOf", "(II)I"⟩
abbrev cX10_changedBy : ByteArray := prog_12_method_37_code
def yX10_changedBy : MethodName := ⟨RX10, "changedBy", "(II)I"⟩
abbrev cX10_wealthOf : ByteArray := prog_12_method_38_code
def yX10_wealthOf : MethodName := ⟨RX10, "wealthOf", "(I)I"⟩
abbrev cX10_wealth : ByteArray := prog_12_method_39_code
def yX10_wealth : MethodName := ⟨RX10, "wealth", "(I)I"⟩
abbrev cX10_alikeIn : ByteArray := prog_12_method_40_code
def yX10_alikeIn : MethodName := ⟨RX10, "alikeIn", "(I)I"⟩
abbrev cX10_alike : ByteArray := prog_12_method_41_code
def yX10_alike : MethodName := ⟨RX10, "alike", "(I)I"⟩
abbrev cX10_soundsIn : ByteArray := prog_12_method_42_code
def yX10_soundsIn : MethodName := ⟨RX10, "soundsIn", "(I)I"⟩
abbrev cX10_soundsOf : ByteArray := prog_12_method_43_code
def yX10_soundsOf : MethodName := ⟨RX10, "soundsOf", "(I)I"⟩
abbrev cX10_costOf : ByteArray := prog_12_method_44_code
def yX10_costOf : MethodName := ⟨RX10, "costOf", "(II)I"⟩
abbrev cX10_restAt : ByteArray := prog_12_method_45_code
def yX10_restAt : MethodName := ⟨RX10, "restAt", "(II)I"⟩
abbrev cX10_spread : ByteArray := prog_12_method_46_code
def yX10_spread : MethodName := ⟨RX10, "spread", "(J[I)I"⟩
abbrev cX10_align : ByteArray := prog_12_method_47_code
def yX10_align : MethodName := ⟨RX10, "align", "(JJ)I"⟩
abbrev cX10_areAsked : ByteArray := prog_12_method_48_code
def yX10_areAsked : MethodName := ⟨RX10, "areAsked", "(III)Z"⟩
abbrev cX10_costNow : ByteArray := prog_12_method_49_code
def yX10_costNow : MethodName := ⟨RX10, "costNow", "(III)I"⟩
abbrev cX10_cost : ByteArray := prog_12_method_50_code
def yX10_cost : MethodName := ⟨RX10, "cost", "(III)I"⟩
abbrev cX10_columnsNow : ByteArray := prog_12_method_51_code
def yX10_columnsNow : MethodName := ⟨RX10, "columnsNow", "(III)I"⟩
abbrev cX10_columns : ByteArray := prog_12_method_52_code
def yX10_columns : MethodName := ⟨RX10, "columns", "(III)I"⟩
abbrev cX10_columnAt : ByteArray := prog_12_method_53_code
def yX10_columnAt : MethodName := ⟨RX10, "columnAt", "(IIII)I"⟩
abbrev cX10_answersNow : ByteArray := prog_12_method_54_code
def yX10_answersNow : MethodName := ⟨RX10, "answersNow", "(IIII)I"⟩
abbrev cX10_answers : ByteArray := prog_12_method_55_code
def yX10_answers : MethodName := ⟨RX10, "answers", "(IIII)I"⟩
abbrev cX10_mainAnswer : ByteArray := prog_12_method_56_code
def yX10_mainAnswer : MethodName := ⟨RX10, "mainAnswer", "(III)I"⟩
abbrev cX10_shared : ByteArray := prog_12_method_57_code
def yX10_shared : MethodName := ⟨RX10, "shared", "(II)I"⟩
abbrev cX10_costs : ByteArray := prog_12_method_58_code
def yX10_costs : MethodName := ⟨RX10, "costs", "()[I"⟩
abbrev cX10_farBy : ByteArray := prog_12_method_59_code
def yX10_farBy : MethodName := ⟨RX10, "farBy", "([III)D"⟩
abbrev cX10_far : ByteArray := prog_12_method_60_code
def yX10_far : MethodName := ⟨RX10, "far", "(II)D"⟩
abbrev cX10_nearestBy : ByteArray := prog_12_method_61_code
def yX10_nearestBy : MethodName := ⟨RX10, "nearestBy", "([II)I"⟩
abbrev cX10_nearest : ByteArray := prog_12_method_62_code
def yX10_nearest : MethodName := ⟨RX10, "nearest", "(I)I"⟩
abbrev cX10_recalledNow : ByteArray := prog_12_method_63_code
def yX10_recalledNow : MethodName := ⟨RX10, "recalledNow", "(II)J"⟩
abbrev cX10_recalled : ByteArray := prog_12_method_64_code
def yX10_recalled : MethodName := ⟨RX10, "recalled", "(II)I"⟩
abbrev cX10_recalledAt : ByteArray := prog_12_method_65_code
def yX10_recalledAt : MethodName := ⟨RX10, "recalledAt", "(III)I"⟩
abbrev cX10_wellNow : ByteArray := prog_12_method_66_code
def yX10_wellNow : MethodName := ⟨RX10, "wellNow", "(I)I"⟩
abbrev cX10_recalledWell : ByteArray := prog_12_method_67_code
def yX10_recalledWell : MethodName := ⟨RX10, "recalledWell", "(I)I"⟩
abbrev cX10_told : ByteArray := prog_12_method_68_code
def yX10_told : MethodName := ⟨RX10, "told", "()[J"⟩
abbrev cX10_unlike : ByteArray := prog_12_method_69_code
def yX10_unlike : MethodName := ⟨RX10, "unlike", "([JII)I"⟩
abbrev cX10_swap : ByteArray := prog_12_method_70_code
def yX10_swap : MethodName := ⟨RX10, "swap", "([III)V"⟩
abbrev cX10_swapLaws : ByteArray := prog_12_method_71_code
def yX10_swapLaws : MethodName := ⟨RX10, "swapLaws", "(II)V"⟩
abbrev cX10_swapped : ByteArray := prog_12_method_72_code
def yX10_swapped : MethodName := ⟨RX10, "swapped", "(II)I"⟩
abbrev cX10_without : ByteArray := prog_12_method_73_code
def yX10_without : MethodName := ⟨RX10, "without", "(II)I"⟩
abbrev cX10_withoutLoan : ByteArray := prog_12_method_74_code
def yX10_withoutLoan : MethodName := ⟨RX10, "withoutLoan", "(I)I"⟩
abbrev cX10_unlent : ByteArray := prog_12_method_75_code
def yX10_unlent : MethodName := ⟨RX10, "unlent", "()[J"⟩
abbrev cX10_looksLent : ByteArray := prog_12_method_76_code
def yX10_looksLent : MethodName := ⟨RX10, "looksLent", "(II)Z"⟩
abbrev cX10_digest : ByteArray := prog_12_method_77_code
def yX10_digest : MethodName := ⟨RX10, "digest", "()J"⟩
def RJx145de : String := "java/io/Serializable"
def TJx145de : u_T := fun k => match k with
  | _ => ("", "", "", false)
def tyJx145de : Nat → FieldType := fun k => match k with
  | _ => .int
abbrev wsJx145de0 : List Cond := u_ws RJx145de TJx145de 0
theorem nmJx145de : ∀ a, a < 0 → ∀ b, b < 0 → a ≠ b → (TJx145de a).2.1 ≠ (TJx145de b).2.1 := by decide +kernel
theorem tyJx145de_ok : ∀ k, k < 0 → parseFieldDescriptor (TJx145de k).2.2.1 = some (tyJx145de k) := by decide +kernel
def RJ5 : String := "java/lang/AbstractStringBuilder"
def TJ5 : u_T := fun k => match k with
  | _ => ("", "", "", false)
def tyJ5 : Nat → FieldType := fun k => match k with
  | _ => .int
abbrev wsJ50 : List Cond := u_ws RJ5 TJ5 0
theorem nmJ5 : ∀ a, a < 0 → ∀ b, b < 0 → a ≠ b → (TJ5 a).2.1 ≠ (TJ5 b).2.1 := by decide +kernel
theorem tyJ5_ok : ∀ k, k < 0 → parseFieldDescriptor (TJ5 k).2.2.1 = some (tyJ5 k) := by decide +kernel
abbrev cJ5_init_d00df : ByteArray := prog_14_method_2_code
def yJ5_init_d00df : MethodName := ⟨RJ5, "<init>", "(I)V"⟩
abbrev cJ5_length_8abf5 : ByteArray := prog_14_method_6_code
def yJ5_length_8abf5 : MethodName := ⟨RJ5, "length", "()I"⟩
abbrev cJ5_ensureCapacityInternal_d00df : ByteArray := prog_14_method_9_code
def yJ5_ensureCapacityInternal_d00df : MethodName := ⟨RJ5, "ensureCapacityInternal", "(I)V"⟩
abbrev cJ5_newCapacity_0f7a4 : ByteArray := prog_14_method_10_code
def yJ5_newCapacity_0f7a4 : MethodName := ⟨RJ5, "newCapacity", "(I)I"⟩
abbrev cJ5_inflate_da8c8 : ByteArray := prog_14_method_11_code
def yJ5_inflate_da8c8 : MethodName := ⟨RJ5, "inflate", "()V"⟩
abbrev cJ5_append_cf1ce : ByteArray := prog_14_method_22_code
def yJ5_append_cf1ce : MethodName := ⟨RJ5, "append", "(Ljava/lang/String;)Ljava/lang/AbstractStringBuilder;"⟩
abbrev cJ5_appendNull_278bc : ByteArray := prog_14_method_26_code
def yJ5_appendNull_278bc : MethodName := ⟨RJ5, "appendNull", "()Ljava/lang/AbstractStringBuilder;"⟩
abbrev cJ5_append_c97b9 : ByteArray := prog_14_method_32_code
def yJ5_append_c97b9 : MethodName := ⟨RJ5, "append", "(I)Ljava/lang/AbstractStringBuilder;"⟩
abbrev cJ5_getValue_6d5f1 : ByteArray := prog_14_method_64_code
def yJ5_getValue_6d5f1 : MethodName := ⟨RJ5, "getValue", "()[B"⟩
abbrev cJ5_isLatin1_aae02 : ByteArray := prog_14_method_68_code
def yJ5_isLatin1_aae02 : MethodName := ⟨RJ5, "isLatin1", "()Z"⟩
abbrev cJ5_inflateIfNeededFor_a7421 : ByteArray := prog_14_method_71_code
def yJ5_inflateIfNeededFor_a7421 : MethodName := ⟨RJ5, "inflateIfNeededFor", "(Ljava/lang/String;)V"⟩
abbrev cJ5_putStringAt_47b60 : ByteArray := prog_14_method_73_code
def yJ5_putStringAt_47b60 : MethodName := ⟨RJ5, "putStringAt", "(ILjava/lang/String;)V"⟩
def RJx2cfe8 : String := "java/lang/Appendable"
def TJx2cfe8 : u_T := fun k => match k with
  | _ => ("", "", "", false)
def tyJx2cfe8 : Nat → FieldType := fun k => match k with
  | _ => .int
abbrev wsJx2cfe80 : List Cond := u_ws RJx2cfe8 TJx2cfe8 0
theorem nmJx2cfe8 : ∀ a, a < 0 → ∀ b, b < 0 → a ≠ b → (TJx2cfe8 a).2.1 ≠ (TJx2cfe8 b).2.1 := by decide +kernel
theorem tyJx2cfe8_ok : ∀ k, k < 0 → parseFieldDescriptor (TJx2cfe8 k).2.2.1 = some (tyJx2cfe8 k) := by decide +kernel
def RJx9f9b0 : String := "java/lang/CharSequence"
def TJx9f9b0 : u_T := fun k => match k with
  | _ => ("", "", "", false)
def tyJx9f9b0 : Nat → FieldType := fun k => match k with
  | _ => .int
abbrev wsJx9f9b00 : List Cond := u_ws RJx9f9b0 TJx9f9b0 0
theorem nmJx9f9b0 : ∀ a, a < 0 → ∀ b, b < 0 → a ≠ b → (TJx9f9b0 a).2.1 ≠ (TJx9f9b0 b).2.1 := by decide +kernel
theorem tyJx9f9b0_ok : ∀ k, k < 0 → parseFieldDescriptor (TJx9f9b0 k).2.2.1 = some (tyJx9f9b0 k) := by decide +kernel
def RJx8e188 : String := "java/lang/Cloneable"
def TJx8e188 : u_T := fun k => match k with
  | _ => ("", "", "", false)
def tyJx8e188 : Nat → FieldType := fun k => match k with
  | _ => .int
abbrev wsJx8e1880 : List Cond := u_ws RJx8e188 TJx8e188 0
theorem nmJx8e188 : ∀ a, a < 0 → ∀ b, b < 0 → a ≠ b → (TJx8e188 a).2.1 ≠ (TJx8e188 b).2.1 := by decide +kernel
theorem tyJx8e188_ok : ∀ k, k < 0 → parseFieldDescriptor (TJx8e188 k).2.2.1 = some (tyJx8e188 k) := by decide +kernel
def RJxb160c : String := "java/lang/Comparable"
def TJxb160c : u_T := fun k => match k with
  | _ => ("", "", "", false)
def tyJxb160c : Nat → FieldType := fun k => match k with
  | _ => .int
abbrev wsJxb160c0 : List Cond := u_ws RJxb160c TJxb160c 0
theorem nmJxb160c : ∀ a, a < 0 → ∀ b, b < 0 → a ≠ b → (TJxb160c a).2.1 ≠ (TJxb160c b).2.1 := by decide +kernel
theorem tyJxb160c_ok : ∀ k, k < 0 → parseFieldDescriptor (TJxb160c k).2.2.1 = some (tyJxb160c k) := by decide +kernel
def RJ6 : String := "java/lang/Integer"
def TJ6 : u_T := fun k => match k with
  | _ => ("", "", "", false)
def tyJ6 : Nat → FieldType := fun k => match k with
  | _ => .int
abbrev wsJ60 : List Cond := u_ws RJ6 TJ6 0
theorem nmJ6 : ∀ a, a < 0 → ∀ b, b < 0 → a ≠ b → (TJ6 a).2.1 ≠ (TJ6 b).2.1 := by decide +kernel
theorem tyJ6_ok : ∀ k, k < 0 → parseFieldDescriptor (TJ6 k).2.2.1 = some (tyJ6 k) := by decide +kernel
abbrev cJ6_getChars_ba4f3 : ByteArray := prog_23_method_12_code
def yJ6_getChars_ba4f3 : MethodName := ⟨RJ6, "getChars", "(II[B)I"⟩
abbrev cJ6_stringSize_0f7a4 : ByteArray := prog_23_method_13_code
def yJ6_stringSize_0f7a4 : MethodName := ⟨RJ6, "stringSize", "(I)I"⟩
abbrev cJ6_bitCount_0f7a4 : ByteArray := prog_23_method_49_code
def yJ6_bitCount_0f7a4 : MethodName := ⟨RJ6, "bitCount", "(I)I"⟩
def RJxab1ab : String := "java/lang/Iterable"
def TJxab1ab : u_T := fun k => match k with
  | _ => ("", "", "", false)
def tyJxab1ab : Nat → FieldType := fun k => match k with
  | _ => .int
abbrev wsJxab1ab0 : List Cond := u_ws RJxab1ab TJxab1ab 0
theorem nmJxab1ab : ∀ a, a < 0 → ∀ b, b < 0 → a ≠ b → (TJxab1ab a).2.1 ≠ (TJxab1ab b).2.1 := by decide +kernel
theorem tyJxab1ab_ok : ∀ k, k < 0 → parseFieldDescriptor (TJxab1ab k).2.2.1 = some (tyJxab1ab k) := by decide +kernel
def RJ9 : String := "java/lang/Math"
def TJ9 : u_T := fun k => match k with
  | _ => ("", "", "", false)
def tyJ9 : Nat → FieldType := fun k => match k with
  | _ => .int
abbrev wsJ90 : List Cond := u_ws RJ9 TJ9 0
theorem nmJ9 : ∀ a, a < 0 → ∀ b, b < 0 → a ≠ b → (TJ9 a).2.1 ≠ (TJ9 b).2.1 := by decide +kernel
theorem tyJ9_ok : ∀ k, k < 0 → parseFieldDescriptor (TJ9 k).2.2.1 = some (tyJ9 k) := by decide +kernel
abbrev cJ9_max_7cf53 : ByteArray := prog_25_method_65_code
def yJ9_max_7cf53 : MethodName := ⟨RJ9, "max", "(II)I"⟩
abbrev cJ9_min_7cf53 : ByteArray := prog_25_method_69_code
def yJ9_min_7cf53 : MethodName := ⟨RJ9, "min", "(II)I"⟩
def RJxd2413 : String := "java/lang/Number"
def TJxd2413 : u_T := fun k => match k with
  | _ => ("", "", "", false)
def tyJxd2413 : Nat → FieldType := fun k => match k with
  | _ => .int
abbrev wsJxd24130 : List Cond := u_ws RJxd2413 TJxd2413 0
theorem nmJxd2413 : ∀ a, a < 0 → ∀ b, b < 0 → a ≠ b → (TJxd2413 a).2.1 ≠ (TJxd2413 b).2.1 := by decide +kernel
theorem tyJxd2413_ok : ∀ k, k < 0 → parseFieldDescriptor (TJxd2413 k).2.2.1 = some (tyJxd2413 k) := by decide +kernel
def RJ0 : String := "java/lang/String"
def TJ0 : u_T := fun k => match k with
  | 0 => ("java/lang/String", "value", "[B", true)
  | 1 => ("java/lang/String", "coder", "B", true)
  | 2 => ("java/lang/String", "hash", "I", false)
  | _ => ("java/lang/String", "hashIsZero", "Z", false)
def tyJ0 : Nat → FieldType := fun k => match k with
  | 0 => .array .byte
  | 1 => .byte
  | 2 => .int
  | _ => .boolean
abbrev wsJ00 : List Cond := u_ws RJ0 TJ0 4
theorem nmJ0 : ∀ a, a < 4 → ∀ b, b < 4 → a ≠ b → (TJ0 a).2.1 ≠ (TJ0 b).2.1 := by decide +kernel
theorem tyJ0_ok : ∀ k, k < 4 → parseFieldDescriptor (TJ0 k).2.2.1 = some (tyJ0 k) := by decide +kernel
abbrev cJ0_init_81219 : ByteArray := prog_28_method_53_code
def yJ0_init_81219 : MethodName := ⟨RJ0, "<init>", "(Ljava/lang/StringBuilder;)V"⟩
abbrev cJ0_length_8abf5 : ByteArray := prog_28_method_54_code
def yJ0_length_8abf5 : MethodName := ⟨RJ0, "length", "()I"⟩
abbrev cJ0_getBytes_840e7 : ByteArray := prog_28_method_147_code
def yJ0_getBytes_840e7 : MethodName := ⟨RJ0, "getBytes", "([BIB)V"⟩
abbrev cJ0_init_db425 : ByteArray := prog_28_method_150_code
def yJ0_init_db425 : MethodName := ⟨RJ0, "<init>", "(Ljava/lang/AbstractStringBuilder;Ljava/lang/Void;)V"⟩
abbrev cJ0_coder_7d493 : ByteArray := prog_28_method_152_code
def yJ0_coder_7d493 : MethodName := ⟨RJ0, "coder", "()B"⟩
abbrev cJ0_checkBoundsOffCount_cabcc : ByteArray := prog_28_method_157_code
def yJ0_checkBoundsOffCount_cabcc : MethodName := ⟨RJ0, "checkBoundsOffCount", "(III)I"⟩
abbrev cJ0_checkBoundsBeginEnd_23922 : ByteArray := prog_28_method_158_code
def yJ0_checkBoundsBeginEnd_23922 : MethodName := ⟨RJ0, "checkBoundsBeginEnd", "(III)V"⟩
def RJ4 : String := "java/lang/StringBuilder"
def TJ4 : u_T := fun k => match k with
  | 0 => ("java/lang/AbstractStringBuilder", "value", "[B", false)
  | 1 => ("java/lang/AbstractStringBuilder", "coder", "B", false)
  | 2 => ("java/lang/AbstractStringBuilder", "maybeLatin1", "Z", false)
  | _ => ("java/lang/AbstractStringBuilder", "count", "I", false)
def tyJ4 : Nat → FieldType := fun k => match k with
  | 0 => .array .byte
  | 1 => .byte
  | 2 => .boolean
  | _ => .int
abbrev wsJ40 : List Cond := u_ws RJ4 TJ4 4
theorem nmJ4 : ∀ a, a < 4 → ∀ b, b < 4 → a ≠ b → (TJ4 a).2.1 ≠ (TJ4 b).2.1 := by decide +kernel
theorem tyJ4_ok : ∀ k, k < 4 → parseFieldDescriptor (TJ4 k).2.2.1 = some (tyJ4 k) := by decide +kernel
abbrev cJ4_init_da8c8 : ByteArray := prog_29_method_1_code
def yJ4_init_da8c8 : MethodName := ⟨RJ4, "<init>", "()V"⟩
abbrev cJ4_append_15ec4 : ByteArray := prog_29_method_7_code
def yJ4_append_15ec4 : MethodName := ⟨RJ4, "append", "(Ljava/lang/String;)Ljava/lang/StringBuilder;"⟩
abbrev cJ4_append_bf812 : ByteArray := prog_29_method_15_code
def yJ4_append_bf812 : MethodName := ⟨RJ4, "append", "(I)Ljava/lang/StringBuilder;"⟩
abbrev cJ4_toString_0e30d : ByteArray := prog_29_method_42_code
def yJ4_toString_0e30d : MethodName := ⟨RJ4, "toString", "()Ljava/lang/String;"⟩
abbrev cJ4_length_8abf5 : ByteArray := prog_29_method_93_code
def yJ4_length_8abf5 : MethodName := ⟨RJ4, "length", "()I"⟩
def RJ1 : String := "java/lang/StringLatin1"
def TJ1 : u_T := fun k => match k with
  | _ => ("", "", "", false)
def tyJ1 : Nat → FieldType := fun k => match k with
  | _ => .int
abbrev wsJ10 : List Cond := u_ws RJ1 TJ1 0
theorem nmJ1 : ∀ a, a < 0 → ∀ b, b < 0 → a ≠ b → (TJ1 a).2.1 ≠ (TJ1 b).2.1 := by decide +kernel
theorem tyJ1_ok : ∀ k, k < 0 → parseFieldDescriptor (TJ1 k).2.2.1 = some (tyJ1 k) := by decide +kernel
abbrev cJ1_inflate_0e8fd : ByteArray := prog_30_method_50_code
def yJ1_inflate_0e8fd : MethodName := ⟨RJ1, "inflate", "([BI[BII)V"⟩
def RJ2 : String := "java/lang/StringUTF16"
def TJ2 : u_T := fun k => match k with
  | _ => ("", "", "", false)
def tyJ2 : Nat → FieldType := fun k => match k with
  | _ => .int
abbrev wsJ20 : List Cond := u_ws RJ2 TJ2 0
theorem nmJ2 : ∀ a, a < 0 → ∀ b, b < 0 → a ≠ b → (TJ2 a).2.1 ≠ (TJ2 b).2.1 := by decide +kernel
theorem tyJ2_ok : ∀ k, k < 0 → parseFieldDescriptor (TJ2 k).2.2.1 = some (tyJ2 k) := by decide +kernel
abbrev cJ2_newBytesFor_77867 : ByteArray := prog_31_method_2_code
def yJ2_newBytesFor_77867 : MethodName := ⟨RJ2, "newBytesFor", "(I)[B"⟩
abbrev cJ2_newBytesLength_0f7a4 : ByteArray := prog_31_method_3_code
def yJ2_newBytesLength_0f7a4 : MethodName := ⟨RJ2, "newBytesLength", "(I)I"⟩
abbrev cJ2_putChar_b72d1 : ByteArray := prog_31_method_4_code
def yJ2_putChar_b72d1 : MethodName := ⟨RJ2, "putChar", "([BII)V"⟩
abbrev cJ2_getChar_3b067 : ByteArray := prog_31_method_5_code
def yJ2_getChar_3b067 : MethodName := ⟨RJ2, "getChar", "([BI)C"⟩
abbrev cJ2_length_9d52b : ByteArray := prog_31_method_6_code
def yJ2_length_9d52b : MethodName := ⟨RJ2, "length", "([B)I"⟩
abbrev cJ2_coderFromArrayLen_85cad : ByteArray := prog_31_method_15_code
def yJ2_coderFromArrayLen_85cad : MethodName := ⟨RJ2, "coderFromArrayLen", "([BI)B"⟩
abbrev cJ2_compress_39247 : ByteArray := prog_31_method_17_code
def yJ2_compress_39247 : MethodName := ⟨RJ2, "compress", "([BII)[B"⟩
abbrev cJ2_compress_5af95 : ByteArray := prog_31_method_22_code
def yJ2_compress_5af95 : MethodName := ⟨RJ2, "compress", "([BI[BII)I"⟩
abbrev cJ2_getChars_46870 : ByteArray := prog_31_method_77_code
def yJ2_getChars_46870 : MethodName := ⟨RJ2, "getChars", "(III[B)I"⟩
abbrev cJ2_putCharsAt_cd4e5 : ByteArray := prog_31_method_81_code
def yJ2_putCharsAt_cd4e5 : MethodName := ⟨RJ2, "putCharsAt", "([BICCCC)I"⟩
abbrev cJ2_inflate_0e8fd : ByteArray := prog_31_method_86_code
def yJ2_inflate_0e8fd : MethodName := ⟨RJ2, "inflate", "([BI[BII)V"⟩
abbrev cJ2_getChars_ba4f3 : ByteArray := prog_31_method_89_code
def yJ2_getChars_ba4f3 : MethodName := ⟨RJ2, "getChars", "(II[B)I"⟩
abbrev cJ2_checkBoundsBeginEnd_d044e : ByteArray := prog_31_method_93_code
def yJ2_checkBoundsBeginEnd_d044e : MethodName := ⟨RJ2, "checkBoundsBeginEnd", "(II[B)V"⟩
abbrev cJ2_checkBoundsOffCount_d044e : ByteArray := prog_31_method_94_code
def yJ2_checkBoundsOffCount_d044e : MethodName := ⟨RJ2, "checkBoundsOffCount", "(II[B)V"⟩
def RJ10 : String := "java/lang/System"
def TJ10 : u_T := fun k => match k with
  | _ => ("", "", "", false)
def tyJ10 : Nat → FieldType := fun k => match k with
  | _ => .int
abbrev wsJ100 : List Cond := u_ws RJ10 TJ10 0
theorem nmJ10 : ∀ a, a < 0 → ∀ b, b < 0 → a ≠ b → (TJ10 a).2.1 ≠ (TJ10 b).2.1 := by decide +kernel
theorem tyJ10_ok : ∀ k, k < 0 → parseFieldDescriptor (TJ10 k).2.2.1 = some (tyJ10 k) := by decide +kernel
def RJxfd54e : String := "java/lang/constant/Constable"
def TJxfd54e : u_T := fun k => match k with
  | _ => ("", "", "", false)
def tyJxfd54e : Nat → FieldType := fun k => match k with
  | _ => .int
abbrev wsJxfd54e0 : List Cond := u_ws RJxfd54e TJxfd54e 0
theorem nmJxfd54e : ∀ a, a < 0 → ∀ b, b < 0 → a ≠ b → (TJxfd54e a).2.1 ≠ (TJxfd54e b).2.1 := by decide +kernel
theorem tyJxfd54e_ok : ∀ k, k < 0 → parseFieldDescriptor (TJxfd54e k).2.2.1 = some (tyJxfd54e k) := by decide +kernel
def RJx3cf43 : String := "java/lang/constant/ConstantDesc"
def TJx3cf43 : u_T := fun k => match k with
  | _ => ("", "", "", false)
def tyJx3cf43 : Nat → FieldType := fun k => match k with
  | _ => .int
abbrev wsJx3cf430 : List Cond := u_ws RJx3cf43 TJx3cf43 0
theorem nmJx3cf43 : ∀ a, a < 0 → ∀ b, b < 0 → a ≠ b → (TJx3cf43 a).2.1 ≠ (TJx3cf43 b).2.1 := by decide +kernel
theorem tyJx3cf43_ok : ∀ k, k < 0 → parseFieldDescriptor (TJx3cf43 k).2.2.1 = some (tyJx3cf43 k) := by decide +kernel
def RJxa1e45 : String := "java/util/AbstractCollection"
def TJxa1e45 : u_T := fun k => match k with
  | _ => ("", "", "", false)
def tyJxa1e45 : Nat → FieldType := fun k => match k with
  | _ => .int
abbrev wsJxa1e450 : List Cond := u_ws RJxa1e45 TJxa1e45 0
theorem nmJxa1e45 : ∀ a, a < 0 → ∀ b, b < 0 → a ≠ b → (TJxa1e45 a).2.1 ≠ (TJxa1e45 b).2.1 := by decide +kernel
theorem tyJxa1e45_ok : ∀ k, k < 0 → parseFieldDescriptor (TJxa1e45 k).2.2.1 = some (tyJxa1e45 k) := by decide +kernel
abbrev cJxa1e45_init_da8c8 : ByteArray := prog_36_method_1_code
def yJxa1e45_init_da8c8 : MethodName := ⟨RJxa1e45, "<init>", "()V"⟩
def RJxc12de : String := "java/util/AbstractList"
def TJxc12de : u_T := fun k => match k with
  | _ => ("", "", "", false)
def tyJxc12de : Nat → FieldType := fun k => match k with
  | _ => .int
abbrev wsJxc12de0 : List Cond := u_ws RJxc12de TJxc12de 0
theorem nmJxc12de : ∀ a, a < 0 → ∀ b, b < 0 → a ≠ b → (TJxc12de a).2.1 ≠ (TJxc12de b).2.1 := by decide +kernel
theorem tyJxc12de_ok : ∀ k, k < 0 → parseFieldDescriptor (TJxc12de k).2.2.1 = some (tyJxc12de k) := by decide +kernel
abbrev cJxc12de_init_da8c8 : ByteArray := prog_37_method_1_code
def yJxc12de_init_da8c8 : MethodName := ⟨RJxc12de, "<init>", "()V"⟩
def RJx4a65c : String := "java/util/ArrayList"
def TJx4a65c : u_T := fun k => match k with
  | 0 => ("java/util/AbstractList", "modCount", "I", false)
  | 1 => ("java/util/ArrayList", "elementData", "[Ljava/lang/Object;", false)
  | _ => ("java/util/ArrayList", "size", "I", false)
def tyJx4a65c : Nat → FieldType := fun k => match k with
  | 0 => .int
  | 1 => .array (.object "java/lang/Object")
  | _ => .int
abbrev wsJx4a65c0 : List Cond := u_ws RJx4a65c TJx4a65c 3
theorem nmJx4a65c : ∀ a, a < 3 → ∀ b, b < 3 → a ≠ b → (TJx4a65c a).2.1 ≠ (TJx4a65c b).2.1 := by decide +kernel
theorem tyJx4a65c_ok : ∀ k, k < 3 → parseFieldDescriptor (TJx4a65c k).2.2.1 = some (tyJx4a65c k) := by decide +kernel
abbrev cJx4a65c_init_da8c8 : ByteArray := prog_38_method_2_code
def yJx4a65c_init_da8c8 : MethodName := ⟨RJx4a65c, "<init>", "()V"⟩
abbrev cJx4a65c_grow_92f84 : ByteArray := prog_38_method_6_code
def yJx4a65c_grow_92f84 : MethodName := ⟨RJx4a65c, "grow", "(I)[Ljava/lang/Object;"⟩
abbrev cJx4a65c_grow_d5877 : ByteArray := prog_38_method_7_code
def yJx4a65c_grow_d5877 : MethodName := ⟨RJx4a65c, "grow", "()[Ljava/lang/Object;"⟩
abbrev cJx4a65c_size_8abf5 : ByteArray := prog_38_method_8_code
def yJx4a65c_size_8abf5 : MethodName := ⟨RJx4a65c, "size", "()I"⟩
abbrev cJx4a65c_isEmpty_aae02 : ByteArray := prog_38_method_9_code
def yJx4a65c_isEmpty_aae02 : MethodName := ⟨RJx4a65c, "isEmpty", "()Z"⟩
abbrev cJx4a65c_elementData_915e3 : ByteArray := prog_38_method_18_code
def yJx4a65c_elementData_915e3 : MethodName := ⟨RJx4a65c, "elementData", "(I)Ljava/lang/Object;"⟩
abbrev cJx4a65c_get_915e3 : ByteArray := prog_38_method_20_code
def yJx4a65c_get_915e3 : MethodName := ⟨RJx4a65c, "get", "(I)Ljava/lang/Object;"⟩
abbrev cJx4a65c_add_72be8 : ByteArray := prog_38_method_24_code
def yJx4a65c_add_72be8 : MethodName := ⟨RJx4a65c, "add", "(Ljava/lang/Object;[Ljava/lang/Object;I)V"⟩
abbrev cJx4a65c_add_9ea2d : ByteArray := prog_38_method_25_code
def yJx4a65c_add_9ea2d : MethodName := ⟨RJx4a65c, "add", "(Ljava/lang/Object;)Z"⟩
abbrev cJx4a65c_add_7a177 : ByteArray := prog_38_method_26_code
def yJx4a65c_add_7a177 : MethodName := ⟨RJx4a65c, "add", "(ILjava/lang/Object;)V"⟩
abbrev cJx4a65c_remove_915e3 : ByteArray := prog_38_method_29_code
def yJx4a65c_remove_915e3 : MethodName := ⟨RJx4a65c, "remove", "(I)Ljava/lang/Object;"⟩
abbrev cJx4a65c_fastRemove_b59b0 : ByteArray := prog_38_method_39_code
def yJx4a65c_fastRemove_b59b0 : MethodName := ⟨RJx4a65c, "fastRemove", "([Ljava/lang/Object;I)V"⟩
abbrev cJx4a65c_rangeCheckForAdd_d00df : ByteArray := prog_38_method_45_code
def yJx4a65c_rangeCheckForAdd_d00df : MethodName := ⟨RJx4a65c, "rangeCheckForAdd", "(I)V"⟩
abbrev cJx4a65c_outOfBoundsMsg_b52d3 : ByteArray := prog_38_method_46_code
def yJx4a65c_outOfBoundsMsg_b52d3 : MethodName := ⟨RJx4a65c, "outOfBoundsMsg", "(I)Ljava/lang/String;"⟩
def RJ7 : String := "java/util/Arrays"
def TJ7 : u_T := fun k => match k with
  | _ => ("", "", "", false)
def tyJ7 : Nat → FieldType := fun k => match k with
  | _ => .int
abbrev wsJ70 : List Cond := u_ws RJ7 TJ7 0
theorem nmJ7 : ∀ a, a < 0 → ∀ b, b < 0 → a ≠ b → (TJ7 a).2.1 ≠ (TJ7 b).2.1 := by decide +kernel
theorem tyJ7_ok : ∀ k, k < 0 → parseFieldDescriptor (TJ7 k).2.2.1 = some (tyJ7 k) := by decide +kernel
abbrev cJ7_fill_53178 : ByteArray := prog_39_method_103_code
def yJ7_fill_53178 : MethodName := ⟨RJ7, "fill", "([II)V"⟩
abbrev cJ7_copyOf_1904c : ByteArray := prog_39_method_119_code
def yJ7_copyOf_1904c : MethodName := ⟨RJ7, "copyOf", "([Ljava/lang/Object;I)[Ljava/lang/Object;"⟩
abbrev cJ7_copyOf_6403c : ByteArray := prog_39_method_120_code
def yJ7_copyOf_6403c : MethodName := ⟨RJ7, "copyOf", "([Ljava/lang/Object;ILjava/lang/Class;)[Ljava/lang/Object;"⟩
abbrev cJ7_copyOf_9075b : ByteArray := prog_39_method_121_code
def yJ7_copyOf_9075b : MethodName := ⟨RJ7, "copyOf", "([BI)[B"⟩
abbrev cJ7_checkLength_df160 : ByteArray := prog_39_method_131_code
def yJ7_checkLength_df160 : MethodName := ⟨RJ7, "checkLength", "(II)V"⟩
abbrev cJ7_copyOfRange_39247 : ByteArray := prog_39_method_132_code
def yJ7_copyOfRange_39247 : MethodName := ⟨RJ7, "copyOfRange", "([BII)[B"⟩
abbrev cJ7_copyOfRangeByte_39247 : ByteArray := prog_39_method_133_code
def yJ7_copyOfRangeByte_39247 : MethodName := ⟨RJ7, "copyOfRangeByte", "([BII)[B"⟩
def RJx5ef63 : String := "java/util/Collection"
def TJx5ef63 : u_T := fun k => match k with
  | _ => ("", "", "", false)
def tyJx5ef63 : Nat → FieldType := fun k => match k with
  | _ => .int
abbrev wsJx5ef630 : List Cond := u_ws RJx5ef63 TJx5ef63 0
theorem nmJx5ef63 : ∀ a, a < 0 → ∀ b, b < 0 → a ≠ b → (TJx5ef63 a).2.1 ≠ (TJx5ef63 b).2.1 := by decide +kernel
theorem tyJx5ef63_ok : ∀ k, k < 0 → parseFieldDescriptor (TJx5ef63 k).2.2.1 = some (tyJx5ef63 k) := by decide +kernel
def RJxbd725 : String := "java/util/List"
def TJxbd725 : u_T := fun k => match k with
  | _ => ("", "", "", false)
def tyJxbd725 : Nat → FieldType := fun k => match k with
  | _ => .int
abbrev wsJxbd7250 : List Cond := u_ws RJxbd725 TJxbd725 0
theorem nmJxbd725 : ∀ a, a < 0 → ∀ b, b < 0 → a ≠ b → (TJxbd725 a).2.1 ≠ (TJxbd725 b).2.1 := by decide +kernel
theorem tyJxbd725_ok : ∀ k, k < 0 → parseFieldDescriptor (TJxbd725 k).2.2.1 = some (tyJxbd725 k) := by decide +kernel
def RJ15 : String := "java/util/Objects"
def TJ15 : u_T := fun k => match k with
  | _ => ("", "", "", false)
def tyJ15 : Nat → FieldType := fun k => match k with
  | _ => .int
abbrev wsJ150 : List Cond := u_ws RJ15 TJ15 0
theorem nmJ15 : ∀ a, a < 0 → ∀ b, b < 0 → a ≠ b → (TJ15 a).2.1 ≠ (TJ15 b).2.1 := by decide +kernel
theorem tyJ15_ok : ∀ k, k < 0 → parseFieldDescriptor (TJ15 k).2.2.1 = some (tyJ15 k) := by decide +kernel
abbrev cJ15_checkIndex_7cf53 : ByteArray := prog_42_method_17_code
def yJ15_checkIndex_7cf53 : MethodName := ⟨RJ15, "checkIndex", "(II)I"⟩
def RJxf0a74 : String := "java/util/RandomAccess"
def TJxf0a74 : u_T := fun k => match k with
  | _ => ("", "", "", false)
def tyJxf0a74 : Nat → FieldType := fun k => match k with
  | _ => .int
abbrev wsJxf0a740 : List Cond := u_ws RJxf0a74 TJxf0a74 0
theorem nmJxf0a74 : ∀ a, a < 0 → ∀ b, b < 0 → a ≠ b → (TJxf0a74 a).2.1 ≠ (TJxf0a74 b).2.1 := by decide +kernel
theorem tyJxf0a74_ok : ∀ k, k < 0 → parseFieldDescriptor (TJxf0a74 k).2.2.1 = some (tyJxf0a74 k) := by decide +kernel
def RJxa66e6 : String := "java/util/SequencedCollection"
def TJxa66e6 : u_T := fun k => match k with
  | _ => ("", "", "", false)
def tyJxa66e6 : Nat → FieldType := fun k => match k with
  | _ => .int
abbrev wsJxa66e60 : List Cond := u_ws RJxa66e6 TJxa66e6 0
theorem nmJxa66e6 : ∀ a, a < 0 → ∀ b, b < 0 → a ≠ b → (TJxa66e6 a).2.1 ≠ (TJxa66e6 b).2.1 := by decide +kernel
theorem tyJxa66e6_ok : ∀ k, k < 0 → parseFieldDescriptor (TJxa66e6 k).2.2.1 = some (tyJxa66e6 k) := by decide +kernel
def RJ8 : String := "jdk/internal/util/ArraysSupport"
def TJ8 : u_T := fun k => match k with
  | _ => ("", "", "", false)
def tyJ8 : Nat → FieldType := fun k => match k with
  | _ => .int
abbrev wsJ80 : List Cond := u_ws RJ8 TJ8 0
theorem nmJ8 : ∀ a, a < 0 → ∀ b, b < 0 → a ≠ b → (TJ8 a).2.1 ≠ (TJ8 b).2.1 := by decide +kernel
theorem tyJ8_ok : ∀ k, k < 0 → parseFieldDescriptor (TJ8 k).2.2.1 = some (tyJ8 k) := by decide +kernel
abbrev cJ8_newLength_cabcc : ByteArray := prog_45_method_27_code
def yJ8_newLength_cabcc : MethodName := ⟨RJ8, "newLength", "(III)I"⟩
abbrev cJ8_hugeLength_7cf53 : ByteArray := prog_45_method_28_code
def yJ8_hugeLength_7cf53 : MethodName := ⟨RJ8, "hugeLength", "(II)I"⟩
def RJ3 : String := "jdk/internal/util/Preconditions"
def TJ3 : u_T := fun k => match k with
  | _ => ("", "", "", false)
def tyJ3 : Nat → FieldType := fun k => match k with
  | _ => .int
abbrev wsJ30 : List Cond := u_ws RJ3 TJ3 0
theorem nmJ3 : ∀ a, a < 0 → ∀ b, b < 0 → a ≠ b → (TJ3 a).2.1 ≠ (TJ3 b).2.1 := by decide +kernel
theorem tyJ3_ok : ∀ k, k < 0 → parseFieldDescriptor (TJ3 k).2.2.1 = some (tyJ3 k) := by decide +kernel
abbrev cJ3_checkIndex_8e157 : ByteArray := prog_46_method_11_code
def yJ3_checkIndex_8e157 : MethodName := ⟨RJ3, "checkIndex", "(IILjava/util/function/BiFunction;)I"⟩
abbrev cJ3_checkFromToIndex_8c36e : ByteArray := prog_46_method_12_code
def yJ3_checkFromToIndex_8c36e : MethodName := ⟨RJ3, "checkFromToIndex", "(IIILjava/util/function/BiFunction;)I"⟩
abbrev cJ3_checkFromIndexSize_8c36e : ByteArray := prog_46_method_13_code
def yJ3_checkFromIndexSize_8c36e : MethodName := ⟨RJ3, "checkFromIndexSize", "(IIILjava/util/function/BiFunction;)I"⟩
def RL : String := "TonguerootFamilyLaw"
abbrev cL_setSound : ByteArray := method_3_code
def yL_setSound : MethodName := ⟨RL, "setSound", "(LTonguerootFamily;II[J)I"⟩
abbrev cL_word : ByteArray := method_4_code
def yL_word : MethodName := ⟨RL, "word", "(LTonguerootFamily;I[J)I"⟩
abbrev cL_spell : ByteArray := method_5_code
def yL_spell : MethodName := ⟨RL, "spell", "(LTonguerootFamily;I[J)I"⟩
abbrev cL_language : ByteArray := method_6_code
def yL_language : MethodName := ⟨RL, "language", "(LTonguerootFamily;I[J)I"⟩
abbrev cL_law : ByteArray := method_7_code
def yL_law : MethodName := ⟨RL, "law", "(LTonguerootFamily;IIIII[J)I"⟩
abbrev cL_unlaw : ByteArray := method_8_code
def yL_unlaw : MethodName := ⟨RL, "unlaw", "(LTonguerootFamily;I[J)I"⟩
abbrev cL_loan : ByteArray := method_9_code
def yL_loan : MethodName := ⟨RL, "loan", "(LTonguerootFamily;IIII[J)I"⟩
abbrev cL_laws : ByteArray := method_10_code
def yL_laws : MethodName := ⟨RL, "laws", "(LTonguerootFamily;I[J)I"⟩
abbrev cL_common : ByteArray := method_11_code
def yL_common : MethodName := ⟨RL, "common", "(LTonguerootFamily;II[J)I"⟩
abbrev cL_length : ByteArray := method_12_code
def yL_length : MethodName := ⟨RL, "length", "(LTonguerootFamily;II[J)I"⟩
abbrev cL_soundAt : ByteArray := method_13_code
def yL_soundAt : MethodName := ⟨RL, "soundAt", "(LTonguerootFamily;III[J)I"⟩
abbrev cL_origin : ByteArray := method_14_code
def yL_origin : MethodName := ⟨RL, "origin", "(LTonguerootFamily;II[J)I"⟩
abbrev cL_changedBy : ByteArray := method_15_code
def yL_changedBy : MethodName := ⟨RL, "changedBy", "(LTonguerootFamily;II[J)I"⟩
abbrev cL_wealth : ByteArray := method_16_code
def yL_wealth : MethodName := ⟨RL, "wealth", "(LTonguerootFamily;I[J)I"⟩
abbrev cL_alike : ByteArray := method_17_code
def yL_alike : MethodName := ⟨RL, "alike", "(LTonguerootFamily;I[J)I"⟩
abbrev cL_soundsOf : ByteArray := method_18_code
def yL_soundsOf : MethodName := ⟨RL, "soundsOf", "(LTonguerootFamily;I[J)I"⟩
abbrev cL_cost : ByteArray := method_19_code
def yL_cost : MethodName := ⟨RL, "cost", "(LTonguerootFamily;III[J)I"⟩
abbrev cL_columns : ByteArray := method_20_code
def yL_columns : MethodName := ⟨RL, "columns", "(LTonguerootFamily;III[J)I"⟩
abbrev cL_columnAt : ByteArray := method_21_code
def yL_columnAt : MethodName := ⟨RL, "columnAt", "(LTonguerootFamily;IIII[J)I"⟩
abbrev cL_answers : ByteArray := method_22_code
def yL_answers : MethodName := ⟨RL, "answers", "(LTonguerootFamily;IIII[J)I"⟩
abbrev cL_mainAnswer : ByteArray := method_23_code
def yL_mainAnswer : MethodName := ⟨RL, "mainAnswer", "(LTonguerootFamily;III[J)I"⟩
abbrev cL_far : ByteArray := method_24_code
def yL_far : MethodName := ⟨RL, "far", "(LTonguerootFamily;II[D)I"⟩
abbrev cL_nearest : ByteArray := method_25_code
def yL_nearest : MethodName := ⟨RL, "nearest", "(LTonguerootFamily;I[J)I"⟩
abbrev cL_recalled : ByteArray := method_26_code
def yL_recalled : MethodName := ⟨RL, "recalled", "(LTonguerootFamily;II[J)I"⟩
abbrev cL_recalledAt : ByteArray := method_27_code
def yL_recalledAt : MethodName := ⟨RL, "recalledAt", "(LTonguerootFamily;III[J)I"⟩
abbrev cL_recalledWell : ByteArray := method_28_code
def yL_recalledWell : MethodName := ⟨RL, "recalledWell", "(LTonguerootFamily;I[J)I"⟩
abbrev cL_swapped : ByteArray := method_29_code
def yL_swapped : MethodName := ⟨RL, "swapped", "(LTonguerootFamily;II[J)I"⟩
abbrev cL_without : ByteArray := method_30_code
def yL_without : MethodName := ⟨RL, "without", "(LTonguerootFamily;II[J)I"⟩
abbrev cL_withoutLoan : ByteArray := method_31_code
def yL_withoutLoan : MethodName := ⟨RL, "withoutLoan", "(LTonguerootFamily;I[J)I"⟩
abbrev cL_looksLent : ByteArray := method_32_code
def yL_looksLent : MethodName := ⟨RL, "looksLent", "(LTonguerootFamily;II[J)I"⟩
abbrev cL_law_ : ByteArray := code
def yL_law_ : MethodName := ⟨RL, "law", "([I)Z"⟩
end
section
/-! ===== the abstract machine: values, heaps by rows, methods; what it means that it stands for the real one ===== -/
abbrev AV : Type := Int32 ⊕ Int64 ⊕ UInt64 ⊕ Nat ⊕ Unit
abbrev vI (x : Int32) : AV := Sum.inl x
abbrev vL (x : Int64) : AV := Sum.inr (Sum.inl x)
abbrev vD (x : UInt64) : AV := Sum.inr (Sum.inr (Sum.inl x))
abbrev vR (x : Nat) : AV := Sum.inr (Sum.inr (Sum.inr (Sum.inl x)))
abbrev vU : AV := Sum.inr (Sum.inr (Sum.inr (Sum.inr ())))
/-- next address, kinds, ints, longs, doubles, references (0: null, 1: the script, 2: ArrayList's empty row, 3: the Class object of Object[], from 4 on what is made) -/
abbrev AH : Type := Nat × (Nat → Nat × Nat) × (Nat → Nat → Int32) × (Nat → Nat → Int64) × (Nat → Nat → UInt64) × (Nat → Nat → Nat)
def zN (h : AH) : Nat := h.1
def zK (h : AH) : Nat → Nat × Nat := h.2.1
def zI (h : AH) : Nat → Nat → Int32 := h.2.2.1
def zL (h : AH) : Nat → Nat → Int64 := h.2.2.2.1
def zD (h : AH) : Nat → Nat → UInt64 := h.2.2.2.2.1
def zR (h : AH) : Nat → Nat → Nat := h.2.2.2.2.2
def up1 {α : Type} (f : Nat → α) (a : Nat) (v : α) : Nat → α := fun b => if b = a then v else f b
def up2 {α : Type} (f : Nat → Nat → α) (a k : Nat) (v : α) : Nat → Nat → α := up1 f a (up1 (f a) k v)
def sI (h : AH) (a k : Nat) (v : Int32) : AH := (h.1, h.2.1, up2 h.2.2.1 a k v, h.2.2.2)
def sL (h : AH) (a k : Nat) (v : Int64) : AH := (h.1, h.2.1, h.2.2.1, up2 h.2.2.2.1 a k v, h.2.2.2.2)
def sD (h : AH) (a k : Nat) (v : UInt64) : AH := (h.1, h.2.1, h.2.2.1, h.2.2.2.1, up2 h.2.2.2.2.1 a k v, h.2.2.2.2.2)
def sR (h : AH) (a k : Nat) (v : Nat) : AH := (h.1, h.2.1, h.2.2.1, h.2.2.2.1, h.2.2.2.2.1, up2 h.2.2.2.2.2 a k v)
/-- a new cell of a kind, all of it 0 -/
def nw (h : AH) (kd : Nat × Nat) : AH := (h.1 + 1, up1 h.2.1 h.1 kd, up1 h.2.2.1 h.1 (fun _ => 0), up1 h.2.2.2.1 h.1 (fun _ => 0), up1 h.2.2.2.2.1 h.1 (fun _ => 0), up1 h.2.2.2.2.2 h.1 (fun _ => 0))
/-- a row of n new int rows of k places each -/
def nwm (h : AH) (n k : Nat) : AH :=
  (h.1 + 1 + n, fun b => if b = h.1 then (8, n) else if h.1 < b ∧ b < h.1 + 1 + n then (2, k) else h.2.1 b, fun b => if h.1 ≤ b then (fun _ => 0) else h.2.2.1 b, fun b => if h.1 ≤ b then (fun _ => 0) else h.2.2.2.1 b, fun b => if h.1 ≤ b then (fun _ => 0) else h.2.2.2.2.1 b,
    fun b => if b = h.1 then (fun j => if j < n then h.1 + 1 + j else 0) else if h.1 ≤ b then (fun _ => 0) else h.2.2.2.2.2 b)
/-- cells that are of no use (what was thrown) -/
def bump (h : AH) (n : Nat) : AH := (n, h.2)
/-- N0, the script's address, the empty row's, the Class object's, the script's length and ints, the tables' numbers, the rows' classes -/
abbrev Gp : Type := Nat × Nat × Nat × Nat × Nat × (Nat → Int32) × va_G × (Nat → ClassId)
def gN (g : Gp) : Nat := g.1
def gb (g : Gp) : Nat := g.2.1
def gt (g : Gp) : Nat := g.2.2.1
def gm (g : Gp) : Nat := g.2.2.2.1
def gl (g : Gp) : Nat := g.2.2.2.2.1
def gx (g : Gp) : Nat → Int32 := g.2.2.2.2.2.1
def gD (g : Gp) : va_G := g.2.2.2.2.2.2.1
def gA (g : Gp) : Nat → ClassId := g.2.2.2.2.2.2.2
def gAd (g : Gp) : Nat → Prop := fun q => gN g ≤ q
def adr (g : Gp) (x : Nat) : Nat := if x = 1 then gb g else if x = 2 then gt g else if x = 3 then gm g else gN g + (x - 4)
def rv (g : Gp) (x : Nat) : Value := if x = 0 then .null else .ref (adr g x)
def ro (g : Gp) (x : Nat) : Option Nat := if x = 0 then none else some (adr g x)
def tv (g : Gp) : AV → Value
  | .inl x => .int x
  | .inr (.inl x) => .long x
  | .inr (.inr (.inl x)) => .double x
  | .inr (.inr (.inr (.inl x))) => rv g x
  | .inr (.inr (.inr (.inr _))) => .null
abbrev clt : List vw_C := [(RJx4a65c, TJx4a65c, 3), (RX0, TX0, 8), (RX1, TX1, 2), (RX2, TX2, 2), (RX3, TX3, 4), (RX4, TX4, 7), (RX5, TX5, 4), (RX6, TX6, 2), (RX7, TX7, 1), (RX9, TX9, 10), (RX10, TX10, 27)]
def cty : Nat → Nat → FieldType := fun c => match c with
  | 0 => tyJx4a65c
  | 1 => tyX0
  | 2 => tyX1
  | 3 => tyX2
  | 4 => tyX3
  | 5 => tyX4
  | 6 => tyX5
  | 7 => tyX6
  | 8 => tyX7
  | 9 => tyX9
  | _ => tyX10
def ftc (t : FieldType) : Nat := match t with
  | .int => 0
  | .long => 1
  | .object _ => 2
  | .array _ => 2
  | .double => 3
  | _ => 9
def nfl (c : Nat) : Nat := match clt[c]? with
  | some r => r.2.2
  | none => 0
def fv (g : Gp) (h : AH) (c a k : Nat) : Value := match ftc (cty c k) with
  | 0 => .int (zI h a k)
  | 1 => .long (zL h a k)
  | 2 => rv g (zR h a k)
  | _ => .null
def entk (g : Gp) (h : AH) (a t n : Nat) : va_E := match t with
  | 1 => .inr (n, (List.range (nfl n)).map (fv g h n a))
  | 2 => .inl (gA g 2, n, .inl (zI h a))
  | 3 => .inl (gA g 3, n, .inr (.inl (zL h a)))
  | 4 => .inl (gA g 4, n, .inl (zI h a))
  | 5 => .inl (gA g 5, n, .inr (.inr (.inr (.inl (zD h a)))))
  | 6 => .inl (gA g 6, n, .inr (.inr (.inr (.inr (fun j => ro g (zR h a j))))))
  | 7 => .inl (gA g 7, n, .inr (.inr (.inr (.inr (fun j => ro g (zR h a j))))))
  | _ => .inl (gA g 8, n, .inr (.inr (.inr (.inr (fun j => ro g (zR h a j))))))
def ent (g : Gp) (h : AH) (a : Nat) : va_E := entk g h a (zK h a).1 (zK h a).2
def Rep (g : Gp) (h : AH) (H : Heap) : Prop := 4 ≤ zN h ∧ H.size + 4 = gN g + zN h ∧ (∀ a, (a < 4 ∨ zN h ≤ a) → (zK h a).1 = 0) ∧ ∀ a, (zK h a).1 ≠ 0 → va_at (gD g) clt (adr g a, ent g h a) H
/-- the kinds of rows -/
def tyl (g : Gp) : List (ClassId × FieldType) := [(gA g 2, .int), (gA g 3, .long), (gA g 4, .boolean), (gA g 5, .double), (gA g 6, .object "java/lang/Object"), (gA g 7, .object "TonguerootFamily$Votes"), (gA g 8, .array .int)]
def lw_g : List Cond := lw_tbl.filter goodWord
theorem lg_mem {w : Cond} (h : w ∈ lw_tbl) (h2 : goodWord w = true) : w ∈ lw_g := List.mem_filter.mpr ⟨h, h2⟩
theorem lg_ix {w : Cond} {i : Nat} (h : lw_tbl[i]? = some w) (h2 : goodWord w = true) : w ∈ lw_g := lg_mem (List.mem_of_getElem? h) h2
theorem lg_good : GoodIn lw_g lw_g := fun w h => ⟨h, good_of_word (List.mem_filter.mp h).2⟩
/-- words that the walk moves, but not by goodWord -/
def isN (w : Cond) : Bool := match w with
  | .castable _ _ => true
  | .declares _ => true
  | .methodLinkNest _ _ _ _ => true
  | .arrayOver (.object _) => true
  | .arrayOver (.array _) => true
  | _ => false
def lw_n : List Cond := lw_tbl.filter isN
theorem ln_mem {w : Cond} (h : w ∈ lw_tbl) (h2 : isN w = true) : w ∈ lw_n := List.mem_filter.mpr ⟨h, h2⟩
theorem ln_ix {w : Cond} {i : Nat} (h : lw_tbl[i]? = some w) (h2 : isN w = true) : w ∈ lw_n := ln_mem (List.mem_of_getElem? h) h2
theorem nw_use {w : Cond} {A : Array Value} {U : State} (hn : isN w = true) (h : va_Nw w U) : w.before A U = true := by
  cases w with
  | castable a b => exact h.use rfl
  | declares x => exact h.use rfl
  | methodLinkNest a i x b => exact h.use rfl
  | arrayOver t => exact h
  | _ => exact absurd hn (by simp [isN])
theorem ao_movedA {t : FieldType} {u U : State} (hvm : u.vm.Alike U.vm) (h : va_Nw (.arrayOver (.array t)) u) : va_Nw (.arrayOver (.array t)) U := by
  unfold va_Nw Cond.before Cond.holds at h ⊢
  simp only [Cond.value, beq_iff_eq] at h ⊢
  rw [hvm.findClass]
  cases hc : u.vm.findClass (FieldType.array t).toString with
  | none => simp [hc] at h
  | some comp =>
    simp only [hc, Option.bind_some, Option.bind_eq_some_iff, Option.map_eq_some_iff] at h ⊢
    obtain ⟨c, hi, k, hk, hb⟩ := h
    obtain ⟨k', hk', he⟩ := hvm.2.2 _ _ hk
    refine ⟨c, ?_, k', hk', ?_⟩
    · have a := va_idx_bare U.vm comp
      have b := va_idx_bare u.vm comp
      first | rw [hvm.bare_eq] at b | rw [← hvm.bare_eq] at b
      exact (a.symm.trans b).trans hi
    · rw [he, hvm.findClass]
      exact hb
theorem nw_same {w : Cond} {u U : State} (hn : isN w = true) (hv : U.vm = u.vm) (h : va_Nw w u) : va_Nw w U := by
  have hal : u.vm.Alike U.vm := by rw [hv]; exact Vm.Alike.refl _
  cases w with
  | castable a b => exact h.same rfl hv.symm
  | declares x => exact h.same rfl hv.symm
  | methodLinkNest a i x b => exact h.same rfl hv.symm
  | arrayOver t => cases t with
    | object C => exact va_AO.moved hal h
    | array t => exact ao_movedA hal h
    | _ => exact absurd hn (by simp [isN])
  | _ => exact absurd hn (by simp [isN])
theorem nw_warm {w : Cond} {s U : State} (hn : isN w = true) (hW : s.WarmedH U.vm) (h : va_Nw w s) : va_Nw w U := by
  cases w with
  | castable a b => exact h.warmC hW
  | declares x => exact h.warmD hW
  | methodLinkNest a i x b => exact h.warmM hW
  | arrayOver t => cases t with
    | object C => exact va_AO.moved hW.alike h
    | array t => exact ao_movedA hW.alike h
    | _ => exact absurd hn (by simp [isN])
  | _ => exact absurd hn (by simp [isN])
def exN (k : Nat) : String := match k with
  | 1 => "java/lang/IndexOutOfBoundsException"
  | 2 => "java/lang/IllegalArgumentException"
  | _ => "java/lang/IllegalStateException"
/-- what was there before, and stays -/
def Old (g : Gp) (U : State) : Prop := gN g ≤ U.heap.size ∧ gb g < gN g ∧ gt g < gN g ∧ gb g ≠ gt g ∧ va_X (gb g) (gl g) (gx g) U U.heap ∧ va_Z "java/util/ArrayList" "DEFAULTCAPACITY_EMPTY_ELEMENTDATA" "[Ljava/lang/Object;" (.ref (gt g)) (gAd g) U U.heap ∧ va_T (.object "java/lang/Object") (gt g) 0 (fun _ => .null) (gAd g) U U.heap ∧
  vx_Zq Bundle.tN "UNASSIGNED_STACK" Bundle.steD (gAd g) U U.heap ∧ vx_Zq Bundle.tN "SUPPRESSED_SENTINEL" Bundle.listD (gAd g) U U.heap ∧ (∃ q1, vk_R RX9 296 "no such language, meaning, place, law or loan" q1 U) ∧ (∃ q2, vk_R RX9 303 "a number outside of its bounds" q2 U) ∧ (∃ q3, vk_R RX9 308 "not possible as things are" q3 U) ∧ va_Mi "[Ljava/lang/Object;" (gm g) U ∧ (∀ k j, 1 ≤ k → k ≤ 3 → 1 ≤ j → j ≤ 3 → k ≠ j → va_Nc (exN k) (exN j) U) ∧ ∀ w ∈ lw_n, va_Nw w U
theorem Old.same {g : Gp} {u U : State} (hv : U.vm = u.vm) (hh : U.heap = u.heap) (h : Old g u) : Old g U := by
  have ha : u.vm.Alike U.vm := by rw [hv]; exact Vm.Alike.refl _
  obtain ⟨h0, h1, h2, h3, h4, h5, h6, h7, h8, ⟨q1, h9⟩, ⟨q2, h10⟩, ⟨q3, h11⟩, h12, h13, h14⟩ := h
  refine ⟨by rw [hh]; exact h0, h1, h2, h3, ?_, ?_, ?_, ?_, ?_, ⟨q1, h9.same hv⟩, ⟨q2, h10.same hv⟩, ⟨q3, h11.same hv⟩, h12.moved ha, fun k j a1 a2 a3 a4 a5 => (h13 k j a1 a2 a3 a4 a5).moved ha, fun w hw => nw_same (List.mem_filter.mp hw).2 hv (h14 w hw)⟩
  · rw [hh]; exact h4.moved ha
  · rw [hh]; exact h5.moved ha
  · rw [hh]; exact h6.moved ha
  · rw [hh]; exact h7.moved ha
  · rw [hh]; exact h8.moved ha
theorem Old.trans {g : Gp} {s U : State} {locs : List Loc} (hW : s.WarmedH U.vm) (hS : va_S (gAd g) s.heap U.heap locs) (h : Old g s) : Old g U := by
  have ha : s.vm.Alike U.vm := hW.alike
  obtain ⟨h0, h1, h2, h3, h4, h5, h6, h7, h8, ⟨q1, h9⟩, ⟨q2, h10⟩, ⟨q3, h11⟩, h12, h13, h14⟩ := h
  have hk : ∀ a : Nat, a < s.heap.size → ¬ gAd g a → U.heap[a]? = s.heap[a]? := hS.2.1
  refine ⟨Nat.le_trans h0 hS.1, h1, h2, h3, ?_, (h5.kept hk).moved ha, (h6.kept hk).moved ha, (h7.kept hk).moved ha, (h8.kept hk).moved ha, ⟨q1, h9.warm hW⟩, ⟨q2, h10.warm hW⟩, ⟨q3, h11.warm hW⟩, h12.moved ha, fun k j a1 a2 a3 a4 a5 => (h13 k j a1 a2 a3 a4 a5).moved ha, fun w hw => nw_warm (List.mem_filter.mp hw).2 hW (h14 w hw)⟩
  exact (h4.kept (hk _ (by omega) (by unfold gAd; omega))).moved ha
theorem Old.nw {g : Gp} {U : State} (h : Old g U) : ∀ w ∈ lw_n, va_Nw w U := by
  obtain ⟨-, -, -, -, -, -, -, -, -, -, -, -, -, -, h14⟩ := h
  exact h14
/-! ===== methods ===== -/
/-- a class's pool, as far as it is used: its name; fields (entry, class, place, kind); numbers; classes made; classes cast to -/
abbrev CF : Type := String × List (Nat × Nat × Nat × Nat) × List (Nat × AV) × List (Nat × Nat) × List (Nat × Nat)
/-- a method: name, bytes, locals, answer, handlers, depth and cells and slots, its class's pool -/
abbrev MD : Type := MethodName × ByteArray × Nat × Option FieldType × List (Nat × Nat × Nat × Nat) × (Nat × Nat × Nat) × CF
def mY (M : MD) : MethodName := M.1
def mB (M : MD) : ByteArray := M.2.1
def mX (M : MD) : Nat := M.2.2.1
def mR (M : MD) : Option FieldType := M.2.2.2.1
def mH (M : MD) : List (Nat × Nat × Nat × Nat) := M.2.2.2.2.1
def mDp (M : MD) : Nat := M.2.2.2.2.2.1.1
def mC (M : MD) : Nat := M.2.2.2.2.2.1.2.1
def mS (M : MD) : Nat := M.2.2.2.2.2.1.2.2
def mF (M : MD) : CF := M.2.2.2.2.2.2
def mO (M : MD) : String := (mF M).1
def rmM (M : MD) : Room := { frames := mDp M, cells := mC M, slots := mS M, locals := 64 * mDp M + 100 }
def codeW (M : MD) : Cond := match mH M with
  | [] => .code (mY M) (mB M) (mX M) (mR M)
  | x :: r => .codeWith (mY M) (mB M) (mX M) (mR M) (x :: r)
def mW (M : MD) : List Cond := codeW M :: lw_g
def Cx (g : Gp) (M : MD) (p : Program) (l : Launch) (s : State) (m : MethodId) (args : Array Value) (meth : Method) (c : Code) : Prop :=
  p.tables.exec = Jvm.exec ∧ c.code = mB M ∧ meth.sig.returnType = mR M ∧ c.maxLocals = mX M ∧ s.vm.findClass (mO M) = some m.cls ∧ (∀ w ∈ lw_g, w.before args s = true) ∧ meth.locks = false ∧ meth.name = (mY M).name ∧ va_K (gD g) clt (tyl g) s ∧ Old g s ∧ l.stackTraces = false ∧ c.exceptionTable.toList = tableOf (mH M)
def LR (g : Gp) (L : List AV) (ls : Array Slot) : Prop := ls.size = L.length ∧ lv_wf ls ∧ ∀ (i : Nat) (v : AV), L[i]? = some v → v ≠ vU → ls[i]? = some (.val (tv g v))
abbrev PQ : Type := (Option AV ⊕ Nat) → AH → Prop
def Qn (g : Gp) (Q : PQ) : Array Value → State → Outcome → State → Prop := fun _ st o t => (∃ (v : Option AV) (h : AH), o = .returned (v.map (tv g)) ∧ Q (.inl v) h ∧ Rep g h t.heap) ∧ va_F (gAd g) st t
def Qx (g : Gp) (Q : PQ) : String → State → State → Prop := fun E st t => (∃ (k : Nat) (h : AH), E = exN k ∧ Q (.inr k) h ∧ Rep g h t.heap) ∧ va_F (gAd g) st t
/-- from this place of the method on, all ends are Q's -/
def Ex (g : Gp) (M : MD) (pc : Nat) (L : List AV) (st : List AV) (h : AH) (u : Nat × Nat) (Q : PQ) : Prop :=
  ∀ (p : Program) (l : Launch) (e : Env) (s : State) (m : MethodId) (args : Array Value) (below : List Frame) (meth : Method) (c : Code) (H : Heap) (locs : List Loc) (ls : Array Slot),
    Cx g M p l s m args meth c → Rep g h H → va_S (gAd g) s.heap H locs → LR g L ls → L.length = mX M → u.1 ≤ mC M → u.2 ≤ mS M →
    W p l e (rmM M) s m args below meth c H locs u.1 u.2 (vx_MQ below (Qn g Q) (Qx g Q) args s (mC M) (mS M) (gAd g)) (F0 m pc ls (st.map (tv g)))
def Pc (g : Gp) (av : List AV) (h : AH) : Array Value → State → Prop := va_Pc (av.map (tv g)) (fun U => Rep g h U.heap ∧ va_K (gD g) clt (tyl g) U ∧ Old g U)
/-- a call of the method -/
def Ev (g : Gp) (M : MD) (av : List AV) (h : AH) (Q : PQ) : Prop :=
  ∀ l : Launch, l.stackTraces = false → vx_Met l (mY M) (mW M) (rmM M) (Pc g av h) (Qn g Q) (Qx g Q) (mC M) (mS M) (gAd g)
theorem Pc.blind {g : Gp} {av : List AV} {h : AH} : FrameBlind (Pc g av h) := by
  intro a U gf mk ⟨h1, h2, h3, h4⟩
  exact ⟨h1, h2, va_K.moved (u := U) (U := U.calling gf mk a) (Vm.Alike.refl U.vm) h3, h4.same (u := U) (U := U.calling gf mk a) rfl rfl⟩
theorem Ex.mono {g : Gp} {M : MD} {pc : Nat} {L st : List AV} {h : AH} {u : Nat × Nat} {Q Q' : PQ} (hq : ∀ r h', Q r h' → Q' r h') (k : Ex g M pc L st h u Q) : Ex g M pc L st h u Q' := by
  intro p l e s m args below meth c H locs ls hC hR hS hL hl h1 h2 T hT X
  obtain ⟨t, a1, o, b1, b2, b3⟩ := k p l e s m args below meth c H locs ls hC hR hS hL hl h1 h2 T hT X
  refine ⟨t, a1, o, b1, b2, ?_⟩
  rcases b3 with ⟨⟨⟨v, h', c1, c2, c3⟩, c4⟩, c5⟩ | ⟨q, c1, E, ce, L1, ⟨⟨k1, h', d1, d2, d3⟩, d4⟩, d5⟩
  · exact Or.inl ⟨⟨⟨v, h', c1, hq _ _ c2, c3⟩, c4⟩, c5⟩
  · exact Or.inr ⟨q, c1, E, ce, L1, ⟨⟨k1, h', d1, hq _ _ d2, d3⟩, d4⟩, d5⟩
/-- arguments as locals -/
def argL : List AV → List AV
  | [] => []
  | v :: r => match v with
    | .inr (.inl x) => vL x :: vU :: argL r
    | .inr (.inr (.inl x)) => vD x :: vU :: argL r
    | w => w :: argL r
def padL (n : Nat) (L : List AV) : List AV := L ++ List.replicate (n - L.length) vU
theorem tv_cat2 (g : Gp) (v : AV) : (tv g v).category = 2 ↔ ((∃ x, v = vL x) ∨ ∃ x, v = vD x) := by
  rcases v with x | x | x | x | x
  · simp [tv, Value.category]
  · simp [tv, Value.category]
  · simp [tv, Value.category]
  · by_cases hx : x = 0
    · simp [tv, rv, hx, Value.category]
    · simp [tv, rv, hx, Value.category]
  · simp [tv, Value.category]
theorem argL_len (g : Gp) (av : List AV) : (lg_sl (av.map (tv g))).length = (argL av).length := by
  induction av with
  | nil => rfl
  | cons v r ih =>
    have e : lg_sl ((v :: r).map (tv g)) = (if (tv g v).category = 2 then [Slot.val (tv g v), Slot.second] else [Slot.val (tv g v)]) ++ lg_sl (r.map (tv g)) := by
      simp only [lg_sl, List.map_cons, List.flatMap_cons]
      try split <;> rfl
    rw [e]
    rcases v with x | x | x | x | x
    · simp [tv, Value.category, argL, ih]
    · simp [tv, Value.category, argL, ih]
    · simp [tv, Value.category, argL, ih]
    · by_cases hx : x = 0
      · simp [tv, rv, hx, Value.category, argL, ih]
      · simp [tv, rv, hx, Value.category, argL, ih]
    · simp [tv, Value.category, argL, ih]
theorem argL_mem (g : Gp) (av : List AV) : ∀ (j i : Nat) (v : AV), (argL av)[i]? = some v → v ≠ vU → (j + i, tv g v) ∈ lv_args j (av.map (tv g)) := by
  induction av with
  | nil => intro j i v h; simp [argL] at h
  | cons w r ih =>
    intro j i v h hv
    have one : ∀ (h1 : (tv g w).category ≠ 2) (h2 : argL (w :: r) = w :: argL r), (j + i, tv g v) ∈ lv_args j ((w :: r).map (tv g)) := by
      intro h1 h2
      rw [h2] at h
      simp only [List.map_cons, lv_args, if_neg h1]
      cases i with
      | zero => simp only [List.getElem?_cons_zero, Option.some.injEq] at h; subst h; exact List.mem_cons_self
      | succ i => rw [List.getElem?_cons_succ] at h; refine List.mem_cons_of_mem _ ?_; have := ih (j + 1) i v h hv; rwa [show j + 1 + i = j + (i + 1) by omega] at this
    have two : ∀ (h1 : (tv g w).category = 2) (h2 : argL (w :: r) = w :: vU :: argL r), (j + i, tv g v) ∈ lv_args j ((w :: r).map (tv g)) := by
      intro h1 h2
      rw [h2] at h
      simp only [List.map_cons, lv_args, if_pos h1]
      match i, h with
      | 0, h => simp only [List.getElem?_cons_zero, Option.some.injEq] at h; subst h; exact List.mem_cons_self
      | 1, h => simp only [List.getElem?_cons_succ, List.getElem?_cons_zero, Option.some.injEq] at h; exact absurd h.symm hv
      | i + 2, h => rw [List.getElem?_cons_succ, List.getElem?_cons_succ] at h; refine List.mem_cons_of_mem _ ?_; have := ih (j + 2) i v h hv; rwa [show j + 2 + i = j + (i + 2) by omega] at this
    rcases w with x | x | x | x | x
    · exact one (by simp [tv, Value.category]) rfl
    · exact two (by simp [tv, Value.category]) rfl
    · exact two (by simp [tv, Value.category]) rfl
    · exact one (by by_cases hx : x = 0 <;> simp [tv, rv, hx, Value.category]) rfl
    · exact one (by simp [tv, Value.category]) rfl
theorem LR.entry {g : Gp} {av : List AV} {n : Nat} (h : (argL av).length ≤ n) : LR g (padL n (argL av)) ((lg_sl (av.map (tv g)) ++ List.replicate (n - (lg_sl (av.map (tv g))).length) Slot.unset).toArray) := by
  have h0 := lv_entry (av.map (tv g)) (n := n) (by rw [argL_len]; exact h)
  refine ⟨?_, h0.2.1, fun i v hi hv => ?_⟩
  · simp [padL, argL_len]
  · unfold padL at hi
    by_cases hl : i < (argL av).length
    · rw [List.getElem?_append_left hl] at hi
      have := h0.2.2 _ (argL_mem g av 0 i v hi hv)
      simpa using this
    · rw [List.getElem?_append_right (by omega)] at hi
      exact absurd (List.eq_of_mem_replicate (List.mem_of_getElem? hi)) hv
theorem Ev.of {g : Gp} {M : MD} {av : List AV} {h : AH} {Q : PQ} (hpl : plainName (mY M).cls = true) (hown : mO M = (mY M).cls) (hlen : (argL av).length ≤ mX M) (k : Ex g M 0 (padL (mX M) (argL av)) [] h (0, 0) Q) : Ev g M av h Q := by
  intro l hl
  have body : ∀ (p : Program) (e : Env) (s : State) (m : MethodId) (args : Array Value) (below : List Frame) (meth : Method) (c : Code) (s₁ : State), BodyLoose p l (mY M) (headSpec (mW M) (rmM M)) (mB M) (mX M) (mR M) e s m args below meth c s₁ → c.maxLocals = mX M → c.exceptionTable.toList = tableOf (mH M) → Pc g av h args s →
      W p l e (headSpec (mW M) (rmM M)).room s m args below meth c s.heap [] 0 0 (vx_MQ below (Qn g Q) (Qx g Q) args s (mC M) (mS M) (gAd g)) (entryFrame m args (mX M)) := by
    intro p e s m args below meth c s₁ B hml ht hv
    obtain ⟨rfl, hR, hK, hO⟩ := hv
    have hts := atoms_spec (ws := mW M) B.pre
    have how : s.vm.findClass (mO M) = some m.cls := by rw [hown]; exact findClass_of_methodNamed B.named
    rw [lg_entry_eq]
    refine k p l e s m _ below meth c s.heap [] _ ⟨B.exec, B.bytes, B.returns, hml, how, fun w hw => hts w (List.mem_cons_of_mem _ hw), B.notSynchronized, (name_of_methodNamed B.named B.method).1, hK, hO, hl, ht⟩ hR va_S.rf (LR.entry hlen) ?_ (Nat.zero_le _) (Nat.zero_le _)
    simp only [padL, List.length_append, List.length_replicate]
    omega
  cases hH : mH M with
  | nil =>
    refine vx_ofW (cc := mB M) (maxL := mX M) (ret := mR M) (ws' := lw_g) hpl (by simp [mW, codeW, hH]) ?_
    intro p e s m args below meth c s₁ B hml ht hv
    refine body p e s m args below meth c s₁ B hml ?_ hv
    rw [hH]
    cases hx : c.exceptionTable.toList with
    | nil => rfl
    | cons x r => exact absurd (ht x (by rw [hx]; exact List.mem_cons_self)) id
  | cons x r =>
    refine vx_ofWH (cc := mB M) (maxL := mX M) (ret := mR M) (ws' := lw_g) (hh := x :: r) hpl (by simp [mW, codeW, hH]) ?_
    intro p e s m args below meth c s₁ B hml hv
    refine body p e s m args below meth c s₁ B hml ?_ hv
    have hw : (Cond.codeWith (mY M) (mB M) (mX M) (mR M) (x :: r)).before args s = true := atoms_spec (ws := mW M) B.pre _ (by simp [mW, codeW, hH])
    rw [hH]
    exact vx_table (x := mY M) B hw
theorem va_S.Fr {g : Gp} {s t : State} {H : Heap} {locs : List Loc} (h : va_S (gAd g) s.heap H locs) (ht : t.heap = H) : va_F (gAd g) s t := h.F ht
theorem Ex.iret {g : Gp} {M : MD} {pc : Nat} {L : List AV} {x : Int32} {h : AH} {u : Nat × Nat} {Q : PQ} {ty : FieldType} (hr : mR M = some ty) (hn : narrow ty (.int x) = .int x) (hd : decode (mB M) pc = .ok (.ireturn, 1)) (hq : Q (.inl (some (vI x))) h) : Ex g M pc L [vI x] h u Q := by
  intro p l e s m args below meth c H locs ls hC hR hS hL hl h1 h2
  obtain ⟨hx, hb, hrt, -, -, -, hlk, -⟩ := hC
  refine W.widen h1 h2 (vx_ret ?_)
  exact W.zret (v := x) (ty := ty) hx hb (hrt.trans hr) hn (fun t ht hW => ⟨⟨some (vI x), h, rfl, hq, by rw [ht]; exact hR⟩, hS.F ht⟩) hS.2.2 hd hlk
theorem Ex.lret {g : Gp} {M : MD} {pc : Nat} {L : List AV} {x : Int64} {h : AH} {u : Nat × Nat} {Q : PQ} (hr : mR M = some .long) (hd : decode (mB M) pc = .ok (.lreturn, 1)) (hq : Q (.inl (some (vL x))) h) : Ex g M pc L [vL x] h u Q := by
  intro p l e s m args below meth c H locs ls hC hR hS hL hl h1 h2
  obtain ⟨hx, hb, hrt, -, -, -, hlk, -⟩ := hC
  refine W.widen h1 h2 (vx_ret ?_)
  exact W.lret (v := x) hx hb (hrt.trans hr) (fun t ht hW => ⟨⟨some (vL x), h, rfl, hq, by rw [ht]; exact hR⟩, hS.F ht⟩) hS.2.2 hd hlk
theorem Ex.dret {g : Gp} {M : MD} {pc : Nat} {L : List AV} {x : UInt64} {h : AH} {u : Nat × Nat} {Q : PQ} (hr : mR M = some .double) (hd : decode (mB M) pc = .ok (.dreturn, 1)) (hq : Q (.inl (some (vD x))) h) : Ex g M pc L [vD x] h u Q := by
  intro p l e s m args below meth c H locs ls hC hR hS hL hl h1 h2
  obtain ⟨hx, hb, hrt, -, -, -, hlk, -⟩ := hC
  refine W.widen h1 h2 (vx_ret ?_)
  exact W.dret (v := x) hx hb (hrt.trans hr) (fun t ht hW => ⟨⟨some (vD x), h, rfl, hq, by rw [ht]; exact hR⟩, hS.F ht⟩) hS.2.2 hd hlk
theorem Ex.vret {g : Gp} {M : MD} {pc : Nat} {L : List AV} {h : AH} {u : Nat × Nat} {Q : PQ} (hr : mR M = none) (hd : decode (mB M) pc = .ok (.return_, 1)) (hq : Q (.inl none) h) : Ex g M pc L [] h u Q := by
  intro p l e s m args below meth c H locs ls hC hR hS hL hl h1 h2
  obtain ⟨hx, hb, hrt, -, -, -, hlk, -⟩ := hC
  refine W.widen h1 h2 (vx_ret ?_)
  exact W.vret hx hb (hrt.trans hr) (fun t ht hW => ⟨⟨none, h, rfl, hq, by rw [ht]; exact hR⟩, hS.F ht⟩) hS.2.2 hd hlk
theorem rv_or (g : Gp) (x : Nat) : rv g x = .null ∨ ∃ a, rv g x = .ref a := by
  unfold rv
  split
  · exact Or.inl rfl
  · exact Or.inr ⟨_, rfl⟩
theorem Ex.aret {g : Gp} {M : MD} {pc : Nat} {L : List AV} {x : Nat} {h : AH} {u : Nat × Nat} {Q : PQ} {rt : FieldType} (hr : mR M = some rt) (hrt2 : (∃ n, rt = .object n) ∨ ∃ t, rt = .array t) (hd : decode (mB M) pc = .ok (.areturn, 1)) (hq : Q (.inl (some (vR x))) h) : Ex g M pc L [vR x] h u Q := by
  intro p l e s m args below meth c H locs ls hC hR hS hL hl h1 h2
  obtain ⟨hx, hb, hrt, -, -, -, hlk, -⟩ := hC
  refine W.widen h1 h2 (vx_ret ?_)
  exact W.aret (v := rv g x) (rt := rt) hx hb (hrt.trans hr) hrt2 (rv_or g x) (fun t ht hW => ⟨⟨some (vR x), h, rfl, hq, by rw [ht]; exact hR⟩, hS.F ht⟩) hS.2.2 hd hlk
/-! ===== calls ===== -/
/-- the callee's own words: its code, its class, its arguments in number -/
def MOk (N : MD) (n : Nat) : Prop := codeW N ∈ lw_g ∧ Cond.initialized (mY N).cls ∈ lw_g ∧ ((mY N).cls ≠ "java/lang/invoke/MethodHandle" ∧ (mY N).cls ≠ "java/lang/invoke/VarHandle") ∧ (∀ sig, parseMethodDescriptor (mY N).desc = some sig → n = sig.parameters.length) ∧ mX N ≤ 45
theorem mW_good (N : MD) (h : codeW N ∈ lw_g) : GoodIn lw_g (mW N) := fun w hw => (List.mem_cons.mp hw).elim (fun e => by rw [e]; exact lg_good _ h) (fun h2 => lg_good _ h2)
theorem mW_pay {N : MD} {s : State} {args : Array Value} (ht : ∀ w ∈ lw_g, w.before args s = true) (h : codeW N ∈ lw_g) : ∀ w ∈ mW N, ∀ (a' : Array Value) (U : State), s.WarmedH U.vm → w.before a' U = true :=
  pay_in ht (mW_good N h)
theorem Ex.fin {g : Gp} {M : MD} {pc : Nat} {L rest : List AV} {u : Nat × Nat} {Q Q' : PQ} {XK : Nat → AH → Prop} {mc ms : Nat} {a : Array Value} {st0 : List Value}
    {p : Program} {l : Launch} {e : Env} {s : State} {m : MethodId} {args : Array Value} {below : List Frame} {meth : Method} {c : Code} {H : Heap} {locs : List Loc} {ls : Array Slot}
    (hC : Cx g M p l s m args meth c) (hS : va_S (gAd g) s.heap H locs) (hL : LR g L ls) (hl : L.length = mX M) (h1 : u.1 + mc ≤ mC M) (h2 : u.2 + ms ≤ mS M)
    (hr : vx_Run p l e (rmM M) s m args below meth c H locs u.1 u.2 mc ms (F0 m pc ls st0) (rest.map (tv g)) (Qn g Q' a) (Qx g Q') (gAd g))
    (hk : ∀ v h', Q' (.inl v) h' → Ex g M (pc + 3) L (v.toList ++ rest) h' (u.1 + mc, u.2 + ms) Q)
    (hx : ∀ k h', Q' (.inr k) h' → XK k h')
    (hX : ∀ (k : Nat) (h' : AH) (H1 : Heap) (locs1 : List Loc) (q : Addr) (ce : Cell), XK k h' → Rep g h' H1 → va_S (gAd g) s.heap H1 locs1 → H1[q]? = some ce → ce.vm = .none → s.vm.findClass (exN k) = some ce.cls →
      vx_W p l e (rmM M) s m args below meth c H1 locs1 (u.1 + mc) (u.2 + ms) (vx_MQ below (Qn g Q) (Qx g Q) args s (mC M) (mS M) (gAd g)) (F0 m pc ls (rest.map (tv g))) q) :
    W p l e (rmM M) s m args below meth c H locs u.1 u.2 (vx_MQ below (Qn g Q) (Qx g Q) args s (mC M) (mS M) (gAd g)) (F0 m pc ls st0) := by
  intro T hT X
  rcases hr T hT X with ⟨v, st₀, t, T', L1, h0, X', hL1, e1, e2, ⟨⟨v', h', hv, hq, hR⟩, hF⟩, st⟩ | ⟨q, st₀, t, T', L1, E, ce, h0, X', hL1, e1, e2, ⟨⟨k, h', hE, hq, hR⟩, hF⟩, hce, hcv, hcl, st⟩
  · have hv2 : v = v'.map (tv g) := Outcome.returned.inj hv
    subst hv2
    obtain ⟨k1, k2, k3⟩ := vx_keep h0 e1 hS (fun _ _ h => h) (fun _ h => h) hL1 hF
    obtain ⟨t2, a1, b1⟩ := hk v' h' hq p l e s m args below meth c T'.heap (locs ++ L1) ls hC (by rw [e1]; exact hR) k3 hL hl h1 h2 T' rfl X'
    refine ⟨t2, st t2 ?_, b1⟩
    have : (v'.toList ++ rest).map (tv g) = (v'.map (tv g)).toList ++ rest.map (tv g) := by cases v' <;> rfl
    rw [this] at a1
    exact a1
  · subst hE
    obtain ⟨k1, k2, k3⟩ := vx_keep h0 e1 hS (fun _ _ h => h) (fun _ h => h) hL1 hF
    obtain ⟨t2, a1, b1⟩ := hX k h' T'.heap (locs ++ L1) q ce (hx k h' hq) (by rw [e1]; exact hR) k3 (by rw [e1]; exact hce) hcv hcl T' rfl X'
    exact ⟨t2, st.trans a1, b1⟩
theorem Ex.out {g : Gp} {M : MD} {pc : Nat} {rest : List AV} {uc us : Nat} {Q : PQ} {k : Nat} {h' : AH} {p : Program} {l : Launch} {e : Env} {s : State} {m : MethodId} {args : Array Value} {below : List Frame} {meth : Method} {c : Code} {H1 : Heap} {locs1 : List Loc} {ls : Array Slot} {q : Addr} {ce : Cell}
    (hH : mH M = []) (hC : Cx g M p l s m args meth c) (h1 : uc ≤ mC M) (h2 : us ≤ mS M) (hq : Q (.inr k) h') (hR : Rep g h' H1) (hS : va_S (gAd g) s.heap H1 locs1) (hce : H1[q]? = some ce) (hcv : ce.vm = .none) (hcl : s.vm.findClass (exN k) = some ce.cls) :
    vx_W p l e (rmM M) s m args below meth c H1 locs1 uc us (vx_MQ below (Qn g Q) (Qx g Q) args s (mC M) (mS M) (gAd g)) (F0 m pc ls (rest.map (tv g))) q := by
  obtain ⟨-, -, -, -, -, -, hlk, -, -, -, -, htb⟩ := hC
  refine vx_out (fun x hx => ?_) hlk hce hcv hcl (fun t ht _ => ⟨⟨k, h', rfl, hq, by rw [ht]; exact hR⟩, hS.F ht⟩) hS.2.2 h1 h2
  rw [htb, hH] at hx
  exact absurd hx (by simp [tableOf])
theorem callB_M {g : Gp} {M N : MD} {p : Program} {l : Launch} {s : State} {m : MethodId} {args : Array Value} {meth : Method} {c : Code} {n i : Nat} (hC : Cx g M p l s m args meth c) (hN : MOk N n) (hcode : mH N = []) (hl : Cond.methodLink (mO M) i (mY N) ∈ lw_g) (hdp : mDp N + 1 ≤ mDp M) :
    CallB (rmM M) s args (mO M) i (mY N) (mB N) (mX N) (mR N) (mW N) (rmM N) (mC N) (mS N) n := by
  obtain ⟨-, -, -, -, -, hts, -⟩ := hC
  obtain ⟨k1, k2, k3, k4, k5⟩ := hN
  have hcw : codeW N = Cond.code (mY N) (mB N) (mX N) (mR N) := by simp [codeW, hcode]
  refine ⟨rfl, rfl, hdp, ?_, mW_pay hts k1, by rw [← hcw]; exact List.mem_cons_self, by rw [← hcw]; exact hts _ k1, hts _ k2, k3, k4, hts _ hl⟩
  show 8 + (mX N + 11) + (64 * mDp N + 100) ≤ 64 * mDp M + 100
  omega
theorem lr_room {g : Gp} {m : MethodId} {pc : Nat} {ls : Array Slot} {st : List Value} {rest : List AV} (h : rest.length ≤ 4) : 2 * (F0 m pc ls st).monitorRoom + ((rest.map (tv g)).map fun v => v.category).sum ≤ 8 := by
  refine lv_room ?_
  have hc : ∀ v : Value, v.category ≤ 2 := fun v => by cases v <;> simp [Value.category]
  have : ∀ r : List AV, ((r.map (tv g)).map fun v => v.category).sum ≤ 2 * r.length := by
    intro r
    induction r with
    | nil => simp
    | cons x r ih => simp only [List.map_cons, List.sum_cons, List.length_cons]; have := hc (tv g x); omega
  have := this rest
  omega
theorem Pc.at {g : Gp} {av : List AV} {h : AH} {H : Heap} {s : State} {locs : List Loc} (hR : Rep g h H) (hK : va_K (gD g) clt (tyl g) s) (hO : Old g s) (hS : va_S (gAd g) s.heap H locs) : ∀ U : State, U.heap = H → s.WarmedH U.vm → Pc g av h (av.map (tv g)).toArray U := by
  intro U hU hW
  exact ⟨rfl, by rw [hU]; exact hR, va_K.moved hW.alike hK, Old.trans (locs := locs) hW (by rw [hU]; exact hS) hO⟩
theorem Ex.callS {g : Gp} {M N : MD} {pc i : Nat} {L rest av : List AV} {h : AH} {u : Nat × Nat} {Q Q' : PQ} (hM : mH M = []) (hN : MOk N av.length) (hcode : mH N = []) (hl : Cond.methodLink (mO M) i (mY N) ∈ lw_g) (hst : Cond.static (mY N) ∈ lw_g) (hdp : mDp N + 1 ≤ mDp M) (h1 : u.1 + mC N ≤ mC M) (h2 : u.2 + mS N ≤ mS M) (hrest : rest.length ≤ 4) (hd : decode (mB M) pc = .ok (.invokestatic i, 3))
    (ev : Ev g N av h Q') (hk : ∀ v h', Q' (.inl v) h' → Ex g M (pc + 3) L (v.toList ++ rest) h' (u.1 + mC N, u.2 + mS N) Q) (hx : ∀ k h', Q' (.inr k) h' → Q (.inr k) h') : Ex g M pc L (av.reverse ++ rest) h u Q := by
  intro p l e s m args below meth c H locs ls hC hR hS hL hl0 g1 g2
  obtain ⟨hX, hb, hrt, hml, how, hts, hlk, hnm, hK, hO, hlt, htb⟩ := id hC
  refine Ex.fin (a := (av.map (tv g)).toArray) (XK := fun k h' => Q (.inr k) h') hC hS hL hl0 h1 h2 ?_ hk hx (fun k h' H1 locs1 q ce z1 z2 z3 z4 z5 z6 => Ex.out hM hC h1 h2 z1 z2 z3 z4 z5 z6)
  exact vx_runS (As := av.map (tv g)) (rest := rest.map (tv g)) ⟨hX, hb, hml, how, hts⟩ (ev l hlt) ⟨callB_M hC hN hcode hl hdp, hts _ hst⟩ ⟨Pc.blind, Pc.at hR hK hO hS⟩ rfl (by simp) (by rw [← hl0]; exact hL.1) (by simp) (lr_room hrest) hd ⟨h1, h2⟩
theorem rep_recv {g : Gp} {h : AH} {H : Heap} {s : State} {x c : Nat} {r : vw_C} (hR : Rep g h H) (hK : va_K (gD g) clt (tyl g) s) (hx : zK h x = (1, c)) (hc : clt[c]? = some r) : ∃ cell : Cell, H[adr g x]? = some cell ∧ cell.vm.isStatics = false ∧ s.vm.findClass r.1 = some cell.cls := by
  have h1 := hR.2.2.2 x (by rw [hx]; exact Nat.one_ne_zero)
  have he : ent g h x = .inr (c, (List.range (nfl c)).map (fv g h c x)) := by simp [ent, entk, hx]
  rw [he] at h1
  have hP : va_P (gD g) clt [(adr g x, .inr (c, (List.range (nfl c)).map (fv g h c x)))] H := fun k q hq => by
    match k, hq with
    | 0, hq => cases hq; exact h1
    | k + 1, hq => simp at hq
  exact va_recv hK hP hc (q0 := 0) rfl
theorem Ex.callV {g : Gp} {M N : MD} {pc i x ci : Nat} {r : vw_C} {L rest av : List AV} {h : AH} {u : Nat × Nat} {Q Q' : PQ} (hM : mH M = []) (hN : MOk N av.length) (hcode : mH N = []) (hl : Cond.methodLink (mO M) i (mY N) ∈ lw_g) (hin : Cond.instanceMethod (mY N) ∈ lw_g) (hse : Cond.selects r.1 (mY N) (mY N) ∈ lw_g) (hc : clt[ci]? = some r) (hx0 : zK h x = (1, ci)) (hdp : mDp N + 1 ≤ mDp M) (h1 : u.1 + mC N ≤ mC M) (h2 : u.2 + mS N ≤ mS M) (hrest : rest.length ≤ 4) (hd : decode (mB M) pc = .ok (.invokevirtual i, 3))
    (ev : Ev g N (vR x :: av) h Q') (hk : ∀ v h', Q' (.inl v) h' → Ex g M (pc + 3) L (v.toList ++ rest) h' (u.1 + mC N, u.2 + mS N) Q) (hx : ∀ k h', Q' (.inr k) h' → Q (.inr k) h') : Ex g M pc L (av.reverse ++ vR x :: rest) h u Q := by
  intro p l e s m args below meth c H locs ls hC hR hS hL hl0 g1 g2
  obtain ⟨hX, hb, hrt, hml, how, hts, hlk, hnm, hK, hO, hlt, htb⟩ := id hC
  have hx3 : x ≠ 0 := fun h0 => by have := hR.2.2.1 x (Or.inl (by omega)); rw [hx0] at this; exact Nat.one_ne_zero this
  have hv : tv g (vR x) = .ref (adr g x) := by simp [tv, rv, hx3]
  refine Ex.fin (a := (Value.ref (adr g x) :: av.map (tv g)).toArray) (XK := fun k h' => Q (.inr k) h') hC hS hL hl0 h1 h2 ?_ hk hx (fun k h' H1 locs1 q ce z1 z2 z3 z4 z5 z6 => Ex.out hM hC h1 h2 z1 z2 z3 z4 z5 z6)
  refine vx_runV (b := adr g x) (C := r.1) (As := av.map (tv g)) (rest := rest.map (tv g)) ⟨hX, hb, hml, how, hts⟩ (ev l hlt) ⟨callB_M hC hN hcode hl hdp, hts _ hin, hts _ hse⟩ ⟨Pc.blind, rep_recv hR hK hx0 hc, fun U hU hW => ?_⟩ rfl (by simp) (by rw [← hl0]; exact hL.1) (by simp [hv]) (lr_room hrest) hd ⟨h1, h2⟩
  have := Pc.at (av := vR x :: av) hR hK hO hS U hU hW
  rw [List.map_cons, hv] at this
  exact this
theorem Ex.callI {g : Gp} {M N : MD} {pc i x : Nat} {L rest av : List AV} {h : AH} {u : Nat × Nat} {Q Q' : PQ} (hM : mH M = []) (hN : MOk N av.length) (hcode : mH N = []) (hret : mR N = none) (hini : (mY N).name = "<init>") (hl : Cond.methodLink (mO M) i (mY N) ∈ lw_g) (hin : Cond.instanceMethod (mY N) ∈ lw_g) (hx0 : x ≠ 0) (hdp : mDp N + 1 ≤ mDp M) (h1 : u.1 + mC N ≤ mC M) (h2 : u.2 + mS N ≤ mS M) (hrest : rest.length ≤ 4) (hd : decode (mB M) pc = .ok (.invokespecial i, 3))
    (ev : Ev g N (vR x :: av) h Q') (hk : ∀ v h', Q' (.inl v) h' → Ex g M (pc + 3) L (v.toList ++ rest) h' (u.1 + mC N, u.2 + mS N) Q) (hx : ∀ k h', Q' (.inr k) h' → Q (.inr k) h') : Ex g M pc L (av.reverse ++ vR x :: rest) h u Q := by
  intro p l e s m args below meth c H locs ls hC hR hS hL hl0 g1 g2
  obtain ⟨hX, hb, hrt, hml, how, hts, hlk, hnm, hK, hO, hlt, htb⟩ := id hC
  have hv : tv g (vR x) = .ref (adr g x) := by simp [tv, rv, hx0]
  refine Ex.fin (a := (Value.ref (adr g x) :: av.map (tv g)).toArray) (XK := fun k h' => Q (.inr k) h') hC hS hL hl0 h1 h2 ?_ hk hx (fun k h' H1 locs1 q ce z1 z2 z3 z4 z5 z6 => Ex.out hM hC h1 h2 z1 z2 z3 z4 z5 z6)
  have cb := callB_M hC hN hcode hl hdp
  rw [hret] at cb
  refine vx_runI (b := adr g x) (As := av.map (tv g)) (rest := rest.map (tv g)) ⟨hX, hb, hml, how, hts⟩ (ev l hlt) ⟨cb, hini, hts _ hin⟩ ⟨Pc.blind, fun U hU hW => ?_⟩ rfl (by simp) (by rw [← hl0]; exact hL.1) (by simp [hv]) (lr_room hrest) hd ⟨h1, h2⟩
  have := Pc.at (av := vR x :: av) hR hK hO hS U hU hW
  rw [List.map_cons, hv] at this
  exact this
theorem Ex.callIN {g : Gp} {M N : MD} {pc i x : Nat} {host : String} {L rest av : List AV} {h : AH} {u : Nat × Nat} {Q Q' : PQ} (hM : mH M = []) (hN : MOk N av.length) (hcode : mH N = []) (hret : mR N = none) (hini : (mY N).name = "<init>") (hl : Cond.methodLinkNest (mO M) i (mY N) host ∈ lw_n) (hin : Cond.instanceMethod (mY N) ∈ lw_g) (hx0 : x ≠ 0) (hdp : mDp N + 1 ≤ mDp M) (h1 : u.1 + mC N ≤ mC M) (h2 : u.2 + mS N ≤ mS M) (hrest : rest.length ≤ 4) (hd : decode (mB M) pc = .ok (.invokespecial i, 3))
    (ev : Ev g N (vR x :: av) h Q') (hk : ∀ v h', Q' (.inl v) h' → Ex g M (pc + 3) L (v.toList ++ rest) h' (u.1 + mC N, u.2 + mS N) Q) (hx : ∀ k h', Q' (.inr k) h' → Q (.inr k) h') : Ex g M pc L (av.reverse ++ vR x :: rest) h u Q := by
  intro p l e s m args below meth c H locs ls hC hR hS hL hl0 g1 g2
  obtain ⟨hX, hb, hrt, hml, how, hts, hlk, hnm, hK, hO, hlt, htb⟩ := id hC
  have hv : tv g (vR x) = .ref (adr g x) := by simp [tv, rv, hx0]
  refine Ex.fin (a := (Value.ref (adr g x) :: av.map (tv g)).toArray) (XK := fun k h' => Q (.inr k) h') hC hS hL hl0 h1 h2 ?_ hk hx (fun k h' H1 locs1 q ce z1 z2 z3 z4 z5 z6 => Ex.out hM hC h1 h2 z1 z2 z3 z4 z5 z6)
  obtain ⟨k1, k2, k3, k4, k5⟩ := id hN
  have hcw : codeW N = Cond.code (mY N) (mB N) (mX N) none := by simp [codeW, hcode, hret]
  have cb : va_CN (rmM M) s args (mO M) i (mY N) host (mB N) (mX N) none (mW N) (rmM N) (mC N) (mS N) av.length := by
    refine ⟨⟨rfl, rfl, hdp, ?_, mW_pay hts k1, by rw [← hcw]; exact List.mem_cons_self⟩, by rw [← hcw]; exact hts _ k1, hts _ k2, k3, k4, hO.nw _ hl⟩
    show 8 + (mX N + 11) + (64 * mDp N + 100) ≤ 64 * mDp M + 100
    omega
  refine vx_runIN (b := adr g x) (As := av.map (tv g)) (rest := rest.map (tv g)) ⟨hX, hb, hml, how, hts⟩ (ev l hlt) ⟨cb, hini, hts _ hin⟩ ⟨Pc.blind, fun U hU hW => ?_⟩ rfl (by simp) (by rw [← hl0]; exact hL.1) (by simp [hv]) (lr_room hrest) hd ⟨h1, h2⟩
  have := Pc.at (av := vR x :: av) hR hK hO hS U hU hW
  rw [List.map_cons, hv] at this
  exact this
/-- a static call of a method with handlers -/
theorem Ex.callSW {g : Gp} {M N : MD} {pc i : Nat} {hh : List (Nat × Nat × Nat × Nat)} {L rest av : List AV} {h : AH} {u : Nat × Nat} {Q Q' : PQ} (hM : mH M = []) (hN : MOk N av.length) (hcode : mH N = hh) (hne : hh ≠ []) (hl : Cond.methodLink (mO M) i (mY N) ∈ lw_g) (hst : Cond.static (mY N) ∈ lw_g) (hdp : mDp N + 1 ≤ mDp M) (h1 : u.1 + mC N ≤ mC M) (h2 : u.2 + mS N ≤ mS M) (hrest : rest.length ≤ 4) (hd : decode (mB M) pc = .ok (.invokestatic i, 3))
    (ev : Ev g N av h Q') (hk : ∀ v h', Q' (.inl v) h' → Ex g M (pc + 3) L (v.toList ++ rest) h' (u.1 + mC N, u.2 + mS N) Q) (hx : ∀ k h', Q' (.inr k) h' → Q (.inr k) h') : Ex g M pc L (av.reverse ++ rest) h u Q := by
  intro p l e s m args below meth c H locs ls hC hR hS hL hl0 g1 g2
  obtain ⟨hX, hb, hrt, hml, how, hts, hlk, hnm, hK, hO, hlt, htb⟩ := id hC
  refine Ex.fin (a := (av.map (tv g)).toArray) (XK := fun k h' => Q (.inr k) h') hC hS hL hl0 h1 h2 ?_ hk hx (fun k h' H1 locs1 q ce z1 z2 z3 z4 z5 z6 => Ex.out hM hC h1 h2 z1 z2 z3 z4 z5 z6)
  obtain ⟨k1, k2, k3, k4, k5⟩ := id hN
  have hcw : codeW N = Cond.codeWith (mY N) (mB N) (mX N) (mR N) hh := by
    subst hcode
    unfold codeW
    split
    · rename_i hq; exact absurd hq hne
    · rename_i hq; rw [hq]
  have cb : vx_CSW (rmM M) s args (mO M) i (mY N) (mB N) (mX N) (mR N) hh (mW N) (rmM N) (mC N) (mS N) av.length := by
    refine ⟨⟨rfl, rfl, hdp, ?_, mW_pay hts k1, by rw [← hcw]; exact List.mem_cons_self⟩, by rw [← hcw]; exact hts _ k1, hts _ k2, k3, k4, hts _ hl, hts _ hst⟩
    show 8 + (mX N + 11) + (64 * mDp N + 100) ≤ 64 * mDp M + 100
    omega
  exact vx_runSX (As := av.map (tv g)) (rest := rest.map (tv g)) ⟨hX, hb, hml, how, hts⟩ (ev l hlt) cb ⟨Pc.blind, Pc.at hR hK hO hS⟩ rfl (by simp) (by rw [← hl0]; exact hL.1) (by simp) (lr_room hrest) hd ⟨h1, h2⟩
end
section
/-! ===== locals ===== -/
def lg : List AV → Nat → AV
  | [], _ => vU
  | v :: _, 0 => v
  | _ :: r, n + 1 => lg r n
def lset : List AV → Nat → AV → List AV
  | [], _, _ => []
  | _ :: r, 0, v => v :: r
  | a :: r, n + 1, v => a :: lset r n v
def lkill (L : List AV) (j : Nat) : List AV := match lg L j with
  | .inr (.inl _) => lset L j vU
  | .inr (.inr (.inl _)) => lset L j vU
  | _ => L
def st1 (L : List AV) (i : Nat) (v : AV) : List AV := match i with
  | 0 => lset L 0 v
  | j + 1 => lset (lkill L j) (j + 1) v
def st2 (L : List AV) (i : Nat) (v : AV) : List AV := lset (st1 L i v) (i + 1) vU
theorem lset_len (L : List AV) : ∀ (i : Nat) (v : AV), (lset L i v).length = L.length := by
  induction L with
  | nil => intro i v; rfl
  | cons a r ih => intro i v; cases i with
    | zero => rfl
    | succ n => simp [lset, ih]
theorem lset_lg (L : List AV) : ∀ (i : Nat) (v : AV) (j : Nat), i < L.length → lg (lset L i v) j = if j = i then v else lg L j := by
  induction L with
  | nil => intro i v j h; simp at h
  | cons a r ih =>
    intro i v j h
    cases i with
    | zero => cases j with
      | zero => rfl
      | succ j => simp [lset, lg]
    | succ i => cases j with
      | zero => simp [lset, lg]
      | succ j => simp only [lset, lg]; rw [ih i v j (by simpa using h)]; simp
theorem lg_some {L : List AV} : ∀ {i : Nat} {v : AV}, lg L i = v → v ≠ vU → L[i]? = some v := by
  induction L with
  | nil => intro i v h hv; exact absurd h.symm hv
  | cons a r ih => intro i v h hv; cases i with
    | zero => simp only [lg] at h; simp [h]
    | succ i => simp only [lg] at h; simpa using ih h hv
theorem some_lg {L : List AV} : ∀ {i : Nat} {v : AV}, L[i]? = some v → lg L i = v := by
  induction L with
  | nil => intro i v h; simp at h
  | cons a r ih => intro i v h; cases i with
    | zero => simp only [List.getElem?_cons_zero, Option.some.injEq] at h; simp [lg, h]
    | succ i => simp only [List.getElem?_cons_succ] at h; simpa [lg] using ih h
theorem lkill_len (L : List AV) (j : Nat) : (lkill L j).length = L.length := by
  unfold lkill
  split <;> simp [lset_len]
theorem lkill_lg (g : Gp) (L : List AV) (j k : Nat) (h : j < L.length) : lg (lkill L j) k = if k = j ∧ (tv g (lg L j)).category = 2 then vU else lg L k := by
  unfold lkill
  split
  · rename_i x hx
    rw [lset_lg _ _ _ _ h]
    simp [hx, tv, Value.category]
  · rename_i x hx
    rw [lset_lg _ _ _ _ h]
    simp [hx, tv, Value.category]
  · rename_i h1 h2
    have : ¬ (tv g (lg L j)).category = 2 := fun hc => by
      rcases (tv_cat2 g _).mp hc with ⟨x, hx⟩ | ⟨x, hx⟩
      · exact h1 _ hx
      · exact h2 _ hx
    simp [this]
theorem st1_len (L : List AV) (i : Nat) (v : AV) : (st1 L i v).length = L.length := by
  unfold st1
  split <;> simp [lset_len, lkill_len]
theorem st2_len (L : List AV) (i : Nat) (v : AV) : (st2 L i v).length = L.length := by
  unfold st2
  rw [lset_len, st1_len]
theorem st1_lg (g : Gp) (L : List AV) (i j : Nat) (v : AV) (h : i < L.length) : lg (st1 L i v) j = if j = i then v else if j + 1 = i ∧ (tv g (lg L j)).category = 2 then vU else lg L j := by
  unfold st1
  split
  · rw [lset_lg _ _ _ _ h]; simp
  · rename_i k
    rw [lset_lg _ _ _ _ (by rw [lkill_len]; exact h), lkill_lg g _ _ _ (by omega)]
    by_cases h1 : j = k + 1
    · simp [h1]
    · by_cases h2 : j = k
      · simp [h2]
      · simp [h1, h2]
/-- all that is known of the locals -/
def lvp (g : Gp) (L : List AV) : List (Nat × Value) := (List.range L.length).filterMap (fun i => if lg L i = vU then none else some (i, tv g (lg L i)))
theorem lvp_mem {g : Gp} {L : List AV} {q : Nat × Value} : q ∈ lvp g L ↔ q.1 < L.length ∧ lg L q.1 ≠ vU ∧ q.2 = tv g (lg L q.1) := by
  unfold lvp
  rw [List.mem_filterMap]
  constructor
  · rintro ⟨i, h1, h2⟩
    split at h2
    · cases h2
    · rename_i h3
      cases h2
      exact ⟨List.mem_range.mp h1, h3, rfl⟩
  · rintro ⟨h1, h2, h3⟩
    refine ⟨q.1, List.mem_range.mpr h1, ?_⟩
    rw [if_neg h2, ← h3]
theorem lg_lt {L : List AV} {i : Nat} (h : lg L i ≠ vU) : i < L.length := (List.getElem?_eq_some_iff.mp (lg_some rfl h)).1
theorem LR.has {g : Gp} {L : List AV} {ls : Array Slot} (h : LR g L ls) : lv_has ls L.length (lvp g L) := by
  refine ⟨h.1, h.2.1, fun q hq => ?_⟩
  obtain ⟨h1, h2, h3⟩ := lvp_mem.mp hq
  rw [h3]
  exact h.2.2 _ _ (lg_some rfl h2) h2
theorem LR.at {g : Gp} {L : List AV} {ls : Array Slot} (h : LR g L ls) {i : Nat} {v : AV} (hv : lg L i = v) (hu : v ≠ vU) : ls[i]? = some (.val (tv g v)) := h.2.2 i v (lg_some hv hu) hu
theorem LR.of {g : Gp} {L : List AV} {ls : Array Slot} {lv : List (Nat × Value)} {n : Nat} (h : lv_has ls n lv) (hn : n = L.length) (hm : ∀ i, lg L i ≠ vU → (i, tv g (lg L i)) ∈ lv) : LR g L ls :=
  ⟨h.1.trans hn, h.2.1, fun i v hi hv => by have e := some_lg hi; have := h.2.2 _ (hm i (by rw [e]; exact hv)); rw [e] at this; exact this⟩
theorem LR.set1 {g : Gp} {L : List AV} {ls' : Array Slot} {i : Nat} {v : AV} {n : Nat} {x : Value} (hn : n = L.length) (hi : i < L.length) (hx : x = tv g v) (h : lv_has ls' n ((i, x) :: (lvp g L).filter (fun q => !(q.1 == i) && !(q.1 + 1 == i && q.2.category == 2)))) : LR g (st1 L i v) ls' := by
  refine LR.of h (by rw [st1_len]; exact hn) (fun j hj => ?_)
  rw [st1_lg g _ _ _ _ hi] at hj ⊢
  by_cases h1 : j = i
  · subst h1
    simp [hx]
  · rw [if_neg h1] at hj ⊢
    by_cases h2 : j + 1 = i ∧ (tv g (lg L j)).category = 2
    · rw [if_pos h2] at hj; exact absurd rfl hj
    · rw [if_neg h2] at hj ⊢
      refine List.mem_cons_of_mem _ (List.mem_filter.mpr ⟨lvp_mem.mpr ⟨lg_lt hj, hj, rfl⟩, ?_⟩)
      simp [h1]
      omega
theorem LR.set2 {g : Gp} {L : List AV} {ls' : Array Slot} {i : Nat} {v : AV} {n : Nat} {x : Value} (hn : n = L.length) (hi : i + 1 < L.length) (hx : x = tv g v) (h : lv_has ls' n ((i, x) :: (lvp g L).filter (fun q => !(q.1 == i) && (!(q.1 == i + 1) && !(q.1 + 1 == i && q.2.category == 2))))) : LR g (st2 L i v) ls' := by
  refine LR.of h (by rw [st2_len]; exact hn) (fun j hj => ?_)
  unfold st2 at hj ⊢
  rw [lset_lg _ _ _ _ (by rw [st1_len]; exact hi), st1_lg g _ _ _ _ (by omega)] at hj ⊢
  by_cases h0 : j = i + 1
  · rw [if_pos h0] at hj; exact absurd rfl hj
  · rw [if_neg h0] at hj ⊢
    by_cases h1 : j = i
    · subst h1
      simp [hx]
    · rw [if_neg h1] at hj ⊢
      by_cases h2 : j + 1 = i ∧ (tv g (lg L j)).category = 2
      · rw [if_pos h2] at hj; exact absurd rfl hj
      · rw [if_neg h2] at hj ⊢
        refine List.mem_cons_of_mem _ (List.mem_filter.mpr ⟨lvp_mem.mpr ⟨lg_lt hj, hj, rfl⟩, ?_⟩)
        simp [h1, h0]
        omega
/-- some locals are forgotten -/
def lsub : List AV → List AV → Prop
  | [], [] => True
  | a :: r, b :: q => (a = vU ∨ a = b) ∧ lsub r q
  | _, _ => False
theorem lsub_len : ∀ {L' L : List AV}, lsub L' L → L'.length = L.length
  | [], [], _ => rfl
  | _ :: _, _ :: _, h => by simp only [List.length_cons]; rw [lsub_len h.2]
theorem lsub_lg : ∀ {L' L : List AV} {i : Nat}, lsub L' L → lg L' i ≠ vU → lg L i = lg L' i
  | [], [], _, _, _ => rfl
  | a :: r, b :: q, 0, h, hv => by
    rcases h.1 with e | e
    · exact absurd e hv
    · exact e.symm
  | a :: r, b :: q, n + 1, h, hv => lsub_lg (L' := r) (L := q) h.2 hv
theorem Ex.forget {g : Gp} {M : MD} {pc : Nat} {L L' st : List AV} {h : AH} {u : Nat × Nat} {Q : PQ} (hs : lsub L' L) (k : Ex g M pc L' st h u Q) : Ex g M pc L st h u Q := by
  intro p l e s m args below meth c H locs ls hC hR hS hL hl h1 h2
  refine k p l e s m args below meth c H locs ls hC hR hS ⟨hL.1.trans (lsub_len hs).symm, hL.2.1, fun i v hi hv => ?_⟩ ((lsub_len hs).trans hl) h1 h2
  have e := some_lg hi
  have e2 := lsub_lg (i := i) hs (by rw [e]; exact hv)
  exact hL.at (e2.trans e) hv
end
section
/-! ===== the rules of the instructions that leave the heap (by program) ===== -/
theorem x_iconst {g : Gp} {M : MD} {pc : Nat} {L st : List AV} {h : AH} {u : Nat × Nat} {Q : PQ} {n : Int} {v : Int32} (hv : Int32.ofInt n = v) (hd : decode (mB M) pc = .ok (.iconst n, 1)) (k : Ex g M (pc + 1) L (vI v :: st) h u Q) : Ex g M pc L (st) h u Q := by
  intro p l e s m args below meth c H locs ls hC hR hS hL hl h1 h2
  obtain ⟨hx, hb, hrt, hml, how, hts, -⟩ := id hC
  exact lv_iconst hx hb hd hv (k p l e s m args below meth c H locs ls hC hR hS hL hl h1 h2)
theorem x_bipush {g : Gp} {M : MD} {pc : Nat} {L st : List AV} {h : AH} {u : Nat × Nat} {Q : PQ} {n : Int} {v : Int32} (hv : (Int8.ofInt n).toInt32 = v) (hd : decode (mB M) pc = .ok (.bipush n, 2)) (k : Ex g M (pc + 2) L (vI v :: st) h u Q) : Ex g M pc L (st) h u Q := by
  intro p l e s m args below meth c H locs ls hC hR hS hL hl h1 h2
  obtain ⟨hx, hb, hrt, hml, how, hts, -⟩ := id hC
  exact lv_bipush hx hb hd hv (k p l e s m args below meth c H locs ls hC hR hS hL hl h1 h2)
theorem x_sipush {g : Gp} {M : MD} {pc : Nat} {L st : List AV} {h : AH} {u : Nat × Nat} {Q : PQ} {n : Int} {v : Int32} (hv : (Int16.ofInt n).toInt32 = v) (hd : decode (mB M) pc = .ok (.sipush n, 3)) (k : Ex g M (pc + 3) L (vI v :: st) h u Q) : Ex g M pc L (st) h u Q := by
  intro p l e s m args below meth c H locs ls hC hR hS hL hl h1 h2
  obtain ⟨hx, hb, hrt, hml, how, hts, -⟩ := id hC
  exact lv_sipush hx hb hd hv (k p l e s m args below meth c H locs ls hC hR hS hL hl h1 h2)
theorem x_lconst {g : Gp} {M : MD} {pc : Nat} {L st : List AV} {h : AH} {u : Nat × Nat} {Q : PQ} {n : Fin 2} {v : Int64} (hv : Int64.ofNat (n : Nat) = v) (hd : decode (mB M) pc = .ok (.lconst n, 1)) (k : Ex g M (pc + 1) L (vL v :: st) h u Q) : Ex g M pc L (st) h u Q := by
  intro p l e s m args below meth c H locs ls hC hR hS hL hl h1 h2
  obtain ⟨hx, hb, hrt, hml, how, hts, -⟩ := id hC
  exact lv_lconst hx hb hd hv (k p l e s m args below meth c H locs ls hC hR hS hL hl h1 h2)
theorem x_dconst0 {g : Gp} {M : MD} {pc : Nat} {L st : List AV} {h : AH} {u : Nat × Nat} {Q : PQ}  (hd : decode (mB M) pc = .ok (.dconst 0, 1)) (k : Ex g M (pc + 1) L (vD FP.dconst0 :: st) h u Q) : Ex g M pc L (st) h u Q := by
  intro p l e s m args below meth c H locs ls hC hR hS hL hl h1 h2
  obtain ⟨hx, hb, hrt, hml, how, hts, -⟩ := id hC
  exact lv_dconst0 hx hb hd (k p l e s m args below meth c H locs ls hC hR hS hL hl h1 h2)
theorem x_ldc {g : Gp} {M : MD} {pc : Nat} {L st : List AV} {h : AH} {u : Nat × Nat} {Q : PQ} {i : Nat} {v : Int32} (hw : Cond.constant (mO M) i v ∈ lw_g) (hd : decode (mB M) pc = .ok (.ldc i, 2)) (k : Ex g M (pc + 2) L (vI v :: st) h u Q) : Ex g M pc L (st) h u Q := by
  intro p l e s m args below meth c H locs ls hC hR hS hL hl h1 h2
  obtain ⟨hx, hb, hrt, hml, how, hts, -⟩ := id hC
  exact lv_ldc hx hb how (hts _ hw) hd (k p l e s m args below meth c H locs ls hC hR hS hL hl h1 h2)
theorem x_ldcw {g : Gp} {M : MD} {pc : Nat} {L st : List AV} {h : AH} {u : Nat × Nat} {Q : PQ} {i : Nat} {v : Int32} (hw : Cond.constant (mO M) i v ∈ lw_g) (hd : decode (mB M) pc = .ok (.ldc_w i, 3)) (k : Ex g M (pc + 3) L (vI v :: st) h u Q) : Ex g M pc L (st) h u Q := by
  intro p l e s m args below meth c H locs ls hC hR hS hL hl h1 h2
  obtain ⟨hx, hb, hrt, hml, how, hts, -⟩ := id hC
  exact lv_ldcw hx hb how (hts _ hw) hd (k p l e s m args below meth c H locs ls hC hR hS hL hl h1 h2)
theorem x_ldc2 {g : Gp} {M : MD} {pc : Nat} {L st : List AV} {h : AH} {u : Nat × Nat} {Q : PQ} {i : Nat} {v : Int64} (hw : Cond.constantLong (mO M) i v ∈ lw_g) (hd : decode (mB M) pc = .ok (.ldc2_w i, 3)) (k : Ex g M (pc + 3) L (vL v :: st) h u Q) : Ex g M pc L (st) h u Q := by
  intro p l e s m args below meth c H locs ls hC hR hS hL hl h1 h2
  obtain ⟨hx, hb, hrt, hml, how, hts, -⟩ := id hC
  exact lv_ldc2 hx hb how (hts _ hw) hd (k p l e s m args below meth c H locs ls hC hR hS hL hl h1 h2)
theorem x_ldc2d {g : Gp} {M : MD} {pc : Nat} {L st : List AV} {h : AH} {u : Nat × Nat} {Q : PQ} {i : Nat} {v : UInt64} (hw : Cond.constantDouble (mO M) i v ∈ lw_g) (hd : decode (mB M) pc = .ok (.ldc2_w i, 3)) (k : Ex g M (pc + 3) L (vD v :: st) h u Q) : Ex g M pc L (st) h u Q := by
  intro p l e s m args below meth c H locs ls hC hR hS hL hl h1 h2
  obtain ⟨hx, hb, hrt, hml, how, hts, -⟩ := id hC
  exact lv_ldc2d hx hb how (hts _ hw) hd (k p l e s m args below meth c H locs ls hC hR hS hL hl h1 h2)
theorem x_null {g : Gp} {M : MD} {pc : Nat} {L st : List AV} {h : AH} {u : Nat × Nat} {Q : PQ}  (hd : decode (mB M) pc = .ok (.aconst_null, 1)) (k : Ex g M (pc + 1) L (vR 0 :: st) h u Q) : Ex g M pc L (st) h u Q := by
  intro p l e s m args below meth c H locs ls hC hR hS hL hl h1 h2
  obtain ⟨hx, hb, hrt, hml, how, hts, -⟩ := id hC
  exact lv_null hx hb hd (k p l e s m args below meth c H locs ls hC hR hS hL hl h1 h2)
theorem x_iload_n {g : Gp} {M : MD} {pc : Nat} {L st : List AV} {h : AH} {u : Nat × Nat} {Q : PQ} {i : Nat} {k4 : Fin 4} {x : Int32} (hi : (k4 : Nat) = i) (hv : lg L i = vI x) (hd : decode (mB M) pc = .ok (.iload_n k4, 1)) (k : Ex g M (pc + 1) L (vI x :: st) h u Q) : Ex g M pc L (st) h u Q := by
  intro p l e s m args below meth c H locs ls hC hR hS hL hl h1 h2
  obtain ⟨hx, hb, hrt, hml, how, hts, -⟩ := id hC
  exact lv_iload_n hx hb hd hi (hL.at hv (by simp)) (k p l e s m args below meth c H locs ls hC hR hS hL hl h1 h2)
theorem x_iload {g : Gp} {M : MD} {pc : Nat} {L st : List AV} {h : AH} {u : Nat × Nat} {Q : PQ} {i : Nat} {x : Int32} (hv : lg L i = vI x) (hd : decode (mB M) pc = .ok (.iload i, 2)) (k : Ex g M (pc + 2) L (vI x :: st) h u Q) : Ex g M pc L (st) h u Q := by
  intro p l e s m args below meth c H locs ls hC hR hS hL hl h1 h2
  obtain ⟨hx, hb, hrt, hml, how, hts, -⟩ := id hC
  exact lv_iload hx hb hd (hL.at hv (by simp)) (k p l e s m args below meth c H locs ls hC hR hS hL hl h1 h2)
theorem x_istore_n {g : Gp} {M : MD} {pc : Nat} {L st : List AV} {h : AH} {u : Nat × Nat} {Q : PQ} {i : Nat} {k4 : Fin 4} {x : Int32} (hi : (k4 : Nat) = i) (hi2 : i < L.length) (hd : decode (mB M) pc = .ok (.istore_n k4, 1)) (k : Ex g M (pc + 1) (st1 L i (vI x)) (st) h u Q) : Ex g M pc L (vI x :: st) h u Q := by
  intro p l e s m args below meth c H locs ls hC hR hS hL hl h1 h2
  obtain ⟨hx, hb, hrt, hml, how, hts, -⟩ := id hC
  exact lv_istore_n hx hb hd hi hL.has hi2 rfl (fun ls2 hl2 => (k p l e s m args below meth c H locs ls2 hC hR hS (LR.set1 rfl hi2 rfl hl2) ((st1_len L i _).trans hl) h1 h2))
theorem x_istore {g : Gp} {M : MD} {pc : Nat} {L st : List AV} {h : AH} {u : Nat × Nat} {Q : PQ} {i : Nat} {x : Int32} (hi2 : i < L.length) (hd : decode (mB M) pc = .ok (.istore i, 2)) (k : Ex g M (pc + 2) (st1 L i (vI x)) (st) h u Q) : Ex g M pc L (vI x :: st) h u Q := by
  intro p l e s m args below meth c H locs ls hC hR hS hL hl h1 h2
  obtain ⟨hx, hb, hrt, hml, how, hts, -⟩ := id hC
  exact lv_istore hx hb hd hL.has hi2 rfl (fun ls2 hl2 => (k p l e s m args below meth c H locs ls2 hC hR hS (LR.set1 rfl hi2 rfl hl2) ((st1_len L i _).trans hl) h1 h2))
theorem x_lload_n {g : Gp} {M : MD} {pc : Nat} {L st : List AV} {h : AH} {u : Nat × Nat} {Q : PQ} {i : Nat} {k4 : Fin 4} {x : Int64} (hi : (k4 : Nat) = i) (hv : lg L i = vL x) (hd : decode (mB M) pc = .ok (.lload_n k4, 1)) (k : Ex g M (pc + 1) L (vL x :: st) h u Q) : Ex g M pc L (st) h u Q := by
  intro p l e s m args below meth c H locs ls hC hR hS hL hl h1 h2
  obtain ⟨hx, hb, hrt, hml, how, hts, -⟩ := id hC
  exact lv_lload_n hx hb hd hi (hL.at hv (by simp)) (k p l e s m args below meth c H locs ls hC hR hS hL hl h1 h2)
theorem x_lload {g : Gp} {M : MD} {pc : Nat} {L st : List AV} {h : AH} {u : Nat × Nat} {Q : PQ} {i : Nat} {x : Int64} (hv : lg L i = vL x) (hd : decode (mB M) pc = .ok (.lload i, 2)) (k : Ex g M (pc + 2) L (vL x :: st) h u Q) : Ex g M pc L (st) h u Q := by
  intro p l e s m args below meth c H locs ls hC hR hS hL hl h1 h2
  obtain ⟨hx, hb, hrt, hml, how, hts, -⟩ := id hC
  exact lv_lload hx hb hd (hL.at hv (by simp)) (k p l e s m args below meth c H locs ls hC hR hS hL hl h1 h2)
theorem x_lstore_n {g : Gp} {M : MD} {pc : Nat} {L st : List AV} {h : AH} {u : Nat × Nat} {Q : PQ} {i : Nat} {k4 : Fin 4} {x : Int64} (hi : (k4 : Nat) = i) (hi2 : i + 1 < L.length) (hd : decode (mB M) pc = .ok (.lstore_n k4, 1)) (k : Ex g M (pc + 1) (st2 L i (vL x)) (st) h u Q) : Ex g M pc L (vL x :: st) h u Q := by
  intro p l e s m args below meth c H locs ls hC hR hS hL hl h1 h2
  obtain ⟨hx, hb, hrt, hml, how, hts, -⟩ := id hC
  exact lv_lstore_n hx hb hd hi hL.has hi2 rfl (fun ls2 hl2 => (k p l e s m args below meth c H locs ls2 hC hR hS (LR.set2 rfl hi2 rfl hl2) ((st2_len L i _).trans hl) h1 h2))
theorem x_lstore {g : Gp} {M : MD} {pc : Nat} {L st : List AV} {h : AH} {u : Nat × Nat} {Q : PQ} {i : Nat} {x : Int64} (hi2 : i + 1 < L.length) (hd : decode (mB M) pc = .ok (.lstore i, 2)) (k : Ex g M (pc + 2) (st2 L i (vL x)) (st) h u Q) : Ex g M pc L (vL x :: st) h u Q := by
  intro p l e s m args below meth c H locs ls hC hR hS hL hl h1 h2
  obtain ⟨hx, hb, hrt, hml, how, hts, -⟩ := id hC
  exact lv_lstore hx hb hd hL.has hi2 rfl (fun ls2 hl2 => (k p l e s m args below meth c H locs ls2 hC hR hS (LR.set2 rfl hi2 rfl hl2) ((st2_len L i _).trans hl) h1 h2))
theorem x_dload_n {g : Gp} {M : MD} {pc : Nat} {L st : List AV} {h : AH} {u : Nat × Nat} {Q : PQ} {i : Nat} {k4 : Fin 4} {x : UInt64} (hi : (k4 : Nat) = i) (hv : lg L i = vD x) (hd : decode (mB M) pc = .ok (.dload_n k4, 1)) (k : Ex g M (pc + 1) L (vD x :: st) h u Q) : Ex g M pc L (st) h u Q := by
  intro p l e s m args below meth c H locs ls hC hR hS hL hl h1 h2
  obtain ⟨hx, hb, hrt, hml, how, hts, -⟩ := id hC
  exact lv_dload_n hx hb hd hi (hL.at hv (by simp)) (k p l e s m args below meth c H locs ls hC hR hS hL hl h1 h2)
theorem x_dload {g : Gp} {M : MD} {pc : Nat} {L st : List AV} {h : AH} {u : Nat × Nat} {Q : PQ} {i : Nat} {x : UInt64} (hv : lg L i = vD x) (hd : decode (mB M) pc = .ok (.dload i, 2)) (k : Ex g M (pc + 2) L (vD x :: st) h u Q) : Ex g M pc L (st) h u Q := by
  intro p l e s m args below meth c H locs ls hC hR hS hL hl h1 h2
  obtain ⟨hx, hb, hrt, hml, how, hts, -⟩ := id hC
  exact lv_dload hx hb hd (hL.at hv (by simp)) (k p l e s m args below meth c H locs ls hC hR hS hL hl h1 h2)
theorem x_dstore_n {g : Gp} {M : MD} {pc : Nat} {L st : List AV} {h : AH} {u : Nat × Nat} {Q : PQ} {i : Nat} {k4 : Fin 4} {x : UInt64} (hi : (k4 : Nat) = i) (hi2 : i + 1 < L.length) (hd : decode (mB M) pc = .ok (.dstore_n k4, 1)) (k : Ex g M (pc + 1) (st2 L i (vD x)) (st) h u Q) : Ex g M pc L (vD x :: st) h u Q := by
  intro p l e s m args below meth c H locs ls hC hR hS hL hl h1 h2
  obtain ⟨hx, hb, hrt, hml, how, hts, -⟩ := id hC
  exact lv_dstore_n hx hb hd hi hL.has hi2 rfl (fun ls2 hl2 => (k p l e s m args below meth c H locs ls2 hC hR hS (LR.set2 rfl hi2 rfl hl2) ((st2_len L i _).trans hl) h1 h2))
theorem x_dstore {g : Gp} {M : MD} {pc : Nat} {L st : List AV} {h : AH} {u : Nat × Nat} {Q : PQ} {i : Nat} {x : UInt64} (hi2 : i + 1 < L.length) (hd : decode (mB M) pc = .ok (.dstore i, 2)) (k : Ex g M (pc + 2) (st2 L i (vD x)) (st) h u Q) : Ex g M pc L (vD x :: st) h u Q := by
  intro p l e s m args below meth c H locs ls hC hR hS hL hl h1 h2
  obtain ⟨hx, hb, hrt, hml, how, hts, -⟩ := id hC
  exact lv_dstore hx hb hd hL.has hi2 rfl (fun ls2 hl2 => (k p l e s m args below meth c H locs ls2 hC hR hS (LR.set2 rfl hi2 rfl hl2) ((st2_len L i _).trans hl) h1 h2))
theorem x_aload_n {g : Gp} {M : MD} {pc : Nat} {L st : List AV} {h : AH} {u : Nat × Nat} {Q : PQ} {i : Nat} {k4 : Fin 4} {x : Nat} (hi : (k4 : Nat) = i) (hv : lg L i = vR x) (hd : decode (mB M) pc = .ok (.aload_n k4, 1)) (k : Ex g M (pc + 1) L (vR x :: st) h u Q) : Ex g M pc L (st) h u Q := by
  intro p l e s m args below meth c H locs ls hC hR hS hL hl h1 h2
  obtain ⟨hx, hb, hrt, hml, how, hts, -⟩ := id hC
  have k := (k p l e s m args below meth c H locs ls hC hR hS hL hl h1 h2)
  have ha := hL.at hv (by simp)
  simp only [List.map_cons, tv] at k ha
  rcases rv_or g x with hz | ⟨a, hz⟩
  · rw [hz] at k ha; exact lv_aload_nN hx hb hd hi ha k
  · rw [hz] at k ha; exact lv_aload_n hx hb hd hi ha k
theorem x_astore_n {g : Gp} {M : MD} {pc : Nat} {L st : List AV} {h : AH} {u : Nat × Nat} {Q : PQ} {i : Nat} {k4 : Fin 4} {x : Nat} (hi : (k4 : Nat) = i) (hi2 : i < L.length) (hd : decode (mB M) pc = .ok (.astore_n k4, 1)) (k : Ex g M (pc + 1) (st1 L i (vR x)) (st) h u Q) : Ex g M pc L (vR x :: st) h u Q := by
  intro p l e s m args below meth c H locs ls hC hR hS hL hl h1 h2
  obtain ⟨hx, hb, hrt, hml, how, hts, -⟩ := id hC
  simp only [List.map_cons, tv]
  rcases rv_or g x with hz | ⟨a, hz⟩
  · rw [hz]; exact lv_astore_nN hx hb hd hi hL.has hi2 rfl (fun ls2 hl2 => (k p l e s m args below meth c H locs ls2 hC hR hS (LR.set1 rfl hi2 hz.symm hl2) ((st1_len L i _).trans hl) h1 h2))
  · rw [hz]; exact lv_astore_n hx hb hd hi hL.has hi2 rfl (fun ls2 hl2 => (k p l e s m args below meth c H locs ls2 hC hR hS (LR.set1 rfl hi2 hz.symm hl2) ((st1_len L i _).trans hl) h1 h2))
theorem x_aload {g : Gp} {M : MD} {pc : Nat} {L st : List AV} {h : AH} {u : Nat × Nat} {Q : PQ} {i : Nat} {x : Nat} (hv : lg L i = vR x) (hd : decode (mB M) pc = .ok (.aload i, 2)) (k : Ex g M (pc + 2) L (vR x :: st) h u Q) : Ex g M pc L (st) h u Q := by
  intro p l e s m args below meth c H locs ls hC hR hS hL hl h1 h2
  obtain ⟨hx, hb, hrt, hml, how, hts, -⟩ := id hC
  have k := (k p l e s m args below meth c H locs ls hC hR hS hL hl h1 h2)
  have ha := hL.at hv (by simp)
  simp only [List.map_cons, tv] at k ha
  rcases rv_or g x with hz | ⟨a, hz⟩
  · rw [hz] at k ha; exact lv_aloadN hx hb hd ha k
  · rw [hz] at k ha; exact lv_aload hx hb hd ha k
theorem x_astore {g : Gp} {M : MD} {pc : Nat} {L st : List AV} {h : AH} {u : Nat × Nat} {Q : PQ} {i : Nat} {x : Nat} (hi2 : i < L.length) (hd : decode (mB M) pc = .ok (.astore i, 2)) (k : Ex g M (pc + 2) (st1 L i (vR x)) (st) h u Q) : Ex g M pc L (vR x :: st) h u Q := by
  intro p l e s m args below meth c H locs ls hC hR hS hL hl h1 h2
  obtain ⟨hx, hb, hrt, hml, how, hts, -⟩ := id hC
  simp only [List.map_cons, tv]
  rcases rv_or g x with hz | ⟨a, hz⟩
  · rw [hz]; exact lv_astoreN hx hb hd hL.has hi2 rfl (fun ls2 hl2 => (k p l e s m args below meth c H locs ls2 hC hR hS (LR.set1 rfl hi2 hz.symm hl2) ((st1_len L i _).trans hl) h1 h2))
  · rw [hz]; exact lv_astore hx hb hd hL.has hi2 rfl (fun ls2 hl2 => (k p l e s m args below meth c H locs ls2 hC hR hS (LR.set1 rfl hi2 hz.symm hl2) ((st1_len L i _).trans hl) h1 h2))
theorem x_iinc {g : Gp} {M : MD} {pc : Nat} {L st : List AV} {h : AH} {u : Nat × Nat} {Q : PQ} {i : Nat} {n : Int} {x w : Int32} (hv : lg L i = vI x) (hw : Int32.ofInt n = w) (hd : decode (mB M) pc = .ok (.iinc i n, 3)) (k : Ex g M (pc + 3) (st1 L i (vI (x + w))) (st) h u Q) : Ex g M pc L (st) h u Q := by
  intro p l e s m args below meth c H locs ls hC hR hS hL hl h1 h2
  obtain ⟨hx, hb, hrt, hml, how, hts, -⟩ := id hC
  have hu : lg L i ≠ vU := by rw [hv]; simp
  have hmem : (i, Value.int x) ∈ lvp g L := lvp_mem.mpr ⟨lg_lt hu, hu, by rw [hv]; rfl⟩
  obtain ⟨k9, hk9⟩ := List.getElem?_of_mem hmem
  exact lv_iinc (v := x + w) hx hb hd hL.has hk9 (by rw [hw]) (lg_lt hu) rfl (fun ls2 hl2 => (k p l e s m args below meth c H locs ls2 hC hR hS (LR.set1 rfl (lg_lt hu) rfl hl2) ((st1_len L i _).trans hl) h1 h2))
theorem x_iadd {g : Gp} {M : MD} {pc : Nat} {L st : List AV} {h : AH} {u : Nat × Nat} {Q : PQ} {x y : Int32} (hd : decode (mB M) pc = .ok (.iadd, 1)) (k : Ex g M (pc + 1) L (vI (x + y) :: st) h u Q) : Ex g M pc L (vI y :: vI x :: st) h u Q := by
  intro p l e s m args below meth c H locs ls hC hR hS hL hl h1 h2
  obtain ⟨hx, hb, hrt, hml, how, hts, -⟩ := id hC
  exact lv_iadd hx hb hd (k p l e s m args below meth c H locs ls hC hR hS hL hl h1 h2)
theorem x_isub {g : Gp} {M : MD} {pc : Nat} {L st : List AV} {h : AH} {u : Nat × Nat} {Q : PQ} {x y : Int32} (hd : decode (mB M) pc = .ok (.isub, 1)) (k : Ex g M (pc + 1) L (vI (x - y) :: st) h u Q) : Ex g M pc L (vI y :: vI x :: st) h u Q := by
  intro p l e s m args below meth c H locs ls hC hR hS hL hl h1 h2
  obtain ⟨hx, hb, hrt, hml, how, hts, -⟩ := id hC
  exact lv_isub hx hb hd (k p l e s m args below meth c H locs ls hC hR hS hL hl h1 h2)
theorem x_imul {g : Gp} {M : MD} {pc : Nat} {L st : List AV} {h : AH} {u : Nat × Nat} {Q : PQ} {x y : Int32} (hd : decode (mB M) pc = .ok (.imul, 1)) (k : Ex g M (pc + 1) L (vI (x * y) :: st) h u Q) : Ex g M pc L (vI y :: vI x :: st) h u Q := by
  intro p l e s m args below meth c H locs ls hC hR hS hL hl h1 h2
  obtain ⟨hx, hb, hrt, hml, how, hts, -⟩ := id hC
  exact lv_imul hx hb hd (k p l e s m args below meth c H locs ls hC hR hS hL hl h1 h2)
theorem x_iand {g : Gp} {M : MD} {pc : Nat} {L st : List AV} {h : AH} {u : Nat × Nat} {Q : PQ} {x y : Int32} (hd : decode (mB M) pc = .ok (.iand, 1)) (k : Ex g M (pc + 1) L (vI (x &&& y) :: st) h u Q) : Ex g M pc L (vI y :: vI x :: st) h u Q := by
  intro p l e s m args below meth c H locs ls hC hR hS hL hl h1 h2
  obtain ⟨hx, hb, hrt, hml, how, hts, -⟩ := id hC
  exact lv_iand hx hb hd (k p l e s m args below meth c H locs ls hC hR hS hL hl h1 h2)
theorem x_ior {g : Gp} {M : MD} {pc : Nat} {L st : List AV} {h : AH} {u : Nat × Nat} {Q : PQ} {x y : Int32} (hd : decode (mB M) pc = .ok (.ior, 1)) (k : Ex g M (pc + 1) L (vI (x ||| y) :: st) h u Q) : Ex g M pc L (vI y :: vI x :: st) h u Q := by
  intro p l e s m args below meth c H locs ls hC hR hS hL hl h1 h2
  obtain ⟨hx, hb, hrt, hml, how, hts, -⟩ := id hC
  exact lv_ior hx hb hd (k p l e s m args below meth c H locs ls hC hR hS hL hl h1 h2)
theorem x_ixor {g : Gp} {M : MD} {pc : Nat} {L st : List AV} {h : AH} {u : Nat × Nat} {Q : PQ} {x y : Int32} (hd : decode (mB M) pc = .ok (.ixor, 1)) (k : Ex g M (pc + 1) L (vI (x ^^^ y) :: st) h u Q) : Ex g M pc L (vI y :: vI x :: st) h u Q := by
  intro p l e s m args below meth c H locs ls hC hR hS hL hl h1 h2
  obtain ⟨hx, hb, hrt, hml, how, hts, -⟩ := id hC
  exact lv_ixor hx hb hd (k p l e s m args below meth c H locs ls hC hR hS hL hl h1 h2)
theorem x_ishl {g : Gp} {M : MD} {pc : Nat} {L st : List AV} {h : AH} {u : Nat × Nat} {Q : PQ} {x y : Int32} (hd : decode (mB M) pc = .ok (.ishl, 1)) (k : Ex g M (pc + 1) L (vI (x <<< (y &&& 31)) :: st) h u Q) : Ex g M pc L (vI y :: vI x :: st) h u Q := by
  intro p l e s m args below meth c H locs ls hC hR hS hL hl h1 h2
  obtain ⟨hx, hb, hrt, hml, how, hts, -⟩ := id hC
  exact lv_ishl hx hb hd (k p l e s m args below meth c H locs ls hC hR hS hL hl h1 h2)
theorem x_ishr {g : Gp} {M : MD} {pc : Nat} {L st : List AV} {h : AH} {u : Nat × Nat} {Q : PQ} {x y : Int32} (hd : decode (mB M) pc = .ok (.ishr, 1)) (k : Ex g M (pc + 1) L (vI (x >>> (y &&& 31)) :: st) h u Q) : Ex g M pc L (vI y :: vI x :: st) h u Q := by
  intro p l e s m args below meth c H locs ls hC hR hS hL hl h1 h2
  obtain ⟨hx, hb, hrt, hml, how, hts, -⟩ := id hC
  exact lv_ishr hx hb hd (k p l e s m args below meth c H locs ls hC hR hS hL hl h1 h2)
theorem x_iushr {g : Gp} {M : MD} {pc : Nat} {L st : List AV} {h : AH} {u : Nat × Nat} {Q : PQ} {x y : Int32} (hd : decode (mB M) pc = .ok (.iushr, 1)) (k : Ex g M (pc + 1) L (vI ((x.toUInt32 >>> (y.toUInt32 &&& Int32.toUInt32 31)).toInt32) :: st) h u Q) : Ex g M pc L (vI y :: vI x :: st) h u Q := by
  intro p l e s m args below meth c H locs ls hC hR hS hL hl h1 h2
  obtain ⟨hx, hb, hrt, hml, how, hts, -⟩ := id hC
  exact lv_iushr hx hb hd rfl (k p l e s m args below meth c H locs ls hC hR hS hL hl h1 h2)
theorem x_idiv {g : Gp} {M : MD} {pc : Nat} {L st : List AV} {h : AH} {u : Nat × Nat} {Q : PQ} {x y : Int32} (hne : ¬ y = 0) (hd : decode (mB M) pc = .ok (.idiv, 1)) (k : Ex g M (pc + 1) L (vI (x / y) :: st) h u Q) : Ex g M pc L (vI y :: vI x :: st) h u Q := by
  intro p l e s m args below meth c H locs ls hC hR hS hL hl h1 h2
  obtain ⟨hx, hb, hrt, hml, how, hts, -⟩ := id hC
  exact lv_idiv hx hb hd hne (k p l e s m args below meth c H locs ls hC hR hS hL hl h1 h2)
theorem x_irem {g : Gp} {M : MD} {pc : Nat} {L st : List AV} {h : AH} {u : Nat × Nat} {Q : PQ} {x y : Int32} (hne : ¬ y = 0) (hd : decode (mB M) pc = .ok (.irem, 1)) (k : Ex g M (pc + 1) L (vI (x - x / y * y) :: st) h u Q) : Ex g M pc L (vI y :: vI x :: st) h u Q := by
  intro p l e s m args below meth c H locs ls hC hR hS hL hl h1 h2
  obtain ⟨hx, hb, hrt, hml, how, hts, -⟩ := id hC
  exact lv_irem hx hb hd hne (k p l e s m args below meth c H locs ls hC hR hS hL hl h1 h2)
theorem x_ladd {g : Gp} {M : MD} {pc : Nat} {L st : List AV} {h : AH} {u : Nat × Nat} {Q : PQ} {x y : Int64} (hd : decode (mB M) pc = .ok (.ladd, 1)) (k : Ex g M (pc + 1) L (vL (x + y) :: st) h u Q) : Ex g M pc L (vL y :: vL x :: st) h u Q := by
  intro p l e s m args below meth c H locs ls hC hR hS hL hl h1 h2
  obtain ⟨hx, hb, hrt, hml, how, hts, -⟩ := id hC
  exact lv_ladd hx hb hd (k p l e s m args below meth c H locs ls hC hR hS hL hl h1 h2)
theorem x_lsub {g : Gp} {M : MD} {pc : Nat} {L st : List AV} {h : AH} {u : Nat × Nat} {Q : PQ} {x y : Int64} (hd : decode (mB M) pc = .ok (.lsub, 1)) (k : Ex g M (pc + 1) L (vL (x - y) :: st) h u Q) : Ex g M pc L (vL y :: vL x :: st) h u Q := by
  intro p l e s m args below meth c H locs ls hC hR hS hL hl h1 h2
  obtain ⟨hx, hb, hrt, hml, how, hts, -⟩ := id hC
  exact lv_lsub hx hb hd (k p l e s m args below meth c H locs ls hC hR hS hL hl h1 h2)
theorem x_lmul {g : Gp} {M : MD} {pc : Nat} {L st : List AV} {h : AH} {u : Nat × Nat} {Q : PQ} {x y : Int64} (hd : decode (mB M) pc = .ok (.lmul, 1)) (k : Ex g M (pc + 1) L (vL (x * y) :: st) h u Q) : Ex g M pc L (vL y :: vL x :: st) h u Q := by
  intro p l e s m args below meth c H locs ls hC hR hS hL hl h1 h2
  obtain ⟨hx, hb, hrt, hml, how, hts, -⟩ := id hC
  exact lv_lmul hx hb hd (k p l e s m args below meth c H locs ls hC hR hS hL hl h1 h2)
theorem x_lor {g : Gp} {M : MD} {pc : Nat} {L st : List AV} {h : AH} {u : Nat × Nat} {Q : PQ} {x y : Int64} (hd : decode (mB M) pc = .ok (.lor, 1)) (k : Ex g M (pc + 1) L (vL (x ||| y) :: st) h u Q) : Ex g M pc L (vL y :: vL x :: st) h u Q := by
  intro p l e s m args below meth c H locs ls hC hR hS hL hl h1 h2
  obtain ⟨hx, hb, hrt, hml, how, hts, -⟩ := id hC
  exact lv_lor hx hb hd (k p l e s m args below meth c H locs ls hC hR hS hL hl h1 h2)
theorem x_land {g : Gp} {M : MD} {pc : Nat} {L st : List AV} {h : AH} {u : Nat × Nat} {Q : PQ} {x y : Int64} (hd : decode (mB M) pc = .ok (.land, 1)) (k : Ex g M (pc + 1) L (vL (x &&& y) :: st) h u Q) : Ex g M pc L (vL y :: vL x :: st) h u Q := by
  intro p l e s m args below meth c H locs ls hC hR hS hL hl h1 h2
  obtain ⟨hx, hb, hrt, hml, how, hts, -⟩ := id hC
  exact lv_land hx hb hd (k p l e s m args below meth c H locs ls hC hR hS hL hl h1 h2)
theorem x_lxor {g : Gp} {M : MD} {pc : Nat} {L st : List AV} {h : AH} {u : Nat × Nat} {Q : PQ} {x y : Int64} (hd : decode (mB M) pc = .ok (.lxor, 1)) (k : Ex g M (pc + 1) L (vL (x ^^^ y) :: st) h u Q) : Ex g M pc L (vL y :: vL x :: st) h u Q := by
  intro p l e s m args below meth c H locs ls hC hR hS hL hl h1 h2
  obtain ⟨hx, hb, hrt, hml, how, hts, -⟩ := id hC
  exact lv_lxor hx hb hd (k p l e s m args below meth c H locs ls hC hR hS hL hl h1 h2)
theorem x_ldiv {g : Gp} {M : MD} {pc : Nat} {L st : List AV} {h : AH} {u : Nat × Nat} {Q : PQ} {x y : Int64} (hne : ¬ y = 0) (hd : decode (mB M) pc = .ok (.ldiv, 1)) (k : Ex g M (pc + 1) L (vL (x / y) :: st) h u Q) : Ex g M pc L (vL y :: vL x :: st) h u Q := by
  intro p l e s m args below meth c H locs ls hC hR hS hL hl h1 h2
  obtain ⟨hx, hb, hrt, hml, how, hts, -⟩ := id hC
  exact lv_ldiv hx hb hd hne (k p l e s m args below meth c H locs ls hC hR hS hL hl h1 h2)
theorem x_lrem {g : Gp} {M : MD} {pc : Nat} {L st : List AV} {h : AH} {u : Nat × Nat} {Q : PQ} {x y : Int64} (hne : ¬ y = 0) (hd : decode (mB M) pc = .ok (.lrem, 1)) (k : Ex g M (pc + 1) L (vL (x - x / y * y) :: st) h u Q) : Ex g M pc L (vL y :: vL x :: st) h u Q := by
  intro p l e s m args below meth c H locs ls hC hR hS hL hl h1 h2
  obtain ⟨hx, hb, hrt, hml, how, hts, -⟩ := id hC
  exact lv_lrem hx hb hd hne (k p l e s m args below meth c H locs ls hC hR hS hL hl h1 h2)
theorem x_lushr {g : Gp} {M : MD} {pc : Nat} {L st : List AV} {h : AH} {u : Nat × Nat} {Q : PQ} {x : Int64} {y : Int32} (hd : decode (mB M) pc = .ok (.lushr, 1)) (k : Ex g M (pc + 1) L (vL ((x.toUInt64 >>> (y.toInt64.toUInt64 &&& Int64.toUInt64 63)).toInt64) :: st) h u Q) : Ex g M pc L (vI y :: vL x :: st) h u Q := by
  intro p l e s m args below meth c H locs ls hC hR hS hL hl h1 h2
  obtain ⟨hx, hb, hrt, hml, how, hts, -⟩ := id hC
  exact lv_lushr hx hb hd rfl (k p l e s m args below meth c H locs ls hC hR hS hL hl h1 h2)
theorem x_lshl {g : Gp} {M : MD} {pc : Nat} {L st : List AV} {h : AH} {u : Nat × Nat} {Q : PQ} {x : Int64} {y : Int32} (hd : decode (mB M) pc = .ok (.lshl, 1)) (k : Ex g M (pc + 1) L (vL (x <<< (y.toInt64 &&& 63)) :: st) h u Q) : Ex g M pc L (vI y :: vL x :: st) h u Q := by
  intro p l e s m args below meth c H locs ls hC hR hS hL hl h1 h2
  obtain ⟨hx, hb, hrt, hml, how, hts, -⟩ := id hC
  exact lv_lshl hx hb hd rfl (k p l e s m args below meth c H locs ls hC hR hS hL hl h1 h2)
theorem x_lcmp {g : Gp} {M : MD} {pc : Nat} {L st : List AV} {h : AH} {u : Nat × Nat} {Q : PQ} {x y : Int64} (hd : decode (mB M) pc = .ok (.lcmp, 1)) (k : Ex g M (pc + 1) L (vI (lg_cmp x y) :: st) h u Q) : Ex g M pc L (vL y :: vL x :: st) h u Q := by
  intro p l e s m args below meth c H locs ls hC hR hS hL hl h1 h2
  obtain ⟨hx, hb, hrt, hml, how, hts, -⟩ := id hC
  exact W.lcmp hx hb hd (k p l e s m args below meth c H locs ls hC hR hS hL hl h1 h2)
theorem x_dcmp {g : Gp} {M : MD} {pc : Nat} {L st : List AV} {h : AH} {u : Nat × Nat} {Q : PQ} {x y : UInt64} {o : CmpOp} (hd : decode (mB M) pc = .ok (.dcmp o, 1)) (k : Ex g M (pc + 1) L (vI (Op.cmpValue (FP.dcmp x y) o) :: st) h u Q) : Ex g M pc L (vD y :: vD x :: st) h u Q := by
  intro p l e s m args below meth c H locs ls hC hR hS hL hl h1 h2
  obtain ⟨hx, hb, hrt, hml, how, hts, -⟩ := id hC
  exact lv_dcmp hx hb hd (k p l e s m args below meth c H locs ls hC hR hS hL hl h1 h2)
theorem x_ddiv {g : Gp} {M : MD} {pc : Nat} {L st : List AV} {h : AH} {u : Nat × Nat} {Q : PQ} {x y : UInt64} (hne : vf_n64 (FP.ddiv x y)) (hd : decode (mB M) pc = .ok (.ddiv, 1)) (k : Ex g M (pc + 1) L (vD (FP.ddiv x y) :: st) h u Q) : Ex g M pc L (vD y :: vD x :: st) h u Q := by
  intro p l e s m args below meth c H locs ls hC hR hS hL hl h1 h2
  obtain ⟨hx, hb, hrt, hml, how, hts, -⟩ := id hC
  exact lv_ddiv hx hb hd hne (k p l e s m args below meth c H locs ls hC hR hS hL hl h1 h2)
theorem x_i2l {g : Gp} {M : MD} {pc : Nat} {L st : List AV} {h : AH} {u : Nat × Nat} {Q : PQ} {x : Int32} (hd : decode (mB M) pc = .ok (.i2l, 1)) (k : Ex g M (pc + 1) L (vL x.toInt64 :: st) h u Q) : Ex g M pc L (vI x :: st) h u Q := by
  intro p l e s m args below meth c H locs ls hC hR hS hL hl h1 h2
  obtain ⟨hx, hb, hrt, hml, how, hts, -⟩ := id hC
  exact lv_i2l hx hb hd rfl (k p l e s m args below meth c H locs ls hC hR hS hL hl h1 h2)
theorem x_l2i {g : Gp} {M : MD} {pc : Nat} {L st : List AV} {h : AH} {u : Nat × Nat} {Q : PQ} {x : Int64} (hd : decode (mB M) pc = .ok (.l2i, 1)) (k : Ex g M (pc + 1) L (vI x.toInt32 :: st) h u Q) : Ex g M pc L (vL x :: st) h u Q := by
  intro p l e s m args below meth c H locs ls hC hR hS hL hl h1 h2
  obtain ⟨hx, hb, hrt, hml, how, hts, -⟩ := id hC
  exact lv_l2i hx hb hd rfl (k p l e s m args below meth c H locs ls hC hR hS hL hl h1 h2)
theorem x_i2d {g : Gp} {M : MD} {pc : Nat} {L st : List AV} {h : AH} {u : Nat × Nat} {Q : PQ} {x : Int32} (hd : decode (mB M) pc = .ok (.i2d, 1)) (k : Ex g M (pc + 1) L (vD (FP.i2d x) :: st) h u Q) : Ex g M pc L (vI x :: st) h u Q := by
  intro p l e s m args below meth c H locs ls hC hR hS hL hl h1 h2
  obtain ⟨hx, hb, hrt, hml, how, hts, -⟩ := id hC
  exact lv_i2d hx hb hd (k p l e s m args below meth c H locs ls hC hR hS hL hl h1 h2)
theorem x_dup {g : Gp} {M : MD} {pc : Nat} {L st : List AV} {h : AH} {u : Nat × Nat} {Q : PQ} {v : AV} (hv : (tv g v).category = 1) (hd : decode (mB M) pc = .ok (.dup, 1)) (k : Ex g M (pc + 1) L (v :: v :: st) h u Q) : Ex g M pc L (v :: st) h u Q := by
  intro p l e s m args below meth c H locs ls hC hR hS hL hl h1 h2
  obtain ⟨hx, hb, hrt, hml, how, hts, -⟩ := id hC
  exact lv_dup hx hb hd hv (k p l e s m args below meth c H locs ls hC hR hS hL hl h1 h2)
theorem x_pop {g : Gp} {M : MD} {pc : Nat} {L st : List AV} {h : AH} {u : Nat × Nat} {Q : PQ} {v : AV} (hv : (tv g v).category = 1) (hd : decode (mB M) pc = .ok (.pop, 1)) (k : Ex g M (pc + 1) L (st) h u Q) : Ex g M pc L (v :: st) h u Q := by
  intro p l e s m args below meth c H locs ls hC hR hS hL hl h1 h2
  obtain ⟨hx, hb, hrt, hml, how, hts, -⟩ := id hC
  exact lv_pop hx hb hd hv (k p l e s m args below meth c H locs ls hC hR hS hL hl h1 h2)
theorem x_dup_x1 {g : Gp} {M : MD} {pc : Nat} {L st : List AV} {h : AH} {u : Nat × Nat} {Q : PQ} {v w : AV} (hv : (tv g v).category = 1) (hw : (tv g w).category = 1) (hd : decode (mB M) pc = .ok (.dup_x1, 1)) (k : Ex g M (pc + 1) L (v :: w :: v :: st) h u Q) : Ex g M pc L (v :: w :: st) h u Q := by
  intro p l e s m args below meth c H locs ls hC hR hS hL hl h1 h2
  obtain ⟨hx, hb, hrt, hml, how, hts, -⟩ := id hC
  exact lv_dup_x1 hx hb hd hv hw (k p l e s m args below meth c H locs ls hC hR hS hL hl h1 h2)
theorem x_dup_x2 {g : Gp} {M : MD} {pc : Nat} {L st : List AV} {h : AH} {u : Nat × Nat} {Q : PQ} {v w z : AV} (hv : (tv g v).category = 1) (hw : (tv g w).category = 1) (hz : (tv g z).category = 1) (hd : decode (mB M) pc = .ok (.dup_x2, 1)) (k : Ex g M (pc + 1) L (v :: w :: z :: v :: st) h u Q) : Ex g M pc L (v :: w :: z :: st) h u Q := by
  intro p l e s m args below meth c H locs ls hC hR hS hL hl h1 h2
  obtain ⟨hx, hb, hrt, hml, how, hts, -⟩ := id hC
  exact lv_dup_x2 hx hb hd hv hw hz (k p l e s m args below meth c H locs ls hC hR hS hL hl h1 h2)
theorem x_dup2 {g : Gp} {M : MD} {pc : Nat} {L st : List AV} {h : AH} {u : Nat × Nat} {Q : PQ} {v w : AV} (hv : (tv g v).category = 1) (hw : (tv g w).category = 1) (hd : decode (mB M) pc = .ok (.dup2, 1)) (k : Ex g M (pc + 1) L (v :: w :: v :: w :: st) h u Q) : Ex g M pc L (v :: w :: st) h u Q := by
  intro p l e s m args below meth c H locs ls hC hR hS hL hl h1 h2
  obtain ⟨hx, hb, hrt, hml, how, hts, -⟩ := id hC
  exact lv_dup2_11 hx hb hd hv hw (k p l e s m args below meth c H locs ls hC hR hS hL hl h1 h2)
theorem x_goto {g : Gp} {M : MD} {pc : Nat} {L st : List AV} {h : AH} {u : Nat × Nat} {Q : PQ} {off : Int} {t : Nat} (ht : (pc : Int) + off = (t : Int)) (hd : decode (mB M) pc = .ok (.goto off, 3)) (k : Ex g M t L (st) h u Q) : Ex g M pc L (st) h u Q := by
  intro p l e s m args below meth c H locs ls hC hR hS hL hl h1 h2
  obtain ⟨hx, hb, hrt, hml, how, hts, -⟩ := id hC
  exact lv_goto hx hb hd ht (k p l e s m args below meth c H locs ls hC hR hS hL hl h1 h2)
theorem x_if_eq {g : Gp} {M : MD} {pc : Nat} {L st : List AV} {h : AH} {u : Nat × Nat} {Q : PQ} {x : Int32} {off : Int} {t : Nat} (ht : (pc : Int) + off = (t : Int)) (hd : decode (mB M) pc = .ok (.ifCond .eq off, 3)) (kt : x = 0 → Ex g M t L st h u Q) (kf : ¬ x = 0 → Ex g M (pc + 3) L st h u Q) : Ex g M pc L (vI x :: st) h u Q := by
  intro p l e s m args below meth c H locs ls hC hR hS hL hl h1 h2
  obtain ⟨hx, hb, -⟩ := id hC
  exact lv_if_eq hx hb hd ht (fun hc => kt hc p l e s m args below meth c H locs ls hC hR hS hL hl h1 h2) (fun hc => kf hc p l e s m args below meth c H locs ls hC hR hS hL hl h1 h2)
theorem x_icmp_eq {g : Gp} {M : MD} {pc : Nat} {L st : List AV} {h : AH} {u : Nat × Nat} {Q : PQ} {x y : Int32} {off : Int} {t : Nat} (ht : (pc : Int) + off = (t : Int)) (hd : decode (mB M) pc = .ok (.if_icmp .eq off, 3)) (kt : x = y → Ex g M t L st h u Q) (kf : ¬ x = y → Ex g M (pc + 3) L st h u Q) : Ex g M pc L (vI y :: vI x :: st) h u Q := by
  intro p l e s m args below meth c H locs ls hC hR hS hL hl h1 h2
  obtain ⟨hx, hb, -⟩ := id hC
  exact lv_icmp_eq hx hb hd ht (fun hc => kt hc p l e s m args below meth c H locs ls hC hR hS hL hl h1 h2) (fun hc => kf hc p l e s m args below meth c H locs ls hC hR hS hL hl h1 h2)
theorem x_if_ne {g : Gp} {M : MD} {pc : Nat} {L st : List AV} {h : AH} {u : Nat × Nat} {Q : PQ} {x : Int32} {off : Int} {t : Nat} (ht : (pc : Int) + off = (t : Int)) (hd : decode (mB M) pc = .ok (.ifCond .ne off, 3)) (kt : ¬ x = 0 → Ex g M t L st h u Q) (kf : x = 0 → Ex g M (pc + 3) L st h u Q) : Ex g M pc L (vI x :: st) h u Q := by
  intro p l e s m args below meth c H locs ls hC hR hS hL hl h1 h2
  obtain ⟨hx, hb, -⟩ := id hC
  exact lv_if_ne hx hb hd ht (fun hc => kt hc p l e s m args below meth c H locs ls hC hR hS hL hl h1 h2) (fun hc => kf hc p l e s m args below meth c H locs ls hC hR hS hL hl h1 h2)
theorem x_icmp_ne {g : Gp} {M : MD} {pc : Nat} {L st : List AV} {h : AH} {u : Nat × Nat} {Q : PQ} {x y : Int32} {off : Int} {t : Nat} (ht : (pc : Int) + off = (t : Int)) (hd : decode (mB M) pc = .ok (.if_icmp .ne off, 3)) (kt : ¬ x = y → Ex g M t L st h u Q) (kf : x = y → Ex g M (pc + 3) L st h u Q) : Ex g M pc L (vI y :: vI x :: st) h u Q := by
  intro p l e s m args below meth c H locs ls hC hR hS hL hl h1 h2
  obtain ⟨hx, hb, -⟩ := id hC
  exact lv_icmp_ne hx hb hd ht (fun hc => kt hc p l e s m args below meth c H locs ls hC hR hS hL hl h1 h2) (fun hc => kf hc p l e s m args below meth c H locs ls hC hR hS hL hl h1 h2)
theorem x_if_lt {g : Gp} {M : MD} {pc : Nat} {L st : List AV} {h : AH} {u : Nat × Nat} {Q : PQ} {x : Int32} {off : Int} {t : Nat} (ht : (pc : Int) + off = (t : Int)) (hd : decode (mB M) pc = .ok (.ifCond .lt off, 3)) (kt : x < 0 → Ex g M t L st h u Q) (kf : ¬ x < 0 → Ex g M (pc + 3) L st h u Q) : Ex g M pc L (vI x :: st) h u Q := by
  intro p l e s m args below meth c H locs ls hC hR hS hL hl h1 h2
  obtain ⟨hx, hb, -⟩ := id hC
  exact lv_if_lt hx hb hd ht (fun hc => kt hc p l e s m args below meth c H locs ls hC hR hS hL hl h1 h2) (fun hc => kf hc p l e s m args below meth c H locs ls hC hR hS hL hl h1 h2)
theorem x_icmp_lt {g : Gp} {M : MD} {pc : Nat} {L st : List AV} {h : AH} {u : Nat × Nat} {Q : PQ} {x y : Int32} {off : Int} {t : Nat} (ht : (pc : Int) + off = (t : Int)) (hd : decode (mB M) pc = .ok (.if_icmp .lt off, 3)) (kt : x < y → Ex g M t L st h u Q) (kf : ¬ x < y → Ex g M (pc + 3) L st h u Q) : Ex g M pc L (vI y :: vI x :: st) h u Q := by
  intro p l e s m args below meth c H locs ls hC hR hS hL hl h1 h2
  obtain ⟨hx, hb, -⟩ := id hC
  exact lv_icmp_lt hx hb hd ht (fun hc => kt hc p l e s m args below meth c H locs ls hC hR hS hL hl h1 h2) (fun hc => kf hc p l e s m args below meth c H locs ls hC hR hS hL hl h1 h2)
theorem x_if_ge {g : Gp} {M : MD} {pc : Nat} {L st : List AV} {h : AH} {u : Nat × Nat} {Q : PQ} {x : Int32} {off : Int} {t : Nat} (ht : (pc : Int) + off = (t : Int)) (hd : decode (mB M) pc = .ok (.ifCond .ge off, 3)) (kt : 0 ≤ x → Ex g M t L st h u Q) (kf : ¬ 0 ≤ x → Ex g M (pc + 3) L st h u Q) : Ex g M pc L (vI x :: st) h u Q := by
  intro p l e s m args below meth c H locs ls hC hR hS hL hl h1 h2
  obtain ⟨hx, hb, -⟩ := id hC
  exact lv_if_ge hx hb hd ht (fun hc => kt hc p l e s m args below meth c H locs ls hC hR hS hL hl h1 h2) (fun hc => kf hc p l e s m args below meth c H locs ls hC hR hS hL hl h1 h2)
theorem x_icmp_ge {g : Gp} {M : MD} {pc : Nat} {L st : List AV} {h : AH} {u : Nat × Nat} {Q : PQ} {x y : Int32} {off : Int} {t : Nat} (ht : (pc : Int) + off = (t : Int)) (hd : decode (mB M) pc = .ok (.if_icmp .ge off, 3)) (kt : y ≤ x → Ex g M t L st h u Q) (kf : ¬ y ≤ x → Ex g M (pc + 3) L st h u Q) : Ex g M pc L (vI y :: vI x :: st) h u Q := by
  intro p l e s m args below meth c H locs ls hC hR hS hL hl h1 h2
  obtain ⟨hx, hb, -⟩ := id hC
  exact lv_icmp_ge hx hb hd ht (fun hc => kt hc p l e s m args below meth c H locs ls hC hR hS hL hl h1 h2) (fun hc => kf hc p l e s m args below meth c H locs ls hC hR hS hL hl h1 h2)
theorem x_if_gt {g : Gp} {M : MD} {pc : Nat} {L st : List AV} {h : AH} {u : Nat × Nat} {Q : PQ} {x : Int32} {off : Int} {t : Nat} (ht : (pc : Int) + off = (t : Int)) (hd : decode (mB M) pc = .ok (.ifCond .gt off, 3)) (kt : 0 < x → Ex g M t L st h u Q) (kf : ¬ 0 < x → Ex g M (pc + 3) L st h u Q) : Ex g M pc L (vI x :: st) h u Q := by
  intro p l e s m args below meth c H locs ls hC hR hS hL hl h1 h2
  obtain ⟨hx, hb, -⟩ := id hC
  exact lv_if_gt hx hb hd ht (fun hc => kt hc p l e s m args below meth c H locs ls hC hR hS hL hl h1 h2) (fun hc => kf hc p l e s m args below meth c H locs ls hC hR hS hL hl h1 h2)
theorem x_icmp_gt {g : Gp} {M : MD} {pc : Nat} {L st : List AV} {h : AH} {u : Nat × Nat} {Q : PQ} {x y : Int32} {off : Int} {t : Nat} (ht : (pc : Int) + off = (t : Int)) (hd : decode (mB M) pc = .ok (.if_icmp .gt off, 3)) (kt : y < x → Ex g M t L st h u Q) (kf : ¬ y < x → Ex g M (pc + 3) L st h u Q) : Ex g M pc L (vI y :: vI x :: st) h u Q := by
  intro p l e s m args below meth c H locs ls hC hR hS hL hl h1 h2
  obtain ⟨hx, hb, -⟩ := id hC
  exact lv_icmp_gt hx hb hd ht (fun hc => kt hc p l e s m args below meth c H locs ls hC hR hS hL hl h1 h2) (fun hc => kf hc p l e s m args below meth c H locs ls hC hR hS hL hl h1 h2)
theorem x_if_le {g : Gp} {M : MD} {pc : Nat} {L st : List AV} {h : AH} {u : Nat × Nat} {Q : PQ} {x : Int32} {off : Int} {t : Nat} (ht : (pc : Int) + off = (t : Int)) (hd : decode (mB M) pc = .ok (.ifCond .le off, 3)) (kt : x ≤ 0 → Ex g M t L st h u Q) (kf : ¬ x ≤ 0 → Ex g M (pc + 3) L st h u Q) : Ex g M pc L (vI x :: st) h u Q := by
  intro p l e s m args below meth c H locs ls hC hR hS hL hl h1 h2
  obtain ⟨hx, hb, -⟩ := id hC
  exact lv_if_le hx hb hd ht (fun hc => kt hc p l e s m args below meth c H locs ls hC hR hS hL hl h1 h2) (fun hc => kf hc p l e s m args below meth c H locs ls hC hR hS hL hl h1 h2)
theorem x_icmp_le {g : Gp} {M : MD} {pc : Nat} {L st : List AV} {h : AH} {u : Nat × Nat} {Q : PQ} {x y : Int32} {off : Int} {t : Nat} (ht : (pc : Int) + off = (t : Int)) (hd : decode (mB M) pc = .ok (.if_icmp .le off, 3)) (kt : x ≤ y → Ex g M t L st h u Q) (kf : ¬ x ≤ y → Ex g M (pc + 3) L st h u Q) : Ex g M pc L (vI y :: vI x :: st) h u Q := by
  intro p l e s m args below meth c H locs ls hC hR hS hL hl h1 h2
  obtain ⟨hx, hb, -⟩ := id hC
  exact lv_icmp_le hx hb hd ht (fun hc => kt hc p l e s m args below meth c H locs ls hC hR hS hL hl h1 h2) (fun hc => kf hc p l e s m args below meth c H locs ls hC hR hS hL hl h1 h2)
end
section
/-! ===== the rules of the heap: what is kept, what comes ===== -/
theorem up1_s {α : Type} (f : Nat → α) (a : Nat) (v : α) : up1 f a v a = v := if_pos rfl
theorem up1_n {α : Type} (f : Nat → α) {a b : Nat} (v : α) (h : b ≠ a) : up1 f a v b = f b := if_neg h
theorem ent_congr {g : Gp} {h h' : AH} {b : Nat} (h1 : zK h' b = zK h b) (h2 : zI h' b = zI h b) (h3 : zL h' b = zL h b) (h4 : zD h' b = zD h b) (h5 : zR h' b = zR h b) : ent g h' b = ent g h b := by
  have hf : ∀ c, fv g h' c b = fv g h c b := fun c => by funext k; simp only [fv, h2, h3, h5]
  unfold ent
  rw [h1]
  simp only [entk, h2, h3, h4, h5, hf]
theorem Rep.ge {g : Gp} {h : AH} {H : Heap} (hR : Rep g h H) {a : Nat} (ha : (zK h a).1 ≠ 0) : 4 ≤ a ∧ a < zN h := by
  have := hR.2.2.1 a
  omega
theorem adr_ge {g : Gp} {a : Nat} (h : 4 ≤ a) : adr g a = gN g + (a - 4) := by unfold adr; rw [if_neg (by omega), if_neg (by omega), if_neg (by omega)]
theorem Rep.put {g : Gp} {h h' : AH} {H H1 : Heap} {a : Nat} (hR : Rep g h H) (hn : zN h' = zN h) (hk : ∀ b, zK h' b = zK h b) (ho : ∀ b, b ≠ a → ent g h' b = ent g h b) (ha : (zK h a).1 ≠ 0) (hnew : va_at (gD g) clt (adr g a, ent g h' a) H1) (hsz : H1.size = H.size) (hoq : ∀ q : Nat, q ≠ adr g a → H1[q]? = H[q]?) : Rep g h' H1 := by
  refine ⟨by rw [hn]; exact hR.1, by rw [hn, hsz]; exact hR.2.1, fun b hb => by rw [hk]; rw [hn] at hb; exact hR.2.2.1 b hb, fun b hb => ?_⟩
  rw [hk] at hb
  by_cases e : b = a
  · subst e; exact hnew
  · rw [ho b e]
    refine (hR.2.2.2 b hb).kept (hoq _ ?_)
    have h1 := hR.ge ha
    have h2 := hR.ge hb
    show adr g b ≠ adr g a
    rw [adr_ge h1.1, adr_ge h2.1]
    omega
theorem Rep.at1 {g : Gp} {h : AH} {H : Heap} (hR : Rep g h H) {a t n : Nat} (ha : zK h a = (t, n)) (ht : t ≠ 0) : va_at (gD g) clt (adr g a, entk g h a t n) H := by
  have := hR.2.2.2 a (by rw [ha]; exact ht)
  unfold ent at this
  rw [ha] at this
  exact this
theorem va_P1 {D : va_G} {cl : List vw_C} {q : Nat × va_E} {H : Heap} (h : va_at D cl q H) : va_P D cl [q] H := fun k x hx => by
  match k, hx with
  | 0, hx => cases hx; exact h
  | k + 1, hx => simp at hx
theorem tv_ref {g : Gp} {a : Nat} (h : a ≠ 0) : tv g (vR a) = .ref (adr g a) := by simp [tv, rv, h]
theorem Rep.ne0 {g : Gp} {h : AH} {H : Heap} (hR : Rep g h H) {a t n : Nat} (ha : zK h a = (t, n)) (ht : t ≠ 0) : a ≠ 0 := by
  have := hR.ge (a := a) (by rw [ha]; exact ht)
  omega
theorem Rep.adr_in {g : Gp} {h : AH} {H : Heap} (hR : Rep g h H) {a t n : Nat} (ha : zK h a = (t, n)) (ht : t ≠ 0) : gAd g (adr g a) := by
  have := hR.ge (a := a) (by rw [ha]; exact ht)
  rw [adr_ge this.1]
  show gN g ≤ _
  omega
/-! ===== fields ===== -/
theorem cok : ∀ (c : Nat) (q : vw_C), clt[c]? = some q → (∀ w ∈ u_ws q.1 q.2.1 q.2.2, w ∈ lw_tbl) ∧ (∀ k, k < q.2.2 → parseFieldDescriptor (q.2.1 k).2.2.1 = some (cty c k)) ∧ ∀ a, a < q.2.2 → ∀ b, b < q.2.2 → a ≠ b → (q.2.1 a).2.1 ≠ (q.2.1 b).2.1 := by
  intro c q hq
  match c, hq with
  | 0, hq => cases hq; exact ⟨by decide +kernel, tyJx4a65c_ok, nmJx4a65c⟩
  | 1, hq => cases hq; exact ⟨by decide +kernel, tyX0_ok, nmX0⟩
  | 2, hq => cases hq; exact ⟨by decide +kernel, tyX1_ok, nmX1⟩
  | 3, hq => cases hq; exact ⟨by decide +kernel, tyX2_ok, nmX2⟩
  | 4, hq => cases hq; exact ⟨by decide +kernel, tyX3_ok, nmX3⟩
  | 5, hq => cases hq; exact ⟨by decide +kernel, tyX4_ok, nmX4⟩
  | 6, hq => cases hq; exact ⟨by decide +kernel, tyX5_ok, nmX5⟩
  | 7, hq => cases hq; exact ⟨by decide +kernel, tyX6_ok, nmX6⟩
  | 8, hq => cases hq; exact ⟨by decide +kernel, tyX7_ok, nmX7⟩
  | 9, hq => cases hq; exact ⟨by decide +kernel, tyX9_ok, nmX9⟩
  | 10, hq => cases hq; exact ⟨by decide +kernel, tyX10_ok, nmX10⟩
  | c + 11, hq => simp [clt] at hq
theorem cok_g : ∀ (c : Nat) (q : vw_C), clt[c]? = some q → ∀ w ∈ u_ws q.1 q.2.1 q.2.2, w ∈ lw_g := by
  intro c q hq w hw
  refine lg_mem ((cok c q hq).1 w hw) ?_
  unfold u_ws at hw
  obtain ⟨k, -, rfl⟩ := List.mem_map.mp hw
  unfold u_lay
  split <;> rfl
/-- a field's entry: class, place, kind -/
def FOk (own : String) (i c k t : Nat) : Prop := ∃ (q : vw_C) (ref : String), clt[c]? = some q ∧ k < q.2.2 ∧ ftc (cty c k) = t ∧ t < 3 ∧ Cond.fieldLink own i ref (q.2.1 k).2.1 (q.2.1 k).2.2.1 ∈ lw_g ∧ (ref = (q.2.1 k).1 ∨ Cond.sameField ref (q.2.1 k).1 (q.2.1 k).2.1 (q.2.1 k).2.2.1 ∈ lw_g)
def fvv (h : AH) (t a k : Nat) : AV := match t with
  | 0 => vI (zI h a k)
  | 1 => vL (zL h a k)
  | _ => vR (zR h a k)
theorem fv_fvv {g : Gp} {h : AH} {c a k t : Nat} (ht : ftc (cty c k) = t) (h3 : t < 3) : fv g h c a k = tv g (fvv h t a k) := by
  unfold fv
  rw [ht]
  match t, h3 with
  | 0, _ => rfl
  | 1, _ => rfl
  | 2, _ => rfl
theorem nfl_of {c : Nat} {q : vw_C} (hq : clt[c]? = some q) : nfl c = q.2.2 := by unfold nfl; rw [hq]
theorem x_getfield {g : Gp} {M : MD} {pc : Nat} {L st : List AV} {h : AH} {u : Nat × Nat} {Q : PQ} {i c k t a : Nat} (hf : FOk (mO M) i c k t) (ha : zK h a = (1, c)) (hd : decode (mB M) pc = .ok (.getfield i, 3)) (kk : Ex g M (pc + 3) L (fvv h t a k :: st) h u Q) : Ex g M pc L (vR a :: st) h u Q := by
  intro p l e s m args below meth cd H locs ls hC hR hS hL hl h1 h2
  obtain ⟨hx, hb, hrt, hml, how, hts, hlk, hnm, hK, hO, hlt, htb⟩ := id hC
  obtain ⟨⟨C, T, N⟩, ref, hq, hk, ht, h3, hw, hs⟩ := hf
  have hat := hR.at1 ha Nat.one_ne_zero
  have kq := kk p l e s m args below meth cd H locs ls hC hR hS hL hl h1 h2
  rw [List.map_cons, tv_ref (hR.ne0 ha Nat.one_ne_zero)]
  rw [List.map_cons, ← fv_fvv (g := g) (c := c) ht h3] at kq
  refine va_get (D := gD g) (ci := c) (C := C) (T := T) (N := N) hx hb hts (cok_g c _ hq) how hK (va_P1 hat) 0 rfl hq k hk (hts _ hw) ?_ ?_ hd kq
  · intro x hx2
    rcases hs with e | e
    · rw [e]; exact hx2
    · exact u_same (hts _ e) x hx2
  · simp [nfl_of hq, hk]
theorem vp_V_map {n j : Nat} {f : Nat → Value} (h : j < n) : vp_V ((List.range n).map f) j = f j := by
  simp [vp_V, h]
theorem fits_kind {t : FieldType} {v : Value} (h : match t, v with
  | .int, .int _ => True
  | .long, .long _ => True
  | .object _, .null => True
  | .object _, .ref _ => True
  | .array _, .null => True
  | .array _, .ref _ => True
  | _, _ => False) : narrow t v = v ∧ fits t v = true := by
  cases t <;> cases v <;> first | exact ⟨rfl, rfl⟩ | exact absurd h id
/-- a store into a field -/
def sfv (h : AH) (a k : Nat) (v : AV) : AH := match v with
  | .inl x => sI h a k x
  | .inr (.inl x) => sL h a k x
  | .inr (.inr (.inr (.inl x))) => sR h a k x
  | _ => h
def kind3 (v : AV) : Nat := match v with
  | .inl _ => 0
  | .inr (.inl _) => 1
  | .inr (.inr (.inr (.inl _))) => 2
  | _ => 9
theorem sfv_n (h : AH) (a k : Nat) (v : AV) : zN (sfv h a k v) = zN h ∧ (∀ b, zK (sfv h a k v) b = zK h b) := by
  rcases v with x | x | x | x | x <;> exact ⟨rfl, fun _ => rfl⟩
theorem sfv_o (g : Gp) (h : AH) (a k : Nat) (v : AV) (b : Nat) (hb : b ≠ a) : ent g (sfv h a k v) b = ent g h b := by
  have e : ∀ {α : Type} (f : Nat → Nat → α) (x : α), up2 f a k x b = f b := fun f x => up1_n _ _ hb
  rcases v with x | x | x | x | x
  · exact ent_congr rfl (e _ _) rfl rfl rfl
  · exact ent_congr rfl rfl (e _ _) rfl rfl
  · exact ent_congr rfl rfl rfl rfl rfl
  · exact ent_congr rfl rfl rfl rfl (e _ _)
  · exact ent_congr rfl rfl rfl rfl rfl
theorem sfv_fv {g : Gp} {h : AH} {a c k t j : Nat} {v : AV} (ht : ftc (cty c k) = t) (h3 : kind3 v = t) (h9 : t < 3) : updV (fv g h c a) k (tv g v) j = fv g (sfv h a k v) c a j := by
  subst h3
  by_cases hj : j = k
  · subst hj
    rw [fv_fvv (h := sfv h a j v) ht h9]
    simp only [updV, if_true]
    rcases v with x | x | x | x | x
    · simp [fvv, kind3, sfv, zI, sI, up2, up1]
    · simp [fvv, kind3, sfv, zL, sL, up2, up1]
    · exact absurd h9 (by simp [kind3])
    · simp [fvv, kind3, sfv, zR, sR, up2, up1]
    · exact absurd h9 (by simp [kind3])
  · simp only [updV, if_neg hj]
    unfold fv
    rcases v with x | x | x | x | x <;> simp [sfv, zI, zL, zR, sI, sL, sR, up2, up1, hj]
end
section
theorem kind_fits {g : Gp} {c k : Nat} {v : AV} (ht : ftc (cty c k) = kind3 v) (h9 : kind3 v < 3) : narrow (cty c k) (tv g v) = tv g v ∧ fits (cty c k) (tv g v) = true := by
  generalize cty c k = T at ht
  rcases v with x | x | x | x | x
  · cases T <;> first | exact ⟨rfl, rfl⟩ | (simp [ftc, kind3] at ht)
  · cases T <;> first | exact ⟨rfl, rfl⟩ | (simp [ftc, kind3] at ht)
  · exact absurd h9 (by simp [kind3])
  · have h2 : tv g (vR x) = .null ∨ ∃ a, tv g (vR x) = .ref a := rv_or g x
    rcases h2 with e | ⟨a, e⟩
    · rw [e]; cases T <;> first | exact ⟨rfl, rfl⟩ | (simp [ftc, kind3] at ht)
    · rw [e]; cases T <;> first | exact ⟨rfl, rfl⟩ | (simp [ftc, kind3] at ht)
  · exact absurd h9 (by simp [kind3])
/-- a store: not final, or in the class's own constructor -/
def FWok (M : MD) (c k : Nat) : Prop := ∃ q : vw_C, clt[c]? = some q ∧ ((q.2.1 k).2.2.2 = false ∨ ((q.2.1 k).2.2.2 = true ∧ (mY M).name = "<init>" ∧ (q.2.1 k).1 = mO M))
theorem x_putfield {g : Gp} {M : MD} {pc : Nat} {L st : List AV} {h : AH} {u : Nat × Nat} {Q : PQ} {i c k a : Nat} {v : AV} (hf : FOk (mO M) i c k (kind3 v)) (hw9 : FWok M c k) (ha : zK h a = (1, c)) (hd : decode (mB M) pc = .ok (.putfield i, 3)) (kk : Ex g M (pc + 3) L st (sfv h a k v) u Q) : Ex g M pc L (v :: vR a :: st) h u Q := by
  intro p l e s m args below meth cd H locs ls hC hR hS hL hl h1 h2
  obtain ⟨hx, hb, hrt, hml, how, hts, hlk, hnm, hK, hO, hlt, htb⟩ := id hC
  obtain ⟨⟨C, T, N⟩, ref, hq, hk, ht, h3, hw, hs⟩ := hf
  have hat := hR.at1 ha Nat.one_ne_zero
  rw [List.map_cons, List.map_cons, tv_ref (hR.ne0 ha Nat.one_ne_zero)]
  have hsame : ∀ x, s.fieldFound? (T k).1 (T k).2.1 (T k).2.2.1 = some x → s.fieldFound? ref (T k).2.1 (T k).2.2.1 = some x := by
    intro x hx2
    rcases hs with e | e
    · rw [e]; exact hx2
    · exact u_same (hts _ e) x hx2
  obtain ⟨-, hty, hnm2⟩ := cok c _ hq
  have hin := cok_g c _ hq
  have hap := va_apart (own := mO M) hts hin (cty c) hty hnm2 hK hq
  obtain ⟨r, hr1, cell, q1, q2, q3, q4⟩ := hat
  have hr : r = (C, T, N) := Option.some.inj (hr1.symm.trans hq)
  subst hr
  obtain ⟨hS9, hfc, kC, hkC, hkind⟩ := hK.1 c _ hq
  obtain ⟨cf, kf, fi, f, hi, hsl⟩ := hS9 k hk
  obtain ⟨hn9, hfit⟩ := kind_fits (g := g) ht h3
  have hpd := hty k hk
  have hN := nfl_of hq
  -- the new cell
  have fin : ∀ (H' : Heap) (e1 : H'[adr g a]? = some (cell.setSlot f.slot (tv g v))) (e2 : H'.size = H.size) (e3 : ∀ q : Nat, q ≠ adr g a → H'[q]? = H[q]?),
      W p l e (rmM M) s m args below meth cd H' (locs ++ [⟨adr g a, f.slot⟩]) u.1 u.2 (vx_MQ below (Qn g Q) (Qx g Q) args s (mC M) (mS M) (gAd g)) (F0 m (pc + 3) ls (st.map (tv g))) := by
    intro H' e1 e2 e3
    rw [hsl] at e1
    have hat2 : va_at (gD g) clt (adr g a, ent g (sfv h a k v) a) H' := by
      have e9 : ent g (sfv h a k v) a = .inr (c, (List.range (nfl c)).map (fv g (sfv h a k v) c a)) := by
        unfold ent
        rw [(sfv_n h a k v).2, ha]
        rfl
      rw [e9]
      refine ⟨_, hq, t_OB.to (V := updV (vp_V ((List.range (nfl c)).map (fv g h c a))) k (tv g v)) ⟨_, e1, q2, q3, t_set q4 hap hk (tv g v)⟩ (fun j hj => ?_)⟩
      rw [vp_V_map (by rw [hN]; exact hj), ← sfv_fv ht rfl h3]
      simp only [updV]
      split
      · rfl
      · exact vp_V_map (by rw [hN]; exact hj)
    have hR2 : Rep g (sfv h a k v) H' := hR.put (sfv_n h a k v).1 (sfv_n h a k v).2 (sfv_o g h a k v) (by rw [ha]; exact Nat.one_ne_zero) hat2 e2 e3
    exact kk p l e s m args below meth cd H' _ ls hC hR2 (hS.put e2 e3 (hR.adr_in ha Nat.one_ne_zero)) hL hl h1 h2
  obtain ⟨q9, hq9, hwr⟩ := hw9
  have hq10 : q9 = (C, T, N) := Option.some.inj (hq9.symm.trans hq)
  subst hq10
  have hlay := hts _ (hin _ (u_in_lay hk))
  unfold u_lay at hlay
  rcases hwr with hfin | ⟨hfin, hin2, hdecl⟩
  · rw [if_neg (by rw [hfin]; decide)] at hlay
    have hst := (u_facts hfc hkC (u_lays hts hin hk) hi).1
    have h6 := u_store hfc hkC hkind hlay hi hpd hn9 hfit
    exact W.putK hx hb (f := f) ⟨how, hts _ hw, ⟨_, _, _, hsame _ hi⟩, hst⟩ (by rw [q2]; exact h6) q1 q3 (by rw [hsl]; exact k2_hasslot (q4 k hk)) rfl rfl hd fin
  · rw [if_pos hfin] at hlay
    have hst := (u_facts hfc hkC (u_lays hts hin hk) hi).1
    have hcf : m.cls = cf := by
      obtain ⟨_, _, c', _, _, _, -, -, hf', -, -, -, hown2, -⟩ := Cond.laysFinal_spec hlay
      have e1 : c' = cf := by have := hi.symm.trans hf'; simp at this; exact this.1.symm
      rw [hdecl] at hown2
      rw [← e1]; exact Option.some.inj (how.symm.trans hown2)
    have h6 := u_fits hfc hkC hkind (Or.inr hlay) hi hpd hn9 hfit
    exact W.putFinK hx hb how (hts _ hw) (hsame _ hi) hst hcf (hnm.trans hin2) (by rw [q2]; exact h6) q1 q3 (by rw [hsl]; exact k2_hasslot (q4 k hk)) rfl rfl hd fin
/-! ===== rows ===== -/
theorem x_iaload {g : Gp} {M : MD} {pc : Nat} {L st : List AV} {h : AH} {u : Nat × Nat} {Q : PQ} {a n : Nat} {i : Int32} (ha : zK h a = (2, n)) (hi : vp_in i n) (hd : decode (mB M) pc = .ok (.iaload, 1)) (kk : Ex g M (pc + 1) L (vI (zI h a i.toNatClampNeg) :: st) h u Q) : Ex g M pc L (vI i :: vR a :: st) h u Q := by
  intro p l e s m args below meth cd H locs ls hC hR hS hL hl h1 h2
  obtain ⟨hx, hb, hrt, hml, how, hts, hlk, hnm, hK, -⟩ := id hC
  rw [List.map_cons, List.map_cons, tv_ref (hR.ne0 ha (by decide))]
  exact va_iald hx hb hK (va_P1 (hR.at1 ha (by decide))) 0 0 rfl rfl hi hd (kk p l e s m args below meth cd H locs ls hC hR hS hL hl h1 h2)
theorem x_laload {g : Gp} {M : MD} {pc : Nat} {L st : List AV} {h : AH} {u : Nat × Nat} {Q : PQ} {a n : Nat} {i : Int32} (ha : zK h a = (3, n)) (hi : vp_in i n) (hd : decode (mB M) pc = .ok (.laload, 1)) (kk : Ex g M (pc + 1) L (vL (zL h a i.toNatClampNeg) :: st) h u Q) : Ex g M pc L (vI i :: vR a :: st) h u Q := by
  intro p l e s m args below meth cd H locs ls hC hR hS hL hl h1 h2
  obtain ⟨hx, hb, hrt, hml, how, hts, hlk, hnm, hK, -⟩ := id hC
  rw [List.map_cons, List.map_cons, tv_ref (hR.ne0 ha (by decide))]
  exact va_lald hx hb hK (va_P1 (hR.at1 ha (by decide))) 0 1 rfl rfl hi hd (kk p l e s m args below meth cd H locs ls hC hR hS hL hl h1 h2)
theorem x_baload {g : Gp} {M : MD} {pc : Nat} {L st : List AV} {h : AH} {u : Nat × Nat} {Q : PQ} {a n : Nat} {i : Int32} (ha : zK h a = (4, n)) (hi : vp_in i n) (hd : decode (mB M) pc = .ok (.baload, 1)) (kk : Ex g M (pc + 1) L (vI (zI h a i.toNatClampNeg) :: st) h u Q) : Ex g M pc L (vI i :: vR a :: st) h u Q := by
  intro p l e s m args below meth cd H locs ls hC hR hS hL hl h1 h2
  obtain ⟨hx, hb, hrt, hml, how, hts, hlk, hnm, hK, -⟩ := id hC
  rw [List.map_cons, List.map_cons, tv_ref (hR.ne0 ha (by decide))]
  exact va_zald hx hb hK (va_P1 (hR.at1 ha (by decide))) 0 2 rfl rfl hi hd (kk p l e s m args below meth cd H locs ls hC hR hS hL hl h1 h2)
theorem x_daload {g : Gp} {M : MD} {pc : Nat} {L st : List AV} {h : AH} {u : Nat × Nat} {Q : PQ} {a n : Nat} {i : Int32} (ha : zK h a = (5, n)) (hi : vp_in i n) (hd : decode (mB M) pc = .ok (.daload, 1)) (kk : Ex g M (pc + 1) L (vD (zD h a i.toNatClampNeg) :: st) h u Q) : Ex g M pc L (vI i :: vR a :: st) h u Q := by
  intro p l e s m args below meth cd H locs ls hC hR hS hL hl h1 h2
  obtain ⟨hx, hb, hrt, hml, how, hts, hlk, hnm, hK, -⟩ := id hC
  rw [List.map_cons, List.map_cons, tv_ref (hR.ne0 ha (by decide))]
  exact va_dald hx hb hK (va_P1 (hR.at1 ha (by decide))) 0 3 rfl rfl hi hd (kk p l e s m args below meth cd H locs ls hC hR hS hL hl h1 h2)
theorem rf_ro {g : Gp} {x : Nat} : va_rf (ro g x) = tv g (vR x) := by
  simp only [tv, ro, rv]
  split <;> rfl
/-- rows of references: Object[], Votes[], int[][] -/
def rty (t : Nat) : FieldType := match t with
  | 6 => .object "java/lang/Object"
  | 7 => .object "TonguerootFamily$Votes"
  | _ => .array .int
theorem entq {g : Gp} {h : AH} {a t n : Nat} (ht : t = 6 ∨ t = 7 ∨ t = 8) : entk g h a t n = .inl (gA g t, n, .inr (.inr (.inr (.inr (fun j => ro g (zR h a j)))))) := by
  rcases ht with rfl | rfl | rfl <;> rfl
theorem tylq {g : Gp} {t : Nat} (ht : t = 6 ∨ t = 7 ∨ t = 8) : (tyl g)[t - 2]? = some (gA g t, rty t) := by
  rcases ht with rfl | rfl | rfl <;> rfl
theorem x_aaload {g : Gp} {M : MD} {pc : Nat} {L st : List AV} {h : AH} {u : Nat × Nat} {Q : PQ} {a t n : Nat} {i : Int32} (ht : t = 6 ∨ t = 7 ∨ t = 8) (ha : zK h a = (t, n)) (hi : vp_in i n) (hd : decode (mB M) pc = .ok (.aaload, 1)) (kk : Ex g M (pc + 1) L (vR (zR h a i.toNatClampNeg) :: st) h u Q) : Ex g M pc L (vI i :: vR a :: st) h u Q := by
  intro p l e s m args below meth cd H locs ls hC hR hS hL hl h1 h2
  obtain ⟨hx, hb, hrt, hml, how, hts, hlk, hnm, hK, -⟩ := id hC
  have t0 : t ≠ 0 := by omega
  rw [List.map_cons, List.map_cons, tv_ref (hR.ne0 ha t0)]
  have hat := hR.at1 ha t0
  rw [entq ht] at hat
  have hlt : i.toNatClampNeg < n := Nat.not_le.mp fun q => hi (Or.inr q)
  refine W.aald (ty := rty t) (v := tv g (vR (zR h a i.toNatClampNeg))) hx hb hat ((hK.2 (t - 2) _ (tylq ht)).1 n (fun j => va_rf (ro g (zR h a j)))) (by rcases ht with rfl | rfl | rfl <;> rfl) (fun q => by cases q) (by show ¬ (i < 0 ∨ (arrV _ _ _).slots.size ≤ _); rw [arrV_size]; exact hi) ?_ rfl rfl hd (kk p l e s m args below meth cd H locs ls hC hR hS hL hl h1 h2)
  show (arrV _ n (fun j => va_rf (ro g (zR h a j)))).slots[i.toNatClampNeg]? = _
  rw [arrV_read _ _ hlt, rf_ro]
end
section
theorem arr_put {g : Gp} {h h' : AH} {H H1 : Heap} {a t n : Nat} (hR : Rep g h H) (ha : zK h a = (t, n)) (t0 : t ≠ 0) (hn : zN h' = zN h) (hk : ∀ b, zK h' b = zK h b) (ho : ∀ b, b ≠ a → ent g h' b = ent g h b) (hat : va_at (gD g) clt (adr g a, entk g h' a t n) H1) (e2 : H1.size = H.size) (e3 : ∀ q : Nat, q ≠ adr g a → H1[q]? = H[q]?) : Rep g h' H1 := by
  refine hR.put hn hk ho (by rw [ha]; exact t0) ?_ e2 e3
  unfold ent
  rw [hk, ha]
  exact hat
theorem x_iastore {g : Gp} {M : MD} {pc : Nat} {L st : List AV} {h : AH} {u : Nat × Nat} {Q : PQ} {a n : Nat} {i x : Int32} (ha : zK h a = (2, n)) (hi : vp_in i n) (hd : decode (mB M) pc = .ok (.iastore, 1)) (kk : Ex g M (pc + 1) L st (sI h a i.toNatClampNeg x) u Q) : Ex g M pc L (vI x :: vI i :: vR a :: st) h u Q := by
  intro p l e s m args below meth cd H locs ls hC hR hS hL hl h1 h2
  obtain ⟨hx, hb, hrt, hml, how, hts, hlk, hnm, hK, -⟩ := id hC
  have hat := hR.at1 ha (by decide : (2 : Nat) ≠ 0)
  rw [List.map_cons, List.map_cons, List.map_cons, tv_ref (hR.ne0 ha (by decide))]
  refine W.iast hx hb hat ((hK.2 0 _ rfl).1 n (fun j => .int (zI h a j))) (fun q => by cases q) (by show ¬ (i < 0 ∨ (arrV _ _ _).slots.size ≤ _); rw [arrV_size]; exact hi) rfl rfl hd fun H1 e9 z oq => ?_
  refine kk p l e s m args below meth cd H1 _ ls hC (arr_put hR ha (by decide) rfl (fun _ => rfl) (sfv_o g h a i.toNatClampNeg (vI x)) ?_ z oq) (hS.put z oq (hR.adr_in ha (by decide))) hL hl h1 h2
  show H1[adr g a]? = some (vp_cell _ _)
  rw [e9, vp_cell_i]
  show some ((vp_cell (gA g 2) (n, .inl (zI h a))).setSlot _ _) = _
  rw [vp_cell_i, arrV_store]
  refine congrArg (fun f : Nat → Value => some (arrV (gA g 2) n f)) (?_ : _ = fun j => Value.int (zI (sI h a i.toNatClampNeg x) a j))
  funext q
  by_cases hq : q = i.toNatClampNeg <;> simp [updV, zI, sI, up2, up1, hq]
theorem x_lastore {g : Gp} {M : MD} {pc : Nat} {L st : List AV} {h : AH} {u : Nat × Nat} {Q : PQ} {a n : Nat} {i : Int32} {x : Int64} (ha : zK h a = (3, n)) (hi : vp_in i n) (hd : decode (mB M) pc = .ok (.lastore, 1)) (kk : Ex g M (pc + 1) L st (sL h a i.toNatClampNeg x) u Q) : Ex g M pc L (vL x :: vI i :: vR a :: st) h u Q := by
  intro p l e s m args below meth cd H locs ls hC hR hS hL hl h1 h2
  obtain ⟨hx, hb, hrt, hml, how, hts, hlk, hnm, hK, -⟩ := id hC
  have hat := hR.at1 ha (by decide : (3 : Nat) ≠ 0)
  rw [List.map_cons, List.map_cons, List.map_cons, tv_ref (hR.ne0 ha (by decide))]
  refine W.last hx hb hat ((hK.2 1 _ rfl).1 n (fun j => .long (zL h a j))) (fun q => by cases q) (by show ¬ (i < 0 ∨ (arrV _ _ _).slots.size ≤ _); rw [arrV_size]; exact hi) rfl rfl hd fun H1 e9 z oq => ?_
  refine kk p l e s m args below meth cd H1 _ ls hC (arr_put hR ha (by decide) rfl (fun _ => rfl) (sfv_o g h a i.toNatClampNeg (vL x)) ?_ z oq) (hS.put z oq (hR.adr_in ha (by decide))) hL hl h1 h2
  show H1[adr g a]? = some (vp_cell _ _)
  rw [e9, vp_cell_l]
  show some ((vp_cell (gA g 3) (n, .inr (.inl (zL h a)))).setSlot _ _) = _
  rw [vp_cell_l, arrV_store]
  refine congrArg (fun f : Nat → Value => some (arrV (gA g 3) n f)) (?_ : _ = fun j => Value.long (zL (sL h a i.toNatClampNeg x) a j))
  funext q
  by_cases hq : q = i.toNatClampNeg <;> simp [updV, zL, sL, up2, up1, hq]
theorem x_dastore {g : Gp} {M : MD} {pc : Nat} {L st : List AV} {h : AH} {u : Nat × Nat} {Q : PQ} {a n : Nat} {i : Int32} {x : UInt64} (ha : zK h a = (5, n)) (hi : vp_in i n) (hd : decode (mB M) pc = .ok (.dastore, 1)) (kk : Ex g M (pc + 1) L st (sD h a i.toNatClampNeg x) u Q) : Ex g M pc L (vD x :: vI i :: vR a :: st) h u Q := by
  intro p l e s m args below meth cd H locs ls hC hR hS hL hl h1 h2
  obtain ⟨hx, hb, hrt, hml, how, hts, hlk, hnm, hK, -⟩ := id hC
  have hat := hR.at1 ha (by decide : (5 : Nat) ≠ 0)
  rw [List.map_cons, List.map_cons, List.map_cons, tv_ref (hR.ne0 ha (by decide))]
  refine W.dast hx hb hat ((hK.2 3 _ rfl).1 n (fun j => .double (zD h a j))) (fun q => by cases q) (by show ¬ (i < 0 ∨ (arrV _ _ _).slots.size ≤ _); rw [arrV_size]; exact hi) rfl rfl hd fun H1 e9 z oq => ?_
  refine kk p l e s m args below meth cd H1 _ ls hC (arr_put hR ha (by decide) rfl (fun _ => rfl) (fun b hb => ent_congr rfl rfl rfl (up1_n _ _ hb) rfl) ?_ z oq) (hS.put z oq (hR.adr_in ha (by decide))) hL hl h1 h2
  show H1[adr g a]? = some (vp_cell _ _)
  rw [e9, vp_cell_d]
  show some ((vp_cell (gA g 5) (n, .inr (.inr (.inr (.inl (zD h a)))))).setSlot _ _) = _
  rw [vp_cell_d, arrV_store]
  refine congrArg (fun f : Nat → Value => some (arrV (gA g 5) n f)) (?_ : _ = fun j => Value.double (zD (sD h a i.toNatClampNeg x) a j))
  funext q
  by_cases hq : q = i.toNatClampNeg <;> simp [updV, zD, sD, up2, up1, hq]
theorem x_bastore {g : Gp} {M : MD} {pc : Nat} {L st : List AV} {h : AH} {u : Nat × Nat} {Q : PQ} {a n : Nat} {i : Int32} {x : Int32} (ha : zK h a = (4, n)) (h01 : x = 0 ∨ x = 1) (hi : vp_in i n) (hd : decode (mB M) pc = .ok (.bastore, 1)) (kk : Ex g M (pc + 1) L st (sI h a i.toNatClampNeg x) u Q) : Ex g M pc L (vI x :: vI i :: vR a :: st) h u Q := by
  intro p l e s m args below meth cd H locs ls hC hR hS hL hl h1 h2
  obtain ⟨hx, hb, hrt, hml, how, hts, hlk, hnm, hK, -⟩ := id hC
  have hat := hR.at1 ha (by decide : (4 : Nat) ≠ 0)
  rw [List.map_cons, List.map_cons, List.map_cons, tv_ref (hR.ne0 ha (by decide))]
  refine W.zast hx hb hat ((hK.2 2 _ rfl).1 n (fun j => .int (zI h a j))) (fun q => by cases q) (by show ¬ (i < 0 ∨ (arrV _ _ _).slots.size ≤ _); rw [arrV_size]; exact hi) rfl rfl hd fun H1 e9 z oq => ?_
  refine kk p l e s m args below meth cd H1 _ ls hC (arr_put hR ha (by decide) rfl (fun _ => rfl) (sfv_o g h a i.toNatClampNeg (vI x)) ?_ z oq) (hS.put z oq (hR.adr_in ha (by decide))) hL hl h1 h2
  show H1[adr g a]? = some (vp_cell _ _)
  rw [e9, vp_cell_i]
  show some ((vp_cell (gA g 4) (n, .inl (zI h a))).setSlot _ _) = _
  rw [vp_cell_i, arrV_store]
  have e8 : narrow .boolean (.int x) = .int x := by rcases h01 with rfl | rfl <;> rfl
  try rw [e8]
  refine congrArg (fun f : Nat → Value => some (arrV (gA g 4) n f)) (?_ : _ = fun j => Value.int (zI (sI h a i.toNatClampNeg x) a j))
  funext q
  by_cases hq : q = i.toNatClampNeg <;> simp [updV, zI, sI, up2, up1, hq]
theorem va_asgq {g : Gp} {s : State} (hK : va_K (gD g) clt (tyl g) s) {ci : Nat} {q : vw_C} (hc : clt[ci]? = some q) : s.vm.findClass q.1 = some ((gD g).1 ci) := (hK.1 ci q hc).2.1
end
section
/-! ===== stores of references, what is made, casts, statics ===== -/
def AsgOk (t : Nat) (C : String) : Prop := (t = 6 ∧ Cond.castable C "java/lang/Object" ∈ lw_n) ∨ (t = 7 ∧ C = "TonguerootFamily$Votes")
def rtn (t : Nat) : String := match t with
  | 6 => "java/lang/Object"
  | _ => "TonguerootFamily$Votes"
theorem rty_n {t : Nat} (ht : t = 6 ∨ t = 7) : rty t = .object (rtn t) := by rcases ht with rfl | rfl <;> rfl
theorem x_aastore {g : Gp} {M : MD} {pc : Nat} {L st : List AV} {h : AH} {u : Nat × Nat} {Q : PQ} {a t n v ci : Nat} {r : vw_C} {i : Int32} (ha : zK h a = (t, n)) (hi : vp_in i n) (hv : zK h v = (1, ci)) (hc : clt[ci]? = some r) (hasg : AsgOk t r.1) (hd : decode (mB M) pc = .ok (.aastore, 1)) (kk : Ex g M (pc + 1) L st (sR h a i.toNatClampNeg v) u Q) : Ex g M pc L (vR v :: vI i :: vR a :: st) h u Q := by
  intro p l e s m args below meth cd H locs ls hC hR hS hL hl h1 h2
  obtain ⟨hx, hb, hrt, hml, how, hts, hlk, hnm, hK, hO, -⟩ := id hC
  have ht : t = 6 ∨ t = 7 := by rcases hasg with ⟨e, -⟩ | ⟨e, -⟩ <;> simp [e]
  have ht3 : t = 6 ∨ t = 7 ∨ t = 8 := by omega
  have t0 : t ≠ 0 := by omega
  have hat := hR.at1 ha t0
  rw [entq ht3] at hat
  rw [List.map_cons, List.map_cons, List.map_cons, tv_ref (hR.ne0 ha t0), tv_ref (hR.ne0 hv Nat.one_ne_zero)]
  have hlt : i.toNatClampNeg < n := Nat.not_le.mp fun q => hi (Or.inr q)
  have h0 : ¬ i < 0 := fun q => hi (Or.inl q)
  obtain ⟨cellV, g1, g3, g2⟩ := rep_recv hR hK hv hc
  have hty := tylq (g := g) ht3
  rw [rty_n ht] at hty
  obtain ⟨kA, comp, k1, k2, k3, -⟩ := (hK.2 (t - 2) _ hty).2
  obtain ⟨kE, hkE, -⟩ := Vm.findClass_spec k3
  obtain ⟨kC, hkC, -⟩ := Vm.findClass_spec g2
  have has : s.vm.assignable cellV.cls comp = true := by
    rcases hasg with ⟨e, hw⟩ | ⟨e, hw⟩
    · subst e
      exact vb_asgC (hO.nw _ hw) _ _ k3 g2
    · subst e
      rw [hw] at g2
      exact vb_asgS _ _ k3 g2
  refine W.aast hx hb hat (fun q h => by cases h) (fun h => by cases h) k1 k2 rfl hkE ⟨h0, by show _ < (arrV _ _ _).slots.size; rw [arrV_size]; exact hlt⟩ g1 (fun q h => by rw [h] at g3; cases g3) hkC has rfl rfl hd fun H1 e9 z oq => ?_
  refine kk p l e s m args below meth cd H1 _ ls hC (arr_put hR ha t0 rfl (fun _ => rfl) (sfv_o g h a i.toNatClampNeg (vR v)) ?_ z oq) (hS.put z oq (hR.adr_in ha t0)) hL hl h1 h2
  rw [entq ht3]
  show H1[adr g a]? = some (vp_cell _ _)
  rw [e9, vp_cell_q]
  show some ((vp_cell (gA g t) (n, .inr (.inr (.inr (.inr (fun j => ro g (zR h a j))))))).setSlot _ _) = _
  rw [vp_cell_q, arrV_store]
  refine congrArg (fun f : Nat → Value => some (arrV (gA g t) n f)) (?_ : _ = fun j => va_rf (ro g (zR (sR h a i.toNatClampNeg v) a j)))
  funext q
  by_cases hq : q = i.toNatClampNeg
  · simp only [updV, hq, if_true, zR, sR, up2, up1_s]
    exact (tv_ref (g := g) (hR.ne0 hv Nat.one_ne_zero)).symm.trans rf_ro.symm
  · simp [updV, zR, sR, up2, up1, hq]
theorem x_aastoreN {g : Gp} {M : MD} {pc : Nat} {L st : List AV} {h : AH} {u : Nat × Nat} {Q : PQ} {a t n : Nat} {i : Int32} (ht : t = 6 ∨ t = 7) (ha : zK h a = (t, n)) (hi : vp_in i n) (hd : decode (mB M) pc = .ok (.aastore, 1)) (kk : Ex g M (pc + 1) L st (sR h a i.toNatClampNeg 0) u Q) : Ex g M pc L (vR 0 :: vI i :: vR a :: st) h u Q := by
  intro p l e s m args below meth cd H locs ls hC hR hS hL hl h1 h2
  obtain ⟨hx, hb, hrt, hml, how, hts, hlk, hnm, hK, -⟩ := id hC
  have ht3 : t = 6 ∨ t = 7 ∨ t = 8 := by omega
  have t0 : t ≠ 0 := by omega
  have hat := hR.at1 ha t0
  rw [entq ht3] at hat
  rw [List.map_cons, List.map_cons, List.map_cons, tv_ref (hR.ne0 ha t0)]
  have hty := tylq (g := g) ht3
  rw [rty_n ht] at hty
  refine va_WaastN (C := rtn t) hx hb hat ((hK.2 (t - 2) _ hty).1 n (fun j => va_rf (ro g (zR h a j)))) (fun h => by cases h) (by show ¬ (i < 0 ∨ (arrV _ _ _).slots.size ≤ _); rw [arrV_size]; exact hi) rfl rfl hd fun H1 e9 z oq => ?_
  refine kk p l e s m args below meth cd H1 _ ls hC (arr_put hR ha t0 rfl (fun _ => rfl) (sfv_o g h a i.toNatClampNeg (vR 0)) ?_ z oq) (hS.put z oq (hR.adr_in ha t0)) hL hl h1 h2
  rw [entq ht3]
  show H1[adr g a]? = some (vp_cell _ _)
  rw [e9, vp_cell_q]
  show some ((vp_cell (gA g t) (n, .inr (.inr (.inr (.inr (fun j => ro g (zR h a j))))))).setSlot _ _) = _
  rw [vp_cell_q, arrV_store]
  refine congrArg (fun f : Nat → Value => some (arrV (gA g t) n f)) (?_ : _ = fun j => va_rf (ro g (zR (sR h a i.toNatClampNeg 0) a j)))
  funext q
  by_cases hq : q = i.toNatClampNeg
  · simp [updV, hq, zR, sR, up2, up1_s, ro, va_rf]
  · simp [updV, zR, sR, up2, up1, hq]
theorem entk_arr {g : Gp} {h : AH} {a t n : Nat} (ht : 2 ≤ t ∧ t ≤ 8) : ∃ x, entk g h a t n = .inl (gA g t, n, x) := by
  have : t = 2 ∨ t = 3 ∨ t = 4 ∨ t = 5 ∨ t = 6 ∨ t = 7 ∨ t = 8 := by omega
  rcases this with rfl | rfl | rfl | rfl | rfl | rfl | rfl <;> exact ⟨_, rfl⟩
theorem tyl_arr {g : Gp} {t : Nat} (ht : 2 ≤ t ∧ t ≤ 8) : ∃ ty, (tyl g)[t - 2]? = some (gA g t, ty) := by
  have : t = 2 ∨ t = 3 ∨ t = 4 ∨ t = 5 ∨ t = 6 ∨ t = 7 ∨ t = 8 := by omega
  rcases this with rfl | rfl | rfl | rfl | rfl | rfl | rfl <;> exact ⟨_, rfl⟩
theorem x_alen {g : Gp} {M : MD} {pc : Nat} {L st : List AV} {h : AH} {u : Nat × Nat} {Q : PQ} {a t n : Nat} (ht : 2 ≤ t ∧ t ≤ 8) (ha : zK h a = (t, n)) (hd : decode (mB M) pc = .ok (.arraylength, 1)) (kk : Ex g M (pc + 1) L (vI (nI n) :: st) h u Q) : Ex g M pc L (vR a :: st) h u Q := by
  intro p l e s m args below meth cd H locs ls hC hR hS hL hl h1 h2
  obtain ⟨hx, hb, hrt, hml, how, hts, hlk, hnm, hK, -⟩ := id hC
  have t0 : t ≠ 0 := by omega
  have hat := hR.at1 ha t0
  obtain ⟨x, ex⟩ := entk_arr (g := g) (h := h) (a := a) (n := n) ht
  obtain ⟨ty, ety⟩ := tyl_arr (g := g) ht
  rw [ex] at hat
  rw [List.map_cons, tv_ref (hR.ne0 ha t0)]
  exact va_alen hx hb hK (va_P1 hat) 0 (t - 2) rfl ety rfl hd (kk p l e s m args below meth cd H locs ls hC hR hS hL hl h1 h2)
/-- the script -/
theorem x_slen {g : Gp} {M : MD} {pc : Nat} {L st : List AV} {h : AH} {u : Nat × Nat} {Q : PQ} (hd : decode (mB M) pc = .ok (.arraylength, 1)) (kk : Ex g M (pc + 1) L (vI (nI (gl g)) :: st) h u Q) : Ex g M pc L (vR 1 :: st) h u Q := by
  intro p l e s m args below meth cd H locs ls hC hR hS hL hl h1 h2
  obtain ⟨hx, hb, hrt, hml, how, hts, hlk, hnm, hK, ⟨o1, o2, o3, o4, o5, -⟩, -⟩ := id hC
  have e1 : tv g (vR 1) = .ref (gb g) := rfl
  rw [List.map_cons, e1]
  exact va_slen (A := gAd g) hx hb o5 (Nat.lt_of_lt_of_le o2 o1) (Nat.not_le.mpr o2) hS hd (kk p l e s m args below meth cd H locs ls hC hR hS hL hl h1 h2)
theorem x_sload {g : Gp} {M : MD} {pc : Nat} {L st : List AV} {h : AH} {u : Nat × Nat} {Q : PQ} {i : Int32} (hi : vp_in i (gl g)) (hd : decode (mB M) pc = .ok (.iaload, 1)) (kk : Ex g M (pc + 1) L (vI (gx g i.toNatClampNeg) :: st) h u Q) : Ex g M pc L (vI i :: vR 1 :: st) h u Q := by
  intro p l e s m args below meth cd H locs ls hC hR hS hL hl h1 h2
  obtain ⟨hx, hb, hrt, hml, how, hts, hlk, hnm, hK, ⟨o1, o2, o3, o4, o5, -⟩, -⟩ := id hC
  have e1 : tv g (vR 1) = .ref (gb g) := rfl
  rw [List.map_cons, List.map_cons, e1]
  exact va_sld (A := gAd g) hx hb o5 (Nat.lt_of_lt_of_le o2 o1) (Nat.not_le.mpr o2) hS hi hd (kk p l e s m args below meth cd H locs ls hC hR hS hL hl h1 h2)
/-- ArrayList's empty row -/
theorem x_gets {g : Gp} {M : MD} {pc i : Nat} {L st : List AV} {h : AH} {u : Nat × Nat} {Q : PQ} (hw : Cond.fieldLink (mO M) i "java/util/ArrayList" "DEFAULTCAPACITY_EMPTY_ELEMENTDATA" "[Ljava/lang/Object;" ∈ lw_g) (hd : decode (mB M) pc = .ok (.getstatic i, 3)) (kk : Ex g M (pc + 3) L (vR 2 :: st) h u Q) : Ex g M pc L st h u Q := by
  intro p l e s m args below meth cd H locs ls hC hR hS hL hl h1 h2
  obtain ⟨hx, hb, hrt, hml, how, hts, hlk, hnm, hK, ⟨o1, o2, o3, o4, o5, o6, -⟩, -⟩ := id hC
  exact va_gets hx hb o6 hS how (hts _ hw) (fun _ h9 => h9) hd (kk p l e s m args below meth cd H locs ls hC hR hS hL hl h1 h2)
theorem x_elen {g : Gp} {M : MD} {pc : Nat} {L st : List AV} {h : AH} {u : Nat × Nat} {Q : PQ} (hd : decode (mB M) pc = .ok (.arraylength, 1)) (kk : Ex g M (pc + 1) L (vI 0 :: st) h u Q) : Ex g M pc L (vR 2 :: st) h u Q := by
  intro p l e s m args below meth cd H locs ls hC hR hS hL hl h1 h2
  obtain ⟨hx, hb, hrt, hml, how, hts, hlk, hnm, hK, ⟨o1, o2, o3, o4, o5, o6, o7, -⟩, -⟩ := id hC
  have e1 : tv g (vR 2) = .ref (gt g) := rfl
  rw [List.map_cons, e1]
  exact va_tlen hx hb o7 hS (v := 0) rfl hd (kk p l e s m args below meth cd H locs ls hC hR hS hL hl h1 h2)
theorem adr_inj {g : Gp} {x y : Nat} (hg : gt g < gN g) (hx : x ≠ 0 ∧ x ≠ 1 ∧ x ≠ 3) (hy : y ≠ 0 ∧ y ≠ 1 ∧ y ≠ 3) (h : adr g x = adr g y) : x = y := by
  unfold adr at h
  rw [if_neg hx.2.1, if_neg hy.2.1] at h
  simp only [if_neg hx.2.2, if_neg hy.2.2] at h
  split at h <;> split at h <;> omega
theorem x_acmp_eq {g : Gp} {M : MD} {pc : Nat} {L st : List AV} {h : AH} {u : Nat × Nat} {Q : PQ} {x y : Nat} {off : Int} {t : Nat} (hx9 : x ≠ 1 ∧ x ≠ 3) (hy9 : y ≠ 1 ∧ y ≠ 3) (ht : (pc : Int) + off = (t : Int)) (hd : decode (mB M) pc = .ok (.if_acmp .eq off, 3)) (kt : x = y → Ex g M t L st h u Q) (kf : x ≠ y → Ex g M (pc + 3) L st h u Q) : Ex g M pc L (vR y :: vR x :: st) h u Q := by
  intro p l e s m args below meth cd H locs ls hC hR hS hL hl h1 h2
  obtain ⟨hx, hb, hrt, hml, how, hts, hlk, hnm, hK, ⟨o1, o2, o3, -⟩, -⟩ := id hC
  rw [List.map_cons, List.map_cons, ← rf_ro, ← rf_ro]
  have hiff : ro g x = ro g y → x = y := by
    intro he
    unfold ro at he
    split at he <;> split at he
    · omega
    · cases he
    · cases he
    · exact adr_inj o3 ⟨by assumption, hx9.1, hx9.2⟩ ⟨by assumption, hy9.1, hy9.2⟩ (Option.some.inj he)
  exact lv_acmp_eq hx hb hd ht (fun hc => kt (hiff hc) p l e s m args below meth cd H locs ls hC hR hS hL hl h1 h2) (fun hc => kf (fun he => hc (by rw [he])) p l e s m args below meth cd H locs ls hC hR hS hL hl h1 h2)
/-! ===== casts, Object's constructor, Math ===== -/
theorem x_cast {g : Gp} {M : MD} {pc i a c : Nat} {r : vw_C} {L st : List AV} {h : AH} {u : Nat × Nat} {Q : PQ} (hl9 : Cond.classLink (mO M) i r.1 ∈ lw_g) (hc9 : clt[c]? = some r) (ha : zK h a = (1, c)) (hd : decode (mB M) pc = .ok (.checkcast i, 3)) (kk : Ex g M (pc + 3) L (vR a :: st) h u Q) : Ex g M pc L (vR a :: st) h u Q := by
  intro p l e s m args below meth cd H locs ls hC hR hS hL hl h1 h2
  obtain ⟨hx, hb, hrt, hml, how, hts, hlk, hnm, hK, -⟩ := id hC
  have kq := kk p l e s m args below meth cd H locs ls hC hR hS hL hl h1 h2
  rw [List.map_cons, tv_ref (hR.ne0 ha Nat.one_ne_zero)] at kq ⊢
  exact va_castS hx hb how (hts _ hl9) (hK.1 c r hc9).2 (rep_recv hR hK ha hc9) hd kq
theorem x_objInit {g : Gp} {M : MD} {pc i a : Nat} {L st : List AV} {h : AH} {u : Nat × Nat} {Q : PQ} (hl9 : Cond.methodLink (mO M) i Lib.objectInit ∈ lw_g) (hi9 : Cond.instanceMethod Lib.objectInit ∈ lw_g) (hc9 : Cond.code Lib.objectInit ⟨#[0xb1]⟩ 1 none ∈ lw_g) (ha : a ≠ 0) (hdp : 1 ≤ mDp M) (hst : st.length ≤ 4) (hd : decode (mB M) pc = .ok (.invokespecial i, 3)) (kk : Ex g M (pc + 3) L st h u Q) : Ex g M pc L (vR a :: st) h u Q := by
  intro p l e s m args below meth cd H locs ls hC hR hS hL hl h1 h2
  obtain ⟨hx, hb, hrt, hml, how, hts, hlk, hnm, hK, -⟩ := id hC
  rw [List.map_cons, tv_ref ha]
  have hrm := lr_room (g := g) (m := m) (pc := pc) (ls := ls) (st := (.ref (adr g a) :: st.map (tv g))) hst
  refine W.objInit hx hb how (hts _ hl9) (hts _ hi9) (hts _ hc9) rfl (by rw [hml, ← hl]; exact hL.1) rfl hd hdp (by show _ ≤ 64 * mDp M + 100; omega) ?_
  exact kk p l e s m args below meth cd H locs ls hC hR hS hL hl h1 h2
theorem x_mmax {g : Gp} {M : MD} {pc i : Nat} {x y : Int32} {L st : List AV} {h : AH} {u : Nat × Nat} {Q : PQ} (hl9 : Cond.methodLink (mO M) i Lib.Math.max.name ∈ lw_g) (hs9 : Cond.static Lib.Math.max.name ∈ lw_g) (hi9 : Cond.initialized "java/lang/Math" ∈ lw_g) (hc9 : Cond.code Lib.Math.max.name Lib.Math.max.code 2 (some .int) ∈ lw_g) (hdp : 1 ≤ mDp M) (hst : st.length ≤ 4) (hd : decode (mB M) pc = .ok (.invokestatic i, 3)) (kk : Ex g M (pc + 3) L (vI (if x < y then y else x) :: st) h u Q) : Ex g M pc L (vI y :: vI x :: st) h u Q := by
  intro p l e s m args below meth cd H locs ls hC hR hS hL hl h1 h2
  obtain ⟨hx, hb, hrt, hml, how, hts, hlk, hnm, hK, -⟩ := id hC
  have hrm := lr_room (g := g) (m := m) (pc := pc) (ls := ls) (st := (st.map (tv g))) hst
  exact va_mmax hx hb (by rw [hml, ← hl]; exact hL.1.symm) how (hts _ hl9) (hts _ hs9) (hts _ hi9) (hts _ hc9) hdp (by show _ ≤ 64 * mDp M + 100; omega) h1 h2 hd (kk p l e s m args below meth cd H locs ls hC hR hS hL hl h1 h2)
theorem x_mmin {g : Gp} {M : MD} {pc i : Nat} {x y : Int32} {L st : List AV} {h : AH} {u : Nat × Nat} {Q : PQ} (hl9 : Cond.methodLink (mO M) i Lib.Math.min.name ∈ lw_g) (hs9 : Cond.static Lib.Math.min.name ∈ lw_g) (hi9 : Cond.initialized "java/lang/Math" ∈ lw_g) (hc9 : Cond.code Lib.Math.min.name Lib.Math.min.code 2 (some .int) ∈ lw_g) (hdp : 1 ≤ mDp M) (hst : st.length ≤ 4) (hd : decode (mB M) pc = .ok (.invokestatic i, 3)) (kk : Ex g M (pc + 3) L (vI (if y < x then y else x) :: st) h u Q) : Ex g M pc L (vI y :: vI x :: st) h u Q := by
  intro p l e s m args below meth cd H locs ls hC hR hS hL hl h1 h2
  obtain ⟨hx, hb, hrt, hml, how, hts, hlk, hnm, hK, -⟩ := id hC
  have hrm := lr_room (g := g) (m := m) (pc := pc) (ls := ls) (st := (st.map (tv g))) hst
  exact va_mmin hx hb (by rw [hml, ← hl]; exact hL.1.symm) how (hts _ hl9) (hts _ hs9) (hts _ hi9) (hts _ hc9) hdp (by show _ ≤ 64 * mDp M + 100; omega) h1 h2 hd (kk p l e s m args below meth cd H locs ls hC hR hS hL hl h1 h2)
/-! ===== what is made ===== -/
theorem Rep.top {g : Gp} {h : AH} {H : Heap} (hR : Rep g h H) : adr g (zN h) = H.size := by
  rw [adr_ge hR.1]
  have := hR.1
  have := hR.2.1
  omega
theorem nw_old {g : Gp} {h : AH} {kd : Nat × Nat} {b : Nat} (hb : b ≠ zN h) : zK (nw h kd) b = zK h b ∧ ent g (nw h kd) b = ent g h b := by
  have hb2 : b ≠ h.1 := hb
  have e1 : zK (nw h kd) b = zK h b := up1_n _ _ hb2
  exact ⟨e1, ent_congr e1 (up1_n _ _ hb2) (up1_n _ _ hb2) (up1_n _ _ hb2) (up1_n _ _ hb2)⟩
theorem Rep.new {g : Gp} {h : AH} {kd : Nat × Nat} {H H1 : Heap} (hR : Rep g h H) (hsz : H1.size = H.size + 1) (hold : ∀ q : Nat, q < H.size → H1[q]? = H[q]?) (hnew : va_at (gD g) clt (H.size, entk g (nw h kd) (zN h) kd.1 kd.2) H1) : Rep g (nw h kd) H1 := by
  have h3 := hR.1
  have hs := hR.2.1
  have hn : zN (nw h kd) = zN h + 1 := rfl
  have hk : zK (nw h kd) (zN h) = kd := up1_s _ _ _
  refine ⟨by rw [hn]; omega, by rw [hn, hsz]; omega, fun b hb => ?_, fun b hb => ?_⟩
  · rw [(nw_old (g := g) (h := h) (kd := kd) (by omega)).1]
    exact hR.2.2.1 b (by omega)
  · by_cases e : b = zN h
    · subst e
      rw [hR.top]
      unfold ent
      rw [hk]
      exact hnew
    · rw [(nw_old (g := g) (kd := kd) e).1] at hb
      rw [(nw_old (g := g) (kd := kd) e).2]
      refine (hR.2.2.2 b hb).kept (hold _ ?_)
      have := hR.ge hb
      show adr g b < _
      rw [adr_ge this.1]
      omega
theorem va_S.grow {g : Gp} {H0 H H1 : Heap} {locs : List Loc} (hS : va_S (gAd g) H0 H locs) (hz : H.size ≤ H1.size) (hold : ∀ q : Nat, q < H.size → H1[q]? = H[q]?) : va_S (gAd g) H0 H1 locs :=
  ⟨Nat.le_trans hS.1 hz, fun x h1 h2 => (hold x (Nat.lt_of_lt_of_le h1 hS.1)).trans (hS.2.1 x h1 h2), hS.2.2⟩
theorem x_new {g : Gp} {M : MD} {pc i c : Nat} {r : vw_C} {L st : List AV} {h : AH} {u : Nat × Nat} {Q : PQ} (hl9 : Cond.classLink (mO M) i r.1 ∈ lw_g) (hin9 : Cond.instantiable r.1 r.2.2 ∈ lw_g) (hini : Cond.initialized r.1 ∈ lw_g) (hc9 : clt[c]? = some r) (hft : ∀ k, k < r.2.2 → ftc (cty c k) < 3) (hu1 : u.1 + 1 ≤ mC M) (hu2 : u.2 + r.2.2 ≤ mS M) (hd : decode (mB M) pc = .ok (.new i, 3)) (kk : Ex g M (pc + 3) L (vR (zN h) :: st) (nw h (1, c)) (u.1 + 1, u.2 + r.2.2) Q) : Ex g M pc L st h u Q := by
  intro p l e s m args below meth cd H locs ls hC hR hS hL hl h1 h2
  obtain ⟨hx, hb, hrt, hml, how, hts, hlk, hnm, hK, -⟩ := id hC
  obtain ⟨C, T, N⟩ := r
  have hKn := hK.1 c _ hc9
  refine W.newcK hx hb how (hts _ hl9) (hts _ hin9) (hts _ hini) rfl hd hu1 hu2 hKn.2.1 rfl fun H1 kC hkC e1 z1 o1 => ?_
  have hob := u_born (cty c) hts (cok_g c _ hc9) hKn hkC e1 (cok c _ hc9).2.1
  have hR2 : Rep g (nw h (1, c)) H1 := hR.new z1 o1 ⟨_, hc9, hob.to (fun k hk => by
    rw [vp_V_map (by rw [nfl_of hc9]; exact hk)]
    have hz : zI (nw h (1, c)) (zN h) = fun _ => 0 := up1_s _ _ _
    have hz2 : zL (nw h (1, c)) (zN h) = fun _ => 0 := up1_s _ _ _
    have hz3 : zR (nw h (1, c)) (zN h) = fun _ => 0 := up1_s _ _ _
    unfold fv
    rw [hz, hz2, hz3]
    have := hft k hk
    generalize cty c k = ty at this ⊢
    cases ty <;> first | rfl | (simp [ftc] at this))⟩
  have kq := kk p l e s m args below meth cd H1 locs ls hC hR2 (hS.grow (by omega) o1) hL hl hu1 hu2
  have h0 : zN h ≠ 0 := by have := hR.1; omega
  rw [List.map_cons, tv_ref h0, hR.top] at kq
  exact kq
theorem nw_rows {h : AH} {kd : Nat × Nat} : zI (nw h kd) (zN h) = (fun _ => 0) ∧ zL (nw h kd) (zN h) = (fun _ => 0) ∧ zD (nw h kd) (zN h) = (fun _ => 0) ∧ zR (nw h kd) (zN h) = (fun _ => 0) := ⟨up1_s _ _ _, up1_s _ _ _, up1_s _ _ _, up1_s _ _ _⟩
/-- rows of numbers: int 2, long 3, boolean 4, double 5 -/
def atk (t : Nat) : ArrayType := match t with
  | 2 => .int
  | 3 => .long
  | 4 => .boolean
  | _ => .double
theorem x_newarray {g : Gp} {M : MD} {pc t N : Nat} {n : Int32} {L st : List AV} {h : AH} {u : Nat × Nat} {Q : PQ} (ht : t = 2 ∨ t = 3 ∨ t = 4 ∨ t = 5) (hw : Cond.arrayClass (newarray.typeOf (atk t)) ∈ lw_g) (hn : ¬ n < 0) (hN : n.toNatClampNeg = N) (hN2 : N ≤ 60000000) (hu1 : u.1 + 1 ≤ mC M) (hu2 : u.2 + N ≤ mS M) (hd : decode (mB M) pc = .ok (.newarray (atk t), 2)) (kk : Ex g M (pc + 2) L (vR (zN h) :: st) (nw h (t, N)) (u.1 + 1, u.2 + N) Q) : Ex g M pc L (vI n :: st) h u Q := by
  intro p l e s m args below meth cd H locs ls hC hR hS hL hl h1 h2
  obtain ⟨hx, hb, hrt, hml, how, hts, hlk, hnm, hK, -⟩ := id hC
  have hby : N * componentBytes (newarray.typeOf (atk t)) ≤ 536870912 := by
    rcases ht with rfl | rfl | rfl | rfl <;> (simp only [atk, newarray.typeOf, componentBytes]; omega)
  refine va_newaK hx hb (atype := atk t) (hts _ hw) rfl hd rfl hn hN hby hu1 hu2 rfl fun H1 cA e1 z1 o1 hAr hNm => ?_
  have hcA : cA = gA g t := by
    rcases ht with rfl | rfl | rfl | rfl
    · exact Option.some.inj (hNm.symm.trans (hK.2 0 _ rfl).2)
    · exact Option.some.inj (hNm.symm.trans (hK.2 1 _ rfl).2)
    · exact Option.some.inj (hNm.symm.trans (hK.2 2 _ rfl).2)
    · exact Option.some.inj (hNm.symm.trans (hK.2 3 _ rfl).2)
  subst hcA
  have hR2 : Rep g (nw h (t, N)) H1 := hR.new z1 o1 (by
    obtain ⟨r1, r2, r3, r4⟩ := nw_rows (h := h) (kd := (t, N))
    show va_at _ _ (H.size, entk g (nw h (t, N)) (zN h) t N) H1
    rcases ht with rfl | rfl | rfl | rfl
    · simp only [entk, r1]; exact e1
    · simp only [entk, r2]; exact e1
    · simp only [entk, r1]; exact e1
    · simp only [entk, r3]; exact e1)
  have kq := kk p l e s m args below meth cd H1 locs ls hC hR2 (hS.grow (by omega) o1) hL hl hu1 hu2
  have h0 : zN h ≠ 0 := by have := hR.1; omega
  rw [List.map_cons, tv_ref h0, hR.top] at kq
  exact kq
theorem x_anewarray {g : Gp} {M : MD} {pc t N i : Nat} {n : Int32} {L st : List AV} {h : AH} {u : Nat × Nat} {Q : PQ} (ht : t = 6 ∨ t = 7) (hl9 : Cond.classLink (mO M) i (rtn t) ∈ lw_g) (hw : Cond.arrayOver (.object (rtn t)) ∈ lw_n) (hn : ¬ n < 0) (hN : n.toNatClampNeg = N) (hN2 : N ≤ 60000000) (hu1 : u.1 + 1 ≤ mC M) (hu2 : u.2 + N ≤ mS M) (hd : decode (mB M) pc = .ok (.anewarray i, 3)) (kk : Ex g M (pc + 3) L (vR (zN h) :: st) (nw h (t, N)) (u.1 + 1, u.2 + N) Q) : Ex g M pc L (vI n :: st) h u Q := by
  intro p l e s m args below meth cd H locs ls hC hR hS hL hl h1 h2
  obtain ⟨hx, hb, hrt, hml, how, hts, hlk, hnm, hK, hO, -⟩ := id hC
  subst hN
  refine W.anew hx hb how (hts _ hl9) (nw_use rfl (hO.nw _ hw)) rfl hd rfl hn (by omega) hu1 hu2 fun cA kA comp f1 f2 f3 f4 => ?_
  generalize hH1 : H.push ({ cls := cA, slots := Array.replicate n.toNatClampNeg .null, vm := .none } : Cell) = H1
  have z1 : H1.size = H.size + 1 := by rw [← hH1, Array.size_push]
  have e1 : H1[H.size]? = some (arrV cA n.toNatClampNeg (fun _ => .null)) := by rw [← hH1, Array.getElem?_push_size, ← arrV_new]
  have o1 : ∀ q : Nat, q < H.size → H1[q]? = H[q]? := fun q hq => by rw [← hH1, Array.getElem?_push, if_neg (Nat.ne_of_lt hq)]
  have hcA : cA = gA g t := by
    rcases ht with rfl | rfl
    · obtain ⟨_, _, -, -, -, hf⟩ := (hK.2 4 _ rfl).2
      exact Option.some.inj (f1.symm.trans hf)
    · obtain ⟨_, _, -, -, -, hf⟩ := (hK.2 5 _ rfl).2
      exact Option.some.inj (f1.symm.trans hf)
  subst hcA
  have hR2 : Rep g (nw h (t, n.toNatClampNeg)) H1 := hR.new z1 o1 (by
    obtain ⟨r1, r2, r3, r4⟩ := nw_rows (h := h) (kd := (t, n.toNatClampNeg))
    show va_at _ _ (H.size, entk g (nw h (t, n.toNatClampNeg)) (zN h) t n.toNatClampNeg) H1
    rw [entq (by omega), r4]
    exact e1)
  have kq := kk p l e s m args below meth cd H1 locs ls hC hR2 (hS.grow (by omega) o1) hL hl hu1 hu2
  have h0 : zN h ≠ 0 := by have := hR.1; omega
  rw [List.map_cons, tv_ref h0, hR.top] at kq
  exact kq
theorem x_acmp_ne_same {g : Gp} {M : MD} {pc : Nat} {L st : List AV} {h : AH} {u : Nat × Nat} {Q : PQ} {x : Nat} {off : Int} {t : Nat} (ht : (pc : Int) + off = (t : Int)) (hd : decode (mB M) pc = .ok (.if_acmp .ne off, 3)) (kf : Ex g M (pc + 3) L st h u Q) : Ex g M pc L (vR x :: vR x :: st) h u Q := by
  intro p l e s m args below meth cd H locs ls hC hR hS hL hl h1 h2
  obtain ⟨hx, hb, -⟩ := id hC
  rw [List.map_cons, List.map_cons, ← rf_ro]
  exact lv_acmp_ne hx hb hd ht (fun hc => absurd rfl hc) (fun _ => kf p l e s m args below meth cd H locs ls hC hR hS hL hl h1 h2)
/-- the Class object of Object[] -/
theorem x_ldcM {g : Gp} {M : MD} {pc i : Nat} {L st : List AV} {h : AH} {u : Nat × Nat} {Q : PQ} (hw : Cond.classLink (mO M) i "[Ljava/lang/Object;" ∈ lw_g) (hd : decode (mB M) pc = .ok (.ldc i, 2)) (kk : Ex g M (pc + 2) L (vR 3 :: st) h u Q) : Ex g M pc L st h u Q := by
  intro p l e s m args below meth cd H locs ls hC hR hS hL hl h1 h2
  obtain ⟨hx, hb, hrt, hml, how, hts, hlk, hnm, hK, ⟨o1, o2, o3, o4, o5, o6, o7, o8, o9, o10, o11, o12, o13, -⟩, -⟩ := id hC
  exact va_ldcM hx hb how (hts _ hw) o13 hd (kk p l e s m args below meth cd H locs ls hC hR hS hL hl h1 h2)
def gcN : MethodName := ⟨"java/lang/Object", "getClass", "()Ljava/lang/Class;"⟩
theorem x_getC {g : Gp} {M : MD} {pc i a n : Nat} {L st : List AV} {h : AH} {u : Nat × Nat} {Q : PQ} (hw1 : Cond.methodLink (mO M) i gcN ∈ lw_g) (hw2 : Cond.declares gcN ∈ lw_n) (hw3 : Cond.selects "[Ljava/lang/Object;" gcN gcN ∈ lw_g) (hw4 : Cond.instanceMethod gcN ∈ lw_g) (hw5 : Cond.native gcN ∈ lw_g) (ha : zK h a = (6, n)) (hdp : 1 ≤ mDp M) (hst : st.length ≤ 4) (hd : decode (mB M) pc = .ok (.invokevirtual i, 3)) (kk : Ex g M (pc + 3) L (vR 3 :: st) h u Q) : Ex g M pc L (vR a :: st) h u Q := by
  intro p l e s m args below meth cd H locs ls hC hR hS hL hl h1 h2
  obtain ⟨hx, hb, hrt, hml, how, hts, hlk, hnm, hK, hO, -⟩ := id hC
  obtain ⟨o1, o2, o3, o4, o5, o6, o7, o8, o9, o10, o11, o12, o13, -⟩ := id hO
  have hrm := lr_room (g := g) (m := m) (pc := pc) (ls := ls) (st := (st.map (tv g))) hst
  have hat := hR.at1 ha (by decide)
  rw [List.map_cons, tv_ref (hR.ne0 ha (by decide))]
  refine va_getC hx hb (by rw [hml, ← hl]; exact hL.1.symm) how (hts _ hw1) (nw_use rfl (hO.nw _ hw2)) (hts _ hw3) (hts _ hw4) (hts _ hw5) o13 ⟨_, hat, rfl, va_nmO (hK.2 4 _ rfl).2 (by decide +kernel)⟩ hdp ?_ hd (kk p l e s m args below meth cd H locs ls hC hR hS hL hl h1 h2)
  have h7 : 2 * 0 + ((st.map (tv g)).map fun v => v.category).sum ≤ 8 := hrm
  show _ ≤ 64 * mDp M + 100
  omega
end
section
/-! ===== int[n][k] ===== -/
theorem x_mna {g : Gp} {M : MD} {pc i N K : Nat} {n k : Int32} {L st : List AV} {h : AH} {u : Nat × Nat} {Q : PQ} (hl9 : Cond.classLink (mO M) i "[[I" ∈ lw_g) (hw : Cond.arrayOver (.array .int) ∈ lw_n) (hw2 : Cond.arrayClass .int ∈ lw_g) (hn : ¬ n < 0) (hk : ¬ k < 0) (hN : n.toNatClampNeg = N) (hK9 : k.toNatClampNeg = K) (hN2 : N ≤ 60000000) (hK2 : K ≤ 60000000) (hu1 : u.1 + 1 + N ≤ mC M) (hu2 : u.2 + N + N * K ≤ mS M) (hd : decode (mB M) pc = .ok (.multianewarray i 2, 4)) (kk : Ex g M (pc + 4) L (vR (zN h) :: st) (nwm h N K) (u.1 + 1 + N, u.2 + N + N * K) Q) : Ex g M pc L (vI k :: vI n :: st) h u Q := by
  intro p l e s m args below meth cd H locs ls hC hR hS hL hl h1 h2
  obtain ⟨hx, hb, hrt, hml, how, hts, hlk, hnm, hK, hO, -⟩ := id hC
  subst hN
  subst hK9
  intro T hT X
  obtain ⟨vm₁, cA, comp, -, fA, fC, hO, -, X', step⟩ := X.multianewarray2F hx how (ty := .int) (hts _ hl9) (nw_use rfl (hO.nw _ hw)) (hts _ hw2) (g := F0 m pc ls ((vI k :: vI n :: st).map (tv g))) rfl (by rw [hb]; exact hd) (rest := st.map (tv g)) rfl hn hk (by omega) (by show _ * 4 ≤ _; omega) (by omega) rfl rfl (by show u.1 + (1 + _) ≤ mC M; omega) (by show u.2 + (_ + _) ≤ mS M; omega)
  have ec : comp = gA g 2 := Option.some.inj (fC.symm.trans (hK.2 0 _ rfl).2)
  have ea : cA = gA g 8 := Option.some.inj (fA.symm.trans (hK.2 6 _ rfl).2)
  subst ec
  subst ea
  generalize hF : Jvm.Free.Multi.fill (T.setVm vm₁) (gA g 8) (gA g 2) n.toNatClampNeg k.toNatClampNeg (defaultValue .int) n.toNatClampNeg = F at X' step
  have hTh : (T.setVm vm₁).heap = H := hT
  obtain ⟨f1, f2, -, -⟩ := Jvm.Free.Multi.fill_facts (T.setVm vm₁) (gA g 8) (gA g 2) n.toNatClampNeg k.toNatClampNeg (defaultValue .int) n.toNatClampNeg
  rw [hF, hTh] at f1 f2
  have hold : ∀ x : Nat, x < H.size → F.heap[x]? = H[x]? := fun x hx => by
    have := Jvm.Free.Multi.fill_old (T.setVm vm₁) (gA g 8) (gA g 2) n.toNatClampNeg k.toNatClampNeg (defaultValue .int) (a := x) (by rw [hTh]; exact hx) n.toNatClampNeg
    rw [hF, hTh] at this
    exact this
  have hrow : ∀ j : Nat, j < n.toNatClampNeg → F.heap[H.size + 1 + j]? = some (vp_cell (gA g 2) (k.toNatClampNeg, .inl (fun _ => 0))) := fun j hj => by
    have := Jvm.Free.Multi.fill_inner (T.setVm vm₁) (gA g 8) (gA g 2) n.toNatClampNeg k.toNatClampNeg (defaultValue .int) n.toNatClampNeg j hj
    rw [hF, hTh] at this
    rw [this]
    show some ({ cls := gA g 2, slots := Array.replicate k.toNatClampNeg (.int 0), vm := .none } : Cell) = _
    rw [arrV_new]
    rfl
  have h3 := hR.1
  have hs := hR.2.1
  have htop : adr g h.1 = H.size := hR.top
  have hzn : h.1 = zN h := rfl
  have hn9 : zN (nwm h n.toNatClampNeg k.toNatClampNeg) = zN h + 1 + n.toNatClampNeg := rfl
  have kout : zK (nwm h n.toNatClampNeg k.toNatClampNeg) h.1 = (8, n.toNatClampNeg) := if_pos rfl
  have kin : ∀ b, h.1 < b → b < h.1 + 1 + n.toNatClampNeg → zK (nwm h n.toNatClampNeg k.toNatClampNeg) b = (2, k.toNatClampNeg) := fun b q1 q2 => by
    show (if b = h.1 then _ else if _ then _ else _) = _
    rw [if_neg (by omega), if_pos ⟨q1, q2⟩]
  have kold : ∀ b, b < h.1 ∨ h.1 + 1 + n.toNatClampNeg ≤ b → zK (nwm h n.toNatClampNeg k.toNatClampNeg) b = zK h b := fun b q1 => by
    show (if b = h.1 then _ else if _ then _ else _) = _
    rw [if_neg (by omega), if_neg (by omega)]
    rfl
  have hR2 : Rep g (nwm h n.toNatClampNeg k.toNatClampNeg) F.heap := by
    refine ⟨by rw [hn9]; omega, by rw [hn9, f1]; omega, fun b hb => ?_, fun b hb => ?_⟩
    · rw [hn9] at hb
      rw [kold b (by omega)]
      exact hR.2.2.1 b (by omega)
    · by_cases e1 : b = h.1
      · subst e1
        rw [htop]
        unfold ent
        rw [kout]
        show F.heap[H.size]? = some (vp_cell (gA g 8) (n.toNatClampNeg, .inr (.inr (.inr (.inr (fun j => ro g (zR (nwm h n.toNatClampNeg k.toNatClampNeg) h.1 j)))))))
        have := vr_outer (gA g 8) n.toNatClampNeg H.size n.toNatClampNeg
        rw [f2, this, vp_cell_q]
        refine congrArg some (congrArg (arrV (gA g 8) n.toNatClampNeg) (funext fun j => ?_))
        have e3 : zR (nwm h n.toNatClampNeg k.toNatClampNeg) h.1 j = if j < n.toNatClampNeg then h.1 + 1 + j else 0 := by
          show (if h.1 = h.1 then (fun j => if j < _ then _ else _) else _) j = _
          rw [if_pos rfl]
        rw [e3]
        split
        · unfold ro
          rw [if_neg (by omega), adr_ge (by omega)]
          have : gN g + (h.1 + 1 + j - 4) = H.size + 1 + j := by omega
          rw [this]
        · rfl
      · by_cases e2 : h.1 < b ∧ b < h.1 + 1 + n.toNatClampNeg
        · have e4 : adr g b = H.size + 1 + (b - h.1 - 1) := by rw [adr_ge (by omega)]; omega
          have e5 : zI (nwm h n.toNatClampNeg k.toNatClampNeg) b = fun _ => 0 := if_pos (by omega)
          rw [e4]
          unfold ent
          rw [kin b e2.1 e2.2]
          simp only [entk, e5]
          exact hrow _ (by omega)
        · rw [kold b (by omega)] at hb
          have hge := hR.ge hb
          have q1 : ¬ h.1 ≤ b := by omega
          have e6 : ent g (nwm h n.toNatClampNeg k.toNatClampNeg) b = ent g h b := by
            refine ent_congr (kold b (by omega)) (if_neg q1) (if_neg q1) (if_neg q1) ?_
            show (if b = h.1 then _ else if _ then _ else _) = _
            rw [if_neg e1, if_neg q1]
            rfl
          rw [e6]
          refine (hR.2.2.2 b hb).kept (hold _ ?_)
          show adr g b < _
          rw [adr_ge hge.1]
          omega
  obtain ⟨t, a1, b1⟩ := kk p l e s m args below meth cd F.heap locs ls hC hR2 (hS.grow (by rw [f1]; omega) hold) hL hl hu1 hu2 F rfl X'
  refine ⟨t, step t ?_, b1⟩
  have h0 : zN h ≠ 0 := by omega
  have e : T.heap.size = H.size := by rw [hT]
  rw [List.map_cons, tv_ref h0, hR.top] at a1
  rw [e]
  exact a1
/-! ===== System.arraycopy: references, longs ===== -/
def rwI (h : AH) (a : Nat) (f : Nat → Int32) : AH := (h.1, h.2.1, up1 h.2.2.1 a f, h.2.2.2)
def rwL (h : AH) (a : Nat) (f : Nat → Int64) : AH := (h.1, h.2.1, h.2.2.1, up1 h.2.2.2.1 a f, h.2.2.2.2)
def rwR (h : AH) (a : Nat) (f : Nat → Nat) : AH := (h.1, h.2.1, h.2.2.1, h.2.2.2.1, h.2.2.2.2.1, up1 h.2.2.2.2.2 a f)
theorem cpy_ro {g : Gp} {f f2 : Nat → Nat} {sp dp n : Nat} : va_cpy (fun j => ro g (f j)) (fun j => ro g (f2 j)) sp dp n = fun j => ro g (va_cpy f f2 sp dp n j) := by
  funext k
  unfold va_cpy
  split <;> rfl
def acOk (M : MD) (i : Nat) : Prop := Cond.methodLink (mO M) i arraycopyName ∈ lw_g ∧ Cond.native arraycopyName ∈ lw_g ∧ Cond.static arraycopyName ∈ lw_g ∧ Cond.initialized "java/lang/System" ∈ lw_g
theorem nn32 : ∀ z : Int32, ¬ z < 0 → z.toInt = (z.toNatClampNeg : Int) := by
  intro z hz
  have hz0 : (0 : Int) ≤ z.toInt := by
    have := Int32.not_lt.mp hz
    simpa using Int32.le_iff_toInt_le.mp this
  show z.toInt = ((z.toInt.toNat : Nat) : Int)
  omega
theorem x_copyq {g : Gp} {M : MD} {pc i a0 a n0 n1 ci : Nat} {r : vw_C} {sp dp n : Int32} {L st : List AV} {h : AH} {u : Nat × Nat} {Q : PQ} (hw : acOk M i) (ha0 : zK h a0 = (6, n0)) (ha1 : zK h a = (6, n1)) (hc9 : clt[ci]? = some r) (hcast : Cond.castable r.1 "java/lang/Object" ∈ lw_n) (h1 : ¬ sp < 0) (h2 : ¬ dp < 0) (h3 : ¬ n < 0) (h4 : sp.toNatClampNeg + n.toNatClampNeg ≤ n0) (h5 : dp.toNatClampNeg + n.toNatClampNeg ≤ n1)
    (hel : ∀ j : Nat, j < n.toNatClampNeg → zR h a0 (sp.toNatClampNeg + j) ≠ 0 → zK h (zR h a0 (sp.toNatClampNeg + j)) = (1, ci)) (hdp : 1 ≤ mDp M) (hst : st.length ≤ 4) (hd : decode (mB M) pc = .ok (.invokestatic i, 3))
    (kk : Ex g M (pc + 3) L st (rwR h a (va_cpy (zR h a0) (zR h a) sp.toNatClampNeg dp.toNatClampNeg n.toNatClampNeg)) u Q) : Ex g M pc L (vI n :: vI dp :: vR a :: vI sp :: vR a0 :: st) h u Q := by
  intro p l e s m args below meth cd H locs ls hC hR hS hL hl g1 g2
  obtain ⟨hx, hb, hrt, hml, how, hts, hlk, hnm, hK, hO, -⟩ := id hC
  intro T hT X
  have q0 : (6 : Nat) ≠ 0 := by decide
  have hc0 : H[adr g a0]? = some (vp_cell (gA g 6) (n0, .inr (.inr (.inr (.inr (fun j => ro g (zR h a0 j))))))) := hR.at1 ha0 q0
  have hc1 : H[adr g a]? = some (vp_cell (gA g 6) (n1, .inr (.inr (.inr (.inr (fun j => ro g (zR h a j))))))) := hR.at1 ha1 q0
  obtain ⟨-, k0, hk0, cm0, hkk0⟩ := (hK.2 4 _ rfl).1 n0 (fun j => va_rf (ro g (zR h a0 j)))
  obtain ⟨-, k1, hk1, cm1, hkk1⟩ := (hK.2 4 _ rfl).1 n1 (fun j => va_rf (ro g (zR h a j)))
  have hrm := lr_room (g := g) (m := m) (pc := pc) (ls := ls) (st := (st.map (tv g))) hst
  obtain ⟨vm', X', step⟩ := X.arraycopy hx how (hts _ hw.1) (hts _ hw.2.1) (hts _ hw.2.2.1) (hts _ hw.2.2.2) (src := adr g a0) (dst := adr g a) (cs := vp_cell (gA g 6) (n0, .inr (.inr (.inr (.inr (fun j => ro g (zR h a0 j))))))) (cd := vp_cell (gA g 6) (n1, .inr (.inr (.inr (.inr (fun j => ro g (zR h a j))))))) (srcPos := sp) (destPos := dp) (n := n) (by rw [hT]; exact hc0) (by rw [hT]; exact hc1)
    (fun _ h => by cases h) (fun _ h => by cases h) (fun h => by cases h) (fun h => by cases h) hk0 hk1 hkk0 hkk1 rfl h1 h2 h3
    (by rw [nn32 sp h1, nn32 n h3]; show ¬ _ > ((arrV (gA g 6) n0 (fun j => va_rf (ro g (zR h a0 j)))).slots.size : Int); rw [arrV_size]; omega)
    (by rw [nn32 dp h2, nn32 n h3]; show ¬ _ > ((arrV (gA g 6) n1 (fun j => va_rf (ro g (zR h a j)))).slots.size : Int); rw [arrV_size]; omega)
    (fun vm₁ hal j hj => by
      have e : (vp_cell (gA g 6) (n0, .inr (.inr (.inr (.inr (fun j => ro g (zR h a0 j))))))).slots.getD (sp.toNatClampNeg + j) .null = va_rf (ro g (zR h a0 (sp.toNatClampNeg + j))) := by
        show (arrV (gA g 6) n0 (fun j => va_rf (ro g (zR h a0 j)))).slots.getD _ _ = _
        rw [Array.getD_eq_getD_getElem?, arrV_read _ _ (by omega)]
        rfl
      rw [e]
      by_cases hz : zR h a0 (sp.toNatClampNeg + j) = 0
      · rw [hz]
        exact ⟨rfl, trivial⟩
      · have e2 : ro g (zR h a0 (sp.toNatClampNeg + j)) = some (adr g (zR h a0 (sp.toNatClampNeg + j))) := if_neg hz
        rw [e2]
        obtain ⟨cellV, g1, g2, g3⟩ := rep_recv hR hK (hel j hj hz) hc9
        obtain ⟨kA, comp, r1, r2, r3, -⟩ := (hK.2 4 _ rfl).2
        cases hk1.symm.trans r1
        cases hkk1.symm.trans r2
        obtain ⟨kC, hkC, -⟩ := Vm.findClass_spec g3
        obtain ⟨kE, hkE, -⟩ := Vm.findClass_spec r3
        obtain ⟨kC', hkC', -⟩ := hal.2.2 _ _ hkC
        obtain ⟨kE', hkE', -⟩ := hal.2.2 _ _ hkE
        refine ⟨rfl, cellV, (show T.heap[_]? = some cellV by rw [hT]; exact g1), (fun q h => by rw [h] at g2; cases g2), ⟨kC', hkC'⟩, ?_, ?_⟩
        · exact ⟨kE', hkE'⟩
        · show vm₁.assignable _ _ = true
          rw [hal.assignable]
          exact vb_asgC (hO.nw _ hcast) _ _ r3 g3)
    (g := F0 m pc ls ((vI n :: vI dp :: vR a :: vI sp :: vR a0 :: st).map (tv g))) rfl (by rw [hml, ← hl]; exact hL.1) (rest := st.map (tv g)) (by rw [List.map_cons, List.map_cons, List.map_cons, List.map_cons, List.map_cons, tv_ref (hR.ne0 ha0 q0), tv_ref (hR.ne0 ha1 q0)]; rfl) (by rw [hb]; exact hd) hdp (by
      show 2 * 0 + _ + _ ≤ 64 * mDp M + 100
      have e8 : nativeFrameWords "java/lang/System" "arraycopy" 5 = 7 := by decide
      have : 2 * 0 + ((st.map (tv g)).map fun v => v.category).sum ≤ 8 := hrm
      rw [e8]
      omega)
  have e1 : copied (vp_cell (gA g 6) (n0, .inr (.inr (.inr (.inr (fun j => ro g (zR h a0 j))))))) (vp_cell (gA g 6) (n1, .inr (.inr (.inr (.inr (fun j => ro g (zR h a j))))))) sp dp n = vp_cell (gA g 6) (n1, .inr (.inr (.inr (.inr (fun j => ro g (va_cpy (zR h a0) (zR h a) sp.toNatClampNeg dp.toNatClampNeg n.toNatClampNeg j)))))) := by
    rw [← cpy_ro, vp_cell_q, vp_cell_q, vp_cell_q]
    exact va_copied (fun z => va_rf z) (gA g 6) (gA g 6) _ _ h4
  rw [e1] at X' step
  have hl9 : adr g a < H.size := (Array.getElem?_eq_some_iff.mp hc1).1
  generalize hcell : vp_cell (gA g 6) (n1, .inr (.inr (.inr (.inr (fun j => ro g (va_cpy (zR h a0) (zR h a) sp.toNatClampNeg dp.toNatClampNeg n.toNatClampNeg j)))))) = nc at X' step
  have hheap : ((T.setVm vm').setCell (adr g a) nc).heap = H.setIfInBounds (adr g a) nc := by rw [← hT]; rfl
  have oq : ∀ q : Nat, q ≠ adr g a → (H.setIfInBounds (adr g a) nc)[q]? = H[q]? := fun q hq => by simp [Array.getElem?_setIfInBounds, Ne.symm hq]
  have hR2 : Rep g (rwR h a (va_cpy (zR h a0) (zR h a) sp.toNatClampNeg dp.toNatClampNeg n.toNatClampNeg)) (H.setIfInBounds (adr g a) nc) := by
    refine arr_put hR ha1 q0 rfl (fun _ => rfl) (fun b hb => ent_congr rfl rfl rfl rfl (up1_n _ _ hb)) ?_ (by simp) oq
    have e3 : zR (rwR h a (va_cpy (zR h a0) (zR h a) sp.toNatClampNeg dp.toNatClampNeg n.toNatClampNeg)) a = va_cpy (zR h a0) (zR h a) sp.toNatClampNeg dp.toNatClampNeg n.toNatClampNeg := up1_s _ _ _
    rw [entq (Or.inl rfl), e3]
    show (H.setIfInBounds (adr g a) nc)[adr g a]? = some (vp_cell _ _)
    rw [← hcell]
    simp [Array.getElem?_setIfInBounds, hl9]
  obtain ⟨t, a1, b1⟩ := kk p l e s m args below meth cd _ _ ls hC hR2 ⟨by simp; exact hS.1, fun q w1 w2 => by
      rw [oq q (fun e => w2 (by rw [e]; exact hR.adr_in ha1 q0))]
      exact hS.2.1 q w1 w2, fun q hq => by
      rcases List.mem_append.mp hq with h | h
      · exact hS.2.2 q h
      · obtain ⟨z, -, hz⟩ := List.mem_map.mp h
        rw [← hz]
        exact hR.adr_in ha1 q0⟩ hL hl g1 g2 _ hheap X'
  exact ⟨t, step t a1, b1⟩
theorem x_copyl {g : Gp} {M : MD} {pc i a0 a n0 n1 : Nat} {sp dp n : Int32} {L st : List AV} {h : AH} {u : Nat × Nat} {Q : PQ} (hw : acOk M i) (ha0 : zK h a0 = (3, n0)) (ha1 : zK h a = (3, n1)) (h1 : ¬ sp < 0) (h2 : ¬ dp < 0) (h3 : ¬ n < 0) (h4 : sp.toNatClampNeg + n.toNatClampNeg ≤ n0) (h5 : dp.toNatClampNeg + n.toNatClampNeg ≤ n1) (hdp : 1 ≤ mDp M) (hst : st.length ≤ 4) (hd : decode (mB M) pc = .ok (.invokestatic i, 3))
    (kk : Ex g M (pc + 3) L st (rwL h a (va_cpy (zL h a0) (zL h a) sp.toNatClampNeg dp.toNatClampNeg n.toNatClampNeg)) u Q) : Ex g M pc L (vI n :: vI dp :: vR a :: vI sp :: vR a0 :: st) h u Q := by
  intro p l e s m args below meth cd H locs ls hC hR hS hL hl g1 g2
  obtain ⟨hx, hb, hrt, hml, how, hts, hlk, hnm, hK, -⟩ := id hC
  intro T hT X
  have q0 : (3 : Nat) ≠ 0 := by decide
  have hc0 : H[adr g a0]? = some (vp_cell (gA g 3) (n0, .inr (.inl (zL h a0)))) := hR.at1 ha0 q0
  have hc1 : H[adr g a]? = some (vp_cell (gA g 3) (n1, .inr (.inl (zL h a)))) := hR.at1 ha1 q0
  obtain ⟨-, k0, hk0, cm0, hkk0⟩ := (hK.2 1 _ rfl).1 n0 (fun j => .long (zL h a0 j))
  obtain ⟨-, k1, hk1, cm1, hkk1⟩ := (hK.2 1 _ rfl).1 n1 (fun j => .long (zL h a j))
  have hrm := lr_room (g := g) (m := m) (pc := pc) (ls := ls) (st := (st.map (tv g))) hst
  obtain ⟨vm', X', step⟩ := X.arraycopy hx how (hts _ hw.1) (hts _ hw.2.1) (hts _ hw.2.2.1) (hts _ hw.2.2.2) (src := adr g a0) (dst := adr g a) (cs := vp_cell (gA g 3) (n0, .inr (.inl (zL h a0)))) (cd := vp_cell (gA g 3) (n1, .inr (.inl (zL h a)))) (srcPos := sp) (destPos := dp) (n := n) (by rw [hT]; exact hc0) (by rw [hT]; exact hc1)
    (fun _ h => by cases h) (fun _ h => by cases h) (fun h => by cases h) (fun h => by cases h) hk0 hk1 hkk0 hkk1 rfl h1 h2 h3
    (by rw [nn32 sp h1, nn32 n h3]; show ¬ _ > ((arrV (gA g 3) n0 (fun j => .long (zL h a0 j))).slots.size : Int); rw [arrV_size]; omega)
    (by rw [nn32 dp h2, nn32 n h3]; show ¬ _ > ((arrV (gA g 3) n1 (fun j => .long (zL h a j))).slots.size : Int); rw [arrV_size]; omega)
    (fun vm₁ hal j hj => by
      have e : (vp_cell (gA g 3) (n0, .inr (.inl (zL h a0)))).slots.getD (sp.toNatClampNeg + j) .null = .long (zL h a0 (sp.toNatClampNeg + j)) := by
        show (arrV (gA g 3) n0 (fun j => .long (zL h a0 j))).slots.getD _ _ = _
        rw [Array.getD_eq_getD_getElem?, arrV_read _ _ (by omega)]
        rfl
      refine ⟨?_, ?_⟩
      · rw [e]; rfl
      · rw [e]; exact trivial)
    (g := F0 m pc ls ((vI n :: vI dp :: vR a :: vI sp :: vR a0 :: st).map (tv g))) rfl (by rw [hml, ← hl]; exact hL.1) (rest := st.map (tv g)) (by rw [List.map_cons, List.map_cons, List.map_cons, List.map_cons, List.map_cons, tv_ref (hR.ne0 ha0 q0), tv_ref (hR.ne0 ha1 q0)]; rfl) (by rw [hb]; exact hd) hdp (by
      show 2 * 0 + _ + _ ≤ 64 * mDp M + 100
      have e8 : nativeFrameWords "java/lang/System" "arraycopy" 5 = 7 := by decide
      have : 2 * 0 + ((st.map (tv g)).map fun v => v.category).sum ≤ 8 := hrm
      rw [e8]
      omega)
  have e1 : copied (vp_cell (gA g 3) (n0, .inr (.inl (zL h a0)))) (vp_cell (gA g 3) (n1, .inr (.inl (zL h a)))) sp dp n = vp_cell (gA g 3) (n1, .inr (.inl (va_cpy (zL h a0) (zL h a) sp.toNatClampNeg dp.toNatClampNeg n.toNatClampNeg))) := va_copied (fun z => .long z) (gA g 3) (gA g 3) _ _ h4
  rw [e1] at X' step
  have hl9 : adr g a < H.size := (Array.getElem?_eq_some_iff.mp hc1).1
  generalize hcell : vp_cell (gA g 3) (n1, .inr (.inl (va_cpy (zL h a0) (zL h a) sp.toNatClampNeg dp.toNatClampNeg n.toNatClampNeg))) = nc at X' step
  have hheap : ((T.setVm vm').setCell (adr g a) nc).heap = H.setIfInBounds (adr g a) nc := by rw [← hT]; rfl
  have oq : ∀ q : Nat, q ≠ adr g a → (H.setIfInBounds (adr g a) nc)[q]? = H[q]? := fun q hq => by simp [Array.getElem?_setIfInBounds, Ne.symm hq]
  have hR2 : Rep g (rwL h a (va_cpy (zL h a0) (zL h a) sp.toNatClampNeg dp.toNatClampNeg n.toNatClampNeg)) (H.setIfInBounds (adr g a) nc) := by
    refine arr_put hR ha1 q0 rfl (fun _ => rfl) (fun b hb => ent_congr rfl rfl (up1_n _ _ hb) rfl rfl) ?_ (by simp) oq
    have e3 : zL (rwL h a (va_cpy (zL h a0) (zL h a) sp.toNatClampNeg dp.toNatClampNeg n.toNatClampNeg)) a = va_cpy (zL h a0) (zL h a) sp.toNatClampNeg dp.toNatClampNeg n.toNatClampNeg := up1_s _ _ _
    simp only [entk, e3]
    show (H.setIfInBounds (adr g a) nc)[adr g a]? = some (vp_cell _ _)
    rw [← hcell]
    simp [Array.getElem?_setIfInBounds, hl9]
  obtain ⟨t, a1, b1⟩ := kk p l e s m args below meth cd _ _ ls hC hR2 ⟨by simp; exact hS.1, fun q w1 w2 => by
      rw [oq q (fun e => w2 (by rw [e]; exact hR.adr_in ha1 q0))]
      exact hS.2.1 q w1 w2, fun q hq => by
      rcases List.mem_append.mp hq with h | h
      · exact hS.2.2 q h
      · obtain ⟨z, -, hz⟩ := List.mem_map.mp h
        rw [← hz]
        exact hR.adr_in ha1 q0⟩ hL hl g1 g2 _ hheap X'
  exact ⟨t, step t a1, b1⟩
end
section
/-! ===== throwing ===== -/
theorem Rep.bump {g : Gp} {h : AH} {H H1 : Heap} {n : Nat} (hR : Rep g h H) (hn : H1.size + 4 = gN g + n) (hz : H.size ≤ H1.size) (hold : ∀ q : Nat, q < H.size → H1[q]? = H[q]?) : Rep g (bump h n) H1 := by
  have h1 := hR.1
  have h2 := hR.2.1
  refine ⟨by show 4 ≤ n; omega, hn, fun a ha => ?_, fun a ha => ?_⟩
  · have ha2 : a < 4 ∨ n ≤ a := ha
    exact hR.2.2.1 a (by omega)
  · have hge := hR.ge (a := a) ha
    refine (hR.2.2.2 a ha).kept (hold _ ?_)
    show adr g a < _
    rw [adr_ge hge.1]
    omega
def xNames : List String := ["java/lang/RuntimeException", "java/lang/Exception"]
def ThOk (own : String) (ik ic : Nat) (cls : String) : Prop := Cond.classLink own ik cls ∈ lw_g ∧ Cond.initialized cls ∈ lw_g ∧ (∀ w ∈ (vx_atS own ic cls xNames).filter goodWord, w ∈ lw_tbl) ∧ (∀ w ∈ (vx_atS own ic cls xNames).filter (fun w => !goodWord w), w ∈ lw_tbl) ∧ ((vx_atS own ic cls xNames).filter (fun w => !goodWord w)).all isN = true ∧ (Cond.classLink own ik cls :: Cond.initialized cls :: vx_atS own ic cls xNames).all vx_ot = true ∧ Bundle.fit cls = true
theorem x_throw {g : Gp} {M : MD} {pc ik is ic k : Nat} {text : String} {L st : List AV} {h : AH} {u : Nat × Nat} {Q : PQ} (hH : mH M = []) (hok : ThOk (mO M) ik ic (exN k)) (hstr : ∀ s : State, Old g s → ∃ sa, vk_R (mO M) is text sa s) (hdp : 6 ≤ mDp M) (hst : st.length ≤ 4) (hu1 : u.1 + 1 ≤ mC M) (hu2 : u.2 + 6 ≤ mS M)
    (d0 : decode (mB M) pc = .ok (.new ik, 3)) (d3 : decode (mB M) (pc + 3) = .ok (.dup, 1)) (d4 : decode (mB M) (pc + 4) = .ok (.ldc_w is, 3)) (d7 : decode (mB M) (pc + 7) = .ok (.invokespecial ic, 3)) (d10 : decode (mB M) (pc + 10) = .ok (.athrow, 1))
    (hq : ∀ n, zN h ≤ n → Q (.inr k) (bump h n)) : Ex g M pc L st h u Q := by
  intro p l e s m args below meth cd H locs ls hC hR hS hL hl h1 h2
  obtain ⟨hx, hb, hrt, hml, how, hts, hlk, hnm, hK, hO, hlt, htb⟩ := id hC
  obtain ⟨k1, k2, k3, k4, k5, k6, k7⟩ := hok
  obtain ⟨sa, hsa⟩ := hstr s hO
  have hrm := lr_room (g := g) (m := m) (pc := pc) (ls := ls) (st := (st.map (tv g))) hst
  have hU := hO.2.2.2.2.2.2.2.1
  have hN := hO.2.2.2.2.2.2.2.2.1
  have h7 : 2 * 0 + ((st.map (tv g)).map fun v => v.category).sum ≤ 8 := hrm
  refine vx_throwSW (names := xNames) (sa := sa) hx hb hlt how k7 (by decide +kernel) (hts _ k1) (hts _ k2) hsa ?_ ?_ hU hN hS (by rw [hml, ← hl]; exact hL.1) d0 d3 d4 d7 d10 ?_ ?_ ?_ hu1 hu2 hlk ?_ hS.2.2 hu1 hu2
  · exact vx_hat (B := (vx_atS (mO M) ic (exN k) xNames).filter (fun w => !goodWord w)) (fun w hw => hts _ (lg_mem (k3 w hw) (List.mem_filter.mp hw).2)) (fun w hw => hw) (fun w hw => by
      have hn := List.all_eq_true.mp k5 w hw
      exact nw_use hn (hO.nw w (ln_mem (k4 w hw) hn)))
  · exact fun w hw => List.all_eq_true.mp k6 w hw
  · intro x hx9
    rw [htb, hH] at hx9
    exact absurd hx9 (by simp [tableOf])
  · show 2 + 3 < mDp M; omega
  · show _ + (13 * (2 + 1) + 43) ≤ 64 * mDp M + 100; omega
  · intro t hal hz hold
    have hge := hR.2.1
    have h3 := hR.1
    exact ⟨⟨k, bump h (t.heap.size + 4 - gN g), rfl, hq _ (by omega), hR.bump (by omega) hz hold⟩, (hS.grow hz hold).F rfl⟩
/-! ===== caught: a virtual call in a method with handlers; a handler begins with astore ===== -/
def CatchTo (g : Gp) (M : MD) (pc : Nat) (L : List AV) (u : Nat × Nat) (Q : PQ) (k : Nat) (h' : AH) : Prop :=
  ∃ (pre : List ExceptionTableEntry) (x : ExceptionTableEntry) (suf : List ExceptionTableEntry) (i n : Nat), tableOf (mH M) = pre ++ x :: suf ∧ (∀ z ∈ pre, z.catchType ≠ 0 ∧ ∃ j, 1 ≤ j ∧ j ≤ 3 ∧ j ≠ k ∧ Cond.classLink (mO M) z.catchType (exN j) ∈ lw_g) ∧ covers x pc = true ∧ x.catchType ≠ 0 ∧ 1 ≤ k ∧ k ≤ 3 ∧ Cond.classLink (mO M) x.catchType (exN k) ∈ lw_g ∧ Cond.castable (exN k) (exN k) ∈ lw_n ∧
    ((decode (mB M) x.handlerPc = .ok (.astore i, 2) ∧ n = 2) ∨ (∃ i4 : Fin 4, (i4 : Nat) = i ∧ decode (mB M) x.handlerPc = .ok (.astore_n i4, 1) ∧ n = 1)) ∧ i < L.length ∧ Ex g M (x.handlerPc + n) (st1 L i vU) [] h' u Q
theorem LR.set1U {g : Gp} {L : List AV} {ls' : Array Slot} {i : Nat} {n : Nat} {x : Value} (hn : n = L.length) (hi : i < L.length) (h : lv_has ls' n ((i, x) :: (lvp g L).filter (fun q => !(q.1 == i) && !(q.1 + 1 == i && q.2.category == 2)))) : LR g (st1 L i vU) ls' := by
  refine LR.of h (by rw [st1_len]; exact hn) (fun j hj => ?_)
  rw [st1_lg g _ _ _ _ hi] at hj ⊢
  by_cases h1 : j = i
  · subst h1
    simp at hj
  · rw [if_neg h1] at hj ⊢
    by_cases h2 : j + 1 = i ∧ (tv g (lg L j)).category = 2
    · rw [if_pos h2] at hj; exact absurd rfl hj
    · rw [if_neg h2] at hj ⊢
      refine List.mem_cons_of_mem _ (List.mem_filter.mpr ⟨lvp_mem.mpr ⟨lg_lt hj, hj, rfl⟩, ?_⟩)
      simp [h1]
      omega
theorem Ex.callVX {g : Gp} {M N : MD} {pc i x ci : Nat} {r : vw_C} {L rest av : List AV} {h : AH} {u : Nat × Nat} {Q Q' : PQ} (hN : MOk N av.length) (hcode : mH N = []) (hl : Cond.methodLink (mO M) i (mY N) ∈ lw_g) (hin : Cond.instanceMethod (mY N) ∈ lw_g) (hse : Cond.selects r.1 (mY N) (mY N) ∈ lw_g) (hc : clt[ci]? = some r) (hx0 : zK h x = (1, ci)) (hdp : mDp N + 1 ≤ mDp M) (h1 : u.1 + mC N ≤ mC M) (h2 : u.2 + mS N ≤ mS M) (hrest : rest.length ≤ 4) (hd : decode (mB M) pc = .ok (.invokevirtual i, 3))
    (ev : Ev g N (vR x :: av) h Q') (hk : ∀ v h', Q' (.inl v) h' → Ex g M (pc + 3) L (v.toList ++ rest) h' (u.1 + mC N, u.2 + mS N) Q) (hx : ∀ k h', Q' (.inr k) h' → CatchTo g M pc L (u.1 + mC N, u.2 + mS N) Q k h') : Ex g M pc L (av.reverse ++ vR x :: rest) h u Q := by
  intro p l e s m args below meth c H locs ls hC hR hS hL hl0 g1 g2
  obtain ⟨hX, hb, hrt, hml, how, hts, hlk, hnm, hK, hO, hlt, htb⟩ := id hC
  have hx3 : x ≠ 0 := fun h0 => by have := hR.2.2.1 x (Or.inl (by omega)); rw [hx0] at this; exact Nat.one_ne_zero this
  have hv : tv g (vR x) = .ref (adr g x) := by simp [tv, rv, hx3]
  refine Ex.fin (a := (Value.ref (adr g x) :: av.map (tv g)).toArray) (XK := CatchTo g M pc L (u.1 + mC N, u.2 + mS N) Q) hC hS hL hl0 h1 h2 ?_ hk hx ?_
  · refine vx_runV (b := adr g x) (C := r.1) (As := av.map (tv g)) (rest := rest.map (tv g)) ⟨hX, hb, hml, how, hts⟩ (ev l hlt) ⟨callB_M hC hN hcode hl hdp, hts _ hin, hts _ hse⟩ ⟨Pc.blind, rep_recv hR hK hx0 hc, fun U hU hW => ?_⟩ rfl (by simp) (by rw [← hl0]; exact hL.1) (by simp [hv]) (lr_room hrest) hd ⟨h1, h2⟩
    have := Pc.at (av := vR x :: av) hR hK hO hS U hU hW
    rw [List.map_cons, hv] at this
    exact this
  · intro k h' H1 locs1 q ce ⟨pre, xe, suf, i9, n9, z1, z2, z3, z4, z5, z6, z7, z8, z9, z10, z11⟩ y1 y2 y3 y4 y5
    refine vx_catch (own := mO M) (name := exN k) (E := exN k) (ce := ce) how pre xe suf (htb.trans z1) (fun z hz => Or.inr ⟨(z2 z hz).1, ?_⟩) z3 z4 (hts _ z7) (nw_use rfl (hO.nw _ z8)) y3 y4 y5 ?_
    · obtain ⟨-, j, j1, j2, j3, j4⟩ := z2 z hz
      exact ⟨exN j, hts _ j4, hO.2.2.2.2.2.2.2.2.2.2.2.2.2.1 k j z5 z6 j1 j2 (Ne.symm j3)⟩
    · rcases z9 with ⟨d9, rfl⟩ | ⟨i4, e4, d9, rfl⟩
      · exact lv_astore hX hb d9 hL.has z10 rfl (fun ls2 hl2 => z11 p l e s m args below meth c H1 locs1 ls2 hC y1 y2 (LR.set1U rfl z10 hl2) ((st1_len L _ _).trans hl0) h1 h2)
      · exact lv_astore_n hX hb d9 e4 hL.has z10 rfl (fun ls2 hl2 => z11 p l e s m args below meth c H1 locs1 ls2 hC y1 y2 (LR.set1U rfl z10 hl2) ((st1_len L _ _).trans hl0) h1 h2)
end
section
/-! ===== many instructions at one go (by program) ===== -/
abbrev OP : Type := Instr × Nat × (Nat × Nat × Nat) × AV
def isIv (v : AV) : Bool := match v with
  | .inl _ => true
  | _ => false
def isWv (v : AV) : Bool := match v with
  | .inr (.inl _) => true
  | .inr (.inr (.inl _)) => true
  | _ => false
def cat1 (v : AV) : Bool := match v with
  | .inl _ => true
  | .inr (.inr (.inr (.inl _))) => true
  | _ => false
theorem cat1_ok {g : Gp} {v : AV} (h : cat1 v = true) : (tv g v).category = 1 := by
  rcases v with x | x | x | x | x
  · rfl
  · exact absurd h (by simp [cat1])
  · exact absurd h (by simp [cat1])
  · rcases rv_or g x with e | ⟨a, e⟩ <;> (simp only [tv]; rw [e]; rfl)
  · exact absurd h (by simp [cat1])
def fwb (M : MD) (c k : Nat) : Bool := match clt[c]? with
  | some q => !(q.2.1 k).2.2.2 || ((mY M).name == "<init>" && (q.2.1 k).1 == mO M)
  | none => false
theorem fwb_ok {M : MD} {c k : Nat} (h : fwb M c k = true) : FWok M c k := by
  unfold fwb at h
  split at h
  · rename_i q hq
    refine ⟨q, hq, ?_⟩
    cases hb : (q.2.1 k).2.2.2 with
    | false => exact Or.inl rfl
    | true =>
      simp only [hb, Bool.not_true, Bool.false_or, Bool.and_eq_true, beq_iff_eq] at h
      exact Or.inr ⟨rfl, h.1, h.2⟩
  · exact absurd h (by simp)
theorem kd_eta {h : AH} {a t : Nat} (e : (zK h a).1 = t) : zK h a = (t, (zK h a).2) := by rw [← e]
theorem arrw : ∀ t, (t = 2 ∨ t = 3 ∨ t = 4 ∨ t = 5) → Cond.arrayClass (newarray.typeOf (atk t)) ∈ lw_g := by
  intro t ht
  rcases ht with rfl | rfl | rfl | rfl
  · exact lg_mem (by decide +kernel) rfl
  · exact lg_mem (by decide +kernel) rfl
  · exact lg_mem (by decide +kernel) rfl
  · exact lg_mem (by decide +kernel) rfl
def retI (r : Option FieldType) (a : Int32) : Prop := match r with
  | some .int => True
  | some .boolean => a = 0 ∨ a = 1
  | _ => False
theorem retI_ok {r : Option FieldType} {a : Int32} (h : retI r a) : ∃ ty, r = some ty ∧ narrow ty (.int a) = .int a := by
  unfold retI at h
  split at h
  · exact ⟨_, rfl, rfl⟩
  · rcases h with rfl | rfl <;> exact ⟨_, rfl, rfl⟩
  · exact absurd h id
def retA (r : Option FieldType) : Bool := match r with
  | some (.object _) => true
  | some (.array _) => true
  | _ => false
theorem retA_ok {r : Option FieldType} (h : retA r = true) : ∃ ty, r = some ty ∧ ((∃ n, ty = .object n) ∨ ∃ t, ty = .array t) := by
  unfold retA at h
  split at h
  · exact ⟨_, rfl, Or.inl ⟨_, rfl⟩⟩
  · exact ⟨_, rfl, Or.inr ⟨_, rfl⟩⟩
  · exact absurd h (by simp)
theorem Ex.len {g : Gp} {M : MD} {pc : Nat} {L st : List AV} {h : AH} {u : Nat × Nat} {Q : PQ} (k : L.length = mX M → Ex g M pc L st h u Q) : Ex g M pc L st h u Q :=
  fun p l e s m args below meth c H locs ls hC hR hS hL hl h1 h2 => k hl p l e s m args below meth c H locs ls hC hR hS hL hl h1 h2
def alen (h : AH) (a : Nat) : Int32 := if a = 2 then 0 else nI (zK h a).2
theorem x_alenG {g : Gp} {M : MD} {pc : Nat} {L st : List AV} {h : AH} {u : Nat × Nat} {Q : PQ} {a : Nat} (hc : a = 2 ∨ (2 ≤ (zK h a).1 ∧ (zK h a).1 ≤ 8)) (hd : decode (mB M) pc = .ok (.arraylength, 1)) (kk : Ex g M (pc + 1) L (vI (alen h a) :: st) h u Q) : Ex g M pc L (vR a :: st) h u Q := by
  by_cases e : a = 2
  · subst e
    exact x_elen hd kk
  · rcases hc with e2 | e2
    · exact absurd e2 e
    · have e3 : alen h a = nI (zK h a).2 := if_neg e
      rw [e3] at kk
      exact x_alen e2 (kd_eta rfl) hd kk
def inC (l : List (Nat × AV)) (k : Nat) (v : AV) : Bool := l.any (fun e => e.1 == k && decide (e.2 = v))
theorem inC_mem {l : List (Nat × AV)} {k : Nat} {v : AV} (h : inC l k v = true) : (k, v) ∈ l := by
  unfold inC at h
  obtain ⟨e, h1, h2⟩ := List.any_eq_true.mp h
  simp only [Bool.and_eq_true, beq_iff_eq, decide_eq_true_eq] at h2
  obtain ⟨h3, h4⟩ := h2
  subst h3
  subst h4
  exact h1
def COk (own : String) (e : Nat × AV) : Prop := match e.2 with
  | .inl a => Cond.constant own e.1 a ∈ lw_g
  | .inr (.inl a) => Cond.constantLong own e.1 a ∈ lw_g
  | .inr (.inr (.inl a)) => Cond.constantDouble own e.1 a ∈ lw_g
  | _ => False
def NOk (own : String) (e : Nat × Nat) : Prop := ∃ q : vw_C, clt[e.2]? = some q ∧ Cond.classLink own e.1 q.1 ∈ lw_g ∧ Cond.instantiable q.1 q.2.2 ∈ lw_g ∧ Cond.initialized q.1 ∈ lw_g ∧ ∀ k, k < q.2.2 → ftc (cty e.2 k) < 3
def XOk (own : String) (e : Nat × Nat) : Prop := ∃ q : vw_C, clt[e.2]? = some q ∧ Cond.classLink own e.1 q.1 ∈ lw_g
def CFok (f : CF) : Prop := (∀ e ∈ f.2.1, FOk f.1 e.1 e.2.1 e.2.2.1 e.2.2.2) ∧ (∀ e ∈ f.2.2.1, COk f.1 e) ∧ (∀ e ∈ f.2.2.2.1, NOk f.1 e) ∧ ∀ e ∈ f.2.2.2.2, XOk f.1 e

def run (M : MD) (Q : PQ) (K : Nat → List AV → List AV → AH → Nat × Nat → Prop) : List OP → Nat → List AV → List AV → AH → Nat × Nat → Prop
  | [], pc, L, st, h, u => K pc L st h u
  | (i, n, x, v) :: r, pc, L, st, h, u => match i with
    | .iconst k => run M Q K r (pc + n) L (v :: st) h u
    | .bipush k => run M Q K r (pc + n) L (v :: st) h u
    | .sipush k => run M Q K r (pc + n) L (v :: st) h u
    | .lconst k => run M Q K r (pc + n) L (v :: st) h u
    | .dconst k => run M Q K r (pc + n) L (v :: st) h u
    | .aconst_null => run M Q K r (pc + n) L (vR 0 :: st) h u
    | .ldc k => run M Q K r (pc + n) L (v :: st) h u
    | .ldc_w k => run M Q K r (pc + n) L (v :: st) h u
    | .ldc2_w k => run M Q K r (pc + n) L (v :: st) h u
    | .iload_n k => match lg L x.1 with
      | .inl a => run M Q K r (pc + n) L (vI a :: st) h u
      | _ => False
    | .istore_n k => match st with
      | .inl a :: s => run M Q K r (pc + n) (st1 L x.1 (vI a)) s h u
      | _ => False
    | .iload k => match lg L x.1 with
      | .inl a => run M Q K r (pc + n) L (vI a :: st) h u
      | _ => False
    | .istore k => match st with
      | .inl a :: s => run M Q K r (pc + n) (st1 L x.1 (vI a)) s h u
      | _ => False
    | .lload_n k => match lg L x.1 with
      | .inr (.inl a) => run M Q K r (pc + n) L (vL a :: st) h u
      | _ => False
    | .lstore_n k => match st with
      | .inr (.inl a) :: s => run M Q K r (pc + n) (st2 L x.1 (vL a)) s h u
      | _ => False
    | .lload k => match lg L x.1 with
      | .inr (.inl a) => run M Q K r (pc + n) L (vL a :: st) h u
      | _ => False
    | .lstore k => match st with
      | .inr (.inl a) :: s => run M Q K r (pc + n) (st2 L x.1 (vL a)) s h u
      | _ => False
    | .dload_n k => match lg L x.1 with
      | .inr (.inr (.inl a)) => run M Q K r (pc + n) L (vD a :: st) h u
      | _ => False
    | .dstore_n k => match st with
      | .inr (.inr (.inl a)) :: s => run M Q K r (pc + n) (st2 L x.1 (vD a)) s h u
      | _ => False
    | .dload k => match lg L x.1 with
      | .inr (.inr (.inl a)) => run M Q K r (pc + n) L (vD a :: st) h u
      | _ => False
    | .dstore k => match st with
      | .inr (.inr (.inl a)) :: s => run M Q K r (pc + n) (st2 L x.1 (vD a)) s h u
      | _ => False
    | .aload_n k => match lg L x.1 with
      | .inr (.inr (.inr (.inl a))) => run M Q K r (pc + n) L (vR a :: st) h u
      | _ => False
    | .astore_n k => match st with
      | .inr (.inr (.inr (.inl a))) :: s => run M Q K r (pc + n) (st1 L x.1 (vR a)) s h u
      | _ => False
    | .aload k => match lg L x.1 with
      | .inr (.inr (.inr (.inl a))) => run M Q K r (pc + n) L (vR a :: st) h u
      | _ => False
    | .astore k => match st with
      | .inr (.inr (.inr (.inl a))) :: s => run M Q K r (pc + n) (st1 L x.1 (vR a)) s h u
      | _ => False
    | .iinc k j => match lg L x.1 with
      | .inl a => (match v with
        | .inl w => run M Q K r (pc + n) (st1 L x.1 (vI (a + w))) st h u
        | _ => False)
      | _ => False
    | .iadd => match st with
      | .inl b :: .inl a :: s => run M Q K r (pc + n) L (vI (a + b) :: s) h u
      | _ => False
    | .isub => match st with
      | .inl b :: .inl a :: s => run M Q K r (pc + n) L (vI (a - b) :: s) h u
      | _ => False
    | .imul => match st with
      | .inl b :: .inl a :: s => run M Q K r (pc + n) L (vI (a * b) :: s) h u
      | _ => False
    | .iand => match st with
      | .inl b :: .inl a :: s => run M Q K r (pc + n) L (vI (a &&& b) :: s) h u
      | _ => False
    | .ior => match st with
      | .inl b :: .inl a :: s => run M Q K r (pc + n) L (vI (a ||| b) :: s) h u
      | _ => False
    | .ixor => match st with
      | .inl b :: .inl a :: s => run M Q K r (pc + n) L (vI (a ^^^ b) :: s) h u
      | _ => False
    | .ishl => match st with
      | .inl b :: .inl a :: s => run M Q K r (pc + n) L (vI (a <<< (b &&& 31)) :: s) h u
      | _ => False
    | .ishr => match st with
      | .inl b :: .inl a :: s => run M Q K r (pc + n) L (vI (a >>> (b &&& 31)) :: s) h u
      | _ => False
    | .iushr => match st with
      | .inl b :: .inl a :: s => run M Q K r (pc + n) L (vI ((a.toUInt32 >>> (b.toUInt32 &&& Int32.toUInt32 31)).toInt32) :: s) h u
      | _ => False
    | .idiv => match st with
      | .inl b :: .inl a :: s => b ≠ 0 ∧ run M Q K r (pc + n) L (vI (a / b) :: s) h u
      | _ => False
    | .irem => match st with
      | .inl b :: .inl a :: s => b ≠ 0 ∧ run M Q K r (pc + n) L (vI (a - a / b * b) :: s) h u
      | _ => False
    | .ladd => match st with
      | .inr (.inl b) :: .inr (.inl a) :: s => run M Q K r (pc + n) L (vL (a + b) :: s) h u
      | _ => False
    | .lsub => match st with
      | .inr (.inl b) :: .inr (.inl a) :: s => run M Q K r (pc + n) L (vL (a - b) :: s) h u
      | _ => False
    | .lmul => match st with
      | .inr (.inl b) :: .inr (.inl a) :: s => run M Q K r (pc + n) L (vL (a * b) :: s) h u
      | _ => False
    | .lor => match st with
      | .inr (.inl b) :: .inr (.inl a) :: s => run M Q K r (pc + n) L (vL (a ||| b) :: s) h u
      | _ => False
    | .land => match st with
      | .inr (.inl b) :: .inr (.inl a) :: s => run M Q K r (pc + n) L (vL (a &&& b) :: s) h u
      | _ => False
    | .lxor => match st with
      | .inr (.inl b) :: .inr (.inl a) :: s => run M Q K r (pc + n) L (vL (a ^^^ b) :: s) h u
      | _ => False
    | .ldiv => match st with
      | .inr (.inl b) :: .inr (.inl a) :: s => b ≠ 0 ∧ run M Q K r (pc + n) L (vL (a / b) :: s) h u
      | _ => False
    | .lrem => match st with
      | .inr (.inl b) :: .inr (.inl a) :: s => b ≠ 0 ∧ run M Q K r (pc + n) L (vL (a - a / b * b) :: s) h u
      | _ => False
    | .lushr => match st with
      | .inl b :: .inr (.inl a) :: s => run M Q K r (pc + n) L (vL ((a.toUInt64 >>> (b.toInt64.toUInt64 &&& Int64.toUInt64 63)).toInt64) :: s) h u
      | _ => False
    | .lshl => match st with
      | .inl b :: .inr (.inl a) :: s => run M Q K r (pc + n) L (vL (a <<< (b.toInt64 &&& 63)) :: s) h u
      | _ => False
    | .lcmp => match st with
      | .inr (.inl b) :: .inr (.inl a) :: s => run M Q K r (pc + n) L (vI (lg_cmp a b) :: s) h u
      | _ => False
    | .dcmp k => match st with
      | .inr (.inr (.inl b)) :: .inr (.inr (.inl a)) :: s => run M Q K r (pc + n) L (vI (Op.cmpValue (FP.dcmp a b) k) :: s) h u
      | _ => False
    | .ddiv => match st with
      | .inr (.inr (.inl b)) :: .inr (.inr (.inl a)) :: s => vf_n64 (FP.ddiv a b) ∧ run M Q K r (pc + n) L (vD (FP.ddiv a b) :: s) h u
      | _ => False
    | .i2l => match st with
      | .inl a :: s => run M Q K r (pc + n) L (vL a.toInt64 :: s) h u
      | _ => False
    | .l2i => match st with
      | .inr (.inl a) :: s => run M Q K r (pc + n) L (vI a.toInt32 :: s) h u
      | _ => False
    | .i2d => match st with
      | .inl a :: s => run M Q K r (pc + n) L (vD (FP.i2d a) :: s) h u
      | _ => False
    | .dup => match st with
      | a :: s => cat1 a = true ∧ run M Q K r (pc + n) L (a :: a :: s) h u
      | _ => False
    | .pop => match st with
      | a :: s => cat1 a = true ∧ run M Q K r (pc + n) L (s) h u
      | _ => False
    | .dup_x1 => match st with
      | a :: b :: s => cat1 a = true ∧ cat1 b = true ∧ run M Q K r (pc + n) L (a :: b :: a :: s) h u
      | _ => False
    | .dup_x2 => match st with
      | a :: b :: e :: s => cat1 a = true ∧ cat1 b = true ∧ cat1 e = true ∧ run M Q K r (pc + n) L (a :: b :: e :: a :: s) h u
      | _ => False
    | .dup2 => match st with
      | a :: b :: s => cat1 a = true ∧ cat1 b = true ∧ run M Q K r (pc + n) L (a :: b :: a :: b :: s) h u
      | _ => False
    | .ifCond .eq off => match st with
      | .inl a :: s => (a = 0 → K x.1 L s h u) ∧ (¬ a = 0 → run M Q K r (pc + n) L s h u)
      | _ => False
    | .if_icmp .eq off => match st with
      | .inl b :: .inl a :: s => (a = b → K x.1 L s h u) ∧ (¬ a = b → run M Q K r (pc + n) L s h u)
      | _ => False
    | .ifCond .ne off => match st with
      | .inl a :: s => (¬ a = 0 → K x.1 L s h u) ∧ (a = 0 → run M Q K r (pc + n) L s h u)
      | _ => False
    | .if_icmp .ne off => match st with
      | .inl b :: .inl a :: s => (¬ a = b → K x.1 L s h u) ∧ (a = b → run M Q K r (pc + n) L s h u)
      | _ => False
    | .ifCond .lt off => match st with
      | .inl a :: s => (a < 0 → K x.1 L s h u) ∧ (¬ a < 0 → run M Q K r (pc + n) L s h u)
      | _ => False
    | .if_icmp .lt off => match st with
      | .inl b :: .inl a :: s => (a < b → K x.1 L s h u) ∧ (¬ a < b → run M Q K r (pc + n) L s h u)
      | _ => False
    | .ifCond .ge off => match st with
      | .inl a :: s => (0 ≤ a → K x.1 L s h u) ∧ (¬ 0 ≤ a → run M Q K r (pc + n) L s h u)
      | _ => False
    | .if_icmp .ge off => match st with
      | .inl b :: .inl a :: s => (b ≤ a → K x.1 L s h u) ∧ (¬ b ≤ a → run M Q K r (pc + n) L s h u)
      | _ => False
    | .ifCond .gt off => match st with
      | .inl a :: s => (0 < a → K x.1 L s h u) ∧ (¬ 0 < a → run M Q K r (pc + n) L s h u)
      | _ => False
    | .if_icmp .gt off => match st with
      | .inl b :: .inl a :: s => (b < a → K x.1 L s h u) ∧ (¬ b < a → run M Q K r (pc + n) L s h u)
      | _ => False
    | .ifCond .le off => match st with
      | .inl a :: s => (a ≤ 0 → K x.1 L s h u) ∧ (¬ a ≤ 0 → run M Q K r (pc + n) L s h u)
      | _ => False
    | .if_icmp .le off => match st with
      | .inl b :: .inl a :: s => (a ≤ b → K x.1 L s h u) ∧ (¬ a ≤ b → run M Q K r (pc + n) L s h u)
      | _ => False
    | .goto off => run M Q K r x.1 L st h u
    | .getfield k => match st with
      | .inr (.inr (.inr (.inl a))) :: s => zK h a = (1, x.1) ∧ run M Q K r (pc + n) L (fvv h x.2.2 a x.2.1 :: s) h u
      | _ => False
    | .putfield k => match st with
      | w :: .inr (.inr (.inr (.inl a))) :: s => zK h a = (1, x.1) ∧ kind3 w = x.2.2 ∧ run M Q K r (pc + n) L s (sfv h a x.2.1 w) u
      | _ => False
    | .iaload => match st with
      | .inl i :: .inr (.inr (.inr (.inl a))) :: s => (zK h a).1 = 2 ∧ vp_in i (zK h a).2 ∧ run M Q K r (pc + n) L (vI (zI h a i.toNatClampNeg) :: s) h u
      | _ => False
    | .laload => match st with
      | .inl i :: .inr (.inr (.inr (.inl a))) :: s => (zK h a).1 = 3 ∧ vp_in i (zK h a).2 ∧ run M Q K r (pc + n) L (vL (zL h a i.toNatClampNeg) :: s) h u
      | _ => False
    | .baload => match st with
      | .inl i :: .inr (.inr (.inr (.inl a))) :: s => (zK h a).1 = 4 ∧ vp_in i (zK h a).2 ∧ run M Q K r (pc + n) L (vI (zI h a i.toNatClampNeg) :: s) h u
      | _ => False
    | .daload => match st with
      | .inl i :: .inr (.inr (.inr (.inl a))) :: s => (zK h a).1 = 5 ∧ vp_in i (zK h a).2 ∧ run M Q K r (pc + n) L (vD (zD h a i.toNatClampNeg) :: s) h u
      | _ => False
    | .aaload => match st with
      | .inl i :: .inr (.inr (.inr (.inl a))) :: s => ((zK h a).1 = 6 ∨ (zK h a).1 = 7 ∨ (zK h a).1 = 8) ∧ vp_in i (zK h a).2 ∧ run M Q K r (pc + n) L (vR (zR h a i.toNatClampNeg) :: s) h u
      | _ => False
    | .iastore => match st with
      | .inl w :: .inl i :: .inr (.inr (.inr (.inl a))) :: s0 => (zK h a).1 = 2 ∧ vp_in i (zK h a).2 ∧ run M Q K r (pc + n) L s0 (sI h a i.toNatClampNeg w) u
      | _ => False
    | .lastore => match st with
      | .inr (.inl w) :: .inl i :: .inr (.inr (.inr (.inl a))) :: s0 => (zK h a).1 = 3 ∧ vp_in i (zK h a).2 ∧ run M Q K r (pc + n) L s0 (sL h a i.toNatClampNeg w) u
      | _ => False
    | .bastore => match st with
      | .inl w :: .inl i :: .inr (.inr (.inr (.inl a))) :: s0 => (zK h a).1 = 4 ∧ vp_in i (zK h a).2 ∧ (w = 0 ∨ w = 1) ∧ run M Q K r (pc + n) L s0 (sI h a i.toNatClampNeg w) u
      | _ => False
    | .dastore => match st with
      | .inr (.inr (.inl w)) :: .inl i :: .inr (.inr (.inr (.inl a))) :: s0 => (zK h a).1 = 5 ∧ vp_in i (zK h a).2 ∧ run M Q K r (pc + n) L s0 (sD h a i.toNatClampNeg w) u
      | _ => False
    | .arraylength => match st with
      | .inr (.inr (.inr (.inl a))) :: s => (match x.1 with
        | 1 => (a = 2 ∨ (2 ≤ (zK h a).1 ∧ (zK h a).1 ≤ 8)) ∧ run M Q K r (pc + n) L (vI (alen h a) :: s) h u
        | _ => (2 ≤ (zK h a).1 ∧ (zK h a).1 ≤ 8) ∧ run M Q K r (pc + n) L (vI (nI (zK h a).2) :: s) h u)
      | _ => False
    | .newarray k => match st with
      | .inl i :: s => ¬ i < 0 ∧ i.toNatClampNeg ≤ 60000000 ∧ u.1 + 1 ≤ mC M ∧ u.2 + i.toNatClampNeg ≤ mS M ∧ run M Q K r (pc + n) L (vR (zN h) :: s) (nw h (x.1, i.toNatClampNeg)) (u.1 + 1, u.2 + i.toNatClampNeg)
      | _ => False
    | .new k => u.1 + 1 ≤ mC M ∧ u.2 + nfl x.1 ≤ mS M ∧ run M Q K r (pc + n) L (vR (zN h) :: st) (nw h (1, x.1)) (u.1 + 1, u.2 + nfl x.1)
    | .checkcast k => match st with
      | .inr (.inr (.inr (.inl a))) :: s => zK h a = (1, x.1) ∧ run M Q K r (pc + n) L (vR a :: s) h u
      | _ => False
    | .ireturn => match st with
      | [.inl a] => retI (mR M) a ∧ Q (.inl (some (vI a))) h
      | _ => False
    | .lreturn => match st with
      | [.inr (.inl a)] => mR M = some .long ∧ Q (.inl (some (vL a))) h
      | _ => False
    | .dreturn => match st with
      | [.inr (.inr (.inl a))] => mR M = some .double ∧ Q (.inl (some (vD a))) h
      | _ => False
    | .areturn => match st with
      | [.inr (.inr (.inr (.inl a)))] => retA (mR M) = true ∧ Q (.inl (some (vR a))) h
      | _ => False
    | .return_ => match st with
      | [] => mR M = none ∧ Q (.inl none) h
      | _ => False
    | _ => False
def okOp (M : MD) (i : Instr) (n : Nat) (x : Nat × Nat × Nat) (v : AV) (pc : Nat) : Bool := match i with
    | .iconst k => n == 1 && decide (v = vI (Int32.ofInt k))
    | .bipush k => n == 2 && decide (v = vI ((Int8.ofInt k).toInt32))
    | .sipush k => n == 3 && decide (v = vI ((Int16.ofInt k).toInt32))
    | .lconst k => n == 1 && decide (v = vL (Int64.ofNat (k : Nat)))
    | .dconst k => n == 1 && k == 0 && decide (v = vD FP.dconst0)
    | .aconst_null => n == 1
    | .ldc k => n == 2 && isIv v && inC (mF M).2.2.1 k v
    | .ldc_w k => n == 3 && isIv v && inC (mF M).2.2.1 k v
    | .ldc2_w k => n == 3 && isWv v && inC (mF M).2.2.1 k v
    | .iload_n k => n == 1 && x.1 == (k : Nat)
    | .istore_n k => n == 1 && x.1 == (k : Nat) && decide (x.1 < mX M)
    | .iload k => n == 2 && x.1 == (k : Nat)
    | .istore k => n == 2 && x.1 == (k : Nat) && decide (x.1 < mX M)
    | .lload_n k => n == 1 && x.1 == (k : Nat)
    | .lstore_n k => n == 1 && x.1 == (k : Nat) && decide (x.1 + 1 < mX M)
    | .lload k => n == 2 && x.1 == (k : Nat)
    | .lstore k => n == 2 && x.1 == (k : Nat) && decide (x.1 + 1 < mX M)
    | .dload_n k => n == 1 && x.1 == (k : Nat)
    | .dstore_n k => n == 1 && x.1 == (k : Nat) && decide (x.1 + 1 < mX M)
    | .dload k => n == 2 && x.1 == (k : Nat)
    | .dstore k => n == 2 && x.1 == (k : Nat) && decide (x.1 + 1 < mX M)
    | .aload_n k => n == 1 && x.1 == (k : Nat)
    | .astore_n k => n == 1 && x.1 == (k : Nat) && decide (x.1 < mX M)
    | .aload k => n == 2 && x.1 == (k : Nat)
    | .astore k => n == 2 && x.1 == (k : Nat) && decide (x.1 < mX M)
    | .iinc k j => n == 3 && x.1 == k && decide (v = vI (Int32.ofInt j))
    | .iadd => n == 1
    | .isub => n == 1
    | .imul => n == 1
    | .iand => n == 1
    | .ior => n == 1
    | .ixor => n == 1
    | .ishl => n == 1
    | .ishr => n == 1
    | .iushr => n == 1
    | .idiv => n == 1
    | .irem => n == 1
    | .ladd => n == 1
    | .lsub => n == 1
    | .lmul => n == 1
    | .lor => n == 1
    | .land => n == 1
    | .lxor => n == 1
    | .ldiv => n == 1
    | .lrem => n == 1
    | .lushr => n == 1
    | .lshl => n == 1
    | .lcmp => n == 1
    | .dcmp k => n == 1
    | .ddiv => n == 1
    | .i2l => n == 1
    | .l2i => n == 1
    | .i2d => n == 1
    | .dup => n == 1
    | .pop => n == 1
    | .dup_x1 => n == 1
    | .dup_x2 => n == 1
    | .dup2 => n == 1
    | .ifCond .eq off => n == 3 && decide ((pc : Int) + off = (x.1 : Int))
    | .if_icmp .eq off => n == 3 && decide ((pc : Int) + off = (x.1 : Int))
    | .ifCond .ne off => n == 3 && decide ((pc : Int) + off = (x.1 : Int))
    | .if_icmp .ne off => n == 3 && decide ((pc : Int) + off = (x.1 : Int))
    | .ifCond .lt off => n == 3 && decide ((pc : Int) + off = (x.1 : Int))
    | .if_icmp .lt off => n == 3 && decide ((pc : Int) + off = (x.1 : Int))
    | .ifCond .ge off => n == 3 && decide ((pc : Int) + off = (x.1 : Int))
    | .if_icmp .ge off => n == 3 && decide ((pc : Int) + off = (x.1 : Int))
    | .ifCond .gt off => n == 3 && decide ((pc : Int) + off = (x.1 : Int))
    | .if_icmp .gt off => n == 3 && decide ((pc : Int) + off = (x.1 : Int))
    | .ifCond .le off => n == 3 && decide ((pc : Int) + off = (x.1 : Int))
    | .if_icmp .le off => n == 3 && decide ((pc : Int) + off = (x.1 : Int))
    | .goto off => n == 3 && decide ((pc : Int) + off = (x.1 : Int))
    | .getfield k => n == 3 && (mF M).2.1.elem (k, x.1, x.2.1, x.2.2)
    | .putfield k => n == 3 && (mF M).2.1.elem (k, x.1, x.2.1, x.2.2) && fwb M x.1 x.2.1
    | .iaload => n == 1
    | .laload => n == 1
    | .baload => n == 1
    | .daload => n == 1
    | .aaload => n == 1
    | .iastore => n == 1
    | .lastore => n == 1
    | .bastore => n == 1
    | .dastore => n == 1
    | .arraylength => n == 1
    | .newarray k => n == 2 && decide (k = atk x.1) && (x.1 == 2 || x.1 == 3 || x.1 == 4 || x.1 == 5)
    | .new k => n == 3 && (mF M).2.2.2.1.elem (k, x.1)
    | .checkcast k => n == 3 && (mF M).2.2.2.2.elem (k, x.1)
    | .ireturn => n == 1
    | .lreturn => n == 1
    | .dreturn => n == 1
    | .areturn => n == 1
    | .return_ => n == 1
    | _ => false
def nxt (i : Instr) (n : Nat) (x : Nat × Nat × Nat) (pc : Nat) : Nat := match i with
  | .goto _ => x.1
  | _ => pc + n
def okAt (M : MD) : List OP → Nat → Bool
  | [], _ => true
  | (i, n, x, v) :: r, pc => decide (decode (mB M) pc = .ok (i, n)) && okOp M i n x v pc && okAt M r (nxt i n x pc)
theorem run_ok {g : Gp} {M : MD} {Q : PQ} {K : Nat → List AV → List AV → AH → Nat × Nat → Prop} (cf : CFok (mF M)) (hK : ∀ pc L st h u, K pc L st h u → Ex g M pc L st h u Q) : ∀ (ops : List OP) (pc : Nat) (L st : List AV) (h : AH) (u : Nat × Nat), okAt M ops pc = true → run M Q K ops pc L st h u → Ex g M pc L st h u Q := by
  intro ops
  induction ops with
  | nil => intro pc L st h u _ hr; exact hK _ _ _ _ _ hr
  | cons op r ih0 =>
  intro pc L st h u ho hr
  obtain ⟨i, n, x, v⟩ := op
  simp only [okAt, Bool.and_eq_true, decide_eq_true_eq] at ho
  obtain ⟨⟨d, o⟩, oo⟩ := ho
  match i, d, o, oo, hr with
  | .iconst k, d, o, oo, hr =>
    simp only [okOp, Bool.and_eq_true, beq_iff_eq, decide_eq_true_eq] at o; obtain ⟨rfl, rfl⟩ := o; exact x_iconst rfl d (ih0 _ _ _ _ _ oo hr)
  | .bipush k, d, o, oo, hr =>
    simp only [okOp, Bool.and_eq_true, beq_iff_eq, decide_eq_true_eq] at o; obtain ⟨rfl, rfl⟩ := o; exact x_bipush rfl d (ih0 _ _ _ _ _ oo hr)
  | .sipush k, d, o, oo, hr =>
    simp only [okOp, Bool.and_eq_true, beq_iff_eq, decide_eq_true_eq] at o; obtain ⟨rfl, rfl⟩ := o; exact x_sipush rfl d (ih0 _ _ _ _ _ oo hr)
  | .lconst k, d, o, oo, hr =>
    simp only [okOp, Bool.and_eq_true, beq_iff_eq, decide_eq_true_eq] at o; obtain ⟨rfl, rfl⟩ := o; exact x_lconst rfl d (ih0 _ _ _ _ _ oo hr)
  | .dconst k, d, o, oo, hr =>
    simp only [okOp, Bool.and_eq_true, beq_iff_eq, decide_eq_true_eq] at o; obtain ⟨⟨rfl, rfl⟩, rfl⟩ := o; exact x_dconst0 d (ih0 _ _ _ _ _ oo hr)
  | .aconst_null, d, o, oo, hr =>
    simp only [okOp, beq_iff_eq] at o; subst o; exact x_null d (ih0 _ _ _ _ _ oo hr)
  | .ldc k, d, o, oo, hr =>
    simp only [okOp, Bool.and_eq_true, beq_iff_eq, List.elem_eq_mem, decide_eq_true_eq] at o
    obtain ⟨⟨rfl, o2⟩, o3⟩ := o
    have hc := cf.2.1 _ (inC_mem o3)
    rcases v with y | y | y | y | y
    · exact x_ldc hc d (ih0 _ _ _ _ _ oo hr)
    · simp [isIv] at o2
    · simp [isIv] at o2
    · simp [isIv] at o2
    · simp [isIv] at o2
  | .ldc_w k, d, o, oo, hr =>
    simp only [okOp, Bool.and_eq_true, beq_iff_eq, List.elem_eq_mem, decide_eq_true_eq] at o
    obtain ⟨⟨rfl, o2⟩, o3⟩ := o
    have hc := cf.2.1 _ (inC_mem o3)
    rcases v with y | y | y | y | y
    · exact x_ldcw hc d (ih0 _ _ _ _ _ oo hr)
    · simp [isIv] at o2
    · simp [isIv] at o2
    · simp [isIv] at o2
    · simp [isIv] at o2
  | .ldc2_w k, d, o, oo, hr =>
    simp only [okOp, Bool.and_eq_true, beq_iff_eq, List.elem_eq_mem, decide_eq_true_eq] at o
    obtain ⟨⟨rfl, o2⟩, o3⟩ := o
    have hc := cf.2.1 _ (inC_mem o3)
    rcases v with y | y | y | y | y
    · simp [isWv] at o2
    · exact x_ldc2 hc d (ih0 _ _ _ _ _ oo hr)
    · exact x_ldc2d hc d (ih0 _ _ _ _ _ oo hr)
    · simp [isWv] at o2
    · simp [isWv] at o2
  | .iload_n k, d, o, oo, hr =>
    simp only [okOp, Bool.and_eq_true, beq_iff_eq, decide_eq_true_eq] at o
    obtain ⟨rfl, o2⟩ := o
    simp only [run] at hr
    split at hr
    · rename_i hv; exact x_iload_n o2.symm hv d (ih0 _ _ _ _ _ oo hr)
    · exact absurd hr id
  | .istore_n k, d, o, oo, hr =>
    simp only [okOp, Bool.and_eq_true, beq_iff_eq, decide_eq_true_eq] at o
    obtain ⟨⟨rfl, o2⟩, o3⟩ := o
    simp only [run] at hr
    split at hr
    · exact Ex.len (fun hl => x_istore_n o2.symm (by rw [hl]; exact o3) d (by exact ih0 _ _ _ _ _ oo hr))
    · exact absurd hr id
  | .iload k, d, o, oo, hr =>
    simp only [okOp, Bool.and_eq_true, beq_iff_eq, decide_eq_true_eq] at o
    obtain ⟨rfl, o2⟩ := o
    simp only [run] at hr
    split at hr
    · rename_i hv; exact x_iload (by rw [← o2]; exact hv) d (ih0 _ _ _ _ _ oo hr)
    · exact absurd hr id
  | .istore k, d, o, oo, hr =>
    simp only [okOp, Bool.and_eq_true, beq_iff_eq, decide_eq_true_eq] at o
    obtain ⟨⟨rfl, o2⟩, o3⟩ := o
    simp only [run] at hr
    split at hr
    · exact Ex.len (fun hl => x_istore (by rw [← o2, hl]; exact o3) d (by rw [← o2]; exact ih0 _ _ _ _ _ oo hr))
    · exact absurd hr id
  | .lload_n k, d, o, oo, hr =>
    simp only [okOp, Bool.and_eq_true, beq_iff_eq, decide_eq_true_eq] at o
    obtain ⟨rfl, o2⟩ := o
    simp only [run] at hr
    split at hr
    · rename_i hv; exact x_lload_n o2.symm hv d (ih0 _ _ _ _ _ oo hr)
    · exact absurd hr id
  | .lstore_n k, d, o, oo, hr =>
    simp only [okOp, Bool.and_eq_true, beq_iff_eq, decide_eq_true_eq] at o
    obtain ⟨⟨rfl, o2⟩, o3⟩ := o
    simp only [run] at hr
    split at hr
    · exact Ex.len (fun hl => x_lstore_n o2.symm (by rw [hl]; exact o3) d (by exact ih0 _ _ _ _ _ oo hr))
    · exact absurd hr id
  | .lload k, d, o, oo, hr =>
    simp only [okOp, Bool.and_eq_true, beq_iff_eq, decide_eq_true_eq] at o
    obtain ⟨rfl, o2⟩ := o
    simp only [run] at hr
    split at hr
    · rename_i hv; exact x_lload (by rw [← o2]; exact hv) d (ih0 _ _ _ _ _ oo hr)
    · exact absurd hr id
  | .lstore k, d, o, oo, hr =>
    simp only [okOp, Bool.and_eq_true, beq_iff_eq, decide_eq_true_eq] at o
    obtain ⟨⟨rfl, o2⟩, o3⟩ := o
    simp only [run] at hr
    split at hr
    · exact Ex.len (fun hl => x_lstore (by rw [← o2, hl]; exact o3) d (by rw [← o2]; exact ih0 _ _ _ _ _ oo hr))
    · exact absurd hr id
  | .dload_n k, d, o, oo, hr =>
    simp only [okOp, Bool.and_eq_true, beq_iff_eq, decide_eq_true_eq] at o
    obtain ⟨rfl, o2⟩ := o
    simp only [run] at hr
    split at hr
    · rename_i hv; exact x_dload_n o2.symm hv d (ih0 _ _ _ _ _ oo hr)
    · exact absurd hr id
  | .dstore_n k, d, o, oo, hr =>
    simp only [okOp, Bool.and_eq_true, beq_iff_eq, decide_eq_true_eq] at o
    obtain ⟨⟨rfl, o2⟩, o3⟩ := o
    simp only [run] at hr
    split at hr
    · exact Ex.len (fun hl => x_dstore_n o2.symm (by rw [hl]; exact o3) d (by exact ih0 _ _ _ _ _ oo hr))
    · exact absurd hr id
  | .dload k, d, o, oo, hr =>
    simp only [okOp, Bool.and_eq_true, beq_iff_eq, decide_eq_true_eq] at o
    obtain ⟨rfl, o2⟩ := o
    simp only [run] at hr
    split at hr
    · rename_i hv; exact x_dload (by rw [← o2]; exact hv) d (ih0 _ _ _ _ _ oo hr)
    · exact absurd hr id
  | .dstore k, d, o, oo, hr =>
    simp only [okOp, Bool.and_eq_true, beq_iff_eq, decide_eq_true_eq] at o
    obtain ⟨⟨rfl, o2⟩, o3⟩ := o
    simp only [run] at hr
    split at hr
    · exact Ex.len (fun hl => x_dstore (by rw [← o2, hl]; exact o3) d (by rw [← o2]; exact ih0 _ _ _ _ _ oo hr))
    · exact absurd hr id
  | .aload_n k, d, o, oo, hr =>
    simp only [okOp, Bool.and_eq_true, beq_iff_eq, decide_eq_true_eq] at o
    obtain ⟨rfl, o2⟩ := o
    simp only [run] at hr
    split at hr
    · rename_i hv; exact x_aload_n o2.symm hv d (ih0 _ _ _ _ _ oo hr)
    · exact absurd hr id
  | .astore_n k, d, o, oo, hr =>
    simp only [okOp, Bool.and_eq_true, beq_iff_eq, decide_eq_true_eq] at o
    obtain ⟨⟨rfl, o2⟩, o3⟩ := o
    simp only [run] at hr
    split at hr
    · exact Ex.len (fun hl => x_astore_n o2.symm (by rw [hl]; exact o3) d (by exact ih0 _ _ _ _ _ oo hr))
    · exact absurd hr id
  | .aload k, d, o, oo, hr =>
    simp only [okOp, Bool.and_eq_true, beq_iff_eq, decide_eq_true_eq] at o
    obtain ⟨rfl, o2⟩ := o
    simp only [run] at hr
    split at hr
    · rename_i hv; exact x_aload (by rw [← o2]; exact hv) d (ih0 _ _ _ _ _ oo hr)
    · exact absurd hr id
  | .astore k, d, o, oo, hr =>
    simp only [okOp, Bool.and_eq_true, beq_iff_eq, decide_eq_true_eq] at o
    obtain ⟨⟨rfl, o2⟩, o3⟩ := o
    simp only [run] at hr
    split at hr
    · exact Ex.len (fun hl => x_astore (by rw [← o2, hl]; exact o3) d (by rw [← o2]; exact ih0 _ _ _ _ _ oo hr))
    · exact absurd hr id
  | .iinc k j, d, o, oo, hr =>
    simp only [okOp, Bool.and_eq_true, beq_iff_eq, decide_eq_true_eq] at o
    obtain ⟨⟨rfl, rfl⟩, rfl⟩ := o
    simp only [run] at hr
    split at hr
    · rename_i hv; exact x_iinc hv rfl d (ih0 _ _ _ _ _ oo hr)
    · exact absurd hr id
  | .iadd, d, o, oo, hr =>
    simp only [okOp, beq_iff_eq] at o
    subst o
    simp only [run] at hr
    split at hr
    · exact x_iadd d (ih0 _ _ _ _ _ oo hr)
    · exact absurd hr id
  | .isub, d, o, oo, hr =>
    simp only [okOp, beq_iff_eq] at o
    subst o
    simp only [run] at hr
    split at hr
    · exact x_isub d (ih0 _ _ _ _ _ oo hr)
    · exact absurd hr id
  | .imul, d, o, oo, hr =>
    simp only [okOp, beq_iff_eq] at o
    subst o
    simp only [run] at hr
    split at hr
    · exact x_imul d (ih0 _ _ _ _ _ oo hr)
    · exact absurd hr id
  | .iand, d, o, oo, hr =>
    simp only [okOp, beq_iff_eq] at o
    subst o
    simp only [run] at hr
    split at hr
    · exact x_iand d (ih0 _ _ _ _ _ oo hr)
    · exact absurd hr id
  | .ior, d, o, oo, hr =>
    simp only [okOp, beq_iff_eq] at o
    subst o
    simp only [run] at hr
    split at hr
    · exact x_ior d (ih0 _ _ _ _ _ oo hr)
    · exact absurd hr id
  | .ixor, d, o, oo, hr =>
    simp only [okOp, beq_iff_eq] at o
    subst o
    simp only [run] at hr
    split at hr
    · exact x_ixor d (ih0 _ _ _ _ _ oo hr)
    · exact absurd hr id
  | .ishl, d, o, oo, hr =>
    simp only [okOp, beq_iff_eq] at o
    subst o
    simp only [run] at hr
    split at hr
    · exact x_ishl d (ih0 _ _ _ _ _ oo hr)
    · exact absurd hr id
  | .ishr, d, o, oo, hr =>
    simp only [okOp, beq_iff_eq] at o
    subst o
    simp only [run] at hr
    split at hr
    · exact x_ishr d (ih0 _ _ _ _ _ oo hr)
    · exact absurd hr id
  | .iushr, d, o, oo, hr =>
    simp only [okOp, beq_iff_eq] at o
    subst o
    simp only [run] at hr
    split at hr
    · exact x_iushr d (ih0 _ _ _ _ _ oo hr)
    · exact absurd hr id
  | .idiv, d, o, oo, hr =>
    simp only [okOp, beq_iff_eq] at o
    subst o
    simp only [run] at hr
    split at hr
    · exact x_idiv hr.1 d (ih0 _ _ _ _ _ oo hr.2)
    · exact absurd hr id
  | .irem, d, o, oo, hr =>
    simp only [okOp, beq_iff_eq] at o
    subst o
    simp only [run] at hr
    split at hr
    · exact x_irem hr.1 d (ih0 _ _ _ _ _ oo hr.2)
    · exact absurd hr id
  | .ladd, d, o, oo, hr =>
    simp only [okOp, beq_iff_eq] at o
    subst o
    simp only [run] at hr
    split at hr
    · exact x_ladd d (ih0 _ _ _ _ _ oo hr)
    · exact absurd hr id
  | .lsub, d, o, oo, hr =>
    simp only [okOp, beq_iff_eq] at o
    subst o
    simp only [run] at hr
    split at hr
    · exact x_lsub d (ih0 _ _ _ _ _ oo hr)
    · exact absurd hr id
  | .lmul, d, o, oo, hr =>
    simp only [okOp, beq_iff_eq] at o
    subst o
    simp only [run] at hr
    split at hr
    · exact x_lmul d (ih0 _ _ _ _ _ oo hr)
    · exact absurd hr id
  | .lor, d, o, oo, hr =>
    simp only [okOp, beq_iff_eq] at o
    subst o
    simp only [run] at hr
    split at hr
    · exact x_lor d (ih0 _ _ _ _ _ oo hr)
    · exact absurd hr id
  | .land, d, o, oo, hr =>
    simp only [okOp, beq_iff_eq] at o
    subst o
    simp only [run] at hr
    split at hr
    · exact x_land d (ih0 _ _ _ _ _ oo hr)
    · exact absurd hr id
  | .lxor, d, o, oo, hr =>
    simp only [okOp, beq_iff_eq] at o
    subst o
    simp only [run] at hr
    split at hr
    · exact x_lxor d (ih0 _ _ _ _ _ oo hr)
    · exact absurd hr id
  | .ldiv, d, o, oo, hr =>
    simp only [okOp, beq_iff_eq] at o
    subst o
    simp only [run] at hr
    split at hr
    · exact x_ldiv hr.1 d (ih0 _ _ _ _ _ oo hr.2)
    · exact absurd hr id
  | .lrem, d, o, oo, hr =>
    simp only [okOp, beq_iff_eq] at o
    subst o
    simp only [run] at hr
    split at hr
    · exact x_lrem hr.1 d (ih0 _ _ _ _ _ oo hr.2)
    · exact absurd hr id
  | .lushr, d, o, oo, hr =>
    simp only [okOp, beq_iff_eq] at o
    subst o
    simp only [run] at hr
    split at hr
    · exact x_lushr d (ih0 _ _ _ _ _ oo hr)
    · exact absurd hr id
  | .lshl, d, o, oo, hr =>
    simp only [okOp, beq_iff_eq] at o
    subst o
    simp only [run] at hr
    split at hr
    · exact x_lshl d (ih0 _ _ _ _ _ oo hr)
    · exact absurd hr id
  | .lcmp, d, o, oo, hr =>
    simp only [okOp, beq_iff_eq] at o
    subst o
    simp only [run] at hr
    split at hr
    · exact x_lcmp d (ih0 _ _ _ _ _ oo hr)
    · exact absurd hr id
  | .dcmp k, d, o, oo, hr =>
    simp only [okOp, beq_iff_eq] at o
    subst o
    simp only [run] at hr
    split at hr
    · exact x_dcmp d (ih0 _ _ _ _ _ oo hr)
    · exact absurd hr id
  | .ddiv, d, o, oo, hr =>
    simp only [okOp, beq_iff_eq] at o
    subst o
    simp only [run] at hr
    split at hr
    · exact x_ddiv hr.1 d (ih0 _ _ _ _ _ oo hr.2)
    · exact absurd hr id
  | .i2l, d, o, oo, hr =>
    simp only [okOp, beq_iff_eq] at o
    subst o
    simp only [run] at hr
    split at hr
    · exact x_i2l d (ih0 _ _ _ _ _ oo hr)
    · exact absurd hr id
  | .l2i, d, o, oo, hr =>
    simp only [okOp, beq_iff_eq] at o
    subst o
    simp only [run] at hr
    split at hr
    · exact x_l2i d (ih0 _ _ _ _ _ oo hr)
    · exact absurd hr id
  | .i2d, d, o, oo, hr =>
    simp only [okOp, beq_iff_eq] at o
    subst o
    simp only [run] at hr
    split at hr
    · exact x_i2d d (ih0 _ _ _ _ _ oo hr)
    · exact absurd hr id
  | .dup, d, o, oo, hr =>
    simp only [okOp, beq_iff_eq] at o
    subst o
    simp only [run] at hr
    split at hr
    · exact x_dup (cat1_ok hr.1) d (ih0 _ _ _ _ _ oo hr.2)
    · exact absurd hr id
  | .pop, d, o, oo, hr =>
    simp only [okOp, beq_iff_eq] at o
    subst o
    simp only [run] at hr
    split at hr
    · exact x_pop (cat1_ok hr.1) d (ih0 _ _ _ _ _ oo hr.2)
    · exact absurd hr id
  | .dup_x1, d, o, oo, hr =>
    simp only [okOp, beq_iff_eq] at o
    subst o
    simp only [run] at hr
    split at hr
    · exact x_dup_x1 (cat1_ok hr.1) (cat1_ok hr.2.1) d (ih0 _ _ _ _ _ oo hr.2.2)
    · exact absurd hr id
  | .dup_x2, d, o, oo, hr =>
    simp only [okOp, beq_iff_eq] at o
    subst o
    simp only [run] at hr
    split at hr
    · exact x_dup_x2 (cat1_ok hr.1) (cat1_ok hr.2.1) (cat1_ok hr.2.2.1) d (ih0 _ _ _ _ _ oo hr.2.2.2)
    · exact absurd hr id
  | .dup2, d, o, oo, hr =>
    simp only [okOp, beq_iff_eq] at o
    subst o
    simp only [run] at hr
    split at hr
    · exact x_dup2 (cat1_ok hr.1) (cat1_ok hr.2.1) d (ih0 _ _ _ _ _ oo hr.2.2)
    · exact absurd hr id
  | .ifCond .eq off, d, o, oo, hr =>
    simp only [okOp, Bool.and_eq_true, beq_iff_eq, decide_eq_true_eq] at o
    obtain ⟨rfl, o2⟩ := o
    simp only [run] at hr
    split at hr
    · exact x_if_eq o2 d (fun hc => hK _ _ _ _ _ (hr.1 hc)) (fun hc => ih0 _ _ _ _ _ oo (hr.2 hc))
    · exact absurd hr id
  | .if_icmp .eq off, d, o, oo, hr =>
    simp only [okOp, Bool.and_eq_true, beq_iff_eq, decide_eq_true_eq] at o
    obtain ⟨rfl, o2⟩ := o
    simp only [run] at hr
    split at hr
    · exact x_icmp_eq o2 d (fun hc => hK _ _ _ _ _ (hr.1 hc)) (fun hc => ih0 _ _ _ _ _ oo (hr.2 hc))
    · exact absurd hr id
  | .ifCond .ne off, d, o, oo, hr =>
    simp only [okOp, Bool.and_eq_true, beq_iff_eq, decide_eq_true_eq] at o
    obtain ⟨rfl, o2⟩ := o
    simp only [run] at hr
    split at hr
    · exact x_if_ne o2 d (fun hc => hK _ _ _ _ _ (hr.1 hc)) (fun hc => ih0 _ _ _ _ _ oo (hr.2 hc))
    · exact absurd hr id
  | .if_icmp .ne off, d, o, oo, hr =>
    simp only [okOp, Bool.and_eq_true, beq_iff_eq, decide_eq_true_eq] at o
    obtain ⟨rfl, o2⟩ := o
    simp only [run] at hr
    split at hr
    · exact x_icmp_ne o2 d (fun hc => hK _ _ _ _ _ (hr.1 hc)) (fun hc => ih0 _ _ _ _ _ oo (hr.2 hc))
    · exact absurd hr id
  | .ifCond .lt off, d, o, oo, hr =>
    simp only [okOp, Bool.and_eq_true, beq_iff_eq, decide_eq_true_eq] at o
    obtain ⟨rfl, o2⟩ := o
    simp only [run] at hr
    split at hr
    · exact x_if_lt o2 d (fun hc => hK _ _ _ _ _ (hr.1 hc)) (fun hc => ih0 _ _ _ _ _ oo (hr.2 hc))
    · exact absurd hr id
  | .if_icmp .lt off, d, o, oo, hr =>
    simp only [okOp, Bool.and_eq_true, beq_iff_eq, decide_eq_true_eq] at o
    obtain ⟨rfl, o2⟩ := o
    simp only [run] at hr
    split at hr
    · exact x_icmp_lt o2 d (fun hc => hK _ _ _ _ _ (hr.1 hc)) (fun hc => ih0 _ _ _ _ _ oo (hr.2 hc))
    · exact absurd hr id
  | .ifCond .ge off, d, o, oo, hr =>
    simp only [okOp, Bool.and_eq_true, beq_iff_eq, decide_eq_true_eq] at o
    obtain ⟨rfl, o2⟩ := o
    simp only [run] at hr
    split at hr
    · exact x_if_ge o2 d (fun hc => hK _ _ _ _ _ (hr.1 hc)) (fun hc => ih0 _ _ _ _ _ oo (hr.2 hc))
    · exact absurd hr id
  | .if_icmp .ge off, d, o, oo, hr =>
    simp only [okOp, Bool.and_eq_true, beq_iff_eq, decide_eq_true_eq] at o
    obtain ⟨rfl, o2⟩ := o
    simp only [run] at hr
    split at hr
    · exact x_icmp_ge o2 d (fun hc => hK _ _ _ _ _ (hr.1 hc)) (fun hc => ih0 _ _ _ _ _ oo (hr.2 hc))
    · exact absurd hr id
  | .ifCond .gt off, d, o, oo, hr =>
    simp only [okOp, Bool.and_eq_true, beq_iff_eq, decide_eq_true_eq] at o
    obtain ⟨rfl, o2⟩ := o
    simp only [run] at hr
    split at hr
    · exact x_if_gt o2 d (fun hc => hK _ _ _ _ _ (hr.1 hc)) (fun hc => ih0 _ _ _ _ _ oo (hr.2 hc))
    · exact absurd hr id
  | .if_icmp .gt off, d, o, oo, hr =>
    simp only [okOp, Bool.and_eq_true, beq_iff_eq, decide_eq_true_eq] at o
    obtain ⟨rfl, o2⟩ := o
    simp only [run] at hr
    split at hr
    · exact x_icmp_gt o2 d (fun hc => hK _ _ _ _ _ (hr.1 hc)) (fun hc => ih0 _ _ _ _ _ oo (hr.2 hc))
    · exact absurd hr id
  | .ifCond .le off, d, o, oo, hr =>
    simp only [okOp, Bool.and_eq_true, beq_iff_eq, decide_eq_true_eq] at o
    obtain ⟨rfl, o2⟩ := o
    simp only [run] at hr
    split at hr
    · exact x_if_le o2 d (fun hc => hK _ _ _ _ _ (hr.1 hc)) (fun hc => ih0 _ _ _ _ _ oo (hr.2 hc))
    · exact absurd hr id
  | .if_icmp .le off, d, o, oo, hr =>
    simp only [okOp, Bool.and_eq_true, beq_iff_eq, decide_eq_true_eq] at o
    obtain ⟨rfl, o2⟩ := o
    simp only [run] at hr
    split at hr
    · exact x_icmp_le o2 d (fun hc => hK _ _ _ _ _ (hr.1 hc)) (fun hc => ih0 _ _ _ _ _ oo (hr.2 hc))
    · exact absurd hr id
  | .goto off, d, o, oo, hr =>
    simp only [okOp, Bool.and_eq_true, beq_iff_eq, decide_eq_true_eq] at o
    obtain ⟨rfl, o2⟩ := o
    exact x_goto o2 d (ih0 _ _ _ _ _ oo hr)
  | .getfield k, d, o, oo, hr =>
    simp only [okOp, Bool.and_eq_true, beq_iff_eq, List.elem_eq_mem, decide_eq_true_eq] at o
    obtain ⟨rfl, o2⟩ := o
    simp only [run] at hr
    split at hr
    · exact x_getfield (cf.1 _ o2) hr.1 d (ih0 _ _ _ _ _ oo hr.2)
    · exact absurd hr id
  | .putfield k, d, o, oo, hr =>
    simp only [okOp, Bool.and_eq_true, beq_iff_eq, List.elem_eq_mem, decide_eq_true_eq] at o
    obtain ⟨⟨rfl, o2⟩, o3⟩ := o
    simp only [run] at hr
    split at hr
    · exact x_putfield (by rw [hr.2.1]; exact cf.1 _ o2) (fwb_ok o3) hr.1 d (ih0 _ _ _ _ _ oo hr.2.2)
    · exact absurd hr id
  | .iaload, d, o, oo, hr =>
    simp only [okOp, beq_iff_eq] at o
    subst o
    simp only [run] at hr
    split at hr
    · exact x_iaload (kd_eta hr.1) hr.2.1 d (ih0 _ _ _ _ _ oo hr.2.2)
    · exact absurd hr id
  | .laload, d, o, oo, hr =>
    simp only [okOp, beq_iff_eq] at o
    subst o
    simp only [run] at hr
    split at hr
    · exact x_laload (kd_eta hr.1) hr.2.1 d (ih0 _ _ _ _ _ oo hr.2.2)
    · exact absurd hr id
  | .baload, d, o, oo, hr =>
    simp only [okOp, beq_iff_eq] at o
    subst o
    simp only [run] at hr
    split at hr
    · exact x_baload (kd_eta hr.1) hr.2.1 d (ih0 _ _ _ _ _ oo hr.2.2)
    · exact absurd hr id
  | .daload, d, o, oo, hr =>
    simp only [okOp, beq_iff_eq] at o
    subst o
    simp only [run] at hr
    split at hr
    · exact x_daload (kd_eta hr.1) hr.2.1 d (ih0 _ _ _ _ _ oo hr.2.2)
    · exact absurd hr id
  | .aaload, d, o, oo, hr =>
    simp only [okOp, beq_iff_eq] at o
    subst o
    simp only [run] at hr
    split at hr
    · exact x_aaload hr.1 (kd_eta rfl) hr.2.1 d (ih0 _ _ _ _ _ oo hr.2.2)
    · exact absurd hr id
  | .iastore, d, o, oo, hr =>
    simp only [okOp, beq_iff_eq] at o
    subst o
    simp only [run] at hr
    split at hr
    · exact x_iastore (kd_eta hr.1) hr.2.1 d (ih0 _ _ _ _ _ oo hr.2.2)
    · exact absurd hr id
  | .lastore, d, o, oo, hr =>
    simp only [okOp, beq_iff_eq] at o
    subst o
    simp only [run] at hr
    split at hr
    · exact x_lastore (kd_eta hr.1) hr.2.1 d (ih0 _ _ _ _ _ oo hr.2.2)
    · exact absurd hr id
  | .bastore, d, o, oo, hr =>
    simp only [okOp, beq_iff_eq] at o
    subst o
    simp only [run] at hr
    split at hr
    · exact x_bastore (kd_eta hr.1) hr.2.2.1 hr.2.1 d (ih0 _ _ _ _ _ oo hr.2.2.2)
    · exact absurd hr id
  | .dastore, d, o, oo, hr =>
    simp only [okOp, beq_iff_eq] at o
    subst o
    simp only [run] at hr
    split at hr
    · exact x_dastore (kd_eta hr.1) hr.2.1 d (ih0 _ _ _ _ _ oo hr.2.2)
    · exact absurd hr id
  | .arraylength, d, o, oo, hr =>
    simp only [okOp, beq_iff_eq] at o
    subst o
    simp only [run] at hr
    split at hr
    · split at hr
      · exact x_alenG hr.1 d (ih0 _ _ _ _ _ oo hr.2)
      · exact x_alen hr.1 (kd_eta rfl) d (ih0 _ _ _ _ _ oo hr.2)
    · exact absurd hr id
  | .newarray k, d, o, oo, hr =>
    simp only [okOp, Bool.and_eq_true, Bool.or_eq_true, beq_iff_eq, decide_eq_true_eq] at o
    obtain ⟨⟨rfl, rfl⟩, o3⟩ := o
    simp only [run] at hr
    split at hr
    · exact x_newarray (by omega) (arrw _ (by omega)) hr.1 rfl hr.2.1 hr.2.2.1 hr.2.2.2.1 d (ih0 _ _ _ _ _ oo hr.2.2.2.2)
    · exact absurd hr id
  | .new k, d, o, oo, hr =>
    simp only [okOp, Bool.and_eq_true, beq_iff_eq, List.elem_eq_mem, decide_eq_true_eq] at o
    obtain ⟨rfl, o2⟩ := o
    simp only [run] at hr
    obtain ⟨q, w1, w2, w3, w4, w5⟩ := cf.2.2.1 _ o2
    rw [nfl_of w1] at hr
    exact x_new w2 w3 w4 w1 w5 hr.1 hr.2.1 d (ih0 _ _ _ _ _ oo hr.2.2)
  | .checkcast k, d, o, oo, hr =>
    simp only [okOp, Bool.and_eq_true, beq_iff_eq, List.elem_eq_mem, decide_eq_true_eq] at o
    obtain ⟨rfl, o2⟩ := o
    simp only [run] at hr
    obtain ⟨q, w1, w2⟩ := cf.2.2.2 _ o2
    split at hr
    · exact x_cast w2 w1 hr.1 d (ih0 _ _ _ _ _ oo hr.2)
    · exact absurd hr id
  | .ireturn, d, o, oo, hr =>
    simp only [okOp, beq_iff_eq] at o
    subst o
    simp only [run] at hr
    split at hr
    · obtain ⟨ty, e1, e2⟩ := retI_ok hr.1
      exact Ex.iret e1 e2 d hr.2
    · exact absurd hr id
  | .lreturn, d, o, oo, hr =>
    simp only [okOp, beq_iff_eq] at o
    subst o
    simp only [run] at hr
    split at hr
    · exact Ex.lret hr.1 d hr.2
    · exact absurd hr id
  | .dreturn, d, o, oo, hr =>
    simp only [okOp, beq_iff_eq] at o
    subst o
    simp only [run] at hr
    split at hr
    · exact Ex.dret hr.1 d hr.2
    · exact absurd hr id
  | .areturn, d, o, oo, hr =>
    simp only [okOp, beq_iff_eq] at o
    subst o
    simp only [run] at hr
    split at hr
    · obtain ⟨ty, e1, e2⟩ := retA_ok hr.1
      exact Ex.aret e1 e2 d hr.2
    · exact absurd hr id
  | .return_, d, o, oo, hr =>
    simp only [okOp, beq_iff_eq] at o
    subst o
    simp only [run] at hr
    split at hr
    · exact Ex.vret hr.1 d hr.2
    · exact absurd hr id
end
section
/-! ===== pools and methods (by program) ===== -/
theorem par_ok {y : MethodName} {n : Nat} (h : (parseMethodDescriptor y.desc).map (fun d => d.parameters.length) = some n) : ∀ sig, parseMethodDescriptor y.desc = some sig → n = sig.parameters.length := by
  intro sig h2
  rw [h2] at h
  exact (Option.some.inj h).symm
theorem lm_0 {w : Cond} {i : Nat} (h : (k2_sels lw_privs)[i]? = some w) : w ∈ lw_tbl := List.mem_append_left _ (List.mem_of_getElem? h)
theorem lm_1 {w : Cond} {i : Nat} (h : tables_1_1[i]? = some w) : w ∈ lw_tbl := List.mem_append_right _ (List.mem_append_left _ (List.mem_of_getElem? h))
theorem lm_2 {w : Cond} {i : Nat} (h : tables_1_2[i]? = some w) : w ∈ lw_tbl := List.mem_append_right _ (List.mem_append_right _ (List.mem_append_left _ (List.mem_of_getElem? h)))
theorem lm_3 {w : Cond} {i : Nat} (h : tables_1_3[i]? = some w) : w ∈ lw_tbl := List.mem_append_right _ (List.mem_append_right _ (List.mem_append_right _ (List.mem_append_left _ (List.mem_of_getElem? h))))
theorem lm_4 {w : Cond} {i : Nat} (h : tables_1_4[i]? = some w) : w ∈ lw_tbl := List.mem_append_right _ (List.mem_append_right _ (List.mem_append_right _ (List.mem_append_right _ (List.mem_append_left _ (List.mem_of_getElem? h)))))
theorem lm_5 {w : Cond} {i : Nat} (h : tables_1_5[i]? = some w) : w ∈ lw_tbl := List.mem_append_right _ (List.mem_append_right _ (List.mem_append_right _ (List.mem_append_right _ (List.mem_append_right _ (List.mem_append_left _ (List.mem_of_getElem? h))))))
theorem lm_6 {w : Cond} {i : Nat} (h : tables_1_6[i]? = some w) : w ∈ lw_tbl := List.mem_append_right _ (List.mem_append_right _ (List.mem_append_right _ (List.mem_append_right _ (List.mem_append_right _ (List.mem_append_right _ (List.mem_append_left _ (List.mem_of_getElem? h)))))))
theorem lm_7 {w : Cond} {i : Nat} (h : tables_1_7[i]? = some w) : w ∈ lw_tbl := List.mem_append_right _ (List.mem_append_right _ (List.mem_append_right _ (List.mem_append_right _ (List.mem_append_right _ (List.mem_append_right _ (List.mem_append_right _ (List.mem_append_left _ (List.mem_of_getElem? h))))))))
theorem lm_8 {w : Cond} {i : Nat} (h : tables_1_8[i]? = some w) : w ∈ lw_tbl := List.mem_append_right _ (List.mem_append_right _ (List.mem_append_right _ (List.mem_append_right _ (List.mem_append_right _ (List.mem_append_right _ (List.mem_append_right _ (List.mem_append_right _ (List.mem_of_getElem? h))))))))
theorem lg_0 {w : Cond} {i : Nat} (h : (k2_sels lw_privs)[i]? = some w) (g : goodWord w = true) : w ∈ lw_g := lg_mem (lm_0 h) g
theorem ln_0 {w : Cond} {i : Nat} (h : (k2_sels lw_privs)[i]? = some w) (g : isN w = true) : w ∈ lw_n := ln_mem (lm_0 h) g
theorem lg_1 {w : Cond} {i : Nat} (h : tables_1_1[i]? = some w) (g : goodWord w = true) : w ∈ lw_g := lg_mem (lm_1 h) g
theorem ln_1 {w : Cond} {i : Nat} (h : tables_1_1[i]? = some w) (g : isN w = true) : w ∈ lw_n := ln_mem (lm_1 h) g
theorem lg_2 {w : Cond} {i : Nat} (h : tables_1_2[i]? = some w) (g : goodWord w = true) : w ∈ lw_g := lg_mem (lm_2 h) g
theorem ln_2 {w : Cond} {i : Nat} (h : tables_1_2[i]? = some w) (g : isN w = true) : w ∈ lw_n := ln_mem (lm_2 h) g
theorem lg_3 {w : Cond} {i : Nat} (h : tables_1_3[i]? = some w) (g : goodWord w = true) : w ∈ lw_g := lg_mem (lm_3 h) g
theorem ln_3 {w : Cond} {i : Nat} (h : tables_1_3[i]? = some w) (g : isN w = true) : w ∈ lw_n := ln_mem (lm_3 h) g
theorem lg_4 {w : Cond} {i : Nat} (h : tables_1_4[i]? = some w) (g : goodWord w = true) : w ∈ lw_g := lg_mem (lm_4 h) g
theorem ln_4 {w : Cond} {i : Nat} (h : tables_1_4[i]? = some w) (g : isN w = true) : w ∈ lw_n := ln_mem (lm_4 h) g
theorem lg_5 {w : Cond} {i : Nat} (h : tables_1_5[i]? = some w) (g : goodWord w = true) : w ∈ lw_g := lg_mem (lm_5 h) g
theorem ln_5 {w : Cond} {i : Nat} (h : tables_1_5[i]? = some w) (g : isN w = true) : w ∈ lw_n := ln_mem (lm_5 h) g
theorem lg_6 {w : Cond} {i : Nat} (h : tables_1_6[i]? = some w) (g : goodWord w = true) : w ∈ lw_g := lg_mem (lm_6 h) g
theorem ln_6 {w : Cond} {i : Nat} (h : tables_1_6[i]? = some w) (g : isN w = true) : w ∈ lw_n := ln_mem (lm_6 h) g
theorem lg_7 {w : Cond} {i : Nat} (h : tables_1_7[i]? = some w) (g : goodWord w = true) : w ∈ lw_g := lg_mem (lm_7 h) g
theorem ln_7 {w : Cond} {i : Nat} (h : tables_1_7[i]? = some w) (g : isN w = true) : w ∈ lw_n := ln_mem (lm_7 h) g
theorem lg_8 {w : Cond} {i : Nat} (h : tables_1_8[i]? = some w) (g : goodWord w = true) : w ∈ lw_g := lg_mem (lm_8 h) g
theorem ln_8 {w : Cond} {i : Nat} (h : tables_1_8[i]? = some w) (g : isN w = true) : w ∈ lw_n := ln_mem (lm_8 h) g
def cfJ7 : CF := (RJ7, [], [], [], [])
theorem cfJ7_ok : CFok cfJ7 := ⟨fun _ h => absurd h List.not_mem_nil, fun _ h => absurd h List.not_mem_nil, fun _ h => absurd h List.not_mem_nil, fun _ h => absurd h List.not_mem_nil⟩
def cfX6 : CF := (RX6, [(9, 7, 0, 2), (17, 7, 1, 2)], [], [], [])
theorem cfX6_ok : CFok cfX6 := ⟨List.forall_mem_cons.mpr ⟨⟨(RX6, TX6, 2), "TonguerootFamily$Sounds", rfl, by decide, rfl, by decide, lg_1 (i := 53) (by decide +kernel) rfl, Or.inl rfl⟩, List.forall_mem_cons.mpr ⟨⟨(RX6, TX6, 2), "TonguerootFamily$Sounds", rfl, by decide, rfl, by decide, lg_1 (i := 54) (by decide +kernel) rfl, Or.inl rfl⟩, fun _ h => absurd h List.not_mem_nil⟩⟩, fun _ h => absurd h List.not_mem_nil, fun _ h => absurd h List.not_mem_nil, fun _ h => absurd h List.not_mem_nil⟩
def cfJxa1e45 : CF := (RJxa1e45, [], [], [], [])
theorem cfJxa1e45_ok : CFok cfJxa1e45 := ⟨fun _ h => absurd h List.not_mem_nil, fun _ h => absurd h List.not_mem_nil, fun _ h => absurd h List.not_mem_nil, fun _ h => absurd h List.not_mem_nil⟩
def cfJxc12de : CF := (RJxc12de, [(7, 0, 0, 0)], [], [], [])
theorem cfJxc12de_ok : CFok cfJxc12de := ⟨List.forall_mem_cons.mpr ⟨⟨(RJx4a65c, TJx4a65c, 3), "java/util/AbstractList", rfl, by decide, rfl, by decide, lg_1 (i := 81) (by decide +kernel) rfl, Or.inl rfl⟩, fun _ h => absurd h List.not_mem_nil⟩, fun _ h => absurd h List.not_mem_nil, fun _ h => absurd h List.not_mem_nil, fun _ h => absurd h List.not_mem_nil⟩
def cfJx4a65c : CF := (RJx4a65c, [(9, 0, 1, 2), (48, 0, 2, 0), (63, 0, 0, 0)], [], [], [])
theorem cfJx4a65c_ok : CFok cfJx4a65c := ⟨List.forall_mem_cons.mpr ⟨⟨(RJx4a65c, TJx4a65c, 3), "java/util/ArrayList", rfl, by decide, rfl, by decide, lg_1 (i := 79) (by decide +kernel) rfl, Or.inl rfl⟩, List.forall_mem_cons.mpr ⟨⟨(RJx4a65c, TJx4a65c, 3), "java/util/ArrayList", rfl, by decide, rfl, by decide, lg_1 (i := 80) (by decide +kernel) rfl, Or.inl rfl⟩, List.forall_mem_cons.mpr ⟨⟨(RJx4a65c, TJx4a65c, 3), "java/util/ArrayList", rfl, by decide, rfl, by decide, lg_1 (i := 82) (by decide +kernel) rfl, Or.inr (lg_1 (i := 83) (by decide +kernel) rfl)⟩, fun _ h => absurd h List.not_mem_nil⟩⟩⟩, fun _ h => absurd h List.not_mem_nil, fun _ h => absurd h List.not_mem_nil, fun _ h => absurd h List.not_mem_nil⟩
def cfX2 : CF := (RX2, [(10, 3, 1, 2), (16, 3, 0, 0)], [], [(7, 0), (11, 3)], [(31, 4)])
theorem cfX2_ok : CFok cfX2 := ⟨List.forall_mem_cons.mpr ⟨⟨(RX2, TX2, 2), "TonguerootFamily$Language", rfl, by decide, rfl, by decide, lg_1 (i := 103) (by decide +kernel) rfl, Or.inl rfl⟩, List.forall_mem_cons.mpr ⟨⟨(RX2, TX2, 2), "TonguerootFamily$Language", rfl, by decide, rfl, by decide, lg_1 (i := 100) (by decide +kernel) rfl, Or.inl rfl⟩, fun _ h => absurd h List.not_mem_nil⟩⟩, fun _ h => absurd h List.not_mem_nil, List.forall_mem_cons.mpr ⟨⟨(RJx4a65c, TJx4a65c, 3), rfl, lg_1 (i := 98) (by decide +kernel) rfl, lg_1 (i := 66) (by decide +kernel) rfl, lg_1 (i := 6) (by decide +kernel) rfl, by decide +kernel⟩, List.forall_mem_cons.mpr ⟨⟨(RX2, TX2, 2), rfl, lg_5 (i := 13) (by decide +kernel) rfl, lg_1 (i := 93) (by decide +kernel) rfl, lg_1 (i := 7) (by decide +kernel) rfl, by decide +kernel⟩, fun _ h => absurd h List.not_mem_nil⟩⟩, List.forall_mem_cons.mpr ⟨⟨(RX3, TX3, 4), rfl, lg_5 (i := 17) (by decide +kernel) rfl⟩, fun _ h => absurd h List.not_mem_nil⟩⟩
def cfJ8 : CF := (RJ8, [], [(200, vI 2147483639)], [], [])
theorem cfJ8_ok : CFok cfJ8 := ⟨fun _ h => absurd h List.not_mem_nil, List.forall_mem_cons.mpr ⟨(lg_1 (i := 133) (by decide +kernel) rfl : Cond.constant RJ8 200 2147483639 ∈ lw_g), fun _ h => absurd h List.not_mem_nil⟩, fun _ h => absurd h List.not_mem_nil, fun _ h => absurd h List.not_mem_nil⟩
def cfX9 : CF := (RX9, [(10, 9, 0, 2), (16, 9, 1, 2), (20, 9, 2, 0), (36, 9, 3, 2), (45, 9, 4, 2), (49, 9, 5, 2), (52, 9, 6, 2), (60, 9, 7, 2), (66, 9, 8, 2), (73, 9, 9, 2), (135, 2, 0, 2), (163, 2, 1, 2), (172, 3, 0, 0), (265, 6, 0, 0), (312, 3, 1, 2)], [(142, vI 65536), (280, vL 2677), (311, vI 131072), (351, vD 13830554455654793216), (371, vL 31)], [(7, 7), (28, 2), (30, 0), (40, 5), (55, 1), (64, 8), (82, 3), (150, 4), (166, 6)], [(82, 3), (166, 6)])
theorem cfX9_ok : CFok cfX9 := ⟨List.forall_mem_cons.mpr ⟨⟨(RX9, TX9, 10), "TonguerootFamily", rfl, by decide, rfl, by decide, lg_2 (i := 25) (by decide +kernel) rfl, Or.inl rfl⟩, List.forall_mem_cons.mpr ⟨⟨(RX9, TX9, 10), "TonguerootFamily", rfl, by decide, rfl, by decide, lg_2 (i := 26) (by decide +kernel) rfl, Or.inl rfl⟩, List.forall_mem_cons.mpr ⟨⟨(RX9, TX9, 10), "TonguerootFamily", rfl, by decide, rfl, by decide, lg_2 (i := 27) (by decide +kernel) rfl, Or.inl rfl⟩, List.forall_mem_cons.mpr ⟨⟨(RX9, TX9, 10), "TonguerootFamily", rfl, by decide, rfl, by decide, lg_2 (i := 28) (by decide +kernel) rfl, Or.inl rfl⟩, List.forall_mem_cons.mpr ⟨⟨(RX9, TX9, 10), "TonguerootFamily", rfl, by decide, rfl, by decide, lg_2 (i := 29) (by decide +kernel) rfl, Or.inl rfl⟩, List.forall_mem_cons.mpr ⟨⟨(RX9, TX9, 10), "TonguerootFamily", rfl, by decide, rfl, by decide, lg_2 (i := 30) (by decide +kernel) rfl, Or.inl rfl⟩, List.forall_mem_cons.mpr ⟨⟨(RX9, TX9, 10), "TonguerootFamily", rfl, by decide, rfl, by decide, lg_2 (i := 31) (by decide +kernel) rfl, Or.inl rfl⟩, List.forall_mem_cons.mpr ⟨⟨(RX9, TX9, 10), "TonguerootFamily", rfl, by decide, rfl, by decide, lg_2 (i := 32) (by decide +kernel) rfl, Or.inl rfl⟩, List.forall_mem_cons.mpr ⟨⟨(RX9, TX9, 10), "TonguerootFamily", rfl, by decide, rfl, by decide, lg_2 (i := 33) (by decide +kernel) rfl, Or.inl rfl⟩, List.forall_mem_cons.mpr ⟨⟨(RX9, TX9, 10), "TonguerootFamily", rfl, by decide, rfl, by decide, lg_2 (i := 34) (by decide +kernel) rfl, Or.inl rfl⟩, List.forall_mem_cons.mpr ⟨⟨(RX1, TX1, 2), "TonguerootFamily$History", rfl, by decide, rfl, by decide, lg_1 (i := 182) (by decide +kernel) rfl, Or.inl rfl⟩, List.forall_mem_cons.mpr ⟨⟨(RX1, TX1, 2), "TonguerootFamily$History", rfl, by decide, rfl, by decide, lg_1 (i := 185) (by decide +kernel) rfl, Or.inl rfl⟩, List.forall_mem_cons.mpr ⟨⟨(RX2, TX2, 2), "TonguerootFamily$Language", rfl, by decide, rfl, by decide, lg_1 (i := 102) (by decide +kernel) rfl, Or.inl rfl⟩, List.forall_mem_cons.mpr ⟨⟨(RX5, TX5, 4), "TonguerootFamily$Loan", rfl, by decide, rfl, by decide, lg_4 (i := 65) (by decide +kernel) rfl, Or.inl rfl⟩, List.forall_mem_cons.mpr ⟨⟨(RX2, TX2, 2), "TonguerootFamily$Language", rfl, by decide, rfl, by decide, lg_1 (i := 105) (by decide +kernel) rfl, Or.inl rfl⟩, fun _ h => absurd h List.not_mem_nil⟩⟩⟩⟩⟩⟩⟩⟩⟩⟩⟩⟩⟩⟩⟩, List.forall_mem_cons.mpr ⟨(lg_4 (i := 8) (by decide +kernel) rfl : Cond.constant RX9 142 65536 ∈ lw_g), List.forall_mem_cons.mpr ⟨(lg_2 (i := 152) (by decide +kernel) rfl : Cond.constantLong RX9 280 2677 ∈ lw_g), List.forall_mem_cons.mpr ⟨(lg_4 (i := 12) (by decide +kernel) rfl : Cond.constant RX9 311 131072 ∈ lw_g), List.forall_mem_cons.mpr ⟨(lg_2 (i := 185) (by decide +kernel) rfl : Cond.constantDouble RX9 351 13830554455654793216 ∈ lw_g), List.forall_mem_cons.mpr ⟨(lg_2 (i := 156) (by decide +kernel) rfl : Cond.constantLong RX9 371 31 ∈ lw_g), fun _ h => absurd h List.not_mem_nil⟩⟩⟩⟩⟩, List.forall_mem_cons.mpr ⟨⟨(RX6, TX6, 2), rfl, lg_1 (i := 42) (by decide +kernel) rfl, lg_1 (i := 43) (by decide +kernel) rfl, lg_1 (i := 2) (by decide +kernel) rfl, by decide +kernel⟩, List.forall_mem_cons.mpr ⟨⟨(RX1, TX1, 2), rfl, lg_1 (i := 174) (by decide +kernel) rfl, lg_1 (i := 175) (by decide +kernel) rfl, lg_1 (i := 11) (by decide +kernel) rfl, by decide +kernel⟩, List.forall_mem_cons.mpr ⟨⟨(RJx4a65c, TJx4a65c, 3), rfl, lg_1 (i := 65) (by decide +kernel) rfl, lg_1 (i := 66) (by decide +kernel) rfl, lg_1 (i := 6) (by decide +kernel) rfl, by decide +kernel⟩, List.forall_mem_cons.mpr ⟨⟨(RX4, TX4, 7), rfl, lg_1 (i := 191) (by decide +kernel) rfl, lg_1 (i := 192) (by decide +kernel) rfl, lg_1 (i := 12) (by decide +kernel) rfl, by decide +kernel⟩, List.forall_mem_cons.mpr ⟨⟨(RX0, TX0, 8), rfl, lg_1 (i := 220) (by decide +kernel) rfl, lg_1 (i := 221) (by decide +kernel) rfl, lg_1 (i := 13) (by decide +kernel) rfl, by decide +kernel⟩, List.forall_mem_cons.mpr ⟨⟨(RX7, TX7, 1), rfl, lg_2 (i := 12) (by decide +kernel) rfl, lg_2 (i := 14) (by decide +kernel) rfl, lg_1 (i := 14) (by decide +kernel) rfl, by decide +kernel⟩, List.forall_mem_cons.mpr ⟨⟨(RX2, TX2, 2), rfl, lg_1 (i := 92) (by decide +kernel) rfl, lg_1 (i := 93) (by decide +kernel) rfl, lg_1 (i := 7) (by decide +kernel) rfl, by decide +kernel⟩, List.forall_mem_cons.mpr ⟨⟨(RX3, TX3, 4), rfl, lg_4 (i := 13) (by decide +kernel) rfl, lg_2 (i := 134) (by decide +kernel) rfl, lg_1 (i := 27) (by decide +kernel) rfl, by decide +kernel⟩, List.forall_mem_cons.mpr ⟨⟨(RX5, TX5, 4), rfl, lg_4 (i := 58) (by decide +kernel) rfl, lg_4 (i := 59) (by decide +kernel) rfl, lg_1 (i := 28) (by decide +kernel) rfl, by decide +kernel⟩, fun _ h => absurd h List.not_mem_nil⟩⟩⟩⟩⟩⟩⟩⟩⟩, List.forall_mem_cons.mpr ⟨⟨(RX2, TX2, 2), rfl, lg_1 (i := 92) (by decide +kernel) rfl⟩, List.forall_mem_cons.mpr ⟨⟨(RX5, TX5, 4), rfl, lg_4 (i := 58) (by decide +kernel) rfl⟩, fun _ h => absurd h List.not_mem_nil⟩⟩⟩
def cfX1 : CF := (RX1, [(7, 2, 0, 2), (13, 2, 1, 2)], [], [(8, 2), (16, 0)], [(27, 3), (36, 6)])
theorem cfX1_ok : CFok cfX1 := ⟨List.forall_mem_cons.mpr ⟨⟨(RX1, TX1, 2), "TonguerootFamily$History", rfl, by decide, rfl, by decide, lg_1 (i := 180) (by decide +kernel) rfl, Or.inl rfl⟩, List.forall_mem_cons.mpr ⟨⟨(RX1, TX1, 2), "TonguerootFamily$History", rfl, by decide, rfl, by decide, lg_1 (i := 183) (by decide +kernel) rfl, Or.inl rfl⟩, fun _ h => absurd h List.not_mem_nil⟩⟩, fun _ h => absurd h List.not_mem_nil, List.forall_mem_cons.mpr ⟨⟨(RX1, TX1, 2), rfl, lg_6 (i := 38) (by decide +kernel) rfl, lg_1 (i := 175) (by decide +kernel) rfl, lg_1 (i := 11) (by decide +kernel) rfl, by decide +kernel⟩, List.forall_mem_cons.mpr ⟨⟨(RJx4a65c, TJx4a65c, 3), rfl, lg_6 (i := 32) (by decide +kernel) rfl, lg_1 (i := 66) (by decide +kernel) rfl, lg_1 (i := 6) (by decide +kernel) rfl, by decide +kernel⟩, fun _ h => absurd h List.not_mem_nil⟩⟩, List.forall_mem_cons.mpr ⟨⟨(RX2, TX2, 2), rfl, lg_6 (i := 36) (by decide +kernel) rfl⟩, List.forall_mem_cons.mpr ⟨⟨(RX5, TX5, 4), rfl, lg_6 (i := 67) (by decide +kernel) rfl⟩, fun _ h => absurd h List.not_mem_nil⟩⟩⟩
def cfX4 : CF := (RX4, [(9, 5, 3, 2), (15, 5, 4, 2), (19, 5, 5, 2), (22, 5, 6, 2), (26, 5, 0, 2), (30, 5, 1, 2), (34, 5, 2, 2), (41, 2, 0, 2), (70, 3, 1, 2), (83, 3, 0, 0), (87, 2, 1, 2), (96, 6, 1, 0)], [], [], [(68, 3), (77, 4), (90, 6)])
theorem cfX4_ok : CFok cfX4 := ⟨List.forall_mem_cons.mpr ⟨⟨(RX4, TX4, 7), "TonguerootFamily$Lexicon", rfl, by decide, rfl, by decide, lg_1 (i := 200) (by decide +kernel) rfl, Or.inl rfl⟩, List.forall_mem_cons.mpr ⟨⟨(RX4, TX4, 7), "TonguerootFamily$Lexicon", rfl, by decide, rfl, by decide, lg_1 (i := 201) (by decide +kernel) rfl, Or.inl rfl⟩, List.forall_mem_cons.mpr ⟨⟨(RX4, TX4, 7), "TonguerootFamily$Lexicon", rfl, by decide, rfl, by decide, lg_1 (i := 202) (by decide +kernel) rfl, Or.inl rfl⟩, List.forall_mem_cons.mpr ⟨⟨(RX4, TX4, 7), "TonguerootFamily$Lexicon", rfl, by decide, rfl, by decide, lg_1 (i := 203) (by decide +kernel) rfl, Or.inl rfl⟩, List.forall_mem_cons.mpr ⟨⟨(RX4, TX4, 7), "TonguerootFamily$Lexicon", rfl, by decide, rfl, by decide, lg_1 (i := 197) (by decide +kernel) rfl, Or.inl rfl⟩, List.forall_mem_cons.mpr ⟨⟨(RX4, TX4, 7), "TonguerootFamily$Lexicon", rfl, by decide, rfl, by decide, lg_1 (i := 198) (by decide +kernel) rfl, Or.inl rfl⟩, List.forall_mem_cons.mpr ⟨⟨(RX4, TX4, 7), "TonguerootFamily$Lexicon", rfl, by decide, rfl, by decide, lg_1 (i := 199) (by decide +kernel) rfl, Or.inl rfl⟩, List.forall_mem_cons.mpr ⟨⟨(RX1, TX1, 2), "TonguerootFamily$History", rfl, by decide, rfl, by decide, lg_1 (i := 181) (by decide +kernel) rfl, Or.inl rfl⟩, List.forall_mem_cons.mpr ⟨⟨(RX2, TX2, 2), "TonguerootFamily$Language", rfl, by decide, rfl, by decide, lg_1 (i := 104) (by decide +kernel) rfl, Or.inl rfl⟩, List.forall_mem_cons.mpr ⟨⟨(RX2, TX2, 2), "TonguerootFamily$Language", rfl, by decide, rfl, by decide, lg_1 (i := 101) (by decide +kernel) rfl, Or.inl rfl⟩, List.forall_mem_cons.mpr ⟨⟨(RX1, TX1, 2), "TonguerootFamily$History", rfl, by decide, rfl, by decide, lg_1 (i := 184) (by decide +kernel) rfl, Or.inl rfl⟩, List.forall_mem_cons.mpr ⟨⟨(RX5, TX5, 4), "TonguerootFamily$Loan", rfl, by decide, rfl, by decide, lg_4 (i := 67) (by decide +kernel) rfl, Or.inl rfl⟩, fun _ h => absurd h List.not_mem_nil⟩⟩⟩⟩⟩⟩⟩⟩⟩⟩⟩⟩, fun _ h => absurd h List.not_mem_nil, fun _ h => absurd h List.not_mem_nil, List.forall_mem_cons.mpr ⟨⟨(RX2, TX2, 2), rfl, lg_2 (i := 106) (by decide +kernel) rfl⟩, List.forall_mem_cons.mpr ⟨⟨(RX3, TX3, 4), rfl, lg_2 (i := 120) (by decide +kernel) rfl⟩, List.forall_mem_cons.mpr ⟨⟨(RX5, TX5, 4), rfl, lg_2 (i := 111) (by decide +kernel) rfl⟩, fun _ h => absurd h List.not_mem_nil⟩⟩⟩⟩
def cfX0 : CF := (RX0, [(9, 1, 1, 2), (15, 1, 2, 2), (20, 1, 5, 2), (23, 1, 6, 2), (26, 1, 7, 2), (29, 1, 0, 2), (37, 1, 3, 0), (41, 1, 4, 0), (77, 7, 1, 2)], [], [], [])
theorem cfX0_ok : CFok cfX0 := ⟨List.forall_mem_cons.mpr ⟨⟨(RX0, TX0, 8), "TonguerootFamily$Alignment", rfl, by decide, rfl, by decide, lg_1 (i := 228) (by decide +kernel) rfl, Or.inl rfl⟩, List.forall_mem_cons.mpr ⟨⟨(RX0, TX0, 8), "TonguerootFamily$Alignment", rfl, by decide, rfl, by decide, lg_1 (i := 229) (by decide +kernel) rfl, Or.inl rfl⟩, List.forall_mem_cons.mpr ⟨⟨(RX0, TX0, 8), "TonguerootFamily$Alignment", rfl, by decide, rfl, by decide, lg_1 (i := 232) (by decide +kernel) rfl, Or.inl rfl⟩, List.forall_mem_cons.mpr ⟨⟨(RX0, TX0, 8), "TonguerootFamily$Alignment", rfl, by decide, rfl, by decide, lg_1 (i := 233) (by decide +kernel) rfl, Or.inl rfl⟩, List.forall_mem_cons.mpr ⟨⟨(RX0, TX0, 8), "TonguerootFamily$Alignment", rfl, by decide, rfl, by decide, lg_1 (i := 234) (by decide +kernel) rfl, Or.inl rfl⟩, List.forall_mem_cons.mpr ⟨⟨(RX0, TX0, 8), "TonguerootFamily$Alignment", rfl, by decide, rfl, by decide, lg_1 (i := 227) (by decide +kernel) rfl, Or.inl rfl⟩, List.forall_mem_cons.mpr ⟨⟨(RX0, TX0, 8), "TonguerootFamily$Alignment", rfl, by decide, rfl, by decide, lg_1 (i := 230) (by decide +kernel) rfl, Or.inl rfl⟩, List.forall_mem_cons.mpr ⟨⟨(RX0, TX0, 8), "TonguerootFamily$Alignment", rfl, by decide, rfl, by decide, lg_1 (i := 231) (by decide +kernel) rfl, Or.inl rfl⟩, List.forall_mem_cons.mpr ⟨⟨(RX6, TX6, 2), "TonguerootFamily$Sounds", rfl, by decide, rfl, by decide, lg_1 (i := 55) (by decide +kernel) rfl, Or.inl rfl⟩, fun _ h => absurd h List.not_mem_nil⟩⟩⟩⟩⟩⟩⟩⟩⟩, fun _ h => absurd h List.not_mem_nil, fun _ h => absurd h List.not_mem_nil, fun _ h => absurd h List.not_mem_nil⟩
def cfX7 : CF := (RX7, [(9, 8, 0, 2)], [], [], [])
theorem cfX7_ok : CFok cfX7 := ⟨List.forall_mem_cons.mpr ⟨⟨(RX7, TX7, 1), "TonguerootFamily$Votes", rfl, by decide, rfl, by decide, lg_2 (i := 19) (by decide +kernel) rfl, Or.inl rfl⟩, fun _ h => absurd h List.not_mem_nil⟩, fun _ h => absurd h List.not_mem_nil, fun _ h => absurd h List.not_mem_nil, fun _ h => absurd h List.not_mem_nil⟩
def cfX10 : CF := (RX10, [(9, 10, 1, 2), (13, 10, 2, 2), (17, 10, 3, 0), (21, 10, 4, 0), (24, 10, 5, 2), (27, 10, 6, 2), (30, 10, 7, 2), (33, 10, 8, 2), (36, 10, 9, 2), (39, 10, 10, 2), (42, 10, 12, 2), (45, 10, 13, 2), (48, 10, 14, 2), (51, 10, 15, 2), (54, 10, 16, 2), (58, 10, 17, 2), (61, 10, 18, 2), (64, 10, 19, 2), (67, 10, 20, 2), (70, 10, 22, 2), (73, 10, 23, 2), (76, 10, 24, 2), (79, 10, 25, 2), (82, 10, 26, 2), (85, 10, 0, 0), (122, 10, 11, 0), (191, 10, 21, 0)], [(92, vL 16), (150, vI 65535), (151, vI 131071), (179, vI 2147483647), (263, vL 82987), (265, vL 31)], [], [])
theorem cfX10_ok : CFok cfX10 := ⟨List.forall_mem_cons.mpr ⟨⟨(RX10, TX10, 27), "TonguerootFamilyModel", rfl, by decide, rfl, by decide, lg_6 (i := 82) (by decide +kernel) rfl, Or.inl rfl⟩, List.forall_mem_cons.mpr ⟨⟨(RX10, TX10, 27), "TonguerootFamilyModel", rfl, by decide, rfl, by decide, lg_6 (i := 83) (by decide +kernel) rfl, Or.inl rfl⟩, List.forall_mem_cons.mpr ⟨⟨(RX10, TX10, 27), "TonguerootFamilyModel", rfl, by decide, rfl, by decide, lg_6 (i := 84) (by decide +kernel) rfl, Or.inl rfl⟩, List.forall_mem_cons.mpr ⟨⟨(RX10, TX10, 27), "TonguerootFamilyModel", rfl, by decide, rfl, by decide, lg_6 (i := 85) (by decide +kernel) rfl, Or.inl rfl⟩, List.forall_mem_cons.mpr ⟨⟨(RX10, TX10, 27), "TonguerootFamilyModel", rfl, by decide, rfl, by decide, lg_6 (i := 86) (by decide +kernel) rfl, Or.inl rfl⟩, List.forall_mem_cons.mpr ⟨⟨(RX10, TX10, 27), "TonguerootFamilyModel", rfl, by decide, rfl, by decide, lg_6 (i := 87) (by decide +kernel) rfl, Or.inl rfl⟩, List.forall_mem_cons.mpr ⟨⟨(RX10, TX10, 27), "TonguerootFamilyModel", rfl, by decide, rfl, by decide, lg_6 (i := 88) (by decide +kernel) rfl, Or.inl rfl⟩, List.forall_mem_cons.mpr ⟨⟨(RX10, TX10, 27), "TonguerootFamilyModel", rfl, by decide, rfl, by decide, lg_6 (i := 89) (by decide +kernel) rfl, Or.inl rfl⟩, List.forall_mem_cons.mpr ⟨⟨(RX10, TX10, 27), "TonguerootFamilyModel", rfl, by decide, rfl, by decide, lg_6 (i := 90) (by decide +kernel) rfl, Or.inl rfl⟩, List.forall_mem_cons.mpr ⟨⟨(RX10, TX10, 27), "TonguerootFamilyModel", rfl, by decide, rfl, by decide, lg_6 (i := 91) (by decide +kernel) rfl, Or.inl rfl⟩, List.forall_mem_cons.mpr ⟨⟨(RX10, TX10, 27), "TonguerootFamilyModel", rfl, by decide, rfl, by decide, lg_6 (i := 93) (by decide +kernel) rfl, Or.inl rfl⟩, List.forall_mem_cons.mpr ⟨⟨(RX10, TX10, 27), "TonguerootFamilyModel", rfl, by decide, rfl, by decide, lg_6 (i := 94) (by decide +kernel) rfl, Or.inl rfl⟩, List.forall_mem_cons.mpr ⟨⟨(RX10, TX10, 27), "TonguerootFamilyModel", rfl, by decide, rfl, by decide, lg_6 (i := 95) (by decide +kernel) rfl, Or.inl rfl⟩, List.forall_mem_cons.mpr ⟨⟨(RX10, TX10, 27), "TonguerootFamilyModel", rfl, by decide, rfl, by decide, lg_6 (i := 96) (by decide +kernel) rfl, Or.inl rfl⟩, List.forall_mem_cons.mpr ⟨⟨(RX10, TX10, 27), "TonguerootFamilyModel", rfl, by decide, rfl, by decide, lg_6 (i := 97) (by decide +kernel) rfl, Or.inl rfl⟩, List.forall_mem_cons.mpr ⟨⟨(RX10, TX10, 27), "TonguerootFamilyModel", rfl, by decide, rfl, by decide, lg_6 (i := 98) (by decide +kernel) rfl, Or.inl rfl⟩, List.forall_mem_cons.mpr ⟨⟨(RX10, TX10, 27), "TonguerootFamilyModel", rfl, by decide, rfl, by decide, lg_6 (i := 99) (by decide +kernel) rfl, Or.inl rfl⟩, List.forall_mem_cons.mpr ⟨⟨(RX10, TX10, 27), "TonguerootFamilyModel", rfl, by decide, rfl, by decide, lg_6 (i := 100) (by decide +kernel) rfl, Or.inl rfl⟩, List.forall_mem_cons.mpr ⟨⟨(RX10, TX10, 27), "TonguerootFamilyModel", rfl, by decide, rfl, by decide, lg_6 (i := 101) (by decide +kernel) rfl, Or.inl rfl⟩, List.forall_mem_cons.mpr ⟨⟨(RX10, TX10, 27), "TonguerootFamilyModel", rfl, by decide, rfl, by decide, lg_6 (i := 103) (by decide +kernel) rfl, Or.inl rfl⟩, List.forall_mem_cons.mpr ⟨⟨(RX10, TX10, 27), "TonguerootFamilyModel", rfl, by decide, rfl, by decide, lg_6 (i := 104) (by decide +kernel) rfl, Or.inl rfl⟩, List.forall_mem_cons.mpr ⟨⟨(RX10, TX10, 27), "TonguerootFamilyModel", rfl, by decide, rfl, by decide, lg_6 (i := 105) (by decide +kernel) rfl, Or.inl rfl⟩, List.forall_mem_cons.mpr ⟨⟨(RX10, TX10, 27), "TonguerootFamilyModel", rfl, by decide, rfl, by decide, lg_6 (i := 106) (by decide +kernel) rfl, Or.inl rfl⟩, List.forall_mem_cons.mpr ⟨⟨(RX10, TX10, 27), "TonguerootFamilyModel", rfl, by decide, rfl, by decide, lg_6 (i := 107) (by decide +kernel) rfl, Or.inl rfl⟩, List.forall_mem_cons.mpr ⟨⟨(RX10, TX10, 27), "TonguerootFamilyModel", rfl, by decide, rfl, by decide, lg_6 (i := 81) (by decide +kernel) rfl, Or.inl rfl⟩, List.forall_mem_cons.mpr ⟨⟨(RX10, TX10, 27), "TonguerootFamilyModel", rfl, by decide, rfl, by decide, lg_6 (i := 92) (by decide +kernel) rfl, Or.inl rfl⟩, List.forall_mem_cons.mpr ⟨⟨(RX10, TX10, 27), "TonguerootFamilyModel", rfl, by decide, rfl, by decide, lg_6 (i := 102) (by decide +kernel) rfl, Or.inl rfl⟩, fun _ h => absurd h List.not_mem_nil⟩⟩⟩⟩⟩⟩⟩⟩⟩⟩⟩⟩⟩⟩⟩⟩⟩⟩⟩⟩⟩⟩⟩⟩⟩⟩⟩, List.forall_mem_cons.mpr ⟨(lg_6 (i := 191) (by decide +kernel) rfl : Cond.constantLong RX10 92 16 ∈ lw_g), List.forall_mem_cons.mpr ⟨(lg_6 (i := 208) (by decide +kernel) rfl : Cond.constant RX10 150 65535 ∈ lw_g), List.forall_mem_cons.mpr ⟨(lg_6 (i := 209) (by decide +kernel) rfl : Cond.constant RX10 151 131071 ∈ lw_g), List.forall_mem_cons.mpr ⟨(lg_7 (i := 103) (by decide +kernel) rfl : Cond.constant RX10 179 2147483647 ∈ lw_g), List.forall_mem_cons.mpr ⟨(lg_7 (i := 226) (by decide +kernel) rfl : Cond.constantLong RX10 263 82987 ∈ lw_g), List.forall_mem_cons.mpr ⟨(lg_7 (i := 227) (by decide +kernel) rfl : Cond.constantLong RX10 265 31 ∈ lw_g), fun _ h => absurd h List.not_mem_nil⟩⟩⟩⟩⟩⟩, fun _ h => absurd h List.not_mem_nil, fun _ h => absurd h List.not_mem_nil⟩
def cfJ6 : CF := (RJ6, [], [(265, vI 1431655765), (266, vI 858993459), (267, vI 252645135)], [], [])
theorem cfJ6_ok : CFok cfJ6 := ⟨fun _ h => absurd h List.not_mem_nil, List.forall_mem_cons.mpr ⟨(lg_3 (i := 158) (by decide +kernel) rfl : Cond.constant RJ6 265 1431655765 ∈ lw_g), List.forall_mem_cons.mpr ⟨(lg_3 (i := 159) (by decide +kernel) rfl : Cond.constant RJ6 266 858993459 ∈ lw_g), List.forall_mem_cons.mpr ⟨(lg_3 (i := 160) (by decide +kernel) rfl : Cond.constant RJ6 267 252645135 ∈ lw_g), fun _ h => absurd h List.not_mem_nil⟩⟩⟩, fun _ h => absurd h List.not_mem_nil, fun _ h => absurd h List.not_mem_nil⟩
def cfL : CF := (RL, [], [], [(8, 9), (113, 10)], [])
theorem cfL_ok : CFok cfL := ⟨fun _ h => absurd h List.not_mem_nil, fun _ h => absurd h List.not_mem_nil, List.forall_mem_cons.mpr ⟨⟨(RX9, TX9, 10), rfl, lg_1 (i := 34) (by decide +kernel) rfl, lg_1 (i := 35) (by decide +kernel) rfl, lg_1 (i := 1) (by decide +kernel) rfl, by decide +kernel⟩, List.forall_mem_cons.mpr ⟨⟨(RX10, TX10, 27), rfl, lg_6 (i := 75) (by decide +kernel) rfl, lg_6 (i := 76) (by decide +kernel) rfl, lg_1 (i := 15) (by decide +kernel) rfl, by decide +kernel⟩, fun _ h => absurd h List.not_mem_nil⟩⟩, fun _ h => absurd h List.not_mem_nil⟩
def cfX8 : CF := (RX8, [], [(11, vL 1099511627776)], [], [])
theorem cfX8_ok : CFok cfX8 := ⟨fun _ h => absurd h List.not_mem_nil, List.forall_mem_cons.mpr ⟨(lg_2 (i := 150) (by decide +kernel) rfl : Cond.constantLong RX8 11 1099511627776 ∈ lw_g), fun _ h => absurd h List.not_mem_nil⟩, fun _ h => absurd h List.not_mem_nil, fun _ h => absurd h List.not_mem_nil⟩
def cfJ3 : CF := (RJ3, [], [], [], [])
theorem cfJ3_ok : CFok cfJ3 := ⟨fun _ h => absurd h List.not_mem_nil, fun _ h => absurd h List.not_mem_nil, fun _ h => absurd h List.not_mem_nil, fun _ h => absurd h List.not_mem_nil⟩
def cfJ15 : CF := (RJ15, [], [], [], [])
theorem cfJ15_ok : CFok cfJ15 := ⟨fun _ h => absurd h List.not_mem_nil, fun _ h => absurd h List.not_mem_nil, fun _ h => absurd h List.not_mem_nil, fun _ h => absurd h List.not_mem_nil⟩
def cfX3 : CF := (RX3, [(9, 4, 0, 0), (15, 4, 1, 0), (18, 4, 2, 0), (21, 4, 3, 0)], [], [], [])
theorem cfX3_ok : CFok cfX3 := ⟨List.forall_mem_cons.mpr ⟨⟨(RX3, TX3, 4), "TonguerootFamily$Law", rfl, by decide, rfl, by decide, lg_4 (i := 18) (by decide +kernel) rfl, Or.inl rfl⟩, List.forall_mem_cons.mpr ⟨⟨(RX3, TX3, 4), "TonguerootFamily$Law", rfl, by decide, rfl, by decide, lg_4 (i := 19) (by decide +kernel) rfl, Or.inl rfl⟩, List.forall_mem_cons.mpr ⟨⟨(RX3, TX3, 4), "TonguerootFamily$Law", rfl, by decide, rfl, by decide, lg_4 (i := 20) (by decide +kernel) rfl, Or.inl rfl⟩, List.forall_mem_cons.mpr ⟨⟨(RX3, TX3, 4), "TonguerootFamily$Law", rfl, by decide, rfl, by decide, lg_4 (i := 21) (by decide +kernel) rfl, Or.inl rfl⟩, fun _ h => absurd h List.not_mem_nil⟩⟩⟩⟩, fun _ h => absurd h List.not_mem_nil, fun _ h => absurd h List.not_mem_nil, fun _ h => absurd h List.not_mem_nil⟩
def cfX5 : CF := (RX5, [(7, 6, 0, 0), (13, 6, 1, 0), (16, 6, 2, 0), (19, 6, 3, 0)], [], [], [])
theorem cfX5_ok : CFok cfX5 := ⟨List.forall_mem_cons.mpr ⟨⟨(RX5, TX5, 4), "TonguerootFamily$Loan", rfl, by decide, rfl, by decide, lg_4 (i := 64) (by decide +kernel) rfl, Or.inl rfl⟩, List.forall_mem_cons.mpr ⟨⟨(RX5, TX5, 4), "TonguerootFamily$Loan", rfl, by decide, rfl, by decide, lg_4 (i := 66) (by decide +kernel) rfl, Or.inl rfl⟩, List.forall_mem_cons.mpr ⟨⟨(RX5, TX5, 4), "TonguerootFamily$Loan", rfl, by decide, rfl, by decide, lg_4 (i := 68) (by decide +kernel) rfl, Or.inl rfl⟩, List.forall_mem_cons.mpr ⟨⟨(RX5, TX5, 4), "TonguerootFamily$Loan", rfl, by decide, rfl, by decide, lg_4 (i := 69) (by decide +kernel) rfl, Or.inl rfl⟩, fun _ h => absurd h List.not_mem_nil⟩⟩⟩⟩, fun _ h => absurd h List.not_mem_nil, fun _ h => absurd h List.not_mem_nil, fun _ h => absurd h List.not_mem_nil⟩
def mJ7_fill_53178 : MD := (yJ7_fill_53178, cJ7_fill_53178, 4, none, [], (0, 0, 0), cfJ7)
theorem mJ7_fill_53178_ok : MOk mJ7_fill_53178 2 := ⟨lg_1 (i := 52) (by decide +kernel) rfl, lg_1 (i := 3) (by decide +kernel) rfl, ⟨by decide +kernel, by decide +kernel⟩, par_ok (by decide +kernel), by decide +kernel⟩
def mX6_init : MD := (yX6_init, cX6_init, 2, none, [], (1, 18, 288), cfX6)
theorem mX6_init_ok : MOk mX6_init 0 := ⟨lg_1 (i := 46) (by decide +kernel) rfl, lg_1 (i := 2) (by decide +kernel) rfl, ⟨by decide +kernel, by decide +kernel⟩, par_ok (by decide +kernel), by decide +kernel⟩
def mJxa1e45_init_da8c8 : MD := (yJxa1e45_init_da8c8, cJxa1e45_init_da8c8, 1, none, [], (1, 0, 0), cfJxa1e45)
theorem mJxa1e45_init_da8c8_ok : MOk mJxa1e45_init_da8c8 0 := ⟨lg_1 (i := 75) (by decide +kernel) rfl, lg_1 (i := 4) (by decide +kernel) rfl, ⟨by decide +kernel, by decide +kernel⟩, par_ok (by decide +kernel), by decide +kernel⟩
def mJxc12de_init_da8c8 : MD := (yJxc12de_init_da8c8, cJxc12de_init_da8c8, 1, none, [], (2, 0, 0), cfJxc12de)
theorem mJxc12de_init_da8c8_ok : MOk mJxc12de_init_da8c8 0 := ⟨lg_1 (i := 72) (by decide +kernel) rfl, lg_1 (i := 5) (by decide +kernel) rfl, ⟨by decide +kernel, by decide +kernel⟩, par_ok (by decide +kernel), by decide +kernel⟩
def mJx4a65c_init_da8c8 : MD := (yJx4a65c_init_da8c8, cJx4a65c_init_da8c8, 1, none, [], (3, 0, 0), cfJx4a65c)
theorem mJx4a65c_init_da8c8_ok : MOk mJx4a65c_init_da8c8 0 := ⟨lg_1 (i := 69) (by decide +kernel) rfl, lg_1 (i := 6) (by decide +kernel) rfl, ⟨by decide +kernel, by decide +kernel⟩, par_ok (by decide +kernel), by decide +kernel⟩
def mX2_init : MD := (yX2_init, cX2_init, 2, none, [], (4, 1, 3), cfX2)
theorem mX2_init_ok : MOk mX2_init 1 := ⟨lg_1 (i := 96) (by decide +kernel) rfl, lg_1 (i := 7) (by decide +kernel) rfl, ⟨by decide +kernel, by decide +kernel⟩, par_ok (by decide +kernel), by decide +kernel⟩
def mJ8_newLength_cabcc : MD := (yJ8_newLength_cabcc, cJ8_newLength_cabcc, 4, (some FieldType.int), [], (1, 0, 0), cfJ8)
theorem mJ8_newLength_cabcc_ok : MOk mJ8_newLength_cabcc 3 := ⟨lg_1 (i := 129) (by decide +kernel) rfl, lg_1 (i := 8) (by decide +kernel) rfl, ⟨by decide +kernel, by decide +kernel⟩, par_ok (by decide +kernel), by decide +kernel⟩
def mJ7_copyOf_6403c : MD := (yJ7_copyOf_6403c, cJ7_copyOf_6403c, 4, (some (FieldType.array (FieldType.object "java/lang/Object"))), [], (1, 1, 15), cfJ7)
theorem mJ7_copyOf_6403c_ok : MOk mJ7_copyOf_6403c 3 := ⟨lg_1 (i := 162) (by decide +kernel) rfl, lg_1 (i := 3) (by decide +kernel) rfl, ⟨by decide +kernel, by decide +kernel⟩, par_ok (by decide +kernel), by decide +kernel⟩
def mJ7_copyOf_1904c : MD := (yJ7_copyOf_1904c, cJ7_copyOf_1904c, 2, (some (FieldType.array (FieldType.object "java/lang/Object"))), [], (2, 1, 15), cfJ7)
theorem mJ7_copyOf_1904c_ok : MOk mJ7_copyOf_1904c 2 := ⟨lg_1 (i := 139) (by decide +kernel) rfl, lg_1 (i := 3) (by decide +kernel) rfl, ⟨by decide +kernel, by decide +kernel⟩, par_ok (by decide +kernel), by decide +kernel⟩
def mJx4a65c_grow_92f84 : MD := (yJx4a65c_grow_92f84, cJx4a65c_grow_92f84, 4, (some (FieldType.array (FieldType.object "java/lang/Object"))), [], (3, 1, 15), cfJx4a65c)
theorem mJx4a65c_grow_92f84_ok : MOk mJx4a65c_grow_92f84 1 := ⟨lg_1 (i := 126) (by decide +kernel) rfl, lg_1 (i := 6) (by decide +kernel) rfl, ⟨by decide +kernel, by decide +kernel⟩, par_ok (by decide +kernel), by decide +kernel⟩
def mJx4a65c_grow_d5877 : MD := (yJx4a65c_grow_d5877, cJx4a65c_grow_d5877, 1, (some (FieldType.array (FieldType.object "java/lang/Object"))), [], (4, 1, 15), cfJx4a65c)
theorem mJx4a65c_grow_d5877_ok : MOk mJx4a65c_grow_d5877 0 := ⟨lg_1 (i := 122) (by decide +kernel) rfl, lg_1 (i := 6) (by decide +kernel) rfl, ⟨by decide +kernel, by decide +kernel⟩, par_ok (by decide +kernel), by decide +kernel⟩
def mJx4a65c_add_72be8 : MD := (yJx4a65c_add_72be8, cJx4a65c_add_72be8, 4, none, [], (5, 1, 15), cfJx4a65c)
theorem mJx4a65c_add_72be8_ok : MOk mJx4a65c_add_72be8 3 := ⟨lg_1 (i := 118) (by decide +kernel) rfl, lg_1 (i := 6) (by decide +kernel) rfl, ⟨by decide +kernel, by decide +kernel⟩, par_ok (by decide +kernel), by decide +kernel⟩
def mJx4a65c_add_9ea2d : MD := (yJx4a65c_add_9ea2d, cJx4a65c_add_9ea2d, 2, (some FieldType.boolean), [], (6, 1, 15), cfJx4a65c)
theorem mJx4a65c_add_9ea2d_ok : MOk mJx4a65c_add_9ea2d 1 := ⟨lg_1 (i := 114) (by decide +kernel) rfl, lg_1 (i := 6) (by decide +kernel) rfl, ⟨by decide +kernel, by decide +kernel⟩, par_ok (by decide +kernel), by decide +kernel⟩
def mX9_motherAlone : MD := (yX9_motherAlone, cX9_motherAlone, 1, (some (FieldType.object "java/util/ArrayList")), [], (7, 4, 23), cfX9)
theorem mX9_motherAlone_ok : MOk mX9_motherAlone 0 := ⟨lg_1 (i := 64) (by decide +kernel) rfl, lg_1 (i := 1) (by decide +kernel) rfl, ⟨by decide +kernel, by decide +kernel⟩, par_ok (by decide +kernel), by decide +kernel⟩
def mX1_init : MD := (yX1_init, cX1_init, 3, none, [], (1, 0, 0), cfX1)
theorem mX1_init_ok : MOk mX1_init 2 := ⟨lg_1 (i := 178) (by decide +kernel) rfl, lg_1 (i := 11) (by decide +kernel) rfl, ⟨by decide +kernel, by decide +kernel⟩, par_ok (by decide +kernel), by decide +kernel⟩
def mX4_init : MD := (yX4_init, cX4_init, 4, none, [], (1, 4, 372), cfX4)
theorem mX4_init_ok : MOk mX4_init 3 := ⟨lg_1 (i := 195) (by decide +kernel) rfl, lg_1 (i := 12) (by decide +kernel) rfl, ⟨by decide +kernel, by decide +kernel⟩, par_ok (by decide +kernel), by decide +kernel⟩
def mX0_init : MD := (yX0_init, cX0_init, 2, none, [], (1, 16, 192), cfX0)
theorem mX0_init_ok : MOk mX0_init 1 := ⟨lg_1 (i := 224) (by decide +kernel) rfl, lg_1 (i := 13) (by decide +kernel) rfl, ⟨by decide +kernel, by decide +kernel⟩, par_ok (by decide +kernel), by decide +kernel⟩
def mX7_init : MD := (yX7_init, cX7_init, 1, none, [], (1, 1, 17), cfX7)
theorem mX7_init_ok : MOk mX7_init 0 := ⟨lg_2 (i := 17) (by decide +kernel) rfl, lg_1 (i := 14) (by decide +kernel) rfl, ⟨by decide +kernel, by decide +kernel⟩, par_ok (by decide +kernel), by decide +kernel⟩
def mX9_init : MD := (yX9_init, cX9_init, 3, none, [], (8, 94, 3074), cfX9)
theorem mX9_init_ok : MOk mX9_init 0 := ⟨lg_1 (i := 38) (by decide +kernel) rfl, lg_1 (i := 1) (by decide +kernel) rfl, ⟨by decide +kernel, by decide +kernel⟩, par_ok (by decide +kernel), by decide +kernel⟩
def mX10_init : MD := (yX10_init, cX10_init, 2, none, [], (1, 22, 1139), cfX10)
theorem mX10_init_ok : MOk mX10_init 0 := ⟨lg_6 (i := 79) (by decide +kernel) rfl, lg_1 (i := 15) (by decide +kernel) rfl, ⟨by decide +kernel, by decide +kernel⟩, par_ok (by decide +kernel), by decide +kernel⟩
def mX9_isSound : MD := (yX9_isSound, cX9_isSound, 1, (some FieldType.boolean), [], (0, 0, 0), cfX9)
theorem mX9_isSound_ok : MOk mX9_isSound 1 := ⟨lg_3 (i := 46) (by decide +kernel) rfl, lg_1 (i := 1) (by decide +kernel) rfl, ⟨by decide +kernel, by decide +kernel⟩, par_ok (by decide +kernel), by decide +kernel⟩
def mX9_refuseUnless : MD := (yX9_refuseUnless, cX9_refuseUnless, 1, none, [], (6, 1, 6), cfX9)
theorem mX9_refuseUnless_ok : MOk mX9_refuseUnless 1 := ⟨lg_3 (i := 78) (by decide +kernel) rfl, lg_1 (i := 1) (by decide +kernel) rfl, ⟨by decide +kernel, by decide +kernel⟩, par_ok (by decide +kernel), by decide +kernel⟩
def mX6_featuresOf : MD := (yX6_featuresOf, cX6_featuresOf, 2, (some FieldType.int), [], (0, 0, 0), cfX6)
theorem mX6_featuresOf_ok : MOk mX6_featuresOf 1 := ⟨lg_3 (i := 150) (by decide +kernel) rfl, lg_1 (i := 2) (by decide +kernel) rfl, ⟨by decide +kernel, by decide +kernel⟩, par_ok (by decide +kernel), by decide +kernel⟩
def mJ6_bitCount_0f7a4 : MD := (yJ6_bitCount_0f7a4, cJ6_bitCount_0f7a4, 1, (some FieldType.int), [], (0, 0, 0), cfJ6)
theorem mJ6_bitCount_0f7a4_ok : MOk mJ6_bitCount_0f7a4 1 := ⟨lg_3 (i := 157) (by decide +kernel) rfl, lg_1 (i := 21) (by decide +kernel) rfl, ⟨by decide +kernel, by decide +kernel⟩, par_ok (by decide +kernel), by decide +kernel⟩
def mX6_giveFeatures : MD := (yX6_giveFeatures, cX6_giveFeatures, 5, none, [], (1, 0, 0), cfX6)
theorem mX6_giveFeatures_ok : MOk mX6_giveFeatures 2 := ⟨lg_3 (i := 154) (by decide +kernel) rfl, lg_1 (i := 2) (by decide +kernel) rfl, ⟨by decide +kernel, by decide +kernel⟩, par_ok (by decide +kernel), by decide +kernel⟩
def mX4_forget : MD := (yX4_forget, cX4_forget, 2, none, [], (0, 0, 0), cfX4)
theorem mX4_forget_ok : MOk mX4_forget 1 := ⟨lg_3 (i := 172) (by decide +kernel) rfl, lg_1 (i := 12) (by decide +kernel) rfl, ⟨by decide +kernel, by decide +kernel⟩, par_ok (by decide +kernel), by decide +kernel⟩
def mX9_forgetMeaning : MD := (yX9_forgetMeaning, cX9_forgetMeaning, 2, none, [], (1, 0, 0), cfX9)
theorem mX9_forgetMeaning_ok : MOk mX9_forgetMeaning 1 := ⟨lg_3 (i := 168) (by decide +kernel) rfl, lg_1 (i := 1) (by decide +kernel) rfl, ⟨by decide +kernel, by decide +kernel⟩, par_ok (by decide +kernel), by decide +kernel⟩
def mX9_forgetAll : MD := (yX9_forgetAll, cX9_forgetAll, 2, none, [], (2, 0, 0), cfX9)
theorem mX9_forgetAll_ok : MOk mX9_forgetAll 0 := ⟨lg_3 (i := 164) (by decide +kernel) rfl, lg_1 (i := 1) (by decide +kernel) rfl, ⟨by decide +kernel, by decide +kernel⟩, par_ok (by decide +kernel), by decide +kernel⟩
def mX9_setSound : MD := (yX9_setSound, cX9_setSound, 4, (some FieldType.int), [], (7, 1, 6), cfX9)
theorem mX9_setSound_ok : MOk mX9_setSound 2 := ⟨lg_3 (i := 75) (by decide +kernel) rfl, lg_1 (i := 1) (by decide +kernel) rfl, ⟨by decide +kernel, by decide +kernel⟩, par_ok (by decide +kernel), by decide +kernel⟩
def mL_setSound : MD := (yL_setSound, cL_setSound, 5, (some FieldType.int), [(0, 10, 13, 13)], (8, 1, 6), cfL)
theorem mL_setSound_ok : MOk mL_setSound 4 := ⟨lg_3 (i := 70) (by decide +kernel) rfl, lg_1 (i := 0) (by decide +kernel) rfl, ⟨by decide +kernel, by decide +kernel⟩, par_ok (by decide +kernel), by decide +kernel⟩
def mX10_isIn : MD := (yX10_isIn, cX10_isIn, 3, (some FieldType.boolean), [], (0, 0, 0), cfX10)
theorem mX10_isIn_ok : MOk mX10_isIn 3 := ⟨lg_6 (i := 176) (by decide +kernel) rfl, lg_1 (i := 15) (by decide +kernel) rfl, ⟨by decide +kernel, by decide +kernel⟩, par_ok (by decide +kernel), by decide +kernel⟩
def mX10_isSound : MD := (yX10_isSound, cX10_isSound, 1, (some FieldType.boolean), [], (1, 0, 0), cfX10)
theorem mX10_isSound_ok : MOk mX10_isSound 1 := ⟨lg_6 (i := 173) (by decide +kernel) rfl, lg_1 (i := 15) (by decide +kernel) rfl, ⟨by decide +kernel, by decide +kernel⟩, par_ok (by decide +kernel), by decide +kernel⟩
def mX10_no : MD := (yX10_no, cX10_no, 2, (some FieldType.int), [], (0, 0, 0), cfX10)
theorem mX10_no_ok : MOk mX10_no 1 := ⟨lg_6 (i := 180) (by decide +kernel) rfl, lg_1 (i := 15) (by decide +kernel) rfl, ⟨by decide +kernel, by decide +kernel⟩, par_ok (by decide +kernel), by decide +kernel⟩
def mX10_setSound : MD := (yX10_setSound, cX10_setSound, 4, (some FieldType.int), [], (2, 0, 0), cfX10)
theorem mX10_setSound_ok : MOk mX10_setSound 2 := ⟨lg_6 (i := 170) (by decide +kernel) rfl, lg_1 (i := 15) (by decide +kernel) rfl, ⟨by decide +kernel, by decide +kernel⟩, par_ok (by decide +kernel), by decide +kernel⟩
def mX10_thrown : MD := (yX10_thrown, cX10_thrown, 1, (some FieldType.int), [], (0, 0, 0), cfX10)
theorem mX10_thrown_ok : MOk mX10_thrown 0 := ⟨lg_6 (i := 166) (by decide +kernel) rfl, lg_1 (i := 15) (by decide +kernel) rfl, ⟨by decide +kernel, by decide +kernel⟩, par_ok (by decide +kernel), by decide +kernel⟩
def mX9_isMeaning : MD := (yX9_isMeaning, cX9_isMeaning, 1, (some FieldType.boolean), [], (0, 0, 0), cfX9)
theorem mX9_isMeaning_ok : MOk mX9_isMeaning 1 := ⟨lg_3 (i := 182) (by decide +kernel) rfl, lg_1 (i := 1) (by decide +kernel) rfl, ⟨by decide +kernel, by decide +kernel⟩, par_ok (by decide +kernel), by decide +kernel⟩
def mX8_size : MD := (yX8_size, cX8_size, 2, (some FieldType.int), [], (0, 0, 0), cfX8)
theorem mX8_size_ok : MOk mX8_size 1 := ⟨lg_2 (i := 127) (by decide +kernel) rfl, lg_1 (i := 22) (by decide +kernel) rfl, ⟨by decide +kernel, by decide +kernel⟩, par_ok (by decide +kernel), by decide +kernel⟩
def mX9_word : MD := (yX9_word, cX9_word, 3, (some FieldType.int), [], (7, 1, 6), cfX9)
theorem mX9_word_ok : MOk mX9_word 1 := ⟨lg_3 (i := 179) (by decide +kernel) rfl, lg_1 (i := 1) (by decide +kernel) rfl, ⟨by decide +kernel, by decide +kernel⟩, par_ok (by decide +kernel), by decide +kernel⟩
def mL_word : MD := (yL_word, cL_word, 4, (some FieldType.int), [(0, 9, 12, 13)], (8, 1, 6), cfL)
theorem mL_word_ok : MOk mL_word 3 := ⟨lg_3 (i := 175) (by decide +kernel) rfl, lg_1 (i := 0) (by decide +kernel) rfl, ⟨by decide +kernel, by decide +kernel⟩, par_ok (by decide +kernel), by decide +kernel⟩
def mX10_isMeaning : MD := (yX10_isMeaning, cX10_isMeaning, 1, (some FieldType.boolean), [], (1, 0, 0), cfX10)
theorem mX10_isMeaning_ok : MOk mX10_isMeaning 1 := ⟨lg_6 (i := 187) (by decide +kernel) rfl, lg_1 (i := 15) (by decide +kernel) rfl, ⟨by decide +kernel, by decide +kernel⟩, par_ok (by decide +kernel), by decide +kernel⟩
def mX10_length : MD := (yX10_length, cX10_length, 5, (some FieldType.int), [], (0, 0, 0), cfX10)
theorem mX10_length_ok : MOk mX10_length 1 := ⟨lg_6 (i := 190) (by decide +kernel) rfl, lg_1 (i := 15) (by decide +kernel) rfl, ⟨by decide +kernel, by decide +kernel⟩, par_ok (by decide +kernel), by decide +kernel⟩
def mX10_word : MD := (yX10_word, cX10_word, 3, (some FieldType.int), [], (2, 0, 0), cfX10)
theorem mX10_word_ok : MOk mX10_word 1 := ⟨lg_6 (i := 184) (by decide +kernel) rfl, lg_1 (i := 15) (by decide +kernel) rfl, ⟨by decide +kernel, by decide +kernel⟩, par_ok (by decide +kernel), by decide +kernel⟩
def mX9_requireState : MD := (yX9_requireState, cX9_requireState, 1, none, [], (6, 1, 6), cfX9)
theorem mX9_requireState_ok : MOk mX9_requireState 1 := ⟨lg_3 (i := 193) (by decide +kernel) rfl, lg_1 (i := 1) (by decide +kernel) rfl, ⟨by decide +kernel, by decide +kernel⟩, par_ok (by decide +kernel), by decide +kernel⟩
def mX8_plus : MD := (yX8_plus, cX8_plus, 3, (some FieldType.long), [], (1, 0, 0), cfX8)
theorem mX8_plus_ok : MOk mX8_plus 2 := ⟨lg_2 (i := 149) (by decide +kernel) rfl, lg_1 (i := 22) (by decide +kernel) rfl, ⟨by decide +kernel, by decide +kernel⟩, par_ok (by decide +kernel), by decide +kernel⟩
def mX9_spell : MD := (yX9_spell, cX9_spell, 2, (some FieldType.int), [], (7, 2, 12), cfX9)
theorem mX9_spell_ok : MOk mX9_spell 1 := ⟨lg_3 (i := 190) (by decide +kernel) rfl, lg_1 (i := 1) (by decide +kernel) rfl, ⟨by decide +kernel, by decide +kernel⟩, par_ok (by decide +kernel), by decide +kernel⟩
def mL_spell : MD := (yL_spell, cL_spell, 4, (some FieldType.int), [(0, 9, 12, 13), (0, 9, 15, 22)], (8, 2, 12), cfL)
theorem mL_spell_ok : MOk mL_spell 3 := ⟨lg_3 (i := 185) (by decide +kernel) rfl, lg_1 (i := 0) (by decide +kernel) rfl, ⟨by decide +kernel, by decide +kernel⟩, par_ok (by decide +kernel), by decide +kernel⟩
def mX10_spell : MD := (yX10_spell, cX10_spell, 2, (some FieldType.int), [], (2, 0, 0), cfX10)
theorem mX10_spell_ok : MOk mX10_spell 1 := ⟨lg_6 (i := 195) (by decide +kernel) rfl, lg_1 (i := 15) (by decide +kernel) rfl, ⟨by decide +kernel, by decide +kernel⟩, par_ok (by decide +kernel), by decide +kernel⟩
def mJx4a65c_size_8abf5 : MD := (yJx4a65c_size_8abf5, cJx4a65c_size_8abf5, 1, (some FieldType.int), [], (0, 0, 0), cfJx4a65c)
theorem mJx4a65c_size_8abf5_ok : MOk mJx4a65c_size_8abf5 0 := ⟨lg_2 (i := 63) (by decide +kernel) rfl, lg_1 (i := 6) (by decide +kernel) rfl, ⟨by decide +kernel, by decide +kernel⟩, par_ok (by decide +kernel), by decide +kernel⟩
def mX9_isLanguage : MD := (yX9_isLanguage, cX9_isLanguage, 2, (some FieldType.boolean), [], (1, 0, 0), cfX9)
theorem mX9_isLanguage_ok : MOk mX9_isLanguage 1 := ⟨lg_3 (i := 221) (by decide +kernel) rfl, lg_1 (i := 1) (by decide +kernel) rfl, ⟨by decide +kernel, by decide +kernel⟩, par_ok (by decide +kernel), by decide +kernel⟩
def mX9_requireThere : MD := (yX9_requireThere, cX9_requireThere, 1, none, [], (6, 1, 6), cfX9)
theorem mX9_requireThere_ok : MOk mX9_requireThere 1 := ⟨lg_3 (i := 224) (by decide +kernel) rfl, lg_1 (i := 1) (by decide +kernel) rfl, ⟨by decide +kernel, by decide +kernel⟩, par_ok (by decide +kernel), by decide +kernel⟩
def mX9_language : MD := (yX9_language, cX9_language, 2, (some FieldType.int), [], (7, 5, 32), cfX9)
theorem mX9_language_ok : MOk mX9_language 1 := ⟨lg_3 (i := 217) (by decide +kernel) rfl, lg_1 (i := 1) (by decide +kernel) rfl, ⟨by decide +kernel, by decide +kernel⟩, par_ok (by decide +kernel), by decide +kernel⟩
def mL_language : MD := (yL_language, cL_language, 4, (some FieldType.int), [(0, 9, 12, 27), (0, 9, 15, 22)], (8, 5, 32), cfL)
theorem mL_language_ok : MOk mL_language 3 := ⟨lg_3 (i := 212) (by decide +kernel) rfl, lg_1 (i := 0) (by decide +kernel) rfl, ⟨by decide +kernel, by decide +kernel⟩, par_ok (by decide +kernel), by decide +kernel⟩
def mX10_isLanguage : MD := (yX10_isLanguage, cX10_isLanguage, 2, (some FieldType.boolean), [], (1, 0, 0), cfX10)
theorem mX10_isLanguage_ok : MOk mX10_isLanguage 1 := ⟨lg_6 (i := 203) (by decide +kernel) rfl, lg_1 (i := 15) (by decide +kernel) rfl, ⟨by decide +kernel, by decide +kernel⟩, par_ok (by decide +kernel), by decide +kernel⟩
def mX10_language : MD := (yX10_language, cX10_language, 2, (some FieldType.int), [], (2, 0, 0), cfX10)
theorem mX10_language_ok : MOk mX10_language 1 := ⟨lg_6 (i := 199) (by decide +kernel) rfl, lg_1 (i := 15) (by decide +kernel) rfl, ⟨by decide +kernel, by decide +kernel⟩, par_ok (by decide +kernel), by decide +kernel⟩
def mX9_isNeighbourSet : MD := (yX9_isNeighbourSet, cX9_isNeighbourSet, 1, (some FieldType.boolean), [], (0, 0, 0), cfX9)
theorem mX9_isNeighbourSet_ok : MOk mX9_isNeighbourSet 1 := ⟨lg_4 (i := 11) (by decide +kernel) rfl, lg_1 (i := 1) (by decide +kernel) rfl, ⟨by decide +kernel, by decide +kernel⟩, par_ok (by decide +kernel), by decide +kernel⟩
def mJ3_checkIndex_8e157 : MD := (yJ3_checkIndex_8e157, cJ3_checkIndex_8e157, 3, (some FieldType.int), [], (0, 0, 0), cfJ3)
theorem mJ3_checkIndex_8e157_ok : MOk mJ3_checkIndex_8e157 3 := ⟨lg_2 (i := 101) (by decide +kernel) rfl, lg_1 (i := 26) (by decide +kernel) rfl, ⟨by decide +kernel, by decide +kernel⟩, par_ok (by decide +kernel), by decide +kernel⟩
def mJ15_checkIndex_7cf53 : MD := (yJ15_checkIndex_7cf53, cJ15_checkIndex_7cf53, 2, (some FieldType.int), [], (1, 0, 0), cfJ15)
theorem mJ15_checkIndex_7cf53_ok : MOk mJ15_checkIndex_7cf53 2 := ⟨lg_2 (i := 98) (by decide +kernel) rfl, lg_1 (i := 25) (by decide +kernel) rfl, ⟨by decide +kernel, by decide +kernel⟩, par_ok (by decide +kernel), by decide +kernel⟩
def mJx4a65c_elementData_915e3 : MD := (yJx4a65c_elementData_915e3, cJx4a65c_elementData_915e3, 2, (some (FieldType.object "java/lang/Object")), [], (0, 0, 0), cfJx4a65c)
theorem mJx4a65c_elementData_915e3_ok : MOk mJx4a65c_elementData_915e3 1 := ⟨lg_2 (i := 105) (by decide +kernel) rfl, lg_1 (i := 6) (by decide +kernel) rfl, ⟨by decide +kernel, by decide +kernel⟩, par_ok (by decide +kernel), by decide +kernel⟩
def mJx4a65c_get_915e3 : MD := (yJx4a65c_get_915e3, cJx4a65c_get_915e3, 2, (some (FieldType.object "java/lang/Object")), [], (2, 0, 0), cfJx4a65c)
theorem mJx4a65c_get_915e3_ok : MOk mJx4a65c_get_915e3 1 := ⟨lg_2 (i := 95) (by decide +kernel) rfl, lg_1 (i := 6) (by decide +kernel) rfl, ⟨by decide +kernel, by decide +kernel⟩, par_ok (by decide +kernel), by decide +kernel⟩
def mX9_lawsOf : MD := (yX9_lawsOf, cX9_lawsOf, 2, (some (FieldType.object "java/util/ArrayList")), [], (3, 0, 0), cfX9)
theorem mX9_lawsOf_ok : MOk mX9_lawsOf 1 := ⟨lg_2 (i := 160) (by decide +kernel) rfl, lg_1 (i := 1) (by decide +kernel) rfl, ⟨by decide +kernel, by decide +kernel⟩, par_ok (by decide +kernel), by decide +kernel⟩
def mX3_init : MD := (yX3_init, cX3_init, 5, none, [], (1, 0, 0), cfX3)
theorem mX3_init_ok : MOk mX3_init 4 := ⟨lg_4 (i := 16) (by decide +kernel) rfl, lg_1 (i := 27) (by decide +kernel) rfl, ⟨by decide +kernel, by decide +kernel⟩, par_ok (by decide +kernel), by decide +kernel⟩
def mX9_law : MD := (yX9_law, cX9_law, 7, (some FieldType.int), [], (7, 6, 43), cfX9)
theorem mX9_law_ok : MOk mX9_law 5 := ⟨lg_4 (i := 7) (by decide +kernel) rfl, lg_1 (i := 1) (by decide +kernel) rfl, ⟨by decide +kernel, by decide +kernel⟩, par_ok (by decide +kernel), by decide +kernel⟩
def mL_law : MD := (yL_law, cL_law, 8, (some FieldType.int), [(0, 16, 19, 27), (0, 16, 23, 13), (0, 16, 27, 22)], (8, 6, 43), cfL)
theorem mL_law_ok : MOk mL_law 7 := ⟨lg_4 (i := 3) (by decide +kernel) rfl, lg_1 (i := 0) (by decide +kernel) rfl, ⟨by decide +kernel, by decide +kernel⟩, par_ok (by decide +kernel), by decide +kernel⟩
def mX10_law : MD := (yX10_law, cX10_law, 7, (some FieldType.int), [], (2, 0, 0), cfX10)
theorem mX10_law_ok : MOk mX10_law 5 := ⟨lg_6 (i := 207) (by decide +kernel) rfl, lg_1 (i := 15) (by decide +kernel) rfl, ⟨by decide +kernel, by decide +kernel⟩, par_ok (by decide +kernel), by decide +kernel⟩
def mJx4a65c_isEmpty_aae02 : MD := (yJx4a65c_isEmpty_aae02, cJx4a65c_isEmpty_aae02, 1, (some FieldType.boolean), [], (0, 0, 0), cfJx4a65c)
theorem mJx4a65c_isEmpty_aae02_ok : MOk mJx4a65c_isEmpty_aae02 0 := ⟨lg_4 (i := 41) (by decide +kernel) rfl, lg_1 (i := 6) (by decide +kernel) rfl, ⟨by decide +kernel, by decide +kernel⟩, par_ok (by decide +kernel), by decide +kernel⟩
def mJx4a65c_fastRemove_b59b0 : MD := (yJx4a65c_fastRemove_b59b0, cJx4a65c_fastRemove_b59b0, 4, none, [], (1, 0, 0), cfJx4a65c)
theorem mJx4a65c_fastRemove_b59b0_ok : MOk mJx4a65c_fastRemove_b59b0 2 := ⟨lg_4 (i := 49) (by decide +kernel) rfl, lg_1 (i := 6) (by decide +kernel) rfl, ⟨by decide +kernel, by decide +kernel⟩, par_ok (by decide +kernel), by decide +kernel⟩
def mJx4a65c_remove_915e3 : MD := (yJx4a65c_remove_915e3, cJx4a65c_remove_915e3, 4, (some (FieldType.object "java/lang/Object")), [], (2, 0, 0), cfJx4a65c)
theorem mJx4a65c_remove_915e3_ok : MOk mJx4a65c_remove_915e3 1 := ⟨lg_4 (i := 45) (by decide +kernel) rfl, lg_1 (i := 6) (by decide +kernel) rfl, ⟨by decide +kernel, by decide +kernel⟩, par_ok (by decide +kernel), by decide +kernel⟩
def mX9_unlaw : MD := (yX9_unlaw, cX9_unlaw, 3, (some FieldType.int), [], (7, 2, 12), cfX9)
theorem mX9_unlaw_ok : MOk mX9_unlaw 1 := ⟨lg_4 (i := 37) (by decide +kernel) rfl, lg_1 (i := 1) (by decide +kernel) rfl, ⟨by decide +kernel, by decide +kernel⟩, par_ok (by decide +kernel), by decide +kernel⟩
def mL_unlaw : MD := (yL_unlaw, cL_unlaw, 4, (some FieldType.int), [(0, 9, 12, 27), (0, 9, 15, 22)], (8, 2, 12), cfL)
theorem mL_unlaw_ok : MOk mL_unlaw 3 := ⟨lg_4 (i := 33) (by decide +kernel) rfl, lg_1 (i := 0) (by decide +kernel) rfl, ⟨by decide +kernel, by decide +kernel⟩, par_ok (by decide +kernel), by decide +kernel⟩
def mX10_unlaw : MD := (yX10_unlaw, cX10_unlaw, 2, (some FieldType.int), [], (2, 0, 0), cfX10)
theorem mX10_unlaw_ok : MOk mX10_unlaw 1 := ⟨lg_6 (i := 213) (by decide +kernel) rfl, lg_1 (i := 15) (by decide +kernel) rfl, ⟨by decide +kernel, by decide +kernel⟩, par_ok (by decide +kernel), by decide +kernel⟩
def mX5_init : MD := (yX5_init, cX5_init, 5, none, [], (1, 0, 0), cfX5)
theorem mX5_init_ok : MOk mX5_init 4 := ⟨lg_4 (i := 62) (by decide +kernel) rfl, lg_1 (i := 28) (by decide +kernel) rfl, ⟨by decide +kernel, by decide +kernel⟩, par_ok (by decide +kernel), by decide +kernel⟩
def mX9_loan : MD := (yX9_loan, cX9_loan, 5, (some FieldType.int), [], (7, 5, 37), cfX9)
theorem mX9_loan_ok : MOk mX9_loan 4 := ⟨lg_4 (i := 57) (by decide +kernel) rfl, lg_1 (i := 1) (by decide +kernel) rfl, ⟨by decide +kernel, by decide +kernel⟩, par_ok (by decide +kernel), by decide +kernel⟩
def mL_loan : MD := (yL_loan, cL_loan, 7, (some FieldType.int), [(0, 14, 17, 27), (0, 14, 21, 13), (0, 14, 25, 22)], (8, 5, 37), cfL)
theorem mL_loan_ok : MOk mL_loan 6 := ⟨lg_4 (i := 53) (by decide +kernel) rfl, lg_1 (i := 0) (by decide +kernel) rfl, ⟨by decide +kernel, by decide +kernel⟩, par_ok (by decide +kernel), by decide +kernel⟩
def mX10_loan : MD := (yX10_loan, cX10_loan, 5, (some FieldType.int), [], (2, 0, 0), cfX10)
theorem mX10_loan_ok : MOk mX10_loan 4 := ⟨lg_6 (i := 217) (by decide +kernel) rfl, lg_1 (i := 15) (by decide +kernel) rfl, ⟨by decide +kernel, by decide +kernel⟩, par_ok (by decide +kernel), by decide +kernel⟩
def mX9_languages : MD := (yX9_languages, cX9_languages, 1, (some FieldType.int), [], (1, 0, 0), cfX9)
theorem mX9_languages_ok : MOk mX9_languages 0 := ⟨lg_2 (i := 59) (by decide +kernel) rfl, lg_1 (i := 1) (by decide +kernel) rfl, ⟨by decide +kernel, by decide +kernel⟩, par_ok (by decide +kernel), by decide +kernel⟩
def mX10_ok : MD := (yX10_ok, cX10_ok, 2, (some FieldType.int), [], (0, 0, 0), cfX10)
theorem mX10_ok_ok : MOk mX10_ok 1 := ⟨lg_6 (i := 225) (by decide +kernel) rfl, lg_1 (i := 15) (by decide +kernel) rfl, ⟨by decide +kernel, by decide +kernel⟩, par_ok (by decide +kernel), by decide +kernel⟩
def mX10_languages : MD := (yX10_languages, cX10_languages, 1, (some FieldType.int), [], (1, 0, 0), cfX10)
theorem mX10_languages_ok : MOk mX10_languages 0 := ⟨lg_6 (i := 221) (by decide +kernel) rfl, lg_1 (i := 15) (by decide +kernel) rfl, ⟨by decide +kernel, by decide +kernel⟩, par_ok (by decide +kernel), by decide +kernel⟩
def mX9_laws : MD := (yX9_laws, cX9_laws, 2, (some FieldType.int), [], (7, 1, 6), cfX9)
theorem mX9_laws_ok : MOk mX9_laws 1 := ⟨lg_4 (i := 85) (by decide +kernel) rfl, lg_1 (i := 1) (by decide +kernel) rfl, ⟨by decide +kernel, by decide +kernel⟩, par_ok (by decide +kernel), by decide +kernel⟩
def mL_laws : MD := (yL_laws, cL_laws, 4, (some FieldType.int), [(0, 9, 12, 27)], (8, 1, 6), cfL)
theorem mL_laws_ok : MOk mL_laws 3 := ⟨lg_4 (i := 81) (by decide +kernel) rfl, lg_1 (i := 0) (by decide +kernel) rfl, ⟨by decide +kernel, by decide +kernel⟩, par_ok (by decide +kernel), by decide +kernel⟩
def mX10_laws : MD := (yX10_laws, cX10_laws, 2, (some FieldType.int), [], (2, 0, 0), cfX10)
theorem mX10_laws_ok : MOk mX10_laws 1 := ⟨lg_6 (i := 229) (by decide +kernel) rfl, lg_1 (i := 15) (by decide +kernel) rfl, ⟨by decide +kernel, by decide +kernel⟩, par_ok (by decide +kernel), by decide +kernel⟩
def mX9_loans : MD := (yX9_loans, cX9_loans, 1, (some FieldType.int), [], (1, 0, 0), cfX9)
theorem mX9_loans_ok : MOk mX9_loans 0 := ⟨lg_2 (i := 67) (by decide +kernel) rfl, lg_1 (i := 1) (by decide +kernel) rfl, ⟨by decide +kernel, by decide +kernel⟩, par_ok (by decide +kernel), by decide +kernel⟩
def mX10_loans : MD := (yX10_loans, cX10_loans, 1, (some FieldType.int), [], (1, 0, 0), cfX10)
theorem mX10_loans_ok : MOk mX10_loans 0 := ⟨lg_6 (i := 233) (by decide +kernel) rfl, lg_1 (i := 15) (by decide +kernel) rfl, ⟨by decide +kernel, by decide +kernel⟩, par_ok (by decide +kernel), by decide +kernel⟩
def mX9_common : MD := (yX9_common, cX9_common, 6, (some FieldType.int), [], (7, 1, 6), cfX9)
theorem mX9_common_ok : MOk mX9_common 2 := ⟨lg_4 (i := 92) (by decide +kernel) rfl, lg_1 (i := 1) (by decide +kernel) rfl, ⟨by decide +kernel, by decide +kernel⟩, par_ok (by decide +kernel), by decide +kernel⟩
def mL_common : MD := (yL_common, cL_common, 5, (some FieldType.int), [(0, 10, 13, 27)], (8, 1, 6), cfL)
theorem mL_common_ok : MOk mL_common 4 := ⟨lg_4 (i := 88) (by decide +kernel) rfl, lg_1 (i := 0) (by decide +kernel) rfl, ⟨by decide +kernel, by decide +kernel⟩, par_ok (by decide +kernel), by decide +kernel⟩
def mX10_common : MD := (yX10_common, cX10_common, 5, (some FieldType.int), [], (2, 0, 0), cfX10)
theorem mX10_common_ok : MOk mX10_common 2 := ⟨lg_6 (i := 237) (by decide +kernel) rfl, lg_1 (i := 15) (by decide +kernel) rfl, ⟨by decide +kernel, by decide +kernel⟩, par_ok (by decide +kernel), by decide +kernel⟩
def mX4_cell : MD := (yX4_cell, cX4_cell, 2, (some FieldType.int), [], (0, 0, 0), cfX4)
theorem mX4_cell_ok : MOk mX4_cell 2 := ⟨lg_2 (i := 91) (by decide +kernel) rfl, lg_1 (i := 12) (by decide +kernel) rfl, ⟨by decide +kernel, by decide +kernel⟩, par_ok (by decide +kernel), by decide +kernel⟩
def mX4_inherit : MD := (yX4_inherit, cX4_inherit, 5, none, [], (3, 0, 0), cfX4)
theorem mX4_inherit_ok : MOk mX4_inherit 2 := ⟨lg_2 (i := 88) (by decide +kernel) rfl, lg_1 (i := 12) (by decide +kernel) rfl, ⟨by decide +kernel, by decide +kernel⟩, par_ok (by decide +kernel), by decide +kernel⟩
def mX5_comesTo : MD := (yX5_comesTo, cX5_comesTo, 4, (some FieldType.boolean), [], (0, 0, 0), cfX5)
theorem mX5_comesTo_ok : MOk mX5_comesTo 3 := ⟨lg_2 (i := 115) (by decide +kernel) rfl, lg_1 (i := 28) (by decide +kernel) rfl, ⟨by decide +kernel, by decide +kernel⟩, par_ok (by decide +kernel), by decide +kernel⟩
def mX4_hasWord : MD := (yX4_hasWord, cX4_hasWord, 3, (some FieldType.boolean), [], (1, 0, 0), cfX4)
theorem mX4_hasWord_ok : MOk mX4_hasWord 2 := ⟨lg_2 (i := 119) (by decide +kernel) rfl, lg_1 (i := 12) (by decide +kernel) rfl, ⟨by decide +kernel, by decide +kernel⟩, par_ok (by decide +kernel), by decide +kernel⟩
def mX4_borrow : MD := (yX4_borrow, cX4_borrow, 7, none, [], (3, 0, 0), cfX4)
theorem mX4_borrow_ok : MOk mX4_borrow 3 := ⟨lg_2 (i := 110) (by decide +kernel) rfl, lg_1 (i := 12) (by decide +kernel) rfl, ⟨by decide +kernel, by decide +kernel⟩, par_ok (by decide +kernel), by decide +kernel⟩
def mX8_at : MD := (yX8_at, cX8_at, 3, (some FieldType.int), [], (0, 0, 0), cfX8)
theorem mX8_at_ok : MOk mX8_at 2 := ⟨lg_2 (i := 130) (by decide +kernel) rfl, lg_1 (i := 22) (by decide +kernel) rfl, ⟨by decide +kernel, by decide +kernel⟩, par_ok (by decide +kernel), by decide +kernel⟩
def mX3_has : MD := (yX3_has, cX3_has, 2, (some FieldType.boolean), [], (0, 0, 0), cfX3)
theorem mX3_has_ok : MOk mX3_has 2 := ⟨lg_2 (i := 138) (by decide +kernel) rfl, lg_1 (i := 27) (by decide +kernel) rfl, ⟨by decide +kernel, by decide +kernel⟩, par_ok (by decide +kernel), by decide +kernel⟩
def mX3_holdsAt : MD := (yX3_holdsAt, cX3_holdsAt, 6, (some FieldType.boolean), [], (1, 0, 0), cfX3)
theorem mX3_holdsAt_ok : MOk mX3_holdsAt 2 := ⟨lg_2 (i := 135) (by decide +kernel) rfl, lg_1 (i := 27) (by decide +kernel) rfl, ⟨by decide +kernel, by decide +kernel⟩, par_ok (by decide +kernel), by decide +kernel⟩
def mX6_turned : MD := (yX6_turned, cX6_turned, 5, (some FieldType.int), [], (0, 0, 0), cfX6)
theorem mX6_turned_ok : MOk mX6_turned 2 := ⟨lg_2 (i := 146) (by decide +kernel) rfl, lg_1 (i := 2) (by decide +kernel) rfl, ⟨by decide +kernel, by decide +kernel⟩, par_ok (by decide +kernel), by decide +kernel⟩
def mX3_heirOf : MD := (yX3_heirOf, cX3_heirOf, 3, (some FieldType.int), [], (1, 0, 0), cfX3)
theorem mX3_heirOf_ok : MOk mX3_heirOf 2 := ⟨lg_2 (i := 142) (by decide +kernel) rfl, lg_1 (i := 27) (by decide +kernel) rfl, ⟨by decide +kernel, by decide +kernel⟩, par_ok (by decide +kernel), by decide +kernel⟩
def mX3_goOver : MD := (yX3_goOver, cX3_goOver, 9, (some FieldType.long), [], (2, 0, 0), cfX3)
theorem mX3_goOver_ok : MOk mX3_goOver 2 := ⟨lg_2 (i := 124) (by decide +kernel) rfl, lg_1 (i := 27) (by decide +kernel) rfl, ⟨by decide +kernel, by decide +kernel⟩, par_ok (by decide +kernel), by decide +kernel⟩
def mX4_tellWord : MD := (yX4_tellWord, cX4_tellWord, 8, none, [], (4, 0, 0), cfX4)
theorem mX4_tellWord_ok : MOk mX4_tellWord 2 := ⟨lg_2 (i := 84) (by decide +kernel) rfl, lg_1 (i := 12) (by decide +kernel) rfl, ⟨by decide +kernel, by decide +kernel⟩, par_ok (by decide +kernel), by decide +kernel⟩
def mX4_freshen : MD := (yX4_freshen, cX4_freshen, 3, none, [], (5, 0, 0), cfX4)
theorem mX4_freshen_ok : MOk mX4_freshen 1 := ⟨lg_2 (i := 79) (by decide +kernel) rfl, lg_1 (i := 12) (by decide +kernel) rfl, ⟨by decide +kernel, by decide +kernel⟩, par_ok (by decide +kernel), by decide +kernel⟩
def mX4_wordOf : MD := (yX4_wordOf, cX4_wordOf, 3, (some FieldType.long), [], (1, 0, 0), cfX4)
theorem mX4_wordOf_ok : MOk mX4_wordOf 2 := ⟨lg_2 (i := 174) (by decide +kernel) rfl, lg_1 (i := 12) (by decide +kernel) rfl, ⟨by decide +kernel, by decide +kernel⟩, par_ok (by decide +kernel), by decide +kernel⟩
def mX9_length : MD := (yX9_length, cX9_length, 3, (some FieldType.int), [], (7, 1, 6), cfX9)
theorem mX9_length_ok : MOk mX9_length 2 := ⟨lg_4 (i := 99) (by decide +kernel) rfl, lg_1 (i := 1) (by decide +kernel) rfl, ⟨by decide +kernel, by decide +kernel⟩, par_ok (by decide +kernel), by decide +kernel⟩
def mL_length : MD := (yL_length, cL_length, 5, (some FieldType.int), [(0, 10, 13, 27)], (8, 1, 6), cfL)
theorem mL_length_ok : MOk mL_length 4 := ⟨lg_4 (i := 95) (by decide +kernel) rfl, lg_1 (i := 0) (by decide +kernel) rfl, ⟨by decide +kernel, by decide +kernel⟩, par_ok (by decide +kernel), by decide +kernel⟩
def mX10_borrow : MD := (yX10_borrow, cX10_borrow, 10, none, [], (0, 0, 0), cfX10)
theorem mX10_borrow_ok : MOk mX10_borrow 4 := ⟨lg_7 (i := 17) (by decide +kernel) rfl, lg_1 (i := 15) (by decide +kernel) rfl, ⟨by decide +kernel, by decide +kernel⟩, par_ok (by decide +kernel), by decide +kernel⟩
def mX10_at : MD := (yX10_at, cX10_at, 6, (some FieldType.int), [], (1, 0, 0), cfX10)
theorem mX10_at_ok : MOk mX10_at 2 := ⟨lg_7 (i := 24) (by decide +kernel) rfl, lg_1 (i := 15) (by decide +kernel) rfl, ⟨by decide +kernel, by decide +kernel⟩, par_ok (by decide +kernel), by decide +kernel⟩
def mX10_isBeside : MD := (yX10_isBeside, cX10_isBeside, 3, (some FieldType.boolean), [], (0, 0, 0), cfX10)
theorem mX10_isBeside_ok : MOk mX10_isBeside 3 := ⟨lg_7 (i := 27) (by decide +kernel) rfl, lg_1 (i := 15) (by decide +kernel) rfl, ⟨by decide +kernel, by decide +kernel⟩, par_ok (by decide +kernel), by decide +kernel⟩
def mX10_turned : MD := (yX10_turned, cX10_turned, 4, (some FieldType.int), [], (0, 0, 0), cfX10)
theorem mX10_turned_ok : MOk mX10_turned 2 := ⟨lg_7 (i := 31) (by decide +kernel) rfl, lg_1 (i := 15) (by decide +kernel) rfl, ⟨by decide +kernel, by decide +kernel⟩, par_ok (by decide +kernel), by decide +kernel⟩
def mX10_changed : MD := (yX10_changed, cX10_changed, 11, (some FieldType.long), [], (2, 0, 0), cfX10)
theorem mX10_changed_ok : MOk mX10_changed 2 := ⟨lg_7 (i := 21) (by decide +kernel) rfl, lg_1 (i := 15) (by decide +kernel) rfl, ⟨by decide +kernel, by decide +kernel⟩, par_ok (by decide +kernel), by decide +kernel⟩
def mX10_grow : MD := (yX10_grow, cX10_grow, 7, none, [], (3, 0, 0), cfX10)
theorem mX10_grow_ok : MOk mX10_grow 2 := ⟨lg_7 (i := 13) (by decide +kernel) rfl, lg_1 (i := 15) (by decide +kernel) rfl, ⟨by decide +kernel, by decide +kernel⟩, par_ok (by decide +kernel), by decide +kernel⟩
def mX10_solve : MD := (yX10_solve, cX10_solve, 3, none, [], (4, 0, 0), cfX10)
theorem mX10_solve_ok : MOk mX10_solve 0 := ⟨lg_7 (i := 9) (by decide +kernel) rfl, lg_1 (i := 15) (by decide +kernel) rfl, ⟨by decide +kernel, by decide +kernel⟩, par_ok (by decide +kernel), by decide +kernel⟩
def mX10_isAsked : MD := (yX10_isAsked, cX10_isAsked, 3, (some FieldType.boolean), [], (5, 0, 0), cfX10)
theorem mX10_isAsked_ok : MOk mX10_isAsked 2 := ⟨lg_7 (i := 5) (by decide +kernel) rfl, lg_1 (i := 15) (by decide +kernel) rfl, ⟨by decide +kernel, by decide +kernel⟩, par_ok (by decide +kernel), by decide +kernel⟩
def mX10_wordOf : MD := (yX10_wordOf, cX10_wordOf, 3, (some FieldType.long), [], (0, 0, 0), cfX10)
theorem mX10_wordOf_ok : MOk mX10_wordOf 2 := ⟨lg_7 (i := 35) (by decide +kernel) rfl, lg_1 (i := 15) (by decide +kernel) rfl, ⟨by decide +kernel, by decide +kernel⟩, par_ok (by decide +kernel), by decide +kernel⟩
def mX10_length_ : MD := (yX10_length_, cX10_length_, 3, (some FieldType.int), [], (6, 0, 0), cfX10)
theorem mX10_length__ok : MOk mX10_length_ 2 := ⟨lg_7 (i := 1) (by decide +kernel) rfl, lg_1 (i := 15) (by decide +kernel) rfl, ⟨by decide +kernel, by decide +kernel⟩, par_ok (by decide +kernel), by decide +kernel⟩
def mX9_soundIn : MD := (yX9_soundIn, cX9_soundIn, 3, (some FieldType.int), [], (7, 1, 6), cfX9)
theorem mX9_soundIn_ok : MOk mX9_soundIn 2 := ⟨lg_4 (i := 110) (by decide +kernel) rfl, lg_1 (i := 1) (by decide +kernel) rfl, ⟨by decide +kernel, by decide +kernel⟩, par_ok (by decide +kernel), by decide +kernel⟩
def mX9_soundAt : MD := (yX9_soundAt, cX9_soundAt, 4, (some FieldType.int), [], (8, 2, 12), cfX9)
theorem mX9_soundAt_ok : MOk mX9_soundAt 3 := ⟨lg_4 (i := 107) (by decide +kernel) rfl, lg_1 (i := 1) (by decide +kernel) rfl, ⟨by decide +kernel, by decide +kernel⟩, par_ok (by decide +kernel), by decide +kernel⟩
def mL_soundAt : MD := (yL_soundAt, cL_soundAt, 6, (some FieldType.int), [(0, 12, 15, 27)], (9, 2, 12), cfL)
theorem mL_soundAt_ok : MOk mL_soundAt 5 := ⟨lg_4 (i := 103) (by decide +kernel) rfl, lg_1 (i := 0) (by decide +kernel) rfl, ⟨by decide +kernel, by decide +kernel⟩, par_ok (by decide +kernel), by decide +kernel⟩
def mX10_soundAt : MD := (yX10_soundAt, cX10_soundAt, 4, (some FieldType.int), [], (6, 0, 0), cfX10)
theorem mX10_soundAt_ok : MOk mX10_soundAt 3 := ⟨lg_7 (i := 39) (by decide +kernel) rfl, lg_1 (i := 15) (by decide +kernel) rfl, ⟨by decide +kernel, by decide +kernel⟩, par_ok (by decide +kernel), by decide +kernel⟩
def mX4_originOf : MD := (yX4_originOf, cX4_originOf, 3, (some FieldType.int), [], (1, 0, 0), cfX4)
theorem mX4_originOf_ok : MOk mX4_originOf 2 := ⟨lg_2 (i := 237) (by decide +kernel) rfl, lg_1 (i := 12) (by decide +kernel) rfl, ⟨by decide +kernel, by decide +kernel⟩, par_ok (by decide +kernel), by decide +kernel⟩
def mX9_origin : MD := (yX9_origin, cX9_origin, 3, (some FieldType.int), [], (7, 1, 6), cfX9)
theorem mX9_origin_ok : MOk mX9_origin 2 := ⟨lg_4 (i := 117) (by decide +kernel) rfl, lg_1 (i := 1) (by decide +kernel) rfl, ⟨by decide +kernel, by decide +kernel⟩, par_ok (by decide +kernel), by decide +kernel⟩
def mL_origin : MD := (yL_origin, cL_origin, 5, (some FieldType.int), [(0, 10, 13, 27)], (8, 1, 6), cfL)
theorem mL_origin_ok : MOk mL_origin 4 := ⟨lg_4 (i := 113) (by decide +kernel) rfl, lg_1 (i := 0) (by decide +kernel) rfl, ⟨by decide +kernel, by decide +kernel⟩, par_ok (by decide +kernel), by decide +kernel⟩
def mX10_hasWord : MD := (yX10_hasWord, cX10_hasWord, 3, (some FieldType.boolean), [], (1, 0, 0), cfX10)
theorem mX10_hasWord_ok : MOk mX10_hasWord 2 := ⟨lg_7 (i := 51) (by decide +kernel) rfl, lg_1 (i := 15) (by decide +kernel) rfl, ⟨by decide +kernel, by decide +kernel⟩, par_ok (by decide +kernel), by decide +kernel⟩
def mX10_originOf : MD := (yX10_originOf, cX10_originOf, 3, (some FieldType.int), [], (2, 0, 0), cfX10)
theorem mX10_originOf_ok : MOk mX10_originOf 2 := ⟨lg_7 (i := 47) (by decide +kernel) rfl, lg_1 (i := 15) (by decide +kernel) rfl, ⟨by decide +kernel, by decide +kernel⟩, par_ok (by decide +kernel), by decide +kernel⟩
def mX10_origin : MD := (yX10_origin, cX10_origin, 3, (some FieldType.int), [], (6, 0, 0), cfX10)
theorem mX10_origin_ok : MOk mX10_origin 2 := ⟨lg_7 (i := 43) (by decide +kernel) rfl, lg_1 (i := 15) (by decide +kernel) rfl, ⟨by decide +kernel, by decide +kernel⟩, par_ok (by decide +kernel), by decide +kernel⟩
def mX4_changersOf : MD := (yX4_changersOf, cX4_changersOf, 3, (some FieldType.int), [], (1, 0, 0), cfX4)
theorem mX4_changersOf_ok : MOk mX4_changersOf 2 := ⟨lg_3 (i := 59) (by decide +kernel) rfl, lg_1 (i := 12) (by decide +kernel) rfl, ⟨by decide +kernel, by decide +kernel⟩, par_ok (by decide +kernel), by decide +kernel⟩
def mX9_changedBy : MD := (yX9_changedBy, cX9_changedBy, 3, (some FieldType.int), [], (7, 1, 6), cfX9)
theorem mX9_changedBy_ok : MOk mX9_changedBy 2 := ⟨lg_4 (i := 124) (by decide +kernel) rfl, lg_1 (i := 1) (by decide +kernel) rfl, ⟨by decide +kernel, by decide +kernel⟩, par_ok (by decide +kernel), by decide +kernel⟩
def mL_changedBy : MD := (yL_changedBy, cL_changedBy, 5, (some FieldType.int), [(0, 10, 13, 27)], (8, 1, 6), cfL)
theorem mL_changedBy_ok : MOk mL_changedBy 4 := ⟨lg_4 (i := 120) (by decide +kernel) rfl, lg_1 (i := 0) (by decide +kernel) rfl, ⟨by decide +kernel, by decide +kernel⟩, par_ok (by decide +kernel), by decide +kernel⟩
def mX10_changesOf : MD := (yX10_changesOf, cX10_changesOf, 3, (some FieldType.int), [], (2, 0, 0), cfX10)
theorem mX10_changesOf_ok : MOk mX10_changesOf 2 := ⟨lg_7 (i := 59) (by decide +kernel) rfl, lg_1 (i := 15) (by decide +kernel) rfl, ⟨by decide +kernel, by decide +kernel⟩, par_ok (by decide +kernel), by decide +kernel⟩
def mX10_changedBy : MD := (yX10_changedBy, cX10_changedBy, 3, (some FieldType.int), [], (6, 0, 0), cfX10)
theorem mX10_changedBy_ok : MOk mX10_changedBy 2 := ⟨lg_7 (i := 55) (by decide +kernel) rfl, lg_1 (i := 15) (by decide +kernel) rfl, ⟨by decide +kernel, by decide +kernel⟩, par_ok (by decide +kernel), by decide +kernel⟩
def mX4_freshenAll : MD := (yX4_freshenAll, cX4_freshenAll, 2, none, [], (6, 0, 0), cfX4)
theorem mX4_freshenAll_ok : MOk mX4_freshenAll 0 := ⟨lg_2 (i := 75) (by decide +kernel) rfl, lg_1 (i := 12) (by decide +kernel) rfl, ⟨by decide +kernel, by decide +kernel⟩, par_ok (by decide +kernel), by decide +kernel⟩
def mX9_countWords : MD := (yX9_countWords, cX9_countWords, 4, (some FieldType.int), [], (2, 0, 0), cfX9)
theorem mX9_countWords_ok : MOk mX9_countWords 1 := ⟨lg_2 (i := 165) (by decide +kernel) rfl, lg_1 (i := 1) (by decide +kernel) rfl, ⟨by decide +kernel, by decide +kernel⟩, par_ok (by decide +kernel), by decide +kernel⟩
def mX9_wealth : MD := (yX9_wealth, cX9_wealth, 2, (some FieldType.int), [], (7, 1, 6), cfX9)
theorem mX9_wealth_ok : MOk mX9_wealth 1 := ⟨lg_4 (i := 131) (by decide +kernel) rfl, lg_1 (i := 1) (by decide +kernel) rfl, ⟨by decide +kernel, by decide +kernel⟩, par_ok (by decide +kernel), by decide +kernel⟩
def mL_wealth : MD := (yL_wealth, cL_wealth, 4, (some FieldType.int), [(0, 9, 12, 27)], (8, 1, 6), cfL)
theorem mL_wealth_ok : MOk mL_wealth 3 := ⟨lg_4 (i := 127) (by decide +kernel) rfl, lg_1 (i := 0) (by decide +kernel) rfl, ⟨by decide +kernel, by decide +kernel⟩, par_ok (by decide +kernel), by decide +kernel⟩
def mX10_wealthOf : MD := (yX10_wealthOf, cX10_wealthOf, 4, (some FieldType.int), [], (2, 0, 0), cfX10)
theorem mX10_wealthOf_ok : MOk mX10_wealthOf 1 := ⟨lg_7 (i := 67) (by decide +kernel) rfl, lg_1 (i := 15) (by decide +kernel) rfl, ⟨by decide +kernel, by decide +kernel⟩, par_ok (by decide +kernel), by decide +kernel⟩
def mX10_wealth : MD := (yX10_wealth, cX10_wealth, 2, (some FieldType.int), [], (6, 0, 0), cfX10)
theorem mX10_wealth_ok : MOk mX10_wealth 1 := ⟨lg_7 (i := 63) (by decide +kernel) rfl, lg_1 (i := 15) (by decide +kernel) rfl, ⟨by decide +kernel, by decide +kernel⟩, par_ok (by decide +kernel), by decide +kernel⟩
def mX9_countAlike : MD := (yX9_countAlike, cX9_countAlike, 6, (some FieldType.int), [], (2, 0, 0), cfX9)
theorem mX9_countAlike_ok : MOk mX9_countAlike 1 := ⟨lg_2 (i := 170) (by decide +kernel) rfl, lg_1 (i := 1) (by decide +kernel) rfl, ⟨by decide +kernel, by decide +kernel⟩, par_ok (by decide +kernel), by decide +kernel⟩
def mX9_alike : MD := (yX9_alike, cX9_alike, 2, (some FieldType.int), [], (7, 1, 6), cfX9)
theorem mX9_alike_ok : MOk mX9_alike 1 := ⟨lg_4 (i := 138) (by decide +kernel) rfl, lg_1 (i := 1) (by decide +kernel) rfl, ⟨by decide +kernel, by decide +kernel⟩, par_ok (by decide +kernel), by decide +kernel⟩
def mL_alike : MD := (yL_alike, cL_alike, 4, (some FieldType.int), [(0, 9, 12, 27)], (8, 1, 6), cfL)
theorem mL_alike_ok : MOk mL_alike 3 := ⟨lg_4 (i := 134) (by decide +kernel) rfl, lg_1 (i := 0) (by decide +kernel) rfl, ⟨by decide +kernel, by decide +kernel⟩, par_ok (by decide +kernel), by decide +kernel⟩
def mX10_alikeIn : MD := (yX10_alikeIn, cX10_alikeIn, 5, (some FieldType.int), [], (2, 0, 0), cfX10)
theorem mX10_alikeIn_ok : MOk mX10_alikeIn 1 := ⟨lg_7 (i := 75) (by decide +kernel) rfl, lg_1 (i := 15) (by decide +kernel) rfl, ⟨by decide +kernel, by decide +kernel⟩, par_ok (by decide +kernel), by decide +kernel⟩
def mX10_alike : MD := (yX10_alike, cX10_alike, 2, (some FieldType.int), [], (6, 0, 0), cfX10)
theorem mX10_alike_ok : MOk mX10_alike 1 := ⟨lg_7 (i := 71) (by decide +kernel) rfl, lg_1 (i := 15) (by decide +kernel) rfl, ⟨by decide +kernel, by decide +kernel⟩, par_ok (by decide +kernel), by decide +kernel⟩
def mX9_collectSounds : MD := (yX9_collectSounds, cX9_collectSounds, 7, (some FieldType.int), [], (2, 0, 0), cfX9)
theorem mX9_collectSounds_ok : MOk mX9_collectSounds 1 := ⟨lg_2 (i := 178) (by decide +kernel) rfl, lg_1 (i := 1) (by decide +kernel) rfl, ⟨by decide +kernel, by decide +kernel⟩, par_ok (by decide +kernel), by decide +kernel⟩
def mX9_soundsOf : MD := (yX9_soundsOf, cX9_soundsOf, 2, (some FieldType.int), [], (7, 1, 6), cfX9)
theorem mX9_soundsOf_ok : MOk mX9_soundsOf 1 := ⟨lg_4 (i := 145) (by decide +kernel) rfl, lg_1 (i := 1) (by decide +kernel) rfl, ⟨by decide +kernel, by decide +kernel⟩, par_ok (by decide +kernel), by decide +kernel⟩
def mL_soundsOf : MD := (yL_soundsOf, cL_soundsOf, 4, (some FieldType.int), [(0, 9, 12, 27)], (8, 1, 6), cfL)
theorem mL_soundsOf_ok : MOk mL_soundsOf 3 := ⟨lg_4 (i := 141) (by decide +kernel) rfl, lg_1 (i := 0) (by decide +kernel) rfl, ⟨by decide +kernel, by decide +kernel⟩, par_ok (by decide +kernel), by decide +kernel⟩
def mX10_soundsIn : MD := (yX10_soundsIn, cX10_soundsIn, 5, (some FieldType.int), [], (2, 0, 0), cfX10)
theorem mX10_soundsIn_ok : MOk mX10_soundsIn 1 := ⟨lg_7 (i := 83) (by decide +kernel) rfl, lg_1 (i := 15) (by decide +kernel) rfl, ⟨by decide +kernel, by decide +kernel⟩, par_ok (by decide +kernel), by decide +kernel⟩
def mX10_soundsOf : MD := (yX10_soundsOf, cX10_soundsOf, 2, (some FieldType.int), [], (6, 0, 0), cfX10)
theorem mX10_soundsOf_ok : MOk mX10_soundsOf 1 := ⟨lg_7 (i := 79) (by decide +kernel) rfl, lg_1 (i := 15) (by decide +kernel) rfl, ⟨by decide +kernel, by decide +kernel⟩, par_ok (by decide +kernel), by decide +kernel⟩
def mX4_bothHave : MD := (yX4_bothHave, cX4_bothHave, 4, (some FieldType.boolean), [], (2, 0, 0), cfX4)
theorem mX4_bothHave_ok : MOk mX4_bothHave 3 := ⟨lg_2 (i := 199) (by decide +kernel) rfl, lg_1 (i := 12) (by decide +kernel) rfl, ⟨by decide +kernel, by decide +kernel⟩, par_ok (by decide +kernel), by decide +kernel⟩
def mX0_spellOut : MD := (yX0_spellOut, cX0_spellOut, 5, (some FieldType.int), [], (1, 0, 0), cfX0)
theorem mX0_spellOut_ok : MOk mX0_spellOut 2 := ⟨lg_2 (i := 206) (by decide +kernel) rfl, lg_1 (i := 13) (by decide +kernel) rfl, ⟨by decide +kernel, by decide +kernel⟩, par_ok (by decide +kernel), by decide +kernel⟩
def mX0_pairFrom : MD := (yX0_pairFrom, cX0_pairFrom, 3, (some FieldType.int), [], (0, 0, 0), cfX0)
theorem mX0_pairFrom_ok : MOk mX0_pairFrom 2 := ⟨lg_2 (i := 217) (by decide +kernel) rfl, lg_1 (i := 13) (by decide +kernel) rfl, ⟨by decide +kernel, by decide +kernel⟩, par_ok (by decide +kernel), by decide +kernel⟩
def mX0_leastFrom : MD := (yX0_leastFrom, cX0_leastFrom, 4, (some FieldType.int), [], (1, 0, 0), cfX0)
theorem mX0_leastFrom_ok : MOk mX0_leastFrom 2 := ⟨lg_2 (i := 213) (by decide +kernel) rfl, lg_1 (i := 13) (by decide +kernel) rfl, ⟨by decide +kernel, by decide +kernel⟩, par_ok (by decide +kernel), by decide +kernel⟩
def mX0_weigh : MD := (yX0_weigh, cX0_weigh, 7, (some FieldType.int), [], (2, 0, 0), cfX0)
theorem mX0_weigh_ok : MOk mX0_weigh 2 := ⟨lg_2 (i := 203) (by decide +kernel) rfl, lg_1 (i := 13) (by decide +kernel) rfl, ⟨by decide +kernel, by decide +kernel⟩, par_ok (by decide +kernel), by decide +kernel⟩
def mX9_leastCost : MD := (yX9_leastCost, cX9_leastCost, 5, (some FieldType.int), [], (3, 0, 0), cfX9)
theorem mX9_leastCost_ok : MOk mX9_leastCost 3 := ⟨lg_2 (i := 193) (by decide +kernel) rfl, lg_1 (i := 1) (by decide +kernel) rfl, ⟨by decide +kernel, by decide +kernel⟩, par_ok (by decide +kernel), by decide +kernel⟩
def mX9_cost : MD := (yX9_cost, cX9_cost, 4, (some FieldType.int), [], (7, 2, 12), cfX9)
theorem mX9_cost_ok : MOk mX9_cost 3 := ⟨lg_4 (i := 152) (by decide +kernel) rfl, lg_1 (i := 1) (by decide +kernel) rfl, ⟨by decide +kernel, by decide +kernel⟩, par_ok (by decide +kernel), by decide +kernel⟩
def mL_cost : MD := (yL_cost, cL_cost, 6, (some FieldType.int), [(0, 12, 15, 27), (0, 12, 19, 13)], (8, 2, 12), cfL)
theorem mL_cost_ok : MOk mL_cost 5 := ⟨lg_4 (i := 148) (by decide +kernel) rfl, lg_1 (i := 0) (by decide +kernel) rfl, ⟨by decide +kernel, by decide +kernel⟩, par_ok (by decide +kernel), by decide +kernel⟩
def mX10_areAsked : MD := (yX10_areAsked, cX10_areAsked, 4, (some FieldType.boolean), [], (5, 0, 0), cfX10)
theorem mX10_areAsked_ok : MOk mX10_areAsked 3 := ⟨lg_7 (i := 91) (by decide +kernel) rfl, lg_1 (i := 15) (by decide +kernel) rfl, ⟨by decide +kernel, by decide +kernel⟩, par_ok (by decide +kernel), by decide +kernel⟩
def mX10_spread : MD := (yX10_spread, cX10_spread, 7, (some FieldType.int), [], (1, 0, 0), cfX10)
theorem mX10_spread_ok : MOk mX10_spread 2 := ⟨lg_7 (i := 102) (by decide +kernel) rfl, lg_1 (i := 15) (by decide +kernel) rfl, ⟨by decide +kernel, by decide +kernel⟩, par_ok (by decide +kernel), by decide +kernel⟩
def mX10_costOf : MD := (yX10_costOf, cX10_costOf, 5, (some FieldType.int), [], (0, 0, 0), cfX10)
theorem mX10_costOf_ok : MOk mX10_costOf 2 := ⟨lg_7 (i := 107) (by decide +kernel) rfl, lg_1 (i := 15) (by decide +kernel) rfl, ⟨by decide +kernel, by decide +kernel⟩, par_ok (by decide +kernel), by decide +kernel⟩
def mX10_restAt : MD := (yX10_restAt, cX10_restAt, 3, (some FieldType.int), [], (0, 0, 0), cfX10)
theorem mX10_restAt_ok : MOk mX10_restAt 2 := ⟨lg_7 (i := 111) (by decide +kernel) rfl, lg_1 (i := 15) (by decide +kernel) rfl, ⟨by decide +kernel, by decide +kernel⟩, par_ok (by decide +kernel), by decide +kernel⟩
def mX10_align : MD := (yX10_align, cX10_align, 11, (some FieldType.int), [], (2, 0, 0), cfX10)
theorem mX10_align_ok : MOk mX10_align 2 := ⟨lg_7 (i := 99) (by decide +kernel) rfl, lg_1 (i := 15) (by decide +kernel) rfl, ⟨by decide +kernel, by decide +kernel⟩, par_ok (by decide +kernel), by decide +kernel⟩
def mX10_costNow : MD := (yX10_costNow, cX10_costNow, 4, (some FieldType.int), [], (3, 0, 0), cfX10)
theorem mX10_costNow_ok : MOk mX10_costNow 3 := ⟨lg_7 (i := 95) (by decide +kernel) rfl, lg_1 (i := 15) (by decide +kernel) rfl, ⟨by decide +kernel, by decide +kernel⟩, par_ok (by decide +kernel), by decide +kernel⟩
def mX10_cost : MD := (yX10_cost, cX10_cost, 4, (some FieldType.int), [], (6, 0, 0), cfX10)
theorem mX10_cost_ok : MOk mX10_cost 3 := ⟨lg_7 (i := 87) (by decide +kernel) rfl, lg_1 (i := 15) (by decide +kernel) rfl, ⟨by decide +kernel, by decide +kernel⟩, par_ok (by decide +kernel), by decide +kernel⟩
def mX0_takesPair : MD := (yX0_takesPair, cX0_takesPair, 3, (some FieldType.boolean), [], (1, 0, 0), cfX0)
theorem mX0_takesPair_ok : MOk mX0_takesPair 2 := ⟨lg_3 (i := 19) (by decide +kernel) rfl, lg_1 (i := 13) (by decide +kernel) rfl, ⟨by decide +kernel, by decide +kernel⟩, par_ok (by decide +kernel), by decide +kernel⟩
def mX0_takesFirstAlone : MD := (yX0_takesFirstAlone, cX0_takesFirstAlone, 3, (some FieldType.boolean), [], (0, 0, 0), cfX0)
theorem mX0_takesFirstAlone_ok : MOk mX0_takesFirstAlone 2 := ⟨lg_3 (i := 23) (by decide +kernel) rfl, lg_1 (i := 13) (by decide +kernel) rfl, ⟨by decide +kernel, by decide +kernel⟩, par_ok (by decide +kernel), by decide +kernel⟩
def mX0_align : MD := (yX0_align, cX0_align, 11, (some FieldType.int), [], (3, 0, 0), cfX0)
theorem mX0_align_ok : MOk mX0_align 2 := ⟨lg_3 (i := 14) (by decide +kernel) rfl, lg_1 (i := 13) (by decide +kernel) rfl, ⟨by decide +kernel, by decide +kernel⟩, par_ok (by decide +kernel), by decide +kernel⟩
def mX9_layOut : MD := (yX9_layOut, cX9_layOut, 4, (some FieldType.int), [], (4, 0, 0), cfX9)
theorem mX9_layOut_ok : MOk mX9_layOut 3 := ⟨lg_4 (i := 163) (by decide +kernel) rfl, lg_1 (i := 1) (by decide +kernel) rfl, ⟨by decide +kernel, by decide +kernel⟩, par_ok (by decide +kernel), by decide +kernel⟩
def mX9_columns : MD := (yX9_columns, cX9_columns, 4, (some FieldType.int), [], (7, 2, 12), cfX9)
theorem mX9_columns_ok : MOk mX9_columns 3 := ⟨lg_4 (i := 159) (by decide +kernel) rfl, lg_1 (i := 1) (by decide +kernel) rfl, ⟨by decide +kernel, by decide +kernel⟩, par_ok (by decide +kernel), by decide +kernel⟩
def mL_columns : MD := (yL_columns, cL_columns, 6, (some FieldType.int), [(0, 12, 15, 27), (0, 12, 19, 13)], (8, 2, 12), cfL)
theorem mL_columns_ok : MOk mL_columns 5 := ⟨lg_4 (i := 155) (by decide +kernel) rfl, lg_1 (i := 0) (by decide +kernel) rfl, ⟨by decide +kernel, by decide +kernel⟩, par_ok (by decide +kernel), by decide +kernel⟩
def mX10_columnsNow : MD := (yX10_columnsNow, cX10_columnsNow, 4, (some FieldType.int), [], (4, 0, 0), cfX10)
theorem mX10_columnsNow_ok : MOk mX10_columnsNow 3 := ⟨lg_7 (i := 120) (by decide +kernel) rfl, lg_1 (i := 15) (by decide +kernel) rfl, ⟨by decide +kernel, by decide +kernel⟩, par_ok (by decide +kernel), by decide +kernel⟩
def mX10_columns : MD := (yX10_columns, cX10_columns, 4, (some FieldType.int), [], (6, 0, 0), cfX10)
theorem mX10_columns_ok : MOk mX10_columns 3 := ⟨lg_7 (i := 116) (by decide +kernel) rfl, lg_1 (i := 15) (by decide +kernel) rfl, ⟨by decide +kernel, by decide +kernel⟩, par_ok (by decide +kernel), by decide +kernel⟩
def mX0_upperAt : MD := (yX0_upperAt, cX0_upperAt, 2, (some FieldType.int), [], (0, 0, 0), cfX0)
theorem mX0_upperAt_ok : MOk mX0_upperAt 1 := ⟨lg_3 (i := 31) (by decide +kernel) rfl, lg_1 (i := 13) (by decide +kernel) rfl, ⟨by decide +kernel, by decide +kernel⟩, par_ok (by decide +kernel), by decide +kernel⟩
def mX0_lowerAt : MD := (yX0_lowerAt, cX0_lowerAt, 2, (some FieldType.int), [], (0, 0, 0), cfX0)
theorem mX0_lowerAt_ok : MOk mX0_lowerAt 1 := ⟨lg_3 (i := 35) (by decide +kernel) rfl, lg_1 (i := 13) (by decide +kernel) rfl, ⟨by decide +kernel, by decide +kernel⟩, par_ok (by decide +kernel), by decide +kernel⟩
def mX9_columnAt : MD := (yX9_columnAt, cX9_columnAt, 5, (some FieldType.int), [], (7, 3, 18), cfX9)
theorem mX9_columnAt_ok : MOk mX9_columnAt 4 := ⟨lg_4 (i := 170) (by decide +kernel) rfl, lg_1 (i := 1) (by decide +kernel) rfl, ⟨by decide +kernel, by decide +kernel⟩, par_ok (by decide +kernel), by decide +kernel⟩
def mL_columnAt : MD := (yL_columnAt, cL_columnAt, 7, (some FieldType.int), [(0, 14, 17, 27), (0, 14, 21, 13)], (8, 3, 18), cfL)
theorem mL_columnAt_ok : MOk mL_columnAt 6 := ⟨lg_4 (i := 166) (by decide +kernel) rfl, lg_1 (i := 0) (by decide +kernel) rfl, ⟨by decide +kernel, by decide +kernel⟩, par_ok (by decide +kernel), by decide +kernel⟩
def mX10_columnAt : MD := (yX10_columnAt, cX10_columnAt, 5, (some FieldType.int), [], (6, 0, 0), cfX10)
theorem mX10_columnAt_ok : MOk mX10_columnAt 4 := ⟨lg_7 (i := 124) (by decide +kernel) rfl, lg_1 (i := 15) (by decide +kernel) rfl, ⟨by decide +kernel, by decide +kernel⟩, par_ok (by decide +kernel), by decide +kernel⟩
def mX9_isSoundOrNone : MD := (yX9_isSoundOrNone, cX9_isSoundOrNone, 1, (some FieldType.boolean), [], (1, 0, 0), cfX9)
theorem mX9_isSoundOrNone_ok : MOk mX9_isSoundOrNone 1 := ⟨lg_4 (i := 180) (by decide +kernel) rfl, lg_1 (i := 1) (by decide +kernel) rfl, ⟨by decide +kernel, by decide +kernel⟩, par_ok (by decide +kernel), by decide +kernel⟩
def mX9_columnSign : MD := (yX9_columnSign, cX9_columnSign, 1, (some FieldType.int), [], (0, 0, 0), cfX9)
theorem mX9_columnSign_ok : MOk mX9_columnSign 1 := ⟨lg_4 (i := 183) (by decide +kernel) rfl, lg_1 (i := 1) (by decide +kernel) rfl, ⟨by decide +kernel, by decide +kernel⟩, par_ok (by decide +kernel), by decide +kernel⟩
def mX7_clear : MD := (yX7_clear, cX7_clear, 1, none, [], (1, 0, 0), cfX7)
theorem mX7_clear_ok : MOk mX7_clear 0 := ⟨lg_3 (i := 5) (by decide +kernel) rfl, lg_1 (i := 14) (by decide +kernel) rfl, ⟨by decide +kernel, by decide +kernel⟩, par_ok (by decide +kernel), by decide +kernel⟩
def mX4_areKin : MD := (yX4_areKin, cX4_areKin, 4, (some FieldType.boolean), [], (2, 0, 0), cfX4)
theorem mX4_areKin_ok : MOk mX4_areKin 3 := ⟨lg_2 (i := 233) (by decide +kernel) rfl, lg_1 (i := 12) (by decide +kernel) rfl, ⟨by decide +kernel, by decide +kernel⟩, par_ok (by decide +kernel), by decide +kernel⟩
def mX7_add : MD := (yX7_add, cX7_add, 2, none, [], (0, 0, 0), cfX7)
theorem mX7_add_ok : MOk mX7_add 1 := ⟨lg_3 (i := 10) (by decide +kernel) rfl, lg_1 (i := 14) (by decide +kernel) rfl, ⟨by decide +kernel, by decide +kernel⟩, par_ok (by decide +kernel), by decide +kernel⟩
def mX9_collectAnswers : MD := (yX9_collectAnswers, cX9_collectAnswers, 7, none, [], (5, 0, 0), cfX9)
theorem mX9_collectAnswers_ok : MOk mX9_collectAnswers 3 := ⟨lg_4 (i := 187) (by decide +kernel) rfl, lg_1 (i := 1) (by decide +kernel) rfl, ⟨by decide +kernel, by decide +kernel⟩, par_ok (by decide +kernel), by decide +kernel⟩
def mX7_countOf : MD := (yX7_countOf, cX7_countOf, 2, (some FieldType.int), [], (0, 0, 0), cfX7)
theorem mX7_countOf_ok : MOk mX7_countOf 1 := ⟨lg_4 (i := 191) (by decide +kernel) rfl, lg_1 (i := 14) (by decide +kernel) rfl, ⟨by decide +kernel, by decide +kernel⟩, par_ok (by decide +kernel), by decide +kernel⟩
def mX9_answers : MD := (yX9_answers, cX9_answers, 5, (some FieldType.int), [], (7, 2, 12), cfX9)
theorem mX9_answers_ok : MOk mX9_answers 4 := ⟨lg_4 (i := 177) (by decide +kernel) rfl, lg_1 (i := 1) (by decide +kernel) rfl, ⟨by decide +kernel, by decide +kernel⟩, par_ok (by decide +kernel), by decide +kernel⟩
def mL_answers : MD := (yL_answers, cL_answers, 7, (some FieldType.int), [(0, 14, 17, 27), (0, 14, 21, 13)], (8, 2, 12), cfL)
theorem mL_answers_ok : MOk mL_answers 6 := ⟨lg_4 (i := 173) (by decide +kernel) rfl, lg_1 (i := 0) (by decide +kernel) rfl, ⟨by decide +kernel, by decide +kernel⟩, par_ok (by decide +kernel), by decide +kernel⟩
def mX10_areKin : MD := (yX10_areKin, cX10_areKin, 4, (some FieldType.boolean), [], (3, 0, 0), cfX10)
theorem mX10_areKin_ok : MOk mX10_areKin 3 := ⟨lg_7 (i := 136) (by decide +kernel) rfl, lg_1 (i := 15) (by decide +kernel) rfl, ⟨by decide +kernel, by decide +kernel⟩, par_ok (by decide +kernel), by decide +kernel⟩
def mX10_answersNow : MD := (yX10_answersNow, cX10_answersNow, 8, (some FieldType.int), [], (4, 0, 0), cfX10)
theorem mX10_answersNow_ok : MOk mX10_answersNow 4 := ⟨lg_7 (i := 132) (by decide +kernel) rfl, lg_1 (i := 15) (by decide +kernel) rfl, ⟨by decide +kernel, by decide +kernel⟩, par_ok (by decide +kernel), by decide +kernel⟩
def mX10_answers : MD := (yX10_answers, cX10_answers, 5, (some FieldType.int), [], (5, 0, 0), cfX10)
theorem mX10_answers_ok : MOk mX10_answers 4 := ⟨lg_7 (i := 128) (by decide +kernel) rfl, lg_1 (i := 15) (by decide +kernel) rfl, ⟨by decide +kernel, by decide +kernel⟩, par_ok (by decide +kernel), by decide +kernel⟩
def mX7_winner : MD := (yX7_winner, cX7_winner, 4, (some FieldType.int), [], (0, 0, 0), cfX7)
theorem mX7_winner_ok : MOk mX7_winner 0 := ⟨lg_3 (i := 43) (by decide +kernel) rfl, lg_1 (i := 14) (by decide +kernel) rfl, ⟨by decide +kernel, by decide +kernel⟩, par_ok (by decide +kernel), by decide +kernel⟩
def mX9_mainAnswer : MD := (yX9_mainAnswer, cX9_mainAnswer, 5, (some FieldType.int), [], (7, 2, 12), cfX9)
theorem mX9_mainAnswer_ok : MOk mX9_mainAnswer 3 := ⟨lg_4 (i := 198) (by decide +kernel) rfl, lg_1 (i := 1) (by decide +kernel) rfl, ⟨by decide +kernel, by decide +kernel⟩, par_ok (by decide +kernel), by decide +kernel⟩
def mL_mainAnswer : MD := (yL_mainAnswer, cL_mainAnswer, 6, (some FieldType.int), [(0, 12, 15, 27), (0, 12, 19, 13)], (8, 2, 12), cfL)
theorem mL_mainAnswer_ok : MOk mL_mainAnswer 5 := ⟨lg_4 (i := 194) (by decide +kernel) rfl, lg_1 (i := 0) (by decide +kernel) rfl, ⟨by decide +kernel, by decide +kernel⟩, par_ok (by decide +kernel), by decide +kernel⟩
def mX10_mainAnswer : MD := (yX10_mainAnswer, cX10_mainAnswer, 8, (some FieldType.int), [], (5, 0, 0), cfX10)
theorem mX10_mainAnswer_ok : MOk mX10_mainAnswer 3 := ⟨lg_7 (i := 140) (by decide +kernel) rfl, lg_1 (i := 15) (by decide +kernel) rfl, ⟨by decide +kernel, by decide +kernel⟩, par_ok (by decide +kernel), by decide +kernel⟩
def mX9_distanceOf : MD := (yX9_distanceOf, cX9_distanceOf, 7, (some FieldType.double), [], (4, 0, 0), cfX9)
theorem mX9_distanceOf_ok : MOk mX9_distanceOf 2 := ⟨lg_2 (i := 189) (by decide +kernel) rfl, lg_1 (i := 1) (by decide +kernel) rfl, ⟨by decide +kernel, by decide +kernel⟩, par_ok (by decide +kernel), by decide +kernel⟩
def mX9_far : MD := (yX9_far, cX9_far, 5, (some FieldType.double), [], (7, 1, 6), cfX9)
theorem mX9_far_ok : MOk mX9_far 2 := ⟨lg_4 (i := 205) (by decide +kernel) rfl, lg_1 (i := 1) (by decide +kernel) rfl, ⟨by decide +kernel, by decide +kernel⟩, par_ok (by decide +kernel), by decide +kernel⟩
def mL_far : MD := (yL_far, cL_far, 5, (some FieldType.int), [(0, 9, 12, 27)], (8, 1, 6), cfL)
theorem mL_far_ok : MOk mL_far 4 := ⟨lg_4 (i := 201) (by decide +kernel) rfl, lg_1 (i := 0) (by decide +kernel) rfl, ⟨by decide +kernel, by decide +kernel⟩, par_ok (by decide +kernel), by decide +kernel⟩
def mX10_costs : MD := (yX10_costs, cX10_costs, 5, (some (FieldType.array FieldType.int)), [], (4, 1, 1200), cfX10)
theorem mX10_costs_ok : MOk mX10_costs 0 := ⟨lg_7 (i := 148) (by decide +kernel) rfl, lg_1 (i := 15) (by decide +kernel) rfl, ⟨by decide +kernel, by decide +kernel⟩, par_ok (by decide +kernel), by decide +kernel⟩
def mX10_shared : MD := (yX10_shared, cX10_shared, 5, (some FieldType.int), [], (2, 0, 0), cfX10)
theorem mX10_shared_ok : MOk mX10_shared 2 := ⟨lg_7 (i := 157) (by decide +kernel) rfl, lg_1 (i := 15) (by decide +kernel) rfl, ⟨by decide +kernel, by decide +kernel⟩, par_ok (by decide +kernel), by decide +kernel⟩
def mX10_farBy : MD := (yX10_farBy, cX10_farBy, 7, (some FieldType.double), [], (3, 0, 0), cfX10)
theorem mX10_farBy_ok : MOk mX10_farBy 3 := ⟨lg_7 (i := 152) (by decide +kernel) rfl, lg_1 (i := 15) (by decide +kernel) rfl, ⟨by decide +kernel, by decide +kernel⟩, par_ok (by decide +kernel), by decide +kernel⟩
def mX10_far : MD := (yX10_far, cX10_far, 3, (some FieldType.double), [], (5, 1, 1200), cfX10)
theorem mX10_far_ok : MOk mX10_far 2 := ⟨lg_7 (i := 144) (by decide +kernel) rfl, lg_1 (i := 15) (by decide +kernel) rfl, ⟨by decide +kernel, by decide +kernel⟩, par_ok (by decide +kernel), by decide +kernel⟩
def mX9_nearestTo : MD := (yX9_nearestTo, cX9_nearestTo, 8, (some FieldType.int), [], (5, 0, 0), cfX9)
theorem mX9_nearestTo_ok : MOk mX9_nearestTo 1 := ⟨lg_2 (i := 184) (by decide +kernel) rfl, lg_1 (i := 1) (by decide +kernel) rfl, ⟨by decide +kernel, by decide +kernel⟩, par_ok (by decide +kernel), by decide +kernel⟩
def mX9_nearest : MD := (yX9_nearest, cX9_nearest, 2, (some FieldType.int), [], (7, 1, 6), cfX9)
theorem mX9_nearest_ok : MOk mX9_nearest 1 := ⟨lg_4 (i := 212) (by decide +kernel) rfl, lg_1 (i := 1) (by decide +kernel) rfl, ⟨by decide +kernel, by decide +kernel⟩, par_ok (by decide +kernel), by decide +kernel⟩
def mL_nearest : MD := (yL_nearest, cL_nearest, 4, (some FieldType.int), [(0, 9, 12, 27)], (8, 1, 6), cfL)
theorem mL_nearest_ok : MOk mL_nearest 3 := ⟨lg_4 (i := 208) (by decide +kernel) rfl, lg_1 (i := 0) (by decide +kernel) rfl, ⟨by decide +kernel, by decide +kernel⟩, par_ok (by decide +kernel), by decide +kernel⟩
def mX10_nearestBy : MD := (yX10_nearestBy, cX10_nearestBy, 9, (some FieldType.int), [], (4, 0, 0), cfX10)
theorem mX10_nearestBy_ok : MOk mX10_nearestBy 2 := ⟨lg_7 (i := 165) (by decide +kernel) rfl, lg_1 (i := 15) (by decide +kernel) rfl, ⟨by decide +kernel, by decide +kernel⟩, par_ok (by decide +kernel), by decide +kernel⟩
def mX10_nearest : MD := (yX10_nearest, cX10_nearest, 2, (some FieldType.int), [], (6, 1, 1200), cfX10)
theorem mX10_nearest_ok : MOk mX10_nearest 1 := ⟨lg_7 (i := 161) (by decide +kernel) rfl, lg_1 (i := 15) (by decide +kernel) rfl, ⟨by decide +kernel, by decide +kernel⟩, par_ok (by decide +kernel), by decide +kernel⟩
def mX9_isWitness : MD := (yX9_isWitness, cX9_isWitness, 4, (some FieldType.boolean), [], (3, 0, 0), cfX9)
theorem mX9_isWitness_ok : MOk mX9_isWitness 3 := ⟨lg_2 (i := 229) (by decide +kernel) rfl, lg_1 (i := 1) (by decide +kernel) rfl, ⟨by decide +kernel, by decide +kernel⟩, par_ok (by decide +kernel), by decide +kernel⟩
def mX9_openVotes : MD := (yX9_openVotes, cX9_openVotes, 4, none, [], (2, 0, 0), cfX9)
theorem mX9_openVotes_ok : MOk mX9_openVotes 1 := ⟨lg_3 (i := 1) (by decide +kernel) rfl, lg_1 (i := 1) (by decide +kernel) rfl, ⟨by decide +kernel, by decide +kernel⟩, par_ok (by decide +kernel), by decide +kernel⟩
def mX9_castVotes : MD := (yX9_castVotes, cX9_castVotes, 4, none, [], (1, 0, 0), cfX9)
theorem mX9_castVotes_ok : MOk mX9_castVotes 1 := ⟨lg_3 (i := 27) (by decide +kernel) rfl, lg_1 (i := 1) (by decide +kernel) rfl, ⟨by decide +kernel, by decide +kernel⟩, par_ok (by decide +kernel), by decide +kernel⟩
def mX9_elected : MD := (yX9_elected, cX9_elected, 6, (some FieldType.long), [], (2, 0, 0), cfX9)
theorem mX9_elected_ok : MOk mX9_elected 1 := ⟨lg_3 (i := 39) (by decide +kernel) rfl, lg_1 (i := 1) (by decide +kernel) rfl, ⟨by decide +kernel, by decide +kernel⟩, par_ok (by decide +kernel), by decide +kernel⟩
def mX9_recall : MD := (yX9_recall, cX9_recall, 5, (some FieldType.long), [], (4, 0, 0), cfX9)
theorem mX9_recall_ok : MOk mX9_recall 2 := ⟨lg_2 (i := 225) (by decide +kernel) rfl, lg_1 (i := 1) (by decide +kernel) rfl, ⟨by decide +kernel, by decide +kernel⟩, par_ok (by decide +kernel), by decide +kernel⟩
def mX9_recalled : MD := (yX9_recalled, cX9_recalled, 3, (some FieldType.int), [], (7, 1, 6), cfX9)
theorem mX9_recalled_ok : MOk mX9_recalled 2 := ⟨lg_4 (i := 219) (by decide +kernel) rfl, lg_1 (i := 1) (by decide +kernel) rfl, ⟨by decide +kernel, by decide +kernel⟩, par_ok (by decide +kernel), by decide +kernel⟩
def mL_recalled : MD := (yL_recalled, cL_recalled, 5, (some FieldType.int), [(0, 10, 13, 27)], (8, 1, 6), cfL)
theorem mL_recalled_ok : MOk mL_recalled 4 := ⟨lg_4 (i := 215) (by decide +kernel) rfl, lg_1 (i := 0) (by decide +kernel) rfl, ⟨by decide +kernel, by decide +kernel⟩, par_ok (by decide +kernel), by decide +kernel⟩
def mX10_recalledNow : MD := (yX10_recalledNow, cX10_recalledNow, 11, (some FieldType.long), [], (4, 0, 0), cfX10)
theorem mX10_recalledNow_ok : MOk mX10_recalledNow 2 := ⟨lg_7 (i := 173) (by decide +kernel) rfl, lg_1 (i := 15) (by decide +kernel) rfl, ⟨by decide +kernel, by decide +kernel⟩, par_ok (by decide +kernel), by decide +kernel⟩
def mX10_recalled : MD := (yX10_recalled, cX10_recalled, 3, (some FieldType.int), [], (6, 0, 0), cfX10)
theorem mX10_recalled_ok : MOk mX10_recalled 2 := ⟨lg_7 (i := 169) (by decide +kernel) rfl, lg_1 (i := 15) (by decide +kernel) rfl, ⟨by decide +kernel, by decide +kernel⟩, par_ok (by decide +kernel), by decide +kernel⟩
def mX9_recalledAt : MD := (yX9_recalledAt, cX9_recalledAt, 4, (some FieldType.int), [], (8, 2, 12), cfX9)
theorem mX9_recalledAt_ok : MOk mX9_recalledAt 3 := ⟨lg_4 (i := 226) (by decide +kernel) rfl, lg_1 (i := 1) (by decide +kernel) rfl, ⟨by decide +kernel, by decide +kernel⟩, par_ok (by decide +kernel), by decide +kernel⟩
def mL_recalledAt : MD := (yL_recalledAt, cL_recalledAt, 6, (some FieldType.int), [(0, 12, 15, 27)], (9, 2, 12), cfL)
theorem mL_recalledAt_ok : MOk mL_recalledAt 5 := ⟨lg_4 (i := 222) (by decide +kernel) rfl, lg_1 (i := 0) (by decide +kernel) rfl, ⟨by decide +kernel, by decide +kernel⟩, par_ok (by decide +kernel), by decide +kernel⟩
def mX10_recalledAt : MD := (yX10_recalledAt, cX10_recalledAt, 6, (some FieldType.int), [], (6, 0, 0), cfX10)
theorem mX10_recalledAt_ok : MOk mX10_recalledAt 3 := ⟨lg_7 (i := 177) (by decide +kernel) rfl, lg_1 (i := 15) (by decide +kernel) rfl, ⟨by decide +kernel, by decide +kernel⟩, par_ok (by decide +kernel), by decide +kernel⟩
def mX9_countRecalledWell : MD := (yX9_countRecalledWell, cX9_countRecalledWell, 5, (some FieldType.int), [], (5, 0, 0), cfX9)
theorem mX9_countRecalledWell_ok : MOk mX9_countRecalledWell 1 := ⟨lg_2 (i := 221) (by decide +kernel) rfl, lg_1 (i := 1) (by decide +kernel) rfl, ⟨by decide +kernel, by decide +kernel⟩, par_ok (by decide +kernel), by decide +kernel⟩
def mX9_recalledWell : MD := (yX9_recalledWell, cX9_recalledWell, 2, (some FieldType.int), [], (7, 1, 6), cfX9)
theorem mX9_recalledWell_ok : MOk mX9_recalledWell 1 := ⟨lg_4 (i := 233) (by decide +kernel) rfl, lg_1 (i := 1) (by decide +kernel) rfl, ⟨by decide +kernel, by decide +kernel⟩, par_ok (by decide +kernel), by decide +kernel⟩
def mL_recalledWell : MD := (yL_recalledWell, cL_recalledWell, 4, (some FieldType.int), [(0, 9, 12, 27)], (8, 1, 6), cfL)
theorem mL_recalledWell_ok : MOk mL_recalledWell 3 := ⟨lg_4 (i := 229) (by decide +kernel) rfl, lg_1 (i := 0) (by decide +kernel) rfl, ⟨by decide +kernel, by decide +kernel⟩, par_ok (by decide +kernel), by decide +kernel⟩
def mX10_wellNow : MD := (yX10_wellNow, cX10_wellNow, 4, (some FieldType.int), [], (5, 0, 0), cfX10)
theorem mX10_wellNow_ok : MOk mX10_wellNow 1 := ⟨lg_7 (i := 185) (by decide +kernel) rfl, lg_1 (i := 15) (by decide +kernel) rfl, ⟨by decide +kernel, by decide +kernel⟩, par_ok (by decide +kernel), by decide +kernel⟩
def mX10_recalledWell : MD := (yX10_recalledWell, cX10_recalledWell, 2, (some FieldType.int), [], (6, 0, 0), cfX10)
theorem mX10_recalledWell_ok : MOk mX10_recalledWell 1 := ⟨lg_7 (i := 181) (by decide +kernel) rfl, lg_1 (i := 15) (by decide +kernel) rfl, ⟨by decide +kernel, by decide +kernel⟩, par_ok (by decide +kernel), by decide +kernel⟩
def mX9_isLaw : MD := (yX9_isLaw, cX9_isLaw, 3, (some FieldType.boolean), [], (4, 0, 0), cfX9)
theorem mX9_isLaw_ok : MOk mX9_isLaw 2 := ⟨lg_5 (i := 4) (by decide +kernel) rfl, lg_1 (i := 1) (by decide +kernel) rfl, ⟨by decide +kernel, by decide +kernel⟩, par_ok (by decide +kernel), by decide +kernel⟩
def mX2_lackingLaw : MD := (yX2_lackingLaw, cX2_lackingLaw, 4, (some (FieldType.object "TonguerootFamily$Language")), [], (7, 10, 130), cfX2)
theorem mX2_lackingLaw_ok : MOk mX2_lackingLaw 1 := ⟨lg_5 (i := 12) (by decide +kernel) rfl, lg_1 (i := 7) (by decide +kernel) rfl, ⟨by decide +kernel, by decide +kernel⟩, par_ok (by decide +kernel), by decide +kernel⟩
def mJx4a65c_rangeCheckForAdd_d00df : MD := (yJx4a65c_rangeCheckForAdd_d00df, cJx4a65c_rangeCheckForAdd_d00df, 2, none, [], (0, 0, 0), cfJx4a65c)
theorem mJx4a65c_rangeCheckForAdd_d00df_ok : MOk mJx4a65c_rangeCheckForAdd_d00df 1 := ⟨lg_5 (i := 26) (by decide +kernel) rfl, lg_1 (i := 6) (by decide +kernel) rfl, ⟨by decide +kernel, by decide +kernel⟩, par_ok (by decide +kernel), by decide +kernel⟩
def mJx4a65c_add_7a177 : MD := (yJx4a65c_add_7a177, cJx4a65c_add_7a177, 5, none, [], (5, 1, 15), cfJx4a65c)
theorem mJx4a65c_add_7a177_ok : MOk mJx4a65c_add_7a177 2 := ⟨lg_5 (i := 22) (by decide +kernel) rfl, lg_1 (i := 6) (by decide +kernel) rfl, ⟨by decide +kernel, by decide +kernel⟩, par_ok (by decide +kernel), by decide +kernel⟩
def mX2_swappingLaw : MD := (yX2_swappingLaw, cX2_swappingLaw, 3, (some (FieldType.object "TonguerootFamily$Language")), [], (8, 11, 145), cfX2)
theorem mX2_swappingLaw_ok : MOk mX2_swappingLaw 1 := ⟨lg_5 (i := 8) (by decide +kernel) rfl, lg_1 (i := 7) (by decide +kernel) rfl, ⟨by decide +kernel, by decide +kernel⟩, par_ok (by decide +kernel), by decide +kernel⟩
def mX1_replacing : MD := (yX1_replacing, cX1_replacing, 5, (some (FieldType.object "TonguerootFamily$History")), [], (7, 12, 155), cfX1)
theorem mX1_replacing_ok : MOk mX1_replacing 2 := ⟨lg_6 (i := 31) (by decide +kernel) rfl, lg_1 (i := 11) (by decide +kernel) rfl, ⟨by decide +kernel, by decide +kernel⟩, par_ok (by decide +kernel), by decide +kernel⟩
def mX4_tellOf : MD := (yX4_tellOf, cX4_tellOf, 3, none, [], (0, 0, 0), cfX4)
theorem mX4_tellOf_ok : MOk mX4_tellOf 1 := ⟨lg_6 (i := 43) (by decide +kernel) rfl, lg_1 (i := 12) (by decide +kernel) rfl, ⟨by decide +kernel, by decide +kernel⟩, par_ok (by decide +kernel), by decide +kernel⟩
def mX9_suppose : MD := (yX9_suppose, cX9_suppose, 3, none, [], (8, 12, 155), cfX9)
theorem mX9_suppose_ok : MOk mX9_suppose 2 := ⟨lg_6 (i := 27) (by decide +kernel) rfl, lg_1 (i := 1) (by decide +kernel) rfl, ⟨by decide +kernel, by decide +kernel⟩, par_ok (by decide +kernel), by decide +kernel⟩
def mX9_differs : MD := (yX9_differs, cX9_differs, 4, (some FieldType.boolean), [], (2, 0, 0), cfX9)
theorem mX9_differs_ok : MOk mX9_differs 3 := ⟨lg_3 (i := 63) (by decide +kernel) rfl, lg_1 (i := 1) (by decide +kernel) rfl, ⟨by decide +kernel, by decide +kernel⟩, par_ok (by decide +kernel), by decide +kernel⟩
def mX9_countDifferent : MD := (yX9_countDifferent, cX9_countDifferent, 4, (some FieldType.int), [], (3, 0, 0), cfX9)
theorem mX9_countDifferent_ok : MOk mX9_countDifferent 1 := ⟨lg_6 (i := 47) (by decide +kernel) rfl, lg_1 (i := 1) (by decide +kernel) rfl, ⟨by decide +kernel, by decide +kernel⟩, par_ok (by decide +kernel), by decide +kernel⟩
def mX9_swapped : MD := (yX9_swapped, cX9_swapped, 3, (some FieldType.int), [], (9, 25, 312), cfX9)
theorem mX9_swapped_ok : MOk mX9_swapped 2 := ⟨lg_5 (i := 0) (by decide +kernel) rfl, lg_1 (i := 1) (by decide +kernel) rfl, ⟨by decide +kernel, by decide +kernel⟩, par_ok (by decide +kernel), by decide +kernel⟩
def mL_swapped : MD := (yL_swapped, cL_swapped, 5, (some FieldType.int), [(0, 10, 13, 27), (0, 10, 17, 13)], (10, 25, 312), cfL)
theorem mL_swapped_ok : MOk mL_swapped 4 := ⟨lg_4 (i := 236) (by decide +kernel) rfl, lg_1 (i := 0) (by decide +kernel) rfl, ⟨by decide +kernel, by decide +kernel⟩, par_ok (by decide +kernel), by decide +kernel⟩
def mX10_told : MD := (yX10_told, cX10_told, 2, (some (FieldType.array FieldType.long)), [], (5, 1, 120), cfX10)
theorem mX10_told_ok : MOk mX10_told 0 := ⟨lg_7 (i := 193) (by decide +kernel) rfl, lg_1 (i := 15) (by decide +kernel) rfl, ⟨by decide +kernel, by decide +kernel⟩, par_ok (by decide +kernel), by decide +kernel⟩
def mX10_swap : MD := (yX10_swap, cX10_swap, 4, none, [], (0, 0, 0), cfX10)
theorem mX10_swap_ok : MOk mX10_swap 3 := ⟨lg_7 (i := 201) (by decide +kernel) rfl, lg_1 (i := 15) (by decide +kernel) rfl, ⟨by decide +kernel, by decide +kernel⟩, par_ok (by decide +kernel), by decide +kernel⟩
def mX10_swapLaws : MD := (yX10_swapLaws, cX10_swapLaws, 3, none, [], (1, 0, 0), cfX10)
theorem mX10_swapLaws_ok : MOk mX10_swapLaws 2 := ⟨lg_7 (i := 198) (by decide +kernel) rfl, lg_1 (i := 15) (by decide +kernel) rfl, ⟨by decide +kernel, by decide +kernel⟩, par_ok (by decide +kernel), by decide +kernel⟩
def mX10_unlike : MD := (yX10_unlike, cX10_unlike, 7, (some FieldType.int), [], (0, 0, 0), cfX10)
theorem mX10_unlike_ok : MOk mX10_unlike 3 := ⟨lg_7 (i := 205) (by decide +kernel) rfl, lg_1 (i := 15) (by decide +kernel) rfl, ⟨by decide +kernel, by decide +kernel⟩, par_ok (by decide +kernel), by decide +kernel⟩
def mX10_swapped : MD := (yX10_swapped, cX10_swapped, 5, (some FieldType.int), [], (6, 1, 120), cfX10)
theorem mX10_swapped_ok : MOk mX10_swapped 2 := ⟨lg_7 (i := 189) (by decide +kernel) rfl, lg_1 (i := 15) (by decide +kernel) rfl, ⟨by decide +kernel, by decide +kernel⟩, par_ok (by decide +kernel), by decide +kernel⟩
def mX9_without : MD := (yX9_without, cX9_without, 5, (some FieldType.int), [], (9, 23, 291), cfX9)
theorem mX9_without_ok : MOk mX9_without 2 := ⟨lg_6 (i := 54) (by decide +kernel) rfl, lg_1 (i := 1) (by decide +kernel) rfl, ⟨by decide +kernel, by decide +kernel⟩, par_ok (by decide +kernel), by decide +kernel⟩
def mL_without : MD := (yL_without, cL_without, 5, (some FieldType.int), [(0, 10, 13, 27)], (10, 23, 291), cfL)
theorem mL_without_ok : MOk mL_without 4 := ⟨lg_6 (i := 50) (by decide +kernel) rfl, lg_1 (i := 0) (by decide +kernel) rfl, ⟨by decide +kernel, by decide +kernel⟩, par_ok (by decide +kernel), by decide +kernel⟩
def mX10_without : MD := (yX10_without, cX10_without, 7, (some FieldType.int), [], (6, 1, 120), cfX10)
theorem mX10_without_ok : MOk mX10_without 2 := ⟨lg_7 (i := 209) (by decide +kernel) rfl, lg_1 (i := 15) (by decide +kernel) rfl, ⟨by decide +kernel, by decide +kernel⟩, par_ok (by decide +kernel), by decide +kernel⟩
def mX1_lackingLoan : MD := (yX1_lackingLoan, cX1_lackingLoan, 4, (some (FieldType.object "TonguerootFamily$History")), [], (7, 14, 185), cfX1)
theorem mX1_lackingLoan_ok : MOk mX1_lackingLoan 1 := ⟨lg_6 (i := 66) (by decide +kernel) rfl, lg_1 (i := 11) (by decide +kernel) rfl, ⟨by decide +kernel, by decide +kernel⟩, par_ok (by decide +kernel), by decide +kernel⟩
def mX9_withoutLoan : MD := (yX9_withoutLoan, cX9_withoutLoan, 5, (some FieldType.int), [], (8, 15, 191), cfX9)
theorem mX9_withoutLoan_ok : MOk mX9_withoutLoan 1 := ⟨lg_6 (i := 62) (by decide +kernel) rfl, lg_1 (i := 1) (by decide +kernel) rfl, ⟨by decide +kernel, by decide +kernel⟩, par_ok (by decide +kernel), by decide +kernel⟩
def mL_withoutLoan : MD := (yL_withoutLoan, cL_withoutLoan, 4, (some FieldType.int), [(0, 9, 12, 27)], (9, 15, 191), cfL)
theorem mL_withoutLoan_ok : MOk mL_withoutLoan 3 := ⟨lg_6 (i := 58) (by decide +kernel) rfl, lg_1 (i := 0) (by decide +kernel) rfl, ⟨by decide +kernel, by decide +kernel⟩, par_ok (by decide +kernel), by decide +kernel⟩
def mX10_withoutLoan : MD := (yX10_withoutLoan, cX10_withoutLoan, 3, (some FieldType.int), [], (6, 1, 120), cfX10)
theorem mX10_withoutLoan_ok : MOk mX10_withoutLoan 1 := ⟨lg_7 (i := 213) (by decide +kernel) rfl, lg_1 (i := 15) (by decide +kernel) rfl, ⟨by decide +kernel, by decide +kernel⟩, par_ok (by decide +kernel), by decide +kernel⟩
def mX9_looksLent : MD := (yX9_looksLent, cX9_looksLent, 3, (some FieldType.boolean), [], (7, 1, 6), cfX9)
theorem mX9_looksLent_ok : MOk mX9_looksLent 2 := ⟨lg_6 (i := 74) (by decide +kernel) rfl, lg_1 (i := 1) (by decide +kernel) rfl, ⟨by decide +kernel, by decide +kernel⟩, par_ok (by decide +kernel), by decide +kernel⟩
def mL_looksLent : MD := (yL_looksLent, cL_looksLent, 5, (some FieldType.int), [(0, 17, 20, 27)], (8, 1, 6), cfL)
theorem mL_looksLent_ok : MOk mL_looksLent 4 := ⟨lg_6 (i := 70) (by decide +kernel) rfl, lg_1 (i := 0) (by decide +kernel) rfl, ⟨by decide +kernel, by decide +kernel⟩, par_ok (by decide +kernel), by decide +kernel⟩
def mX10_unlent : MD := (yX10_unlent, cX10_unlent, 3, (some (FieldType.array FieldType.long)), [], (6, 1, 120), cfX10)
theorem mX10_unlent_ok : MOk mX10_unlent 0 := ⟨lg_7 (i := 221) (by decide +kernel) rfl, lg_1 (i := 15) (by decide +kernel) rfl, ⟨by decide +kernel, by decide +kernel⟩, par_ok (by decide +kernel), by decide +kernel⟩
def mX10_looksLent : MD := (yX10_looksLent, cX10_looksLent, 5, (some FieldType.boolean), [], (7, 1, 120), cfX10)
theorem mX10_looksLent_ok : MOk mX10_looksLent 2 := ⟨lg_7 (i := 217) (by decide +kernel) rfl, lg_1 (i := 15) (by decide +kernel) rfl, ⟨by decide +kernel, by decide +kernel⟩, par_ok (by decide +kernel), by decide +kernel⟩
def mX9_mixed : MD := (yX9_mixed, cX9_mixed, 4, (some FieldType.long), [], (0, 0, 0), cfX9)
theorem mX9_mixed_ok : MOk mX9_mixed 2 := ⟨lg_2 (i := 155) (by decide +kernel) rfl, lg_1 (i := 1) (by decide +kernel) rfl, ⟨by decide +kernel, by decide +kernel⟩, par_ok (by decide +kernel), by decide +kernel⟩
def mX9_mixSounds : MD := (yX9_mixSounds, cX9_mixSounds, 7, (some FieldType.long), [], (1, 0, 0), cfX9)
theorem mX9_mixSounds_ok : MOk mX9_mixSounds 2 := ⟨lg_3 (i := 54) (by decide +kernel) rfl, lg_1 (i := 1) (by decide +kernel) rfl, ⟨by decide +kernel, by decide +kernel⟩, par_ok (by decide +kernel), by decide +kernel⟩
def mX9_mixWord : MD := (yX9_mixWord, cX9_mixWord, 7, (some FieldType.long), [], (5, 0, 0), cfX9)
theorem mX9_mixWord_ok : MOk mX9_mixWord 3 := ⟨lg_3 (i := 51) (by decide +kernel) rfl, lg_1 (i := 1) (by decide +kernel) rfl, ⟨by decide +kernel, by decide +kernel⟩, par_ok (by decide +kernel), by decide +kernel⟩
def mX9_mixCosts : MD := (yX9_mixCosts, cX9_mixCosts, 9, (some FieldType.long), [], (4, 0, 0), cfX9)
theorem mX9_mixCosts_ok : MOk mX9_mixCosts 1 := ⟨lg_3 (i := 67) (by decide +kernel) rfl, lg_1 (i := 1) (by decide +kernel) rfl, ⟨by decide +kernel, by decide +kernel⟩, par_ok (by decide +kernel), by decide +kernel⟩
def mX9_digest : MD := (yX9_digest, cX9_digest, 5, (some FieldType.long), [], (7, 0, 0), cfX9)
theorem mX9_digest_ok : MOk mX9_digest 0 := ⟨lg_2 (i := 71) (by decide +kernel) rfl, lg_1 (i := 1) (by decide +kernel) rfl, ⟨by decide +kernel, by decide +kernel⟩, par_ok (by decide +kernel), by decide +kernel⟩
def mX10_digest : MD := (yX10_digest, cX10_digest, 12, (some FieldType.long), [], (7, 2, 1320), cfX10)
theorem mX10_digest_ok : MOk mX10_digest 0 := ⟨lg_7 (i := 225) (by decide +kernel) rfl, lg_1 (i := 15) (by decide +kernel) rfl, ⟨by decide +kernel, by decide +kernel⟩, par_ok (by decide +kernel), by decide +kernel⟩
theorem lkX6_3 : Cond.methodLink RX6 3 Lib.objectInit ∈ lw_g := lg_1 (i := 47) (by decide +kernel) rfl
theorem lkX6_20 : Cond.methodLink RX6 20 yJ7_fill_53178 ∈ lw_g := lg_1 (i := 50) (by decide +kernel) rfl
theorem lkJxa1e45_1 : Cond.methodLink RJxa1e45 1 Lib.objectInit ∈ lw_g := lg_1 (i := 76) (by decide +kernel) rfl
theorem lkJxc12de_1 : Cond.methodLink RJxc12de 1 yJxa1e45_init_da8c8 ∈ lw_g := lg_1 (i := 73) (by decide +kernel) rfl
theorem lkJx4a65c_1 : Cond.methodLink RJx4a65c 1 yJxc12de_init_da8c8 ∈ lw_g := lg_1 (i := 70) (by decide +kernel) rfl
theorem lkX2_1 : Cond.methodLink RX2 1 Lib.objectInit ∈ lw_g := lg_1 (i := 97) (by decide +kernel) rfl
theorem lkX2_9 : Cond.methodLink RX2 9 yJx4a65c_init_da8c8 ∈ lw_g := lg_1 (i := 99) (by decide +kernel) rfl
theorem lkJ8_194 : Cond.methodLink RJ8 194 Lib.Math.max.name ∈ lw_g := lg_1 (i := 130) (by decide +kernel) rfl
theorem lkJ7_304 : Cond.methodLink RJ7 304 Lib.Math.min.name ∈ lw_g := lg_1 (i := 166) (by decide +kernel) rfl
theorem lkJ7_150 : Cond.methodLink RJ7 150 arraycopyName ∈ lw_g := lg_1 (i := 169) (by decide +kernel) rfl
theorem lkJ7_86 : Cond.methodLink RJ7 86 gcN ∈ lw_g := lg_1 (i := 140) (by decide +kernel) rfl
theorem lkJ7_300 : Cond.methodLink RJ7 300 yJ7_copyOf_6403c ∈ lw_g := lg_1 (i := 160) (by decide +kernel) rfl
theorem lkJx4a65c_73 : Cond.methodLink RJx4a65c 73 yJ8_newLength_cabcc ∈ lw_g := lg_1 (i := 127) (by decide +kernel) rfl
theorem lkJx4a65c_66 : Cond.methodLink RJx4a65c 66 yJ7_copyOf_1904c ∈ lw_g := lg_1 (i := 137) (by decide +kernel) rfl
theorem lkJx4a65c_79 : Cond.methodLink RJx4a65c 79 Lib.Math.max.name ∈ lw_g := lg_1 (i := 172) (by decide +kernel) rfl
theorem lkJx4a65c_69 : Cond.methodLink RJx4a65c 69 yJx4a65c_grow_92f84 ∈ lw_g := lg_1 (i := 123) (by decide +kernel) rfl
theorem lkJx4a65c_129 : Cond.methodLink RJx4a65c 129 yJx4a65c_grow_d5877 ∈ lw_g := lg_1 (i := 119) (by decide +kernel) rfl
theorem lkJx4a65c_131 : Cond.methodLink RJx4a65c 131 yJx4a65c_add_72be8 ∈ lw_g := lg_1 (i := 115) (by decide +kernel) rfl
theorem lkX9_32 : Cond.methodLink RX9 32 yJx4a65c_init_da8c8 ∈ lw_g := lg_1 (i := 67) (by decide +kernel) rfl
theorem lkX9_84 : Cond.methodLink RX9 84 yX2_init ∈ lw_g := lg_1 (i := 94) (by decide +kernel) rfl
theorem lkX9_87 : Cond.methodLink RX9 87 yJx4a65c_add_9ea2d ∈ lw_g := lg_1 (i := 111) (by decide +kernel) rfl
theorem lkX1_1 : Cond.methodLink RX1 1 Lib.objectInit ∈ lw_g := lg_1 (i := 179) (by decide +kernel) rfl
theorem lkX4_3 : Cond.methodLink RX4 3 Lib.objectInit ∈ lw_g := lg_1 (i := 196) (by decide +kernel) rfl
theorem lkX0_3 : Cond.methodLink RX0 3 Lib.objectInit ∈ lw_g := lg_1 (i := 225) (by decide +kernel) rfl
theorem lkX7_3 : Cond.methodLink RX7 3 Lib.objectInit ∈ lw_g := lg_2 (i := 18) (by decide +kernel) rfl
theorem lkX9_1 : Cond.methodLink RX9 1 Lib.objectInit ∈ lw_g := lg_1 (i := 39) (by decide +kernel) rfl
theorem lkX9_9 : Cond.methodLink RX9 9 yX6_init ∈ lw_g := lg_1 (i := 44) (by decide +kernel) rfl
theorem lkX9_24 : Cond.methodLink RX9 24 yX9_motherAlone ∈ lw_g := lg_1 (i := 62) (by decide +kernel) rfl
theorem lkX9_33 : Cond.methodLink RX9 33 yX1_init ∈ lw_g := lg_1 (i := 176) (by decide +kernel) rfl
theorem lkX9_42 : Cond.methodLink RX9 42 yX4_init ∈ lw_g := lg_1 (i := 193) (by decide +kernel) rfl
theorem lkX9_57 : Cond.methodLink RX9 57 yX0_init ∈ lw_g := lg_1 (i := 222) (by decide +kernel) rfl
theorem lkX9_70 : Cond.methodLinkNest RX9 70 yX7_init "TonguerootFamily" ∈ lw_n := ln_2 (i := 15) (by decide +kernel) rfl
theorem lkX9_76 : Cond.methodLink RX9 76 yJ7_fill_53178 ∈ lw_g := lg_2 (i := 24) (by decide +kernel) rfl
theorem lkX10_1 : Cond.methodLink RX10 1 Lib.objectInit ∈ lw_g := lg_6 (i := 80) (by decide +kernel) rfl
theorem lkX6_26 : Cond.methodLink RX6 26 yJ6_bitCount_0f7a4 ∈ lw_g := lg_3 (i := 155) (by decide +kernel) rfl
theorem lkX9_318 : Cond.methodLink RX9 318 yX4_forget ∈ lw_g := lg_3 (i := 169) (by decide +kernel) rfl
theorem lkX9_119 : Cond.methodLink RX9 119 yX9_forgetMeaning ∈ lw_g := lg_3 (i := 165) (by decide +kernel) rfl
theorem lkX9_91 : Cond.methodLink RX9 91 yX9_isSound ∈ lw_g := lg_3 (i := 44) (by decide +kernel) rfl
theorem lkX9_95 : Cond.methodLink RX9 95 yX9_refuseUnless ∈ lw_g := lg_3 (i := 76) (by decide +kernel) rfl
theorem lkX9_99 : Cond.methodLink RX9 99 yX6_featuresOf ∈ lw_g := lg_3 (i := 147) (by decide +kernel) rfl
theorem lkX9_103 : Cond.methodLink RX9 103 yX6_giveFeatures ∈ lw_g := lg_3 (i := 151) (by decide +kernel) rfl
theorem lkX9_107 : Cond.methodLink RX9 107 yX9_forgetAll ∈ lw_g := lg_3 (i := 161) (by decide +kernel) rfl
theorem lkL_7 : Cond.methodLink RL 7 yX9_setSound ∈ lw_g := lg_3 (i := 72) (by decide +kernel) rfl
theorem lkX10_88 : Cond.methodLink RX10 88 yX10_isIn ∈ lw_g := lg_6 (i := 174) (by decide +kernel) rfl
theorem lkX10_136 : Cond.methodLink RX10 136 yX10_isSound ∈ lw_g := lg_6 (i := 171) (by decide +kernel) rfl
theorem lkX10_140 : Cond.methodLink RX10 140 yX10_no ∈ lw_g := lg_6 (i := 177) (by decide +kernel) rfl
theorem lkX9_110 : Cond.methodLink RX9 110 yX9_isMeaning ∈ lw_g := lg_3 (i := 180) (by decide +kernel) rfl
theorem lkX9_113 : Cond.methodLink RX9 113 yX8_size ∈ lw_g := lg_2 (i := 179) (by decide +kernel) rfl
theorem lkL_15 : Cond.methodLink RL 15 yX9_word ∈ lw_g := lg_3 (i := 176) (by decide +kernel) rfl
theorem lkX10_144 : Cond.methodLink RX10 144 yX10_isMeaning ∈ lw_g := lg_6 (i := 185) (by decide +kernel) rfl
theorem lkX10_94 : Cond.methodLink RX10 94 yX10_length ∈ lw_g := lg_6 (i := 188) (by decide +kernel) rfl
theorem lkX8_13 : Cond.methodLink RX8 13 yX8_size ∈ lw_g := lg_2 (i := 151) (by decide +kernel) rfl
theorem lkX9_122 : Cond.methodLink RX9 122 yX9_requireState ∈ lw_g := lg_3 (i := 191) (by decide +kernel) rfl
theorem lkX9_125 : Cond.methodLink RX9 125 yX8_plus ∈ lw_g := lg_3 (i := 47) (by decide +kernel) rfl
theorem lkL_19 : Cond.methodLink RL 19 yX9_spell ∈ lw_g := lg_3 (i := 187) (by decide +kernel) rfl
theorem lkX9_139 : Cond.methodLink RX9 139 yJx4a65c_size_8abf5 ∈ lw_g := lg_2 (i := 60) (by decide +kernel) rfl
theorem lkX9_129 : Cond.methodLink RX9 129 yX9_isLanguage ∈ lw_g := lg_3 (i := 218) (by decide +kernel) rfl
theorem lkX9_132 : Cond.methodLink RX9 132 yX9_requireThere ∈ lw_g := lg_3 (i := 222) (by decide +kernel) rfl
theorem lkL_24 : Cond.methodLink RL 24 yX9_language ∈ lw_g := lg_3 (i := 214) (by decide +kernel) rfl
theorem lkX10_147 : Cond.methodLink RX10 147 yX10_isLanguage ∈ lw_g := lg_6 (i := 200) (by decide +kernel) rfl
theorem lkJ15_105 : Cond.methodLink RJ15 105 yJ3_checkIndex_8e157 ∈ lw_g := lg_2 (i := 99) (by decide +kernel) rfl
theorem lkJx4a65c_118 : Cond.methodLink RJx4a65c 118 yJ15_checkIndex_7cf53 ∈ lw_g := lg_2 (i := 96) (by decide +kernel) rfl
theorem lkJx4a65c_123 : Cond.methodLink RJx4a65c 123 yJx4a65c_elementData_915e3 ∈ lw_g := lg_2 (i := 102) (by decide +kernel) rfl
theorem lkX9_169 : Cond.methodLink RX9 169 yJx4a65c_get_915e3 ∈ lw_g := lg_2 (i := 161) (by decide +kernel) rfl
theorem lkX3_3 : Cond.methodLink RX3 3 Lib.objectInit ∈ lw_g := lg_4 (i := 17) (by decide +kernel) rfl
theorem lkX9_143 : Cond.methodLink RX9 143 yX9_isNeighbourSet ∈ lw_g := lg_4 (i := 9) (by decide +kernel) rfl
theorem lkX9_146 : Cond.methodLink RX9 146 yX9_lawsOf ∈ lw_g := lg_2 (i := 157) (by decide +kernel) rfl
theorem lkX9_152 : Cond.methodLink RX9 152 yX3_init ∈ lw_g := lg_4 (i := 14) (by decide +kernel) rfl
theorem lkL_29 : Cond.methodLink RL 29 yX9_law ∈ lw_g := lg_4 (i := 4) (by decide +kernel) rfl
theorem lkJx4a65c_112 : Cond.methodLink RJx4a65c 112 arraycopyName ∈ lw_g := lg_4 (i := 50) (by decide +kernel) rfl
theorem lkJx4a65c_144 : Cond.methodLink RJx4a65c 144 yJx4a65c_fastRemove_b59b0 ∈ lw_g := lg_4 (i := 46) (by decide +kernel) rfl
theorem lkX9_155 : Cond.methodLink RX9 155 yJx4a65c_isEmpty_aae02 ∈ lw_g := lg_4 (i := 38) (by decide +kernel) rfl
theorem lkX9_159 : Cond.methodLink RX9 159 yJx4a65c_remove_915e3 ∈ lw_g := lg_4 (i := 42) (by decide +kernel) rfl
theorem lkL_33 : Cond.methodLink RL 33 yX9_unlaw ∈ lw_g := lg_4 (i := 34) (by decide +kernel) rfl
theorem lkX5_1 : Cond.methodLink RX5 1 Lib.objectInit ∈ lw_g := lg_4 (i := 63) (by decide +kernel) rfl
theorem lkX9_168 : Cond.methodLink RX9 168 yX5_init ∈ lw_g := lg_4 (i := 60) (by decide +kernel) rfl
theorem lkL_36 : Cond.methodLink RL 36 yX9_loan ∈ lw_g := lg_4 (i := 54) (by decide +kernel) rfl
theorem lkX10_152 : Cond.methodLink RX10 152 yX10_ok ∈ lw_g := lg_6 (i := 222) (by decide +kernel) rfl
theorem lkL_40 : Cond.methodLink RL 40 yX9_laws ∈ lw_g := lg_4 (i := 82) (by decide +kernel) rfl
theorem lkL_43 : Cond.methodLink RL 43 yX9_common ∈ lw_g := lg_4 (i := 89) (by decide +kernel) rfl
theorem lkX4_60 : Cond.methodLink RX4 60 yX4_cell ∈ lw_g := lg_2 (i := 89) (by decide +kernel) rfl
theorem lkX4_64 : Cond.methodLink RX4 64 yJx4a65c_get_915e3 ∈ lw_g := lg_2 (i := 92) (by decide +kernel) rfl
theorem lkX4_47 : Cond.methodLink RX4 47 yJx4a65c_size_8abf5 ∈ lw_g := lg_2 (i := 80) (by decide +kernel) rfl
theorem lkX4_92 : Cond.methodLink RX4 92 yX5_comesTo ∈ lw_g := lg_2 (i := 112) (by decide +kernel) rfl
theorem lkX4_99 : Cond.methodLink RX4 99 yX4_hasWord ∈ lw_g := lg_2 (i := 116) (by decide +kernel) rfl
theorem lkX3_30 : Cond.methodLink RX3 30 yX8_at ∈ lw_g := lg_2 (i := 128) (by decide +kernel) rfl
theorem lkX3_26 : Cond.methodLink RX3 26 yX8_size ∈ lw_g := lg_2 (i := 125) (by decide +kernel) rfl
theorem lkX3_46 : Cond.methodLink RX3 46 yX3_has ∈ lw_g := lg_2 (i := 136) (by decide +kernel) rfl
theorem lkX3_50 : Cond.methodLink RX3 50 yX6_turned ∈ lw_g := lg_2 (i := 143) (by decide +kernel) rfl
theorem lkX3_34 : Cond.methodLink RX3 34 yX3_holdsAt ∈ lw_g := lg_2 (i := 131) (by decide +kernel) rfl
theorem lkX3_38 : Cond.methodLink RX3 38 yX3_heirOf ∈ lw_g := lg_2 (i := 139) (by decide +kernel) rfl
theorem lkX3_42 : Cond.methodLink RX3 42 yX8_plus ∈ lw_g := lg_2 (i := 147) (by decide +kernel) rfl
theorem lkX4_57 : Cond.methodLink RX4 57 yX4_inherit ∈ lw_g := lg_2 (i := 85) (by decide +kernel) rfl
theorem lkX4_73 : Cond.methodLink RX4 73 yX4_borrow ∈ lw_g := lg_2 (i := 107) (by decide +kernel) rfl
theorem lkX4_79 : Cond.methodLink RX4 79 yX3_goOver ∈ lw_g := lg_2 (i := 121) (by decide +kernel) rfl
theorem lkX4_53 : Cond.methodLink RX4 53 yX4_tellWord ∈ lw_g := lg_2 (i := 81) (by decide +kernel) rfl
theorem lkX9_175 : Cond.methodLink RX9 175 yX4_freshen ∈ lw_g := lg_4 (i := 100) (by decide +kernel) rfl
theorem lkX9_178 : Cond.methodLink RX9 178 yX4_wordOf ∈ lw_g := lg_2 (i := 171) (by decide +kernel) rfl
theorem lkL_46 : Cond.methodLink RL 46 yX9_length ∈ lw_g := lg_4 (i := 96) (by decide +kernel) rfl
theorem lkX10_98 : Cond.methodLink RX10 98 yX10_at ∈ lw_g := lg_7 (i := 22) (by decide +kernel) rfl
theorem lkX10_102 : Cond.methodLink RX10 102 yX10_isBeside ∈ lw_g := lg_7 (i := 25) (by decide +kernel) rfl
theorem lkX10_106 : Cond.methodLink RX10 106 yX10_turned ∈ lw_g := lg_7 (i := 28) (by decide +kernel) rfl
theorem lkX10_114 : Cond.methodLink RX10 114 yX10_borrow ∈ lw_g := lg_7 (i := 14) (by decide +kernel) rfl
theorem lkX10_118 : Cond.methodLink RX10 118 yX10_changed ∈ lw_g := lg_7 (i := 18) (by decide +kernel) rfl
theorem lkX10_110 : Cond.methodLink RX10 110 yX10_grow ∈ lw_g := lg_7 (i := 10) (by decide +kernel) rfl
theorem lkX10_155 : Cond.methodLink RX10 155 yX10_solve ∈ lw_g := lg_7 (i := 6) (by decide +kernel) rfl
theorem lkX10_158 : Cond.methodLink RX10 158 yX10_isAsked ∈ lw_g := lg_7 (i := 2) (by decide +kernel) rfl
theorem lkX10_125 : Cond.methodLink RX10 125 yX10_wordOf ∈ lw_g := lg_7 (i := 32) (by decide +kernel) rfl
theorem lkX9_315 : Cond.methodLink RX9 315 yX8_at ∈ lw_g := lg_2 (i := 180) (by decide +kernel) rfl
theorem lkX9_182 : Cond.methodLink RX9 182 yX9_soundIn ∈ lw_g := lg_4 (i := 108) (by decide +kernel) rfl
theorem lkL_49 : Cond.methodLink RL 49 yX9_soundAt ∈ lw_g := lg_4 (i := 104) (by decide +kernel) rfl
theorem lkX9_186 : Cond.methodLink RX9 186 yX4_originOf ∈ lw_g := lg_3 (i := 55) (by decide +kernel) rfl
theorem lkL_53 : Cond.methodLink RL 53 yX9_origin ∈ lw_g := lg_4 (i := 114) (by decide +kernel) rfl
theorem lkX10_129 : Cond.methodLink RX10 129 yX10_hasWord ∈ lw_g := lg_7 (i := 48) (by decide +kernel) rfl
theorem lkX10_133 : Cond.methodLink RX10 133 yX10_originOf ∈ lw_g := lg_7 (i := 44) (by decide +kernel) rfl
theorem lkX9_190 : Cond.methodLink RX9 190 yX4_changersOf ∈ lw_g := lg_3 (i := 56) (by decide +kernel) rfl
theorem lkL_56 : Cond.methodLink RL 56 yX9_changedBy ∈ lw_g := lg_4 (i := 121) (by decide +kernel) rfl
theorem lkX10_161 : Cond.methodLink RX10 161 yX10_changesOf ∈ lw_g := lg_7 (i := 56) (by decide +kernel) rfl
theorem lkX4_37 : Cond.methodLink RX4 37 yX4_freshen ∈ lw_g := lg_2 (i := 76) (by decide +kernel) rfl
theorem lkX9_321 : Cond.methodLink RX9 321 yX4_hasWord ∈ lw_g := lg_2 (i := 166) (by decide +kernel) rfl
theorem lkX9_193 : Cond.methodLink RX9 193 yX4_freshenAll ∈ lw_g := lg_2 (i := 72) (by decide +kernel) rfl
theorem lkX9_196 : Cond.methodLink RX9 196 yX9_countWords ∈ lw_g := lg_2 (i := 162) (by decide +kernel) rfl
theorem lkL_59 : Cond.methodLink RL 59 yX9_wealth ∈ lw_g := lg_4 (i := 128) (by decide +kernel) rfl
theorem lkX10_164 : Cond.methodLink RX10 164 yX10_wealthOf ∈ lw_g := lg_7 (i := 64) (by decide +kernel) rfl
theorem lkX9_199 : Cond.methodLink RX9 199 yX9_countAlike ∈ lw_g := lg_2 (i := 167) (by decide +kernel) rfl
theorem lkL_62 : Cond.methodLink RL 62 yX9_alike ∈ lw_g := lg_4 (i := 135) (by decide +kernel) rfl
theorem lkX10_167 : Cond.methodLink RX10 167 yX10_alikeIn ∈ lw_g := lg_7 (i := 72) (by decide +kernel) rfl
theorem lkX9_202 : Cond.methodLink RX9 202 yX9_collectSounds ∈ lw_g := lg_2 (i := 175) (by decide +kernel) rfl
theorem lkL_65 : Cond.methodLink RL 65 yX9_soundsOf ∈ lw_g := lg_4 (i := 142) (by decide +kernel) rfl
theorem lkX10_170 : Cond.methodLink RX10 170 yX10_soundsIn ∈ lw_g := lg_7 (i := 80) (by decide +kernel) rfl
theorem lkX0_59 : Cond.methodLink RX0 59 yX8_size ∈ lw_g := lg_2 (i := 207) (by decide +kernel) rfl
theorem lkX0_65 : Cond.methodLink RX0 65 Lib.Math.min.name ∈ lw_g := lg_2 (i := 208) (by decide +kernel) rfl
theorem lkX0_70 : Cond.methodLink RX0 70 yX8_at ∈ lw_g := lg_2 (i := 209) (by decide +kernel) rfl
theorem lkX0_74 : Cond.methodLink RX0 74 yX0_pairFrom ∈ lw_g := lg_2 (i := 214) (by decide +kernel) rfl
theorem lkX0_33 : Cond.methodLink RX0 33 yX0_spellOut ∈ lw_g := lg_2 (i := 204) (by decide +kernel) rfl
theorem lkX0_44 : Cond.methodLink RX0 44 yX0_leastFrom ∈ lw_g := lg_2 (i := 210) (by decide +kernel) rfl
theorem lkX9_324 : Cond.methodLink RX9 324 Lib.Math.min.name ∈ lw_g := lg_2 (i := 194) (by decide +kernel) rfl
theorem lkX9_329 : Cond.methodLink RX9 329 Lib.Math.max.name ∈ lw_g := lg_2 (i := 195) (by decide +kernel) rfl
theorem lkX9_332 : Cond.methodLink RX9 332 yX4_bothHave ∈ lw_g := lg_2 (i := 196) (by decide +kernel) rfl
theorem lkX9_336 : Cond.methodLink RX9 336 yX0_weigh ∈ lw_g := lg_2 (i := 200) (by decide +kernel) rfl
theorem lkX9_205 : Cond.methodLink RX9 205 yX9_leastCost ∈ lw_g := lg_2 (i := 190) (by decide +kernel) rfl
theorem lkL_68 : Cond.methodLink RL 68 yX9_cost ∈ lw_g := lg_4 (i := 149) (by decide +kernel) rfl
theorem lkX10_173 : Cond.methodLink RX10 173 yX10_spread ∈ lw_g := lg_7 (i := 100) (by decide +kernel) rfl
theorem lkX10_180 : Cond.methodLink RX10 180 yX10_costOf ∈ lw_g := lg_7 (i := 104) (by decide +kernel) rfl
theorem lkX10_183 : Cond.methodLink RX10 183 yX10_restAt ∈ lw_g := lg_7 (i := 108) (by decide +kernel) rfl
theorem lkX10_186 : Cond.methodLink RX10 186 Lib.Math.min.name ∈ lw_g := lg_7 (i := 112) (by decide +kernel) rfl
theorem lkX10_194 : Cond.methodLink RX10 194 yX10_align ∈ lw_g := lg_7 (i := 96) (by decide +kernel) rfl
theorem lkX10_198 : Cond.methodLink RX10 198 yX10_areAsked ∈ lw_g := lg_7 (i := 88) (by decide +kernel) rfl
theorem lkX10_201 : Cond.methodLink RX10 201 yX10_costNow ∈ lw_g := lg_7 (i := 92) (by decide +kernel) rfl
theorem lkX0_48 : Cond.methodLink RX0 48 yX0_weigh ∈ lw_g := lg_3 (i := 15) (by decide +kernel) rfl
theorem lkX0_52 : Cond.methodLink RX0 52 yX0_takesPair ∈ lw_g := lg_3 (i := 16) (by decide +kernel) rfl
theorem lkX0_56 : Cond.methodLink RX0 56 yX0_takesFirstAlone ∈ lw_g := lg_3 (i := 20) (by decide +kernel) rfl
theorem lkX9_340 : Cond.methodLink RX9 340 yX0_align ∈ lw_g := lg_3 (i := 11) (by decide +kernel) rfl
theorem lkX9_209 : Cond.methodLink RX9 209 yX9_layOut ∈ lw_g := lg_4 (i := 160) (by decide +kernel) rfl
theorem lkL_71 : Cond.methodLink RL 71 yX9_columns ∈ lw_g := lg_4 (i := 156) (by decide +kernel) rfl
theorem lkX10_205 : Cond.methodLink RX10 205 yX10_columnsNow ∈ lw_g := lg_7 (i := 117) (by decide +kernel) rfl
theorem lkX9_212 : Cond.methodLink RX9 212 yX0_upperAt ∈ lw_g := lg_3 (i := 28) (by decide +kernel) rfl
theorem lkX9_215 : Cond.methodLink RX9 215 yX0_lowerAt ∈ lw_g := lg_3 (i := 32) (by decide +kernel) rfl
theorem lkL_74 : Cond.methodLink RL 74 yX9_columnAt ∈ lw_g := lg_4 (i := 167) (by decide +kernel) rfl
theorem lkX7_15 : Cond.methodLink RX7 15 yJ7_fill_53178 ∈ lw_g := lg_3 (i := 6) (by decide +kernel) rfl
theorem lkX4_105 : Cond.methodLink RX4 105 yX4_originOf ∈ lw_g := lg_2 (i := 234) (by decide +kernel) rfl
theorem lkX9_343 : Cond.methodLink RX9 343 yX7_clear ∈ lw_g := lg_3 (i := 2) (by decide +kernel) rfl
theorem lkX9_346 : Cond.methodLink RX9 346 yX4_areKin ∈ lw_g := lg_2 (i := 230) (by decide +kernel) rfl
theorem lkX9_349 : Cond.methodLink RX9 349 yX7_add ∈ lw_g := lg_3 (i := 7) (by decide +kernel) rfl
theorem lkX9_218 : Cond.methodLink RX9 218 yX9_isSoundOrNone ∈ lw_g := lg_4 (i := 178) (by decide +kernel) rfl
theorem lkX9_221 : Cond.methodLink RX9 221 yX9_columnSign ∈ lw_g := lg_4 (i := 181) (by decide +kernel) rfl
theorem lkX9_224 : Cond.methodLink RX9 224 yX9_collectAnswers ∈ lw_g := lg_4 (i := 184) (by decide +kernel) rfl
theorem lkX9_228 : Cond.methodLink RX9 228 yX7_countOf ∈ lw_g := lg_4 (i := 188) (by decide +kernel) rfl
theorem lkL_77 : Cond.methodLink RL 77 yX9_answers ∈ lw_g := lg_4 (i := 174) (by decide +kernel) rfl
theorem lkX10_208 : Cond.methodLink RX10 208 yX10_areKin ∈ lw_g := lg_7 (i := 133) (by decide +kernel) rfl
theorem lkX10_211 : Cond.methodLink RX10 211 yX10_answersNow ∈ lw_g := lg_7 (i := 129) (by decide +kernel) rfl
theorem lkX9_231 : Cond.methodLink RX9 231 yX7_winner ∈ lw_g := lg_3 (i := 40) (by decide +kernel) rfl
theorem lkL_80 : Cond.methodLink RL 80 yX9_mainAnswer ∈ lw_g := lg_4 (i := 195) (by decide +kernel) rfl
theorem lkX9_234 : Cond.methodLink RX9 234 yX9_distanceOf ∈ lw_g := lg_2 (i := 186) (by decide +kernel) rfl
theorem lkL_83 : Cond.methodLink RL 83 yX9_far ∈ lw_g := lg_4 (i := 202) (by decide +kernel) rfl
theorem lkX10_215 : Cond.methodLink RX10 215 Lib.Math.max.name ∈ lw_g := lg_7 (i := 153) (by decide +kernel) rfl
theorem lkX10_218 : Cond.methodLink RX10 218 yX10_shared ∈ lw_g := lg_7 (i := 154) (by decide +kernel) rfl
theorem lkX10_221 : Cond.methodLink RX10 221 yX10_costs ∈ lw_g := lg_7 (i := 145) (by decide +kernel) rfl
theorem lkX10_225 : Cond.methodLink RX10 225 yX10_farBy ∈ lw_g := lg_7 (i := 149) (by decide +kernel) rfl
theorem lkX9_238 : Cond.methodLink RX9 238 yX9_nearestTo ∈ lw_g := lg_2 (i := 181) (by decide +kernel) rfl
theorem lkL_87 : Cond.methodLink RL 87 yX9_nearest ∈ lw_g := lg_4 (i := 209) (by decide +kernel) rfl
theorem lkX10_229 : Cond.methodLink RX10 229 yX10_nearestBy ∈ lw_g := lg_7 (i := 162) (by decide +kernel) rfl
theorem lkX9_353 : Cond.methodLink RX9 353 yX9_isWitness ∈ lw_g := lg_2 (i := 226) (by decide +kernel) rfl
theorem lkX9_356 : Cond.methodLink RX9 356 yX9_openVotes ∈ lw_g := lg_2 (i := 238) (by decide +kernel) rfl
theorem lkX9_360 : Cond.methodLink RX9 360 yX9_castVotes ∈ lw_g := lg_3 (i := 24) (by decide +kernel) rfl
theorem lkX9_363 : Cond.methodLink RX9 363 yX9_elected ∈ lw_g := lg_3 (i := 36) (by decide +kernel) rfl
theorem lkX9_241 : Cond.methodLink RX9 241 yX9_recall ∈ lw_g := lg_2 (i := 222) (by decide +kernel) rfl
theorem lkL_90 : Cond.methodLink RL 90 yX9_recalled ∈ lw_g := lg_4 (i := 216) (by decide +kernel) rfl
theorem lkX10_233 : Cond.methodLink RX10 233 yX10_recalledNow ∈ lw_g := lg_7 (i := 170) (by decide +kernel) rfl
theorem lkL_93 : Cond.methodLink RL 93 yX9_recalledAt ∈ lw_g := lg_4 (i := 223) (by decide +kernel) rfl
theorem lkX9_244 : Cond.methodLink RX9 244 yX9_countRecalledWell ∈ lw_g := lg_2 (i := 218) (by decide +kernel) rfl
theorem lkL_96 : Cond.methodLink RL 96 yX9_recalledWell ∈ lw_g := lg_4 (i := 230) (by decide +kernel) rfl
theorem lkX10_236 : Cond.methodLink RX10 236 yX10_wellNow ∈ lw_g := lg_7 (i := 182) (by decide +kernel) rfl
theorem lkX2_20 : Cond.methodLink RX2 20 yX2_init ∈ lw_g := lg_5 (i := 14) (by decide +kernel) rfl
theorem lkX2_23 : Cond.methodLink RX2 23 yJx4a65c_size_8abf5 ∈ lw_g := lg_5 (i := 15) (by decide +kernel) rfl
theorem lkX2_27 : Cond.methodLink RX2 27 yJx4a65c_get_915e3 ∈ lw_g := lg_5 (i := 16) (by decide +kernel) rfl
theorem lkX2_33 : Cond.methodLink RX2 33 yJx4a65c_add_9ea2d ∈ lw_g := lg_5 (i := 18) (by decide +kernel) rfl
theorem lkJx4a65c_135 : Cond.methodLink RJx4a65c 135 yJx4a65c_rangeCheckForAdd_d00df ∈ lw_g := lg_5 (i := 23) (by decide +kernel) rfl
theorem lkX2_37 : Cond.methodLink RX2 37 yX2_lackingLaw ∈ lw_g := lg_5 (i := 9) (by decide +kernel) rfl
theorem lkX2_41 : Cond.methodLink RX2 41 yJx4a65c_add_7a177 ∈ lw_g := lg_5 (i := 19) (by decide +kernel) rfl
theorem lkX1_18 : Cond.methodLink RX1 18 yJx4a65c_init_da8c8 ∈ lw_g := lg_6 (i := 33) (by decide +kernel) rfl
theorem lkX1_19 : Cond.methodLink RX1 19 yJx4a65c_size_8abf5 ∈ lw_g := lg_6 (i := 34) (by decide +kernel) rfl
theorem lkX1_23 : Cond.methodLink RX1 23 yJx4a65c_get_915e3 ∈ lw_g := lg_6 (i := 35) (by decide +kernel) rfl
theorem lkX1_29 : Cond.methodLink RX1 29 yJx4a65c_add_9ea2d ∈ lw_g := lg_6 (i := 37) (by decide +kernel) rfl
theorem lkX1_33 : Cond.methodLink RX1 33 yX1_init ∈ lw_g := lg_6 (i := 39) (by decide +kernel) rfl
theorem lkX9_367 : Cond.methodLink RX9 367 yX1_replacing ∈ lw_g := lg_6 (i := 28) (by decide +kernel) rfl
theorem lkX9_272 : Cond.methodLink RX9 272 yX4_tellOf ∈ lw_g := lg_6 (i := 40) (by decide +kernel) rfl
theorem lkX9_276 : Cond.methodLink RX9 276 yX9_differs ∈ lw_g := lg_3 (i := 60) (by decide +kernel) rfl
theorem lkX9_247 : Cond.methodLink RX9 247 yX9_isLaw ∈ lw_g := lg_5 (i := 1) (by decide +kernel) rfl
theorem lkX9_251 : Cond.methodLink RX9 251 yX2_swappingLaw ∈ lw_g := lg_5 (i := 5) (by decide +kernel) rfl
theorem lkX9_255 : Cond.methodLink RX9 255 yX9_suppose ∈ lw_g := lg_6 (i := 24) (by decide +kernel) rfl
theorem lkX9_259 : Cond.methodLink RX9 259 yX9_countDifferent ∈ lw_g := lg_6 (i := 44) (by decide +kernel) rfl
theorem lkL_99 : Cond.methodLink RL 99 yX9_swapped ∈ lw_g := lg_4 (i := 237) (by decide +kernel) rfl
theorem lkX10_239 : Cond.methodLink RX10 239 arraycopyName ∈ lw_g := lg_7 (i := 194) (by decide +kernel) rfl
theorem lkX10_245 : Cond.methodLink RX10 245 yX10_swap ∈ lw_g := lg_7 (i := 199) (by decide +kernel) rfl
theorem lkX10_249 : Cond.methodLink RX10 249 yX10_told ∈ lw_g := lg_7 (i := 190) (by decide +kernel) rfl
theorem lkX10_253 : Cond.methodLink RX10 253 yX10_swapLaws ∈ lw_g := lg_7 (i := 195) (by decide +kernel) rfl
theorem lkX10_256 : Cond.methodLink RX10 256 yX10_unlike ∈ lw_g := lg_7 (i := 202) (by decide +kernel) rfl
theorem lkX9_262 : Cond.methodLink RX9 262 yX2_lackingLaw ∈ lw_g := lg_6 (i := 55) (by decide +kernel) rfl
theorem lkL_102 : Cond.methodLink RL 102 yX9_without ∈ lw_g := lg_6 (i := 51) (by decide +kernel) rfl
theorem lkX9_268 : Cond.methodLink RX9 268 yX1_lackingLoan ∈ lw_g := lg_6 (i := 63) (by decide +kernel) rfl
theorem lkL_105 : Cond.methodLink RL 105 yX9_withoutLoan ∈ lw_g := lg_6 (i := 59) (by decide +kernel) rfl
theorem lkL_108 : Cond.methodLink RL 108 yX9_looksLent ∈ lw_g := lg_6 (i := 71) (by decide +kernel) rfl
theorem lkX10_260 : Cond.methodLink RX10 260 yX10_unlent ∈ lw_g := lg_7 (i := 218) (by decide +kernel) rfl
theorem lkX9_282 : Cond.methodLink RX9 282 yX9_mixed ∈ lw_g := lg_2 (i := 153) (by decide +kernel) rfl
theorem lkX9_373 : Cond.methodLink RX9 373 yX9_mixSounds ∈ lw_g := lg_3 (i := 52) (by decide +kernel) rfl
theorem lkX9_286 : Cond.methodLink RX9 286 yX9_mixWord ∈ lw_g := lg_3 (i := 48) (by decide +kernel) rfl
theorem lkX9_290 : Cond.methodLink RX9 290 yX9_mixCosts ∈ lw_g := lg_3 (i := 64) (by decide +kernel) rfl
theorem lkL_112 : Cond.methodLink RL 112 yX9_init ∈ lw_g := lg_1 (i := 36) (by decide +kernel) rfl
theorem lkL_115 : Cond.methodLink RL 115 yX10_init ∈ lw_g := lg_6 (i := 77) (by decide +kernel) rfl
theorem lkL_116 : Cond.methodLink RL 116 yL_setSound ∈ lw_g := lg_3 (i := 68) (by decide +kernel) rfl
theorem lkL_121 : Cond.methodLink RL 121 yX10_setSound ∈ lw_g := lg_6 (i := 167) (by decide +kernel) rfl
theorem lkL_122 : Cond.methodLink RL 122 yX10_thrown ∈ lw_g := lg_6 (i := 163) (by decide +kernel) rfl
theorem lkL_126 : Cond.methodLink RL 126 yL_word ∈ lw_g := lg_3 (i := 173) (by decide +kernel) rfl
theorem lkL_129 : Cond.methodLink RL 129 yX10_word ∈ lw_g := lg_6 (i := 181) (by decide +kernel) rfl
theorem lkL_130 : Cond.methodLink RL 130 yL_spell ∈ lw_g := lg_3 (i := 183) (by decide +kernel) rfl
theorem lkL_132 : Cond.methodLink RL 132 yX10_spell ∈ lw_g := lg_6 (i := 192) (by decide +kernel) rfl
theorem lkL_133 : Cond.methodLink RL 133 yL_language ∈ lw_g := lg_3 (i := 210) (by decide +kernel) rfl
theorem lkL_135 : Cond.methodLink RL 135 yX10_language ∈ lw_g := lg_6 (i := 196) (by decide +kernel) rfl
theorem lkL_136 : Cond.methodLink RL 136 yL_law ∈ lw_g := lg_4 (i := 1) (by decide +kernel) rfl
theorem lkL_139 : Cond.methodLink RL 139 yX10_law ∈ lw_g := lg_6 (i := 204) (by decide +kernel) rfl
theorem lkL_140 : Cond.methodLink RL 140 yL_unlaw ∈ lw_g := lg_4 (i := 31) (by decide +kernel) rfl
theorem lkL_142 : Cond.methodLink RL 142 yX10_unlaw ∈ lw_g := lg_6 (i := 210) (by decide +kernel) rfl
theorem lkL_143 : Cond.methodLink RL 143 yL_loan ∈ lw_g := lg_4 (i := 51) (by decide +kernel) rfl
theorem lkL_146 : Cond.methodLink RL 146 yX10_loan ∈ lw_g := lg_6 (i := 214) (by decide +kernel) rfl
theorem lkL_147 : Cond.methodLink RL 147 yX9_languages ∈ lw_g := lg_2 (i := 56) (by decide +kernel) rfl
theorem lkL_150 : Cond.methodLink RL 150 yX10_languages ∈ lw_g := lg_6 (i := 218) (by decide +kernel) rfl
theorem lkL_151 : Cond.methodLink RL 151 yL_laws ∈ lw_g := lg_4 (i := 79) (by decide +kernel) rfl
theorem lkL_153 : Cond.methodLink RL 153 yX10_laws ∈ lw_g := lg_6 (i := 226) (by decide +kernel) rfl
theorem lkL_154 : Cond.methodLink RL 154 yX9_loans ∈ lw_g := lg_2 (i := 64) (by decide +kernel) rfl
theorem lkL_157 : Cond.methodLink RL 157 yX10_loans ∈ lw_g := lg_6 (i := 230) (by decide +kernel) rfl
theorem lkL_158 : Cond.methodLink RL 158 yL_common ∈ lw_g := lg_4 (i := 86) (by decide +kernel) rfl
theorem lkL_160 : Cond.methodLink RL 160 yX10_common ∈ lw_g := lg_6 (i := 234) (by decide +kernel) rfl
theorem lkL_161 : Cond.methodLink RL 161 yL_length ∈ lw_g := lg_4 (i := 93) (by decide +kernel) rfl
theorem lkL_163 : Cond.methodLink RL 163 yX10_length_ ∈ lw_g := lg_6 (i := 238) (by decide +kernel) rfl
theorem lkL_164 : Cond.methodLink RL 164 yL_soundAt ∈ lw_g := lg_4 (i := 101) (by decide +kernel) rfl
theorem lkL_167 : Cond.methodLink RL 167 yX10_soundAt ∈ lw_g := lg_7 (i := 36) (by decide +kernel) rfl
theorem lkL_168 : Cond.methodLink RL 168 yL_origin ∈ lw_g := lg_4 (i := 111) (by decide +kernel) rfl
theorem lkL_170 : Cond.methodLink RL 170 yX10_origin ∈ lw_g := lg_7 (i := 40) (by decide +kernel) rfl
theorem lkL_171 : Cond.methodLink RL 171 yL_changedBy ∈ lw_g := lg_4 (i := 118) (by decide +kernel) rfl
theorem lkL_173 : Cond.methodLink RL 173 yX10_changedBy ∈ lw_g := lg_7 (i := 52) (by decide +kernel) rfl
theorem lkL_174 : Cond.methodLink RL 174 yL_wealth ∈ lw_g := lg_4 (i := 125) (by decide +kernel) rfl
theorem lkL_176 : Cond.methodLink RL 176 yX10_wealth ∈ lw_g := lg_7 (i := 60) (by decide +kernel) rfl
theorem lkL_177 : Cond.methodLink RL 177 yL_alike ∈ lw_g := lg_4 (i := 132) (by decide +kernel) rfl
theorem lkL_179 : Cond.methodLink RL 179 yX10_alike ∈ lw_g := lg_7 (i := 68) (by decide +kernel) rfl
theorem lkL_180 : Cond.methodLink RL 180 yL_soundsOf ∈ lw_g := lg_4 (i := 139) (by decide +kernel) rfl
theorem lkL_182 : Cond.methodLink RL 182 yX10_soundsOf ∈ lw_g := lg_7 (i := 76) (by decide +kernel) rfl
theorem lkL_183 : Cond.methodLink RL 183 yL_cost ∈ lw_g := lg_4 (i := 146) (by decide +kernel) rfl
theorem lkL_185 : Cond.methodLink RL 185 yX10_cost ∈ lw_g := lg_7 (i := 84) (by decide +kernel) rfl
theorem lkL_186 : Cond.methodLink RL 186 yL_columns ∈ lw_g := lg_4 (i := 153) (by decide +kernel) rfl
theorem lkL_188 : Cond.methodLink RL 188 yX10_columns ∈ lw_g := lg_7 (i := 113) (by decide +kernel) rfl
theorem lkL_189 : Cond.methodLink RL 189 yL_columnAt ∈ lw_g := lg_4 (i := 164) (by decide +kernel) rfl
theorem lkL_191 : Cond.methodLink RL 191 yX10_columnAt ∈ lw_g := lg_7 (i := 121) (by decide +kernel) rfl
theorem lkL_192 : Cond.methodLink RL 192 yL_answers ∈ lw_g := lg_4 (i := 171) (by decide +kernel) rfl
theorem lkL_194 : Cond.methodLink RL 194 yX10_answers ∈ lw_g := lg_7 (i := 125) (by decide +kernel) rfl
theorem lkL_195 : Cond.methodLink RL 195 yL_mainAnswer ∈ lw_g := lg_4 (i := 192) (by decide +kernel) rfl
theorem lkL_197 : Cond.methodLink RL 197 yX10_mainAnswer ∈ lw_g := lg_7 (i := 137) (by decide +kernel) rfl
theorem lkL_198 : Cond.methodLink RL 198 yL_far ∈ lw_g := lg_4 (i := 199) (by decide +kernel) rfl
theorem lkL_201 : Cond.methodLink RL 201 yX10_far ∈ lw_g := lg_7 (i := 141) (by decide +kernel) rfl
theorem lkL_202 : Cond.methodLink RL 202 yL_nearest ∈ lw_g := lg_4 (i := 206) (by decide +kernel) rfl
theorem lkL_204 : Cond.methodLink RL 204 yX10_nearest ∈ lw_g := lg_7 (i := 158) (by decide +kernel) rfl
theorem lkL_205 : Cond.methodLink RL 205 yL_recalled ∈ lw_g := lg_4 (i := 213) (by decide +kernel) rfl
theorem lkL_207 : Cond.methodLink RL 207 yX10_recalled ∈ lw_g := lg_7 (i := 166) (by decide +kernel) rfl
theorem lkL_208 : Cond.methodLink RL 208 yL_recalledAt ∈ lw_g := lg_4 (i := 220) (by decide +kernel) rfl
theorem lkL_210 : Cond.methodLink RL 210 yX10_recalledAt ∈ lw_g := lg_7 (i := 174) (by decide +kernel) rfl
theorem lkL_211 : Cond.methodLink RL 211 yL_recalledWell ∈ lw_g := lg_4 (i := 227) (by decide +kernel) rfl
theorem lkL_213 : Cond.methodLink RL 213 yX10_recalledWell ∈ lw_g := lg_7 (i := 178) (by decide +kernel) rfl
theorem lkL_214 : Cond.methodLink RL 214 yL_swapped ∈ lw_g := lg_4 (i := 234) (by decide +kernel) rfl
theorem lkL_216 : Cond.methodLink RL 216 yX10_swapped ∈ lw_g := lg_7 (i := 186) (by decide +kernel) rfl
theorem lkL_217 : Cond.methodLink RL 217 yL_without ∈ lw_g := lg_6 (i := 48) (by decide +kernel) rfl
theorem lkL_219 : Cond.methodLink RL 219 yX10_without ∈ lw_g := lg_7 (i := 206) (by decide +kernel) rfl
theorem lkL_220 : Cond.methodLink RL 220 yL_withoutLoan ∈ lw_g := lg_6 (i := 56) (by decide +kernel) rfl
theorem lkL_222 : Cond.methodLink RL 222 yX10_withoutLoan ∈ lw_g := lg_7 (i := 210) (by decide +kernel) rfl
theorem lkL_223 : Cond.methodLink RL 223 yL_looksLent ∈ lw_g := lg_6 (i := 68) (by decide +kernel) rfl
theorem lkL_225 : Cond.methodLink RL 225 yX10_looksLent ∈ lw_g := lg_7 (i := 214) (by decide +kernel) rfl
theorem lkL_226 : Cond.methodLink RL 226 yX9_digest ∈ lw_g := lg_2 (i := 68) (by decide +kernel) rfl
theorem lkL_230 : Cond.methodLink RL 230 yX10_digest ∈ lw_g := lg_7 (i := 222) (by decide +kernel) rfl
theorem smJ7_fill_53178 : Cond.static yJ7_fill_53178 ∈ lw_g := lg_1 (i := 51) (by decide +kernel) rfl
theorem imX6_init : Cond.instanceMethod yX6_init ∈ lw_g := lg_1 (i := 45) (by decide +kernel) rfl
theorem imJxa1e45_init_da8c8 : Cond.instanceMethod yJxa1e45_init_da8c8 ∈ lw_g := lg_1 (i := 74) (by decide +kernel) rfl
theorem imJxc12de_init_da8c8 : Cond.instanceMethod yJxc12de_init_da8c8 ∈ lw_g := lg_1 (i := 71) (by decide +kernel) rfl
theorem imJx4a65c_init_da8c8 : Cond.instanceMethod yJx4a65c_init_da8c8 ∈ lw_g := lg_1 (i := 68) (by decide +kernel) rfl
theorem imX2_init : Cond.instanceMethod yX2_init ∈ lw_g := lg_1 (i := 95) (by decide +kernel) rfl
theorem smJ8_newLength_cabcc : Cond.static yJ8_newLength_cabcc ∈ lw_g := lg_1 (i := 128) (by decide +kernel) rfl
theorem smJ7_copyOf_6403c : Cond.static yJ7_copyOf_6403c ∈ lw_g := lg_1 (i := 161) (by decide +kernel) rfl
theorem smJ7_copyOf_1904c : Cond.static yJ7_copyOf_1904c ∈ lw_g := lg_1 (i := 138) (by decide +kernel) rfl
theorem imJx4a65c_grow_92f84 : Cond.instanceMethod yJx4a65c_grow_92f84 ∈ lw_g := lg_1 (i := 125) (by decide +kernel) rfl
theorem seJx4a65c_grow_92f84 : Cond.selects RJx4a65c yJx4a65c_grow_92f84 yJx4a65c_grow_92f84 ∈ lw_g := lg_0 (i := 2) (by decide +kernel) rfl
theorem imJx4a65c_grow_d5877 : Cond.instanceMethod yJx4a65c_grow_d5877 ∈ lw_g := lg_1 (i := 121) (by decide +kernel) rfl
theorem seJx4a65c_grow_d5877 : Cond.selects RJx4a65c yJx4a65c_grow_d5877 yJx4a65c_grow_d5877 ∈ lw_g := lg_0 (i := 1) (by decide +kernel) rfl
theorem imJx4a65c_add_72be8 : Cond.instanceMethod yJx4a65c_add_72be8 ∈ lw_g := lg_1 (i := 117) (by decide +kernel) rfl
theorem seJx4a65c_add_72be8 : Cond.selects RJx4a65c yJx4a65c_add_72be8 yJx4a65c_add_72be8 ∈ lw_g := lg_0 (i := 0) (by decide +kernel) rfl
theorem imJx4a65c_add_9ea2d : Cond.instanceMethod yJx4a65c_add_9ea2d ∈ lw_g := lg_1 (i := 112) (by decide +kernel) rfl
theorem seJx4a65c_add_9ea2d : Cond.selects RJx4a65c yJx4a65c_add_9ea2d yJx4a65c_add_9ea2d ∈ lw_g := lg_1 (i := 113) (by decide +kernel) rfl
theorem smX9_motherAlone : Cond.static yX9_motherAlone ∈ lw_g := lg_1 (i := 63) (by decide +kernel) rfl
theorem imX1_init : Cond.instanceMethod yX1_init ∈ lw_g := lg_1 (i := 177) (by decide +kernel) rfl
theorem imX4_init : Cond.instanceMethod yX4_init ∈ lw_g := lg_1 (i := 194) (by decide +kernel) rfl
theorem imX0_init : Cond.instanceMethod yX0_init ∈ lw_g := lg_1 (i := 223) (by decide +kernel) rfl
theorem imX7_init : Cond.instanceMethod yX7_init ∈ lw_g := lg_2 (i := 16) (by decide +kernel) rfl
theorem imX9_init : Cond.instanceMethod yX9_init ∈ lw_g := lg_1 (i := 37) (by decide +kernel) rfl
theorem imX10_init : Cond.instanceMethod yX10_init ∈ lw_g := lg_6 (i := 78) (by decide +kernel) rfl
theorem smX9_isSound : Cond.static yX9_isSound ∈ lw_g := lg_3 (i := 45) (by decide +kernel) rfl
theorem smX9_refuseUnless : Cond.static yX9_refuseUnless ∈ lw_g := lg_3 (i := 77) (by decide +kernel) rfl
theorem imX6_featuresOf : Cond.instanceMethod yX6_featuresOf ∈ lw_g := lg_3 (i := 148) (by decide +kernel) rfl
theorem seX6_featuresOf : Cond.selects RX6 yX6_featuresOf yX6_featuresOf ∈ lw_g := lg_3 (i := 149) (by decide +kernel) rfl
theorem smJ6_bitCount_0f7a4 : Cond.static yJ6_bitCount_0f7a4 ∈ lw_g := lg_3 (i := 156) (by decide +kernel) rfl
theorem imX6_giveFeatures : Cond.instanceMethod yX6_giveFeatures ∈ lw_g := lg_3 (i := 152) (by decide +kernel) rfl
theorem seX6_giveFeatures : Cond.selects RX6 yX6_giveFeatures yX6_giveFeatures ∈ lw_g := lg_3 (i := 153) (by decide +kernel) rfl
theorem imX4_forget : Cond.instanceMethod yX4_forget ∈ lw_g := lg_3 (i := 170) (by decide +kernel) rfl
theorem seX4_forget : Cond.selects RX4 yX4_forget yX4_forget ∈ lw_g := lg_3 (i := 171) (by decide +kernel) rfl
theorem imX9_forgetMeaning : Cond.instanceMethod yX9_forgetMeaning ∈ lw_g := lg_3 (i := 167) (by decide +kernel) rfl
theorem seX9_forgetMeaning : Cond.selects RX9 yX9_forgetMeaning yX9_forgetMeaning ∈ lw_g := lg_0 (i := 30) (by decide +kernel) rfl
theorem imX9_forgetAll : Cond.instanceMethod yX9_forgetAll ∈ lw_g := lg_3 (i := 163) (by decide +kernel) rfl
theorem seX9_forgetAll : Cond.selects RX9 yX9_forgetAll yX9_forgetAll ∈ lw_g := lg_0 (i := 29) (by decide +kernel) rfl
theorem imX9_setSound : Cond.instanceMethod yX9_setSound ∈ lw_g := lg_3 (i := 73) (by decide +kernel) rfl
theorem seX9_setSound : Cond.selects RX9 yX9_setSound yX9_setSound ∈ lw_g := lg_3 (i := 74) (by decide +kernel) rfl
theorem smL_setSound : Cond.static yL_setSound ∈ lw_g := lg_3 (i := 69) (by decide +kernel) rfl
theorem smX10_isIn : Cond.static yX10_isIn ∈ lw_g := lg_6 (i := 175) (by decide +kernel) rfl
theorem smX10_isSound : Cond.static yX10_isSound ∈ lw_g := lg_6 (i := 172) (by decide +kernel) rfl
theorem imX10_no : Cond.instanceMethod yX10_no ∈ lw_g := lg_6 (i := 179) (by decide +kernel) rfl
theorem seX10_no : Cond.selects RX10 yX10_no yX10_no ∈ lw_g := lg_0 (i := 40) (by decide +kernel) rfl
theorem imX10_setSound : Cond.instanceMethod yX10_setSound ∈ lw_g := lg_6 (i := 168) (by decide +kernel) rfl
theorem seX10_setSound : Cond.selects RX10 yX10_setSound yX10_setSound ∈ lw_g := lg_6 (i := 169) (by decide +kernel) rfl
theorem imX10_thrown : Cond.instanceMethod yX10_thrown ∈ lw_g := lg_6 (i := 164) (by decide +kernel) rfl
theorem seX10_thrown : Cond.selects RX10 yX10_thrown yX10_thrown ∈ lw_g := lg_6 (i := 165) (by decide +kernel) rfl
theorem smX9_isMeaning : Cond.static yX9_isMeaning ∈ lw_g := lg_3 (i := 181) (by decide +kernel) rfl
theorem smX8_size : Cond.static yX8_size ∈ lw_g := lg_2 (i := 126) (by decide +kernel) rfl
theorem imX9_word : Cond.instanceMethod yX9_word ∈ lw_g := lg_3 (i := 177) (by decide +kernel) rfl
theorem seX9_word : Cond.selects RX9 yX9_word yX9_word ∈ lw_g := lg_3 (i := 178) (by decide +kernel) rfl
theorem smL_word : Cond.static yL_word ∈ lw_g := lg_3 (i := 174) (by decide +kernel) rfl
theorem smX10_isMeaning : Cond.static yX10_isMeaning ∈ lw_g := lg_6 (i := 186) (by decide +kernel) rfl
theorem smX10_length : Cond.static yX10_length ∈ lw_g := lg_6 (i := 189) (by decide +kernel) rfl
theorem imX10_word : Cond.instanceMethod yX10_word ∈ lw_g := lg_6 (i := 182) (by decide +kernel) rfl
theorem seX10_word : Cond.selects RX10 yX10_word yX10_word ∈ lw_g := lg_6 (i := 183) (by decide +kernel) rfl
theorem smX9_requireState : Cond.static yX9_requireState ∈ lw_g := lg_3 (i := 192) (by decide +kernel) rfl
theorem smX8_plus : Cond.static yX8_plus ∈ lw_g := lg_2 (i := 148) (by decide +kernel) rfl
theorem imX9_spell : Cond.instanceMethod yX9_spell ∈ lw_g := lg_3 (i := 188) (by decide +kernel) rfl
theorem seX9_spell : Cond.selects RX9 yX9_spell yX9_spell ∈ lw_g := lg_3 (i := 189) (by decide +kernel) rfl
theorem smL_spell : Cond.static yL_spell ∈ lw_g := lg_3 (i := 184) (by decide +kernel) rfl
theorem imX10_spell : Cond.instanceMethod yX10_spell ∈ lw_g := lg_6 (i := 193) (by decide +kernel) rfl
theorem seX10_spell : Cond.selects RX10 yX10_spell yX10_spell ∈ lw_g := lg_6 (i := 194) (by decide +kernel) rfl
theorem imJx4a65c_size_8abf5 : Cond.instanceMethod yJx4a65c_size_8abf5 ∈ lw_g := lg_2 (i := 61) (by decide +kernel) rfl
theorem seJx4a65c_size_8abf5 : Cond.selects RJx4a65c yJx4a65c_size_8abf5 yJx4a65c_size_8abf5 ∈ lw_g := lg_2 (i := 62) (by decide +kernel) rfl
theorem imX9_isLanguage : Cond.instanceMethod yX9_isLanguage ∈ lw_g := lg_3 (i := 220) (by decide +kernel) rfl
theorem seX9_isLanguage : Cond.selects RX9 yX9_isLanguage yX9_isLanguage ∈ lw_g := lg_0 (i := 31) (by decide +kernel) rfl
theorem smX9_requireThere : Cond.static yX9_requireThere ∈ lw_g := lg_3 (i := 223) (by decide +kernel) rfl
theorem imX9_language : Cond.instanceMethod yX9_language ∈ lw_g := lg_3 (i := 215) (by decide +kernel) rfl
theorem seX9_language : Cond.selects RX9 yX9_language yX9_language ∈ lw_g := lg_3 (i := 216) (by decide +kernel) rfl
theorem smL_language : Cond.static yL_language ∈ lw_g := lg_3 (i := 211) (by decide +kernel) rfl
theorem imX10_isLanguage : Cond.instanceMethod yX10_isLanguage ∈ lw_g := lg_6 (i := 202) (by decide +kernel) rfl
theorem seX10_isLanguage : Cond.selects RX10 yX10_isLanguage yX10_isLanguage ∈ lw_g := lg_0 (i := 41) (by decide +kernel) rfl
theorem imX10_language : Cond.instanceMethod yX10_language ∈ lw_g := lg_6 (i := 197) (by decide +kernel) rfl
theorem seX10_language : Cond.selects RX10 yX10_language yX10_language ∈ lw_g := lg_6 (i := 198) (by decide +kernel) rfl
theorem smX9_isNeighbourSet : Cond.static yX9_isNeighbourSet ∈ lw_g := lg_4 (i := 10) (by decide +kernel) rfl
theorem smJ3_checkIndex_8e157 : Cond.static yJ3_checkIndex_8e157 ∈ lw_g := lg_2 (i := 100) (by decide +kernel) rfl
theorem smJ15_checkIndex_7cf53 : Cond.static yJ15_checkIndex_7cf53 ∈ lw_g := lg_2 (i := 97) (by decide +kernel) rfl
theorem imJx4a65c_elementData_915e3 : Cond.instanceMethod yJx4a65c_elementData_915e3 ∈ lw_g := lg_2 (i := 103) (by decide +kernel) rfl
theorem seJx4a65c_elementData_915e3 : Cond.selects RJx4a65c yJx4a65c_elementData_915e3 yJx4a65c_elementData_915e3 ∈ lw_g := lg_2 (i := 104) (by decide +kernel) rfl
theorem imJx4a65c_get_915e3 : Cond.instanceMethod yJx4a65c_get_915e3 ∈ lw_g := lg_2 (i := 93) (by decide +kernel) rfl
theorem seJx4a65c_get_915e3 : Cond.selects RJx4a65c yJx4a65c_get_915e3 yJx4a65c_get_915e3 ∈ lw_g := lg_2 (i := 94) (by decide +kernel) rfl
theorem imX9_lawsOf : Cond.instanceMethod yX9_lawsOf ∈ lw_g := lg_2 (i := 159) (by decide +kernel) rfl
theorem seX9_lawsOf : Cond.selects RX9 yX9_lawsOf yX9_lawsOf ∈ lw_g := lg_0 (i := 8) (by decide +kernel) rfl
theorem imX3_init : Cond.instanceMethod yX3_init ∈ lw_g := lg_4 (i := 15) (by decide +kernel) rfl
theorem imX9_law : Cond.instanceMethod yX9_law ∈ lw_g := lg_4 (i := 5) (by decide +kernel) rfl
theorem seX9_law : Cond.selects RX9 yX9_law yX9_law ∈ lw_g := lg_4 (i := 6) (by decide +kernel) rfl
theorem smL_law : Cond.static yL_law ∈ lw_g := lg_4 (i := 2) (by decide +kernel) rfl
theorem imX10_law : Cond.instanceMethod yX10_law ∈ lw_g := lg_6 (i := 205) (by decide +kernel) rfl
theorem seX10_law : Cond.selects RX10 yX10_law yX10_law ∈ lw_g := lg_6 (i := 206) (by decide +kernel) rfl
theorem imJx4a65c_isEmpty_aae02 : Cond.instanceMethod yJx4a65c_isEmpty_aae02 ∈ lw_g := lg_4 (i := 39) (by decide +kernel) rfl
theorem seJx4a65c_isEmpty_aae02 : Cond.selects RJx4a65c yJx4a65c_isEmpty_aae02 yJx4a65c_isEmpty_aae02 ∈ lw_g := lg_4 (i := 40) (by decide +kernel) rfl
theorem imJx4a65c_fastRemove_b59b0 : Cond.instanceMethod yJx4a65c_fastRemove_b59b0 ∈ lw_g := lg_4 (i := 48) (by decide +kernel) rfl
theorem seJx4a65c_fastRemove_b59b0 : Cond.selects RJx4a65c yJx4a65c_fastRemove_b59b0 yJx4a65c_fastRemove_b59b0 ∈ lw_g := lg_0 (i := 32) (by decide +kernel) rfl
theorem imJx4a65c_remove_915e3 : Cond.instanceMethod yJx4a65c_remove_915e3 ∈ lw_g := lg_4 (i := 43) (by decide +kernel) rfl
theorem seJx4a65c_remove_915e3 : Cond.selects RJx4a65c yJx4a65c_remove_915e3 yJx4a65c_remove_915e3 ∈ lw_g := lg_4 (i := 44) (by decide +kernel) rfl
theorem imX9_unlaw : Cond.instanceMethod yX9_unlaw ∈ lw_g := lg_4 (i := 35) (by decide +kernel) rfl
theorem seX9_unlaw : Cond.selects RX9 yX9_unlaw yX9_unlaw ∈ lw_g := lg_4 (i := 36) (by decide +kernel) rfl
theorem smL_unlaw : Cond.static yL_unlaw ∈ lw_g := lg_4 (i := 32) (by decide +kernel) rfl
theorem imX10_unlaw : Cond.instanceMethod yX10_unlaw ∈ lw_g := lg_6 (i := 211) (by decide +kernel) rfl
theorem seX10_unlaw : Cond.selects RX10 yX10_unlaw yX10_unlaw ∈ lw_g := lg_6 (i := 212) (by decide +kernel) rfl
theorem imX5_init : Cond.instanceMethod yX5_init ∈ lw_g := lg_4 (i := 61) (by decide +kernel) rfl
theorem imX9_loan : Cond.instanceMethod yX9_loan ∈ lw_g := lg_4 (i := 55) (by decide +kernel) rfl
theorem seX9_loan : Cond.selects RX9 yX9_loan yX9_loan ∈ lw_g := lg_4 (i := 56) (by decide +kernel) rfl
theorem smL_loan : Cond.static yL_loan ∈ lw_g := lg_4 (i := 52) (by decide +kernel) rfl
theorem imX10_loan : Cond.instanceMethod yX10_loan ∈ lw_g := lg_6 (i := 215) (by decide +kernel) rfl
theorem seX10_loan : Cond.selects RX10 yX10_loan yX10_loan ∈ lw_g := lg_6 (i := 216) (by decide +kernel) rfl
theorem imX9_languages : Cond.instanceMethod yX9_languages ∈ lw_g := lg_2 (i := 57) (by decide +kernel) rfl
theorem seX9_languages : Cond.selects RX9 yX9_languages yX9_languages ∈ lw_g := lg_2 (i := 58) (by decide +kernel) rfl
theorem imX10_ok : Cond.instanceMethod yX10_ok ∈ lw_g := lg_6 (i := 224) (by decide +kernel) rfl
theorem seX10_ok : Cond.selects RX10 yX10_ok yX10_ok ∈ lw_g := lg_0 (i := 42) (by decide +kernel) rfl
theorem imX10_languages : Cond.instanceMethod yX10_languages ∈ lw_g := lg_6 (i := 219) (by decide +kernel) rfl
theorem seX10_languages : Cond.selects RX10 yX10_languages yX10_languages ∈ lw_g := lg_6 (i := 220) (by decide +kernel) rfl
theorem imX9_laws : Cond.instanceMethod yX9_laws ∈ lw_g := lg_4 (i := 83) (by decide +kernel) rfl
theorem seX9_laws : Cond.selects RX9 yX9_laws yX9_laws ∈ lw_g := lg_4 (i := 84) (by decide +kernel) rfl
theorem smL_laws : Cond.static yL_laws ∈ lw_g := lg_4 (i := 80) (by decide +kernel) rfl
theorem imX10_laws : Cond.instanceMethod yX10_laws ∈ lw_g := lg_6 (i := 227) (by decide +kernel) rfl
theorem seX10_laws : Cond.selects RX10 yX10_laws yX10_laws ∈ lw_g := lg_6 (i := 228) (by decide +kernel) rfl
theorem imX9_loans : Cond.instanceMethod yX9_loans ∈ lw_g := lg_2 (i := 65) (by decide +kernel) rfl
theorem seX9_loans : Cond.selects RX9 yX9_loans yX9_loans ∈ lw_g := lg_2 (i := 66) (by decide +kernel) rfl
theorem imX10_loans : Cond.instanceMethod yX10_loans ∈ lw_g := lg_6 (i := 231) (by decide +kernel) rfl
theorem seX10_loans : Cond.selects RX10 yX10_loans yX10_loans ∈ lw_g := lg_6 (i := 232) (by decide +kernel) rfl
theorem imX9_common : Cond.instanceMethod yX9_common ∈ lw_g := lg_4 (i := 90) (by decide +kernel) rfl
theorem seX9_common : Cond.selects RX9 yX9_common yX9_common ∈ lw_g := lg_4 (i := 91) (by decide +kernel) rfl
theorem smL_common : Cond.static yL_common ∈ lw_g := lg_4 (i := 87) (by decide +kernel) rfl
theorem imX10_common : Cond.instanceMethod yX10_common ∈ lw_g := lg_6 (i := 235) (by decide +kernel) rfl
theorem seX10_common : Cond.selects RX10 yX10_common yX10_common ∈ lw_g := lg_6 (i := 236) (by decide +kernel) rfl
theorem smX4_cell : Cond.static yX4_cell ∈ lw_g := lg_2 (i := 90) (by decide +kernel) rfl
theorem imX4_inherit : Cond.instanceMethod yX4_inherit ∈ lw_g := lg_2 (i := 87) (by decide +kernel) rfl
theorem seX4_inherit : Cond.selects RX4 yX4_inherit yX4_inherit ∈ lw_g := lg_0 (i := 4) (by decide +kernel) rfl
theorem imX5_comesTo : Cond.instanceMethod yX5_comesTo ∈ lw_g := lg_2 (i := 113) (by decide +kernel) rfl
theorem seX5_comesTo : Cond.selects RX5 yX5_comesTo yX5_comesTo ∈ lw_g := lg_2 (i := 114) (by decide +kernel) rfl
theorem imX4_hasWord : Cond.instanceMethod yX4_hasWord ∈ lw_g := lg_2 (i := 117) (by decide +kernel) rfl
theorem seX4_hasWord : Cond.selects RX4 yX4_hasWord yX4_hasWord ∈ lw_g := lg_2 (i := 118) (by decide +kernel) rfl
theorem imX4_borrow : Cond.instanceMethod yX4_borrow ∈ lw_g := lg_2 (i := 109) (by decide +kernel) rfl
theorem seX4_borrow : Cond.selects RX4 yX4_borrow yX4_borrow ∈ lw_g := lg_0 (i := 5) (by decide +kernel) rfl
theorem smX8_at : Cond.static yX8_at ∈ lw_g := lg_2 (i := 129) (by decide +kernel) rfl
theorem smX3_has : Cond.static yX3_has ∈ lw_g := lg_2 (i := 137) (by decide +kernel) rfl
theorem imX3_holdsAt : Cond.instanceMethod yX3_holdsAt ∈ lw_g := lg_2 (i := 133) (by decide +kernel) rfl
theorem seX3_holdsAt : Cond.selects RX3 yX3_holdsAt yX3_holdsAt ∈ lw_g := lg_0 (i := 6) (by decide +kernel) rfl
theorem imX6_turned : Cond.instanceMethod yX6_turned ∈ lw_g := lg_2 (i := 144) (by decide +kernel) rfl
theorem seX6_turned : Cond.selects RX6 yX6_turned yX6_turned ∈ lw_g := lg_2 (i := 145) (by decide +kernel) rfl
theorem imX3_heirOf : Cond.instanceMethod yX3_heirOf ∈ lw_g := lg_2 (i := 141) (by decide +kernel) rfl
theorem seX3_heirOf : Cond.selects RX3 yX3_heirOf yX3_heirOf ∈ lw_g := lg_0 (i := 7) (by decide +kernel) rfl
theorem imX3_goOver : Cond.instanceMethod yX3_goOver ∈ lw_g := lg_2 (i := 122) (by decide +kernel) rfl
theorem seX3_goOver : Cond.selects RX3 yX3_goOver yX3_goOver ∈ lw_g := lg_2 (i := 123) (by decide +kernel) rfl
theorem imX4_tellWord : Cond.instanceMethod yX4_tellWord ∈ lw_g := lg_2 (i := 83) (by decide +kernel) rfl
theorem seX4_tellWord : Cond.selects RX4 yX4_tellWord yX4_tellWord ∈ lw_g := lg_0 (i := 3) (by decide +kernel) rfl
theorem imX4_freshen : Cond.instanceMethod yX4_freshen ∈ lw_g := lg_2 (i := 77) (by decide +kernel) rfl
theorem seX4_freshen : Cond.selects RX4 yX4_freshen yX4_freshen ∈ lw_g := lg_2 (i := 78) (by decide +kernel) rfl
theorem imX4_wordOf : Cond.instanceMethod yX4_wordOf ∈ lw_g := lg_2 (i := 172) (by decide +kernel) rfl
theorem seX4_wordOf : Cond.selects RX4 yX4_wordOf yX4_wordOf ∈ lw_g := lg_2 (i := 173) (by decide +kernel) rfl
theorem imX9_length : Cond.instanceMethod yX9_length ∈ lw_g := lg_4 (i := 97) (by decide +kernel) rfl
theorem seX9_length : Cond.selects RX9 yX9_length yX9_length ∈ lw_g := lg_4 (i := 98) (by decide +kernel) rfl
theorem smL_length : Cond.static yL_length ∈ lw_g := lg_4 (i := 94) (by decide +kernel) rfl
theorem imX10_borrow : Cond.instanceMethod yX10_borrow ∈ lw_g := lg_7 (i := 16) (by decide +kernel) rfl
theorem seX10_borrow : Cond.selects RX10 yX10_borrow yX10_borrow ∈ lw_g := lg_0 (i := 46) (by decide +kernel) rfl
theorem smX10_at : Cond.static yX10_at ∈ lw_g := lg_7 (i := 23) (by decide +kernel) rfl
theorem smX10_isBeside : Cond.static yX10_isBeside ∈ lw_g := lg_7 (i := 26) (by decide +kernel) rfl
theorem imX10_turned : Cond.instanceMethod yX10_turned ∈ lw_g := lg_7 (i := 30) (by decide +kernel) rfl
theorem seX10_turned : Cond.selects RX10 yX10_turned yX10_turned ∈ lw_g := lg_0 (i := 48) (by decide +kernel) rfl
theorem imX10_changed : Cond.instanceMethod yX10_changed ∈ lw_g := lg_7 (i := 20) (by decide +kernel) rfl
theorem seX10_changed : Cond.selects RX10 yX10_changed yX10_changed ∈ lw_g := lg_0 (i := 47) (by decide +kernel) rfl
theorem imX10_grow : Cond.instanceMethod yX10_grow ∈ lw_g := lg_7 (i := 12) (by decide +kernel) rfl
theorem seX10_grow : Cond.selects RX10 yX10_grow yX10_grow ∈ lw_g := lg_0 (i := 45) (by decide +kernel) rfl
theorem imX10_solve : Cond.instanceMethod yX10_solve ∈ lw_g := lg_7 (i := 8) (by decide +kernel) rfl
theorem seX10_solve : Cond.selects RX10 yX10_solve yX10_solve ∈ lw_g := lg_0 (i := 44) (by decide +kernel) rfl
theorem imX10_isAsked : Cond.instanceMethod yX10_isAsked ∈ lw_g := lg_7 (i := 4) (by decide +kernel) rfl
theorem seX10_isAsked : Cond.selects RX10 yX10_isAsked yX10_isAsked ∈ lw_g := lg_0 (i := 43) (by decide +kernel) rfl
theorem imX10_wordOf : Cond.instanceMethod yX10_wordOf ∈ lw_g := lg_7 (i := 34) (by decide +kernel) rfl
theorem seX10_wordOf : Cond.selects RX10 yX10_wordOf yX10_wordOf ∈ lw_g := lg_0 (i := 49) (by decide +kernel) rfl
theorem imX10_length_ : Cond.instanceMethod yX10_length_ ∈ lw_g := lg_6 (i := 239) (by decide +kernel) rfl
theorem seX10_length_ : Cond.selects RX10 yX10_length_ yX10_length_ ∈ lw_g := lg_7 (i := 0) (by decide +kernel) rfl
theorem smX9_soundIn : Cond.static yX9_soundIn ∈ lw_g := lg_4 (i := 109) (by decide +kernel) rfl
theorem imX9_soundAt : Cond.instanceMethod yX9_soundAt ∈ lw_g := lg_4 (i := 105) (by decide +kernel) rfl
theorem seX9_soundAt : Cond.selects RX9 yX9_soundAt yX9_soundAt ∈ lw_g := lg_4 (i := 106) (by decide +kernel) rfl
theorem smL_soundAt : Cond.static yL_soundAt ∈ lw_g := lg_4 (i := 102) (by decide +kernel) rfl
theorem imX10_soundAt : Cond.instanceMethod yX10_soundAt ∈ lw_g := lg_7 (i := 37) (by decide +kernel) rfl
theorem seX10_soundAt : Cond.selects RX10 yX10_soundAt yX10_soundAt ∈ lw_g := lg_7 (i := 38) (by decide +kernel) rfl
theorem imX4_originOf : Cond.instanceMethod yX4_originOf ∈ lw_g := lg_2 (i := 235) (by decide +kernel) rfl
theorem seX4_originOf : Cond.selects RX4 yX4_originOf yX4_originOf ∈ lw_g := lg_2 (i := 236) (by decide +kernel) rfl
theorem imX9_origin : Cond.instanceMethod yX9_origin ∈ lw_g := lg_4 (i := 115) (by decide +kernel) rfl
theorem seX9_origin : Cond.selects RX9 yX9_origin yX9_origin ∈ lw_g := lg_4 (i := 116) (by decide +kernel) rfl
theorem smL_origin : Cond.static yL_origin ∈ lw_g := lg_4 (i := 112) (by decide +kernel) rfl
theorem imX10_hasWord : Cond.instanceMethod yX10_hasWord ∈ lw_g := lg_7 (i := 50) (by decide +kernel) rfl
theorem seX10_hasWord : Cond.selects RX10 yX10_hasWord yX10_hasWord ∈ lw_g := lg_0 (i := 51) (by decide +kernel) rfl
theorem imX10_originOf : Cond.instanceMethod yX10_originOf ∈ lw_g := lg_7 (i := 46) (by decide +kernel) rfl
theorem seX10_originOf : Cond.selects RX10 yX10_originOf yX10_originOf ∈ lw_g := lg_0 (i := 50) (by decide +kernel) rfl
theorem imX10_origin : Cond.instanceMethod yX10_origin ∈ lw_g := lg_7 (i := 41) (by decide +kernel) rfl
theorem seX10_origin : Cond.selects RX10 yX10_origin yX10_origin ∈ lw_g := lg_7 (i := 42) (by decide +kernel) rfl
theorem imX4_changersOf : Cond.instanceMethod yX4_changersOf ∈ lw_g := lg_3 (i := 57) (by decide +kernel) rfl
theorem seX4_changersOf : Cond.selects RX4 yX4_changersOf yX4_changersOf ∈ lw_g := lg_3 (i := 58) (by decide +kernel) rfl
theorem imX9_changedBy : Cond.instanceMethod yX9_changedBy ∈ lw_g := lg_4 (i := 122) (by decide +kernel) rfl
theorem seX9_changedBy : Cond.selects RX9 yX9_changedBy yX9_changedBy ∈ lw_g := lg_4 (i := 123) (by decide +kernel) rfl
theorem smL_changedBy : Cond.static yL_changedBy ∈ lw_g := lg_4 (i := 119) (by decide +kernel) rfl
theorem imX10_changesOf : Cond.instanceMethod yX10_changesOf ∈ lw_g := lg_7 (i := 58) (by decide +kernel) rfl
theorem seX10_changesOf : Cond.selects RX10 yX10_changesOf yX10_changesOf ∈ lw_g := lg_0 (i := 52) (by decide +kernel) rfl
theorem imX10_changedBy : Cond.instanceMethod yX10_changedBy ∈ lw_g := lg_7 (i := 53) (by decide +kernel) rfl
theorem seX10_changedBy : Cond.selects RX10 yX10_changedBy yX10_changedBy ∈ lw_g := lg_7 (i := 54) (by decide +kernel) rfl
theorem imX4_freshenAll : Cond.instanceMethod yX4_freshenAll ∈ lw_g := lg_2 (i := 73) (by decide +kernel) rfl
theorem seX4_freshenAll : Cond.selects RX4 yX4_freshenAll yX4_freshenAll ∈ lw_g := lg_2 (i := 74) (by decide +kernel) rfl
theorem imX9_countWords : Cond.instanceMethod yX9_countWords ∈ lw_g := lg_2 (i := 164) (by decide +kernel) rfl
theorem seX9_countWords : Cond.selects RX9 yX9_countWords yX9_countWords ∈ lw_g := lg_0 (i := 9) (by decide +kernel) rfl
theorem imX9_wealth : Cond.instanceMethod yX9_wealth ∈ lw_g := lg_4 (i := 129) (by decide +kernel) rfl
theorem seX9_wealth : Cond.selects RX9 yX9_wealth yX9_wealth ∈ lw_g := lg_4 (i := 130) (by decide +kernel) rfl
theorem smL_wealth : Cond.static yL_wealth ∈ lw_g := lg_4 (i := 126) (by decide +kernel) rfl
theorem imX10_wealthOf : Cond.instanceMethod yX10_wealthOf ∈ lw_g := lg_7 (i := 66) (by decide +kernel) rfl
theorem seX10_wealthOf : Cond.selects RX10 yX10_wealthOf yX10_wealthOf ∈ lw_g := lg_0 (i := 53) (by decide +kernel) rfl
theorem imX10_wealth : Cond.instanceMethod yX10_wealth ∈ lw_g := lg_7 (i := 61) (by decide +kernel) rfl
theorem seX10_wealth : Cond.selects RX10 yX10_wealth yX10_wealth ∈ lw_g := lg_7 (i := 62) (by decide +kernel) rfl
theorem imX9_countAlike : Cond.instanceMethod yX9_countAlike ∈ lw_g := lg_2 (i := 169) (by decide +kernel) rfl
theorem seX9_countAlike : Cond.selects RX9 yX9_countAlike yX9_countAlike ∈ lw_g := lg_0 (i := 10) (by decide +kernel) rfl
theorem imX9_alike : Cond.instanceMethod yX9_alike ∈ lw_g := lg_4 (i := 136) (by decide +kernel) rfl
theorem seX9_alike : Cond.selects RX9 yX9_alike yX9_alike ∈ lw_g := lg_4 (i := 137) (by decide +kernel) rfl
theorem smL_alike : Cond.static yL_alike ∈ lw_g := lg_4 (i := 133) (by decide +kernel) rfl
theorem imX10_alikeIn : Cond.instanceMethod yX10_alikeIn ∈ lw_g := lg_7 (i := 74) (by decide +kernel) rfl
theorem seX10_alikeIn : Cond.selects RX10 yX10_alikeIn yX10_alikeIn ∈ lw_g := lg_0 (i := 54) (by decide +kernel) rfl
theorem imX10_alike : Cond.instanceMethod yX10_alike ∈ lw_g := lg_7 (i := 69) (by decide +kernel) rfl
theorem seX10_alike : Cond.selects RX10 yX10_alike yX10_alike ∈ lw_g := lg_7 (i := 70) (by decide +kernel) rfl
theorem imX9_collectSounds : Cond.instanceMethod yX9_collectSounds ∈ lw_g := lg_2 (i := 177) (by decide +kernel) rfl
theorem seX9_collectSounds : Cond.selects RX9 yX9_collectSounds yX9_collectSounds ∈ lw_g := lg_0 (i := 11) (by decide +kernel) rfl
theorem imX9_soundsOf : Cond.instanceMethod yX9_soundsOf ∈ lw_g := lg_4 (i := 143) (by decide +kernel) rfl
theorem seX9_soundsOf : Cond.selects RX9 yX9_soundsOf yX9_soundsOf ∈ lw_g := lg_4 (i := 144) (by decide +kernel) rfl
theorem smL_soundsOf : Cond.static yL_soundsOf ∈ lw_g := lg_4 (i := 140) (by decide +kernel) rfl
theorem imX10_soundsIn : Cond.instanceMethod yX10_soundsIn ∈ lw_g := lg_7 (i := 82) (by decide +kernel) rfl
theorem seX10_soundsIn : Cond.selects RX10 yX10_soundsIn yX10_soundsIn ∈ lw_g := lg_0 (i := 55) (by decide +kernel) rfl
theorem imX10_soundsOf : Cond.instanceMethod yX10_soundsOf ∈ lw_g := lg_7 (i := 77) (by decide +kernel) rfl
theorem seX10_soundsOf : Cond.selects RX10 yX10_soundsOf yX10_soundsOf ∈ lw_g := lg_7 (i := 78) (by decide +kernel) rfl
theorem imX4_bothHave : Cond.instanceMethod yX4_bothHave ∈ lw_g := lg_2 (i := 197) (by decide +kernel) rfl
theorem seX4_bothHave : Cond.selects RX4 yX4_bothHave yX4_bothHave ∈ lw_g := lg_2 (i := 198) (by decide +kernel) rfl
theorem smX0_spellOut : Cond.static yX0_spellOut ∈ lw_g := lg_2 (i := 205) (by decide +kernel) rfl
theorem imX0_pairFrom : Cond.instanceMethod yX0_pairFrom ∈ lw_g := lg_2 (i := 216) (by decide +kernel) rfl
theorem seX0_pairFrom : Cond.selects RX0 yX0_pairFrom yX0_pairFrom ∈ lw_g := lg_0 (i := 16) (by decide +kernel) rfl
theorem imX0_leastFrom : Cond.instanceMethod yX0_leastFrom ∈ lw_g := lg_2 (i := 212) (by decide +kernel) rfl
theorem seX0_leastFrom : Cond.selects RX0 yX0_leastFrom yX0_leastFrom ∈ lw_g := lg_0 (i := 15) (by decide +kernel) rfl
theorem imX0_weigh : Cond.instanceMethod yX0_weigh ∈ lw_g := lg_2 (i := 201) (by decide +kernel) rfl
theorem seX0_weigh : Cond.selects RX0 yX0_weigh yX0_weigh ∈ lw_g := lg_2 (i := 202) (by decide +kernel) rfl
theorem imX9_leastCost : Cond.instanceMethod yX9_leastCost ∈ lw_g := lg_2 (i := 192) (by decide +kernel) rfl
theorem seX9_leastCost : Cond.selects RX9 yX9_leastCost yX9_leastCost ∈ lw_g := lg_0 (i := 14) (by decide +kernel) rfl
theorem imX9_cost : Cond.instanceMethod yX9_cost ∈ lw_g := lg_4 (i := 150) (by decide +kernel) rfl
theorem seX9_cost : Cond.selects RX9 yX9_cost yX9_cost ∈ lw_g := lg_4 (i := 151) (by decide +kernel) rfl
theorem smL_cost : Cond.static yL_cost ∈ lw_g := lg_4 (i := 147) (by decide +kernel) rfl
theorem imX10_areAsked : Cond.instanceMethod yX10_areAsked ∈ lw_g := lg_7 (i := 90) (by decide +kernel) rfl
theorem seX10_areAsked : Cond.selects RX10 yX10_areAsked yX10_areAsked ∈ lw_g := lg_0 (i := 56) (by decide +kernel) rfl
theorem smX10_spread : Cond.static yX10_spread ∈ lw_g := lg_7 (i := 101) (by decide +kernel) rfl
theorem imX10_costOf : Cond.instanceMethod yX10_costOf ∈ lw_g := lg_7 (i := 106) (by decide +kernel) rfl
theorem seX10_costOf : Cond.selects RX10 yX10_costOf yX10_costOf ∈ lw_g := lg_0 (i := 59) (by decide +kernel) rfl
theorem imX10_restAt : Cond.instanceMethod yX10_restAt ∈ lw_g := lg_7 (i := 110) (by decide +kernel) rfl
theorem seX10_restAt : Cond.selects RX10 yX10_restAt yX10_restAt ∈ lw_g := lg_0 (i := 60) (by decide +kernel) rfl
theorem imX10_align : Cond.instanceMethod yX10_align ∈ lw_g := lg_7 (i := 98) (by decide +kernel) rfl
theorem seX10_align : Cond.selects RX10 yX10_align yX10_align ∈ lw_g := lg_0 (i := 58) (by decide +kernel) rfl
theorem imX10_costNow : Cond.instanceMethod yX10_costNow ∈ lw_g := lg_7 (i := 94) (by decide +kernel) rfl
theorem seX10_costNow : Cond.selects RX10 yX10_costNow yX10_costNow ∈ lw_g := lg_0 (i := 57) (by decide +kernel) rfl
theorem imX10_cost : Cond.instanceMethod yX10_cost ∈ lw_g := lg_7 (i := 85) (by decide +kernel) rfl
theorem seX10_cost : Cond.selects RX10 yX10_cost yX10_cost ∈ lw_g := lg_7 (i := 86) (by decide +kernel) rfl
theorem imX0_takesPair : Cond.instanceMethod yX0_takesPair ∈ lw_g := lg_3 (i := 18) (by decide +kernel) rfl
theorem seX0_takesPair : Cond.selects RX0 yX0_takesPair yX0_takesPair ∈ lw_g := lg_0 (i := 21) (by decide +kernel) rfl
theorem imX0_takesFirstAlone : Cond.instanceMethod yX0_takesFirstAlone ∈ lw_g := lg_3 (i := 22) (by decide +kernel) rfl
theorem seX0_takesFirstAlone : Cond.selects RX0 yX0_takesFirstAlone yX0_takesFirstAlone ∈ lw_g := lg_0 (i := 22) (by decide +kernel) rfl
theorem imX0_align : Cond.instanceMethod yX0_align ∈ lw_g := lg_3 (i := 12) (by decide +kernel) rfl
theorem seX0_align : Cond.selects RX0 yX0_align yX0_align ∈ lw_g := lg_3 (i := 13) (by decide +kernel) rfl
theorem imX9_layOut : Cond.instanceMethod yX9_layOut ∈ lw_g := lg_4 (i := 162) (by decide +kernel) rfl
theorem seX9_layOut : Cond.selects RX9 yX9_layOut yX9_layOut ∈ lw_g := lg_0 (i := 33) (by decide +kernel) rfl
theorem imX9_columns : Cond.instanceMethod yX9_columns ∈ lw_g := lg_4 (i := 157) (by decide +kernel) rfl
theorem seX9_columns : Cond.selects RX9 yX9_columns yX9_columns ∈ lw_g := lg_4 (i := 158) (by decide +kernel) rfl
theorem smL_columns : Cond.static yL_columns ∈ lw_g := lg_4 (i := 154) (by decide +kernel) rfl
theorem imX10_columnsNow : Cond.instanceMethod yX10_columnsNow ∈ lw_g := lg_7 (i := 119) (by decide +kernel) rfl
theorem seX10_columnsNow : Cond.selects RX10 yX10_columnsNow yX10_columnsNow ∈ lw_g := lg_0 (i := 61) (by decide +kernel) rfl
theorem imX10_columns : Cond.instanceMethod yX10_columns ∈ lw_g := lg_7 (i := 114) (by decide +kernel) rfl
theorem seX10_columns : Cond.selects RX10 yX10_columns yX10_columns ∈ lw_g := lg_7 (i := 115) (by decide +kernel) rfl
theorem imX0_upperAt : Cond.instanceMethod yX0_upperAt ∈ lw_g := lg_3 (i := 29) (by decide +kernel) rfl
theorem seX0_upperAt : Cond.selects RX0 yX0_upperAt yX0_upperAt ∈ lw_g := lg_3 (i := 30) (by decide +kernel) rfl
theorem imX0_lowerAt : Cond.instanceMethod yX0_lowerAt ∈ lw_g := lg_3 (i := 33) (by decide +kernel) rfl
theorem seX0_lowerAt : Cond.selects RX0 yX0_lowerAt yX0_lowerAt ∈ lw_g := lg_3 (i := 34) (by decide +kernel) rfl
theorem imX9_columnAt : Cond.instanceMethod yX9_columnAt ∈ lw_g := lg_4 (i := 168) (by decide +kernel) rfl
theorem seX9_columnAt : Cond.selects RX9 yX9_columnAt yX9_columnAt ∈ lw_g := lg_4 (i := 169) (by decide +kernel) rfl
theorem smL_columnAt : Cond.static yL_columnAt ∈ lw_g := lg_4 (i := 165) (by decide +kernel) rfl
theorem imX10_columnAt : Cond.instanceMethod yX10_columnAt ∈ lw_g := lg_7 (i := 122) (by decide +kernel) rfl
theorem seX10_columnAt : Cond.selects RX10 yX10_columnAt yX10_columnAt ∈ lw_g := lg_7 (i := 123) (by decide +kernel) rfl
theorem smX9_isSoundOrNone : Cond.static yX9_isSoundOrNone ∈ lw_g := lg_4 (i := 179) (by decide +kernel) rfl
theorem smX9_columnSign : Cond.static yX9_columnSign ∈ lw_g := lg_4 (i := 182) (by decide +kernel) rfl
theorem imX7_clear : Cond.instanceMethod yX7_clear ∈ lw_g := lg_3 (i := 3) (by decide +kernel) rfl
theorem seX7_clear : Cond.selects RX7 yX7_clear yX7_clear ∈ lw_g := lg_3 (i := 4) (by decide +kernel) rfl
theorem imX4_areKin : Cond.instanceMethod yX4_areKin ∈ lw_g := lg_2 (i := 231) (by decide +kernel) rfl
theorem seX4_areKin : Cond.selects RX4 yX4_areKin yX4_areKin ∈ lw_g := lg_2 (i := 232) (by decide +kernel) rfl
theorem imX7_add : Cond.instanceMethod yX7_add ∈ lw_g := lg_3 (i := 8) (by decide +kernel) rfl
theorem seX7_add : Cond.selects RX7 yX7_add yX7_add ∈ lw_g := lg_3 (i := 9) (by decide +kernel) rfl
theorem imX9_collectAnswers : Cond.instanceMethod yX9_collectAnswers ∈ lw_g := lg_4 (i := 186) (by decide +kernel) rfl
theorem seX9_collectAnswers : Cond.selects RX9 yX9_collectAnswers yX9_collectAnswers ∈ lw_g := lg_0 (i := 34) (by decide +kernel) rfl
theorem imX7_countOf : Cond.instanceMethod yX7_countOf ∈ lw_g := lg_4 (i := 189) (by decide +kernel) rfl
theorem seX7_countOf : Cond.selects RX7 yX7_countOf yX7_countOf ∈ lw_g := lg_4 (i := 190) (by decide +kernel) rfl
theorem imX9_answers : Cond.instanceMethod yX9_answers ∈ lw_g := lg_4 (i := 175) (by decide +kernel) rfl
theorem seX9_answers : Cond.selects RX9 yX9_answers yX9_answers ∈ lw_g := lg_4 (i := 176) (by decide +kernel) rfl
theorem smL_answers : Cond.static yL_answers ∈ lw_g := lg_4 (i := 172) (by decide +kernel) rfl
theorem imX10_areKin : Cond.instanceMethod yX10_areKin ∈ lw_g := lg_7 (i := 135) (by decide +kernel) rfl
theorem seX10_areKin : Cond.selects RX10 yX10_areKin yX10_areKin ∈ lw_g := lg_0 (i := 63) (by decide +kernel) rfl
theorem imX10_answersNow : Cond.instanceMethod yX10_answersNow ∈ lw_g := lg_7 (i := 131) (by decide +kernel) rfl
theorem seX10_answersNow : Cond.selects RX10 yX10_answersNow yX10_answersNow ∈ lw_g := lg_0 (i := 62) (by decide +kernel) rfl
theorem imX10_answers : Cond.instanceMethod yX10_answers ∈ lw_g := lg_7 (i := 126) (by decide +kernel) rfl
theorem seX10_answers : Cond.selects RX10 yX10_answers yX10_answers ∈ lw_g := lg_7 (i := 127) (by decide +kernel) rfl
theorem imX7_winner : Cond.instanceMethod yX7_winner ∈ lw_g := lg_3 (i := 41) (by decide +kernel) rfl
theorem seX7_winner : Cond.selects RX7 yX7_winner yX7_winner ∈ lw_g := lg_3 (i := 42) (by decide +kernel) rfl
theorem imX9_mainAnswer : Cond.instanceMethod yX9_mainAnswer ∈ lw_g := lg_4 (i := 196) (by decide +kernel) rfl
theorem seX9_mainAnswer : Cond.selects RX9 yX9_mainAnswer yX9_mainAnswer ∈ lw_g := lg_4 (i := 197) (by decide +kernel) rfl
theorem smL_mainAnswer : Cond.static yL_mainAnswer ∈ lw_g := lg_4 (i := 193) (by decide +kernel) rfl
theorem imX10_mainAnswer : Cond.instanceMethod yX10_mainAnswer ∈ lw_g := lg_7 (i := 138) (by decide +kernel) rfl
theorem seX10_mainAnswer : Cond.selects RX10 yX10_mainAnswer yX10_mainAnswer ∈ lw_g := lg_7 (i := 139) (by decide +kernel) rfl
theorem imX9_distanceOf : Cond.instanceMethod yX9_distanceOf ∈ lw_g := lg_2 (i := 188) (by decide +kernel) rfl
theorem seX9_distanceOf : Cond.selects RX9 yX9_distanceOf yX9_distanceOf ∈ lw_g := lg_0 (i := 13) (by decide +kernel) rfl
theorem imX9_far : Cond.instanceMethod yX9_far ∈ lw_g := lg_4 (i := 203) (by decide +kernel) rfl
theorem seX9_far : Cond.selects RX9 yX9_far yX9_far ∈ lw_g := lg_4 (i := 204) (by decide +kernel) rfl
theorem smL_far : Cond.static yL_far ∈ lw_g := lg_4 (i := 200) (by decide +kernel) rfl
theorem imX10_costs : Cond.instanceMethod yX10_costs ∈ lw_g := lg_7 (i := 147) (by decide +kernel) rfl
theorem seX10_costs : Cond.selects RX10 yX10_costs yX10_costs ∈ lw_g := lg_0 (i := 64) (by decide +kernel) rfl
theorem imX10_shared : Cond.instanceMethod yX10_shared ∈ lw_g := lg_7 (i := 156) (by decide +kernel) rfl
theorem seX10_shared : Cond.selects RX10 yX10_shared yX10_shared ∈ lw_g := lg_0 (i := 66) (by decide +kernel) rfl
theorem imX10_farBy : Cond.instanceMethod yX10_farBy ∈ lw_g := lg_7 (i := 151) (by decide +kernel) rfl
theorem seX10_farBy : Cond.selects RX10 yX10_farBy yX10_farBy ∈ lw_g := lg_0 (i := 65) (by decide +kernel) rfl
theorem imX10_far : Cond.instanceMethod yX10_far ∈ lw_g := lg_7 (i := 142) (by decide +kernel) rfl
theorem seX10_far : Cond.selects RX10 yX10_far yX10_far ∈ lw_g := lg_7 (i := 143) (by decide +kernel) rfl
theorem imX9_nearestTo : Cond.instanceMethod yX9_nearestTo ∈ lw_g := lg_2 (i := 183) (by decide +kernel) rfl
theorem seX9_nearestTo : Cond.selects RX9 yX9_nearestTo yX9_nearestTo ∈ lw_g := lg_0 (i := 12) (by decide +kernel) rfl
theorem imX9_nearest : Cond.instanceMethod yX9_nearest ∈ lw_g := lg_4 (i := 210) (by decide +kernel) rfl
theorem seX9_nearest : Cond.selects RX9 yX9_nearest yX9_nearest ∈ lw_g := lg_4 (i := 211) (by decide +kernel) rfl
theorem smL_nearest : Cond.static yL_nearest ∈ lw_g := lg_4 (i := 207) (by decide +kernel) rfl
theorem imX10_nearestBy : Cond.instanceMethod yX10_nearestBy ∈ lw_g := lg_7 (i := 164) (by decide +kernel) rfl
theorem seX10_nearestBy : Cond.selects RX10 yX10_nearestBy yX10_nearestBy ∈ lw_g := lg_0 (i := 67) (by decide +kernel) rfl
theorem imX10_nearest : Cond.instanceMethod yX10_nearest ∈ lw_g := lg_7 (i := 159) (by decide +kernel) rfl
theorem seX10_nearest : Cond.selects RX10 yX10_nearest yX10_nearest ∈ lw_g := lg_7 (i := 160) (by decide +kernel) rfl
theorem imX9_isWitness : Cond.instanceMethod yX9_isWitness ∈ lw_g := lg_2 (i := 228) (by decide +kernel) rfl
theorem seX9_isWitness : Cond.selects RX9 yX9_isWitness yX9_isWitness ∈ lw_g := lg_0 (i := 19) (by decide +kernel) rfl
theorem imX9_openVotes : Cond.instanceMethod yX9_openVotes ∈ lw_g := lg_3 (i := 0) (by decide +kernel) rfl
theorem seX9_openVotes : Cond.selects RX9 yX9_openVotes yX9_openVotes ∈ lw_g := lg_0 (i := 20) (by decide +kernel) rfl
theorem imX9_castVotes : Cond.instanceMethod yX9_castVotes ∈ lw_g := lg_3 (i := 26) (by decide +kernel) rfl
theorem seX9_castVotes : Cond.selects RX9 yX9_castVotes yX9_castVotes ∈ lw_g := lg_0 (i := 23) (by decide +kernel) rfl
theorem imX9_elected : Cond.instanceMethod yX9_elected ∈ lw_g := lg_3 (i := 38) (by decide +kernel) rfl
theorem seX9_elected : Cond.selects RX9 yX9_elected yX9_elected ∈ lw_g := lg_0 (i := 24) (by decide +kernel) rfl
theorem imX9_recall : Cond.instanceMethod yX9_recall ∈ lw_g := lg_2 (i := 224) (by decide +kernel) rfl
theorem seX9_recall : Cond.selects RX9 yX9_recall yX9_recall ∈ lw_g := lg_0 (i := 18) (by decide +kernel) rfl
theorem imX9_recalled : Cond.instanceMethod yX9_recalled ∈ lw_g := lg_4 (i := 217) (by decide +kernel) rfl
theorem seX9_recalled : Cond.selects RX9 yX9_recalled yX9_recalled ∈ lw_g := lg_4 (i := 218) (by decide +kernel) rfl
theorem smL_recalled : Cond.static yL_recalled ∈ lw_g := lg_4 (i := 214) (by decide +kernel) rfl
theorem imX10_recalledNow : Cond.instanceMethod yX10_recalledNow ∈ lw_g := lg_7 (i := 172) (by decide +kernel) rfl
theorem seX10_recalledNow : Cond.selects RX10 yX10_recalledNow yX10_recalledNow ∈ lw_g := lg_0 (i := 68) (by decide +kernel) rfl
theorem imX10_recalled : Cond.instanceMethod yX10_recalled ∈ lw_g := lg_7 (i := 167) (by decide +kernel) rfl
theorem seX10_recalled : Cond.selects RX10 yX10_recalled yX10_recalled ∈ lw_g := lg_7 (i := 168) (by decide +kernel) rfl
theorem imX9_recalledAt : Cond.instanceMethod yX9_recalledAt ∈ lw_g := lg_4 (i := 224) (by decide +kernel) rfl
theorem seX9_recalledAt : Cond.selects RX9 yX9_recalledAt yX9_recalledAt ∈ lw_g := lg_4 (i := 225) (by decide +kernel) rfl
theorem smL_recalledAt : Cond.static yL_recalledAt ∈ lw_g := lg_4 (i := 221) (by decide +kernel) rfl
theorem imX10_recalledAt : Cond.instanceMethod yX10_recalledAt ∈ lw_g := lg_7 (i := 175) (by decide +kernel) rfl
theorem seX10_recalledAt : Cond.selects RX10 yX10_recalledAt yX10_recalledAt ∈ lw_g := lg_7 (i := 176) (by decide +kernel) rfl
theorem imX9_countRecalledWell : Cond.instanceMethod yX9_countRecalledWell ∈ lw_g := lg_2 (i := 220) (by decide +kernel) rfl
theorem seX9_countRecalledWell : Cond.selects RX9 yX9_countRecalledWell yX9_countRecalledWell ∈ lw_g := lg_0 (i := 17) (by decide +kernel) rfl
theorem imX9_recalledWell : Cond.instanceMethod yX9_recalledWell ∈ lw_g := lg_4 (i := 231) (by decide +kernel) rfl
theorem seX9_recalledWell : Cond.selects RX9 yX9_recalledWell yX9_recalledWell ∈ lw_g := lg_4 (i := 232) (by decide +kernel) rfl
theorem smL_recalledWell : Cond.static yL_recalledWell ∈ lw_g := lg_4 (i := 228) (by decide +kernel) rfl
theorem imX10_wellNow : Cond.instanceMethod yX10_wellNow ∈ lw_g := lg_7 (i := 184) (by decide +kernel) rfl
theorem seX10_wellNow : Cond.selects RX10 yX10_wellNow yX10_wellNow ∈ lw_g := lg_0 (i := 69) (by decide +kernel) rfl
theorem imX10_recalledWell : Cond.instanceMethod yX10_recalledWell ∈ lw_g := lg_7 (i := 179) (by decide +kernel) rfl
theorem seX10_recalledWell : Cond.selects RX10 yX10_recalledWell yX10_recalledWell ∈ lw_g := lg_7 (i := 180) (by decide +kernel) rfl
theorem imX9_isLaw : Cond.instanceMethod yX9_isLaw ∈ lw_g := lg_5 (i := 3) (by decide +kernel) rfl
theorem seX9_isLaw : Cond.selects RX9 yX9_isLaw yX9_isLaw ∈ lw_g := lg_0 (i := 35) (by decide +kernel) rfl
theorem imX2_lackingLaw : Cond.instanceMethod yX2_lackingLaw ∈ lw_g := lg_5 (i := 10) (by decide +kernel) rfl
theorem seX2_lackingLaw : Cond.selects RX2 yX2_lackingLaw yX2_lackingLaw ∈ lw_g := lg_5 (i := 11) (by decide +kernel) rfl
theorem imJx4a65c_rangeCheckForAdd_d00df : Cond.instanceMethod yJx4a65c_rangeCheckForAdd_d00df ∈ lw_g := lg_5 (i := 25) (by decide +kernel) rfl
theorem seJx4a65c_rangeCheckForAdd_d00df : Cond.selects RJx4a65c yJx4a65c_rangeCheckForAdd_d00df yJx4a65c_rangeCheckForAdd_d00df ∈ lw_g := lg_0 (i := 36) (by decide +kernel) rfl
theorem imJx4a65c_add_7a177 : Cond.instanceMethod yJx4a65c_add_7a177 ∈ lw_g := lg_5 (i := 20) (by decide +kernel) rfl
theorem seJx4a65c_add_7a177 : Cond.selects RJx4a65c yJx4a65c_add_7a177 yJx4a65c_add_7a177 ∈ lw_g := lg_5 (i := 21) (by decide +kernel) rfl
theorem imX2_swappingLaw : Cond.instanceMethod yX2_swappingLaw ∈ lw_g := lg_5 (i := 6) (by decide +kernel) rfl
theorem seX2_swappingLaw : Cond.selects RX2 yX2_swappingLaw yX2_swappingLaw ∈ lw_g := lg_5 (i := 7) (by decide +kernel) rfl
theorem imX1_replacing : Cond.instanceMethod yX1_replacing ∈ lw_g := lg_6 (i := 29) (by decide +kernel) rfl
theorem seX1_replacing : Cond.selects RX1 yX1_replacing yX1_replacing ∈ lw_g := lg_6 (i := 30) (by decide +kernel) rfl
theorem imX4_tellOf : Cond.instanceMethod yX4_tellOf ∈ lw_g := lg_6 (i := 41) (by decide +kernel) rfl
theorem seX4_tellOf : Cond.selects RX4 yX4_tellOf yX4_tellOf ∈ lw_g := lg_6 (i := 42) (by decide +kernel) rfl
theorem imX9_suppose : Cond.instanceMethod yX9_suppose ∈ lw_g := lg_6 (i := 26) (by decide +kernel) rfl
theorem seX9_suppose : Cond.selects RX9 yX9_suppose yX9_suppose ∈ lw_g := lg_0 (i := 38) (by decide +kernel) rfl
theorem imX9_differs : Cond.instanceMethod yX9_differs ∈ lw_g := lg_3 (i := 62) (by decide +kernel) rfl
theorem seX9_differs : Cond.selects RX9 yX9_differs yX9_differs ∈ lw_g := lg_0 (i := 26) (by decide +kernel) rfl
theorem imX9_countDifferent : Cond.instanceMethod yX9_countDifferent ∈ lw_g := lg_6 (i := 46) (by decide +kernel) rfl
theorem seX9_countDifferent : Cond.selects RX9 yX9_countDifferent yX9_countDifferent ∈ lw_g := lg_0 (i := 39) (by decide +kernel) rfl
theorem imX9_swapped : Cond.instanceMethod yX9_swapped ∈ lw_g := lg_4 (i := 238) (by decide +kernel) rfl
theorem seX9_swapped : Cond.selects RX9 yX9_swapped yX9_swapped ∈ lw_g := lg_4 (i := 239) (by decide +kernel) rfl
theorem smL_swapped : Cond.static yL_swapped ∈ lw_g := lg_4 (i := 235) (by decide +kernel) rfl
theorem imX10_told : Cond.instanceMethod yX10_told ∈ lw_g := lg_7 (i := 192) (by decide +kernel) rfl
theorem seX10_told : Cond.selects RX10 yX10_told yX10_told ∈ lw_g := lg_0 (i := 70) (by decide +kernel) rfl
theorem smX10_swap : Cond.static yX10_swap ∈ lw_g := lg_7 (i := 200) (by decide +kernel) rfl
theorem imX10_swapLaws : Cond.instanceMethod yX10_swapLaws ∈ lw_g := lg_7 (i := 197) (by decide +kernel) rfl
theorem seX10_swapLaws : Cond.selects RX10 yX10_swapLaws yX10_swapLaws ∈ lw_g := lg_0 (i := 71) (by decide +kernel) rfl
theorem imX10_unlike : Cond.instanceMethod yX10_unlike ∈ lw_g := lg_7 (i := 204) (by decide +kernel) rfl
theorem seX10_unlike : Cond.selects RX10 yX10_unlike yX10_unlike ∈ lw_g := lg_0 (i := 72) (by decide +kernel) rfl
theorem imX10_swapped : Cond.instanceMethod yX10_swapped ∈ lw_g := lg_7 (i := 187) (by decide +kernel) rfl
theorem seX10_swapped : Cond.selects RX10 yX10_swapped yX10_swapped ∈ lw_g := lg_7 (i := 188) (by decide +kernel) rfl
theorem imX9_without : Cond.instanceMethod yX9_without ∈ lw_g := lg_6 (i := 52) (by decide +kernel) rfl
theorem seX9_without : Cond.selects RX9 yX9_without yX9_without ∈ lw_g := lg_6 (i := 53) (by decide +kernel) rfl
theorem smL_without : Cond.static yL_without ∈ lw_g := lg_6 (i := 49) (by decide +kernel) rfl
theorem imX10_without : Cond.instanceMethod yX10_without ∈ lw_g := lg_7 (i := 207) (by decide +kernel) rfl
theorem seX10_without : Cond.selects RX10 yX10_without yX10_without ∈ lw_g := lg_7 (i := 208) (by decide +kernel) rfl
theorem imX1_lackingLoan : Cond.instanceMethod yX1_lackingLoan ∈ lw_g := lg_6 (i := 64) (by decide +kernel) rfl
theorem seX1_lackingLoan : Cond.selects RX1 yX1_lackingLoan yX1_lackingLoan ∈ lw_g := lg_6 (i := 65) (by decide +kernel) rfl
theorem imX9_withoutLoan : Cond.instanceMethod yX9_withoutLoan ∈ lw_g := lg_6 (i := 60) (by decide +kernel) rfl
theorem seX9_withoutLoan : Cond.selects RX9 yX9_withoutLoan yX9_withoutLoan ∈ lw_g := lg_6 (i := 61) (by decide +kernel) rfl
theorem smL_withoutLoan : Cond.static yL_withoutLoan ∈ lw_g := lg_6 (i := 57) (by decide +kernel) rfl
theorem imX10_withoutLoan : Cond.instanceMethod yX10_withoutLoan ∈ lw_g := lg_7 (i := 211) (by decide +kernel) rfl
theorem seX10_withoutLoan : Cond.selects RX10 yX10_withoutLoan yX10_withoutLoan ∈ lw_g := lg_7 (i := 212) (by decide +kernel) rfl
theorem imX9_looksLent : Cond.instanceMethod yX9_looksLent ∈ lw_g := lg_6 (i := 72) (by decide +kernel) rfl
theorem seX9_looksLent : Cond.selects RX9 yX9_looksLent yX9_looksLent ∈ lw_g := lg_6 (i := 73) (by decide +kernel) rfl
theorem smL_looksLent : Cond.static yL_looksLent ∈ lw_g := lg_6 (i := 69) (by decide +kernel) rfl
theorem imX10_unlent : Cond.instanceMethod yX10_unlent ∈ lw_g := lg_7 (i := 220) (by decide +kernel) rfl
theorem seX10_unlent : Cond.selects RX10 yX10_unlent yX10_unlent ∈ lw_g := lg_0 (i := 73) (by decide +kernel) rfl
theorem imX10_looksLent : Cond.instanceMethod yX10_looksLent ∈ lw_g := lg_7 (i := 215) (by decide +kernel) rfl
theorem seX10_looksLent : Cond.selects RX10 yX10_looksLent yX10_looksLent ∈ lw_g := lg_7 (i := 216) (by decide +kernel) rfl
theorem smX9_mixed : Cond.static yX9_mixed ∈ lw_g := lg_2 (i := 154) (by decide +kernel) rfl
theorem smX9_mixSounds : Cond.static yX9_mixSounds ∈ lw_g := lg_3 (i := 53) (by decide +kernel) rfl
theorem imX9_mixWord : Cond.instanceMethod yX9_mixWord ∈ lw_g := lg_3 (i := 50) (by decide +kernel) rfl
theorem seX9_mixWord : Cond.selects RX9 yX9_mixWord yX9_mixWord ∈ lw_g := lg_0 (i := 25) (by decide +kernel) rfl
theorem imX9_mixCosts : Cond.instanceMethod yX9_mixCosts ∈ lw_g := lg_3 (i := 66) (by decide +kernel) rfl
theorem seX9_mixCosts : Cond.selects RX9 yX9_mixCosts yX9_mixCosts ∈ lw_g := lg_0 (i := 27) (by decide +kernel) rfl
theorem imX9_digest : Cond.instanceMethod yX9_digest ∈ lw_g := lg_2 (i := 69) (by decide +kernel) rfl
theorem seX9_digest : Cond.selects RX9 yX9_digest yX9_digest ∈ lw_g := lg_2 (i := 70) (by decide +kernel) rfl
theorem imX10_digest : Cond.instanceMethod yX10_digest ∈ lw_g := lg_7 (i := 223) (by decide +kernel) rfl
theorem seX10_digest : Cond.selects RX10 yX10_digest yX10_digest ∈ lw_g := lg_7 (i := 224) (by decide +kernel) rfl
end
section
/-! ===== blocks and calls (by program) ===== -/
def cont (g : Gp) (M : MD) (pc : Nat) (L rest : List AV) (u : Nat × Nat) (Q : PQ) : PQ := fun r h' => match r with
  | .inl v => Ex g M pc L (v.toList ++ rest) h' u Q
  | .inr k => Q (.inr k) h'
theorem Ex.bud {g : Gp} {M : MD} {pc : Nat} {L st : List AV} {h : AH} {u : Nat × Nat} {Q : PQ} (k : u.1 ≤ mC M → u.2 ≤ mS M → Ex g M pc L st h u Q) : Ex g M pc L st h u Q :=
  fun p l e s m args below meth c H locs ls hC hR hS hL hl h1 h2 => k h1 h2 p l e s m args below meth c H locs ls hC hR hS hL hl h1 h2

theorem nJ7_fill_53178 {g : Gp} {h : AH} {Q : PQ} {i1 : Nat} {i2 : Int32} (k : Ex g mJ7_fill_53178 0 [vR i1, vI i2, vU, vU] [] h (0, 0) Q) : Ev g mJ7_fill_53178 [vR i1, vI i2] h Q := Ev.of (by decide +kernel) rfl (Nat.le_of_ble_eq_true rfl) k
theorem qJ7_fill_53178 : mR mJ7_fill_53178 = none := rfl
def bJ7_fill_53178_0 : List OP := [(.iconst 0, 1, (0, 0, 0), vI 0), (.istore_n 2, 1, (2, 0, 0), vU), (.aload_n 0, 1, (0, 0, 0), vU), (.arraylength, 1, (0, 0, 0), vU), (.istore_n 3, 1, (3, 0, 0), vU)]
theorem oJ7_fill_53178_0 : okAt mJ7_fill_53178 bJ7_fill_53178_0 0 = true := by decide +kernel
theorem rJ7_fill_53178_0 {g : Gp} {Q : PQ} {L st : List AV} {h : AH} {u : Nat × Nat} (hr : run mJ7_fill_53178 Q (fun pc L st h u => Ex g mJ7_fill_53178 pc L st h u Q) bJ7_fill_53178_0 0 L st h u) : Ex g mJ7_fill_53178 0 L st h u Q := run_ok (M := mJ7_fill_53178) cfJ7_ok (fun _ _ _ _ _ k => k) _ _ _ _ _ _ oJ7_fill_53178_0 hr
def bJ7_fill_53178_5 : List OP := [(.iload_n 2, 1, (2, 0, 0), vU), (.iload_n 3, 1, (3, 0, 0), vU), (.if_icmp .ge 13, 3, (20, 0, 0), vU), (.aload_n 0, 1, (0, 0, 0), vU), (.iload_n 2, 1, (2, 0, 0), vU), (.iload_n 1, 1, (1, 0, 0), vU), (.iastore, 1, (0, 0, 0), vU), (.iinc 2 1, 3, (2, 0, 0), vI 1), (.goto (-12), 3, (5, 0, 0), vU)]
theorem oJ7_fill_53178_5 : okAt mJ7_fill_53178 bJ7_fill_53178_5 5 = true := by decide +kernel
theorem rJ7_fill_53178_5 {g : Gp} {Q : PQ} {L st : List AV} {h : AH} {u : Nat × Nat} (hr : run mJ7_fill_53178 Q (fun pc L st h u => Ex g mJ7_fill_53178 pc L st h u Q) bJ7_fill_53178_5 5 L st h u) : Ex g mJ7_fill_53178 5 L st h u Q := run_ok (M := mJ7_fill_53178) cfJ7_ok (fun _ _ _ _ _ k => k) _ _ _ _ _ _ oJ7_fill_53178_5 hr
def bJ7_fill_53178_20 : List OP := [(.return_, 1, (0, 0, 0), vU)]
theorem oJ7_fill_53178_20 : okAt mJ7_fill_53178 bJ7_fill_53178_20 20 = true := by decide +kernel
theorem rJ7_fill_53178_20 {g : Gp} {Q : PQ} {L st : List AV} {h : AH} {u : Nat × Nat} (hr : run mJ7_fill_53178 Q (fun pc L st h u => Ex g mJ7_fill_53178 pc L st h u Q) bJ7_fill_53178_20 20 L st h u) : Ex g mJ7_fill_53178 20 L st h u Q := run_ok (M := mJ7_fill_53178) cfJ7_ok (fun _ _ _ _ _ k => k) _ _ _ _ _ _ oJ7_fill_53178_20 hr
theorem nX6_init {g : Gp} {h : AH} {Q : PQ} {x : Nat} (k : Ex g mX6_init 0 [vR x, vU] [] h (0, 0) Q) : Ev g mX6_init [vR x] h Q := Ev.of (by decide +kernel) rfl (Nat.le_of_ble_eq_true rfl) k
theorem qX6_init : mR mX6_init = none := rfl
theorem qCX6_init : mC mX6_init = 18 := rfl
theorem qSX6_init : mS mX6_init = 288 := rfl
def bX6_init_0 : List OP := [(.aload_n 0, 1, (0, 0, 0), vU)]
theorem oX6_init_0 : okAt mX6_init bX6_init_0 0 = true := by decide +kernel
theorem rX6_init_0 {g : Gp} {Q : PQ} {L st : List AV} {h : AH} {u : Nat × Nat} (hr : run mX6_init Q (fun pc L st h u => Ex g mX6_init pc L st h u Q) bX6_init_0 0 L st h u) : Ex g mX6_init 0 L st h u Q := run_ok (M := mX6_init) cfX6_ok (fun _ _ _ _ _ k => k) _ _ _ _ _ _ oX6_init_0 hr
def bX6_init_4 : List OP := [(.aload_n 0, 1, (0, 0, 0), vU), (.bipush 16, 2, (0, 0, 0), vI 16), (.newarray .int, 2, (2, 0, 0), vU), (.putfield 9, 3, (7, 0, 2), vU), (.aload_n 0, 1, (0, 0, 0), vU), (.bipush 16, 2, (0, 0, 0), vI 16), (.bipush 16, 2, (0, 0, 0), vI 16)]
theorem oX6_init_4 : okAt mX6_init bX6_init_4 4 = true := by decide +kernel
theorem rX6_init_4 {g : Gp} {Q : PQ} {L st : List AV} {h : AH} {u : Nat × Nat} (hr : run mX6_init Q (fun pc L st h u => Ex g mX6_init pc L st h u Q) bX6_init_4 4 L st h u) : Ex g mX6_init 4 L st h u Q := run_ok (M := mX6_init) cfX6_ok (fun _ _ _ _ _ k => k) _ _ _ _ _ _ oX6_init_4 hr
def bX6_init_21 : List OP := [(.putfield 17, 3, (7, 1, 2), vU), (.iconst 0, 1, (0, 0, 0), vI 0), (.istore_n 1, 1, (1, 0, 0), vU)]
theorem oX6_init_21 : okAt mX6_init bX6_init_21 21 = true := by decide +kernel
theorem rX6_init_21 {g : Gp} {Q : PQ} {L st : List AV} {h : AH} {u : Nat × Nat} (hr : run mX6_init Q (fun pc L st h u => Ex g mX6_init pc L st h u Q) bX6_init_21 21 L st h u) : Ex g mX6_init 21 L st h u Q := run_ok (M := mX6_init) cfX6_ok (fun _ _ _ _ _ k => k) _ _ _ _ _ _ oX6_init_21 hr
def bX6_init_26 : List OP := [(.iload_n 1, 1, (1, 0, 0), vU), (.bipush 16, 2, (0, 0, 0), vI 16), (.if_icmp .ge 28, 3, (57, 0, 0), vU), (.aload_n 0, 1, (0, 0, 0), vU), (.getfield 17, 3, (7, 1, 2), vU), (.iload_n 1, 1, (1, 0, 0), vU), (.aaload, 1, (0, 0, 0), vU), (.iconst 1, 1, (0, 0, 0), vI 1)]
theorem oX6_init_26 : okAt mX6_init bX6_init_26 26 = true := by decide +kernel
theorem rX6_init_26 {g : Gp} {Q : PQ} {L st : List AV} {h : AH} {u : Nat × Nat} (hr : run mX6_init Q (fun pc L st h u => Ex g mX6_init pc L st h u Q) bX6_init_26 26 L st h u) : Ex g mX6_init 26 L st h u Q := run_ok (M := mX6_init) cfX6_ok (fun _ _ _ _ _ k => k) _ _ _ _ _ _ oX6_init_26 hr
def bX6_init_42 : List OP := [(.aload_n 0, 1, (0, 0, 0), vU), (.getfield 17, 3, (7, 1, 2), vU), (.iload_n 1, 1, (1, 0, 0), vU), (.aaload, 1, (0, 0, 0), vU), (.iload_n 1, 1, (1, 0, 0), vU), (.iconst 0, 1, (0, 0, 0), vI 0), (.iastore, 1, (0, 0, 0), vU), (.iinc 1 1, 3, (1, 0, 0), vI 1), (.goto (-28), 3, (26, 0, 0), vU)]
theorem oX6_init_42 : okAt mX6_init bX6_init_42 42 = true := by decide +kernel
theorem rX6_init_42 {g : Gp} {Q : PQ} {L st : List AV} {h : AH} {u : Nat × Nat} (hr : run mX6_init Q (fun pc L st h u => Ex g mX6_init pc L st h u Q) bX6_init_42 42 L st h u) : Ex g mX6_init 42 L st h u Q := run_ok (M := mX6_init) cfX6_ok (fun _ _ _ _ _ k => k) _ _ _ _ _ _ oX6_init_42 hr
def bX6_init_57 : List OP := [(.return_, 1, (0, 0, 0), vU)]
theorem oX6_init_57 : okAt mX6_init bX6_init_57 57 = true := by decide +kernel
theorem rX6_init_57 {g : Gp} {Q : PQ} {L st : List AV} {h : AH} {u : Nat × Nat} (hr : run mX6_init Q (fun pc L st h u => Ex g mX6_init pc L st h u Q) bX6_init_57 57 L st h u) : Ex g mX6_init 57 L st h u Q := run_ok (M := mX6_init) cfX6_ok (fun _ _ _ _ _ k => k) _ _ _ _ _ _ oX6_init_57 hr
theorem sX6_init_1 {g : Gp} {L rest : List AV} {h : AH} {u : Nat × Nat} {Q : PQ} {x : Nat} (hx : x ≠ 0) (k : Ex g mX6_init 4 L rest h u Q) (hr : rest.length ≤ 4 := by exact Nat.le_of_ble_eq_true rfl) : Ex g mX6_init 1 L (vR x :: rest) h u Q := x_objInit lkX6_3 (lg_1 (i := 40) (by decide +kernel) rfl) (lg_1 (i := 41) (by decide +kernel) rfl) hx (by decide) hr (by decide +kernel) k
theorem sX6_init_39 {g : Gp} {L rest : List AV} {h : AH} {u : Nat × Nat} {Q : PQ} {a1 a2 : AV}  (ev : Ev g mJ7_fill_53178 [a1, a2] h (cont g mX6_init 42 L rest u Q)) (hr : rest.length ≤ 4 := by exact Nat.le_of_ble_eq_true rfl) : Ex g mX6_init 39 L (a2 :: a1 :: rest) h u Q := Ex.bud (fun w1 w2 => Ex.callS (av := [a1, a2]) rfl mJ7_fill_53178_ok rfl lkX6_20 smJ7_fill_53178 (by decide) w1 w2 hr (by decide +kernel) ev (fun _ _ k => k) (fun _ _ z => z))
theorem nJxa1e45_init_da8c8 {g : Gp} {h : AH} {Q : PQ} {x : Nat} (k : Ex g mJxa1e45_init_da8c8 0 [vR x] [] h (0, 0) Q) : Ev g mJxa1e45_init_da8c8 [vR x] h Q := Ev.of (by decide +kernel) rfl (Nat.le_of_ble_eq_true rfl) k
theorem qJxa1e45_init_da8c8 : mR mJxa1e45_init_da8c8 = none := rfl
def bJxa1e45_init_da8c8_0 : List OP := [(.aload_n 0, 1, (0, 0, 0), vU)]
theorem oJxa1e45_init_da8c8_0 : okAt mJxa1e45_init_da8c8 bJxa1e45_init_da8c8_0 0 = true := by decide +kernel
theorem rJxa1e45_init_da8c8_0 {g : Gp} {Q : PQ} {L st : List AV} {h : AH} {u : Nat × Nat} (hr : run mJxa1e45_init_da8c8 Q (fun pc L st h u => Ex g mJxa1e45_init_da8c8 pc L st h u Q) bJxa1e45_init_da8c8_0 0 L st h u) : Ex g mJxa1e45_init_da8c8 0 L st h u Q := run_ok (M := mJxa1e45_init_da8c8) cfJxa1e45_ok (fun _ _ _ _ _ k => k) _ _ _ _ _ _ oJxa1e45_init_da8c8_0 hr
def bJxa1e45_init_da8c8_4 : List OP := [(.return_, 1, (0, 0, 0), vU)]
theorem oJxa1e45_init_da8c8_4 : okAt mJxa1e45_init_da8c8 bJxa1e45_init_da8c8_4 4 = true := by decide +kernel
theorem rJxa1e45_init_da8c8_4 {g : Gp} {Q : PQ} {L st : List AV} {h : AH} {u : Nat × Nat} (hr : run mJxa1e45_init_da8c8 Q (fun pc L st h u => Ex g mJxa1e45_init_da8c8 pc L st h u Q) bJxa1e45_init_da8c8_4 4 L st h u) : Ex g mJxa1e45_init_da8c8 4 L st h u Q := run_ok (M := mJxa1e45_init_da8c8) cfJxa1e45_ok (fun _ _ _ _ _ k => k) _ _ _ _ _ _ oJxa1e45_init_da8c8_4 hr
theorem sJxa1e45_init_da8c8_1 {g : Gp} {L rest : List AV} {h : AH} {u : Nat × Nat} {Q : PQ} {x : Nat} (hx : x ≠ 0) (k : Ex g mJxa1e45_init_da8c8 4 L rest h u Q) (hr : rest.length ≤ 4 := by exact Nat.le_of_ble_eq_true rfl) : Ex g mJxa1e45_init_da8c8 1 L (vR x :: rest) h u Q := x_objInit lkJxa1e45_1 (lg_1 (i := 40) (by decide +kernel) rfl) (lg_1 (i := 41) (by decide +kernel) rfl) hx (by decide) hr (by decide +kernel) k
theorem nJxc12de_init_da8c8 {g : Gp} {h : AH} {Q : PQ} {x : Nat} (k : Ex g mJxc12de_init_da8c8 0 [vR x] [] h (0, 0) Q) : Ev g mJxc12de_init_da8c8 [vR x] h Q := Ev.of (by decide +kernel) rfl (Nat.le_of_ble_eq_true rfl) k
theorem qJxc12de_init_da8c8 : mR mJxc12de_init_da8c8 = none := rfl
def bJxc12de_init_da8c8_0 : List OP := [(.aload_n 0, 1, (0, 0, 0), vU)]
theorem oJxc12de_init_da8c8_0 : okAt mJxc12de_init_da8c8 bJxc12de_init_da8c8_0 0 = true := by decide +kernel
theorem rJxc12de_init_da8c8_0 {g : Gp} {Q : PQ} {L st : List AV} {h : AH} {u : Nat × Nat} (hr : run mJxc12de_init_da8c8 Q (fun pc L st h u => Ex g mJxc12de_init_da8c8 pc L st h u Q) bJxc12de_init_da8c8_0 0 L st h u) : Ex g mJxc12de_init_da8c8 0 L st h u Q := run_ok (M := mJxc12de_init_da8c8) cfJxc12de_ok (fun _ _ _ _ _ k => k) _ _ _ _ _ _ oJxc12de_init_da8c8_0 hr
def bJxc12de_init_da8c8_4 : List OP := [(.aload_n 0, 1, (0, 0, 0), vU), (.iconst 0, 1, (0, 0, 0), vI 0), (.putfield 7, 3, (0, 0, 0), vU), (.return_, 1, (0, 0, 0), vU)]
theorem oJxc12de_init_da8c8_4 : okAt mJxc12de_init_da8c8 bJxc12de_init_da8c8_4 4 = true := by decide +kernel
theorem rJxc12de_init_da8c8_4 {g : Gp} {Q : PQ} {L st : List AV} {h : AH} {u : Nat × Nat} (hr : run mJxc12de_init_da8c8 Q (fun pc L st h u => Ex g mJxc12de_init_da8c8 pc L st h u Q) bJxc12de_init_da8c8_4 4 L st h u) : Ex g mJxc12de_init_da8c8 4 L st h u Q := run_ok (M := mJxc12de_init_da8c8) cfJxc12de_ok (fun _ _ _ _ _ k => k) _ _ _ _ _ _ oJxc12de_init_da8c8_4 hr
theorem sJxc12de_init_da8c8_1 {g : Gp} {L rest : List AV} {h : AH} {u : Nat × Nat} {Q : PQ} {x : Nat}   (hx : x ≠ 0) (ev : Ev g mJxa1e45_init_da8c8 (vR x :: []) h (cont g mJxc12de_init_da8c8 4 L rest u Q)) (hr : rest.length ≤ 4 := by exact Nat.le_of_ble_eq_true rfl) : Ex g mJxc12de_init_da8c8 1 L (vR x :: rest) h u Q := Ex.bud (fun w1 w2 => Ex.callI (av := []) rfl mJxa1e45_init_da8c8_ok rfl rfl rfl lkJxc12de_1 imJxa1e45_init_da8c8 hx (by decide) w1 w2 hr (by decide +kernel) ev (fun _ _ k => k) (fun _ _ z => z))
theorem nJx4a65c_init_da8c8 {g : Gp} {h : AH} {Q : PQ} {x : Nat} (k : Ex g mJx4a65c_init_da8c8 0 [vR x] [] h (0, 0) Q) : Ev g mJx4a65c_init_da8c8 [vR x] h Q := Ev.of (by decide +kernel) rfl (Nat.le_of_ble_eq_true rfl) k
theorem qJx4a65c_init_da8c8 : mR mJx4a65c_init_da8c8 = none := rfl
def bJx4a65c_init_da8c8_0 : List OP := [(.aload_n 0, 1, (0, 0, 0), vU)]
theorem oJx4a65c_init_da8c8_0 : okAt mJx4a65c_init_da8c8 bJx4a65c_init_da8c8_0 0 = true := by decide +kernel
theorem rJx4a65c_init_da8c8_0 {g : Gp} {Q : PQ} {L st : List AV} {h : AH} {u : Nat × Nat} (hr : run mJx4a65c_init_da8c8 Q (fun pc L st h u => Ex g mJx4a65c_init_da8c8 pc L st h u Q) bJx4a65c_init_da8c8_0 0 L st h u) : Ex g mJx4a65c_init_da8c8 0 L st h u Q := run_ok (M := mJx4a65c_init_da8c8) cfJx4a65c_ok (fun _ _ _ _ _ k => k) _ _ _ _ _ _ oJx4a65c_init_da8c8_0 hr
def bJx4a65c_init_da8c8_4 : List OP := [(.aload_n 0, 1, (0, 0, 0), vU)]
theorem oJx4a65c_init_da8c8_4 : okAt mJx4a65c_init_da8c8 bJx4a65c_init_da8c8_4 4 = true := by decide +kernel
theorem rJx4a65c_init_da8c8_4 {g : Gp} {Q : PQ} {L st : List AV} {h : AH} {u : Nat × Nat} (hr : run mJx4a65c_init_da8c8 Q (fun pc L st h u => Ex g mJx4a65c_init_da8c8 pc L st h u Q) bJx4a65c_init_da8c8_4 4 L st h u) : Ex g mJx4a65c_init_da8c8 4 L st h u Q := run_ok (M := mJx4a65c_init_da8c8) cfJx4a65c_ok (fun _ _ _ _ _ k => k) _ _ _ _ _ _ oJx4a65c_init_da8c8_4 hr
def bJx4a65c_init_da8c8_8 : List OP := [(.putfield 9, 3, (0, 1, 2), vU), (.return_, 1, (0, 0, 0), vU)]
theorem oJx4a65c_init_da8c8_8 : okAt mJx4a65c_init_da8c8 bJx4a65c_init_da8c8_8 8 = true := by decide +kernel
theorem rJx4a65c_init_da8c8_8 {g : Gp} {Q : PQ} {L st : List AV} {h : AH} {u : Nat × Nat} (hr : run mJx4a65c_init_da8c8 Q (fun pc L st h u => Ex g mJx4a65c_init_da8c8 pc L st h u Q) bJx4a65c_init_da8c8_8 8 L st h u) : Ex g mJx4a65c_init_da8c8 8 L st h u Q := run_ok (M := mJx4a65c_init_da8c8) cfJx4a65c_ok (fun _ _ _ _ _ k => k) _ _ _ _ _ _ oJx4a65c_init_da8c8_8 hr
theorem sJx4a65c_init_da8c8_1 {g : Gp} {L rest : List AV} {h : AH} {u : Nat × Nat} {Q : PQ} {x : Nat}   (hx : x ≠ 0) (ev : Ev g mJxc12de_init_da8c8 (vR x :: []) h (cont g mJx4a65c_init_da8c8 4 L rest u Q)) (hr : rest.length ≤ 4 := by exact Nat.le_of_ble_eq_true rfl) : Ex g mJx4a65c_init_da8c8 1 L (vR x :: rest) h u Q := Ex.bud (fun w1 w2 => Ex.callI (av := []) rfl mJxc12de_init_da8c8_ok rfl rfl rfl lkJx4a65c_1 imJxc12de_init_da8c8 hx (by decide) w1 w2 hr (by decide +kernel) ev (fun _ _ k => k) (fun _ _ z => z))
theorem nX2_init {g : Gp} {h : AH} {Q : PQ} {x : Nat} {i1 : Int32} (k : Ex g mX2_init 0 [vR x, vI i1] [] h (0, 0) Q) : Ev g mX2_init [vR x, vI i1] h Q := Ev.of (by decide +kernel) rfl (Nat.le_of_ble_eq_true rfl) k
theorem qX2_init : mR mX2_init = none := rfl
theorem qCX2_init : mC mX2_init = 1 := rfl
theorem qSX2_init : mS mX2_init = 3 := rfl
def bX2_init_0 : List OP := [(.aload_n 0, 1, (0, 0, 0), vU)]
theorem oX2_init_0 : okAt mX2_init bX2_init_0 0 = true := by decide +kernel
theorem rX2_init_0 {g : Gp} {Q : PQ} {L st : List AV} {h : AH} {u : Nat × Nat} (hr : run mX2_init Q (fun pc L st h u => Ex g mX2_init pc L st h u Q) bX2_init_0 0 L st h u) : Ex g mX2_init 0 L st h u Q := run_ok (M := mX2_init) cfX2_ok (fun _ _ _ _ _ k => k) _ _ _ _ _ _ oX2_init_0 hr
def bX2_init_4 : List OP := [(.aload_n 0, 1, (0, 0, 0), vU), (.new 7, 3, (0, 0, 0), vU), (.dup, 1, (0, 0, 0), vU)]
theorem oX2_init_4 : okAt mX2_init bX2_init_4 4 = true := by decide +kernel
theorem rX2_init_4 {g : Gp} {Q : PQ} {L st : List AV} {h : AH} {u : Nat × Nat} (hr : run mX2_init Q (fun pc L st h u => Ex g mX2_init pc L st h u Q) bX2_init_4 4 L st h u) : Ex g mX2_init 4 L st h u Q := run_ok (M := mX2_init) cfX2_ok (fun _ _ _ _ _ k => k) _ _ _ _ _ _ oX2_init_4 hr
def bX2_init_12 : List OP := [(.putfield 10, 3, (3, 1, 2), vU), (.aload_n 0, 1, (0, 0, 0), vU), (.iload_n 1, 1, (1, 0, 0), vU), (.putfield 16, 3, (3, 0, 0), vU), (.return_, 1, (0, 0, 0), vU)]
theorem oX2_init_12 : okAt mX2_init bX2_init_12 12 = true := by decide +kernel
theorem rX2_init_12 {g : Gp} {Q : PQ} {L st : List AV} {h : AH} {u : Nat × Nat} (hr : run mX2_init Q (fun pc L st h u => Ex g mX2_init pc L st h u Q) bX2_init_12 12 L st h u) : Ex g mX2_init 12 L st h u Q := run_ok (M := mX2_init) cfX2_ok (fun _ _ _ _ _ k => k) _ _ _ _ _ _ oX2_init_12 hr
theorem sX2_init_1 {g : Gp} {L rest : List AV} {h : AH} {u : Nat × Nat} {Q : PQ} {x : Nat} (hx : x ≠ 0) (k : Ex g mX2_init 4 L rest h u Q) (hr : rest.length ≤ 4 := by exact Nat.le_of_ble_eq_true rfl) : Ex g mX2_init 1 L (vR x :: rest) h u Q := x_objInit lkX2_1 (lg_1 (i := 40) (by decide +kernel) rfl) (lg_1 (i := 41) (by decide +kernel) rfl) hx (by decide) hr (by decide +kernel) k
theorem sX2_init_9 {g : Gp} {L rest : List AV} {h : AH} {u : Nat × Nat} {Q : PQ} {x : Nat}   (hx : x ≠ 0) (ev : Ev g mJx4a65c_init_da8c8 (vR x :: []) h (cont g mX2_init 12 L rest u Q)) (hr : rest.length ≤ 4 := by exact Nat.le_of_ble_eq_true rfl) : Ex g mX2_init 9 L (vR x :: rest) h u Q := Ex.bud (fun w1 w2 => Ex.callI (av := []) rfl mJx4a65c_init_da8c8_ok rfl rfl rfl lkX2_9 imJx4a65c_init_da8c8 hx (by decide) w1 w2 hr (by decide +kernel) ev (fun _ _ k => k) (fun _ _ z => z))
theorem nJ8_newLength_cabcc {g : Gp} {h : AH} {Q : PQ} {i1 : Int32} {i2 : Int32} {i3 : Int32} (k : Ex g mJ8_newLength_cabcc 0 [vI i1, vI i2, vI i3, vU] [] h (0, 0) Q) : Ev g mJ8_newLength_cabcc [vI i1, vI i2, vI i3] h Q := Ev.of (by decide +kernel) rfl (Nat.le_of_ble_eq_true rfl) k
theorem qJ8_newLength_cabcc : mR mJ8_newLength_cabcc = (some FieldType.int) := rfl
def bJ8_newLength_cabcc_0 : List OP := [(.iload_n 0, 1, (0, 0, 0), vU), (.iload_n 1, 1, (1, 0, 0), vU), (.iload_n 2, 1, (2, 0, 0), vU)]
theorem oJ8_newLength_cabcc_0 : okAt mJ8_newLength_cabcc bJ8_newLength_cabcc_0 0 = true := by decide +kernel
theorem rJ8_newLength_cabcc_0 {g : Gp} {Q : PQ} {L st : List AV} {h : AH} {u : Nat × Nat} (hr : run mJ8_newLength_cabcc Q (fun pc L st h u => Ex g mJ8_newLength_cabcc pc L st h u Q) bJ8_newLength_cabcc_0 0 L st h u) : Ex g mJ8_newLength_cabcc 0 L st h u Q := run_ok (M := mJ8_newLength_cabcc) cfJ8_ok (fun _ _ _ _ _ k => k) _ _ _ _ _ _ oJ8_newLength_cabcc_0 hr
def bJ8_newLength_cabcc_6 : List OP := [(.iadd, 1, (0, 0, 0), vU), (.istore_n 3, 1, (3, 0, 0), vU), (.iconst 0, 1, (0, 0, 0), vI 0), (.iload_n 3, 1, (3, 0, 0), vU), (.if_icmp .ge 11, 3, (21, 0, 0), vU), (.iload_n 3, 1, (3, 0, 0), vU), (.ldc 200, 2, (0, 0, 0), vI 2147483639), (.if_icmp .gt 5, 3, (21, 0, 0), vU), (.iload_n 3, 1, (3, 0, 0), vU), (.ireturn, 1, (0, 0, 0), vU)]
theorem oJ8_newLength_cabcc_6 : okAt mJ8_newLength_cabcc bJ8_newLength_cabcc_6 6 = true := by decide +kernel
theorem rJ8_newLength_cabcc_6 {g : Gp} {Q : PQ} {L st : List AV} {h : AH} {u : Nat × Nat} (hr : run mJ8_newLength_cabcc Q (fun pc L st h u => Ex g mJ8_newLength_cabcc pc L st h u Q) bJ8_newLength_cabcc_6 6 L st h u) : Ex g mJ8_newLength_cabcc 6 L st h u Q := run_ok (M := mJ8_newLength_cabcc) cfJ8_ok (fun _ _ _ _ _ k => k) _ _ _ _ _ _ oJ8_newLength_cabcc_6 hr
def bJ8_newLength_cabcc_21 : List OP := [(.iload_n 0, 1, (0, 0, 0), vU), (.iload_n 1, 1, (1, 0, 0), vU)]
theorem oJ8_newLength_cabcc_21 : okAt mJ8_newLength_cabcc bJ8_newLength_cabcc_21 21 = true := by decide +kernel
theorem rJ8_newLength_cabcc_21 {g : Gp} {Q : PQ} {L st : List AV} {h : AH} {u : Nat × Nat} (hr : run mJ8_newLength_cabcc Q (fun pc L st h u => Ex g mJ8_newLength_cabcc pc L st h u Q) bJ8_newLength_cabcc_21 21 L st h u) : Ex g mJ8_newLength_cabcc 21 L st h u Q := run_ok (M := mJ8_newLength_cabcc) cfJ8_ok (fun _ _ _ _ _ k => k) _ _ _ _ _ _ oJ8_newLength_cabcc_21 hr
def bJ8_newLength_cabcc_26 : List OP := [(.ireturn, 1, (0, 0, 0), vU)]
theorem oJ8_newLength_cabcc_26 : okAt mJ8_newLength_cabcc bJ8_newLength_cabcc_26 26 = true := by decide +kernel
theorem rJ8_newLength_cabcc_26 {g : Gp} {Q : PQ} {L st : List AV} {h : AH} {u : Nat × Nat} (hr : run mJ8_newLength_cabcc Q (fun pc L st h u => Ex g mJ8_newLength_cabcc pc L st h u Q) bJ8_newLength_cabcc_26 26 L st h u) : Ex g mJ8_newLength_cabcc 26 L st h u Q := run_ok (M := mJ8_newLength_cabcc) cfJ8_ok (fun _ _ _ _ _ k => k) _ _ _ _ _ _ oJ8_newLength_cabcc_26 hr
theorem sJ8_newLength_cabcc_3 {g : Gp} {L rest : List AV} {h : AH} {u : Nat × Nat} {Q : PQ} {a b : Int32} (k : Ex g mJ8_newLength_cabcc 6 L (vI (if a < b then b else a) :: rest) h u Q) (hr : rest.length ≤ 4 := by exact Nat.le_of_ble_eq_true rfl) : Ex g mJ8_newLength_cabcc 3 L (vI b :: vI a :: rest) h u Q := x_mmax lkJ8_194 (lg_1 (i := 131) (by decide +kernel) rfl) (lg_1 (i := 9) (by decide +kernel) rfl) (lg_1 (i := 132) (by decide +kernel) rfl) (by decide) hr (by decide +kernel) k
theorem nJ7_copyOf_6403c {g : Gp} {h : AH} {Q : PQ} {i1 : Nat} {i2 : Int32} {i3 : Nat} (k : Ex g mJ7_copyOf_6403c 0 [vR i1, vI i2, vR i3, vU] [] h (0, 0) Q) : Ev g mJ7_copyOf_6403c [vR i1, vI i2, vR i3] h Q := Ev.of (by decide +kernel) rfl (Nat.le_of_ble_eq_true rfl) k
theorem qJ7_copyOf_6403c : mR mJ7_copyOf_6403c = (some (FieldType.array (FieldType.object "java/lang/Object"))) := rfl
theorem qCJ7_copyOf_6403c : mC mJ7_copyOf_6403c = 1 := rfl
theorem qSJ7_copyOf_6403c : mS mJ7_copyOf_6403c = 15 := rfl
def bJ7_copyOf_6403c_0 : List OP := [(.aload_n 2, 1, (2, 0, 0), vU)]
theorem oJ7_copyOf_6403c_0 : okAt mJ7_copyOf_6403c bJ7_copyOf_6403c_0 0 = true := by decide +kernel
theorem rJ7_copyOf_6403c_0 {g : Gp} {Q : PQ} {L st : List AV} {h : AH} {u : Nat × Nat} (hr : run mJ7_copyOf_6403c Q (fun pc L st h u => Ex g mJ7_copyOf_6403c pc L st h u Q) bJ7_copyOf_6403c_0 0 L st h u) : Ex g mJ7_copyOf_6403c 0 L st h u Q := run_ok (M := mJ7_copyOf_6403c) cfJ7_ok (fun _ _ _ _ _ k => k) _ _ _ _ _ _ oJ7_copyOf_6403c_0 hr
def bJ7_copyOf_6403c_6 : List OP := [(.iload_n 1, 1, (1, 0, 0), vU)]
theorem oJ7_copyOf_6403c_6 : okAt mJ7_copyOf_6403c bJ7_copyOf_6403c_6 6 = true := by decide +kernel
theorem rJ7_copyOf_6403c_6 {g : Gp} {Q : PQ} {L st : List AV} {h : AH} {u : Nat × Nat} (hr : run mJ7_copyOf_6403c Q (fun pc L st h u => Ex g mJ7_copyOf_6403c pc L st h u Q) bJ7_copyOf_6403c_6 6 L st h u) : Ex g mJ7_copyOf_6403c 6 L st h u Q := run_ok (M := mJ7_copyOf_6403c) cfJ7_ok (fun _ _ _ _ _ k => k) _ _ _ _ _ _ oJ7_copyOf_6403c_6 hr
def bJ7_copyOf_6403c_10 : List OP := [(.goto 14, 3, (24, 0, 0), vU), (.astore_n 3, 1, (3, 0, 0), vU), (.aload_n 0, 1, (0, 0, 0), vU), (.iconst 0, 1, (0, 0, 0), vI 0), (.aload_n 3, 1, (3, 0, 0), vU), (.iconst 0, 1, (0, 0, 0), vI 0), (.aload_n 0, 1, (0, 0, 0), vU), (.arraylength, 1, (0, 0, 0), vU), (.iload_n 1, 1, (1, 0, 0), vU)]
theorem oJ7_copyOf_6403c_10 : okAt mJ7_copyOf_6403c bJ7_copyOf_6403c_10 10 = true := by decide +kernel
theorem rJ7_copyOf_6403c_10 {g : Gp} {Q : PQ} {L st : List AV} {h : AH} {u : Nat × Nat} (hr : run mJ7_copyOf_6403c Q (fun pc L st h u => Ex g mJ7_copyOf_6403c pc L st h u Q) bJ7_copyOf_6403c_10 10 L st h u) : Ex g mJ7_copyOf_6403c 10 L st h u Q := run_ok (M := mJ7_copyOf_6403c) cfJ7_ok (fun _ _ _ _ _ k => k) _ _ _ _ _ _ oJ7_copyOf_6403c_10 hr
def bJ7_copyOf_6403c_13 : List OP := [(.aload_n 2, 1, (2, 0, 0), vU)]
theorem oJ7_copyOf_6403c_13 : okAt mJ7_copyOf_6403c bJ7_copyOf_6403c_13 13 = true := by decide +kernel
theorem rJ7_copyOf_6403c_13 {g : Gp} {Q : PQ} {L st : List AV} {h : AH} {u : Nat × Nat} (hr : run mJ7_copyOf_6403c Q (fun pc L st h u => Ex g mJ7_copyOf_6403c pc L st h u Q) bJ7_copyOf_6403c_13 13 L st h u) : Ex g mJ7_copyOf_6403c 13 L st h u Q := run_ok (M := mJ7_copyOf_6403c) cfJ7_ok (fun _ _ _ _ _ k => k) _ _ _ _ _ _ oJ7_copyOf_6403c_13 hr
def bJ7_copyOf_6403c_17 : List OP := [(.iload_n 1, 1, (1, 0, 0), vU)]
theorem oJ7_copyOf_6403c_17 : okAt mJ7_copyOf_6403c bJ7_copyOf_6403c_17 17 = true := by decide +kernel
theorem rJ7_copyOf_6403c_17 {g : Gp} {Q : PQ} {L st : List AV} {h : AH} {u : Nat × Nat} (hr : run mJ7_copyOf_6403c Q (fun pc L st h u => Ex g mJ7_copyOf_6403c pc L st h u Q) bJ7_copyOf_6403c_17 17 L st h u) : Ex g mJ7_copyOf_6403c 17 L st h u Q := run_ok (M := mJ7_copyOf_6403c) cfJ7_ok (fun _ _ _ _ _ k => k) _ _ _ _ _ _ oJ7_copyOf_6403c_17 hr
def bJ7_copyOf_6403c_24 : List OP := [(.astore_n 3, 1, (3, 0, 0), vU), (.aload_n 0, 1, (0, 0, 0), vU), (.iconst 0, 1, (0, 0, 0), vI 0), (.aload_n 3, 1, (3, 0, 0), vU), (.iconst 0, 1, (0, 0, 0), vI 0), (.aload_n 0, 1, (0, 0, 0), vU), (.arraylength, 1, (0, 0, 0), vU), (.iload_n 1, 1, (1, 0, 0), vU)]
theorem oJ7_copyOf_6403c_24 : okAt mJ7_copyOf_6403c bJ7_copyOf_6403c_24 24 = true := by decide +kernel
theorem rJ7_copyOf_6403c_24 {g : Gp} {Q : PQ} {L st : List AV} {h : AH} {u : Nat × Nat} (hr : run mJ7_copyOf_6403c Q (fun pc L st h u => Ex g mJ7_copyOf_6403c pc L st h u Q) bJ7_copyOf_6403c_24 24 L st h u) : Ex g mJ7_copyOf_6403c 24 L st h u Q := run_ok (M := mJ7_copyOf_6403c) cfJ7_ok (fun _ _ _ _ _ k => k) _ _ _ _ _ _ oJ7_copyOf_6403c_24 hr
def bJ7_copyOf_6403c_38 : List OP := [(.aload_n 3, 1, (3, 0, 0), vU), (.areturn, 1, (0, 0, 0), vU)]
theorem oJ7_copyOf_6403c_38 : okAt mJ7_copyOf_6403c bJ7_copyOf_6403c_38 38 = true := by decide +kernel
theorem rJ7_copyOf_6403c_38 {g : Gp} {Q : PQ} {L st : List AV} {h : AH} {u : Nat × Nat} (hr : run mJ7_copyOf_6403c Q (fun pc L st h u => Ex g mJ7_copyOf_6403c pc L st h u Q) bJ7_copyOf_6403c_38 38 L st h u) : Ex g mJ7_copyOf_6403c 38 L st h u Q := run_ok (M := mJ7_copyOf_6403c) cfJ7_ok (fun _ _ _ _ _ k => k) _ _ _ _ _ _ oJ7_copyOf_6403c_38 hr
theorem sJ7_copyOf_6403c_32 {g : Gp} {L rest : List AV} {h : AH} {u : Nat × Nat} {Q : PQ} {a b : Int32} (k : Ex g mJ7_copyOf_6403c 35 L (vI (if b < a then b else a) :: rest) h u Q) (hr : rest.length ≤ 4 := by exact Nat.le_of_ble_eq_true rfl) : Ex g mJ7_copyOf_6403c 32 L (vI b :: vI a :: rest) h u Q := x_mmin lkJ7_304 (lg_1 (i := 167) (by decide +kernel) rfl) (lg_1 (i := 9) (by decide +kernel) rfl) (lg_1 (i := 168) (by decide +kernel) rfl) (by decide) hr (by decide +kernel) k
theorem nJ7_copyOf_1904c {g : Gp} {h : AH} {Q : PQ} {i1 : Nat} {i2 : Int32} (k : Ex g mJ7_copyOf_1904c 0 [vR i1, vI i2] [] h (0, 0) Q) : Ev g mJ7_copyOf_1904c [vR i1, vI i2] h Q := Ev.of (by decide +kernel) rfl (Nat.le_of_ble_eq_true rfl) k
theorem qJ7_copyOf_1904c : mR mJ7_copyOf_1904c = (some (FieldType.array (FieldType.object "java/lang/Object"))) := rfl
theorem qCJ7_copyOf_1904c : mC mJ7_copyOf_1904c = 1 := rfl
theorem qSJ7_copyOf_1904c : mS mJ7_copyOf_1904c = 15 := rfl
def bJ7_copyOf_1904c_0 : List OP := [(.aload_n 0, 1, (0, 0, 0), vU), (.iload_n 1, 1, (1, 0, 0), vU), (.aload_n 0, 1, (0, 0, 0), vU)]
theorem oJ7_copyOf_1904c_0 : okAt mJ7_copyOf_1904c bJ7_copyOf_1904c_0 0 = true := by decide +kernel
theorem rJ7_copyOf_1904c_0 {g : Gp} {Q : PQ} {L st : List AV} {h : AH} {u : Nat × Nat} (hr : run mJ7_copyOf_1904c Q (fun pc L st h u => Ex g mJ7_copyOf_1904c pc L st h u Q) bJ7_copyOf_1904c_0 0 L st h u) : Ex g mJ7_copyOf_1904c 0 L st h u Q := run_ok (M := mJ7_copyOf_1904c) cfJ7_ok (fun _ _ _ _ _ k => k) _ _ _ _ _ _ oJ7_copyOf_1904c_0 hr
def bJ7_copyOf_1904c_9 : List OP := [(.areturn, 1, (0, 0, 0), vU)]
theorem oJ7_copyOf_1904c_9 : okAt mJ7_copyOf_1904c bJ7_copyOf_1904c_9 9 = true := by decide +kernel
theorem rJ7_copyOf_1904c_9 {g : Gp} {Q : PQ} {L st : List AV} {h : AH} {u : Nat × Nat} (hr : run mJ7_copyOf_1904c Q (fun pc L st h u => Ex g mJ7_copyOf_1904c pc L st h u Q) bJ7_copyOf_1904c_9 9 L st h u) : Ex g mJ7_copyOf_1904c 9 L st h u Q := run_ok (M := mJ7_copyOf_1904c) cfJ7_ok (fun _ _ _ _ _ k => k) _ _ _ _ _ _ oJ7_copyOf_1904c_9 hr
theorem sJ7_copyOf_1904c_6 {g : Gp} {L rest : List AV} {h : AH} {u : Nat × Nat} {Q : PQ} {a1 a2 a3 : AV} (hu : u.1 + 1 ≤ 1 ∧ u.2 + 15 ≤ 15) (ev : Ev g mJ7_copyOf_6403c [a1, a2, a3] h (cont g mJ7_copyOf_1904c 9 L rest (u.1 + 1, u.2 + 15) Q)) (hr : rest.length ≤ 4 := by exact Nat.le_of_ble_eq_true rfl) : Ex g mJ7_copyOf_1904c 6 L (a3 :: a2 :: a1 :: rest) h u Q := Ex.callS (av := [a1, a2, a3]) rfl mJ7_copyOf_6403c_ok rfl lkJ7_300 smJ7_copyOf_6403c (by decide) hu.1 hu.2 hr (by decide +kernel) ev (fun _ _ k => k) (fun _ _ z => z)
theorem nJx4a65c_grow_92f84 {g : Gp} {h : AH} {Q : PQ} {x : Nat} {i1 : Int32} (k : Ex g mJx4a65c_grow_92f84 0 [vR x, vI i1, vU, vU] [] h (0, 0) Q) : Ev g mJx4a65c_grow_92f84 [vR x, vI i1] h Q := Ev.of (by decide +kernel) rfl (Nat.le_of_ble_eq_true rfl) k
theorem qJx4a65c_grow_92f84 : mR mJx4a65c_grow_92f84 = (some (FieldType.array (FieldType.object "java/lang/Object"))) := rfl
theorem qCJx4a65c_grow_92f84 : mC mJx4a65c_grow_92f84 = 1 := rfl
theorem qSJx4a65c_grow_92f84 : mS mJx4a65c_grow_92f84 = 15 := rfl
def bJx4a65c_grow_92f84_0 : List OP := [(.aload_n 0, 1, (0, 0, 0), vU), (.getfield 9, 3, (0, 1, 2), vU), (.arraylength, 1, (1, 0, 0), vU), (.istore_n 2, 1, (2, 0, 0), vU), (.iload_n 2, 1, (2, 0, 0), vU), (.ifCond .gt 13, 3, (20, 0, 0), vU), (.aload_n 0, 1, (0, 0, 0), vU), (.getfield 9, 3, (0, 1, 2), vU)]
theorem oJx4a65c_grow_92f84_0 : okAt mJx4a65c_grow_92f84 bJx4a65c_grow_92f84_0 0 = true := by decide +kernel
theorem rJx4a65c_grow_92f84_0 {g : Gp} {Q : PQ} {L st : List AV} {h : AH} {u : Nat × Nat} (hr : run mJx4a65c_grow_92f84 Q (fun pc L st h u => Ex g mJx4a65c_grow_92f84 pc L st h u Q) bJx4a65c_grow_92f84_0 0 L st h u) : Ex g mJx4a65c_grow_92f84 0 L st h u Q := run_ok (M := mJx4a65c_grow_92f84) cfJx4a65c_ok (fun _ _ _ _ _ k => k) _ _ _ _ _ _ oJx4a65c_grow_92f84_0 hr
def bJx4a65c_grow_92f84_20 : List OP := [(.iload_n 2, 1, (2, 0, 0), vU), (.iload_n 1, 1, (1, 0, 0), vU), (.iload_n 2, 1, (2, 0, 0), vU), (.isub, 1, (0, 0, 0), vU), (.iload_n 2, 1, (2, 0, 0), vU), (.iconst 1, 1, (0, 0, 0), vI 1), (.ishr, 1, (0, 0, 0), vU)]
theorem oJx4a65c_grow_92f84_20 : okAt mJx4a65c_grow_92f84 bJx4a65c_grow_92f84_20 20 = true := by decide +kernel
theorem rJx4a65c_grow_92f84_20 {g : Gp} {Q : PQ} {L st : List AV} {h : AH} {u : Nat × Nat} (hr : run mJx4a65c_grow_92f84 Q (fun pc L st h u => Ex g mJx4a65c_grow_92f84 pc L st h u Q) bJx4a65c_grow_92f84_20 20 L st h u) : Ex g mJx4a65c_grow_92f84 20 L st h u Q := run_ok (M := mJx4a65c_grow_92f84) cfJx4a65c_ok (fun _ _ _ _ _ k => k) _ _ _ _ _ _ oJx4a65c_grow_92f84_20 hr
def bJx4a65c_grow_92f84_30 : List OP := [(.istore_n 3, 1, (3, 0, 0), vU), (.aload_n 0, 1, (0, 0, 0), vU), (.aload_n 0, 1, (0, 0, 0), vU), (.getfield 9, 3, (0, 1, 2), vU), (.iload_n 3, 1, (3, 0, 0), vU)]
theorem oJx4a65c_grow_92f84_30 : okAt mJx4a65c_grow_92f84 bJx4a65c_grow_92f84_30 30 = true := by decide +kernel
theorem rJx4a65c_grow_92f84_30 {g : Gp} {Q : PQ} {L st : List AV} {h : AH} {u : Nat × Nat} (hr : run mJx4a65c_grow_92f84 Q (fun pc L st h u => Ex g mJx4a65c_grow_92f84 pc L st h u Q) bJx4a65c_grow_92f84_30 30 L st h u) : Ex g mJx4a65c_grow_92f84 30 L st h u Q := run_ok (M := mJx4a65c_grow_92f84) cfJx4a65c_ok (fun _ _ _ _ _ k => k) _ _ _ _ _ _ oJx4a65c_grow_92f84_30 hr
def bJx4a65c_grow_92f84_40 : List OP := [(.dup_x1, 1, (0, 0, 0), vU), (.putfield 9, 3, (0, 1, 2), vU), (.areturn, 1, (0, 0, 0), vU)]
theorem oJx4a65c_grow_92f84_40 : okAt mJx4a65c_grow_92f84 bJx4a65c_grow_92f84_40 40 = true := by decide +kernel
theorem rJx4a65c_grow_92f84_40 {g : Gp} {Q : PQ} {L st : List AV} {h : AH} {u : Nat × Nat} (hr : run mJx4a65c_grow_92f84 Q (fun pc L st h u => Ex g mJx4a65c_grow_92f84 pc L st h u Q) bJx4a65c_grow_92f84_40 40 L st h u) : Ex g mJx4a65c_grow_92f84 40 L st h u Q := run_ok (M := mJx4a65c_grow_92f84) cfJx4a65c_ok (fun _ _ _ _ _ k => k) _ _ _ _ _ _ oJx4a65c_grow_92f84_40 hr
def bJx4a65c_grow_92f84_45 : List OP := [(.aload_n 0, 1, (0, 0, 0), vU), (.bipush 10, 2, (0, 0, 0), vI 10), (.iload_n 1, 1, (1, 0, 0), vU)]
theorem oJx4a65c_grow_92f84_45 : okAt mJx4a65c_grow_92f84 bJx4a65c_grow_92f84_45 45 = true := by decide +kernel
theorem rJx4a65c_grow_92f84_45 {g : Gp} {Q : PQ} {L st : List AV} {h : AH} {u : Nat × Nat} (hr : run mJx4a65c_grow_92f84 Q (fun pc L st h u => Ex g mJx4a65c_grow_92f84 pc L st h u Q) bJx4a65c_grow_92f84_45 45 L st h u) : Ex g mJx4a65c_grow_92f84 45 L st h u Q := run_ok (M := mJx4a65c_grow_92f84) cfJx4a65c_ok (fun _ _ _ _ _ k => k) _ _ _ _ _ _ oJx4a65c_grow_92f84_45 hr
def bJx4a65c_grow_92f84_55 : List OP := [(.dup_x1, 1, (0, 0, 0), vU), (.putfield 9, 3, (0, 1, 2), vU), (.areturn, 1, (0, 0, 0), vU)]
theorem oJx4a65c_grow_92f84_55 : okAt mJx4a65c_grow_92f84 bJx4a65c_grow_92f84_55 55 = true := by decide +kernel
theorem rJx4a65c_grow_92f84_55 {g : Gp} {Q : PQ} {L st : List AV} {h : AH} {u : Nat × Nat} (hr : run mJx4a65c_grow_92f84 Q (fun pc L st h u => Ex g mJx4a65c_grow_92f84 pc L st h u Q) bJx4a65c_grow_92f84_55 55 L st h u) : Ex g mJx4a65c_grow_92f84 55 L st h u Q := run_ok (M := mJx4a65c_grow_92f84) cfJx4a65c_ok (fun _ _ _ _ _ k => k) _ _ _ _ _ _ oJx4a65c_grow_92f84_55 hr
theorem sJx4a65c_grow_92f84_27 {g : Gp} {L rest : List AV} {h : AH} {u : Nat × Nat} {Q : PQ} {a1 a2 a3 : AV}  (ev : Ev g mJ8_newLength_cabcc [a1, a2, a3] h (cont g mJx4a65c_grow_92f84 30 L rest u Q)) (hr : rest.length ≤ 4 := by exact Nat.le_of_ble_eq_true rfl) : Ex g mJx4a65c_grow_92f84 27 L (a3 :: a2 :: a1 :: rest) h u Q := Ex.bud (fun w1 w2 => Ex.callS (av := [a1, a2, a3]) rfl mJ8_newLength_cabcc_ok rfl lkJx4a65c_73 smJ8_newLength_cabcc (by decide) w1 w2 hr (by decide +kernel) ev (fun _ _ k => k) (fun _ _ z => z))
theorem sJx4a65c_grow_92f84_37 {g : Gp} {L rest : List AV} {h : AH} {u : Nat × Nat} {Q : PQ} {a1 a2 : AV} (hu : u.1 + 1 ≤ 1 ∧ u.2 + 15 ≤ 15) (ev : Ev g mJ7_copyOf_1904c [a1, a2] h (cont g mJx4a65c_grow_92f84 40 L rest (u.1 + 1, u.2 + 15) Q)) (hr : rest.length ≤ 4 := by exact Nat.le_of_ble_eq_true rfl) : Ex g mJx4a65c_grow_92f84 37 L (a2 :: a1 :: rest) h u Q := Ex.callS (av := [a1, a2]) rfl mJ7_copyOf_1904c_ok rfl lkJx4a65c_66 smJ7_copyOf_1904c (by decide) hu.1 hu.2 hr (by decide +kernel) ev (fun _ _ k => k) (fun _ _ z => z)
theorem sJx4a65c_grow_92f84_49 {g : Gp} {L rest : List AV} {h : AH} {u : Nat × Nat} {Q : PQ} {a b : Int32} (k : Ex g mJx4a65c_grow_92f84 52 L (vI (if a < b then b else a) :: rest) h u Q) (hr : rest.length ≤ 4 := by exact Nat.le_of_ble_eq_true rfl) : Ex g mJx4a65c_grow_92f84 49 L (vI b :: vI a :: rest) h u Q := x_mmax lkJx4a65c_79 (lg_1 (i := 131) (by decide +kernel) rfl) (lg_1 (i := 9) (by decide +kernel) rfl) (lg_1 (i := 132) (by decide +kernel) rfl) (by decide) hr (by decide +kernel) k
theorem nJx4a65c_grow_d5877 {g : Gp} {h : AH} {Q : PQ} {x : Nat} (k : Ex g mJx4a65c_grow_d5877 0 [vR x] [] h (0, 0) Q) : Ev g mJx4a65c_grow_d5877 [vR x] h Q := Ev.of (by decide +kernel) rfl (Nat.le_of_ble_eq_true rfl) k
theorem qJx4a65c_grow_d5877 : mR mJx4a65c_grow_d5877 = (some (FieldType.array (FieldType.object "java/lang/Object"))) := rfl
theorem qCJx4a65c_grow_d5877 : mC mJx4a65c_grow_d5877 = 1 := rfl
theorem qSJx4a65c_grow_d5877 : mS mJx4a65c_grow_d5877 = 15 := rfl
def bJx4a65c_grow_d5877_0 : List OP := [(.aload_n 0, 1, (0, 0, 0), vU), (.aload_n 0, 1, (0, 0, 0), vU), (.getfield 48, 3, (0, 2, 0), vU), (.iconst 1, 1, (0, 0, 0), vI 1), (.iadd, 1, (0, 0, 0), vU)]
theorem oJx4a65c_grow_d5877_0 : okAt mJx4a65c_grow_d5877 bJx4a65c_grow_d5877_0 0 = true := by decide +kernel
theorem rJx4a65c_grow_d5877_0 {g : Gp} {Q : PQ} {L st : List AV} {h : AH} {u : Nat × Nat} (hr : run mJx4a65c_grow_d5877 Q (fun pc L st h u => Ex g mJx4a65c_grow_d5877 pc L st h u Q) bJx4a65c_grow_d5877_0 0 L st h u) : Ex g mJx4a65c_grow_d5877 0 L st h u Q := run_ok (M := mJx4a65c_grow_d5877) cfJx4a65c_ok (fun _ _ _ _ _ k => k) _ _ _ _ _ _ oJx4a65c_grow_d5877_0 hr
def bJx4a65c_grow_d5877_10 : List OP := [(.areturn, 1, (0, 0, 0), vU)]
theorem oJx4a65c_grow_d5877_10 : okAt mJx4a65c_grow_d5877 bJx4a65c_grow_d5877_10 10 = true := by decide +kernel
theorem rJx4a65c_grow_d5877_10 {g : Gp} {Q : PQ} {L st : List AV} {h : AH} {u : Nat × Nat} (hr : run mJx4a65c_grow_d5877 Q (fun pc L st h u => Ex g mJx4a65c_grow_d5877 pc L st h u Q) bJx4a65c_grow_d5877_10 10 L st h u) : Ex g mJx4a65c_grow_d5877 10 L st h u Q := run_ok (M := mJx4a65c_grow_d5877) cfJx4a65c_ok (fun _ _ _ _ _ k => k) _ _ _ _ _ _ oJx4a65c_grow_d5877_10 hr
theorem sJx4a65c_grow_d5877_7 {g : Gp} {L rest : List AV} {h : AH} {u : Nat × Nat} {Q : PQ} {x : Nat} {a1 : AV} (hu : u.1 + 1 ≤ 1 ∧ u.2 + 15 ≤ 15) (hx : zK h x = (1, 0)) (ev : Ev g mJx4a65c_grow_92f84 (vR x :: [a1]) h (cont g mJx4a65c_grow_d5877 10 L rest (u.1 + 1, u.2 + 15) Q)) (hr : rest.length ≤ 4 := by exact Nat.le_of_ble_eq_true rfl) : Ex g mJx4a65c_grow_d5877 7 L (a1 :: vR x :: rest) h u Q := Ex.callV (av := [a1]) (r := (RJx4a65c, TJx4a65c, 3)) rfl mJx4a65c_grow_92f84_ok rfl lkJx4a65c_69 imJx4a65c_grow_92f84 seJx4a65c_grow_92f84 rfl hx (by decide) hu.1 hu.2 hr (by decide +kernel) ev (fun _ _ k => k) (fun _ _ z => z)
theorem nJx4a65c_add_72be8 {g : Gp} {h : AH} {Q : PQ} {x : Nat} {i1 : Nat} {i2 : Nat} {i3 : Int32} (k : Ex g mJx4a65c_add_72be8 0 [vR x, vR i1, vR i2, vI i3] [] h (0, 0) Q) : Ev g mJx4a65c_add_72be8 [vR x, vR i1, vR i2, vI i3] h Q := Ev.of (by decide +kernel) rfl (Nat.le_of_ble_eq_true rfl) k
theorem qJx4a65c_add_72be8 : mR mJx4a65c_add_72be8 = none := rfl
theorem qCJx4a65c_add_72be8 : mC mJx4a65c_add_72be8 = 1 := rfl
theorem qSJx4a65c_add_72be8 : mS mJx4a65c_add_72be8 = 15 := rfl
def bJx4a65c_add_72be8_0 : List OP := [(.iload_n 3, 1, (3, 0, 0), vU), (.aload_n 2, 1, (2, 0, 0), vU), (.arraylength, 1, (1, 0, 0), vU), (.if_icmp .ne 8, 3, (11, 0, 0), vU), (.aload_n 0, 1, (0, 0, 0), vU)]
theorem oJx4a65c_add_72be8_0 : okAt mJx4a65c_add_72be8 bJx4a65c_add_72be8_0 0 = true := by decide +kernel
theorem rJx4a65c_add_72be8_0 {g : Gp} {Q : PQ} {L st : List AV} {h : AH} {u : Nat × Nat} (hr : run mJx4a65c_add_72be8 Q (fun pc L st h u => Ex g mJx4a65c_add_72be8 pc L st h u Q) bJx4a65c_add_72be8_0 0 L st h u) : Ex g mJx4a65c_add_72be8 0 L st h u Q := run_ok (M := mJx4a65c_add_72be8) cfJx4a65c_ok (fun _ _ _ _ _ k => k) _ _ _ _ _ _ oJx4a65c_add_72be8_0 hr
def bJx4a65c_add_72be8_10 : List OP := [(.astore_n 2, 1, (2, 0, 0), vU), (.aload_n 2, 1, (2, 0, 0), vU), (.iload_n 3, 1, (3, 0, 0), vU), (.aload_n 1, 1, (1, 0, 0), vU)]
theorem oJx4a65c_add_72be8_10 : okAt mJx4a65c_add_72be8 bJx4a65c_add_72be8_10 10 = true := by decide +kernel
theorem rJx4a65c_add_72be8_10 {g : Gp} {Q : PQ} {L st : List AV} {h : AH} {u : Nat × Nat} (hr : run mJx4a65c_add_72be8 Q (fun pc L st h u => Ex g mJx4a65c_add_72be8 pc L st h u Q) bJx4a65c_add_72be8_10 10 L st h u) : Ex g mJx4a65c_add_72be8 10 L st h u Q := run_ok (M := mJx4a65c_add_72be8) cfJx4a65c_ok (fun _ _ _ _ _ k => k) _ _ _ _ _ _ oJx4a65c_add_72be8_10 hr
def bJx4a65c_add_72be8_11 : List OP := [(.aload_n 2, 1, (2, 0, 0), vU), (.iload_n 3, 1, (3, 0, 0), vU), (.aload_n 1, 1, (1, 0, 0), vU)]
theorem oJx4a65c_add_72be8_11 : okAt mJx4a65c_add_72be8 bJx4a65c_add_72be8_11 11 = true := by decide +kernel
theorem rJx4a65c_add_72be8_11 {g : Gp} {Q : PQ} {L st : List AV} {h : AH} {u : Nat × Nat} (hr : run mJx4a65c_add_72be8 Q (fun pc L st h u => Ex g mJx4a65c_add_72be8 pc L st h u Q) bJx4a65c_add_72be8_11 11 L st h u) : Ex g mJx4a65c_add_72be8 11 L st h u Q := run_ok (M := mJx4a65c_add_72be8) cfJx4a65c_ok (fun _ _ _ _ _ k => k) _ _ _ _ _ _ oJx4a65c_add_72be8_11 hr
def bJx4a65c_add_72be8_15 : List OP := [(.aload_n 0, 1, (0, 0, 0), vU), (.iload_n 3, 1, (3, 0, 0), vU), (.iconst 1, 1, (0, 0, 0), vI 1), (.iadd, 1, (0, 0, 0), vU), (.putfield 48, 3, (0, 2, 0), vU), (.return_, 1, (0, 0, 0), vU)]
theorem oJx4a65c_add_72be8_15 : okAt mJx4a65c_add_72be8 bJx4a65c_add_72be8_15 15 = true := by decide +kernel
theorem rJx4a65c_add_72be8_15 {g : Gp} {Q : PQ} {L st : List AV} {h : AH} {u : Nat × Nat} (hr : run mJx4a65c_add_72be8 Q (fun pc L st h u => Ex g mJx4a65c_add_72be8 pc L st h u Q) bJx4a65c_add_72be8_15 15 L st h u) : Ex g mJx4a65c_add_72be8 15 L st h u Q := run_ok (M := mJx4a65c_add_72be8) cfJx4a65c_ok (fun _ _ _ _ _ k => k) _ _ _ _ _ _ oJx4a65c_add_72be8_15 hr
theorem sJx4a65c_add_72be8_7 {g : Gp} {L rest : List AV} {h : AH} {u : Nat × Nat} {Q : PQ} {x : Nat}  (hu : u.1 + 1 ≤ 1 ∧ u.2 + 15 ≤ 15) (hx : zK h x = (1, 0)) (ev : Ev g mJx4a65c_grow_d5877 (vR x :: []) h (cont g mJx4a65c_add_72be8 10 L rest (u.1 + 1, u.2 + 15) Q)) (hr : rest.length ≤ 4 := by exact Nat.le_of_ble_eq_true rfl) : Ex g mJx4a65c_add_72be8 7 L (vR x :: rest) h u Q := Ex.callV (av := []) (r := (RJx4a65c, TJx4a65c, 3)) rfl mJx4a65c_grow_d5877_ok rfl lkJx4a65c_129 imJx4a65c_grow_d5877 seJx4a65c_grow_d5877 rfl hx (by decide) hu.1 hu.2 hr (by decide +kernel) ev (fun _ _ k => k) (fun _ _ z => z)
theorem nJx4a65c_add_9ea2d {g : Gp} {h : AH} {Q : PQ} {x : Nat} {i1 : Nat} (k : Ex g mJx4a65c_add_9ea2d 0 [vR x, vR i1] [] h (0, 0) Q) : Ev g mJx4a65c_add_9ea2d [vR x, vR i1] h Q := Ev.of (by decide +kernel) rfl (Nat.le_of_ble_eq_true rfl) k
theorem qJx4a65c_add_9ea2d : mR mJx4a65c_add_9ea2d = (some FieldType.boolean) := rfl
theorem qCJx4a65c_add_9ea2d : mC mJx4a65c_add_9ea2d = 1 := rfl
theorem qSJx4a65c_add_9ea2d : mS mJx4a65c_add_9ea2d = 15 := rfl
def bJx4a65c_add_9ea2d_0 : List OP := [(.aload_n 0, 1, (0, 0, 0), vU), (.dup, 1, (0, 0, 0), vU), (.getfield 63, 3, (0, 0, 0), vU), (.iconst 1, 1, (0, 0, 0), vI 1), (.iadd, 1, (0, 0, 0), vU), (.putfield 63, 3, (0, 0, 0), vU), (.aload_n 0, 1, (0, 0, 0), vU), (.aload_n 1, 1, (1, 0, 0), vU), (.aload_n 0, 1, (0, 0, 0), vU), (.getfield 9, 3, (0, 1, 2), vU), (.aload_n 0, 1, (0, 0, 0), vU), (.getfield 48, 3, (0, 2, 0), vU)]
theorem oJx4a65c_add_9ea2d_0 : okAt mJx4a65c_add_9ea2d bJx4a65c_add_9ea2d_0 0 = true := by decide +kernel
theorem rJx4a65c_add_9ea2d_0 {g : Gp} {Q : PQ} {L st : List AV} {h : AH} {u : Nat × Nat} (hr : run mJx4a65c_add_9ea2d Q (fun pc L st h u => Ex g mJx4a65c_add_9ea2d pc L st h u Q) bJx4a65c_add_9ea2d_0 0 L st h u) : Ex g mJx4a65c_add_9ea2d 0 L st h u Q := run_ok (M := mJx4a65c_add_9ea2d) cfJx4a65c_ok (fun _ _ _ _ _ k => k) _ _ _ _ _ _ oJx4a65c_add_9ea2d_0 hr
def bJx4a65c_add_9ea2d_23 : List OP := [(.iconst 1, 1, (0, 0, 0), vI 1), (.ireturn, 1, (0, 0, 0), vU)]
theorem oJx4a65c_add_9ea2d_23 : okAt mJx4a65c_add_9ea2d bJx4a65c_add_9ea2d_23 23 = true := by decide +kernel
theorem rJx4a65c_add_9ea2d_23 {g : Gp} {Q : PQ} {L st : List AV} {h : AH} {u : Nat × Nat} (hr : run mJx4a65c_add_9ea2d Q (fun pc L st h u => Ex g mJx4a65c_add_9ea2d pc L st h u Q) bJx4a65c_add_9ea2d_23 23 L st h u) : Ex g mJx4a65c_add_9ea2d 23 L st h u Q := run_ok (M := mJx4a65c_add_9ea2d) cfJx4a65c_ok (fun _ _ _ _ _ k => k) _ _ _ _ _ _ oJx4a65c_add_9ea2d_23 hr
theorem sJx4a65c_add_9ea2d_20 {g : Gp} {L rest : List AV} {h : AH} {u : Nat × Nat} {Q : PQ} {x : Nat} {a1 a2 a3 : AV} (hu : u.1 + 1 ≤ 1 ∧ u.2 + 15 ≤ 15) (hx : zK h x = (1, 0)) (ev : Ev g mJx4a65c_add_72be8 (vR x :: [a1, a2, a3]) h (cont g mJx4a65c_add_9ea2d 23 L rest (u.1 + 1, u.2 + 15) Q)) (hr : rest.length ≤ 4 := by exact Nat.le_of_ble_eq_true rfl) : Ex g mJx4a65c_add_9ea2d 20 L (a3 :: a2 :: a1 :: vR x :: rest) h u Q := Ex.callV (av := [a1, a2, a3]) (r := (RJx4a65c, TJx4a65c, 3)) rfl mJx4a65c_add_72be8_ok rfl lkJx4a65c_131 imJx4a65c_add_72be8 seJx4a65c_add_72be8 rfl hx (by decide) hu.1 hu.2 hr (by decide +kernel) ev (fun _ _ k => k) (fun _ _ z => z)
theorem nX1_init {g : Gp} {h : AH} {Q : PQ} {x : Nat} {i1 : Nat} {i2 : Nat} (k : Ex g mX1_init 0 [vR x, vR i1, vR i2] [] h (0, 0) Q) : Ev g mX1_init [vR x, vR i1, vR i2] h Q := Ev.of (by decide +kernel) rfl (Nat.le_of_ble_eq_true rfl) k
theorem qX1_init : mR mX1_init = none := rfl
def bX1_init_0 : List OP := [(.aload_n 0, 1, (0, 0, 0), vU)]
theorem oX1_init_0 : okAt mX1_init bX1_init_0 0 = true := by decide +kernel
theorem rX1_init_0 {g : Gp} {Q : PQ} {L st : List AV} {h : AH} {u : Nat × Nat} (hr : run mX1_init Q (fun pc L st h u => Ex g mX1_init pc L st h u Q) bX1_init_0 0 L st h u) : Ex g mX1_init 0 L st h u Q := run_ok (M := mX1_init) cfX1_ok (fun _ _ _ _ _ k => k) _ _ _ _ _ _ oX1_init_0 hr
def bX1_init_4 : List OP := [(.aload_n 0, 1, (0, 0, 0), vU), (.aload_n 1, 1, (1, 0, 0), vU), (.putfield 7, 3, (2, 0, 2), vU), (.aload_n 0, 1, (0, 0, 0), vU), (.aload_n 2, 1, (2, 0, 0), vU), (.putfield 13, 3, (2, 1, 2), vU), (.return_, 1, (0, 0, 0), vU)]
theorem oX1_init_4 : okAt mX1_init bX1_init_4 4 = true := by decide +kernel
theorem rX1_init_4 {g : Gp} {Q : PQ} {L st : List AV} {h : AH} {u : Nat × Nat} (hr : run mX1_init Q (fun pc L st h u => Ex g mX1_init pc L st h u Q) bX1_init_4 4 L st h u) : Ex g mX1_init 4 L st h u Q := run_ok (M := mX1_init) cfX1_ok (fun _ _ _ _ _ k => k) _ _ _ _ _ _ oX1_init_4 hr
theorem sX1_init_1 {g : Gp} {L rest : List AV} {h : AH} {u : Nat × Nat} {Q : PQ} {x : Nat} (hx : x ≠ 0) (k : Ex g mX1_init 4 L rest h u Q) (hr : rest.length ≤ 4 := by exact Nat.le_of_ble_eq_true rfl) : Ex g mX1_init 1 L (vR x :: rest) h u Q := x_objInit lkX1_1 (lg_1 (i := 40) (by decide +kernel) rfl) (lg_1 (i := 41) (by decide +kernel) rfl) hx (by decide) hr (by decide +kernel) k
theorem nX4_init {g : Gp} {h : AH} {Q : PQ} {x : Nat} {i1 : Nat} {i2 : Nat} {i3 : Nat} (k : Ex g mX4_init 0 [vR x, vR i1, vR i2, vR i3] [] h (0, 0) Q) : Ev g mX4_init [vR x, vR i1, vR i2, vR i3] h Q := Ev.of (by decide +kernel) rfl (Nat.le_of_ble_eq_true rfl) k
theorem qX4_init : mR mX4_init = none := rfl
theorem qCX4_init : mC mX4_init = 4 := rfl
theorem qSX4_init : mS mX4_init = 372 := rfl
def bX4_init_0 : List OP := [(.aload_n 0, 1, (0, 0, 0), vU)]
theorem oX4_init_0 : okAt mX4_init bX4_init_0 0 = true := by decide +kernel
theorem rX4_init_0 {g : Gp} {Q : PQ} {L st : List AV} {h : AH} {u : Nat × Nat} (hr : run mX4_init Q (fun pc L st h u => Ex g mX4_init pc L st h u Q) bX4_init_0 0 L st h u) : Ex g mX4_init 0 L st h u Q := run_ok (M := mX4_init) cfX4_ok (fun _ _ _ _ _ k => k) _ _ _ _ _ _ oX4_init_0 hr
def bX4_init_4 : List OP := [(.aload_n 0, 1, (0, 0, 0), vU), (.bipush 120, 2, (0, 0, 0), vI 120), (.newarray .long, 2, (3, 0, 0), vU), (.putfield 9, 3, (5, 3, 2), vU), (.aload_n 0, 1, (0, 0, 0), vU), (.bipush 120, 2, (0, 0, 0), vI 120), (.newarray .int, 2, (2, 0, 0), vU), (.putfield 15, 3, (5, 4, 2), vU), (.aload_n 0, 1, (0, 0, 0), vU), (.bipush 120, 2, (0, 0, 0), vI 120), (.newarray .int, 2, (2, 0, 0), vU), (.putfield 19, 3, (5, 5, 2), vU), (.aload_n 0, 1, (0, 0, 0), vU), (.bipush 12, 2, (0, 0, 0), vI 12), (.newarray .boolean, 2, (4, 0, 0), vU), (.putfield 22, 3, (5, 6, 2), vU), (.aload_n 0, 1, (0, 0, 0), vU), (.aload_n 1, 1, (1, 0, 0), vU), (.putfield 26, 3, (5, 0, 2), vU), (.aload_n 0, 1, (0, 0, 0), vU), (.aload_n 2, 1, (2, 0, 0), vU), (.putfield 30, 3, (5, 1, 2), vU), (.aload_n 0, 1, (0, 0, 0), vU), (.aload_n 3, 1, (3, 0, 0), vU), (.putfield 34, 3, (5, 2, 2), vU), (.return_, 1, (0, 0, 0), vU)]
theorem oX4_init_4 : okAt mX4_init bX4_init_4 4 = true := by decide +kernel
theorem rX4_init_4 {g : Gp} {Q : PQ} {L st : List AV} {h : AH} {u : Nat × Nat} (hr : run mX4_init Q (fun pc L st h u => Ex g mX4_init pc L st h u Q) bX4_init_4 4 L st h u) : Ex g mX4_init 4 L st h u Q := run_ok (M := mX4_init) cfX4_ok (fun _ _ _ _ _ k => k) _ _ _ _ _ _ oX4_init_4 hr
theorem sX4_init_1 {g : Gp} {L rest : List AV} {h : AH} {u : Nat × Nat} {Q : PQ} {x : Nat} (hx : x ≠ 0) (k : Ex g mX4_init 4 L rest h u Q) (hr : rest.length ≤ 4 := by exact Nat.le_of_ble_eq_true rfl) : Ex g mX4_init 1 L (vR x :: rest) h u Q := x_objInit lkX4_3 (lg_1 (i := 40) (by decide +kernel) rfl) (lg_1 (i := 41) (by decide +kernel) rfl) hx (by decide) hr (by decide +kernel) k
theorem nX0_init {g : Gp} {h : AH} {Q : PQ} {x : Nat} {i1 : Nat} (k : Ex g mX0_init 0 [vR x, vR i1] [] h (0, 0) Q) : Ev g mX0_init [vR x, vR i1] h Q := Ev.of (by decide +kernel) rfl (Nat.le_of_ble_eq_true rfl) k
theorem qX0_init : mR mX0_init = none := rfl
theorem qCX0_init : mC mX0_init = 16 := rfl
theorem qSX0_init : mS mX0_init = 192 := rfl
def bX0_init_0 : List OP := [(.aload_n 0, 1, (0, 0, 0), vU)]
theorem oX0_init_0 : okAt mX0_init bX0_init_0 0 = true := by decide +kernel
theorem rX0_init_0 {g : Gp} {Q : PQ} {L st : List AV} {h : AH} {u : Nat × Nat} (hr : run mX0_init Q (fun pc L st h u => Ex g mX0_init pc L st h u Q) bX0_init_0 0 L st h u) : Ex g mX0_init 0 L st h u Q := run_ok (M := mX0_init) cfX0_ok (fun _ _ _ _ _ k => k) _ _ _ _ _ _ oX0_init_0 hr
def bX0_init_4 : List OP := [(.aload_n 0, 1, (0, 0, 0), vU), (.bipush 10, 2, (0, 0, 0), vI 10), (.newarray .int, 2, (2, 0, 0), vU), (.putfield 9, 3, (1, 1, 2), vU), (.aload_n 0, 1, (0, 0, 0), vU), (.bipush 10, 2, (0, 0, 0), vI 10), (.newarray .int, 2, (2, 0, 0), vU), (.putfield 15, 3, (1, 2, 2), vU), (.aload_n 0, 1, (0, 0, 0), vU), (.bipush 11, 2, (0, 0, 0), vI 11), (.bipush 11, 2, (0, 0, 0), vI 11)]
theorem oX0_init_4 : okAt mX0_init bX0_init_4 4 = true := by decide +kernel
theorem rX0_init_4 {g : Gp} {Q : PQ} {L st : List AV} {h : AH} {u : Nat × Nat} (hr : run mX0_init Q (fun pc L st h u => Ex g mX0_init pc L st h u Q) bX0_init_4 4 L st h u) : Ex g mX0_init 4 L st h u Q := run_ok (M := mX0_init) cfX0_ok (fun _ _ _ _ _ k => k) _ _ _ _ _ _ oX0_init_4 hr
def bX0_init_29 : List OP := [(.putfield 20, 3, (1, 5, 2), vU), (.aload_n 0, 1, (0, 0, 0), vU), (.bipush 20, 2, (0, 0, 0), vI 20), (.newarray .int, 2, (2, 0, 0), vU), (.putfield 23, 3, (1, 6, 2), vU), (.aload_n 0, 1, (0, 0, 0), vU), (.bipush 20, 2, (0, 0, 0), vI 20), (.newarray .int, 2, (2, 0, 0), vU), (.putfield 26, 3, (1, 7, 2), vU), (.aload_n 0, 1, (0, 0, 0), vU), (.aload_n 1, 1, (1, 0, 0), vU), (.putfield 29, 3, (1, 0, 2), vU), (.return_, 1, (0, 0, 0), vU)]
theorem oX0_init_29 : okAt mX0_init bX0_init_29 29 = true := by decide +kernel
theorem rX0_init_29 {g : Gp} {Q : PQ} {L st : List AV} {h : AH} {u : Nat × Nat} (hr : run mX0_init Q (fun pc L st h u => Ex g mX0_init pc L st h u Q) bX0_init_29 29 L st h u) : Ex g mX0_init 29 L st h u Q := run_ok (M := mX0_init) cfX0_ok (fun _ _ _ _ _ k => k) _ _ _ _ _ _ oX0_init_29 hr
theorem sX0_init_1 {g : Gp} {L rest : List AV} {h : AH} {u : Nat × Nat} {Q : PQ} {x : Nat} (hx : x ≠ 0) (k : Ex g mX0_init 4 L rest h u Q) (hr : rest.length ≤ 4 := by exact Nat.le_of_ble_eq_true rfl) : Ex g mX0_init 1 L (vR x :: rest) h u Q := x_objInit lkX0_3 (lg_1 (i := 40) (by decide +kernel) rfl) (lg_1 (i := 41) (by decide +kernel) rfl) hx (by decide) hr (by decide +kernel) k
theorem nX7_init {g : Gp} {h : AH} {Q : PQ} {x : Nat} (k : Ex g mX7_init 0 [vR x] [] h (0, 0) Q) : Ev g mX7_init [vR x] h Q := Ev.of (by decide +kernel) rfl (Nat.le_of_ble_eq_true rfl) k
theorem qX7_init : mR mX7_init = none := rfl
theorem qCX7_init : mC mX7_init = 1 := rfl
theorem qSX7_init : mS mX7_init = 17 := rfl
def bX7_init_0 : List OP := [(.aload_n 0, 1, (0, 0, 0), vU)]
theorem oX7_init_0 : okAt mX7_init bX7_init_0 0 = true := by decide +kernel
theorem rX7_init_0 {g : Gp} {Q : PQ} {L st : List AV} {h : AH} {u : Nat × Nat} (hr : run mX7_init Q (fun pc L st h u => Ex g mX7_init pc L st h u Q) bX7_init_0 0 L st h u) : Ex g mX7_init 0 L st h u Q := run_ok (M := mX7_init) cfX7_ok (fun _ _ _ _ _ k => k) _ _ _ _ _ _ oX7_init_0 hr
def bX7_init_4 : List OP := [(.aload_n 0, 1, (0, 0, 0), vU), (.bipush 17, 2, (0, 0, 0), vI 17), (.newarray .int, 2, (2, 0, 0), vU), (.putfield 9, 3, (8, 0, 2), vU), (.return_, 1, (0, 0, 0), vU)]
theorem oX7_init_4 : okAt mX7_init bX7_init_4 4 = true := by decide +kernel
theorem rX7_init_4 {g : Gp} {Q : PQ} {L st : List AV} {h : AH} {u : Nat × Nat} (hr : run mX7_init Q (fun pc L st h u => Ex g mX7_init pc L st h u Q) bX7_init_4 4 L st h u) : Ex g mX7_init 4 L st h u Q := run_ok (M := mX7_init) cfX7_ok (fun _ _ _ _ _ k => k) _ _ _ _ _ _ oX7_init_4 hr
theorem sX7_init_1 {g : Gp} {L rest : List AV} {h : AH} {u : Nat × Nat} {Q : PQ} {x : Nat} (hx : x ≠ 0) (k : Ex g mX7_init 4 L rest h u Q) (hr : rest.length ≤ 4 := by exact Nat.le_of_ble_eq_true rfl) : Ex g mX7_init 1 L (vR x :: rest) h u Q := x_objInit lkX7_3 (lg_1 (i := 40) (by decide +kernel) rfl) (lg_1 (i := 41) (by decide +kernel) rfl) hx (by decide) hr (by decide +kernel) k
theorem nX6_featuresOf {g : Gp} {h : AH} {Q : PQ} {x : Nat} {i1 : Int32} (k : Ex g mX6_featuresOf 0 [vR x, vI i1] [] h (0, 0) Q) : Ev g mX6_featuresOf [vR x, vI i1] h Q := Ev.of (by decide +kernel) rfl (Nat.le_of_ble_eq_true rfl) k
theorem qX6_featuresOf : mR mX6_featuresOf = (some FieldType.int) := rfl
def bX6_featuresOf_0 : List OP := [(.aload_n 0, 1, (0, 0, 0), vU), (.getfield 9, 3, (7, 0, 2), vU), (.iload_n 1, 1, (1, 0, 0), vU), (.iaload, 1, (0, 0, 0), vU), (.ireturn, 1, (0, 0, 0), vU)]
theorem oX6_featuresOf_0 : okAt mX6_featuresOf bX6_featuresOf_0 0 = true := by decide +kernel
theorem rX6_featuresOf_0 {g : Gp} {Q : PQ} {L st : List AV} {h : AH} {u : Nat × Nat} (hr : run mX6_featuresOf Q (fun pc L st h u => Ex g mX6_featuresOf pc L st h u Q) bX6_featuresOf_0 0 L st h u) : Ex g mX6_featuresOf 0 L st h u Q := run_ok (M := mX6_featuresOf) cfX6_ok (fun _ _ _ _ _ k => k) _ _ _ _ _ _ oX6_featuresOf_0 hr
theorem nJ6_bitCount_0f7a4 {g : Gp} {h : AH} {Q : PQ} {i1 : Int32} (k : Ex g mJ6_bitCount_0f7a4 0 [vI i1] [] h (0, 0) Q) : Ev g mJ6_bitCount_0f7a4 [vI i1] h Q := Ev.of (by decide +kernel) rfl (Nat.le_of_ble_eq_true rfl) k
theorem qJ6_bitCount_0f7a4 : mR mJ6_bitCount_0f7a4 = (some FieldType.int) := rfl
def bJ6_bitCount_0f7a4_0 : List OP := [(.iload_n 0, 1, (0, 0, 0), vU), (.iload_n 0, 1, (0, 0, 0), vU), (.iconst 1, 1, (0, 0, 0), vI 1), (.iushr, 1, (0, 0, 0), vU), (.ldc_w 265, 3, (0, 0, 0), vI 1431655765), (.iand, 1, (0, 0, 0), vU), (.isub, 1, (0, 0, 0), vU), (.istore_n 0, 1, (0, 0, 0), vU), (.iload_n 0, 1, (0, 0, 0), vU), (.ldc_w 266, 3, (0, 0, 0), vI 858993459), (.iand, 1, (0, 0, 0), vU), (.iload_n 0, 1, (0, 0, 0), vU), (.iconst 2, 1, (0, 0, 0), vI 2), (.iushr, 1, (0, 0, 0), vU), (.ldc_w 266, 3, (0, 0, 0), vI 858993459), (.iand, 1, (0, 0, 0), vU), (.iadd, 1, (0, 0, 0), vU), (.istore_n 0, 1, (0, 0, 0), vU), (.iload_n 0, 1, (0, 0, 0), vU), (.iload_n 0, 1, (0, 0, 0), vU), (.iconst 4, 1, (0, 0, 0), vI 4), (.iushr, 1, (0, 0, 0), vU), (.iadd, 1, (0, 0, 0), vU), (.ldc_w 267, 3, (0, 0, 0), vI 252645135), (.iand, 1, (0, 0, 0), vU), (.istore_n 0, 1, (0, 0, 0), vU), (.iload_n 0, 1, (0, 0, 0), vU), (.iload_n 0, 1, (0, 0, 0), vU), (.bipush 8, 2, (0, 0, 0), vI 8), (.iushr, 1, (0, 0, 0), vU), (.iadd, 1, (0, 0, 0), vU), (.istore_n 0, 1, (0, 0, 0), vU), (.iload_n 0, 1, (0, 0, 0), vU), (.iload_n 0, 1, (0, 0, 0), vU), (.bipush 16, 2, (0, 0, 0), vI 16), (.iushr, 1, (0, 0, 0), vU), (.iadd, 1, (0, 0, 0), vU), (.istore_n 0, 1, (0, 0, 0), vU), (.iload_n 0, 1, (0, 0, 0), vU), (.bipush 63, 2, (0, 0, 0), vI 63), (.iand, 1, (0, 0, 0), vU), (.ireturn, 1, (0, 0, 0), vU)]
theorem oJ6_bitCount_0f7a4_0 : okAt mJ6_bitCount_0f7a4 bJ6_bitCount_0f7a4_0 0 = true := by decide +kernel
theorem rJ6_bitCount_0f7a4_0 {g : Gp} {Q : PQ} {L st : List AV} {h : AH} {u : Nat × Nat} (hr : run mJ6_bitCount_0f7a4 Q (fun pc L st h u => Ex g mJ6_bitCount_0f7a4 pc L st h u Q) bJ6_bitCount_0f7a4_0 0 L st h u) : Ex g mJ6_bitCount_0f7a4 0 L st h u Q := run_ok (M := mJ6_bitCount_0f7a4) cfJ6_ok (fun _ _ _ _ _ k => k) _ _ _ _ _ _ oJ6_bitCount_0f7a4_0 hr
theorem nX6_giveFeatures {g : Gp} {h : AH} {Q : PQ} {x : Nat} {i1 : Int32} {i2 : Int32} (k : Ex g mX6_giveFeatures 0 [vR x, vI i1, vI i2, vU, vU] [] h (0, 0) Q) : Ev g mX6_giveFeatures [vR x, vI i1, vI i2] h Q := Ev.of (by decide +kernel) rfl (Nat.le_of_ble_eq_true rfl) k
theorem qX6_giveFeatures : mR mX6_giveFeatures = none := rfl
def bX6_giveFeatures_0 : List OP := [(.aload_n 0, 1, (0, 0, 0), vU), (.getfield 9, 3, (7, 0, 2), vU), (.iload_n 1, 1, (1, 0, 0), vU), (.iload_n 2, 1, (2, 0, 0), vU), (.iastore, 1, (0, 0, 0), vU), (.iconst 0, 1, (0, 0, 0), vI 0), (.istore_n 3, 1, (3, 0, 0), vU)]
theorem oX6_giveFeatures_0 : okAt mX6_giveFeatures bX6_giveFeatures_0 0 = true := by decide +kernel
theorem rX6_giveFeatures_0 {g : Gp} {Q : PQ} {L st : List AV} {h : AH} {u : Nat × Nat} (hr : run mX6_giveFeatures Q (fun pc L st h u => Ex g mX6_giveFeatures pc L st h u Q) bX6_giveFeatures_0 0 L st h u) : Ex g mX6_giveFeatures 0 L st h u Q := run_ok (M := mX6_giveFeatures) cfX6_ok (fun _ _ _ _ _ k => k) _ _ _ _ _ _ oX6_giveFeatures_0 hr
def bX6_giveFeatures_9 : List OP := [(.iload_n 3, 1, (3, 0, 0), vU), (.bipush 16, 2, (0, 0, 0), vI 16), (.if_icmp .ge 53, 3, (65, 0, 0), vU), (.iload_n 3, 1, (3, 0, 0), vU), (.iload_n 1, 1, (1, 0, 0), vU), (.if_icmp .ne 7, 3, (24, 0, 0), vU), (.iconst 0, 1, (0, 0, 0), vI 0), (.goto 16, 3, (37, 0, 0), vU), (.istore 4, 2, (4, 0, 0), vU), (.aload_n 0, 1, (0, 0, 0), vU), (.getfield 17, 3, (7, 1, 2), vU), (.iload_n 1, 1, (1, 0, 0), vU), (.aaload, 1, (0, 0, 0), vU), (.iload_n 3, 1, (3, 0, 0), vU), (.iload 4, 2, (4, 0, 0), vU), (.iastore, 1, (0, 0, 0), vU), (.aload_n 0, 1, (0, 0, 0), vU), (.getfield 17, 3, (7, 1, 2), vU), (.iload_n 3, 1, (3, 0, 0), vU), (.aaload, 1, (0, 0, 0), vU), (.iload_n 1, 1, (1, 0, 0), vU), (.iload 4, 2, (4, 0, 0), vU), (.iastore, 1, (0, 0, 0), vU), (.iinc 3 1, 3, (3, 0, 0), vI 1), (.goto (-53), 3, (9, 0, 0), vU)]
theorem oX6_giveFeatures_9 : okAt mX6_giveFeatures bX6_giveFeatures_9 9 = true := by decide +kernel
theorem rX6_giveFeatures_9 {g : Gp} {Q : PQ} {L st : List AV} {h : AH} {u : Nat × Nat} (hr : run mX6_giveFeatures Q (fun pc L st h u => Ex g mX6_giveFeatures pc L st h u Q) bX6_giveFeatures_9 9 L st h u) : Ex g mX6_giveFeatures 9 L st h u Q := run_ok (M := mX6_giveFeatures) cfX6_ok (fun _ _ _ _ _ k => k) _ _ _ _ _ _ oX6_giveFeatures_9 hr
def bX6_giveFeatures_24 : List OP := [(.iconst 1, 1, (0, 0, 0), vI 1), (.iload_n 2, 1, (2, 0, 0), vU), (.aload_n 0, 1, (0, 0, 0), vU), (.getfield 9, 3, (7, 0, 2), vU), (.iload_n 3, 1, (3, 0, 0), vU), (.iaload, 1, (0, 0, 0), vU), (.ixor, 1, (0, 0, 0), vU)]
theorem oX6_giveFeatures_24 : okAt mX6_giveFeatures bX6_giveFeatures_24 24 = true := by decide +kernel
theorem rX6_giveFeatures_24 {g : Gp} {Q : PQ} {L st : List AV} {h : AH} {u : Nat × Nat} (hr : run mX6_giveFeatures Q (fun pc L st h u => Ex g mX6_giveFeatures pc L st h u Q) bX6_giveFeatures_24 24 L st h u) : Ex g mX6_giveFeatures 24 L st h u Q := run_ok (M := mX6_giveFeatures) cfX6_ok (fun _ _ _ _ _ k => k) _ _ _ _ _ _ oX6_giveFeatures_24 hr
def bX6_giveFeatures_36 : List OP := [(.iadd, 1, (0, 0, 0), vU), (.istore 4, 2, (4, 0, 0), vU), (.aload_n 0, 1, (0, 0, 0), vU), (.getfield 17, 3, (7, 1, 2), vU), (.iload_n 1, 1, (1, 0, 0), vU), (.aaload, 1, (0, 0, 0), vU), (.iload_n 3, 1, (3, 0, 0), vU), (.iload 4, 2, (4, 0, 0), vU), (.iastore, 1, (0, 0, 0), vU), (.aload_n 0, 1, (0, 0, 0), vU), (.getfield 17, 3, (7, 1, 2), vU), (.iload_n 3, 1, (3, 0, 0), vU), (.aaload, 1, (0, 0, 0), vU), (.iload_n 1, 1, (1, 0, 0), vU), (.iload 4, 2, (4, 0, 0), vU), (.iastore, 1, (0, 0, 0), vU), (.iinc 3 1, 3, (3, 0, 0), vI 1), (.goto (-53), 3, (9, 0, 0), vU)]
theorem oX6_giveFeatures_36 : okAt mX6_giveFeatures bX6_giveFeatures_36 36 = true := by decide +kernel
theorem rX6_giveFeatures_36 {g : Gp} {Q : PQ} {L st : List AV} {h : AH} {u : Nat × Nat} (hr : run mX6_giveFeatures Q (fun pc L st h u => Ex g mX6_giveFeatures pc L st h u Q) bX6_giveFeatures_36 36 L st h u) : Ex g mX6_giveFeatures 36 L st h u Q := run_ok (M := mX6_giveFeatures) cfX6_ok (fun _ _ _ _ _ k => k) _ _ _ _ _ _ oX6_giveFeatures_36 hr
def bX6_giveFeatures_65 : List OP := [(.return_, 1, (0, 0, 0), vU)]
theorem oX6_giveFeatures_65 : okAt mX6_giveFeatures bX6_giveFeatures_65 65 = true := by decide +kernel
theorem rX6_giveFeatures_65 {g : Gp} {Q : PQ} {L st : List AV} {h : AH} {u : Nat × Nat} (hr : run mX6_giveFeatures Q (fun pc L st h u => Ex g mX6_giveFeatures pc L st h u Q) bX6_giveFeatures_65 65 L st h u) : Ex g mX6_giveFeatures 65 L st h u Q := run_ok (M := mX6_giveFeatures) cfX6_ok (fun _ _ _ _ _ k => k) _ _ _ _ _ _ oX6_giveFeatures_65 hr
theorem sX6_giveFeatures_33 {g : Gp} {L rest : List AV} {h : AH} {u : Nat × Nat} {Q : PQ} {a1 : AV}  (ev : Ev g mJ6_bitCount_0f7a4 [a1] h (cont g mX6_giveFeatures 36 L rest u Q)) (hr : rest.length ≤ 4 := by exact Nat.le_of_ble_eq_true rfl) : Ex g mX6_giveFeatures 33 L (a1 :: rest) h u Q := Ex.bud (fun w1 w2 => Ex.callS (av := [a1]) rfl mJ6_bitCount_0f7a4_ok rfl lkX6_26 smJ6_bitCount_0f7a4 (by decide) w1 w2 hr (by decide +kernel) ev (fun _ _ k => k) (fun _ _ z => z))
theorem nX4_forget {g : Gp} {h : AH} {Q : PQ} {x : Nat} {i1 : Int32} (k : Ex g mX4_forget 0 [vR x, vI i1] [] h (0, 0) Q) : Ev g mX4_forget [vR x, vI i1] h Q := Ev.of (by decide +kernel) rfl (Nat.le_of_ble_eq_true rfl) k
theorem qX4_forget : mR mX4_forget = none := rfl
def bX4_forget_0 : List OP := [(.aload_n 0, 1, (0, 0, 0), vU), (.getfield 22, 3, (5, 6, 2), vU), (.iload_n 1, 1, (1, 0, 0), vU), (.iconst 0, 1, (0, 0, 0), vI 0), (.bastore, 1, (0, 0, 0), vU), (.return_, 1, (0, 0, 0), vU)]
theorem oX4_forget_0 : okAt mX4_forget bX4_forget_0 0 = true := by decide +kernel
theorem rX4_forget_0 {g : Gp} {Q : PQ} {L st : List AV} {h : AH} {u : Nat × Nat} (hr : run mX4_forget Q (fun pc L st h u => Ex g mX4_forget pc L st h u Q) bX4_forget_0 0 L st h u) : Ex g mX4_forget 0 L st h u Q := run_ok (M := mX4_forget) cfX4_ok (fun _ _ _ _ _ k => k) _ _ _ _ _ _ oX4_forget_0 hr
theorem nX8_size {g : Gp} {h : AH} {Q : PQ} {i1 : Int64} (k : Ex g mX8_size 0 [vL i1, vU] [] h (0, 0) Q) : Ev g mX8_size [vL i1] h Q := Ev.of (by decide +kernel) rfl (Nat.le_of_ble_eq_true rfl) k
theorem qX8_size : mR mX8_size = (some FieldType.int) := rfl
def bX8_size_0 : List OP := [(.lload_n 0, 1, (0, 0, 0), vU), (.bipush 40, 2, (0, 0, 0), vI 40), (.lushr, 1, (0, 0, 0), vU), (.l2i, 1, (0, 0, 0), vU), (.ireturn, 1, (0, 0, 0), vU)]
theorem oX8_size_0 : okAt mX8_size bX8_size_0 0 = true := by decide +kernel
theorem rX8_size_0 {g : Gp} {Q : PQ} {L st : List AV} {h : AH} {u : Nat × Nat} (hr : run mX8_size Q (fun pc L st h u => Ex g mX8_size pc L st h u Q) bX8_size_0 0 L st h u) : Ex g mX8_size 0 L st h u Q := run_ok (M := mX8_size) cfX8_ok (fun _ _ _ _ _ k => k) _ _ _ _ _ _ oX8_size_0 hr
theorem nX8_plus {g : Gp} {h : AH} {Q : PQ} {i1 : Int64} {i2 : Int32} (k : Ex g mX8_plus 0 [vL i1, vU, vI i2] [] h (0, 0) Q) : Ev g mX8_plus [vL i1, vI i2] h Q := Ev.of (by decide +kernel) rfl (Nat.le_of_ble_eq_true rfl) k
theorem qX8_plus : mR mX8_plus = (some FieldType.long) := rfl
def bX8_plus_0 : List OP := [(.lload_n 0, 1, (0, 0, 0), vU), (.ldc2_w 11, 3, (0, 0, 0), vL 1099511627776), (.ladd, 1, (0, 0, 0), vU), (.iload_n 2, 1, (2, 0, 0), vU), (.i2l, 1, (0, 0, 0), vU), (.iconst 4, 1, (0, 0, 0), vI 4), (.lload_n 0, 1, (0, 0, 0), vU)]
theorem oX8_plus_0 : okAt mX8_plus bX8_plus_0 0 = true := by decide +kernel
theorem rX8_plus_0 {g : Gp} {Q : PQ} {L st : List AV} {h : AH} {u : Nat × Nat} (hr : run mX8_plus Q (fun pc L st h u => Ex g mX8_plus pc L st h u Q) bX8_plus_0 0 L st h u) : Ex g mX8_plus 0 L st h u Q := run_ok (M := mX8_plus) cfX8_ok (fun _ _ _ _ _ k => k) _ _ _ _ _ _ oX8_plus_0 hr
def bX8_plus_12 : List OP := [(.imul, 1, (0, 0, 0), vU), (.lshl, 1, (0, 0, 0), vU), (.lor, 1, (0, 0, 0), vU), (.lreturn, 1, (0, 0, 0), vU)]
theorem oX8_plus_12 : okAt mX8_plus bX8_plus_12 12 = true := by decide +kernel
theorem rX8_plus_12 {g : Gp} {Q : PQ} {L st : List AV} {h : AH} {u : Nat × Nat} (hr : run mX8_plus Q (fun pc L st h u => Ex g mX8_plus pc L st h u Q) bX8_plus_12 12 L st h u) : Ex g mX8_plus 12 L st h u Q := run_ok (M := mX8_plus) cfX8_ok (fun _ _ _ _ _ k => k) _ _ _ _ _ _ oX8_plus_12 hr
theorem sX8_plus_9 {g : Gp} {L rest : List AV} {h : AH} {u : Nat × Nat} {Q : PQ} {a1 : AV}  (ev : Ev g mX8_size [a1] h (cont g mX8_plus 12 L rest u Q)) (hr : rest.length ≤ 4 := by exact Nat.le_of_ble_eq_true rfl) : Ex g mX8_plus 9 L (a1 :: rest) h u Q := Ex.bud (fun w1 w2 => Ex.callS (av := [a1]) rfl mX8_size_ok rfl lkX8_13 smX8_size (by decide) w1 w2 hr (by decide +kernel) ev (fun _ _ k => k) (fun _ _ z => z))
theorem nJx4a65c_size_8abf5 {g : Gp} {h : AH} {Q : PQ} {x : Nat} (k : Ex g mJx4a65c_size_8abf5 0 [vR x] [] h (0, 0) Q) : Ev g mJx4a65c_size_8abf5 [vR x] h Q := Ev.of (by decide +kernel) rfl (Nat.le_of_ble_eq_true rfl) k
theorem qJx4a65c_size_8abf5 : mR mJx4a65c_size_8abf5 = (some FieldType.int) := rfl
def bJx4a65c_size_8abf5_0 : List OP := [(.aload_n 0, 1, (0, 0, 0), vU), (.getfield 48, 3, (0, 2, 0), vU), (.ireturn, 1, (0, 0, 0), vU)]
theorem oJx4a65c_size_8abf5_0 : okAt mJx4a65c_size_8abf5 bJx4a65c_size_8abf5_0 0 = true := by decide +kernel
theorem rJx4a65c_size_8abf5_0 {g : Gp} {Q : PQ} {L st : List AV} {h : AH} {u : Nat × Nat} (hr : run mJx4a65c_size_8abf5 Q (fun pc L st h u => Ex g mJx4a65c_size_8abf5 pc L st h u Q) bJx4a65c_size_8abf5_0 0 L st h u) : Ex g mJx4a65c_size_8abf5 0 L st h u Q := run_ok (M := mJx4a65c_size_8abf5) cfJx4a65c_ok (fun _ _ _ _ _ k => k) _ _ _ _ _ _ oJx4a65c_size_8abf5_0 hr
theorem nJ3_checkIndex_8e157 {g : Gp} {h : AH} {Q : PQ} {i1 : Int32} {i2 : Int32} {i3 : Nat} (k : Ex g mJ3_checkIndex_8e157 0 [vI i1, vI i2, vR i3] [] h (0, 0) Q) : Ev g mJ3_checkIndex_8e157 [vI i1, vI i2, vR i3] h Q := Ev.of (by decide +kernel) rfl (Nat.le_of_ble_eq_true rfl) k
theorem qJ3_checkIndex_8e157 : mR mJ3_checkIndex_8e157 = (some FieldType.int) := rfl
def bJ3_checkIndex_8e157_0 : List OP := [(.iload_n 0, 1, (0, 0, 0), vU), (.ifCond .lt 8, 3, (9, 0, 0), vU), (.iload_n 0, 1, (0, 0, 0), vU), (.iload_n 1, 1, (1, 0, 0), vU), (.if_icmp .lt 10, 3, (16, 0, 0), vU), (.aload_n 2, 1, (2, 0, 0), vU), (.iload_n 0, 1, (0, 0, 0), vU), (.iload_n 1, 1, (1, 0, 0), vU)]
theorem oJ3_checkIndex_8e157_0 : okAt mJ3_checkIndex_8e157 bJ3_checkIndex_8e157_0 0 = true := by decide +kernel
theorem rJ3_checkIndex_8e157_0 {g : Gp} {Q : PQ} {L st : List AV} {h : AH} {u : Nat × Nat} (hr : run mJ3_checkIndex_8e157 Q (fun pc L st h u => Ex g mJ3_checkIndex_8e157 pc L st h u Q) bJ3_checkIndex_8e157_0 0 L st h u) : Ex g mJ3_checkIndex_8e157 0 L st h u Q := run_ok (M := mJ3_checkIndex_8e157) cfJ3_ok (fun _ _ _ _ _ k => k) _ _ _ _ _ _ oJ3_checkIndex_8e157_0 hr
def bJ3_checkIndex_8e157_9 : List OP := [(.aload_n 2, 1, (2, 0, 0), vU), (.iload_n 0, 1, (0, 0, 0), vU), (.iload_n 1, 1, (1, 0, 0), vU)]
theorem oJ3_checkIndex_8e157_9 : okAt mJ3_checkIndex_8e157 bJ3_checkIndex_8e157_9 9 = true := by decide +kernel
theorem rJ3_checkIndex_8e157_9 {g : Gp} {Q : PQ} {L st : List AV} {h : AH} {u : Nat × Nat} (hr : run mJ3_checkIndex_8e157 Q (fun pc L st h u => Ex g mJ3_checkIndex_8e157 pc L st h u Q) bJ3_checkIndex_8e157_9 9 L st h u) : Ex g mJ3_checkIndex_8e157 9 L st h u Q := run_ok (M := mJ3_checkIndex_8e157) cfJ3_ok (fun _ _ _ _ _ k => k) _ _ _ _ _ _ oJ3_checkIndex_8e157_9 hr
def bJ3_checkIndex_8e157_16 : List OP := [(.iload_n 0, 1, (0, 0, 0), vU), (.ireturn, 1, (0, 0, 0), vU)]
theorem oJ3_checkIndex_8e157_16 : okAt mJ3_checkIndex_8e157 bJ3_checkIndex_8e157_16 16 = true := by decide +kernel
theorem rJ3_checkIndex_8e157_16 {g : Gp} {Q : PQ} {L st : List AV} {h : AH} {u : Nat × Nat} (hr : run mJ3_checkIndex_8e157 Q (fun pc L st h u => Ex g mJ3_checkIndex_8e157 pc L st h u Q) bJ3_checkIndex_8e157_16 16 L st h u) : Ex g mJ3_checkIndex_8e157 16 L st h u Q := run_ok (M := mJ3_checkIndex_8e157) cfJ3_ok (fun _ _ _ _ _ k => k) _ _ _ _ _ _ oJ3_checkIndex_8e157_16 hr
theorem nJ15_checkIndex_7cf53 {g : Gp} {h : AH} {Q : PQ} {i1 : Int32} {i2 : Int32} (k : Ex g mJ15_checkIndex_7cf53 0 [vI i1, vI i2] [] h (0, 0) Q) : Ev g mJ15_checkIndex_7cf53 [vI i1, vI i2] h Q := Ev.of (by decide +kernel) rfl (Nat.le_of_ble_eq_true rfl) k
theorem qJ15_checkIndex_7cf53 : mR mJ15_checkIndex_7cf53 = (some FieldType.int) := rfl
def bJ15_checkIndex_7cf53_0 : List OP := [(.iload_n 0, 1, (0, 0, 0), vU), (.iload_n 1, 1, (1, 0, 0), vU), (.aconst_null, 1, (0, 0, 0), vU)]
theorem oJ15_checkIndex_7cf53_0 : okAt mJ15_checkIndex_7cf53 bJ15_checkIndex_7cf53_0 0 = true := by decide +kernel
theorem rJ15_checkIndex_7cf53_0 {g : Gp} {Q : PQ} {L st : List AV} {h : AH} {u : Nat × Nat} (hr : run mJ15_checkIndex_7cf53 Q (fun pc L st h u => Ex g mJ15_checkIndex_7cf53 pc L st h u Q) bJ15_checkIndex_7cf53_0 0 L st h u) : Ex g mJ15_checkIndex_7cf53 0 L st h u Q := run_ok (M := mJ15_checkIndex_7cf53) cfJ15_ok (fun _ _ _ _ _ k => k) _ _ _ _ _ _ oJ15_checkIndex_7cf53_0 hr
def bJ15_checkIndex_7cf53_6 : List OP := [(.ireturn, 1, (0, 0, 0), vU)]
theorem oJ15_checkIndex_7cf53_6 : okAt mJ15_checkIndex_7cf53 bJ15_checkIndex_7cf53_6 6 = true := by decide +kernel
theorem rJ15_checkIndex_7cf53_6 {g : Gp} {Q : PQ} {L st : List AV} {h : AH} {u : Nat × Nat} (hr : run mJ15_checkIndex_7cf53 Q (fun pc L st h u => Ex g mJ15_checkIndex_7cf53 pc L st h u Q) bJ15_checkIndex_7cf53_6 6 L st h u) : Ex g mJ15_checkIndex_7cf53 6 L st h u Q := run_ok (M := mJ15_checkIndex_7cf53) cfJ15_ok (fun _ _ _ _ _ k => k) _ _ _ _ _ _ oJ15_checkIndex_7cf53_6 hr
theorem sJ15_checkIndex_7cf53_3 {g : Gp} {L rest : List AV} {h : AH} {u : Nat × Nat} {Q : PQ} {a1 a2 a3 : AV}  (ev : Ev g mJ3_checkIndex_8e157 [a1, a2, a3] h (cont g mJ15_checkIndex_7cf53 6 L rest u Q)) (hr : rest.length ≤ 4 := by exact Nat.le_of_ble_eq_true rfl) : Ex g mJ15_checkIndex_7cf53 3 L (a3 :: a2 :: a1 :: rest) h u Q := Ex.bud (fun w1 w2 => Ex.callS (av := [a1, a2, a3]) rfl mJ3_checkIndex_8e157_ok rfl lkJ15_105 smJ3_checkIndex_8e157 (by decide) w1 w2 hr (by decide +kernel) ev (fun _ _ k => k) (fun _ _ z => z))
theorem nJx4a65c_elementData_915e3 {g : Gp} {h : AH} {Q : PQ} {x : Nat} {i1 : Int32} (k : Ex g mJx4a65c_elementData_915e3 0 [vR x, vI i1] [] h (0, 0) Q) : Ev g mJx4a65c_elementData_915e3 [vR x, vI i1] h Q := Ev.of (by decide +kernel) rfl (Nat.le_of_ble_eq_true rfl) k
theorem qJx4a65c_elementData_915e3 : mR mJx4a65c_elementData_915e3 = (some (FieldType.object "java/lang/Object")) := rfl
def bJx4a65c_elementData_915e3_0 : List OP := [(.aload_n 0, 1, (0, 0, 0), vU), (.getfield 9, 3, (0, 1, 2), vU), (.iload_n 1, 1, (1, 0, 0), vU), (.aaload, 1, (0, 0, 0), vU), (.areturn, 1, (0, 0, 0), vU)]
theorem oJx4a65c_elementData_915e3_0 : okAt mJx4a65c_elementData_915e3 bJx4a65c_elementData_915e3_0 0 = true := by decide +kernel
theorem rJx4a65c_elementData_915e3_0 {g : Gp} {Q : PQ} {L st : List AV} {h : AH} {u : Nat × Nat} (hr : run mJx4a65c_elementData_915e3 Q (fun pc L st h u => Ex g mJx4a65c_elementData_915e3 pc L st h u Q) bJx4a65c_elementData_915e3_0 0 L st h u) : Ex g mJx4a65c_elementData_915e3 0 L st h u Q := run_ok (M := mJx4a65c_elementData_915e3) cfJx4a65c_ok (fun _ _ _ _ _ k => k) _ _ _ _ _ _ oJx4a65c_elementData_915e3_0 hr
theorem nJx4a65c_get_915e3 {g : Gp} {h : AH} {Q : PQ} {x : Nat} {i1 : Int32} (k : Ex g mJx4a65c_get_915e3 0 [vR x, vI i1] [] h (0, 0) Q) : Ev g mJx4a65c_get_915e3 [vR x, vI i1] h Q := Ev.of (by decide +kernel) rfl (Nat.le_of_ble_eq_true rfl) k
theorem qJx4a65c_get_915e3 : mR mJx4a65c_get_915e3 = (some (FieldType.object "java/lang/Object")) := rfl
def bJx4a65c_get_915e3_0 : List OP := [(.iload_n 1, 1, (1, 0, 0), vU), (.aload_n 0, 1, (0, 0, 0), vU), (.getfield 48, 3, (0, 2, 0), vU)]
theorem oJx4a65c_get_915e3_0 : okAt mJx4a65c_get_915e3 bJx4a65c_get_915e3_0 0 = true := by decide +kernel
theorem rJx4a65c_get_915e3_0 {g : Gp} {Q : PQ} {L st : List AV} {h : AH} {u : Nat × Nat} (hr : run mJx4a65c_get_915e3 Q (fun pc L st h u => Ex g mJx4a65c_get_915e3 pc L st h u Q) bJx4a65c_get_915e3_0 0 L st h u) : Ex g mJx4a65c_get_915e3 0 L st h u Q := run_ok (M := mJx4a65c_get_915e3) cfJx4a65c_ok (fun _ _ _ _ _ k => k) _ _ _ _ _ _ oJx4a65c_get_915e3_0 hr
def bJx4a65c_get_915e3_8 : List OP := [(.pop, 1, (0, 0, 0), vU), (.aload_n 0, 1, (0, 0, 0), vU), (.iload_n 1, 1, (1, 0, 0), vU)]
theorem oJx4a65c_get_915e3_8 : okAt mJx4a65c_get_915e3 bJx4a65c_get_915e3_8 8 = true := by decide +kernel
theorem rJx4a65c_get_915e3_8 {g : Gp} {Q : PQ} {L st : List AV} {h : AH} {u : Nat × Nat} (hr : run mJx4a65c_get_915e3 Q (fun pc L st h u => Ex g mJx4a65c_get_915e3 pc L st h u Q) bJx4a65c_get_915e3_8 8 L st h u) : Ex g mJx4a65c_get_915e3 8 L st h u Q := run_ok (M := mJx4a65c_get_915e3) cfJx4a65c_ok (fun _ _ _ _ _ k => k) _ _ _ _ _ _ oJx4a65c_get_915e3_8 hr
def bJx4a65c_get_915e3_14 : List OP := [(.areturn, 1, (0, 0, 0), vU)]
theorem oJx4a65c_get_915e3_14 : okAt mJx4a65c_get_915e3 bJx4a65c_get_915e3_14 14 = true := by decide +kernel
theorem rJx4a65c_get_915e3_14 {g : Gp} {Q : PQ} {L st : List AV} {h : AH} {u : Nat × Nat} (hr : run mJx4a65c_get_915e3 Q (fun pc L st h u => Ex g mJx4a65c_get_915e3 pc L st h u Q) bJx4a65c_get_915e3_14 14 L st h u) : Ex g mJx4a65c_get_915e3 14 L st h u Q := run_ok (M := mJx4a65c_get_915e3) cfJx4a65c_ok (fun _ _ _ _ _ k => k) _ _ _ _ _ _ oJx4a65c_get_915e3_14 hr
theorem sJx4a65c_get_915e3_5 {g : Gp} {L rest : List AV} {h : AH} {u : Nat × Nat} {Q : PQ} {a1 a2 : AV}  (ev : Ev g mJ15_checkIndex_7cf53 [a1, a2] h (cont g mJx4a65c_get_915e3 8 L rest u Q)) (hr : rest.length ≤ 4 := by exact Nat.le_of_ble_eq_true rfl) : Ex g mJx4a65c_get_915e3 5 L (a2 :: a1 :: rest) h u Q := Ex.bud (fun w1 w2 => Ex.callS (av := [a1, a2]) rfl mJ15_checkIndex_7cf53_ok rfl lkJx4a65c_118 smJ15_checkIndex_7cf53 (by decide) w1 w2 hr (by decide +kernel) ev (fun _ _ k => k) (fun _ _ z => z))
theorem sJx4a65c_get_915e3_11 {g : Gp} {L rest : List AV} {h : AH} {u : Nat × Nat} {Q : PQ} {x : Nat} {a1 : AV}  (hx : zK h x = (1, 0)) (ev : Ev g mJx4a65c_elementData_915e3 (vR x :: [a1]) h (cont g mJx4a65c_get_915e3 14 L rest u Q)) (hr : rest.length ≤ 4 := by exact Nat.le_of_ble_eq_true rfl) : Ex g mJx4a65c_get_915e3 11 L (a1 :: vR x :: rest) h u Q := Ex.bud (fun w1 w2 => Ex.callV (av := [a1]) (r := (RJx4a65c, TJx4a65c, 3)) rfl mJx4a65c_elementData_915e3_ok rfl lkJx4a65c_123 imJx4a65c_elementData_915e3 seJx4a65c_elementData_915e3 rfl hx (by decide) w1 w2 hr (by decide +kernel) ev (fun _ _ k => k) (fun _ _ z => z))
theorem nX3_init {g : Gp} {h : AH} {Q : PQ} {x : Nat} {i1 : Int32} {i2 : Int32} {i3 : Int32} {i4 : Int32} (k : Ex g mX3_init 0 [vR x, vI i1, vI i2, vI i3, vI i4] [] h (0, 0) Q) : Ev g mX3_init [vR x, vI i1, vI i2, vI i3, vI i4] h Q := Ev.of (by decide +kernel) rfl (Nat.le_of_ble_eq_true rfl) k
theorem qX3_init : mR mX3_init = none := rfl
def bX3_init_0 : List OP := [(.aload_n 0, 1, (0, 0, 0), vU)]
theorem oX3_init_0 : okAt mX3_init bX3_init_0 0 = true := by decide +kernel
theorem rX3_init_0 {g : Gp} {Q : PQ} {L st : List AV} {h : AH} {u : Nat × Nat} (hr : run mX3_init Q (fun pc L st h u => Ex g mX3_init pc L st h u Q) bX3_init_0 0 L st h u) : Ex g mX3_init 0 L st h u Q := run_ok (M := mX3_init) cfX3_ok (fun _ _ _ _ _ k => k) _ _ _ _ _ _ oX3_init_0 hr
def bX3_init_4 : List OP := [(.aload_n 0, 1, (0, 0, 0), vU), (.iload_n 1, 1, (1, 0, 0), vU), (.putfield 9, 3, (4, 0, 0), vU), (.aload_n 0, 1, (0, 0, 0), vU), (.iload_n 2, 1, (2, 0, 0), vU), (.putfield 15, 3, (4, 1, 0), vU), (.aload_n 0, 1, (0, 0, 0), vU), (.iload_n 3, 1, (3, 0, 0), vU), (.putfield 18, 3, (4, 2, 0), vU), (.aload_n 0, 1, (0, 0, 0), vU), (.iload 4, 2, (4, 0, 0), vU), (.putfield 21, 3, (4, 3, 0), vU), (.return_, 1, (0, 0, 0), vU)]
theorem oX3_init_4 : okAt mX3_init bX3_init_4 4 = true := by decide +kernel
theorem rX3_init_4 {g : Gp} {Q : PQ} {L st : List AV} {h : AH} {u : Nat × Nat} (hr : run mX3_init Q (fun pc L st h u => Ex g mX3_init pc L st h u Q) bX3_init_4 4 L st h u) : Ex g mX3_init 4 L st h u Q := run_ok (M := mX3_init) cfX3_ok (fun _ _ _ _ _ k => k) _ _ _ _ _ _ oX3_init_4 hr
theorem sX3_init_1 {g : Gp} {L rest : List AV} {h : AH} {u : Nat × Nat} {Q : PQ} {x : Nat} (hx : x ≠ 0) (k : Ex g mX3_init 4 L rest h u Q) (hr : rest.length ≤ 4 := by exact Nat.le_of_ble_eq_true rfl) : Ex g mX3_init 1 L (vR x :: rest) h u Q := x_objInit lkX3_3 (lg_1 (i := 40) (by decide +kernel) rfl) (lg_1 (i := 41) (by decide +kernel) rfl) hx (by decide) hr (by decide +kernel) k
theorem nJx4a65c_isEmpty_aae02 {g : Gp} {h : AH} {Q : PQ} {x : Nat} (k : Ex g mJx4a65c_isEmpty_aae02 0 [vR x] [] h (0, 0) Q) : Ev g mJx4a65c_isEmpty_aae02 [vR x] h Q := Ev.of (by decide +kernel) rfl (Nat.le_of_ble_eq_true rfl) k
theorem qJx4a65c_isEmpty_aae02 : mR mJx4a65c_isEmpty_aae02 = (some FieldType.boolean) := rfl
def bJx4a65c_isEmpty_aae02_0 : List OP := [(.aload_n 0, 1, (0, 0, 0), vU), (.getfield 48, 3, (0, 2, 0), vU), (.ifCond .ne 7, 3, (11, 0, 0), vU), (.iconst 1, 1, (0, 0, 0), vI 1), (.goto 4, 3, (12, 0, 0), vU), (.ireturn, 1, (0, 0, 0), vU)]
theorem oJx4a65c_isEmpty_aae02_0 : okAt mJx4a65c_isEmpty_aae02 bJx4a65c_isEmpty_aae02_0 0 = true := by decide +kernel
theorem rJx4a65c_isEmpty_aae02_0 {g : Gp} {Q : PQ} {L st : List AV} {h : AH} {u : Nat × Nat} (hr : run mJx4a65c_isEmpty_aae02 Q (fun pc L st h u => Ex g mJx4a65c_isEmpty_aae02 pc L st h u Q) bJx4a65c_isEmpty_aae02_0 0 L st h u) : Ex g mJx4a65c_isEmpty_aae02 0 L st h u Q := run_ok (M := mJx4a65c_isEmpty_aae02) cfJx4a65c_ok (fun _ _ _ _ _ k => k) _ _ _ _ _ _ oJx4a65c_isEmpty_aae02_0 hr
def bJx4a65c_isEmpty_aae02_11 : List OP := [(.iconst 0, 1, (0, 0, 0), vI 0), (.ireturn, 1, (0, 0, 0), vU)]
theorem oJx4a65c_isEmpty_aae02_11 : okAt mJx4a65c_isEmpty_aae02 bJx4a65c_isEmpty_aae02_11 11 = true := by decide +kernel
theorem rJx4a65c_isEmpty_aae02_11 {g : Gp} {Q : PQ} {L st : List AV} {h : AH} {u : Nat × Nat} (hr : run mJx4a65c_isEmpty_aae02 Q (fun pc L st h u => Ex g mJx4a65c_isEmpty_aae02 pc L st h u Q) bJx4a65c_isEmpty_aae02_11 11 L st h u) : Ex g mJx4a65c_isEmpty_aae02 11 L st h u Q := run_ok (M := mJx4a65c_isEmpty_aae02) cfJx4a65c_ok (fun _ _ _ _ _ k => k) _ _ _ _ _ _ oJx4a65c_isEmpty_aae02_11 hr
theorem nJx4a65c_fastRemove_b59b0 {g : Gp} {h : AH} {Q : PQ} {x : Nat} {i1 : Nat} {i2 : Int32} (k : Ex g mJx4a65c_fastRemove_b59b0 0 [vR x, vR i1, vI i2, vU] [] h (0, 0) Q) : Ev g mJx4a65c_fastRemove_b59b0 [vR x, vR i1, vI i2] h Q := Ev.of (by decide +kernel) rfl (Nat.le_of_ble_eq_true rfl) k
theorem qJx4a65c_fastRemove_b59b0 : mR mJx4a65c_fastRemove_b59b0 = none := rfl
def bJx4a65c_fastRemove_b59b0_0 : List OP := [(.aload_n 0, 1, (0, 0, 0), vU), (.dup, 1, (0, 0, 0), vU), (.getfield 63, 3, (0, 0, 0), vU), (.iconst 1, 1, (0, 0, 0), vI 1), (.iadd, 1, (0, 0, 0), vU), (.putfield 63, 3, (0, 0, 0), vU), (.aload_n 0, 1, (0, 0, 0), vU), (.getfield 48, 3, (0, 2, 0), vU), (.iconst 1, 1, (0, 0, 0), vI 1), (.isub, 1, (0, 0, 0), vU), (.dup, 1, (0, 0, 0), vU), (.istore_n 3, 1, (3, 0, 0), vU), (.iload_n 2, 1, (2, 0, 0), vU), (.if_icmp .le 15, 3, (34, 0, 0), vU), (.aload_n 1, 1, (1, 0, 0), vU), (.iload_n 2, 1, (2, 0, 0), vU), (.iconst 1, 1, (0, 0, 0), vI 1), (.iadd, 1, (0, 0, 0), vU), (.aload_n 1, 1, (1, 0, 0), vU), (.iload_n 2, 1, (2, 0, 0), vU), (.iload_n 3, 1, (3, 0, 0), vU), (.iload_n 2, 1, (2, 0, 0), vU), (.isub, 1, (0, 0, 0), vU)]
theorem oJx4a65c_fastRemove_b59b0_0 : okAt mJx4a65c_fastRemove_b59b0 bJx4a65c_fastRemove_b59b0_0 0 = true := by decide +kernel
theorem rJx4a65c_fastRemove_b59b0_0 {g : Gp} {Q : PQ} {L st : List AV} {h : AH} {u : Nat × Nat} (hr : run mJx4a65c_fastRemove_b59b0 Q (fun pc L st h u => Ex g mJx4a65c_fastRemove_b59b0 pc L st h u Q) bJx4a65c_fastRemove_b59b0_0 0 L st h u) : Ex g mJx4a65c_fastRemove_b59b0 0 L st h u Q := run_ok (M := mJx4a65c_fastRemove_b59b0) cfJx4a65c_ok (fun _ _ _ _ _ k => k) _ _ _ _ _ _ oJx4a65c_fastRemove_b59b0_0 hr
def bJx4a65c_fastRemove_b59b0_34 : List OP := [(.aload_n 1, 1, (1, 0, 0), vU), (.aload_n 0, 1, (0, 0, 0), vU), (.iload_n 3, 1, (3, 0, 0), vU), (.dup_x1, 1, (0, 0, 0), vU), (.putfield 48, 3, (0, 2, 0), vU), (.aconst_null, 1, (0, 0, 0), vU)]
theorem oJx4a65c_fastRemove_b59b0_34 : okAt mJx4a65c_fastRemove_b59b0 bJx4a65c_fastRemove_b59b0_34 34 = true := by decide +kernel
theorem rJx4a65c_fastRemove_b59b0_34 {g : Gp} {Q : PQ} {L st : List AV} {h : AH} {u : Nat × Nat} (hr : run mJx4a65c_fastRemove_b59b0 Q (fun pc L st h u => Ex g mJx4a65c_fastRemove_b59b0 pc L st h u Q) bJx4a65c_fastRemove_b59b0_34 34 L st h u) : Ex g mJx4a65c_fastRemove_b59b0 34 L st h u Q := run_ok (M := mJx4a65c_fastRemove_b59b0) cfJx4a65c_ok (fun _ _ _ _ _ k => k) _ _ _ _ _ _ oJx4a65c_fastRemove_b59b0_34 hr
def bJx4a65c_fastRemove_b59b0_43 : List OP := [(.return_, 1, (0, 0, 0), vU)]
theorem oJx4a65c_fastRemove_b59b0_43 : okAt mJx4a65c_fastRemove_b59b0 bJx4a65c_fastRemove_b59b0_43 43 = true := by decide +kernel
theorem rJx4a65c_fastRemove_b59b0_43 {g : Gp} {Q : PQ} {L st : List AV} {h : AH} {u : Nat × Nat} (hr : run mJx4a65c_fastRemove_b59b0 Q (fun pc L st h u => Ex g mJx4a65c_fastRemove_b59b0 pc L st h u Q) bJx4a65c_fastRemove_b59b0_43 43 L st h u) : Ex g mJx4a65c_fastRemove_b59b0 43 L st h u Q := run_ok (M := mJx4a65c_fastRemove_b59b0) cfJx4a65c_ok (fun _ _ _ _ _ k => k) _ _ _ _ _ _ oJx4a65c_fastRemove_b59b0_43 hr
theorem nJx4a65c_remove_915e3 {g : Gp} {h : AH} {Q : PQ} {x : Nat} {i1 : Int32} (k : Ex g mJx4a65c_remove_915e3 0 [vR x, vI i1, vU, vU] [] h (0, 0) Q) : Ev g mJx4a65c_remove_915e3 [vR x, vI i1] h Q := Ev.of (by decide +kernel) rfl (Nat.le_of_ble_eq_true rfl) k
theorem qJx4a65c_remove_915e3 : mR mJx4a65c_remove_915e3 = (some (FieldType.object "java/lang/Object")) := rfl
def bJx4a65c_remove_915e3_0 : List OP := [(.iload_n 1, 1, (1, 0, 0), vU), (.aload_n 0, 1, (0, 0, 0), vU), (.getfield 48, 3, (0, 2, 0), vU)]
theorem oJx4a65c_remove_915e3_0 : okAt mJx4a65c_remove_915e3 bJx4a65c_remove_915e3_0 0 = true := by decide +kernel
theorem rJx4a65c_remove_915e3_0 {g : Gp} {Q : PQ} {L st : List AV} {h : AH} {u : Nat × Nat} (hr : run mJx4a65c_remove_915e3 Q (fun pc L st h u => Ex g mJx4a65c_remove_915e3 pc L st h u Q) bJx4a65c_remove_915e3_0 0 L st h u) : Ex g mJx4a65c_remove_915e3 0 L st h u Q := run_ok (M := mJx4a65c_remove_915e3) cfJx4a65c_ok (fun _ _ _ _ _ k => k) _ _ _ _ _ _ oJx4a65c_remove_915e3_0 hr
def bJx4a65c_remove_915e3_8 : List OP := [(.pop, 1, (0, 0, 0), vU), (.aload_n 0, 1, (0, 0, 0), vU), (.getfield 9, 3, (0, 1, 2), vU), (.astore_n 2, 1, (2, 0, 0), vU), (.aload_n 2, 1, (2, 0, 0), vU), (.iload_n 1, 1, (1, 0, 0), vU), (.aaload, 1, (0, 0, 0), vU), (.astore_n 3, 1, (3, 0, 0), vU), (.aload_n 0, 1, (0, 0, 0), vU), (.aload_n 2, 1, (2, 0, 0), vU), (.iload_n 1, 1, (1, 0, 0), vU)]
theorem oJx4a65c_remove_915e3_8 : okAt mJx4a65c_remove_915e3 bJx4a65c_remove_915e3_8 8 = true := by decide +kernel
theorem rJx4a65c_remove_915e3_8 {g : Gp} {Q : PQ} {L st : List AV} {h : AH} {u : Nat × Nat} (hr : run mJx4a65c_remove_915e3 Q (fun pc L st h u => Ex g mJx4a65c_remove_915e3 pc L st h u Q) bJx4a65c_remove_915e3_8 8 L st h u) : Ex g mJx4a65c_remove_915e3 8 L st h u Q := run_ok (M := mJx4a65c_remove_915e3) cfJx4a65c_ok (fun _ _ _ _ _ k => k) _ _ _ _ _ _ oJx4a65c_remove_915e3_8 hr
def bJx4a65c_remove_915e3_24 : List OP := [(.aload_n 3, 1, (3, 0, 0), vU), (.areturn, 1, (0, 0, 0), vU)]
theorem oJx4a65c_remove_915e3_24 : okAt mJx4a65c_remove_915e3 bJx4a65c_remove_915e3_24 24 = true := by decide +kernel
theorem rJx4a65c_remove_915e3_24 {g : Gp} {Q : PQ} {L st : List AV} {h : AH} {u : Nat × Nat} (hr : run mJx4a65c_remove_915e3 Q (fun pc L st h u => Ex g mJx4a65c_remove_915e3 pc L st h u Q) bJx4a65c_remove_915e3_24 24 L st h u) : Ex g mJx4a65c_remove_915e3 24 L st h u Q := run_ok (M := mJx4a65c_remove_915e3) cfJx4a65c_ok (fun _ _ _ _ _ k => k) _ _ _ _ _ _ oJx4a65c_remove_915e3_24 hr
theorem sJx4a65c_remove_915e3_5 {g : Gp} {L rest : List AV} {h : AH} {u : Nat × Nat} {Q : PQ} {a1 a2 : AV}  (ev : Ev g mJ15_checkIndex_7cf53 [a1, a2] h (cont g mJx4a65c_remove_915e3 8 L rest u Q)) (hr : rest.length ≤ 4 := by exact Nat.le_of_ble_eq_true rfl) : Ex g mJx4a65c_remove_915e3 5 L (a2 :: a1 :: rest) h u Q := Ex.bud (fun w1 w2 => Ex.callS (av := [a1, a2]) rfl mJ15_checkIndex_7cf53_ok rfl lkJx4a65c_118 smJ15_checkIndex_7cf53 (by decide) w1 w2 hr (by decide +kernel) ev (fun _ _ k => k) (fun _ _ z => z))
theorem sJx4a65c_remove_915e3_21 {g : Gp} {L rest : List AV} {h : AH} {u : Nat × Nat} {Q : PQ} {x : Nat} {a1 a2 : AV}  (hx : zK h x = (1, 0)) (ev : Ev g mJx4a65c_fastRemove_b59b0 (vR x :: [a1, a2]) h (cont g mJx4a65c_remove_915e3 24 L rest u Q)) (hr : rest.length ≤ 4 := by exact Nat.le_of_ble_eq_true rfl) : Ex g mJx4a65c_remove_915e3 21 L (a2 :: a1 :: vR x :: rest) h u Q := Ex.bud (fun w1 w2 => Ex.callV (av := [a1, a2]) (r := (RJx4a65c, TJx4a65c, 3)) rfl mJx4a65c_fastRemove_b59b0_ok rfl lkJx4a65c_144 imJx4a65c_fastRemove_b59b0 seJx4a65c_fastRemove_b59b0 rfl hx (by decide) w1 w2 hr (by decide +kernel) ev (fun _ _ k => k) (fun _ _ z => z))
theorem nX5_init {g : Gp} {h : AH} {Q : PQ} {x : Nat} {i1 : Int32} {i2 : Int32} {i3 : Int32} {i4 : Int32} (k : Ex g mX5_init 0 [vR x, vI i1, vI i2, vI i3, vI i4] [] h (0, 0) Q) : Ev g mX5_init [vR x, vI i1, vI i2, vI i3, vI i4] h Q := Ev.of (by decide +kernel) rfl (Nat.le_of_ble_eq_true rfl) k
theorem qX5_init : mR mX5_init = none := rfl
def bX5_init_0 : List OP := [(.aload_n 0, 1, (0, 0, 0), vU)]
theorem oX5_init_0 : okAt mX5_init bX5_init_0 0 = true := by decide +kernel
theorem rX5_init_0 {g : Gp} {Q : PQ} {L st : List AV} {h : AH} {u : Nat × Nat} (hr : run mX5_init Q (fun pc L st h u => Ex g mX5_init pc L st h u Q) bX5_init_0 0 L st h u) : Ex g mX5_init 0 L st h u Q := run_ok (M := mX5_init) cfX5_ok (fun _ _ _ _ _ k => k) _ _ _ _ _ _ oX5_init_0 hr
def bX5_init_4 : List OP := [(.aload_n 0, 1, (0, 0, 0), vU), (.iload_n 1, 1, (1, 0, 0), vU), (.putfield 7, 3, (6, 0, 0), vU), (.aload_n 0, 1, (0, 0, 0), vU), (.iload_n 2, 1, (2, 0, 0), vU), (.putfield 13, 3, (6, 1, 0), vU), (.aload_n 0, 1, (0, 0, 0), vU), (.iload_n 3, 1, (3, 0, 0), vU), (.putfield 16, 3, (6, 2, 0), vU), (.aload_n 0, 1, (0, 0, 0), vU), (.iload 4, 2, (4, 0, 0), vU), (.putfield 19, 3, (6, 3, 0), vU), (.return_, 1, (0, 0, 0), vU)]
theorem oX5_init_4 : okAt mX5_init bX5_init_4 4 = true := by decide +kernel
theorem rX5_init_4 {g : Gp} {Q : PQ} {L st : List AV} {h : AH} {u : Nat × Nat} (hr : run mX5_init Q (fun pc L st h u => Ex g mX5_init pc L st h u Q) bX5_init_4 4 L st h u) : Ex g mX5_init 4 L st h u Q := run_ok (M := mX5_init) cfX5_ok (fun _ _ _ _ _ k => k) _ _ _ _ _ _ oX5_init_4 hr
theorem sX5_init_1 {g : Gp} {L rest : List AV} {h : AH} {u : Nat × Nat} {Q : PQ} {x : Nat} (hx : x ≠ 0) (k : Ex g mX5_init 4 L rest h u Q) (hr : rest.length ≤ 4 := by exact Nat.le_of_ble_eq_true rfl) : Ex g mX5_init 1 L (vR x :: rest) h u Q := x_objInit lkX5_1 (lg_1 (i := 40) (by decide +kernel) rfl) (lg_1 (i := 41) (by decide +kernel) rfl) hx (by decide) hr (by decide +kernel) k
theorem nX4_cell {g : Gp} {h : AH} {Q : PQ} {i1 : Int32} {i2 : Int32} (k : Ex g mX4_cell 0 [vI i1, vI i2] [] h (0, 0) Q) : Ev g mX4_cell [vI i1, vI i2] h Q := Ev.of (by decide +kernel) rfl (Nat.le_of_ble_eq_true rfl) k
theorem qX4_cell : mR mX4_cell = (some FieldType.int) := rfl
def bX4_cell_0 : List OP := [(.iload_n 0, 1, (0, 0, 0), vU), (.bipush 12, 2, (0, 0, 0), vI 12), (.imul, 1, (0, 0, 0), vU), (.iload_n 1, 1, (1, 0, 0), vU), (.iadd, 1, (0, 0, 0), vU), (.ireturn, 1, (0, 0, 0), vU)]
theorem oX4_cell_0 : okAt mX4_cell bX4_cell_0 0 = true := by decide +kernel
theorem rX4_cell_0 {g : Gp} {Q : PQ} {L st : List AV} {h : AH} {u : Nat × Nat} (hr : run mX4_cell Q (fun pc L st h u => Ex g mX4_cell pc L st h u Q) bX4_cell_0 0 L st h u) : Ex g mX4_cell 0 L st h u Q := run_ok (M := mX4_cell) cfX4_ok (fun _ _ _ _ _ k => k) _ _ _ _ _ _ oX4_cell_0 hr
theorem nX4_inherit {g : Gp} {h : AH} {Q : PQ} {x : Nat} {i1 : Int32} {i2 : Int32} (k : Ex g mX4_inherit 0 [vR x, vI i1, vI i2, vU, vU] [] h (0, 0) Q) : Ev g mX4_inherit [vR x, vI i1, vI i2] h Q := Ev.of (by decide +kernel) rfl (Nat.le_of_ble_eq_true rfl) k
theorem qX4_inherit : mR mX4_inherit = none := rfl
def bX4_inherit_0 : List OP := [(.iload_n 1, 1, (1, 0, 0), vU), (.iload_n 2, 1, (2, 0, 0), vU)]
theorem oX4_inherit_0 : okAt mX4_inherit bX4_inherit_0 0 = true := by decide +kernel
theorem rX4_inherit_0 {g : Gp} {Q : PQ} {L st : List AV} {h : AH} {u : Nat × Nat} (hr : run mX4_inherit Q (fun pc L st h u => Ex g mX4_inherit pc L st h u Q) bX4_inherit_0 0 L st h u) : Ex g mX4_inherit 0 L st h u Q := run_ok (M := mX4_inherit) cfX4_ok (fun _ _ _ _ _ k => k) _ _ _ _ _ _ oX4_inherit_0 hr
def bX4_inherit_5 : List OP := [(.istore_n 3, 1, (3, 0, 0), vU), (.aload_n 0, 1, (0, 0, 0), vU), (.getfield 26, 3, (5, 0, 2), vU), (.getfield 41, 3, (2, 0, 2), vU), (.iload_n 1, 1, (1, 0, 0), vU)]
theorem oX4_inherit_5 : okAt mX4_inherit bX4_inherit_5 5 = true := by decide +kernel
theorem rX4_inherit_5 {g : Gp} {Q : PQ} {L st : List AV} {h : AH} {u : Nat × Nat} (hr : run mX4_inherit Q (fun pc L st h u => Ex g mX4_inherit pc L st h u Q) bX4_inherit_5 5 L st h u) : Ex g mX4_inherit 5 L st h u Q := run_ok (M := mX4_inherit) cfX4_ok (fun _ _ _ _ _ k => k) _ _ _ _ _ _ oX4_inherit_5 hr
def bX4_inherit_17 : List OP := [(.checkcast 68, 3, (3, 0, 0), vU), (.getfield 83, 3, (3, 0, 0), vU), (.istore 4, 2, (4, 0, 0), vU), (.aload_n 0, 1, (0, 0, 0), vU), (.getfield 9, 3, (5, 3, 2), vU), (.iload_n 3, 1, (3, 0, 0), vU), (.iload 4, 2, (4, 0, 0), vU), (.iconst (-1), 1, (0, 0, 0), vI (-1)), (.if_icmp .ne 12, 3, (45, 0, 0), vU), (.aload_n 0, 1, (0, 0, 0), vU), (.getfield 34, 3, (5, 2, 2), vU), (.iload_n 2, 1, (2, 0, 0), vU), (.laload, 1, (0, 0, 0), vU), (.goto 14, 3, (56, 0, 0), vU), (.lastore, 1, (0, 0, 0), vU), (.aload_n 0, 1, (0, 0, 0), vU), (.getfield 15, 3, (5, 4, 2), vU), (.iload_n 3, 1, (3, 0, 0), vU), (.iload 4, 2, (4, 0, 0), vU), (.iconst (-1), 1, (0, 0, 0), vI (-1)), (.if_icmp .ne 7, 3, (72, 0, 0), vU), (.iconst (-1), 1, (0, 0, 0), vI (-1)), (.goto 14, 3, (83, 0, 0), vU), (.iastore, 1, (0, 0, 0), vU), (.aload_n 0, 1, (0, 0, 0), vU), (.getfield 19, 3, (5, 5, 2), vU), (.iload_n 3, 1, (3, 0, 0), vU), (.iconst 0, 1, (0, 0, 0), vI 0), (.iastore, 1, (0, 0, 0), vU), (.return_, 1, (0, 0, 0), vU)]
theorem oX4_inherit_17 : okAt mX4_inherit bX4_inherit_17 17 = true := by decide +kernel
theorem rX4_inherit_17 {g : Gp} {Q : PQ} {L st : List AV} {h : AH} {u : Nat × Nat} (hr : run mX4_inherit Q (fun pc L st h u => Ex g mX4_inherit pc L st h u Q) bX4_inherit_17 17 L st h u) : Ex g mX4_inherit 17 L st h u Q := run_ok (M := mX4_inherit) cfX4_ok (fun _ _ _ _ _ k => k) _ _ _ _ _ _ oX4_inherit_17 hr
def bX4_inherit_45 : List OP := [(.aload_n 0, 1, (0, 0, 0), vU), (.getfield 9, 3, (5, 3, 2), vU), (.iload 4, 2, (4, 0, 0), vU), (.iload_n 2, 1, (2, 0, 0), vU)]
theorem oX4_inherit_45 : okAt mX4_inherit bX4_inherit_45 45 = true := by decide +kernel
theorem rX4_inherit_45 {g : Gp} {Q : PQ} {L st : List AV} {h : AH} {u : Nat × Nat} (hr : run mX4_inherit Q (fun pc L st h u => Ex g mX4_inherit pc L st h u Q) bX4_inherit_45 45 L st h u) : Ex g mX4_inherit 45 L st h u Q := run_ok (M := mX4_inherit) cfX4_ok (fun _ _ _ _ _ k => k) _ _ _ _ _ _ oX4_inherit_45 hr
def bX4_inherit_55 : List OP := [(.laload, 1, (0, 0, 0), vU), (.lastore, 1, (0, 0, 0), vU), (.aload_n 0, 1, (0, 0, 0), vU), (.getfield 15, 3, (5, 4, 2), vU), (.iload_n 3, 1, (3, 0, 0), vU), (.iload 4, 2, (4, 0, 0), vU), (.iconst (-1), 1, (0, 0, 0), vI (-1)), (.if_icmp .ne 7, 3, (72, 0, 0), vU), (.iconst (-1), 1, (0, 0, 0), vI (-1)), (.goto 14, 3, (83, 0, 0), vU), (.iastore, 1, (0, 0, 0), vU), (.aload_n 0, 1, (0, 0, 0), vU), (.getfield 19, 3, (5, 5, 2), vU), (.iload_n 3, 1, (3, 0, 0), vU), (.iconst 0, 1, (0, 0, 0), vI 0), (.iastore, 1, (0, 0, 0), vU), (.return_, 1, (0, 0, 0), vU)]
theorem oX4_inherit_55 : okAt mX4_inherit bX4_inherit_55 55 = true := by decide +kernel
theorem rX4_inherit_55 {g : Gp} {Q : PQ} {L st : List AV} {h : AH} {u : Nat × Nat} (hr : run mX4_inherit Q (fun pc L st h u => Ex g mX4_inherit pc L st h u Q) bX4_inherit_55 55 L st h u) : Ex g mX4_inherit 55 L st h u Q := run_ok (M := mX4_inherit) cfX4_ok (fun _ _ _ _ _ k => k) _ _ _ _ _ _ oX4_inherit_55 hr
def bX4_inherit_72 : List OP := [(.aload_n 0, 1, (0, 0, 0), vU), (.getfield 15, 3, (5, 4, 2), vU), (.iload 4, 2, (4, 0, 0), vU), (.iload_n 2, 1, (2, 0, 0), vU)]
theorem oX4_inherit_72 : okAt mX4_inherit bX4_inherit_72 72 = true := by decide +kernel
theorem rX4_inherit_72 {g : Gp} {Q : PQ} {L st : List AV} {h : AH} {u : Nat × Nat} (hr : run mX4_inherit Q (fun pc L st h u => Ex g mX4_inherit pc L st h u Q) bX4_inherit_72 72 L st h u) : Ex g mX4_inherit 72 L st h u Q := run_ok (M := mX4_inherit) cfX4_ok (fun _ _ _ _ _ k => k) _ _ _ _ _ _ oX4_inherit_72 hr
def bX4_inherit_82 : List OP := [(.iaload, 1, (0, 0, 0), vU), (.iastore, 1, (0, 0, 0), vU), (.aload_n 0, 1, (0, 0, 0), vU), (.getfield 19, 3, (5, 5, 2), vU), (.iload_n 3, 1, (3, 0, 0), vU), (.iconst 0, 1, (0, 0, 0), vI 0), (.iastore, 1, (0, 0, 0), vU), (.return_, 1, (0, 0, 0), vU)]
theorem oX4_inherit_82 : okAt mX4_inherit bX4_inherit_82 82 = true := by decide +kernel
theorem rX4_inherit_82 {g : Gp} {Q : PQ} {L st : List AV} {h : AH} {u : Nat × Nat} (hr : run mX4_inherit Q (fun pc L st h u => Ex g mX4_inherit pc L st h u Q) bX4_inherit_82 82 L st h u) : Ex g mX4_inherit 82 L st h u Q := run_ok (M := mX4_inherit) cfX4_ok (fun _ _ _ _ _ k => k) _ _ _ _ _ _ oX4_inherit_82 hr
theorem sX4_inherit_2 {g : Gp} {L rest : List AV} {h : AH} {u : Nat × Nat} {Q : PQ} {a1 a2 : AV}  (ev : Ev g mX4_cell [a1, a2] h (cont g mX4_inherit 5 L rest u Q)) (hr : rest.length ≤ 4 := by exact Nat.le_of_ble_eq_true rfl) : Ex g mX4_inherit 2 L (a2 :: a1 :: rest) h u Q := Ex.bud (fun w1 w2 => Ex.callS (av := [a1, a2]) rfl mX4_cell_ok rfl lkX4_60 smX4_cell (by decide) w1 w2 hr (by decide +kernel) ev (fun _ _ k => k) (fun _ _ z => z))
theorem sX4_inherit_14 {g : Gp} {L rest : List AV} {h : AH} {u : Nat × Nat} {Q : PQ} {x : Nat} {a1 : AV}  (hx : zK h x = (1, 0)) (ev : Ev g mJx4a65c_get_915e3 (vR x :: [a1]) h (cont g mX4_inherit 17 L rest u Q)) (hr : rest.length ≤ 4 := by exact Nat.le_of_ble_eq_true rfl) : Ex g mX4_inherit 14 L (a1 :: vR x :: rest) h u Q := Ex.bud (fun w1 w2 => Ex.callV (av := [a1]) (r := (RJx4a65c, TJx4a65c, 3)) rfl mJx4a65c_get_915e3_ok rfl lkX4_64 imJx4a65c_get_915e3 seJx4a65c_get_915e3 rfl hx (by decide) w1 w2 hr (by decide +kernel) ev (fun _ _ k => k) (fun _ _ z => z))
theorem sX4_inherit_52 {g : Gp} {L rest : List AV} {h : AH} {u : Nat × Nat} {Q : PQ} {a1 a2 : AV}  (ev : Ev g mX4_cell [a1, a2] h (cont g mX4_inherit 55 L rest u Q)) (hr : rest.length ≤ 4 := by exact Nat.le_of_ble_eq_true rfl) : Ex g mX4_inherit 52 L (a2 :: a1 :: rest) h u Q := Ex.bud (fun w1 w2 => Ex.callS (av := [a1, a2]) rfl mX4_cell_ok rfl lkX4_60 smX4_cell (by decide) w1 w2 hr (by decide +kernel) ev (fun _ _ k => k) (fun _ _ z => z))
theorem sX4_inherit_79 {g : Gp} {L rest : List AV} {h : AH} {u : Nat × Nat} {Q : PQ} {a1 a2 : AV}  (ev : Ev g mX4_cell [a1, a2] h (cont g mX4_inherit 82 L rest u Q)) (hr : rest.length ≤ 4 := by exact Nat.le_of_ble_eq_true rfl) : Ex g mX4_inherit 79 L (a2 :: a1 :: rest) h u Q := Ex.bud (fun w1 w2 => Ex.callS (av := [a1, a2]) rfl mX4_cell_ok rfl lkX4_60 smX4_cell (by decide) w1 w2 hr (by decide +kernel) ev (fun _ _ k => k) (fun _ _ z => z))
theorem nX5_comesTo {g : Gp} {h : AH} {Q : PQ} {x : Nat} {i1 : Int32} {i2 : Int32} {i3 : Int32} (k : Ex g mX5_comesTo 0 [vR x, vI i1, vI i2, vI i3] [] h (0, 0) Q) : Ev g mX5_comesTo [vR x, vI i1, vI i2, vI i3] h Q := Ev.of (by decide +kernel) rfl (Nat.le_of_ble_eq_true rfl) k
theorem qX5_comesTo : mR mX5_comesTo = (some FieldType.boolean) := rfl
def bX5_comesTo_0 : List OP := [(.aload_n 0, 1, (0, 0, 0), vU), (.getfield 16, 3, (6, 2, 0), vU), (.iload_n 1, 1, (1, 0, 0), vU), (.if_icmp .ne 23, 3, (28, 0, 0), vU), (.aload_n 0, 1, (0, 0, 0), vU), (.getfield 7, 3, (6, 0, 0), vU), (.iload_n 2, 1, (2, 0, 0), vU), (.if_icmp .ne 15, 3, (28, 0, 0), vU), (.aload_n 0, 1, (0, 0, 0), vU), (.getfield 19, 3, (6, 3, 0), vU), (.iload_n 3, 1, (3, 0, 0), vU), (.if_icmp .ne 7, 3, (28, 0, 0), vU), (.iconst 1, 1, (0, 0, 0), vI 1), (.goto 4, 3, (29, 0, 0), vU), (.ireturn, 1, (0, 0, 0), vU)]
theorem oX5_comesTo_0 : okAt mX5_comesTo bX5_comesTo_0 0 = true := by decide +kernel
theorem rX5_comesTo_0 {g : Gp} {Q : PQ} {L st : List AV} {h : AH} {u : Nat × Nat} (hr : run mX5_comesTo Q (fun pc L st h u => Ex g mX5_comesTo pc L st h u Q) bX5_comesTo_0 0 L st h u) : Ex g mX5_comesTo 0 L st h u Q := run_ok (M := mX5_comesTo) cfX5_ok (fun _ _ _ _ _ k => k) _ _ _ _ _ _ oX5_comesTo_0 hr
def bX5_comesTo_28 : List OP := [(.iconst 0, 1, (0, 0, 0), vI 0), (.ireturn, 1, (0, 0, 0), vU)]
theorem oX5_comesTo_28 : okAt mX5_comesTo bX5_comesTo_28 28 = true := by decide +kernel
theorem rX5_comesTo_28 {g : Gp} {Q : PQ} {L st : List AV} {h : AH} {u : Nat × Nat} (hr : run mX5_comesTo Q (fun pc L st h u => Ex g mX5_comesTo pc L st h u Q) bX5_comesTo_28 28 L st h u) : Ex g mX5_comesTo 28 L st h u Q := run_ok (M := mX5_comesTo) cfX5_ok (fun _ _ _ _ _ k => k) _ _ _ _ _ _ oX5_comesTo_28 hr
theorem nX4_hasWord {g : Gp} {h : AH} {Q : PQ} {x : Nat} {i1 : Int32} {i2 : Int32} (k : Ex g mX4_hasWord 0 [vR x, vI i1, vI i2] [] h (0, 0) Q) : Ev g mX4_hasWord [vR x, vI i1, vI i2] h Q := Ev.of (by decide +kernel) rfl (Nat.le_of_ble_eq_true rfl) k
theorem qX4_hasWord : mR mX4_hasWord = (some FieldType.boolean) := rfl
def bX4_hasWord_0 : List OP := [(.aload_n 0, 1, (0, 0, 0), vU), (.getfield 9, 3, (5, 3, 2), vU), (.iload_n 1, 1, (1, 0, 0), vU), (.iload_n 2, 1, (2, 0, 0), vU)]
theorem oX4_hasWord_0 : okAt mX4_hasWord bX4_hasWord_0 0 = true := by decide +kernel
theorem rX4_hasWord_0 {g : Gp} {Q : PQ} {L st : List AV} {h : AH} {u : Nat × Nat} (hr : run mX4_hasWord Q (fun pc L st h u => Ex g mX4_hasWord pc L st h u Q) bX4_hasWord_0 0 L st h u) : Ex g mX4_hasWord 0 L st h u Q := run_ok (M := mX4_hasWord) cfX4_ok (fun _ _ _ _ _ k => k) _ _ _ _ _ _ oX4_hasWord_0 hr
def bX4_hasWord_9 : List OP := [(.laload, 1, (0, 0, 0), vU), (.lconst 0, 1, (0, 0, 0), vL 0), (.lcmp, 1, (0, 0, 0), vU), (.ifCond .eq 7, 3, (19, 0, 0), vU), (.iconst 1, 1, (0, 0, 0), vI 1), (.goto 4, 3, (20, 0, 0), vU), (.ireturn, 1, (0, 0, 0), vU)]
theorem oX4_hasWord_9 : okAt mX4_hasWord bX4_hasWord_9 9 = true := by decide +kernel
theorem rX4_hasWord_9 {g : Gp} {Q : PQ} {L st : List AV} {h : AH} {u : Nat × Nat} (hr : run mX4_hasWord Q (fun pc L st h u => Ex g mX4_hasWord pc L st h u Q) bX4_hasWord_9 9 L st h u) : Ex g mX4_hasWord 9 L st h u Q := run_ok (M := mX4_hasWord) cfX4_ok (fun _ _ _ _ _ k => k) _ _ _ _ _ _ oX4_hasWord_9 hr
def bX4_hasWord_19 : List OP := [(.iconst 0, 1, (0, 0, 0), vI 0), (.ireturn, 1, (0, 0, 0), vU)]
theorem oX4_hasWord_19 : okAt mX4_hasWord bX4_hasWord_19 19 = true := by decide +kernel
theorem rX4_hasWord_19 {g : Gp} {Q : PQ} {L st : List AV} {h : AH} {u : Nat × Nat} (hr : run mX4_hasWord Q (fun pc L st h u => Ex g mX4_hasWord pc L st h u Q) bX4_hasWord_19 19 L st h u) : Ex g mX4_hasWord 19 L st h u Q := run_ok (M := mX4_hasWord) cfX4_ok (fun _ _ _ _ _ k => k) _ _ _ _ _ _ oX4_hasWord_19 hr
theorem sX4_hasWord_6 {g : Gp} {L rest : List AV} {h : AH} {u : Nat × Nat} {Q : PQ} {a1 a2 : AV}  (ev : Ev g mX4_cell [a1, a2] h (cont g mX4_hasWord 9 L rest u Q)) (hr : rest.length ≤ 4 := by exact Nat.le_of_ble_eq_true rfl) : Ex g mX4_hasWord 6 L (a2 :: a1 :: rest) h u Q := Ex.bud (fun w1 w2 => Ex.callS (av := [a1, a2]) rfl mX4_cell_ok rfl lkX4_60 smX4_cell (by decide) w1 w2 hr (by decide +kernel) ev (fun _ _ k => k) (fun _ _ z => z))
theorem nX4_borrow {g : Gp} {h : AH} {Q : PQ} {x : Nat} {i1 : Int32} {i2 : Int32} {i3 : Int32} (k : Ex g mX4_borrow 0 [vR x, vI i1, vI i2, vI i3, vU, vU, vU] [] h (0, 0) Q) : Ev g mX4_borrow [vR x, vI i1, vI i2, vI i3] h Q := Ev.of (by decide +kernel) rfl (Nat.le_of_ble_eq_true rfl) k
theorem qX4_borrow : mR mX4_borrow = none := rfl
def bX4_borrow_0 : List OP := [(.iload_n 1, 1, (1, 0, 0), vU), (.iload_n 2, 1, (2, 0, 0), vU)]
theorem oX4_borrow_0 : okAt mX4_borrow bX4_borrow_0 0 = true := by decide +kernel
theorem rX4_borrow_0 {g : Gp} {Q : PQ} {L st : List AV} {h : AH} {u : Nat × Nat} (hr : run mX4_borrow Q (fun pc L st h u => Ex g mX4_borrow pc L st h u Q) bX4_borrow_0 0 L st h u) : Ex g mX4_borrow 0 L st h u Q := run_ok (M := mX4_borrow) cfX4_ok (fun _ _ _ _ _ k => k) _ _ _ _ _ _ oX4_borrow_0 hr
def bX4_borrow_5 : List OP := [(.istore 4, 2, (4, 0, 0), vU), (.iconst 0, 1, (0, 0, 0), vI 0), (.istore 5, 2, (5, 0, 0), vU)]
theorem oX4_borrow_5 : okAt mX4_borrow bX4_borrow_5 5 = true := by decide +kernel
theorem rX4_borrow_5 {g : Gp} {Q : PQ} {L st : List AV} {h : AH} {u : Nat × Nat} (hr : run mX4_borrow Q (fun pc L st h u => Ex g mX4_borrow pc L st h u Q) bX4_borrow_5 5 L st h u) : Ex g mX4_borrow 5 L st h u Q := run_ok (M := mX4_borrow) cfX4_ok (fun _ _ _ _ _ k => k) _ _ _ _ _ _ oX4_borrow_5 hr
def bX4_borrow_10 : List OP := [(.iload 5, 2, (5, 0, 0), vU), (.aload_n 0, 1, (0, 0, 0), vU), (.getfield 26, 3, (5, 0, 2), vU), (.getfield 87, 3, (2, 1, 2), vU)]
theorem oX4_borrow_10 : okAt mX4_borrow bX4_borrow_10 10 = true := by decide +kernel
theorem rX4_borrow_10 {g : Gp} {Q : PQ} {L st : List AV} {h : AH} {u : Nat × Nat} (hr : run mX4_borrow Q (fun pc L st h u => Ex g mX4_borrow pc L st h u Q) bX4_borrow_10 10 L st h u) : Ex g mX4_borrow 10 L st h u Q := run_ok (M := mX4_borrow) cfX4_ok (fun _ _ _ _ _ k => k) _ _ _ _ _ _ oX4_borrow_10 hr
def bX4_borrow_22 : List OP := [(.if_icmp .ge 88, 3, (110, 0, 0), vU), (.aload_n 0, 1, (0, 0, 0), vU), (.getfield 26, 3, (5, 0, 2), vU), (.getfield 87, 3, (2, 1, 2), vU), (.iload 5, 2, (5, 0, 0), vU)]
theorem oX4_borrow_22 : okAt mX4_borrow bX4_borrow_22 22 = true := by decide +kernel
theorem rX4_borrow_22 {g : Gp} {Q : PQ} {L st : List AV} {h : AH} {u : Nat × Nat} (hr : run mX4_borrow Q (fun pc L st h u => Ex g mX4_borrow pc L st h u Q) bX4_borrow_22 22 L st h u) : Ex g mX4_borrow 22 L st h u Q := run_ok (M := mX4_borrow) cfX4_ok (fun _ _ _ _ _ k => k) _ _ _ _ _ _ oX4_borrow_22 hr
def bX4_borrow_37 : List OP := [(.checkcast 90, 3, (6, 0, 0), vU), (.astore 6, 2, (6, 0, 0), vU), (.aload 6, 2, (6, 0, 0), vU), (.iload_n 1, 1, (1, 0, 0), vU), (.iload_n 2, 1, (2, 0, 0), vU), (.iload_n 3, 1, (3, 0, 0), vU)]
theorem oX4_borrow_37 : okAt mX4_borrow bX4_borrow_37 37 = true := by decide +kernel
theorem rX4_borrow_37 {g : Gp} {Q : PQ} {L st : List AV} {h : AH} {u : Nat × Nat} (hr : run mX4_borrow Q (fun pc L st h u => Ex g mX4_borrow pc L st h u Q) bX4_borrow_37 37 L st h u) : Ex g mX4_borrow 37 L st h u Q := run_ok (M := mX4_borrow) cfX4_ok (fun _ _ _ _ _ k => k) _ _ _ _ _ _ oX4_borrow_37 hr
def bX4_borrow_50 : List OP := [(.ifCond .eq 54, 3, (104, 0, 0), vU), (.aload_n 0, 1, (0, 0, 0), vU), (.aload 6, 2, (6, 0, 0), vU), (.getfield 96, 3, (6, 1, 0), vU), (.iload_n 2, 1, (2, 0, 0), vU)]
theorem oX4_borrow_50 : okAt mX4_borrow bX4_borrow_50 50 = true := by decide +kernel
theorem rX4_borrow_50 {g : Gp} {Q : PQ} {L st : List AV} {h : AH} {u : Nat × Nat} (hr : run mX4_borrow Q (fun pc L st h u => Ex g mX4_borrow pc L st h u Q) bX4_borrow_50 50 L st h u) : Ex g mX4_borrow 50 L st h u Q := run_ok (M := mX4_borrow) cfX4_ok (fun _ _ _ _ _ k => k) _ _ _ _ _ _ oX4_borrow_50 hr
def bX4_borrow_63 : List OP := [(.ifCond .eq 41, 3, (104, 0, 0), vU), (.aload_n 0, 1, (0, 0, 0), vU), (.getfield 9, 3, (5, 3, 2), vU), (.iload 4, 2, (4, 0, 0), vU), (.aload_n 0, 1, (0, 0, 0), vU), (.getfield 9, 3, (5, 3, 2), vU), (.aload 6, 2, (6, 0, 0), vU), (.getfield 96, 3, (6, 1, 0), vU), (.iload_n 2, 1, (2, 0, 0), vU)]
theorem oX4_borrow_63 : okAt mX4_borrow bX4_borrow_63 63 = true := by decide +kernel
theorem rX4_borrow_63 {g : Gp} {Q : PQ} {L st : List AV} {h : AH} {u : Nat × Nat} (hr : run mX4_borrow Q (fun pc L st h u => Ex g mX4_borrow pc L st h u Q) bX4_borrow_63 63 L st h u) : Ex g mX4_borrow 63 L st h u Q := run_ok (M := mX4_borrow) cfX4_ok (fun _ _ _ _ _ k => k) _ _ _ _ _ _ oX4_borrow_63 hr
def bX4_borrow_85 : List OP := [(.laload, 1, (0, 0, 0), vU), (.lastore, 1, (0, 0, 0), vU), (.aload_n 0, 1, (0, 0, 0), vU), (.getfield 15, 3, (5, 4, 2), vU), (.iload 4, 2, (4, 0, 0), vU), (.iload 5, 2, (5, 0, 0), vU), (.iastore, 1, (0, 0, 0), vU), (.aload_n 0, 1, (0, 0, 0), vU), (.getfield 19, 3, (5, 5, 2), vU), (.iload 4, 2, (4, 0, 0), vU), (.iconst 0, 1, (0, 0, 0), vI 0), (.iastore, 1, (0, 0, 0), vU), (.iinc 5 1, 3, (5, 0, 0), vI 1), (.goto (-97), 3, (10, 0, 0), vU)]
theorem oX4_borrow_85 : okAt mX4_borrow bX4_borrow_85 85 = true := by decide +kernel
theorem rX4_borrow_85 {g : Gp} {Q : PQ} {L st : List AV} {h : AH} {u : Nat × Nat} (hr : run mX4_borrow Q (fun pc L st h u => Ex g mX4_borrow pc L st h u Q) bX4_borrow_85 85 L st h u) : Ex g mX4_borrow 85 L st h u Q := run_ok (M := mX4_borrow) cfX4_ok (fun _ _ _ _ _ k => k) _ _ _ _ _ _ oX4_borrow_85 hr
def bX4_borrow_104 : List OP := [(.iinc 5 1, 3, (5, 0, 0), vI 1), (.goto (-97), 3, (10, 0, 0), vU)]
theorem oX4_borrow_104 : okAt mX4_borrow bX4_borrow_104 104 = true := by decide +kernel
theorem rX4_borrow_104 {g : Gp} {Q : PQ} {L st : List AV} {h : AH} {u : Nat × Nat} (hr : run mX4_borrow Q (fun pc L st h u => Ex g mX4_borrow pc L st h u Q) bX4_borrow_104 104 L st h u) : Ex g mX4_borrow 104 L st h u Q := run_ok (M := mX4_borrow) cfX4_ok (fun _ _ _ _ _ k => k) _ _ _ _ _ _ oX4_borrow_104 hr
def bX4_borrow_110 : List OP := [(.return_, 1, (0, 0, 0), vU)]
theorem oX4_borrow_110 : okAt mX4_borrow bX4_borrow_110 110 = true := by decide +kernel
theorem rX4_borrow_110 {g : Gp} {Q : PQ} {L st : List AV} {h : AH} {u : Nat × Nat} (hr : run mX4_borrow Q (fun pc L st h u => Ex g mX4_borrow pc L st h u Q) bX4_borrow_110 110 L st h u) : Ex g mX4_borrow 110 L st h u Q := run_ok (M := mX4_borrow) cfX4_ok (fun _ _ _ _ _ k => k) _ _ _ _ _ _ oX4_borrow_110 hr
theorem sX4_borrow_2 {g : Gp} {L rest : List AV} {h : AH} {u : Nat × Nat} {Q : PQ} {a1 a2 : AV}  (ev : Ev g mX4_cell [a1, a2] h (cont g mX4_borrow 5 L rest u Q)) (hr : rest.length ≤ 4 := by exact Nat.le_of_ble_eq_true rfl) : Ex g mX4_borrow 2 L (a2 :: a1 :: rest) h u Q := Ex.bud (fun w1 w2 => Ex.callS (av := [a1, a2]) rfl mX4_cell_ok rfl lkX4_60 smX4_cell (by decide) w1 w2 hr (by decide +kernel) ev (fun _ _ k => k) (fun _ _ z => z))
theorem sX4_borrow_19 {g : Gp} {L rest : List AV} {h : AH} {u : Nat × Nat} {Q : PQ} {x : Nat}   (hx : zK h x = (1, 0)) (ev : Ev g mJx4a65c_size_8abf5 (vR x :: []) h (cont g mX4_borrow 22 L rest u Q)) (hr : rest.length ≤ 4 := by exact Nat.le_of_ble_eq_true rfl) : Ex g mX4_borrow 19 L (vR x :: rest) h u Q := Ex.bud (fun w1 w2 => Ex.callV (av := []) (r := (RJx4a65c, TJx4a65c, 3)) rfl mJx4a65c_size_8abf5_ok rfl lkX4_47 imJx4a65c_size_8abf5 seJx4a65c_size_8abf5 rfl hx (by decide) w1 w2 hr (by decide +kernel) ev (fun _ _ k => k) (fun _ _ z => z))
theorem sX4_borrow_34 {g : Gp} {L rest : List AV} {h : AH} {u : Nat × Nat} {Q : PQ} {x : Nat} {a1 : AV}  (hx : zK h x = (1, 0)) (ev : Ev g mJx4a65c_get_915e3 (vR x :: [a1]) h (cont g mX4_borrow 37 L rest u Q)) (hr : rest.length ≤ 4 := by exact Nat.le_of_ble_eq_true rfl) : Ex g mX4_borrow 34 L (a1 :: vR x :: rest) h u Q := Ex.bud (fun w1 w2 => Ex.callV (av := [a1]) (r := (RJx4a65c, TJx4a65c, 3)) rfl mJx4a65c_get_915e3_ok rfl lkX4_64 imJx4a65c_get_915e3 seJx4a65c_get_915e3 rfl hx (by decide) w1 w2 hr (by decide +kernel) ev (fun _ _ k => k) (fun _ _ z => z))
theorem sX4_borrow_47 {g : Gp} {L rest : List AV} {h : AH} {u : Nat × Nat} {Q : PQ} {x : Nat} {a1 a2 a3 : AV}  (hx : zK h x = (1, 6)) (ev : Ev g mX5_comesTo (vR x :: [a1, a2, a3]) h (cont g mX4_borrow 50 L rest u Q)) (hr : rest.length ≤ 4 := by exact Nat.le_of_ble_eq_true rfl) : Ex g mX4_borrow 47 L (a3 :: a2 :: a1 :: vR x :: rest) h u Q := Ex.bud (fun w1 w2 => Ex.callV (av := [a1, a2, a3]) (r := (RX5, TX5, 4)) rfl mX5_comesTo_ok rfl lkX4_92 imX5_comesTo seX5_comesTo rfl hx (by decide) w1 w2 hr (by decide +kernel) ev (fun _ _ k => k) (fun _ _ z => z))
theorem sX4_borrow_60 {g : Gp} {L rest : List AV} {h : AH} {u : Nat × Nat} {Q : PQ} {x : Nat} {a1 a2 : AV}  (hx : zK h x = (1, 5)) (ev : Ev g mX4_hasWord (vR x :: [a1, a2]) h (cont g mX4_borrow 63 L rest u Q)) (hr : rest.length ≤ 4 := by exact Nat.le_of_ble_eq_true rfl) : Ex g mX4_borrow 60 L (a2 :: a1 :: vR x :: rest) h u Q := Ex.bud (fun w1 w2 => Ex.callV (av := [a1, a2]) (r := (RX4, TX4, 7)) rfl mX4_hasWord_ok rfl lkX4_99 imX4_hasWord seX4_hasWord rfl hx (by decide) w1 w2 hr (by decide +kernel) ev (fun _ _ k => k) (fun _ _ z => z))
theorem sX4_borrow_82 {g : Gp} {L rest : List AV} {h : AH} {u : Nat × Nat} {Q : PQ} {a1 a2 : AV}  (ev : Ev g mX4_cell [a1, a2] h (cont g mX4_borrow 85 L rest u Q)) (hr : rest.length ≤ 4 := by exact Nat.le_of_ble_eq_true rfl) : Ex g mX4_borrow 82 L (a2 :: a1 :: rest) h u Q := Ex.bud (fun w1 w2 => Ex.callS (av := [a1, a2]) rfl mX4_cell_ok rfl lkX4_60 smX4_cell (by decide) w1 w2 hr (by decide +kernel) ev (fun _ _ k => k) (fun _ _ z => z))
theorem nX8_at {g : Gp} {h : AH} {Q : PQ} {i1 : Int64} {i2 : Int32} (k : Ex g mX8_at 0 [vL i1, vU, vI i2] [] h (0, 0) Q) : Ev g mX8_at [vL i1, vI i2] h Q := Ev.of (by decide +kernel) rfl (Nat.le_of_ble_eq_true rfl) k
theorem qX8_at : mR mX8_at = (some FieldType.int) := rfl
def bX8_at_0 : List OP := [(.lload_n 0, 1, (0, 0, 0), vU), (.iconst 4, 1, (0, 0, 0), vI 4), (.iload_n 2, 1, (2, 0, 0), vU), (.imul, 1, (0, 0, 0), vU), (.lushr, 1, (0, 0, 0), vU), (.l2i, 1, (0, 0, 0), vU), (.bipush 15, 2, (0, 0, 0), vI 15), (.iand, 1, (0, 0, 0), vU), (.ireturn, 1, (0, 0, 0), vU)]
theorem oX8_at_0 : okAt mX8_at bX8_at_0 0 = true := by decide +kernel
theorem rX8_at_0 {g : Gp} {Q : PQ} {L st : List AV} {h : AH} {u : Nat × Nat} (hr : run mX8_at Q (fun pc L st h u => Ex g mX8_at pc L st h u Q) bX8_at_0 0 L st h u) : Ex g mX8_at 0 L st h u Q := run_ok (M := mX8_at) cfX8_ok (fun _ _ _ _ _ k => k) _ _ _ _ _ _ oX8_at_0 hr
theorem nX3_has {g : Gp} {h : AH} {Q : PQ} {i1 : Int32} {i2 : Int32} (k : Ex g mX3_has 0 [vI i1, vI i2] [] h (0, 0) Q) : Ev g mX3_has [vI i1, vI i2] h Q := Ev.of (by decide +kernel) rfl (Nat.le_of_ble_eq_true rfl) k
theorem qX3_has : mR mX3_has = (some FieldType.boolean) := rfl
def bX3_has_0 : List OP := [(.iload_n 0, 1, (0, 0, 0), vU), (.iload_n 1, 1, (1, 0, 0), vU), (.iushr, 1, (0, 0, 0), vU), (.iconst 1, 1, (0, 0, 0), vI 1), (.iand, 1, (0, 0, 0), vU), (.ifCond .eq 7, 3, (12, 0, 0), vU), (.iconst 1, 1, (0, 0, 0), vI 1), (.goto 4, 3, (13, 0, 0), vU), (.ireturn, 1, (0, 0, 0), vU)]
theorem oX3_has_0 : okAt mX3_has bX3_has_0 0 = true := by decide +kernel
theorem rX3_has_0 {g : Gp} {Q : PQ} {L st : List AV} {h : AH} {u : Nat × Nat} (hr : run mX3_has Q (fun pc L st h u => Ex g mX3_has pc L st h u Q) bX3_has_0 0 L st h u) : Ex g mX3_has 0 L st h u Q := run_ok (M := mX3_has) cfX3_ok (fun _ _ _ _ _ k => k) _ _ _ _ _ _ oX3_has_0 hr
def bX3_has_12 : List OP := [(.iconst 0, 1, (0, 0, 0), vI 0), (.ireturn, 1, (0, 0, 0), vU)]
theorem oX3_has_12 : okAt mX3_has bX3_has_12 12 = true := by decide +kernel
theorem rX3_has_12 {g : Gp} {Q : PQ} {L st : List AV} {h : AH} {u : Nat × Nat} (hr : run mX3_has Q (fun pc L st h u => Ex g mX3_has pc L st h u Q) bX3_has_12 12 L st h u) : Ex g mX3_has 12 L st h u Q := run_ok (M := mX3_has) cfX3_ok (fun _ _ _ _ _ k => k) _ _ _ _ _ _ oX3_has_12 hr
theorem nX3_holdsAt {g : Gp} {h : AH} {Q : PQ} {x : Nat} {i1 : Int64} {i2 : Int32} (k : Ex g mX3_holdsAt 0 [vR x, vL i1, vU, vI i2, vU, vU] [] h (0, 0) Q) : Ev g mX3_holdsAt [vR x, vL i1, vI i2] h Q := Ev.of (by decide +kernel) rfl (Nat.le_of_ble_eq_true rfl) k
theorem qX3_holdsAt : mR mX3_holdsAt = (some FieldType.boolean) := rfl
def bX3_holdsAt_0 : List OP := [(.iload_n 3, 1, (3, 0, 0), vU), (.ifCond .ne 8, 3, (9, 0, 0), vU), (.bipush 16, 2, (0, 0, 0), vI 16), (.goto 10, 3, (16, 0, 0), vU), (.istore 4, 2, (4, 0, 0), vU), (.iload_n 3, 1, (3, 0, 0), vU), (.iconst 1, 1, (0, 0, 0), vI 1), (.iadd, 1, (0, 0, 0), vU), (.lload_n 1, 1, (1, 0, 0), vU)]
theorem oX3_holdsAt_0 : okAt mX3_holdsAt bX3_holdsAt_0 0 = true := by decide +kernel
theorem rX3_holdsAt_0 {g : Gp} {Q : PQ} {L st : List AV} {h : AH} {u : Nat × Nat} (hr : run mX3_holdsAt Q (fun pc L st h u => Ex g mX3_holdsAt pc L st h u Q) bX3_holdsAt_0 0 L st h u) : Ex g mX3_holdsAt 0 L st h u Q := run_ok (M := mX3_holdsAt) cfX3_ok (fun _ _ _ _ _ k => k) _ _ _ _ _ _ oX3_holdsAt_0 hr
def bX3_holdsAt_9 : List OP := [(.lload_n 1, 1, (1, 0, 0), vU), (.iload_n 3, 1, (3, 0, 0), vU), (.iconst 1, 1, (0, 0, 0), vI 1), (.isub, 1, (0, 0, 0), vU)]
theorem oX3_holdsAt_9 : okAt mX3_holdsAt bX3_holdsAt_9 9 = true := by decide +kernel
theorem rX3_holdsAt_9 {g : Gp} {Q : PQ} {L st : List AV} {h : AH} {u : Nat × Nat} (hr : run mX3_holdsAt Q (fun pc L st h u => Ex g mX3_holdsAt pc L st h u Q) bX3_holdsAt_9 9 L st h u) : Ex g mX3_holdsAt 9 L st h u Q := run_ok (M := mX3_holdsAt) cfX3_ok (fun _ _ _ _ _ k => k) _ _ _ _ _ _ oX3_holdsAt_9 hr
def bX3_holdsAt_16 : List OP := [(.istore 4, 2, (4, 0, 0), vU), (.iload_n 3, 1, (3, 0, 0), vU), (.iconst 1, 1, (0, 0, 0), vI 1), (.iadd, 1, (0, 0, 0), vU), (.lload_n 1, 1, (1, 0, 0), vU)]
theorem oX3_holdsAt_16 : okAt mX3_holdsAt bX3_holdsAt_16 16 = true := by decide +kernel
theorem rX3_holdsAt_16 {g : Gp} {Q : PQ} {L st : List AV} {h : AH} {u : Nat × Nat} (hr : run mX3_holdsAt Q (fun pc L st h u => Ex g mX3_holdsAt pc L st h u Q) bX3_holdsAt_16 16 L st h u) : Ex g mX3_holdsAt 16 L st h u Q := run_ok (M := mX3_holdsAt) cfX3_ok (fun _ _ _ _ _ k => k) _ _ _ _ _ _ oX3_holdsAt_16 hr
def bX3_holdsAt_25 : List OP := [(.if_icmp .ne 8, 3, (33, 0, 0), vU), (.bipush 16, 2, (0, 0, 0), vI 16), (.goto 10, 3, (40, 0, 0), vU), (.istore 5, 2, (5, 0, 0), vU), (.aload_n 0, 1, (0, 0, 0), vU), (.getfield 9, 3, (4, 0, 0), vU), (.lload_n 1, 1, (1, 0, 0), vU), (.iload_n 3, 1, (3, 0, 0), vU)]
theorem oX3_holdsAt_25 : okAt mX3_holdsAt bX3_holdsAt_25 25 = true := by decide +kernel
theorem rX3_holdsAt_25 {g : Gp} {Q : PQ} {L st : List AV} {h : AH} {u : Nat × Nat} (hr : run mX3_holdsAt Q (fun pc L st h u => Ex g mX3_holdsAt pc L st h u Q) bX3_holdsAt_25 25 L st h u) : Ex g mX3_holdsAt 25 L st h u Q := run_ok (M := mX3_holdsAt) cfX3_ok (fun _ _ _ _ _ k => k) _ _ _ _ _ _ oX3_holdsAt_25 hr
def bX3_holdsAt_33 : List OP := [(.lload_n 1, 1, (1, 0, 0), vU), (.iload_n 3, 1, (3, 0, 0), vU), (.iconst 1, 1, (0, 0, 0), vI 1), (.iadd, 1, (0, 0, 0), vU)]
theorem oX3_holdsAt_33 : okAt mX3_holdsAt bX3_holdsAt_33 33 = true := by decide +kernel
theorem rX3_holdsAt_33 {g : Gp} {Q : PQ} {L st : List AV} {h : AH} {u : Nat × Nat} (hr : run mX3_holdsAt Q (fun pc L st h u => Ex g mX3_holdsAt pc L st h u Q) bX3_holdsAt_33 33 L st h u) : Ex g mX3_holdsAt 33 L st h u Q := run_ok (M := mX3_holdsAt) cfX3_ok (fun _ _ _ _ _ k => k) _ _ _ _ _ _ oX3_holdsAt_33 hr
def bX3_holdsAt_40 : List OP := [(.istore 5, 2, (5, 0, 0), vU), (.aload_n 0, 1, (0, 0, 0), vU), (.getfield 9, 3, (4, 0, 0), vU), (.lload_n 1, 1, (1, 0, 0), vU), (.iload_n 3, 1, (3, 0, 0), vU)]
theorem oX3_holdsAt_40 : okAt mX3_holdsAt bX3_holdsAt_40 40 = true := by decide +kernel
theorem rX3_holdsAt_40 {g : Gp} {Q : PQ} {L st : List AV} {h : AH} {u : Nat × Nat} (hr : run mX3_holdsAt Q (fun pc L st h u => Ex g mX3_holdsAt pc L st h u Q) bX3_holdsAt_40 40 L st h u) : Ex g mX3_holdsAt 40 L st h u Q := run_ok (M := mX3_holdsAt) cfX3_ok (fun _ _ _ _ _ k => k) _ _ _ _ _ _ oX3_holdsAt_40 hr
def bX3_holdsAt_54 : List OP := [(.ifCond .eq 45, 3, (99, 0, 0), vU), (.aload_n 0, 1, (0, 0, 0), vU), (.getfield 18, 3, (4, 2, 0), vU), (.ifCond .eq 15, 3, (76, 0, 0), vU), (.aload_n 0, 1, (0, 0, 0), vU), (.getfield 18, 3, (4, 2, 0), vU), (.iload 4, 2, (4, 0, 0), vU)]
theorem oX3_holdsAt_54 : okAt mX3_holdsAt bX3_holdsAt_54 54 = true := by decide +kernel
theorem rX3_holdsAt_54 {g : Gp} {Q : PQ} {L st : List AV} {h : AH} {u : Nat × Nat} (hr : run mX3_holdsAt Q (fun pc L st h u => Ex g mX3_holdsAt pc L st h u Q) bX3_holdsAt_54 54 L st h u) : Ex g mX3_holdsAt 54 L st h u Q := run_ok (M := mX3_holdsAt) cfX3_ok (fun _ _ _ _ _ k => k) _ _ _ _ _ _ oX3_holdsAt_54 hr
def bX3_holdsAt_73 : List OP := [(.ifCond .eq 26, 3, (99, 0, 0), vU), (.aload_n 0, 1, (0, 0, 0), vU), (.getfield 21, 3, (4, 3, 0), vU), (.ifCond .eq 15, 3, (95, 0, 0), vU), (.aload_n 0, 1, (0, 0, 0), vU), (.getfield 21, 3, (4, 3, 0), vU), (.iload 5, 2, (5, 0, 0), vU)]
theorem oX3_holdsAt_73 : okAt mX3_holdsAt bX3_holdsAt_73 73 = true := by decide +kernel
theorem rX3_holdsAt_73 {g : Gp} {Q : PQ} {L st : List AV} {h : AH} {u : Nat × Nat} (hr : run mX3_holdsAt Q (fun pc L st h u => Ex g mX3_holdsAt pc L st h u Q) bX3_holdsAt_73 73 L st h u) : Ex g mX3_holdsAt 73 L st h u Q := run_ok (M := mX3_holdsAt) cfX3_ok (fun _ _ _ _ _ k => k) _ _ _ _ _ _ oX3_holdsAt_73 hr
def bX3_holdsAt_76 : List OP := [(.aload_n 0, 1, (0, 0, 0), vU), (.getfield 21, 3, (4, 3, 0), vU), (.ifCond .eq 15, 3, (95, 0, 0), vU), (.aload_n 0, 1, (0, 0, 0), vU), (.getfield 21, 3, (4, 3, 0), vU), (.iload 5, 2, (5, 0, 0), vU)]
theorem oX3_holdsAt_76 : okAt mX3_holdsAt bX3_holdsAt_76 76 = true := by decide +kernel
theorem rX3_holdsAt_76 {g : Gp} {Q : PQ} {L st : List AV} {h : AH} {u : Nat × Nat} (hr : run mX3_holdsAt Q (fun pc L st h u => Ex g mX3_holdsAt pc L st h u Q) bX3_holdsAt_76 76 L st h u) : Ex g mX3_holdsAt 76 L st h u Q := run_ok (M := mX3_holdsAt) cfX3_ok (fun _ _ _ _ _ k => k) _ _ _ _ _ _ oX3_holdsAt_76 hr
def bX3_holdsAt_92 : List OP := [(.ifCond .eq 7, 3, (99, 0, 0), vU), (.iconst 1, 1, (0, 0, 0), vI 1), (.goto 4, 3, (100, 0, 0), vU), (.ireturn, 1, (0, 0, 0), vU)]
theorem oX3_holdsAt_92 : okAt mX3_holdsAt bX3_holdsAt_92 92 = true := by decide +kernel
theorem rX3_holdsAt_92 {g : Gp} {Q : PQ} {L st : List AV} {h : AH} {u : Nat × Nat} (hr : run mX3_holdsAt Q (fun pc L st h u => Ex g mX3_holdsAt pc L st h u Q) bX3_holdsAt_92 92 L st h u) : Ex g mX3_holdsAt 92 L st h u Q := run_ok (M := mX3_holdsAt) cfX3_ok (fun _ _ _ _ _ k => k) _ _ _ _ _ _ oX3_holdsAt_92 hr
def bX3_holdsAt_95 : List OP := [(.iconst 1, 1, (0, 0, 0), vI 1), (.goto 4, 3, (100, 0, 0), vU), (.ireturn, 1, (0, 0, 0), vU)]
theorem oX3_holdsAt_95 : okAt mX3_holdsAt bX3_holdsAt_95 95 = true := by decide +kernel
theorem rX3_holdsAt_95 {g : Gp} {Q : PQ} {L st : List AV} {h : AH} {u : Nat × Nat} (hr : run mX3_holdsAt Q (fun pc L st h u => Ex g mX3_holdsAt pc L st h u Q) bX3_holdsAt_95 95 L st h u) : Ex g mX3_holdsAt 95 L st h u Q := run_ok (M := mX3_holdsAt) cfX3_ok (fun _ _ _ _ _ k => k) _ _ _ _ _ _ oX3_holdsAt_95 hr
def bX3_holdsAt_99 : List OP := [(.iconst 0, 1, (0, 0, 0), vI 0), (.ireturn, 1, (0, 0, 0), vU)]
theorem oX3_holdsAt_99 : okAt mX3_holdsAt bX3_holdsAt_99 99 = true := by decide +kernel
theorem rX3_holdsAt_99 {g : Gp} {Q : PQ} {L st : List AV} {h : AH} {u : Nat × Nat} (hr : run mX3_holdsAt Q (fun pc L st h u => Ex g mX3_holdsAt pc L st h u Q) bX3_holdsAt_99 99 L st h u) : Ex g mX3_holdsAt 99 L st h u Q := run_ok (M := mX3_holdsAt) cfX3_ok (fun _ _ _ _ _ k => k) _ _ _ _ _ _ oX3_holdsAt_99 hr
theorem sX3_holdsAt_13 {g : Gp} {L rest : List AV} {h : AH} {u : Nat × Nat} {Q : PQ} {a1 a2 : AV}  (ev : Ev g mX8_at [a1, a2] h (cont g mX3_holdsAt 16 L rest u Q)) (hr : rest.length ≤ 4 := by exact Nat.le_of_ble_eq_true rfl) : Ex g mX3_holdsAt 13 L (a2 :: a1 :: rest) h u Q := Ex.bud (fun w1 w2 => Ex.callS (av := [a1, a2]) rfl mX8_at_ok rfl lkX3_30 smX8_at (by decide) w1 w2 hr (by decide +kernel) ev (fun _ _ k => k) (fun _ _ z => z))
theorem sX3_holdsAt_22 {g : Gp} {L rest : List AV} {h : AH} {u : Nat × Nat} {Q : PQ} {a1 : AV}  (ev : Ev g mX8_size [a1] h (cont g mX3_holdsAt 25 L rest u Q)) (hr : rest.length ≤ 4 := by exact Nat.le_of_ble_eq_true rfl) : Ex g mX3_holdsAt 22 L (a1 :: rest) h u Q := Ex.bud (fun w1 w2 => Ex.callS (av := [a1]) rfl mX8_size_ok rfl lkX3_26 smX8_size (by decide) w1 w2 hr (by decide +kernel) ev (fun _ _ k => k) (fun _ _ z => z))
theorem sX3_holdsAt_37 {g : Gp} {L rest : List AV} {h : AH} {u : Nat × Nat} {Q : PQ} {a1 a2 : AV}  (ev : Ev g mX8_at [a1, a2] h (cont g mX3_holdsAt 40 L rest u Q)) (hr : rest.length ≤ 4 := by exact Nat.le_of_ble_eq_true rfl) : Ex g mX3_holdsAt 37 L (a2 :: a1 :: rest) h u Q := Ex.bud (fun w1 w2 => Ex.callS (av := [a1, a2]) rfl mX8_at_ok rfl lkX3_30 smX8_at (by decide) w1 w2 hr (by decide +kernel) ev (fun _ _ k => k) (fun _ _ z => z))
theorem sX3_holdsAt_48 {g : Gp} {L rest : List AV} {h : AH} {u : Nat × Nat} {Q : PQ} {a1 a2 : AV}  (ev : Ev g mX8_at [a1, a2] h (cont g mX3_holdsAt 51 L rest u Q)) (hr : rest.length ≤ 4 := by exact Nat.le_of_ble_eq_true rfl) : Ex g mX3_holdsAt 48 L (a2 :: a1 :: rest) h u Q := Ex.bud (fun w1 w2 => Ex.callS (av := [a1, a2]) rfl mX8_at_ok rfl lkX3_30 smX8_at (by decide) w1 w2 hr (by decide +kernel) ev (fun _ _ k => k) (fun _ _ z => z))
theorem sX3_holdsAt_51 {g : Gp} {L rest : List AV} {h : AH} {u : Nat × Nat} {Q : PQ} {a1 a2 : AV}  (ev : Ev g mX3_has [a1, a2] h (cont g mX3_holdsAt 54 L rest u Q)) (hr : rest.length ≤ 4 := by exact Nat.le_of_ble_eq_true rfl) : Ex g mX3_holdsAt 51 L (a2 :: a1 :: rest) h u Q := Ex.bud (fun w1 w2 => Ex.callS (av := [a1, a2]) rfl mX3_has_ok rfl lkX3_46 smX3_has (by decide) w1 w2 hr (by decide +kernel) ev (fun _ _ k => k) (fun _ _ z => z))
theorem sX3_holdsAt_70 {g : Gp} {L rest : List AV} {h : AH} {u : Nat × Nat} {Q : PQ} {a1 a2 : AV}  (ev : Ev g mX3_has [a1, a2] h (cont g mX3_holdsAt 73 L rest u Q)) (hr : rest.length ≤ 4 := by exact Nat.le_of_ble_eq_true rfl) : Ex g mX3_holdsAt 70 L (a2 :: a1 :: rest) h u Q := Ex.bud (fun w1 w2 => Ex.callS (av := [a1, a2]) rfl mX3_has_ok rfl lkX3_46 smX3_has (by decide) w1 w2 hr (by decide +kernel) ev (fun _ _ k => k) (fun _ _ z => z))
theorem sX3_holdsAt_89 {g : Gp} {L rest : List AV} {h : AH} {u : Nat × Nat} {Q : PQ} {a1 a2 : AV}  (ev : Ev g mX3_has [a1, a2] h (cont g mX3_holdsAt 92 L rest u Q)) (hr : rest.length ≤ 4 := by exact Nat.le_of_ble_eq_true rfl) : Ex g mX3_holdsAt 89 L (a2 :: a1 :: rest) h u Q := Ex.bud (fun w1 w2 => Ex.callS (av := [a1, a2]) rfl mX3_has_ok rfl lkX3_46 smX3_has (by decide) w1 w2 hr (by decide +kernel) ev (fun _ _ k => k) (fun _ _ z => z))
theorem nX6_turned {g : Gp} {h : AH} {Q : PQ} {x : Nat} {i1 : Int32} {i2 : Int32} (k : Ex g mX6_turned 0 [vR x, vI i1, vI i2, vU, vU] [] h (0, 0) Q) : Ev g mX6_turned [vR x, vI i1, vI i2] h Q := Ev.of (by decide +kernel) rfl (Nat.le_of_ble_eq_true rfl) k
theorem qX6_turned : mR mX6_turned = (some FieldType.int) := rfl
def bX6_turned_0 : List OP := [(.aload_n 0, 1, (0, 0, 0), vU), (.getfield 9, 3, (7, 0, 2), vU), (.iload_n 1, 1, (1, 0, 0), vU), (.iaload, 1, (0, 0, 0), vU), (.iconst 1, 1, (0, 0, 0), vI 1), (.iload_n 2, 1, (2, 0, 0), vU), (.ishl, 1, (0, 0, 0), vU), (.ixor, 1, (0, 0, 0), vU), (.istore_n 3, 1, (3, 0, 0), vU), (.iconst 0, 1, (0, 0, 0), vI 0), (.istore 4, 2, (4, 0, 0), vU)]
theorem oX6_turned_0 : okAt mX6_turned bX6_turned_0 0 = true := by decide +kernel
theorem rX6_turned_0 {g : Gp} {Q : PQ} {L st : List AV} {h : AH} {u : Nat × Nat} (hr : run mX6_turned Q (fun pc L st h u => Ex g mX6_turned pc L st h u Q) bX6_turned_0 0 L st h u) : Ex g mX6_turned 0 L st h u Q := run_ok (M := mX6_turned) cfX6_ok (fun _ _ _ _ _ k => k) _ _ _ _ _ _ oX6_turned_0 hr
def bX6_turned_14 : List OP := [(.iload 4, 2, (4, 0, 0), vU), (.bipush 16, 2, (0, 0, 0), vI 16), (.if_icmp .ge 23, 3, (41, 0, 0), vU), (.aload_n 0, 1, (0, 0, 0), vU), (.getfield 9, 3, (7, 0, 2), vU), (.iload 4, 2, (4, 0, 0), vU), (.iaload, 1, (0, 0, 0), vU), (.iload_n 3, 1, (3, 0, 0), vU), (.if_icmp .ne 6, 3, (35, 0, 0), vU), (.iload 4, 2, (4, 0, 0), vU), (.ireturn, 1, (0, 0, 0), vU)]
theorem oX6_turned_14 : okAt mX6_turned bX6_turned_14 14 = true := by decide +kernel
theorem rX6_turned_14 {g : Gp} {Q : PQ} {L st : List AV} {h : AH} {u : Nat × Nat} (hr : run mX6_turned Q (fun pc L st h u => Ex g mX6_turned pc L st h u Q) bX6_turned_14 14 L st h u) : Ex g mX6_turned 14 L st h u Q := run_ok (M := mX6_turned) cfX6_ok (fun _ _ _ _ _ k => k) _ _ _ _ _ _ oX6_turned_14 hr
def bX6_turned_35 : List OP := [(.iinc 4 1, 3, (4, 0, 0), vI 1), (.goto (-24), 3, (14, 0, 0), vU)]
theorem oX6_turned_35 : okAt mX6_turned bX6_turned_35 35 = true := by decide +kernel
theorem rX6_turned_35 {g : Gp} {Q : PQ} {L st : List AV} {h : AH} {u : Nat × Nat} (hr : run mX6_turned Q (fun pc L st h u => Ex g mX6_turned pc L st h u Q) bX6_turned_35 35 L st h u) : Ex g mX6_turned 35 L st h u Q := run_ok (M := mX6_turned) cfX6_ok (fun _ _ _ _ _ k => k) _ _ _ _ _ _ oX6_turned_35 hr
def bX6_turned_41 : List OP := [(.iload_n 1, 1, (1, 0, 0), vU), (.ireturn, 1, (0, 0, 0), vU)]
theorem oX6_turned_41 : okAt mX6_turned bX6_turned_41 41 = true := by decide +kernel
theorem rX6_turned_41 {g : Gp} {Q : PQ} {L st : List AV} {h : AH} {u : Nat × Nat} (hr : run mX6_turned Q (fun pc L st h u => Ex g mX6_turned pc L st h u Q) bX6_turned_41 41 L st h u) : Ex g mX6_turned 41 L st h u Q := run_ok (M := mX6_turned) cfX6_ok (fun _ _ _ _ _ k => k) _ _ _ _ _ _ oX6_turned_41 hr
theorem nX3_heirOf {g : Gp} {h : AH} {Q : PQ} {x : Nat} {i1 : Int32} {i2 : Nat} (k : Ex g mX3_heirOf 0 [vR x, vI i1, vR i2] [] h (0, 0) Q) : Ev g mX3_heirOf [vR x, vI i1, vR i2] h Q := Ev.of (by decide +kernel) rfl (Nat.le_of_ble_eq_true rfl) k
theorem qX3_heirOf : mR mX3_heirOf = (some FieldType.int) := rfl
def bX3_heirOf_0 : List OP := [(.aload_n 0, 1, (0, 0, 0), vU), (.getfield 15, 3, (4, 1, 0), vU), (.bipush 16, 2, (0, 0, 0), vI 16), (.if_icmp .ge 10, 3, (16, 0, 0), vU), (.aload_n 0, 1, (0, 0, 0), vU), (.getfield 15, 3, (4, 1, 0), vU), (.goto 15, 3, (28, 0, 0), vU), (.ireturn, 1, (0, 0, 0), vU)]
theorem oX3_heirOf_0 : okAt mX3_heirOf bX3_heirOf_0 0 = true := by decide +kernel
theorem rX3_heirOf_0 {g : Gp} {Q : PQ} {L st : List AV} {h : AH} {u : Nat × Nat} (hr : run mX3_heirOf Q (fun pc L st h u => Ex g mX3_heirOf pc L st h u Q) bX3_heirOf_0 0 L st h u) : Ex g mX3_heirOf 0 L st h u Q := run_ok (M := mX3_heirOf) cfX3_ok (fun _ _ _ _ _ k => k) _ _ _ _ _ _ oX3_heirOf_0 hr
def bX3_heirOf_16 : List OP := [(.aload_n 2, 1, (2, 0, 0), vU), (.iload_n 1, 1, (1, 0, 0), vU), (.aload_n 0, 1, (0, 0, 0), vU), (.getfield 15, 3, (4, 1, 0), vU), (.bipush 16, 2, (0, 0, 0), vI 16), (.isub, 1, (0, 0, 0), vU)]
theorem oX3_heirOf_16 : okAt mX3_heirOf bX3_heirOf_16 16 = true := by decide +kernel
theorem rX3_heirOf_16 {g : Gp} {Q : PQ} {L st : List AV} {h : AH} {u : Nat × Nat} (hr : run mX3_heirOf Q (fun pc L st h u => Ex g mX3_heirOf pc L st h u Q) bX3_heirOf_16 16 L st h u) : Ex g mX3_heirOf 16 L st h u Q := run_ok (M := mX3_heirOf) cfX3_ok (fun _ _ _ _ _ k => k) _ _ _ _ _ _ oX3_heirOf_16 hr
def bX3_heirOf_28 : List OP := [(.ireturn, 1, (0, 0, 0), vU)]
theorem oX3_heirOf_28 : okAt mX3_heirOf bX3_heirOf_28 28 = true := by decide +kernel
theorem rX3_heirOf_28 {g : Gp} {Q : PQ} {L st : List AV} {h : AH} {u : Nat × Nat} (hr : run mX3_heirOf Q (fun pc L st h u => Ex g mX3_heirOf pc L st h u Q) bX3_heirOf_28 28 L st h u) : Ex g mX3_heirOf 28 L st h u Q := run_ok (M := mX3_heirOf) cfX3_ok (fun _ _ _ _ _ k => k) _ _ _ _ _ _ oX3_heirOf_28 hr
theorem sX3_heirOf_25 {g : Gp} {L rest : List AV} {h : AH} {u : Nat × Nat} {Q : PQ} {x : Nat} {a1 a2 : AV}  (hx : zK h x = (1, 7)) (ev : Ev g mX6_turned (vR x :: [a1, a2]) h (cont g mX3_heirOf 28 L rest u Q)) (hr : rest.length ≤ 4 := by exact Nat.le_of_ble_eq_true rfl) : Ex g mX3_heirOf 25 L (a2 :: a1 :: vR x :: rest) h u Q := Ex.bud (fun w1 w2 => Ex.callV (av := [a1, a2]) (r := (RX6, TX6, 2)) rfl mX6_turned_ok rfl lkX3_50 imX6_turned seX6_turned rfl hx (by decide) w1 w2 hr (by decide +kernel) ev (fun _ _ k => k) (fun _ _ z => z))
theorem nX3_goOver {g : Gp} {h : AH} {Q : PQ} {x : Nat} {i1 : Int64} {i2 : Nat} (k : Ex g mX3_goOver 0 [vR x, vL i1, vU, vR i2, vU, vU, vU, vU, vU] [] h (0, 0) Q) : Ev g mX3_goOver [vR x, vL i1, vR i2] h Q := Ev.of (by decide +kernel) rfl (Nat.le_of_ble_eq_true rfl) k
theorem qX3_goOver : mR mX3_goOver = (some FieldType.long) := rfl
def bX3_goOver_0 : List OP := [(.lconst 0, 1, (0, 0, 0), vL 0), (.lstore 4, 2, (4, 0, 0), vU), (.iconst 0, 1, (0, 0, 0), vI 0), (.istore 6, 2, (6, 0, 0), vU)]
theorem oX3_goOver_0 : okAt mX3_goOver bX3_goOver_0 0 = true := by decide +kernel
theorem rX3_goOver_0 {g : Gp} {Q : PQ} {L st : List AV} {h : AH} {u : Nat × Nat} (hr : run mX3_goOver Q (fun pc L st h u => Ex g mX3_goOver pc L st h u Q) bX3_goOver_0 0 L st h u) : Ex g mX3_goOver 0 L st h u Q := run_ok (M := mX3_goOver) cfX3_ok (fun _ _ _ _ _ k => k) _ _ _ _ _ _ oX3_goOver_0 hr
def bX3_goOver_6 : List OP := [(.iload 6, 2, (6, 0, 0), vU), (.lload_n 1, 1, (1, 0, 0), vU)]
theorem oX3_goOver_6 : okAt mX3_goOver bX3_goOver_6 6 = true := by decide +kernel
theorem rX3_goOver_6 {g : Gp} {Q : PQ} {L st : List AV} {h : AH} {u : Nat × Nat} (hr : run mX3_goOver Q (fun pc L st h u => Ex g mX3_goOver pc L st h u Q) bX3_goOver_6 6 L st h u) : Ex g mX3_goOver 6 L st h u Q := run_ok (M := mX3_goOver) cfX3_ok (fun _ _ _ _ _ k => k) _ _ _ _ _ _ oX3_goOver_6 hr
def bX3_goOver_12 : List OP := [(.if_icmp .ge 56, 3, (68, 0, 0), vU), (.lload_n 1, 1, (1, 0, 0), vU), (.iload 6, 2, (6, 0, 0), vU)]
theorem oX3_goOver_12 : okAt mX3_goOver bX3_goOver_12 12 = true := by decide +kernel
theorem rX3_goOver_12 {g : Gp} {Q : PQ} {L st : List AV} {h : AH} {u : Nat × Nat} (hr : run mX3_goOver Q (fun pc L st h u => Ex g mX3_goOver pc L st h u Q) bX3_goOver_12 12 L st h u) : Ex g mX3_goOver 12 L st h u Q := run_ok (M := mX3_goOver) cfX3_ok (fun _ _ _ _ _ k => k) _ _ _ _ _ _ oX3_goOver_12 hr
def bX3_goOver_21 : List OP := [(.istore 7, 2, (7, 0, 0), vU), (.aload_n 0, 1, (0, 0, 0), vU), (.lload_n 1, 1, (1, 0, 0), vU), (.iload 6, 2, (6, 0, 0), vU)]
theorem oX3_goOver_21 : okAt mX3_goOver bX3_goOver_21 21 = true := by decide +kernel
theorem rX3_goOver_21 {g : Gp} {Q : PQ} {L st : List AV} {h : AH} {u : Nat × Nat} (hr : run mX3_goOver Q (fun pc L st h u => Ex g mX3_goOver pc L st h u Q) bX3_goOver_21 21 L st h u) : Ex g mX3_goOver 21 L st h u Q := run_ok (M := mX3_goOver) cfX3_ok (fun _ _ _ _ _ k => k) _ _ _ _ _ _ oX3_goOver_21 hr
def bX3_goOver_30 : List OP := [(.ifCond .eq 13, 3, (43, 0, 0), vU), (.aload_n 0, 1, (0, 0, 0), vU), (.iload 7, 2, (7, 0, 0), vU), (.aload_n 3, 1, (3, 0, 0), vU)]
theorem oX3_goOver_30 : okAt mX3_goOver bX3_goOver_30 30 = true := by decide +kernel
theorem rX3_goOver_30 {g : Gp} {Q : PQ} {L st : List AV} {h : AH} {u : Nat × Nat} (hr : run mX3_goOver Q (fun pc L st h u => Ex g mX3_goOver pc L st h u Q) bX3_goOver_30 30 L st h u) : Ex g mX3_goOver 30 L st h u Q := run_ok (M := mX3_goOver) cfX3_ok (fun _ _ _ _ _ k => k) _ _ _ _ _ _ oX3_goOver_30 hr
def bX3_goOver_40 : List OP := [(.goto 5, 3, (45, 0, 0), vU), (.istore 8, 2, (8, 0, 0), vU), (.iload 8, 2, (8, 0, 0), vU), (.iconst (-1), 1, (0, 0, 0), vI (-1)), (.if_icmp .eq 12, 3, (62, 0, 0), vU), (.lload 4, 2, (4, 0, 0), vU), (.iload 8, 2, (8, 0, 0), vU)]
theorem oX3_goOver_40 : okAt mX3_goOver bX3_goOver_40 40 = true := by decide +kernel
theorem rX3_goOver_40 {g : Gp} {Q : PQ} {L st : List AV} {h : AH} {u : Nat × Nat} (hr : run mX3_goOver Q (fun pc L st h u => Ex g mX3_goOver pc L st h u Q) bX3_goOver_40 40 L st h u) : Ex g mX3_goOver 40 L st h u Q := run_ok (M := mX3_goOver) cfX3_ok (fun _ _ _ _ _ k => k) _ _ _ _ _ _ oX3_goOver_40 hr
def bX3_goOver_43 : List OP := [(.iload 7, 2, (7, 0, 0), vU), (.istore 8, 2, (8, 0, 0), vU), (.iload 8, 2, (8, 0, 0), vU), (.iconst (-1), 1, (0, 0, 0), vI (-1)), (.if_icmp .eq 12, 3, (62, 0, 0), vU), (.lload 4, 2, (4, 0, 0), vU), (.iload 8, 2, (8, 0, 0), vU)]
theorem oX3_goOver_43 : okAt mX3_goOver bX3_goOver_43 43 = true := by decide +kernel
theorem rX3_goOver_43 {g : Gp} {Q : PQ} {L st : List AV} {h : AH} {u : Nat × Nat} (hr : run mX3_goOver Q (fun pc L st h u => Ex g mX3_goOver pc L st h u Q) bX3_goOver_43 43 L st h u) : Ex g mX3_goOver 43 L st h u Q := run_ok (M := mX3_goOver) cfX3_ok (fun _ _ _ _ _ k => k) _ _ _ _ _ _ oX3_goOver_43 hr
def bX3_goOver_60 : List OP := [(.lstore 4, 2, (4, 0, 0), vU), (.iinc 6 1, 3, (6, 0, 0), vI 1), (.goto (-59), 3, (6, 0, 0), vU)]
theorem oX3_goOver_60 : okAt mX3_goOver bX3_goOver_60 60 = true := by decide +kernel
theorem rX3_goOver_60 {g : Gp} {Q : PQ} {L st : List AV} {h : AH} {u : Nat × Nat} (hr : run mX3_goOver Q (fun pc L st h u => Ex g mX3_goOver pc L st h u Q) bX3_goOver_60 60 L st h u) : Ex g mX3_goOver 60 L st h u Q := run_ok (M := mX3_goOver) cfX3_ok (fun _ _ _ _ _ k => k) _ _ _ _ _ _ oX3_goOver_60 hr
def bX3_goOver_62 : List OP := [(.iinc 6 1, 3, (6, 0, 0), vI 1), (.goto (-59), 3, (6, 0, 0), vU)]
theorem oX3_goOver_62 : okAt mX3_goOver bX3_goOver_62 62 = true := by decide +kernel
theorem rX3_goOver_62 {g : Gp} {Q : PQ} {L st : List AV} {h : AH} {u : Nat × Nat} (hr : run mX3_goOver Q (fun pc L st h u => Ex g mX3_goOver pc L st h u Q) bX3_goOver_62 62 L st h u) : Ex g mX3_goOver 62 L st h u Q := run_ok (M := mX3_goOver) cfX3_ok (fun _ _ _ _ _ k => k) _ _ _ _ _ _ oX3_goOver_62 hr
def bX3_goOver_68 : List OP := [(.lload 4, 2, (4, 0, 0), vU), (.lconst 0, 1, (0, 0, 0), vL 0), (.lcmp, 1, (0, 0, 0), vU), (.ifCond .ne 7, 3, (79, 0, 0), vU), (.lload_n 1, 1, (1, 0, 0), vU), (.goto 5, 3, (81, 0, 0), vU), (.lreturn, 1, (0, 0, 0), vU)]
theorem oX3_goOver_68 : okAt mX3_goOver bX3_goOver_68 68 = true := by decide +kernel
theorem rX3_goOver_68 {g : Gp} {Q : PQ} {L st : List AV} {h : AH} {u : Nat × Nat} (hr : run mX3_goOver Q (fun pc L st h u => Ex g mX3_goOver pc L st h u Q) bX3_goOver_68 68 L st h u) : Ex g mX3_goOver 68 L st h u Q := run_ok (M := mX3_goOver) cfX3_ok (fun _ _ _ _ _ k => k) _ _ _ _ _ _ oX3_goOver_68 hr
def bX3_goOver_79 : List OP := [(.lload 4, 2, (4, 0, 0), vU), (.lreturn, 1, (0, 0, 0), vU)]
theorem oX3_goOver_79 : okAt mX3_goOver bX3_goOver_79 79 = true := by decide +kernel
theorem rX3_goOver_79 {g : Gp} {Q : PQ} {L st : List AV} {h : AH} {u : Nat × Nat} (hr : run mX3_goOver Q (fun pc L st h u => Ex g mX3_goOver pc L st h u Q) bX3_goOver_79 79 L st h u) : Ex g mX3_goOver 79 L st h u Q := run_ok (M := mX3_goOver) cfX3_ok (fun _ _ _ _ _ k => k) _ _ _ _ _ _ oX3_goOver_79 hr
theorem sX3_goOver_9 {g : Gp} {L rest : List AV} {h : AH} {u : Nat × Nat} {Q : PQ} {a1 : AV}  (ev : Ev g mX8_size [a1] h (cont g mX3_goOver 12 L rest u Q)) (hr : rest.length ≤ 4 := by exact Nat.le_of_ble_eq_true rfl) : Ex g mX3_goOver 9 L (a1 :: rest) h u Q := Ex.bud (fun w1 w2 => Ex.callS (av := [a1]) rfl mX8_size_ok rfl lkX3_26 smX8_size (by decide) w1 w2 hr (by decide +kernel) ev (fun _ _ k => k) (fun _ _ z => z))
theorem sX3_goOver_18 {g : Gp} {L rest : List AV} {h : AH} {u : Nat × Nat} {Q : PQ} {a1 a2 : AV}  (ev : Ev g mX8_at [a1, a2] h (cont g mX3_goOver 21 L rest u Q)) (hr : rest.length ≤ 4 := by exact Nat.le_of_ble_eq_true rfl) : Ex g mX3_goOver 18 L (a2 :: a1 :: rest) h u Q := Ex.bud (fun w1 w2 => Ex.callS (av := [a1, a2]) rfl mX8_at_ok rfl lkX3_30 smX8_at (by decide) w1 w2 hr (by decide +kernel) ev (fun _ _ k => k) (fun _ _ z => z))
theorem sX3_goOver_27 {g : Gp} {L rest : List AV} {h : AH} {u : Nat × Nat} {Q : PQ} {x : Nat} {a1 a2 : AV}  (hx : zK h x = (1, 4)) (ev : Ev g mX3_holdsAt (vR x :: [a1, a2]) h (cont g mX3_goOver 30 L rest u Q)) (hr : rest.length ≤ 4 := by exact Nat.le_of_ble_eq_true rfl) : Ex g mX3_goOver 27 L (a2 :: a1 :: vR x :: rest) h u Q := Ex.bud (fun w1 w2 => Ex.callV (av := [a1, a2]) (r := (RX3, TX3, 4)) rfl mX3_holdsAt_ok rfl lkX3_34 imX3_holdsAt seX3_holdsAt rfl hx (by decide) w1 w2 hr (by decide +kernel) ev (fun _ _ k => k) (fun _ _ z => z))
theorem sX3_goOver_37 {g : Gp} {L rest : List AV} {h : AH} {u : Nat × Nat} {Q : PQ} {x : Nat} {a1 a2 : AV}  (hx : zK h x = (1, 4)) (ev : Ev g mX3_heirOf (vR x :: [a1, a2]) h (cont g mX3_goOver 40 L rest u Q)) (hr : rest.length ≤ 4 := by exact Nat.le_of_ble_eq_true rfl) : Ex g mX3_goOver 37 L (a2 :: a1 :: vR x :: rest) h u Q := Ex.bud (fun w1 w2 => Ex.callV (av := [a1, a2]) (r := (RX3, TX3, 4)) rfl mX3_heirOf_ok rfl lkX3_38 imX3_heirOf seX3_heirOf rfl hx (by decide) w1 w2 hr (by decide +kernel) ev (fun _ _ k => k) (fun _ _ z => z))
theorem sX3_goOver_57 {g : Gp} {L rest : List AV} {h : AH} {u : Nat × Nat} {Q : PQ} {a1 a2 : AV}  (ev : Ev g mX8_plus [a1, a2] h (cont g mX3_goOver 60 L rest u Q)) (hr : rest.length ≤ 4 := by exact Nat.le_of_ble_eq_true rfl) : Ex g mX3_goOver 57 L (a2 :: a1 :: rest) h u Q := Ex.bud (fun w1 w2 => Ex.callS (av := [a1, a2]) rfl mX8_plus_ok rfl lkX3_42 smX8_plus (by decide) w1 w2 hr (by decide +kernel) ev (fun _ _ k => k) (fun _ _ z => z))
theorem nX4_tellWord {g : Gp} {h : AH} {Q : PQ} {x : Nat} {i1 : Int32} {i2 : Int32} (k : Ex g mX4_tellWord 0 [vR x, vI i1, vI i2, vU, vU, vU, vU, vU] [] h (0, 0) Q) : Ev g mX4_tellWord [vR x, vI i1, vI i2] h Q := Ev.of (by decide +kernel) rfl (Nat.le_of_ble_eq_true rfl) k
theorem qX4_tellWord : mR mX4_tellWord = none := rfl
def bX4_tellWord_0 : List OP := [(.aload_n 0, 1, (0, 0, 0), vU), (.iload_n 1, 1, (1, 0, 0), vU), (.iload_n 2, 1, (2, 0, 0), vU)]
theorem oX4_tellWord_0 : okAt mX4_tellWord bX4_tellWord_0 0 = true := by decide +kernel
theorem rX4_tellWord_0 {g : Gp} {Q : PQ} {L st : List AV} {h : AH} {u : Nat × Nat} (hr : run mX4_tellWord Q (fun pc L st h u => Ex g mX4_tellWord pc L st h u Q) bX4_tellWord_0 0 L st h u) : Ex g mX4_tellWord 0 L st h u Q := run_ok (M := mX4_tellWord) cfX4_ok (fun _ _ _ _ _ k => k) _ _ _ _ _ _ oX4_tellWord_0 hr
def bX4_tellWord_6 : List OP := [(.iload_n 1, 1, (1, 0, 0), vU), (.iload_n 2, 1, (2, 0, 0), vU)]
theorem oX4_tellWord_6 : okAt mX4_tellWord bX4_tellWord_6 6 = true := by decide +kernel
theorem rX4_tellWord_6 {g : Gp} {Q : PQ} {L st : List AV} {h : AH} {u : Nat × Nat} (hr : run mX4_tellWord Q (fun pc L st h u => Ex g mX4_tellWord pc L st h u Q) bX4_tellWord_6 6 L st h u) : Ex g mX4_tellWord 6 L st h u Q := run_ok (M := mX4_tellWord) cfX4_ok (fun _ _ _ _ _ k => k) _ _ _ _ _ _ oX4_tellWord_6 hr
def bX4_tellWord_11 : List OP := [(.istore_n 3, 1, (3, 0, 0), vU), (.aload_n 0, 1, (0, 0, 0), vU), (.getfield 26, 3, (5, 0, 2), vU), (.getfield 41, 3, (2, 0, 2), vU), (.iload_n 1, 1, (1, 0, 0), vU)]
theorem oX4_tellWord_11 : okAt mX4_tellWord bX4_tellWord_11 11 = true := by decide +kernel
theorem rX4_tellWord_11 {g : Gp} {Q : PQ} {L st : List AV} {h : AH} {u : Nat × Nat} (hr : run mX4_tellWord Q (fun pc L st h u => Ex g mX4_tellWord pc L st h u Q) bX4_tellWord_11 11 L st h u) : Ex g mX4_tellWord 11 L st h u Q := run_ok (M := mX4_tellWord) cfX4_ok (fun _ _ _ _ _ k => k) _ _ _ _ _ _ oX4_tellWord_11 hr
def bX4_tellWord_23 : List OP := [(.checkcast 68, 3, (3, 0, 0), vU), (.getfield 70, 3, (3, 1, 2), vU), (.astore 4, 2, (4, 0, 0), vU), (.iconst 0, 1, (0, 0, 0), vI 0), (.istore 5, 2, (5, 0, 0), vU)]
theorem oX4_tellWord_23 : okAt mX4_tellWord bX4_tellWord_23 23 = true := by decide +kernel
theorem rX4_tellWord_23 {g : Gp} {Q : PQ} {L st : List AV} {h : AH} {u : Nat × Nat} (hr : run mX4_tellWord Q (fun pc L st h u => Ex g mX4_tellWord pc L st h u Q) bX4_tellWord_23 23 L st h u) : Ex g mX4_tellWord 23 L st h u Q := run_ok (M := mX4_tellWord) cfX4_ok (fun _ _ _ _ _ k => k) _ _ _ _ _ _ oX4_tellWord_23 hr
def bX4_tellWord_34 : List OP := [(.iload 5, 2, (5, 0, 0), vU), (.bipush 8, 2, (0, 0, 0), vI 8), (.if_icmp .gt 85, 3, (123, 0, 0), vU), (.aload_n 0, 1, (0, 0, 0), vU), (.iload_n 1, 1, (1, 0, 0), vU), (.iload_n 2, 1, (2, 0, 0), vU), (.iload 5, 2, (5, 0, 0), vU)]
theorem oX4_tellWord_34 : okAt mX4_tellWord bX4_tellWord_34 34 = true := by decide +kernel
theorem rX4_tellWord_34 {g : Gp} {Q : PQ} {L st : List AV} {h : AH} {u : Nat × Nat} (hr : run mX4_tellWord Q (fun pc L st h u => Ex g mX4_tellWord pc L st h u Q) bX4_tellWord_34 34 L st h u) : Ex g mX4_tellWord 34 L st h u Q := run_ok (M := mX4_tellWord) cfX4_ok (fun _ _ _ _ _ k => k) _ _ _ _ _ _ oX4_tellWord_34 hr
def bX4_tellWord_49 : List OP := [(.iload 5, 2, (5, 0, 0), vU), (.aload 4, 2, (4, 0, 0), vU)]
theorem oX4_tellWord_49 : okAt mX4_tellWord bX4_tellWord_49 49 = true := by decide +kernel
theorem rX4_tellWord_49 {g : Gp} {Q : PQ} {L st : List AV} {h : AH} {u : Nat × Nat} (hr : run mX4_tellWord Q (fun pc L st h u => Ex g mX4_tellWord pc L st h u Q) bX4_tellWord_49 49 L st h u) : Ex g mX4_tellWord 49 L st h u Q := run_ok (M := mX4_tellWord) cfX4_ok (fun _ _ _ _ _ k => k) _ _ _ _ _ _ oX4_tellWord_49 hr
def bX4_tellWord_56 : List OP := [(.if_icmp .ge 61, 3, (117, 0, 0), vU), (.aload 4, 2, (4, 0, 0), vU), (.iload 5, 2, (5, 0, 0), vU)]
theorem oX4_tellWord_56 : okAt mX4_tellWord bX4_tellWord_56 56 = true := by decide +kernel
theorem rX4_tellWord_56 {g : Gp} {Q : PQ} {L st : List AV} {h : AH} {u : Nat × Nat} (hr : run mX4_tellWord Q (fun pc L st h u => Ex g mX4_tellWord pc L st h u Q) bX4_tellWord_56 56 L st h u) : Ex g mX4_tellWord 56 L st h u Q := run_ok (M := mX4_tellWord) cfX4_ok (fun _ _ _ _ _ k => k) _ _ _ _ _ _ oX4_tellWord_56 hr
def bX4_tellWord_66 : List OP := [(.checkcast 77, 3, (4, 0, 0), vU), (.aload_n 0, 1, (0, 0, 0), vU), (.getfield 9, 3, (5, 3, 2), vU), (.iload_n 3, 1, (3, 0, 0), vU), (.laload, 1, (0, 0, 0), vU), (.aload_n 0, 1, (0, 0, 0), vU), (.getfield 30, 3, (5, 1, 2), vU)]
theorem oX4_tellWord_66 : okAt mX4_tellWord bX4_tellWord_66 66 = true := by decide +kernel
theorem rX4_tellWord_66 {g : Gp} {Q : PQ} {L st : List AV} {h : AH} {u : Nat × Nat} (hr : run mX4_tellWord Q (fun pc L st h u => Ex g mX4_tellWord pc L st h u Q) bX4_tellWord_66 66 L st h u) : Ex g mX4_tellWord 66 L st h u Q := run_ok (M := mX4_tellWord) cfX4_ok (fun _ _ _ _ _ k => k) _ _ _ _ _ _ oX4_tellWord_66 hr
def bX4_tellWord_82 : List OP := [(.lstore 6, 2, (6, 0, 0), vU), (.lload 6, 2, (6, 0, 0), vU), (.aload_n 0, 1, (0, 0, 0), vU), (.getfield 9, 3, (5, 3, 2), vU), (.iload_n 3, 1, (3, 0, 0), vU), (.laload, 1, (0, 0, 0), vU), (.lcmp, 1, (0, 0, 0), vU), (.ifCond .eq 24, 3, (117, 0, 0), vU), (.aload_n 0, 1, (0, 0, 0), vU), (.getfield 9, 3, (5, 3, 2), vU), (.iload_n 3, 1, (3, 0, 0), vU), (.lload 6, 2, (6, 0, 0), vU), (.lastore, 1, (0, 0, 0), vU), (.aload_n 0, 1, (0, 0, 0), vU), (.getfield 19, 3, (5, 5, 2), vU), (.iload_n 3, 1, (3, 0, 0), vU), (.dup2, 1, (0, 0, 0), vU), (.iaload, 1, (0, 0, 0), vU), (.iconst 1, 1, (0, 0, 0), vI 1), (.iload 5, 2, (5, 0, 0), vU), (.ishl, 1, (0, 0, 0), vU), (.ior, 1, (0, 0, 0), vU), (.iastore, 1, (0, 0, 0), vU), (.iinc 5 1, 3, (5, 0, 0), vI 1), (.goto (-86), 3, (34, 0, 0), vU)]
theorem oX4_tellWord_82 : okAt mX4_tellWord bX4_tellWord_82 82 = true := by decide +kernel
theorem rX4_tellWord_82 {g : Gp} {Q : PQ} {L st : List AV} {h : AH} {u : Nat × Nat} (hr : run mX4_tellWord Q (fun pc L st h u => Ex g mX4_tellWord pc L st h u Q) bX4_tellWord_82 82 L st h u) : Ex g mX4_tellWord 82 L st h u Q := run_ok (M := mX4_tellWord) cfX4_ok (fun _ _ _ _ _ k => k) _ _ _ _ _ _ oX4_tellWord_82 hr
def bX4_tellWord_117 : List OP := [(.iinc 5 1, 3, (5, 0, 0), vI 1), (.goto (-86), 3, (34, 0, 0), vU)]
theorem oX4_tellWord_117 : okAt mX4_tellWord bX4_tellWord_117 117 = true := by decide +kernel
theorem rX4_tellWord_117 {g : Gp} {Q : PQ} {L st : List AV} {h : AH} {u : Nat × Nat} (hr : run mX4_tellWord Q (fun pc L st h u => Ex g mX4_tellWord pc L st h u Q) bX4_tellWord_117 117 L st h u) : Ex g mX4_tellWord 117 L st h u Q := run_ok (M := mX4_tellWord) cfX4_ok (fun _ _ _ _ _ k => k) _ _ _ _ _ _ oX4_tellWord_117 hr
def bX4_tellWord_123 : List OP := [(.return_, 1, (0, 0, 0), vU)]
theorem oX4_tellWord_123 : okAt mX4_tellWord bX4_tellWord_123 123 = true := by decide +kernel
theorem rX4_tellWord_123 {g : Gp} {Q : PQ} {L st : List AV} {h : AH} {u : Nat × Nat} (hr : run mX4_tellWord Q (fun pc L st h u => Ex g mX4_tellWord pc L st h u Q) bX4_tellWord_123 123 L st h u) : Ex g mX4_tellWord 123 L st h u Q := run_ok (M := mX4_tellWord) cfX4_ok (fun _ _ _ _ _ k => k) _ _ _ _ _ _ oX4_tellWord_123 hr
theorem sX4_tellWord_3 {g : Gp} {L rest : List AV} {h : AH} {u : Nat × Nat} {Q : PQ} {x : Nat} {a1 a2 : AV}  (hx : zK h x = (1, 5)) (ev : Ev g mX4_inherit (vR x :: [a1, a2]) h (cont g mX4_tellWord 6 L rest u Q)) (hr : rest.length ≤ 4 := by exact Nat.le_of_ble_eq_true rfl) : Ex g mX4_tellWord 3 L (a2 :: a1 :: vR x :: rest) h u Q := Ex.bud (fun w1 w2 => Ex.callV (av := [a1, a2]) (r := (RX4, TX4, 7)) rfl mX4_inherit_ok rfl lkX4_57 imX4_inherit seX4_inherit rfl hx (by decide) w1 w2 hr (by decide +kernel) ev (fun _ _ k => k) (fun _ _ z => z))
theorem sX4_tellWord_8 {g : Gp} {L rest : List AV} {h : AH} {u : Nat × Nat} {Q : PQ} {a1 a2 : AV}  (ev : Ev g mX4_cell [a1, a2] h (cont g mX4_tellWord 11 L rest u Q)) (hr : rest.length ≤ 4 := by exact Nat.le_of_ble_eq_true rfl) : Ex g mX4_tellWord 8 L (a2 :: a1 :: rest) h u Q := Ex.bud (fun w1 w2 => Ex.callS (av := [a1, a2]) rfl mX4_cell_ok rfl lkX4_60 smX4_cell (by decide) w1 w2 hr (by decide +kernel) ev (fun _ _ k => k) (fun _ _ z => z))
theorem sX4_tellWord_20 {g : Gp} {L rest : List AV} {h : AH} {u : Nat × Nat} {Q : PQ} {x : Nat} {a1 : AV}  (hx : zK h x = (1, 0)) (ev : Ev g mJx4a65c_get_915e3 (vR x :: [a1]) h (cont g mX4_tellWord 23 L rest u Q)) (hr : rest.length ≤ 4 := by exact Nat.le_of_ble_eq_true rfl) : Ex g mX4_tellWord 20 L (a1 :: vR x :: rest) h u Q := Ex.bud (fun w1 w2 => Ex.callV (av := [a1]) (r := (RJx4a65c, TJx4a65c, 3)) rfl mJx4a65c_get_915e3_ok rfl lkX4_64 imJx4a65c_get_915e3 seJx4a65c_get_915e3 rfl hx (by decide) w1 w2 hr (by decide +kernel) ev (fun _ _ k => k) (fun _ _ z => z))
theorem sX4_tellWord_46 {g : Gp} {L rest : List AV} {h : AH} {u : Nat × Nat} {Q : PQ} {x : Nat} {a1 a2 a3 : AV}  (hx : zK h x = (1, 5)) (ev : Ev g mX4_borrow (vR x :: [a1, a2, a3]) h (cont g mX4_tellWord 49 L rest u Q)) (hr : rest.length ≤ 4 := by exact Nat.le_of_ble_eq_true rfl) : Ex g mX4_tellWord 46 L (a3 :: a2 :: a1 :: vR x :: rest) h u Q := Ex.bud (fun w1 w2 => Ex.callV (av := [a1, a2, a3]) (r := (RX4, TX4, 7)) rfl mX4_borrow_ok rfl lkX4_73 imX4_borrow seX4_borrow rfl hx (by decide) w1 w2 hr (by decide +kernel) ev (fun _ _ k => k) (fun _ _ z => z))
theorem sX4_tellWord_53 {g : Gp} {L rest : List AV} {h : AH} {u : Nat × Nat} {Q : PQ} {x : Nat}   (hx : zK h x = (1, 0)) (ev : Ev g mJx4a65c_size_8abf5 (vR x :: []) h (cont g mX4_tellWord 56 L rest u Q)) (hr : rest.length ≤ 4 := by exact Nat.le_of_ble_eq_true rfl) : Ex g mX4_tellWord 53 L (vR x :: rest) h u Q := Ex.bud (fun w1 w2 => Ex.callV (av := []) (r := (RJx4a65c, TJx4a65c, 3)) rfl mJx4a65c_size_8abf5_ok rfl lkX4_47 imJx4a65c_size_8abf5 seJx4a65c_size_8abf5 rfl hx (by decide) w1 w2 hr (by decide +kernel) ev (fun _ _ k => k) (fun _ _ z => z))
theorem sX4_tellWord_63 {g : Gp} {L rest : List AV} {h : AH} {u : Nat × Nat} {Q : PQ} {x : Nat} {a1 : AV}  (hx : zK h x = (1, 0)) (ev : Ev g mJx4a65c_get_915e3 (vR x :: [a1]) h (cont g mX4_tellWord 66 L rest u Q)) (hr : rest.length ≤ 4 := by exact Nat.le_of_ble_eq_true rfl) : Ex g mX4_tellWord 63 L (a1 :: vR x :: rest) h u Q := Ex.bud (fun w1 w2 => Ex.callV (av := [a1]) (r := (RJx4a65c, TJx4a65c, 3)) rfl mJx4a65c_get_915e3_ok rfl lkX4_64 imJx4a65c_get_915e3 seJx4a65c_get_915e3 rfl hx (by decide) w1 w2 hr (by decide +kernel) ev (fun _ _ k => k) (fun _ _ z => z))
theorem sX4_tellWord_79 {g : Gp} {L rest : List AV} {h : AH} {u : Nat × Nat} {Q : PQ} {x : Nat} {a1 a2 : AV}  (hx : zK h x = (1, 4)) (ev : Ev g mX3_goOver (vR x :: [a1, a2]) h (cont g mX4_tellWord 82 L rest u Q)) (hr : rest.length ≤ 4 := by exact Nat.le_of_ble_eq_true rfl) : Ex g mX4_tellWord 79 L (a2 :: a1 :: vR x :: rest) h u Q := Ex.bud (fun w1 w2 => Ex.callV (av := [a1, a2]) (r := (RX3, TX3, 4)) rfl mX3_goOver_ok rfl lkX4_79 imX3_goOver seX3_goOver rfl hx (by decide) w1 w2 hr (by decide +kernel) ev (fun _ _ k => k) (fun _ _ z => z))
theorem nX4_freshen {g : Gp} {h : AH} {Q : PQ} {x : Nat} {i1 : Int32} (k : Ex g mX4_freshen 0 [vR x, vI i1, vU] [] h (0, 0) Q) : Ev g mX4_freshen [vR x, vI i1] h Q := Ev.of (by decide +kernel) rfl (Nat.le_of_ble_eq_true rfl) k
theorem qX4_freshen : mR mX4_freshen = none := rfl
def bX4_freshen_0 : List OP := [(.aload_n 0, 1, (0, 0, 0), vU), (.getfield 22, 3, (5, 6, 2), vU), (.iload_n 1, 1, (1, 0, 0), vU), (.baload, 1, (0, 0, 0), vU), (.ifCond .eq 4, 3, (10, 0, 0), vU), (.return_, 1, (0, 0, 0), vU)]
theorem oX4_freshen_0 : okAt mX4_freshen bX4_freshen_0 0 = true := by decide +kernel
theorem rX4_freshen_0 {g : Gp} {Q : PQ} {L st : List AV} {h : AH} {u : Nat × Nat} (hr : run mX4_freshen Q (fun pc L st h u => Ex g mX4_freshen pc L st h u Q) bX4_freshen_0 0 L st h u) : Ex g mX4_freshen 0 L st h u Q := run_ok (M := mX4_freshen) cfX4_ok (fun _ _ _ _ _ k => k) _ _ _ _ _ _ oX4_freshen_0 hr
def bX4_freshen_10 : List OP := [(.iconst 0, 1, (0, 0, 0), vI 0), (.istore_n 2, 1, (2, 0, 0), vU)]
theorem oX4_freshen_10 : okAt mX4_freshen bX4_freshen_10 10 = true := by decide +kernel
theorem rX4_freshen_10 {g : Gp} {Q : PQ} {L st : List AV} {h : AH} {u : Nat × Nat} (hr : run mX4_freshen Q (fun pc L st h u => Ex g mX4_freshen pc L st h u Q) bX4_freshen_10 10 L st h u) : Ex g mX4_freshen 10 L st h u Q := run_ok (M := mX4_freshen) cfX4_ok (fun _ _ _ _ _ k => k) _ _ _ _ _ _ oX4_freshen_10 hr
def bX4_freshen_12 : List OP := [(.iload_n 2, 1, (2, 0, 0), vU), (.aload_n 0, 1, (0, 0, 0), vU), (.getfield 26, 3, (5, 0, 2), vU), (.getfield 41, 3, (2, 0, 2), vU)]
theorem oX4_freshen_12 : okAt mX4_freshen bX4_freshen_12 12 = true := by decide +kernel
theorem rX4_freshen_12 {g : Gp} {Q : PQ} {L st : List AV} {h : AH} {u : Nat × Nat} (hr : run mX4_freshen Q (fun pc L st h u => Ex g mX4_freshen pc L st h u Q) bX4_freshen_12 12 L st h u) : Ex g mX4_freshen 12 L st h u Q := run_ok (M := mX4_freshen) cfX4_ok (fun _ _ _ _ _ k => k) _ _ _ _ _ _ oX4_freshen_12 hr
def bX4_freshen_23 : List OP := [(.if_icmp .ge 15, 3, (38, 0, 0), vU), (.aload_n 0, 1, (0, 0, 0), vU), (.iload_n 2, 1, (2, 0, 0), vU), (.iload_n 1, 1, (1, 0, 0), vU)]
theorem oX4_freshen_23 : okAt mX4_freshen bX4_freshen_23 23 = true := by decide +kernel
theorem rX4_freshen_23 {g : Gp} {Q : PQ} {L st : List AV} {h : AH} {u : Nat × Nat} (hr : run mX4_freshen Q (fun pc L st h u => Ex g mX4_freshen pc L st h u Q) bX4_freshen_23 23 L st h u) : Ex g mX4_freshen 23 L st h u Q := run_ok (M := mX4_freshen) cfX4_ok (fun _ _ _ _ _ k => k) _ _ _ _ _ _ oX4_freshen_23 hr
def bX4_freshen_32 : List OP := [(.iinc 2 1, 3, (2, 0, 0), vI 1), (.goto (-23), 3, (12, 0, 0), vU)]
theorem oX4_freshen_32 : okAt mX4_freshen bX4_freshen_32 32 = true := by decide +kernel
theorem rX4_freshen_32 {g : Gp} {Q : PQ} {L st : List AV} {h : AH} {u : Nat × Nat} (hr : run mX4_freshen Q (fun pc L st h u => Ex g mX4_freshen pc L st h u Q) bX4_freshen_32 32 L st h u) : Ex g mX4_freshen 32 L st h u Q := run_ok (M := mX4_freshen) cfX4_ok (fun _ _ _ _ _ k => k) _ _ _ _ _ _ oX4_freshen_32 hr
def bX4_freshen_38 : List OP := [(.aload_n 0, 1, (0, 0, 0), vU), (.getfield 22, 3, (5, 6, 2), vU), (.iload_n 1, 1, (1, 0, 0), vU), (.iconst 1, 1, (0, 0, 0), vI 1), (.bastore, 1, (0, 0, 0), vU), (.return_, 1, (0, 0, 0), vU)]
theorem oX4_freshen_38 : okAt mX4_freshen bX4_freshen_38 38 = true := by decide +kernel
theorem rX4_freshen_38 {g : Gp} {Q : PQ} {L st : List AV} {h : AH} {u : Nat × Nat} (hr : run mX4_freshen Q (fun pc L st h u => Ex g mX4_freshen pc L st h u Q) bX4_freshen_38 38 L st h u) : Ex g mX4_freshen 38 L st h u Q := run_ok (M := mX4_freshen) cfX4_ok (fun _ _ _ _ _ k => k) _ _ _ _ _ _ oX4_freshen_38 hr
theorem sX4_freshen_20 {g : Gp} {L rest : List AV} {h : AH} {u : Nat × Nat} {Q : PQ} {x : Nat}   (hx : zK h x = (1, 0)) (ev : Ev g mJx4a65c_size_8abf5 (vR x :: []) h (cont g mX4_freshen 23 L rest u Q)) (hr : rest.length ≤ 4 := by exact Nat.le_of_ble_eq_true rfl) : Ex g mX4_freshen 20 L (vR x :: rest) h u Q := Ex.bud (fun w1 w2 => Ex.callV (av := []) (r := (RJx4a65c, TJx4a65c, 3)) rfl mJx4a65c_size_8abf5_ok rfl lkX4_47 imJx4a65c_size_8abf5 seJx4a65c_size_8abf5 rfl hx (by decide) w1 w2 hr (by decide +kernel) ev (fun _ _ k => k) (fun _ _ z => z))
theorem sX4_freshen_29 {g : Gp} {L rest : List AV} {h : AH} {u : Nat × Nat} {Q : PQ} {x : Nat} {a1 a2 : AV}  (hx : zK h x = (1, 5)) (ev : Ev g mX4_tellWord (vR x :: [a1, a2]) h (cont g mX4_freshen 32 L rest u Q)) (hr : rest.length ≤ 4 := by exact Nat.le_of_ble_eq_true rfl) : Ex g mX4_freshen 29 L (a2 :: a1 :: vR x :: rest) h u Q := Ex.bud (fun w1 w2 => Ex.callV (av := [a1, a2]) (r := (RX4, TX4, 7)) rfl mX4_tellWord_ok rfl lkX4_53 imX4_tellWord seX4_tellWord rfl hx (by decide) w1 w2 hr (by decide +kernel) ev (fun _ _ k => k) (fun _ _ z => z))
theorem nX4_wordOf {g : Gp} {h : AH} {Q : PQ} {x : Nat} {i1 : Int32} {i2 : Int32} (k : Ex g mX4_wordOf 0 [vR x, vI i1, vI i2] [] h (0, 0) Q) : Ev g mX4_wordOf [vR x, vI i1, vI i2] h Q := Ev.of (by decide +kernel) rfl (Nat.le_of_ble_eq_true rfl) k
theorem qX4_wordOf : mR mX4_wordOf = (some FieldType.long) := rfl
def bX4_wordOf_0 : List OP := [(.aload_n 0, 1, (0, 0, 0), vU), (.getfield 9, 3, (5, 3, 2), vU), (.iload_n 1, 1, (1, 0, 0), vU), (.iload_n 2, 1, (2, 0, 0), vU)]
theorem oX4_wordOf_0 : okAt mX4_wordOf bX4_wordOf_0 0 = true := by decide +kernel
theorem rX4_wordOf_0 {g : Gp} {Q : PQ} {L st : List AV} {h : AH} {u : Nat × Nat} (hr : run mX4_wordOf Q (fun pc L st h u => Ex g mX4_wordOf pc L st h u Q) bX4_wordOf_0 0 L st h u) : Ex g mX4_wordOf 0 L st h u Q := run_ok (M := mX4_wordOf) cfX4_ok (fun _ _ _ _ _ k => k) _ _ _ _ _ _ oX4_wordOf_0 hr
def bX4_wordOf_9 : List OP := [(.laload, 1, (0, 0, 0), vU), (.lreturn, 1, (0, 0, 0), vU)]
theorem oX4_wordOf_9 : okAt mX4_wordOf bX4_wordOf_9 9 = true := by decide +kernel
theorem rX4_wordOf_9 {g : Gp} {Q : PQ} {L st : List AV} {h : AH} {u : Nat × Nat} (hr : run mX4_wordOf Q (fun pc L st h u => Ex g mX4_wordOf pc L st h u Q) bX4_wordOf_9 9 L st h u) : Ex g mX4_wordOf 9 L st h u Q := run_ok (M := mX4_wordOf) cfX4_ok (fun _ _ _ _ _ k => k) _ _ _ _ _ _ oX4_wordOf_9 hr
theorem sX4_wordOf_6 {g : Gp} {L rest : List AV} {h : AH} {u : Nat × Nat} {Q : PQ} {a1 a2 : AV}  (ev : Ev g mX4_cell [a1, a2] h (cont g mX4_wordOf 9 L rest u Q)) (hr : rest.length ≤ 4 := by exact Nat.le_of_ble_eq_true rfl) : Ex g mX4_wordOf 6 L (a2 :: a1 :: rest) h u Q := Ex.bud (fun w1 w2 => Ex.callS (av := [a1, a2]) rfl mX4_cell_ok rfl lkX4_60 smX4_cell (by decide) w1 w2 hr (by decide +kernel) ev (fun _ _ k => k) (fun _ _ z => z))
theorem nX4_originOf {g : Gp} {h : AH} {Q : PQ} {x : Nat} {i1 : Int32} {i2 : Int32} (k : Ex g mX4_originOf 0 [vR x, vI i1, vI i2] [] h (0, 0) Q) : Ev g mX4_originOf [vR x, vI i1, vI i2] h Q := Ev.of (by decide +kernel) rfl (Nat.le_of_ble_eq_true rfl) k
theorem qX4_originOf : mR mX4_originOf = (some FieldType.int) := rfl
def bX4_originOf_0 : List OP := [(.aload_n 0, 1, (0, 0, 0), vU), (.getfield 15, 3, (5, 4, 2), vU), (.iload_n 1, 1, (1, 0, 0), vU), (.iload_n 2, 1, (2, 0, 0), vU)]
theorem oX4_originOf_0 : okAt mX4_originOf bX4_originOf_0 0 = true := by decide +kernel
theorem rX4_originOf_0 {g : Gp} {Q : PQ} {L st : List AV} {h : AH} {u : Nat × Nat} (hr : run mX4_originOf Q (fun pc L st h u => Ex g mX4_originOf pc L st h u Q) bX4_originOf_0 0 L st h u) : Ex g mX4_originOf 0 L st h u Q := run_ok (M := mX4_originOf) cfX4_ok (fun _ _ _ _ _ k => k) _ _ _ _ _ _ oX4_originOf_0 hr
def bX4_originOf_9 : List OP := [(.iaload, 1, (0, 0, 0), vU), (.ireturn, 1, (0, 0, 0), vU)]
theorem oX4_originOf_9 : okAt mX4_originOf bX4_originOf_9 9 = true := by decide +kernel
theorem rX4_originOf_9 {g : Gp} {Q : PQ} {L st : List AV} {h : AH} {u : Nat × Nat} (hr : run mX4_originOf Q (fun pc L st h u => Ex g mX4_originOf pc L st h u Q) bX4_originOf_9 9 L st h u) : Ex g mX4_originOf 9 L st h u Q := run_ok (M := mX4_originOf) cfX4_ok (fun _ _ _ _ _ k => k) _ _ _ _ _ _ oX4_originOf_9 hr
theorem sX4_originOf_6 {g : Gp} {L rest : List AV} {h : AH} {u : Nat × Nat} {Q : PQ} {a1 a2 : AV}  (ev : Ev g mX4_cell [a1, a2] h (cont g mX4_originOf 9 L rest u Q)) (hr : rest.length ≤ 4 := by exact Nat.le_of_ble_eq_true rfl) : Ex g mX4_originOf 6 L (a2 :: a1 :: rest) h u Q := Ex.bud (fun w1 w2 => Ex.callS (av := [a1, a2]) rfl mX4_cell_ok rfl lkX4_60 smX4_cell (by decide) w1 w2 hr (by decide +kernel) ev (fun _ _ k => k) (fun _ _ z => z))
theorem nX4_changersOf {g : Gp} {h : AH} {Q : PQ} {x : Nat} {i1 : Int32} {i2 : Int32} (k : Ex g mX4_changersOf 0 [vR x, vI i1, vI i2] [] h (0, 0) Q) : Ev g mX4_changersOf [vR x, vI i1, vI i2] h Q := Ev.of (by decide +kernel) rfl (Nat.le_of_ble_eq_true rfl) k
theorem qX4_changersOf : mR mX4_changersOf = (some FieldType.int) := rfl
def bX4_changersOf_0 : List OP := [(.aload_n 0, 1, (0, 0, 0), vU), (.getfield 19, 3, (5, 5, 2), vU), (.iload_n 1, 1, (1, 0, 0), vU), (.iload_n 2, 1, (2, 0, 0), vU)]
theorem oX4_changersOf_0 : okAt mX4_changersOf bX4_changersOf_0 0 = true := by decide +kernel
theorem rX4_changersOf_0 {g : Gp} {Q : PQ} {L st : List AV} {h : AH} {u : Nat × Nat} (hr : run mX4_changersOf Q (fun pc L st h u => Ex g mX4_changersOf pc L st h u Q) bX4_changersOf_0 0 L st h u) : Ex g mX4_changersOf 0 L st h u Q := run_ok (M := mX4_changersOf) cfX4_ok (fun _ _ _ _ _ k => k) _ _ _ _ _ _ oX4_changersOf_0 hr
def bX4_changersOf_9 : List OP := [(.iaload, 1, (0, 0, 0), vU), (.ireturn, 1, (0, 0, 0), vU)]
theorem oX4_changersOf_9 : okAt mX4_changersOf bX4_changersOf_9 9 = true := by decide +kernel
theorem rX4_changersOf_9 {g : Gp} {Q : PQ} {L st : List AV} {h : AH} {u : Nat × Nat} (hr : run mX4_changersOf Q (fun pc L st h u => Ex g mX4_changersOf pc L st h u Q) bX4_changersOf_9 9 L st h u) : Ex g mX4_changersOf 9 L st h u Q := run_ok (M := mX4_changersOf) cfX4_ok (fun _ _ _ _ _ k => k) _ _ _ _ _ _ oX4_changersOf_9 hr
theorem sX4_changersOf_6 {g : Gp} {L rest : List AV} {h : AH} {u : Nat × Nat} {Q : PQ} {a1 a2 : AV}  (ev : Ev g mX4_cell [a1, a2] h (cont g mX4_changersOf 9 L rest u Q)) (hr : rest.length ≤ 4 := by exact Nat.le_of_ble_eq_true rfl) : Ex g mX4_changersOf 6 L (a2 :: a1 :: rest) h u Q := Ex.bud (fun w1 w2 => Ex.callS (av := [a1, a2]) rfl mX4_cell_ok rfl lkX4_60 smX4_cell (by decide) w1 w2 hr (by decide +kernel) ev (fun _ _ k => k) (fun _ _ z => z))
theorem nX4_freshenAll {g : Gp} {h : AH} {Q : PQ} {x : Nat} (k : Ex g mX4_freshenAll 0 [vR x, vU] [] h (0, 0) Q) : Ev g mX4_freshenAll [vR x] h Q := Ev.of (by decide +kernel) rfl (Nat.le_of_ble_eq_true rfl) k
theorem qX4_freshenAll : mR mX4_freshenAll = none := rfl
def bX4_freshenAll_0 : List OP := [(.iconst 0, 1, (0, 0, 0), vI 0), (.istore_n 1, 1, (1, 0, 0), vU)]
theorem oX4_freshenAll_0 : okAt mX4_freshenAll bX4_freshenAll_0 0 = true := by decide +kernel
theorem rX4_freshenAll_0 {g : Gp} {Q : PQ} {L st : List AV} {h : AH} {u : Nat × Nat} (hr : run mX4_freshenAll Q (fun pc L st h u => Ex g mX4_freshenAll pc L st h u Q) bX4_freshenAll_0 0 L st h u) : Ex g mX4_freshenAll 0 L st h u Q := run_ok (M := mX4_freshenAll) cfX4_ok (fun _ _ _ _ _ k => k) _ _ _ _ _ _ oX4_freshenAll_0 hr
def bX4_freshenAll_2 : List OP := [(.iload_n 1, 1, (1, 0, 0), vU), (.bipush 12, 2, (0, 0, 0), vI 12), (.if_icmp .ge 14, 3, (19, 0, 0), vU), (.aload_n 0, 1, (0, 0, 0), vU), (.iload_n 1, 1, (1, 0, 0), vU)]
theorem oX4_freshenAll_2 : okAt mX4_freshenAll bX4_freshenAll_2 2 = true := by decide +kernel
theorem rX4_freshenAll_2 {g : Gp} {Q : PQ} {L st : List AV} {h : AH} {u : Nat × Nat} (hr : run mX4_freshenAll Q (fun pc L st h u => Ex g mX4_freshenAll pc L st h u Q) bX4_freshenAll_2 2 L st h u) : Ex g mX4_freshenAll 2 L st h u Q := run_ok (M := mX4_freshenAll) cfX4_ok (fun _ _ _ _ _ k => k) _ _ _ _ _ _ oX4_freshenAll_2 hr
def bX4_freshenAll_13 : List OP := [(.iinc 1 1, 3, (1, 0, 0), vI 1), (.goto (-14), 3, (2, 0, 0), vU)]
theorem oX4_freshenAll_13 : okAt mX4_freshenAll bX4_freshenAll_13 13 = true := by decide +kernel
theorem rX4_freshenAll_13 {g : Gp} {Q : PQ} {L st : List AV} {h : AH} {u : Nat × Nat} (hr : run mX4_freshenAll Q (fun pc L st h u => Ex g mX4_freshenAll pc L st h u Q) bX4_freshenAll_13 13 L st h u) : Ex g mX4_freshenAll 13 L st h u Q := run_ok (M := mX4_freshenAll) cfX4_ok (fun _ _ _ _ _ k => k) _ _ _ _ _ _ oX4_freshenAll_13 hr
def bX4_freshenAll_19 : List OP := [(.return_, 1, (0, 0, 0), vU)]
theorem oX4_freshenAll_19 : okAt mX4_freshenAll bX4_freshenAll_19 19 = true := by decide +kernel
theorem rX4_freshenAll_19 {g : Gp} {Q : PQ} {L st : List AV} {h : AH} {u : Nat × Nat} (hr : run mX4_freshenAll Q (fun pc L st h u => Ex g mX4_freshenAll pc L st h u Q) bX4_freshenAll_19 19 L st h u) : Ex g mX4_freshenAll 19 L st h u Q := run_ok (M := mX4_freshenAll) cfX4_ok (fun _ _ _ _ _ k => k) _ _ _ _ _ _ oX4_freshenAll_19 hr
theorem sX4_freshenAll_10 {g : Gp} {L rest : List AV} {h : AH} {u : Nat × Nat} {Q : PQ} {x : Nat} {a1 : AV}  (hx : zK h x = (1, 5)) (ev : Ev g mX4_freshen (vR x :: [a1]) h (cont g mX4_freshenAll 13 L rest u Q)) (hr : rest.length ≤ 4 := by exact Nat.le_of_ble_eq_true rfl) : Ex g mX4_freshenAll 10 L (a1 :: vR x :: rest) h u Q := Ex.bud (fun w1 w2 => Ex.callV (av := [a1]) (r := (RX4, TX4, 7)) rfl mX4_freshen_ok rfl lkX4_37 imX4_freshen seX4_freshen rfl hx (by decide) w1 w2 hr (by decide +kernel) ev (fun _ _ k => k) (fun _ _ z => z))
theorem nX4_bothHave {g : Gp} {h : AH} {Q : PQ} {x : Nat} {i1 : Int32} {i2 : Int32} {i3 : Int32} (k : Ex g mX4_bothHave 0 [vR x, vI i1, vI i2, vI i3] [] h (0, 0) Q) : Ev g mX4_bothHave [vR x, vI i1, vI i2, vI i3] h Q := Ev.of (by decide +kernel) rfl (Nat.le_of_ble_eq_true rfl) k
theorem qX4_bothHave : mR mX4_bothHave = (some FieldType.boolean) := rfl
def bX4_bothHave_0 : List OP := [(.aload_n 0, 1, (0, 0, 0), vU), (.iload_n 2, 1, (2, 0, 0), vU), (.iload_n 1, 1, (1, 0, 0), vU)]
theorem oX4_bothHave_0 : okAt mX4_bothHave bX4_bothHave_0 0 = true := by decide +kernel
theorem rX4_bothHave_0 {g : Gp} {Q : PQ} {L st : List AV} {h : AH} {u : Nat × Nat} (hr : run mX4_bothHave Q (fun pc L st h u => Ex g mX4_bothHave pc L st h u Q) bX4_bothHave_0 0 L st h u) : Ex g mX4_bothHave 0 L st h u Q := run_ok (M := mX4_bothHave) cfX4_ok (fun _ _ _ _ _ k => k) _ _ _ _ _ _ oX4_bothHave_0 hr
def bX4_bothHave_6 : List OP := [(.ifCond .eq 16, 3, (22, 0, 0), vU), (.aload_n 0, 1, (0, 0, 0), vU), (.iload_n 3, 1, (3, 0, 0), vU), (.iload_n 1, 1, (1, 0, 0), vU)]
theorem oX4_bothHave_6 : okAt mX4_bothHave bX4_bothHave_6 6 = true := by decide +kernel
theorem rX4_bothHave_6 {g : Gp} {Q : PQ} {L st : List AV} {h : AH} {u : Nat × Nat} (hr : run mX4_bothHave Q (fun pc L st h u => Ex g mX4_bothHave pc L st h u Q) bX4_bothHave_6 6 L st h u) : Ex g mX4_bothHave 6 L st h u Q := run_ok (M := mX4_bothHave) cfX4_ok (fun _ _ _ _ _ k => k) _ _ _ _ _ _ oX4_bothHave_6 hr
def bX4_bothHave_15 : List OP := [(.ifCond .eq 7, 3, (22, 0, 0), vU), (.iconst 1, 1, (0, 0, 0), vI 1), (.goto 4, 3, (23, 0, 0), vU), (.ireturn, 1, (0, 0, 0), vU)]
theorem oX4_bothHave_15 : okAt mX4_bothHave bX4_bothHave_15 15 = true := by decide +kernel
theorem rX4_bothHave_15 {g : Gp} {Q : PQ} {L st : List AV} {h : AH} {u : Nat × Nat} (hr : run mX4_bothHave Q (fun pc L st h u => Ex g mX4_bothHave pc L st h u Q) bX4_bothHave_15 15 L st h u) : Ex g mX4_bothHave 15 L st h u Q := run_ok (M := mX4_bothHave) cfX4_ok (fun _ _ _ _ _ k => k) _ _ _ _ _ _ oX4_bothHave_15 hr
def bX4_bothHave_22 : List OP := [(.iconst 0, 1, (0, 0, 0), vI 0), (.ireturn, 1, (0, 0, 0), vU)]
theorem oX4_bothHave_22 : okAt mX4_bothHave bX4_bothHave_22 22 = true := by decide +kernel
theorem rX4_bothHave_22 {g : Gp} {Q : PQ} {L st : List AV} {h : AH} {u : Nat × Nat} (hr : run mX4_bothHave Q (fun pc L st h u => Ex g mX4_bothHave pc L st h u Q) bX4_bothHave_22 22 L st h u) : Ex g mX4_bothHave 22 L st h u Q := run_ok (M := mX4_bothHave) cfX4_ok (fun _ _ _ _ _ k => k) _ _ _ _ _ _ oX4_bothHave_22 hr
theorem sX4_bothHave_3 {g : Gp} {L rest : List AV} {h : AH} {u : Nat × Nat} {Q : PQ} {x : Nat} {a1 a2 : AV}  (hx : zK h x = (1, 5)) (ev : Ev g mX4_hasWord (vR x :: [a1, a2]) h (cont g mX4_bothHave 6 L rest u Q)) (hr : rest.length ≤ 4 := by exact Nat.le_of_ble_eq_true rfl) : Ex g mX4_bothHave 3 L (a2 :: a1 :: vR x :: rest) h u Q := Ex.bud (fun w1 w2 => Ex.callV (av := [a1, a2]) (r := (RX4, TX4, 7)) rfl mX4_hasWord_ok rfl lkX4_99 imX4_hasWord seX4_hasWord rfl hx (by decide) w1 w2 hr (by decide +kernel) ev (fun _ _ k => k) (fun _ _ z => z))
theorem sX4_bothHave_12 {g : Gp} {L rest : List AV} {h : AH} {u : Nat × Nat} {Q : PQ} {x : Nat} {a1 a2 : AV}  (hx : zK h x = (1, 5)) (ev : Ev g mX4_hasWord (vR x :: [a1, a2]) h (cont g mX4_bothHave 15 L rest u Q)) (hr : rest.length ≤ 4 := by exact Nat.le_of_ble_eq_true rfl) : Ex g mX4_bothHave 12 L (a2 :: a1 :: vR x :: rest) h u Q := Ex.bud (fun w1 w2 => Ex.callV (av := [a1, a2]) (r := (RX4, TX4, 7)) rfl mX4_hasWord_ok rfl lkX4_99 imX4_hasWord seX4_hasWord rfl hx (by decide) w1 w2 hr (by decide +kernel) ev (fun _ _ k => k) (fun _ _ z => z))
theorem nX0_spellOut {g : Gp} {h : AH} {Q : PQ} {i1 : Int64} {i2 : Nat} (k : Ex g mX0_spellOut 0 [vL i1, vU, vR i2, vU, vU] [] h (0, 0) Q) : Ev g mX0_spellOut [vL i1, vR i2] h Q := Ev.of (by decide +kernel) rfl (Nat.le_of_ble_eq_true rfl) k
theorem qX0_spellOut : mR mX0_spellOut = (some FieldType.int) := rfl
def bX0_spellOut_0 : List OP := [(.lload_n 0, 1, (0, 0, 0), vU)]
theorem oX0_spellOut_0 : okAt mX0_spellOut bX0_spellOut_0 0 = true := by decide +kernel
theorem rX0_spellOut_0 {g : Gp} {Q : PQ} {L st : List AV} {h : AH} {u : Nat × Nat} (hr : run mX0_spellOut Q (fun pc L st h u => Ex g mX0_spellOut pc L st h u Q) bX0_spellOut_0 0 L st h u) : Ex g mX0_spellOut 0 L st h u Q := run_ok (M := mX0_spellOut) cfX0_ok (fun _ _ _ _ _ k => k) _ _ _ _ _ _ oX0_spellOut_0 hr
def bX0_spellOut_4 : List OP := [(.aload_n 2, 1, (2, 0, 0), vU), (.arraylength, 1, (0, 0, 0), vU)]
theorem oX0_spellOut_4 : okAt mX0_spellOut bX0_spellOut_4 4 = true := by decide +kernel
theorem rX0_spellOut_4 {g : Gp} {Q : PQ} {L st : List AV} {h : AH} {u : Nat × Nat} (hr : run mX0_spellOut Q (fun pc L st h u => Ex g mX0_spellOut pc L st h u Q) bX0_spellOut_4 4 L st h u) : Ex g mX0_spellOut 4 L st h u Q := run_ok (M := mX0_spellOut) cfX0_ok (fun _ _ _ _ _ k => k) _ _ _ _ _ _ oX0_spellOut_4 hr
def bX0_spellOut_9 : List OP := [(.istore_n 3, 1, (3, 0, 0), vU), (.iconst 0, 1, (0, 0, 0), vI 0), (.istore 4, 2, (4, 0, 0), vU)]
theorem oX0_spellOut_9 : okAt mX0_spellOut bX0_spellOut_9 9 = true := by decide +kernel
theorem rX0_spellOut_9 {g : Gp} {Q : PQ} {L st : List AV} {h : AH} {u : Nat × Nat} (hr : run mX0_spellOut Q (fun pc L st h u => Ex g mX0_spellOut pc L st h u Q) bX0_spellOut_9 9 L st h u) : Ex g mX0_spellOut 9 L st h u Q := run_ok (M := mX0_spellOut) cfX0_ok (fun _ _ _ _ _ k => k) _ _ _ _ _ _ oX0_spellOut_9 hr
def bX0_spellOut_13 : List OP := [(.iload 4, 2, (4, 0, 0), vU), (.iload_n 3, 1, (3, 0, 0), vU), (.if_icmp .ge 19, 3, (35, 0, 0), vU), (.aload_n 2, 1, (2, 0, 0), vU), (.iload 4, 2, (4, 0, 0), vU), (.lload_n 0, 1, (0, 0, 0), vU), (.iload 4, 2, (4, 0, 0), vU)]
theorem oX0_spellOut_13 : okAt mX0_spellOut bX0_spellOut_13 13 = true := by decide +kernel
theorem rX0_spellOut_13 {g : Gp} {Q : PQ} {L st : List AV} {h : AH} {u : Nat × Nat} (hr : run mX0_spellOut Q (fun pc L st h u => Ex g mX0_spellOut pc L st h u Q) bX0_spellOut_13 13 L st h u) : Ex g mX0_spellOut 13 L st h u Q := run_ok (M := mX0_spellOut) cfX0_ok (fun _ _ _ _ _ k => k) _ _ _ _ _ _ oX0_spellOut_13 hr
def bX0_spellOut_28 : List OP := [(.iastore, 1, (0, 0, 0), vU), (.iinc 4 1, 3, (4, 0, 0), vI 1), (.goto (-19), 3, (13, 0, 0), vU)]
theorem oX0_spellOut_28 : okAt mX0_spellOut bX0_spellOut_28 28 = true := by decide +kernel
theorem rX0_spellOut_28 {g : Gp} {Q : PQ} {L st : List AV} {h : AH} {u : Nat × Nat} (hr : run mX0_spellOut Q (fun pc L st h u => Ex g mX0_spellOut pc L st h u Q) bX0_spellOut_28 28 L st h u) : Ex g mX0_spellOut 28 L st h u Q := run_ok (M := mX0_spellOut) cfX0_ok (fun _ _ _ _ _ k => k) _ _ _ _ _ _ oX0_spellOut_28 hr
def bX0_spellOut_35 : List OP := [(.iload_n 3, 1, (3, 0, 0), vU), (.ireturn, 1, (0, 0, 0), vU)]
theorem oX0_spellOut_35 : okAt mX0_spellOut bX0_spellOut_35 35 = true := by decide +kernel
theorem rX0_spellOut_35 {g : Gp} {Q : PQ} {L st : List AV} {h : AH} {u : Nat × Nat} (hr : run mX0_spellOut Q (fun pc L st h u => Ex g mX0_spellOut pc L st h u Q) bX0_spellOut_35 35 L st h u) : Ex g mX0_spellOut 35 L st h u Q := run_ok (M := mX0_spellOut) cfX0_ok (fun _ _ _ _ _ k => k) _ _ _ _ _ _ oX0_spellOut_35 hr
theorem sX0_spellOut_1 {g : Gp} {L rest : List AV} {h : AH} {u : Nat × Nat} {Q : PQ} {a1 : AV}  (ev : Ev g mX8_size [a1] h (cont g mX0_spellOut 4 L rest u Q)) (hr : rest.length ≤ 4 := by exact Nat.le_of_ble_eq_true rfl) : Ex g mX0_spellOut 1 L (a1 :: rest) h u Q := Ex.bud (fun w1 w2 => Ex.callS (av := [a1]) rfl mX8_size_ok rfl lkX0_59 smX8_size (by decide) w1 w2 hr (by decide +kernel) ev (fun _ _ k => k) (fun _ _ z => z))
theorem sX0_spellOut_6 {g : Gp} {L rest : List AV} {h : AH} {u : Nat × Nat} {Q : PQ} {a b : Int32} (k : Ex g mX0_spellOut 9 L (vI (if b < a then b else a) :: rest) h u Q) (hr : rest.length ≤ 4 := by exact Nat.le_of_ble_eq_true rfl) : Ex g mX0_spellOut 6 L (vI b :: vI a :: rest) h u Q := x_mmin lkX0_65 (lg_1 (i := 167) (by decide +kernel) rfl) (lg_1 (i := 9) (by decide +kernel) rfl) (lg_1 (i := 168) (by decide +kernel) rfl) (by decide) hr (by decide +kernel) k
theorem sX0_spellOut_25 {g : Gp} {L rest : List AV} {h : AH} {u : Nat × Nat} {Q : PQ} {a1 a2 : AV}  (ev : Ev g mX8_at [a1, a2] h (cont g mX0_spellOut 28 L rest u Q)) (hr : rest.length ≤ 4 := by exact Nat.le_of_ble_eq_true rfl) : Ex g mX0_spellOut 25 L (a2 :: a1 :: rest) h u Q := Ex.bud (fun w1 w2 => Ex.callS (av := [a1, a2]) rfl mX8_at_ok rfl lkX0_70 smX8_at (by decide) w1 w2 hr (by decide +kernel) ev (fun _ _ k => k) (fun _ _ z => z))
theorem nX0_pairFrom {g : Gp} {h : AH} {Q : PQ} {x : Nat} {i1 : Int32} {i2 : Int32} (k : Ex g mX0_pairFrom 0 [vR x, vI i1, vI i2] [] h (0, 0) Q) : Ev g mX0_pairFrom [vR x, vI i1, vI i2] h Q := Ev.of (by decide +kernel) rfl (Nat.le_of_ble_eq_true rfl) k
theorem qX0_pairFrom : mR mX0_pairFrom = (some FieldType.int) := rfl
def bX0_pairFrom_0 : List OP := [(.aload_n 0, 1, (0, 0, 0), vU), (.getfield 29, 3, (1, 0, 2), vU), (.getfield 77, 3, (7, 1, 2), vU), (.aload_n 0, 1, (0, 0, 0), vU), (.getfield 9, 3, (1, 1, 2), vU), (.iload_n 1, 1, (1, 0, 0), vU), (.iaload, 1, (0, 0, 0), vU), (.aaload, 1, (0, 0, 0), vU), (.aload_n 0, 1, (0, 0, 0), vU), (.getfield 15, 3, (1, 2, 2), vU), (.iload_n 2, 1, (2, 0, 0), vU), (.iaload, 1, (0, 0, 0), vU), (.iaload, 1, (0, 0, 0), vU), (.aload_n 0, 1, (0, 0, 0), vU), (.getfield 20, 3, (1, 5, 2), vU), (.iload_n 1, 1, (1, 0, 0), vU), (.iconst 1, 1, (0, 0, 0), vI 1), (.iadd, 1, (0, 0, 0), vU), (.aaload, 1, (0, 0, 0), vU), (.iload_n 2, 1, (2, 0, 0), vU), (.iconst 1, 1, (0, 0, 0), vI 1), (.iadd, 1, (0, 0, 0), vU), (.iaload, 1, (0, 0, 0), vU), (.iadd, 1, (0, 0, 0), vU), (.ireturn, 1, (0, 0, 0), vU)]
theorem oX0_pairFrom_0 : okAt mX0_pairFrom bX0_pairFrom_0 0 = true := by decide +kernel
theorem rX0_pairFrom_0 {g : Gp} {Q : PQ} {L st : List AV} {h : AH} {u : Nat × Nat} (hr : run mX0_pairFrom Q (fun pc L st h u => Ex g mX0_pairFrom pc L st h u Q) bX0_pairFrom_0 0 L st h u) : Ex g mX0_pairFrom 0 L st h u Q := run_ok (M := mX0_pairFrom) cfX0_ok (fun _ _ _ _ _ k => k) _ _ _ _ _ _ oX0_pairFrom_0 hr
theorem nX0_leastFrom {g : Gp} {h : AH} {Q : PQ} {x : Nat} {i1 : Int32} {i2 : Int32} (k : Ex g mX0_leastFrom 0 [vR x, vI i1, vI i2, vU] [] h (0, 0) Q) : Ev g mX0_leastFrom [vR x, vI i1, vI i2] h Q := Ev.of (by decide +kernel) rfl (Nat.le_of_ble_eq_true rfl) k
theorem qX0_leastFrom : mR mX0_leastFrom = (some FieldType.int) := rfl
def bX0_leastFrom_0 : List OP := [(.iload_n 1, 1, (1, 0, 0), vU), (.aload_n 0, 1, (0, 0, 0), vU), (.getfield 37, 3, (1, 3, 0), vU), (.if_icmp .ne 12, 3, (17, 0, 0), vU), (.iconst 4, 1, (0, 0, 0), vI 4), (.aload_n 0, 1, (0, 0, 0), vU), (.getfield 41, 3, (1, 4, 0), vU), (.iload_n 2, 1, (2, 0, 0), vU), (.isub, 1, (0, 0, 0), vU), (.imul, 1, (0, 0, 0), vU), (.ireturn, 1, (0, 0, 0), vU)]
theorem oX0_leastFrom_0 : okAt mX0_leastFrom bX0_leastFrom_0 0 = true := by decide +kernel
theorem rX0_leastFrom_0 {g : Gp} {Q : PQ} {L st : List AV} {h : AH} {u : Nat × Nat} (hr : run mX0_leastFrom Q (fun pc L st h u => Ex g mX0_leastFrom pc L st h u Q) bX0_leastFrom_0 0 L st h u) : Ex g mX0_leastFrom 0 L st h u Q := run_ok (M := mX0_leastFrom) cfX0_ok (fun _ _ _ _ _ k => k) _ _ _ _ _ _ oX0_leastFrom_0 hr
def bX0_leastFrom_17 : List OP := [(.iload_n 2, 1, (2, 0, 0), vU), (.aload_n 0, 1, (0, 0, 0), vU), (.getfield 41, 3, (1, 4, 0), vU), (.if_icmp .ne 12, 3, (34, 0, 0), vU), (.iconst 4, 1, (0, 0, 0), vI 4), (.aload_n 0, 1, (0, 0, 0), vU), (.getfield 37, 3, (1, 3, 0), vU), (.iload_n 1, 1, (1, 0, 0), vU), (.isub, 1, (0, 0, 0), vU), (.imul, 1, (0, 0, 0), vU), (.ireturn, 1, (0, 0, 0), vU)]
theorem oX0_leastFrom_17 : okAt mX0_leastFrom bX0_leastFrom_17 17 = true := by decide +kernel
theorem rX0_leastFrom_17 {g : Gp} {Q : PQ} {L st : List AV} {h : AH} {u : Nat × Nat} (hr : run mX0_leastFrom Q (fun pc L st h u => Ex g mX0_leastFrom pc L st h u Q) bX0_leastFrom_17 17 L st h u) : Ex g mX0_leastFrom 17 L st h u Q := run_ok (M := mX0_leastFrom) cfX0_ok (fun _ _ _ _ _ k => k) _ _ _ _ _ _ oX0_leastFrom_17 hr
def bX0_leastFrom_34 : List OP := [(.iconst 4, 1, (0, 0, 0), vI 4), (.aload_n 0, 1, (0, 0, 0), vU), (.getfield 20, 3, (1, 5, 2), vU), (.iload_n 1, 1, (1, 0, 0), vU), (.iconst 1, 1, (0, 0, 0), vI 1), (.iadd, 1, (0, 0, 0), vU), (.aaload, 1, (0, 0, 0), vU), (.iload_n 2, 1, (2, 0, 0), vU), (.iaload, 1, (0, 0, 0), vU), (.aload_n 0, 1, (0, 0, 0), vU), (.getfield 20, 3, (1, 5, 2), vU), (.iload_n 1, 1, (1, 0, 0), vU), (.aaload, 1, (0, 0, 0), vU), (.iload_n 2, 1, (2, 0, 0), vU), (.iconst 1, 1, (0, 0, 0), vI 1), (.iadd, 1, (0, 0, 0), vU), (.iaload, 1, (0, 0, 0), vU)]
theorem oX0_leastFrom_34 : okAt mX0_leastFrom bX0_leastFrom_34 34 = true := by decide +kernel
theorem rX0_leastFrom_34 {g : Gp} {Q : PQ} {L st : List AV} {h : AH} {u : Nat × Nat} (hr : run mX0_leastFrom Q (fun pc L st h u => Ex g mX0_leastFrom pc L st h u Q) bX0_leastFrom_34 34 L st h u) : Ex g mX0_leastFrom 34 L st h u Q := run_ok (M := mX0_leastFrom) cfX0_ok (fun _ _ _ _ _ k => k) _ _ _ _ _ _ oX0_leastFrom_34 hr
def bX0_leastFrom_58 : List OP := [(.iadd, 1, (0, 0, 0), vU), (.istore_n 3, 1, (3, 0, 0), vU), (.iload_n 3, 1, (3, 0, 0), vU), (.aload_n 0, 1, (0, 0, 0), vU), (.iload_n 1, 1, (1, 0, 0), vU), (.iload_n 2, 1, (2, 0, 0), vU)]
theorem oX0_leastFrom_58 : okAt mX0_leastFrom bX0_leastFrom_58 58 = true := by decide +kernel
theorem rX0_leastFrom_58 {g : Gp} {Q : PQ} {L st : List AV} {h : AH} {u : Nat × Nat} (hr : run mX0_leastFrom Q (fun pc L st h u => Ex g mX0_leastFrom pc L st h u Q) bX0_leastFrom_58 58 L st h u) : Ex g mX0_leastFrom 58 L st h u Q := run_ok (M := mX0_leastFrom) cfX0_ok (fun _ _ _ _ _ k => k) _ _ _ _ _ _ oX0_leastFrom_58 hr
def bX0_leastFrom_70 : List OP := [(.ireturn, 1, (0, 0, 0), vU)]
theorem oX0_leastFrom_70 : okAt mX0_leastFrom bX0_leastFrom_70 70 = true := by decide +kernel
theorem rX0_leastFrom_70 {g : Gp} {Q : PQ} {L st : List AV} {h : AH} {u : Nat × Nat} (hr : run mX0_leastFrom Q (fun pc L st h u => Ex g mX0_leastFrom pc L st h u Q) bX0_leastFrom_70 70 L st h u) : Ex g mX0_leastFrom 70 L st h u Q := run_ok (M := mX0_leastFrom) cfX0_ok (fun _ _ _ _ _ k => k) _ _ _ _ _ _ oX0_leastFrom_70 hr
theorem sX0_leastFrom_55 {g : Gp} {L rest : List AV} {h : AH} {u : Nat × Nat} {Q : PQ} {a b : Int32} (k : Ex g mX0_leastFrom 58 L (vI (if b < a then b else a) :: rest) h u Q) (hr : rest.length ≤ 4 := by exact Nat.le_of_ble_eq_true rfl) : Ex g mX0_leastFrom 55 L (vI b :: vI a :: rest) h u Q := x_mmin lkX0_65 (lg_1 (i := 167) (by decide +kernel) rfl) (lg_1 (i := 9) (by decide +kernel) rfl) (lg_1 (i := 168) (by decide +kernel) rfl) (by decide) hr (by decide +kernel) k
theorem sX0_leastFrom_64 {g : Gp} {L rest : List AV} {h : AH} {u : Nat × Nat} {Q : PQ} {x : Nat} {a1 a2 : AV}  (hx : zK h x = (1, 1)) (ev : Ev g mX0_pairFrom (vR x :: [a1, a2]) h (cont g mX0_leastFrom 67 L rest u Q)) (hr : rest.length ≤ 4 := by exact Nat.le_of_ble_eq_true rfl) : Ex g mX0_leastFrom 64 L (a2 :: a1 :: vR x :: rest) h u Q := Ex.bud (fun w1 w2 => Ex.callV (av := [a1, a2]) (r := (RX0, TX0, 8)) rfl mX0_pairFrom_ok rfl lkX0_74 imX0_pairFrom seX0_pairFrom rfl hx (by decide) w1 w2 hr (by decide +kernel) ev (fun _ _ k => k) (fun _ _ z => z))
theorem sX0_leastFrom_67 {g : Gp} {L rest : List AV} {h : AH} {u : Nat × Nat} {Q : PQ} {a b : Int32} (k : Ex g mX0_leastFrom 70 L (vI (if b < a then b else a) :: rest) h u Q) (hr : rest.length ≤ 4 := by exact Nat.le_of_ble_eq_true rfl) : Ex g mX0_leastFrom 67 L (vI b :: vI a :: rest) h u Q := x_mmin lkX0_65 (lg_1 (i := 167) (by decide +kernel) rfl) (lg_1 (i := 9) (by decide +kernel) rfl) (lg_1 (i := 168) (by decide +kernel) rfl) (by decide) hr (by decide +kernel) k
theorem nX0_weigh {g : Gp} {h : AH} {Q : PQ} {x : Nat} {i1 : Int64} {i2 : Int64} (k : Ex g mX0_weigh 0 [vR x, vL i1, vU, vL i2, vU, vU, vU] [] h (0, 0) Q) : Ev g mX0_weigh [vR x, vL i1, vL i2] h Q := Ev.of (by decide +kernel) rfl (Nat.le_of_ble_eq_true rfl) k
theorem qX0_weigh : mR mX0_weigh = (some FieldType.int) := rfl
def bX0_weigh_0 : List OP := [(.aload_n 0, 1, (0, 0, 0), vU), (.lload_n 1, 1, (1, 0, 0), vU), (.aload_n 0, 1, (0, 0, 0), vU), (.getfield 9, 3, (1, 1, 2), vU)]
theorem oX0_weigh_0 : okAt mX0_weigh bX0_weigh_0 0 = true := by decide +kernel
theorem rX0_weigh_0 {g : Gp} {Q : PQ} {L st : List AV} {h : AH} {u : Nat × Nat} (hr : run mX0_weigh Q (fun pc L st h u => Ex g mX0_weigh pc L st h u Q) bX0_weigh_0 0 L st h u) : Ex g mX0_weigh 0 L st h u Q := run_ok (M := mX0_weigh) cfX0_ok (fun _ _ _ _ _ k => k) _ _ _ _ _ _ oX0_weigh_0 hr
def bX0_weigh_9 : List OP := [(.putfield 37, 3, (1, 3, 0), vU), (.aload_n 0, 1, (0, 0, 0), vU), (.lload_n 3, 1, (3, 0, 0), vU), (.aload_n 0, 1, (0, 0, 0), vU), (.getfield 15, 3, (1, 2, 2), vU)]
theorem oX0_weigh_9 : okAt mX0_weigh bX0_weigh_9 9 = true := by decide +kernel
theorem rX0_weigh_9 {g : Gp} {Q : PQ} {L st : List AV} {h : AH} {u : Nat × Nat} (hr : run mX0_weigh Q (fun pc L st h u => Ex g mX0_weigh pc L st h u Q) bX0_weigh_9 9 L st h u) : Ex g mX0_weigh 9 L st h u Q := run_ok (M := mX0_weigh) cfX0_ok (fun _ _ _ _ _ k => k) _ _ _ _ _ _ oX0_weigh_9 hr
def bX0_weigh_21 : List OP := [(.putfield 41, 3, (1, 4, 0), vU), (.aload_n 0, 1, (0, 0, 0), vU), (.getfield 37, 3, (1, 3, 0), vU), (.istore 5, 2, (5, 0, 0), vU)]
theorem oX0_weigh_21 : okAt mX0_weigh bX0_weigh_21 21 = true := by decide +kernel
theorem rX0_weigh_21 {g : Gp} {Q : PQ} {L st : List AV} {h : AH} {u : Nat × Nat} (hr : run mX0_weigh Q (fun pc L st h u => Ex g mX0_weigh pc L st h u Q) bX0_weigh_21 21 L st h u) : Ex g mX0_weigh 21 L st h u Q := run_ok (M := mX0_weigh) cfX0_ok (fun _ _ _ _ _ k => k) _ _ _ _ _ _ oX0_weigh_21 hr
def bX0_weigh_30 : List OP := [(.iload 5, 2, (5, 0, 0), vU), (.ifCond .lt 44, 3, (76, 0, 0), vU), (.aload_n 0, 1, (0, 0, 0), vU), (.getfield 41, 3, (1, 4, 0), vU), (.istore 6, 2, (6, 0, 0), vU)]
theorem oX0_weigh_30 : okAt mX0_weigh bX0_weigh_30 30 = true := by decide +kernel
theorem rX0_weigh_30 {g : Gp} {Q : PQ} {L st : List AV} {h : AH} {u : Nat × Nat} (hr : run mX0_weigh Q (fun pc L st h u => Ex g mX0_weigh pc L st h u Q) bX0_weigh_30 30 L st h u) : Ex g mX0_weigh 30 L st h u Q := run_ok (M := mX0_weigh) cfX0_ok (fun _ _ _ _ _ k => k) _ _ _ _ _ _ oX0_weigh_30 hr
def bX0_weigh_41 : List OP := [(.iload 6, 2, (6, 0, 0), vU), (.ifCond .lt 27, 3, (70, 0, 0), vU), (.aload_n 0, 1, (0, 0, 0), vU), (.getfield 20, 3, (1, 5, 2), vU), (.iload 5, 2, (5, 0, 0), vU), (.aaload, 1, (0, 0, 0), vU), (.iload 6, 2, (6, 0, 0), vU), (.aload_n 0, 1, (0, 0, 0), vU), (.iload 5, 2, (5, 0, 0), vU), (.iload 6, 2, (6, 0, 0), vU)]
theorem oX0_weigh_41 : okAt mX0_weigh bX0_weigh_41 41 = true := by decide +kernel
theorem rX0_weigh_41 {g : Gp} {Q : PQ} {L st : List AV} {h : AH} {u : Nat × Nat} (hr : run mX0_weigh Q (fun pc L st h u => Ex g mX0_weigh pc L st h u Q) bX0_weigh_41 41 L st h u) : Ex g mX0_weigh 41 L st h u Q := run_ok (M := mX0_weigh) cfX0_ok (fun _ _ _ _ _ k => k) _ _ _ _ _ _ oX0_weigh_41 hr
def bX0_weigh_63 : List OP := [(.iastore, 1, (0, 0, 0), vU), (.iinc 6 (-1), 3, (6, 0, 0), vI (-1)), (.goto (-26), 3, (41, 0, 0), vU)]
theorem oX0_weigh_63 : okAt mX0_weigh bX0_weigh_63 63 = true := by decide +kernel
theorem rX0_weigh_63 {g : Gp} {Q : PQ} {L st : List AV} {h : AH} {u : Nat × Nat} (hr : run mX0_weigh Q (fun pc L st h u => Ex g mX0_weigh pc L st h u Q) bX0_weigh_63 63 L st h u) : Ex g mX0_weigh 63 L st h u Q := run_ok (M := mX0_weigh) cfX0_ok (fun _ _ _ _ _ k => k) _ _ _ _ _ _ oX0_weigh_63 hr
def bX0_weigh_70 : List OP := [(.iinc 5 (-1), 3, (5, 0, 0), vI (-1)), (.goto (-43), 3, (30, 0, 0), vU)]
theorem oX0_weigh_70 : okAt mX0_weigh bX0_weigh_70 70 = true := by decide +kernel
theorem rX0_weigh_70 {g : Gp} {Q : PQ} {L st : List AV} {h : AH} {u : Nat × Nat} (hr : run mX0_weigh Q (fun pc L st h u => Ex g mX0_weigh pc L st h u Q) bX0_weigh_70 70 L st h u) : Ex g mX0_weigh 70 L st h u Q := run_ok (M := mX0_weigh) cfX0_ok (fun _ _ _ _ _ k => k) _ _ _ _ _ _ oX0_weigh_70 hr
def bX0_weigh_76 : List OP := [(.aload_n 0, 1, (0, 0, 0), vU), (.getfield 20, 3, (1, 5, 2), vU), (.iconst 0, 1, (0, 0, 0), vI 0), (.aaload, 1, (0, 0, 0), vU), (.iconst 0, 1, (0, 0, 0), vI 0), (.iaload, 1, (0, 0, 0), vU), (.ireturn, 1, (0, 0, 0), vU)]
theorem oX0_weigh_76 : okAt mX0_weigh bX0_weigh_76 76 = true := by decide +kernel
theorem rX0_weigh_76 {g : Gp} {Q : PQ} {L st : List AV} {h : AH} {u : Nat × Nat} (hr : run mX0_weigh Q (fun pc L st h u => Ex g mX0_weigh pc L st h u Q) bX0_weigh_76 76 L st h u) : Ex g mX0_weigh 76 L st h u Q := run_ok (M := mX0_weigh) cfX0_ok (fun _ _ _ _ _ k => k) _ _ _ _ _ _ oX0_weigh_76 hr
theorem sX0_weigh_6 {g : Gp} {L rest : List AV} {h : AH} {u : Nat × Nat} {Q : PQ} {a1 a2 : AV}  (ev : Ev g mX0_spellOut [a1, a2] h (cont g mX0_weigh 9 L rest u Q)) (hr : rest.length ≤ 4 := by exact Nat.le_of_ble_eq_true rfl) : Ex g mX0_weigh 6 L (a2 :: a1 :: rest) h u Q := Ex.bud (fun w1 w2 => Ex.callS (av := [a1, a2]) rfl mX0_spellOut_ok rfl lkX0_33 smX0_spellOut (by decide) w1 w2 hr (by decide +kernel) ev (fun _ _ k => k) (fun _ _ z => z))
theorem sX0_weigh_18 {g : Gp} {L rest : List AV} {h : AH} {u : Nat × Nat} {Q : PQ} {a1 a2 : AV}  (ev : Ev g mX0_spellOut [a1, a2] h (cont g mX0_weigh 21 L rest u Q)) (hr : rest.length ≤ 4 := by exact Nat.le_of_ble_eq_true rfl) : Ex g mX0_weigh 18 L (a2 :: a1 :: rest) h u Q := Ex.bud (fun w1 w2 => Ex.callS (av := [a1, a2]) rfl mX0_spellOut_ok rfl lkX0_33 smX0_spellOut (by decide) w1 w2 hr (by decide +kernel) ev (fun _ _ k => k) (fun _ _ z => z))
theorem sX0_weigh_60 {g : Gp} {L rest : List AV} {h : AH} {u : Nat × Nat} {Q : PQ} {x : Nat} {a1 a2 : AV}  (hx : zK h x = (1, 1)) (ev : Ev g mX0_leastFrom (vR x :: [a1, a2]) h (cont g mX0_weigh 63 L rest u Q)) (hr : rest.length ≤ 4 := by exact Nat.le_of_ble_eq_true rfl) : Ex g mX0_weigh 60 L (a2 :: a1 :: vR x :: rest) h u Q := Ex.bud (fun w1 w2 => Ex.callV (av := [a1, a2]) (r := (RX0, TX0, 8)) rfl mX0_leastFrom_ok rfl lkX0_44 imX0_leastFrom seX0_leastFrom rfl hx (by decide) w1 w2 hr (by decide +kernel) ev (fun _ _ k => k) (fun _ _ z => z))
theorem nX0_takesPair {g : Gp} {h : AH} {Q : PQ} {x : Nat} {i1 : Int32} {i2 : Int32} (k : Ex g mX0_takesPair 0 [vR x, vI i1, vI i2] [] h (0, 0) Q) : Ev g mX0_takesPair [vR x, vI i1, vI i2] h Q := Ev.of (by decide +kernel) rfl (Nat.le_of_ble_eq_true rfl) k
theorem qX0_takesPair : mR mX0_takesPair = (some FieldType.boolean) := rfl
def bX0_takesPair_0 : List OP := [(.iload_n 1, 1, (1, 0, 0), vU), (.aload_n 0, 1, (0, 0, 0), vU), (.getfield 37, 3, (1, 3, 0), vU), (.if_icmp .ge 32, 3, (37, 0, 0), vU), (.iload_n 2, 1, (2, 0, 0), vU), (.aload_n 0, 1, (0, 0, 0), vU), (.getfield 41, 3, (1, 4, 0), vU), (.if_icmp .ge 24, 3, (37, 0, 0), vU), (.aload_n 0, 1, (0, 0, 0), vU), (.iload_n 1, 1, (1, 0, 0), vU), (.iload_n 2, 1, (2, 0, 0), vU)]
theorem oX0_takesPair_0 : okAt mX0_takesPair bX0_takesPair_0 0 = true := by decide +kernel
theorem rX0_takesPair_0 {g : Gp} {Q : PQ} {L st : List AV} {h : AH} {u : Nat × Nat} (hr : run mX0_takesPair Q (fun pc L st h u => Ex g mX0_takesPair pc L st h u Q) bX0_takesPair_0 0 L st h u) : Ex g mX0_takesPair 0 L st h u Q := run_ok (M := mX0_takesPair) cfX0_ok (fun _ _ _ _ _ k => k) _ _ _ _ _ _ oX0_takesPair_0 hr
def bX0_takesPair_22 : List OP := [(.aload_n 0, 1, (0, 0, 0), vU), (.getfield 20, 3, (1, 5, 2), vU), (.iload_n 1, 1, (1, 0, 0), vU), (.aaload, 1, (0, 0, 0), vU), (.iload_n 2, 1, (2, 0, 0), vU), (.iaload, 1, (0, 0, 0), vU), (.if_icmp .ne 7, 3, (37, 0, 0), vU), (.iconst 1, 1, (0, 0, 0), vI 1), (.goto 4, 3, (38, 0, 0), vU), (.ireturn, 1, (0, 0, 0), vU)]
theorem oX0_takesPair_22 : okAt mX0_takesPair bX0_takesPair_22 22 = true := by decide +kernel
theorem rX0_takesPair_22 {g : Gp} {Q : PQ} {L st : List AV} {h : AH} {u : Nat × Nat} (hr : run mX0_takesPair Q (fun pc L st h u => Ex g mX0_takesPair pc L st h u Q) bX0_takesPair_22 22 L st h u) : Ex g mX0_takesPair 22 L st h u Q := run_ok (M := mX0_takesPair) cfX0_ok (fun _ _ _ _ _ k => k) _ _ _ _ _ _ oX0_takesPair_22 hr
def bX0_takesPair_37 : List OP := [(.iconst 0, 1, (0, 0, 0), vI 0), (.ireturn, 1, (0, 0, 0), vU)]
theorem oX0_takesPair_37 : okAt mX0_takesPair bX0_takesPair_37 37 = true := by decide +kernel
theorem rX0_takesPair_37 {g : Gp} {Q : PQ} {L st : List AV} {h : AH} {u : Nat × Nat} (hr : run mX0_takesPair Q (fun pc L st h u => Ex g mX0_takesPair pc L st h u Q) bX0_takesPair_37 37 L st h u) : Ex g mX0_takesPair 37 L st h u Q := run_ok (M := mX0_takesPair) cfX0_ok (fun _ _ _ _ _ k => k) _ _ _ _ _ _ oX0_takesPair_37 hr
theorem sX0_takesPair_19 {g : Gp} {L rest : List AV} {h : AH} {u : Nat × Nat} {Q : PQ} {x : Nat} {a1 a2 : AV}  (hx : zK h x = (1, 1)) (ev : Ev g mX0_pairFrom (vR x :: [a1, a2]) h (cont g mX0_takesPair 22 L rest u Q)) (hr : rest.length ≤ 4 := by exact Nat.le_of_ble_eq_true rfl) : Ex g mX0_takesPair 19 L (a2 :: a1 :: vR x :: rest) h u Q := Ex.bud (fun w1 w2 => Ex.callV (av := [a1, a2]) (r := (RX0, TX0, 8)) rfl mX0_pairFrom_ok rfl lkX0_74 imX0_pairFrom seX0_pairFrom rfl hx (by decide) w1 w2 hr (by decide +kernel) ev (fun _ _ k => k) (fun _ _ z => z))
theorem nX0_takesFirstAlone {g : Gp} {h : AH} {Q : PQ} {x : Nat} {i1 : Int32} {i2 : Int32} (k : Ex g mX0_takesFirstAlone 0 [vR x, vI i1, vI i2] [] h (0, 0) Q) : Ev g mX0_takesFirstAlone [vR x, vI i1, vI i2] h Q := Ev.of (by decide +kernel) rfl (Nat.le_of_ble_eq_true rfl) k
theorem qX0_takesFirstAlone : mR mX0_takesFirstAlone = (some FieldType.boolean) := rfl
def bX0_takesFirstAlone_0 : List OP := [(.iload_n 1, 1, (1, 0, 0), vU), (.aload_n 0, 1, (0, 0, 0), vU), (.getfield 37, 3, (1, 3, 0), vU), (.if_icmp .ge 30, 3, (35, 0, 0), vU), (.iconst 4, 1, (0, 0, 0), vI 4), (.aload_n 0, 1, (0, 0, 0), vU), (.getfield 20, 3, (1, 5, 2), vU), (.iload_n 1, 1, (1, 0, 0), vU), (.iconst 1, 1, (0, 0, 0), vI 1), (.iadd, 1, (0, 0, 0), vU), (.aaload, 1, (0, 0, 0), vU), (.iload_n 2, 1, (2, 0, 0), vU), (.iaload, 1, (0, 0, 0), vU), (.iadd, 1, (0, 0, 0), vU), (.aload_n 0, 1, (0, 0, 0), vU), (.getfield 20, 3, (1, 5, 2), vU), (.iload_n 1, 1, (1, 0, 0), vU), (.aaload, 1, (0, 0, 0), vU), (.iload_n 2, 1, (2, 0, 0), vU), (.iaload, 1, (0, 0, 0), vU), (.if_icmp .ne 7, 3, (35, 0, 0), vU), (.iconst 1, 1, (0, 0, 0), vI 1), (.goto 4, 3, (36, 0, 0), vU), (.ireturn, 1, (0, 0, 0), vU)]
theorem oX0_takesFirstAlone_0 : okAt mX0_takesFirstAlone bX0_takesFirstAlone_0 0 = true := by decide +kernel
theorem rX0_takesFirstAlone_0 {g : Gp} {Q : PQ} {L st : List AV} {h : AH} {u : Nat × Nat} (hr : run mX0_takesFirstAlone Q (fun pc L st h u => Ex g mX0_takesFirstAlone pc L st h u Q) bX0_takesFirstAlone_0 0 L st h u) : Ex g mX0_takesFirstAlone 0 L st h u Q := run_ok (M := mX0_takesFirstAlone) cfX0_ok (fun _ _ _ _ _ k => k) _ _ _ _ _ _ oX0_takesFirstAlone_0 hr
def bX0_takesFirstAlone_35 : List OP := [(.iconst 0, 1, (0, 0, 0), vI 0), (.ireturn, 1, (0, 0, 0), vU)]
theorem oX0_takesFirstAlone_35 : okAt mX0_takesFirstAlone bX0_takesFirstAlone_35 35 = true := by decide +kernel
theorem rX0_takesFirstAlone_35 {g : Gp} {Q : PQ} {L st : List AV} {h : AH} {u : Nat × Nat} (hr : run mX0_takesFirstAlone Q (fun pc L st h u => Ex g mX0_takesFirstAlone pc L st h u Q) bX0_takesFirstAlone_35 35 L st h u) : Ex g mX0_takesFirstAlone 35 L st h u Q := run_ok (M := mX0_takesFirstAlone) cfX0_ok (fun _ _ _ _ _ k => k) _ _ _ _ _ _ oX0_takesFirstAlone_35 hr
theorem nX0_align {g : Gp} {h : AH} {Q : PQ} {x : Nat} {i1 : Int64} {i2 : Int64} (k : Ex g mX0_align 0 [vR x, vL i1, vU, vL i2, vU, vU, vU, vU, vU, vU, vU] [] h (0, 0) Q) : Ev g mX0_align [vR x, vL i1, vL i2] h Q := Ev.of (by decide +kernel) rfl (Nat.le_of_ble_eq_true rfl) k
theorem qX0_align : mR mX0_align = (some FieldType.int) := rfl
def bX0_align_0 : List OP := [(.aload_n 0, 1, (0, 0, 0), vU), (.lload_n 1, 1, (1, 0, 0), vU), (.lload_n 3, 1, (3, 0, 0), vU)]
theorem oX0_align_0 : okAt mX0_align bX0_align_0 0 = true := by decide +kernel
theorem rX0_align_0 {g : Gp} {Q : PQ} {L st : List AV} {h : AH} {u : Nat × Nat} (hr : run mX0_align Q (fun pc L st h u => Ex g mX0_align pc L st h u Q) bX0_align_0 0 L st h u) : Ex g mX0_align 0 L st h u Q := run_ok (M := mX0_align) cfX0_ok (fun _ _ _ _ _ k => k) _ _ _ _ _ _ oX0_align_0 hr
def bX0_align_6 : List OP := [(.pop, 1, (0, 0, 0), vU), (.iconst 0, 1, (0, 0, 0), vI 0), (.istore 5, 2, (5, 0, 0), vU), (.iconst 0, 1, (0, 0, 0), vI 0), (.istore 6, 2, (6, 0, 0), vU), (.iconst 0, 1, (0, 0, 0), vI 0), (.istore 7, 2, (7, 0, 0), vU)]
theorem oX0_align_6 : okAt mX0_align bX0_align_6 6 = true := by decide +kernel
theorem rX0_align_6 {g : Gp} {Q : PQ} {L st : List AV} {h : AH} {u : Nat × Nat} (hr : run mX0_align Q (fun pc L st h u => Ex g mX0_align pc L st h u Q) bX0_align_6 6 L st h u) : Ex g mX0_align 6 L st h u Q := run_ok (M := mX0_align) cfX0_ok (fun _ _ _ _ _ k => k) _ _ _ _ _ _ oX0_align_6 hr
def bX0_align_16 : List OP := [(.iload 7, 2, (7, 0, 0), vU), (.bipush 20, 2, (0, 0, 0), vI 20), (.if_icmp .ge 173, 3, (193, 0, 0), vU), (.iload 5, 2, (5, 0, 0), vU), (.aload_n 0, 1, (0, 0, 0), vU), (.getfield 37, 3, (1, 3, 0), vU), (.if_icmp .lt 12, 3, (41, 0, 0), vU), (.iload 6, 2, (6, 0, 0), vU), (.aload_n 0, 1, (0, 0, 0), vU), (.getfield 41, 3, (1, 4, 0), vU), (.if_icmp .ge 155, 3, (193, 0, 0), vU), (.aload_n 0, 1, (0, 0, 0), vU), (.iload 5, 2, (5, 0, 0), vU), (.iload 6, 2, (6, 0, 0), vU)]
theorem oX0_align_16 : okAt mX0_align bX0_align_16 16 = true := by decide +kernel
theorem rX0_align_16 {g : Gp} {Q : PQ} {L st : List AV} {h : AH} {u : Nat × Nat} (hr : run mX0_align Q (fun pc L st h u => Ex g mX0_align pc L st h u Q) bX0_align_16 16 L st h u) : Ex g mX0_align 16 L st h u Q := run_ok (M := mX0_align) cfX0_ok (fun _ _ _ _ _ k => k) _ _ _ _ _ _ oX0_align_16 hr
def bX0_align_41 : List OP := [(.aload_n 0, 1, (0, 0, 0), vU), (.iload 5, 2, (5, 0, 0), vU), (.iload 6, 2, (6, 0, 0), vU)]
theorem oX0_align_41 : okAt mX0_align bX0_align_41 41 = true := by decide +kernel
theorem rX0_align_41 {g : Gp} {Q : PQ} {L st : List AV} {h : AH} {u : Nat × Nat} (hr : run mX0_align Q (fun pc L st h u => Ex g mX0_align pc L st h u Q) bX0_align_41 41 L st h u) : Ex g mX0_align 41 L st h u Q := run_ok (M := mX0_align) cfX0_ok (fun _ _ _ _ _ k => k) _ _ _ _ _ _ oX0_align_41 hr
def bX0_align_49 : List OP := [(.istore 8, 2, (8, 0, 0), vU), (.iload 8, 2, (8, 0, 0), vU), (.ifCond .ne 14, 3, (67, 0, 0), vU), (.aload_n 0, 1, (0, 0, 0), vU), (.iload 5, 2, (5, 0, 0), vU), (.iload 6, 2, (6, 0, 0), vU)]
theorem oX0_align_49 : okAt mX0_align bX0_align_49 49 = true := by decide +kernel
theorem rX0_align_49 {g : Gp} {Q : PQ} {L st : List AV} {h : AH} {u : Nat × Nat} (hr : run mX0_align Q (fun pc L st h u => Ex g mX0_align pc L st h u Q) bX0_align_49 49 L st h u) : Ex g mX0_align 49 L st h u Q := run_ok (M := mX0_align) cfX0_ok (fun _ _ _ _ _ k => k) _ _ _ _ _ _ oX0_align_49 hr
def bX0_align_64 : List OP := [(.ifCond .eq 7, 3, (71, 0, 0), vU), (.iconst 1, 1, (0, 0, 0), vI 1), (.goto 4, 3, (72, 0, 0), vU), (.istore 9, 2, (9, 0, 0), vU), (.iload 8, 2, (8, 0, 0), vU), (.ifCond .ne 8, 3, (84, 0, 0), vU), (.iload 9, 2, (9, 0, 0), vU), (.ifCond .ne 7, 3, (88, 0, 0), vU), (.iconst 1, 1, (0, 0, 0), vI 1), (.goto 4, 3, (89, 0, 0), vU), (.istore 10, 2, (10, 0, 0), vU), (.aload_n 0, 1, (0, 0, 0), vU), (.getfield 23, 3, (1, 6, 2), vU), (.iload 7, 2, (7, 0, 0), vU), (.iload 9, 2, (9, 0, 0), vU), (.ifCond .eq 22, 3, (121, 0, 0), vU), (.iload 5, 2, (5, 0, 0), vU), (.aload_n 0, 1, (0, 0, 0), vU), (.getfield 37, 3, (1, 3, 0), vU), (.if_icmp .ge 13, 3, (121, 0, 0), vU), (.aload_n 0, 1, (0, 0, 0), vU), (.getfield 9, 3, (1, 1, 2), vU), (.iload 5, 2, (5, 0, 0), vU), (.iaload, 1, (0, 0, 0), vU), (.goto 5, 3, (123, 0, 0), vU), (.iastore, 1, (0, 0, 0), vU), (.aload_n 0, 1, (0, 0, 0), vU), (.getfield 26, 3, (1, 7, 2), vU), (.iload 7, 2, (7, 0, 0), vU), (.iload 10, 2, (10, 0, 0), vU), (.ifCond .eq 22, 3, (154, 0, 0), vU), (.iload 6, 2, (6, 0, 0), vU), (.aload_n 0, 1, (0, 0, 0), vU), (.getfield 41, 3, (1, 4, 0), vU), (.if_icmp .ge 13, 3, (154, 0, 0), vU), (.aload_n 0, 1, (0, 0, 0), vU), (.getfield 15, 3, (1, 2, 2), vU), (.iload 6, 2, (6, 0, 0), vU), (.iaload, 1, (0, 0, 0), vU), (.goto 5, 3, (156, 0, 0), vU), (.iastore, 1, (0, 0, 0), vU), (.iload 5, 2, (5, 0, 0), vU), (.iload 9, 2, (9, 0, 0), vU), (.ifCond .eq 7, 3, (168, 0, 0), vU), (.iconst 1, 1, (0, 0, 0), vI 1), (.goto 4, 3, (169, 0, 0), vU), (.iadd, 1, (0, 0, 0), vU), (.istore 5, 2, (5, 0, 0), vU), (.iload 6, 2, (6, 0, 0), vU), (.iload 10, 2, (10, 0, 0), vU), (.ifCond .eq 7, 3, (183, 0, 0), vU), (.iconst 1, 1, (0, 0, 0), vI 1), (.goto 4, 3, (184, 0, 0), vU), (.iadd, 1, (0, 0, 0), vU), (.istore 6, 2, (6, 0, 0), vU), (.iinc 7 1, 3, (7, 0, 0), vI 1), (.goto (-174), 3, (16, 0, 0), vU)]
theorem oX0_align_64 : okAt mX0_align bX0_align_64 64 = true := by decide +kernel
theorem rX0_align_64 {g : Gp} {Q : PQ} {L st : List AV} {h : AH} {u : Nat × Nat} (hr : run mX0_align Q (fun pc L st h u => Ex g mX0_align pc L st h u Q) bX0_align_64 64 L st h u) : Ex g mX0_align 64 L st h u Q := run_ok (M := mX0_align) cfX0_ok (fun _ _ _ _ _ k => k) _ _ _ _ _ _ oX0_align_64 hr
def bX0_align_67 : List OP := [(.iconst 1, 1, (0, 0, 0), vI 1), (.goto 4, 3, (72, 0, 0), vU), (.istore 9, 2, (9, 0, 0), vU), (.iload 8, 2, (8, 0, 0), vU), (.ifCond .ne 8, 3, (84, 0, 0), vU), (.iload 9, 2, (9, 0, 0), vU), (.ifCond .ne 7, 3, (88, 0, 0), vU), (.iconst 1, 1, (0, 0, 0), vI 1), (.goto 4, 3, (89, 0, 0), vU), (.istore 10, 2, (10, 0, 0), vU), (.aload_n 0, 1, (0, 0, 0), vU), (.getfield 23, 3, (1, 6, 2), vU), (.iload 7, 2, (7, 0, 0), vU), (.iload 9, 2, (9, 0, 0), vU), (.ifCond .eq 22, 3, (121, 0, 0), vU), (.iload 5, 2, (5, 0, 0), vU), (.aload_n 0, 1, (0, 0, 0), vU), (.getfield 37, 3, (1, 3, 0), vU), (.if_icmp .ge 13, 3, (121, 0, 0), vU), (.aload_n 0, 1, (0, 0, 0), vU), (.getfield 9, 3, (1, 1, 2), vU), (.iload 5, 2, (5, 0, 0), vU), (.iaload, 1, (0, 0, 0), vU), (.goto 5, 3, (123, 0, 0), vU), (.iastore, 1, (0, 0, 0), vU), (.aload_n 0, 1, (0, 0, 0), vU), (.getfield 26, 3, (1, 7, 2), vU), (.iload 7, 2, (7, 0, 0), vU), (.iload 10, 2, (10, 0, 0), vU), (.ifCond .eq 22, 3, (154, 0, 0), vU), (.iload 6, 2, (6, 0, 0), vU), (.aload_n 0, 1, (0, 0, 0), vU), (.getfield 41, 3, (1, 4, 0), vU), (.if_icmp .ge 13, 3, (154, 0, 0), vU), (.aload_n 0, 1, (0, 0, 0), vU), (.getfield 15, 3, (1, 2, 2), vU), (.iload 6, 2, (6, 0, 0), vU), (.iaload, 1, (0, 0, 0), vU), (.goto 5, 3, (156, 0, 0), vU), (.iastore, 1, (0, 0, 0), vU), (.iload 5, 2, (5, 0, 0), vU), (.iload 9, 2, (9, 0, 0), vU), (.ifCond .eq 7, 3, (168, 0, 0), vU), (.iconst 1, 1, (0, 0, 0), vI 1), (.goto 4, 3, (169, 0, 0), vU), (.iadd, 1, (0, 0, 0), vU), (.istore 5, 2, (5, 0, 0), vU), (.iload 6, 2, (6, 0, 0), vU), (.iload 10, 2, (10, 0, 0), vU), (.ifCond .eq 7, 3, (183, 0, 0), vU), (.iconst 1, 1, (0, 0, 0), vI 1), (.goto 4, 3, (184, 0, 0), vU), (.iadd, 1, (0, 0, 0), vU), (.istore 6, 2, (6, 0, 0), vU), (.iinc 7 1, 3, (7, 0, 0), vI 1), (.goto (-174), 3, (16, 0, 0), vU)]
theorem oX0_align_67 : okAt mX0_align bX0_align_67 67 = true := by decide +kernel
theorem rX0_align_67 {g : Gp} {Q : PQ} {L st : List AV} {h : AH} {u : Nat × Nat} (hr : run mX0_align Q (fun pc L st h u => Ex g mX0_align pc L st h u Q) bX0_align_67 67 L st h u) : Ex g mX0_align 67 L st h u Q := run_ok (M := mX0_align) cfX0_ok (fun _ _ _ _ _ k => k) _ _ _ _ _ _ oX0_align_67 hr
def bX0_align_71 : List OP := [(.iconst 0, 1, (0, 0, 0), vI 0), (.istore 9, 2, (9, 0, 0), vU), (.iload 8, 2, (8, 0, 0), vU), (.ifCond .ne 8, 3, (84, 0, 0), vU), (.iload 9, 2, (9, 0, 0), vU), (.ifCond .ne 7, 3, (88, 0, 0), vU), (.iconst 1, 1, (0, 0, 0), vI 1), (.goto 4, 3, (89, 0, 0), vU), (.istore 10, 2, (10, 0, 0), vU), (.aload_n 0, 1, (0, 0, 0), vU), (.getfield 23, 3, (1, 6, 2), vU), (.iload 7, 2, (7, 0, 0), vU), (.iload 9, 2, (9, 0, 0), vU), (.ifCond .eq 22, 3, (121, 0, 0), vU), (.iload 5, 2, (5, 0, 0), vU), (.aload_n 0, 1, (0, 0, 0), vU), (.getfield 37, 3, (1, 3, 0), vU), (.if_icmp .ge 13, 3, (121, 0, 0), vU), (.aload_n 0, 1, (0, 0, 0), vU), (.getfield 9, 3, (1, 1, 2), vU), (.iload 5, 2, (5, 0, 0), vU), (.iaload, 1, (0, 0, 0), vU), (.goto 5, 3, (123, 0, 0), vU), (.iastore, 1, (0, 0, 0), vU), (.aload_n 0, 1, (0, 0, 0), vU), (.getfield 26, 3, (1, 7, 2), vU), (.iload 7, 2, (7, 0, 0), vU), (.iload 10, 2, (10, 0, 0), vU), (.ifCond .eq 22, 3, (154, 0, 0), vU), (.iload 6, 2, (6, 0, 0), vU), (.aload_n 0, 1, (0, 0, 0), vU), (.getfield 41, 3, (1, 4, 0), vU), (.if_icmp .ge 13, 3, (154, 0, 0), vU), (.aload_n 0, 1, (0, 0, 0), vU), (.getfield 15, 3, (1, 2, 2), vU), (.iload 6, 2, (6, 0, 0), vU), (.iaload, 1, (0, 0, 0), vU), (.goto 5, 3, (156, 0, 0), vU), (.iastore, 1, (0, 0, 0), vU), (.iload 5, 2, (5, 0, 0), vU), (.iload 9, 2, (9, 0, 0), vU), (.ifCond .eq 7, 3, (168, 0, 0), vU), (.iconst 1, 1, (0, 0, 0), vI 1), (.goto 4, 3, (169, 0, 0), vU), (.iadd, 1, (0, 0, 0), vU), (.istore 5, 2, (5, 0, 0), vU), (.iload 6, 2, (6, 0, 0), vU), (.iload 10, 2, (10, 0, 0), vU), (.ifCond .eq 7, 3, (183, 0, 0), vU), (.iconst 1, 1, (0, 0, 0), vI 1), (.goto 4, 3, (184, 0, 0), vU), (.iadd, 1, (0, 0, 0), vU), (.istore 6, 2, (6, 0, 0), vU), (.iinc 7 1, 3, (7, 0, 0), vI 1), (.goto (-174), 3, (16, 0, 0), vU)]
theorem oX0_align_71 : okAt mX0_align bX0_align_71 71 = true := by decide +kernel
theorem rX0_align_71 {g : Gp} {Q : PQ} {L st : List AV} {h : AH} {u : Nat × Nat} (hr : run mX0_align Q (fun pc L st h u => Ex g mX0_align pc L st h u Q) bX0_align_71 71 L st h u) : Ex g mX0_align 71 L st h u Q := run_ok (M := mX0_align) cfX0_ok (fun _ _ _ _ _ k => k) _ _ _ _ _ _ oX0_align_71 hr
def bX0_align_84 : List OP := [(.iconst 1, 1, (0, 0, 0), vI 1), (.goto 4, 3, (89, 0, 0), vU), (.istore 10, 2, (10, 0, 0), vU), (.aload_n 0, 1, (0, 0, 0), vU), (.getfield 23, 3, (1, 6, 2), vU), (.iload 7, 2, (7, 0, 0), vU), (.iload 9, 2, (9, 0, 0), vU), (.ifCond .eq 22, 3, (121, 0, 0), vU), (.iload 5, 2, (5, 0, 0), vU), (.aload_n 0, 1, (0, 0, 0), vU), (.getfield 37, 3, (1, 3, 0), vU), (.if_icmp .ge 13, 3, (121, 0, 0), vU), (.aload_n 0, 1, (0, 0, 0), vU), (.getfield 9, 3, (1, 1, 2), vU), (.iload 5, 2, (5, 0, 0), vU), (.iaload, 1, (0, 0, 0), vU), (.goto 5, 3, (123, 0, 0), vU), (.iastore, 1, (0, 0, 0), vU), (.aload_n 0, 1, (0, 0, 0), vU), (.getfield 26, 3, (1, 7, 2), vU), (.iload 7, 2, (7, 0, 0), vU), (.iload 10, 2, (10, 0, 0), vU), (.ifCond .eq 22, 3, (154, 0, 0), vU), (.iload 6, 2, (6, 0, 0), vU), (.aload_n 0, 1, (0, 0, 0), vU), (.getfield 41, 3, (1, 4, 0), vU), (.if_icmp .ge 13, 3, (154, 0, 0), vU), (.aload_n 0, 1, (0, 0, 0), vU), (.getfield 15, 3, (1, 2, 2), vU), (.iload 6, 2, (6, 0, 0), vU), (.iaload, 1, (0, 0, 0), vU), (.goto 5, 3, (156, 0, 0), vU), (.iastore, 1, (0, 0, 0), vU), (.iload 5, 2, (5, 0, 0), vU), (.iload 9, 2, (9, 0, 0), vU), (.ifCond .eq 7, 3, (168, 0, 0), vU), (.iconst 1, 1, (0, 0, 0), vI 1), (.goto 4, 3, (169, 0, 0), vU), (.iadd, 1, (0, 0, 0), vU), (.istore 5, 2, (5, 0, 0), vU), (.iload 6, 2, (6, 0, 0), vU), (.iload 10, 2, (10, 0, 0), vU), (.ifCond .eq 7, 3, (183, 0, 0), vU), (.iconst 1, 1, (0, 0, 0), vI 1), (.goto 4, 3, (184, 0, 0), vU), (.iadd, 1, (0, 0, 0), vU), (.istore 6, 2, (6, 0, 0), vU), (.iinc 7 1, 3, (7, 0, 0), vI 1), (.goto (-174), 3, (16, 0, 0), vU)]
theorem oX0_align_84 : okAt mX0_align bX0_align_84 84 = true := by decide +kernel
theorem rX0_align_84 {g : Gp} {Q : PQ} {L st : List AV} {h : AH} {u : Nat × Nat} (hr : run mX0_align Q (fun pc L st h u => Ex g mX0_align pc L st h u Q) bX0_align_84 84 L st h u) : Ex g mX0_align 84 L st h u Q := run_ok (M := mX0_align) cfX0_ok (fun _ _ _ _ _ k => k) _ _ _ _ _ _ oX0_align_84 hr
def bX0_align_88 : List OP := [(.iconst 0, 1, (0, 0, 0), vI 0), (.istore 10, 2, (10, 0, 0), vU), (.aload_n 0, 1, (0, 0, 0), vU), (.getfield 23, 3, (1, 6, 2), vU), (.iload 7, 2, (7, 0, 0), vU), (.iload 9, 2, (9, 0, 0), vU), (.ifCond .eq 22, 3, (121, 0, 0), vU), (.iload 5, 2, (5, 0, 0), vU), (.aload_n 0, 1, (0, 0, 0), vU), (.getfield 37, 3, (1, 3, 0), vU), (.if_icmp .ge 13, 3, (121, 0, 0), vU), (.aload_n 0, 1, (0, 0, 0), vU), (.getfield 9, 3, (1, 1, 2), vU), (.iload 5, 2, (5, 0, 0), vU), (.iaload, 1, (0, 0, 0), vU), (.goto 5, 3, (123, 0, 0), vU), (.iastore, 1, (0, 0, 0), vU), (.aload_n 0, 1, (0, 0, 0), vU), (.getfield 26, 3, (1, 7, 2), vU), (.iload 7, 2, (7, 0, 0), vU), (.iload 10, 2, (10, 0, 0), vU), (.ifCond .eq 22, 3, (154, 0, 0), vU), (.iload 6, 2, (6, 0, 0), vU), (.aload_n 0, 1, (0, 0, 0), vU), (.getfield 41, 3, (1, 4, 0), vU), (.if_icmp .ge 13, 3, (154, 0, 0), vU), (.aload_n 0, 1, (0, 0, 0), vU), (.getfield 15, 3, (1, 2, 2), vU), (.iload 6, 2, (6, 0, 0), vU), (.iaload, 1, (0, 0, 0), vU), (.goto 5, 3, (156, 0, 0), vU), (.iastore, 1, (0, 0, 0), vU), (.iload 5, 2, (5, 0, 0), vU), (.iload 9, 2, (9, 0, 0), vU), (.ifCond .eq 7, 3, (168, 0, 0), vU), (.iconst 1, 1, (0, 0, 0), vI 1), (.goto 4, 3, (169, 0, 0), vU), (.iadd, 1, (0, 0, 0), vU), (.istore 5, 2, (5, 0, 0), vU), (.iload 6, 2, (6, 0, 0), vU), (.iload 10, 2, (10, 0, 0), vU), (.ifCond .eq 7, 3, (183, 0, 0), vU), (.iconst 1, 1, (0, 0, 0), vI 1), (.goto 4, 3, (184, 0, 0), vU), (.iadd, 1, (0, 0, 0), vU), (.istore 6, 2, (6, 0, 0), vU), (.iinc 7 1, 3, (7, 0, 0), vI 1), (.goto (-174), 3, (16, 0, 0), vU)]
theorem oX0_align_88 : okAt mX0_align bX0_align_88 88 = true := by decide +kernel
theorem rX0_align_88 {g : Gp} {Q : PQ} {L st : List AV} {h : AH} {u : Nat × Nat} (hr : run mX0_align Q (fun pc L st h u => Ex g mX0_align pc L st h u Q) bX0_align_88 88 L st h u) : Ex g mX0_align 88 L st h u Q := run_ok (M := mX0_align) cfX0_ok (fun _ _ _ _ _ k => k) _ _ _ _ _ _ oX0_align_88 hr
def bX0_align_121 : List OP := [(.bipush 16, 2, (0, 0, 0), vI 16), (.iastore, 1, (0, 0, 0), vU), (.aload_n 0, 1, (0, 0, 0), vU), (.getfield 26, 3, (1, 7, 2), vU), (.iload 7, 2, (7, 0, 0), vU), (.iload 10, 2, (10, 0, 0), vU), (.ifCond .eq 22, 3, (154, 0, 0), vU), (.iload 6, 2, (6, 0, 0), vU), (.aload_n 0, 1, (0, 0, 0), vU), (.getfield 41, 3, (1, 4, 0), vU), (.if_icmp .ge 13, 3, (154, 0, 0), vU), (.aload_n 0, 1, (0, 0, 0), vU), (.getfield 15, 3, (1, 2, 2), vU), (.iload 6, 2, (6, 0, 0), vU), (.iaload, 1, (0, 0, 0), vU), (.goto 5, 3, (156, 0, 0), vU), (.iastore, 1, (0, 0, 0), vU), (.iload 5, 2, (5, 0, 0), vU), (.iload 9, 2, (9, 0, 0), vU), (.ifCond .eq 7, 3, (168, 0, 0), vU), (.iconst 1, 1, (0, 0, 0), vI 1), (.goto 4, 3, (169, 0, 0), vU), (.iadd, 1, (0, 0, 0), vU), (.istore 5, 2, (5, 0, 0), vU), (.iload 6, 2, (6, 0, 0), vU), (.iload 10, 2, (10, 0, 0), vU), (.ifCond .eq 7, 3, (183, 0, 0), vU), (.iconst 1, 1, (0, 0, 0), vI 1), (.goto 4, 3, (184, 0, 0), vU), (.iadd, 1, (0, 0, 0), vU), (.istore 6, 2, (6, 0, 0), vU), (.iinc 7 1, 3, (7, 0, 0), vI 1), (.goto (-174), 3, (16, 0, 0), vU)]
theorem oX0_align_121 : okAt mX0_align bX0_align_121 121 = true := by decide +kernel
theorem rX0_align_121 {g : Gp} {Q : PQ} {L st : List AV} {h : AH} {u : Nat × Nat} (hr : run mX0_align Q (fun pc L st h u => Ex g mX0_align pc L st h u Q) bX0_align_121 121 L st h u) : Ex g mX0_align 121 L st h u Q := run_ok (M := mX0_align) cfX0_ok (fun _ _ _ _ _ k => k) _ _ _ _ _ _ oX0_align_121 hr
def bX0_align_154 : List OP := [(.bipush 16, 2, (0, 0, 0), vI 16), (.iastore, 1, (0, 0, 0), vU), (.iload 5, 2, (5, 0, 0), vU), (.iload 9, 2, (9, 0, 0), vU), (.ifCond .eq 7, 3, (168, 0, 0), vU), (.iconst 1, 1, (0, 0, 0), vI 1), (.goto 4, 3, (169, 0, 0), vU), (.iadd, 1, (0, 0, 0), vU), (.istore 5, 2, (5, 0, 0), vU), (.iload 6, 2, (6, 0, 0), vU), (.iload 10, 2, (10, 0, 0), vU), (.ifCond .eq 7, 3, (183, 0, 0), vU), (.iconst 1, 1, (0, 0, 0), vI 1), (.goto 4, 3, (184, 0, 0), vU), (.iadd, 1, (0, 0, 0), vU), (.istore 6, 2, (6, 0, 0), vU), (.iinc 7 1, 3, (7, 0, 0), vI 1), (.goto (-174), 3, (16, 0, 0), vU)]
theorem oX0_align_154 : okAt mX0_align bX0_align_154 154 = true := by decide +kernel
theorem rX0_align_154 {g : Gp} {Q : PQ} {L st : List AV} {h : AH} {u : Nat × Nat} (hr : run mX0_align Q (fun pc L st h u => Ex g mX0_align pc L st h u Q) bX0_align_154 154 L st h u) : Ex g mX0_align 154 L st h u Q := run_ok (M := mX0_align) cfX0_ok (fun _ _ _ _ _ k => k) _ _ _ _ _ _ oX0_align_154 hr
def bX0_align_168 : List OP := [(.iconst 0, 1, (0, 0, 0), vI 0), (.iadd, 1, (0, 0, 0), vU), (.istore 5, 2, (5, 0, 0), vU), (.iload 6, 2, (6, 0, 0), vU), (.iload 10, 2, (10, 0, 0), vU), (.ifCond .eq 7, 3, (183, 0, 0), vU), (.iconst 1, 1, (0, 0, 0), vI 1), (.goto 4, 3, (184, 0, 0), vU), (.iadd, 1, (0, 0, 0), vU), (.istore 6, 2, (6, 0, 0), vU), (.iinc 7 1, 3, (7, 0, 0), vI 1), (.goto (-174), 3, (16, 0, 0), vU)]
theorem oX0_align_168 : okAt mX0_align bX0_align_168 168 = true := by decide +kernel
theorem rX0_align_168 {g : Gp} {Q : PQ} {L st : List AV} {h : AH} {u : Nat × Nat} (hr : run mX0_align Q (fun pc L st h u => Ex g mX0_align pc L st h u Q) bX0_align_168 168 L st h u) : Ex g mX0_align 168 L st h u Q := run_ok (M := mX0_align) cfX0_ok (fun _ _ _ _ _ k => k) _ _ _ _ _ _ oX0_align_168 hr
def bX0_align_183 : List OP := [(.iconst 0, 1, (0, 0, 0), vI 0), (.iadd, 1, (0, 0, 0), vU), (.istore 6, 2, (6, 0, 0), vU), (.iinc 7 1, 3, (7, 0, 0), vI 1), (.goto (-174), 3, (16, 0, 0), vU)]
theorem oX0_align_183 : okAt mX0_align bX0_align_183 183 = true := by decide +kernel
theorem rX0_align_183 {g : Gp} {Q : PQ} {L st : List AV} {h : AH} {u : Nat × Nat} (hr : run mX0_align Q (fun pc L st h u => Ex g mX0_align pc L st h u Q) bX0_align_183 183 L st h u) : Ex g mX0_align 183 L st h u Q := run_ok (M := mX0_align) cfX0_ok (fun _ _ _ _ _ k => k) _ _ _ _ _ _ oX0_align_183 hr
def bX0_align_193 : List OP := [(.iload 7, 2, (7, 0, 0), vU), (.ireturn, 1, (0, 0, 0), vU)]
theorem oX0_align_193 : okAt mX0_align bX0_align_193 193 = true := by decide +kernel
theorem rX0_align_193 {g : Gp} {Q : PQ} {L st : List AV} {h : AH} {u : Nat × Nat} (hr : run mX0_align Q (fun pc L st h u => Ex g mX0_align pc L st h u Q) bX0_align_193 193 L st h u) : Ex g mX0_align 193 L st h u Q := run_ok (M := mX0_align) cfX0_ok (fun _ _ _ _ _ k => k) _ _ _ _ _ _ oX0_align_193 hr
theorem sX0_align_3 {g : Gp} {L rest : List AV} {h : AH} {u : Nat × Nat} {Q : PQ} {x : Nat} {a1 a2 : AV}  (hx : zK h x = (1, 1)) (ev : Ev g mX0_weigh (vR x :: [a1, a2]) h (cont g mX0_align 6 L rest u Q)) (hr : rest.length ≤ 4 := by exact Nat.le_of_ble_eq_true rfl) : Ex g mX0_align 3 L (a2 :: a1 :: vR x :: rest) h u Q := Ex.bud (fun w1 w2 => Ex.callV (av := [a1, a2]) (r := (RX0, TX0, 8)) rfl mX0_weigh_ok rfl lkX0_48 imX0_weigh seX0_weigh rfl hx (by decide) w1 w2 hr (by decide +kernel) ev (fun _ _ k => k) (fun _ _ z => z))
theorem sX0_align_46 {g : Gp} {L rest : List AV} {h : AH} {u : Nat × Nat} {Q : PQ} {x : Nat} {a1 a2 : AV}  (hx : zK h x = (1, 1)) (ev : Ev g mX0_takesPair (vR x :: [a1, a2]) h (cont g mX0_align 49 L rest u Q)) (hr : rest.length ≤ 4 := by exact Nat.le_of_ble_eq_true rfl) : Ex g mX0_align 46 L (a2 :: a1 :: vR x :: rest) h u Q := Ex.bud (fun w1 w2 => Ex.callV (av := [a1, a2]) (r := (RX0, TX0, 8)) rfl mX0_takesPair_ok rfl lkX0_52 imX0_takesPair seX0_takesPair rfl hx (by decide) w1 w2 hr (by decide +kernel) ev (fun _ _ k => k) (fun _ _ z => z))
theorem sX0_align_61 {g : Gp} {L rest : List AV} {h : AH} {u : Nat × Nat} {Q : PQ} {x : Nat} {a1 a2 : AV}  (hx : zK h x = (1, 1)) (ev : Ev g mX0_takesFirstAlone (vR x :: [a1, a2]) h (cont g mX0_align 64 L rest u Q)) (hr : rest.length ≤ 4 := by exact Nat.le_of_ble_eq_true rfl) : Ex g mX0_align 61 L (a2 :: a1 :: vR x :: rest) h u Q := Ex.bud (fun w1 w2 => Ex.callV (av := [a1, a2]) (r := (RX0, TX0, 8)) rfl mX0_takesFirstAlone_ok rfl lkX0_56 imX0_takesFirstAlone seX0_takesFirstAlone rfl hx (by decide) w1 w2 hr (by decide +kernel) ev (fun _ _ k => k) (fun _ _ z => z))
theorem nX0_upperAt {g : Gp} {h : AH} {Q : PQ} {x : Nat} {i1 : Int32} (k : Ex g mX0_upperAt 0 [vR x, vI i1] [] h (0, 0) Q) : Ev g mX0_upperAt [vR x, vI i1] h Q := Ev.of (by decide +kernel) rfl (Nat.le_of_ble_eq_true rfl) k
theorem qX0_upperAt : mR mX0_upperAt = (some FieldType.int) := rfl
def bX0_upperAt_0 : List OP := [(.aload_n 0, 1, (0, 0, 0), vU), (.getfield 23, 3, (1, 6, 2), vU), (.iload_n 1, 1, (1, 0, 0), vU), (.iaload, 1, (0, 0, 0), vU), (.ireturn, 1, (0, 0, 0), vU)]
theorem oX0_upperAt_0 : okAt mX0_upperAt bX0_upperAt_0 0 = true := by decide +kernel
theorem rX0_upperAt_0 {g : Gp} {Q : PQ} {L st : List AV} {h : AH} {u : Nat × Nat} (hr : run mX0_upperAt Q (fun pc L st h u => Ex g mX0_upperAt pc L st h u Q) bX0_upperAt_0 0 L st h u) : Ex g mX0_upperAt 0 L st h u Q := run_ok (M := mX0_upperAt) cfX0_ok (fun _ _ _ _ _ k => k) _ _ _ _ _ _ oX0_upperAt_0 hr
theorem nX0_lowerAt {g : Gp} {h : AH} {Q : PQ} {x : Nat} {i1 : Int32} (k : Ex g mX0_lowerAt 0 [vR x, vI i1] [] h (0, 0) Q) : Ev g mX0_lowerAt [vR x, vI i1] h Q := Ev.of (by decide +kernel) rfl (Nat.le_of_ble_eq_true rfl) k
theorem qX0_lowerAt : mR mX0_lowerAt = (some FieldType.int) := rfl
def bX0_lowerAt_0 : List OP := [(.aload_n 0, 1, (0, 0, 0), vU), (.getfield 26, 3, (1, 7, 2), vU), (.iload_n 1, 1, (1, 0, 0), vU), (.iaload, 1, (0, 0, 0), vU), (.ireturn, 1, (0, 0, 0), vU)]
theorem oX0_lowerAt_0 : okAt mX0_lowerAt bX0_lowerAt_0 0 = true := by decide +kernel
theorem rX0_lowerAt_0 {g : Gp} {Q : PQ} {L st : List AV} {h : AH} {u : Nat × Nat} (hr : run mX0_lowerAt Q (fun pc L st h u => Ex g mX0_lowerAt pc L st h u Q) bX0_lowerAt_0 0 L st h u) : Ex g mX0_lowerAt 0 L st h u Q := run_ok (M := mX0_lowerAt) cfX0_ok (fun _ _ _ _ _ k => k) _ _ _ _ _ _ oX0_lowerAt_0 hr
theorem nX7_clear {g : Gp} {h : AH} {Q : PQ} {x : Nat} (k : Ex g mX7_clear 0 [vR x] [] h (0, 0) Q) : Ev g mX7_clear [vR x] h Q := Ev.of (by decide +kernel) rfl (Nat.le_of_ble_eq_true rfl) k
theorem qX7_clear : mR mX7_clear = none := rfl
def bX7_clear_0 : List OP := [(.aload_n 0, 1, (0, 0, 0), vU), (.getfield 9, 3, (8, 0, 2), vU), (.iconst 0, 1, (0, 0, 0), vI 0)]
theorem oX7_clear_0 : okAt mX7_clear bX7_clear_0 0 = true := by decide +kernel
theorem rX7_clear_0 {g : Gp} {Q : PQ} {L st : List AV} {h : AH} {u : Nat × Nat} (hr : run mX7_clear Q (fun pc L st h u => Ex g mX7_clear pc L st h u Q) bX7_clear_0 0 L st h u) : Ex g mX7_clear 0 L st h u Q := run_ok (M := mX7_clear) cfX7_ok (fun _ _ _ _ _ k => k) _ _ _ _ _ _ oX7_clear_0 hr
def bX7_clear_8 : List OP := [(.return_, 1, (0, 0, 0), vU)]
theorem oX7_clear_8 : okAt mX7_clear bX7_clear_8 8 = true := by decide +kernel
theorem rX7_clear_8 {g : Gp} {Q : PQ} {L st : List AV} {h : AH} {u : Nat × Nat} (hr : run mX7_clear Q (fun pc L st h u => Ex g mX7_clear pc L st h u Q) bX7_clear_8 8 L st h u) : Ex g mX7_clear 8 L st h u Q := run_ok (M := mX7_clear) cfX7_ok (fun _ _ _ _ _ k => k) _ _ _ _ _ _ oX7_clear_8 hr
theorem sX7_clear_5 {g : Gp} {L rest : List AV} {h : AH} {u : Nat × Nat} {Q : PQ} {a1 a2 : AV}  (ev : Ev g mJ7_fill_53178 [a1, a2] h (cont g mX7_clear 8 L rest u Q)) (hr : rest.length ≤ 4 := by exact Nat.le_of_ble_eq_true rfl) : Ex g mX7_clear 5 L (a2 :: a1 :: rest) h u Q := Ex.bud (fun w1 w2 => Ex.callS (av := [a1, a2]) rfl mJ7_fill_53178_ok rfl lkX7_15 smJ7_fill_53178 (by decide) w1 w2 hr (by decide +kernel) ev (fun _ _ k => k) (fun _ _ z => z))
theorem nX4_areKin {g : Gp} {h : AH} {Q : PQ} {x : Nat} {i1 : Int32} {i2 : Int32} {i3 : Int32} (k : Ex g mX4_areKin 0 [vR x, vI i1, vI i2, vI i3] [] h (0, 0) Q) : Ev g mX4_areKin [vR x, vI i1, vI i2, vI i3] h Q := Ev.of (by decide +kernel) rfl (Nat.le_of_ble_eq_true rfl) k
theorem qX4_areKin : mR mX4_areKin = (some FieldType.boolean) := rfl
def bX4_areKin_0 : List OP := [(.aload_n 0, 1, (0, 0, 0), vU), (.iload_n 2, 1, (2, 0, 0), vU), (.iload_n 1, 1, (1, 0, 0), vU)]
theorem oX4_areKin_0 : okAt mX4_areKin bX4_areKin_0 0 = true := by decide +kernel
theorem rX4_areKin_0 {g : Gp} {Q : PQ} {L st : List AV} {h : AH} {u : Nat × Nat} (hr : run mX4_areKin Q (fun pc L st h u => Ex g mX4_areKin pc L st h u Q) bX4_areKin_0 0 L st h u) : Ex g mX4_areKin 0 L st h u Q := run_ok (M := mX4_areKin) cfX4_ok (fun _ _ _ _ _ k => k) _ _ _ _ _ _ oX4_areKin_0 hr
def bX4_areKin_6 : List OP := [(.ifCond .eq 31, 3, (37, 0, 0), vU), (.aload_n 0, 1, (0, 0, 0), vU), (.iload_n 3, 1, (3, 0, 0), vU), (.iload_n 1, 1, (1, 0, 0), vU)]
theorem oX4_areKin_6 : okAt mX4_areKin bX4_areKin_6 6 = true := by decide +kernel
theorem rX4_areKin_6 {g : Gp} {Q : PQ} {L st : List AV} {h : AH} {u : Nat × Nat} (hr : run mX4_areKin Q (fun pc L st h u => Ex g mX4_areKin pc L st h u Q) bX4_areKin_6 6 L st h u) : Ex g mX4_areKin 6 L st h u Q := run_ok (M := mX4_areKin) cfX4_ok (fun _ _ _ _ _ k => k) _ _ _ _ _ _ oX4_areKin_6 hr
def bX4_areKin_15 : List OP := [(.ifCond .eq 22, 3, (37, 0, 0), vU), (.aload_n 0, 1, (0, 0, 0), vU), (.iload_n 2, 1, (2, 0, 0), vU), (.iload_n 1, 1, (1, 0, 0), vU)]
theorem oX4_areKin_15 : okAt mX4_areKin bX4_areKin_15 15 = true := by decide +kernel
theorem rX4_areKin_15 {g : Gp} {Q : PQ} {L st : List AV} {h : AH} {u : Nat × Nat} (hr : run mX4_areKin Q (fun pc L st h u => Ex g mX4_areKin pc L st h u Q) bX4_areKin_15 15 L st h u) : Ex g mX4_areKin 15 L st h u Q := run_ok (M := mX4_areKin) cfX4_ok (fun _ _ _ _ _ k => k) _ _ _ _ _ _ oX4_areKin_15 hr
def bX4_areKin_24 : List OP := [(.aload_n 0, 1, (0, 0, 0), vU), (.iload_n 3, 1, (3, 0, 0), vU), (.iload_n 1, 1, (1, 0, 0), vU)]
theorem oX4_areKin_24 : okAt mX4_areKin bX4_areKin_24 24 = true := by decide +kernel
theorem rX4_areKin_24 {g : Gp} {Q : PQ} {L st : List AV} {h : AH} {u : Nat × Nat} (hr : run mX4_areKin Q (fun pc L st h u => Ex g mX4_areKin pc L st h u Q) bX4_areKin_24 24 L st h u) : Ex g mX4_areKin 24 L st h u Q := run_ok (M := mX4_areKin) cfX4_ok (fun _ _ _ _ _ k => k) _ _ _ _ _ _ oX4_areKin_24 hr
def bX4_areKin_30 : List OP := [(.if_icmp .ne 7, 3, (37, 0, 0), vU), (.iconst 1, 1, (0, 0, 0), vI 1), (.goto 4, 3, (38, 0, 0), vU), (.ireturn, 1, (0, 0, 0), vU)]
theorem oX4_areKin_30 : okAt mX4_areKin bX4_areKin_30 30 = true := by decide +kernel
theorem rX4_areKin_30 {g : Gp} {Q : PQ} {L st : List AV} {h : AH} {u : Nat × Nat} (hr : run mX4_areKin Q (fun pc L st h u => Ex g mX4_areKin pc L st h u Q) bX4_areKin_30 30 L st h u) : Ex g mX4_areKin 30 L st h u Q := run_ok (M := mX4_areKin) cfX4_ok (fun _ _ _ _ _ k => k) _ _ _ _ _ _ oX4_areKin_30 hr
def bX4_areKin_37 : List OP := [(.iconst 0, 1, (0, 0, 0), vI 0), (.ireturn, 1, (0, 0, 0), vU)]
theorem oX4_areKin_37 : okAt mX4_areKin bX4_areKin_37 37 = true := by decide +kernel
theorem rX4_areKin_37 {g : Gp} {Q : PQ} {L st : List AV} {h : AH} {u : Nat × Nat} (hr : run mX4_areKin Q (fun pc L st h u => Ex g mX4_areKin pc L st h u Q) bX4_areKin_37 37 L st h u) : Ex g mX4_areKin 37 L st h u Q := run_ok (M := mX4_areKin) cfX4_ok (fun _ _ _ _ _ k => k) _ _ _ _ _ _ oX4_areKin_37 hr
theorem sX4_areKin_3 {g : Gp} {L rest : List AV} {h : AH} {u : Nat × Nat} {Q : PQ} {x : Nat} {a1 a2 : AV}  (hx : zK h x = (1, 5)) (ev : Ev g mX4_hasWord (vR x :: [a1, a2]) h (cont g mX4_areKin 6 L rest u Q)) (hr : rest.length ≤ 4 := by exact Nat.le_of_ble_eq_true rfl) : Ex g mX4_areKin 3 L (a2 :: a1 :: vR x :: rest) h u Q := Ex.bud (fun w1 w2 => Ex.callV (av := [a1, a2]) (r := (RX4, TX4, 7)) rfl mX4_hasWord_ok rfl lkX4_99 imX4_hasWord seX4_hasWord rfl hx (by decide) w1 w2 hr (by decide +kernel) ev (fun _ _ k => k) (fun _ _ z => z))
theorem sX4_areKin_12 {g : Gp} {L rest : List AV} {h : AH} {u : Nat × Nat} {Q : PQ} {x : Nat} {a1 a2 : AV}  (hx : zK h x = (1, 5)) (ev : Ev g mX4_hasWord (vR x :: [a1, a2]) h (cont g mX4_areKin 15 L rest u Q)) (hr : rest.length ≤ 4 := by exact Nat.le_of_ble_eq_true rfl) : Ex g mX4_areKin 12 L (a2 :: a1 :: vR x :: rest) h u Q := Ex.bud (fun w1 w2 => Ex.callV (av := [a1, a2]) (r := (RX4, TX4, 7)) rfl mX4_hasWord_ok rfl lkX4_99 imX4_hasWord seX4_hasWord rfl hx (by decide) w1 w2 hr (by decide +kernel) ev (fun _ _ k => k) (fun _ _ z => z))
theorem sX4_areKin_21 {g : Gp} {L rest : List AV} {h : AH} {u : Nat × Nat} {Q : PQ} {x : Nat} {a1 a2 : AV}  (hx : zK h x = (1, 5)) (ev : Ev g mX4_originOf (vR x :: [a1, a2]) h (cont g mX4_areKin 24 L rest u Q)) (hr : rest.length ≤ 4 := by exact Nat.le_of_ble_eq_true rfl) : Ex g mX4_areKin 21 L (a2 :: a1 :: vR x :: rest) h u Q := Ex.bud (fun w1 w2 => Ex.callV (av := [a1, a2]) (r := (RX4, TX4, 7)) rfl mX4_originOf_ok rfl lkX4_105 imX4_originOf seX4_originOf rfl hx (by decide) w1 w2 hr (by decide +kernel) ev (fun _ _ k => k) (fun _ _ z => z))
theorem sX4_areKin_27 {g : Gp} {L rest : List AV} {h : AH} {u : Nat × Nat} {Q : PQ} {x : Nat} {a1 a2 : AV}  (hx : zK h x = (1, 5)) (ev : Ev g mX4_originOf (vR x :: [a1, a2]) h (cont g mX4_areKin 30 L rest u Q)) (hr : rest.length ≤ 4 := by exact Nat.le_of_ble_eq_true rfl) : Ex g mX4_areKin 27 L (a2 :: a1 :: vR x :: rest) h u Q := Ex.bud (fun w1 w2 => Ex.callV (av := [a1, a2]) (r := (RX4, TX4, 7)) rfl mX4_originOf_ok rfl lkX4_105 imX4_originOf seX4_originOf rfl hx (by decide) w1 w2 hr (by decide +kernel) ev (fun _ _ k => k) (fun _ _ z => z))
theorem nX7_add {g : Gp} {h : AH} {Q : PQ} {x : Nat} {i1 : Int32} (k : Ex g mX7_add 0 [vR x, vI i1] [] h (0, 0) Q) : Ev g mX7_add [vR x, vI i1] h Q := Ev.of (by decide +kernel) rfl (Nat.le_of_ble_eq_true rfl) k
theorem qX7_add : mR mX7_add = none := rfl
def bX7_add_0 : List OP := [(.aload_n 0, 1, (0, 0, 0), vU), (.getfield 9, 3, (8, 0, 2), vU), (.iload_n 1, 1, (1, 0, 0), vU), (.dup2, 1, (0, 0, 0), vU), (.iaload, 1, (0, 0, 0), vU), (.iconst 1, 1, (0, 0, 0), vI 1), (.iadd, 1, (0, 0, 0), vU), (.iastore, 1, (0, 0, 0), vU), (.return_, 1, (0, 0, 0), vU)]
theorem oX7_add_0 : okAt mX7_add bX7_add_0 0 = true := by decide +kernel
theorem rX7_add_0 {g : Gp} {Q : PQ} {L st : List AV} {h : AH} {u : Nat × Nat} (hr : run mX7_add Q (fun pc L st h u => Ex g mX7_add pc L st h u Q) bX7_add_0 0 L st h u) : Ex g mX7_add 0 L st h u Q := run_ok (M := mX7_add) cfX7_ok (fun _ _ _ _ _ k => k) _ _ _ _ _ _ oX7_add_0 hr
theorem nX7_countOf {g : Gp} {h : AH} {Q : PQ} {x : Nat} {i1 : Int32} (k : Ex g mX7_countOf 0 [vR x, vI i1] [] h (0, 0) Q) : Ev g mX7_countOf [vR x, vI i1] h Q := Ev.of (by decide +kernel) rfl (Nat.le_of_ble_eq_true rfl) k
theorem qX7_countOf : mR mX7_countOf = (some FieldType.int) := rfl
def bX7_countOf_0 : List OP := [(.aload_n 0, 1, (0, 0, 0), vU), (.getfield 9, 3, (8, 0, 2), vU), (.iload_n 1, 1, (1, 0, 0), vU), (.iaload, 1, (0, 0, 0), vU), (.ireturn, 1, (0, 0, 0), vU)]
theorem oX7_countOf_0 : okAt mX7_countOf bX7_countOf_0 0 = true := by decide +kernel
theorem rX7_countOf_0 {g : Gp} {Q : PQ} {L st : List AV} {h : AH} {u : Nat × Nat} (hr : run mX7_countOf Q (fun pc L st h u => Ex g mX7_countOf pc L st h u Q) bX7_countOf_0 0 L st h u) : Ex g mX7_countOf 0 L st h u Q := run_ok (M := mX7_countOf) cfX7_ok (fun _ _ _ _ _ k => k) _ _ _ _ _ _ oX7_countOf_0 hr
theorem nX7_winner {g : Gp} {h : AH} {Q : PQ} {x : Nat} (k : Ex g mX7_winner 0 [vR x, vU, vU, vU] [] h (0, 0) Q) : Ev g mX7_winner [vR x] h Q := Ev.of (by decide +kernel) rfl (Nat.le_of_ble_eq_true rfl) k
theorem qX7_winner : mR mX7_winner = (some FieldType.int) := rfl
def bX7_winner_0 : List OP := [(.iconst (-1), 1, (0, 0, 0), vI (-1)), (.istore_n 1, 1, (1, 0, 0), vU), (.iconst 0, 1, (0, 0, 0), vI 0), (.istore_n 2, 1, (2, 0, 0), vU), (.iconst 0, 1, (0, 0, 0), vI 0), (.istore_n 3, 1, (3, 0, 0), vU)]
theorem oX7_winner_0 : okAt mX7_winner bX7_winner_0 0 = true := by decide +kernel
theorem rX7_winner_0 {g : Gp} {Q : PQ} {L st : List AV} {h : AH} {u : Nat × Nat} (hr : run mX7_winner Q (fun pc L st h u => Ex g mX7_winner pc L st h u Q) bX7_winner_0 0 L st h u) : Ex g mX7_winner 0 L st h u Q := run_ok (M := mX7_winner) cfX7_ok (fun _ _ _ _ _ k => k) _ _ _ _ _ _ oX7_winner_0 hr
def bX7_winner_6 : List OP := [(.iload_n 3, 1, (3, 0, 0), vU), (.aload_n 0, 1, (0, 0, 0), vU), (.getfield 9, 3, (8, 0, 2), vU), (.arraylength, 1, (0, 0, 0), vU), (.if_icmp .ge 28, 3, (40, 0, 0), vU), (.aload_n 0, 1, (0, 0, 0), vU), (.getfield 9, 3, (8, 0, 2), vU), (.iload_n 3, 1, (3, 0, 0), vU), (.iaload, 1, (0, 0, 0), vU), (.iload_n 2, 1, (2, 0, 0), vU), (.if_icmp .le 12, 3, (34, 0, 0), vU), (.aload_n 0, 1, (0, 0, 0), vU), (.getfield 9, 3, (8, 0, 2), vU), (.iload_n 3, 1, (3, 0, 0), vU), (.iaload, 1, (0, 0, 0), vU), (.istore_n 2, 1, (2, 0, 0), vU), (.iload_n 3, 1, (3, 0, 0), vU), (.istore_n 1, 1, (1, 0, 0), vU), (.iinc 3 1, 3, (3, 0, 0), vI 1), (.goto (-31), 3, (6, 0, 0), vU)]
theorem oX7_winner_6 : okAt mX7_winner bX7_winner_6 6 = true := by decide +kernel
theorem rX7_winner_6 {g : Gp} {Q : PQ} {L st : List AV} {h : AH} {u : Nat × Nat} (hr : run mX7_winner Q (fun pc L st h u => Ex g mX7_winner pc L st h u Q) bX7_winner_6 6 L st h u) : Ex g mX7_winner 6 L st h u Q := run_ok (M := mX7_winner) cfX7_ok (fun _ _ _ _ _ k => k) _ _ _ _ _ _ oX7_winner_6 hr
def bX7_winner_34 : List OP := [(.iinc 3 1, 3, (3, 0, 0), vI 1), (.goto (-31), 3, (6, 0, 0), vU)]
theorem oX7_winner_34 : okAt mX7_winner bX7_winner_34 34 = true := by decide +kernel
theorem rX7_winner_34 {g : Gp} {Q : PQ} {L st : List AV} {h : AH} {u : Nat × Nat} (hr : run mX7_winner Q (fun pc L st h u => Ex g mX7_winner pc L st h u Q) bX7_winner_34 34 L st h u) : Ex g mX7_winner 34 L st h u Q := run_ok (M := mX7_winner) cfX7_ok (fun _ _ _ _ _ k => k) _ _ _ _ _ _ oX7_winner_34 hr
def bX7_winner_40 : List OP := [(.iload_n 1, 1, (1, 0, 0), vU), (.ireturn, 1, (0, 0, 0), vU)]
theorem oX7_winner_40 : okAt mX7_winner bX7_winner_40 40 = true := by decide +kernel
theorem rX7_winner_40 {g : Gp} {Q : PQ} {L st : List AV} {h : AH} {u : Nat × Nat} (hr : run mX7_winner Q (fun pc L st h u => Ex g mX7_winner pc L st h u Q) bX7_winner_40 40 L st h u) : Ex g mX7_winner 40 L st h u Q := run_ok (M := mX7_winner) cfX7_ok (fun _ _ _ _ _ k => k) _ _ _ _ _ _ oX7_winner_40 hr
theorem nX2_lackingLaw {g : Gp} {h : AH} {Q : PQ} {x : Nat} {i1 : Int32} (k : Ex g mX2_lackingLaw 0 [vR x, vI i1, vU, vU] [] h (0, 0) Q) : Ev g mX2_lackingLaw [vR x, vI i1] h Q := Ev.of (by decide +kernel) rfl (Nat.le_of_ble_eq_true rfl) k
theorem qX2_lackingLaw : mR mX2_lackingLaw = (some (FieldType.object "TonguerootFamily$Language")) := rfl
theorem qCX2_lackingLaw : mC mX2_lackingLaw = 10 := rfl
theorem qSX2_lackingLaw : mS mX2_lackingLaw = 130 := rfl
def bX2_lackingLaw_0 : List OP := [(.new 11, 3, (3, 0, 0), vU), (.dup, 1, (0, 0, 0), vU), (.aload_n 0, 1, (0, 0, 0), vU), (.getfield 16, 3, (3, 0, 0), vU)]
theorem oX2_lackingLaw_0 : okAt mX2_lackingLaw bX2_lackingLaw_0 0 = true := by decide +kernel
theorem rX2_lackingLaw_0 {g : Gp} {Q : PQ} {L st : List AV} {h : AH} {u : Nat × Nat} (hr : run mX2_lackingLaw Q (fun pc L st h u => Ex g mX2_lackingLaw pc L st h u Q) bX2_lackingLaw_0 0 L st h u) : Ex g mX2_lackingLaw 0 L st h u Q := run_ok (M := mX2_lackingLaw) cfX2_ok (fun _ _ _ _ _ k => k) _ _ _ _ _ _ oX2_lackingLaw_0 hr
def bX2_lackingLaw_11 : List OP := [(.astore_n 2, 1, (2, 0, 0), vU), (.iconst 0, 1, (0, 0, 0), vI 0), (.istore_n 3, 1, (3, 0, 0), vU)]
theorem oX2_lackingLaw_11 : okAt mX2_lackingLaw bX2_lackingLaw_11 11 = true := by decide +kernel
theorem rX2_lackingLaw_11 {g : Gp} {Q : PQ} {L st : List AV} {h : AH} {u : Nat × Nat} (hr : run mX2_lackingLaw Q (fun pc L st h u => Ex g mX2_lackingLaw pc L st h u Q) bX2_lackingLaw_11 11 L st h u) : Ex g mX2_lackingLaw 11 L st h u Q := run_ok (M := mX2_lackingLaw) cfX2_ok (fun _ _ _ _ _ k => k) _ _ _ _ _ _ oX2_lackingLaw_11 hr
def bX2_lackingLaw_14 : List OP := [(.iload_n 3, 1, (3, 0, 0), vU), (.aload_n 0, 1, (0, 0, 0), vU), (.getfield 10, 3, (3, 1, 2), vU)]
theorem oX2_lackingLaw_14 : okAt mX2_lackingLaw bX2_lackingLaw_14 14 = true := by decide +kernel
theorem rX2_lackingLaw_14 {g : Gp} {Q : PQ} {L st : List AV} {h : AH} {u : Nat × Nat} (hr : run mX2_lackingLaw Q (fun pc L st h u => Ex g mX2_lackingLaw pc L st h u Q) bX2_lackingLaw_14 14 L st h u) : Ex g mX2_lackingLaw 14 L st h u Q := run_ok (M := mX2_lackingLaw) cfX2_ok (fun _ _ _ _ _ k => k) _ _ _ _ _ _ oX2_lackingLaw_14 hr
def bX2_lackingLaw_22 : List OP := [(.if_icmp .ge 33, 3, (55, 0, 0), vU), (.iload_n 3, 1, (3, 0, 0), vU), (.iload_n 1, 1, (1, 0, 0), vU), (.if_icmp .eq 22, 3, (49, 0, 0), vU), (.aload_n 2, 1, (2, 0, 0), vU), (.getfield 10, 3, (3, 1, 2), vU), (.aload_n 0, 1, (0, 0, 0), vU), (.getfield 10, 3, (3, 1, 2), vU), (.iload_n 3, 1, (3, 0, 0), vU)]
theorem oX2_lackingLaw_22 : okAt mX2_lackingLaw bX2_lackingLaw_22 22 = true := by decide +kernel
theorem rX2_lackingLaw_22 {g : Gp} {Q : PQ} {L st : List AV} {h : AH} {u : Nat × Nat} (hr : run mX2_lackingLaw Q (fun pc L st h u => Ex g mX2_lackingLaw pc L st h u Q) bX2_lackingLaw_22 22 L st h u) : Ex g mX2_lackingLaw 22 L st h u Q := run_ok (M := mX2_lackingLaw) cfX2_ok (fun _ _ _ _ _ k => k) _ _ _ _ _ _ oX2_lackingLaw_22 hr
def bX2_lackingLaw_42 : List OP := [(.checkcast 31, 3, (4, 0, 0), vU)]
theorem oX2_lackingLaw_42 : okAt mX2_lackingLaw bX2_lackingLaw_42 42 = true := by decide +kernel
theorem rX2_lackingLaw_42 {g : Gp} {Q : PQ} {L st : List AV} {h : AH} {u : Nat × Nat} (hr : run mX2_lackingLaw Q (fun pc L st h u => Ex g mX2_lackingLaw pc L st h u Q) bX2_lackingLaw_42 42 L st h u) : Ex g mX2_lackingLaw 42 L st h u Q := run_ok (M := mX2_lackingLaw) cfX2_ok (fun _ _ _ _ _ k => k) _ _ _ _ _ _ oX2_lackingLaw_42 hr
def bX2_lackingLaw_48 : List OP := [(.pop, 1, (0, 0, 0), vU), (.iinc 3 1, 3, (3, 0, 0), vI 1), (.goto (-38), 3, (14, 0, 0), vU)]
theorem oX2_lackingLaw_48 : okAt mX2_lackingLaw bX2_lackingLaw_48 48 = true := by decide +kernel
theorem rX2_lackingLaw_48 {g : Gp} {Q : PQ} {L st : List AV} {h : AH} {u : Nat × Nat} (hr : run mX2_lackingLaw Q (fun pc L st h u => Ex g mX2_lackingLaw pc L st h u Q) bX2_lackingLaw_48 48 L st h u) : Ex g mX2_lackingLaw 48 L st h u Q := run_ok (M := mX2_lackingLaw) cfX2_ok (fun _ _ _ _ _ k => k) _ _ _ _ _ _ oX2_lackingLaw_48 hr
def bX2_lackingLaw_49 : List OP := [(.iinc 3 1, 3, (3, 0, 0), vI 1), (.goto (-38), 3, (14, 0, 0), vU)]
theorem oX2_lackingLaw_49 : okAt mX2_lackingLaw bX2_lackingLaw_49 49 = true := by decide +kernel
theorem rX2_lackingLaw_49 {g : Gp} {Q : PQ} {L st : List AV} {h : AH} {u : Nat × Nat} (hr : run mX2_lackingLaw Q (fun pc L st h u => Ex g mX2_lackingLaw pc L st h u Q) bX2_lackingLaw_49 49 L st h u) : Ex g mX2_lackingLaw 49 L st h u Q := run_ok (M := mX2_lackingLaw) cfX2_ok (fun _ _ _ _ _ k => k) _ _ _ _ _ _ oX2_lackingLaw_49 hr
def bX2_lackingLaw_55 : List OP := [(.aload_n 2, 1, (2, 0, 0), vU), (.areturn, 1, (0, 0, 0), vU)]
theorem oX2_lackingLaw_55 : okAt mX2_lackingLaw bX2_lackingLaw_55 55 = true := by decide +kernel
theorem rX2_lackingLaw_55 {g : Gp} {Q : PQ} {L st : List AV} {h : AH} {u : Nat × Nat} (hr : run mX2_lackingLaw Q (fun pc L st h u => Ex g mX2_lackingLaw pc L st h u Q) bX2_lackingLaw_55 55 L st h u) : Ex g mX2_lackingLaw 55 L st h u Q := run_ok (M := mX2_lackingLaw) cfX2_ok (fun _ _ _ _ _ k => k) _ _ _ _ _ _ oX2_lackingLaw_55 hr
theorem sX2_lackingLaw_8 {g : Gp} {L rest : List AV} {h : AH} {u : Nat × Nat} {Q : PQ} {x : Nat} {a1 : AV} (hu : u.1 + 1 ≤ 10 ∧ u.2 + 3 ≤ 130) (hx : x ≠ 0) (ev : Ev g mX2_init (vR x :: [a1]) h (cont g mX2_lackingLaw 11 L rest (u.1 + 1, u.2 + 3) Q)) (hr : rest.length ≤ 4 := by exact Nat.le_of_ble_eq_true rfl) : Ex g mX2_lackingLaw 8 L (a1 :: vR x :: rest) h u Q := Ex.callI (av := [a1]) rfl mX2_init_ok rfl rfl rfl lkX2_20 imX2_init hx (by decide) hu.1 hu.2 hr (by decide +kernel) ev (fun _ _ k => k) (fun _ _ z => z)
theorem sX2_lackingLaw_19 {g : Gp} {L rest : List AV} {h : AH} {u : Nat × Nat} {Q : PQ} {x : Nat}   (hx : zK h x = (1, 0)) (ev : Ev g mJx4a65c_size_8abf5 (vR x :: []) h (cont g mX2_lackingLaw 22 L rest u Q)) (hr : rest.length ≤ 4 := by exact Nat.le_of_ble_eq_true rfl) : Ex g mX2_lackingLaw 19 L (vR x :: rest) h u Q := Ex.bud (fun w1 w2 => Ex.callV (av := []) (r := (RJx4a65c, TJx4a65c, 3)) rfl mJx4a65c_size_8abf5_ok rfl lkX2_23 imJx4a65c_size_8abf5 seJx4a65c_size_8abf5 rfl hx (by decide) w1 w2 hr (by decide +kernel) ev (fun _ _ k => k) (fun _ _ z => z))
theorem sX2_lackingLaw_39 {g : Gp} {L rest : List AV} {h : AH} {u : Nat × Nat} {Q : PQ} {x : Nat} {a1 : AV}  (hx : zK h x = (1, 0)) (ev : Ev g mJx4a65c_get_915e3 (vR x :: [a1]) h (cont g mX2_lackingLaw 42 L rest u Q)) (hr : rest.length ≤ 4 := by exact Nat.le_of_ble_eq_true rfl) : Ex g mX2_lackingLaw 39 L (a1 :: vR x :: rest) h u Q := Ex.bud (fun w1 w2 => Ex.callV (av := [a1]) (r := (RJx4a65c, TJx4a65c, 3)) rfl mJx4a65c_get_915e3_ok rfl lkX2_27 imJx4a65c_get_915e3 seJx4a65c_get_915e3 rfl hx (by decide) w1 w2 hr (by decide +kernel) ev (fun _ _ k => k) (fun _ _ z => z))
theorem sX2_lackingLaw_45 {g : Gp} {L rest : List AV} {h : AH} {u : Nat × Nat} {Q : PQ} {x : Nat} {a1 : AV} (hu : u.1 + 1 ≤ 10 ∧ u.2 + 15 ≤ 130) (hx : zK h x = (1, 0)) (ev : Ev g mJx4a65c_add_9ea2d (vR x :: [a1]) h (cont g mX2_lackingLaw 48 L rest (u.1 + 1, u.2 + 15) Q)) (hr : rest.length ≤ 4 := by exact Nat.le_of_ble_eq_true rfl) : Ex g mX2_lackingLaw 45 L (a1 :: vR x :: rest) h u Q := Ex.callV (av := [a1]) (r := (RJx4a65c, TJx4a65c, 3)) rfl mJx4a65c_add_9ea2d_ok rfl lkX2_33 imJx4a65c_add_9ea2d seJx4a65c_add_9ea2d rfl hx (by decide) hu.1 hu.2 hr (by decide +kernel) ev (fun _ _ k => k) (fun _ _ z => z)
theorem nJx4a65c_rangeCheckForAdd_d00df {g : Gp} {h : AH} {Q : PQ} {x : Nat} {i1 : Int32} (k : Ex g mJx4a65c_rangeCheckForAdd_d00df 0 [vR x, vI i1] [] h (0, 0) Q) : Ev g mJx4a65c_rangeCheckForAdd_d00df [vR x, vI i1] h Q := Ev.of (by decide +kernel) rfl (Nat.le_of_ble_eq_true rfl) k
theorem qJx4a65c_rangeCheckForAdd_d00df : mR mJx4a65c_rangeCheckForAdd_d00df = none := rfl
def bJx4a65c_rangeCheckForAdd_d00df_0 : List OP := [(.iload_n 1, 1, (1, 0, 0), vU), (.aload_n 0, 1, (0, 0, 0), vU), (.getfield 48, 3, (0, 2, 0), vU), (.if_icmp .gt 7, 3, (12, 0, 0), vU), (.iload_n 1, 1, (1, 0, 0), vU), (.ifCond .ge 16, 3, (25, 0, 0), vU)]
theorem oJx4a65c_rangeCheckForAdd_d00df_0 : okAt mJx4a65c_rangeCheckForAdd_d00df bJx4a65c_rangeCheckForAdd_d00df_0 0 = true := by decide +kernel
theorem rJx4a65c_rangeCheckForAdd_d00df_0 {g : Gp} {Q : PQ} {L st : List AV} {h : AH} {u : Nat × Nat} (hr : run mJx4a65c_rangeCheckForAdd_d00df Q (fun pc L st h u => Ex g mJx4a65c_rangeCheckForAdd_d00df pc L st h u Q) bJx4a65c_rangeCheckForAdd_d00df_0 0 L st h u) : Ex g mJx4a65c_rangeCheckForAdd_d00df 0 L st h u Q := run_ok (M := mJx4a65c_rangeCheckForAdd_d00df) cfJx4a65c_ok (fun _ _ _ _ _ k => k) _ _ _ _ _ _ oJx4a65c_rangeCheckForAdd_d00df_0 hr
def bJx4a65c_rangeCheckForAdd_d00df_15 : List OP := [(.dup, 1, (0, 0, 0), vU), (.aload_n 0, 1, (0, 0, 0), vU), (.iload_n 1, 1, (1, 0, 0), vU)]
theorem oJx4a65c_rangeCheckForAdd_d00df_15 : okAt mJx4a65c_rangeCheckForAdd_d00df bJx4a65c_rangeCheckForAdd_d00df_15 15 = true := by decide +kernel
theorem rJx4a65c_rangeCheckForAdd_d00df_15 {g : Gp} {Q : PQ} {L st : List AV} {h : AH} {u : Nat × Nat} (hr : run mJx4a65c_rangeCheckForAdd_d00df Q (fun pc L st h u => Ex g mJx4a65c_rangeCheckForAdd_d00df pc L st h u Q) bJx4a65c_rangeCheckForAdd_d00df_15 15 L st h u) : Ex g mJx4a65c_rangeCheckForAdd_d00df 15 L st h u Q := run_ok (M := mJx4a65c_rangeCheckForAdd_d00df) cfJx4a65c_ok (fun _ _ _ _ _ k => k) _ _ _ _ _ _ oJx4a65c_rangeCheckForAdd_d00df_15 hr
def bJx4a65c_rangeCheckForAdd_d00df_25 : List OP := [(.return_, 1, (0, 0, 0), vU)]
theorem oJx4a65c_rangeCheckForAdd_d00df_25 : okAt mJx4a65c_rangeCheckForAdd_d00df bJx4a65c_rangeCheckForAdd_d00df_25 25 = true := by decide +kernel
theorem rJx4a65c_rangeCheckForAdd_d00df_25 {g : Gp} {Q : PQ} {L st : List AV} {h : AH} {u : Nat × Nat} (hr : run mJx4a65c_rangeCheckForAdd_d00df Q (fun pc L st h u => Ex g mJx4a65c_rangeCheckForAdd_d00df pc L st h u Q) bJx4a65c_rangeCheckForAdd_d00df_25 25 L st h u) : Ex g mJx4a65c_rangeCheckForAdd_d00df 25 L st h u Q := run_ok (M := mJx4a65c_rangeCheckForAdd_d00df) cfJx4a65c_ok (fun _ _ _ _ _ k => k) _ _ _ _ _ _ oJx4a65c_rangeCheckForAdd_d00df_25 hr
theorem nJx4a65c_add_7a177 {g : Gp} {h : AH} {Q : PQ} {x : Nat} {i1 : Int32} {i2 : Nat} (k : Ex g mJx4a65c_add_7a177 0 [vR x, vI i1, vR i2, vU, vU] [] h (0, 0) Q) : Ev g mJx4a65c_add_7a177 [vR x, vI i1, vR i2] h Q := Ev.of (by decide +kernel) rfl (Nat.le_of_ble_eq_true rfl) k
theorem qJx4a65c_add_7a177 : mR mJx4a65c_add_7a177 = none := rfl
theorem qCJx4a65c_add_7a177 : mC mJx4a65c_add_7a177 = 1 := rfl
theorem qSJx4a65c_add_7a177 : mS mJx4a65c_add_7a177 = 15 := rfl
def bJx4a65c_add_7a177_0 : List OP := [(.aload_n 0, 1, (0, 0, 0), vU), (.iload_n 1, 1, (1, 0, 0), vU)]
theorem oJx4a65c_add_7a177_0 : okAt mJx4a65c_add_7a177 bJx4a65c_add_7a177_0 0 = true := by decide +kernel
theorem rJx4a65c_add_7a177_0 {g : Gp} {Q : PQ} {L st : List AV} {h : AH} {u : Nat × Nat} (hr : run mJx4a65c_add_7a177 Q (fun pc L st h u => Ex g mJx4a65c_add_7a177 pc L st h u Q) bJx4a65c_add_7a177_0 0 L st h u) : Ex g mJx4a65c_add_7a177 0 L st h u Q := run_ok (M := mJx4a65c_add_7a177) cfJx4a65c_ok (fun _ _ _ _ _ k => k) _ _ _ _ _ _ oJx4a65c_add_7a177_0 hr
def bJx4a65c_add_7a177_5 : List OP := [(.aload_n 0, 1, (0, 0, 0), vU), (.dup, 1, (0, 0, 0), vU), (.getfield 63, 3, (0, 0, 0), vU), (.iconst 1, 1, (0, 0, 0), vI 1), (.iadd, 1, (0, 0, 0), vU), (.putfield 63, 3, (0, 0, 0), vU), (.aload_n 0, 1, (0, 0, 0), vU), (.getfield 48, 3, (0, 2, 0), vU), (.dup, 1, (0, 0, 0), vU), (.istore_n 3, 1, (3, 0, 0), vU), (.aload_n 0, 1, (0, 0, 0), vU), (.getfield 9, 3, (0, 1, 2), vU), (.dup, 1, (0, 0, 0), vU), (.astore 4, 2, (4, 0, 0), vU), (.arraylength, 1, (1, 0, 0), vU), (.if_icmp .ne 9, 3, (38, 0, 0), vU), (.aload_n 0, 1, (0, 0, 0), vU)]
theorem oJx4a65c_add_7a177_5 : okAt mJx4a65c_add_7a177 bJx4a65c_add_7a177_5 5 = true := by decide +kernel
theorem rJx4a65c_add_7a177_5 {g : Gp} {Q : PQ} {L st : List AV} {h : AH} {u : Nat × Nat} (hr : run mJx4a65c_add_7a177 Q (fun pc L st h u => Ex g mJx4a65c_add_7a177 pc L st h u Q) bJx4a65c_add_7a177_5 5 L st h u) : Ex g mJx4a65c_add_7a177 5 L st h u Q := run_ok (M := mJx4a65c_add_7a177) cfJx4a65c_ok (fun _ _ _ _ _ k => k) _ _ _ _ _ _ oJx4a65c_add_7a177_5 hr
def bJx4a65c_add_7a177_36 : List OP := [(.astore 4, 2, (4, 0, 0), vU), (.aload 4, 2, (4, 0, 0), vU), (.iload_n 1, 1, (1, 0, 0), vU), (.aload 4, 2, (4, 0, 0), vU), (.iload_n 1, 1, (1, 0, 0), vU), (.iconst 1, 1, (0, 0, 0), vI 1), (.iadd, 1, (0, 0, 0), vU), (.iload_n 3, 1, (3, 0, 0), vU), (.iload_n 1, 1, (1, 0, 0), vU), (.isub, 1, (0, 0, 0), vU)]
theorem oJx4a65c_add_7a177_36 : okAt mJx4a65c_add_7a177 bJx4a65c_add_7a177_36 36 = true := by decide +kernel
theorem rJx4a65c_add_7a177_36 {g : Gp} {Q : PQ} {L st : List AV} {h : AH} {u : Nat × Nat} (hr : run mJx4a65c_add_7a177 Q (fun pc L st h u => Ex g mJx4a65c_add_7a177 pc L st h u Q) bJx4a65c_add_7a177_36 36 L st h u) : Ex g mJx4a65c_add_7a177 36 L st h u Q := run_ok (M := mJx4a65c_add_7a177) cfJx4a65c_ok (fun _ _ _ _ _ k => k) _ _ _ _ _ _ oJx4a65c_add_7a177_36 hr
def bJx4a65c_add_7a177_38 : List OP := [(.aload 4, 2, (4, 0, 0), vU), (.iload_n 1, 1, (1, 0, 0), vU), (.aload 4, 2, (4, 0, 0), vU), (.iload_n 1, 1, (1, 0, 0), vU), (.iconst 1, 1, (0, 0, 0), vI 1), (.iadd, 1, (0, 0, 0), vU), (.iload_n 3, 1, (3, 0, 0), vU), (.iload_n 1, 1, (1, 0, 0), vU), (.isub, 1, (0, 0, 0), vU)]
theorem oJx4a65c_add_7a177_38 : okAt mJx4a65c_add_7a177 bJx4a65c_add_7a177_38 38 = true := by decide +kernel
theorem rJx4a65c_add_7a177_38 {g : Gp} {Q : PQ} {L st : List AV} {h : AH} {u : Nat × Nat} (hr : run mJx4a65c_add_7a177 Q (fun pc L st h u => Ex g mJx4a65c_add_7a177 pc L st h u Q) bJx4a65c_add_7a177_38 38 L st h u) : Ex g mJx4a65c_add_7a177 38 L st h u Q := run_ok (M := mJx4a65c_add_7a177) cfJx4a65c_ok (fun _ _ _ _ _ k => k) _ _ _ _ _ _ oJx4a65c_add_7a177_38 hr
def bJx4a65c_add_7a177_52 : List OP := [(.aload 4, 2, (4, 0, 0), vU), (.iload_n 1, 1, (1, 0, 0), vU), (.aload_n 2, 1, (2, 0, 0), vU)]
theorem oJx4a65c_add_7a177_52 : okAt mJx4a65c_add_7a177 bJx4a65c_add_7a177_52 52 = true := by decide +kernel
theorem rJx4a65c_add_7a177_52 {g : Gp} {Q : PQ} {L st : List AV} {h : AH} {u : Nat × Nat} (hr : run mJx4a65c_add_7a177 Q (fun pc L st h u => Ex g mJx4a65c_add_7a177 pc L st h u Q) bJx4a65c_add_7a177_52 52 L st h u) : Ex g mJx4a65c_add_7a177 52 L st h u Q := run_ok (M := mJx4a65c_add_7a177) cfJx4a65c_ok (fun _ _ _ _ _ k => k) _ _ _ _ _ _ oJx4a65c_add_7a177_52 hr
def bJx4a65c_add_7a177_57 : List OP := [(.aload_n 0, 1, (0, 0, 0), vU), (.iload_n 3, 1, (3, 0, 0), vU), (.iconst 1, 1, (0, 0, 0), vI 1), (.iadd, 1, (0, 0, 0), vU), (.putfield 48, 3, (0, 2, 0), vU), (.return_, 1, (0, 0, 0), vU)]
theorem oJx4a65c_add_7a177_57 : okAt mJx4a65c_add_7a177 bJx4a65c_add_7a177_57 57 = true := by decide +kernel
theorem rJx4a65c_add_7a177_57 {g : Gp} {Q : PQ} {L st : List AV} {h : AH} {u : Nat × Nat} (hr : run mJx4a65c_add_7a177 Q (fun pc L st h u => Ex g mJx4a65c_add_7a177 pc L st h u Q) bJx4a65c_add_7a177_57 57 L st h u) : Ex g mJx4a65c_add_7a177 57 L st h u Q := run_ok (M := mJx4a65c_add_7a177) cfJx4a65c_ok (fun _ _ _ _ _ k => k) _ _ _ _ _ _ oJx4a65c_add_7a177_57 hr
theorem sJx4a65c_add_7a177_2 {g : Gp} {L rest : List AV} {h : AH} {u : Nat × Nat} {Q : PQ} {x : Nat} {a1 : AV}  (hx : zK h x = (1, 0)) (ev : Ev g mJx4a65c_rangeCheckForAdd_d00df (vR x :: [a1]) h (cont g mJx4a65c_add_7a177 5 L rest u Q)) (hr : rest.length ≤ 4 := by exact Nat.le_of_ble_eq_true rfl) : Ex g mJx4a65c_add_7a177 2 L (a1 :: vR x :: rest) h u Q := Ex.bud (fun w1 w2 => Ex.callV (av := [a1]) (r := (RJx4a65c, TJx4a65c, 3)) rfl mJx4a65c_rangeCheckForAdd_d00df_ok rfl lkJx4a65c_135 imJx4a65c_rangeCheckForAdd_d00df seJx4a65c_rangeCheckForAdd_d00df rfl hx (by decide) w1 w2 hr (by decide +kernel) ev (fun _ _ k => k) (fun _ _ z => z))
theorem sJx4a65c_add_7a177_33 {g : Gp} {L rest : List AV} {h : AH} {u : Nat × Nat} {Q : PQ} {x : Nat}  (hu : u.1 + 1 ≤ 1 ∧ u.2 + 15 ≤ 15) (hx : zK h x = (1, 0)) (ev : Ev g mJx4a65c_grow_d5877 (vR x :: []) h (cont g mJx4a65c_add_7a177 36 L rest (u.1 + 1, u.2 + 15) Q)) (hr : rest.length ≤ 4 := by exact Nat.le_of_ble_eq_true rfl) : Ex g mJx4a65c_add_7a177 33 L (vR x :: rest) h u Q := Ex.callV (av := []) (r := (RJx4a65c, TJx4a65c, 3)) rfl mJx4a65c_grow_d5877_ok rfl lkJx4a65c_129 imJx4a65c_grow_d5877 seJx4a65c_grow_d5877 rfl hx (by decide) hu.1 hu.2 hr (by decide +kernel) ev (fun _ _ k => k) (fun _ _ z => z)
theorem nX2_swappingLaw {g : Gp} {h : AH} {Q : PQ} {x : Nat} {i1 : Int32} (k : Ex g mX2_swappingLaw 0 [vR x, vI i1, vU] [] h (0, 0) Q) : Ev g mX2_swappingLaw [vR x, vI i1] h Q := Ev.of (by decide +kernel) rfl (Nat.le_of_ble_eq_true rfl) k
theorem qX2_swappingLaw : mR mX2_swappingLaw = (some (FieldType.object "TonguerootFamily$Language")) := rfl
theorem qCX2_swappingLaw : mC mX2_swappingLaw = 11 := rfl
theorem qSX2_swappingLaw : mS mX2_swappingLaw = 145 := rfl
def bX2_swappingLaw_0 : List OP := [(.aload_n 0, 1, (0, 0, 0), vU), (.iload_n 1, 1, (1, 0, 0), vU)]
theorem oX2_swappingLaw_0 : okAt mX2_swappingLaw bX2_swappingLaw_0 0 = true := by decide +kernel
theorem rX2_swappingLaw_0 {g : Gp} {Q : PQ} {L st : List AV} {h : AH} {u : Nat × Nat} (hr : run mX2_swappingLaw Q (fun pc L st h u => Ex g mX2_swappingLaw pc L st h u Q) bX2_swappingLaw_0 0 L st h u) : Ex g mX2_swappingLaw 0 L st h u Q := run_ok (M := mX2_swappingLaw) cfX2_ok (fun _ _ _ _ _ k => k) _ _ _ _ _ _ oX2_swappingLaw_0 hr
def bX2_swappingLaw_5 : List OP := [(.astore_n 2, 1, (2, 0, 0), vU), (.aload_n 2, 1, (2, 0, 0), vU), (.getfield 10, 3, (3, 1, 2), vU), (.iload_n 1, 1, (1, 0, 0), vU), (.iconst 1, 1, (0, 0, 0), vI 1), (.iadd, 1, (0, 0, 0), vU), (.aload_n 0, 1, (0, 0, 0), vU), (.getfield 10, 3, (3, 1, 2), vU), (.iload_n 1, 1, (1, 0, 0), vU)]
theorem oX2_swappingLaw_5 : okAt mX2_swappingLaw bX2_swappingLaw_5 5 = true := by decide +kernel
theorem rX2_swappingLaw_5 {g : Gp} {Q : PQ} {L st : List AV} {h : AH} {u : Nat × Nat} (hr : run mX2_swappingLaw Q (fun pc L st h u => Ex g mX2_swappingLaw pc L st h u Q) bX2_swappingLaw_5 5 L st h u) : Ex g mX2_swappingLaw 5 L st h u Q := run_ok (M := mX2_swappingLaw) cfX2_ok (fun _ _ _ _ _ k => k) _ _ _ _ _ _ oX2_swappingLaw_5 hr
def bX2_swappingLaw_21 : List OP := [(.checkcast 31, 3, (4, 0, 0), vU)]
theorem oX2_swappingLaw_21 : okAt mX2_swappingLaw bX2_swappingLaw_21 21 = true := by decide +kernel
theorem rX2_swappingLaw_21 {g : Gp} {Q : PQ} {L st : List AV} {h : AH} {u : Nat × Nat} (hr : run mX2_swappingLaw Q (fun pc L st h u => Ex g mX2_swappingLaw pc L st h u Q) bX2_swappingLaw_21 21 L st h u) : Ex g mX2_swappingLaw 21 L st h u Q := run_ok (M := mX2_swappingLaw) cfX2_ok (fun _ _ _ _ _ k => k) _ _ _ _ _ _ oX2_swappingLaw_21 hr
def bX2_swappingLaw_27 : List OP := [(.aload_n 2, 1, (2, 0, 0), vU), (.areturn, 1, (0, 0, 0), vU)]
theorem oX2_swappingLaw_27 : okAt mX2_swappingLaw bX2_swappingLaw_27 27 = true := by decide +kernel
theorem rX2_swappingLaw_27 {g : Gp} {Q : PQ} {L st : List AV} {h : AH} {u : Nat × Nat} (hr : run mX2_swappingLaw Q (fun pc L st h u => Ex g mX2_swappingLaw pc L st h u Q) bX2_swappingLaw_27 27 L st h u) : Ex g mX2_swappingLaw 27 L st h u Q := run_ok (M := mX2_swappingLaw) cfX2_ok (fun _ _ _ _ _ k => k) _ _ _ _ _ _ oX2_swappingLaw_27 hr
theorem sX2_swappingLaw_2 {g : Gp} {L rest : List AV} {h : AH} {u : Nat × Nat} {Q : PQ} {x : Nat} {a1 : AV} (hu : u.1 + 10 ≤ 11 ∧ u.2 + 130 ≤ 145) (hx : zK h x = (1, 3)) (ev : Ev g mX2_lackingLaw (vR x :: [a1]) h (cont g mX2_swappingLaw 5 L rest (u.1 + 10, u.2 + 130) Q)) (hr : rest.length ≤ 4 := by exact Nat.le_of_ble_eq_true rfl) : Ex g mX2_swappingLaw 2 L (a1 :: vR x :: rest) h u Q := Ex.callV (av := [a1]) (r := (RX2, TX2, 2)) rfl mX2_lackingLaw_ok rfl lkX2_37 imX2_lackingLaw seX2_lackingLaw rfl hx (by decide) hu.1 hu.2 hr (by decide +kernel) ev (fun _ _ k => k) (fun _ _ z => z)
theorem sX2_swappingLaw_18 {g : Gp} {L rest : List AV} {h : AH} {u : Nat × Nat} {Q : PQ} {x : Nat} {a1 : AV}  (hx : zK h x = (1, 0)) (ev : Ev g mJx4a65c_get_915e3 (vR x :: [a1]) h (cont g mX2_swappingLaw 21 L rest u Q)) (hr : rest.length ≤ 4 := by exact Nat.le_of_ble_eq_true rfl) : Ex g mX2_swappingLaw 18 L (a1 :: vR x :: rest) h u Q := Ex.bud (fun w1 w2 => Ex.callV (av := [a1]) (r := (RJx4a65c, TJx4a65c, 3)) rfl mJx4a65c_get_915e3_ok rfl lkX2_27 imJx4a65c_get_915e3 seJx4a65c_get_915e3 rfl hx (by decide) w1 w2 hr (by decide +kernel) ev (fun _ _ k => k) (fun _ _ z => z))
theorem sX2_swappingLaw_24 {g : Gp} {L rest : List AV} {h : AH} {u : Nat × Nat} {Q : PQ} {x : Nat} {a1 a2 : AV} (hu : u.1 + 1 ≤ 11 ∧ u.2 + 15 ≤ 145) (hx : zK h x = (1, 0)) (ev : Ev g mJx4a65c_add_7a177 (vR x :: [a1, a2]) h (cont g mX2_swappingLaw 27 L rest (u.1 + 1, u.2 + 15) Q)) (hr : rest.length ≤ 4 := by exact Nat.le_of_ble_eq_true rfl) : Ex g mX2_swappingLaw 24 L (a2 :: a1 :: vR x :: rest) h u Q := Ex.callV (av := [a1, a2]) (r := (RJx4a65c, TJx4a65c, 3)) rfl mJx4a65c_add_7a177_ok rfl lkX2_41 imJx4a65c_add_7a177 seJx4a65c_add_7a177 rfl hx (by decide) hu.1 hu.2 hr (by decide +kernel) ev (fun _ _ k => k) (fun _ _ z => z)
theorem nX1_replacing {g : Gp} {h : AH} {Q : PQ} {x : Nat} {i1 : Int32} {i2 : Nat} (k : Ex g mX1_replacing 0 [vR x, vI i1, vR i2, vU, vU] [] h (0, 0) Q) : Ev g mX1_replacing [vR x, vI i1, vR i2] h Q := Ev.of (by decide +kernel) rfl (Nat.le_of_ble_eq_true rfl) k
theorem qX1_replacing : mR mX1_replacing = (some (FieldType.object "TonguerootFamily$History")) := rfl
theorem qCX1_replacing : mC mX1_replacing = 12 := rfl
theorem qSX1_replacing : mS mX1_replacing = 155 := rfl
def bX1_replacing_0 : List OP := [(.new 16, 3, (0, 0, 0), vU), (.dup, 1, (0, 0, 0), vU)]
theorem oX1_replacing_0 : okAt mX1_replacing bX1_replacing_0 0 = true := by decide +kernel
theorem rX1_replacing_0 {g : Gp} {Q : PQ} {L st : List AV} {h : AH} {u : Nat × Nat} (hr : run mX1_replacing Q (fun pc L st h u => Ex g mX1_replacing pc L st h u Q) bX1_replacing_0 0 L st h u) : Ex g mX1_replacing 0 L st h u Q := run_ok (M := mX1_replacing) cfX1_ok (fun _ _ _ _ _ k => k) _ _ _ _ _ _ oX1_replacing_0 hr
def bX1_replacing_7 : List OP := [(.astore_n 3, 1, (3, 0, 0), vU), (.iconst 0, 1, (0, 0, 0), vI 0), (.istore 4, 2, (4, 0, 0), vU)]
theorem oX1_replacing_7 : okAt mX1_replacing bX1_replacing_7 7 = true := by decide +kernel
theorem rX1_replacing_7 {g : Gp} {Q : PQ} {L st : List AV} {h : AH} {u : Nat × Nat} (hr : run mX1_replacing Q (fun pc L st h u => Ex g mX1_replacing pc L st h u Q) bX1_replacing_7 7 L st h u) : Ex g mX1_replacing 7 L st h u Q := run_ok (M := mX1_replacing) cfX1_ok (fun _ _ _ _ _ k => k) _ _ _ _ _ _ oX1_replacing_7 hr
def bX1_replacing_11 : List OP := [(.iload 4, 2, (4, 0, 0), vU), (.aload_n 0, 1, (0, 0, 0), vU), (.getfield 7, 3, (2, 0, 2), vU)]
theorem oX1_replacing_11 : okAt mX1_replacing bX1_replacing_11 11 = true := by decide +kernel
theorem rX1_replacing_11 {g : Gp} {Q : PQ} {L st : List AV} {h : AH} {u : Nat × Nat} (hr : run mX1_replacing Q (fun pc L st h u => Ex g mX1_replacing pc L st h u Q) bX1_replacing_11 11 L st h u) : Ex g mX1_replacing 11 L st h u Q := run_ok (M := mX1_replacing) cfX1_ok (fun _ _ _ _ _ k => k) _ _ _ _ _ _ oX1_replacing_11 hr
def bX1_replacing_20 : List OP := [(.if_icmp .ge 36, 3, (56, 0, 0), vU), (.aload_n 3, 1, (3, 0, 0), vU), (.iload 4, 2, (4, 0, 0), vU), (.iload_n 1, 1, (1, 0, 0), vU), (.if_icmp .ne 7, 3, (34, 0, 0), vU), (.aload_n 2, 1, (2, 0, 0), vU), (.goto 15, 3, (46, 0, 0), vU)]
theorem oX1_replacing_20 : okAt mX1_replacing bX1_replacing_20 20 = true := by decide +kernel
theorem rX1_replacing_20 {g : Gp} {Q : PQ} {L st : List AV} {h : AH} {u : Nat × Nat} (hr : run mX1_replacing Q (fun pc L st h u => Ex g mX1_replacing pc L st h u Q) bX1_replacing_20 20 L st h u) : Ex g mX1_replacing 20 L st h u Q := run_ok (M := mX1_replacing) cfX1_ok (fun _ _ _ _ _ k => k) _ _ _ _ _ _ oX1_replacing_20 hr
def bX1_replacing_34 : List OP := [(.aload_n 0, 1, (0, 0, 0), vU), (.getfield 7, 3, (2, 0, 2), vU), (.iload 4, 2, (4, 0, 0), vU)]
theorem oX1_replacing_34 : okAt mX1_replacing bX1_replacing_34 34 = true := by decide +kernel
theorem rX1_replacing_34 {g : Gp} {Q : PQ} {L st : List AV} {h : AH} {u : Nat × Nat} (hr : run mX1_replacing Q (fun pc L st h u => Ex g mX1_replacing pc L st h u Q) bX1_replacing_34 34 L st h u) : Ex g mX1_replacing 34 L st h u Q := run_ok (M := mX1_replacing) cfX1_ok (fun _ _ _ _ _ k => k) _ _ _ _ _ _ oX1_replacing_34 hr
def bX1_replacing_43 : List OP := [(.checkcast 27, 3, (3, 0, 0), vU)]
theorem oX1_replacing_43 : okAt mX1_replacing bX1_replacing_43 43 = true := by decide +kernel
theorem rX1_replacing_43 {g : Gp} {Q : PQ} {L st : List AV} {h : AH} {u : Nat × Nat} (hr : run mX1_replacing Q (fun pc L st h u => Ex g mX1_replacing pc L st h u Q) bX1_replacing_43 43 L st h u) : Ex g mX1_replacing 43 L st h u Q := run_ok (M := mX1_replacing) cfX1_ok (fun _ _ _ _ _ k => k) _ _ _ _ _ _ oX1_replacing_43 hr
def bX1_replacing_49 : List OP := [(.pop, 1, (0, 0, 0), vU), (.iinc 4 1, 3, (4, 0, 0), vI 1), (.goto (-42), 3, (11, 0, 0), vU)]
theorem oX1_replacing_49 : okAt mX1_replacing bX1_replacing_49 49 = true := by decide +kernel
theorem rX1_replacing_49 {g : Gp} {Q : PQ} {L st : List AV} {h : AH} {u : Nat × Nat} (hr : run mX1_replacing Q (fun pc L st h u => Ex g mX1_replacing pc L st h u Q) bX1_replacing_49 49 L st h u) : Ex g mX1_replacing 49 L st h u Q := run_ok (M := mX1_replacing) cfX1_ok (fun _ _ _ _ _ k => k) _ _ _ _ _ _ oX1_replacing_49 hr
def bX1_replacing_56 : List OP := [(.new 8, 3, (2, 0, 0), vU), (.dup, 1, (0, 0, 0), vU), (.aload_n 3, 1, (3, 0, 0), vU), (.aload_n 0, 1, (0, 0, 0), vU), (.getfield 13, 3, (2, 1, 2), vU)]
theorem oX1_replacing_56 : okAt mX1_replacing bX1_replacing_56 56 = true := by decide +kernel
theorem rX1_replacing_56 {g : Gp} {Q : PQ} {L st : List AV} {h : AH} {u : Nat × Nat} (hr : run mX1_replacing Q (fun pc L st h u => Ex g mX1_replacing pc L st h u Q) bX1_replacing_56 56 L st h u) : Ex g mX1_replacing 56 L st h u Q := run_ok (M := mX1_replacing) cfX1_ok (fun _ _ _ _ _ k => k) _ _ _ _ _ _ oX1_replacing_56 hr
def bX1_replacing_68 : List OP := [(.areturn, 1, (0, 0, 0), vU)]
theorem oX1_replacing_68 : okAt mX1_replacing bX1_replacing_68 68 = true := by decide +kernel
theorem rX1_replacing_68 {g : Gp} {Q : PQ} {L st : List AV} {h : AH} {u : Nat × Nat} (hr : run mX1_replacing Q (fun pc L st h u => Ex g mX1_replacing pc L st h u Q) bX1_replacing_68 68 L st h u) : Ex g mX1_replacing 68 L st h u Q := run_ok (M := mX1_replacing) cfX1_ok (fun _ _ _ _ _ k => k) _ _ _ _ _ _ oX1_replacing_68 hr
theorem sX1_replacing_4 {g : Gp} {L rest : List AV} {h : AH} {u : Nat × Nat} {Q : PQ} {x : Nat}   (hx : x ≠ 0) (ev : Ev g mJx4a65c_init_da8c8 (vR x :: []) h (cont g mX1_replacing 7 L rest u Q)) (hr : rest.length ≤ 4 := by exact Nat.le_of_ble_eq_true rfl) : Ex g mX1_replacing 4 L (vR x :: rest) h u Q := Ex.bud (fun w1 w2 => Ex.callI (av := []) rfl mJx4a65c_init_da8c8_ok rfl rfl rfl lkX1_18 imJx4a65c_init_da8c8 hx (by decide) w1 w2 hr (by decide +kernel) ev (fun _ _ k => k) (fun _ _ z => z))
theorem sX1_replacing_17 {g : Gp} {L rest : List AV} {h : AH} {u : Nat × Nat} {Q : PQ} {x : Nat}   (hx : zK h x = (1, 0)) (ev : Ev g mJx4a65c_size_8abf5 (vR x :: []) h (cont g mX1_replacing 20 L rest u Q)) (hr : rest.length ≤ 4 := by exact Nat.le_of_ble_eq_true rfl) : Ex g mX1_replacing 17 L (vR x :: rest) h u Q := Ex.bud (fun w1 w2 => Ex.callV (av := []) (r := (RJx4a65c, TJx4a65c, 3)) rfl mJx4a65c_size_8abf5_ok rfl lkX1_19 imJx4a65c_size_8abf5 seJx4a65c_size_8abf5 rfl hx (by decide) w1 w2 hr (by decide +kernel) ev (fun _ _ k => k) (fun _ _ z => z))
theorem sX1_replacing_40 {g : Gp} {L rest : List AV} {h : AH} {u : Nat × Nat} {Q : PQ} {x : Nat} {a1 : AV}  (hx : zK h x = (1, 0)) (ev : Ev g mJx4a65c_get_915e3 (vR x :: [a1]) h (cont g mX1_replacing 43 L rest u Q)) (hr : rest.length ≤ 4 := by exact Nat.le_of_ble_eq_true rfl) : Ex g mX1_replacing 40 L (a1 :: vR x :: rest) h u Q := Ex.bud (fun w1 w2 => Ex.callV (av := [a1]) (r := (RJx4a65c, TJx4a65c, 3)) rfl mJx4a65c_get_915e3_ok rfl lkX1_23 imJx4a65c_get_915e3 seJx4a65c_get_915e3 rfl hx (by decide) w1 w2 hr (by decide +kernel) ev (fun _ _ k => k) (fun _ _ z => z))
theorem sX1_replacing_46 {g : Gp} {L rest : List AV} {h : AH} {u : Nat × Nat} {Q : PQ} {x : Nat} {a1 : AV} (hu : u.1 + 1 ≤ 12 ∧ u.2 + 15 ≤ 155) (hx : zK h x = (1, 0)) (ev : Ev g mJx4a65c_add_9ea2d (vR x :: [a1]) h (cont g mX1_replacing 49 L rest (u.1 + 1, u.2 + 15) Q)) (hr : rest.length ≤ 4 := by exact Nat.le_of_ble_eq_true rfl) : Ex g mX1_replacing 46 L (a1 :: vR x :: rest) h u Q := Ex.callV (av := [a1]) (r := (RJx4a65c, TJx4a65c, 3)) rfl mJx4a65c_add_9ea2d_ok rfl lkX1_29 imJx4a65c_add_9ea2d seJx4a65c_add_9ea2d rfl hx (by decide) hu.1 hu.2 hr (by decide +kernel) ev (fun _ _ k => k) (fun _ _ z => z)
theorem sX1_replacing_65 {g : Gp} {L rest : List AV} {h : AH} {u : Nat × Nat} {Q : PQ} {x : Nat} {a1 a2 : AV}  (hx : x ≠ 0) (ev : Ev g mX1_init (vR x :: [a1, a2]) h (cont g mX1_replacing 68 L rest u Q)) (hr : rest.length ≤ 4 := by exact Nat.le_of_ble_eq_true rfl) : Ex g mX1_replacing 65 L (a2 :: a1 :: vR x :: rest) h u Q := Ex.bud (fun w1 w2 => Ex.callI (av := [a1, a2]) rfl mX1_init_ok rfl rfl rfl lkX1_33 imX1_init hx (by decide) w1 w2 hr (by decide +kernel) ev (fun _ _ k => k) (fun _ _ z => z))
theorem nX4_tellOf {g : Gp} {h : AH} {Q : PQ} {x : Nat} {i1 : Nat} (k : Ex g mX4_tellOf 0 [vR x, vR i1, vU] [] h (0, 0) Q) : Ev g mX4_tellOf [vR x, vR i1] h Q := Ev.of (by decide +kernel) rfl (Nat.le_of_ble_eq_true rfl) k
theorem qX4_tellOf : mR mX4_tellOf = none := rfl
def bX4_tellOf_0 : List OP := [(.aload_n 0, 1, (0, 0, 0), vU), (.aload_n 1, 1, (1, 0, 0), vU), (.putfield 26, 3, (5, 0, 2), vU), (.iconst 0, 1, (0, 0, 0), vI 0), (.istore_n 2, 1, (2, 0, 0), vU)]
theorem oX4_tellOf_0 : okAt mX4_tellOf bX4_tellOf_0 0 = true := by decide +kernel
theorem rX4_tellOf_0 {g : Gp} {Q : PQ} {L st : List AV} {h : AH} {u : Nat × Nat} (hr : run mX4_tellOf Q (fun pc L st h u => Ex g mX4_tellOf pc L st h u Q) bX4_tellOf_0 0 L st h u) : Ex g mX4_tellOf 0 L st h u Q := run_ok (M := mX4_tellOf) cfX4_ok (fun _ _ _ _ _ k => k) _ _ _ _ _ _ oX4_tellOf_0 hr
def bX4_tellOf_7 : List OP := [(.iload_n 2, 1, (2, 0, 0), vU), (.bipush 12, 2, (0, 0, 0), vI 12), (.if_icmp .ge 16, 3, (26, 0, 0), vU), (.aload_n 0, 1, (0, 0, 0), vU), (.getfield 22, 3, (5, 6, 2), vU), (.iload_n 2, 1, (2, 0, 0), vU), (.iconst 0, 1, (0, 0, 0), vI 0), (.bastore, 1, (0, 0, 0), vU), (.iinc 2 1, 3, (2, 0, 0), vI 1), (.goto (-16), 3, (7, 0, 0), vU)]
theorem oX4_tellOf_7 : okAt mX4_tellOf bX4_tellOf_7 7 = true := by decide +kernel
theorem rX4_tellOf_7 {g : Gp} {Q : PQ} {L st : List AV} {h : AH} {u : Nat × Nat} (hr : run mX4_tellOf Q (fun pc L st h u => Ex g mX4_tellOf pc L st h u Q) bX4_tellOf_7 7 L st h u) : Ex g mX4_tellOf 7 L st h u Q := run_ok (M := mX4_tellOf) cfX4_ok (fun _ _ _ _ _ k => k) _ _ _ _ _ _ oX4_tellOf_7 hr
def bX4_tellOf_26 : List OP := [(.return_, 1, (0, 0, 0), vU)]
theorem oX4_tellOf_26 : okAt mX4_tellOf bX4_tellOf_26 26 = true := by decide +kernel
theorem rX4_tellOf_26 {g : Gp} {Q : PQ} {L st : List AV} {h : AH} {u : Nat × Nat} (hr : run mX4_tellOf Q (fun pc L st h u => Ex g mX4_tellOf pc L st h u Q) bX4_tellOf_26 26 L st h u) : Ex g mX4_tellOf 26 L st h u Q := run_ok (M := mX4_tellOf) cfX4_ok (fun _ _ _ _ _ k => k) _ _ _ _ _ _ oX4_tellOf_26 hr
theorem nX1_lackingLoan {g : Gp} {h : AH} {Q : PQ} {x : Nat} {i1 : Int32} (k : Ex g mX1_lackingLoan 0 [vR x, vI i1, vU, vU] [] h (0, 0) Q) : Ev g mX1_lackingLoan [vR x, vI i1] h Q := Ev.of (by decide +kernel) rfl (Nat.le_of_ble_eq_true rfl) k
theorem qX1_lackingLoan : mR mX1_lackingLoan = (some (FieldType.object "TonguerootFamily$History")) := rfl
theorem qCX1_lackingLoan : mC mX1_lackingLoan = 14 := rfl
theorem qSX1_lackingLoan : mS mX1_lackingLoan = 185 := rfl
def bX1_lackingLoan_0 : List OP := [(.new 16, 3, (0, 0, 0), vU), (.dup, 1, (0, 0, 0), vU)]
theorem oX1_lackingLoan_0 : okAt mX1_lackingLoan bX1_lackingLoan_0 0 = true := by decide +kernel
theorem rX1_lackingLoan_0 {g : Gp} {Q : PQ} {L st : List AV} {h : AH} {u : Nat × Nat} (hr : run mX1_lackingLoan Q (fun pc L st h u => Ex g mX1_lackingLoan pc L st h u Q) bX1_lackingLoan_0 0 L st h u) : Ex g mX1_lackingLoan 0 L st h u Q := run_ok (M := mX1_lackingLoan) cfX1_ok (fun _ _ _ _ _ k => k) _ _ _ _ _ _ oX1_lackingLoan_0 hr
def bX1_lackingLoan_7 : List OP := [(.astore_n 2, 1, (2, 0, 0), vU), (.iconst 0, 1, (0, 0, 0), vI 0), (.istore_n 3, 1, (3, 0, 0), vU)]
theorem oX1_lackingLoan_7 : okAt mX1_lackingLoan bX1_lackingLoan_7 7 = true := by decide +kernel
theorem rX1_lackingLoan_7 {g : Gp} {Q : PQ} {L st : List AV} {h : AH} {u : Nat × Nat} (hr : run mX1_lackingLoan Q (fun pc L st h u => Ex g mX1_lackingLoan pc L st h u Q) bX1_lackingLoan_7 7 L st h u) : Ex g mX1_lackingLoan 7 L st h u Q := run_ok (M := mX1_lackingLoan) cfX1_ok (fun _ _ _ _ _ k => k) _ _ _ _ _ _ oX1_lackingLoan_7 hr
def bX1_lackingLoan_10 : List OP := [(.iload_n 3, 1, (3, 0, 0), vU), (.aload_n 0, 1, (0, 0, 0), vU), (.getfield 13, 3, (2, 1, 2), vU)]
theorem oX1_lackingLoan_10 : okAt mX1_lackingLoan bX1_lackingLoan_10 10 = true := by decide +kernel
theorem rX1_lackingLoan_10 {g : Gp} {Q : PQ} {L st : List AV} {h : AH} {u : Nat × Nat} (hr : run mX1_lackingLoan Q (fun pc L st h u => Ex g mX1_lackingLoan pc L st h u Q) bX1_lackingLoan_10 10 L st h u) : Ex g mX1_lackingLoan 10 L st h u Q := run_ok (M := mX1_lackingLoan) cfX1_ok (fun _ _ _ _ _ k => k) _ _ _ _ _ _ oX1_lackingLoan_10 hr
def bX1_lackingLoan_18 : List OP := [(.if_icmp .ge 30, 3, (48, 0, 0), vU), (.iload_n 3, 1, (3, 0, 0), vU), (.iload_n 1, 1, (1, 0, 0), vU), (.if_icmp .eq 19, 3, (42, 0, 0), vU), (.aload_n 2, 1, (2, 0, 0), vU), (.aload_n 0, 1, (0, 0, 0), vU), (.getfield 13, 3, (2, 1, 2), vU), (.iload_n 3, 1, (3, 0, 0), vU)]
theorem oX1_lackingLoan_18 : okAt mX1_lackingLoan bX1_lackingLoan_18 18 = true := by decide +kernel
theorem rX1_lackingLoan_18 {g : Gp} {Q : PQ} {L st : List AV} {h : AH} {u : Nat × Nat} (hr : run mX1_lackingLoan Q (fun pc L st h u => Ex g mX1_lackingLoan pc L st h u Q) bX1_lackingLoan_18 18 L st h u) : Ex g mX1_lackingLoan 18 L st h u Q := run_ok (M := mX1_lackingLoan) cfX1_ok (fun _ _ _ _ _ k => k) _ _ _ _ _ _ oX1_lackingLoan_18 hr
def bX1_lackingLoan_35 : List OP := [(.checkcast 36, 3, (6, 0, 0), vU)]
theorem oX1_lackingLoan_35 : okAt mX1_lackingLoan bX1_lackingLoan_35 35 = true := by decide +kernel
theorem rX1_lackingLoan_35 {g : Gp} {Q : PQ} {L st : List AV} {h : AH} {u : Nat × Nat} (hr : run mX1_lackingLoan Q (fun pc L st h u => Ex g mX1_lackingLoan pc L st h u Q) bX1_lackingLoan_35 35 L st h u) : Ex g mX1_lackingLoan 35 L st h u Q := run_ok (M := mX1_lackingLoan) cfX1_ok (fun _ _ _ _ _ k => k) _ _ _ _ _ _ oX1_lackingLoan_35 hr
def bX1_lackingLoan_41 : List OP := [(.pop, 1, (0, 0, 0), vU), (.iinc 3 1, 3, (3, 0, 0), vI 1), (.goto (-35), 3, (10, 0, 0), vU)]
theorem oX1_lackingLoan_41 : okAt mX1_lackingLoan bX1_lackingLoan_41 41 = true := by decide +kernel
theorem rX1_lackingLoan_41 {g : Gp} {Q : PQ} {L st : List AV} {h : AH} {u : Nat × Nat} (hr : run mX1_lackingLoan Q (fun pc L st h u => Ex g mX1_lackingLoan pc L st h u Q) bX1_lackingLoan_41 41 L st h u) : Ex g mX1_lackingLoan 41 L st h u Q := run_ok (M := mX1_lackingLoan) cfX1_ok (fun _ _ _ _ _ k => k) _ _ _ _ _ _ oX1_lackingLoan_41 hr
def bX1_lackingLoan_42 : List OP := [(.iinc 3 1, 3, (3, 0, 0), vI 1), (.goto (-35), 3, (10, 0, 0), vU)]
theorem oX1_lackingLoan_42 : okAt mX1_lackingLoan bX1_lackingLoan_42 42 = true := by decide +kernel
theorem rX1_lackingLoan_42 {g : Gp} {Q : PQ} {L st : List AV} {h : AH} {u : Nat × Nat} (hr : run mX1_lackingLoan Q (fun pc L st h u => Ex g mX1_lackingLoan pc L st h u Q) bX1_lackingLoan_42 42 L st h u) : Ex g mX1_lackingLoan 42 L st h u Q := run_ok (M := mX1_lackingLoan) cfX1_ok (fun _ _ _ _ _ k => k) _ _ _ _ _ _ oX1_lackingLoan_42 hr
def bX1_lackingLoan_48 : List OP := [(.new 8, 3, (2, 0, 0), vU), (.dup, 1, (0, 0, 0), vU), (.aload_n 0, 1, (0, 0, 0), vU), (.getfield 7, 3, (2, 0, 2), vU), (.aload_n 2, 1, (2, 0, 0), vU)]
theorem oX1_lackingLoan_48 : okAt mX1_lackingLoan bX1_lackingLoan_48 48 = true := by decide +kernel
theorem rX1_lackingLoan_48 {g : Gp} {Q : PQ} {L st : List AV} {h : AH} {u : Nat × Nat} (hr : run mX1_lackingLoan Q (fun pc L st h u => Ex g mX1_lackingLoan pc L st h u Q) bX1_lackingLoan_48 48 L st h u) : Ex g mX1_lackingLoan 48 L st h u Q := run_ok (M := mX1_lackingLoan) cfX1_ok (fun _ _ _ _ _ k => k) _ _ _ _ _ _ oX1_lackingLoan_48 hr
def bX1_lackingLoan_60 : List OP := [(.areturn, 1, (0, 0, 0), vU)]
theorem oX1_lackingLoan_60 : okAt mX1_lackingLoan bX1_lackingLoan_60 60 = true := by decide +kernel
theorem rX1_lackingLoan_60 {g : Gp} {Q : PQ} {L st : List AV} {h : AH} {u : Nat × Nat} (hr : run mX1_lackingLoan Q (fun pc L st h u => Ex g mX1_lackingLoan pc L st h u Q) bX1_lackingLoan_60 60 L st h u) : Ex g mX1_lackingLoan 60 L st h u Q := run_ok (M := mX1_lackingLoan) cfX1_ok (fun _ _ _ _ _ k => k) _ _ _ _ _ _ oX1_lackingLoan_60 hr
theorem sX1_lackingLoan_4 {g : Gp} {L rest : List AV} {h : AH} {u : Nat × Nat} {Q : PQ} {x : Nat}   (hx : x ≠ 0) (ev : Ev g mJx4a65c_init_da8c8 (vR x :: []) h (cont g mX1_lackingLoan 7 L rest u Q)) (hr : rest.length ≤ 4 := by exact Nat.le_of_ble_eq_true rfl) : Ex g mX1_lackingLoan 4 L (vR x :: rest) h u Q := Ex.bud (fun w1 w2 => Ex.callI (av := []) rfl mJx4a65c_init_da8c8_ok rfl rfl rfl lkX1_18 imJx4a65c_init_da8c8 hx (by decide) w1 w2 hr (by decide +kernel) ev (fun _ _ k => k) (fun _ _ z => z))
theorem sX1_lackingLoan_15 {g : Gp} {L rest : List AV} {h : AH} {u : Nat × Nat} {Q : PQ} {x : Nat}   (hx : zK h x = (1, 0)) (ev : Ev g mJx4a65c_size_8abf5 (vR x :: []) h (cont g mX1_lackingLoan 18 L rest u Q)) (hr : rest.length ≤ 4 := by exact Nat.le_of_ble_eq_true rfl) : Ex g mX1_lackingLoan 15 L (vR x :: rest) h u Q := Ex.bud (fun w1 w2 => Ex.callV (av := []) (r := (RJx4a65c, TJx4a65c, 3)) rfl mJx4a65c_size_8abf5_ok rfl lkX1_19 imJx4a65c_size_8abf5 seJx4a65c_size_8abf5 rfl hx (by decide) w1 w2 hr (by decide +kernel) ev (fun _ _ k => k) (fun _ _ z => z))
theorem sX1_lackingLoan_32 {g : Gp} {L rest : List AV} {h : AH} {u : Nat × Nat} {Q : PQ} {x : Nat} {a1 : AV}  (hx : zK h x = (1, 0)) (ev : Ev g mJx4a65c_get_915e3 (vR x :: [a1]) h (cont g mX1_lackingLoan 35 L rest u Q)) (hr : rest.length ≤ 4 := by exact Nat.le_of_ble_eq_true rfl) : Ex g mX1_lackingLoan 32 L (a1 :: vR x :: rest) h u Q := Ex.bud (fun w1 w2 => Ex.callV (av := [a1]) (r := (RJx4a65c, TJx4a65c, 3)) rfl mJx4a65c_get_915e3_ok rfl lkX1_23 imJx4a65c_get_915e3 seJx4a65c_get_915e3 rfl hx (by decide) w1 w2 hr (by decide +kernel) ev (fun _ _ k => k) (fun _ _ z => z))
theorem sX1_lackingLoan_38 {g : Gp} {L rest : List AV} {h : AH} {u : Nat × Nat} {Q : PQ} {x : Nat} {a1 : AV} (hu : u.1 + 1 ≤ 14 ∧ u.2 + 15 ≤ 185) (hx : zK h x = (1, 0)) (ev : Ev g mJx4a65c_add_9ea2d (vR x :: [a1]) h (cont g mX1_lackingLoan 41 L rest (u.1 + 1, u.2 + 15) Q)) (hr : rest.length ≤ 4 := by exact Nat.le_of_ble_eq_true rfl) : Ex g mX1_lackingLoan 38 L (a1 :: vR x :: rest) h u Q := Ex.callV (av := [a1]) (r := (RJx4a65c, TJx4a65c, 3)) rfl mJx4a65c_add_9ea2d_ok rfl lkX1_29 imJx4a65c_add_9ea2d seJx4a65c_add_9ea2d rfl hx (by decide) hu.1 hu.2 hr (by decide +kernel) ev (fun _ _ k => k) (fun _ _ z => z)
theorem sX1_lackingLoan_57 {g : Gp} {L rest : List AV} {h : AH} {u : Nat × Nat} {Q : PQ} {x : Nat} {a1 a2 : AV}  (hx : x ≠ 0) (ev : Ev g mX1_init (vR x :: [a1, a2]) h (cont g mX1_lackingLoan 60 L rest u Q)) (hr : rest.length ≤ 4 := by exact Nat.le_of_ble_eq_true rfl) : Ex g mX1_lackingLoan 57 L (a2 :: a1 :: vR x :: rest) h u Q := Ex.bud (fun w1 w2 => Ex.callI (av := [a1, a2]) rfl mX1_init_ok rfl rfl rfl lkX1_33 imX1_init hx (by decide) w1 w2 hr (by decide +kernel) ev (fun _ _ k => k) (fun _ _ z => z))
end
section
/-! rows on bits, shifts and unsigned numbers, to paste: each family out of a closed proof of our own, whole with what it rests on; each by itself clean at Lean in its own claim (generation 39, form 5). Take a family whole -/
/-! ===== Int32 by its bits: bt x i ===== -/
def bt (x : Int32) (i : Nat) : Bool := x.toBitVec.getLsbD i
theorem b_ext {x y : Int32} (h : ∀ i, i < 32 → bt x i = bt y i) : x = y := Int32.toBitVec_inj.mp (BitVec.eq_of_getLsbD_eq (fun i hi => h i hi))
theorem b_or (x y : Int32) (i : Nat) : bt (x ||| y) i = (bt x i || bt y i) := by unfold bt; rw [Int32.toBitVec_or, BitVec.getLsbD_or]
theorem b_and (x y : Int32) (i : Nat) : bt (x &&& y) i = (bt x i && bt y i) := by unfold bt; rw [Int32.toBitVec_and, BitVec.getLsbD_and]
theorem b_xor (x y : Int32) (i : Nat) : bt (x ^^^ y) i = (bt x i ^^ bt y i) := by unfold bt; rw [Int32.toBitVec_xor, BitVec.getLsbD_xor]
theorem b_big {x : Int32} {i : Nat} (h : 32 ≤ i) : bt x i = false := BitVec.getLsbD_of_ge _ _ h
theorem b_255 (i : Nat) : bt 255 i = decide (i < 8) := by
  rcases Nat.lt_or_ge i 32 with h | h
  · exact (by decide +kernel : ∀ i, i < 32 → bt 255 i = decide (i < 8)) i h
  · rw [b_big h, decide_eq_false (by omega)]
theorem b_65535 (i : Nat) : bt 65535 i = decide (i < 16) := by
  rcases Nat.lt_or_ge i 32 with h | h
  · exact (by decide +kernel : ∀ i, i < 32 → bt 65535 i = decide (i < 16)) i h
  · rw [b_big h, decide_eq_false (by omega)]
theorem b_m1 : ∀ i, i < 32 → bt (-1) i = true := by decide +kernel
theorem b_0 (i : Nat) : bt 0 i = false := BitVec.getLsbD_zero
theorem s_l : ∀ n, n < 32 → ((nI n &&& 31).toBitVec.smod 32).toNat = n := by decide +kernel
theorem s_u : ∀ n, n < 32 → (((nI n).toUInt32 &&& Int32.toUInt32 31).toBitVec % 32).toNat = n := by decide +kernel
theorem b_shl (n : Nat) (hn : n < 32) (x : Int32) {i : Nat} (hi : i < 32) : bt (x <<< (nI n &&& 31)) i = (decide (n ≤ i) && bt x (i - n)) := by
  unfold bt
  rw [Int32.toBitVec_shiftLeft]
  show (x.toBitVec <<< ((nI n &&& 31).toBitVec.smod 32).toNat).getLsbD i = _
  rw [s_l n hn, BitVec.getLsbD_shiftLeft]
  rcases Nat.lt_or_ge i n with h | h
  · simp [h, Nat.not_le.mpr h]
  · simp [hi, h, Nat.not_lt.mpr h]
theorem b_ushr (n : Nat) (hn : n < 32) (x : Int32) (i : Nat) : bt ((x.toUInt32 >>> ((nI n).toUInt32 &&& Int32.toUInt32 31)).toInt32) i = bt x (n + i) := by
  show (x.toUInt32 >>> ((nI n).toUInt32 &&& Int32.toUInt32 31)).toBitVec.getLsbD i = x.toUInt32.toBitVec.getLsbD (n + i)
  rw [UInt32.toBitVec_shiftRight]
  show (x.toUInt32.toBitVec >>> (((nI n).toUInt32 &&& Int32.toUInt32 31).toBitVec % 32).toNat).getLsbD i = _
  rw [s_u n hn, BitVec.getLsbD_ushiftRight]
theorem b_sshr (n : Nat) (hn : n < 32) (x : Int32) {i : Nat} (hi : i < 32) : bt (x >>> (nI n &&& 31)) i = if n + i < 32 then bt x (n + i) else bt x 31 := by
  unfold bt
  rw [Int32.toBitVec_shiftRight]
  show (x.toBitVec.sshiftRight ((nI n &&& 31).toBitVec.smod 32).toNat).getLsbD i = _
  rw [s_l n hn, BitVec.getLsbD_sshiftRight, BitVec.msb_eq_getLsbD_last]
  simp [hi]
theorem b_shl8 (x : Int32) {i : Nat} (hi : i < 32) : bt (x <<< ((8 : Int32) &&& 31)) i = (decide (8 ≤ i) && bt x (i - 8)) := b_shl 8 (by omega) x hi
theorem b_shl16 (x : Int32) {i : Nat} (hi : i < 32) : bt (x <<< ((16 : Int32) &&& 31)) i = (decide (16 ≤ i) && bt x (i - 16)) := b_shl 16 (by omega) x hi
theorem b_shl24 (x : Int32) {i : Nat} (hi : i < 32) : bt (x <<< ((24 : Int32) &&& 31)) i = (decide (24 ≤ i) && bt x (i - 24)) := b_shl 24 (by omega) x hi
theorem b_sshr8 (x : Int32) {i : Nat} (hi : i < 32) : bt (x >>> ((8 : Int32) &&& 31)) i = if 8 + i < 32 then bt x (8 + i) else bt x 31 := b_sshr 8 (by omega) x hi
/-! ===== nI under and, xor, >>>, one bit, 65535 ===== -/
theorem nx_and (a b : Nat) : nI a &&& nI b = nI (a &&& b) := by
  apply Int32.toBitVec_inj.1
  show BitVec.ofNat 32 a &&& BitVec.ofNat 32 b = BitVec.ofNat 32 (a &&& b)
  apply BitVec.eq_of_getLsbD_eq
  intro i hi
  simp [hi]
theorem nx_xor (a b : Nat) : nI a ^^^ nI b = nI (a ^^^ b) := by
  apply Int32.toBitVec_inj.1
  show BitVec.ofNat 32 a ^^^ BitVec.ofNat 32 b = BitVec.ofNat 32 (a ^^^ b)
  apply BitVec.eq_of_getLsbD_eq
  intro i hi
  simp [hi]
theorem nx_cnt : ∀ j : Fin 32, (UInt32.ofNat j.val &&& Int32.toUInt32 31).toNat % 32 = j.val := by decide +kernel
theorem nx_ush {k j : Nat} (hk : k < 65536) (hj : j < 32) : ((nI k).toUInt32 >>> ((nI j).toUInt32 &&& Int32.toUInt32 31)).toInt32 = nI (k >>> j) := by
  have hs : k >>> j ≤ k := by
    rw [Nat.shiftRight_eq_div_pow]
    exact Nat.div_le_self _ _
  have e2 : UInt32.ofNat k >>> (UInt32.ofNat j &&& Int32.toUInt32 31) = UInt32.ofNat (k >>> j) := by
    apply UInt32.toNat_inj.1
    have h1 : (UInt32.ofNat k).toNat = k := Nat.mod_eq_of_lt (by omega)
    have h2 : (UInt32.ofNat (k >>> j)).toNat = k >>> j := Nat.mod_eq_of_lt (by omega)
    rw [UInt32.toNat_shiftRight, nx_cnt ⟨j, hj⟩, h1, h2]
  show (UInt32.ofNat k >>> (UInt32.ofNat j &&& Int32.toUInt32 31)).toInt32 = _
  rw [e2]
  rfl
theorem nx_bit {k j : Nat} (hk : k < 65536) (hj : j < 16) : (((nI k).toUInt32 >>> ((nI j).toUInt32 &&& Int32.toUInt32 31)).toInt32 &&& 1) = 0 ↔ k.testBit j = false := by
  rw [nx_ush hk (by omega)]
  show nI (k >>> j) &&& nI 1 = 0 ↔ _
  rw [nx_and, Nat.and_one_is_mod, ← nI_0, nI_eq (by omega) (by omega), Nat.testBit_eq_decide_div_mod_eq, Nat.shiftRight_eq_div_pow, decide_eq_false_iff_not]
  generalize k / 2 ^ j = z
  omega
theorem nx_mod (k : Nat) : nI k &&& 65535 = nI (k % 65536) := by
  show nI k &&& nI 65535 = _
  rw [nx_and, show (65535 : Nat) = 2 ^ 16 - 1 from rfl, Nat.and_two_pow_sub_one_eq_mod]
theorem nx_m16 {k : Nat} (h : k < 65536) : nI k &&& 65535 = nI k := by rw [nx_mod, Nat.mod_eq_of_lt h]
theorem nx_mask (x : Int32) : ∃ k, k < 65536 ∧ x &&& 65535 = nI k := by
  have e : x = nI x.toBitVec.toNat := by
    apply Int32.toBitVec_inj.1
    show x.toBitVec = BitVec.ofNat 32 x.toBitVec.toNat
    simp
  refine ⟨x.toBitVec.toNat % 65536, Nat.mod_lt _ (by omega), ?_⟩
  rw [← nx_mod, ← e]
/-! ===== Int32 as a set of bits: test, set ===== -/
def nf_M (m : Int32) : Nat := 4294967296 - m.toBitVec.toNat
theorem nf_sh : ∀ l, l < 32 → ((1 : Int32) <<< (nI l &&& 31)).toBitVec = BitVec.twoPow 32 l := by decide +kernel
theorem nf_sl : ∀ l, l < 32 → (((nI l).toUInt32 &&& Int32.toUInt32 31).toBitVec % 32).toNat = l := by decide +kernel
theorem nf_tp : ∀ l, l < 32 → BitVec.twoPow 32 l ≠ 0#32 := by decide +kernel
theorem nf_bit (m : Int32) (l : Nat) (hl : l < 32) : ((m.toUInt32 >>> ((nI l).toUInt32 &&& Int32.toUInt32 31)).toInt32 &&& 1) = 0 ↔ (m &&& ((1 : Int32) <<< (nI l &&& 31))) = 0 := by
  have e : ((m.toUInt32 >>> ((nI l).toUInt32 &&& Int32.toUInt32 31)).toInt32).toBitVec = m.toBitVec >>> l := by
    show m.toBitVec >>> (((nI l).toUInt32 &&& Int32.toUInt32 31).toBitVec % 32) = m.toBitVec >>> l
    rw [BitVec.ushiftRight_eq', nf_sl l hl]
  rw [← Int32.toBitVec_inj, ← Int32.toBitVec_inj, Int32.toBitVec_and, Int32.toBitVec_and, nf_sh l hl, e, BitVec.and_twoPow]
  show (m.toBitVec >>> l &&& 1#32) = 0#32 ↔ _ = 0#32
  rw [BitVec.and_one_eq_setWidth_ofBool_getLsbD, BitVec.getLsbD_ushiftRight, Nat.add_zero]
  cases hb : m.toBitVec.getLsbD l
  · exact ⟨fun _ => by simp, fun _ => by decide⟩
  · exact ⟨fun z => absurd z (by decide), fun z => absurd ((if_pos rfl).symm.trans z) (nf_tp l hl)⟩
theorem nf_gr (m k : Int32) (h : m &&& k = 0) (hk : k ≠ 0) : nf_M (m ||| k) < nf_M m := by
  have hm := m.toBitVec.isLt
  have hm' := (m ||| k).toBitVec.isLt
  have h1 : m.toBitVec.toNat ≤ (m ||| k).toBitVec.toNat := by
    rw [Int32.toBitVec_or, BitVec.toNat_or]
    exact Nat.left_le_or
  have h2 : m.toBitVec.toNat ≠ (m ||| k).toBitVec.toNat := by
    intro e
    have e2 : m = m ||| k := Int32.toBitVec_inj.mp (BitVec.eq_of_toNat_eq e)
    apply hk
    apply Int32.toBitVec_inj.mp
    show k.toBitVec = 0#32
    apply BitVec.eq_of_getLsbD_eq
    intro i hi
    have a : m.toBitVec.getLsbD i = (m.toBitVec.getLsbD i || k.toBitVec.getLsbD i) := by rw [← BitVec.getLsbD_or, ← Int32.toBitVec_or, ← e2]
    have b : (m.toBitVec.getLsbD i && k.toBitVec.getLsbD i) = false := by
      rw [← BitVec.getLsbD_and, ← Int32.toBitVec_and, h]
      exact BitVec.getLsbD_zero
    rw [BitVec.getLsbD_zero]
    revert a b
    cases m.toBitVec.getLsbD i <;> cases k.toBitVec.getLsbD i <;> simp
  unfold nf_M
  omega
/-! ===== a byte read unsigned ===== -/
theorem bp_b (x : Int32) : x.toInt8.toInt32 &&& 255 = x &&& 255 := by
  apply Int32.toBitVec_inj.mp
  rw [Int32.toBitVec_and, Int32.toBitVec_and, Int8.toBitVec_toInt32, Int32.toBitVec_toInt8]
  apply BitVec.eq_of_getLsbD_eq
  intro i hi
  rw [BitVec.getLsbD_and, BitVec.getLsbD_and]
  have hm : ∀ i < 32, 8 ≤ i → (255 : Int32).toBitVec.getLsbD i = false := by decide
  rcases Nat.lt_or_ge i 8 with z | z
  · rw [BitVec.getLsbD_signExtend, BitVec.getLsbD_signExtend, if_pos z, if_pos hi]
    simp only [z, hi, decide_true, Bool.true_and]
  · rw [hm i hi z]; simp
/-! ===== the char cast and 65535 ===== -/
/-! ===== Int64 as a set of bits: test, set, clear ===== -/
theorem ts_nf {x : Bool} (h : ¬ x = false) : x = true := by cases x <;> first | rfl | exact absurd rfl h
theorem ts_nt {x : Bool} (h : ¬ x = true) : x = false := by cases x <;> first | rfl | exact absurd rfl h
theorem ts_bit {w : Int64} {s : UInt64} {j : Nat} (hj : j < 64) (hs : s.toNat = j) : ((w.toUInt64 >>> s).toInt64 &&& 1) = 0 ↔ w.toBitVec.getLsbD j = false := by
  have e : (w.toUInt64 >>> s).toInt64.toBitVec = w.toBitVec >>> j := by
    apply BitVec.eq_of_toNat_eq
    show (w.toUInt64 >>> s).toNat = _
    rw [UInt64.toNat_shiftRight, hs, Nat.mod_eq_of_lt hj, BitVec.toNat_ushiftRight]
    rfl
  rw [← Int64.toBitVec_inj, Int64.toBitVec_and, e]
  show w.toBitVec >>> j &&& 1#64 = 0#64 ↔ _
  constructor
  · intro h
    have t := congrArg (fun x => x.getLsbD 0) h
    simpa using t
  · intro h
    apply BitVec.eq_of_getLsbD_eq
    intro i hi
    cases i with
    | zero => simp [h]
    | succ i => simp
theorem ts_or {w m : Int64} {j : Nat} (hj : j < 64) (hm : m.toBitVec = BitVec.twoPow 64 j) : (w ||| m) = w ↔ w.toBitVec.getLsbD j = true := by
  rw [← Int64.toBitVec_inj, Int64.toBitVec_or, hm]
  constructor
  · intro h
    have t := congrArg (fun x => x.getLsbD j) h
    simp only [BitVec.getLsbD_or, BitVec.getLsbD_twoPow] at t
    simpa [hj] using t.symm
  · intro h
    apply BitVec.eq_of_getLsbD_eq
    intro i hi
    rw [BitVec.getLsbD_or, BitVec.getLsbD_twoPow]
    by_cases e : j = i
    · subst e; rw [h, Bool.true_or]
    · simp [e]
theorem ts_and {w m : Int64} {j : Nat} (hj : j < 64) (hm : m.toBitVec = BitVec.twoPow 64 j) : (w &&& (m ^^^ (-1))) = w ↔ w.toBitVec.getLsbD j = false := by
  have ha : (-1 : Int64).toBitVec = BitVec.allOnes 64 := by decide
  rw [← Int64.toBitVec_inj, Int64.toBitVec_and, Int64.toBitVec_xor, hm, ha]
  constructor
  · intro h
    have t := congrArg (fun x => x.getLsbD j) h
    simp only [BitVec.getLsbD_and, BitVec.getLsbD_xor, BitVec.getLsbD_twoPow, BitVec.getLsbD_allOnes] at t
    simpa [hj] using t.symm
  · intro h
    apply BitVec.eq_of_getLsbD_eq
    intro i hi
    rw [BitVec.getLsbD_and, BitVec.getLsbD_xor, BitVec.getLsbD_twoPow, BitVec.getLsbD_allOnes]
    by_cases e : j = i
    · subst e; rw [h, Bool.false_and]
    · simp [e, hi]
/-! ===== lN n to 2^64: shifts, and, or, masks, one bit ===== -/
theorem wb_tb (n : Nat) : (lN n).toBitVec = BitVec.ofNat 64 n := rfl
theorem wb_inj {a b : Int64} (h : a.toBitVec = b.toBitVec) : a = b := Int64.toBitVec_inj.mp h
theorem wb_tn {n : Nat} (h : n < 2 ^ 64) : (lN n).toBitVec.toNat = n := by rw [wb_tb, BitVec.toNat_ofNat, Nat.mod_eq_of_lt h]
theorem wb_of (x : Int64) : ∃ n, n < 2 ^ 64 ∧ x = lN n := ⟨x.toBitVec.toNat, x.toBitVec.isLt, wb_inj (by rw [wb_tb]; simp)⟩
theorem wb_of32 (x : Int32) : ∃ n, n < 2 ^ 32 ∧ x = nI n := ⟨x.toBitVec.toNat, x.toBitVec.isLt, Int32.toBitVec_inj.mp (by show _ = BitVec.ofNat 32 _; simp)⟩
theorem wb_c : ∀ k, k < 64 → ((nI k).toInt64 &&& 63) = lN k := by decide +kernel
theorem wb_cu : ∀ k, k < 64 → ((nI k).toInt64.toUInt64 &&& Int64.toUInt64 63) = UInt64.ofNat k := by decide +kernel
theorem wb_sm : ∀ k, k < 64 → (BitVec.ofNat 64 k).smod 64 = BitVec.ofNat 64 k := by decide +kernel
theorem wb_pw {a b : Nat} (h : a ≤ b) : 2 ^ b = 2 ^ a * 2 ^ (b - a) := by rw [← Nat.pow_add]; congr 1; omega
theorem wb_lt2 {a b : Nat} (h : a < b) : 2 ^ a < 2 ^ b := Nat.pow_lt_pow_right (by decide) h
theorem wb_mod (n : Nat) : lN n = lN (n % 2 ^ 64) := wb_inj (by rw [wb_tb, wb_tb]; apply BitVec.eq_of_toNat_eq; rw [BitVec.toNat_ofNat, BitVec.toNat_ofNat, Nat.mod_mod])
theorem wb_shr {n k : Nat} (hn : n < 2 ^ 64) (hk : k < 64) : ((lN n).toUInt64 >>> ((nI k).toInt64.toUInt64 &&& Int64.toUInt64 63)).toInt64 = lN (n / 2 ^ k) := by
  rw [wb_cu k hk]
  apply wb_inj
  apply BitVec.eq_of_toNat_eq
  show ((lN n).toUInt64 >>> UInt64.ofNat k).toNat = (BitVec.ofNat 64 _).toNat
  have h1 : (UInt64.ofNat k).toNat = k := by
    show (BitVec.ofNat 64 k).toNat = k
    rw [BitVec.toNat_ofNat, Nat.mod_eq_of_lt (by omega)]
  have h2 : (lN n).toUInt64.toNat = n := wb_tn hn
  rw [UInt64.toNat_shiftRight, h1, h2, Nat.mod_eq_of_lt hk, Nat.shiftRight_eq_div_pow, BitVec.toNat_ofNat, Nat.mod_eq_of_lt (Nat.lt_of_le_of_lt (Nat.div_le_self _ _) hn)]
theorem wb_shl (n : Nat) {k : Nat} (hk : k < 64) : lN n <<< ((nI k).toInt64 &&& 63) = lN (n * 2 ^ k) := by
  rw [wb_c k hk]
  apply wb_inj
  rw [Int64.toBitVec_shiftLeft, wb_tb, wb_tb, wb_tb, wb_sm k hk]
  apply BitVec.eq_of_toNat_eq
  rw [BitVec.shiftLeft_eq', BitVec.toNat_shiftLeft, BitVec.toNat_ofNat, BitVec.toNat_ofNat, BitVec.toNat_ofNat, Nat.mod_eq_of_lt (show k < 2 ^ 64 by omega), Nat.shiftLeft_eq, Nat.mul_mod, Nat.mod_mod, ← Nat.mul_mod]
theorem wb_and {a b : Nat} (ha : a < 2 ^ 64) (hb : b < 2 ^ 64) : lN a &&& lN b = lN (a &&& b) := by
  apply wb_inj
  rw [Int64.toBitVec_and, wb_tb, wb_tb, wb_tb]
  apply BitVec.eq_of_toNat_eq
  rw [BitVec.toNat_and, BitVec.toNat_ofNat, BitVec.toNat_ofNat, BitVec.toNat_ofNat, Nat.mod_eq_of_lt ha, Nat.mod_eq_of_lt hb, Nat.mod_eq_of_lt (Nat.and_lt_two_pow _ hb)]
theorem wb_or {a b : Nat} (ha : a < 2 ^ 64) (hb : b < 2 ^ 64) : lN a ||| lN b = lN (a ||| b) := by
  apply wb_inj
  rw [Int64.toBitVec_or, wb_tb, wb_tb, wb_tb]
  apply BitVec.eq_of_toNat_eq
  rw [BitVec.toNat_or, BitVec.toNat_ofNat, BitVec.toNat_ofNat, BitVec.toNat_ofNat, Nat.mod_eq_of_lt ha, Nat.mod_eq_of_lt hb, Nat.mod_eq_of_lt (Nat.or_lt_two_pow ha hb)]
theorem wb_mask {n k : Nat} (hn : n < 2 ^ 64) (hk : k < 64) : lN n &&& lN (2 ^ k - 1) = lN (n % 2 ^ k) := by
  rw [wb_and hn (by have := wb_lt2 hk; omega), Nat.and_two_pow_sub_one_eq_mod]
theorem wb_a1 {n : Nat} (hn : n < 2 ^ 64) : lN n &&& 1 = lN (n % 2) := wb_mask (k := 1) hn (by decide)
theorem wb_bit {n k : Nat} (hn : n < 2 ^ 64) (hk : k < 64) : ((lN n).toUInt64 >>> ((nI k).toInt64.toUInt64 &&& Int64.toUInt64 63)).toInt64 &&& 1 = lN (n / 2 ^ k % 2) := by
  rw [wb_shr hn hk, wb_a1 (Nat.lt_of_le_of_lt (Nat.div_le_self _ _) hn)]
theorem wb_xor {q k : Nat} (hk : k < 63) (h : 2 ^ k ≤ q) (h2 : q < 2 ^ (k + 1)) : lN q ^^^ lN (2 ^ k) = lN (q - 2 ^ k) := by
  obtain ⟨r, rfl⟩ : ∃ r, q = 2 ^ k + r := ⟨q - 2 ^ k, by omega⟩
  have hr : r < 2 ^ k := by rw [Nat.pow_succ] at h2; omega
  have hx : (2 ^ k + r) ^^^ 2 ^ k = r := by
    apply Nat.eq_of_testBit_eq
    intro i
    rw [Nat.testBit_xor, Nat.testBit_two_pow]
    rcases Nat.lt_trichotomy i k with h | h | h
    · rw [Nat.testBit_two_pow_add_gt h]
      simp [show ¬ k = i by omega]
    · subst h
      rw [Nat.testBit_two_pow_add_eq]
      simp
    · have a1 : 2 ^ (k + 1) ≤ 2 ^ i := Nat.pow_le_pow_right (by decide) h
      rw [Nat.testBit_lt_two_pow (show 2 ^ k + r < 2 ^ i by omega), Nat.testBit_lt_two_pow (show r < 2 ^ i by omega)]
      simp [show ¬ k = i by omega]
  have b1 := wb_lt2 (show k + 1 < 64 by omega)
  have b2 := wb_lt2 (show k < 64 by omega)
  apply wb_inj
  rw [Int64.toBitVec_xor, wb_tb, wb_tb, wb_tb]
  apply BitVec.eq_of_toNat_eq
  rw [BitVec.toNat_xor, BitVec.toNat_ofNat, BitVec.toNat_ofNat, BitVec.toNat_ofNat, Nat.mod_eq_of_lt (by omega : 2 ^ k + r < 2 ^ 64), Nat.mod_eq_of_lt b2, hx, Nat.add_sub_cancel_left, Nat.mod_eq_of_lt (by omega)]
/-! ===== lN: masks, 'or' of parts that don't overlap is a sum ===== -/
theorem u_tn {n : Nat} (h : n < 2 ^ 64) : (UInt64.ofNat n).toNat = n := Nat.mod_eq_of_lt h
theorem g_and {a b c : Nat} (ha : a < 2 ^ 64) (hb : b < 2 ^ 64) (hc : a &&& b = c) : lN a &&& lN b = lN c := by
  subst hc
  have h : UInt64.ofNat a &&& UInt64.ofNat b = UInt64.ofNat (a &&& b) := UInt64.toNat_inj.mp (by rw [UInt64.toNat_and, u_tn ha, u_tn hb, u_tn (Nat.and_lt_two_pow a hb)])
  have h2 := congrArg UInt64.toInt64 h
  exact h2
theorem g_and1 {a : Nat} (ha : a < 2 ^ 64) : lN a &&& 1 = lN (a % 2) := g_and (b := 1) ha (by decide) (Nat.and_two_pow_sub_one_eq_mod a 1)
theorem g_mask {a s p : Nat} (hp : 2 ^ s = p) (hs : s < 64) (ha : a < 2 ^ 64) : lN a &&& lN (p - 1) = lN (a % p) := by
  subst hp
  have := Nat.pow_lt_pow_right (show 1 < 2 by decide) hs
  exact g_and ha (by omega) (Nat.and_two_pow_sub_one_eq_mod a s)
theorem g_or {k p a b : Nat} (hp : 2 ^ k = p) (ha : a < p) (h : b * p + a < 2 ^ 64) : lN (b * p) ||| lN a = lN (b * p + a) := by
  subst hp
  have h1 : b * 2 ^ k ||| a = b * 2 ^ k + a := by rw [← Nat.shiftLeft_eq, Nat.shiftLeft_add_eq_or_of_lt ha]
  have h3 : UInt64.ofNat (b * 2 ^ k) ||| UInt64.ofNat a = UInt64.ofNat (b * 2 ^ k + a) := UInt64.toNat_inj.mp (by rw [UInt64.toNat_or, u_tn (by omega), u_tn (by omega), u_tn h, h1])
  have h2 := congrArg UInt64.toInt64 h3
  exact h2
theorem g_or' {k p a b : Nat} (hp : 2 ^ k = p) (ha : a < p) (h : a + b * p < 2 ^ 64) : lN a ||| lN (b * p) = lN (a + b * p) := by
  rw [Int64.or_comm, g_or hp ha (by omega), Nat.add_comm]
theorem g_ushr {a k p : Nat} {y : UInt64} (hy : y = UInt64.ofNat k) (hk : k < 64) (hp : 2 ^ k = p) (ha : a < 2 ^ 64) : ((lN a).toUInt64 >>> y).toInt64 = lN (a / p) := by
  subst hy hp
  have h : UInt64.ofNat a >>> UInt64.ofNat k = UInt64.ofNat (a / 2 ^ k) := UInt64.toNat_inj.mp (by rw [UInt64.toNat_shiftRight, u_tn ha, u_tn (by omega), u_tn (Nat.lt_of_le_of_lt (Nat.div_le_self _ _) ha), Nat.mod_eq_of_lt hk, Nat.shiftRight_eq_div_pow])
  have h2 := congrArg UInt64.toInt64 h
  exact h2
theorem g_shl {a k p : Nat} {y : Int64} (hy : y.toBitVec.smod 64 = BitVec.ofNat 64 k) (hk : k < 64) (hp : 2 ^ k = p) (ha : a < 2 ^ 64) : lN a <<< y = lN (a * p) := by
  subst hp
  apply Int64.toBitVec_inj.mp
  rw [Int64.toBitVec_shiftLeft, hy]
  apply BitVec.eq_of_toNat_eq
  have hb : (lN a).toBitVec.toNat = a := Nat.mod_eq_of_lt ha
  have hk' : (BitVec.ofNat 64 k).toNat = k := Nat.mod_eq_of_lt (by omega)
  have h : ((lN a).toBitVec <<< BitVec.ofNat 64 k).toNat = (a * 2 ^ k) % 2 ^ 64 := by simp only [BitVec.shiftLeft_eq', BitVec.toNat_shiftLeft, hb, hk', Nat.shiftLeft_eq]
  exact h
/-! ===== lN to 2^62 under >> and >>> ===== -/
theorem pf_lI {a : Nat} (h : a < 2 ^ 63) : (lN a).toInt = (a : Int) := lg_ofNat_toInt h
theorem pf_shr {a d : Nat} {D : Int64} (hD : (D.toBitVec.smod 64).toNat = d) (h : a < 2 ^ 62) : lN a >>> D = lN (a / 2 ^ d) := by
  have hd : a / 2 ^ d ≤ a := Nat.div_le_self _ _
  apply Int64.toInt_inj.mp
  have e : (lN a >>> D).toInt = (lN a).toInt >>> d := by
    rw [← hD]
    exact BitVec.toInt_sshiftRight ..
  rw [e, Int.shiftRight_eq_div_pow, pf_lI (by omega), pf_lI (by omega)]
  rfl
theorem pf_ushr {a d : Nat} {D : UInt64} (hD : D.toNat % 64 = d) (h : a < 2 ^ 62) : ((lN a).toUInt64 >>> D).toInt64 = lN (a / 2 ^ d) := by
  have hd : a / 2 ^ d ≤ a := Nat.div_le_self _ _
  have e : (lN a).toUInt64 >>> D = UInt64.ofNat (a / 2 ^ d) := UInt64.toNat_inj.mp (by
    rw [UInt64.toNat_shiftRight, hD, Nat.shiftRight_eq_div_pow, UInt64.toNat_ofNat']
    show (UInt64.ofNat a).toNat / 2 ^ d = _
    rw [UInt64.toNat_ofNat', Nat.mod_eq_of_lt (by omega), Nat.mod_eq_of_lt (by omega)])
  rw [e]
  rfl
theorem pf_andw (x : Int64) : ∃ m, m < 2 ^ 32 ∧ x &&& 4294967295 = lN m := ⟨x.toBitVec.toNat % 2 ^ 32, Nat.mod_lt _ (by decide), Int64.toBitVec_inj.mp (BitVec.eq_of_toNat_eq (by
  show (x.toBitVec &&& 4294967295#64).toNat = (BitVec.ofNat 64 (x.toBitVec.toNat % 2 ^ 32)).toNat
  rw [BitVec.toNat_and, show (4294967295#64).toNat = 2 ^ 32 - 1 from by decide, Nat.and_two_pow_sub_one_eq_mod, BitVec.toNat_ofNat]
  omega))⟩
/-! ===== Int64 as an unsigned number: uN x ===== -/
def uN (x : Int64) : Nat := x.toUInt64.toNat
theorem uN_lt (x : Int64) : uN x < 18446744073709551616 := x.toUInt64.toNat_lt
theorem uN_inj {x y : Int64} (h : uN x = uN y) : x = y := congrArg UInt64.toInt64 (UInt64.toNat_inj.mp h)
theorem uN_add (x y : Int64) : uN (x + y) = (uN x + uN y) % 18446744073709551616 := by
  show (x.toUInt64 + y.toUInt64).toNat = _
  exact UInt64.toNat_add _ _
theorem uN_mul (x y : Int64) : uN (x * y) = (uN x * uN y) % 18446744073709551616 := by
  show (x.toUInt64 * y.toUInt64).toNat = _
  exact UInt64.toNat_mul _ _
theorem uN_shl (x : Int64) : uN (x <<< ((1 : Int32).toInt64 &&& 63)) = (2 * uN x) % 18446744073709551616 := by
  have h : (((1 : Int32).toInt64 &&& 63).toBitVec.smod 64).toNat = 1 := by decide
  show (x.toBitVec <<< (((1 : Int32).toInt64 &&& 63).toBitVec.smod 64).toNat).toNat = _
  rw [h, BitVec.toNat_shiftLeft, Nat.shiftLeft_eq, Nat.mul_comm]
  rfl
theorem uN_shr (x : Int64) (s : UInt64) : uN (x.toUInt64 >>> s).toInt64 = uN x / 2 ^ (s.toNat % 64) := by
  show (x.toUInt64 >>> s).toNat = _
  rw [UInt64.toNat_shiftRight, Nat.shiftRight_eq_div_pow]
  rfl
theorem uN_s32 (x : Int64) : uN (x.toUInt64 >>> ((32 : Int32).toInt64.toUInt64 &&& Int64.toUInt64 63)).toInt64 = uN x / 4294967296 := by
  have h : ((32 : Int32).toInt64.toUInt64 &&& Int64.toUInt64 63).toNat % 64 = 32 := by decide
  rw [uN_shr, h]
theorem uN_s63 (x : Int64) : uN (x.toUInt64 >>> ((63 : Int32).toInt64.toUInt64 &&& Int64.toUInt64 63)).toInt64 = uN x / 9223372036854775808 := by
  have h : ((63 : Int32).toInt64.toUInt64 &&& Int64.toUInt64 63).toNat % 64 = 63 := by decide
  rw [uN_shr, h]
theorem uN_lo (x : Int64) : uN (x &&& 4294967295) = uN x % 4294967296 := by
  show (x.toUInt64 &&& Int64.toUInt64 4294967295).toNat = _
  rw [UInt64.toNat_and]
  exact Nat.and_two_pow_sub_one_eq_mod _ 32
theorem uN_bit (x : Int64) : (x &&& 1) = 0 ↔ uN x % 2 = 0 := by
  have h : uN (x &&& 1) = uN x % 2 := by
    show (x.toUInt64 &&& Int64.toUInt64 1).toNat = _
    rw [UInt64.toNat_and]
    exact Nat.and_two_pow_sub_one_eq_mod _ 1
  rw [← h]
  exact ⟨fun z => by rw [z]; rfl, fun z => uN_inj (z.trans rfl)⟩
theorem uN_or {x y : Int64} (hy : uN y < 2) : uN ((x <<< ((1 : Int32).toInt64 &&& 63)) ||| y) = (2 * uN x) % 18446744073709551616 + uN y := by
  have h1 : uN ((x <<< ((1 : Int32).toInt64 &&& 63)) ||| y) = uN (x <<< ((1 : Int32).toInt64 &&& 63)) ||| uN y := UInt64.toNat_or _ _
  have h2 : (2 * uN x) % 18446744073709551616 = 2 ^ 1 * (uN x % 9223372036854775808) := by omega
  rw [h1, uN_shl, h2]
  exact (Nat.two_pow_add_eq_or_of_lt (i := 1) hy _).symm
theorem nat_xor {a : Nat} (h : a < 18446744073709551616) : a ^^^ 2 ^ 63 = (a + 9223372036854775808) % 18446744073709551616 := by
  have h1 : (a ^^^ 2 ^ 63) % 2 ^ 63 = a % 2 ^ 63 := by rw [Nat.xor_mod_two_pow, Nat.mod_self, Nat.xor_zero]
  have h2 : (a ^^^ 2 ^ 63) / 2 ^ 63 = (a / 2 ^ 63) ^^^ 1 := by rw [Nat.xor_div_two_pow, Nat.div_self (Nat.two_pow_pos 63)]
  have h3 : a / 2 ^ 63 = 0 ∨ a / 2 ^ 63 = 1 := by omega
  generalize a ^^^ 2 ^ 63 = t at h1 h2
  rcases h3 with h3 | h3
  · rw [h3] at h2
    have h2 : t / 2 ^ 63 = 1 := h2
    omega
  · rw [h3] at h2
    have h2 : t / 2 ^ 63 = 0 := h2
    omega
theorem uN_xor (x : Int64) : uN (x ^^^ (-9223372036854775808)) = (uN x + 9223372036854775808) % 18446744073709551616 := by
  rw [← nat_xor (uN_lt x)]
  exact UInt64.toNat_xor _ _
theorem uN_int (x : Int64) : x.toInt = if 2 * uN x < 18446744073709551616 then (uN x : Int) else (uN x : Int) - 18446744073709551616 := BitVec.toInt_eq_toNat_cond _
theorem uN_le (x y : Int64) : (x ^^^ (-9223372036854775808)) ≤ (y ^^^ (-9223372036854775808)) ↔ uN x ≤ uN y := by
  have hx := uN_lt x
  have hy := uN_lt y
  rw [Int64.le_iff_toInt_le, uN_int, uN_int, uN_xor, uN_xor]
  omega
theorem uN_sk (x : Int64) {k : Nat} (hk : k < 64) : uN (x.toUInt64 >>> ((nI k).toInt64.toUInt64 &&& Int64.toUInt64 63)).toInt64 = uN x / 2 ^ k := by
  have h : ((nI k).toInt64.toUInt64 &&& Int64.toUInt64 63).toNat % 64 = k := by
    rw [nI_l (by omega), UInt64.toNat_and]
    have e : (lN k).toUInt64.toNat = k % 2 ^ 64 := rfl
    have e2 : (Int64.toUInt64 63).toNat = 2 ^ 6 - 1 := by decide
    rw [e, e2, Nat.and_two_pow_sub_one_eq_mod]
    omega
  rw [uN_shr, h]
/-! ===== unsigned comparison by xor with the least ===== -/
theorem lN_bv (n : Nat) : (lN n).toBitVec = BitVec.ofNat 64 n := rfl
theorem lN_nat {n : Nat} (h : n < 2 ^ 64) : (lN n).toBitVec.toNat = n := by rw [lN_bv, BitVec.toNat_ofNat]; exact Nat.mod_eq_of_lt h
theorem lN_xor (a b : Nat) : lN a ^^^ lN b = lN (a ^^^ b) := by
  apply Int64.toBitVec_inj.mp; rw [Int64.toBitVec_xor, lN_bv, lN_bv, lN_bv]; apply BitVec.eq_of_getLsbD_eq; intro i hi; simp [BitVec.getLsbD_ofNat, Nat.testBit_xor, hi]
theorem lN_ti {m : Nat} (h : m < 2 ^ 64) : (lN m).toInt = if m < 2 ^ 63 then (m : Int) else (m : Int) - 2 ^ 64 := by
  have c := BitVec.toInt_eq_toNat_cond (lN m).toBitVec
  rw [lN_nat h] at c
  show (lN m).toBitVec.toInt = _
  rw [c]
  split <;> split <;> omega
theorem xor63 {x : Nat} (h : x < 2 ^ 63) : x ^^^ 2 ^ 63 = 2 ^ 63 + x := by
  apply Nat.eq_of_testBit_eq
  intro i
  rw [Nat.testBit_xor, Nat.testBit_two_pow]
  rcases Nat.lt_trichotomy i 63 with z | z | z
  · rw [Nat.testBit_two_pow_add_gt z, decide_eq_false (by omega)]; simp
  · subst z; rw [Nat.testBit_two_pow_add_eq]; simp
  · have hp : 2 ^ 64 ≤ 2 ^ i := Nat.pow_le_pow_right (by decide) z
    rw [Nat.testBit_lt_two_pow (show x < 2 ^ i by omega), Nat.testBit_lt_two_pow (show 2 ^ 63 + x < 2 ^ i by omega), decide_eq_false (by omega)]; rfl
theorem xorS {a : Nat} (h : a < 2 ^ 64) : (lN a ^^^ (-9223372036854775808)).toInt = (a : Int) - 2 ^ 63 := by
  rw [show (-9223372036854775808 : Int64) = lN (2 ^ 63) from by decide +kernel, lN_xor]
  rcases Nat.lt_or_ge a (2 ^ 63) with z | z
  · rw [xor63 z, lN_ti (by omega), if_neg (by omega)]; omega
  · obtain ⟨x, rfl⟩ : ∃ x, a = 2 ^ 63 + x := ⟨a - 2 ^ 63, by omega⟩
    rw [← xor63 (by omega), Nat.xor_assoc, Nat.xor_self, Nat.xor_zero, lN_ti (by omega), if_pos (by omega), xor63 (by omega)]; omega
theorem ultL {a b : Nat} (ha : a < 2 ^ 64) (hb : b < 2 ^ 64) : ((lN b ^^^ (-9223372036854775808)) ≤ (lN a ^^^ (-9223372036854775808))) ↔ b ≤ a := by
  rw [Int64.le_iff_toInt_le, xorS ha, xorS hb]; omega
/-! ===== Int64 masks of n low bits ===== -/
theorem cr_bits (W U M : BitVec 64) : ((W &&& U) &&& (U &&& (M ^^^ BitVec.allOnes 64))) = 0#64 ↔ (W &&& U) &&& M = W &&& U := by
  constructor
  · intro h
    apply BitVec.eq_of_getLsbD_eq
    intro i hi
    have e := congrArg (fun x => BitVec.getLsbD x i) h
    simp only [BitVec.getLsbD_and, BitVec.getLsbD_xor, BitVec.getLsbD_allOnes, BitVec.getLsbD_zero, hi, decide_true] at e ⊢
    revert e
    cases W.getLsbD i <;> cases U.getLsbD i <;> cases M.getLsbD i <;> decide
  · intro h
    apply BitVec.eq_of_getLsbD_eq
    intro i hi
    have e := congrArg (fun x => BitVec.getLsbD x i) h
    simp only [BitVec.getLsbD_and, BitVec.getLsbD_xor, BitVec.getLsbD_allOnes, BitVec.getLsbD_zero, hi, decide_true] at e ⊢
    revert e
    cases W.getLsbD i <;> cases U.getLsbD i <;> cases M.getLsbD i <;> decide
theorem cr_mask (w U m : Int64) (n : Nat) (hm : m.toBitVec.toNat = 2 ^ n - 1) : ((w &&& U) &&& (U &&& (m ^^^ (-1)))) = 0 ↔ (w &&& U).toBitVec.toNat < 2 ^ n := by
  have e0 : (-1 : Int64).toBitVec = BitVec.allOnes 64 := by decide
  have z0 : (0 : Int64).toBitVec = 0#64 := by decide
  rw [← Int64.toBitVec_inj, z0, Int64.toBitVec_and, Int64.toBitVec_and, Int64.toBitVec_and, Int64.toBitVec_xor, e0, cr_bits]
  generalize w.toBitVec &&& U.toBitVec = T
  rw [← BitVec.toNat_inj, BitVec.toNat_and, hm, Nat.and_two_pow_sub_one_eq_mod]
  constructor
  · intro h
    have t := Nat.mod_lt T.toNat (Nat.two_pow_pos n)
    rw [h] at t
    exact t
  · exact Nat.mod_eq_of_lt
theorem cr_shr (t : Int64) (x : UInt64) (n : Nat) (hx : x.toNat % 64 = n) : (t.toUInt64 >>> x).toInt64 = 0 ↔ t.toBitVec.toNat < 2 ^ n := by
  rw [← Int64.toBitVec_inj, ← BitVec.toNat_inj]
  show (t.toUInt64 >>> x).toNat = 0 ↔ t.toUInt64.toNat < 2 ^ n
  rw [UInt64.toNat_shiftRight, hx, Nat.shiftRight_eq_div_pow]
  constructor
  · intro h
    have d : t.toUInt64.toNat / 2 ^ n < 1 := by
      rw [h]
      decide
    have e := (Nat.div_lt_iff_lt_mul (Nat.two_pow_pos n)).mp d
    rw [Nat.one_mul] at e
    exact e
  · exact Nat.div_eq_of_lt
theorem cr_amt (s : Int64) : ∃ n, n < 64 ∧ s &&& 63 = lN n ∧ (s.toUInt64 &&& Int64.toUInt64 63).toNat % 64 = n := by
  have e : (s.toUInt64 &&& Int64.toUInt64 63).toNat = s.toUInt64.toNat % 2 ^ 6 := by
    rw [UInt64.toNat_and, show (Int64.toUInt64 63).toNat = 2 ^ 6 - 1 from by decide, Nat.and_two_pow_sub_one_eq_mod]
  refine ⟨s.toUInt64.toNat % 2 ^ 6, by omega, ?_, by omega⟩
  rw [← Int64.toBitVec_inj, ← BitVec.toNat_inj]
  show (s.toUInt64 &&& Int64.toUInt64 63).toNat = (BitVec.ofNat 64 (s.toUInt64.toNat % 2 ^ 6)).toNat
  rw [e, BitVec.toNat_ofNat]
  omega
/-! plain facts on numbers and arrays, to paste: each family by itself; over the kit's rows on nI and upd -/
/-! ===== order of ints, in all its forms, and through longs ===== -/
theorem fa_lt (a b : Int32) : a < b ↔ a.toInt < b.toInt := Int32.lt_iff_toInt_lt
theorem fa_le (a b : Int32) : a ≤ b ↔ a.toInt ≤ b.toInt := Int32.le_iff_toInt_le
theorem fa_eq (a b : Int32) : a = b ↔ a.toInt = b.toInt := Int32.toInt_inj.symm
theorem fa_lt64 (a b : Int64) : a < b ↔ a.toInt < b.toInt := Int64.lt_iff_toInt_lt
theorem fa_le64 (a b : Int64) : a ≤ b ↔ a.toInt ≤ b.toInt := Int64.le_iff_toInt_le
theorem fa_eq64 (a b : Int64) : a = b ↔ a.toInt = b.toInt := Int64.toInt_inj.symm
/-- a comparison of two ints taken as longs -/
theorem fa_wide_lt (a b : Int32) : a.toInt64 < b.toInt64 ↔ a < b := by rw [fa_lt64, fa_lt, Int32.toInt_toInt64, Int32.toInt_toInt64]
theorem fa_wide_le (a b : Int32) : a.toInt64 ≤ b.toInt64 ↔ a ≤ b := by rw [fa_le64, fa_le, Int32.toInt_toInt64, Int32.toInt_toInt64]
theorem fa_wide_eq (a b : Int32) : a.toInt64 = b.toInt64 ↔ a = b := by rw [fa_eq64, fa_eq, Int32.toInt_toInt64, Int32.toInt_toInt64]
/-- one strict comparison gives all the others -/
theorem fa_of_lt {a b : Int32} (h : a < b) : a ≤ b ∧ ¬ b ≤ a ∧ ¬ b < a ∧ a ≠ b ∧ b ≠ a := by
  rw [fa_lt] at h
  refine ⟨?_, ?_, ?_, ?_, ?_⟩
  · rw [fa_le]; omega
  · rw [fa_le]; omega
  · rw [fa_lt]; omega
  · intro e; rw [fa_eq] at e; omega
  · intro e; rw [fa_eq] at e; omega
theorem fa_of_nlt {a b : Int32} (h : ¬ a < b) : b ≤ a := by
  rw [fa_lt] at h
  rw [fa_le]
  omega
theorem fa_of_nle {a b : Int32} (h : ¬ a ≤ b) : b < a := by
  rw [fa_le] at h
  rw [fa_lt]
  omega
theorem fa_le_ne {a b : Int32} (h : a ≤ b) (h2 : a ≠ b) : a < b := by
  rw [fa_le] at h
  rw [fa_lt]
  have h3 : a.toInt ≠ b.toInt := fun e => h2 ((fa_eq a b).mpr e)
  omega
theorem fa_three (a b : Int32) : a < b ∨ a = b ∨ b < a := by
  rw [fa_lt, fa_lt, fa_eq]
  omega
theorem fa_trans {a b c : Int32} (h : a < b) (h2 : b ≤ c) : a < c := by
  rw [fa_lt] at *
  rw [fa_le] at h2
  omega
/-! ===== small literals as numbers ===== -/
theorem fa_lit (n : Nat) : (OfNat.ofNat n : Int32) = nI n := rfl
theorem fa_litL (n : Nat) : (OfNat.ofNat n : Int64) = lN n := rfl
/-! ===== bits of a number: 'or', masks, one bit ===== -/
theorem fa_and (a b : Nat) : nI a &&& nI b = nI (a &&& b) := by
  apply Int32.toBitVec_inj.1
  show BitVec.ofNat 32 a &&& BitVec.ofNat 32 b = BitVec.ofNat 32 (a &&& b)
  apply BitVec.eq_of_getLsbD_eq
  intro i hi
  simp [hi]
theorem fa_or (a b : Nat) : nI a ||| nI b = nI (a ||| b) := by
  apply Int32.toBitVec_inj.1
  show BitVec.ofNat 32 a ||| BitVec.ofNat 32 b = BitVec.ofNat 32 (a ||| b)
  apply BitVec.eq_of_getLsbD_eq
  intro i hi
  simp [hi]
/-- a remainder by a power of two, as a mask -/
theorem fa_mask (n k : Nat) : nI n &&& nI (2 ^ k - 1) = nI (n % 2 ^ k) := by rw [fa_and, Nat.and_two_pow_sub_one_eq_mod]
/-- 'or' of a high part and a low one that don't meet is their sum -/
theorem fa_or_sum {a k : Nat} (b : Nat) (h : a < 2 ^ k) : nI (2 ^ k * b) ||| nI a = nI (2 ^ k * b + a) := by rw [fa_or, Nat.two_pow_add_eq_or_of_lt h]
/-- one bit, by 'and' with a power of two -/
theorem fa_bit {n j : Nat} (hj : j < 31) : nI n &&& nI (2 ^ j) = 0 ↔ n.testBit j = false := by
  have h2 : (2 : Nat) ^ j < 2 ^ 31 := Nat.pow_lt_pow_right (by decide) hj
  have hle : n &&& 2 ^ j ≤ 2 ^ j := Nat.and_le_right
  have e : n &&& 2 ^ j = 0 ↔ n.testBit j = false := by
    constructor
    · intro h
      have h1 : (n &&& 2 ^ j).testBit j = false := by rw [h]; simp
      rw [Nat.testBit_and] at h1
      first | simpa using h1 | simpa [Nat.testBit_two_pow_self] using h1 | simpa [Nat.testBit_two_pow] using h1
    · intro h
      apply Nat.eq_of_testBit_eq
      intro i
      rw [Nat.testBit_and]
      by_cases hi : j = i
      · subst hi; simp [h]
      · first | (simp [Nat.testBit_two_pow, hi]; done) | (simp [Nat.testBit_two_pow_of_ne hi]; done)
  rw [fa_and]
  constructor
  · intro h
    apply e.mp
    rcases Nat.eq_zero_or_pos (n &&& 2 ^ j) with z | z
    · exact z
    · exact absurd h (nI_ne0 z (Nat.lt_of_le_of_lt hle h2))
  · intro h
    rw [e.mpr h]; exact nI_0
/-- a remainder by a power of two of a number that isn't negative, as Java divides -/
theorem fa_rem {a k : Nat} (ha : a < 2 ^ 31) (hk : k < 31) : nI a - nI a / nI (2 ^ k) * nI (2 ^ k) = nI (a % 2 ^ k) := pk_rem ha (Nat.two_pow_pos k) (Nat.pow_lt_pow_right (by decide) hk)
/-! ===== cuts to a byte, a short ===== -/
theorem fa_byte_xor (x y : Int32) : (x ^^^ y).toInt8 = x.toInt8 ^^^ y.toInt8 := by
  apply Int8.toBitVec_inj.1
  apply BitVec.eq_of_getLsbD_eq
  intro i hi
  first | (simp [hi]; done) | (simp [hi, BitVec.getLsbD_setWidth, BitVec.getLsbD_signExtend]; done)
theorem fa_short_xor (x y : Int32) : (x ^^^ y).toInt16 = x.toInt16 ^^^ y.toInt16 := by
  apply Int16.toBitVec_inj.1
  apply BitVec.eq_of_getLsbD_eq
  intro i hi
  first | (simp [hi]; done) | (simp [hi, BitVec.getLsbD_setWidth, BitVec.getLsbD_signExtend]; done)
/-- the cut to a byte sees the low byte alone -/
theorem fa_byte_low (x : Int32) : (x &&& 255).toInt8 = x.toInt8 := by
  apply Int8.toBitVec_inj.1
  apply BitVec.eq_of_getLsbD_eq
  intro i hi
  have h2 : (255 : Int32).toBitVec.getLsbD i = true := by
    have : ∀ j : Fin 8, (255 : Int32).toBitVec.getLsbD j.val = true := by decide +kernel
    exact this ⟨i, hi⟩
  have h4 : (x &&& 255).toBitVec.getLsbD i = x.toBitVec.getLsbD i := by
    show (x.toBitVec &&& (255 : Int32).toBitVec).getLsbD i = _
    rw [BitVec.getLsbD_and, h2, Bool.and_true]
  have h3 : i < 32 := by omega
  first
    | (show (((x &&& 255).toBitVec).signExtend 8).getLsbD i = (x.toBitVec.signExtend 8).getLsbD i; rw [BitVec.getLsbD_signExtend, BitVec.getLsbD_signExtend, if_pos h3, if_pos h3, h4])
    | (show (((x &&& 255).toBitVec).setWidth 8).getLsbD i = (x.toBitVec.setWidth 8).getLsbD i; rw [BitVec.getLsbD_setWidth, BitVec.getLsbD_setWidth, h4])
    | (simp [hi, h3, h4]; done)
theorem fa_short_low (x : Int32) : (x &&& 65535).toInt16 = x.toInt16 := by
  apply Int16.toBitVec_inj.1
  apply BitVec.eq_of_getLsbD_eq
  intro i hi
  have h2 : (65535 : Int32).toBitVec.getLsbD i = true := by
    have : ∀ j : Fin 16, (65535 : Int32).toBitVec.getLsbD j.val = true := by decide +kernel
    exact this ⟨i, hi⟩
  have h4 : (x &&& 65535).toBitVec.getLsbD i = x.toBitVec.getLsbD i := by
    show (x.toBitVec &&& (65535 : Int32).toBitVec).getLsbD i = _
    rw [BitVec.getLsbD_and, h2, Bool.and_true]
  have h3 : i < 32 := by omega
  first
    | (show (((x &&& 65535).toBitVec).signExtend 16).getLsbD i = (x.toBitVec.signExtend 16).getLsbD i; rw [BitVec.getLsbD_signExtend, BitVec.getLsbD_signExtend, if_pos h3, if_pos h3, h4])
    | (show (((x &&& 65535).toBitVec).setWidth 16).getLsbD i = (x.toBitVec.setWidth 16).getLsbD i; rw [BitVec.getLsbD_setWidth, BitVec.getLsbD_setWidth, h4])
    | (simp [hi, h3, h4]; done)
/-- a small number is its own byte, its own short -/
theorem fa_byte_small {n : Nat} (h : n < 128) : (nI n).toInt8.toInt32 = nI n := by
  have : ∀ j : Fin 128, (nI j.val).toInt8.toInt32 = nI j.val := by decide +kernel
  exact this ⟨n, h⟩
/-! ===== absolute difference ===== -/
theorem fa_absdiff {a b : Nat} (ha : a < 2 ^ 31) (hb : b < 2 ^ 31) : (if nI a < nI b then nI b - nI a else nI a - nI b) = nI (if a < b then b - a else a - b) := by
  by_cases h : a < b
  · rw [if_pos (nI_lt h hb), if_pos h]
    exact pk_sub (Nat.le_of_lt h)
  · rw [if_neg (nI_nlt (Nat.le_of_not_lt h) ha), if_neg h]
    exact pk_sub (Nat.le_of_not_lt h)
/-! ===== an array behind i stores, a conditional store, a row copied ===== -/
/-- f where k < i, what stood there else -/
def fa_fill {α : Type} (f g : Nat → α) (i : Nat) : Nat → α := fun k => if k < i then f k else g k
theorem fa_fill_0 {α : Type} (f g : Nat → α) : fa_fill f g 0 = g := funext fun k => if_neg (Nat.not_lt_zero k)
theorem fa_fill_in {α : Type} {f g : Nat → α} {i k : Nat} (h : k < i) : fa_fill f g i k = f k := if_pos h
theorem fa_fill_out {α : Type} {f g : Nat → α} {i k : Nat} (h : i ≤ k) : fa_fill f g i k = g k := if_neg (Nat.not_lt.mpr h)
theorem fa_fill_succ (f g : Nat → Int32) (i : Nat) : upd (fa_fill f g i) i (f i) = fa_fill f g (i + 1) := by
  funext k
  by_cases e : k = i
  · subst e
    rw [pk_us]
    exact (if_pos (Nat.lt_succ_self k)).symm
  · rw [pk_un e]
    by_cases h : k < i
    · rw [fa_fill_in h, fa_fill_in (Nat.lt_succ_of_lt h)]
    · rw [fa_fill_out (Nat.le_of_not_lt h), fa_fill_out (by omega)]
/-- a store that changes nothing -/
theorem fa_upd_same {f : Nat → Int32} {i : Nat} {x : Int32} (h : f i = x) : upd f i x = f := by
  funext k
  by_cases e : k = i
  · subst e
    rw [pk_us, h]
  · rw [pk_un e]
/-- a store under a condition, told as one -/
theorem fa_upd_if (c : Prop) [Decidable c] (f : Nat → Int32) (i : Nat) (x : Int32) : (if c then upd f i x else f) = upd f i (if c then x else f i) := by
  by_cases h : c
  · rw [if_pos h, if_pos h]
  · rw [if_neg h, if_neg h, fa_upd_same rfl]
/-- two stores at one place, at two -/
theorem fa_upd_twice (f : Nat → Int32) (i : Nat) (x y : Int32) : upd (upd f i x) i y = upd f i y := by
  funext k
  by_cases e : k = i
  · subst e
    rw [pk_us, pk_us]
  · rw [pk_un e, pk_un e, pk_un e]
theorem fa_upd_swap (f : Nat → Int32) {i j : Nat} (h : i ≠ j) (x y : Int32) : upd (upd f i x) j y = upd (upd f j y) i x := by
  funext k
  by_cases e : k = i
  · subst e
    rw [pk_un h, pk_us, pk_us]
  · by_cases e2 : k = j
    · subst e2
      rw [pk_us, pk_un e, pk_us]
    · rw [pk_un e2, pk_un e, pk_un e, pk_un e2]
/-! ===== the first index with a property; a count ===== -/
/-- the first k < n with p k, n if there is none -/
def fa_first (p : Nat → Bool) : Nat → Nat
  | 0 => 0
  | n + 1 => if fa_first p n < n then fa_first p n else if p n then n else n + 1
theorem fa_first_le (p : Nat → Bool) : ∀ n, fa_first p n ≤ n
  | 0 => Nat.le_refl 0
  | n + 1 => by
    have ih := fa_first_le p n
    unfold fa_first
    split
    · omega
    · split
      · omega
      · omega
theorem fa_first_no (p : Nat → Bool) : ∀ n k, k < fa_first p n → p k = false
  | 0, k, h => absurd h (Nat.not_lt_zero k)
  | n + 1, k, h => by
    have ih := fa_first_no p n
    have hl := fa_first_le p n
    unfold fa_first at h
    split at h
    · exact ih k h
    · rename_i h1
      split at h
      · exact ih k (by omega)
      · rename_i h2
        by_cases e : k = n
        · subst e
          exact Bool.eq_false_iff.mpr h2
        · exact ih k (by omega)
theorem fa_first_yes (p : Nat → Bool) : ∀ n, fa_first p n < n → p (fa_first p n) = true
  | 0, h => absurd h (Nat.not_lt_zero _)
  | n + 1, h => by
    have ih := fa_first_yes p n
    have hl := fa_first_le p n
    unfold fa_first at h ⊢
    split at h
    · rename_i h1
      rw [if_pos h1]
      exact ih h1
    · rename_i h1
      rw [if_neg h1]
      split at h
      · rename_i h2
        rw [if_pos h2]
        exact h2
      · omega
/-- how many k < n have p k -/
def fa_cnt (p : Nat → Bool) : Nat → Nat
  | 0 => 0
  | n + 1 => fa_cnt p n + if p n then 1 else 0
theorem fa_cnt_le (p : Nat → Bool) : ∀ n, fa_cnt p n ≤ n
  | 0 => Nat.le_refl 0
  | n + 1 => by
    have ih := fa_cnt_le p n
    unfold fa_cnt
    split
    · omega
    · omega
theorem fa_cnt_yes {p : Nat → Bool} {n : Nat} (h : p n = true) : fa_cnt p (n + 1) = fa_cnt p n + 1 := by rw [fa_cnt, if_pos h]
theorem fa_cnt_no {p : Nat → Bool} {n : Nat} (h : p n = false) : fa_cnt p (n + 1) = fa_cnt p n := by rw [fa_cnt, if_neg (by rw [h]; decide)]; rfl
theorem fa_cnt_cong {p q : Nat → Bool} : ∀ {n : Nat}, (∀ k, k < n → p k = q k) → fa_cnt p n = fa_cnt q n
  | 0, _ => rfl
  | n + 1, h => by rw [fa_cnt, fa_cnt, fa_cnt_cong (fun k hk => h k (Nat.lt_succ_of_lt hk)), h n (Nat.lt_succ_self n)]
/-! ===== an answer carried into a post; a branch on a boolean answer ===== -/
theorem fa_post {α : Type} {P : α → Prop} {x y : α} (h : x = y) (hp : P y) : P x := h ▸ hp
theorem fa_post2 {α β : Type} {P : α → β → Prop} {x y : α} {u v : β} (h : x = y) (h2 : u = v) (hp : P y v) : P x u := h ▸ h2 ▸ hp
theorem fa_bool {r : Int32} {b : Bool} (h : r = if b then 1 else 0) : (r = 0 ↔ b = false) ∧ (¬ r = 0 ↔ b = true) := by
  subst h
  cases b
  · exact ⟨⟨fun _ => rfl, fun _ => rfl⟩, ⟨fun h => absurd rfl h, fun h => absurd h (by decide)⟩⟩
  · exact ⟨⟨fun h => absurd h (by decide), fun h => absurd h (by decide)⟩, ⟨fun _ => rfl, fun _ => by decide⟩⟩
/-- a boolean's narrowing changes nothing -/
theorem fa_bool_and {r : Int32} (h : r = 0 ∨ r = 1) : r &&& 1 = r := by
  rcases h with rfl | rfl
  · decide
  · decide
theorem fa_bool_prop {c : Prop} [Decidable c] {r : Int32} (h : r = if c then 1 else 0) : (r = 0 ↔ ¬ c) ∧ (¬ r = 0 ↔ c) := by
  subst h
  by_cases hc : c
  · rw [if_pos hc]
    exact ⟨⟨fun h => absurd h (by decide), fun h => absurd hc h⟩, ⟨fun _ => hc, fun _ => by decide⟩⟩
  · rw [if_neg hc]
    exact ⟨⟨fun _ => hc, fun _ => rfl⟩, ⟨fun h => absurd rfl h, fun h => absurd h hc⟩⟩
end
section
/-! ===== words as rows of sounds ===== -/
def wpk : List Nat → Nat
  | [] => 0
  | s :: r => s + 16 * wpk r
def Wok (l : List Nat) : Prop := l.length ≤ 10 ∧ ∀ s ∈ l, s < 16
/-- a word as the class keeps it -/
def eC (l : List Nat) : Int64 := lN (l.length * 1099511627776 + wpk l)
theorem wp_lt : ∀ {l : List Nat}, (∀ s ∈ l, s < 16) → wpk l < 16 ^ l.length
  | [], _ => by simp [wpk]
  | s :: r, h => by
    have h1 := wp_lt (l := r) (fun x hx => h x (List.mem_cons_of_mem _ hx))
    have h2 := h s List.mem_cons_self
    simp only [wpk, List.length_cons, Nat.pow_succ]
    omega
theorem p16 {n : Nat} (h : n ≤ 10) : 16 ^ n ≤ 1099511627776 := by
  have : (16 : Nat) ^ n ≤ 16 ^ 10 := Nat.pow_le_pow_right (by omega) h
  exact Nat.le_trans this (by decide)
theorem wp_lt40 {l : List Nat} (h : Wok l) : wpk l < 1099511627776 := Nat.lt_of_lt_of_le (wp_lt h.2) (p16 h.1)
theorem wp_at : ∀ {l : List Nat} (p : Nat), (∀ s ∈ l, s < 16) → wpk l / 16 ^ p % 16 = l.getD p 0
  | [], p, _ => by simp [wpk]
  | s :: r, 0, h => by
    have h2 := h s List.mem_cons_self
    simp [wpk]
    omega
  | s :: r, p + 1, h => by
    have h2 := h s List.mem_cons_self
    have h1 := wp_at (l := r) p (fun x hx => h x (List.mem_cons_of_mem _ hx))
    have e : wpk (s :: r) / 16 ^ (p + 1) = wpk r / 16 ^ p := by
      rw [Nat.pow_succ, Nat.mul_comm, ← Nat.div_div_eq_div_mul]
      congr 1
      simp only [wpk]
      omega
    rw [e, h1]
    rfl
theorem wp_snoc : ∀ (l : List Nat) (s : Nat), wpk (l ++ [s]) = wpk l + s * 16 ^ l.length
  | [], s => by simp [wpk]
  | a :: r, s => by
    simp only [List.cons_append, wpk, wp_snoc r s, List.length_cons, Nat.pow_succ]
    rw [Nat.mul_add, Nat.add_assoc]
    congr 2
    rw [← Nat.mul_assoc, Nat.mul_comm 16 s, Nat.mul_assoc, Nat.mul_comm 16]
theorem c_size {l : List Nat} (h : Wok l) : (((eC l).toUInt64 >>> ((40 : Int32).toInt64.toUInt64 &&& Int64.toUInt64 63)).toInt64).toInt32 = nI l.length := by
  have h1 := wp_lt40 h
  have h2 := h.1
  unfold eC
  rw [g_ushr (a := l.length * 1099511627776 + wpk l) (k := 40) (p := 1099511627776) (by decide) (by omega) (by decide) (by omega), lN_i]
  congr 1
  omega
theorem Wok.at {l : List Nat} (h : Wok l) (p : Nat) : l.getD p 0 < 16 := by
  by_cases hp : p < l.length
  · rw [List.getD_eq_getElem?_getD, List.getElem?_eq_getElem hp]; exact h.2 _ (List.getElem_mem hp)
  · rw [List.getD_eq_getElem?_getD, List.getElem?_eq_none (by omega)]; decide
theorem c_at {l : List Nat} {p : Nat} (h : Wok l) (hp : p < l.length) : (((eC l).toUInt64 >>> (((4 : Int32) * nI p).toInt64.toUInt64 &&& Int64.toUInt64 63)).toInt64).toInt32 &&& 15 = nI (l.getD p 0) := by
  have h1 := wp_lt40 h
  have h2 := h.1
  have e4 : (4 : Int32) * nI p = nI (4 * p) := by rw [show (4 : Int32) = nI 4 from rfl, pk_mul]
  unfold eC
  rw [e4, g_ushr (a := l.length * 1099511627776 + wpk l) (k := 4 * p) (p := 16 ^ p) (wb_cu _ (by omega)) (by omega) (by rw [Nat.pow_mul]) (by omega), lN_i, show (15 : Int32) = nI (2 ^ 4 - 1) from rfl, fa_mask]
  congr 1
  rw [← wp_at p h.2]
  have e : (1099511627776 : Nat) = 16 ^ p * 16 ^ (10 - p) := by rw [← Nat.pow_add, show p + (10 - p) = 10 by omega]
  have e2 : l.length * 1099511627776 + wpk l = wpk l + 16 ^ p * (16 ^ (10 - p) * l.length) := by rw [e]; rw [Nat.mul_comm l.length, Nat.mul_assoc, Nat.add_comm]
  rw [e2, Nat.add_mul_div_left _ _ (Nat.pos_of_ne_zero (by simp)), show 10 - p = (9 - p) + 1 by omega, Nat.pow_succ, Nat.mul_comm (16 ^ (9 - p)) 16, Nat.mul_assoc]
  omega
theorem c_plus {l : List Nat} {s : Nat} (h : Wok l) (hl : l.length < 10) (hs : s < 16) : (eC l + 1099511627776) ||| ((nI s).toInt64 <<< (((4 : Int32) * nI l.length).toInt64 &&& 63)) = eC (l ++ [s]) := by
  have h1 := wp_lt h.2
  have h2 := wp_lt40 h
  have e4 : (4 : Int32) * nI l.length = nI (4 * l.length) := by rw [show (4 : Int32) = nI 4 from rfl, pk_mul]
  have es : (nI s).toInt64 = lN s := nI_l (by omega)
  have e16 : 16 ^ l.length = 2 ^ (4 * l.length) := by rw [Nat.pow_mul]
  rw [e4, es, wb_c _ (by omega), show (lN (4 * l.length)) = ((nI (4 * l.length)).toInt64 &&& 63) from (wb_c _ (by omega)).symm, wb_shl s (by omega)]
  unfold eC
  rw [show (1099511627776 : Int64) = lN 1099511627776 from rfl, lN_add]
  have hp9 : 16 ^ (l.length + 1) ≤ 1099511627776 := p16 (by omega)
  rw [Nat.pow_succ, e16] at hp9
  rw [e16] at h1
  have hss : s * 2 ^ (4 * l.length) + wpk l < 1099511627776 := by
    have : s * 2 ^ (4 * l.length) ≤ 15 * 2 ^ (4 * l.length) := Nat.mul_le_mul_right _ (by omega)
    omega
  rw [wb_or (by omega) (by omega)]
  congr 1
  rw [wp_snoc, List.length_append, List.length_cons, List.length_nil, e16]
  have a1 : l.length * 1099511627776 + wpk l + 1099511627776 = 2 ^ 40 * (l.length + 1) + wpk l := by omega
  rw [a1, Nat.two_pow_add_eq_or_of_lt (by omega), Nat.or_assoc, Nat.or_comm (wpk l), Nat.mul_comm s, ← Nat.two_pow_add_eq_or_of_lt h1, ← Nat.two_pow_add_eq_or_of_lt (by rw [Nat.mul_comm]; omega)]
  omega
theorem e_size {g : Gp} {l : List Nat} {h : AH} {Q : PQ} (hw : Wok l) (hq : Q (.inl (some (vI (nI l.length)))) h) : Ev g mX8_size [vL (eC l)] h Q := by
  refine nX8_size ?_
  refine rX8_size_0 ?_
  simp only [bX8_size_0, run, Nat.reduceAdd, lg, st1, st2, lkill, lset, fvv, sfv, kind3, cat1, retI, retA, List.length_cons, List.length_nil, true_and, and_true, or_true, true_or, qX8_size]
  rw [c_size hw]
  exact hq
theorem e_at {g : Gp} {l : List Nat} {p : Nat} {h : AH} {Q : PQ} (hw : Wok l) (hp : p < l.length) (hq : Q (.inl (some (vI (nI (l.getD p 0))))) h) : Ev g mX8_at [vL (eC l), vI (nI p)] h Q := by
  refine nX8_at ?_
  refine rX8_at_0 ?_
  simp only [bX8_at_0, run, Nat.reduceAdd, lg, st1, st2, lkill, lset, fvv, sfv, kind3, cat1, retI, retA, List.length_cons, List.length_nil, true_and, and_true, or_true, true_or, qX8_at]
  rw [c_at hw hp]
  exact hq
theorem e_plus {g : Gp} {l : List Nat} {s : Nat} {h : AH} {Q : PQ} (hw : Wok l) (hl : l.length < 10) (hs : s < 16) (hq : Q (.inl (some (vL (eC (l ++ [s]))))) h) : Ev g mX8_plus [vL (eC l), vI (nI s)] h Q := by
  refine nX8_plus ?_
  refine rX8_plus_0 ?_
  simp only [bX8_plus_0, run, Nat.reduceAdd, lg, st1, st2, lkill, lset, fvv, sfv, kind3, cat1, retI, retA, List.length_cons, List.length_nil, true_and, and_true, or_true, true_or, qX8_plus]
  refine sX8_plus_9 (e_size hw ?_)
  simp only [cont, Option.toList, List.cons_append, List.nil_append]
  refine rX8_plus_12 ?_
  simp only [bX8_plus_12, run, Nat.reduceAdd, lg, st1, st2, lkill, lset, fvv, sfv, kind3, cat1, retI, retA, List.length_cons, List.length_nil, true_and, and_true, or_true, true_or, qX8_plus]
  rw [c_plus hw hl hs]
  exact hq
theorem wpk_inj : ∀ {l m : List Nat}, l.length = m.length → (∀ s ∈ l, s < 16) → (∀ s ∈ m, s < 16) → wpk l = wpk m → l = m
  | [], [], _, _, _, _ => rfl
  | [], _ :: _, h, _, _, _ => absurd h (by simp)
  | _ :: _, [], h, _, _, _ => absurd h (by simp)
  | a :: l, b :: m, h, h1, h2, h3 => by
    have a1 := h1 a List.mem_cons_self
    have b1 := h2 b List.mem_cons_self
    simp only [wpk] at h3
    have e1 : a = b := by omega
    have e2 := wpk_inj (l := l) (m := m) (by simpa using h) (fun s hs => h1 s (List.mem_cons_of_mem _ hs)) (fun s hs => h2 s (List.mem_cons_of_mem _ hs)) (by omega)
    rw [e1, e2]
theorem eC_inj {l m : List Nat} (hl : Wok l) (hm : Wok m) : eC l = eC m ↔ l = m := by
  refine ⟨fun e => ?_, fun e => by rw [e]⟩
  have a1 := wp_lt40 hl
  have a2 := wp_lt40 hm
  have b1 := hl.1
  have b2 := hm.1
  have e1 : l.length * 1099511627776 + wpk l = m.length * 1099511627776 + wpk m := (pk_lEQ (by omega) (by omega)).mp e
  exact wpk_inj (by omega) hl.2 hm.2 (by omega)
theorem eC_nil : eC [] = 0 := by decide
theorem wok_nil : Wok [] := ⟨by simp, by simp⟩
theorem eC_0 {l : List Nat} (hl : Wok l) : eC l = 0 ↔ l = [] := by rw [← eC_nil]; exact eC_inj hl wok_nil
end
section
/-! ===== what is known of a heap at any place; what stays ===== -/
def Wf (h : AH) : Prop := 4 ≤ zN h ∧ ∀ a, (a < 4 ∨ zN h ≤ a) → (zK h a).1 = 0
theorem Ex.wf {g : Gp} {M : MD} {pc : Nat} {L st : List AV} {h : AH} {u : Nat × Nat} {Q : PQ} (k : Wf h → Ex g M pc L st h u Q) : Ex g M pc L st h u Q :=
  fun p l e s m args below meth c H locs ls hC hR hS hL hl h1 h2 => k ⟨hR.1, hR.2.2.1⟩ p l e s m args below meth c H locs ls hC hR hS hL hl h1 h2
theorem Wf.lt {h : AH} (w : Wf h) {a t n : Nat} (ha : zK h a = (t, n)) (ht : t ≠ 0) : a < zN h := by
  refine Nat.lt_of_not_le fun q => ht ?_
  have := w.2 a (Or.inr q)
  rw [ha] at this
  exact this
theorem Wf.ge {h : AH} (w : Wf h) {a t n : Nat} (ha : zK h a = (t, n)) (ht : t ≠ 0) : 4 ≤ a := by
  refine Nat.le_of_not_lt fun q => ht ?_
  have := w.2 a (Or.inl q)
  rw [ha] at this
  exact this
/-- cell a is in h' as in h -/
def Sm (h h' : AH) (a : Nat) : Prop := zI h' a = zI h a ∧ zL h' a = zL h a ∧ zD h' a = zD h a ∧ zR h' a = zR h a
def Kp (S : Nat → Prop) (h h' : AH) : Prop := zN h ≤ zN h' ∧ (∀ a, a < zN h → zK h' a = zK h a) ∧ ∀ a, a < zN h → ¬ S a → Sm h h' a
theorem Sm.rf {h : AH} {a : Nat} : Sm h h a := ⟨rfl, rfl, rfl, rfl⟩
theorem Sm.tr {h1 h2 h3 : AH} {a : Nat} (x : Sm h1 h2 a) (y : Sm h2 h3 a) : Sm h1 h3 a := ⟨y.1.trans x.1, y.2.1.trans x.2.1, y.2.2.1.trans x.2.2.1, y.2.2.2.trans x.2.2.2⟩
theorem Kp.rf {S : Nat → Prop} {h : AH} : Kp S h h := ⟨Nat.le_refl _, fun _ _ => rfl, fun _ _ _ => Sm.rf⟩
theorem Kp.tr {S : Nat → Prop} {h1 h2 h3 : AH} (x : Kp S h1 h2) (y : Kp S h2 h3) : Kp S h1 h3 :=
  ⟨Nat.le_trans x.1 y.1, fun a ha => (y.2.1 a (Nat.lt_of_lt_of_le ha x.1)).trans (x.2.1 a ha), fun a ha hs => (x.2.2 a ha hs).tr (y.2.2 a (Nat.lt_of_lt_of_le ha x.1) hs)⟩
/-- what the second step writes may also be new cells of the first -/
theorem Kp.tr2 {S T : Nat → Prop} {h1 h2 h3 : AH} (x : Kp S h1 h2) (y : Kp T h2 h3) (hT : ∀ a, a < zN h1 → T a → S a) : Kp S h1 h3 :=
  ⟨Nat.le_trans x.1 y.1, fun a ha => (y.2.1 a (Nat.lt_of_lt_of_le ha x.1)).trans (x.2.1 a ha), fun a ha hs => (x.2.2 a ha hs).tr (y.2.2 a (Nat.lt_of_lt_of_le ha x.1) (fun t => hs (hT a ha t)))⟩
theorem Kp.mono {S T : Nat → Prop} {h1 h2 : AH} (x : Kp S h1 h2) (hT : ∀ a, a < zN h1 → S a → T a) : Kp T h1 h2 := ⟨x.1, x.2.1, fun a ha hs => x.2.2 a ha (fun t => hs (hT a ha t))⟩
theorem Kp.kd {S : Nat → Prop} {h h' : AH} (x : Kp S h h') (w : Wf h) {a t n : Nat} (ha : zK h a = (t, n)) (ht : t ≠ 0) : zK h' a = (t, n) := (x.2.1 a (w.lt ha ht)).trans ha
theorem Sm.sI {h : AH} {a b k : Nat} {v : Int32} (hb : b ≠ a) : Sm h (sI h a k v) b := ⟨up1_n _ _ hb, rfl, rfl, rfl⟩
theorem Sm.sL {h : AH} {a b k : Nat} {v : Int64} (hb : b ≠ a) : Sm h (sL h a k v) b := ⟨rfl, up1_n _ _ hb, rfl, rfl⟩
theorem Sm.sD {h : AH} {a b k : Nat} {v : UInt64} (hb : b ≠ a) : Sm h (sD h a k v) b := ⟨rfl, rfl, up1_n _ _ hb, rfl⟩
theorem Sm.sR {h : AH} {a b k : Nat} {v : Nat} (hb : b ≠ a) : Sm h (sR h a k v) b := ⟨rfl, rfl, rfl, up1_n _ _ hb⟩
theorem Sm.rwR {h : AH} {a b : Nat} {f : Nat → Nat} (hb : b ≠ a) : Sm h (rwR h a f) b := ⟨rfl, rfl, rfl, up1_n _ _ hb⟩
theorem Sm.rwL {h : AH} {a b : Nat} {f : Nat → Int64} (hb : b ≠ a) : Sm h (rwL h a f) b := ⟨rfl, up1_n _ _ hb, rfl, rfl⟩
theorem Sm.nw {h : AH} {kd : Nat × Nat} {b : Nat} (hb : b ≠ zN h) : Sm h (nw h kd) b := ⟨up1_n _ _ hb, up1_n _ _ hb, up1_n _ _ hb, up1_n _ _ hb⟩
theorem Kp.of {S : Nat → Prop} {h h' : AH} (hn : zN h' = zN h) (hk : zK h' = zK h) (hs : ∀ a, ¬ S a → Sm h h' a) : Kp S h h' := ⟨by rw [hn]; exact Nat.le_refl _, fun _ _ => by rw [hk], fun a _ h => hs a h⟩
theorem Kp.sI {S : Nat → Prop} {h : AH} {a k : Nat} {v : Int32} (ha : S a) : Kp S h (sI h a k v) := Kp.of rfl rfl fun b hb => Sm.sI fun e => hb (e ▸ ha)
theorem Kp.sL {S : Nat → Prop} {h : AH} {a k : Nat} {v : Int64} (ha : S a) : Kp S h (sL h a k v) := Kp.of rfl rfl fun b hb => Sm.sL fun e => hb (e ▸ ha)
theorem Kp.sD {S : Nat → Prop} {h : AH} {a k : Nat} {v : UInt64} (ha : S a) : Kp S h (sD h a k v) := Kp.of rfl rfl fun b hb => Sm.sD fun e => hb (e ▸ ha)
theorem Kp.sR {S : Nat → Prop} {h : AH} {a k : Nat} {v : Nat} (ha : S a) : Kp S h (sR h a k v) := Kp.of rfl rfl fun b hb => Sm.sR fun e => hb (e ▸ ha)
theorem Kp.rwR {S : Nat → Prop} {h : AH} {a : Nat} {f : Nat → Nat} (ha : S a) : Kp S h (rwR h a f) := Kp.of rfl rfl fun b hb => Sm.rwR fun e => hb (e ▸ ha)
theorem Kp.rwL {S : Nat → Prop} {h : AH} {a : Nat} {f : Nat → Int64} (ha : S a) : Kp S h (rwL h a f) := Kp.of rfl rfl fun b hb => Sm.rwL fun e => hb (e ▸ ha)
theorem Kp.nw {S : Nat → Prop} {h : AH} {kd : Nat × Nat} : Kp S h (nw h kd) :=
  ⟨Nat.le_succ _, fun a ha => up1_n _ _ (Nat.ne_of_lt ha), fun a ha _ => Sm.nw (Nat.ne_of_lt ha)⟩
theorem Kp.bump {S : Nat → Prop} {h : AH} {n : Nat} (hn : zN h ≤ n) : Kp S h (bump h n) := ⟨hn, fun _ _ => rfl, fun _ _ _ => Sm.rf⟩
theorem zI_sI {h : AH} {a k : Nat} {v : Int32} : zI (sI h a k v) a = up1 (zI h a) k v := up1_s _ _ _
theorem zL_sL {h : AH} {a k : Nat} {v : Int64} : zL (sL h a k v) a = up1 (zL h a) k v := up1_s _ _ _
theorem zR_sR {h : AH} {a k : Nat} {v : Nat} : zR (sR h a k v) a = up1 (zR h a) k v := up1_s _ _ _
theorem zR_rwR {h : AH} {a : Nat} {f : Nat → Nat} : zR (rwR h a f) a = f := up1_s _ _ _
theorem zL_rwL {h : AH} {a : Nat} {f : Nat → Int64} : zL (rwL h a f) a = f := up1_s _ _ _
theorem zK_nw {h : AH} {kd : Nat × Nat} : zK (nw h kd) (zN h) = kd := up1_s _ _ _
theorem wf_nw {h : AH} {kd : Nat × Nat} (w : Wf h) : Wf (nw h kd) := by
  refine ⟨Nat.le_succ_of_le w.1, fun a ha => ?_⟩
  have h9 : a < 4 ∨ zN h + 1 ≤ a := ha
  have := w.1
  have hk : zK (nw h kd) a = zK h a := up1_n _ _ (show a ≠ h.1 from (by show a ≠ zN h; omega))
  rw [hk]
  exact w.2 a (by omega)
theorem bn_t {P A B : Prop} (h : P) (b : B) : (¬ P → A) ∧ (P → B) := ⟨fun n => absurd h n, fun _ => b⟩
theorem bn_f {P A B : Prop} (h : ¬ P) (a : A) : (¬ P → A) ∧ (P → B) := ⟨fun _ => a, fun n => absurd n h⟩
theorem bn_c {P A B : Prop} (a : ¬ P → A) (b : P → B) : (¬ P → A) ∧ (P → B) := ⟨a, b⟩
theorem kL {h : AH} {a k : Nat} {v : Int64} : zK (sL h a k v) = zK h := rfl
theorem kI {h : AH} {a k : Nat} {v : Int32} : zK (sI h a k v) = zK h := rfl
theorem kD {h : AH} {a k : Nat} {v : UInt64} : zK (sD h a k v) = zK h := rfl
theorem kR {h : AH} {a k : Nat} {v : Nat} : zK (sR h a k v) = zK h := rfl
theorem rL {h : AH} {a k : Nat} {v : Int64} : zR (sL h a k v) = zR h := rfl
theorem rI {h : AH} {a k : Nat} {v : Int32} : zR (sI h a k v) = zR h := rfl
theorem rD {h : AH} {a k : Nat} {v : UInt64} : zR (sD h a k v) = zR h := rfl
theorem iL {h : AH} {a k : Nat} {v : Int64} : zI (sL h a k v) = zI h := rfl
theorem iD {h : AH} {a k : Nat} {v : UInt64} : zI (sD h a k v) = zI h := rfl
theorem iR {h : AH} {a k : Nat} {v : Nat} : zI (sR h a k v) = zI h := rfl
theorem lI {h : AH} {a k : Nat} {v : Int32} : zL (sI h a k v) = zL h := rfl
theorem lD {h : AH} {a k : Nat} {v : UInt64} : zL (sD h a k v) = zL h := rfl
theorem lR {h : AH} {a k : Nat} {v : Nat} : zL (sR h a k v) = zL h := rfl
theorem tti {P : Prop} : (True → P) ↔ P := ⟨fun f => f trivial, fun p _ => p⟩
end
section
/-! ===== ArrayList ===== -/
/-- the list at a, its row e, what it holds -/
def LsR (h : AH) (a e : Nat) (xs : List Nat) : Prop := zK h a = (1, 0) ∧ zI h a 2 = nI xs.length ∧ zR h a 1 = e ∧ ((e = 2 ∧ xs = []) ∨ ∃ cap, zK h e = (6, cap) ∧ xs.length ≤ cap ∧ (cap = 10 ∨ cap = 15) ∧ ∀ i, i < xs.length → zR h e i = xs.getD i 0)
theorem LsR.len {h : AH} {a e : Nat} {xs : List Nat} (hl : LsR h a e xs) : xs.length ≤ 15 := by
  rcases hl.2.2.2 with ⟨-, rfl⟩ | ⟨cap, -, h1, h2, -⟩
  · simp
  · omega
theorem l_size {g : Gp} {h : AH} {Q : PQ} {a e : Nat} {xs : List Nat} (hl : LsR h a e xs) (hq : Q (.inl (some (vI (nI xs.length)))) h) : Ev g mJx4a65c_size_8abf5 [vR a] h Q := by
  refine nJx4a65c_size_8abf5 ?_
  refine rJx4a65c_size_8abf5_0 ?_
  simp only [bJx4a65c_size_8abf5_0, run, Nat.reduceAdd, lg, st1, st2, lkill, lset, fvv, sfv, kind3, cat1, retI, retA, List.length_cons, List.length_nil, true_and, and_true, or_true, true_or, qJx4a65c_size_8abf5]
  rw [hl.2.1]
  exact ⟨hl.1, hq⟩
theorem l_chk3 {g : Gp} {h : AH} {Q : PQ} {i n : Nat} {b : Nat} (hi : i < n) (hn : n < 2 ^ 31) (hq : Q (.inl (some (vI (nI i)))) h) : Ev g mJ3_checkIndex_8e157 [vI (nI i), vI (nI n), vR b] h Q := by
  refine nJ3_checkIndex_8e157 ?_
  refine rJ3_checkIndex_8e157_0 ?_
  simp only [bJ3_checkIndex_8e157_0, run, Nat.reduceAdd, lg, st1, st2, lkill, lset, fvv, sfv, kind3, cat1, retI, retA, List.length_cons, List.length_nil, true_and, and_true, or_true, true_or, qJ3_checkIndex_8e157]
  refine br_f (nI_pos (by omega)) (br_t (nI_lt hi hn) ?_)
  refine rJ3_checkIndex_8e157_16 ?_
  simp only [bJ3_checkIndex_8e157_16, run, Nat.reduceAdd, lg, st1, st2, lkill, lset, fvv, sfv, kind3, cat1, retI, retA, List.length_cons, List.length_nil, true_and, and_true, or_true, true_or, qJ3_checkIndex_8e157]
  exact hq
theorem l_chk {g : Gp} {h : AH} {Q : PQ} {i n : Nat} (hi : i < n) (hn : n < 2 ^ 31) (hq : Q (.inl (some (vI (nI i)))) h) : Ev g mJ15_checkIndex_7cf53 [vI (nI i), vI (nI n)] h Q := by
  refine nJ15_checkIndex_7cf53 ?_
  refine rJ15_checkIndex_7cf53_0 ?_
  simp only [bJ15_checkIndex_7cf53_0, run, Nat.reduceAdd, lg, st1, st2, lkill, lset, fvv, sfv, kind3, cat1, retI, retA, List.length_cons, List.length_nil, true_and, and_true, or_true, true_or, qJ15_checkIndex_7cf53]
  refine sJ15_checkIndex_7cf53_3 (l_chk3 hi hn ?_)
  simp only [cont, Option.toList, List.cons_append, List.nil_append]
  refine rJ15_checkIndex_7cf53_6 ?_
  simp only [bJ15_checkIndex_7cf53_6, run, Nat.reduceAdd, lg, st1, st2, lkill, lset, fvv, sfv, kind3, cat1, retI, retA, List.length_cons, List.length_nil, true_and, and_true, or_true, true_or, qJ15_checkIndex_7cf53]
  exact hq
theorem l_isEmpty {g : Gp} {h : AH} {Q : PQ} {a e : Nat} {xs : List Nat} (hl : LsR h a e xs) (hq : Q (.inl (some (vI (if xs.length = 0 then 1 else 0)))) h) : Ev g mJx4a65c_isEmpty_aae02 [vR a] h Q := by
  refine nJx4a65c_isEmpty_aae02 ?_
  refine rJx4a65c_isEmpty_aae02_0 ?_
  simp only [bJx4a65c_isEmpty_aae02_0, run, Nat.reduceAdd, lg, st1, st2, lkill, lset, fvv, sfv, kind3, cat1, retI, retA, List.length_cons, List.length_nil, true_and, and_true, or_true, true_or, qJx4a65c_isEmpty_aae02]
  rw [hl.2.1]
  have hn := hl.len
  refine ⟨hl.1, fun h0 => ?_, fun h0 => ?_⟩
  · refine rJx4a65c_isEmpty_aae02_11 ?_
    simp only [bJx4a65c_isEmpty_aae02_11, run, Nat.reduceAdd, lg, st1, st2, lkill, lset, fvv, sfv, kind3, cat1, retI, retA, List.length_cons, List.length_nil, true_and, and_true, or_true, true_or, qJx4a65c_isEmpty_aae02]
    rw [if_neg (fun e => h0 (by rw [e]; rfl))] at hq
    exact hq
  · rw [if_pos ((nI_eq (b := 0) (by omega) (by omega)).mp h0)] at hq
    exact hq
theorem l_elData {g : Gp} {h : AH} {Q : PQ} {a e i : Nat} {xs : List Nat} (hl : LsR h a e xs) (hi : i < xs.length) (hq : Q (.inl (some (vR (xs.getD i 0)))) h) : Ev g mJx4a65c_elementData_915e3 [vR a, vI (nI i)] h Q := by
  refine nJx4a65c_elementData_915e3 ?_
  refine rJx4a65c_elementData_915e3_0 ?_
  simp only [bJx4a65c_elementData_915e3_0, run, Nat.reduceAdd, lg, st1, st2, lkill, lset, fvv, sfv, kind3, cat1, retI, retA, List.length_cons, List.length_nil, true_and, and_true, or_true, true_or, qJx4a65c_elementData_915e3]
  obtain ⟨h1, h2, h3, h4⟩ := hl
  rcases h4 with ⟨-, rfl⟩ | ⟨cap, k1, k2, k3, k5⟩
  · simp at hi
  rw [h3, k1, nI_clamp (by omega), k5 i hi]
  exact ⟨h1, Or.inl rfl, vp_in_nI (by omega) (by omega), hq⟩
theorem l_get {g : Gp} {h : AH} {Q : PQ} {a e i : Nat} {xs : List Nat} (hl : LsR h a e xs) (hi : i < xs.length) (hq : Q (.inl (some (vR (xs.getD i 0)))) h) : Ev g mJx4a65c_get_915e3 [vR a, vI (nI i)] h Q := by
  have hn := hl.len
  refine nJx4a65c_get_915e3 ?_
  refine rJx4a65c_get_915e3_0 ?_
  simp only [bJx4a65c_get_915e3_0, run, Nat.reduceAdd, lg, st1, st2, lkill, lset, fvv, sfv, kind3, cat1, retI, retA, List.length_cons, List.length_nil, true_and, and_true, or_true, true_or, qJx4a65c_get_915e3]
  rw [hl.2.1]
  refine ⟨hl.1, ?_⟩
  refine sJx4a65c_get_915e3_5 (l_chk hi (by omega) ?_)
  simp only [cont, Option.toList, List.cons_append, List.nil_append]
  refine rJx4a65c_get_915e3_8 ?_
  simp only [bJx4a65c_get_915e3_8, run, Nat.reduceAdd, lg, st1, st2, lkill, lset, fvv, sfv, kind3, cat1, retI, retA, List.length_cons, List.length_nil, true_and, and_true, or_true, true_or, qJx4a65c_get_915e3]
  refine sJx4a65c_get_915e3_11 hl.1 (l_elData hl hi ?_)
  simp only [cont, Option.toList, List.cons_append, List.nil_append]
  refine rJx4a65c_get_915e3_14 ?_
  simp only [bJx4a65c_get_915e3_14, run, Nat.reduceAdd, lg, st1, st2, lkill, lset, fvv, sfv, kind3, cat1, retI, retA, List.length_cons, List.length_nil, true_and, and_true, or_true, true_or, qJx4a65c_get_915e3]
  exact hq
theorem l_newLen {g : Gp} {h : AH} {Q : PQ} (hq : Q (.inl (some (vI 15))) h) : Ev g mJ8_newLength_cabcc [vI 10, vI 1, vI 5] h Q := by
  refine nJ8_newLength_cabcc ?_
  refine rJ8_newLength_cabcc_0 ?_
  simp only [bJ8_newLength_cabcc_0, run, Nat.reduceAdd, lg, st1, st2, lkill, lset, fvv, sfv, kind3, cat1, retI, retA, List.length_cons, List.length_nil, true_and, and_true, or_true, true_or, qJ8_newLength_cabcc]
  refine sJ8_newLength_cabcc_3 ?_
  refine rJ8_newLength_cabcc_6 ?_
  simp only [bJ8_newLength_cabcc_6, run, Nat.reduceAdd, lg, st1, st2, lkill, lset, fvv, sfv, kind3, cat1, retI, retA, List.length_cons, List.length_nil, true_and, and_true, or_true, true_or, qJ8_newLength_cabcc]
  refine br_f (by decide) (br_f (by decide) ?_)
  exact hq
theorem l_copy3 {g : Gp} {h : AH} {Q : PQ} {e ci : Nat} {r : vw_C} (he : zK h e = (6, 10)) (hc : clt[ci]? = some r) (hcast : Cond.castable r.1 "java/lang/Object" ∈ lw_n) (hel : ∀ i, i < 10 → zK h (zR h e i) = (1, ci)) (hq : Q (.inl (some (vR (zN h)))) (rwR (nw h (6, 15)) (zN h) (fun j => if j < 10 then zR h e j else 0))) : Ev g mJ7_copyOf_6403c [vR e, vI 15, vR 3] h Q := by
  refine nJ7_copyOf_6403c ?_
  refine Ex.wf (fun w => ?_)
  have hne : e ≠ zN h := Nat.ne_of_lt (w.lt he (by decide))
  have hk1 : zK (nw h (6, 15)) e = (6, 10) := (up1_n _ _ hne).trans he
  have hk2 : zK (nw h (6, 15)) (zN h) = (6, 15) := zK_nw
  have hr1 : zR (nw h (6, 15)) e = zR h e := up1_n _ _ hne
  have hr2 : zR (nw h (6, 15)) (zN h) = fun _ => 0 := up1_s _ _ _
  refine rJ7_copyOf_6403c_0 ?_
  simp only [bJ7_copyOf_6403c_0, run, Nat.reduceAdd, lg, st1, st2, lkill, lset, fvv, sfv, kind3, cat1, retI, retA, List.length_cons, List.length_nil, true_and, and_true, or_true, true_or, qJ7_copyOf_6403c]
  refine x_ldcM (i := 110) (lg_mem (by decide +kernel) rfl) (by decide +kernel) ?_
  refine x_acmp_ne_same (t := 13) (off := 10) (by decide) (by decide +kernel) ?_
  refine rJ7_copyOf_6403c_6 ?_
  simp only [bJ7_copyOf_6403c_6, run, Nat.reduceAdd, lg, st1, st2, lkill, lset, fvv, sfv, kind3, cat1, retI, retA, List.length_cons, List.length_nil, true_and, and_true, or_true, true_or, qJ7_copyOf_6403c]
  refine x_anewarray (t := 6) (N := 15) (i := 2) (Or.inl rfl) (lg_mem (by decide +kernel) rfl) (ln_mem (by decide +kernel) rfl) (by decide) (by decide) (by decide) (by decide) (by decide) (by decide +kernel) ?_
  refine rJ7_copyOf_6403c_10 ?_
  simp only [bJ7_copyOf_6403c_10, run, Nat.reduceAdd, lg, st1, st2, lkill, lset, fvv, sfv, kind3, cat1, retI, retA, List.length_cons, List.length_nil, true_and, and_true, or_true, true_or, qJ7_copyOf_6403c]
  rw [hk1]
  refine ⟨by decide, ?_⟩
  refine sJ7_copyOf_6403c_32 ?_
  refine x_copyq (i := 150) (ci := ci) (r := r) (sp := 0) (dp := 0) (n := if (15 : Int32) < nI 10 then 15 else nI 10) (n0 := 10) (n1 := 15) ⟨lg_mem (by decide +kernel) rfl, lg_mem (by decide +kernel) rfl, lg_mem (by decide +kernel) rfl, lg_mem (by decide +kernel) rfl⟩ hk1 hk2 hc hcast (by decide) (by decide) (by decide) (by decide) (by decide) ?_ (by decide) (by decide) (by decide +kernel) ?_
  · intro j hj _
    have hj2 : j < 10 := hj
    have hz : (0 : Int32).toNatClampNeg = 0 := by decide
    rw [hr1, hz, Nat.zero_add]
    have hk3 := hel j hj2
    exact (up1_n _ _ (Nat.ne_of_lt (w.lt hk3 (by decide)))).trans hk3
  refine rJ7_copyOf_6403c_38 ?_
  simp only [bJ7_copyOf_6403c_38, run, Nat.reduceAdd, lg, st1, st2, lkill, lset, fvv, sfv, kind3, cat1, retI, retA, List.length_cons, List.length_nil, true_and, and_true, or_true, true_or, qJ7_copyOf_6403c]
  have ef : va_cpy (zR (nw h (6, 15)) e) (zR (nw h (6, 15)) (zN h)) (0 : Int32).toNatClampNeg (0 : Int32).toNatClampNeg (if (15 : Int32) < nI 10 then 15 else nI 10).toNatClampNeg = fun j => if j < 10 then zR h e j else 0 := by
    rw [hr1, hr2, show (0 : Int32).toNatClampNeg = 0 by decide, show (if (15 : Int32) < nI 10 then 15 else nI 10).toNatClampNeg = 10 by decide]
    funext j
    simp [va_cpy]
  rw [ef]
  exact hq
theorem l_copy2 {g : Gp} {h : AH} {Q : PQ} {e ci : Nat} {r : vw_C} (he : zK h e = (6, 10)) (hc : clt[ci]? = some r) (hcast : Cond.castable r.1 "java/lang/Object" ∈ lw_n) (hel : ∀ i, i < 10 → zK h (zR h e i) = (1, ci)) (hq : Q (.inl (some (vR (zN h)))) (rwR (nw h (6, 15)) (zN h) (fun j => if j < 10 then zR h e j else 0))) : Ev g mJ7_copyOf_1904c [vR e, vI 15] h Q := by
  refine nJ7_copyOf_1904c ?_
  refine rJ7_copyOf_1904c_0 ?_
  simp only [bJ7_copyOf_1904c_0, run, Nat.reduceAdd, lg, st1, st2, lkill, lset, fvv, sfv, kind3, cat1, retI, retA, List.length_cons, List.length_nil, true_and, and_true, or_true, true_or, qJ7_copyOf_1904c]
  refine x_getC (i := 86) (lg_mem (by decide +kernel) rfl) (ln_mem (by decide +kernel) rfl) (lg_mem (by decide +kernel) rfl) (lg_mem (by decide +kernel) rfl) (lg_mem (by decide +kernel) rfl) he (by decide) (Nat.le_of_ble_eq_true rfl) (by decide +kernel) ?_
  refine sJ7_copyOf_1904c_6 (by decide) (l_copy3 he hc hcast hel ?_)
  simp only [cont, Option.toList, List.cons_append, List.nil_append]
  refine rJ7_copyOf_1904c_9 ?_
  simp only [bJ7_copyOf_1904c_9, run, Nat.reduceAdd, lg, st1, st2, lkill, lset, fvv, sfv, kind3, cat1, retI, retA, List.length_cons, List.length_nil, true_and, and_true, or_true, true_or, qJ7_copyOf_1904c]
  exact hq
/-- the row is full: a new one -/
def GrP (h : AH) (a : Nat) (xs : List Nat) (h' : AH) : Prop := zN h' = zN h + 1 ∧ Kp (fun b => b = a) h h' ∧ zI h' a = zI h a ∧ zR h' a 1 = zN h ∧ ∃ cap, (cap = 10 ∨ cap = 15) ∧ xs.length < cap ∧ zK h' (zN h) = (6, cap) ∧ ∀ i, i < xs.length → zR h' (zN h) i = xs.getD i 0
def FullL (h : AH) (e ci : Nat) (xs : List Nat) : Prop := (e = 2 ∧ xs = []) ∨ (zK h e = (6, 10) ∧ xs.length = 10 ∧ (∀ i, i < 10 → zR h e i = xs.getD i 0) ∧ ∀ i, i < 10 → zK h (xs.getD i 0) = (1, ci))
theorem l_growI {g : Gp} {h : AH} {Q : PQ} {a e ci : Nat} {r : vw_C} {xs : List Nat} (ha : zK h a = (1, 0)) (hr : zR h a 1 = e) (hf : FullL h e ci xs) (hc : clt[ci]? = some r) (hcast : Cond.castable r.1 "java/lang/Object" ∈ lw_n) (hq : ∀ h', GrP h a xs h' → Q (.inl (some (vR (zN h)))) h') : Ev g mJx4a65c_grow_92f84 [vR a, vI (nI xs.length + 1)] h Q := by
  refine nJx4a65c_grow_92f84 ?_
  refine Ex.wf (fun w => ?_)
  have hna : a ≠ zN h := Nat.ne_of_lt (w.lt ha (by decide))
  refine rJx4a65c_grow_92f84_0 ?_
  simp only [bJx4a65c_grow_92f84_0, run, Nat.reduceAdd, lg, st1, st2, lkill, lset, fvv, sfv, kind3, cat1, retI, retA, List.length_cons, List.length_nil, true_and, and_true, or_true, true_or, qJx4a65c_grow_92f84]
  rw [hr]
  rcases hf with ⟨rfl, rfl⟩ | ⟨k1, k2, k3, k4⟩
  · rw [show alen h 2 = 0 from if_pos rfl]
    refine ⟨ha, Or.inl rfl, br_f (by decide) ⟨ha, ?_⟩⟩
    refine x_gets (i := 39) (lg_mem (by decide +kernel) rfl) (by decide +kernel) ?_
    refine x_acmp_eq (t := 45) (off := 28) (by decide) (by decide) (by decide) (by decide +kernel) (fun _ => ?_) (fun hn => absurd rfl hn)
    refine rJx4a65c_grow_92f84_45 ?_
    simp only [bJx4a65c_grow_92f84_45, run, Nat.reduceAdd, lg, st1, st2, lkill, lset, fvv, sfv, kind3, cat1, retI, retA, List.length_cons, List.length_nil, true_and, and_true, or_true, true_or, qJx4a65c_grow_92f84]
    refine sJx4a65c_grow_92f84_49 ?_
    refine x_anewarray (t := 6) (N := 10) (i := 7) (Or.inl rfl) (lg_mem (by decide +kernel) rfl) (ln_mem (by decide +kernel) rfl) (by decide) (by decide) (by decide) (by decide) (by decide) (by decide +kernel) ?_
    refine rJx4a65c_grow_92f84_55 ?_
    simp only [bJx4a65c_grow_92f84_55, run, Nat.reduceAdd, lg, st1, st2, lkill, lset, fvv, sfv, kind3, cat1, retI, retA, List.length_cons, List.length_nil, true_and, and_true, or_true, true_or, qJx4a65c_grow_92f84]
    refine ⟨(up1_n _ _ hna).trans ha, hq _ ⟨rfl, Kp.nw.tr2 (Kp.sR (S := fun b => b = a) rfl) (fun _ _ h => h), up1_n _ _ hna, ?_, 10, Or.inl rfl, by decide, ?_, fun i hi => absurd hi (by simp)⟩⟩
    · rw [zR_sR]; exact up1_s _ _ _
    · exact zK_nw
  · have e2 : alen h e = nI 10 := by unfold alen; rw [if_neg (fun q => by subst q; have := w.2 2 (Or.inl (by decide)); rw [k1] at this; exact absurd this (by decide)), k1]
    rw [e2, k1, k2]
    refine ⟨ha, Or.inr (by decide), br_t (by decide) ?_⟩
    refine rJx4a65c_grow_92f84_20 ?_
    simp only [bJx4a65c_grow_92f84_20, run, Nat.reduceAdd, lg, st1, st2, lkill, lset, fvv, sfv, kind3, cat1, retI, retA, List.length_cons, List.length_nil, true_and, and_true, or_true, true_or, qJx4a65c_grow_92f84]
    rw [show nI 10 + 1 - nI 10 = 1 by decide, show nI 10 >>> ((1 : Int32) &&& 31) = 5 by decide, show nI 10 = 10 by decide]
    refine sJx4a65c_grow_92f84_27 (l_newLen ?_)
    simp only [cont, Option.toList, List.cons_append, List.nil_append]
    refine rJx4a65c_grow_92f84_30 ?_
    simp only [bJx4a65c_grow_92f84_30, run, Nat.reduceAdd, lg, st1, st2, lkill, lset, fvv, sfv, kind3, cat1, retI, retA, List.length_cons, List.length_nil, true_and, and_true, or_true, true_or, qJx4a65c_grow_92f84]
    rw [hr]
    refine ⟨ha, ?_⟩
    refine sJx4a65c_grow_92f84_37 (by decide) (l_copy2 k1 hc hcast (fun i hi => by rw [k3 i hi]; exact k4 i hi) ?_)
    simp only [cont, Option.toList, List.cons_append, List.nil_append]
    refine rJx4a65c_grow_92f84_40 ?_
    simp only [bJx4a65c_grow_92f84_40, run, Nat.reduceAdd, lg, st1, st2, lkill, lset, fvv, sfv, kind3, cat1, retI, retA, List.length_cons, List.length_nil, true_and, and_true, or_true, true_or, qJx4a65c_grow_92f84]
    refine ⟨(up1_n _ _ hna).trans ha, hq _ ⟨rfl, ?_, up1_n _ _ hna, ?_, 15, Or.inr rfl, by omega, ?_, fun i hi => ?_⟩⟩
    · refine (Kp.nw (S := fun b => b = a) (h := h) (kd := (6, 15))).tr2 ((Kp.rwR (S := fun b => b = a ∨ b = zN h) (Or.inr rfl)).tr (Kp.sR (Or.inl rfl))) (fun b hb hs => ?_)
      rcases hs with e3 | e3
      · exact e3
      · exact absurd e3 (Nat.ne_of_lt hb)
    · rw [zR_sR]; exact up1_s _ _ _
    · exact zK_nw
    · have : zR (sR (rwR (nw h (6, 15)) (zN h) (fun j => if j < 10 then zR h e j else 0)) a 1 (zN h)) (zN h) = fun j => if j < 10 then zR h e j else 0 := (up1_n _ _ (Ne.symm hna)).trans (up1_s _ _ _)
      rw [this]
      simp only [show i < 10 by omega, if_true]
      exact k3 i (by omega)
theorem l_grow {g : Gp} {h : AH} {Q : PQ} {a e ci : Nat} {r : vw_C} {xs : List Nat} (hl : LsR h a e xs) (hf : FullL h e ci xs) (hc : clt[ci]? = some r) (hcast : Cond.castable r.1 "java/lang/Object" ∈ lw_n) (hq : ∀ h', GrP h a xs h' → Q (.inl (some (vR (zN h)))) h') : Ev g mJx4a65c_grow_d5877 [vR a] h Q := by
  refine nJx4a65c_grow_d5877 ?_
  refine rJx4a65c_grow_d5877_0 ?_
  simp only [bJx4a65c_grow_d5877_0, run, Nat.reduceAdd, lg, st1, st2, lkill, lset, fvv, sfv, kind3, cat1, retI, retA, List.length_cons, List.length_nil, true_and, and_true, or_true, true_or, qJx4a65c_grow_d5877]
  rw [hl.2.1]
  refine ⟨hl.1, ?_⟩
  refine sJx4a65c_grow_d5877_7 (by decide) hl.1 (l_growI hl.1 hl.2.2.1 hf hc hcast (fun h' hg => ?_))
  simp only [cont, Option.toList, List.cons_append, List.nil_append]
  refine rJx4a65c_grow_d5877_10 ?_
  simp only [bJx4a65c_grow_d5877_10, run, Nat.reduceAdd, lg, st1, st2, lkill, lset, fvv, sfv, kind3, cat1, retI, retA, List.length_cons, List.length_nil, true_and, and_true, or_true, true_or, qJx4a65c_grow_d5877]
  exact hq h' hg
/-- behind an addition: the row e' is the old one, or new -/
def AdP (h : AH) (a e : Nat) (xs : List Nat) (x : Nat) (h' : AH) : Prop := ∃ e', LsR h' a e' (xs ++ [x]) ∧ (e' = e ∨ e' = zN h) ∧ Kp (fun b => b = a ∨ b = e ∧ e ≠ 2) h h' ∧ zN h' ≤ zN h + 1
theorem LsR.e2 {h : AH} {a e : Nat} {xs : List Nat} (w : Wf h) (hl : LsR h a e xs) : e = 2 ∨ 4 ≤ e := by
  rcases hl.2.2.2 with ⟨e, -⟩ | ⟨cap, k1, -⟩
  · exact Or.inl e
  · exact Or.inr (w.ge k1 (by decide))
theorem l_put {g : Gp} {h : AH} {Q : PQ} {a e x ci cap : Nat} {r : vw_C} {xs : List Nat} {u : Nat × Nat} (ha : zK h a = (1, 0)) (hr : zR h a 1 = e) (hs : zI h a 2 = nI xs.length) (he : zK h e = (6, cap)) (h1 : xs.length < cap) (h2 : cap = 10 ∨ cap = 15) (hx : zK h x = (1, ci)) (hel : ∀ i, i < xs.length → zR h e i = xs.getD i 0) (hc : clt[ci]? = some r) (hcast : Cond.castable r.1 "java/lang/Object" ∈ lw_n)
    (hq : LsR (sI (sR h e xs.length x) a 2 (nI (xs.length + 1))) a e (xs ++ [x]) → Q (.inl none) (sI (sR h e xs.length x) a 2 (nI (xs.length + 1)))) : Ex g mJx4a65c_add_72be8 14 [vR a, vR x, vR e, vI (nI xs.length)] [vR x, vI (nI xs.length), vR e] h u Q := by
  refine Ex.wf (fun w => ?_)
  have hne : a ≠ e := fun q => by rw [q, he] at ha; exact absurd ha (by simp)
  refine x_aastore (t := 6) he (vp_in_nI h1 (by omega)) hx hc (Or.inl ⟨rfl, hcast⟩) (by decide +kernel) ?_
  rw [nI_clamp (by omega)]
  refine rJx4a65c_add_72be8_15 ?_
  simp only [bJx4a65c_add_72be8_15, run, Nat.reduceAdd, lg, st1, st2, lkill, lset, fvv, sfv, kind3, cat1, retI, retA, List.length_cons, List.length_nil, true_and, and_true, or_true, true_or, qJx4a65c_add_72be8]
  rw [nI_1]
  refine ⟨ha, hq ⟨ha, ?_, ?_, Or.inr ⟨cap, he, ?_, h2, fun i hi => ?_⟩⟩⟩
  · rw [zI_sI, up1_s, List.length_append, List.length_cons, List.length_nil]
  · exact (congrFun (up1_n _ _ hne : zR (sR h e xs.length x) a = zR h a) 1).trans hr
  · simp; omega
  · have e1 : zR (sI (sR h e xs.length x) a 2 (nI (xs.length + 1))) e = up1 (zR h e) xs.length x := zR_sR
    rw [e1]
    simp only [List.length_append, List.length_cons, List.length_nil] at hi
    by_cases e2 : i = xs.length
    · subst e2; rw [up1_s]; simp
    · rw [up1_n _ _ e2, hel i (by omega)]
      simp [List.getD_eq_getElem?_getD, List.getElem?_append_left (show i < xs.length by omega)]
theorem l_add3 {g : Gp} {h : AH} {Q : PQ} {a e x ci : Nat} {r : vw_C} {xs : List Nat} (hl : LsR h a e xs) (hlen : xs.length < 15) (hx : zK h x = (1, ci)) (hxs : ∀ y ∈ xs, zK h y = (1, ci)) (hc : clt[ci]? = some r) (hcast : Cond.castable r.1 "java/lang/Object" ∈ lw_n) (hq : ∀ h', AdP h a e xs x h' → Q (.inl none) h') : Ev g mJx4a65c_add_72be8 [vR a, vR x, vR e, vI (nI xs.length)] h Q := by
  refine nJx4a65c_add_72be8 ?_
  refine Ex.wf (fun w => ?_)
  have e2 := hl.e2 w
  obtain ⟨k1, k2, k3, k4⟩ := id hl
  refine rJx4a65c_add_72be8_0 ?_
  simp only [bJx4a65c_add_72be8_0, run, Nat.reduceAdd, lg, st1, st2, lkill, lset, fvv, sfv, kind3, cat1, retI, retA, List.length_cons, List.length_nil, true_and, and_true, or_true, true_or, qJx4a65c_add_72be8]
  have full : FullL h e ci xs → Ex g mJx4a65c_add_72be8 7 [vR a, vR x, vR e, vI (nI xs.length)] [vR a] h (0, 0) Q := by
    intro hf
    refine sJx4a65c_add_72be8_7 (by decide) hl.1 (l_grow hl hf hc hcast (fun h1 hg => ?_))
    obtain ⟨g1, g2, g3, g4, cap, g5, g6, g7, g8⟩ := hg
    simp only [cont, Option.toList, List.cons_append, List.nil_append]
    refine rJx4a65c_add_72be8_10 ?_
    simp only [bJx4a65c_add_72be8_10, run, Nat.reduceAdd, lg, st1, st2, lkill, lset, fvv, sfv, kind3, cat1, retI, retA, List.length_cons, List.length_nil, true_and, and_true, or_true, true_or, qJx4a65c_add_72be8]
    refine l_put (ci := ci) (cap := cap) (g2.kd w k1 (by decide)) g4 (by rw [g3]; exact k2) g7 g6 g5 (g2.kd w hx (by decide)) g8 hc hcast (fun hL => hq _ ⟨_, hL, Or.inr rfl, ?_, Nat.le_of_eq g1⟩)
    refine g2.tr2 ((Kp.sR (S := fun b => b = a ∨ b = zN h) (Or.inr rfl)).tr (Kp.sI (Or.inl rfl))) ?_ |>.mono (fun b _ hb => Or.inl hb)
    intro b hb hs
    rcases hs with e3 | e3
    · exact e3
    · exact absurd e3 (Nat.ne_of_lt hb)
  rcases k4 with ⟨rfl, rfl⟩ | ⟨cap, c1, c2, c3, c4⟩
  · refine ⟨Or.inl rfl, bn_t ?_ (full (Or.inl ⟨rfl, rfl⟩))⟩
    rw [show alen h 2 = 0 from if_pos rfl]
    rfl
  · have e4 : e ≠ 2 := by have := w.ge c1 (by decide); omega
    have e5 : alen h e = nI cap := by unfold alen; rw [if_neg e4, c1]
    rw [e5, c1]
    by_cases hfull : xs.length = cap
    · refine ⟨Or.inr ⟨Nat.le_of_ble_eq_true rfl, Nat.le_of_ble_eq_true rfl⟩, bn_t (by rw [hfull]) (full (Or.inr ⟨?_, ?_, fun i hi => c4 i (by omega), fun i hi => ?_⟩))⟩
      · rw [c1, show cap = 10 by omega]
      · omega
      · refine hxs _ ?_
        rw [List.getD_eq_getElem?_getD, List.getElem?_eq_getElem (by omega)]
        exact List.getElem_mem _
    · refine ⟨Or.inr ⟨Nat.le_of_ble_eq_true rfl, Nat.le_of_ble_eq_true rfl⟩, bn_f (fun hn => hfull ((nI_eq (by omega) (by omega)).mp hn)) ?_⟩
      refine rJx4a65c_add_72be8_11 ?_
      simp only [bJx4a65c_add_72be8_11, run, Nat.reduceAdd, lg, st1, st2, lkill, lset, fvv, sfv, kind3, cat1, retI, retA, List.length_cons, List.length_nil, true_and, and_true, or_true, true_or, qJx4a65c_add_72be8]
      refine l_put (ci := ci) (cap := cap) k1 k3 k2 c1 (by omega) c3 hx c4 hc hcast (fun hL => hq _ ⟨_, hL, Or.inl rfl, ?_, Nat.le_succ _⟩)
      exact (Kp.sR (S := fun b => b = a ∨ b = e ∧ e ≠ 2) (Or.inr ⟨rfl, e4⟩)).tr (Kp.sI (Or.inl rfl))
theorem l_add {g : Gp} {h : AH} {Q : PQ} {a e x ci : Nat} {r : vw_C} {xs : List Nat} (hl : LsR h a e xs) (hlen : xs.length < 15) (hx : zK h x = (1, ci)) (hxs : ∀ y ∈ xs, zK h y = (1, ci)) (hc : clt[ci]? = some r) (hcast : Cond.castable r.1 "java/lang/Object" ∈ lw_n) (hq : ∀ h', AdP h a e xs x h' → Q (.inl (some (vI 1))) h') : Ev g mJx4a65c_add_9ea2d [vR a, vR x] h Q := by
  refine nJx4a65c_add_9ea2d ?_
  refine Ex.wf (fun w => ?_)
  obtain ⟨k1, k2, k3, k4⟩ := id hl
  refine rJx4a65c_add_9ea2d_0 ?_
  simp only [bJx4a65c_add_9ea2d_0, run, Nat.reduceAdd, lg, st1, st2, lkill, lset, fvv, sfv, kind3, cat1, retI, retA, List.length_cons, List.length_nil, true_and, and_true, or_true, true_or, qJx4a65c_add_9ea2d]
  generalize hh1 : sI h a 0 (zI h a 0 + 1) = h1
  have hK1 : zK h1 = zK h := by rw [← hh1]; rfl
  have hR1 : zR h1 = zR h := by rw [← hh1]; rfl
  have hN1 : zN h1 = zN h := by rw [← hh1]; rfl
  have hI1 : zI h1 a 2 = zI h a 2 := by rw [← hh1, zI_sI]; exact up1_n _ _ (by decide)
  have kp1 : Kp (fun b => b = a) h h1 := by rw [← hh1]; exact Kp.sI rfl
  have hl1 : LsR h1 a e xs := ⟨by rw [hK1]; exact k1, by rw [hI1]; exact k2, by rw [hR1]; exact k3, by rw [hK1, hR1]; exact k4⟩
  rw [hK1, hR1, hI1, k2, k3]
  refine ⟨k1, k1, k1, k1, ?_⟩
  refine sJx4a65c_add_9ea2d_20 (by decide) (by rw [hK1]; exact k1) (l_add3 hl1 hlen (by rw [hK1]; exact hx) (by rw [hK1]; exact hxs) hc hcast (fun h2 ha => ?_))
  obtain ⟨e', a1, a2, a3, a4⟩ := ha
  simp only [cont, Option.toList, List.cons_append, List.nil_append]
  refine rJx4a65c_add_9ea2d_23 ?_
  simp only [bJx4a65c_add_9ea2d_23, run, Nat.reduceAdd, lg, st1, st2, lkill, lset, fvv, sfv, kind3, cat1, retI, retA, List.length_cons, List.length_nil, true_and, and_true, or_true, true_or, qJx4a65c_add_9ea2d]
  rw [hN1] at a2 a4
  exact hq _ ⟨e', a1, a2, (kp1.mono (fun b _ hb => Or.inl hb)).tr a3, a4⟩
theorem l_initC {g : Gp} {h : AH} {Q : PQ} {a : Nat} (ha : zK h a = (1, 0)) (h0 : a ≠ 0) (hq : Q (.inl none) h) : Ev g mJxa1e45_init_da8c8 [vR a] h Q := by
  refine nJxa1e45_init_da8c8 ?_
  refine rJxa1e45_init_da8c8_0 ?_
  simp only [bJxa1e45_init_da8c8_0, run, Nat.reduceAdd, lg, st1, st2, lkill, lset, fvv, sfv, kind3, cat1, retI, retA, List.length_cons, List.length_nil, true_and, and_true, or_true, true_or, qJxa1e45_init_da8c8]
  refine sJxa1e45_init_da8c8_1 h0 ?_
  refine rJxa1e45_init_da8c8_4 ?_
  simp only [bJxa1e45_init_da8c8_4, run, Nat.reduceAdd, lg, st1, st2, lkill, lset, fvv, sfv, kind3, cat1, retI, retA, List.length_cons, List.length_nil, true_and, and_true, or_true, true_or, qJxa1e45_init_da8c8]
  exact hq
theorem l_initL {g : Gp} {h : AH} {Q : PQ} {a : Nat} (ha : zK h a = (1, 0)) (h0 : a ≠ 0) (hq : Q (.inl none) (sI h a 0 0)) : Ev g mJxc12de_init_da8c8 [vR a] h Q := by
  refine nJxc12de_init_da8c8 ?_
  refine rJxc12de_init_da8c8_0 ?_
  simp only [bJxc12de_init_da8c8_0, run, Nat.reduceAdd, lg, st1, st2, lkill, lset, fvv, sfv, kind3, cat1, retI, retA, List.length_cons, List.length_nil, true_and, and_true, or_true, true_or, qJxc12de_init_da8c8]
  refine sJxc12de_init_da8c8_1 h0 (l_initC ha h0 ?_)
  simp only [cont, Option.toList, List.cons_append, List.nil_append]
  refine rJxc12de_init_da8c8_4 ?_
  simp only [bJxc12de_init_da8c8_4, run, Nat.reduceAdd, lg, st1, st2, lkill, lset, fvv, sfv, kind3, cat1, retI, retA, List.length_cons, List.length_nil, true_and, and_true, or_true, true_or, qJxc12de_init_da8c8]
  exact ⟨ha, hq⟩
theorem l_init {g : Gp} {h : AH} {Q : PQ} {a : Nat} (ha : zK h a = (1, 0)) (hz : zI h a 2 = 0) (hq : ∀ h', LsR h' a 2 [] → Kp (fun b => b = a) h h' → zN h' = zN h → Q (.inl none) h') : Ev g mJx4a65c_init_da8c8 [vR a] h Q := by
  refine nJx4a65c_init_da8c8 ?_
  refine Ex.wf (fun w => ?_)
  have h0 : a ≠ 0 := by have := w.ge ha (by decide); omega
  refine rJx4a65c_init_da8c8_0 ?_
  simp only [bJx4a65c_init_da8c8_0, run, Nat.reduceAdd, lg, st1, st2, lkill, lset, fvv, sfv, kind3, cat1, retI, retA, List.length_cons, List.length_nil, true_and, and_true, or_true, true_or, qJx4a65c_init_da8c8]
  refine sJx4a65c_init_da8c8_1 h0 (l_initL ha h0 ?_)
  simp only [cont, Option.toList, List.cons_append, List.nil_append]
  refine rJx4a65c_init_da8c8_4 ?_
  simp only [bJx4a65c_init_da8c8_4, run, Nat.reduceAdd, lg, st1, st2, lkill, lset, fvv, sfv, kind3, cat1, retI, retA, List.length_cons, List.length_nil, true_and, and_true, or_true, true_or, qJx4a65c_init_da8c8]
  refine x_gets (i := 39) (lg_mem (by decide +kernel) rfl) (by decide +kernel) ?_
  refine rJx4a65c_init_da8c8_8 ?_
  simp only [bJx4a65c_init_da8c8_8, run, Nat.reduceAdd, lg, st1, st2, lkill, lset, fvv, sfv, kind3, cat1, retI, retA, List.length_cons, List.length_nil, true_and, and_true, or_true, true_or, qJx4a65c_init_da8c8]
  refine ⟨ha, hq _ ⟨ha, ?_, ?_, Or.inl ⟨rfl, rfl⟩⟩ ((Kp.sI (S := fun b => b = a) rfl).tr (Kp.sR rfl)) rfl⟩
  · have e1 : zI (sR (sI h a 0 0) a 1 2) a = up1 (zI h a) 0 0 := zI_sI
    rw [e1, up1_n _ _ (by decide), hz]
    rfl
  · rw [zR_sR]; exact up1_s _ _ _
/-- the last one is taken away -/
theorem l_fastRemove {g : Gp} {h : AH} {Q : PQ} {a e n : Nat} {xs : List Nat} (hl : LsR h a e xs) (hn : xs.length = n + 1) (hq : ∀ h', LsR h' a e xs.dropLast → Kp (fun b => b = a ∨ b = e) h h' → zN h' = zN h → Q (.inl none) h') : Ev g mJx4a65c_fastRemove_b59b0 [vR a, vR e, vI (nI n)] h Q := by
  refine nJx4a65c_fastRemove_b59b0 ?_
  have hlen := hl.len
  obtain ⟨k1, k2, k3, k4⟩ := id hl
  rcases k4 with ⟨rfl, rfl⟩ | ⟨cap, c1, c2, c3, c4⟩
  · simp at hn
  have hne : a ≠ e := fun q => by rw [q, c1] at k1; exact absurd k1 (by simp)
  refine rJx4a65c_fastRemove_b59b0_0 ?_
  simp only [bJx4a65c_fastRemove_b59b0_0, run, Nat.reduceAdd, lg, st1, st2, lkill, lset, fvv, sfv, kind3, cat1, retI, retA, List.length_cons, List.length_nil, true_and, and_true, or_true, true_or, qJx4a65c_fastRemove_b59b0]
  have es : zI (sI h a 0 (zI h a 0 + 1)) a 2 = nI (n + 1) := by rw [zI_sI, up1_n _ _ (by decide), k2, hn]
  rw [es, show nI (n + 1) - 1 = nI n from nI_pred n]
  refine ⟨k1, k1, k1, ?_⟩
  refine br_t (nI_le (Nat.le_refl n) (by omega)) ?_
  refine rJx4a65c_fastRemove_b59b0_34 ?_
  simp only [bJx4a65c_fastRemove_b59b0_34, run, Nat.reduceAdd, lg, st1, st2, lkill, lset, fvv, sfv, kind3, cat1, retI, retA, List.length_cons, List.length_nil, true_and, and_true, or_true, true_or, qJx4a65c_fastRemove_b59b0]
  refine ⟨k1, ?_⟩
  refine x_aastoreN (t := 6) (n := cap) (Or.inl rfl) c1 (vp_in_nI (by omega) (by omega)) (by decide +kernel) ?_
  rw [nI_clamp (by omega)]
  refine rJx4a65c_fastRemove_b59b0_43 ?_
  simp only [bJx4a65c_fastRemove_b59b0_43, run, Nat.reduceAdd, lg, st1, st2, lkill, lset, fvv, sfv, kind3, cat1, retI, retA, List.length_cons, List.length_nil, true_and, and_true, or_true, true_or, qJx4a65c_fastRemove_b59b0]
  refine hq _ ⟨k1, ?_, ?_, Or.inr ⟨cap, c1, ?_, c3, fun i hi => ?_⟩⟩ (((Kp.sI (S := fun b => b = a ∨ b = e) (Or.inl rfl)).tr (Kp.sI (Or.inl rfl))).tr (Kp.sR (Or.inr rfl))) rfl
  · have e1 : zI (sR (sI (sI h a 0 (zI h a 0 + 1)) a 2 (nI n)) e n 0) a = up1 (zI (sI h a 0 (zI h a 0 + 1)) a) 2 (nI n) := zI_sI
    rw [e1, up1_s, List.length_dropLast, hn]
    rfl
  · exact (congrFun (up1_n _ _ hne : zR (sR (sI (sI h a 0 (zI h a 0 + 1)) a 2 (nI n)) e n 0) a = zR h a) 1).trans k3
  · rw [List.length_dropLast]; omega
  · rw [List.length_dropLast, hn] at hi
    have e2 : zR (sR (sI (sI h a 0 (zI h a 0 + 1)) a 2 (nI n)) e n 0) e = up1 (zR h e) n 0 := zR_sR
    rw [e2, up1_n _ _ (by omega), c4 i (by omega)]
    simp only [List.getD_eq_getElem?_getD, List.getElem?_dropLast]
    rw [if_pos (by omega)]
theorem l_remove {g : Gp} {h : AH} {Q : PQ} {a e n : Nat} {xs : List Nat} (hl : LsR h a e xs) (hn : xs.length = n + 1) (hq : ∀ h' x, LsR h' a e xs.dropLast → Kp (fun b => b = a ∨ b = e) h h' → zN h' = zN h → Q (.inl (some (vR x))) h') : Ev g mJx4a65c_remove_915e3 [vR a, vI (nI n)] h Q := by
  refine nJx4a65c_remove_915e3 ?_
  have hlen := hl.len
  obtain ⟨k1, k2, k3, k4⟩ := id hl
  refine rJx4a65c_remove_915e3_0 ?_
  simp only [bJx4a65c_remove_915e3_0, run, Nat.reduceAdd, lg, st1, st2, lkill, lset, fvv, sfv, kind3, cat1, retI, retA, List.length_cons, List.length_nil, true_and, and_true, or_true, true_or, qJx4a65c_remove_915e3]
  rw [k2]
  refine ⟨k1, ?_⟩
  refine sJx4a65c_remove_915e3_5 (l_chk (by omega) (by omega) ?_)
  simp only [cont, Option.toList, List.cons_append, List.nil_append]
  refine rJx4a65c_remove_915e3_8 ?_
  simp only [bJx4a65c_remove_915e3_8, run, Nat.reduceAdd, lg, st1, st2, lkill, lset, fvv, sfv, kind3, cat1, retI, retA, List.length_cons, List.length_nil, true_and, and_true, or_true, true_or, qJx4a65c_remove_915e3]
  rcases k4 with ⟨rfl, rfl⟩ | ⟨cap, c1, c2, c3, c4⟩
  · simp at hn
  rw [k3, c1]
  refine ⟨k1, Or.inl rfl, vp_in_nI (by omega) (by omega), ?_⟩
  refine sJx4a65c_remove_915e3_21 k1 (l_fastRemove hl hn (fun h1 q1 q2 q3 => ?_))
  simp only [cont, Option.toList, List.cons_append, List.nil_append]
  refine rJx4a65c_remove_915e3_24 ?_
  simp only [bJx4a65c_remove_915e3_24, run, Nat.reduceAdd, lg, st1, st2, lkill, lset, fvv, sfv, kind3, cat1, retI, retA, List.length_cons, List.length_nil, true_and, and_true, or_true, true_or, qJx4a65c_remove_915e3]
  exact hq h1 _ q1 q2 q3
/-- in the midst, where room is left -/
theorem l_range {g : Gp} {h : AH} {Q : PQ} {a e i : Nat} {xs : List Nat} (hl : LsR h a e xs) (hi : i ≤ xs.length) (hq : Q (.inl none) h) : Ev g mJx4a65c_rangeCheckForAdd_d00df [vR a, vI (nI i)] h Q := by
  refine nJx4a65c_rangeCheckForAdd_d00df ?_
  have hlen := hl.len
  refine rJx4a65c_rangeCheckForAdd_d00df_0 ?_
  simp only [bJx4a65c_rangeCheckForAdd_d00df_0, run, Nat.reduceAdd, lg, st1, st2, lkill, lset, fvv, sfv, kind3, cat1, retI, retA, List.length_cons, List.length_nil, true_and, and_true, or_true, true_or, qJx4a65c_rangeCheckForAdd_d00df]
  rw [hl.2.1]
  refine ⟨hl.1, br_f (nI_nlt hi (by omega)) (br_t (nI_pos' (by omega)) ?_)⟩
  refine rJx4a65c_rangeCheckForAdd_d00df_25 ?_
  simp only [bJx4a65c_rangeCheckForAdd_d00df_25, run, Nat.reduceAdd, lg, st1, st2, lkill, lset, fvv, sfv, kind3, cat1, retI, retA, List.length_cons, List.length_nil, true_and, and_true, or_true, true_or, qJx4a65c_rangeCheckForAdd_d00df]
  exact hq
theorem l_addAt {g : Gp} {h : AH} {Q : PQ} {a e i x ci : Nat} {r : vw_C} {xs : List Nat} (hl : LsR h a e xs) (h0 : xs ≠ []) (h9 : xs.length < 10) (hi : i ≤ xs.length) (hx : zK h x = (1, ci)) (hxs : ∀ y ∈ xs, zK h y = (1, ci)) (hc : clt[ci]? = some r) (hcast : Cond.castable r.1 "java/lang/Object" ∈ lw_n) (hq : ∀ h', LsR h' a e (xs.take i ++ x :: xs.drop i) → Kp (fun b => b = a ∨ b = e) h h' → zN h' = zN h → Q (.inl none) h') : Ev g mJx4a65c_add_7a177 [vR a, vI (nI i), vR x] h Q := by
  refine nJx4a65c_add_7a177 ?_
  refine Ex.wf (fun w => ?_)
  obtain ⟨k1, k2, k3, k4⟩ := id hl
  rcases k4 with ⟨rfl, rfl⟩ | ⟨cap, c1, c2, c3, c4⟩
  · exact absurd rfl h0
  have hne : a ≠ e := fun q => by rw [q, c1] at k1; exact absurd k1 (by simp)
  have e4 : e ≠ 2 := by have := w.ge c1 (by decide); omega
  refine rJx4a65c_add_7a177_0 ?_
  simp only [bJx4a65c_add_7a177_0, run, Nat.reduceAdd, lg, st1, st2, lkill, lset, fvv, sfv, kind3, cat1, retI, retA, List.length_cons, List.length_nil, true_and, and_true, or_true, true_or, qJx4a65c_add_7a177]
  refine sJx4a65c_add_7a177_2 k1 (l_range hl hi ?_)
  simp only [cont, Option.toList, List.cons_append, List.nil_append]
  refine rJx4a65c_add_7a177_5 ?_
  simp only [bJx4a65c_add_7a177_5, run, Nat.reduceAdd, lg, st1, st2, lkill, lset, fvv, sfv, kind3, cat1, retI, retA, List.length_cons, List.length_nil, true_and, and_true, or_true, true_or, qJx4a65c_add_7a177]
  have es : zI (sI h a 0 (zI h a 0 + 1)) a 2 = nI xs.length := by rw [zI_sI, up1_n _ _ (by decide), k2]
  have er : zR (sI h a 0 (zI h a 0 + 1)) a 1 = e := k3
  have el : alen (sI h a 0 (zI h a 0 + 1)) e = nI cap := by
    unfold alen
    rw [if_neg e4, show zK (sI h a 0 (zI h a 0 + 1)) e = (6, cap) from c1]
  rw [es, er, el]
  refine ⟨k1, k1, k1, k1, Or.inr (by rw [show zK (sI h a 0 (zI h a 0 + 1)) e = (6, cap) from c1]; exact ⟨Nat.le_of_ble_eq_true rfl, Nat.le_of_ble_eq_true rfl⟩), bn_f (fun hn => by have := (nI_eq (by omega) (by omega)).mp hn; omega) ?_⟩
  refine rJx4a65c_add_7a177_38 ?_
  simp only [bJx4a65c_add_7a177_38, run, Nat.reduceAdd, lg, st1, st2, lkill, lset, fvv, sfv, kind3, cat1, retI, retA, List.length_cons, List.length_nil, true_and, and_true, or_true, true_or, qJx4a65c_add_7a177]
  rw [pk_sub hi, nI_1]
  refine x_copyq (i := 112) (ci := ci) (r := r) (n0 := cap) (n1 := cap) ⟨lg_mem (by decide +kernel) rfl, lg_mem (by decide +kernel) rfl, lg_mem (by decide +kernel) rfl, lg_mem (by decide +kernel) rfl⟩ c1 c1 hc hcast (nI_pos (by omega)) (nI_pos (by omega)) (nI_pos (by omega)) (by rw [nI_clamp (by omega), nI_clamp (by omega)]; omega) (by rw [nI_clamp (by omega), nI_clamp (by omega)]; omega) ?_ (by decide) (Nat.le_of_ble_eq_true rfl) (by decide +kernel) ?_
  · intro j hj _
    rw [nI_clamp (by omega)] at hj ⊢
    show zK h (zR h e (i + j)) = (1, ci)
    rw [c4 _ (by omega)]
    refine hxs _ ?_
    rw [List.getD_eq_getElem?_getD, List.getElem?_eq_getElem (by omega)]
    exact List.getElem_mem _
  rw [nI_clamp (by omega), nI_clamp (by omega), nI_clamp (by omega)]
  refine rJx4a65c_add_7a177_52 ?_
  simp only [bJx4a65c_add_7a177_52, run, Nat.reduceAdd, lg, st1, st2, lkill, lset, fvv, sfv, kind3, cat1, retI, retA, List.length_cons, List.length_nil, true_and, and_true, or_true, true_or, qJx4a65c_add_7a177]
  refine x_aastore (t := 6) (n := cap) c1 (vp_in_nI (by omega) (by omega)) hx hc (Or.inl ⟨rfl, hcast⟩) (by decide +kernel) ?_
  rw [nI_clamp (by omega)]
  refine rJx4a65c_add_7a177_57 ?_
  simp only [bJx4a65c_add_7a177_57, run, Nat.reduceAdd, lg, st1, st2, lkill, lset, fvv, sfv, kind3, cat1, retI, retA, List.length_cons, List.length_nil, true_and, and_true, or_true, true_or, qJx4a65c_add_7a177]
  rw [nI_1]
  generalize hcp : va_cpy (zR (sI h a 0 (zI h a 0 + 1)) e) (zR (sI h a 0 (zI h a 0 + 1)) e) i (i + 1) (xs.length - i) = f
  refine ⟨k1, hq _ ⟨k1, ?_, ?_, Or.inr ⟨cap, c1, ?_, c3, fun j hj => ?_⟩⟩ ((((Kp.sI (S := fun b => b = a ∨ b = e) (Or.inl rfl)).tr (Kp.rwR (Or.inr rfl))).tr (Kp.sR (Or.inr rfl))).tr (Kp.sI (Or.inl rfl))) rfl⟩
  · rw [zI_sI, up1_s]
    congr 1
    simp
    omega
  · have e1 : zR (sI (sR (rwR (sI h a 0 (zI h a 0 + 1)) e f) e i x) a 2 (nI (xs.length + 1))) a = zR h a := (up1_n _ _ hne).trans (up1_n _ _ hne)
    rw [e1]
    exact k3
  · simp; omega
  · have e1 : zR (sI (sR (rwR (sI h a 0 (zI h a 0 + 1)) e f) e i x) a 2 (nI (xs.length + 1))) e = up1 f i x := by
      have : zR (sR (rwR (sI h a 0 (zI h a 0 + 1)) e f) e i x) e = up1 (zR (rwR (sI h a 0 (zI h a 0 + 1)) e f) e) i x := zR_sR
      rw [zR_rwR] at this
      exact this
    rw [e1]
    have hj2 : j < xs.length + 1 := by
      simp only [List.length_append, List.length_cons, List.length_take, List.length_drop] at hj
      omega
    by_cases j1 : j = i
    · subst j1
      rw [up1_s, List.getD_eq_getElem?_getD, List.getElem?_append_right (by rw [List.length_take]; omega), List.length_take, Nat.min_eq_left hi, Nat.sub_self]
      rfl
    · rw [up1_n _ _ j1, ← hcp]
      show va_cpy (zR h e) (zR h e) i (i + 1) (xs.length - i) j = _
      unfold va_cpy
      by_cases j2 : j < i
      · rw [if_neg (by omega), c4 j (by omega), List.getD_eq_getElem?_getD, List.getD_eq_getElem?_getD, List.getElem?_append_left (by simp; omega), List.getElem?_take_of_lt j2]
      · rw [if_pos (by omega), c4 _ (by omega), List.getD_eq_getElem?_getD, List.getD_eq_getElem?_getD, List.getElem?_append_right (by simp; omega), List.length_take, Nat.min_eq_left hi, show j - i = (j - i - 1) + 1 by omega, List.getElem?_cons_succ, List.getElem?_drop, show i + (j - (i + 1)) = i + (j - i - 1) by omega]
end
section
/-! ===== sounds; a law ===== -/
def pop : Nat → Nat → Nat
  | 0, _ => 0
  | n + 1, x => x % 2 + pop n (x / 2)
def cst (f : Nat → Nat) (s t : Nat) : Nat := if s = t then 0 else 1 + pop 6 (f s ^^^ f t)
/-- the sounds at 5, their features at 6, their costs at 7 and 8 to 23 -/
def Sn (h : AH) (f : Nat → Nat) : Prop := zK h 5 = (1, 7) ∧ zR h 5 0 = 6 ∧ zR h 5 1 = 7 ∧ zK h 6 = (2, 16) ∧ zK h 7 = (8, 16) ∧ ∀ s, s < 16 → zR h 7 s = 8 + s ∧ zK h (8 + s) = (2, 16) ∧ f s < 64 ∧ zI h 6 s = nI (f s) ∧ ∀ t, t < 16 → zI h (8 + s) t = nI (cst f s t)
abbrev Lw : Type := Nat × Nat × Nat × Nat
def lwOk (w : Lw) : Prop := w.1 < 65536 ∧ w.2.1 ≤ 22 ∧ w.2.2.1 < 131072 ∧ w.2.2.2 < 131072
def bI (b : Nat) : Int32 := nI b - 1
def LwR (h : AH) (x : Nat) (w : Lw) : Prop := lwOk w ∧ zK h x = (1, 4) ∧ zI h x 0 = nI w.1 ∧ zI h x 1 = bI w.2.1 ∧ zI h x 2 = nI w.2.2.1 ∧ zI h x 3 = nI w.2.2.2
def trn (f : Nat → Nat) (s k : Nat) : Nat := if fa_first (fun o => f o == f s ^^^ 2 ^ k) 16 < 16 then fa_first (fun o => f o == f s ^^^ 2 ^ k) 16 else s
def her (f : Nat → Nat) (w : Lw) (s : Nat) : Option Nat := match w.2.1 with
  | 0 => none
  | b + 1 => if b < 16 then some b else some (trn f s (b - 16))
def hld (w : Lw) (l : List Nat) (p : Nat) : Bool := w.1.testBit (l.getD p 0) && (w.2.2.1 == 0 || w.2.2.1.testBit (if p = 0 then 16 else l.getD (p - 1) 0)) && (w.2.2.2 == 0 || w.2.2.2.testBit (if p + 1 = l.length then 16 else l.getD (p + 1) 0))
def opt (f : Nat → Nat) (w : Lw) (l : List Nat) (p : Nat) : Option Nat := if hld w l p then her f w (l.getD p 0) else some (l.getD p 0)
def mde (f : Nat → Nat) (w : Lw) (l : List Nat) : Nat → List Nat
  | 0 => []
  | p + 1 => mde f w l p ++ (opt f w l p).toList
def gov (f : Nat → Nat) (w : Lw) (l : List Nat) : List Nat := if mde f w l l.length = [] then l else mde f w l l.length
def hI : Option Nat → Int32
  | none => -1
  | some s => nI s
theorem trn_lt {f : Nat → Nat} {s k : Nat} (hs : s < 16) : trn f s k < 16 := by
  unfold trn
  split <;> assumption
theorem her_lt {f : Nat → Nat} {w : Lw} {s t : Nat} (hs : s < 16) (h : her f w s = some t) : t < 16 := by
  unfold her at h
  split at h
  · exact absurd h (by simp)
  · split at h
    · rw [← Option.some.inj h]; assumption
    · rw [← Option.some.inj h]; exact trn_lt hs
theorem opt_lt {f : Nat → Nat} {w : Lw} {l : List Nat} {p t : Nat} (hl : Wok l) (h : opt f w l p = some t) : t < 16 := by
  unfold opt at h
  split at h
  · exact her_lt (hl.at p) h
  · rw [← Option.some.inj h]; exact hl.at p
theorem mde_le {f : Nat → Nat} {w : Lw} {l : List Nat} : ∀ p, (mde f w l p).length ≤ p
  | 0 => Nat.le_refl _
  | p + 1 => by
    have := mde_le (f := f) (w := w) (l := l) p
    simp only [mde, List.length_append]
    cases opt f w l p <;> simp <;> omega
theorem mde_ok {f : Nat → Nat} {w : Lw} {l : List Nat} (hl : Wok l) : ∀ p, ∀ s ∈ mde f w l p, s < 16
  | 0, s, h => by simp [mde] at h
  | p + 1, s, h => by
    simp only [mde, List.mem_append] at h
    rcases h with h | h
    · exact mde_ok hl p s h
    · cases ho : opt f w l p with
      | none => rw [ho] at h; simp at h
      | some t => rw [ho] at h; simp at h; subst h; exact opt_lt hl ho
theorem mde_wok {f : Nat → Nat} {w : Lw} {l : List Nat} (hl : Wok l) {p : Nat} (hp : p ≤ l.length) : Wok (mde f w l p) := ⟨Nat.le_trans (mde_le p) (Nat.le_trans hp hl.1), mde_ok hl p⟩
theorem gov_wok {f : Nat → Nat} {w : Lw} {l : List Nat} (hl : Wok l) : Wok (gov f w l) := by
  unfold gov
  split
  · exact hl
  · exact mde_wok hl (Nat.le_refl _)
theorem w_one : ∀ l, l < 31 → (1 : Int32) <<< (nI l &&& 31) = nI (2 ^ l) := by decide +kernel
theorem w_has {n j : Nat} (hj : j < 31) : (((nI n).toUInt32 >>> ((nI j).toUInt32 &&& Int32.toUInt32 31)).toInt32 &&& 1) = 0 ↔ n.testBit j = false := by
  rw [nf_bit _ j (by omega), w_one j hj, fa_bit hj]
theorem e_has {g : Gp} {n j : Nat} {h : AH} {Q : PQ} (hj : j < 31) (hq : Q (.inl (some (vI (if n.testBit j then 1 else 0)))) h) : Ev g mX3_has [vI (nI n), vI (nI j)] h Q := by
  refine nX3_has ?_
  refine rX3_has_0 ?_
  simp only [bX3_has_0, run, Nat.reduceAdd, lg, st1, st2, lkill, lset, fvv, sfv, kind3, cat1, retI, retA, List.length_cons, List.length_nil, true_and, and_true, or_true, true_or, qX3_has]
  refine ⟨fun h0 => ?_, fun h0 => ?_⟩
  · have hb := (w_has hj).mp h0
    rw [hb] at hq
    refine rX3_has_12 ?_
    simp only [bX3_has_12, run, Nat.reduceAdd, lg, st1, st2, lkill, lset, fvv, sfv, kind3, cat1, retI, retA, List.length_cons, List.length_nil, true_and, and_true, or_true, true_or, qX3_has]
    exact hq
  · have hb : n.testBit j = true := ts_nf fun e => h0 ((w_has hj).mpr e)
    rw [hb] at hq
    exact hq
theorem e_turned {g : Gp} {f : Nat → Nat} {s k : Nat} {h : AH} {Q : PQ} (hn : Sn h f) (hs : s < 16) (hk : k < 6) (hq : Q (.inl (some (vI (nI (trn f s k))))) h) : Ev g mX6_turned [vR 5, vI (nI s), vI (nI k)] h Q := by
  obtain ⟨n1, n2, n3, n4, n5, n6⟩ := hn
  refine nX6_turned ?_
  have h6 : zI h 6 s = nI (f s) := (n6 s hs).2.2.2.1
  have h7 := (n6 s hs).2.2.1
  have lp : ∀ d j, j + d = 16 → (∀ i, i < j → (f i == f s ^^^ 2 ^ k) = false) → Ex g mX6_turned 14 [vR 5, vI (nI s), vI (nI k), vI (nI (f s ^^^ 2 ^ k)), vI (nI j)] [] h (0, 0) Q := by
    intro d
    induction d with
    | zero =>
      intro j hj hno
      refine rX6_turned_14 ?_
      simp only [bX6_turned_14, run, Nat.reduceAdd, lg, st1, st2, lkill, lset, fvv, sfv, kind3, cat1, retI, retA, List.length_cons, List.length_nil, true_and, and_true, or_true, true_or, qX6_turned]
      refine br_t (nI_le (a := 16) (by omega) (by omega)) ?_
      refine rX6_turned_41 ?_
      simp only [bX6_turned_41, run, Nat.reduceAdd, lg, st1, st2, lkill, lset, fvv, sfv, kind3, cat1, retI, retA, List.length_cons, List.length_nil, true_and, and_true, or_true, true_or, qX6_turned]
      have : ¬ fa_first (fun o => f o == f s ^^^ 2 ^ k) 16 < 16 := fun hlt => by
        have y := fa_first_yes (fun o => f o == f s ^^^ 2 ^ k) 16 hlt
        rw [hno _ (by omega)] at y
        exact absurd y (by decide)
      rw [trn, if_neg this] at hq
      exact hq
    | succ d ih =>
      intro j hj hno
      have h9 := n6 j (by omega)
      refine rX6_turned_14 ?_
      simp only [bX6_turned_14, run, Nat.reduceAdd, lg, st1, st2, lkill, lset, fvv, sfv, kind3, cat1, retI, retA, List.length_cons, List.length_nil, true_and, and_true, or_true, true_or, qX6_turned]
      rw [n2, n4, nI_clamp (by omega), h9.2.2.2.1]
      refine br_f (nI_ge (b := 16) (by omega) (by omega)) ⟨n1, rfl, vp_in_nI (by omega) (by omega), bn_c (fun hc => ?_) fun hc => ?_⟩
      · refine rX6_turned_35 ?_
        simp only [bX6_turned_35, run, Nat.reduceAdd, lg, st1, st2, lkill, lset, fvv, sfv, kind3, cat1, retI, retA, List.length_cons, List.length_nil, true_and, and_true, or_true, true_or, qX6_turned]
        rw [nI_1]
        refine ih (j + 1) (by omega) fun i hi => ?_
        by_cases e : i = j
        · subst e
          exact beq_false_of_ne fun e => hc (by rw [e])
        · exact hno i (by omega)
      · have hlt : f s ^^^ 2 ^ k < 64 := Nat.xor_lt_two_pow (n := 6) h7 (Nat.pow_lt_pow_right (by decide) hk)
        have e2 : f j = f s ^^^ 2 ^ k := (nI_eq (by omega) (by omega)).mp hc
        have hp : (f j == f s ^^^ 2 ^ k) = true := beq_iff_eq.mpr e2
        have hle : fa_first (fun o => f o == f s ^^^ 2 ^ k) 16 = j := by
          have q1 : ¬ j < fa_first (fun o => f o == f s ^^^ 2 ^ k) 16 := fun hlt => by
            have y := fa_first_no (fun o => f o == f s ^^^ 2 ^ k) _ _ hlt
            exact absurd (hp.symm.trans y) (by decide)
          have q2 : ¬ fa_first (fun o => f o == f s ^^^ 2 ^ k) 16 < j := fun hlt => by
            have y := fa_first_yes (fun o => f o == f s ^^^ 2 ^ k) 16 (by omega)
            rw [hno _ hlt] at y
            exact absurd y (by decide)
          omega
        rw [trn, hle, if_pos (by omega)] at hq
        exact hq
  refine rX6_turned_0 ?_
  simp only [bX6_turned_0, run, Nat.reduceAdd, lg, st1, st2, lkill, lset, fvv, sfv, kind3, cat1, retI, retA, List.length_cons, List.length_nil, true_and, and_true, or_true, true_or, qX6_turned]
  rw [n2, n4, nI_clamp (by omega), h6, w_one k (by omega), nx_xor]
  exact ⟨n1, rfl, vp_in_nI (by omega) (by omega), lp 16 0 rfl (fun i hi => absurd hi (Nat.not_lt_zero i))⟩
theorem e_heirOf {g : Gp} {f : Nat → Nat} {w : Lw} {x s : Nat} {h : AH} {Q : PQ} (hn : Sn h f) (hw : LwR h x w) (hs : s < 16) (hq : Q (.inl (some (vI (hI (her f w s))))) h) : Ev g mX3_heirOf [vR x, vI (nI s), vR 5] h Q := by
  obtain ⟨⟨w1, w2, w3, w4⟩, k1, k2, k3, k4, k5⟩ := hw
  refine nX3_heirOf ?_
  refine rX3_heirOf_0 ?_
  simp only [bX3_heirOf_0, run, Nat.reduceAdd, lg, st1, st2, lkill, lset, fvv, sfv, kind3, cat1, retI, retA, List.length_cons, List.length_nil, true_and, and_true, or_true, true_or, qX3_heirOf]
  rw [k3]
  unfold her at hq
  cases hb : w.2.1 with
  | zero =>
    rw [hb] at hq
    exact ⟨k1, br_f (by decide) ⟨k1, hq⟩⟩
  | succ b =>
    rw [hb] at hq w2
    replace hq : Q (.inl (some (vI (hI (if b < 16 then some b else some (trn f s (b - 16))))))) h := hq
    rw [show bI (b + 1) = nI b from nI_pred b]
    refine ⟨k1, fun h0 => ?_, fun h0 => ?_⟩
    · have hb2 := (nI_leI (a := 16) (by omega) (by omega)).mp h0
      rw [if_neg (by omega)] at hq
      refine rX3_heirOf_16 ?_
      simp only [bX3_heirOf_16, run, Nat.reduceAdd, lg, st1, st2, lkill, lset, fvv, sfv, kind3, cat1, retI, retA, List.length_cons, List.length_nil, true_and, and_true, or_true, true_or, qX3_heirOf]
      rw [k3, hb, show bI (b + 1) = nI b from nI_pred b, show (16 : Int32) = nI 16 from rfl, pk_sub (by omega)]
      refine ⟨k1, sX3_heirOf_25 hn.1 (e_turned hn hs (by omega) ?_)⟩
      simp only [cont, Option.toList, List.cons_append, List.nil_append]
      refine rX3_heirOf_28 ?_
      simp only [bX3_heirOf_28, run, Nat.reduceAdd, lg, st1, st2, lkill, lset, fvv, sfv, kind3, cat1, retI, retA, List.length_cons, List.length_nil, true_and, and_true, or_true, true_or, qX3_heirOf]
      exact hq
    · have hb2 : ¬ 16 ≤ b := fun q => h0 (nI_le (a := 16) q (by omega))
      rw [if_pos (by omega)] at hq
      exact ⟨k1, hq⟩
theorem e_holdsAt {g : Gp} {w : Lw} {l : List Nat} {x p : Nat} {h : AH} {Q : PQ} (hw : LwR h x w) (hl : Wok l) (hp : p < l.length) (hq : Q (.inl (some (vI (if hld w l p then 1 else 0)))) h) : Ev g mX3_holdsAt [vR x, vL (eC l), vI (nI p)] h Q := by
  obtain ⟨⟨w1, w2, w3, w4⟩, k1, k2, k3, k4, k5⟩ := hw
  have hl1 := hl.1
  refine nX3_holdsAt ?_
  have t3 : ∀ a b : Nat, a < 17 → b < 17 → a = (if p = 0 then 16 else l.getD (p - 1) 0) → b = (if p + 1 = l.length then 16 else l.getD (p + 1) 0) → (zK h x = (1, 4) ∧ Ex g mX3_holdsAt 48 [vR x, vL (eC l), vU, vI (nI p), vI (nI a), vI (nI b)] [vI (nI p), vL (eC l), vI (zI h x 0)] h (0, 0) Q) := by
    intro a b ha hb ea eb
    have no : hld w l p = false → Ex g mX3_holdsAt 99 [vR x, vL (eC l), vU, vI (nI p), vI (nI a), vI (nI b)] [] h (0, 0) Q := by
      intro hf
      rw [hf] at hq
      refine rX3_holdsAt_99 ?_
      simp only [bX3_holdsAt_99, run, Nat.reduceAdd, lg, st1, st2, lkill, lset, fvv, sfv, kind3, cat1, retI, retA, List.length_cons, List.length_nil, true_and, and_true, or_true, true_or, qX3_holdsAt]
      exact hq
    have hld_e : hld w l p = (w.1.testBit (l.getD p 0) && (w.2.2.1 == 0 || w.2.2.1.testBit a) && (w.2.2.2 == 0 || w.2.2.2.testBit b)) := by rw [ea, eb]; rfl
    have yes : hld w l p = true → Q (.inl (some (vI 1))) h := by
      intro hf
      rw [hf] at hq
      exact hq
    generalize hld w l p = B at hld_e no yes
    have l76 : w.1.testBit (l.getD p 0) = true → (w.2.2.1 == 0 || w.2.2.1.testBit a) = true → (zK h x = (1, 4) ∧ (zI h x 3 = 0 → Ex g mX3_holdsAt 95 [vR x, vL (eC l), vU, vI (nI p), vI (nI a), vI (nI b)] [] h (0, 0) Q) ∧ (¬ zI h x 3 = 0 → zK h x = (1, 4) ∧ Ex g mX3_holdsAt 89 [vR x, vL (eC l), vU, vI (nI p), vI (nI a), vI (nI b)] [vI (nI b), vI (zI h x 3)] h (0, 0) Q)) := by
      intro c1 c2
      rw [c1, c2] at hld_e
      rw [k5]
      refine ⟨k1, fun h0 => ?_, fun h0 => ⟨k1, ?_⟩⟩
      · have h9 := (nI_eq (b := 0) (by omega) (by omega)).mp h0
        refine rX3_holdsAt_95 ?_
        simp only [bX3_holdsAt_95, run, Nat.reduceAdd, lg, st1, st2, lkill, lset, fvv, sfv, kind3, cat1, retI, retA, List.length_cons, List.length_nil, true_and, and_true, or_true, true_or, qX3_holdsAt]
        exact yes (by rw [hld_e, h9]; rfl)
      · refine sX3_holdsAt_89 (e_has (by omega) ?_)
        simp only [cont, Option.toList, List.cons_append, List.nil_append]
        refine rX3_holdsAt_92 ?_
        simp only [bX3_holdsAt_92, run, Nat.reduceAdd, lg, st1, st2, lkill, lset, fvv, sfv, kind3, cat1, retI, retA, List.length_cons, List.length_nil, true_and, and_true, or_true, true_or, qX3_holdsAt]
        cases c3 : w.2.2.2.testBit b with
        | true => exact br_f (by decide) (yes (by rw [hld_e, c3]; simp))
        | false =>
          refine br_t (by decide) (no ?_)
          have : ¬ w.2.2.2 = 0 := fun e => h0 (by rw [e]; rfl)
          rw [hld_e, c3]
          simp [this]
    rw [k2]
    refine ⟨k1, sX3_holdsAt_48 (e_at hl hp ?_)⟩
    simp only [cont, Option.toList, List.cons_append, List.nil_append]
    have hat := hl.at p
    refine sX3_holdsAt_51 (e_has (by omega) ?_)
    simp only [cont, Option.toList, List.cons_append, List.nil_append]
    refine rX3_holdsAt_54 ?_
    simp only [bX3_holdsAt_54, run, Nat.reduceAdd, lg, st1, st2, lkill, lset, fvv, sfv, kind3, cat1, retI, retA, List.length_cons, List.length_nil, true_and, and_true, or_true, true_or, qX3_holdsAt]
    cases c1 : w.1.testBit (l.getD p 0) with
    | false => exact br_t (by decide) (no (by rw [hld_e, c1]; rfl))
    | true =>
      rw [k4]
      refine br_f (by decide) ⟨k1, fun h0 => ?_, fun h0 => ⟨k1, ?_⟩⟩
      · have h9 := (nI_eq (b := 0) (by omega) (by omega)).mp h0
        have z := l76 c1 (by rw [h9]; rfl)
        refine rX3_holdsAt_76 ?_
        simp only [bX3_holdsAt_76, run, Nat.reduceAdd, lg, st1, st2, lkill, lset, fvv, sfv, kind3, cat1, retI, retA, List.length_cons, List.length_nil, true_and, and_true, or_true, true_or, qX3_holdsAt]
        exact z
      · have hne : ¬ w.2.2.1 = 0 := fun e => h0 (by rw [e]; rfl)
        refine sX3_holdsAt_70 (e_has (by omega) ?_)
        simp only [cont, Option.toList, List.cons_append, List.nil_append]
        refine rX3_holdsAt_73 ?_
        simp only [bX3_holdsAt_73, run, Nat.reduceAdd, lg, st1, st2, lkill, lset, fvv, sfv, kind3, cat1, retI, retA, List.length_cons, List.length_nil, true_and, and_true, or_true, true_or, qX3_holdsAt]
        cases c3 : w.2.2.1.testBit a with
        | true =>
          have z := l76 c1 (by rw [c3]; simp)
          exact br_f (by decide) z
        | false =>
          refine br_t (by decide) (no ?_)
          rw [hld_e, c3]
          simp [hne]
  have t2 : ∀ a : Nat, a < 17 → a = (if p = 0 then 16 else l.getD (p - 1) 0) → Ex g mX3_holdsAt 22 [vR x, vL (eC l), vU, vI (nI p), vI (nI a), vU] [vL (eC l), vI (nI (p + 1))] h (0, 0) Q := by
    intro a ha ea
    refine sX3_holdsAt_22 (e_size hl ?_)
    simp only [cont, Option.toList, List.cons_append, List.nil_append]
    refine rX3_holdsAt_25 ?_
    simp only [bX3_holdsAt_25, run, Nat.reduceAdd, lg, st1, st2, lkill, lset, fvv, sfv, kind3, cat1, retI, retA, List.length_cons, List.length_nil, true_and, and_true, or_true, true_or, qX3_holdsAt]
    refine bn_c (fun hc => ?_) fun hc => ?_
    · have hne : ¬ p + 1 = l.length := fun e => hc (by rw [e])
      refine rX3_holdsAt_33 ?_
      simp only [bX3_holdsAt_33, run, Nat.reduceAdd, lg, st1, st2, lkill, lset, fvv, sfv, kind3, cat1, retI, retA, List.length_cons, List.length_nil, true_and, and_true, or_true, true_or, qX3_holdsAt]
      rw [nI_1]
      refine sX3_holdsAt_37 (e_at hl (by omega) ?_)
      simp only [cont, Option.toList, List.cons_append, List.nil_append]
      have z := t3 a (l.getD (p + 1) 0) ha (Nat.lt_succ_of_lt (hl.at _)) ea (by rw [if_neg hne])
      refine rX3_holdsAt_40 ?_
      simp only [bX3_holdsAt_40, run, Nat.reduceAdd, lg, st1, st2, lkill, lset, fvv, sfv, kind3, cat1, retI, retA, List.length_cons, List.length_nil, true_and, and_true, or_true, true_or, qX3_holdsAt]
      exact z
    · have he : p + 1 = l.length := (nI_eq (by omega) (by omega)).mp hc
      exact t3 a 16 ha (by omega) ea (by rw [if_pos he])
  refine rX3_holdsAt_0 ?_
  simp only [bX3_holdsAt_0, run, Nat.reduceAdd, lg, st1, st2, lkill, lset, fvv, sfv, kind3, cat1, retI, retA, List.length_cons, List.length_nil, true_and, and_true, or_true, true_or, qX3_holdsAt]
  refine bn_c (fun hc => ?_) fun hc => ?_
  · have hne : ¬ p = 0 := fun e => hc (by rw [e]; rfl)
    refine rX3_holdsAt_9 ?_
    simp only [bX3_holdsAt_9, run, Nat.reduceAdd, lg, st1, st2, lkill, lset, fvv, sfv, kind3, cat1, retI, retA, List.length_cons, List.length_nil, true_and, and_true, or_true, true_or, qX3_holdsAt]
    rw [show (1 : Int32) = nI 1 from rfl, pk_sub (by omega)]
    refine sX3_holdsAt_13 (e_at hl (by omega) ?_)
    simp only [cont, Option.toList, List.cons_append, List.nil_append]
    have z := t2 (l.getD (p - 1) 0) (Nat.lt_succ_of_lt (hl.at _)) (by rw [if_neg hne])
    refine rX3_holdsAt_16 ?_
    simp only [bX3_holdsAt_16, run, Nat.reduceAdd, lg, st1, st2, lkill, lset, fvv, sfv, kind3, cat1, retI, retA, List.length_cons, List.length_nil, true_and, and_true, or_true, true_or, qX3_holdsAt]
    rw [nI_1]
    exact z
  · have he : p = 0 := (nI_eq (b := 0) (by omega) (by omega)).mp hc
    rw [nI_1]
    exact t2 16 (by omega) (by rw [if_pos he])
theorem e_goOver {g : Gp} {f : Nat → Nat} {w : Lw} {l : List Nat} {x : Nat} {h : AH} {Q : PQ} (hn : Sn h f) (hw : LwR h x w) (hl : Wok l) (hq : Q (.inl (some (vL (eC (gov f w l))))) h) : Ev g mX3_goOver [vR x, vL (eC l), vR 5] h Q := by
  have hl1 := hl.1
  refine nX3_goOver ?_
  have lp : ∀ d p, p + d = l.length → ∀ y z : AV, Ex g mX3_goOver 6 [vR x, vL (eC l), vU, vR 5, vL (eC (mde f w l p)), vU, vI (nI p), y, z] [] h (0, 0) Q := by
    intro d
    induction d with
    | zero =>
      intro p hp y z
      have hp2 : p = l.length := by omega
      refine rX3_goOver_6 ?_
      simp only [bX3_goOver_6, run, Nat.reduceAdd, lg, st1, st2, lkill, lset, fvv, sfv, kind3, cat1, retI, retA, List.length_cons, List.length_nil, true_and, and_true, or_true, true_or, qX3_goOver]
      refine sX3_goOver_9 (e_size hl ?_)
      simp only [cont, Option.toList, List.cons_append, List.nil_append]
      refine rX3_goOver_12 ?_
      simp only [bX3_goOver_12, run, Nat.reduceAdd, lg, st1, st2, lkill, lset, fvv, sfv, kind3, cat1, retI, retA, List.length_cons, List.length_nil, true_and, and_true, or_true, true_or, qX3_goOver]
      refine br_t (nI_le (by omega) (by omega)) ?_
      refine rX3_goOver_68 ?_
      simp only [bX3_goOver_68, run, Nat.reduceAdd, lg, st1, st2, lkill, lset, fvv, sfv, kind3, cat1, retI, retA, List.length_cons, List.length_nil, true_and, and_true, or_true, true_or, qX3_goOver]
      subst hp2
      have hm := mde_wok (f := f) (w := w) hl (Nat.le_refl _)
      unfold gov at hq
      refine bn_c (fun hc => ?_) fun hc => ?_
      · have h9 : ¬ mde f w l l.length = [] := fun e => hc ((lg_cmp_eq _ _).mpr ((eC_0 hm).mpr e))
        rw [if_neg h9] at hq
        refine rX3_goOver_79 ?_
        simp only [bX3_goOver_79, run, Nat.reduceAdd, lg, st1, st2, lkill, lset, fvv, sfv, kind3, cat1, retI, retA, List.length_cons, List.length_nil, true_and, and_true, or_true, true_or, qX3_goOver]
        exact hq
      · have h9 : mde f w l l.length = [] := (eC_0 hm).mp ((lg_cmp_eq _ _).mp hc)
        rw [if_pos h9] at hq
        exact hq
    | succ d ih =>
      intro p hp y z
      have hm := mde_wok (f := f) (w := w) hl (p := p) (by omega)
      have hat := hl.at p
      have next : ∀ y z, Ex g mX3_goOver 6 [vR x, vL (eC l), vU, vR 5, vL (eC (mde f w l (p + 1))), vU, vI (nI p + 1), y, z] [] h (0, 0) Q := fun y z => by rw [nI_1]; exact ih (p + 1) (by omega) y z
      have fin : ∀ o : Option Nat, o = opt f w l p → ((hI o = -1 → Ex g mX3_goOver 62 [vR x, vL (eC l), vU, vR 5, vL (eC (mde f w l p)), vU, vI (nI p), vI (nI (l.getD p 0)), vI (hI o)] [] h (0, 0) Q) ∧ (¬ hI o = -1 → Ex g mX3_goOver 57 [vR x, vL (eC l), vU, vR 5, vL (eC (mde f w l p)), vU, vI (nI p), vI (nI (l.getD p 0)), vI (hI o)] [vI (hI o), vL (eC (mde f w l p))] h (0, 0) Q)) := by
        intro o ho
        cases o with
        | none =>
          refine br_t rfl ?_
          have e1 : mde f w l (p + 1) = mde f w l p := by simp [mde, ← ho]
          rw [e1] at next
          refine rX3_goOver_62 ?_
          simp only [bX3_goOver_62, run, Nat.reduceAdd, lg, st1, st2, lkill, lset, fvv, sfv, kind3, cat1, retI, retA, List.length_cons, List.length_nil, true_and, and_true, or_true, true_or, qX3_goOver]
          exact next _ _
        | some t =>
          have ht := opt_lt hl ho.symm
          have e1 : mde f w l (p + 1) = mde f w l p ++ [t] := by simp [mde, ← ho]
          rw [e1] at next
          refine br_f (fun e => ?_) ?_
          · have := congrArg Int32.toInt e
            rw [show hI (some t) = nI t from rfl, nI_toInt (by omega)] at this
            simp at this
          · refine sX3_goOver_57 (e_plus hm (Nat.lt_of_le_of_lt (mde_le p) (by omega)) ht ?_)
            simp only [cont, Option.toList, List.cons_append, List.nil_append]
            refine rX3_goOver_60 ?_
            simp only [bX3_goOver_60, run, Nat.reduceAdd, lg, st1, st2, lkill, lset, fvv, sfv, kind3, cat1, retI, retA, List.length_cons, List.length_nil, true_and, and_true, or_true, true_or, qX3_goOver]
            exact next _ _
      refine rX3_goOver_6 ?_
      simp only [bX3_goOver_6, run, Nat.reduceAdd, lg, st1, st2, lkill, lset, fvv, sfv, kind3, cat1, retI, retA, List.length_cons, List.length_nil, true_and, and_true, or_true, true_or, qX3_goOver]
      refine sX3_goOver_9 (e_size hl ?_)
      simp only [cont, Option.toList, List.cons_append, List.nil_append]
      refine rX3_goOver_12 ?_
      simp only [bX3_goOver_12, run, Nat.reduceAdd, lg, st1, st2, lkill, lset, fvv, sfv, kind3, cat1, retI, retA, List.length_cons, List.length_nil, true_and, and_true, or_true, true_or, qX3_goOver]
      refine br_f (nI_ge (by omega) (by omega)) ?_
      refine sX3_goOver_18 (e_at hl (by omega) ?_)
      simp only [cont, Option.toList, List.cons_append, List.nil_append]
      refine rX3_goOver_21 ?_
      simp only [bX3_goOver_21, run, Nat.reduceAdd, lg, st1, st2, lkill, lset, fvv, sfv, kind3, cat1, retI, retA, List.length_cons, List.length_nil, true_and, and_true, or_true, true_or, qX3_goOver]
      refine sX3_goOver_27 hw.2.1 (e_holdsAt hw hl (by omega) ?_)
      simp only [cont, Option.toList, List.cons_append, List.nil_append]
      refine rX3_goOver_30 ?_
      simp only [bX3_goOver_30, run, Nat.reduceAdd, lg, st1, st2, lkill, lset, fvv, sfv, kind3, cat1, retI, retA, List.length_cons, List.length_nil, true_and, and_true, or_true, true_or, qX3_goOver]
      unfold opt at fin
      cases hc : hld w l p with
      | false =>
        rw [hc] at fin
        refine br_t (by decide) ?_
        have z := fin (some (l.getD p 0)) rfl
        refine rX3_goOver_43 ?_
        simp only [bX3_goOver_43, run, Nat.reduceAdd, lg, st1, st2, lkill, lset, fvv, sfv, kind3, cat1, retI, retA, List.length_cons, List.length_nil, true_and, and_true, or_true, true_or, qX3_goOver]
        exact z
      | true =>
        rw [hc] at fin
        refine br_f (by decide) ?_
        refine sX3_goOver_37 hw.2.1 (e_heirOf hn hw hat ?_)
        simp only [cont, Option.toList, List.cons_append, List.nil_append]
        have z := fin _ rfl
        refine rX3_goOver_40 ?_
        simp only [bX3_goOver_40, run, Nat.reduceAdd, lg, st1, st2, lkill, lset, fvv, sfv, kind3, cat1, retI, retA, List.length_cons, List.length_nil, true_and, and_true, or_true, true_or, qX3_goOver]
        exact z
  refine rX3_goOver_0 ?_
  simp only [bX3_goOver_0, run, Nat.reduceAdd, lg, st1, st2, lkill, lset, fvv, sfv, kind3, cat1, retI, retA, List.length_cons, List.length_nil, true_and, and_true, or_true, true_or, qX3_goOver]
  have z := lp l.length 0 (by omega) vU vU
  rw [show mde f w l 0 = [] from rfl, eC_nil, nI_0] at z
  exact z
end
section
/-! ===== a history: languages, laws, loans; its words ===== -/
abbrev Ln : Type := Nat × Nat × Nat × Nat
/-- how many languages; parents; laws; loans -/
abbrev HD : Type := Nat × (Nat → Nat) × (Nat → List Lw) × List Ln
abbrev w0 : Lw := (0, 0, 0, 0)
def pc (p : Nat → Nat) (l : Nat) : Nat := if l = 0 then 0 else p l + 1
def hdOk (D : HD) : Prop := 1 ≤ D.1 ∧ D.1 ≤ 10 ∧ (∀ l, 0 < l → l < D.1 → D.2.1 l < l) ∧ (∀ l, l < D.1 → (D.2.2.1 l).length ≤ 8) ∧ D.2.2.2.length ≤ 12 ∧ ∀ i, i < D.2.2.2.length → (D.2.2.2.getD i w0).1 < 12 ∧ (D.2.2.2.getD i w0).2.1 < (D.2.2.2.getD i w0).2.2.1 ∧ (D.2.2.2.getD i w0).2.2.1 < D.1 ∧ (D.2.2.2.getD i w0).2.2.2 ≤ 8
def LgR (h : AH) (y p : Nat) (ws : List Lw) : Prop := zK h y = (1, 3) ∧ zI h y 0 = bI p ∧ ∃ e ys, LsR h (zR h y 1) e ys ∧ ys.length = ws.length ∧ ∀ i, i < ws.length → LwR h (ys.getD i 0) (ws.getD i w0)
def LnR (h : AH) (z : Nat) (n : Ln) : Prop := zK h z = (1, 6) ∧ zI h z 0 = nI n.1 ∧ zI h z 1 = nI n.2.1 ∧ zI h z 2 = nI n.2.2.1 ∧ zI h z 3 = nI n.2.2.2
def LgsR (h : AH) (a : Nat) (n : Nat) (p : Nat → Nat) (ls : Nat → List Lw) : Prop := ∃ e xs, LsR h a e xs ∧ xs.length = n ∧ ∀ l, l < n → LgR h (xs.getD l 0) (pc p l) (ls l)
def LnsR (h : AH) (a : Nat) (ln : List Ln) : Prop := ∃ e zs, LsR h a e zs ∧ zs.length = ln.length ∧ ∀ i, i < ln.length → LnR h (zs.getD i 0) (ln.getD i w0)
def HsR (h : AH) (hs : Nat) (D : HD) : Prop := zK h hs = (1, 2) ∧ LgsR h (zR h hs 0) D.1 D.2.1 D.2.2.1 ∧ LnsR h (zR h hs 1) D.2.2.2
/-- the kinds of cells that a history is made of -/
def hk (k : Nat × Nat) : Prop := k.1 = 6 ∨ k = (1, 0) ∨ k = (1, 2) ∨ k = (1, 3) ∨ k = (1, 4) ∨ k = (1, 6)
abbrev Kh (h h' : AH) : Prop := Kp (fun a => ¬ hk (zK h a)) h h'
theorem Kh.sm {h h' : AH} (w : Wf h) (x : Kh h h') {a t n : Nat} (ha : zK h a = (t, n)) (hh : hk (t, n)) : zK h' a = (t, n) ∧ Sm h h' a := by
  have ht : t ≠ 0 := by
    rcases hh with h1 | h1 | h1 | h1 | h1 | h1
    · omega
    all_goals (cases h1; decide)
  exact ⟨x.kd w ha ht, x.2.2 a (w.lt ha ht) (fun q => q (by rw [ha]; exact hh))⟩
theorem LsR.kh {h h' : AH} (w : Wf h) (x : Kh h h') {a e : Nat} {xs : List Nat} (hl : LsR h a e xs) : LsR h' a e xs := by
  obtain ⟨h1, h2, h3, h4⟩ := hl
  obtain ⟨k1, k2, -, -, k5⟩ := x.sm w h1 (Or.inr (Or.inl rfl))
  refine ⟨k1, by rw [k2]; exact h2, by rw [k5]; exact h3, h4.imp id ?_⟩
  rintro ⟨cap, c1, c2, c3, c4⟩
  obtain ⟨q1, -, -, -, q5⟩ := x.sm w c1 (Or.inl rfl)
  exact ⟨cap, q1, c2, c3, fun i hi => by rw [q5]; exact c4 i hi⟩
theorem LwR.kh {h h' : AH} (w : Wf h) (x : Kh h h') {a : Nat} {v : Lw} (hl : LwR h a v) : LwR h' a v := by
  obtain ⟨h0, h1, h2, h3, h4, h5⟩ := hl
  obtain ⟨k1, k2, -⟩ := x.sm w h1 (Or.inr (Or.inr (Or.inr (Or.inr (Or.inl rfl)))))
  exact ⟨h0, k1, by rw [k2]; exact h2, by rw [k2]; exact h3, by rw [k2]; exact h4, by rw [k2]; exact h5⟩
theorem LgR.kh {h h' : AH} (w : Wf h) (x : Kh h h') {y p : Nat} {ws : List Lw} (hl : LgR h y p ws) : LgR h' y p ws := by
  obtain ⟨h1, h2, e, ys, h3, h4, h5⟩ := hl
  obtain ⟨k1, k2, -, -, k5⟩ := x.sm w h1 (Or.inr (Or.inr (Or.inr (Or.inl rfl))))
  exact ⟨k1, by rw [k2]; exact h2, e, ys, by rw [k5]; exact h3.kh w x, h4, fun i hi => (h5 i hi).kh w x⟩
theorem LnR.kh {h h' : AH} (w : Wf h) (x : Kh h h') {a : Nat} {v : Ln} (hl : LnR h a v) : LnR h' a v := by
  obtain ⟨h1, h2, h3, h4, h5⟩ := hl
  obtain ⟨k1, k2, -⟩ := x.sm w h1 (Or.inr (Or.inr (Or.inr (Or.inr (Or.inr rfl)))))
  exact ⟨k1, by rw [k2]; exact h2, by rw [k2]; exact h3, by rw [k2]; exact h4, by rw [k2]; exact h5⟩
theorem LgsR.kh {h h' : AH} (w : Wf h) (x : Kh h h') {a n : Nat} {p : Nat → Nat} {ls : Nat → List Lw} (hl : LgsR h a n p ls) : LgsR h' a n p ls := by
  obtain ⟨e, xs, h1, h2, h3⟩ := hl
  exact ⟨e, xs, h1.kh w x, h2, fun l q => (h3 l q).kh w x⟩
theorem LnsR.kh {h h' : AH} (w : Wf h) (x : Kh h h') {a : Nat} {ln : List Ln} (hl : LnsR h a ln) : LnsR h' a ln := by
  obtain ⟨e, xs, h1, h2, h3⟩ := hl
  exact ⟨e, xs, h1.kh w x, h2, fun l q => (h3 l q).kh w x⟩
theorem HsR.kh {h h' : AH} (w : Wf h) (x : Kh h h') {hs : Nat} {D : HD} (hl : HsR h hs D) : HsR h' hs D := by
  obtain ⟨h1, h2, h3⟩ := hl
  obtain ⟨k1, -, -, -, k5⟩ := x.sm w h1 (Or.inr (Or.inr (Or.inl rfl)))
  exact ⟨k1, by rw [k5]; exact h2.kh w x, by rw [k5]; exact h3.kh w x⟩
/-- a word, where it comes from (0: the mother, n + 1: loan n), what has changed it -/
abbrev Cell3 : Type := List Nat × Nat × Nat
def brw (ln : List Ln) (T : Nat → Cell3) (l m t : Nat) : Nat → Cell3 → Cell3
  | 0, c => c
  | n + 1, c => if ((ln.getD n w0).2.2.1 = l ∧ (ln.getD n w0).1 = m ∧ (ln.getD n w0).2.2.2 = t) ∧ ¬ (T (ln.getD n w0).2.1).1 = [] then ((T (ln.getD n w0).2.1).1, n + 1, 0) else brw ln T l m t n c
def lst (f : Nat → Nat) (ws : List Lw) (t : Nat) (c : Cell3) : Cell3 := if t < ws.length then (if gov f (ws.getD t w0) c.1 = c.1 then c else (gov f (ws.getD t w0) c.1, c.2.1, c.2.2 ||| 2 ^ t)) else c
def inh (D : HD) (gv : Nat → List Nat) (T : Nat → Cell3) (l m : Nat) : Cell3 := if l = 0 then (gv m, 0, 0) else ((T (D.2.1 l)).1, (T (D.2.1 l)).2.1, 0)
def tel (D : HD) (f : Nat → Nat) (gv : Nat → List Nat) (T : Nat → Cell3) (l m : Nat) : Nat → Cell3
  | 0 => inh D gv T l m
  | t + 1 => lst f (D.2.2.1 l) t (brw D.2.2.2 T l m t D.2.2.2.length (tel D f gv T l m t))
def tbl (D : HD) (f : Nat → Nat) (gv : Nat → List Nat) (m : Nat) : Nat → Nat → Cell3
  | 0, _ => ([], 0, 0)
  | n + 1, l => if l = n then tel D f gv (tbl D f gv m n) n m 9 else tbl D f gv m n l
/-- the word of a language for a meaning -/
def cel (D : HD) (f : Nat → Nat) (gv : Nat → List Nat) (m l : Nat) : Cell3 := tbl D f gv m (l + 1) l
theorem tbl_cel {D : HD} {f : Nat → Nat} {gv : Nat → List Nat} {m l : Nat} : ∀ {n : Nat}, l < n → tbl D f gv m n l = cel D f gv m l
  | 0, h => absurd h (Nat.not_lt_zero _)
  | n + 1, h => by
    by_cases e : l = n
    · subst e; rfl
    · rw [tbl, if_neg e]
      exact tbl_cel (by omega)
def cOk (b t : Nat) (c : Cell3) : Prop := Wok c.1 ∧ c.2.1 ≤ b ∧ c.2.2 < 2 ^ t
theorem brw_ok {ln : List Ln} {T : Nat → Cell3} {l m t b : Nat} (hT : ∀ k, k < l → Wok (T k).1) {c : Cell3} (hc : cOk b t c) (hf : ∀ i, i < ln.length → (ln.getD i w0).2.1 < (ln.getD i w0).2.2.1) : ∀ n, n ≤ b → n ≤ ln.length → cOk b t (brw ln T l m t n c)
  | 0, _, _ => hc
  | n + 1, hb, hn => by
    unfold brw
    split
    · next hx =>
      refine ⟨hT _ ?_, hb, Nat.two_pow_pos t⟩
      have := hf n (by omega)
      omega
    · exact brw_ok hT hc hf n (by omega) (by omega)
theorem lst_ok {f : Nat → Nat} {ws : List Lw} {t b : Nat} {c : Cell3} (hc : cOk b t c) : cOk b (t + 1) (lst f ws t c) := by
  have h2 : c.2.2 < 2 ^ (t + 1) := by have := hc.2.2; rw [Nat.pow_succ]; omega
  unfold lst
  split
  · split
    · exact ⟨hc.1, hc.2.1, h2⟩
    · exact ⟨gov_wok hc.1, hc.2.1, Nat.or_lt_two_pow h2 (Nat.pow_lt_pow_right (by decide) (by omega))⟩
  · exact ⟨hc.1, hc.2.1, h2⟩
theorem inh_ok {D : HD} {gv : Nat → List Nat} {T : Nat → Cell3} {l m : Nat} (hD : hdOk D) (hl : l < D.1) (hT : ∀ k, k < l → cOk 12 9 (T k)) (hg : Wok (gv m)) : cOk 12 0 (inh D gv T l m) := by
  unfold inh
  split
  · exact ⟨hg, by simp, by simp⟩
  · have := hT _ (hD.2.2.1 l (by omega) hl)
    exact ⟨this.1, this.2.1, by simp⟩
theorem tel_ok {D : HD} {f : Nat → Nat} {gv : Nat → List Nat} {T : Nat → Cell3} {l m : Nat} (hD : hdOk D) (hl : l < D.1) (hT : ∀ k, k < l → cOk 12 9 (T k)) (hg : Wok (gv m)) : ∀ t, cOk 12 t (tel D f gv T l m t)
  | 0 => inh_ok hD hl hT hg
  | t + 1 => lst_ok (brw_ok (fun k hk => (hT k hk).1) (tel_ok hD hl hT hg t) (fun i hi => (hD.2.2.2.2.2 i hi).2.1) _ hD.2.2.2.2.1 (Nat.le_refl _))
theorem tbl_ok {D : HD} {f : Nat → Nat} {gv : Nat → List Nat} {m : Nat} (hD : hdOk D) (hg : Wok (gv m)) : ∀ n, n ≤ D.1 → ∀ l, cOk 12 9 (tbl D f gv m n l)
  | 0, _, l => ⟨wok_nil, by simp [tbl], by simp [tbl]⟩
  | n + 1, hn, l => by
    unfold tbl
    split
    · exact tel_ok hD (by omega) (fun k _ => tbl_ok hD hg n (by omega) k) hg 9
    · exact tbl_ok hD hg n (by omega) l
theorem cel_ok {D : HD} {f : Nat → Nat} {gv : Nat → List Nat} {m l : Nat} (hD : hdOk D) (hg : Wok (gv m)) (hl : l < D.1) : cOk 12 9 (cel D f gv m l) := tbl_ok hD hg (l + 1) hl l
end
section
/-! ===== a lexicon ===== -/
/-- the lexicon at x, its rows from b on -/
def LxS (h : AH) (x b : Nat) : Prop := zK h x = (1, 5) ∧ zR h x 1 = 5 ∧ zR h x 2 = 24 ∧ zR h x 3 = b ∧ zR h x 4 = b + 1 ∧ zR h x 5 = b + 2 ∧ zR h x 6 = b + 3 ∧ zK h b = (3, 120) ∧ zK h (b + 1) = (2, 120) ∧ zK h (b + 2) = (2, 120) ∧ zK h (b + 3) = (4, 12) ∧ x < b ∧ 25 ≤ b
def GvR (h : AH) (gv : Nat → List Nat) : Prop := zK h 24 = (3, 12) ∧ ∀ m, m < 12 → Wok (gv m) ∧ zL h 24 m = eC (gv m)
def CR (h : AH) (b k : Nat) (c : Cell3) : Prop := zL h b k = eC c.1 ∧ zI h (b + 1) k = bI c.2.1 ∧ zI h (b + 2) k = nI c.2.2
def Cw (b k : Nat) (h h' : AH) : Prop := Kp (fun a => b ≤ a ∧ a ≤ b + 2) h h' ∧ ∀ j, j ≠ k → zL h' b j = zL h b j ∧ zI h' (b + 1) j = zI h (b + 1) j ∧ zI h' (b + 2) j = zI h (b + 2) j
theorem Cw.rf {b k : Nat} {h : AH} : Cw b k h h := ⟨Kp.rf, fun _ _ => ⟨rfl, rfl, rfl⟩⟩
theorem Cw.tr {b k : Nat} {h1 h2 h3 : AH} (x : Cw b k h1 h2) (y : Cw b k h2 h3) : Cw b k h1 h3 :=
  ⟨x.1.tr y.1, fun j hj => ⟨(y.2 j hj).1.trans (x.2 j hj).1, (y.2 j hj).2.1.trans (x.2 j hj).2.1, (y.2 j hj).2.2.trans (x.2 j hj).2.2⟩⟩
theorem Cw.wL {b k : Nat} {h : AH} {v : Int64} : Cw b k h (sL h b k v) :=
  ⟨Kp.sL ⟨Nat.le_refl _, by omega⟩, fun j hj => ⟨by rw [zL_sL]; exact up1_n _ _ hj, rfl, rfl⟩⟩
theorem Cw.wI1 {b k : Nat} {h : AH} {v : Int32} : Cw b k h (sI h (b + 1) k v) :=
  ⟨Kp.sI ⟨by omega, by omega⟩, fun j hj => ⟨rfl, by rw [zI_sI]; exact up1_n _ _ hj, congrFun (up1_n (zI h) _ (by omega)) j⟩⟩
theorem Cw.wI2 {b k : Nat} {h : AH} {v : Int32} : Cw b k h (sI h (b + 2) k v) :=
  ⟨Kp.sI ⟨by omega, by omega⟩, fun j hj => ⟨rfl, congrFun (up1_n (zI h) _ (by omega)) j, by rw [zI_sI]; exact up1_n _ _ hj⟩⟩
theorem CR.cw {b k j : Nat} {h h' : AH} {c : Cell3} (x : Cw b k h h') (hj : j ≠ k) (hc : CR h b j c) : CR h' b j c :=
  ⟨(x.2 j hj).1.trans hc.1, (x.2 j hj).2.1.trans hc.2.1, (x.2 j hj).2.2.trans hc.2.2⟩
theorem CR.w3 {b k : Nat} {h : AH} {c : Cell3} {v : Int64} {o t : Int32} (h1 : v = eC c.1) (h2 : o = bI c.2.1) (h3 : t = nI c.2.2) : CR (sI (sI (sL h b k v) (b + 1) k o) (b + 2) k t) b k c := by
  refine ⟨?_, ?_, ?_⟩
  · show zL (sL h b k v) b k = _
    rw [zL_sL, up1_s]; exact h1
  · rw [show zI (sI (sI (sL h b k v) (b + 1) k o) (b + 2) k t) (b + 1) = zI (sI (sL h b k v) (b + 1) k o) (b + 1) from up1_n _ _ (by omega), zI_sI, up1_s]; exact h2
  · rw [zI_sI, up1_s]; exact h3
theorem Cw.w3 {b k : Nat} {h : AH} {v : Int64} {o t : Int32} : Cw b k h (sI (sI (sL h b k v) (b + 1) k o) (b + 2) k t) := (Cw.wL.tr Cw.wI1).tr Cw.wI2
theorem Sn.kp {S : Nat → Prop} {h h' : AH} {f : Nat → Nat} (w : Wf h) (x : Kp S h h') (hS : ∀ a, 5 ≤ a → a ≤ 23 → ¬ S a) (hn : Sn h f) : Sn h' f := by
  obtain ⟨n1, n2, n3, n4, n5, n6⟩ := hn
  have s5 := x.2.2 5 (w.lt n1 (by decide)) (hS 5 (by omega) (by omega))
  have s6 := x.2.2 6 (w.lt n4 (by decide)) (hS 6 (by omega) (by omega))
  have s7 := x.2.2 7 (w.lt n5 (by decide)) (hS 7 (by omega) (by omega))
  refine ⟨x.kd w n1 (by decide), by rw [s5.2.2.2]; exact n2, by rw [s5.2.2.2]; exact n3, x.kd w n4 (by decide), x.kd w n5 (by decide), fun s hs => ?_⟩
  obtain ⟨c1, c2, c3, c4, c5⟩ := n6 s hs
  have s8 := x.2.2 (8 + s) (w.lt c2 (by decide)) (hS _ (by omega) (by omega))
  exact ⟨by rw [s7.2.2.2]; exact c1, x.kd w c2 (by decide), c3, by rw [s6.1]; exact c4, fun t ht => by rw [s8.1]; exact c5 t ht⟩
theorem GvR.kp {S : Nat → Prop} {h h' : AH} {gv : Nat → List Nat} (w : Wf h) (x : Kp S h h') (hS : ¬ S 24) (hg : GvR h gv) : GvR h' gv := by
  have s := x.2.2 24 (w.lt hg.1 (by decide)) hS
  exact ⟨x.kd w hg.1 (by decide), fun m hm => ⟨(hg.2 m hm).1, by rw [s.2.1]; exact (hg.2 m hm).2⟩⟩
theorem LxS.kp {S : Nat → Prop} {h h' : AH} {x b : Nat} (w : Wf h) (y : Kp S h h') (hS : ¬ S x) (hx : LxS h x b) : LxS h' x b ∧ zR h' x 0 = zR h x 0 := by
  obtain ⟨a1, a2, a3, a4, a5, a6, a7, a8, a9, a10, a11, a12, a13⟩ := hx
  have s := y.2.2 x (w.lt a1 (by decide)) hS
  refine ⟨⟨y.kd w a1 (by decide), ?_, ?_, ?_, ?_, ?_, ?_, y.kd w a8 (by decide), y.kd w a9 (by decide), y.kd w a10 (by decide), y.kd w a11 (by decide), a12, a13⟩, by rw [s.2.2.2]⟩
  all_goals (rw [s.2.2.2]; assumption)
theorem LxS.kh {h h' : AH} {x b : Nat} (hx : LxS h x b) (y : Kp (fun a => b ≤ a ∧ a ≤ b + 3) h h') : Kh h h' := by
  obtain ⟨a1, a2, a3, a4, a5, a6, a7, a8, a9, a10, a11, a12, a13⟩ := hx
  refine y.mono fun a _ ha => ?_
  have : a = b ∨ a = b + 1 ∨ a = b + 2 ∨ a = b + 3 := by omega
  rcases this with rfl | rfl | rfl | rfl
  · rw [a8]; unfold hk; decide
  · rw [a9]; unfold hk; decide
  · rw [a10]; unfold hk; decide
  · rw [a11]; unfold hk; decide
theorem Cw.k3 {b k : Nat} {h h' : AH} (y : Cw b k h h') : Kp (fun a => b ≤ a ∧ a ≤ b + 3) h h' := y.1.mono fun a _ ha => ⟨ha.1, by omega⟩
theorem bI_0 : bI 0 = -1 := rfl
theorem bI_s (n : Nat) : bI (n + 1) = nI n := nI_pred n
theorem nI_m1 {n : Nat} (h : n < 2 ^ 31) : ¬ nI n = -1 := fun e => by
  have := congrArg Int32.toInt e
  rw [nI_toInt h] at this
  simp at this
theorem e_cell {g : Gp} {l m : Nat} {h : AH} {Q : PQ} (hq : Q (.inl (some (vI (nI (l * 12 + m))))) h) : Ev g mX4_cell [vI (nI l), vI (nI m)] h Q := by
  refine nX4_cell ?_
  refine rX4_cell_0 ?_
  simp only [bX4_cell_0, run, Nat.reduceAdd, lg, st1, st2, lkill, lset, fvv, sfv, kind3, cat1, retI, retA, List.length_cons, List.length_nil, true_and, and_true, or_true, true_or, qX4_cell]
  rw [show (12 : Int32) = nI 12 from rfl, pk_mul, nI_add]
  exact hq
theorem e_hasWord {g : Gp} {x b l m : Nat} {w : List Nat} {h : AH} {Q : PQ} (hx : LxS h x b) (hw : Wok w) (hl : l < 10) (hm : m < 12) (hc : zL h b (l * 12 + m) = eC w) (hq : Q (.inl (some (vI (if w = [] then 0 else 1)))) h) : Ev g mX4_hasWord [vR x, vI (nI l), vI (nI m)] h Q := by
  obtain ⟨a1, a2, a3, a4, a5, a6, a7, a8, a9, a10, a11, a12, a13⟩ := hx
  refine nX4_hasWord ?_
  refine rX4_hasWord_0 ?_
  simp only [bX4_hasWord_0, run, Nat.reduceAdd, lg, st1, st2, lkill, lset, fvv, sfv, kind3, cat1, retI, retA, List.length_cons, List.length_nil, true_and, and_true, or_true, true_or, qX4_hasWord]
  refine ⟨a1, sX4_hasWord_6 (e_cell ?_)⟩
  simp only [cont, Option.toList, List.cons_append, List.nil_append]
  refine rX4_hasWord_9 ?_
  simp only [bX4_hasWord_9, run, Nat.reduceAdd, lg, st1, st2, lkill, lset, fvv, sfv, kind3, cat1, retI, retA, List.length_cons, List.length_nil, true_and, and_true, or_true, true_or, qX4_hasWord]
  rw [a4, a8, nI_clamp (by omega), hc]
  refine ⟨rfl, vp_in_nI (by omega) (by omega), fun h0 => ?_, fun h0 => ?_⟩
  · rw [if_pos ((eC_0 hw).mp ((lg_cmp_eq _ _).mp h0))] at hq
    refine rX4_hasWord_19 ?_
    simp only [bX4_hasWord_19, run, Nat.reduceAdd, lg, st1, st2, lkill, lset, fvv, sfv, kind3, cat1, retI, retA, List.length_cons, List.length_nil, true_and, and_true, or_true, true_or, qX4_hasWord]
    exact hq
  · rw [if_neg fun e => h0 ((lg_cmp_eq _ _).mpr ((eC_0 hw).mpr e))] at hq
    exact hq
theorem e_comesTo {g : Gp} {x l m t : Nat} {n : Ln} {h : AH} {Q : PQ} (hn : LnR h x n) (b1 : n.1 < 12) (b2 : n.2.2.1 < 10) (b3 : n.2.2.2 ≤ 8) (hl : l < 10) (hm : m < 12) (ht : t ≤ 8) (hq : Q (.inl (some (vI (if n.2.2.1 = l ∧ n.1 = m ∧ n.2.2.2 = t then 1 else 0)))) h) : Ev g mX5_comesTo [vR x, vI (nI l), vI (nI m), vI (nI t)] h Q := by
  obtain ⟨a1, a2, a3, a4, a5⟩ := hn
  refine nX5_comesTo ?_
  have no : ¬ (n.2.2.1 = l ∧ n.1 = m ∧ n.2.2.2 = t) → Ex g mX5_comesTo 28 [vR x, vI (nI l), vI (nI m), vI (nI t)] [] h (0, 0) Q := by
    intro h0
    rw [if_neg h0] at hq
    refine rX5_comesTo_28 ?_
    simp only [bX5_comesTo_28, run, Nat.reduceAdd, lg, st1, st2, lkill, lset, fvv, sfv, kind3, cat1, retI, retA, List.length_cons, List.length_nil, true_and, and_true, or_true, true_or, qX5_comesTo]
    exact hq
  refine rX5_comesTo_0 ?_
  simp only [bX5_comesTo_0, run, Nat.reduceAdd, lg, st1, st2, lkill, lset, fvv, sfv, kind3, cat1, retI, retA, List.length_cons, List.length_nil, true_and, and_true, or_true, true_or, qX5_comesTo]
  rw [a4, a2, a5]
  refine ⟨a1, bn_c (fun hc => no fun e => hc (by rw [e.1])) fun c1 => ⟨a1, bn_c (fun hc => no fun e => hc (by rw [e.2.1])) fun c2 => ⟨a1, bn_c (fun hc => no fun e => hc (by rw [e.2.2])) fun c3 => ?_⟩⟩⟩
  rw [if_pos ⟨(nI_eq (by omega) (by omega)).mp c1, (nI_eq (by omega) (by omega)).mp c2, (nI_eq (by omega) (by omega)).mp c3⟩] at hq
  exact hq
theorem e_inherit {g : Gp} {x b l m : Nat} {D : HD} {gv : Nat → List Nat} {T : Nat → Cell3} {h : AH} {Q : PQ} (hx : LxS h x b) (hh : HsR h (zR h x 0) D) (hD : hdOk D) (hg : GvR h gv) (hl : l < D.1) (hm : m < 12) (hT : ∀ k, k < l → CR h b (k * 12 + m) (T k))
    (hq : ∀ h', Cw b (l * 12 + m) h h' → CR h' b (l * 12 + m) (inh D gv T l m) → Q (.inl none) h') : Ev g mX4_inherit [vR x, vI (nI l), vI (nI m)] h Q := by
  obtain ⟨a1, a2, a3, a4, a5, a6, a7, a8, a9, a10, a11, a12, a13⟩ := hx
  obtain ⟨b1, ⟨e, xs, b2, b3, b4⟩, -⟩ := hh
  have hD1 := hD.2.1
  obtain ⟨c1, c2, -⟩ := b4 l hl
  refine nX4_inherit ?_
  refine rX4_inherit_0 ?_
  simp only [bX4_inherit_0, run, Nat.reduceAdd, lg, st1, st2, lkill, lset, fvv, sfv, kind3, cat1, retI, retA, List.length_cons, List.length_nil, true_and, and_true, or_true, true_or, qX4_inherit]
  refine sX4_inherit_2 (e_cell ?_)
  simp only [cont, Option.toList, List.cons_append, List.nil_append]
  refine rX4_inherit_5 ?_
  simp only [bX4_inherit_5, run, Nat.reduceAdd, lg, st1, st2, lkill, lset, fvv, sfv, kind3, cat1, retI, retA, List.length_cons, List.length_nil, true_and, and_true, or_true, true_or, qX4_inherit]
  refine ⟨a1, b1, sX4_inherit_14 b2.1 (l_get b2 (by omega) ?_)⟩
  simp only [cont, Option.toList, List.cons_append, List.nil_append]
  have hk : l * 12 + m < 120 := by omega
  have kk : (nI (l * 12 + m)).toNatClampNeg = l * 12 + m := nI_clamp (by omega)
  have km : (nI m).toNatClampNeg = m := nI_clamp (by omega)
  have vk := vp_in_nI hk (by omega : 120 < 2 ^ 31)
  have fin : ∀ v o, v = eC (inh D gv T l m).1 → o = bI (inh D gv T l m).2.1 → Q (.inl none) (sI (sI (sL h b (l * 12 + m) v) (b + 1) (l * 12 + m) o) (b + 2) (l * 12 + m) 0) := by
    intro v o h1 h2
    refine hq _ Cw.w3 (CR.w3 h1 h2 ?_)
    unfold inh
    split <;> rfl
  by_cases h0 : l = 0
  · subst h0
    refine rX4_inherit_17 ?_
    simp only [bX4_inherit_17, run, Nat.reduceAdd, lg, st1, st2, lkill, lset, fvv, sfv, kind3, cat1, retI, retA, List.length_cons, List.length_nil, true_and, and_true, or_true, true_or, qX4_inherit, c1, c2, show pc D.2.1 0 = 0 from rfl, bI_0, kL, kI, kD, kR, rL, rI, rD, iL, iD, iR, lI, lD, lR, not_true_eq_false, not_false_eq_true, false_implies, true_and, and_true, tti, a1, a3, a4, a5, a6, a8, a9, a10, hg.1, kk, km]
    refine ⟨vp_in_nI hm (by omega), vk, vk, vk, ?_⟩
    exact fin _ _ (hg.2 m hm).2 rfl
  · have ep : pc D.2.1 l = D.2.1 l + 1 := if_neg h0
    have hp := hD.2.2.1 l (by omega) hl
    have hk2 : D.2.1 l * 12 + m < 120 := by omega
    have kk2 : (nI (D.2.1 l * 12 + m)).toNatClampNeg = D.2.1 l * 12 + m := nI_clamp (by omega)
    have vk2 := vp_in_nI hk2 (by omega : 120 < 2 ^ 31)
    have hm1 : nI (D.2.1 l) = -1 ↔ False := ⟨nI_m1 (by omega), False.elim⟩
    have hT2 := hT _ hp
    have e1 : inh D gv T l m = ((T (D.2.1 l)).1, (T (D.2.1 l)).2.1, 0) := if_neg h0
    refine rX4_inherit_17 ?_
    simp only [bX4_inherit_17, run, Nat.reduceAdd, lg, st1, st2, lkill, lset, fvv, sfv, kind3, cat1, retI, retA, List.length_cons, List.length_nil, true_and, and_true, or_true, true_or, qX4_inherit, c1, c2, ep, bI_s, hm1, kL, kI, kD, kR, rL, rI, rD, iL, iD, iR, lI, lD, lR, not_true_eq_false, not_false_eq_true, false_implies, true_and, and_true, tti, a1, a3, a4, a5, a6, a8, a9, a10, kk, km]
    refine rX4_inherit_45 ?_
    simp only [bX4_inherit_45, run, Nat.reduceAdd, lg, st1, st2, lkill, lset, fvv, sfv, kind3, cat1, retI, retA, List.length_cons, List.length_nil, true_and, and_true, or_true, true_or, qX4_inherit, kL, kI, kD, kR, rL, rI, rD, iL, iD, iR, lI, lD, lR, not_true_eq_false, not_false_eq_true, false_implies, true_and, and_true, tti, a1, a4]
    refine sX4_inherit_52 (e_cell ?_)
    simp only [cont, Option.toList, List.cons_append, List.nil_append]
    refine rX4_inherit_55 ?_
    simp only [bX4_inherit_55, run, Nat.reduceAdd, lg, st1, st2, lkill, lset, fvv, sfv, kind3, cat1, retI, retA, List.length_cons, List.length_nil, true_and, and_true, or_true, true_or, qX4_inherit, hm1, kL, kI, kD, kR, rL, rI, rD, iL, iD, iR, lI, lD, lR, not_true_eq_false, not_false_eq_true, false_implies, true_and, and_true, tti, a1, a3, a4, a5, a6, a8, a9, a10, kk, kk2]
    refine ⟨vk2, vk, ?_⟩
    refine rX4_inherit_72 ?_
    simp only [bX4_inherit_72, run, Nat.reduceAdd, lg, st1, st2, lkill, lset, fvv, sfv, kind3, cat1, retI, retA, List.length_cons, List.length_nil, true_and, and_true, or_true, true_or, qX4_inherit, kL, kI, kD, kR, rL, rI, rD, iL, iD, iR, lI, lD, lR, not_true_eq_false, not_false_eq_true, false_implies, true_and, and_true, tti, a1, a5]
    refine sX4_inherit_79 (e_cell ?_)
    simp only [cont, Option.toList, List.cons_append, List.nil_append]
    refine rX4_inherit_82 ?_
    simp only [bX4_inherit_82, run, Nat.reduceAdd, lg, st1, st2, lkill, lset, fvv, sfv, kind3, cat1, retI, retA, List.length_cons, List.length_nil, true_and, and_true, or_true, true_or, qX4_inherit, kL, kI, kD, kR, rL, rI, rD, iL, iD, iR, lI, lD, lR, not_true_eq_false, not_false_eq_true, false_implies, true_and, and_true, tti, a1, a3, a4, a5, a6, a8, a9, a10, kk, kk2]
    refine ⟨vk2, vk, vk, ?_⟩
    exact fin _ _ (by rw [e1]; exact hT2.1) (by rw [e1]; exact hT2.2.1)
end
