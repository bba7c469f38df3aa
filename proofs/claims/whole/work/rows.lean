section
-- ===== PART A: goes FIRST, ahead of the names: the tables' words, and 'selects' of the private methods out of them =====
/-- a private method of a class that the tables say can be made, by its rows of tables_1 -/
def lw_okq (q : MethodName × Nat) : Prop := (q.1.cls ≠ "java/lang/invoke/MethodHandle" ∧ q.1.cls ≠ "java/lang/invoke/VarHandle") ∧ Cond.instantiable q.1.cls q.2 ∈ tables_1 ∧ Cond.privateMethod q.1 ∈ tables_1 ∧ Cond.instanceMethod q.1 ∈ tables_1
theorem lw_p0 : lw_okq (⟨"java/util/ArrayList", "add", "(Ljava/lang/Object;[Ljava/lang/Object;I)V"⟩, 3) := ⟨⟨by decide +kernel, by decide +kernel⟩, List.mem_of_getElem? (i := 66) (by decide +kernel), List.mem_of_getElem? (i := 116) (by decide +kernel), List.mem_of_getElem? (i := 117) (by decide +kernel)⟩
theorem lw_p1 : lw_okq (⟨"java/util/ArrayList", "grow", "()[Ljava/lang/Object;"⟩, 3) := ⟨⟨by decide +kernel, by decide +kernel⟩, List.mem_of_getElem? (i := 66) (by decide +kernel), List.mem_of_getElem? (i := 120) (by decide +kernel), List.mem_of_getElem? (i := 121) (by decide +kernel)⟩
theorem lw_p2 : lw_okq (⟨"java/util/ArrayList", "grow", "(I)[Ljava/lang/Object;"⟩, 3) := ⟨⟨by decide +kernel, by decide +kernel⟩, List.mem_of_getElem? (i := 66) (by decide +kernel), List.mem_of_getElem? (i := 124) (by decide +kernel), List.mem_of_getElem? (i := 125) (by decide +kernel)⟩
theorem lw_p3 : lw_okq (⟨"TonguerootFamily$Lexicon", "tellWord", "(II)V"⟩, 7) := ⟨⟨by decide +kernel, by decide +kernel⟩, List.mem_of_getElem? (i := 192) (by decide +kernel), List.mem_of_getElem? (i := 322) (by decide +kernel), List.mem_of_getElem? (i := 323) (by decide +kernel)⟩
theorem lw_p4 : lw_okq (⟨"TonguerootFamily$Lexicon", "inherit", "(II)V"⟩, 7) := ⟨⟨by decide +kernel, by decide +kernel⟩, List.mem_of_getElem? (i := 192) (by decide +kernel), List.mem_of_getElem? (i := 326) (by decide +kernel), List.mem_of_getElem? (i := 327) (by decide +kernel)⟩
theorem lw_p5 : lw_okq (⟨"TonguerootFamily$Lexicon", "borrow", "(III)V"⟩, 7) := ⟨⟨by decide +kernel, by decide +kernel⟩, List.mem_of_getElem? (i := 192) (by decide +kernel), List.mem_of_getElem? (i := 348) (by decide +kernel), List.mem_of_getElem? (i := 349) (by decide +kernel)⟩
theorem lw_p6 : lw_okq (⟨"TonguerootFamily$Law", "holdsAt", "(JI)Z"⟩, 4) := ⟨⟨by decide +kernel, by decide +kernel⟩, List.mem_of_getElem? (i := 374) (by decide +kernel), List.mem_of_getElem? (i := 372) (by decide +kernel), List.mem_of_getElem? (i := 373) (by decide +kernel)⟩
theorem lw_p7 : lw_okq (⟨"TonguerootFamily$Law", "heirOf", "(ILTonguerootFamily$Sounds;)I"⟩, 4) := ⟨⟨by decide +kernel, by decide +kernel⟩, List.mem_of_getElem? (i := 374) (by decide +kernel), List.mem_of_getElem? (i := 380) (by decide +kernel), List.mem_of_getElem? (i := 381) (by decide +kernel)⟩
theorem lw_p8 : lw_okq (⟨"TonguerootFamily", "lawsOf", "(I)Ljava/util/ArrayList;"⟩, 10) := ⟨⟨by decide +kernel, by decide +kernel⟩, List.mem_of_getElem? (i := 35) (by decide +kernel), List.mem_of_getElem? (i := 398) (by decide +kernel), List.mem_of_getElem? (i := 399) (by decide +kernel)⟩
theorem lw_p9 : lw_okq (⟨"TonguerootFamily", "countWords", "(I)I"⟩, 10) := ⟨⟨by decide +kernel, by decide +kernel⟩, List.mem_of_getElem? (i := 35) (by decide +kernel), List.mem_of_getElem? (i := 403) (by decide +kernel), List.mem_of_getElem? (i := 404) (by decide +kernel)⟩
theorem lw_p10 : lw_okq (⟨"TonguerootFamily", "countAlike", "(I)I"⟩, 10) := ⟨⟨by decide +kernel, by decide +kernel⟩, List.mem_of_getElem? (i := 35) (by decide +kernel), List.mem_of_getElem? (i := 408) (by decide +kernel), List.mem_of_getElem? (i := 409) (by decide +kernel)⟩
theorem lw_p11 : lw_okq (⟨"TonguerootFamily", "collectSounds", "(I)I"⟩, 10) := ⟨⟨by decide +kernel, by decide +kernel⟩, List.mem_of_getElem? (i := 35) (by decide +kernel), List.mem_of_getElem? (i := 416) (by decide +kernel), List.mem_of_getElem? (i := 417) (by decide +kernel)⟩
theorem lw_p12 : lw_okq (⟨"TonguerootFamily", "nearestTo", "(I)I"⟩, 10) := ⟨⟨by decide +kernel, by decide +kernel⟩, List.mem_of_getElem? (i := 35) (by decide +kernel), List.mem_of_getElem? (i := 422) (by decide +kernel), List.mem_of_getElem? (i := 423) (by decide +kernel)⟩
theorem lw_p13 : lw_okq (⟨"TonguerootFamily", "distanceOf", "(II)D"⟩, 10) := ⟨⟨by decide +kernel, by decide +kernel⟩, List.mem_of_getElem? (i := 35) (by decide +kernel), List.mem_of_getElem? (i := 427) (by decide +kernel), List.mem_of_getElem? (i := 428) (by decide +kernel)⟩
theorem lw_p14 : lw_okq (⟨"TonguerootFamily", "leastCost", "(III)I"⟩, 10) := ⟨⟨by decide +kernel, by decide +kernel⟩, List.mem_of_getElem? (i := 35) (by decide +kernel), List.mem_of_getElem? (i := 431) (by decide +kernel), List.mem_of_getElem? (i := 432) (by decide +kernel)⟩
theorem lw_p15 : lw_okq (⟨"TonguerootFamily$Alignment", "leastFrom", "(II)I"⟩, 8) := ⟨⟨by decide +kernel, by decide +kernel⟩, List.mem_of_getElem? (i := 221) (by decide +kernel), List.mem_of_getElem? (i := 451) (by decide +kernel), List.mem_of_getElem? (i := 452) (by decide +kernel)⟩
def lw_privs_1 : List (MethodName × Nat) := [(⟨"java/util/ArrayList", "add", "(Ljava/lang/Object;[Ljava/lang/Object;I)V"⟩, 3), (⟨"java/util/ArrayList", "grow", "()[Ljava/lang/Object;"⟩, 3), (⟨"java/util/ArrayList", "grow", "(I)[Ljava/lang/Object;"⟩, 3), (⟨"TonguerootFamily$Lexicon", "tellWord", "(II)V"⟩, 7), (⟨"TonguerootFamily$Lexicon", "inherit", "(II)V"⟩, 7), (⟨"TonguerootFamily$Lexicon", "borrow", "(III)V"⟩, 7), (⟨"TonguerootFamily$Law", "holdsAt", "(JI)Z"⟩, 4), (⟨"TonguerootFamily$Law", "heirOf", "(ILTonguerootFamily$Sounds;)I"⟩, 4), (⟨"TonguerootFamily", "lawsOf", "(I)Ljava/util/ArrayList;"⟩, 10), (⟨"TonguerootFamily", "countWords", "(I)I"⟩, 10), (⟨"TonguerootFamily", "countAlike", "(I)I"⟩, 10), (⟨"TonguerootFamily", "collectSounds", "(I)I"⟩, 10), (⟨"TonguerootFamily", "nearestTo", "(I)I"⟩, 10), (⟨"TonguerootFamily", "distanceOf", "(II)D"⟩, 10), (⟨"TonguerootFamily", "leastCost", "(III)I"⟩, 10), (⟨"TonguerootFamily$Alignment", "leastFrom", "(II)I"⟩, 8)]
theorem lw_r1 : ∀ q ∈ lw_privs_1, lw_okq q := List.forall_mem_cons.mpr ⟨lw_p0, List.forall_mem_cons.mpr ⟨lw_p1, List.forall_mem_cons.mpr ⟨lw_p2, List.forall_mem_cons.mpr ⟨lw_p3, List.forall_mem_cons.mpr ⟨lw_p4, List.forall_mem_cons.mpr ⟨lw_p5, List.forall_mem_cons.mpr ⟨lw_p6, List.forall_mem_cons.mpr ⟨lw_p7, List.forall_mem_cons.mpr ⟨lw_p8, List.forall_mem_cons.mpr ⟨lw_p9, List.forall_mem_cons.mpr ⟨lw_p10, List.forall_mem_cons.mpr ⟨lw_p11, List.forall_mem_cons.mpr ⟨lw_p12, List.forall_mem_cons.mpr ⟨lw_p13, List.forall_mem_cons.mpr ⟨lw_p14, List.forall_mem_cons.mpr ⟨lw_p15, fun _ h => absurd h List.not_mem_nil⟩⟩⟩⟩⟩⟩⟩⟩⟩⟩⟩⟩⟩⟩⟩⟩
theorem lw_p16 : lw_okq (⟨"TonguerootFamily$Alignment", "pairFrom", "(II)I"⟩, 8) := ⟨⟨by decide +kernel, by decide +kernel⟩, List.mem_of_getElem? (i := 221) (by decide +kernel), List.mem_of_getElem? (i := 455) (by decide +kernel), List.mem_of_getElem? (i := 456) (by decide +kernel)⟩
theorem lw_p17 : lw_okq (⟨"TonguerootFamily", "countRecalledWell", "(I)I"⟩, 10) := ⟨⟨by decide +kernel, by decide +kernel⟩, List.mem_of_getElem? (i := 35) (by decide +kernel), List.mem_of_getElem? (i := 459) (by decide +kernel), List.mem_of_getElem? (i := 460) (by decide +kernel)⟩
theorem lw_p18 : lw_okq (⟨"TonguerootFamily", "recall", "(II)J"⟩, 10) := ⟨⟨by decide +kernel, by decide +kernel⟩, List.mem_of_getElem? (i := 35) (by decide +kernel), List.mem_of_getElem? (i := 463) (by decide +kernel), List.mem_of_getElem? (i := 464) (by decide +kernel)⟩
theorem lw_p19 : lw_okq (⟨"TonguerootFamily", "isWitness", "(III)Z"⟩, 10) := ⟨⟨by decide +kernel, by decide +kernel⟩, List.mem_of_getElem? (i := 35) (by decide +kernel), List.mem_of_getElem? (i := 467) (by decide +kernel), List.mem_of_getElem? (i := 468) (by decide +kernel)⟩
theorem lw_p20 : lw_okq (⟨"TonguerootFamily", "openVotes", "(J)V"⟩, 10) := ⟨⟨by decide +kernel, by decide +kernel⟩, List.mem_of_getElem? (i := 35) (by decide +kernel), List.mem_of_getElem? (i := 479) (by decide +kernel), List.mem_of_getElem? (i := 480) (by decide +kernel)⟩
theorem lw_p21 : lw_okq (⟨"TonguerootFamily$Alignment", "takesPair", "(II)Z"⟩, 8) := ⟨⟨by decide +kernel, by decide +kernel⟩, List.mem_of_getElem? (i := 221) (by decide +kernel), List.mem_of_getElem? (i := 497) (by decide +kernel), List.mem_of_getElem? (i := 498) (by decide +kernel)⟩
theorem lw_p22 : lw_okq (⟨"TonguerootFamily$Alignment", "takesFirstAlone", "(II)Z"⟩, 8) := ⟨⟨by decide +kernel, by decide +kernel⟩, List.mem_of_getElem? (i := 221) (by decide +kernel), List.mem_of_getElem? (i := 501) (by decide +kernel), List.mem_of_getElem? (i := 502) (by decide +kernel)⟩
theorem lw_p23 : lw_okq (⟨"TonguerootFamily", "castVotes", "(I)V"⟩, 10) := ⟨⟨by decide +kernel, by decide +kernel⟩, List.mem_of_getElem? (i := 35) (by decide +kernel), List.mem_of_getElem? (i := 505) (by decide +kernel), List.mem_of_getElem? (i := 506) (by decide +kernel)⟩
theorem lw_p24 : lw_okq (⟨"TonguerootFamily", "elected", "(I)J"⟩, 10) := ⟨⟨by decide +kernel, by decide +kernel⟩, List.mem_of_getElem? (i := 35) (by decide +kernel), List.mem_of_getElem? (i := 517) (by decide +kernel), List.mem_of_getElem? (i := 518) (by decide +kernel)⟩
theorem lw_p25 : lw_okq (⟨"TonguerootFamily", "mixWord", "(JII)J"⟩, 10) := ⟨⟨by decide +kernel, by decide +kernel⟩, List.mem_of_getElem? (i := 35) (by decide +kernel), List.mem_of_getElem? (i := 529) (by decide +kernel), List.mem_of_getElem? (i := 530) (by decide +kernel)⟩
theorem lw_p26 : lw_okq (⟨"TonguerootFamily", "differs", "(LTonguerootFamily$Lexicon;II)Z"⟩, 10) := ⟨⟨by decide +kernel, by decide +kernel⟩, List.mem_of_getElem? (i := 35) (by decide +kernel), List.mem_of_getElem? (i := 541) (by decide +kernel), List.mem_of_getElem? (i := 542) (by decide +kernel)⟩
theorem lw_p27 : lw_okq (⟨"TonguerootFamily", "mixCosts", "(J)J"⟩, 10) := ⟨⟨by decide +kernel, by decide +kernel⟩, List.mem_of_getElem? (i := 35) (by decide +kernel), List.mem_of_getElem? (i := 545) (by decide +kernel), List.mem_of_getElem? (i := 546) (by decide +kernel)⟩
theorem lw_p28 : lw_okq (⟨"java/lang/Throwable", "fillInStackTrace", "(I)Ljava/lang/Throwable;"⟩, 6) := ⟨⟨by decide +kernel, by decide +kernel⟩, List.mem_of_getElem? (i := 598) (by decide +kernel), List.mem_of_getElem? (i := 596) (by decide +kernel), List.mem_of_getElem? (i := 597) (by decide +kernel)⟩
theorem lw_p29 : lw_okq (⟨"TonguerootFamily", "forgetAll", "()V"⟩, 10) := ⟨⟨by decide +kernel, by decide +kernel⟩, List.mem_of_getElem? (i := 35) (by decide +kernel), List.mem_of_getElem? (i := 642) (by decide +kernel), List.mem_of_getElem? (i := 643) (by decide +kernel)⟩
theorem lw_p30 : lw_okq (⟨"TonguerootFamily", "forgetMeaning", "(I)V"⟩, 10) := ⟨⟨by decide +kernel, by decide +kernel⟩, List.mem_of_getElem? (i := 35) (by decide +kernel), List.mem_of_getElem? (i := 646) (by decide +kernel), List.mem_of_getElem? (i := 647) (by decide +kernel)⟩
theorem lw_p31 : lw_okq (⟨"TonguerootFamily", "isLanguage", "(I)Z"⟩, 10) := ⟨⟨by decide +kernel, by decide +kernel⟩, List.mem_of_getElem? (i := 35) (by decide +kernel), List.mem_of_getElem? (i := 699) (by decide +kernel), List.mem_of_getElem? (i := 700) (by decide +kernel)⟩
def lw_privs_2 : List (MethodName × Nat) := [(⟨"TonguerootFamily$Alignment", "pairFrom", "(II)I"⟩, 8), (⟨"TonguerootFamily", "countRecalledWell", "(I)I"⟩, 10), (⟨"TonguerootFamily", "recall", "(II)J"⟩, 10), (⟨"TonguerootFamily", "isWitness", "(III)Z"⟩, 10), (⟨"TonguerootFamily", "openVotes", "(J)V"⟩, 10), (⟨"TonguerootFamily$Alignment", "takesPair", "(II)Z"⟩, 8), (⟨"TonguerootFamily$Alignment", "takesFirstAlone", "(II)Z"⟩, 8), (⟨"TonguerootFamily", "castVotes", "(I)V"⟩, 10), (⟨"TonguerootFamily", "elected", "(I)J"⟩, 10), (⟨"TonguerootFamily", "mixWord", "(JII)J"⟩, 10), (⟨"TonguerootFamily", "differs", "(LTonguerootFamily$Lexicon;II)Z"⟩, 10), (⟨"TonguerootFamily", "mixCosts", "(J)J"⟩, 10), (⟨"java/lang/Throwable", "fillInStackTrace", "(I)Ljava/lang/Throwable;"⟩, 6), (⟨"TonguerootFamily", "forgetAll", "()V"⟩, 10), (⟨"TonguerootFamily", "forgetMeaning", "(I)V"⟩, 10), (⟨"TonguerootFamily", "isLanguage", "(I)Z"⟩, 10)]
theorem lw_r2 : ∀ q ∈ lw_privs_2, lw_okq q := List.forall_mem_cons.mpr ⟨lw_p16, List.forall_mem_cons.mpr ⟨lw_p17, List.forall_mem_cons.mpr ⟨lw_p18, List.forall_mem_cons.mpr ⟨lw_p19, List.forall_mem_cons.mpr ⟨lw_p20, List.forall_mem_cons.mpr ⟨lw_p21, List.forall_mem_cons.mpr ⟨lw_p22, List.forall_mem_cons.mpr ⟨lw_p23, List.forall_mem_cons.mpr ⟨lw_p24, List.forall_mem_cons.mpr ⟨lw_p25, List.forall_mem_cons.mpr ⟨lw_p26, List.forall_mem_cons.mpr ⟨lw_p27, List.forall_mem_cons.mpr ⟨lw_p28, List.forall_mem_cons.mpr ⟨lw_p29, List.forall_mem_cons.mpr ⟨lw_p30, List.forall_mem_cons.mpr ⟨lw_p31, fun _ h => absurd h List.not_mem_nil⟩⟩⟩⟩⟩⟩⟩⟩⟩⟩⟩⟩⟩⟩⟩⟩
theorem lw_p32 : lw_okq (⟨"java/util/ArrayList", "fastRemove", "([Ljava/lang/Object;I)V"⟩, 3) := ⟨⟨by decide +kernel, by decide +kernel⟩, List.mem_of_getElem? (i := 66) (by decide +kernel), List.mem_of_getElem? (i := 767) (by decide +kernel), List.mem_of_getElem? (i := 768) (by decide +kernel)⟩
theorem lw_p33 : lw_okq (⟨"TonguerootFamily", "layOut", "(III)I"⟩, 10) := ⟨⟨by decide +kernel, by decide +kernel⟩, List.mem_of_getElem? (i := 35) (by decide +kernel), List.mem_of_getElem? (i := 881) (by decide +kernel), List.mem_of_getElem? (i := 882) (by decide +kernel)⟩
theorem lw_p34 : lw_okq (⟨"TonguerootFamily", "collectAnswers", "(III)V"⟩, 10) := ⟨⟨by decide +kernel, by decide +kernel⟩, List.mem_of_getElem? (i := 35) (by decide +kernel), List.mem_of_getElem? (i := 905) (by decide +kernel), List.mem_of_getElem? (i := 906) (by decide +kernel)⟩
theorem lw_p35 : lw_okq (⟨"TonguerootFamily", "isLaw", "(II)Z"⟩, 10) := ⟨⟨by decide +kernel, by decide +kernel⟩, List.mem_of_getElem? (i := 35) (by decide +kernel), List.mem_of_getElem? (i := 962) (by decide +kernel), List.mem_of_getElem? (i := 963) (by decide +kernel)⟩
theorem lw_p36 : lw_okq (⟨"java/util/ArrayList", "rangeCheckForAdd", "(I)V"⟩, 3) := ⟨⟨by decide +kernel, by decide +kernel⟩, List.mem_of_getElem? (i := 66) (by decide +kernel), List.mem_of_getElem? (i := 984) (by decide +kernel), List.mem_of_getElem? (i := 985) (by decide +kernel)⟩
theorem lw_p37 : lw_okq (⟨"java/util/ArrayList", "outOfBoundsMsg", "(I)Ljava/lang/String;"⟩, 3) := ⟨⟨by decide +kernel, by decide +kernel⟩, List.mem_of_getElem? (i := 66) (by decide +kernel), List.mem_of_getElem? (i := 989) (by decide +kernel), List.mem_of_getElem? (i := 990) (by decide +kernel)⟩
theorem lw_p38 : lw_okq (⟨"TonguerootFamily", "suppose", "(ILTonguerootFamily$Language;)V"⟩, 10) := ⟨⟨by decide +kernel, by decide +kernel⟩, List.mem_of_getElem? (i := 35) (by decide +kernel), List.mem_of_getElem? (i := 1225) (by decide +kernel), List.mem_of_getElem? (i := 1226) (by decide +kernel)⟩
theorem lw_p39 : lw_okq (⟨"TonguerootFamily", "countDifferent", "(I)I"⟩, 10) := ⟨⟨by decide +kernel, by decide +kernel⟩, List.mem_of_getElem? (i := 35) (by decide +kernel), List.mem_of_getElem? (i := 1245) (by decide +kernel), List.mem_of_getElem? (i := 1246) (by decide +kernel)⟩
theorem lw_p40 : lw_okq (⟨"TonguerootFamilyModel", "no", "(I)I"⟩, 27) := ⟨⟨by decide +kernel, by decide +kernel⟩, List.mem_of_getElem? (i := 1276) (by decide +kernel), List.mem_of_getElem? (i := 1378) (by decide +kernel), List.mem_of_getElem? (i := 1379) (by decide +kernel)⟩
theorem lw_p41 : lw_okq (⟨"TonguerootFamilyModel", "isLanguage", "(I)Z"⟩, 27) := ⟨⟨by decide +kernel, by decide +kernel⟩, List.mem_of_getElem? (i := 1276) (by decide +kernel), List.mem_of_getElem? (i := 1401) (by decide +kernel), List.mem_of_getElem? (i := 1402) (by decide +kernel)⟩
theorem lw_p42 : lw_okq (⟨"TonguerootFamilyModel", "ok", "(I)I"⟩, 27) := ⟨⟨by decide +kernel, by decide +kernel⟩, List.mem_of_getElem? (i := 1276) (by decide +kernel), List.mem_of_getElem? (i := 1423) (by decide +kernel), List.mem_of_getElem? (i := 1424) (by decide +kernel)⟩
theorem lw_p43 : lw_okq (⟨"TonguerootFamilyModel", "isAsked", "(II)Z"⟩, 27) := ⟨⟨by decide +kernel, by decide +kernel⟩, List.mem_of_getElem? (i := 1276) (by decide +kernel), List.mem_of_getElem? (i := 1443) (by decide +kernel), List.mem_of_getElem? (i := 1444) (by decide +kernel)⟩
theorem lw_p44 : lw_okq (⟨"TonguerootFamilyModel", "solve", "()V"⟩, 27) := ⟨⟨by decide +kernel, by decide +kernel⟩, List.mem_of_getElem? (i := 1276) (by decide +kernel), List.mem_of_getElem? (i := 1447) (by decide +kernel), List.mem_of_getElem? (i := 1448) (by decide +kernel)⟩
theorem lw_p45 : lw_okq (⟨"TonguerootFamilyModel", "grow", "(II)V"⟩, 27) := ⟨⟨by decide +kernel, by decide +kernel⟩, List.mem_of_getElem? (i := 1276) (by decide +kernel), List.mem_of_getElem? (i := 1451) (by decide +kernel), List.mem_of_getElem? (i := 1452) (by decide +kernel)⟩
theorem lw_p46 : lw_okq (⟨"TonguerootFamilyModel", "borrow", "(IIII)V"⟩, 27) := ⟨⟨by decide +kernel, by decide +kernel⟩, List.mem_of_getElem? (i := 1276) (by decide +kernel), List.mem_of_getElem? (i := 1455) (by decide +kernel), List.mem_of_getElem? (i := 1456) (by decide +kernel)⟩
theorem lw_p47 : lw_okq (⟨"TonguerootFamilyModel", "changed", "(JI)J"⟩, 27) := ⟨⟨by decide +kernel, by decide +kernel⟩, List.mem_of_getElem? (i := 1276) (by decide +kernel), List.mem_of_getElem? (i := 1459) (by decide +kernel), List.mem_of_getElem? (i := 1460) (by decide +kernel)⟩
def lw_privs_3 : List (MethodName × Nat) := [(⟨"java/util/ArrayList", "fastRemove", "([Ljava/lang/Object;I)V"⟩, 3), (⟨"TonguerootFamily", "layOut", "(III)I"⟩, 10), (⟨"TonguerootFamily", "collectAnswers", "(III)V"⟩, 10), (⟨"TonguerootFamily", "isLaw", "(II)Z"⟩, 10), (⟨"java/util/ArrayList", "rangeCheckForAdd", "(I)V"⟩, 3), (⟨"java/util/ArrayList", "outOfBoundsMsg", "(I)Ljava/lang/String;"⟩, 3), (⟨"TonguerootFamily", "suppose", "(ILTonguerootFamily$Language;)V"⟩, 10), (⟨"TonguerootFamily", "countDifferent", "(I)I"⟩, 10), (⟨"TonguerootFamilyModel", "no", "(I)I"⟩, 27), (⟨"TonguerootFamilyModel", "isLanguage", "(I)Z"⟩, 27), (⟨"TonguerootFamilyModel", "ok", "(I)I"⟩, 27), (⟨"TonguerootFamilyModel", "isAsked", "(II)Z"⟩, 27), (⟨"TonguerootFamilyModel", "solve", "()V"⟩, 27), (⟨"TonguerootFamilyModel", "grow", "(II)V"⟩, 27), (⟨"TonguerootFamilyModel", "borrow", "(IIII)V"⟩, 27), (⟨"TonguerootFamilyModel", "changed", "(JI)J"⟩, 27)]
theorem lw_r3 : ∀ q ∈ lw_privs_3, lw_okq q := List.forall_mem_cons.mpr ⟨lw_p32, List.forall_mem_cons.mpr ⟨lw_p33, List.forall_mem_cons.mpr ⟨lw_p34, List.forall_mem_cons.mpr ⟨lw_p35, List.forall_mem_cons.mpr ⟨lw_p36, List.forall_mem_cons.mpr ⟨lw_p37, List.forall_mem_cons.mpr ⟨lw_p38, List.forall_mem_cons.mpr ⟨lw_p39, List.forall_mem_cons.mpr ⟨lw_p40, List.forall_mem_cons.mpr ⟨lw_p41, List.forall_mem_cons.mpr ⟨lw_p42, List.forall_mem_cons.mpr ⟨lw_p43, List.forall_mem_cons.mpr ⟨lw_p44, List.forall_mem_cons.mpr ⟨lw_p45, List.forall_mem_cons.mpr ⟨lw_p46, List.forall_mem_cons.mpr ⟨lw_p47, fun _ h => absurd h List.not_mem_nil⟩⟩⟩⟩⟩⟩⟩⟩⟩⟩⟩⟩⟩⟩⟩⟩
theorem lw_p48 : lw_okq (⟨"TonguerootFamilyModel", "turned", "(II)I"⟩, 27) := ⟨⟨by decide +kernel, by decide +kernel⟩, List.mem_of_getElem? (i := 1276) (by decide +kernel), List.mem_of_getElem? (i := 1469) (by decide +kernel), List.mem_of_getElem? (i := 1470) (by decide +kernel)⟩
theorem lw_p49 : lw_okq (⟨"TonguerootFamilyModel", "wordOf", "(II)J"⟩, 27) := ⟨⟨by decide +kernel, by decide +kernel⟩, List.mem_of_getElem? (i := 1276) (by decide +kernel), List.mem_of_getElem? (i := 1473) (by decide +kernel), List.mem_of_getElem? (i := 1474) (by decide +kernel)⟩
theorem lw_p50 : lw_okq (⟨"TonguerootFamilyModel", "originOf", "(II)I"⟩, 27) := ⟨⟨by decide +kernel, by decide +kernel⟩, List.mem_of_getElem? (i := 1276) (by decide +kernel), List.mem_of_getElem? (i := 1485) (by decide +kernel), List.mem_of_getElem? (i := 1486) (by decide +kernel)⟩
theorem lw_p51 : lw_okq (⟨"TonguerootFamilyModel", "hasWord", "(II)Z"⟩, 27) := ⟨⟨by decide +kernel, by decide +kernel⟩, List.mem_of_getElem? (i := 1276) (by decide +kernel), List.mem_of_getElem? (i := 1489) (by decide +kernel), List.mem_of_getElem? (i := 1490) (by decide +kernel)⟩
theorem lw_p52 : lw_okq (⟨"TonguerootFamilyModel", "changesOf", "(II)I"⟩, 27) := ⟨⟨by decide +kernel, by decide +kernel⟩, List.mem_of_getElem? (i := 1276) (by decide +kernel), List.mem_of_getElem? (i := 1497) (by decide +kernel), List.mem_of_getElem? (i := 1498) (by decide +kernel)⟩
theorem lw_p53 : lw_okq (⟨"TonguerootFamilyModel", "wealthOf", "(I)I"⟩, 27) := ⟨⟨by decide +kernel, by decide +kernel⟩, List.mem_of_getElem? (i := 1276) (by decide +kernel), List.mem_of_getElem? (i := 1505) (by decide +kernel), List.mem_of_getElem? (i := 1506) (by decide +kernel)⟩
theorem lw_p54 : lw_okq (⟨"TonguerootFamilyModel", "alikeIn", "(I)I"⟩, 27) := ⟨⟨by decide +kernel, by decide +kernel⟩, List.mem_of_getElem? (i := 1276) (by decide +kernel), List.mem_of_getElem? (i := 1513) (by decide +kernel), List.mem_of_getElem? (i := 1514) (by decide +kernel)⟩
theorem lw_p55 : lw_okq (⟨"TonguerootFamilyModel", "soundsIn", "(I)I"⟩, 27) := ⟨⟨by decide +kernel, by decide +kernel⟩, List.mem_of_getElem? (i := 1276) (by decide +kernel), List.mem_of_getElem? (i := 1521) (by decide +kernel), List.mem_of_getElem? (i := 1522) (by decide +kernel)⟩
theorem lw_p56 : lw_okq (⟨"TonguerootFamilyModel", "areAsked", "(III)Z"⟩, 27) := ⟨⟨by decide +kernel, by decide +kernel⟩, List.mem_of_getElem? (i := 1276) (by decide +kernel), List.mem_of_getElem? (i := 1529) (by decide +kernel), List.mem_of_getElem? (i := 1530) (by decide +kernel)⟩
theorem lw_p57 : lw_okq (⟨"TonguerootFamilyModel", "costNow", "(III)I"⟩, 27) := ⟨⟨by decide +kernel, by decide +kernel⟩, List.mem_of_getElem? (i := 1276) (by decide +kernel), List.mem_of_getElem? (i := 1533) (by decide +kernel), List.mem_of_getElem? (i := 1534) (by decide +kernel)⟩
theorem lw_p58 : lw_okq (⟨"TonguerootFamilyModel", "align", "(JJ)I"⟩, 27) := ⟨⟨by decide +kernel, by decide +kernel⟩, List.mem_of_getElem? (i := 1276) (by decide +kernel), List.mem_of_getElem? (i := 1537) (by decide +kernel), List.mem_of_getElem? (i := 1538) (by decide +kernel)⟩
theorem lw_p59 : lw_okq (⟨"TonguerootFamilyModel", "costOf", "(II)I"⟩, 27) := ⟨⟨by decide +kernel, by decide +kernel⟩, List.mem_of_getElem? (i := 1276) (by decide +kernel), List.mem_of_getElem? (i := 1545) (by decide +kernel), List.mem_of_getElem? (i := 1546) (by decide +kernel)⟩
theorem lw_p60 : lw_okq (⟨"TonguerootFamilyModel", "restAt", "(II)I"⟩, 27) := ⟨⟨by decide +kernel, by decide +kernel⟩, List.mem_of_getElem? (i := 1276) (by decide +kernel), List.mem_of_getElem? (i := 1549) (by decide +kernel), List.mem_of_getElem? (i := 1550) (by decide +kernel)⟩
theorem lw_p61 : lw_okq (⟨"TonguerootFamilyModel", "columnsNow", "(III)I"⟩, 27) := ⟨⟨by decide +kernel, by decide +kernel⟩, List.mem_of_getElem? (i := 1276) (by decide +kernel), List.mem_of_getElem? (i := 1558) (by decide +kernel), List.mem_of_getElem? (i := 1559) (by decide +kernel)⟩
theorem lw_p62 : lw_okq (⟨"TonguerootFamilyModel", "answersNow", "(IIII)I"⟩, 27) := ⟨⟨by decide +kernel, by decide +kernel⟩, List.mem_of_getElem? (i := 1276) (by decide +kernel), List.mem_of_getElem? (i := 1570) (by decide +kernel), List.mem_of_getElem? (i := 1571) (by decide +kernel)⟩
theorem lw_p63 : lw_okq (⟨"TonguerootFamilyModel", "areKin", "(III)Z"⟩, 27) := ⟨⟨by decide +kernel, by decide +kernel⟩, List.mem_of_getElem? (i := 1276) (by decide +kernel), List.mem_of_getElem? (i := 1574) (by decide +kernel), List.mem_of_getElem? (i := 1575) (by decide +kernel)⟩
def lw_privs_4 : List (MethodName × Nat) := [(⟨"TonguerootFamilyModel", "turned", "(II)I"⟩, 27), (⟨"TonguerootFamilyModel", "wordOf", "(II)J"⟩, 27), (⟨"TonguerootFamilyModel", "originOf", "(II)I"⟩, 27), (⟨"TonguerootFamilyModel", "hasWord", "(II)Z"⟩, 27), (⟨"TonguerootFamilyModel", "changesOf", "(II)I"⟩, 27), (⟨"TonguerootFamilyModel", "wealthOf", "(I)I"⟩, 27), (⟨"TonguerootFamilyModel", "alikeIn", "(I)I"⟩, 27), (⟨"TonguerootFamilyModel", "soundsIn", "(I)I"⟩, 27), (⟨"TonguerootFamilyModel", "areAsked", "(III)Z"⟩, 27), (⟨"TonguerootFamilyModel", "costNow", "(III)I"⟩, 27), (⟨"TonguerootFamilyModel", "align", "(JJ)I"⟩, 27), (⟨"TonguerootFamilyModel", "costOf", "(II)I"⟩, 27), (⟨"TonguerootFamilyModel", "restAt", "(II)I"⟩, 27), (⟨"TonguerootFamilyModel", "columnsNow", "(III)I"⟩, 27), (⟨"TonguerootFamilyModel", "answersNow", "(IIII)I"⟩, 27), (⟨"TonguerootFamilyModel", "areKin", "(III)Z"⟩, 27)]
theorem lw_r4 : ∀ q ∈ lw_privs_4, lw_okq q := List.forall_mem_cons.mpr ⟨lw_p48, List.forall_mem_cons.mpr ⟨lw_p49, List.forall_mem_cons.mpr ⟨lw_p50, List.forall_mem_cons.mpr ⟨lw_p51, List.forall_mem_cons.mpr ⟨lw_p52, List.forall_mem_cons.mpr ⟨lw_p53, List.forall_mem_cons.mpr ⟨lw_p54, List.forall_mem_cons.mpr ⟨lw_p55, List.forall_mem_cons.mpr ⟨lw_p56, List.forall_mem_cons.mpr ⟨lw_p57, List.forall_mem_cons.mpr ⟨lw_p58, List.forall_mem_cons.mpr ⟨lw_p59, List.forall_mem_cons.mpr ⟨lw_p60, List.forall_mem_cons.mpr ⟨lw_p61, List.forall_mem_cons.mpr ⟨lw_p62, List.forall_mem_cons.mpr ⟨lw_p63, fun _ h => absurd h List.not_mem_nil⟩⟩⟩⟩⟩⟩⟩⟩⟩⟩⟩⟩⟩⟩⟩⟩
theorem lw_p64 : lw_okq (⟨"TonguerootFamilyModel", "costs", "()[I"⟩, 27) := ⟨⟨by decide +kernel, by decide +kernel⟩, List.mem_of_getElem? (i := 1276) (by decide +kernel), List.mem_of_getElem? (i := 1586) (by decide +kernel), List.mem_of_getElem? (i := 1587) (by decide +kernel)⟩
theorem lw_p65 : lw_okq (⟨"TonguerootFamilyModel", "farBy", "([III)D"⟩, 27) := ⟨⟨by decide +kernel, by decide +kernel⟩, List.mem_of_getElem? (i := 1276) (by decide +kernel), List.mem_of_getElem? (i := 1590) (by decide +kernel), List.mem_of_getElem? (i := 1591) (by decide +kernel)⟩
theorem lw_p66 : lw_okq (⟨"TonguerootFamilyModel", "shared", "(II)I"⟩, 27) := ⟨⟨by decide +kernel, by decide +kernel⟩, List.mem_of_getElem? (i := 1276) (by decide +kernel), List.mem_of_getElem? (i := 1595) (by decide +kernel), List.mem_of_getElem? (i := 1596) (by decide +kernel)⟩
theorem lw_p67 : lw_okq (⟨"TonguerootFamilyModel", "nearestBy", "([II)I"⟩, 27) := ⟨⟨by decide +kernel, by decide +kernel⟩, List.mem_of_getElem? (i := 1276) (by decide +kernel), List.mem_of_getElem? (i := 1603) (by decide +kernel), List.mem_of_getElem? (i := 1604) (by decide +kernel)⟩
theorem lw_p68 : lw_okq (⟨"TonguerootFamilyModel", "recalledNow", "(II)J"⟩, 27) := ⟨⟨by decide +kernel, by decide +kernel⟩, List.mem_of_getElem? (i := 1276) (by decide +kernel), List.mem_of_getElem? (i := 1611) (by decide +kernel), List.mem_of_getElem? (i := 1612) (by decide +kernel)⟩
theorem lw_p69 : lw_okq (⟨"TonguerootFamilyModel", "wellNow", "(I)I"⟩, 27) := ⟨⟨by decide +kernel, by decide +kernel⟩, List.mem_of_getElem? (i := 1276) (by decide +kernel), List.mem_of_getElem? (i := 1623) (by decide +kernel), List.mem_of_getElem? (i := 1624) (by decide +kernel)⟩
theorem lw_p70 : lw_okq (⟨"TonguerootFamilyModel", "told", "()[J"⟩, 27) := ⟨⟨by decide +kernel, by decide +kernel⟩, List.mem_of_getElem? (i := 1276) (by decide +kernel), List.mem_of_getElem? (i := 1631) (by decide +kernel), List.mem_of_getElem? (i := 1632) (by decide +kernel)⟩
theorem lw_p71 : lw_okq (⟨"TonguerootFamilyModel", "swapLaws", "(II)V"⟩, 27) := ⟨⟨by decide +kernel, by decide +kernel⟩, List.mem_of_getElem? (i := 1276) (by decide +kernel), List.mem_of_getElem? (i := 1636) (by decide +kernel), List.mem_of_getElem? (i := 1637) (by decide +kernel)⟩
theorem lw_p72 : lw_okq (⟨"TonguerootFamilyModel", "unlike", "([JII)I"⟩, 27) := ⟨⟨by decide +kernel, by decide +kernel⟩, List.mem_of_getElem? (i := 1276) (by decide +kernel), List.mem_of_getElem? (i := 1643) (by decide +kernel), List.mem_of_getElem? (i := 1644) (by decide +kernel)⟩
theorem lw_p73 : lw_okq (⟨"TonguerootFamilyModel", "unlent", "()[J"⟩, 27) := ⟨⟨by decide +kernel, by decide +kernel⟩, List.mem_of_getElem? (i := 1276) (by decide +kernel), List.mem_of_getElem? (i := 1659) (by decide +kernel), List.mem_of_getElem? (i := 1660) (by decide +kernel)⟩
def lw_privs_5 : List (MethodName × Nat) := [(⟨"TonguerootFamilyModel", "costs", "()[I"⟩, 27), (⟨"TonguerootFamilyModel", "farBy", "([III)D"⟩, 27), (⟨"TonguerootFamilyModel", "shared", "(II)I"⟩, 27), (⟨"TonguerootFamilyModel", "nearestBy", "([II)I"⟩, 27), (⟨"TonguerootFamilyModel", "recalledNow", "(II)J"⟩, 27), (⟨"TonguerootFamilyModel", "wellNow", "(I)I"⟩, 27), (⟨"TonguerootFamilyModel", "told", "()[J"⟩, 27), (⟨"TonguerootFamilyModel", "swapLaws", "(II)V"⟩, 27), (⟨"TonguerootFamilyModel", "unlike", "([JII)I"⟩, 27), (⟨"TonguerootFamilyModel", "unlent", "()[J"⟩, 27)]
theorem lw_r5 : ∀ q ∈ lw_privs_5, lw_okq q := List.forall_mem_cons.mpr ⟨lw_p64, List.forall_mem_cons.mpr ⟨lw_p65, List.forall_mem_cons.mpr ⟨lw_p66, List.forall_mem_cons.mpr ⟨lw_p67, List.forall_mem_cons.mpr ⟨lw_p68, List.forall_mem_cons.mpr ⟨lw_p69, List.forall_mem_cons.mpr ⟨lw_p70, List.forall_mem_cons.mpr ⟨lw_p71, List.forall_mem_cons.mpr ⟨lw_p72, List.forall_mem_cons.mpr ⟨lw_p73, fun _ h => absurd h List.not_mem_nil⟩⟩⟩⟩⟩⟩⟩⟩⟩⟩
def lw_privs : List (MethodName × Nat) := lw_privs_1 ++ (lw_privs_2 ++ (lw_privs_3 ++ (lw_privs_4 ++ (lw_privs_5))))
def lw_tbl : List Cond := k2_sels lw_privs ++ tables_1
theorem lw_privs_ok : ∀ q ∈ lw_privs, lw_okq q := by
  show ∀ q ∈ lw_privs_1 ++ (lw_privs_2 ++ (lw_privs_3 ++ (lw_privs_4 ++ (lw_privs_5)))), lw_okq q
  exact List.forall_mem_append.mpr ⟨lw_r1, List.forall_mem_append.mpr ⟨lw_r2, List.forall_mem_append.mpr ⟨lw_r3, List.forall_mem_append.mpr ⟨lw_r4, lw_r5⟩⟩⟩⟩
/-- the streams that the claim lets the run draw from -/
abbrev lw_cs : List Choice := [Jvm.Choice.named "NaN.bits"]
theorem lw_bits : nanBits ∈ lw_cs := by first | decide | exact List.mem_cons_self | simp [lw_cs, nanBits]
/-! ===== BEGIN words of one list among another's, by their places ===== -/
theorem goodIn_r {big : List Cond} (ws : List Cond) (ps : List Nat) (hp : ws = ps.filterMap (fun i => big[i]?)) (h : ws.all goodWord = true) : GoodIn big ws := by
  intro w hw
  have h1 := List.all_eq_true.mp h w hw
  rw [hp] at hw
  obtain ⟨i, -, hi⟩ := List.mem_filterMap.mp hw
  have hm : w ∈ big := by first | exact List.mem_of_getElem? hi | exact List.getElem?_mem hi
  exact ⟨hm, good_of_word h1⟩
theorem goodIn_app {big a b : List Cond} (ha : GoodIn big a) (hb : GoodIn big b) : GoodIn big (a ++ b) := fun w h => (List.mem_append.mp h).elim (ha w) (hb w)
theorem goodIn_ca {big a b : List Cond} {c : Cond} (ha : GoodIn big (c :: a)) (hb : GoodIn big b) : GoodIn big (c :: (a ++ b)) := fun w h => (List.mem_cons.mp h).elim (fun e => ha w (List.mem_cons.mpr (Or.inl e))) (fun h => (List.mem_append.mp h).elim (fun h => ha w (List.mem_cons.mpr (Or.inr h))) (hb w))
theorem goodIn_sub {big ws : List Cond} (hm : ∀ w ∈ ws, w ∈ big) (h : ws.all goodWord = true) : GoodIn big ws := fun w hw => ⟨hm w hw, good_of_word (List.all_eq_true.mp h w hw)⟩
/-! ===== END ===== -/

theorem vr_outer (c : ClassId) (N h0 : Nat) : ∀ i : Nat, Jvm.Free.Multi.outerC c N h0 i = arrV c N (fun j => va_rf (if j < i then some (h0 + 1 + j) else none))
  | 0 => by
    show ({ cls := c, slots := Array.replicate N .null, vm := .none } : Cell) = _
    rw [arrV_new]
    refine congrArg (arrV c N) (funext fun j => ?_)
    simp [va_rf]
  | i + 1 => by
    show (Jvm.Free.Multi.outerC c N h0 i).setSlot i (.ref (h0 + 1 + i)) = _
    rw [vr_outer c N h0 i, arrV_store]
    refine congrArg (arrV c N) (funext fun j => ?_)
    by_cases e : j = i
    · subst e
      simp [updV, va_rf]
    · by_cases h : j < i
      · simp [updV, e, h, Nat.lt_succ_of_lt h]
      · simp [updV, e, h, show ¬ j < i + 1 by omega]

/-! ===== BEGIN exceptions that leave a method, and their catching by the caller (launches without stack traces) ===== -/
section VXA
/-! The laws vx_back, vx_callV, vx_callS, vx_callSW, vx_throw0, vx_throwS follow proofs of the library, with one case more: JvmDerived/Free/Laws.lean (Back.of_free), Shelf42/LK1.lean (callV, callS), Shelf/KitTraced.lean (throwNew0V, throwNewS). -/
/-- where a method has thrown q: the class by its name, the cell, what was written, the world -/
def vx_T (XC : String → State → State → Prop) (st : State) (q : Addr) (t : State) (mc ms : Nat) (free : Addr → Prop) : Prop :=
  ∃ (E : String) (ce : Cell) (L : List Loc), XC E st t ∧ t.heap[q]? = some ce ∧ ce.vm = .none ∧ st.vm.findClass E = some ce.cls ∧ st.WarmedH t.vm ∧ st.sameButNew ({ t with vm := st.vm } : State) L mc ms ∧ ∀ z ∈ L, free z.base
def vx_Q (Qc : Array Value → State → Outcome → State → Prop) (XC : String → State → State → Prop) (mc ms : Nat) (free : Addr → Prop) : Array Value → State → Outcome → State → Prop := fun a st o t =>
  (Qc a st o t ∧ ∃ L, FrameEnd st o t L mc ms ∧ ∀ q ∈ L, free q.base) ∨ ∃ q, o = .threw q ∧ vx_T XC st q t mc ms free
/-- a callee that returns or throws -/
def vx_Met (l : Launch) (y : MethodName) (ws : List Cond) (rm : Room) (Pc : Array Value → State → Prop) (Qc : Array Value → State → Outcome → State → Prop) (XC : String → State → State → Prop) (mc ms : Nat) (free : Addr → Prop) : Prop :=
  MetFree l y (headSpec ws rm) Pc (fun _ _ _ _ _ => True) (vx_Q Qc XC mc ms free)
def vx_Post (XC : String → State → State → Prop) (mc ms : Nat) (free : Addr → Prop) : Pt → Array Value → Addr → Pt → Prop := fun A a q B =>
  ∃ (g : JFrame) (mk : MethodId) (t : State) (L : List Loc) (E : String) (ce : Cell), B.U.heap = t.heap ∧ B.U.vm = t.vm ∧ XC E (A.U.calling g mk a) t ∧ t.heap[q]? = some ce ∧ ce.vm = .none ∧ A.U.vm.findClass E = some ce.cls ∧ B.locs = A.locs ++ L ∧ (∀ z ∈ L, free z.base) ∧ B.cells = A.cells + mc ∧ B.slots = A.slots + ms
def vx_Back (l : Launch) (R : Room) (p : Program) (e : Env) (below : List Frame) (s : State) (sargs : Array Value) (y : MethodName) (len W9 : Nat)
    (Pre : Pt → Array Value → Prop) (Post : Pt → Array Value → Option Value → Pt → Prop) (PostX : Pt → Array Value → Addr → Pt → Prop) : Prop :=
  ∀ (m : MethodId) (meth : Method) (c : Code) (A : Pt) (g : JFrame) (ig : Instr) (mk : MethodId) (a : Array Value),
    Stand p l e R s m sargs below meth c A.U A.locs A.cells A.slots → g.method = m → g.locals.size = c.maxLocals → decode c.code g.pc = .ok (ig, len) →
    2 * g.monitorRoom + (g.stack.map fun v => v.category).sum ≤ W9 → A.U.methodNamed? y = some mk → Pre A a →
    (∃ (v : Option Value) (B : Pt), Stand p l e R s m sargs below meth c B.U B.locs B.cells B.slots ∧ Post A a v B ∧
      Steps p.tables e below (doInvoke e (A.U.setTop g) [] mk a).1 (B.U.setTop { g with pc := g.pc + len, stack := v.toList ++ g.stack })) ∨
    (∃ (q : Addr) (B : Pt), Stand p l e R s m sargs below meth c B.U B.locs B.cells B.slots ∧ PostX A a q B ∧
      Steps p.tables e below (doInvoke e (A.U.setTop g) [] mk a).1 ((B.U.setTop g).pushFrame (.throwing q)))
section Payer
variable {l : Launch} {R : Room} {p : Program} {e : Env} {below : List Frame} {s : State} {sargs : Array Value} {y : MethodName} {len W9 : Nat}
theorem vx_back {ws : List Cond} {rm : Room} {Pc : Array Value → State → Prop} {Qc : Array Value → State → Outcome → State → Prop} {XC : String → State → State → Prop} {mc ms : Nat} {free : Addr → Prop} {bytes : ByteArray} {maxL : Nat} {ret : Option FieldType}
    (hM : vx_Met l y ws rm Pc Qc XC mc ms free) (hblind : FrameBlind Pc) (hrc : rm.cells = mc) (hrs : rm.slots = ms)
    (hframes : rm.frames + 1 ≤ R.frames) (hlocals : W9 + (maxL + 11) + rm.locals ≤ R.locals)
    (hws : ∀ w ∈ ws, ∀ a' U, s.WarmedH U.vm → w.before a' U = true) (hcode : Cond.code y bytes maxL ret ∈ ws) (hinit : ∀ a' U, s.WarmedH U.vm → (Cond.initialized y.cls).before a' U = true) :
    vx_Back l R p e below s sargs y len W9 (PreOf R mc ms Pc) (PostOf Qc mc ms free) (vx_Post XC mc ms free) := by
  intro m meth c A g ig mk a X hg hsize hdg hW hn hp
  have h1 : (headSpec ws rm).pre.before a A.U = true := atoms_intro fun w hw => hws w hw _ _ X.warmed
  have h2 : (Cond.code y bytes maxL ret).before a A.U = true := hws _ hcode _ _ X.warmed
  have h3 : (Cond.initialized y.cls).before a A.U = true := hinit _ _ X.warmed
  have h4 : A.cells + (headSpec ws rm).room.cells ≤ R.cells := by rw [show (headSpec ws rm).room.cells = mc from hrc]; exact hp.1
  have h5 : A.slots + (headSpec ws rm).room.slots ≤ R.slots := by rw [show (headSpec ws rm).room.slots = ms from hrs]; exact hp.2.1
  have hPc : Pc a (A.U.calling g mk a) := hblind _ _ _ _ hp.2.2
  obtain ⟨U, Ls, c0, s0⟩ := A
  dsimp only [Pt.U, Pt.locs, Pt.cells, Pt.slots] at h1 h2 h3 h4 h5 X hn hPc ⊢
  obtain ⟨methY, cY, hmY, hcY, -, hlY, -, -, -, -⟩ := Cond.code_spec hn h2
  obtain ⟨kY, hkY, -⟩ := className_of_methodNamed hn
  have hinitY : kY.init = .initialized := Cond.initialized_spec (findClass_of_methodNamed hn) hkY h3
  have h : At U g.method c below := by rw [hg]; exact X.here
  have hlocals9 : W9 + (maxL + 11) + (headSpec ws rm).room.locals ≤ R.locals := hlocals
  have happ : (headSpec ws rm).appliesLoose y e.platform (U.calling g mk a) = true :=
    Spec.appliesLoose_calling (g := g) h hdg hn hkY hinitY
      (X.room_calling (g := g) (R' := (headSpec ws rm).room) hsize hmY hcY hframes (by rw [hlY]; omega) h4 h5) h1
  obtain ⟨mid, hmid⟩ := h.above
  have hfr : (U.setTop g).frames = (.java g :: mid) ++ below := by rw [State.frames_setTop' g h.top, hmid]; rfl
  obtain ⟨o, s₂, hsteps, -, hend, hq⟩ := Steps.callFree hM p X.admits X.cas X.clock (acts := []) hfr happ hPc trivial
  have hq' : vx_Q Qc XC mc ms free a (U.calling g mk a) o s₂ := hq
  rw [State.frames_setTop' g h.top] at hend
  obtain ⟨g₀, hg0⟩ := Option.isSome_iff_exists.mp h.top
  obtain ⟨r, hr⟩ := State.topJava?_eq_some.mp hg0
  have hr' : (({ U with heap := s₂.heap, slotsUsed := s₂.slotsUsed } : State).setVm s₂.vm).frames = .java g₀ :: r := hr
  rcases hq' with ⟨hqc, L, hfe, hL⟩ | ⟨q, rfl, E, ce, L, hx, hce, hcv, hcl, hW₂, hsm, hL⟩
  · obtain ⟨⟨v, rfl⟩, hW₂, e2, q2, q3, q4, q5, q6⟩ := id hfe
    have e3 : s₂ = ({ (U.calling g mk a).setFrames s₂.frames with heap := s₂.heap, slotsUsed := s₂.slotsUsed } : State).setVm s₂.vm := by
      have : s₂ = ({ s₂ with vm := (U.calling g mk a).vm } : State).setVm s₂.vm := rfl
      rw [e2] at this
      exact this
    obtain ⟨c₂, i₂, len₂, hc₂, hd₂, hf₂⟩ := hend
    have hW' : U.WarmedH s₂.vm := hW₂
    have hcc : c₂ = c := by
      have h1 : s₂.code? g.method = U.code? g.method := by
        rw [State.code?_eq, State.code?_eq, hW'.alike.method?]
      exact Option.some.inj (hc₂.symm.trans (h1.trans h.code))
    subst hcc
    have hlen : len₂ = len := by rw [hdg] at hd₂; cases hd₂; rfl
    subst hlen
    have hs₂ : s₂ = (({ U with heap := s₂.heap, slotsUsed := s₂.slotsUsed } : State).setVm s₂.vm).setTop { g with pc := g.pc + len₂, stack := v.toList ++ g.stack } := by
      refine e3.trans ?_
      rw [hf₂, State.calling_eq h.top, State.setFrames_setFrames, State.setTop_of_frames _ hr', hr]
      rfl
    have hsame : U.sameButNew ({ U with heap := s₂.heap, slotsUsed := s₂.slotsUsed } : State) L mc ms := by
      refine ⟨?_, q2, q3, q4, q5, q6⟩
      obtain ⟨t, ht, -⟩ := State.frames_cons hr
      show ({ U with heap := s₂.heap, slotsUsed := s₂.slotsUsed } : State) = { U.setFrames U.frames with heap := s₂.heap, slotsUsed := s₂.slotsUsed }
      rw [State.setFrames_self ht]
    subst hg
    refine Or.inl ⟨v, ⟨(({ U with heap := s₂.heap, slotsUsed := s₂.slotsUsed } : State).setVm s₂.vm), Ls ++ L, c0 + mc, s0 + ms⟩,
      ⟨X.admits, X.cas, X.clock, X.frames, X.room, X.hears, X.method, X.code, (X.here.setHeapUsed s₂.heap s₂.slotsUsed).setVm hW'.alike, X.tail, State.WarmedH.trans X.warmed hW', X.limits, X.bytes, X.same.trans (hsame.setVm s.vm)⟩,
      ⟨g, mk, s₂, L, rfl, rfl, hqc, rfl, hL, rfl, rfl⟩, ?_⟩
    show Steps p.tables e below _ ((({ U with heap := s₂.heap, slotsUsed := s₂.slotsUsed } : State).setVm s₂.vm).setTop { g with pc := g.pc + len₂, stack := v.toList ++ g.stack })
    rw [← hs₂]
    exact hsteps
  · obtain ⟨e2, q2, q3, q4, q5, q6⟩ := id hsm
    have e3 : s₂ = ({ (U.calling g mk a).setFrames s₂.frames with heap := s₂.heap, slotsUsed := s₂.slotsUsed } : State).setVm s₂.vm := by
      have : s₂ = ({ s₂ with vm := (U.calling g mk a).vm } : State).setVm s₂.vm := rfl
      rw [e2] at this
      exact this
    have hf₂ : s₂.frames = .throwing q :: .java g :: U.frames.tail := hend
    have hW' : U.WarmedH s₂.vm := hW₂
    have hs₂ : s₂ = ((({ U with heap := s₂.heap, slotsUsed := s₂.slotsUsed } : State).setVm s₂.vm).setTop g).pushFrame (.throwing q) := by
      refine e3.trans ?_
      rw [hf₂, State.calling_eq h.top, State.setFrames_setFrames, State.pushFrame, State.frames_setTop _ hr', State.setTop_of_frames _ hr', State.setFrames_setFrames, hr]
      rfl
    have hsame : U.sameButNew ({ U with heap := s₂.heap, slotsUsed := s₂.slotsUsed } : State) L mc ms := by
      refine ⟨?_, q2, q3, q4, q5, q6⟩
      obtain ⟨t, ht, -⟩ := State.frames_cons hr
      show ({ U with heap := s₂.heap, slotsUsed := s₂.slotsUsed } : State) = { U.setFrames U.frames with heap := s₂.heap, slotsUsed := s₂.slotsUsed }
      rw [State.setFrames_self ht]
    subst hg
    refine Or.inr ⟨q, ⟨(({ U with heap := s₂.heap, slotsUsed := s₂.slotsUsed } : State).setVm s₂.vm), Ls ++ L, c0 + mc, s0 + ms⟩,
      ⟨X.admits, X.cas, X.clock, X.frames, X.room, X.hears, X.method, X.code, (X.here.setHeapUsed s₂.heap s₂.slotsUsed).setVm hW'.alike, X.tail, State.WarmedH.trans X.warmed hW', X.limits, X.bytes, X.same.trans (hsame.setVm s.vm)⟩,
      ⟨g, mk, s₂, L, E, ce, rfl, rfl, hx, hce, hcv, hcl, rfl, hL, rfl, rfl⟩, ?_⟩
    show Steps p.tables e below _ (((({ U with heap := s₂.heap, slotsUsed := s₂.slotsUsed } : State).setVm s₂.vm).setTop g).pushFrame (.throwing q))
    rw [← hs₂]
    exact hsteps
end Payer
section Calls
variable {p : Program} {l : Launch} {e : Env} {R : Room} {s : State} {m : MethodId} {args : Array Value} {below : List Frame} {meth : Method} {c : Code} {T : State} {locs : List Loc} {cells slots : Nat}
theorem vx_callV (X : Stand p l e R s m args below meth c T locs cells slots) (hexec : p.tables.exec = Jvm.exec) {own C : String} {index : Nat} {y : MethodName} {bytes : ByteArray} {maxL : Nat} {ret : Option FieldType}
    (hown : s.vm.findClass own = some m.cls) (hlink : (Cond.methodLink own index y).before args s = true) (hinst : (Cond.instanceMethod y).before args s = true) (hsel : (Cond.selects C y y).before args s = true)
    (hcode : (Cond.code y bytes maxL ret).before args s = true) (hy : y.cls ≠ "java/lang/invoke/MethodHandle" ∧ y.cls ≠ "java/lang/invoke/VarHandle")
    {W9 : Nat} {Pre : Pt → Array Value → Prop} {Post : Pt → Array Value → Option Value → Pt → Prop} {PostX : Pt → Array Value → Addr → Pt → Prop} (hK : vx_Back l R p e below s args y 3 W9 Pre Post PostX)
    {b : Addr} {cellB : Cell} (hcell : T.heap[b]? = some cellB) (hobj : cellB.vm.isStatics = false) (hcls : s.vm.findClass C = some cellB.cls)
    {g : JFrame} (hg : g.method = m) (hsize : g.locals.size = c.maxLocals) {argsL rest : List Value} (hlen : ∀ sig, parseMethodDescriptor y.desc = some sig → argsL.length = sig.parameters.length)
    (hstack : g.stack = argsL.reverse ++ .ref b :: rest) (hW : 2 * g.monitorRoom + (rest.map fun v => v.category).sum ≤ W9) (hdg : decode c.code g.pc = .ok (.invokevirtual index, 3))
    (hpre : ∀ vm₁, s.WarmedH vm₁ → Pre ⟨T.setVm vm₁, locs, cells, slots⟩ (Value.ref b :: argsL).toArray) :
    (∃ (v : Option Value) (vm₁ : Vm) (B : Pt), s.WarmedH vm₁ ∧ Stand p l e R s m args below meth c B.U B.locs B.cells B.slots ∧ Post ⟨T.setVm vm₁, locs, cells, slots⟩ (Value.ref b :: argsL).toArray v B ∧
      ∀ target, Steps p.tables e below (B.U.setTop { g with pc := g.pc + 3, stack := v.toList ++ rest }) target → Steps p.tables e below (T.setTop g) target) ∨
    (∃ (q : Addr) (vm₁ : Vm) (B : Pt), s.WarmedH vm₁ ∧ Stand p l e R s m args below meth c B.U B.locs B.cells B.slots ∧ PostX ⟨T.setVm vm₁, locs, cells, slots⟩ (Value.ref b :: argsL).toArray q B ∧
      Steps p.tables e below (T.setTop g) ((B.U.setTop { g with stack := rest }).pushFrame (.throwing q))) := by
  obtain ⟨mk, methM, hnamed, hmethM, hstM, habM⟩ := Cond.instanceMethod_spec hinst
  obtain ⟨methM', cM, hmethM', -, -, -, -, -, -, hsigM⟩ := Cond.code_spec hnamed hcode
  cases hmethM.symm.trans hmethM'
  obtain ⟨c2, r2, m2, q1, q2, q3, q4, kP, hkP, hkPi⟩ := Cond.selects_spec hsel
  cases hcls.symm.trans q1
  cases (State.methodFound?_of_named hnamed hy).symm.trans q2
  cases hnamed.symm.trans q3
  have hselP : selectMethod e.platform s.vm cellB.cls mk = .method mk := by rw [Launch.admits_selectMethod X.admits]; exact q4
  obtain ⟨vm₁, X₁, hstep₁⟩ := X.invokevirtual hexec hown hlink hnamed hmethM hstM hkP hkPi hy (a := b) (cell := cellB) hcell
    (fun z h => by rw [h] at hobj; cases hobj) hselP hmethM habM hkP hkPi (g := g) hg (argsL := argsL) (rest := rest) (hlen _ hsigM) hstack hdg
  rcases hK m meth c ⟨T.setVm vm₁, locs, cells, slots⟩ { g with stack := rest } (.invokevirtual index) mk (Value.ref b :: argsL).toArray X₁ hg hsize hdg hW (X₁.named hnamed) (hpre vm₁ X₁.warmed) with ⟨v, B, X', hpost, hsteps⟩ | ⟨q, B, X', hpost, hsteps⟩
  · exact Or.inl ⟨v, vm₁, B, X₁.warmed, X', hpost, fun target h => hstep₁ _ fun acts => by rw [doInvoke_state]; exact hsteps.trans h⟩
  · exact Or.inr ⟨q, vm₁, B, X₁.warmed, X', hpost, hstep₁ _ fun acts => by rw [doInvoke_state]; exact hsteps⟩
theorem vx_callS (X : Stand p l e R s m args below meth c T locs cells slots) (hexec : p.tables.exec = Jvm.exec) {own : String} {index : Nat} {y : MethodName} {bytes : ByteArray} {maxL : Nat} {ret : Option FieldType}
    (hown : s.vm.findClass own = some m.cls) (hlink : (Cond.methodLink own index y).before args s = true) (hstat : (Cond.static y).before args s = true) (hinit : (Cond.initialized y.cls).before args s = true)
    (hcode : (Cond.code y bytes maxL ret).before args s = true) (hy : y.cls ≠ "java/lang/invoke/MethodHandle" ∧ y.cls ≠ "java/lang/invoke/VarHandle")
    {W9 : Nat} {Pre : Pt → Array Value → Prop} {Post : Pt → Array Value → Option Value → Pt → Prop} {PostX : Pt → Array Value → Addr → Pt → Prop} (hK : vx_Back l R p e below s args y 3 W9 Pre Post PostX)
    {g : JFrame} (hg : g.method = m) (hsize : g.locals.size = c.maxLocals) {argsL rest : List Value} (hlen : ∀ sig, parseMethodDescriptor y.desc = some sig → argsL.length = sig.parameters.length)
    (hstack : g.stack = argsL.reverse ++ rest) (hW : 2 * g.monitorRoom + (rest.map fun v => v.category).sum ≤ W9) (hdg : decode c.code g.pc = .ok (.invokestatic index, 3))
    (hpre : ∀ vm₁, s.WarmedH vm₁ → Pre ⟨T.setVm vm₁, locs, cells, slots⟩ argsL.toArray) :
    (∃ (v : Option Value) (vm₁ : Vm) (B : Pt), s.WarmedH vm₁ ∧ Stand p l e R s m args below meth c B.U B.locs B.cells B.slots ∧ Post ⟨T.setVm vm₁, locs, cells, slots⟩ argsL.toArray v B ∧
      ∀ target, Steps p.tables e below (B.U.setTop { g with pc := g.pc + 3, stack := v.toList ++ rest }) target → Steps p.tables e below (T.setTop g) target) ∨
    (∃ (q : Addr) (vm₁ : Vm) (B : Pt), s.WarmedH vm₁ ∧ Stand p l e R s m args below meth c B.U B.locs B.cells B.slots ∧ PostX ⟨T.setVm vm₁, locs, cells, slots⟩ argsL.toArray q B ∧
      Steps p.tables e below (T.setTop g) ((B.U.setTop { g with stack := rest }).pushFrame (.throwing q))) := by
  obtain ⟨mk, hnamed⟩ := Cond.code_named hcode
  obtain ⟨methM, cM, hmethM, -, -, -, -, -, -, hsigM⟩ := Cond.code_spec hnamed hcode
  have hstatic : methM.isStatic = true := Cond.static_spec hnamed hmethM hstat
  obtain ⟨kP, hkP, -⟩ := className_of_methodNamed hnamed
  have hinitP : kP.init = .initialized := Cond.initialized_spec (findClass_of_methodNamed hnamed) hkP hinit
  obtain ⟨vm₁, X₁, hstep₁⟩ := X.invokestatic hexec hown hlink hnamed hmethM hstatic hkP hinitP hy (g := g) hg (argsL := argsL) (rest := rest) (hlen _ hsigM) hstack hdg
  rcases hK m meth c ⟨T.setVm vm₁, locs, cells, slots⟩ { g with stack := rest } (.invokestatic index) mk argsL.toArray X₁ hg hsize hdg hW (X₁.named hnamed) (hpre vm₁ X₁.warmed) with ⟨v, B, X', hpost, hsteps⟩ | ⟨q, B, X', hpost, hsteps⟩
  · exact Or.inl ⟨v, vm₁, B, X₁.warmed, X', hpost, fun target h => hstep₁ _ fun acts => by rw [doInvoke_state]; exact hsteps.trans h⟩
  · exact Or.inr ⟨q, vm₁, B, X₁.warmed, X', hpost, hstep₁ _ fun acts => by rw [doInvoke_state]; exact hsteps⟩
end Calls
theorem vx_cls {s : State} {T : State} {vm₁ : Vm} {E : String} {k : ClassId} (hW : s.WarmedH vm₁) (h : (T.setVm vm₁).vm.findClass E = some k) : s.vm.findClass E = some k := by
  have h1 : vm₁.findClass E = some k := h
  rw [hW.alike.findClass] at h1
  exact h1
/-- the method's frame g, with q thrown over it -/
def vx_W (p : Program) (l : Launch) (e : Env) (R : Room) (s : State) (m : MethodId) (args : Array Value) (below : List Frame) (meth : Method) (c : Code) (H : Heap) (locs : List Loc) (cells slots : Nat) (Q : State → Prop) (g : JFrame) (q : Addr) : Prop :=
  ∀ T : State, T.heap = H → Stand p l e R s m args below meth c T locs cells slots → ∃ t, Steps p.tables e below ((T.setTop g).pushFrame (.throwing q)) t ∧ Q t
def vx_Run (p : Program) (l : Launch) (e : Env) (R : Room) (s : State) (m : MethodId) (args : Array Value) (below : List Frame) (meth : Method) (c : Code) (H : Heap) (locs : List Loc) (cells slots mc ms : Nat) (g : JFrame) (rest : List Value) (Qa : State → Outcome → State → Prop) (XC : String → State → State → Prop) (free : Addr → Prop) : Prop :=
  ∀ T : State, T.heap = H → Stand p l e R s m args below meth c T locs cells slots →
    (∃ (v : Option Value) (st₀ t T' : State) (L : List Loc), st₀.heap = H ∧ Stand p l e R s m args below meth c T' (locs ++ L) (cells + mc) (slots + ms) ∧ (∀ q ∈ L, free q.base) ∧ T'.heap = t.heap ∧ T'.vm = t.vm ∧ Qa st₀ (.returned v) t ∧
      Goes p e below T g T' { g with pc := g.pc + 3, stack := v.toList ++ rest }) ∨
    (∃ (q : Addr) (st₀ t T' : State) (L : List Loc) (E : String) (ce : Cell), st₀.heap = H ∧ Stand p l e R s m args below meth c T' (locs ++ L) (cells + mc) (slots + ms) ∧ (∀ z ∈ L, free z.base) ∧ T'.heap = t.heap ∧ T'.vm = t.vm ∧ XC E st₀ t ∧ t.heap[q]? = some ce ∧ ce.vm = .none ∧ s.vm.findClass E = some ce.cls ∧
      Steps p.tables e below (T.setTop g) ((T'.setTop { g with stack := rest }).pushFrame (.throwing q)))
def vx_X {S : Type} (px : S → Prop) (B : String → S → State → Prop) (A : Nat → Prop) : String → State → State → Prop := fun E st t => ∃ u : S, px u ∧ B E u t ∧ va_F A st t
section Runs
variable {p : Program} {l : Launch} {e : Env} {R : Room} {s : State} {m : MethodId} {args : Array Value} {below : List Frame} {meth : Method} {c : Code} {H : Heap} {locs : List Loc} {cells slots : Nat}
variable {y : MethodName} {bytes cc : ByteArray} {maxL nL mc ms n index : Nat} {ret : Option FieldType} {ws : List Cond} {rm : Room} {Pc : Array Value → State → Prop} {Qc : Array Value → State → Outcome → State → Prop} {XC : String → State → State → Prop} {free : Addr → Prop} {Ts : List Cond} {own C : String} {b : Addr} {As rest : List Value} {g : JFrame}
theorem vx_callBack (cb : CallB R s args own index y bytes maxL ret ws rm mc ms n) (hM : vx_Met l y ws rm Pc Qc XC mc ms free) (hbl : FrameBlind Pc) : vx_Back l R p e below s args y 3 8 (PreOf R mc ms Pc) (PostOf Qc mc ms free) (vx_Post XC mc ms free) := by
  obtain ⟨hrc, hrs, hfr, hlo, hws, hcw, -, hini, -⟩ := cb
  exact vx_back (bytes := bytes) (maxL := maxL) (ret := ret) hM hbl hrc hrs hfr hlo hws hcw (fun a' U hW => word_at hW (Or.inl (by first | rfl | simp [Cond.onTables, Cond.keeps, Cond.steady])) hini)
theorem vx_runV (S : CallFix p m c cc nL s args Ts own) (hM : vx_Met l y ws rm Pc Qc XC mc ms free) (cw : CallW R s args own C index y bytes maxL ret ws rm mc ms n) (hp : PreV s H C b Pc As)
    (hg : g.method = m) (hn : As.length = n) (hsize : g.locals.size = nL) (hstack : g.stack = As.reverse ++ .ref b :: rest) (hW : 2 * g.monitorRoom + (rest.map fun v => v.category).sum ≤ 8) (hdg : decode cc g.pc = .ok (.invokevirtual index, 3)) (hf : cells + mc ≤ R.cells ∧ slots + ms ≤ R.slots) :
    vx_Run p l e R s m args below meth c H locs cells slots mc ms g rest (Qc (Value.ref b :: As).toArray) XC free := by
  have hK : vx_Back l R p e below s args y 3 8 (PreOf R mc ms Pc) (PostOf Qc mc ms free) (vx_Post XC mc ms free) := vx_callBack cw.1 hM hp.1
  obtain ⟨⟨-, -, -, -, -, -, hcode, -, hy, hlen, hl⟩, hin, hse⟩ := cw
  obtain ⟨hx, hb, hml, ho, -⟩ := S
  obtain ⟨-, ⟨cellB, hcB, hoB, hclB⟩, hPc⟩ := hp
  intro T hT X
  rcases vx_callV X hx (C := C) (bytes := bytes) (maxL := maxL) (ret := ret) ho hl hin hse hcode hy hK (by rw [hT]; exact hcB) hoB hclB hg (hsize.trans hml.symm) (argsL := As) (rest := rest) (fun sig h => hn.trans (hlen sig h)) hstack hW (by rw [hb]; exact hdg)
    (fun vm₁ hW₁ => ⟨hf.1, hf.2, hPc (T.setVm vm₁) hT hW₁⟩) with ⟨v, vm₁, ⟨U', l2, c2, s2⟩, hW₁, X', ⟨g', mk, t, L, e1, e2, hq, h1, hL, h2, h3⟩, st⟩ | ⟨q, vm₁, ⟨U', l2, c2, s2⟩, hW₁, X', ⟨g', mk, t, L, E, ce, e1, e2, hq, hce, hcv, hcl, h1, hL, h2, h3⟩, st⟩
  · dsimp only [Pt.U, Pt.locs, Pt.cells, Pt.slots] at X' e1 e2 h1 h2 h3 st
    subst h1; subst h2; subst h3
    exact Or.inl ⟨v, (T.setVm vm₁).calling g' mk (Value.ref b :: As).toArray, t, U', L, hT, X', hL, e1, e2, hq, st⟩
  · dsimp only [Pt.U, Pt.locs, Pt.cells, Pt.slots] at X' e1 e2 h1 h2 h3 st hcl
    subst h1; subst h2; subst h3
    exact Or.inr ⟨q, (T.setVm vm₁).calling g' mk (Value.ref b :: As).toArray, t, U', L, E, ce, hT, X', hL, e1, e2, hq, hce, hcv, vx_cls hW₁ hcl, st⟩
theorem vx_runS (S : CallFix p m c cc nL s args Ts own) (hM : vx_Met l y ws rm Pc Qc XC mc ms free) (cw : CallB R s args own index y bytes maxL ret ws rm mc ms n ∧ (Cond.static y).before args s = true) (hp : PreS s H Pc As)
    (hg : g.method = m) (hn : As.length = n) (hsize : g.locals.size = nL) (hstack : g.stack = As.reverse ++ rest) (hW : 2 * g.monitorRoom + (rest.map fun v => v.category).sum ≤ 8) (hdg : decode cc g.pc = .ok (.invokestatic index, 3)) (hf : cells + mc ≤ R.cells ∧ slots + ms ≤ R.slots) :
    vx_Run p l e R s m args below meth c H locs cells slots mc ms g rest (Qc As.toArray) XC free := by
  have hK : vx_Back l R p e below s args y 3 8 (PreOf R mc ms Pc) (PostOf Qc mc ms free) (vx_Post XC mc ms free) := vx_callBack cw.1 hM hp.1
  obtain ⟨⟨-, -, -, -, -, -, hcode, hini, hy, hlen, hl⟩, hstt⟩ := cw
  obtain ⟨hx, hb, hml, ho, -⟩ := S
  intro T hT X
  rcases vx_callS X hx (bytes := bytes) (maxL := maxL) (ret := ret) ho hl hstt hini hcode hy hK hg (hsize.trans hml.symm) (argsL := As) (rest := rest) (fun sig h => hn.trans (hlen sig h)) hstack hW (by rw [hb]; exact hdg)
    (fun vm₁ hW₁ => ⟨hf.1, hf.2, hp.2 (T.setVm vm₁) hT hW₁⟩) with ⟨v, vm₁, ⟨U', l2, c2, s2⟩, hW₁, X', ⟨g', mk, t, L, e1, e2, hq, h1, hL, h2, h3⟩, st⟩ | ⟨q, vm₁, ⟨U', l2, c2, s2⟩, hW₁, X', ⟨g', mk, t, L, E, ce, e1, e2, hq, hce, hcv, hcl, h1, hL, h2, h3⟩, st⟩
  · dsimp only [Pt.U, Pt.locs, Pt.cells, Pt.slots] at X' e1 e2 h1 h2 h3 st
    subst h1; subst h2; subst h3
    exact Or.inl ⟨v, (T.setVm vm₁).calling g' mk As.toArray, t, U', L, hT, X', hL, e1, e2, hq, st⟩
  · dsimp only [Pt.U, Pt.locs, Pt.cells, Pt.slots] at X' e1 e2 h1 h2 h3 st hcl
    subst h1; subst h2; subst h3
    exact Or.inr ⟨q, (T.setVm vm₁).calling g' mk As.toArray, t, U', L, E, ce, hT, X', hL, e1, e2, hq, hce, hcv, vx_cls hW₁ hcl, st⟩
end Runs
section Rows
variable {p : Program} {l : Launch} {e : Env} {R : Room} {s : State} {m : MethodId} {args : Array Value} {below : List Frame} {meth : Method} {c : Code} {H : Heap} {locs : List Loc} {cells slots : Nat} {Q : State → Prop}
variable {mc ms : Nat} {free : Addr → Prop} {A0 A1 : Nat → Prop} {H0 : Heap} {a : Array Value} {pc : Nat} {ls : Array Slot} {st0 rest : List Value}
theorem vx_keep {st₀ t T' : State} {L : List Loc} (h0 : st₀.heap = H) (e1 : T'.heap = t.heap) (hS : va_S A0 H0 H locs) (hA : ∀ q, q < H.size → A1 q → A0 q) (hf : ∀ q, free q → A0 q) (hL : ∀ q ∈ L, free q.base) (hF : va_F A1 st₀ t) :
    H.size ≤ T'.heap.size ∧ (∀ q : Nat, q < H.size → ¬ A1 q → T'.heap[q]? = H[q]?) ∧ va_S A0 H0 T'.heap (locs ++ L) := by
  obtain ⟨hz, hk⟩ := hF
  rw [h0] at hz hk
  exact ⟨by rw [e1]; exact hz, fun q h1 h2 => by rw [e1]; exact hk q h1 h2,
    ⟨Nat.le_trans hS.1 (by rw [e1]; exact hz), fun q h1 h2 => by rw [e1, hk q (Nat.lt_of_lt_of_le h1 hS.1) (fun z => h2 (hA q (Nat.lt_of_lt_of_le h1 hS.1) z))]; exact hS.2.1 q h1 h2, fun q hq => by
      rcases List.mem_append.mp hq with h | h
      · exact hS.2.2 q h
      · exact hf _ (hL q h)⟩⟩
theorem vx_calli {S SX : Type} {post : Int32 → S → Prop} {px : SX → Prop} {B : S → State → Prop} {BX : String → SX → State → Prop} {AX : Nat → Prop} (hr : vx_Run p l e R s m args below meth c H locs cells slots mc ms (F0 m pc ls st0) rest (va_Qi post B A1 a) (vx_X px BX AX) free) (hS : va_S A0 H0 H locs) (hA : ∀ q, q < H.size → A1 q → A0 q) (hf : ∀ q, free q → A0 q) (hAX : ∀ q, q < H.size → AX q → A0 q)
    (kx : ∀ (E : String) (ce : Cell) (q9 : Addr) (u : SX) (t : State) (H1 : Heap) (locs1 : List Loc), t.heap = H1 → s.vm.Alike t.vm → px u → BX E u t → H.size ≤ H1.size → (∀ q : Nat, q < H.size → ¬ AX q → H1[q]? = H[q]?) → va_S A0 H0 H1 locs1 → H1[q9]? = some ce → ce.vm = .none → s.vm.findClass E = some ce.cls → vx_W p l e R s m args below meth c H1 locs1 (cells + mc) (slots + ms) Q (F0 m pc ls rest) q9)
    (kk : ∀ (r : Int32) (u : S) (t : State) (H1 : Heap) (locs1 : List Loc), t.heap = H1 → s.vm.Alike t.vm → post r u → B u t → H.size ≤ H1.size → (∀ q : Nat, q < H.size → ¬ A1 q → H1[q]? = H[q]?) → va_S A0 H0 H1 locs1 → W p l e R s m args below meth c H1 locs1 (cells + mc) (slots + ms) Q (F0 m (pc + 3) ls (.int r :: rest))) : W p l e R s m args below meth c H locs cells slots Q (F0 m pc ls st0) := by
  intro T hT X
  rcases hr T hT X with ⟨v, st₀, t, T', L, h0, X', hL, e1, e2, ⟨⟨r, u, hv, hp, hb⟩, hF⟩, st⟩ | ⟨q, st₀, t, T', L, E, ce, h0, X', hL, e1, e2, ⟨u, hp, hb, hF⟩, hce, hcv, hcl, st⟩
  · cases hv
    obtain ⟨k1, k2, k3⟩ := vx_keep h0 e1 hS hA hf hL hF
    obtain ⟨t2, a1, b1⟩ := kk r u t T'.heap (locs ++ L) e1.symm (by rw [← e2]; exact X'.warmed.alike) hp hb k1 k2 k3 T' rfl X'
    exact ⟨t2, st t2 a1, b1⟩
  · obtain ⟨k1, k2, k3⟩ := vx_keep h0 e1 hS hAX hf hL hF
    obtain ⟨t2, a1, b1⟩ := kx E ce q u t T'.heap (locs ++ L) e1.symm (by rw [← e2]; exact X'.warmed.alike) hp hb k1 k2 k3 (by rw [e1]; exact hce) hcv hcl T' rfl X'
    exact ⟨t2, st.trans a1, b1⟩
theorem vx_calll {S SX : Type} {post : Int64 → S → Prop} {px : SX → Prop} {B : S → State → Prop} {BX : String → SX → State → Prop} {AX : Nat → Prop} (hr : vx_Run p l e R s m args below meth c H locs cells slots mc ms (F0 m pc ls st0) rest (va_Ql post B A1 a) (vx_X px BX AX) free) (hS : va_S A0 H0 H locs) (hA : ∀ q, q < H.size → A1 q → A0 q) (hf : ∀ q, free q → A0 q) (hAX : ∀ q, q < H.size → AX q → A0 q)
    (kx : ∀ (E : String) (ce : Cell) (q9 : Addr) (u : SX) (t : State) (H1 : Heap) (locs1 : List Loc), t.heap = H1 → s.vm.Alike t.vm → px u → BX E u t → H.size ≤ H1.size → (∀ q : Nat, q < H.size → ¬ AX q → H1[q]? = H[q]?) → va_S A0 H0 H1 locs1 → H1[q9]? = some ce → ce.vm = .none → s.vm.findClass E = some ce.cls → vx_W p l e R s m args below meth c H1 locs1 (cells + mc) (slots + ms) Q (F0 m pc ls rest) q9)
    (kk : ∀ (r : Int64) (u : S) (t : State) (H1 : Heap) (locs1 : List Loc), t.heap = H1 → s.vm.Alike t.vm → post r u → B u t → H.size ≤ H1.size → (∀ q : Nat, q < H.size → ¬ A1 q → H1[q]? = H[q]?) → va_S A0 H0 H1 locs1 → W p l e R s m args below meth c H1 locs1 (cells + mc) (slots + ms) Q (F0 m (pc + 3) ls (.long r :: rest))) : W p l e R s m args below meth c H locs cells slots Q (F0 m pc ls st0) := by
  intro T hT X
  rcases hr T hT X with ⟨v, st₀, t, T', L, h0, X', hL, e1, e2, ⟨⟨r, u, hv, hp, hb⟩, hF⟩, st⟩ | ⟨q, st₀, t, T', L, E, ce, h0, X', hL, e1, e2, ⟨u, hp, hb, hF⟩, hce, hcv, hcl, st⟩
  · cases hv
    obtain ⟨k1, k2, k3⟩ := vx_keep h0 e1 hS hA hf hL hF
    obtain ⟨t2, a1, b1⟩ := kk r u t T'.heap (locs ++ L) e1.symm (by rw [← e2]; exact X'.warmed.alike) hp hb k1 k2 k3 T' rfl X'
    exact ⟨t2, st t2 a1, b1⟩
  · obtain ⟨k1, k2, k3⟩ := vx_keep h0 e1 hS hAX hf hL hF
    obtain ⟨t2, a1, b1⟩ := kx E ce q u t T'.heap (locs ++ L) e1.symm (by rw [← e2]; exact X'.warmed.alike) hp hb k1 k2 k3 (by rw [e1]; exact hce) hcv hcl T' rfl X'
    exact ⟨t2, st.trans a1, b1⟩
theorem vx_callf {S SX : Type} {post : UInt32 → S → Prop} {px : SX → Prop} {B : S → State → Prop} {BX : String → SX → State → Prop} {AX : Nat → Prop} (hr : vx_Run p l e R s m args below meth c H locs cells slots mc ms (F0 m pc ls st0) rest (va_Qf post B A1 a) (vx_X px BX AX) free) (hS : va_S A0 H0 H locs) (hA : ∀ q, q < H.size → A1 q → A0 q) (hf : ∀ q, free q → A0 q) (hAX : ∀ q, q < H.size → AX q → A0 q)
    (kx : ∀ (E : String) (ce : Cell) (q9 : Addr) (u : SX) (t : State) (H1 : Heap) (locs1 : List Loc), t.heap = H1 → s.vm.Alike t.vm → px u → BX E u t → H.size ≤ H1.size → (∀ q : Nat, q < H.size → ¬ AX q → H1[q]? = H[q]?) → va_S A0 H0 H1 locs1 → H1[q9]? = some ce → ce.vm = .none → s.vm.findClass E = some ce.cls → vx_W p l e R s m args below meth c H1 locs1 (cells + mc) (slots + ms) Q (F0 m pc ls rest) q9)
    (kk : ∀ (r : UInt32) (u : S) (t : State) (H1 : Heap) (locs1 : List Loc), t.heap = H1 → s.vm.Alike t.vm → post r u → B u t → H.size ≤ H1.size → (∀ q : Nat, q < H.size → ¬ A1 q → H1[q]? = H[q]?) → va_S A0 H0 H1 locs1 → W p l e R s m args below meth c H1 locs1 (cells + mc) (slots + ms) Q (F0 m (pc + 3) ls (.float r :: rest))) : W p l e R s m args below meth c H locs cells slots Q (F0 m pc ls st0) := by
  intro T hT X
  rcases hr T hT X with ⟨v, st₀, t, T', L, h0, X', hL, e1, e2, ⟨⟨r, u, hv, hp, hb⟩, hF⟩, st⟩ | ⟨q, st₀, t, T', L, E, ce, h0, X', hL, e1, e2, ⟨u, hp, hb, hF⟩, hce, hcv, hcl, st⟩
  · cases hv
    obtain ⟨k1, k2, k3⟩ := vx_keep h0 e1 hS hA hf hL hF
    obtain ⟨t2, a1, b1⟩ := kk r u t T'.heap (locs ++ L) e1.symm (by rw [← e2]; exact X'.warmed.alike) hp hb k1 k2 k3 T' rfl X'
    exact ⟨t2, st t2 a1, b1⟩
  · obtain ⟨k1, k2, k3⟩ := vx_keep h0 e1 hS hAX hf hL hF
    obtain ⟨t2, a1, b1⟩ := kx E ce q u t T'.heap (locs ++ L) e1.symm (by rw [← e2]; exact X'.warmed.alike) hp hb k1 k2 k3 (by rw [e1]; exact hce) hcv hcl T' rfl X'
    exact ⟨t2, st.trans a1, b1⟩
theorem vx_calld {S SX : Type} {post : UInt64 → S → Prop} {px : SX → Prop} {B : S → State → Prop} {BX : String → SX → State → Prop} {AX : Nat → Prop} (hr : vx_Run p l e R s m args below meth c H locs cells slots mc ms (F0 m pc ls st0) rest (va_Qd post B A1 a) (vx_X px BX AX) free) (hS : va_S A0 H0 H locs) (hA : ∀ q, q < H.size → A1 q → A0 q) (hf : ∀ q, free q → A0 q) (hAX : ∀ q, q < H.size → AX q → A0 q)
    (kx : ∀ (E : String) (ce : Cell) (q9 : Addr) (u : SX) (t : State) (H1 : Heap) (locs1 : List Loc), t.heap = H1 → s.vm.Alike t.vm → px u → BX E u t → H.size ≤ H1.size → (∀ q : Nat, q < H.size → ¬ AX q → H1[q]? = H[q]?) → va_S A0 H0 H1 locs1 → H1[q9]? = some ce → ce.vm = .none → s.vm.findClass E = some ce.cls → vx_W p l e R s m args below meth c H1 locs1 (cells + mc) (slots + ms) Q (F0 m pc ls rest) q9)
    (kk : ∀ (r : UInt64) (u : S) (t : State) (H1 : Heap) (locs1 : List Loc), t.heap = H1 → s.vm.Alike t.vm → post r u → B u t → H.size ≤ H1.size → (∀ q : Nat, q < H.size → ¬ A1 q → H1[q]? = H[q]?) → va_S A0 H0 H1 locs1 → W p l e R s m args below meth c H1 locs1 (cells + mc) (slots + ms) Q (F0 m (pc + 3) ls (.double r :: rest))) : W p l e R s m args below meth c H locs cells slots Q (F0 m pc ls st0) := by
  intro T hT X
  rcases hr T hT X with ⟨v, st₀, t, T', L, h0, X', hL, e1, e2, ⟨⟨r, u, hv, hp, hb⟩, hF⟩, st⟩ | ⟨q, st₀, t, T', L, E, ce, h0, X', hL, e1, e2, ⟨u, hp, hb, hF⟩, hce, hcv, hcl, st⟩
  · cases hv
    obtain ⟨k1, k2, k3⟩ := vx_keep h0 e1 hS hA hf hL hF
    obtain ⟨t2, a1, b1⟩ := kk r u t T'.heap (locs ++ L) e1.symm (by rw [← e2]; exact X'.warmed.alike) hp hb k1 k2 k3 T' rfl X'
    exact ⟨t2, st t2 a1, b1⟩
  · obtain ⟨k1, k2, k3⟩ := vx_keep h0 e1 hS hAX hf hL hF
    obtain ⟨t2, a1, b1⟩ := kx E ce q u t T'.heap (locs ++ L) e1.symm (by rw [← e2]; exact X'.warmed.alike) hp hb k1 k2 k3 (by rw [e1]; exact hce) hcv hcl T' rfl X'
    exact ⟨t2, st.trans a1, b1⟩
theorem vx_callv {S SX : Type} {post : S → Prop} {px : SX → Prop} {B : S → State → Prop} {BX : String → SX → State → Prop} {AX : Nat → Prop} (hr : vx_Run p l e R s m args below meth c H locs cells slots mc ms (F0 m pc ls st0) rest (va_Qv post B A1 a) (vx_X px BX AX) free) (hS : va_S A0 H0 H locs) (hA : ∀ q, q < H.size → A1 q → A0 q) (hf : ∀ q, free q → A0 q) (hAX : ∀ q, q < H.size → AX q → A0 q)
    (kx : ∀ (E : String) (ce : Cell) (q9 : Addr) (u : SX) (t : State) (H1 : Heap) (locs1 : List Loc), t.heap = H1 → s.vm.Alike t.vm → px u → BX E u t → H.size ≤ H1.size → (∀ q : Nat, q < H.size → ¬ AX q → H1[q]? = H[q]?) → va_S A0 H0 H1 locs1 → H1[q9]? = some ce → ce.vm = .none → s.vm.findClass E = some ce.cls → vx_W p l e R s m args below meth c H1 locs1 (cells + mc) (slots + ms) Q (F0 m pc ls rest) q9)
    (kk : ∀ (u : S) (t : State) (H1 : Heap) (locs1 : List Loc), t.heap = H1 → s.vm.Alike t.vm → post u → B u t → H.size ≤ H1.size → (∀ q : Nat, q < H.size → ¬ A1 q → H1[q]? = H[q]?) → va_S A0 H0 H1 locs1 → W p l e R s m args below meth c H1 locs1 (cells + mc) (slots + ms) Q (F0 m (pc + 3) ls (rest))) : W p l e R s m args below meth c H locs cells slots Q (F0 m pc ls st0) := by
  intro T hT X
  rcases hr T hT X with ⟨v, st₀, t, T', L, h0, X', hL, e1, e2, ⟨⟨u, hv, hp, hb⟩, hF⟩, st⟩ | ⟨q, st₀, t, T', L, E, ce, h0, X', hL, e1, e2, ⟨u, hp, hb, hF⟩, hce, hcv, hcl, st⟩
  · cases hv
    obtain ⟨k1, k2, k3⟩ := vx_keep h0 e1 hS hA hf hL hF
    obtain ⟨t2, a1, b1⟩ := kk u t T'.heap (locs ++ L) e1.symm (by rw [← e2]; exact X'.warmed.alike) hp hb k1 k2 k3 T' rfl X'
    exact ⟨t2, st t2 a1, b1⟩
  · obtain ⟨k1, k2, k3⟩ := vx_keep h0 e1 hS hAX hf hL hF
    obtain ⟨t2, a1, b1⟩ := kx E ce q u t T'.heap (locs ++ L) e1.symm (by rw [← e2]; exact X'.warmed.alike) hp hb k1 k2 k3 (by rw [e1]; exact hce) hcv hcl T' rfl X'
    exact ⟨t2, st.trans a1, b1⟩
/-- caught by the row x of this method's table; the rows ahead don't take it -/
theorem vx_catch {own name : String} {E : String} {ce : Cell} {q : Addr} (hown : s.vm.findClass own = some m.cls) (pre : List ExceptionTableEntry) (x : ExceptionTableEntry) (suf : List ExceptionTableEntry) (hsplit : c.exceptionTable.toList = pre ++ x :: suf)
    (hpass : ∀ z ∈ pre, covers z pc = false ∨ (z.catchType ≠ 0 ∧ ∃ nm : String, (Cond.classLink own z.catchType nm).before args s = true ∧ va_Nc E nm s)) (hx : covers x pc = true) (h0 : x.catchType ≠ 0)
    (hlink : (Cond.classLink own x.catchType name).before args s = true) (hcast : (Cond.castable E name).before args s = true) (hcell : H[q]? = some ce) (hv : ce.vm = .none) (hcl : s.vm.findClass E = some ce.cls)
    (kk : W p l e R s m args below meth c H locs cells slots Q (F0 m x.handlerPc ls [.ref q])) : vx_W p l e R s m args below meth c H locs cells slots Q (F0 m pc ls rest) q := by
  intro T hT X
  have hpl : e.platform.magicAccessors = ({} : Platform).magicAccessors := by rw [X.admits.platform]
  obtain ⟨c3, c4, hc3, hc4, hasg⟩ := Cond.castable_spec hcast
  cases Option.some.inj (hc3.symm.trans hcl)
  obtain ⟨c5, hc5, hcl5⟩ := Cond.classLink_spec hown hlink e.platform hpl
  cases Option.some.inj (hc4.symm.trans hc5)
  obtain ⟨vm', X', st⟩ := X.thenCaughtThrough q (g := F0 m pc ls rest) rfl (Steps.refl _) (by rw [hT]; exact hcell) (by rw [hv]; rfl) (by obtain ⟨k9, h9, -⟩ := Vm.findClass_spec hcl; exact ⟨k9, h9⟩) pre x suf hsplit
    (fun z hz => by
      rcases hpass z hz with h | ⟨hz0, nm, hl1, hn1⟩
      · exact Or.inl h
      · obtain ⟨c6, hc6, hcl6⟩ := Cond.classLink_spec hown hl1 e.platform hpl
        obtain ⟨a8, b8, h1, h2, h3⟩ := hn1
        cases Option.some.inj (h1.symm.trans hcl)
        cases Option.some.inj (h2.symm.trans hc6)
        exact Or.inr ⟨hz0, _, hcl6, h3⟩) hx (Or.inr ⟨h0, c4, hcl5, hasg⟩)
  obtain ⟨t, a1, b1⟩ := kk (T.setVm vm') hT X'
  exact ⟨t, st.trans a1, b1⟩
end Rows
section Ends
variable {p : Program} {l : Launch} {e : Env} {R : Room} {s : State} {m : MethodId} {args : Array Value} {below : List Frame} {meth : Method} {c : Code} {H : Heap} {locs : List Loc} {cells slots : Nat} {Q : State → Prop}
variable {mc ms : Nat} {free : Addr → Prop} {A0 A1 : Nat → Prop} {H0 : Heap} {a : Array Value} {ls : Array Slot} {st0 rest : List Value}
variable {Qc : Array Value → State → Outcome → State → Prop} {XC : String → State → State → Prop}
/-- what a body that may throw owes at its end -/
def vx_MQ (below : List Frame) (Qc : Array Value → State → Outcome → State → Prop) (XC : String → State → State → Prop) (a : Array Value) (s : State) (mc ms : Nat) (free : Addr → Prop) : State → Prop := fun t =>
  ∃ o, t.status = .running ∧ Ended t below o ∧ vx_Q Qc XC mc ms free a s o t
theorem vx_ret {g : JFrame} {mc ms : Nat} (k : W p l e R s m args below meth c H locs cells slots (MQ below Qc args s mc ms free) g) : W p l e R s m args below meth c H locs cells slots (vx_MQ below Qc XC args s mc ms free) g := by
  intro T hT X
  obtain ⟨t, a1, o, b1, b2, b3, b4⟩ := k T hT X
  exact ⟨t, a1, o, b1, b2, Or.inl ⟨b3, b4⟩⟩
/-- not caught here: it goes on to the caller -/
theorem vx_widen {g : JFrame} {q : Addr} {k n : Nat} (h1 : cells ≤ k) (h2 : slots ≤ n) (kk : vx_W p l e R s m args below meth c H locs k n Q g q) : vx_W p l e R s m args below meth c H locs cells slots Q g q := fun T hT X => kk T hT (stand_widen X h1 h2)
theorem vx_out {pc : Nat} {E : String} {ce : Cell} {q : Addr} {mc ms : Nat} (hout : ∀ x ∈ c.exceptionTable.toList, covers x pc = false) (hlocks : meth.locks = false) (hcell : H[q]? = some ce) (hv : ce.vm = .none) (hcl : s.vm.findClass E = some ce.cls)
    (hx : ∀ t : State, t.heap = H → s.vm.Alike t.vm → XC E s t) (hf : ∀ z ∈ locs, free z.base) (hc : cells ≤ mc) (hs : slots ≤ ms) :
    vx_W p l e R s m args below meth c H locs cells slots (vx_MQ below Qc XC args s mc ms free) (F0 m pc ls rest) q := by
  intro T hT X
  obtain ⟨st1, hrun, hend, hW, hsm⟩ := X.leaveThrown q (g := F0 m pc ls rest) rfl rfl rfl hout hlocks
  have hcell9 : (T.setFrames (.throwing q :: below)).heap[q]? = some ce := by
    show T.heap[q]? = some ce
    rw [hT]; exact hcell
  exact ⟨_, st1, .threw q, hrun, hend, Or.inr ⟨q, rfl, E, ce, locs, hx _ hT hW.alike, hcell9, hv, hcl, hW, hsm.mono hc hs, hf⟩⟩
theorem vx_frame {U : State} {k n : Nat} (h : s.sameButNew ({ U with vm := s.vm } : State) locs k n) : s.heap.size ≤ U.heap.size ∧ ∀ q : Nat, q < s.heap.size → (∀ z ∈ locs, z.base ≠ q) → U.heap[q]? = s.heap[q]? := by
  obtain ⟨-, h2, -, -, -, h6⟩ := h
  refine ⟨h2, fun q hq hz => ?_⟩
  obtain ⟨c9, e1, e2, e3, e4⟩ := h6 q _ (Array.getElem?_eq_getElem hq)
  have hs : c9.slots = (s.heap[q]).slots := Array.ext_getElem? fun i => e4 i fun hm => hz _ hm rfl
  have h9 : c9 = s.heap[q] := by
    rw [hs] at e2
    exact e2
  have e5 : U.heap[q]? = some c9 := e1
  rw [e5, h9, Array.getElem?_eq_getElem hq]
/-- the words of a throw but the four that speak of the heap -/
def vx_no (w : Cond) : Bool := decide (w ≠ .isRef (.static Bundle.tN "UNASSIGNED_STACK" Bundle.steD)) && decide (w ≠ .isRef (.static Bundle.tN "SUPPRESSED_SENTINEL" Bundle.listD)) && decide (w ≠ .laysStatic Bundle.tN "UNASSIGNED_STACK" Bundle.steD) && decide (w ≠ .laysStatic Bundle.tN "SUPPRESSED_SENTINEL" Bundle.listD)
def vx_at0 (own : String) (ic : Nat) (X : String) (names : List String) : List Cond := (Bundle.ownAtoms0 own ic X names).filter vx_no
def vx_atS (own : String) (ic : Nat) (X : String) (names : List String) : List Cond := (Bundle.ownAtoms own ic X names).filter vx_no
/-- a word that the tables alone decide, or a good one -/
def vx_ot (w : Cond) : Bool := w.onTables || goodWord w
theorem vx_ot_at {args a' : Array Value} {s U : State} {w : Cond} (hW : s.WarmedH U.vm) (hvm : s.vm = U.vm) (hg : vx_ot w = true) (h : w.before args s = true) : w.before a' U = true := by
  simp only [vx_ot, Bool.or_eq_true] at hg
  rcases hg with hg | hg
  · exact va_tabs hg hvm h
  · exact word_at hW (good_of_word hg) h
/-- a list's words: the good ones out of the method's own list, the others by premises of their own -/
theorem vx_hat {args : Array Value} {s : State} {L B : List Cond} (h1 : ∀ w ∈ L.filter goodWord, w.before args s = true) (h2 : ∀ w ∈ L.filter (fun w => !goodWord w), w ∈ B) (h3 : ∀ w ∈ B, w.before args s = true) : ∀ w ∈ L, w.before args s = true := by
  intro w hw
  by_cases g : goodWord w = true
  · exact h1 w (List.mem_filter.mpr ⟨hw, g⟩)
  · refine h3 w (h2 w (List.mem_filter.mpr ⟨hw, ?_⟩))
    show (!goodWord w) = true
    cases hgw : goodWord w
    · rfl
    · exact absurd hgw g
theorem vx_c {args : Array Value} {s : State} {w : Cond} {B : List Cond} (h : w.before args s = true) (t : ∀ w ∈ B, w.before args s = true) : ∀ w' ∈ w :: B, w'.before args s = true := fun w' h' => (List.mem_cons.mp h').elim (fun e => by rw [e]; exact h) (t w')
theorem vx_n {args : Array Value} {s : State} : ∀ w ∈ ([] : List Cond), w.before args s = true := fun _ h => nomatch h
theorem vx_own {args : Array Value} {s : State} {L : List Cond} (h1 : ∀ w ∈ L.filter vx_no, w.before args s = true)
    (hU : (Cond.isRef (.static Bundle.tN "UNASSIGNED_STACK" Bundle.steD)).before args s = true) (hN : (Cond.isRef (.static Bundle.tN "SUPPRESSED_SENTINEL" Bundle.listD)).before args s = true)
    (lU : (Cond.laysStatic Bundle.tN "UNASSIGNED_STACK" Bundle.steD).before args s = true) (lN : (Cond.laysStatic Bundle.tN "SUPPRESSED_SENTINEL" Bundle.listD).before args s = true) : ∀ w ∈ L, w.before args s = true := by
  intro w hw
  by_cases e1 : w = .isRef (.static Bundle.tN "UNASSIGNED_STACK" Bundle.steD)
  · rw [e1]; exact hU
  · by_cases e2 : w = .isRef (.static Bundle.tN "SUPPRESSED_SENTINEL" Bundle.listD)
    · rw [e2]; exact hN
    · by_cases e3 : w = .laysStatic Bundle.tN "UNASSIGNED_STACK" Bundle.steD
      · rw [e3]; exact lU
      · by_cases e4 : w = .laysStatic Bundle.tN "SUPPRESSED_SENTINEL" Bundle.listD
        · rw [e4]; exact lN
        · exact h1 w (List.mem_filter.mpr ⟨hw, by unfold vx_no; rw [decide_eq_true e1, decide_eq_true e2, decide_eq_true e3, decide_eq_true e4]; rfl⟩)
/-- where a static field lies, its class's statics cell in H -/
def vx_L (C n d : String) (A : Nat → Prop) (U : State) (H : Heap) : Prop := ∃ (c : ClassId) (k : Class) (i : Nat) (f : Field) (a : Nat) (cell : Cell), U.vm.findClass C = some c ∧ U.fieldFound? C n d = some (c, k, i, f) ∧ f.isStatic = true ∧ k.statics = some a ∧ H[a]? = some cell ∧ cell.vm.isStatics = true ∧ cell.cls = c ∧ f.slot < cell.slots.size ∧ k.staticTypes[f.slot]? = some f.type ∧ ¬ A a
theorem vx_L.moved {C n d : String} {A : Nat → Prop} {u U : State} {H : Heap} (hvm : u.vm.Alike U.vm) (h : vx_L C n d A u H) : vx_L C n d A U H := by
  obtain ⟨c, k, i, f, a, cell, h1, h2, h3, h4, h5, h6, h7, h8, h9, h10⟩ := h
  obtain ⟨k', hi', he⟩ := State.fieldFound?_setVm hvm h2
  exact ⟨c, k', i, f, a, cell, by rw [hvm.findClass]; exact h1, hi', h3, by rw [he]; exact h4, h5, h6, h7, h8, by rw [he]; exact h9, h10⟩
theorem vx_L.kept {C n d : String} {A : Nat → Prop} {U : State} {H H1 : Heap} (h : vx_L C n d A U H) (hq : ∀ a : Nat, a < H.size → ¬ A a → H1[a]? = H[a]?) : vx_L C n d A U H1 := by
  obtain ⟨c, k, i, f, a, cell, h1, h2, h3, h4, h5, h6, h7, h8, h9, h10⟩ := h
  exact ⟨c, k, i, f, a, cell, h1, h2, h3, h4, by rw [hq a (Array.getElem?_eq_some_iff.mp h5).1 h10]; exact h5, h6, h7, h8, h9, h10⟩
theorem vx_L.narrow {C n d : String} {A B : Nat → Prop} {U : State} {H : Heap} (h : vx_L C n d A U H) (hAB : ∀ q, B q → A q) : vx_L C n d B U H := by
  obtain ⟨c, k, i, f, a, cell, h1, h2, h3, h4, h5, h6, h7, h8, h9, h10⟩ := h
  exact ⟨c, k, i, f, a, cell, h1, h2, h3, h4, h5, h6, h7, h8, h9, fun z => h10 (hAB _ z)⟩
theorem vx_L.word {C n d : String} {A : Nat → Prop} {s : State} {args : Array Value} (h : vx_L C n d A s s.heap) : (Cond.laysStatic C n d).before args s = true := by
  obtain ⟨c, k, i, f, a, cell, h1, h2, h3, h4, h5, h6, h7, h8, h9, -⟩ := h
  show (Cond.laysStatic C n d).holds args s none s [] = true
  exact Cond.laysStatic_of h1 h2 h3 h4 h5 h6 h7 h8 h9
/-- .. and what it holds: null or some reference -/
def vx_Zq (C n d : String) (A : Nat → Prop) (U : State) (H : Heap) : Prop := va_Zq C n d A U H ∧ vx_L C n d A U H
theorem vx_Zq.moved {C n d : String} {A : Nat → Prop} {u U : State} {H : Heap} (hvm : u.vm.Alike U.vm) (h : vx_Zq C n d A u H) : vx_Zq C n d A U H := ⟨va_Zq.moved hvm h.1, vx_L.moved hvm h.2⟩
theorem vx_Zq.kept {C n d : String} {A : Nat → Prop} {U : State} {H H1 : Heap} (h : vx_Zq C n d A U H) (hq : ∀ a : Nat, a < H.size → ¬ A a → H1[a]? = H[a]?) : vx_Zq C n d A U H1 := ⟨va_Zq.kept h.1 hq, vx_L.kept h.2 hq⟩
theorem vx_Zq.narrow {C n d : String} {A B : Nat → Prop} {U : State} {H : Heap} (h : vx_Zq C n d A U H) (hAB : ∀ q, B q → A q) : vx_Zq C n d B U H := ⟨va_Zq.narrow h.1 hAB, vx_L.narrow h.2 hAB⟩
theorem vx_Zqof {args : Array Value} {s : State} {C n d : String} {A : Nat → Prop} (hl : (Cond.laysStatic C n d).before args s = true) (hini : (Cond.initialized C).before args s = true) (h : (Cond.isRef (.static C n d)).before args s = true) (hA : ∀ a : Nat, a < s.heap.size → ¬ A a) : vx_Zq C n d A s s.heap := by
  refine ⟨va_Zqof hl hini h hA, ?_⟩
  obtain ⟨c, k, i, f, a, cell, h1, h2, h3, h4, h5, h6, h7, h8, h9⟩ := Cond.laysStatic_spec hl
  exact ⟨c, k, i, f, a, cell, h1, h2, h3, h4, h5, h6, h7, h8, h9, hA a (Array.getElem?_eq_some_iff.mp h5).1⟩
theorem vx_isRef {C n d : String} {v : Value} {A : Nat → Prop} {s : State} {args : Array Value} (h : va_Z C n d v A s s.heap) (hv : v.isRef = true) : (Cond.isRef (.static C n d)).before args s = true := by
  obtain ⟨cf, kf, fi, f, a, cell, h1, h2, h3, h4, h5, h6, h7, -⟩ := h
  have he : (Term.static C n d).eval args s none [] s = some v := by
    simp [Term.eval, State.fieldNamed?, h1, h2, h4, h5, h6, h7]
  simp only [Cond.before, Cond.holds, Cond.value, he]
  cases v <;> simp_all [Value.isRef]
theorem vx_isRefq {C n d : String} {A : Nat → Prop} {s : State} {args : Array Value} (h : va_Zq C n d A s s.heap) : (Cond.isRef (.static C n d)).before args s = true := by
  rcases h with h | ⟨t, h⟩
  · exact vx_isRef h rfl
  · exact vx_isRef h rfl
/-- the same frame, seen from here: as if the method were called anew in this heap -/
theorem vx_rebase {T : State} (X : Stand p l e R s m args below meth c T locs cells slots) {R' : Room} (hf : R'.frames ≤ R.frames) (hl : R'.locals ≤ R.locals) (hc : cells + R'.cells ≤ R.cells) (hs : slots + R'.slots ≤ R.slots) :
    Stand p l e R' ((T.setVm s.vm).setFrames (.invoking m args :: below)) m args below meth c T [] 0 0 := by
  have htop : (T.setVm s.vm).topJava?.isSome := X.here.top
  have hF : ((T.setVm s.vm).setFrames (.invoking m args :: below)).frames = .invoking m args :: below := State.frames_setFrames _ (State.cur_lt_of_top htop)
  obtain ⟨g₀, hg0⟩ := Option.isSome_iff_exists.mp htop
  obtain ⟨r, hr⟩ := State.topJava?_eq_some.mp hg0
  have hl9 : e.platform.stackLimits (T.setVm s.vm).me = e.platform.stackLimits s.me := X.limits
  have hb9 : (T.setVm s.vm).me.stackBytes = s.me.stackBytes := X.bytes
  refine ⟨X.admits, X.cas, X.clock, hF, ?_, X.hears, X.method, X.code, X.here, X.tail, X.warmed, ?_, ?_, ?_⟩
  · have h := X.room
    have hU : ((T.setVm s.vm).setFrames (.invoking m args :: below)).localsInUse = s.localsInUse := by
      rw [State.localsInUse_invoking hF (meth := meth) (c := c) X.method X.code, State.localsInUse_invoking X.frames X.method X.code]
    simp only [State.hasRoom, Bool.and_eq_true, decide_eq_true_eq] at h ⊢
    obtain ⟨⟨⟨⟨h1, h2, h3, h4, h5, h6⟩, h7⟩, h8⟩, h9⟩ := h
    rw [X.frames, List.length_cons] at h2 h3
    have q1 := X.heapSize
    have q2 := X.used
    simp only [hF, hU, List.length_cons, State.stackLimits_setFrames, State.stackBytes_setFrames, hl9, hb9]
    refine ⟨⟨⟨⟨by omega, by omega, by omega, by omega, by omega, h6⟩, ?_⟩, ?_⟩, X.book⟩
    · show T.heap.size + R'.cells ≤ e.platform.maxCells
      omega
    · show T.slotsUsed + R'.slots ≤ e.platform.maxSlots
      omega
  · rw [State.stackLimits_setFrames]; rfl
  · rw [State.stackBytes_setFrames]; rfl
  · refine ⟨?_, Nat.le_refl _, Nat.le_refl _, ?_, ?_, fun a c9 h9 => ⟨c9, h9, rfl, rfl, fun _ _ => rfl⟩⟩
    · obtain ⟨t, ht, -⟩ := State.frames_cons hr
      show T.setVm s.vm = { ((T.setVm s.vm).setFrames (.invoking m args :: below)).setFrames (T.setVm s.vm).frames with heap := T.heap, slotsUsed := T.slotsUsed }
      rw [State.setFrames_setFrames, State.setFrames_self ht]
      rfl
    · show T.slotsUsed = T.slotsUsed + ((T.heap.toList.drop T.heap.size).map (·.slots.size)).sum
      rw [List.drop_eq_nil_of_le (Nat.le_of_eq Array.length_toList)]
      rfl
    · show ((T.heap.toList.drop T.heap.size).map (·.slots.size)).sum ≤ 0
      rw [List.drop_eq_nil_of_le (Nat.le_of_eq Array.length_toList)]
      exact Nat.le_refl _
/-- 'throw new E()': new; dup; invokespecial; athrow -/
theorem vx_throw0 {cc : ByteArray} {pc : Nat} (hexec : p.tables.exec = Jvm.exec) (hb : c.code = cc) (hl : l.stackTraces = false) {own cls : String} {names : List String} {ik ic mc ms : Nat} {A : Nat → Prop}
    (hown : s.vm.findClass own = some m.cls) (hcls : Bundle.fit cls = true) (hnames : ∀ n ∈ names, Bundle.fit n = true)
    (hk : (Cond.classLink own ik cls).before args s = true) (hini : (Cond.initialized cls).before args s = true) (hat : ∀ w ∈ vx_at0 own ic cls names, w.before args s = true)
    (hgood : ∀ w ∈ Cond.classLink own ik cls :: Cond.initialized cls :: vx_at0 own ic cls names, vx_ot w = true)
    (hU : vx_Zq Bundle.tN "UNASSIGNED_STACK" Bundle.steD A s s.heap) (hN : vx_Zq Bundle.tN "SUPPRESSED_SENTINEL" Bundle.listD A s s.heap) (hS : va_S A s.heap H locs) (hsize : ls.size = c.maxLocals)
    (d0 : decode cc pc = .ok (.new ik, 3)) (d3 : decode cc (pc + 3) = .ok (.dup, 1)) (d4 : decode cc (pc + 4) = .ok (.invokespecial ic, 3)) (d7 : decode cc (pc + 7) = .ok (.athrow, 1))
    (hout : ∀ x ∈ c.exceptionTable.toList, covers x (pc + 7) = false)
    (hRframes : names.length + 3 < R.frames) (hRlocals : (rest.map fun v => v.category).sum + (13 * (names.length + 1) + 42) ≤ R.locals) (hRcells : cells + 1 ≤ R.cells) (hRslots : slots + 6 ≤ R.slots) (hlocks : meth.locks = false)
    (hx : ∀ t : State, s.vm.Alike t.vm → H.size ≤ t.heap.size → (∀ q : Nat, q < H.size → t.heap[q]? = H[q]?) → XC cls s t)
    (hf : ∀ z ∈ locs, free z.base) (hc : cells + 1 ≤ mc) (hs : slots + 6 ≤ ms) :
    W p l e R s m args below meth c H locs cells slots (vx_MQ below Qc XC args s mc ms free) (F0 m pc ls rest) := by
  intro T hT X
  have htr : e.platform.stackTraces = false := (show e.platform.stackTraces = l.stackTraces by rw [X.admits.platform]).trans hl
  have Y := vx_rebase X (R' := { frames := R.frames, locals := R.locals, cells := 1, slots := 6 }) (Nat.le_refl _) (Nat.le_refl _) hRcells hRslots
  obtain ⟨s', hA⟩ : ∃ z, z = (T.setVm s.vm).setFrames (.invoking m args :: below) := ⟨_, rfl⟩
  rw [← hA] at Y
  have hvm : s'.vm = s.vm := by rw [hA]; rfl
  have hhp : s'.heap = H := by rw [hA]; exact hT
  have hW0 : s.WarmedH s'.vm := by rw [hvm]; exact State.WarmedH.refl s
  have hat' : ∀ w ∈ vx_at0 own ic cls names, w.before args s' = true := fun w hw => vx_ot_at hW0 hvm.symm (hgood w (List.mem_cons_of_mem _ (List.mem_cons_of_mem _ hw))) (hat w hw)
  have hk' : (Cond.classLink own ik cls).before args s' = true := vx_ot_at hW0 hvm.symm (hgood _ List.mem_cons_self) hk
  have hini' : (Cond.initialized cls).before args s' = true := vx_ot_at hW0 hvm.symm (hgood _ (List.mem_cons_of_mem _ List.mem_cons_self)) hini
  have hU' : vx_Zq Bundle.tN "UNASSIGNED_STACK" Bundle.steD A s' s'.heap := by rw [hhp]; exact vx_Zq.moved hW0.alike (hU.kept hS.2.1)
  have hN' : vx_Zq Bundle.tN "SUPPRESSED_SENTINEL" Bundle.listD A s' s'.heap := by rw [hhp]; exact vx_Zq.moved hW0.alike (hN.kept hS.2.1)
  have h : ∀ w ∈ Bundle.ownAtoms0 own ic cls names, w.before args s' = true := vx_own hat' (vx_isRefq hU'.1) (vx_isRefq hN'.1) hU'.2.word hN'.2.word
  have hown' : s'.vm.findClass own = some m.cls := by rw [hvm]; exact hown
  have hins : (Cond.instantiable cls 6).before args s' = true := h _ (by simp [Bundle.ownAtoms0])
  obtain ⟨vm₁, cX, kX, hfX, hkX, -, -, X₁, st1⟩ := Y.newCold hexec (own := own) (C := cls) (index := ik) (n := 6) hown' hk' hins hini'
    (g := F0 m pc ls rest) rfl (by rw [hb]; exact d0) (Nat.le_refl _) (Nat.le_refl _)
  generalize hT1 : (T.setVm vm₁).pushCell { cls := cX, slots := kX.instanceTypes.map defaultValue, vm := .none } = T1 at X₁ st1
  have hcat : (Value.ref T.heap.size).category = 1 := rfl
  have hcellA : T1.heap[T.heap.size]? = some (freshCell cX kX) := by rw [← hT1]; exact State.heap_pushCell_size _ _
  have d3' : decode c.code (pc + 3) = .ok (.dup, 1) := by rw [hb]; exact d3
  obtain ⟨U, hsteps, hrun, hend, hW, hsame, ce, hce, hO⟩ := X₁.ctorThrow0 hexec htr (own := own) (cls := cls) (names := names) (ic := ic) hown' hcls hnames h (fun x hx => nomatch hx) hfX hkX hcellA (by rw [hhp, hT]; exact Nat.le_refl _)
    (g := { method := m, pc := pc + 4, locals := ls, stack := .ref T.heap.size :: .ref T.heap.size :: rest, locked := none }) rfl hsize rfl rfl (rest := rest) rfl
    (by rw [hb]; exact d4) (by rw [hb]; exact d7) hout hRframes (by simp only [List.map_cons, List.sum_cons, hcat]; omega) hlocks
  obtain ⟨f1, f2⟩ := vx_frame hsame
  rw [hhp] at f1 f2
  have hWs : s.WarmedH U.vm := State.WarmedH.trans hW0 hW
  have hcl : s.vm.findClass cls = some ce.cls := by
    have h9 := hO.cls
    rw [hvm] at h9
    exact h9
  have hall : s.sameButNew ({ U with vm := s.vm } : State) locs mc ms := by
    subst hA
    obtain ⟨e1, e2⟩ := hsame
    rw [State.setFrames_setFrames] at e1
    have h2 : (T.setVm s.vm).sameButNew ({ U with vm := s.vm } : State) [] (0 + 1) (0 + 6) := ⟨e1, e2⟩
    have h3 := X.same.trans h2
    rw [List.append_nil] at h3
    exact h3.mono hc hs
  refine ⟨U, ?_, .threw T.heap.size, hrun, hend, Or.inr ⟨T.heap.size, rfl, cls, ce, locs, hx U hWs.alike f1 (fun q hq => f2 q hq (fun z hz => nomatch hz)), hce, hO.vm, hcl, hWs, hall, hf⟩⟩
  refine st1 _ ?_
  show Steps p.tables e below (T1.setTop { method := m, pc := pc + 3, locals := ls, stack := .ref T.heap.size :: rest, locked := none }) _
  jvm_step X₁.here [X₁.here.top, hexec, d3', Value.category]
  exact hsteps
/-- 'throw new E("text")': new; dup; ldc; invokespecial; athrow -/
theorem vx_throwS {cc : ByteArray} {pc : Nat} (hexec : p.tables.exec = Jvm.exec) (hb : c.code = cc) (hl : l.stackTraces = false) {own cls text : String} {names : List String} {ik is ic mc ms sa : Nat} {A : Nat → Prop}
    (hown : s.vm.findClass own = some m.cls) (hcls : Bundle.fit cls = true) (hnames : ∀ n ∈ names, Bundle.fit n = true)
    (hk : (Cond.classLink own ik cls).before args s = true) (hini : (Cond.initialized cls).before args s = true) (hstr : vk_R own is text sa s) (hat : ∀ w ∈ vx_atS own ic cls names, w.before args s = true)
    (hgood : ∀ w ∈ Cond.classLink own ik cls :: Cond.initialized cls :: vx_atS own ic cls names, vx_ot w = true)
    (hU : vx_Zq Bundle.tN "UNASSIGNED_STACK" Bundle.steD A s s.heap) (hN : vx_Zq Bundle.tN "SUPPRESSED_SENTINEL" Bundle.listD A s s.heap) (hS : va_S A s.heap H locs) (hsize : ls.size = c.maxLocals)
    (d0 : decode cc pc = .ok (.new ik, 3)) (d3 : decode cc (pc + 3) = .ok (.dup, 1)) (d4 : decode cc (pc + 4) = .ok (.ldc is, 2)) (d6 : decode cc (pc + 6) = .ok (.invokespecial ic, 3)) (d9 : decode cc (pc + 9) = .ok (.athrow, 1))
    (hout : ∀ x ∈ c.exceptionTable.toList, covers x (pc + 9) = false)
    (hRframes : names.length + 3 < R.frames) (hRlocals : (rest.map fun v => v.category).sum + (13 * (names.length + 1) + 43) ≤ R.locals) (hRcells : cells + 1 ≤ R.cells) (hRslots : slots + 6 ≤ R.slots) (hlocks : meth.locks = false)
    (hx : ∀ t : State, s.vm.Alike t.vm → H.size ≤ t.heap.size → (∀ q : Nat, q < H.size → t.heap[q]? = H[q]?) → XC cls s t)
    (hf : ∀ z ∈ locs, free z.base) (hc : cells + 1 ≤ mc) (hs : slots + 6 ≤ ms) :
    W p l e R s m args below meth c H locs cells slots (vx_MQ below Qc XC args s mc ms free) (F0 m pc ls rest) := by
  intro T hT X
  have htr : e.platform.stackTraces = false := (show e.platform.stackTraces = l.stackTraces by rw [X.admits.platform]).trans hl
  have Y := vx_rebase X (R' := { frames := R.frames, locals := R.locals, cells := 1, slots := 6 }) (Nat.le_refl _) (Nat.le_refl _) hRcells hRslots
  obtain ⟨s', hA⟩ : ∃ z, z = (T.setVm s.vm).setFrames (.invoking m args :: below) := ⟨_, rfl⟩
  rw [← hA] at Y
  have hvm : s'.vm = s.vm := by rw [hA]; rfl
  have hhp : s'.heap = H := by rw [hA]; exact hT
  have hW0 : s.WarmedH s'.vm := by rw [hvm]; exact State.WarmedH.refl s
  have hat' : ∀ w ∈ vx_atS own ic cls names, w.before args s' = true := fun w hw => vx_ot_at hW0 hvm.symm (hgood w (List.mem_cons_of_mem _ (List.mem_cons_of_mem _ hw))) (hat w hw)
  have hk' : (Cond.classLink own ik cls).before args s' = true := vx_ot_at hW0 hvm.symm (hgood _ List.mem_cons_self) hk
  have hini' : (Cond.initialized cls).before args s' = true := vx_ot_at hW0 hvm.symm (hgood _ (List.mem_cons_of_mem _ List.mem_cons_self)) hini
  have hU' : vx_Zq Bundle.tN "UNASSIGNED_STACK" Bundle.steD A s' s'.heap := by rw [hhp]; exact vx_Zq.moved hW0.alike (hU.kept hS.2.1)
  have hN' : vx_Zq Bundle.tN "SUPPRESSED_SENTINEL" Bundle.listD A s' s'.heap := by rw [hhp]; exact vx_Zq.moved hW0.alike (hN.kept hS.2.1)
  have h : ∀ w ∈ Bundle.ownAtoms own ic cls names, w.before args s' = true := vx_own hat' (vx_isRefq hU'.1) (vx_isRefq hN'.1) hU'.2.word hN'.2.word
  have hown' : s'.vm.findClass own = some m.cls := by rw [hvm]; exact hown
  have hins : (Cond.instantiable cls 6).before args s' = true := h _ (by simp [Bundle.ownAtoms])
  obtain ⟨vm₁, cX, kX, hfX, hkX, -, -, X₁, st1⟩ := Y.newCold hexec (own := own) (C := cls) (index := ik) (n := 6) hown' hk' hins hini'
    (g := F0 m pc ls rest) rfl (by rw [hb]; exact d0) (Nat.le_refl _) (Nat.le_refl _)
  generalize hT1 : (T.setVm vm₁).pushCell { cls := cX, slots := kX.instanceTypes.map defaultValue, vm := .none } = T1 at X₁ st1
  have hcat : (Value.ref T.heap.size).category = 1 := rfl
  have hcellA : T1.heap[T.heap.size]? = some (freshCell cX kX) := by rw [← hT1]; exact State.heap_pushCell_size _ _
  have d3' : decode c.code (pc + 3) = .ok (.dup, 1) := by rw [hb]; exact d3
  have d4' : decode c.code (pc + 4) = .ok (.ldc is, 2) := by rw [hb]; exact d4
  have hstr' : vk_R own is text sa s' := vk_R.warm hW0 hstr
  obtain ⟨U, hsteps, hrun, hend, hW, hsame, ce, hce, hO⟩ := X₁.ctorThrowS hexec htr (own := own) (cls := cls) (names := names) (ic := ic) hown' hcls hnames h (fun x hx => nomatch hx) hfX hkX hcellA (by rw [hhp, hT]; exact Nat.le_refl _) (msg := .ref sa) rfl
    (g := { method := m, pc := pc + 6, locals := ls, stack := .ref sa :: .ref T.heap.size :: .ref T.heap.size :: rest, locked := none }) rfl hsize rfl rfl (rest := rest) rfl
    (by rw [hb]; exact d6) (by rw [hb]; exact d9) hout hRframes (by simp only [List.map_cons, List.sum_cons, hcat]; omega) hlocks
  obtain ⟨f1, f2⟩ := vx_frame hsame
  rw [hhp] at f1 f2
  have hWs : s.WarmedH U.vm := State.WarmedH.trans hW0 hW
  have hcl : s.vm.findClass cls = some ce.cls := by
    have h9 := hO.cls
    rw [hvm] at h9
    exact h9
  have hall : s.sameButNew ({ U with vm := s.vm } : State) locs mc ms := by
    subst hA
    obtain ⟨e1, e2⟩ := hsame
    rw [State.setFrames_setFrames] at e1
    have h2 : (T.setVm s.vm).sameButNew ({ U with vm := s.vm } : State) [] (0 + 1) (0 + 6) := ⟨e1, e2⟩
    have h3 := X.same.trans h2
    rw [List.append_nil] at h3
    exact h3.mono hc hs
  refine ⟨U, ?_, .threw T.heap.size, hrun, hend, Or.inr ⟨T.heap.size, rfl, cls, ce, locs, hx U hWs.alike f1 (fun q hq => f2 q hq (fun z hz => nomatch hz)), hce, hO.vm, hcl, hWs, hall, hf⟩⟩
  refine st1 _ ?_
  show Steps p.tables e below (T1.setTop { method := m, pc := pc + 3, locals := ls, stack := .ref T.heap.size :: rest, locked := none }) _
  jvm_step X₁.here [X₁.here.top, hexec, d3', Value.category]
  exact X₁.ldcString hexec (own := own) (text := text) (index := is) (a := sa) hown' hstr'.1 hstr'.2
    (g := { method := m, pc := pc + 4, locals := ls, stack := .ref T.heap.size :: .ref T.heap.size :: rest, locked := none }) rfl d4' _ hsteps
/-- 'throw new E("text")', the text by a wide index -/
theorem vx_throwSW {cc : ByteArray} {pc : Nat} (hexec : p.tables.exec = Jvm.exec) (hb : c.code = cc) (hl : l.stackTraces = false) {own cls text : String} {names : List String} {ik is ic mc ms sa : Nat} {A : Nat → Prop}
    (hown : s.vm.findClass own = some m.cls) (hcls : Bundle.fit cls = true) (hnames : ∀ n ∈ names, Bundle.fit n = true)
    (hk : (Cond.classLink own ik cls).before args s = true) (hini : (Cond.initialized cls).before args s = true) (hstr : vk_R own is text sa s) (hat : ∀ w ∈ vx_atS own ic cls names, w.before args s = true)
    (hgood : ∀ w ∈ Cond.classLink own ik cls :: Cond.initialized cls :: vx_atS own ic cls names, vx_ot w = true)
    (hU : vx_Zq Bundle.tN "UNASSIGNED_STACK" Bundle.steD A s s.heap) (hN : vx_Zq Bundle.tN "SUPPRESSED_SENTINEL" Bundle.listD A s s.heap) (hS : va_S A s.heap H locs) (hsize : ls.size = c.maxLocals)
    (d0 : decode cc pc = .ok (.new ik, 3)) (d3 : decode cc (pc + 3) = .ok (.dup, 1)) (d4 : decode cc (pc + 4) = .ok (.ldc_w is, 3)) (d7 : decode cc (pc + 7) = .ok (.invokespecial ic, 3)) (d10 : decode cc (pc + 10) = .ok (.athrow, 1))
    (hout : ∀ x ∈ c.exceptionTable.toList, covers x (pc + 10) = false)
    (hRframes : names.length + 3 < R.frames) (hRlocals : (rest.map fun v => v.category).sum + (13 * (names.length + 1) + 43) ≤ R.locals) (hRcells : cells + 1 ≤ R.cells) (hRslots : slots + 6 ≤ R.slots) (hlocks : meth.locks = false)
    (hx : ∀ t : State, s.vm.Alike t.vm → H.size ≤ t.heap.size → (∀ q : Nat, q < H.size → t.heap[q]? = H[q]?) → XC cls s t)
    (hf : ∀ z ∈ locs, free z.base) (hc : cells + 1 ≤ mc) (hs : slots + 6 ≤ ms) :
    W p l e R s m args below meth c H locs cells slots (vx_MQ below Qc XC args s mc ms free) (F0 m pc ls rest) := by
  intro T hT X
  have htr : e.platform.stackTraces = false := (show e.platform.stackTraces = l.stackTraces by rw [X.admits.platform]).trans hl
  have Y := vx_rebase X (R' := { frames := R.frames, locals := R.locals, cells := 1, slots := 6 }) (Nat.le_refl _) (Nat.le_refl _) hRcells hRslots
  obtain ⟨s', hA⟩ : ∃ z, z = (T.setVm s.vm).setFrames (.invoking m args :: below) := ⟨_, rfl⟩
  rw [← hA] at Y
  have hvm : s'.vm = s.vm := by rw [hA]; rfl
  have hhp : s'.heap = H := by rw [hA]; exact hT
  have hW0 : s.WarmedH s'.vm := by rw [hvm]; exact State.WarmedH.refl s
  have hat' : ∀ w ∈ vx_atS own ic cls names, w.before args s' = true := fun w hw => vx_ot_at hW0 hvm.symm (hgood w (List.mem_cons_of_mem _ (List.mem_cons_of_mem _ hw))) (hat w hw)
  have hk' : (Cond.classLink own ik cls).before args s' = true := vx_ot_at hW0 hvm.symm (hgood _ List.mem_cons_self) hk
  have hini' : (Cond.initialized cls).before args s' = true := vx_ot_at hW0 hvm.symm (hgood _ (List.mem_cons_of_mem _ List.mem_cons_self)) hini
  have hU' : vx_Zq Bundle.tN "UNASSIGNED_STACK" Bundle.steD A s' s'.heap := by rw [hhp]; exact vx_Zq.moved hW0.alike (hU.kept hS.2.1)
  have hN' : vx_Zq Bundle.tN "SUPPRESSED_SENTINEL" Bundle.listD A s' s'.heap := by rw [hhp]; exact vx_Zq.moved hW0.alike (hN.kept hS.2.1)
  have h : ∀ w ∈ Bundle.ownAtoms own ic cls names, w.before args s' = true := vx_own hat' (vx_isRefq hU'.1) (vx_isRefq hN'.1) hU'.2.word hN'.2.word
  have hown' : s'.vm.findClass own = some m.cls := by rw [hvm]; exact hown
  have hins : (Cond.instantiable cls 6).before args s' = true := h _ (by simp [Bundle.ownAtoms])
  obtain ⟨vm₁, cX, kX, hfX, hkX, -, -, X₁, st1⟩ := Y.newCold hexec (own := own) (C := cls) (index := ik) (n := 6) hown' hk' hins hini'
    (g := F0 m pc ls rest) rfl (by rw [hb]; exact d0) (Nat.le_refl _) (Nat.le_refl _)
  generalize hT1 : (T.setVm vm₁).pushCell { cls := cX, slots := kX.instanceTypes.map defaultValue, vm := .none } = T1 at X₁ st1
  have hcat : (Value.ref T.heap.size).category = 1 := rfl
  have hcellA : T1.heap[T.heap.size]? = some (freshCell cX kX) := by rw [← hT1]; exact State.heap_pushCell_size _ _
  have d3' : decode c.code (pc + 3) = .ok (.dup, 1) := by rw [hb]; exact d3
  have d4' : decode c.code (pc + 4) = .ok (.ldc_w is, 3) := by rw [hb]; exact d4
  have hstr' : vk_R own is text sa s' := vk_R.warm hW0 hstr
  obtain ⟨U, hsteps, hrun, hend, hW, hsame, ce, hce, hO⟩ := X₁.ctorThrowS hexec htr (own := own) (cls := cls) (names := names) (ic := ic) hown' hcls hnames h (fun x hx => nomatch hx) hfX hkX hcellA (by rw [hhp, hT]; exact Nat.le_refl _) (msg := .ref sa) rfl
    (g := { method := m, pc := pc + 7, locals := ls, stack := .ref sa :: .ref T.heap.size :: .ref T.heap.size :: rest, locked := none }) rfl hsize rfl rfl (rest := rest) rfl
    (by rw [hb]; exact d7) (by rw [hb]; exact d10) hout hRframes (by simp only [List.map_cons, List.sum_cons, hcat]; omega) hlocks
  obtain ⟨f1, f2⟩ := vx_frame hsame
  rw [hhp] at f1 f2
  have hWs : s.WarmedH U.vm := State.WarmedH.trans hW0 hW
  have hcl : s.vm.findClass cls = some ce.cls := by
    have h9 := hO.cls
    rw [hvm] at h9
    exact h9
  have hall : s.sameButNew ({ U with vm := s.vm } : State) locs mc ms := by
    subst hA
    obtain ⟨e1, e2⟩ := hsame
    rw [State.setFrames_setFrames] at e1
    have h2 : (T.setVm s.vm).sameButNew ({ U with vm := s.vm } : State) [] (0 + 1) (0 + 6) := ⟨e1, e2⟩
    have h3 := X.same.trans h2
    rw [List.append_nil] at h3
    exact h3.mono hc hs
  refine ⟨U, ?_, .threw T.heap.size, hrun, hend, Or.inr ⟨T.heap.size, rfl, cls, ce, locs, hx U hWs.alike f1 (fun q hq => f2 q hq (fun z hz => nomatch hz)), hce, hO.vm, hcl, hWs, hall, hf⟩⟩
  refine st1 _ ?_
  show Steps p.tables e below (T1.setTop { method := m, pc := pc + 3, locals := ls, stack := .ref T.heap.size :: rest, locked := none }) _
  jvm_step X₁.here [X₁.here.top, hexec, d3', Value.category]
  exact X₁.ldcStringW hexec (own := own) (text := text) (index := is) (a := sa) hown' hstr'.1 hstr'.2
    (g := { method := m, pc := pc + 4, locals := ls, stack := .ref T.heap.size :: .ref T.heap.size :: rest, locked := none }) rfl d4' _ hsteps
end Ends
section Bodies
variable {l : Launch}
theorem vx_ofW {y : MethodName} {ws ws' : List Cond} {rm : Room} {Pc : Array Value → State → Prop} {Qc : Array Value → State → Outcome → State → Prop} {XC : String → State → State → Prop} {mc ms : Nat} {free : Addr → Prop} {cc : ByteArray} {maxL : Nat} {ret : Option FieldType}
    (hy : plainName y.cls = true) (hw : ws = Cond.code y cc maxL ret :: ws')
    (body : ∀ p e s m args below meth c s₁, BodyLoose p l y (headSpec ws rm) cc maxL ret e s m args below meth c s₁ → c.maxLocals = maxL → (∀ x ∈ c.exceptionTable.toList, False) → Pc args s →
      W p l e (headSpec ws rm).room s m args below meth c s.heap [] 0 0 (vx_MQ below Qc XC args s mc ms free) (entryFrame m args maxL)) : vx_Met l y ws rm Pc Qc XC mc ms free := by
  refine MetFree.of_bodyS (code := cc) (maxLocals := maxL) (ret := ret) hy ?_ ?_
  · intro args s m h hn
    obtain ⟨meth, c, h1, h2, h3, h4, h5, h6, -, -⟩ := Cond.code_spec hn (atoms_spec (ws := ws) h _ (by rw [hw]; exact List.mem_cons_self))
    exact ⟨meth, c, h1, h2, h3, h4, h5, h6⟩
  · intro p e s m args below meth c s₁ B hml hP _
    have hh0 : s₁.heap = s.heap := by rw [B.state]; rfl
    have ht : ∀ x ∈ c.exceptionTable.toList, False := by
      obtain ⟨meth9, c9, h1, h2, -, -, -, -, h7, -⟩ := Cond.code_spec B.named (atoms_spec (ws := ws) B.pre _ (by rw [hw]; exact List.mem_cons_self))
      cases Option.some.inj (h1.symm.trans B.method)
      cases Option.some.inj (h2.symm.trans (Stand.of_body B).code)
      intro x hx
      rw [Array.isEmpty_iff.mp h7] at hx
      cases hx
    obtain ⟨t, a1, o, b1, b2, b3⟩ := body p e s m args below meth c s₁ B hml ht hP s₁ hh0 (Stand.of_body B)
    exact ⟨t, o, a1, b1, b2, b3⟩
/-- the table of a body with handlers -/
theorem vx_table {p : Program} {x y : MethodName} {S : Spec} {cc bytes : ByteArray} {maxL maxL' : Nat} {ret ret' : Option FieldType} {e : Env} {s s₁ : State} {m : MethodId} {args : Array Value} {below : List Frame} {meth : Method} {c : Code} {hh : List (Nat × Nat × Nat × Nat)}
    (B : BodyLoose p l y S cc maxL ret e s m args below meth c s₁) (h : (Cond.codeWith y bytes maxL' ret' hh).before args s = true) : c.exceptionTable.toList = tableOf hh := by
  obtain ⟨m9, meth9, c9, hn9, h1, h2, -, -, h6, -⟩ := Cond.codeWith_spec h
  cases Option.some.inj (hn9.symm.trans B.named)
  cases Option.some.inj (h1.symm.trans B.method)
  cases Option.some.inj (h2.symm.trans (Stand.of_body B).code)
  rw [← h6, table_eq]
end Bodies
end VXA
/-! ===== END ===== -/
/-! ===== BEGIN a static call of a method with an exception table ===== -/
section VXS
variable {p : Program} {l : Launch} {e : Env} {R : Room} {s : State} {m : MethodId} {args : Array Value} {below : List Frame} {meth : Method} {c : Code} {T : State} {H : Heap} {locs : List Loc} {cells slots : Nat}
abbrev vx_CSW (R : Room) (s : State) (args : Array Value) (own : String) (index : Nat) (y : MethodName) (bytes : ByteArray) (maxL : Nat) (ret : Option FieldType) (hh : List (Nat × Nat × Nat × Nat)) (ws : List Cond) (rm : Room) (mc ms n : Nat) : Prop :=
  (rm.cells = mc ∧ rm.slots = ms ∧ rm.frames + 1 ≤ R.frames ∧ 8 + (maxL + 11) + rm.locals ≤ R.locals ∧ (∀ w ∈ ws, ∀ (a' : Array Value) (U : State), s.WarmedH U.vm → w.before a' U = true) ∧ Cond.codeWith y bytes maxL ret hh ∈ ws) ∧
  (Cond.codeWith y bytes maxL ret hh).before args s = true ∧ (Cond.initialized y.cls).before args s = true ∧ (y.cls ≠ "java/lang/invoke/MethodHandle" ∧ y.cls ≠ "java/lang/invoke/VarHandle") ∧
  (∀ sig, parseMethodDescriptor y.desc = some sig → n = sig.parameters.length) ∧ (Cond.methodLink own index y).before args s = true ∧ (Cond.static y).before args s = true
theorem vx_cwSW {own : String} {index maxL mc ms : Nat} {y : MethodName} {bytes : ByteArray} {ret : Option FieldType} {hh : List (Nat × Nat × Nat × Nat)} {Ts ws ws' : List Cond} {rm : Room} (n : Nat) (ht : ∀ w ∈ Ts, w.before args s = true) (hT : GoodIn Ts (va_wsS own index y ws)) (hw : ws = Cond.codeWith y bytes maxL ret hh :: ws') (hrc : rm.cells = mc) (hrs : rm.slots = ms)
    (hd : y.cls ≠ "java/lang/invoke/MethodHandle" ∧ y.cls ≠ "java/lang/invoke/VarHandle" ∧ (parseMethodDescriptor y.desc).map (fun d => d.parameters.length) = some n) (hR : rm.frames + 1 ≤ R.frames ∧ 8 + (maxL + 11) + rm.locals ≤ R.locals) :
    vx_CSW R s args own index y bytes maxL ret hh ws rm mc ms n := by
  have ok : ∀ w ∈ va_wsS own index y ws, w.before args s = true := fun w h => ht w (hT w h).1
  have hG : GoodIn Ts ws := fun w h => hT w (by unfold va_wsS; exact List.mem_append_right _ h)
  have hc : Cond.codeWith y bytes maxL ret hh ∈ ws := by rw [hw]; exact List.mem_cons_self
  refine ⟨⟨hrc, hrs, hR.1, hR.2, pay_in ht hG, hc⟩, ht _ (hG _ hc).1, ok _ (by simp [va_wsS]), ⟨hd.1, hd.2.1⟩, fun sig h => ?_, ok _ (by simp [va_wsS]), ok _ (by simp [va_wsS])⟩
  have h2 := hd.2.2
  rw [h] at h2
  exact (Option.some.inj h2).symm
theorem vx_callSW (X : Stand p l e R s m args below meth c T locs cells slots) (hexec : p.tables.exec = Jvm.exec) {own : String} {index : Nat} {y : MethodName} {bytes : ByteArray} {maxL : Nat} {ret : Option FieldType} {hh : List (Nat × Nat × Nat × Nat)}
    (hown : s.vm.findClass own = some m.cls) (hlink : (Cond.methodLink own index y).before args s = true) (hstat : (Cond.static y).before args s = true) (hinit : (Cond.initialized y.cls).before args s = true)
    (hcode : (Cond.codeWith y bytes maxL ret hh).before args s = true) (hy : y.cls ≠ "java/lang/invoke/MethodHandle" ∧ y.cls ≠ "java/lang/invoke/VarHandle")
    {W9 : Nat} {Pre : Pt → Array Value → Prop} {Post : Pt → Array Value → Option Value → Pt → Prop} (hK : Back l R p e below s args y 3 W9 Pre Post)
    {g : JFrame} (hg : g.method = m) (hsize : g.locals.size = c.maxLocals) {argsL rest : List Value} (hlen : ∀ sig, parseMethodDescriptor y.desc = some sig → argsL.length = sig.parameters.length)
    (hstack : g.stack = argsL.reverse ++ rest) (hW : 2 * g.monitorRoom + (rest.map fun v => v.category).sum ≤ W9) (hdg : decode c.code g.pc = .ok (.invokestatic index, 3))
    (hpre : ∀ vm₁, s.WarmedH vm₁ → Pre ⟨T.setVm vm₁, locs, cells, slots⟩ argsL.toArray) :
    ∃ (v : Option Value) (vm₁ : Vm) (B : Pt), s.WarmedH vm₁ ∧ Stand p l e R s m args below meth c B.U B.locs B.cells B.slots ∧ Post ⟨T.setVm vm₁, locs, cells, slots⟩ argsL.toArray v B ∧
      ∀ target, Steps p.tables e below (B.U.setTop { g with pc := g.pc + 3, stack := v.toList ++ rest }) target → Steps p.tables e below (T.setTop g) target := by
  obtain ⟨mk, methM, cM, hnamed, hmethM, -, -, -, -, -, -, hsigM⟩ := Cond.codeWith_spec hcode
  have hstatic : methM.isStatic = true := Cond.static_spec hnamed hmethM hstat
  obtain ⟨kP, hkP, -⟩ := className_of_methodNamed hnamed
  have hinitP : kP.init = .initialized := Cond.initialized_spec (findClass_of_methodNamed hnamed) hkP hinit
  obtain ⟨vm₁, X₁, hstep₁⟩ := X.invokestatic hexec hown hlink hnamed hmethM hstatic hkP hinitP hy (g := g) hg (argsL := argsL) (rest := rest) (hlen _ hsigM) hstack hdg
  obtain ⟨v, B, X', hpost, hsteps⟩ := hK m meth c ⟨T.setVm vm₁, locs, cells, slots⟩ { g with stack := rest } (.invokestatic index) mk argsL.toArray X₁ hg hsize hdg hW (X₁.named hnamed) (hpre vm₁ X₁.warmed)
  exact ⟨v, vm₁, B, X₁.warmed, X', hpost, fun target h => hstep₁ _ fun acts => by rw [doInvoke_state]; exact hsteps.trans h⟩
theorem vx_runSW {y : MethodName} {bytes cc : ByteArray} {maxL nL mc ms n index : Nat} {ret : Option FieldType} {hh : List (Nat × Nat × Nat × Nat)} {ws : List Cond} {rm : Room} {Pc : Array Value → State → Prop} {Qc : Array Value → State → Outcome → State → Prop} {free : Addr → Prop} {Ts : List Cond} {own : String} {As rest : List Value} {g : JFrame}
    (S : CallFix p m c cc nL s args Ts own) (hM : Met l y ws rm Pc Qc mc ms free) (cw : vx_CSW R s args own index y bytes maxL ret hh ws rm mc ms n) (hp : PreS s H Pc As)
    (hg : g.method = m) (hn : As.length = n) (hsize : g.locals.size = nL) (hstack : g.stack = As.reverse ++ rest) (hW : 2 * g.monitorRoom + (rest.map fun v => v.category).sum ≤ 8) (hdg : decode cc g.pc = .ok (.invokestatic index, 3)) (hf : cells + mc ≤ R.cells ∧ slots + ms ≤ R.slots) :
    va_Run p l e R s m args below meth c H locs cells slots mc ms g rest (Qc As.toArray) (free) := by
  obtain ⟨⟨hrc, hrs, hfr, hlo, hws, hcw⟩, hcode, hini, hy, hlen, hl, hstt⟩ := cw
  have hK : Back l R p e below s args y 3 8 (PreOf R mc ms Pc) (PostOf Qc mc ms free) := va_backW (hh := hh) (bytes := bytes) (maxL := maxL) (ret := ret) hM hp.1 hrc hrs hfr hlo hws hcw (fun a' U hW => word_at hW (Or.inl (by first | rfl | simp [Cond.onTables, Cond.keeps, Cond.steady])) hini)
  obtain ⟨hx, hb, hml, ho, -⟩ := S
  intro T hT X
  obtain ⟨v, vm₁, ⟨U', l2, c2, s2⟩, hW₁, X', ⟨g', mk, t, L, e1, e2, hq, h1, hL, h2, h3⟩, st⟩ := vx_callSW X hx (hh := hh) (bytes := bytes) (maxL := maxL) (ret := ret) ho hl hstt hini hcode hy hK hg (hsize.trans hml.symm) (argsL := As) (rest := rest) (fun sig h => hn.trans (hlen sig h)) hstack hW (by rw [hb]; exact hdg)
    (fun vm₁ hW₁ => ⟨hf.1, hf.2, hp.2 (T.setVm vm₁) hT hW₁⟩)
  dsimp only [Pt.U, Pt.locs, Pt.cells, Pt.slots] at X' e1 e2 h1 h2 h3 st
  subst h1; subst h2; subst h3
  exact ⟨v, (T.setVm vm₁).calling g' mk As.toArray, t, U', L, hT, X', hL, e1, e2, hq, st⟩
/-- not caught here, past rows that name other classes: it goes on to the caller -/
theorem vx_outP {p : Program} {l : Launch} {e : Env} {R : Room} {s : State} {m : MethodId} {args : Array Value} {below : List Frame} {meth : Method} {c : Code} {H : Heap} {locs : List Loc} {cells slots : Nat} {free : Addr → Prop} {ls : Array Slot} {rest : List Value} {Qc : Array Value → State → Outcome → State → Prop} {XC : String → State → State → Prop}
    {pc : Nat} {own E : String} {ce : Cell} {q : Addr} {mc ms : Nat} (hown : s.vm.findClass own = some m.cls) (hlocks : meth.locks = false)
    (hpass : ∀ z ∈ c.exceptionTable.toList, covers z pc = false ∨ (z.catchType ≠ 0 ∧ ∃ nm : String, (Cond.classLink own z.catchType nm).before args s = true ∧ va_Nc E nm s)) (hcell : H[q]? = some ce) (hv : ce.vm = .none) (hcl : s.vm.findClass E = some ce.cls)
    (hx : ∀ t : State, t.heap = H → s.vm.Alike t.vm → XC E s t) (hf : ∀ z ∈ locs, free z.base) (hc : cells ≤ mc) (hs : slots ≤ ms) :
    vx_W p l e R s m args below meth c H locs cells slots (vx_MQ below Qc XC args s mc ms free) (F0 m pc ls rest) q := by
  intro T hT X
  have hpl : e.platform.magicAccessors = ({} : Platform).magicAccessors := by rw [X.admits.platform]
  obtain ⟨vm', hW', X', st⟩ := X.outThrough hlocks q (g := F0 m pc ls rest) rfl rfl rfl (cell := ce) (by rw [hT]; exact hcell) (by rw [hv]; rfl)
    (by obtain ⟨k9, h9, -⟩ := Vm.findClass_spec hcl; exact ⟨k9, h9⟩) (fun z hz => by
      rcases hpass z hz with h | ⟨hz0, nm, hl1, hn1⟩
      · exact Or.inl h
      · obtain ⟨c6, hc6, hcl6⟩ := Cond.classLink_spec hown hl1 e.platform hpl
        obtain ⟨a8, b8, h1, h2, h3⟩ := hn1
        cases Option.some.inj (h1.symm.trans hcl)
        cases Option.some.inj (h2.symm.trans hc6)
        exact Or.inr ⟨hz0, _, hcl6, h3⟩)
  obtain ⟨g₀, hfr⟩ := X'.frames_eq
  have hcell9 : ((T.setVm vm').setFrames (.throwing q :: below)).heap[q]? = some ce := by
    show T.heap[q]? = some ce
    rw [hT]; exact hcell
  have hend : Ended ((T.setVm vm').setFrames (.throwing q :: below)) below (.threw q) := State.frames_setFrames _ (State.cur_lt_of_frames hfr)
  refine ⟨(T.setVm vm').setFrames (.throwing q :: below), ?_, .threw q, X'.here.running, hend, Or.inr ⟨q, rfl, E, ce, locs, hx _ hT (X'.ends _).1.alike, hcell9, hv, hcl, (X'.ends _).1, (X'.ends _).2.mono hc hs, hf⟩⟩
  rw [X.pushThrowing_eq]
  exact st
/-- a thing of a world lies in the heap -/
theorem vx_lt {D : va_G} {cl : List vw_C} {ws : va_W} {H1 : Heap} (h : va_P D cl ws H1) {k : Nat} {q : Nat × va_E} (hk : ws[k]? = some q) : q.1 < H1.size := (h k q hk).lt
end VXS
/-! ===== END ===== -/
/-! ===== BEGIN methods with a table of their own: called by a name, returning or throwing ===== -/
section VXH
/-! vx_backW, vx_callVX, vx_callSX, vx_callVW, vx_runVW, vx_runVX, vx_runSX, vx_ofWH follow the same proofs as their sisters above (Free/Laws.lean, Shelf42/LK1.lean); vx_outP calls Shelf42/NT130.lean (outThrough). -/
section
variable {l : Launch} {R : Room} {p : Program} {e : Env} {below : List Frame} {s : State} {sargs : Array Value} {y : MethodName} {len W9 : Nat}
theorem vx_backW {ws : List Cond} {rm : Room} {Pc : Array Value → State → Prop} {Qc : Array Value → State → Outcome → State → Prop} {XC : String → State → State → Prop} {mc ms : Nat} {free : Addr → Prop} {bytes : ByteArray} {maxL : Nat} {ret : Option FieldType} {hh : List (Nat × Nat × Nat × Nat)}
    (hM : vx_Met l y ws rm Pc Qc XC mc ms free) (hblind : FrameBlind Pc) (hrc : rm.cells = mc) (hrs : rm.slots = ms)
    (hframes : rm.frames + 1 ≤ R.frames) (hlocals : W9 + (maxL + 11) + rm.locals ≤ R.locals)
    (hws : ∀ w ∈ ws, ∀ a' U, s.WarmedH U.vm → w.before a' U = true) (hcode : Cond.codeWith y bytes maxL ret hh ∈ ws) (hinit : ∀ a' U, s.WarmedH U.vm → (Cond.initialized y.cls).before a' U = true) :
    vx_Back l R p e below s sargs y len W9 (PreOf R mc ms Pc) (PostOf Qc mc ms free) (vx_Post XC mc ms free) := by
  intro m meth c A g ig mk a X hg hsize hdg hW hn hp
  have h1 : (headSpec ws rm).pre.before a A.U = true := atoms_intro fun w hw => hws w hw _ _ X.warmed
  have h2 : (Cond.codeWith y bytes maxL ret hh).before a A.U = true := hws _ hcode _ _ X.warmed
  have h3 : (Cond.initialized y.cls).before a A.U = true := hinit _ _ X.warmed
  have h4 : A.cells + (headSpec ws rm).room.cells ≤ R.cells := by rw [show (headSpec ws rm).room.cells = mc from hrc]; exact hp.1
  have h5 : A.slots + (headSpec ws rm).room.slots ≤ R.slots := by rw [show (headSpec ws rm).room.slots = ms from hrs]; exact hp.2.1
  have hPc : Pc a (A.U.calling g mk a) := hblind _ _ _ _ hp.2.2
  obtain ⟨U, Ls, c0, s0⟩ := A
  dsimp only [Pt.U, Pt.locs, Pt.cells, Pt.slots] at h1 h2 h3 h4 h5 X hn hPc ⊢
  obtain ⟨m9, methY, cY, hn9, hmY, hcY, -, hlY, -⟩ := Cond.codeWith_spec h2
  cases Option.some.inj (hn9.symm.trans hn)
  obtain ⟨kY, hkY, -⟩ := className_of_methodNamed hn
  have hinitY : kY.init = .initialized := Cond.initialized_spec (findClass_of_methodNamed hn) hkY h3
  have h : At U g.method c below := by rw [hg]; exact X.here
  have hlocals9 : W9 + (maxL + 11) + (headSpec ws rm).room.locals ≤ R.locals := hlocals
  have happ : (headSpec ws rm).appliesLoose y e.platform (U.calling g mk a) = true :=
    Spec.appliesLoose_calling (g := g) h hdg hn hkY hinitY
      (X.room_calling (g := g) (R' := (headSpec ws rm).room) hsize hmY hcY hframes (by rw [hlY]; omega) h4 h5) h1
  obtain ⟨mid, hmid⟩ := h.above
  have hfr : (U.setTop g).frames = (.java g :: mid) ++ below := by rw [State.frames_setTop' g h.top, hmid]; rfl
  obtain ⟨o, s₂, hsteps, -, hend, hq⟩ := Steps.callFree hM p X.admits X.cas X.clock (acts := []) hfr happ hPc trivial
  have hq' : vx_Q Qc XC mc ms free a (U.calling g mk a) o s₂ := hq
  rw [State.frames_setTop' g h.top] at hend
  obtain ⟨g₀, hg0⟩ := Option.isSome_iff_exists.mp h.top
  obtain ⟨r, hr⟩ := State.topJava?_eq_some.mp hg0
  have hr' : (({ U with heap := s₂.heap, slotsUsed := s₂.slotsUsed } : State).setVm s₂.vm).frames = .java g₀ :: r := hr
  rcases hq' with ⟨hqc, L, hfe, hL⟩ | ⟨q, rfl, E, ce, L, hx, hce, hcv, hcl, hW₂, hsm, hL⟩
  · obtain ⟨⟨v, rfl⟩, hW₂, e2, q2, q3, q4, q5, q6⟩ := id hfe
    have e3 : s₂ = ({ (U.calling g mk a).setFrames s₂.frames with heap := s₂.heap, slotsUsed := s₂.slotsUsed } : State).setVm s₂.vm := by
      have : s₂ = ({ s₂ with vm := (U.calling g mk a).vm } : State).setVm s₂.vm := rfl
      rw [e2] at this
      exact this
    obtain ⟨c₂, i₂, len₂, hc₂, hd₂, hf₂⟩ := hend
    have hW' : U.WarmedH s₂.vm := hW₂
    have hcc : c₂ = c := by
      have h1 : s₂.code? g.method = U.code? g.method := by
        rw [State.code?_eq, State.code?_eq, hW'.alike.method?]
      exact Option.some.inj (hc₂.symm.trans (h1.trans h.code))
    subst hcc
    have hlen : len₂ = len := by rw [hdg] at hd₂; cases hd₂; rfl
    subst hlen
    have hs₂ : s₂ = (({ U with heap := s₂.heap, slotsUsed := s₂.slotsUsed } : State).setVm s₂.vm).setTop { g with pc := g.pc + len₂, stack := v.toList ++ g.stack } := by
      refine e3.trans ?_
      rw [hf₂, State.calling_eq h.top, State.setFrames_setFrames, State.setTop_of_frames _ hr', hr]
      rfl
    have hsame : U.sameButNew ({ U with heap := s₂.heap, slotsUsed := s₂.slotsUsed } : State) L mc ms := by
      refine ⟨?_, q2, q3, q4, q5, q6⟩
      obtain ⟨t, ht, -⟩ := State.frames_cons hr
      show ({ U with heap := s₂.heap, slotsUsed := s₂.slotsUsed } : State) = { U.setFrames U.frames with heap := s₂.heap, slotsUsed := s₂.slotsUsed }
      rw [State.setFrames_self ht]
    subst hg
    refine Or.inl ⟨v, ⟨(({ U with heap := s₂.heap, slotsUsed := s₂.slotsUsed } : State).setVm s₂.vm), Ls ++ L, c0 + mc, s0 + ms⟩,
      ⟨X.admits, X.cas, X.clock, X.frames, X.room, X.hears, X.method, X.code, (X.here.setHeapUsed s₂.heap s₂.slotsUsed).setVm hW'.alike, X.tail, State.WarmedH.trans X.warmed hW', X.limits, X.bytes, X.same.trans (hsame.setVm s.vm)⟩,
      ⟨g, mk, s₂, L, rfl, rfl, hqc, rfl, hL, rfl, rfl⟩, ?_⟩
    show Steps p.tables e below _ ((({ U with heap := s₂.heap, slotsUsed := s₂.slotsUsed } : State).setVm s₂.vm).setTop { g with pc := g.pc + len₂, stack := v.toList ++ g.stack })
    rw [← hs₂]
    exact hsteps
  · obtain ⟨e2, q2, q3, q4, q5, q6⟩ := id hsm
    have e3 : s₂ = ({ (U.calling g mk a).setFrames s₂.frames with heap := s₂.heap, slotsUsed := s₂.slotsUsed } : State).setVm s₂.vm := by
      have : s₂ = ({ s₂ with vm := (U.calling g mk a).vm } : State).setVm s₂.vm := rfl
      rw [e2] at this
      exact this
    have hf₂ : s₂.frames = .throwing q :: .java g :: U.frames.tail := hend
    have hW' : U.WarmedH s₂.vm := hW₂
    have hs₂ : s₂ = ((({ U with heap := s₂.heap, slotsUsed := s₂.slotsUsed } : State).setVm s₂.vm).setTop g).pushFrame (.throwing q) := by
      refine e3.trans ?_
      rw [hf₂, State.calling_eq h.top, State.setFrames_setFrames, State.pushFrame, State.frames_setTop _ hr', State.setTop_of_frames _ hr', State.setFrames_setFrames, hr]
      rfl
    have hsame : U.sameButNew ({ U with heap := s₂.heap, slotsUsed := s₂.slotsUsed } : State) L mc ms := by
      refine ⟨?_, q2, q3, q4, q5, q6⟩
      obtain ⟨t, ht, -⟩ := State.frames_cons hr
      show ({ U with heap := s₂.heap, slotsUsed := s₂.slotsUsed } : State) = { U.setFrames U.frames with heap := s₂.heap, slotsUsed := s₂.slotsUsed }
      rw [State.setFrames_self ht]
    subst hg
    refine Or.inr ⟨q, ⟨(({ U with heap := s₂.heap, slotsUsed := s₂.slotsUsed } : State).setVm s₂.vm), Ls ++ L, c0 + mc, s0 + ms⟩,
      ⟨X.admits, X.cas, X.clock, X.frames, X.room, X.hears, X.method, X.code, (X.here.setHeapUsed s₂.heap s₂.slotsUsed).setVm hW'.alike, X.tail, State.WarmedH.trans X.warmed hW', X.limits, X.bytes, X.same.trans (hsame.setVm s.vm)⟩,
      ⟨g, mk, s₂, L, E, ce, rfl, rfl, hx, hce, hcv, hcl, rfl, hL, rfl, rfl⟩, ?_⟩
    show Steps p.tables e below _ (((({ U with heap := s₂.heap, slotsUsed := s₂.slotsUsed } : State).setVm s₂.vm).setTop g).pushFrame (.throwing q))
    rw [← hs₂]
    exact hsteps
end
variable {p : Program} {l : Launch} {e : Env} {R : Room} {s : State} {m : MethodId} {args : Array Value} {below : List Frame} {meth : Method} {c : Code} {T : State} {H : Heap} {locs : List Loc} {cells slots : Nat}
theorem vx_callVX (X : Stand p l e R s m args below meth c T locs cells slots) (hexec : p.tables.exec = Jvm.exec) {own C : String} {index : Nat} {y : MethodName} {bytes : ByteArray} {maxL : Nat} {ret : Option FieldType} {hh : List (Nat × Nat × Nat × Nat)}
    (hown : s.vm.findClass own = some m.cls) (hlink : (Cond.methodLink own index y).before args s = true) (hinst : (Cond.instanceMethod y).before args s = true) (hsel : (Cond.selects C y y).before args s = true)
    (hcode : (Cond.codeWith y bytes maxL ret hh).before args s = true) (hy : y.cls ≠ "java/lang/invoke/MethodHandle" ∧ y.cls ≠ "java/lang/invoke/VarHandle")
    {W9 : Nat} {Pre : Pt → Array Value → Prop} {Post : Pt → Array Value → Option Value → Pt → Prop} {PostX : Pt → Array Value → Addr → Pt → Prop} (hK : vx_Back l R p e below s args y 3 W9 Pre Post PostX)
    {b : Addr} {cellB : Cell} (hcell : T.heap[b]? = some cellB) (hobj : cellB.vm.isStatics = false) (hcls : s.vm.findClass C = some cellB.cls)
    {g : JFrame} (hg : g.method = m) (hsize : g.locals.size = c.maxLocals) {argsL rest : List Value} (hlen : ∀ sig, parseMethodDescriptor y.desc = some sig → argsL.length = sig.parameters.length)
    (hstack : g.stack = argsL.reverse ++ .ref b :: rest) (hW : 2 * g.monitorRoom + (rest.map fun v => v.category).sum ≤ W9) (hdg : decode c.code g.pc = .ok (.invokevirtual index, 3))
    (hpre : ∀ vm₁, s.WarmedH vm₁ → Pre ⟨T.setVm vm₁, locs, cells, slots⟩ (Value.ref b :: argsL).toArray) :
    (∃ (v : Option Value) (vm₁ : Vm) (B : Pt), s.WarmedH vm₁ ∧ Stand p l e R s m args below meth c B.U B.locs B.cells B.slots ∧ Post ⟨T.setVm vm₁, locs, cells, slots⟩ (Value.ref b :: argsL).toArray v B ∧
      ∀ target, Steps p.tables e below (B.U.setTop { g with pc := g.pc + 3, stack := v.toList ++ rest }) target → Steps p.tables e below (T.setTop g) target) ∨
    (∃ (q : Addr) (vm₁ : Vm) (B : Pt), s.WarmedH vm₁ ∧ Stand p l e R s m args below meth c B.U B.locs B.cells B.slots ∧ PostX ⟨T.setVm vm₁, locs, cells, slots⟩ (Value.ref b :: argsL).toArray q B ∧
      Steps p.tables e below (T.setTop g) ((B.U.setTop { g with stack := rest }).pushFrame (.throwing q))) := by
  obtain ⟨mk, methM, hnamed, hmethM, hstM, habM⟩ := Cond.instanceMethod_spec hinst
  obtain ⟨m8, methM', cM, hn8, hmethM', -, -, -, -, -, -, hsigM⟩ := Cond.codeWith_spec hcode
  cases Option.some.inj (hn8.symm.trans hnamed)
  cases hmethM.symm.trans hmethM'
  obtain ⟨c2, r2, m2, q1, q2, q3, q4, kP, hkP, hkPi⟩ := Cond.selects_spec hsel
  cases hcls.symm.trans q1
  cases (State.methodFound?_of_named hnamed hy).symm.trans q2
  cases hnamed.symm.trans q3
  have hselP : selectMethod e.platform s.vm cellB.cls mk = .method mk := by rw [Launch.admits_selectMethod X.admits]; exact q4
  obtain ⟨vm₁, X₁, hstep₁⟩ := X.invokevirtual hexec hown hlink hnamed hmethM hstM hkP hkPi hy (a := b) (cell := cellB) hcell
    (fun z h => by rw [h] at hobj; cases hobj) hselP hmethM habM hkP hkPi (g := g) hg (argsL := argsL) (rest := rest) (hlen _ hsigM) hstack hdg
  rcases hK m meth c ⟨T.setVm vm₁, locs, cells, slots⟩ { g with stack := rest } (.invokevirtual index) mk (Value.ref b :: argsL).toArray X₁ hg hsize hdg hW (X₁.named hnamed) (hpre vm₁ X₁.warmed) with ⟨v, B, X', hpost, hsteps⟩ | ⟨q, B, X', hpost, hsteps⟩
  · exact Or.inl ⟨v, vm₁, B, X₁.warmed, X', hpost, fun target h => hstep₁ _ fun acts => by rw [doInvoke_state]; exact hsteps.trans h⟩
  · exact Or.inr ⟨q, vm₁, B, X₁.warmed, X', hpost, hstep₁ _ fun acts => by rw [doInvoke_state]; exact hsteps⟩
theorem vx_callSX (X : Stand p l e R s m args below meth c T locs cells slots) (hexec : p.tables.exec = Jvm.exec) {own : String} {index : Nat} {y : MethodName} {bytes : ByteArray} {maxL : Nat} {ret : Option FieldType} {hh : List (Nat × Nat × Nat × Nat)}
    (hown : s.vm.findClass own = some m.cls) (hlink : (Cond.methodLink own index y).before args s = true) (hstat : (Cond.static y).before args s = true) (hinit : (Cond.initialized y.cls).before args s = true)
    (hcode : (Cond.codeWith y bytes maxL ret hh).before args s = true) (hy : y.cls ≠ "java/lang/invoke/MethodHandle" ∧ y.cls ≠ "java/lang/invoke/VarHandle")
    {W9 : Nat} {Pre : Pt → Array Value → Prop} {Post : Pt → Array Value → Option Value → Pt → Prop} {PostX : Pt → Array Value → Addr → Pt → Prop} (hK : vx_Back l R p e below s args y 3 W9 Pre Post PostX)
    {g : JFrame} (hg : g.method = m) (hsize : g.locals.size = c.maxLocals) {argsL rest : List Value} (hlen : ∀ sig, parseMethodDescriptor y.desc = some sig → argsL.length = sig.parameters.length)
    (hstack : g.stack = argsL.reverse ++ rest) (hW : 2 * g.monitorRoom + (rest.map fun v => v.category).sum ≤ W9) (hdg : decode c.code g.pc = .ok (.invokestatic index, 3))
    (hpre : ∀ vm₁, s.WarmedH vm₁ → Pre ⟨T.setVm vm₁, locs, cells, slots⟩ argsL.toArray) :
    (∃ (v : Option Value) (vm₁ : Vm) (B : Pt), s.WarmedH vm₁ ∧ Stand p l e R s m args below meth c B.U B.locs B.cells B.slots ∧ Post ⟨T.setVm vm₁, locs, cells, slots⟩ argsL.toArray v B ∧
      ∀ target, Steps p.tables e below (B.U.setTop { g with pc := g.pc + 3, stack := v.toList ++ rest }) target → Steps p.tables e below (T.setTop g) target) ∨
    (∃ (q : Addr) (vm₁ : Vm) (B : Pt), s.WarmedH vm₁ ∧ Stand p l e R s m args below meth c B.U B.locs B.cells B.slots ∧ PostX ⟨T.setVm vm₁, locs, cells, slots⟩ argsL.toArray q B ∧
      Steps p.tables e below (T.setTop g) ((B.U.setTop { g with stack := rest }).pushFrame (.throwing q))) := by
  obtain ⟨mk, methM, cM, hnamed, hmethM, -, -, -, -, -, -, hsigM⟩ := Cond.codeWith_spec hcode
  have hstatic : methM.isStatic = true := Cond.static_spec hnamed hmethM hstat
  obtain ⟨kP, hkP, -⟩ := className_of_methodNamed hnamed
  have hinitP : kP.init = .initialized := Cond.initialized_spec (findClass_of_methodNamed hnamed) hkP hinit
  obtain ⟨vm₁, X₁, hstep₁⟩ := X.invokestatic hexec hown hlink hnamed hmethM hstatic hkP hinitP hy (g := g) hg (argsL := argsL) (rest := rest) (hlen _ hsigM) hstack hdg
  rcases hK m meth c ⟨T.setVm vm₁, locs, cells, slots⟩ { g with stack := rest } (.invokestatic index) mk argsL.toArray X₁ hg hsize hdg hW (X₁.named hnamed) (hpre vm₁ X₁.warmed) with ⟨v, B, X', hpost, hsteps⟩ | ⟨q, B, X', hpost, hsteps⟩
  · exact Or.inl ⟨v, vm₁, B, X₁.warmed, X', hpost, fun target h => hstep₁ _ fun acts => by rw [doInvoke_state]; exact hsteps.trans h⟩
  · exact Or.inr ⟨q, vm₁, B, X₁.warmed, X', hpost, hstep₁ _ fun acts => by rw [doInvoke_state]; exact hsteps⟩
theorem vx_callVW (X : Stand p l e R s m args below meth c T locs cells slots) (hexec : p.tables.exec = Jvm.exec) {own C : String} {index : Nat} {y : MethodName} {bytes : ByteArray} {maxL : Nat} {ret : Option FieldType} {hh : List (Nat × Nat × Nat × Nat)}
    (hown : s.vm.findClass own = some m.cls) (hlink : (Cond.methodLink own index y).before args s = true) (hinst : (Cond.instanceMethod y).before args s = true) (hsel : (Cond.selects C y y).before args s = true)
    (hcode : (Cond.codeWith y bytes maxL ret hh).before args s = true) (hy : y.cls ≠ "java/lang/invoke/MethodHandle" ∧ y.cls ≠ "java/lang/invoke/VarHandle")
    {W9 : Nat} {Pre : Pt → Array Value → Prop} {Post : Pt → Array Value → Option Value → Pt → Prop} (hK : Back l R p e below s args y 3 W9 Pre Post)
    {b : Addr} {cellB : Cell} (hcell : T.heap[b]? = some cellB) (hobj : cellB.vm.isStatics = false) (hcls : s.vm.findClass C = some cellB.cls)
    {g : JFrame} (hg : g.method = m) (hsize : g.locals.size = c.maxLocals) {argsL rest : List Value} (hlen : ∀ sig, parseMethodDescriptor y.desc = some sig → argsL.length = sig.parameters.length)
    (hstack : g.stack = argsL.reverse ++ .ref b :: rest) (hW : 2 * g.monitorRoom + (rest.map fun v => v.category).sum ≤ W9) (hdg : decode c.code g.pc = .ok (.invokevirtual index, 3))
    (hpre : ∀ vm₁, s.WarmedH vm₁ → Pre ⟨T.setVm vm₁, locs, cells, slots⟩ (Value.ref b :: argsL).toArray) :
    ∃ (v : Option Value) (vm₁ : Vm) (B : Pt), s.WarmedH vm₁ ∧ Stand p l e R s m args below meth c B.U B.locs B.cells B.slots ∧ Post ⟨T.setVm vm₁, locs, cells, slots⟩ (Value.ref b :: argsL).toArray v B ∧
      ∀ target, Steps p.tables e below (B.U.setTop { g with pc := g.pc + 3, stack := v.toList ++ rest }) target → Steps p.tables e below (T.setTop g) target := by
  obtain ⟨mk, methM, hnamed, hmethM, hstM, habM⟩ := Cond.instanceMethod_spec hinst
  obtain ⟨m8, methM', cM, hn8, hmethM', -, -, -, -, -, -, hsigM⟩ := Cond.codeWith_spec hcode
  cases Option.some.inj (hn8.symm.trans hnamed)
  cases hmethM.symm.trans hmethM'
  obtain ⟨c2, r2, m2, q1, q2, q3, q4, kP, hkP, hkPi⟩ := Cond.selects_spec hsel
  cases hcls.symm.trans q1
  cases (State.methodFound?_of_named hnamed hy).symm.trans q2
  cases hnamed.symm.trans q3
  have hselP : selectMethod e.platform s.vm cellB.cls mk = .method mk := by rw [Launch.admits_selectMethod X.admits]; exact q4
  obtain ⟨vm₁, X₁, hstep₁⟩ := X.invokevirtual hexec hown hlink hnamed hmethM hstM hkP hkPi hy (a := b) (cell := cellB) hcell
    (fun z h => by rw [h] at hobj; cases hobj) hselP hmethM habM hkP hkPi (g := g) hg (argsL := argsL) (rest := rest) (hlen _ hsigM) hstack hdg
  obtain ⟨v, B, X', hpost, hsteps⟩ := hK m meth c ⟨T.setVm vm₁, locs, cells, slots⟩ { g with stack := rest } (.invokevirtual index) mk (Value.ref b :: argsL).toArray X₁ hg hsize hdg hW (X₁.named hnamed) (hpre vm₁ X₁.warmed)
  exact ⟨v, vm₁, B, X₁.warmed, X', hpost, fun target h => hstep₁ _ fun acts => by rw [doInvoke_state]; exact hsteps.trans h⟩
abbrev vx_CVW (R : Room) (s : State) (args : Array Value) (own C : String) (index : Nat) (y : MethodName) (bytes : ByteArray) (maxL : Nat) (ret : Option FieldType) (hh : List (Nat × Nat × Nat × Nat)) (ws : List Cond) (rm : Room) (mc ms n : Nat) : Prop :=
  (rm.cells = mc ∧ rm.slots = ms ∧ rm.frames + 1 ≤ R.frames ∧ 8 + (maxL + 11) + rm.locals ≤ R.locals ∧ (∀ w ∈ ws, ∀ (a' : Array Value) (U : State), s.WarmedH U.vm → w.before a' U = true) ∧ Cond.codeWith y bytes maxL ret hh ∈ ws) ∧
  (Cond.codeWith y bytes maxL ret hh).before args s = true ∧ (Cond.initialized y.cls).before args s = true ∧ (y.cls ≠ "java/lang/invoke/MethodHandle" ∧ y.cls ≠ "java/lang/invoke/VarHandle") ∧
  (∀ sig, parseMethodDescriptor y.desc = some sig → n = sig.parameters.length) ∧ (Cond.methodLink own index y).before args s = true ∧ (Cond.instanceMethod y).before args s = true ∧ (Cond.selects C y y).before args s = true
theorem vx_cwVW {own C : String} {index maxL mc ms : Nat} {y : MethodName} {bytes : ByteArray} {ret : Option FieldType} {hh : List (Nat × Nat × Nat × Nat)} {Ts ws ws' : List Cond} {rm : Room} (n : Nat) (ht : ∀ w ∈ Ts, w.before args s = true) (hT : GoodIn Ts (wsV own index C y ws)) (hw : ws = Cond.codeWith y bytes maxL ret hh :: ws') (hrc : rm.cells = mc) (hrs : rm.slots = ms)
    (hd : y.cls = C ∧ y.cls ≠ "java/lang/invoke/MethodHandle" ∧ y.cls ≠ "java/lang/invoke/VarHandle" ∧ (parseMethodDescriptor y.desc).map (fun d => d.parameters.length) = some n) (hR : rm.frames + 1 ≤ R.frames ∧ 8 + (maxL + 11) + rm.locals ≤ R.locals) :
    vx_CVW R s args own C index y bytes maxL ret hh ws rm mc ms n := by
  obtain ⟨hC, hd⟩ := hd
  subst hC
  have ok : ∀ w ∈ wsV own index y.cls y ws, w.before args s = true := fun w h => ht w (hT w h).1
  have hG : GoodIn Ts ws := fun w h => hT w (by unfold wsV; exact List.mem_append_right _ h)
  have hc : Cond.codeWith y bytes maxL ret hh ∈ ws := by rw [hw]; exact List.mem_cons_self
  refine ⟨⟨hrc, hrs, hR.1, hR.2, pay_in ht hG, hc⟩, ht _ (hG _ hc).1, ok _ (by simp [wsV]), ⟨hd.1, hd.2.1⟩, fun sig h => ?_, ok _ (by simp [wsV]), ok _ (by simp [wsV]), ok _ (by simp [wsV])⟩
  have h2 := hd.2.2
  rw [h] at h2
  exact (Option.some.inj h2).symm
theorem vx_runVW {y : MethodName} {bytes cc : ByteArray} {maxL nL mc ms n index : Nat} {ret : Option FieldType} {hh : List (Nat × Nat × Nat × Nat)} {ws : List Cond} {rm : Room} {Pc : Array Value → State → Prop} {Qc : Array Value → State → Outcome → State → Prop} {free : Addr → Prop} {Ts : List Cond} {own C : String} {b : Addr} {As rest : List Value} {g : JFrame}
    (S : CallFix p m c cc nL s args Ts own) (hM : Met l y ws rm Pc Qc mc ms free) (cw : vx_CVW R s args own C index y bytes maxL ret hh ws rm mc ms n) (hp : PreV s H C b Pc As)
    (hg : g.method = m) (hn : As.length = n) (hsize : g.locals.size = nL) (hstack : g.stack = As.reverse ++ .ref b :: rest) (hW : 2 * g.monitorRoom + (rest.map fun v => v.category).sum ≤ 8) (hdg : decode cc g.pc = .ok (.invokevirtual index, 3)) (hf : cells + mc ≤ R.cells ∧ slots + ms ≤ R.slots) :
    va_Run p l e R s m args below meth c H locs cells slots mc ms g rest (Qc (Value.ref b :: As).toArray) free := by
  obtain ⟨⟨hrc, hrs, hfr, hlo, hws, hcw⟩, hcode, hini, hy, hlen, hl, hin, hse⟩ := cw
  have hK : Back l R p e below s args y 3 8 (PreOf R mc ms Pc) (PostOf Qc mc ms free) := va_backW (hh := hh) (bytes := bytes) (maxL := maxL) (ret := ret) hM hp.1 hrc hrs hfr hlo hws hcw (fun a' U hW => word_at hW (Or.inl (by first | rfl | simp [Cond.onTables, Cond.keeps, Cond.steady])) hini)
  obtain ⟨hx, hb, hml, ho, -⟩ := S
  obtain ⟨-, ⟨cellB, hcB, hoB, hclB⟩, hPc⟩ := hp
  intro T hT X
  obtain ⟨v, vm₁, ⟨U', l2, c2, s2⟩, hW₁, X', ⟨g', mk, t, L, e1, e2, hq, h1, hL, h2, h3⟩, st⟩ := vx_callVW X hx (C := C) (hh := hh) (bytes := bytes) (maxL := maxL) (ret := ret) ho hl hin hse hcode hy hK (by rw [hT]; exact hcB) hoB hclB hg (hsize.trans hml.symm) (argsL := As) (rest := rest) (fun sig h => hn.trans (hlen sig h)) hstack hW (by rw [hb]; exact hdg)
    (fun vm₁ hW₁ => ⟨hf.1, hf.2, hPc (T.setVm vm₁) hT hW₁⟩)
  dsimp only [Pt.U, Pt.locs, Pt.cells, Pt.slots] at X' e1 e2 h1 h2 h3 st
  subst h1; subst h2; subst h3
  exact ⟨v, (T.setVm vm₁).calling g' mk (Value.ref b :: As).toArray, t, U', L, hT, X', hL, e1, e2, hq, st⟩
section
variable {y : MethodName} {bytes cc : ByteArray} {maxL nL mc ms n index : Nat} {ret : Option FieldType} {ws : List Cond} {rm : Room} {Pc : Array Value → State → Prop} {Qc : Array Value → State → Outcome → State → Prop} {XC : String → State → State → Prop} {free : Addr → Prop} {Ts : List Cond} {own C : String} {b : Addr} {As rest : List Value} {g : JFrame}
theorem vx_runVX {hh : List (Nat × Nat × Nat × Nat)} (S : CallFix p m c cc nL s args Ts own) (hM : vx_Met l y ws rm Pc Qc XC mc ms free) (cw : vx_CVW R s args own C index y bytes maxL ret hh ws rm mc ms n) (hp : PreV s H C b Pc As)
    (hg : g.method = m) (hn : As.length = n) (hsize : g.locals.size = nL) (hstack : g.stack = As.reverse ++ .ref b :: rest) (hW : 2 * g.monitorRoom + (rest.map fun v => v.category).sum ≤ 8) (hdg : decode cc g.pc = .ok (.invokevirtual index, 3)) (hf : cells + mc ≤ R.cells ∧ slots + ms ≤ R.slots) :
    vx_Run p l e R s m args below meth c H locs cells slots mc ms g rest (Qc (Value.ref b :: As).toArray) XC free := by
  obtain ⟨⟨hrc, hrs, hfr, hlo, hws, hcw⟩, hcode, hini, hy, hlen, hl, hin, hse⟩ := cw
  have hK : vx_Back l R p e below s args y 3 8 (PreOf R mc ms Pc) (PostOf Qc mc ms free) (vx_Post XC mc ms free) := vx_backW (hh := hh) (bytes := bytes) (maxL := maxL) (ret := ret) hM hp.1 hrc hrs hfr hlo hws hcw (fun a' U hW => word_at hW (Or.inl (by first | rfl | simp [Cond.onTables, Cond.keeps, Cond.steady])) hini)
  obtain ⟨hx, hb, hml, ho, -⟩ := S
  obtain ⟨-, ⟨cellB, hcB, hoB, hclB⟩, hPc⟩ := hp
  intro T hT X
  rcases vx_callVX X hx (C := C) (hh := hh) (bytes := bytes) (maxL := maxL) (ret := ret) ho hl hin hse hcode hy hK (by rw [hT]; exact hcB) hoB hclB hg (hsize.trans hml.symm) (argsL := As) (rest := rest) (fun sig h => hn.trans (hlen sig h)) hstack hW (by rw [hb]; exact hdg)
    (fun vm₁ hW₁ => ⟨hf.1, hf.2, hPc (T.setVm vm₁) hT hW₁⟩) with ⟨v, vm₁, ⟨U', l2, c2, s2⟩, hW₁, X', ⟨g', mk, t, L, e1, e2, hq, h1, hL, h2, h3⟩, st⟩ | ⟨q, vm₁, ⟨U', l2, c2, s2⟩, hW₁, X', ⟨g', mk, t, L, E, ce, e1, e2, hq, hce, hcv, hcl, h1, hL, h2, h3⟩, st⟩
  · dsimp only [Pt.U, Pt.locs, Pt.cells, Pt.slots] at X' e1 e2 h1 h2 h3 st
    subst h1; subst h2; subst h3
    exact Or.inl ⟨v, (T.setVm vm₁).calling g' mk (Value.ref b :: As).toArray, t, U', L, hT, X', hL, e1, e2, hq, st⟩
  · dsimp only [Pt.U, Pt.locs, Pt.cells, Pt.slots] at X' e1 e2 h1 h2 h3 st hcl
    subst h1; subst h2; subst h3
    exact Or.inr ⟨q, (T.setVm vm₁).calling g' mk (Value.ref b :: As).toArray, t, U', L, E, ce, hT, X', hL, e1, e2, hq, hce, hcv, vx_cls hW₁ hcl, st⟩
theorem vx_runSX {hh : List (Nat × Nat × Nat × Nat)} (S : CallFix p m c cc nL s args Ts own) (hM : vx_Met l y ws rm Pc Qc XC mc ms free) (cw : vx_CSW R s args own index y bytes maxL ret hh ws rm mc ms n) (hp : PreS s H Pc As)
    (hg : g.method = m) (hn : As.length = n) (hsize : g.locals.size = nL) (hstack : g.stack = As.reverse ++ rest) (hW : 2 * g.monitorRoom + (rest.map fun v => v.category).sum ≤ 8) (hdg : decode cc g.pc = .ok (.invokestatic index, 3)) (hf : cells + mc ≤ R.cells ∧ slots + ms ≤ R.slots) :
    vx_Run p l e R s m args below meth c H locs cells slots mc ms g rest (Qc As.toArray) XC free := by
  obtain ⟨⟨hrc, hrs, hfr, hlo, hws, hcw⟩, hcode, hini, hy, hlen, hl, hstt⟩ := cw
  have hK : vx_Back l R p e below s args y 3 8 (PreOf R mc ms Pc) (PostOf Qc mc ms free) (vx_Post XC mc ms free) := vx_backW (hh := hh) (bytes := bytes) (maxL := maxL) (ret := ret) hM hp.1 hrc hrs hfr hlo hws hcw (fun a' U hW => word_at hW (Or.inl (by first | rfl | simp [Cond.onTables, Cond.keeps, Cond.steady])) hini)
  obtain ⟨hx, hb, hml, ho, -⟩ := S
  intro T hT X
  rcases vx_callSX X hx (hh := hh) (bytes := bytes) (maxL := maxL) (ret := ret) ho hl hstt hini hcode hy hK hg (hsize.trans hml.symm) (argsL := As) (rest := rest) (fun sig h => hn.trans (hlen sig h)) hstack hW (by rw [hb]; exact hdg)
    (fun vm₁ hW₁ => ⟨hf.1, hf.2, hp.2 (T.setVm vm₁) hT hW₁⟩) with ⟨v, vm₁, ⟨U', l2, c2, s2⟩, hW₁, X', ⟨g', mk, t, L, e1, e2, hq, h1, hL, h2, h3⟩, st⟩ | ⟨q, vm₁, ⟨U', l2, c2, s2⟩, hW₁, X', ⟨g', mk, t, L, E, ce, e1, e2, hq, hce, hcv, hcl, h1, hL, h2, h3⟩, st⟩
  · dsimp only [Pt.U, Pt.locs, Pt.cells, Pt.slots] at X' e1 e2 h1 h2 h3 st
    subst h1; subst h2; subst h3
    exact Or.inl ⟨v, (T.setVm vm₁).calling g' mk As.toArray, t, U', L, hT, X', hL, e1, e2, hq, st⟩
  · dsimp only [Pt.U, Pt.locs, Pt.cells, Pt.slots] at X' e1 e2 h1 h2 h3 st hcl
    subst h1; subst h2; subst h3
    exact Or.inr ⟨q, (T.setVm vm₁).calling g' mk As.toArray, t, U', L, E, ce, hT, X', hL, e1, e2, hq, hce, hcv, vx_cls hW₁ hcl, st⟩
end
end VXH
theorem vx_ofWH {l : Launch} {y : MethodName} {ws ws' : List Cond} {rm : Room} {Pc : Array Value → State → Prop} {Qc : Array Value → State → Outcome → State → Prop} {XC : String → State → State → Prop} {mc ms : Nat} {free : Addr → Prop} {cc : ByteArray} {maxL : Nat} {ret : Option FieldType} {hh : List (Nat × Nat × Nat × Nat)}
    (hy : plainName y.cls = true) (hw : ws = Cond.codeWith y cc maxL ret hh :: ws')
    (body : ∀ p e s m args below meth c s₁, BodyLoose p l y (headSpec ws rm) cc maxL ret e s m args below meth c s₁ → c.maxLocals = maxL → Pc args s →
      W p l e (headSpec ws rm).room s m args below meth c s.heap [] 0 0 (vx_MQ below Qc XC args s mc ms free) (entryFrame m args maxL)) : vx_Met l y ws rm Pc Qc XC mc ms free := by
  refine MetFree.of_bodyS (code := cc) (maxLocals := maxL) (ret := ret) hy ?_ ?_
  · intro args s m h hn
    obtain ⟨m9, meth, c, hn9, h1, h2, h3, h4, -, h5, h6, -⟩ := Cond.codeWith_spec (atoms_spec (ws := ws) h _ (by rw [hw]; exact List.mem_cons_self))
    cases hn.symm.trans hn9
    exact ⟨meth, c, h1, h2, h3, h4, h5, h6⟩
  · intro p e s m args below meth c s₁ B hml hP _
    have hh0 : s₁.heap = s.heap := by rw [B.state]; rfl
    obtain ⟨t, a1, o, b1, b2, b3⟩ := body p e s m args below meth c s₁ B hml hP s₁ hh0 (Stand.of_body B)
    exact ⟨t, o, a1, b1, b2, b3⟩
/-! ===== END ===== -/

/-! ===== BEGIN a constructor that throws (launches without stack traces) ===== -/
section VXIA
variable {p : Program} {l : Launch} {e : Env} {R : Room} {s : State} {m : MethodId} {args : Array Value} {below : List Frame} {meth : Method} {c : Code} {T : State} {locs : List Loc} {cells slots : Nat}
theorem vx_callI (X : Stand p l e R s m args below meth c T locs cells slots) (hexec : p.tables.exec = Jvm.exec) {own : String} {index : Nat} {y : MethodName} {bytes : ByteArray} {maxL : Nat}
    (hown : s.vm.findClass own = some m.cls) (hy1 : y.name = "<init>") (hlink : (Cond.methodLink own index y).before args s = true) (hinst : (Cond.instanceMethod y).before args s = true)
    (hcode : (Cond.code y bytes maxL none).before args s = true) (hy : y.cls ≠ "java/lang/invoke/MethodHandle" ∧ y.cls ≠ "java/lang/invoke/VarHandle")
    {W9 : Nat} {Pre : Pt → Array Value → Prop} {Post : Pt → Array Value → Option Value → Pt → Prop} {PostX : Pt → Array Value → Addr → Pt → Prop} (hK : vx_Back l R p e below s args y 3 W9 Pre Post PostX)
    {g : JFrame} (hg : g.method = m) (hsize : g.locals.size = c.maxLocals) {a : Addr} {argsL rest : List Value} (hlen : ∀ sig, parseMethodDescriptor y.desc = some sig → argsL.length = sig.parameters.length)
    (hstack : g.stack = argsL.reverse ++ .ref a :: rest) (hW : 2 * g.monitorRoom + (rest.map fun v => v.category).sum ≤ W9) (hdg : decode c.code g.pc = .ok (.invokespecial index, 3))
    (hpre : ∀ vm₁, s.WarmedH vm₁ → Pre ⟨T.setVm vm₁, locs, cells, slots⟩ (Value.ref a :: argsL).toArray) :
    (∃ (v : Option Value) (vm₁ : Vm) (B : Pt), s.WarmedH vm₁ ∧ Stand p l e R s m args below meth c B.U B.locs B.cells B.slots ∧ Post ⟨T.setVm vm₁, locs, cells, slots⟩ (Value.ref a :: argsL).toArray v B ∧
      ∀ target, Steps p.tables e below (B.U.setTop { g with pc := g.pc + 3, stack := v.toList ++ rest }) target → Steps p.tables e below (T.setTop g) target) ∨
    (∃ (q : Addr) (vm₁ : Vm) (B : Pt), s.WarmedH vm₁ ∧ Stand p l e R s m args below meth c B.U B.locs B.cells B.slots ∧ PostX ⟨T.setVm vm₁, locs, cells, slots⟩ (Value.ref a :: argsL).toArray q B ∧
      Steps p.tables e below (T.setTop g) ((B.U.setTop { g with stack := rest }).pushFrame (.throwing q))) := by
  subst hg
  have hpl : e.platform.magicAccessors = ({} : Platform).magicAccessors := by rw [X.admits.platform]
  obtain ⟨mk, methM, cM, kP, vm₁, hnamed, hmethM, hcodeM, -, hlocalsM, -, hkP, -, hW₁, hstep₁⟩ := Steps.initColdArgs (e := e) X.here hexec X.warmed hpl hown hy1 hy hlink hinst hcode (f := g) rfl hlen hstack hdg
  have X₁ := X.noted hW₁
  rcases hK g.method meth c ⟨T.setVm vm₁, locs, cells, slots⟩ { g with stack := rest } (.invokespecial index) mk (Value.ref a :: argsL).toArray X₁ rfl hsize hdg hW (X₁.named hnamed) (hpre vm₁ X₁.warmed) with ⟨v, B, X', hpost, hsteps⟩ | ⟨q, B, X', hpost, hsteps⟩
  · exact Or.inl ⟨v, vm₁, B, X₁.warmed, X', hpost, fun target h => hstep₁ _ fun acts => by rw [doInvoke_state]; exact hsteps.trans h⟩
  · exact Or.inr ⟨q, vm₁, B, X₁.warmed, X', hpost, hstep₁ _ fun acts => by rw [doInvoke_state]; exact hsteps⟩
end VXIA
section VXIB
variable {p : Program} {l : Launch} {e : Env} {R : Room} {s : State} {m : MethodId} {args : Array Value} {below : List Frame} {meth : Method} {c : Code} {H : Heap} {locs : List Loc} {cells slots : Nat}
variable {y : MethodName} {bytes cc : ByteArray} {maxL nL mc ms n index : Nat} {ret : Option FieldType} {ws : List Cond} {rm : Room} {Pc : Array Value → State → Prop} {Qc : Array Value → State → Outcome → State → Prop} {XC : String → State → State → Prop} {free : Addr → Prop} {Ts : List Cond} {own C : String} {b : Addr} {As rest : List Value} {g : JFrame}
theorem vx_runI (S : CallFix p m c cc nL s args Ts own) (hM : vx_Met l y ws rm Pc Qc XC mc ms free) (cw : CallB R s args own index y bytes maxL none ws rm mc ms n ∧ y.name = "<init>" ∧ (Cond.instanceMethod y).before args s = true) (hp : PreS s H Pc (.ref b :: As))
    (hg : g.method = m) (hn : As.length = n) (hsize : g.locals.size = nL) (hstack : g.stack = As.reverse ++ .ref b :: rest) (hW : 2 * g.monitorRoom + (rest.map fun v => v.category).sum ≤ 8) (hdg : decode cc g.pc = .ok (.invokespecial index, 3)) (hf : cells + mc ≤ R.cells ∧ slots + ms ≤ R.slots) :
    vx_Run p l e R s m args below meth c H locs cells slots mc ms g rest (Qc (Value.ref b :: As).toArray) XC free := by
  have hK : vx_Back l R p e below s args y 3 8 (PreOf R mc ms Pc) (PostOf Qc mc ms free) (vx_Post XC mc ms free) := vx_callBack cw.1 hM hp.1
  obtain ⟨⟨-, -, -, -, -, -, hcode, -, hy, hlen, hl⟩, hy1, hin⟩ := cw
  obtain ⟨hx, hb, hml, ho, -⟩ := S
  have hPc := hp.2
  intro T hT X
  rcases vx_callI X hx (bytes := bytes) (maxL := maxL) ho hy1 hl hin hcode hy hK hg (hsize.trans hml.symm) (a := b) (argsL := As) (rest := rest) (fun sig h => hn.trans (hlen sig h)) hstack hW (by rw [hb]; exact hdg)
    (fun vm₁ hW₁ => ⟨hf.1, hf.2, hPc (T.setVm vm₁) hT hW₁⟩) with ⟨v, vm₁, ⟨U', l2, c2, s2⟩, hW₁, X', ⟨g', mk, t, L, e1, e2, hq, h1, hL, h2, h3⟩, st⟩ | ⟨q, vm₁, ⟨U', l2, c2, s2⟩, hW₁, X', ⟨g', mk, t, L, E, ce, e1, e2, hq, hce, hcv, hcl, h1, hL, h2, h3⟩, st⟩
  · dsimp only [Pt.U, Pt.locs, Pt.cells, Pt.slots] at X' e1 e2 h1 h2 h3 st
    subst h1; subst h2; subst h3
    exact Or.inl ⟨v, (T.setVm vm₁).calling g' mk (Value.ref b :: As).toArray, t, U', L, hT, X', hL, e1, e2, hq, st⟩
  · dsimp only [Pt.U, Pt.locs, Pt.cells, Pt.slots] at X' e1 e2 h1 h2 h3 st hcl
    subst h1; subst h2; subst h3
    exact Or.inr ⟨q, (T.setVm vm₁).calling g' mk (Value.ref b :: As).toArray, t, U', L, E, ce, hT, X', hL, e1, e2, hq, hce, hcv, vx_cls hW₁ hcl, st⟩
end VXIB
/-! ===== END ===== -/
/-! ===== BEGIN a private constructor of a nest mate that throws ===== -/
section VXIC
variable {p : Program} {l : Launch} {e : Env} {R : Room} {s : State} {m : MethodId} {args : Array Value} {below : List Frame} {meth : Method} {c : Code} {T : State} {locs : List Loc} {cells slots : Nat}
theorem vx_callIN (X : Stand p l e R s m args below meth c T locs cells slots) (hexec : p.tables.exec = Jvm.exec) {own : String} {index : Nat} {host : String} {y : MethodName} {bytes : ByteArray} {maxL : Nat}
    (hown : s.vm.findClass own = some m.cls) (hy1 : y.name = "<init>") (hlink : (Cond.methodLinkNest own index y host).before args s = true) (hinst : (Cond.instanceMethod y).before args s = true)
    (hcode : (Cond.code y bytes maxL none).before args s = true) (hy : y.cls ≠ "java/lang/invoke/MethodHandle" ∧ y.cls ≠ "java/lang/invoke/VarHandle")
    {W9 : Nat} {Pre : Pt → Array Value → Prop} {Post : Pt → Array Value → Option Value → Pt → Prop} {PostX : Pt → Array Value → Addr → Pt → Prop} (hK : vx_Back l R p e below s args y 3 W9 Pre Post PostX)
    {g : JFrame} (hg : g.method = m) (hsize : g.locals.size = c.maxLocals) {a : Addr} {argsL rest : List Value} (hlen : ∀ sig, parseMethodDescriptor y.desc = some sig → argsL.length = sig.parameters.length)
    (hstack : g.stack = argsL.reverse ++ .ref a :: rest) (hW : 2 * g.monitorRoom + (rest.map fun v => v.category).sum ≤ W9) (hdg : decode c.code g.pc = .ok (.invokespecial index, 3))
    (hpre : ∀ vm₁, s.WarmedH vm₁ → Pre ⟨T.setVm vm₁, locs, cells, slots⟩ (Value.ref a :: argsL).toArray) :
    (∃ (v : Option Value) (vm₁ : Vm) (B : Pt), s.WarmedH vm₁ ∧ Stand p l e R s m args below meth c B.U B.locs B.cells B.slots ∧ Post ⟨T.setVm vm₁, locs, cells, slots⟩ (Value.ref a :: argsL).toArray v B ∧
      ∀ target, Steps p.tables e below (B.U.setTop { g with pc := g.pc + 3, stack := v.toList ++ rest }) target → Steps p.tables e below (T.setTop g) target) ∨
    (∃ (q : Addr) (vm₁ : Vm) (B : Pt), s.WarmedH vm₁ ∧ Stand p l e R s m args below meth c B.U B.locs B.cells B.slots ∧ PostX ⟨T.setVm vm₁, locs, cells, slots⟩ (Value.ref a :: argsL).toArray q B ∧
      Steps p.tables e below (T.setTop g) ((B.U.setTop { g with stack := rest }).pushFrame (.throwing q))) := by
  subst hg
  have hpl : e.platform.magicAccessors = ({} : Platform).magicAccessors := by rw [X.admits.platform]
  obtain ⟨mk, methM, cM, kP, vm₁, hnamed, hmethM, hcodeM, -, hlocalsM, -, hkP, -, hW₁, hstep₁⟩ := Steps.initColdArgsNest (e := e) X.here hexec X.warmed hpl hown hy1 hy hlink hinst hcode (f := g) rfl hlen hstack hdg
  have X₁ := X.noted hW₁
  rcases hK g.method meth c ⟨T.setVm vm₁, locs, cells, slots⟩ { g with stack := rest } (.invokespecial index) mk (Value.ref a :: argsL).toArray X₁ rfl hsize hdg hW (X₁.named hnamed) (hpre vm₁ X₁.warmed) with ⟨v, B, X', hpost, hsteps⟩ | ⟨q, B, X', hpost, hsteps⟩
  · exact Or.inl ⟨v, vm₁, B, X₁.warmed, X', hpost, fun target h => hstep₁ _ fun acts => by rw [doInvoke_state]; exact hsteps.trans h⟩
  · exact Or.inr ⟨q, vm₁, B, X₁.warmed, X', hpost, hstep₁ _ fun acts => by rw [doInvoke_state]; exact hsteps⟩
end VXIC
section VXID
variable {p : Program} {l : Launch} {e : Env} {R : Room} {s : State} {m : MethodId} {args : Array Value} {below : List Frame} {meth : Method} {c : Code} {H : Heap} {locs : List Loc} {cells slots : Nat}
theorem vx_runIN {y : MethodName} {bytes cc : ByteArray} {maxL nL mc ms n index : Nat} {ws : List Cond} {rm : Room} {Pc : Array Value → State → Prop} {Qc : Array Value → State → Outcome → State → Prop} {XC : String → State → State → Prop} {free : Addr → Prop} {Ts : List Cond} {own host : String} {b : Addr} {As rest : List Value} {g : JFrame}
    (S : CallFix p m c cc nL s args Ts own) (hM : vx_Met l y ws rm Pc Qc XC mc ms free) (cw : va_CN R s args own index y host bytes maxL none ws rm mc ms n ∧ y.name = "<init>" ∧ (Cond.instanceMethod y).before args s = true) (hp : PreS s H Pc (.ref b :: As))
    (hg : g.method = m) (hn : As.length = n) (hsize : g.locals.size = nL) (hstack : g.stack = As.reverse ++ .ref b :: rest) (hW : 2 * g.monitorRoom + (rest.map fun v => v.category).sum ≤ 8) (hdg : decode cc g.pc = .ok (.invokespecial index, 3)) (hf : cells + mc ≤ R.cells ∧ slots + ms ≤ R.slots) :
    vx_Run p l e R s m args below meth c H locs cells slots mc ms g rest (Qc (Value.ref b :: As).toArray) XC free := by
  obtain ⟨⟨⟨hrc, hrs, hfr, hlo, hws, hcw⟩, hcode, hini, hy, hlen, hl⟩, hx1, hx2⟩ := cw
  have hK : vx_Back l R p e below s args y 3 8 (PreOf R mc ms Pc) (PostOf Qc mc ms free) (vx_Post XC mc ms free) := vx_back (bytes := bytes) (maxL := maxL) (ret := none) hM hp.1 hrc hrs hfr hlo hws hcw (fun a' U hW => word_at hW (Or.inl (by first | rfl | simp [Cond.onTables, Cond.keeps, Cond.steady])) hini)
  obtain ⟨hx, hb, hml, ho, -⟩ := S
  have hPc := hp.2
  intro T hT X
  rcases vx_callIN X hx (bytes := bytes) (maxL := maxL) ho hx1 hl hx2 hcode hy hK hg (hsize.trans hml.symm) (a := b) (argsL := As) (rest := rest) (fun sig h => hn.trans (hlen sig h)) hstack hW (by rw [hb]; exact hdg)
    (fun vm₁ hW₁ => ⟨hf.1, hf.2, hPc (T.setVm vm₁) hT hW₁⟩) with ⟨v, vm₁, ⟨U', l2, c2, s2⟩, hW₁, X', ⟨g', mk, t, L, e1, e2, hq, h1, hL, h2, h3⟩, st⟩ | ⟨q, vm₁, ⟨U', l2, c2, s2⟩, hW₁, X', ⟨g', mk, t, L, E, ce, e1, e2, hq, hce, hcv, hcl, h1, hL, h2, h3⟩, st⟩
  · dsimp only [Pt.U, Pt.locs, Pt.cells, Pt.slots] at X' e1 e2 h1 h2 h3 st
    subst h1; subst h2; subst h3
    exact Or.inl ⟨v, (T.setVm vm₁).calling g' mk (Value.ref b :: As).toArray, t, U', L, hT, X', hL, e1, e2, hq, st⟩
  · dsimp only [Pt.U, Pt.locs, Pt.cells, Pt.slots] at X' e1 e2 h1 h2 h3 st hcl
    subst h1; subst h2; subst h3
    exact Or.inr ⟨q, (T.setVm vm₁).calling g' mk (Value.ref b :: As).toArray, t, U', L, E, ce, hT, X', hL, e1, e2, hq, hce, hcv, vx_cls hW₁ hcl, st⟩
end VXID
end
section
def RX0 : String := "TonguerootFamily$Alignment"
def TX0 : u_T := fun k => match k with
  | 0 => ("TonguerootFamily$Alignment", "sounds", "LTonguerootFamily$Sounds;", true)
  | 1 => ("TonguerootFamily$Alignment", "first", "[I", true)
  | 2 => ("TonguerootFamily$Alignment", "second", "[I", true)
  | 3 => ("TonguerootFamily$Alignment", "firstSize", "I", false)
  | 4 => ("TonguerootFamily$Alignment", "secondSize", "I", false)
  | 5 => ("TonguerootFamily$Alignment", "least", "[[I", true)
  | 6 => ("TonguerootFamily$Alignment", "upper", "[I", true)
  | _ => ("TonguerootFamily$Alignment", "lower", "[I", true)
def tyX0 : Nat → FieldType := fun k => match k with
  | 0 => .object "TonguerootFamily$Sounds"
  | 1 => .array .int
  | 2 => .array .int
  | 3 => .int
  | 4 => .int
  | 5 => .array (.array .int)
  | 6 => .array .int
  | _ => .array .int
abbrev wsX00 : List Cond := u_ws RX0 TX0 8
theorem nmX0 : ∀ a, a < 8 → ∀ b, b < 8 → a ≠ b → (TX0 a).2.1 ≠ (TX0 b).2.1 := by decide +kernel
theorem tyX0_ok : ∀ k, k < 8 → parseFieldDescriptor (TX0 k).2.2.1 = some (tyX0 k) := by decide +kernel
abbrev cX0_init : ByteArray := prog_2_method_1_code
def yX0_init : MethodName := ⟨RX0, "<init>", "(LTonguerootFamily$Sounds;)V"⟩
abbrev cX0_upperAt : ByteArray := prog_2_method_2_code
def yX0_upperAt : MethodName := ⟨RX0, "upperAt", "(I)I"⟩
abbrev cX0_lowerAt : ByteArray := prog_2_method_3_code
def yX0_lowerAt : MethodName := ⟨RX0, "lowerAt", "(I)I"⟩
abbrev cX0_weigh : ByteArray := prog_2_method_4_code
def yX0_weigh : MethodName := ⟨RX0, "weigh", "(JJ)I"⟩
abbrev cX0_align : ByteArray := prog_2_method_5_code
def yX0_align : MethodName := ⟨RX0, "align", "(JJ)I"⟩
abbrev cX0_spellOut : ByteArray := prog_2_method_6_code
def yX0_spellOut : MethodName := ⟨RX0, "spellOut", "(J[I)I"⟩
abbrev cX0_leastFrom : ByteArray := prog_2_method_7_code
def yX0_leastFrom : MethodName := ⟨RX0, "leastFrom", "(II)I"⟩
abbrev cX0_pairFrom : ByteArray := prog_2_method_8_code
def yX0_pairFrom : MethodName := ⟨RX0, "pairFrom", "(II)I"⟩
abbrev cX0_takesPair : ByteArray := prog_2_method_9_code
def yX0_takesPair : MethodName := ⟨RX0, "takesPair", "(II)Z"⟩
abbrev cX0_takesFirstAlone : ByteArray := prog_2_method_10_code
def yX0_takesFirstAlone : MethodName := ⟨RX0, "takesFirstAlone", "(II)Z"⟩
def RX1 : String := "TonguerootFamily$History"
def TX1 : u_T := fun k => match k with
  | 0 => ("TonguerootFamily$History", "languages", "Ljava/util/ArrayList;", true)
  | _ => ("TonguerootFamily$History", "loans", "Ljava/util/ArrayList;", true)
def tyX1 : Nat → FieldType := fun k => match k with
  | 0 => .object "java/util/ArrayList"
  | _ => .object "java/util/ArrayList"
abbrev wsX10 : List Cond := u_ws RX1 TX1 2
theorem nmX1 : ∀ a, a < 2 → ∀ b, b < 2 → a ≠ b → (TX1 a).2.1 ≠ (TX1 b).2.1 := by decide +kernel
theorem tyX1_ok : ∀ k, k < 2 → parseFieldDescriptor (TX1 k).2.2.1 = some (tyX1 k) := by decide +kernel
abbrev cX1_init : ByteArray := prog_3_method_1_code
def yX1_init : MethodName := ⟨RX1, "<init>", "(Ljava/util/ArrayList;Ljava/util/ArrayList;)V"⟩
abbrev cX1_replacing : ByteArray := prog_3_method_2_code
def yX1_replacing : MethodName := ⟨RX1, "replacing", "(ILTonguerootFamily$Language;)LTonguerootFamily$History;"⟩
abbrev cX1_lackingLoan : ByteArray := prog_3_method_3_code
def yX1_lackingLoan : MethodName := ⟨RX1, "lackingLoan", "(I)LTonguerootFamily$History;"⟩
def RX2 : String := "TonguerootFamily$Language"
def TX2 : u_T := fun k => match k with
  | 0 => ("TonguerootFamily$Language", "parent", "I", true)
  | _ => ("TonguerootFamily$Language", "laws", "Ljava/util/ArrayList;", true)
def tyX2 : Nat → FieldType := fun k => match k with
  | 0 => .int
  | _ => .object "java/util/ArrayList"
abbrev wsX20 : List Cond := u_ws RX2 TX2 2
theorem nmX2 : ∀ a, a < 2 → ∀ b, b < 2 → a ≠ b → (TX2 a).2.1 ≠ (TX2 b).2.1 := by decide +kernel
theorem tyX2_ok : ∀ k, k < 2 → parseFieldDescriptor (TX2 k).2.2.1 = some (tyX2 k) := by decide +kernel
abbrev cX2_init : ByteArray := prog_4_method_1_code
def yX2_init : MethodName := ⟨RX2, "<init>", "(I)V"⟩
abbrev cX2_lackingLaw : ByteArray := prog_4_method_2_code
def yX2_lackingLaw : MethodName := ⟨RX2, "lackingLaw", "(I)LTonguerootFamily$Language;"⟩
abbrev cX2_swappingLaw : ByteArray := prog_4_method_3_code
def yX2_swappingLaw : MethodName := ⟨RX2, "swappingLaw", "(I)LTonguerootFamily$Language;"⟩
def RX3 : String := "TonguerootFamily$Law"
def TX3 : u_T := fun k => match k with
  | 0 => ("TonguerootFamily$Law", "sounds", "I", true)
  | 1 => ("TonguerootFamily$Law", "becomes", "I", true)
  | 2 => ("TonguerootFamily$Law", "ahead", "I", true)
  | _ => ("TonguerootFamily$Law", "behind", "I", true)
def tyX3 : Nat → FieldType := fun k => match k with
  | 0 => .int
  | 1 => .int
  | 2 => .int
  | _ => .int
abbrev wsX30 : List Cond := u_ws RX3 TX3 4
theorem nmX3 : ∀ a, a < 4 → ∀ b, b < 4 → a ≠ b → (TX3 a).2.1 ≠ (TX3 b).2.1 := by decide +kernel
theorem tyX3_ok : ∀ k, k < 4 → parseFieldDescriptor (TX3 k).2.2.1 = some (tyX3 k) := by decide +kernel
abbrev cX3_init : ByteArray := prog_5_method_1_code
def yX3_init : MethodName := ⟨RX3, "<init>", "(IIII)V"⟩
abbrev cX3_goOver : ByteArray := prog_5_method_2_code
def yX3_goOver : MethodName := ⟨RX3, "goOver", "(JLTonguerootFamily$Sounds;)J"⟩
abbrev cX3_holdsAt : ByteArray := prog_5_method_3_code
def yX3_holdsAt : MethodName := ⟨RX3, "holdsAt", "(JI)Z"⟩
abbrev cX3_heirOf : ByteArray := prog_5_method_4_code
def yX3_heirOf : MethodName := ⟨RX3, "heirOf", "(ILTonguerootFamily$Sounds;)I"⟩
abbrev cX3_has : ByteArray := prog_5_method_5_code
def yX3_has : MethodName := ⟨RX3, "has", "(II)Z"⟩
def RX4 : String := "TonguerootFamily$Lexicon"
def TX4 : u_T := fun k => match k with
  | 0 => ("TonguerootFamily$Lexicon", "history", "LTonguerootFamily$History;", false)
  | 1 => ("TonguerootFamily$Lexicon", "sounds", "LTonguerootFamily$Sounds;", true)
  | 2 => ("TonguerootFamily$Lexicon", "given", "[J", true)
  | 3 => ("TonguerootFamily$Lexicon", "words", "[J", true)
  | 4 => ("TonguerootFamily$Lexicon", "origins", "[I", true)
  | 5 => ("TonguerootFamily$Lexicon", "changers", "[I", true)
  | _ => ("TonguerootFamily$Lexicon", "fresh", "[Z", true)
def tyX4 : Nat → FieldType := fun k => match k with
  | 0 => .object "TonguerootFamily$History"
  | 1 => .object "TonguerootFamily$Sounds"
  | 2 => .array .long
  | 3 => .array .long
  | 4 => .array .int
  | 5 => .array .int
  | _ => .array .boolean
abbrev wsX40 : List Cond := u_ws RX4 TX4 7
theorem nmX4 : ∀ a, a < 7 → ∀ b, b < 7 → a ≠ b → (TX4 a).2.1 ≠ (TX4 b).2.1 := by decide +kernel
theorem tyX4_ok : ∀ k, k < 7 → parseFieldDescriptor (TX4 k).2.2.1 = some (tyX4 k) := by decide +kernel
abbrev cX4_init : ByteArray := prog_6_method_1_code
def yX4_init : MethodName := ⟨RX4, "<init>", "(LTonguerootFamily$History;LTonguerootFamily$Sounds;[J)V"⟩
abbrev cX4_tellOf : ByteArray := prog_6_method_2_code
def yX4_tellOf : MethodName := ⟨RX4, "tellOf", "(LTonguerootFamily$History;)V"⟩
abbrev cX4_forget : ByteArray := prog_6_method_3_code
def yX4_forget : MethodName := ⟨RX4, "forget", "(I)V"⟩
abbrev cX4_freshenAll : ByteArray := prog_6_method_4_code
def yX4_freshenAll : MethodName := ⟨RX4, "freshenAll", "()V"⟩
abbrev cX4_freshen : ByteArray := prog_6_method_5_code
def yX4_freshen : MethodName := ⟨RX4, "freshen", "(I)V"⟩
abbrev cX4_tellWord : ByteArray := prog_6_method_6_code
def yX4_tellWord : MethodName := ⟨RX4, "tellWord", "(II)V"⟩
abbrev cX4_inherit : ByteArray := prog_6_method_7_code
def yX4_inherit : MethodName := ⟨RX4, "inherit", "(II)V"⟩
abbrev cX4_borrow : ByteArray := prog_6_method_8_code
def yX4_borrow : MethodName := ⟨RX4, "borrow", "(III)V"⟩
abbrev cX4_hasWord : ByteArray := prog_6_method_9_code
def yX4_hasWord : MethodName := ⟨RX4, "hasWord", "(II)Z"⟩
abbrev cX4_bothHave : ByteArray := prog_6_method_10_code
def yX4_bothHave : MethodName := ⟨RX4, "bothHave", "(III)Z"⟩
abbrev cX4_areKin : ByteArray := prog_6_method_11_code
def yX4_areKin : MethodName := ⟨RX4, "areKin", "(III)Z"⟩
abbrev cX4_wordOf : ByteArray := prog_6_method_12_code
def yX4_wordOf : MethodName := ⟨RX4, "wordOf", "(II)J"⟩
abbrev cX4_originOf : ByteArray := prog_6_method_13_code
def yX4_originOf : MethodName := ⟨RX4, "originOf", "(II)I"⟩
abbrev cX4_changersOf : ByteArray := prog_6_method_14_code
def yX4_changersOf : MethodName := ⟨RX4, "changersOf", "(II)I"⟩
abbrev cX4_cell : ByteArray := prog_6_method_15_code
def yX4_cell : MethodName := ⟨RX4, "cell", "(II)I"⟩
def RX5 : String := "TonguerootFamily$Loan"
def TX5 : u_T := fun k => match k with
  | 0 => ("TonguerootFamily$Loan", "meaning", "I", true)
  | 1 => ("TonguerootFamily$Loan", "from", "I", true)
  | 2 => ("TonguerootFamily$Loan", "to", "I", true)
  | _ => ("TonguerootFamily$Loan", "moment", "I", true)
def tyX5 : Nat → FieldType := fun k => match k with
  | 0 => .int
  | 1 => .int
  | 2 => .int
  | _ => .int
abbrev wsX50 : List Cond := u_ws RX5 TX5 4
theorem nmX5 : ∀ a, a < 4 → ∀ b, b < 4 → a ≠ b → (TX5 a).2.1 ≠ (TX5 b).2.1 := by decide +kernel
theorem tyX5_ok : ∀ k, k < 4 → parseFieldDescriptor (TX5 k).2.2.1 = some (tyX5 k) := by decide +kernel
abbrev cX5_init : ByteArray := prog_7_method_1_code
def yX5_init : MethodName := ⟨RX5, "<init>", "(IIII)V"⟩
abbrev cX5_comesTo : ByteArray := prog_7_method_2_code
def yX5_comesTo : MethodName := ⟨RX5, "comesTo", "(III)Z"⟩
def RX6 : String := "TonguerootFamily$Sounds"
def TX6 : u_T := fun k => match k with
  | 0 => ("TonguerootFamily$Sounds", "features", "[I", true)
  | _ => ("TonguerootFamily$Sounds", "costs", "[[I", true)
def tyX6 : Nat → FieldType := fun k => match k with
  | 0 => .array .int
  | _ => .array (.array .int)
abbrev wsX60 : List Cond := u_ws RX6 TX6 2
theorem nmX6 : ∀ a, a < 2 → ∀ b, b < 2 → a ≠ b → (TX6 a).2.1 ≠ (TX6 b).2.1 := by decide +kernel
theorem tyX6_ok : ∀ k, k < 2 → parseFieldDescriptor (TX6 k).2.2.1 = some (tyX6 k) := by decide +kernel
abbrev cX6_init : ByteArray := prog_8_method_1_code
def yX6_init : MethodName := ⟨RX6, "<init>", "()V"⟩
abbrev cX6_featuresOf : ByteArray := prog_8_method_2_code
def yX6_featuresOf : MethodName := ⟨RX6, "featuresOf", "(I)I"⟩
abbrev cX6_giveFeatures : ByteArray := prog_8_method_3_code
def yX6_giveFeatures : MethodName := ⟨RX6, "giveFeatures", "(II)V"⟩
abbrev cX6_turned : ByteArray := prog_8_method_4_code
def yX6_turned : MethodName := ⟨RX6, "turned", "(II)I"⟩
def RX7 : String := "TonguerootFamily$Votes"
def TX7 : u_T := fun k => match k with
  | _ => ("TonguerootFamily$Votes", "counts", "[I", true)
def tyX7 : Nat → FieldType := fun k => match k with
  | _ => .array .int
abbrev wsX70 : List Cond := u_ws RX7 TX7 1
theorem nmX7 : ∀ a, a < 1 → ∀ b, b < 1 → a ≠ b → (TX7 a).2.1 ≠ (TX7 b).2.1 := by decide +kernel
theorem tyX7_ok : ∀ k, k < 1 → parseFieldDescriptor (TX7 k).2.2.1 = some (tyX7 k) := by decide +kernel
abbrev cX7_init : ByteArray := prog_9_method_1_code
def yX7_init : MethodName := ⟨RX7, "<init>", "()V"⟩
abbrev cX7_clear : ByteArray := prog_9_method_2_code
def yX7_clear : MethodName := ⟨RX7, "clear", "()V"⟩
abbrev cX7_add : ByteArray := prog_9_method_3_code
def yX7_add : MethodName := ⟨RX7, "add", "(I)V"⟩
abbrev cX7_countOf : ByteArray := prog_9_method_4_code
def yX7_countOf : MethodName := ⟨RX7, "countOf", "(I)I"⟩
abbrev cX7_winner : ByteArray := prog_9_method_5_code
def yX7_winner : MethodName := ⟨RX7, "winner", "()I"⟩
def RX8 : String := "TonguerootFamily$Word"
def TX8 : u_T := fun k => match k with
  | _ => ("", "", "", false)
def tyX8 : Nat → FieldType := fun k => match k with
  | _ => .int
abbrev wsX80 : List Cond := u_ws RX8 TX8 0
theorem nmX8 : ∀ a, a < 0 → ∀ b, b < 0 → a ≠ b → (TX8 a).2.1 ≠ (TX8 b).2.1 := by decide +kernel
theorem tyX8_ok : ∀ k, k < 0 → parseFieldDescriptor (TX8 k).2.2.1 = some (tyX8 k) := by decide +kernel
abbrev cX8_size : ByteArray := prog_10_method_2_code
def yX8_size : MethodName := ⟨RX8, "size", "(J)I"⟩
abbrev cX8_at : ByteArray := prog_10_method_3_code
def yX8_at : MethodName := ⟨RX8, "at", "(JI)I"⟩
abbrev cX8_plus : ByteArray := prog_10_method_4_code
def yX8_plus : MethodName := ⟨RX8, "plus", "(JI)J"⟩
def RX9 : String := "TonguerootFamily"
def TX9 : u_T := fun k => match k with
  | 0 => ("TonguerootFamily", "sounds", "LTonguerootFamily$Sounds;", true)
  | 1 => ("TonguerootFamily", "given", "[J", true)
  | 2 => ("TonguerootFamily", "open", "I", false)
  | 3 => ("TonguerootFamily", "history", "LTonguerootFamily$History;", true)
  | 4 => ("TonguerootFamily", "actual", "LTonguerootFamily$Lexicon;", true)
  | 5 => ("TonguerootFamily", "unlent", "LTonguerootFamily$Lexicon;", true)
  | 6 => ("TonguerootFamily", "supposed", "LTonguerootFamily$Lexicon;", true)
  | 7 => ("TonguerootFamily", "alignment", "LTonguerootFamily$Alignment;", true)
  | 8 => ("TonguerootFamily", "votes", "[LTonguerootFamily$Votes;", true)
  | _ => ("TonguerootFamily", "knownCosts", "[[I", true)
def tyX9 : Nat → FieldType := fun k => match k with
  | 0 => .object "TonguerootFamily$Sounds"
  | 1 => .array .long
  | 2 => .int
  | 3 => .object "TonguerootFamily$History"
  | 4 => .object "TonguerootFamily$Lexicon"
  | 5 => .object "TonguerootFamily$Lexicon"
  | 6 => .object "TonguerootFamily$Lexicon"
  | 7 => .object "TonguerootFamily$Alignment"
  | 8 => .array (.object "TonguerootFamily$Votes")
  | _ => .array (.array .int)
abbrev wsX90 : List Cond := u_ws RX9 TX9 10
theorem nmX9 : ∀ a, a < 10 → ∀ b, b < 10 → a ≠ b → (TX9 a).2.1 ≠ (TX9 b).2.1 := by decide +kernel
theorem tyX9_ok : ∀ k, k < 10 → parseFieldDescriptor (TX9 k).2.2.1 = some (tyX9 k) := by decide +kernel
abbrev cX9_init : ByteArray := prog_1_method_1_code
def yX9_init : MethodName := ⟨RX9, "<init>", "()V"⟩
abbrev cX9_motherAlone : ByteArray := prog_1_method_2_code
def yX9_motherAlone : MethodName := ⟨RX9, "motherAlone", "()Ljava/util/ArrayList;"⟩
abbrev cX9_setSound : ByteArray := prog_1_method_3_code
def yX9_setSound : MethodName := ⟨RX9, "setSound", "(II)I"⟩
abbrev cX9_word : ByteArray := prog_1_method_4_code
def yX9_word : MethodName := ⟨RX9, "word", "(I)I"⟩
abbrev cX9_spell : ByteArray := prog_1_method_5_code
def yX9_spell : MethodName := ⟨RX9, "spell", "(I)I"⟩
abbrev cX9_language : ByteArray := prog_1_method_6_code
def yX9_language : MethodName := ⟨RX9, "language", "(I)I"⟩
abbrev cX9_law : ByteArray := prog_1_method_7_code
def yX9_law : MethodName := ⟨RX9, "law", "(IIIII)I"⟩
abbrev cX9_unlaw : ByteArray := prog_1_method_8_code
def yX9_unlaw : MethodName := ⟨RX9, "unlaw", "(I)I"⟩
abbrev cX9_loan : ByteArray := prog_1_method_9_code
def yX9_loan : MethodName := ⟨RX9, "loan", "(IIII)I"⟩
abbrev cX9_languages : ByteArray := prog_1_method_10_code
def yX9_languages : MethodName := ⟨RX9, "languages", "()I"⟩
abbrev cX9_laws : ByteArray := prog_1_method_11_code
def yX9_laws : MethodName := ⟨RX9, "laws", "(I)I"⟩
abbrev cX9_loans : ByteArray := prog_1_method_12_code
def yX9_loans : MethodName := ⟨RX9, "loans", "()I"⟩
abbrev cX9_common : ByteArray := prog_1_method_13_code
def yX9_common : MethodName := ⟨RX9, "common", "(II)I"⟩
abbrev cX9_length : ByteArray := prog_1_method_14_code
def yX9_length : MethodName := ⟨RX9, "length", "(II)I"⟩
abbrev cX9_soundAt : ByteArray := prog_1_method_15_code
def yX9_soundAt : MethodName := ⟨RX9, "soundAt", "(III)I"⟩
abbrev cX9_origin : ByteArray := prog_1_method_16_code
def yX9_origin : MethodName := ⟨RX9, "origin", "(II)I"⟩
abbrev cX9_changedBy : ByteArray := prog_1_method_17_code
def yX9_changedBy : MethodName := ⟨RX9, "changedBy", "(II)I"⟩
abbrev cX9_wealth : ByteArray := prog_1_method_18_code
def yX9_wealth : MethodName := ⟨RX9, "wealth", "(I)I"⟩
abbrev cX9_alike : ByteArray := prog_1_method_19_code
def yX9_alike : MethodName := ⟨RX9, "alike", "(I)I"⟩
abbrev cX9_soundsOf : ByteArray := prog_1_method_20_code
def yX9_soundsOf : MethodName := ⟨RX9, "soundsOf", "(I)I"⟩
abbrev cX9_cost : ByteArray := prog_1_method_21_code
def yX9_cost : MethodName := ⟨RX9, "cost", "(III)I"⟩
abbrev cX9_columns : ByteArray := prog_1_method_22_code
def yX9_columns : MethodName := ⟨RX9, "columns", "(III)I"⟩
abbrev cX9_columnAt : ByteArray := prog_1_method_23_code
def yX9_columnAt : MethodName := ⟨RX9, "columnAt", "(IIII)I"⟩
abbrev cX9_answers : ByteArray := prog_1_method_24_code
def yX9_answers : MethodName := ⟨RX9, "answers", "(IIII)I"⟩
abbrev cX9_mainAnswer : ByteArray := prog_1_method_25_code
def yX9_mainAnswer : MethodName := ⟨RX9, "mainAnswer", "(III)I"⟩
abbrev cX9_far : ByteArray := prog_1_method_26_code
def yX9_far : MethodName := ⟨RX9, "far", "(II)D"⟩
abbrev cX9_nearest : ByteArray := prog_1_method_27_code
def yX9_nearest : MethodName := ⟨RX9, "nearest", "(I)I"⟩
abbrev cX9_recalled : ByteArray := prog_1_method_28_code
def yX9_recalled : MethodName := ⟨RX9, "recalled", "(II)I"⟩
abbrev cX9_recalledAt : ByteArray := prog_1_method_29_code
def yX9_recalledAt : MethodName := ⟨RX9, "recalledAt", "(III)I"⟩
abbrev cX9_recalledWell : ByteArray := prog_1_method_30_code
def yX9_recalledWell : MethodName := ⟨RX9, "recalledWell", "(I)I"⟩
abbrev cX9_swapped : ByteArray := prog_1_method_31_code
def yX9_swapped : MethodName := ⟨RX9, "swapped", "(II)I"⟩
abbrev cX9_without : ByteArray := prog_1_method_32_code
def yX9_without : MethodName := ⟨RX9, "without", "(II)I"⟩
abbrev cX9_withoutLoan : ByteArray := prog_1_method_33_code
def yX9_withoutLoan : MethodName := ⟨RX9, "withoutLoan", "(I)I"⟩
abbrev cX9_looksLent : ByteArray := prog_1_method_34_code
def yX9_looksLent : MethodName := ⟨RX9, "looksLent", "(II)Z"⟩
abbrev cX9_digest : ByteArray := prog_1_method_35_code
def yX9_digest : MethodName := ⟨RX9, "digest", "()J"⟩
abbrev cX9_requireThere : ByteArray := prog_1_method_36_code
def yX9_requireThere : MethodName := ⟨RX9, "requireThere", "(Z)V"⟩
abbrev cX9_refuseUnless : ByteArray := prog_1_method_37_code
def yX9_refuseUnless : MethodName := ⟨RX9, "refuseUnless", "(Z)V"⟩
abbrev cX9_requireState : ByteArray := prog_1_method_38_code
def yX9_requireState : MethodName := ⟨RX9, "requireState", "(Z)V"⟩
abbrev cX9_isSound : ByteArray := prog_1_method_39_code
def yX9_isSound : MethodName := ⟨RX9, "isSound", "(I)Z"⟩
abbrev cX9_isSoundOrNone : ByteArray := prog_1_method_40_code
def yX9_isSoundOrNone : MethodName := ⟨RX9, "isSoundOrNone", "(I)Z"⟩
abbrev cX9_isMeaning : ByteArray := prog_1_method_41_code
def yX9_isMeaning : MethodName := ⟨RX9, "isMeaning", "(I)Z"⟩
abbrev cX9_isNeighbourSet : ByteArray := prog_1_method_42_code
def yX9_isNeighbourSet : MethodName := ⟨RX9, "isNeighbourSet", "(I)Z"⟩
abbrev cX9_isLanguage : ByteArray := prog_1_method_43_code
def yX9_isLanguage : MethodName := ⟨RX9, "isLanguage", "(I)Z"⟩
abbrev cX9_isLaw : ByteArray := prog_1_method_44_code
def yX9_isLaw : MethodName := ⟨RX9, "isLaw", "(II)Z"⟩
abbrev cX9_lawsOf : ByteArray := prog_1_method_45_code
def yX9_lawsOf : MethodName := ⟨RX9, "lawsOf", "(I)Ljava/util/ArrayList;"⟩
abbrev cX9_soundIn : ByteArray := prog_1_method_46_code
def yX9_soundIn : MethodName := ⟨RX9, "soundIn", "(JI)I"⟩
abbrev cX9_forgetMeaning : ByteArray := prog_1_method_47_code
def yX9_forgetMeaning : MethodName := ⟨RX9, "forgetMeaning", "(I)V"⟩
abbrev cX9_forgetAll : ByteArray := prog_1_method_48_code
def yX9_forgetAll : MethodName := ⟨RX9, "forgetAll", "()V"⟩
abbrev cX9_countWords : ByteArray := prog_1_method_49_code
def yX9_countWords : MethodName := ⟨RX9, "countWords", "(I)I"⟩
abbrev cX9_countAlike : ByteArray := prog_1_method_50_code
def yX9_countAlike : MethodName := ⟨RX9, "countAlike", "(I)I"⟩
abbrev cX9_collectSounds : ByteArray := prog_1_method_51_code
def yX9_collectSounds : MethodName := ⟨RX9, "collectSounds", "(I)I"⟩
abbrev cX9_columnSign : ByteArray := prog_1_method_52_code
def yX9_columnSign : MethodName := ⟨RX9, "columnSign", "(I)I"⟩
abbrev cX9_leastCost : ByteArray := prog_1_method_53_code
def yX9_leastCost : MethodName := ⟨RX9, "leastCost", "(III)I"⟩
abbrev cX9_layOut : ByteArray := prog_1_method_54_code
def yX9_layOut : MethodName := ⟨RX9, "layOut", "(III)I"⟩
abbrev cX9_collectAnswers : ByteArray := prog_1_method_55_code
def yX9_collectAnswers : MethodName := ⟨RX9, "collectAnswers", "(III)V"⟩
abbrev cX9_distanceOf : ByteArray := prog_1_method_56_code
def yX9_distanceOf : MethodName := ⟨RX9, "distanceOf", "(II)D"⟩
abbrev cX9_nearestTo : ByteArray := prog_1_method_57_code
def yX9_nearestTo : MethodName := ⟨RX9, "nearestTo", "(I)I"⟩
abbrev cX9_isWitness : ByteArray := prog_1_method_58_code
def yX9_isWitness : MethodName := ⟨RX9, "isWitness", "(III)Z"⟩
abbrev cX9_recall : ByteArray := prog_1_method_59_code
def yX9_recall : MethodName := ⟨RX9, "recall", "(II)J"⟩
abbrev cX9_openVotes : ByteArray := prog_1_method_60_code
def yX9_openVotes : MethodName := ⟨RX9, "openVotes", "(J)V"⟩
abbrev cX9_castVotes : ByteArray := prog_1_method_61_code
def yX9_castVotes : MethodName := ⟨RX9, "castVotes", "(I)V"⟩
abbrev cX9_elected : ByteArray := prog_1_method_62_code
def yX9_elected : MethodName := ⟨RX9, "elected", "(I)J"⟩
abbrev cX9_countRecalledWell : ByteArray := prog_1_method_63_code
def yX9_countRecalledWell : MethodName := ⟨RX9, "countRecalledWell", "(I)I"⟩
abbrev cX9_suppose : ByteArray := prog_1_method_64_code
def yX9_suppose : MethodName := ⟨RX9, "suppose", "(ILTonguerootFamily$Language;)V"⟩
abbrev cX9_differs : ByteArray := prog_1_method_65_code
def yX9_differs : MethodName := ⟨RX9, "differs", "(LTonguerootFamily$Lexicon;II)Z"⟩
abbrev cX9_countDifferent : ByteArray := prog_1_method_66_code
def yX9_countDifferent : MethodName := ⟨RX9, "countDifferent", "(I)I"⟩
abbrev cX9_mixed : ByteArray := prog_1_method_67_code
def yX9_mixed : MethodName := ⟨RX9, "mixed", "(JJ)J"⟩
abbrev cX9_mixSounds : ByteArray := prog_1_method_68_code
def yX9_mixSounds : MethodName := ⟨RX9, "mixSounds", "(JJ)J"⟩
abbrev cX9_mixWord : ByteArray := prog_1_method_69_code
def yX9_mixWord : MethodName := ⟨RX9, "mixWord", "(JII)J"⟩
abbrev cX9_mixCosts : ByteArray := prog_1_method_70_code
def yX9_mixCosts : MethodName := ⟨RX9, "mixCosts", "(J)J"⟩
def RX10 : String := "TonguerootFamilyModel"
def TX10 : u_T := fun k => match k with
  | 0 => ("TonguerootFamilyModel", "thrown", "I", false)
  | 1 => ("TonguerootFamilyModel", "features", "[I", true)
  | 2 => ("TonguerootFamilyModel", "mother", "[J", true)
  | 3 => ("TonguerootFamilyModel", "open", "I", false)
  | 4 => ("TonguerootFamilyModel", "languages", "I", false)
  | 5 => ("TonguerootFamilyModel", "parent", "[I", true)
  | 6 => ("TonguerootFamilyModel", "laws", "[I", true)
  | 7 => ("TonguerootFamilyModel", "sounds", "[I", true)
  | 8 => ("TonguerootFamilyModel", "becomes", "[I", true)
  | 9 => ("TonguerootFamilyModel", "ahead", "[I", true)
  | 10 => ("TonguerootFamilyModel", "behind", "[I", true)
  | 11 => ("TonguerootFamilyModel", "loans", "I", false)
  | 12 => ("TonguerootFamilyModel", "loanOf", "[I", true)
  | 13 => ("TonguerootFamilyModel", "loanFrom", "[I", true)
  | 14 => ("TonguerootFamilyModel", "loanTo", "[I", true)
  | 15 => ("TonguerootFamilyModel", "moment", "[I", true)
  | 16 => ("TonguerootFamilyModel", "isLeftOut", "[Z", true)
  | 17 => ("TonguerootFamilyModel", "words", "[J", true)
  | 18 => ("TonguerootFamilyModel", "origins", "[I", true)
  | 19 => ("TonguerootFamilyModel", "changes", "[I", true)
  | 20 => ("TonguerootFamilyModel", "rest", "[I", true)
  | 21 => ("TonguerootFamilyModel", "columns", "I", false)
  | 22 => ("TonguerootFamilyModel", "first", "[I", true)
  | 23 => ("TonguerootFamilyModel", "second", "[I", true)
  | 24 => ("TonguerootFamilyModel", "ones", "[I", true)
  | 25 => ("TonguerootFamilyModel", "others", "[I", true)
  | _ => ("TonguerootFamilyModel", "votes", "[I", true)
def tyX10 : Nat → FieldType := fun k => match k with
  | 0 => .int
  | 1 => .array .int
  | 2 => .array .long
  | 3 => .int
  | 4 => .int
  | 5 => .array .int
  | 6 => .array .int
  | 7 => .array .int
  | 8 => .array .int
  | 9 => .array .int
  | 10 => .array .int
  | 11 => .int
  | 12 => .array .int
  | 13 => .array .int
  | 14 => .array .int
  | 15 => .array .int
  | 16 => .array .boolean
  | 17 => .array .long
  | 18 => .array .int
  | 19 => .array .int
  | 20 => .array .int
  | 21 => .int
  | 22 => .array .int
  | 23 => .array .int
  | 24 => .array .int
  | 25 => .array .int
  | _ => .array .int
abbrev wsX100 : List Cond := u_ws RX10 TX10 27
theorem nmX10 : ∀ a, a < 27 → ∀ b, b < 27 → a ≠ b → (TX10 a).2.1 ≠ (TX10 b).2.1 := by decide +kernel
theorem tyX10_ok : ∀ k, k < 27 → parseFieldDescriptor (TX10 k).2.2.1 = some (tyX10 k) := by decide +kernel
abbrev cX10_init : ByteArray := prog_12_method_1_code
def yX10_init : MethodName := ⟨RX10, "<init>", "()V"⟩
abbrev cX10_thrown : ByteArray := prog_12_method_2_code
def yX10_thrown : MethodName := ⟨RX10, "thrown", "()I"⟩
abbrev cX10_no : ByteArray := prog_12_method_3_code
def yX10_no : MethodName := ⟨RX10, "no", "(I)I"⟩
abbrev cX10_ok : ByteArray := prog_12_method_4_code
def yX10_ok : MethodName := ⟨RX10, "ok", "(I)I"⟩
abbrev cX10_isIn : ByteArray := prog_12_method_5_code
def yX10_isIn : MethodName := ⟨RX10, "isIn", "(III)Z"⟩
abbrev cX10_isSound : ByteArray := prog_12_method_6_code
def yX10_isSound : MethodName := ⟨RX10, "isSound", "(I)Z"⟩
abbrev cX10_isMeaning : ByteArray := prog_12_method_7_code
def yX10_isMeaning : MethodName := ⟨RX10, "isMeaning", "(I)Z"⟩
abbrev cX10_isLanguage : ByteArray := prog_12_method_8_code
def yX10_isLanguage : MethodName := ⟨RX10, "isLanguage", "(I)Z"⟩
abbrev cX10_length : ByteArray := prog_12_method_9_code
def yX10_length : MethodName := ⟨RX10, "length", "(J)I"⟩
abbrev cX10_at : ByteArray := prog_12_method_10_code
def yX10_at : MethodName := ⟨RX10, "at", "(JI)I"⟩
abbrev cX10_turned : ByteArray := prog_12_method_11_code
def yX10_turned : MethodName := ⟨RX10, "turned", "(II)I"⟩
abbrev cX10_isBeside : ByteArray := prog_12_method_12_code
def yX10_isBeside : MethodName := ⟨RX10, "isBeside", "(IZI)Z"⟩
abbrev cX10_changed : ByteArray := prog_12_method_13_code
def yX10_changed : MethodName := ⟨RX10, "changed", "(JI)J"⟩
abbrev cX10_solve : ByteArray := prog_12_method_14_code
def yX10_solve : MethodName := ⟨RX10, "solve", "()V"⟩
abbrev cX10_grow : ByteArray := prog_12_method_15_code
def yX10_grow : MethodName := ⟨RX10, "grow", "(II)V"⟩
abbrev cX10_borrow : ByteArray := prog_12_method_16_code
def yX10_borrow : MethodName := ⟨RX10, "borrow", "(IIII)V"⟩
abbrev cX10_wordOf : ByteArray := prog_12_method_17_code
def yX10_wordOf : MethodName := ⟨RX10, "wordOf", "(II)J"⟩
abbrev cX10_hasWord : ByteArray := prog_12_method_18_code
def yX10_hasWord : MethodName := ⟨RX10, "hasWord", "(II)Z"⟩
abbrev cX10_originOf : ByteArray := prog_12_method_19_code
def yX10_originOf : MethodName := ⟨RX10, "originOf", "(II)I"⟩
abbrev cX10_areKin : ByteArray := prog_12_method_20_code
def yX10_areKin : MethodName := ⟨RX10, "areKin", "(III)Z"⟩
abbrev cX10_setSound : ByteArray := prog_12_method_21_code
def yX10_setSound : MethodName := ⟨RX10, "setSound", "(II)I"⟩
abbrev cX10_word : ByteArray := prog_12_method_22_code
def yX10_word : MethodName := ⟨RX10, "word", "(I)I"⟩
abbrev cX10_spell : ByteArray := prog_12_method_23_code
def yX10_spell : MethodName := ⟨RX10, "spell", "(I)I"⟩
abbrev cX10_language : ByteArray := prog_12_method_24_code
def yX10_language : MethodName := ⟨RX10, "language", "(I)I"⟩
abbrev cX10_law : ByteArray := prog_12_method_25_code
def yX10_law : MethodName := ⟨RX10, "law", "(IIIII)I"⟩
abbrev cX10_unlaw : ByteArray := prog_12_method_26_code
def yX10_unlaw : MethodName := ⟨RX10, "unlaw", "(I)I"⟩
abbrev cX10_loan : ByteArray := prog_12_method_27_code
def yX10_loan : MethodName := ⟨RX10, "loan", "(IIII)I"⟩
abbrev cX10_languages : ByteArray := prog_12_method_28_code
def yX10_languages : MethodName := ⟨RX10, "languages", "()I"⟩
abbrev cX10_laws : ByteArray := prog_12_method_29_code
def yX10_laws : MethodName := ⟨RX10, "laws", "(I)I"⟩
abbrev cX10_loans : ByteArray := prog_12_method_30_code
def yX10_loans : MethodName := ⟨RX10, "loans", "()I"⟩
abbrev cX10_common : ByteArray := prog_12_method_31_code
def yX10_common : MethodName := ⟨RX10, "common", "(II)I"⟩
abbrev cX10_isAsked : ByteArray := prog_12_method_32_code
def yX10_isAsked : MethodName := ⟨RX10, "isAsked", "(II)Z"⟩
abbrev cX10_length_ : ByteArray := prog_12_method_33_code
def yX10_length_ : MethodName := ⟨RX10, "length", "(II)I"⟩
abbrev cX10_soundAt : ByteArray := prog_12_method_34_code
def yX10_soundAt : MethodName := ⟨RX10, "soundAt", "(III)I"⟩
abbrev cX10_origin : ByteArray := prog_12_method_35_code
def yX10_origin : MethodName := ⟨RX10, "origin", "(II)I"⟩
abbrev cX10_changesOf : ByteArray := prog_12_method_36_code
def yX10_changesOf : MethodName := ⟨RX10, "changesOf", "(II)I"⟩
abbrev cX10_changedBy : ByteArray := prog_12_method_37_code
def yX10_changedBy : MethodName := ⟨RX10, "changedBy", "(II)I"⟩
abbrev cX10_wealthOf : ByteArray := prog_12_method_38_code
def yX10_wealthOf : MethodName := ⟨RX10, "wealthOf", "(I)I"⟩
abbrev cX10_wealth : ByteArray := prog_12_method_39_code
def yX10_wealth : MethodName := ⟨RX10, "wealth", "(I)I"⟩
abbrev cX10_alikeIn : ByteArray := prog_12_method_40_code
def yX10_alikeIn : MethodName := ⟨RX10, "alikeIn", "(I)I"⟩
abbrev cX10_alike : ByteArray := prog_12_method_41_code
def yX10_alike : MethodName := ⟨RX10, "alike", "(I)I"⟩
abbrev cX10_soundsIn : ByteArray := prog_12_method_42_code
def yX10_soundsIn : MethodName := ⟨RX10, "soundsIn", "(I)I"⟩
abbrev cX10_soundsOf : ByteArray := prog_12_method_43_code
def yX10_soundsOf : MethodName := ⟨RX10, "soundsOf", "(I)I"⟩
abbrev cX10_costOf : ByteArray := prog_12_method_44_code
def yX10_costOf : MethodName := ⟨RX10, "costOf", "(II)I"⟩
abbrev cX10_restAt : ByteArray := prog_12_method_45_code
def yX10_restAt : MethodName := ⟨RX10, "restAt", "(II)I"⟩
abbrev cX10_spread : ByteArray := prog_12_method_46_code
def yX10_spread : MethodName := ⟨RX10, "spread", "(J[I)I"⟩
abbrev cX10_align : ByteArray := prog_12_method_47_code
def yX10_align : MethodName := ⟨RX10, "align", "(JJ)I"⟩
abbrev cX10_areAsked : ByteArray := prog_12_method_48_code
def yX10_areAsked : MethodName := ⟨RX10, "areAsked", "(III)Z"⟩
abbrev cX10_costNow : ByteArray := prog_12_method_49_code
def yX10_costNow : MethodName := ⟨RX10, "costNow", "(III)I"⟩
abbrev cX10_cost : ByteArray := prog_12_method_50_code
def yX10_cost : MethodName := ⟨RX10, "cost", "(III)I"⟩
abbrev cX10_columnsNow : ByteArray := prog_12_method_51_code
def yX10_columnsNow : MethodName := ⟨RX10, "columnsNow", "(III)I"⟩
abbrev cX10_columns : ByteArray := prog_12_method_52_code
def yX10_columns : MethodName := ⟨RX10, "columns", "(III)I"⟩
abbrev cX10_columnAt : ByteArray := prog_12_method_53_code
def yX10_columnAt : MethodName := ⟨RX10, "columnAt", "(IIII)I"⟩
abbrev cX10_answersNow : ByteArray := prog_12_method_54_code
def yX10_answersNow : MethodName := ⟨RX10, "answersNow", "(IIII)I"⟩
abbrev cX10_answers : ByteArray := prog_12_method_55_code
def yX10_answers : MethodName := ⟨RX10, "answers", "(IIII)I"⟩
abbrev cX10_mainAnswer : ByteArray := prog_12_method_56_code
def yX10_mainAnswer : MethodName := ⟨RX10, "mainAnswer", "(III)I"⟩
abbrev cX10_shared : ByteArray := prog_12_method_57_code
def yX10_shared : MethodName := ⟨RX10, "shared", "(II)I"⟩
abbrev cX10_costs : ByteArray := prog_12_method_58_code
def yX10_costs : MethodName := ⟨RX10, "costs", "()[I"⟩
abbrev cX10_farBy : ByteArray := prog_12_method_59_code
def yX10_farBy : MethodName := ⟨RX10, "farBy", "([III)D"⟩
abbrev cX10_far : ByteArray := prog_12_method_60_code
def yX10_far : MethodName := ⟨RX10, "far", "(II)D"⟩
abbrev cX10_nearestBy : ByteArray := prog_12_method_61_code
def yX10_nearestBy : MethodName := ⟨RX10, "nearestBy", "([II)I"⟩
abbrev cX10_nearest : ByteArray := prog_12_method_62_code
def yX10_nearest : MethodName := ⟨RX10, "nearest", "(I)I"⟩
abbrev cX10_recalledNow : ByteArray := prog_12_method_63_code
def yX10_recalledNow : MethodName := ⟨RX10, "recalledNow", "(II)J"⟩
abbrev cX10_recalled : ByteArray := prog_12_method_64_code
def yX10_recalled : MethodName := ⟨RX10, "recalled", "(II)I"⟩
abbrev cX10_recalledAt : ByteArray := prog_12_method_65_code
def yX10_recalledAt : MethodName := ⟨RX10, "recalledAt", "(III)I"⟩
abbrev cX10_wellNow : ByteArray := prog_12_method_66_code
def yX10_wellNow : MethodName := ⟨RX10, "wellNow", "(I)I"⟩
abbrev cX10_recalledWell : ByteArray := prog_12_method_67_code
def yX10_recalledWell : MethodName := ⟨RX10, "recalledWell", "(I)I"⟩
abbrev cX10_told : ByteArray := prog_12_method_68_code
def yX10_told : MethodName := ⟨RX10, "told", "()[J"⟩
abbrev cX10_unlike : ByteArray := prog_12_method_69_code
def yX10_unlike : MethodName := ⟨RX10, "unlike", "([JII)I"⟩
abbrev cX10_swap : ByteArray := prog_12_method_70_code
def yX10_swap : MethodName := ⟨RX10, "swap", "([III)V"⟩
abbrev cX10_swapLaws : ByteArray := prog_12_method_71_code
def yX10_swapLaws : MethodName := ⟨RX10, "swapLaws", "(II)V"⟩
abbrev cX10_swapped : ByteArray := prog_12_method_72_code
def yX10_swapped : MethodName := ⟨RX10, "swapped", "(II)I"⟩
abbrev cX10_without : ByteArray := prog_12_method_73_code
def yX10_without : MethodName := ⟨RX10, "without", "(II)I"⟩
abbrev cX10_withoutLoan : ByteArray := prog_12_method_74_code
def yX10_withoutLoan : MethodName := ⟨RX10, "withoutLoan", "(I)I"⟩
abbrev cX10_unlent : ByteArray := prog_12_method_75_code
def yX10_unlent : MethodName := ⟨RX10, "unlent", "()[J"⟩
abbrev cX10_looksLent : ByteArray := prog_12_method_76_code
def yX10_looksLent : MethodName := ⟨RX10, "looksLent", "(II)Z"⟩
abbrev cX10_digest : ByteArray := prog_12_method_77_code
def yX10_digest : MethodName := ⟨RX10, "digest", "()J"⟩
def RJx145de : String := "java/io/Serializable"
def TJx145de : u_T := fun k => match k with
  | _ => ("", "", "", false)
def tyJx145de : Nat → FieldType := fun k => match k with
  | _ => .int
abbrev wsJx145de0 : List Cond := u_ws RJx145de TJx145de 0
theorem nmJx145de : ∀ a, a < 0 → ∀ b, b < 0 → a ≠ b → (TJx145de a).2.1 ≠ (TJx145de b).2.1 := by decide +kernel
theorem tyJx145de_ok : ∀ k, k < 0 → parseFieldDescriptor (TJx145de k).2.2.1 = some (tyJx145de k) := by decide +kernel
def RJ5 : String := "java/lang/AbstractStringBuilder"
def TJ5 : u_T := fun k => match k with
  | _ => ("", "", "", false)
def tyJ5 : Nat → FieldType := fun k => match k with
  | _ => .int
abbrev wsJ50 : List Cond := u_ws RJ5 TJ5 0
theorem nmJ5 : ∀ a, a < 0 → ∀ b, b < 0 → a ≠ b → (TJ5 a).2.1 ≠ (TJ5 b).2.1 := by decide +kernel
theorem tyJ5_ok : ∀ k, k < 0 → parseFieldDescriptor (TJ5 k).2.2.1 = some (tyJ5 k) := by decide +kernel
abbrev cJ5_init_d00df : ByteArray := prog_14_method_2_code
def yJ5_init_d00df : MethodName := ⟨RJ5, "<init>", "(I)V"⟩
abbrev cJ5_length_8abf5 : ByteArray := prog_14_method_6_code
def yJ5_length_8abf5 : MethodName := ⟨RJ5, "length", "()I"⟩
abbrev cJ5_ensureCapacityInternal_d00df : ByteArray := prog_14_method_9_code
def yJ5_ensureCapacityInternal_d00df : MethodName := ⟨RJ5, "ensureCapacityInternal", "(I)V"⟩
abbrev cJ5_newCapacity_0f7a4 : ByteArray := prog_14_method_10_code
def yJ5_newCapacity_0f7a4 : MethodName := ⟨RJ5, "newCapacity", "(I)I"⟩
abbrev cJ5_inflate_da8c8 : ByteArray := prog_14_method_11_code
def yJ5_inflate_da8c8 : MethodName := ⟨RJ5, "inflate", "()V"⟩
abbrev cJ5_append_cf1ce : ByteArray := prog_14_method_22_code
def yJ5_append_cf1ce : MethodName := ⟨RJ5, "append", "(Ljava/lang/String;)Ljava/lang/AbstractStringBuilder;"⟩
abbrev cJ5_appendNull_278bc : ByteArray := prog_14_method_26_code
def yJ5_appendNull_278bc : MethodName := ⟨RJ5, "appendNull", "()Ljava/lang/AbstractStringBuilder;"⟩
abbrev cJ5_append_c97b9 : ByteArray := prog_14_method_32_code
def yJ5_append_c97b9 : MethodName := ⟨RJ5, "append", "(I)Ljava/lang/AbstractStringBuilder;"⟩
abbrev cJ5_getValue_6d5f1 : ByteArray := prog_14_method_64_code
def yJ5_getValue_6d5f1 : MethodName := ⟨RJ5, "getValue", "()[B"⟩
abbrev cJ5_isLatin1_aae02 : ByteArray := prog_14_method_68_code
def yJ5_isLatin1_aae02 : MethodName := ⟨RJ5, "isLatin1", "()Z"⟩
abbrev cJ5_inflateIfNeededFor_a7421 : ByteArray := prog_14_method_71_code
def yJ5_inflateIfNeededFor_a7421 : MethodName := ⟨RJ5, "inflateIfNeededFor", "(Ljava/lang/String;)V"⟩
abbrev cJ5_putStringAt_47b60 : ByteArray := prog_14_method_73_code
def yJ5_putStringAt_47b60 : MethodName := ⟨RJ5, "putStringAt", "(ILjava/lang/String;)V"⟩
def RJx2cfe8 : String := "java/lang/Appendable"
def TJx2cfe8 : u_T := fun k => match k with
  | _ => ("", "", "", false)
def tyJx2cfe8 : Nat → FieldType := fun k => match k with
  | _ => .int
abbrev wsJx2cfe80 : List Cond := u_ws RJx2cfe8 TJx2cfe8 0
theorem nmJx2cfe8 : ∀ a, a < 0 → ∀ b, b < 0 → a ≠ b → (TJx2cfe8 a).2.1 ≠ (TJx2cfe8 b).2.1 := by decide +kernel
theorem tyJx2cfe8_ok : ∀ k, k < 0 → parseFieldDescriptor (TJx2cfe8 k).2.2.1 = some (tyJx2cfe8 k) := by decide +kernel
def RJx9f9b0 : String := "java/lang/CharSequence"
def TJx9f9b0 : u_T := fun k => match k with
  | _ => ("", "", "", false)
def tyJx9f9b0 : Nat → FieldType := fun k => match k with
  | _ => .int
abbrev wsJx9f9b00 : List Cond := u_ws RJx9f9b0 TJx9f9b0 0
theorem nmJx9f9b0 : ∀ a, a < 0 → ∀ b, b < 0 → a ≠ b → (TJx9f9b0 a).2.1 ≠ (TJx9f9b0 b).2.1 := by decide +kernel
theorem tyJx9f9b0_ok : ∀ k, k < 0 → parseFieldDescriptor (TJx9f9b0 k).2.2.1 = some (tyJx9f9b0 k) := by decide +kernel
def RJx8e188 : String := "java/lang/Cloneable"
def TJx8e188 : u_T := fun k => match k with
  | _ => ("", "", "", false)
def tyJx8e188 : Nat → FieldType := fun k => match k with
  | _ => .int
abbrev wsJx8e1880 : List Cond := u_ws RJx8e188 TJx8e188 0
theorem nmJx8e188 : ∀ a, a < 0 → ∀ b, b < 0 → a ≠ b → (TJx8e188 a).2.1 ≠ (TJx8e188 b).2.1 := by decide +kernel
theorem tyJx8e188_ok : ∀ k, k < 0 → parseFieldDescriptor (TJx8e188 k).2.2.1 = some (tyJx8e188 k) := by decide +kernel
def RJxb160c : String := "java/lang/Comparable"
def TJxb160c : u_T := fun k => match k with
  | _ => ("", "", "", false)
def tyJxb160c : Nat → FieldType := fun k => match k with
  | _ => .int
abbrev wsJxb160c0 : List Cond := u_ws RJxb160c TJxb160c 0
theorem nmJxb160c : ∀ a, a < 0 → ∀ b, b < 0 → a ≠ b → (TJxb160c a).2.1 ≠ (TJxb160c b).2.1 := by decide +kernel
theorem tyJxb160c_ok : ∀ k, k < 0 → parseFieldDescriptor (TJxb160c k).2.2.1 = some (tyJxb160c k) := by decide +kernel
def RJ6 : String := "java/lang/Integer"
def TJ6 : u_T := fun k => match k with
  | _ => ("", "", "", false)
def tyJ6 : Nat → FieldType := fun k => match k with
  | _ => .int
abbrev wsJ60 : List Cond := u_ws RJ6 TJ6 0
theorem nmJ6 : ∀ a, a < 0 → ∀ b, b < 0 → a ≠ b → (TJ6 a).2.1 ≠ (TJ6 b).2.1 := by decide +kernel
theorem tyJ6_ok : ∀ k, k < 0 → parseFieldDescriptor (TJ6 k).2.2.1 = some (tyJ6 k) := by decide +kernel
abbrev cJ6_getChars_ba4f3 : ByteArray := prog_23_method_12_code
def yJ6_getChars_ba4f3 : MethodName := ⟨RJ6, "getChars", "(II[B)I"⟩
abbrev cJ6_stringSize_0f7a4 : ByteArray := prog_23_method_13_code
def yJ6_stringSize_0f7a4 : MethodName := ⟨RJ6, "stringSize", "(I)I"⟩
abbrev cJ6_bitCount_0f7a4 : ByteArray := prog_23_method_49_code
def yJ6_bitCount_0f7a4 : MethodName := ⟨RJ6, "bitCount", "(I)I"⟩
def RJxab1ab : String := "java/lang/Iterable"
def TJxab1ab : u_T := fun k => match k with
  | _ => ("", "", "", false)
def tyJxab1ab : Nat → FieldType := fun k => match k with
  | _ => .int
abbrev wsJxab1ab0 : List Cond := u_ws RJxab1ab TJxab1ab 0
theorem nmJxab1ab : ∀ a, a < 0 → ∀ b, b < 0 → a ≠ b → (TJxab1ab a).2.1 ≠ (TJxab1ab b).2.1 := by decide +kernel
theorem tyJxab1ab_ok : ∀ k, k < 0 → parseFieldDescriptor (TJxab1ab k).2.2.1 = some (tyJxab1ab k) := by decide +kernel
def RJ9 : String := "java/lang/Math"
def TJ9 : u_T := fun k => match k with
  | _ => ("", "", "", false)
def tyJ9 : Nat → FieldType := fun k => match k with
  | _ => .int
abbrev wsJ90 : List Cond := u_ws RJ9 TJ9 0
theorem nmJ9 : ∀ a, a < 0 → ∀ b, b < 0 → a ≠ b → (TJ9 a).2.1 ≠ (TJ9 b).2.1 := by decide +kernel
theorem tyJ9_ok : ∀ k, k < 0 → parseFieldDescriptor (TJ9 k).2.2.1 = some (tyJ9 k) := by decide +kernel
abbrev cJ9_max_7cf53 : ByteArray := prog_25_method_65_code
def yJ9_max_7cf53 : MethodName := ⟨RJ9, "max", "(II)I"⟩
abbrev cJ9_min_7cf53 : ByteArray := prog_25_method_69_code
def yJ9_min_7cf53 : MethodName := ⟨RJ9, "min", "(II)I"⟩
def RJxd2413 : String := "java/lang/Number"
def TJxd2413 : u_T := fun k => match k with
  | _ => ("", "", "", false)
def tyJxd2413 : Nat → FieldType := fun k => match k with
  | _ => .int
abbrev wsJxd24130 : List Cond := u_ws RJxd2413 TJxd2413 0
theorem nmJxd2413 : ∀ a, a < 0 → ∀ b, b < 0 → a ≠ b → (TJxd2413 a).2.1 ≠ (TJxd2413 b).2.1 := by decide +kernel
theorem tyJxd2413_ok : ∀ k, k < 0 → parseFieldDescriptor (TJxd2413 k).2.2.1 = some (tyJxd2413 k) := by decide +kernel
def RJ0 : String := "java/lang/String"
def TJ0 : u_T := fun k => match k with
  | 0 => ("java/lang/String", "value", "[B", true)
  | 1 => ("java/lang/String", "coder", "B", true)
  | 2 => ("java/lang/String", "hash", "I", false)
  | _ => ("java/lang/String", "hashIsZero", "Z", false)
def tyJ0 : Nat → FieldType := fun k => match k with
  | 0 => .array .byte
  | 1 => .byte
  | 2 => .int
  | _ => .boolean
abbrev wsJ00 : List Cond := u_ws RJ0 TJ0 4
theorem nmJ0 : ∀ a, a < 4 → ∀ b, b < 4 → a ≠ b → (TJ0 a).2.1 ≠ (TJ0 b).2.1 := by decide +kernel
theorem tyJ0_ok : ∀ k, k < 4 → parseFieldDescriptor (TJ0 k).2.2.1 = some (tyJ0 k) := by decide +kernel
abbrev cJ0_init_81219 : ByteArray := prog_28_method_53_code
def yJ0_init_81219 : MethodName := ⟨RJ0, "<init>", "(Ljava/lang/StringBuilder;)V"⟩
abbrev cJ0_length_8abf5 : ByteArray := prog_28_method_54_code
def yJ0_length_8abf5 : MethodName := ⟨RJ0, "length", "()I"⟩
abbrev cJ0_getBytes_840e7 : ByteArray := prog_28_method_147_code
def yJ0_getBytes_840e7 : MethodName := ⟨RJ0, "getBytes", "([BIB)V"⟩
abbrev cJ0_init_db425 : ByteArray := prog_28_method_150_code
def yJ0_init_db425 : MethodName := ⟨RJ0, "<init>", "(Ljava/lang/AbstractStringBuilder;Ljava/lang/Void;)V"⟩
abbrev cJ0_coder_7d493 : ByteArray := prog_28_method_152_code
def yJ0_coder_7d493 : MethodName := ⟨RJ0, "coder", "()B"⟩
abbrev cJ0_checkBoundsOffCount_cabcc : ByteArray := prog_28_method_157_code
def yJ0_checkBoundsOffCount_cabcc : MethodName := ⟨RJ0, "checkBoundsOffCount", "(III)I"⟩
abbrev cJ0_checkBoundsBeginEnd_23922 : ByteArray := prog_28_method_158_code
def yJ0_checkBoundsBeginEnd_23922 : MethodName := ⟨RJ0, "checkBoundsBeginEnd", "(III)V"⟩
def RJ4 : String := "java/lang/StringBuilder"
def TJ4 : u_T := fun k => match k with
  | 0 => ("java/lang/AbstractStringBuilder", "value", "[B", false)
  | 1 => ("java/lang/AbstractStringBuilder", "coder", "B", false)
  | 2 => ("java/lang/AbstractStringBuilder", "maybeLatin1", "Z", false)
  | _ => ("java/lang/AbstractStringBuilder", "count", "I", false)
def tyJ4 : Nat → FieldType := fun k => match k with
  | 0 => .array .byte
  | 1 => .byte
  | 2 => .boolean
  | _ => .int
abbrev wsJ40 : List Cond := u_ws RJ4 TJ4 4
theorem nmJ4 : ∀ a, a < 4 → ∀ b, b < 4 → a ≠ b → (TJ4 a).2.1 ≠ (TJ4 b).2.1 := by decide +kernel
theorem tyJ4_ok : ∀ k, k < 4 → parseFieldDescriptor (TJ4 k).2.2.1 = some (tyJ4 k) := by decide +kernel
abbrev cJ4_init_da8c8 : ByteArray := prog_29_method_1_code
def yJ4_init_da8c8 : MethodName := ⟨RJ4, "<init>", "()V"⟩
abbrev cJ4_append_15ec4 : ByteArray := prog_29_method_7_code
def yJ4_append_15ec4 : MethodName := ⟨RJ4, "append", "(Ljava/lang/String;)Ljava/lang/StringBuilder;"⟩
abbrev cJ4_append_bf812 : ByteArray := prog_29_method_15_code
def yJ4_append_bf812 : MethodName := ⟨RJ4, "append", "(I)Ljava/lang/StringBuilder;"⟩
abbrev cJ4_toString_0e30d : ByteArray := prog_29_method_42_code
def yJ4_toString_0e30d : MethodName := ⟨RJ4, "toString", "()Ljava/lang/String;"⟩
abbrev cJ4_length_8abf5 : ByteArray := prog_29_method_93_code
def yJ4_length_8abf5 : MethodName := ⟨RJ4, "length", "()I"⟩
def RJ1 : String := "java/lang/StringLatin1"
def TJ1 : u_T := fun k => match k with
  | _ => ("", "", "", false)
def tyJ1 : Nat → FieldType := fun k => match k with
  | _ => .int
abbrev wsJ10 : List Cond := u_ws RJ1 TJ1 0
theorem nmJ1 : ∀ a, a < 0 → ∀ b, b < 0 → a ≠ b → (TJ1 a).2.1 ≠ (TJ1 b).2.1 := by decide +kernel
theorem tyJ1_ok : ∀ k, k < 0 → parseFieldDescriptor (TJ1 k).2.2.1 = some (tyJ1 k) := by decide +kernel
abbrev cJ1_inflate_0e8fd : ByteArray := prog_30_method_50_code
def yJ1_inflate_0e8fd : MethodName := ⟨RJ1, "inflate", "([BI[BII)V"⟩
def RJ2 : String := "java/lang/StringUTF16"
def TJ2 : u_T := fun k => match k with
  | _ => ("", "", "", false)
def tyJ2 : Nat → FieldType := fun k => match k with
  | _ => .int
abbrev wsJ20 : List Cond := u_ws RJ2 TJ2 0
theorem nmJ2 : ∀ a, a < 0 → ∀ b, b < 0 → a ≠ b → (TJ2 a).2.1 ≠ (TJ2 b).2.1 := by decide +kernel
theorem tyJ2_ok : ∀ k, k < 0 → parseFieldDescriptor (TJ2 k).2.2.1 = some (tyJ2 k) := by decide +kernel
abbrev cJ2_newBytesFor_77867 : ByteArray := prog_31_method_2_code
def yJ2_newBytesFor_77867 : MethodName := ⟨RJ2, "newBytesFor", "(I)[B"⟩
abbrev cJ2_newBytesLength_0f7a4 : ByteArray := prog_31_method_3_code
def yJ2_newBytesLength_0f7a4 : MethodName := ⟨RJ2, "newBytesLength", "(I)I"⟩
abbrev cJ2_putChar_b72d1 : ByteArray := prog_31_method_4_code
def yJ2_putChar_b72d1 : MethodName := ⟨RJ2, "putChar", "([BII)V"⟩
abbrev cJ2_getChar_3b067 : ByteArray := prog_31_method_5_code
def yJ2_getChar_3b067 : MethodName := ⟨RJ2, "getChar", "([BI)C"⟩
abbrev cJ2_length_9d52b : ByteArray := prog_31_method_6_code
def yJ2_length_9d52b : MethodName := ⟨RJ2, "length", "([B)I"⟩
abbrev cJ2_coderFromArrayLen_85cad : ByteArray := prog_31_method_15_code
def yJ2_coderFromArrayLen_85cad : MethodName := ⟨RJ2, "coderFromArrayLen", "([BI)B"⟩
abbrev cJ2_compress_39247 : ByteArray := prog_31_method_17_code
def yJ2_compress_39247 : MethodName := ⟨RJ2, "compress", "([BII)[B"⟩
abbrev cJ2_compress_5af95 : ByteArray := prog_31_method_22_code
def yJ2_compress_5af95 : MethodName := ⟨RJ2, "compress", "([BI[BII)I"⟩
abbrev cJ2_getChars_46870 : ByteArray := prog_31_method_77_code
def yJ2_getChars_46870 : MethodName := ⟨RJ2, "getChars", "(III[B)I"⟩
abbrev cJ2_putCharsAt_cd4e5 : ByteArray := prog_31_method_81_code
def yJ2_putCharsAt_cd4e5 : MethodName := ⟨RJ2, "putCharsAt", "([BICCCC)I"⟩
abbrev cJ2_inflate_0e8fd : ByteArray := prog_31_method_86_code
def yJ2_inflate_0e8fd : MethodName := ⟨RJ2, "inflate", "([BI[BII)V"⟩
abbrev cJ2_getChars_ba4f3 : ByteArray := prog_31_method_89_code
def yJ2_getChars_ba4f3 : MethodName := ⟨RJ2, "getChars", "(II[B)I"⟩
abbrev cJ2_checkBoundsBeginEnd_d044e : ByteArray := prog_31_method_93_code
def yJ2_checkBoundsBeginEnd_d044e : MethodName := ⟨RJ2, "checkBoundsBeginEnd", "(II[B)V"⟩
abbrev cJ2_checkBoundsOffCount_d044e : ByteArray := prog_31_method_94_code
def yJ2_checkBoundsOffCount_d044e : MethodName := ⟨RJ2, "checkBoundsOffCount", "(II[B)V"⟩
def RJ10 : String := "java/lang/System"
def TJ10 : u_T := fun k => match k with
  | _ => ("", "", "", false)
def tyJ10 : Nat → FieldType := fun k => match k with
  | _ => .int
abbrev wsJ100 : List Cond := u_ws RJ10 TJ10 0
theorem nmJ10 : ∀ a, a < 0 → ∀ b, b < 0 → a ≠ b → (TJ10 a).2.1 ≠ (TJ10 b).2.1 := by decide +kernel
theorem tyJ10_ok : ∀ k, k < 0 → parseFieldDescriptor (TJ10 k).2.2.1 = some (tyJ10 k) := by decide +kernel
def RJxfd54e : String := "java/lang/constant/Constable"
def TJxfd54e : u_T := fun k => match k with
  | _ => ("", "", "", false)
def tyJxfd54e : Nat → FieldType := fun k => match k with
  | _ => .int
abbrev wsJxfd54e0 : List Cond := u_ws RJxfd54e TJxfd54e 0
theorem nmJxfd54e : ∀ a, a < 0 → ∀ b, b < 0 → a ≠ b → (TJxfd54e a).2.1 ≠ (TJxfd54e b).2.1 := by decide +kernel
theorem tyJxfd54e_ok : ∀ k, k < 0 → parseFieldDescriptor (TJxfd54e k).2.2.1 = some (tyJxfd54e k) := by decide +kernel
def RJx3cf43 : String := "java/lang/constant/ConstantDesc"
def TJx3cf43 : u_T := fun k => match k with
  | _ => ("", "", "", false)
def tyJx3cf43 : Nat → FieldType := fun k => match k with
  | _ => .int
abbrev wsJx3cf430 : List Cond := u_ws RJx3cf43 TJx3cf43 0
theorem nmJx3cf43 : ∀ a, a < 0 → ∀ b, b < 0 → a ≠ b → (TJx3cf43 a).2.1 ≠ (TJx3cf43 b).2.1 := by decide +kernel
theorem tyJx3cf43_ok : ∀ k, k < 0 → parseFieldDescriptor (TJx3cf43 k).2.2.1 = some (tyJx3cf43 k) := by decide +kernel
def RJxa1e45 : String := "java/util/AbstractCollection"
def TJxa1e45 : u_T := fun k => match k with
  | _ => ("", "", "", false)
def tyJxa1e45 : Nat → FieldType := fun k => match k with
  | _ => .int
abbrev wsJxa1e450 : List Cond := u_ws RJxa1e45 TJxa1e45 0
theorem nmJxa1e45 : ∀ a, a < 0 → ∀ b, b < 0 → a ≠ b → (TJxa1e45 a).2.1 ≠ (TJxa1e45 b).2.1 := by decide +kernel
theorem tyJxa1e45_ok : ∀ k, k < 0 → parseFieldDescriptor (TJxa1e45 k).2.2.1 = some (tyJxa1e45 k) := by decide +kernel
abbrev cJxa1e45_init_da8c8 : ByteArray := prog_36_method_1_code
def yJxa1e45_init_da8c8 : MethodName := ⟨RJxa1e45, "<init>", "()V"⟩
def RJxc12de : String := "java/util/AbstractList"
def TJxc12de : u_T := fun k => match k with
  | _ => ("", "", "", false)
def tyJxc12de : Nat → FieldType := fun k => match k with
  | _ => .int
abbrev wsJxc12de0 : List Cond := u_ws RJxc12de TJxc12de 0
theorem nmJxc12de : ∀ a, a < 0 → ∀ b, b < 0 → a ≠ b → (TJxc12de a).2.1 ≠ (TJxc12de b).2.1 := by decide +kernel
theorem tyJxc12de_ok : ∀ k, k < 0 → parseFieldDescriptor (TJxc12de k).2.2.1 = some (tyJxc12de k) := by decide +kernel
abbrev cJxc12de_init_da8c8 : ByteArray := prog_37_method_1_code
def yJxc12de_init_da8c8 : MethodName := ⟨RJxc12de, "<init>", "()V"⟩
def RJx4a65c : String := "java/util/ArrayList"
def TJx4a65c : u_T := fun k => match k with
  | 0 => ("java/util/AbstractList", "modCount", "I", false)
  | 1 => ("java/util/ArrayList", "elementData", "[Ljava/lang/Object;", false)
  | _ => ("java/util/ArrayList", "size", "I", false)
def tyJx4a65c : Nat → FieldType := fun k => match k with
  | 0 => .int
  | 1 => .array (.object "java/lang/Object")
  | _ => .int
abbrev wsJx4a65c0 : List Cond := u_ws RJx4a65c TJx4a65c 3
theorem nmJx4a65c : ∀ a, a < 3 → ∀ b, b < 3 → a ≠ b → (TJx4a65c a).2.1 ≠ (TJx4a65c b).2.1 := by decide +kernel
theorem tyJx4a65c_ok : ∀ k, k < 3 → parseFieldDescriptor (TJx4a65c k).2.2.1 = some (tyJx4a65c k) := by decide +kernel
abbrev cJx4a65c_init_da8c8 : ByteArray := prog_38_method_2_code
def yJx4a65c_init_da8c8 : MethodName := ⟨RJx4a65c, "<init>", "()V"⟩
abbrev cJx4a65c_grow_92f84 : ByteArray := prog_38_method_6_code
def yJx4a65c_grow_92f84 : MethodName := ⟨RJx4a65c, "grow", "(I)[Ljava/lang/Object;"⟩
abbrev cJx4a65c_grow_d5877 : ByteArray := prog_38_method_7_code
def yJx4a65c_grow_d5877 : MethodName := ⟨RJx4a65c, "grow", "()[Ljava/lang/Object;"⟩
abbrev cJx4a65c_size_8abf5 : ByteArray := prog_38_method_8_code
def yJx4a65c_size_8abf5 : MethodName := ⟨RJx4a65c, "size", "()I"⟩
abbrev cJx4a65c_isEmpty_aae02 : ByteArray := prog_38_method_9_code
def yJx4a65c_isEmpty_aae02 : MethodName := ⟨RJx4a65c, "isEmpty", "()Z"⟩
abbrev cJx4a65c_elementData_915e3 : ByteArray := prog_38_method_18_code
def yJx4a65c_elementData_915e3 : MethodName := ⟨RJx4a65c, "elementData", "(I)Ljava/lang/Object;"⟩
abbrev cJx4a65c_get_915e3 : ByteArray := prog_38_method_20_code
def yJx4a65c_get_915e3 : MethodName := ⟨RJx4a65c, "get", "(I)Ljava/lang/Object;"⟩
abbrev cJx4a65c_add_72be8 : ByteArray := prog_38_method_24_code
def yJx4a65c_add_72be8 : MethodName := ⟨RJx4a65c, "add", "(Ljava/lang/Object;[Ljava/lang/Object;I)V"⟩
abbrev cJx4a65c_add_9ea2d : ByteArray := prog_38_method_25_code
def yJx4a65c_add_9ea2d : MethodName := ⟨RJx4a65c, "add", "(Ljava/lang/Object;)Z"⟩
abbrev cJx4a65c_add_7a177 : ByteArray := prog_38_method_26_code
def yJx4a65c_add_7a177 : MethodName := ⟨RJx4a65c, "add", "(ILjava/lang/Object;)V"⟩
abbrev cJx4a65c_remove_915e3 : ByteArray := prog_38_method_29_code
def yJx4a65c_remove_915e3 : MethodName := ⟨RJx4a65c, "remove", "(I)Ljava/lang/Object;"⟩
abbrev cJx4a65c_fastRemove_b59b0 : ByteArray := prog_38_method_39_code
def yJx4a65c_fastRemove_b59b0 : MethodName := ⟨RJx4a65c, "fastRemove", "([Ljava/lang/Object;I)V"⟩
abbrev cJx4a65c_rangeCheckForAdd_d00df : ByteArray := prog_38_method_45_code
def yJx4a65c_rangeCheckForAdd_d00df : MethodName := ⟨RJx4a65c, "rangeCheckForAdd", "(I)V"⟩
abbrev cJx4a65c_outOfBoundsMsg_b52d3 : ByteArray := prog_38_method_46_code
def yJx4a65c_outOfBoundsMsg_b52d3 : MethodName := ⟨RJx4a65c, "outOfBoundsMsg", "(I)Ljava/lang/String;"⟩
def RJ7 : String := "java/util/Arrays"
def TJ7 : u_T := fun k => match k with
  | _ => ("", "", "", false)
def tyJ7 : Nat → FieldType := fun k => match k with
  | _ => .int
abbrev wsJ70 : List Cond := u_ws RJ7 TJ7 0
theorem nmJ7 : ∀ a, a < 0 → ∀ b, b < 0 → a ≠ b → (TJ7 a).2.1 ≠ (TJ7 b).2.1 := by decide +kernel
theorem tyJ7_ok : ∀ k, k < 0 → parseFieldDescriptor (TJ7 k).2.2.1 = some (tyJ7 k) := by decide +kernel
abbrev cJ7_fill_53178 : ByteArray := prog_39_method_103_code
def yJ7_fill_53178 : MethodName := ⟨RJ7, "fill", "([II)V"⟩
abbrev cJ7_copyOf_1904c : ByteArray := prog_39_method_119_code
def yJ7_copyOf_1904c : MethodName := ⟨RJ7, "copyOf", "([Ljava/lang/Object;I)[Ljava/lang/Object;"⟩
abbrev cJ7_copyOf_6403c : ByteArray := prog_39_method_120_code
def yJ7_copyOf_6403c : MethodName := ⟨RJ7, "copyOf", "([Ljava/lang/Object;ILjava/lang/Class;)[Ljava/lang/Object;"⟩
abbrev cJ7_copyOf_9075b : ByteArray := prog_39_method_121_code
def yJ7_copyOf_9075b : MethodName := ⟨RJ7, "copyOf", "([BI)[B"⟩
abbrev cJ7_checkLength_df160 : ByteArray := prog_39_method_131_code
def yJ7_checkLength_df160 : MethodName := ⟨RJ7, "checkLength", "(II)V"⟩
abbrev cJ7_copyOfRange_39247 : ByteArray := prog_39_method_132_code
def yJ7_copyOfRange_39247 : MethodName := ⟨RJ7, "copyOfRange", "([BII)[B"⟩
abbrev cJ7_copyOfRangeByte_39247 : ByteArray := prog_39_method_133_code
def yJ7_copyOfRangeByte_39247 : MethodName := ⟨RJ7, "copyOfRangeByte", "([BII)[B"⟩
def RJx5ef63 : String := "java/util/Collection"
def TJx5ef63 : u_T := fun k => match k with
  | _ => ("", "", "", false)
def tyJx5ef63 : Nat → FieldType := fun k => match k with
  | _ => .int
abbrev wsJx5ef630 : List Cond := u_ws RJx5ef63 TJx5ef63 0
theorem nmJx5ef63 : ∀ a, a < 0 → ∀ b, b < 0 → a ≠ b → (TJx5ef63 a).2.1 ≠ (TJx5ef63 b).2.1 := by decide +kernel
theorem tyJx5ef63_ok : ∀ k, k < 0 → parseFieldDescriptor (TJx5ef63 k).2.2.1 = some (tyJx5ef63 k) := by decide +kernel
def RJxbd725 : String := "java/util/List"
def TJxbd725 : u_T := fun k => match k with
  | _ => ("", "", "", false)
def tyJxbd725 : Nat → FieldType := fun k => match k with
  | _ => .int
abbrev wsJxbd7250 : List Cond := u_ws RJxbd725 TJxbd725 0
theorem nmJxbd725 : ∀ a, a < 0 → ∀ b, b < 0 → a ≠ b → (TJxbd725 a).2.1 ≠ (TJxbd725 b).2.1 := by decide +kernel
theorem tyJxbd725_ok : ∀ k, k < 0 → parseFieldDescriptor (TJxbd725 k).2.2.1 = some (tyJxbd725 k) := by decide +kernel
def RJ15 : String := "java/util/Objects"
def TJ15 : u_T := fun k => match k with
  | _ => ("", "", "", false)
def tyJ15 : Nat → FieldType := fun k => match k with
  | _ => .int
abbrev wsJ150 : List Cond := u_ws RJ15 TJ15 0
theorem nmJ15 : ∀ a, a < 0 → ∀ b, b < 0 → a ≠ b → (TJ15 a).2.1 ≠ (TJ15 b).2.1 := by decide +kernel
theorem tyJ15_ok : ∀ k, k < 0 → parseFieldDescriptor (TJ15 k).2.2.1 = some (tyJ15 k) := by decide +kernel
abbrev cJ15_checkIndex_7cf53 : ByteArray := prog_42_method_17_code
def yJ15_checkIndex_7cf53 : MethodName := ⟨RJ15, "checkIndex", "(II)I"⟩
def RJxf0a74 : String := "java/util/RandomAccess"
def TJxf0a74 : u_T := fun k => match k with
  | _ => ("", "", "", false)
def tyJxf0a74 : Nat → FieldType := fun k => match k with
  | _ => .int
abbrev wsJxf0a740 : List Cond := u_ws RJxf0a74 TJxf0a74 0
theorem nmJxf0a74 : ∀ a, a < 0 → ∀ b, b < 0 → a ≠ b → (TJxf0a74 a).2.1 ≠ (TJxf0a74 b).2.1 := by decide +kernel
theorem tyJxf0a74_ok : ∀ k, k < 0 → parseFieldDescriptor (TJxf0a74 k).2.2.1 = some (tyJxf0a74 k) := by decide +kernel
def RJxa66e6 : String := "java/util/SequencedCollection"
def TJxa66e6 : u_T := fun k => match k with
  | _ => ("", "", "", false)
def tyJxa66e6 : Nat → FieldType := fun k => match k with
  | _ => .int
abbrev wsJxa66e60 : List Cond := u_ws RJxa66e6 TJxa66e6 0
theorem nmJxa66e6 : ∀ a, a < 0 → ∀ b, b < 0 → a ≠ b → (TJxa66e6 a).2.1 ≠ (TJxa66e6 b).2.1 := by decide +kernel
theorem tyJxa66e6_ok : ∀ k, k < 0 → parseFieldDescriptor (TJxa66e6 k).2.2.1 = some (tyJxa66e6 k) := by decide +kernel
def RJ8 : String := "jdk/internal/util/ArraysSupport"
def TJ8 : u_T := fun k => match k with
  | _ => ("", "", "", false)
def tyJ8 : Nat → FieldType := fun k => match k with
  | _ => .int
abbrev wsJ80 : List Cond := u_ws RJ8 TJ8 0
theorem nmJ8 : ∀ a, a < 0 → ∀ b, b < 0 → a ≠ b → (TJ8 a).2.1 ≠ (TJ8 b).2.1 := by decide +kernel
theorem tyJ8_ok : ∀ k, k < 0 → parseFieldDescriptor (TJ8 k).2.2.1 = some (tyJ8 k) := by decide +kernel
abbrev cJ8_newLength_cabcc : ByteArray := prog_45_method_27_code
def yJ8_newLength_cabcc : MethodName := ⟨RJ8, "newLength", "(III)I"⟩
abbrev cJ8_hugeLength_7cf53 : ByteArray := prog_45_method_28_code
def yJ8_hugeLength_7cf53 : MethodName := ⟨RJ8, "hugeLength", "(II)I"⟩
def RJ3 : String := "jdk/internal/util/Preconditions"
def TJ3 : u_T := fun k => match k with
  | _ => ("", "", "", false)
def tyJ3 : Nat → FieldType := fun k => match k with
  | _ => .int
abbrev wsJ30 : List Cond := u_ws RJ3 TJ3 0
theorem nmJ3 : ∀ a, a < 0 → ∀ b, b < 0 → a ≠ b → (TJ3 a).2.1 ≠ (TJ3 b).2.1 := by decide +kernel
theorem tyJ3_ok : ∀ k, k < 0 → parseFieldDescriptor (TJ3 k).2.2.1 = some (tyJ3 k) := by decide +kernel
abbrev cJ3_checkIndex_8e157 : ByteArray := prog_46_method_11_code
def yJ3_checkIndex_8e157 : MethodName := ⟨RJ3, "checkIndex", "(IILjava/util/function/BiFunction;)I"⟩
abbrev cJ3_checkFromToIndex_8c36e : ByteArray := prog_46_method_12_code
def yJ3_checkFromToIndex_8c36e : MethodName := ⟨RJ3, "checkFromToIndex", "(IIILjava/util/function/BiFunction;)I"⟩
abbrev cJ3_checkFromIndexSize_8c36e : ByteArray := prog_46_method_13_code
def yJ3_checkFromIndexSize_8c36e : MethodName := ⟨RJ3, "checkFromIndexSize", "(IIILjava/util/function/BiFunction;)I"⟩
def RL : String := "TonguerootFamilyLaw"
abbrev cL_setSound : ByteArray := method_3_code
def yL_setSound : MethodName := ⟨RL, "setSound", "(LTonguerootFamily;II[J)I"⟩
abbrev cL_word : ByteArray := method_4_code
def yL_word : MethodName := ⟨RL, "word", "(LTonguerootFamily;I[J)I"⟩
abbrev cL_spell : ByteArray := method_5_code
def yL_spell : MethodName := ⟨RL, "spell", "(LTonguerootFamily;I[J)I"⟩
abbrev cL_language : ByteArray := method_6_code
def yL_language : MethodName := ⟨RL, "language", "(LTonguerootFamily;I[J)I"⟩
abbrev cL_law : ByteArray := method_7_code
def yL_law : MethodName := ⟨RL, "law", "(LTonguerootFamily;IIIII[J)I"⟩
abbrev cL_unlaw : ByteArray := method_8_code
def yL_unlaw : MethodName := ⟨RL, "unlaw", "(LTonguerootFamily;I[J)I"⟩
abbrev cL_loan : ByteArray := method_9_code
def yL_loan : MethodName := ⟨RL, "loan", "(LTonguerootFamily;IIII[J)I"⟩
abbrev cL_laws : ByteArray := method_10_code
def yL_laws : MethodName := ⟨RL, "laws", "(LTonguerootFamily;I[J)I"⟩
abbrev cL_common : ByteArray := method_11_code
def yL_common : MethodName := ⟨RL, "common", "(LTonguerootFamily;II[J)I"⟩
abbrev cL_length : ByteArray := method_12_code
def yL_length : MethodName := ⟨RL, "length", "(LTonguerootFamily;II[J)I"⟩
abbrev cL_soundAt : ByteArray := method_13_code
def yL_soundAt : MethodName := ⟨RL, "soundAt", "(LTonguerootFamily;III[J)I"⟩
abbrev cL_origin : ByteArray := method_14_code
def yL_origin : MethodName := ⟨RL, "origin", "(LTonguerootFamily;II[J)I"⟩
abbrev cL_changedBy : ByteArray := method_15_code
def yL_changedBy : MethodName := ⟨RL, "changedBy", "(LTonguerootFamily;II[J)I"⟩
abbrev cL_wealth : ByteArray := method_16_code
def yL_wealth : MethodName := ⟨RL, "wealth", "(LTonguerootFamily;I[J)I"⟩
abbrev cL_alike : ByteArray := method_17_code
def yL_alike : MethodName := ⟨RL, "alike", "(LTonguerootFamily;I[J)I"⟩
abbrev cL_soundsOf : ByteArray := method_18_code
def yL_soundsOf : MethodName := ⟨RL, "soundsOf", "(LTonguerootFamily;I[J)I"⟩
abbrev cL_cost : ByteArray := method_19_code
def yL_cost : MethodName := ⟨RL, "cost", "(LTonguerootFamily;III[J)I"⟩
abbrev cL_columns : ByteArray := method_20_code
def yL_columns : MethodName := ⟨RL, "columns", "(LTonguerootFamily;III[J)I"⟩
abbrev cL_columnAt : ByteArray := method_21_code
def yL_columnAt : MethodName := ⟨RL, "columnAt", "(LTonguerootFamily;IIII[J)I"⟩
abbrev cL_answers : ByteArray := method_22_code
def yL_answers : MethodName := ⟨RL, "answers", "(LTonguerootFamily;IIII[J)I"⟩
abbrev cL_mainAnswer : ByteArray := method_23_code
def yL_mainAnswer : MethodName := ⟨RL, "mainAnswer", "(LTonguerootFamily;III[J)I"⟩
abbrev cL_far : ByteArray := method_24_code
def yL_far : MethodName := ⟨RL, "far", "(LTonguerootFamily;II[D)I"⟩
abbrev cL_nearest : ByteArray := method_25_code
def yL_nearest : MethodName := ⟨RL, "nearest", "(LTonguerootFamily;I[J)I"⟩
abbrev cL_recalled : ByteArray := method_26_code
def yL_recalled : MethodName := ⟨RL, "recalled", "(LTonguerootFamily;II[J)I"⟩
abbrev cL_recalledAt : ByteArray := method_27_code
def yL_recalledAt : MethodName := ⟨RL, "recalledAt", "(LTonguerootFamily;III[J)I"⟩
abbrev cL_recalledWell : ByteArray := method_28_code
def yL_recalledWell : MethodName := ⟨RL, "recalledWell", "(LTonguerootFamily;I[J)I"⟩
abbrev cL_swapped : ByteArray := method_29_code
def yL_swapped : MethodName := ⟨RL, "swapped", "(LTonguerootFamily;II[J)I"⟩
abbrev cL_without : ByteArray := method_30_code
def yL_without : MethodName := ⟨RL, "without", "(LTonguerootFamily;II[J)I"⟩
abbrev cL_withoutLoan : ByteArray := method_31_code
def yL_withoutLoan : MethodName := ⟨RL, "withoutLoan", "(LTonguerootFamily;I[J)I"⟩
abbrev cL_looksLent : ByteArray := method_32_code
def yL_looksLent : MethodName := ⟨RL, "looksLent", "(LTonguerootFamily;II[J)I"⟩
abbrev cL_law_ : ByteArray := code
def yL_law_ : MethodName := ⟨RL, "law", "([I)Z"⟩
end
section
/-! ===== the abstract machine: values, heaps by rows, methods; what it means that it stands for the real one ===== -/
abbrev AV : Type := Int32 ⊕ Int64 ⊕ UInt64 ⊕ Nat ⊕ Unit
abbrev vI (x : Int32) : AV := Sum.inl x
abbrev vL (x : Int64) : AV := Sum.inr (Sum.inl x)
abbrev vD (x : UInt64) : AV := Sum.inr (Sum.inr (Sum.inl x))
abbrev vR (x : Nat) : AV := Sum.inr (Sum.inr (Sum.inr (Sum.inl x)))
abbrev vU : AV := Sum.inr (Sum.inr (Sum.inr (Sum.inr ())))
/-- next address, kinds, ints, longs, doubles, references (0: null, 1: the script, 2: ArrayList's empty row, 3: the Class object of Object[], from 4 on what is made) -/
abbrev AH : Type := Nat × (Nat → Nat × Nat) × (Nat → Nat → Int32) × (Nat → Nat → Int64) × (Nat → Nat → UInt64) × (Nat → Nat → Nat)
def zN (h : AH) : Nat := h.1
def zK (h : AH) : Nat → Nat × Nat := h.2.1
def zI (h : AH) : Nat → Nat → Int32 := h.2.2.1
def zL (h : AH) : Nat → Nat → Int64 := h.2.2.2.1
def zD (h : AH) : Nat → Nat → UInt64 := h.2.2.2.2.1
def zR (h : AH) : Nat → Nat → Nat := h.2.2.2.2.2
def up1 {α : Type} (f : Nat → α) (a : Nat) (v : α) : Nat → α := fun b => if b = a then v else f b
def up2 {α : Type} (f : Nat → Nat → α) (a k : Nat) (v : α) : Nat → Nat → α := up1 f a (up1 (f a) k v)
def sI (h : AH) (a k : Nat) (v : Int32) : AH := (h.1, h.2.1, up2 h.2.2.1 a k v, h.2.2.2)
def sL (h : AH) (a k : Nat) (v : Int64) : AH := (h.1, h.2.1, h.2.2.1, up2 h.2.2.2.1 a k v, h.2.2.2.2)
def sD (h : AH) (a k : Nat) (v : UInt64) : AH := (h.1, h.2.1, h.2.2.1, h.2.2.2.1, up2 h.2.2.2.2.1 a k v, h.2.2.2.2.2)
def sR (h : AH) (a k : Nat) (v : Nat) : AH := (h.1, h.2.1, h.2.2.1, h.2.2.2.1, h.2.2.2.2.1, up2 h.2.2.2.2.2 a k v)
/-- a new cell of a kind, all of it 0 -/
def nw (h : AH) (kd : Nat × Nat) : AH := (h.1 + 1, up1 h.2.1 h.1 kd, up1 h.2.2.1 h.1 (fun _ => 0), up1 h.2.2.2.1 h.1 (fun _ => 0), up1 h.2.2.2.2.1 h.1 (fun _ => 0), up1 h.2.2.2.2.2 h.1 (fun _ => 0))
/-- a row of n new int rows of k places each -/
def nwm (h : AH) (n k : Nat) : AH :=
  (h.1 + 1 + n, fun b => if b = h.1 then (8, n) else if h.1 < b ∧ b < h.1 + 1 + n then (2, k) else h.2.1 b, fun b => if h.1 ≤ b then (fun _ => 0) else h.2.2.1 b, fun b => if h.1 ≤ b then (fun _ => 0) else h.2.2.2.1 b, fun b => if h.1 ≤ b then (fun _ => 0) else h.2.2.2.2.1 b,
    fun b => if b = h.1 then (fun j => if j < n then h.1 + 1 + j else 0) else if h.1 ≤ b then (fun _ => 0) else h.2.2.2.2.2 b)
/-- cells that are of no use (what was thrown) -/
def bump (h : AH) (n : Nat) : AH := (n, h.2)
/-- N0, the script's address, the empty row's, the Class object's, the script's length and ints, the tables' numbers, the rows' classes -/
abbrev Gp : Type := Nat × Nat × Nat × Nat × Nat × (Nat → Int32) × va_G × (Nat → ClassId)
def gN (g : Gp) : Nat := g.1
def gb (g : Gp) : Nat := g.2.1
def gt (g : Gp) : Nat := g.2.2.1
def gm (g : Gp) : Nat := g.2.2.2.1
def gl (g : Gp) : Nat := g.2.2.2.2.1
def gx (g : Gp) : Nat → Int32 := g.2.2.2.2.2.1
def gD (g : Gp) : va_G := g.2.2.2.2.2.2.1
def gA (g : Gp) : Nat → ClassId := g.2.2.2.2.2.2.2
def gAd (g : Gp) : Nat → Prop := fun q => gN g ≤ q
def adr (g : Gp) (x : Nat) : Nat := if x = 1 then gb g else if x = 2 then gt g else if x = 3 then gm g else gN g + (x - 4)
def rv (g : Gp) (x : Nat) : Value := if x = 0 then .null else .ref (adr g x)
def ro (g : Gp) (x : Nat) : Option Nat := if x = 0 then none else some (adr g x)
def tv (g : Gp) : AV → Value
  | .inl x => .int x
  | .inr (.inl x) => .long x
  | .inr (.inr (.inl x)) => .double x
  | .inr (.inr (.inr (.inl x))) => rv g x
  | .inr (.inr (.inr (.inr _))) => .null
abbrev clt : List vw_C := [(RJx4a65c, TJx4a65c, 3), (RX0, TX0, 8), (RX1, TX1, 2), (RX2, TX2, 2), (RX3, TX3, 4), (RX4, TX4, 7), (RX5, TX5, 4), (RX6, TX6, 2), (RX7, TX7, 1), (RX9, TX9, 10), (RX10, TX10, 27)]
def cty : Nat → Nat → FieldType := fun c => match c with
  | 0 => tyJx4a65c
  | 1 => tyX0
  | 2 => tyX1
  | 3 => tyX2
  | 4 => tyX3
  | 5 => tyX4
  | 6 => tyX5
  | 7 => tyX6
  | 8 => tyX7
  | 9 => tyX9
  | _ => tyX10
def ftc (t : FieldType) : Nat := match t with
  | .int => 0
  | .long => 1
  | .object _ => 2
  | .array _ => 2
  | .double => 3
  | _ => 9
def nfl (c : Nat) : Nat := match clt[c]? with
  | some r => r.2.2
  | none => 0
def fv (g : Gp) (h : AH) (c a k : Nat) : Value := match ftc (cty c k) with
  | 0 => .int (zI h a k)
  | 1 => .long (zL h a k)
  | 2 => rv g (zR h a k)
  | _ => .null
def entk (g : Gp) (h : AH) (a t n : Nat) : va_E := match t with
  | 1 => .inr (n, (List.range (nfl n)).map (fv g h n a))
  | 2 => .inl (gA g 2, n, .inl (zI h a))
  | 3 => .inl (gA g 3, n, .inr (.inl (zL h a)))
  | 4 => .inl (gA g 4, n, .inl (zI h a))
  | 5 => .inl (gA g 5, n, .inr (.inr (.inr (.inl (zD h a)))))
  | 6 => .inl (gA g 6, n, .inr (.inr (.inr (.inr (fun j => ro g (zR h a j))))))
  | 7 => .inl (gA g 7, n, .inr (.inr (.inr (.inr (fun j => ro g (zR h a j))))))
  | _ => .inl (gA g 8, n, .inr (.inr (.inr (.inr (fun j => ro g (zR h a j))))))
def ent (g : Gp) (h : AH) (a : Nat) : va_E := entk g h a (zK h a).1 (zK h a).2
def Rep (g : Gp) (h : AH) (H : Heap) : Prop := 4 ≤ zN h ∧ H.size + 4 = gN g + zN h ∧ (∀ a, (a < 4 ∨ zN h ≤ a) → (zK h a).1 = 0) ∧ ∀ a, (zK h a).1 ≠ 0 → va_at (gD g) clt (adr g a, ent g h a) H
/-- the kinds of rows -/
def tyl (g : Gp) : List (ClassId × FieldType) := [(gA g 2, .int), (gA g 3, .long), (gA g 4, .boolean), (gA g 5, .double), (gA g 6, .object "java/lang/Object"), (gA g 7, .object "TonguerootFamily$Votes"), (gA g 8, .array .int)]
def lw_g : List Cond := lw_tbl.filter goodWord
theorem lg_mem {w : Cond} (h : w ∈ lw_tbl) (h2 : goodWord w = true) : w ∈ lw_g := List.mem_filter.mpr ⟨h, h2⟩
theorem lg_ix {w : Cond} {i : Nat} (h : lw_tbl[i]? = some w) (h2 : goodWord w = true) : w ∈ lw_g := lg_mem (List.mem_of_getElem? h) h2
theorem lg_good : GoodIn lw_g lw_g := fun w h => ⟨h, good_of_word (List.mem_filter.mp h).2⟩
/-- words that the walk moves, but not by goodWord -/
def isN (w : Cond) : Bool := match w with
  | .castable _ _ => true
  | .declares _ => true
  | .methodLinkNest _ _ _ _ => true
  | _ => false
def lw_n : List Cond := lw_tbl.filter isN
theorem ln_mem {w : Cond} (h : w ∈ lw_tbl) (h2 : isN w = true) : w ∈ lw_n := List.mem_filter.mpr ⟨h, h2⟩
theorem ln_ix {w : Cond} {i : Nat} (h : lw_tbl[i]? = some w) (h2 : isN w = true) : w ∈ lw_n := ln_mem (List.mem_of_getElem? h) h2
theorem nw_tab {w : Cond} (h : isN w = true) : w.onTables = true := by
  cases w <;> first | rfl | (simp [isN] at h)
theorem nw_same {w : Cond} {u U : State} (hn : isN w = true) (hv : U.vm = u.vm) (h : va_Nw w u) : va_Nw w U := h.same (nw_tab hn) hv.symm
theorem nw_warm {w : Cond} {s U : State} (hn : isN w = true) (hW : s.WarmedH U.vm) (h : va_Nw w s) : va_Nw w U := by
  cases w <;> first | (exact h.warmC hW) | (exact h.warmD hW) | (exact h.warmM hW) | (simp [isN] at hn)
def exN (k : Nat) : String := match k with
  | 1 => "java/lang/IndexOutOfBoundsException"
  | 2 => "java/lang/IllegalArgumentException"
  | _ => "java/lang/IllegalStateException"
/-- what was there before, and stays -/
def Old (g : Gp) (U : State) : Prop := gN g ≤ U.heap.size ∧ gb g < gN g ∧ gt g < gN g ∧ gb g ≠ gt g ∧ va_X (gb g) (gl g) (gx g) U U.heap ∧ va_Z "java/util/ArrayList" "DEFAULTCAPACITY_EMPTY_ELEMENTDATA" "[Ljava/lang/Object;" (.ref (gt g)) (gAd g) U U.heap ∧ va_T (.object "java/lang/Object") (gt g) 0 (fun _ => .null) (gAd g) U U.heap ∧
  vx_Zq Bundle.tN "UNASSIGNED_STACK" Bundle.steD (gAd g) U U.heap ∧ vx_Zq Bundle.tN "SUPPRESSED_SENTINEL" Bundle.listD (gAd g) U U.heap ∧ (∃ q1, vk_R RX9 296 "no such language, meaning, place, law or loan" q1 U) ∧ (∃ q2, vk_R RX9 303 "a number outside of its bounds" q2 U) ∧ (∃ q3, vk_R RX9 308 "not possible as things are" q3 U) ∧ va_Mi "[Ljava/lang/Object;" (gm g) U ∧ (∀ k j, 1 ≤ k → k ≤ 3 → 1 ≤ j → j ≤ 3 → k ≠ j → va_Nc (exN k) (exN j) U) ∧ ∀ w ∈ lw_n, va_Nw w U
theorem Old.same {g : Gp} {u U : State} (hv : U.vm = u.vm) (hh : U.heap = u.heap) (h : Old g u) : Old g U := by
  have ha : u.vm.Alike U.vm := by rw [hv]; exact Vm.Alike.refl _
  obtain ⟨h0, h1, h2, h3, h4, h5, h6, h7, h8, ⟨q1, h9⟩, ⟨q2, h10⟩, ⟨q3, h11⟩, h12, h13, h14⟩ := h
  refine ⟨by rw [hh]; exact h0, h1, h2, h3, ?_, ?_, ?_, ?_, ?_, ⟨q1, h9.same hv⟩, ⟨q2, h10.same hv⟩, ⟨q3, h11.same hv⟩, h12.moved ha, fun k j a1 a2 a3 a4 a5 => (h13 k j a1 a2 a3 a4 a5).moved ha, fun w hw => nw_same (List.mem_filter.mp hw).2 hv (h14 w hw)⟩
  · rw [hh]; exact h4.moved ha
  · rw [hh]; exact h5.moved ha
  · rw [hh]; exact h6.moved ha
  · rw [hh]; exact h7.moved ha
  · rw [hh]; exact h8.moved ha
theorem Old.trans {g : Gp} {s U : State} {locs : List Loc} (hW : s.WarmedH U.vm) (hS : va_S (gAd g) s.heap U.heap locs) (h : Old g s) : Old g U := by
  have ha : s.vm.Alike U.vm := hW.alike
  obtain ⟨h0, h1, h2, h3, h4, h5, h6, h7, h8, ⟨q1, h9⟩, ⟨q2, h10⟩, ⟨q3, h11⟩, h12, h13, h14⟩ := h
  have hk : ∀ a : Nat, a < s.heap.size → ¬ gAd g a → U.heap[a]? = s.heap[a]? := hS.2.1
  refine ⟨Nat.le_trans h0 hS.1, h1, h2, h3, ?_, (h5.kept hk).moved ha, (h6.kept hk).moved ha, (h7.kept hk).moved ha, (h8.kept hk).moved ha, ⟨q1, h9.warm hW⟩, ⟨q2, h10.warm hW⟩, ⟨q3, h11.warm hW⟩, h12.moved ha, fun k j a1 a2 a3 a4 a5 => (h13 k j a1 a2 a3 a4 a5).moved ha, fun w hw => nw_warm (List.mem_filter.mp hw).2 hW (h14 w hw)⟩
  exact (h4.kept (hk _ (by omega) (by unfold gAd; omega))).moved ha
theorem Old.nw {g : Gp} {U : State} (h : Old g U) : ∀ w ∈ lw_n, va_Nw w U := by
  obtain ⟨-, -, -, -, -, -, -, -, -, -, -, -, -, -, h14⟩ := h
  exact h14
/-! ===== methods ===== -/
/-- a class's pool, as far as it is used: its name; fields (entry, class, place, kind); numbers; classes made; classes cast to -/
abbrev CF : Type := String × List (Nat × Nat × Nat × Nat) × List (Nat × AV) × List (Nat × Nat) × List (Nat × Nat)
/-- a method: name, bytes, locals, answer, handlers, depth and cells and slots, its class's pool -/
abbrev MD : Type := MethodName × ByteArray × Nat × Option FieldType × List (Nat × Nat × Nat × Nat) × (Nat × Nat × Nat) × CF
def mY (M : MD) : MethodName := M.1
def mB (M : MD) : ByteArray := M.2.1
def mX (M : MD) : Nat := M.2.2.1
def mR (M : MD) : Option FieldType := M.2.2.2.1
def mH (M : MD) : List (Nat × Nat × Nat × Nat) := M.2.2.2.2.1
def mDp (M : MD) : Nat := M.2.2.2.2.2.1.1
def mC (M : MD) : Nat := M.2.2.2.2.2.1.2.1
def mS (M : MD) : Nat := M.2.2.2.2.2.1.2.2
def mF (M : MD) : CF := M.2.2.2.2.2.2
def mO (M : MD) : String := (mF M).1
def rmM (M : MD) : Room := { frames := mDp M, cells := mC M, slots := mS M, locals := 64 * mDp M + 100 }
def codeW (M : MD) : Cond := match mH M with
  | [] => .code (mY M) (mB M) (mX M) (mR M)
  | x :: r => .codeWith (mY M) (mB M) (mX M) (mR M) (x :: r)
def mW (M : MD) : List Cond := codeW M :: lw_g
def Cx (g : Gp) (M : MD) (p : Program) (l : Launch) (s : State) (m : MethodId) (args : Array Value) (meth : Method) (c : Code) : Prop :=
  p.tables.exec = Jvm.exec ∧ c.code = mB M ∧ meth.sig.returnType = mR M ∧ c.maxLocals = mX M ∧ s.vm.findClass (mO M) = some m.cls ∧ (∀ w ∈ lw_g, w.before args s = true) ∧ meth.locks = false ∧ meth.name = (mY M).name ∧ va_K (gD g) clt (tyl g) s ∧ Old g s ∧ l.stackTraces = false ∧ c.exceptionTable.toList = tableOf (mH M)
def LR (g : Gp) (L : List AV) (ls : Array Slot) : Prop := ls.size = L.length ∧ lv_wf ls ∧ ∀ (i : Nat) (v : AV), L[i]? = some v → v ≠ vU → ls[i]? = some (.val (tv g v))
abbrev PQ : Type := (Option AV ⊕ Nat) → AH → Prop
def Qn (g : Gp) (Q : PQ) : Array Value → State → Outcome → State → Prop := fun _ st o t => (∃ (v : Option AV) (h : AH), o = .returned (v.map (tv g)) ∧ Q (.inl v) h ∧ Rep g h t.heap) ∧ va_F (gAd g) st t
def Qx (g : Gp) (Q : PQ) : String → State → State → Prop := fun E st t => (∃ (k : Nat) (h : AH), E = exN k ∧ Q (.inr k) h ∧ Rep g h t.heap) ∧ va_F (gAd g) st t
/-- from this place of the method on, all ends are Q's -/
def Ex (g : Gp) (M : MD) (pc : Nat) (L : List AV) (st : List AV) (h : AH) (u : Nat × Nat) (Q : PQ) : Prop :=
  ∀ (p : Program) (l : Launch) (e : Env) (s : State) (m : MethodId) (args : Array Value) (below : List Frame) (meth : Method) (c : Code) (H : Heap) (locs : List Loc) (ls : Array Slot),
    Cx g M p l s m args meth c → Rep g h H → va_S (gAd g) s.heap H locs → LR g L ls → L.length = mX M → u.1 ≤ mC M → u.2 ≤ mS M →
    W p l e (rmM M) s m args below meth c H locs u.1 u.2 (vx_MQ below (Qn g Q) (Qx g Q) args s (mC M) (mS M) (gAd g)) (F0 m pc ls (st.map (tv g)))
def Pc (g : Gp) (av : List AV) (h : AH) : Array Value → State → Prop := va_Pc (av.map (tv g)) (fun U => Rep g h U.heap ∧ va_K (gD g) clt (tyl g) U ∧ Old g U)
/-- a call of the method -/
def Ev (g : Gp) (M : MD) (av : List AV) (h : AH) (Q : PQ) : Prop :=
  ∀ l : Launch, l.stackTraces = false → vx_Met l (mY M) (mW M) (rmM M) (Pc g av h) (Qn g Q) (Qx g Q) (mC M) (mS M) (gAd g)
theorem Pc.blind {g : Gp} {av : List AV} {h : AH} : FrameBlind (Pc g av h) := by
  intro a U gf mk ⟨h1, h2, h3, h4⟩
  exact ⟨h1, h2, va_K.moved (u := U) (U := U.calling gf mk a) (Vm.Alike.refl U.vm) h3, h4.same (u := U) (U := U.calling gf mk a) rfl rfl⟩
theorem Ex.mono {g : Gp} {M : MD} {pc : Nat} {L st : List AV} {h : AH} {u : Nat × Nat} {Q Q' : PQ} (hq : ∀ r h', Q r h' → Q' r h') (k : Ex g M pc L st h u Q) : Ex g M pc L st h u Q' := by
  intro p l e s m args below meth c H locs ls hC hR hS hL hl h1 h2 T hT X
  obtain ⟨t, a1, o, b1, b2, b3⟩ := k p l e s m args below meth c H locs ls hC hR hS hL hl h1 h2 T hT X
  refine ⟨t, a1, o, b1, b2, ?_⟩
  rcases b3 with ⟨⟨⟨v, h', c1, c2, c3⟩, c4⟩, c5⟩ | ⟨q, c1, E, ce, L1, ⟨⟨k1, h', d1, d2, d3⟩, d4⟩, d5⟩
  · exact Or.inl ⟨⟨⟨v, h', c1, hq _ _ c2, c3⟩, c4⟩, c5⟩
  · exact Or.inr ⟨q, c1, E, ce, L1, ⟨⟨k1, h', d1, hq _ _ d2, d3⟩, d4⟩, d5⟩
/-- arguments as locals -/
def argL : List AV → List AV
  | [] => []
  | v :: r => match v with
    | .inr (.inl x) => vL x :: vU :: argL r
    | .inr (.inr (.inl x)) => vD x :: vU :: argL r
    | w => w :: argL r
def padL (n : Nat) (L : List AV) : List AV := L ++ List.replicate (n - L.length) vU
theorem tv_cat2 (g : Gp) (v : AV) : (tv g v).category = 2 ↔ ((∃ x, v = vL x) ∨ ∃ x, v = vD x) := by
  rcases v with x | x | x | x | x
  · simp [tv, Value.category]
  · simp [tv, Value.category]
  · simp [tv, Value.category]
  · by_cases hx : x = 0
    · simp [tv, rv, hx, Value.category]
    · simp [tv, rv, hx, Value.category]
  · simp [tv, Value.category]
theorem argL_len (g : Gp) (av : List AV) : (lg_sl (av.map (tv g))).length = (argL av).length := by
  induction av with
  | nil => rfl
  | cons v r ih =>
    have e : lg_sl ((v :: r).map (tv g)) = (if (tv g v).category = 2 then [Slot.val (tv g v), Slot.second] else [Slot.val (tv g v)]) ++ lg_sl (r.map (tv g)) := by
      simp only [lg_sl, List.map_cons, List.flatMap_cons]
      try split <;> rfl
    rw [e]
    rcases v with x | x | x | x | x
    · simp [tv, Value.category, argL, ih]
    · simp [tv, Value.category, argL, ih]
    · simp [tv, Value.category, argL, ih]
    · by_cases hx : x = 0
      · simp [tv, rv, hx, Value.category, argL, ih]
      · simp [tv, rv, hx, Value.category, argL, ih]
    · simp [tv, Value.category, argL, ih]
theorem argL_mem (g : Gp) (av : List AV) : ∀ (j i : Nat) (v : AV), (argL av)[i]? = some v → v ≠ vU → (j + i, tv g v) ∈ lv_args j (av.map (tv g)) := by
  induction av with
  | nil => intro j i v h; simp [argL] at h
  | cons w r ih =>
    intro j i v h hv
    have one : ∀ (h1 : (tv g w).category ≠ 2) (h2 : argL (w :: r) = w :: argL r), (j + i, tv g v) ∈ lv_args j ((w :: r).map (tv g)) := by
      intro h1 h2
      rw [h2] at h
      simp only [List.map_cons, lv_args, if_neg h1]
      cases i with
      | zero => simp only [List.getElem?_cons_zero, Option.some.injEq] at h; subst h; exact List.mem_cons_self
      | succ i => rw [List.getElem?_cons_succ] at h; refine List.mem_cons_of_mem _ ?_; have := ih (j + 1) i v h hv; rwa [show j + 1 + i = j + (i + 1) by omega] at this
    have two : ∀ (h1 : (tv g w).category = 2) (h2 : argL (w :: r) = w :: vU :: argL r), (j + i, tv g v) ∈ lv_args j ((w :: r).map (tv g)) := by
      intro h1 h2
      rw [h2] at h
      simp only [List.map_cons, lv_args, if_pos h1]
      match i, h with
      | 0, h => simp only [List.getElem?_cons_zero, Option.some.injEq] at h; subst h; exact List.mem_cons_self
      | 1, h => simp only [List.getElem?_cons_succ, List.getElem?_cons_zero, Option.some.injEq] at h; exact absurd h.symm hv
      | i + 2, h => rw [List.getElem?_cons_succ, List.getElem?_cons_succ] at h; refine List.mem_cons_of_mem _ ?_; have := ih (j + 2) i v h hv; rwa [show j + 2 + i = j + (i + 2) by omega] at this
    rcases w with x | x | x | x | x
    · exact one (by simp [tv, Value.category]) rfl
    · exact two (by simp [tv, Value.category]) rfl
    · exact two (by simp [tv, Value.category]) rfl
    · exact one (by by_cases hx : x = 0 <;> simp [tv, rv, hx, Value.category]) rfl
    · exact one (by simp [tv, Value.category]) rfl
theorem LR.entry {g : Gp} {av : List AV} {n : Nat} (h : (argL av).length ≤ n) : LR g (padL n (argL av)) ((lg_sl (av.map (tv g)) ++ List.replicate (n - (lg_sl (av.map (tv g))).length) Slot.unset).toArray) := by
  have h0 := lv_entry (av.map (tv g)) (n := n) (by rw [argL_len]; exact h)
  refine ⟨?_, h0.2.1, fun i v hi hv => ?_⟩
  · simp [padL, argL_len]
  · unfold padL at hi
    by_cases hl : i < (argL av).length
    · rw [List.getElem?_append_left hl] at hi
      have := h0.2.2 _ (argL_mem g av 0 i v hi hv)
      simpa using this
    · rw [List.getElem?_append_right (by omega)] at hi
      exact absurd (List.eq_of_mem_replicate (List.mem_of_getElem? hi)) hv
theorem Ev.of {g : Gp} {M : MD} {av : List AV} {h : AH} {Q : PQ} (hpl : plainName (mY M).cls = true) (hown : mO M = (mY M).cls) (hlen : (argL av).length ≤ mX M) (k : Ex g M 0 (padL (mX M) (argL av)) [] h (0, 0) Q) : Ev g M av h Q := by
  intro l hl
  have body : ∀ (p : Program) (e : Env) (s : State) (m : MethodId) (args : Array Value) (below : List Frame) (meth : Method) (c : Code) (s₁ : State), BodyLoose p l (mY M) (headSpec (mW M) (rmM M)) (mB M) (mX M) (mR M) e s m args below meth c s₁ → c.maxLocals = mX M → c.exceptionTable.toList = tableOf (mH M) → Pc g av h args s →
      W p l e (headSpec (mW M) (rmM M)).room s m args below meth c s.heap [] 0 0 (vx_MQ below (Qn g Q) (Qx g Q) args s (mC M) (mS M) (gAd g)) (entryFrame m args (mX M)) := by
    intro p e s m args below meth c s₁ B hml ht hv
    obtain ⟨rfl, hR, hK, hO⟩ := hv
    have hts := atoms_spec (ws := mW M) B.pre
    have how : s.vm.findClass (mO M) = some m.cls := by rw [hown]; exact findClass_of_methodNamed B.named
    rw [lg_entry_eq]
    refine k p l e s m _ below meth c s.heap [] _ ⟨B.exec, B.bytes, B.returns, hml, how, fun w hw => hts w (List.mem_cons_of_mem _ hw), B.notSynchronized, (name_of_methodNamed B.named B.method).1, hK, hO, hl, ht⟩ hR va_S.rf (LR.entry hlen) ?_ (Nat.zero_le _) (Nat.zero_le _)
    simp only [padL, List.length_append, List.length_replicate]
    omega
  cases hH : mH M with
  | nil =>
    refine vx_ofW (cc := mB M) (maxL := mX M) (ret := mR M) (ws' := lw_g) hpl (by simp [mW, codeW, hH]) ?_
    intro p e s m args below meth c s₁ B hml ht hv
    refine body p e s m args below meth c s₁ B hml ?_ hv
    rw [hH]
    cases hx : c.exceptionTable.toList with
    | nil => rfl
    | cons x r => exact absurd (ht x (by rw [hx]; exact List.mem_cons_self)) id
  | cons x r =>
    refine vx_ofWH (cc := mB M) (maxL := mX M) (ret := mR M) (ws' := lw_g) (hh := x :: r) hpl (by simp [mW, codeW, hH]) ?_
    intro p e s m args below meth c s₁ B hml hv
    refine body p e s m args below meth c s₁ B hml ?_ hv
    have hw : (Cond.codeWith (mY M) (mB M) (mX M) (mR M) (x :: r)).before args s = true := atoms_spec (ws := mW M) B.pre _ (by simp [mW, codeW, hH])
    rw [hH]
    exact vx_table (x := mY M) B hw
theorem va_S.Fr {g : Gp} {s t : State} {H : Heap} {locs : List Loc} (h : va_S (gAd g) s.heap H locs) (ht : t.heap = H) : va_F (gAd g) s t := h.F ht
theorem Ex.iret {g : Gp} {M : MD} {pc : Nat} {L : List AV} {x : Int32} {h : AH} {u : Nat × Nat} {Q : PQ} {ty : FieldType} (hr : mR M = some ty) (hn : narrow ty (.int x) = .int x) (hd : decode (mB M) pc = .ok (.ireturn, 1)) (hq : Q (.inl (some (vI x))) h) : Ex g M pc L [vI x] h u Q := by
  intro p l e s m args below meth c H locs ls hC hR hS hL hl h1 h2
  obtain ⟨hx, hb, hrt, -, -, -, hlk, -⟩ := hC
  refine W.widen h1 h2 (vx_ret ?_)
  exact W.zret (v := x) (ty := ty) hx hb (hrt.trans hr) hn (fun t ht hW => ⟨⟨some (vI x), h, rfl, hq, by rw [ht]; exact hR⟩, hS.F ht⟩) hS.2.2 hd hlk
theorem Ex.lret {g : Gp} {M : MD} {pc : Nat} {L : List AV} {x : Int64} {h : AH} {u : Nat × Nat} {Q : PQ} (hr : mR M = some .long) (hd : decode (mB M) pc = .ok (.lreturn, 1)) (hq : Q (.inl (some (vL x))) h) : Ex g M pc L [vL x] h u Q := by
  intro p l e s m args below meth c H locs ls hC hR hS hL hl h1 h2
  obtain ⟨hx, hb, hrt, -, -, -, hlk, -⟩ := hC
  refine W.widen h1 h2 (vx_ret ?_)
  exact W.lret (v := x) hx hb (hrt.trans hr) (fun t ht hW => ⟨⟨some (vL x), h, rfl, hq, by rw [ht]; exact hR⟩, hS.F ht⟩) hS.2.2 hd hlk
theorem Ex.dret {g : Gp} {M : MD} {pc : Nat} {L : List AV} {x : UInt64} {h : AH} {u : Nat × Nat} {Q : PQ} (hr : mR M = some .double) (hd : decode (mB M) pc = .ok (.dreturn, 1)) (hq : Q (.inl (some (vD x))) h) : Ex g M pc L [vD x] h u Q := by
  intro p l e s m args below meth c H locs ls hC hR hS hL hl h1 h2
  obtain ⟨hx, hb, hrt, -, -, -, hlk, -⟩ := hC
  refine W.widen h1 h2 (vx_ret ?_)
  exact W.dret (v := x) hx hb (hrt.trans hr) (fun t ht hW => ⟨⟨some (vD x), h, rfl, hq, by rw [ht]; exact hR⟩, hS.F ht⟩) hS.2.2 hd hlk
theorem Ex.vret {g : Gp} {M : MD} {pc : Nat} {L : List AV} {h : AH} {u : Nat × Nat} {Q : PQ} (hr : mR M = none) (hd : decode (mB M) pc = .ok (.return_, 1)) (hq : Q (.inl none) h) : Ex g M pc L [] h u Q := by
  intro p l e s m args below meth c H locs ls hC hR hS hL hl h1 h2
  obtain ⟨hx, hb, hrt, -, -, -, hlk, -⟩ := hC
  refine W.widen h1 h2 (vx_ret ?_)
  exact W.vret hx hb (hrt.trans hr) (fun t ht hW => ⟨⟨none, h, rfl, hq, by rw [ht]; exact hR⟩, hS.F ht⟩) hS.2.2 hd hlk
theorem rv_or (g : Gp) (x : Nat) : rv g x = .null ∨ ∃ a, rv g x = .ref a := by
  unfold rv
  split
  · exact Or.inl rfl
  · exact Or.inr ⟨_, rfl⟩
theorem Ex.aret {g : Gp} {M : MD} {pc : Nat} {L : List AV} {x : Nat} {h : AH} {u : Nat × Nat} {Q : PQ} {rt : FieldType} (hr : mR M = some rt) (hrt2 : (∃ n, rt = .object n) ∨ ∃ t, rt = .array t) (hd : decode (mB M) pc = .ok (.areturn, 1)) (hq : Q (.inl (some (vR x))) h) : Ex g M pc L [vR x] h u Q := by
  intro p l e s m args below meth c H locs ls hC hR hS hL hl h1 h2
  obtain ⟨hx, hb, hrt, -, -, -, hlk, -⟩ := hC
  refine W.widen h1 h2 (vx_ret ?_)
  exact W.aret (v := rv g x) (rt := rt) hx hb (hrt.trans hr) hrt2 (rv_or g x) (fun t ht hW => ⟨⟨some (vR x), h, rfl, hq, by rw [ht]; exact hR⟩, hS.F ht⟩) hS.2.2 hd hlk
/-! ===== calls ===== -/
/-- the callee's own words: its code, its class, its arguments in number -/
def MOk (N : MD) (n : Nat) : Prop := codeW N ∈ lw_g ∧ Cond.initialized (mY N).cls ∈ lw_g ∧ ((mY N).cls ≠ "java/lang/invoke/MethodHandle" ∧ (mY N).cls ≠ "java/lang/invoke/VarHandle") ∧ (∀ sig, parseMethodDescriptor (mY N).desc = some sig → n = sig.parameters.length) ∧ mX N ≤ 45
theorem mW_good (N : MD) (h : codeW N ∈ lw_g) : GoodIn lw_g (mW N) := fun w hw => (List.mem_cons.mp hw).elim (fun e => by rw [e]; exact lg_good _ h) (fun h2 => lg_good _ h2)
theorem mW_pay {N : MD} {s : State} {args : Array Value} (ht : ∀ w ∈ lw_g, w.before args s = true) (h : codeW N ∈ lw_g) : ∀ w ∈ mW N, ∀ (a' : Array Value) (U : State), s.WarmedH U.vm → w.before a' U = true :=
  pay_in ht (mW_good N h)
theorem Ex.fin {g : Gp} {M : MD} {pc : Nat} {L rest : List AV} {u : Nat × Nat} {Q Q' : PQ} {XK : Nat → AH → Prop} {mc ms : Nat} {a : Array Value} {st0 : List Value}
    {p : Program} {l : Launch} {e : Env} {s : State} {m : MethodId} {args : Array Value} {below : List Frame} {meth : Method} {c : Code} {H : Heap} {locs : List Loc} {ls : Array Slot}
    (hC : Cx g M p l s m args meth c) (hS : va_S (gAd g) s.heap H locs) (hL : LR g L ls) (hl : L.length = mX M) (h1 : u.1 + mc ≤ mC M) (h2 : u.2 + ms ≤ mS M)
    (hr : vx_Run p l e (rmM M) s m args below meth c H locs u.1 u.2 mc ms (F0 m pc ls st0) (rest.map (tv g)) (Qn g Q' a) (Qx g Q') (gAd g))
    (hk : ∀ v h', Q' (.inl v) h' → Ex g M (pc + 3) L (v.toList ++ rest) h' (u.1 + mc, u.2 + ms) Q)
    (hx : ∀ k h', Q' (.inr k) h' → XK k h')
    (hX : ∀ (k : Nat) (h' : AH) (H1 : Heap) (locs1 : List Loc) (q : Addr) (ce : Cell), XK k h' → Rep g h' H1 → va_S (gAd g) s.heap H1 locs1 → H1[q]? = some ce → ce.vm = .none → s.vm.findClass (exN k) = some ce.cls →
      vx_W p l e (rmM M) s m args below meth c H1 locs1 (u.1 + mc) (u.2 + ms) (vx_MQ below (Qn g Q) (Qx g Q) args s (mC M) (mS M) (gAd g)) (F0 m pc ls (rest.map (tv g))) q) :
    W p l e (rmM M) s m args below meth c H locs u.1 u.2 (vx_MQ below (Qn g Q) (Qx g Q) args s (mC M) (mS M) (gAd g)) (F0 m pc ls st0) := by
  intro T hT X
  rcases hr T hT X with ⟨v, st₀, t, T', L1, h0, X', hL1, e1, e2, ⟨⟨v', h', hv, hq, hR⟩, hF⟩, st⟩ | ⟨q, st₀, t, T', L1, E, ce, h0, X', hL1, e1, e2, ⟨⟨k, h', hE, hq, hR⟩, hF⟩, hce, hcv, hcl, st⟩
  · have hv2 : v = v'.map (tv g) := Outcome.returned.inj hv
    subst hv2
    obtain ⟨k1, k2, k3⟩ := vx_keep h0 e1 hS (fun _ _ h => h) (fun _ h => h) hL1 hF
    obtain ⟨t2, a1, b1⟩ := hk v' h' hq p l e s m args below meth c T'.heap (locs ++ L1) ls hC (by rw [e1]; exact hR) k3 hL hl h1 h2 T' rfl X'
    refine ⟨t2, st t2 ?_, b1⟩
    have : (v'.toList ++ rest).map (tv g) = (v'.map (tv g)).toList ++ rest.map (tv g) := by cases v' <;> rfl
    rw [this] at a1
    exact a1
  · subst hE
    obtain ⟨k1, k2, k3⟩ := vx_keep h0 e1 hS (fun _ _ h => h) (fun _ h => h) hL1 hF
    obtain ⟨t2, a1, b1⟩ := hX k h' T'.heap (locs ++ L1) q ce (hx k h' hq) (by rw [e1]; exact hR) k3 (by rw [e1]; exact hce) hcv hcl T' rfl X'
    exact ⟨t2, st.trans a1, b1⟩
theorem Ex.out {g : Gp} {M : MD} {pc : Nat} {rest : List AV} {uc us : Nat} {Q : PQ} {k : Nat} {h' : AH} {p : Program} {l : Launch} {e : Env} {s : State} {m : MethodId} {args : Array Value} {below : List Frame} {meth : Method} {c : Code} {H1 : Heap} {locs1 : List Loc} {ls : Array Slot} {q : Addr} {ce : Cell}
    (hH : mH M = []) (hC : Cx g M p l s m args meth c) (h1 : uc ≤ mC M) (h2 : us ≤ mS M) (hq : Q (.inr k) h') (hR : Rep g h' H1) (hS : va_S (gAd g) s.heap H1 locs1) (hce : H1[q]? = some ce) (hcv : ce.vm = .none) (hcl : s.vm.findClass (exN k) = some ce.cls) :
    vx_W p l e (rmM M) s m args below meth c H1 locs1 uc us (vx_MQ below (Qn g Q) (Qx g Q) args s (mC M) (mS M) (gAd g)) (F0 m pc ls (rest.map (tv g))) q := by
  obtain ⟨-, -, -, -, -, -, hlk, -, -, -, -, htb⟩ := hC
  refine vx_out (fun x hx => ?_) hlk hce hcv hcl (fun t ht _ => ⟨⟨k, h', rfl, hq, by rw [ht]; exact hR⟩, hS.F ht⟩) hS.2.2 h1 h2
  rw [htb, hH] at hx
  exact absurd hx (by simp [tableOf])
theorem callB_M {g : Gp} {M N : MD} {p : Program} {l : Launch} {s : State} {m : MethodId} {args : Array Value} {meth : Method} {c : Code} {n i : Nat} (hC : Cx g M p l s m args meth c) (hN : MOk N n) (hcode : mH N = []) (hl : Cond.methodLink (mO M) i (mY N) ∈ lw_g) (hdp : mDp N + 1 ≤ mDp M) :
    CallB (rmM M) s args (mO M) i (mY N) (mB N) (mX N) (mR N) (mW N) (rmM N) (mC N) (mS N) n := by
  obtain ⟨-, -, -, -, -, hts, -⟩ := hC
  obtain ⟨k1, k2, k3, k4, k5⟩ := hN
  have hcw : codeW N = Cond.code (mY N) (mB N) (mX N) (mR N) := by simp [codeW, hcode]
  refine ⟨rfl, rfl, hdp, ?_, mW_pay hts k1, by rw [← hcw]; exact List.mem_cons_self, by rw [← hcw]; exact hts _ k1, hts _ k2, k3, k4, hts _ hl⟩
  show 8 + (mX N + 11) + (64 * mDp N + 100) ≤ 64 * mDp M + 100
  omega
theorem lr_room {g : Gp} {m : MethodId} {pc : Nat} {ls : Array Slot} {st : List Value} {rest : List AV} (h : rest.length ≤ 4) : 2 * (F0 m pc ls st).monitorRoom + ((rest.map (tv g)).map fun v => v.category).sum ≤ 8 := by
  refine lv_room ?_
  have hc : ∀ v : Value, v.category ≤ 2 := fun v => by cases v <;> simp [Value.category]
  have : ∀ r : List AV, ((r.map (tv g)).map fun v => v.category).sum ≤ 2 * r.length := by
    intro r
    induction r with
    | nil => simp
    | cons x r ih => simp only [List.map_cons, List.sum_cons, List.length_cons]; have := hc (tv g x); omega
  have := this rest
  omega
theorem Pc.at {g : Gp} {av : List AV} {h : AH} {H : Heap} {s : State} {locs : List Loc} (hR : Rep g h H) (hK : va_K (gD g) clt (tyl g) s) (hO : Old g s) (hS : va_S (gAd g) s.heap H locs) : ∀ U : State, U.heap = H → s.WarmedH U.vm → Pc g av h (av.map (tv g)).toArray U := by
  intro U hU hW
  exact ⟨rfl, by rw [hU]; exact hR, va_K.moved hW.alike hK, Old.trans (locs := locs) hW (by rw [hU]; exact hS) hO⟩
theorem Ex.callS {g : Gp} {M N : MD} {pc i : Nat} {L rest av : List AV} {h : AH} {u : Nat × Nat} {Q Q' : PQ} (hM : mH M = []) (hN : MOk N av.length) (hcode : mH N = []) (hl : Cond.methodLink (mO M) i (mY N) ∈ lw_g) (hst : Cond.static (mY N) ∈ lw_g) (hdp : mDp N + 1 ≤ mDp M) (h1 : u.1 + mC N ≤ mC M) (h2 : u.2 + mS N ≤ mS M) (hrest : rest.length ≤ 4) (hd : decode (mB M) pc = .ok (.invokestatic i, 3))
    (ev : Ev g N av h Q') (hk : ∀ v h', Q' (.inl v) h' → Ex g M (pc + 3) L (v.toList ++ rest) h' (u.1 + mC N, u.2 + mS N) Q) (hx : ∀ k h', Q' (.inr k) h' → Q (.inr k) h') : Ex g M pc L (av.reverse ++ rest) h u Q := by
  intro p l e s m args below meth c H locs ls hC hR hS hL hl0 g1 g2
  obtain ⟨hX, hb, hrt, hml, how, hts, hlk, hnm, hK, hO, hlt, htb⟩ := id hC
  refine Ex.fin (a := (av.map (tv g)).toArray) (XK := fun k h' => Q (.inr k) h') hC hS hL hl0 h1 h2 ?_ hk hx (fun k h' H1 locs1 q ce z1 z2 z3 z4 z5 z6 => Ex.out hM hC h1 h2 z1 z2 z3 z4 z5 z6)
  exact vx_runS (As := av.map (tv g)) (rest := rest.map (tv g)) ⟨hX, hb, hml, how, hts⟩ (ev l hlt) ⟨callB_M hC hN hcode hl hdp, hts _ hst⟩ ⟨Pc.blind, Pc.at hR hK hO hS⟩ rfl (by simp) (by rw [← hl0]; exact hL.1) (by simp) (lr_room hrest) hd ⟨h1, h2⟩
theorem rep_recv {g : Gp} {h : AH} {H : Heap} {s : State} {x c : Nat} {r : vw_C} (hR : Rep g h H) (hK : va_K (gD g) clt (tyl g) s) (hx : zK h x = (1, c)) (hc : clt[c]? = some r) : ∃ cell : Cell, H[adr g x]? = some cell ∧ cell.vm.isStatics = false ∧ s.vm.findClass r.1 = some cell.cls := by
  have h1 := hR.2.2.2 x (by rw [hx]; exact Nat.one_ne_zero)
  have he : ent g h x = .inr (c, (List.range (nfl c)).map (fv g h c x)) := by simp [ent, entk, hx]
  rw [he] at h1
  have hP : va_P (gD g) clt [(adr g x, .inr (c, (List.range (nfl c)).map (fv g h c x)))] H := fun k q hq => by
    match k, hq with
    | 0, hq => cases hq; exact h1
    | k + 1, hq => simp at hq
  exact va_recv hK hP hc (q0 := 0) rfl
theorem Ex.callV {g : Gp} {M N : MD} {pc i x ci : Nat} {r : vw_C} {L rest av : List AV} {h : AH} {u : Nat × Nat} {Q Q' : PQ} (hM : mH M = []) (hN : MOk N av.length) (hcode : mH N = []) (hl : Cond.methodLink (mO M) i (mY N) ∈ lw_g) (hin : Cond.instanceMethod (mY N) ∈ lw_g) (hse : Cond.selects r.1 (mY N) (mY N) ∈ lw_g) (hc : clt[ci]? = some r) (hx0 : zK h x = (1, ci)) (hdp : mDp N + 1 ≤ mDp M) (h1 : u.1 + mC N ≤ mC M) (h2 : u.2 + mS N ≤ mS M) (hrest : rest.length ≤ 4) (hd : decode (mB M) pc = .ok (.invokevirtual i, 3))
    (ev : Ev g N (vR x :: av) h Q') (hk : ∀ v h', Q' (.inl v) h' → Ex g M (pc + 3) L (v.toList ++ rest) h' (u.1 + mC N, u.2 + mS N) Q) (hx : ∀ k h', Q' (.inr k) h' → Q (.inr k) h') : Ex g M pc L (av.reverse ++ vR x :: rest) h u Q := by
  intro p l e s m args below meth c H locs ls hC hR hS hL hl0 g1 g2
  obtain ⟨hX, hb, hrt, hml, how, hts, hlk, hnm, hK, hO, hlt, htb⟩ := id hC
  have hx3 : x ≠ 0 := fun h0 => by have := hR.2.2.1 x (Or.inl (by omega)); rw [hx0] at this; exact Nat.one_ne_zero this
  have hv : tv g (vR x) = .ref (adr g x) := by simp [tv, rv, hx3]
  refine Ex.fin (a := (Value.ref (adr g x) :: av.map (tv g)).toArray) (XK := fun k h' => Q (.inr k) h') hC hS hL hl0 h1 h2 ?_ hk hx (fun k h' H1 locs1 q ce z1 z2 z3 z4 z5 z6 => Ex.out hM hC h1 h2 z1 z2 z3 z4 z5 z6)
  refine vx_runV (b := adr g x) (C := r.1) (As := av.map (tv g)) (rest := rest.map (tv g)) ⟨hX, hb, hml, how, hts⟩ (ev l hlt) ⟨callB_M hC hN hcode hl hdp, hts _ hin, hts _ hse⟩ ⟨Pc.blind, rep_recv hR hK hx0 hc, fun U hU hW => ?_⟩ rfl (by simp) (by rw [← hl0]; exact hL.1) (by simp [hv]) (lr_room hrest) hd ⟨h1, h2⟩
  have := Pc.at (av := vR x :: av) hR hK hO hS U hU hW
  rw [List.map_cons, hv] at this
  exact this
theorem Ex.callI {g : Gp} {M N : MD} {pc i x : Nat} {L rest av : List AV} {h : AH} {u : Nat × Nat} {Q Q' : PQ} (hM : mH M = []) (hN : MOk N av.length) (hcode : mH N = []) (hret : mR N = none) (hini : (mY N).name = "<init>") (hl : Cond.methodLink (mO M) i (mY N) ∈ lw_g) (hin : Cond.instanceMethod (mY N) ∈ lw_g) (hx0 : x ≠ 0) (hdp : mDp N + 1 ≤ mDp M) (h1 : u.1 + mC N ≤ mC M) (h2 : u.2 + mS N ≤ mS M) (hrest : rest.length ≤ 4) (hd : decode (mB M) pc = .ok (.invokespecial i, 3))
    (ev : Ev g N (vR x :: av) h Q') (hk : ∀ v h', Q' (.inl v) h' → Ex g M (pc + 3) L (v.toList ++ rest) h' (u.1 + mC N, u.2 + mS N) Q) (hx : ∀ k h', Q' (.inr k) h' → Q (.inr k) h') : Ex g M pc L (av.reverse ++ vR x :: rest) h u Q := by
  intro p l e s m args below meth c H locs ls hC hR hS hL hl0 g1 g2
  obtain ⟨hX, hb, hrt, hml, how, hts, hlk, hnm, hK, hO, hlt, htb⟩ := id hC
  have hv : tv g (vR x) = .ref (adr g x) := by simp [tv, rv, hx0]
  refine Ex.fin (a := (Value.ref (adr g x) :: av.map (tv g)).toArray) (XK := fun k h' => Q (.inr k) h') hC hS hL hl0 h1 h2 ?_ hk hx (fun k h' H1 locs1 q ce z1 z2 z3 z4 z5 z6 => Ex.out hM hC h1 h2 z1 z2 z3 z4 z5 z6)
  have cb := callB_M hC hN hcode hl hdp
  rw [hret] at cb
  refine vx_runI (b := adr g x) (As := av.map (tv g)) (rest := rest.map (tv g)) ⟨hX, hb, hml, how, hts⟩ (ev l hlt) ⟨cb, hini, hts _ hin⟩ ⟨Pc.blind, fun U hU hW => ?_⟩ rfl (by simp) (by rw [← hl0]; exact hL.1) (by simp [hv]) (lr_room hrest) hd ⟨h1, h2⟩
  have := Pc.at (av := vR x :: av) hR hK hO hS U hU hW
  rw [List.map_cons, hv] at this
  exact this
theorem Ex.callIN {g : Gp} {M N : MD} {pc i x : Nat} {host : String} {L rest av : List AV} {h : AH} {u : Nat × Nat} {Q Q' : PQ} (hM : mH M = []) (hN : MOk N av.length) (hcode : mH N = []) (hret : mR N = none) (hini : (mY N).name = "<init>") (hl : Cond.methodLinkNest (mO M) i (mY N) host ∈ lw_n) (hin : Cond.instanceMethod (mY N) ∈ lw_g) (hx0 : x ≠ 0) (hdp : mDp N + 1 ≤ mDp M) (h1 : u.1 + mC N ≤ mC M) (h2 : u.2 + mS N ≤ mS M) (hrest : rest.length ≤ 4) (hd : decode (mB M) pc = .ok (.invokespecial i, 3))
    (ev : Ev g N (vR x :: av) h Q') (hk : ∀ v h', Q' (.inl v) h' → Ex g M (pc + 3) L (v.toList ++ rest) h' (u.1 + mC N, u.2 + mS N) Q) (hx : ∀ k h', Q' (.inr k) h' → Q (.inr k) h') : Ex g M pc L (av.reverse ++ vR x :: rest) h u Q := by
  intro p l e s m args below meth c H locs ls hC hR hS hL hl0 g1 g2
  obtain ⟨hX, hb, hrt, hml, how, hts, hlk, hnm, hK, hO, hlt, htb⟩ := id hC
  have hv : tv g (vR x) = .ref (adr g x) := by simp [tv, rv, hx0]
  refine Ex.fin (a := (Value.ref (adr g x) :: av.map (tv g)).toArray) (XK := fun k h' => Q (.inr k) h') hC hS hL hl0 h1 h2 ?_ hk hx (fun k h' H1 locs1 q ce z1 z2 z3 z4 z5 z6 => Ex.out hM hC h1 h2 z1 z2 z3 z4 z5 z6)
  obtain ⟨k1, k2, k3, k4, k5⟩ := id hN
  have hcw : codeW N = Cond.code (mY N) (mB N) (mX N) none := by simp [codeW, hcode, hret]
  have cb : va_CN (rmM M) s args (mO M) i (mY N) host (mB N) (mX N) none (mW N) (rmM N) (mC N) (mS N) av.length := by
    refine ⟨⟨rfl, rfl, hdp, ?_, mW_pay hts k1, by rw [← hcw]; exact List.mem_cons_self⟩, by rw [← hcw]; exact hts _ k1, hts _ k2, k3, k4, hO.nw _ hl⟩
    show 8 + (mX N + 11) + (64 * mDp N + 100) ≤ 64 * mDp M + 100
    omega
  refine vx_runIN (b := adr g x) (As := av.map (tv g)) (rest := rest.map (tv g)) ⟨hX, hb, hml, how, hts⟩ (ev l hlt) ⟨cb, hini, hts _ hin⟩ ⟨Pc.blind, fun U hU hW => ?_⟩ rfl (by simp) (by rw [← hl0]; exact hL.1) (by simp [hv]) (lr_room hrest) hd ⟨h1, h2⟩
  have := Pc.at (av := vR x :: av) hR hK hO hS U hU hW
  rw [List.map_cons, hv] at this
  exact this
/-- a static call of a method with handlers -/
theorem Ex.callSW {g : Gp} {M N : MD} {pc i : Nat} {hh : List (Nat × Nat × Nat × Nat)} {L rest av : List AV} {h : AH} {u : Nat × Nat} {Q Q' : PQ} (hM : mH M = []) (hN : MOk N av.length) (hcode : mH N = hh) (hne : hh ≠ []) (hl : Cond.methodLink (mO M) i (mY N) ∈ lw_g) (hst : Cond.static (mY N) ∈ lw_g) (hdp : mDp N + 1 ≤ mDp M) (h1 : u.1 + mC N ≤ mC M) (h2 : u.2 + mS N ≤ mS M) (hrest : rest.length ≤ 4) (hd : decode (mB M) pc = .ok (.invokestatic i, 3))
    (ev : Ev g N av h Q') (hk : ∀ v h', Q' (.inl v) h' → Ex g M (pc + 3) L (v.toList ++ rest) h' (u.1 + mC N, u.2 + mS N) Q) (hx : ∀ k h', Q' (.inr k) h' → Q (.inr k) h') : Ex g M pc L (av.reverse ++ rest) h u Q := by
  intro p l e s m args below meth c H locs ls hC hR hS hL hl0 g1 g2
  obtain ⟨hX, hb, hrt, hml, how, hts, hlk, hnm, hK, hO, hlt, htb⟩ := id hC
  refine Ex.fin (a := (av.map (tv g)).toArray) (XK := fun k h' => Q (.inr k) h') hC hS hL hl0 h1 h2 ?_ hk hx (fun k h' H1 locs1 q ce z1 z2 z3 z4 z5 z6 => Ex.out hM hC h1 h2 z1 z2 z3 z4 z5 z6)
  obtain ⟨k1, k2, k3, k4, k5⟩ := id hN
  have hcw : codeW N = Cond.codeWith (mY N) (mB N) (mX N) (mR N) hh := by
    subst hcode
    unfold codeW
    split
    · rename_i hq; exact absurd hq hne
    · rename_i hq; rw [hq]
  have cb : vx_CSW (rmM M) s args (mO M) i (mY N) (mB N) (mX N) (mR N) hh (mW N) (rmM N) (mC N) (mS N) av.length := by
    refine ⟨⟨rfl, rfl, hdp, ?_, mW_pay hts k1, by rw [← hcw]; exact List.mem_cons_self⟩, by rw [← hcw]; exact hts _ k1, hts _ k2, k3, k4, hts _ hl, hts _ hst⟩
    show 8 + (mX N + 11) + (64 * mDp N + 100) ≤ 64 * mDp M + 100
    omega
  exact vx_runSX (As := av.map (tv g)) (rest := rest.map (tv g)) ⟨hX, hb, hml, how, hts⟩ (ev l hlt) cb ⟨Pc.blind, Pc.at hR hK hO hS⟩ rfl (by simp) (by rw [← hl0]; exact hL.1) (by simp) (lr_room hrest) hd ⟨h1, h2⟩
end
section
/-! ===== locals ===== -/
def lg : List AV → Nat → AV
  | [], _ => vU
  | v :: _, 0 => v
  | _ :: r, n + 1 => lg r n
def lset : List AV → Nat → AV → List AV
  | [], _, _ => []
  | _ :: r, 0, v => v :: r
  | a :: r, n + 1, v => a :: lset r n v
def lkill (L : List AV) (j : Nat) : List AV := match lg L j with
  | .inr (.inl _) => lset L j vU
  | .inr (.inr (.inl _)) => lset L j vU
  | _ => L
def st1 (L : List AV) (i : Nat) (v : AV) : List AV := match i with
  | 0 => lset L 0 v
  | j + 1 => lset (lkill L j) (j + 1) v
def st2 (L : List AV) (i : Nat) (v : AV) : List AV := lset (st1 L i v) (i + 1) vU
theorem lset_len (L : List AV) : ∀ (i : Nat) (v : AV), (lset L i v).length = L.length := by
  induction L with
  | nil => intro i v; rfl
  | cons a r ih => intro i v; cases i with
    | zero => rfl
    | succ n => simp [lset, ih]
theorem lset_lg (L : List AV) : ∀ (i : Nat) (v : AV) (j : Nat), i < L.length → lg (lset L i v) j = if j = i then v else lg L j := by
  induction L with
  | nil => intro i v j h; simp at h
  | cons a r ih =>
    intro i v j h
    cases i with
    | zero => cases j with
      | zero => rfl
      | succ j => simp [lset, lg]
    | succ i => cases j with
      | zero => simp [lset, lg]
      | succ j => simp only [lset, lg]; rw [ih i v j (by simpa using h)]; simp
theorem lg_some {L : List AV} : ∀ {i : Nat} {v : AV}, lg L i = v → v ≠ vU → L[i]? = some v := by
  induction L with
  | nil => intro i v h hv; exact absurd h.symm hv
  | cons a r ih => intro i v h hv; cases i with
    | zero => simp only [lg] at h; simp [h]
    | succ i => simp only [lg] at h; simpa using ih h hv
theorem some_lg {L : List AV} : ∀ {i : Nat} {v : AV}, L[i]? = some v → lg L i = v := by
  induction L with
  | nil => intro i v h; simp at h
  | cons a r ih => intro i v h; cases i with
    | zero => simp only [List.getElem?_cons_zero, Option.some.injEq] at h; simp [lg, h]
    | succ i => simp only [List.getElem?_cons_succ] at h; simpa [lg] using ih h
theorem lkill_len (L : List AV) (j : Nat) : (lkill L j).length = L.length := by
  unfold lkill
  split <;> simp [lset_len]
theorem lkill_lg (g : Gp) (L : List AV) (j k : Nat) (h : j < L.length) : lg (lkill L j) k = if k = j ∧ (tv g (lg L j)).category = 2 then vU else lg L k := by
  unfold lkill
  split
  · rename_i x hx
    rw [lset_lg _ _ _ _ h]
    simp [hx, tv, Value.category]
  · rename_i x hx
    rw [lset_lg _ _ _ _ h]
    simp [hx, tv, Value.category]
  · rename_i h1 h2
    have : ¬ (tv g (lg L j)).category = 2 := fun hc => by
      rcases (tv_cat2 g _).mp hc with ⟨x, hx⟩ | ⟨x, hx⟩
      · exact h1 _ hx
      · exact h2 _ hx
    simp [this]
theorem st1_len (L : List AV) (i : Nat) (v : AV) : (st1 L i v).length = L.length := by
  unfold st1
  split <;> simp [lset_len, lkill_len]
theorem st2_len (L : List AV) (i : Nat) (v : AV) : (st2 L i v).length = L.length := by
  unfold st2
  rw [lset_len, st1_len]
theorem st1_lg (g : Gp) (L : List AV) (i j : Nat) (v : AV) (h : i < L.length) : lg (st1 L i v) j = if j = i then v else if j + 1 = i ∧ (tv g (lg L j)).category = 2 then vU else lg L j := by
  unfold st1
  split
  · rw [lset_lg _ _ _ _ h]; simp
  · rename_i k
    rw [lset_lg _ _ _ _ (by rw [lkill_len]; exact h), lkill_lg g _ _ _ (by omega)]
    by_cases h1 : j = k + 1
    · simp [h1]
    · by_cases h2 : j = k
      · simp [h2]
      · simp [h1, h2]
/-- all that is known of the locals -/
def lvp (g : Gp) (L : List AV) : List (Nat × Value) := (List.range L.length).filterMap (fun i => if lg L i = vU then none else some (i, tv g (lg L i)))
theorem lvp_mem {g : Gp} {L : List AV} {q : Nat × Value} : q ∈ lvp g L ↔ q.1 < L.length ∧ lg L q.1 ≠ vU ∧ q.2 = tv g (lg L q.1) := by
  unfold lvp
  rw [List.mem_filterMap]
  constructor
  · rintro ⟨i, h1, h2⟩
    split at h2
    · cases h2
    · rename_i h3
      cases h2
      exact ⟨List.mem_range.mp h1, h3, rfl⟩
  · rintro ⟨h1, h2, h3⟩
    refine ⟨q.1, List.mem_range.mpr h1, ?_⟩
    rw [if_neg h2, ← h3]
theorem lg_lt {L : List AV} {i : Nat} (h : lg L i ≠ vU) : i < L.length := (List.getElem?_eq_some_iff.mp (lg_some rfl h)).1
theorem LR.has {g : Gp} {L : List AV} {ls : Array Slot} (h : LR g L ls) : lv_has ls L.length (lvp g L) := by
  refine ⟨h.1, h.2.1, fun q hq => ?_⟩
  obtain ⟨h1, h2, h3⟩ := lvp_mem.mp hq
  rw [h3]
  exact h.2.2 _ _ (lg_some rfl h2) h2
theorem LR.at {g : Gp} {L : List AV} {ls : Array Slot} (h : LR g L ls) {i : Nat} {v : AV} (hv : lg L i = v) (hu : v ≠ vU) : ls[i]? = some (.val (tv g v)) := h.2.2 i v (lg_some hv hu) hu
theorem LR.of {g : Gp} {L : List AV} {ls : Array Slot} {lv : List (Nat × Value)} {n : Nat} (h : lv_has ls n lv) (hn : n = L.length) (hm : ∀ i, lg L i ≠ vU → (i, tv g (lg L i)) ∈ lv) : LR g L ls :=
  ⟨h.1.trans hn, h.2.1, fun i v hi hv => by have e := some_lg hi; have := h.2.2 _ (hm i (by rw [e]; exact hv)); rw [e] at this; exact this⟩
theorem LR.set1 {g : Gp} {L : List AV} {ls' : Array Slot} {i : Nat} {v : AV} {n : Nat} {x : Value} (hn : n = L.length) (hi : i < L.length) (hx : x = tv g v) (h : lv_has ls' n ((i, x) :: (lvp g L).filter (fun q => !(q.1 == i) && !(q.1 + 1 == i && q.2.category == 2)))) : LR g (st1 L i v) ls' := by
  refine LR.of h (by rw [st1_len]; exact hn) (fun j hj => ?_)
  rw [st1_lg g _ _ _ _ hi] at hj ⊢
  by_cases h1 : j = i
  · subst h1
    simp [hx]
  · rw [if_neg h1] at hj ⊢
    by_cases h2 : j + 1 = i ∧ (tv g (lg L j)).category = 2
    · rw [if_pos h2] at hj; exact absurd rfl hj
    · rw [if_neg h2] at hj ⊢
      refine List.mem_cons_of_mem _ (List.mem_filter.mpr ⟨lvp_mem.mpr ⟨lg_lt hj, hj, rfl⟩, ?_⟩)
      simp [h1]
      omega
theorem LR.set2 {g : Gp} {L : List AV} {ls' : Array Slot} {i : Nat} {v : AV} {n : Nat} {x : Value} (hn : n = L.length) (hi : i + 1 < L.length) (hx : x = tv g v) (h : lv_has ls' n ((i, x) :: (lvp g L).filter (fun q => !(q.1 == i) && (!(q.1 == i + 1) && !(q.1 + 1 == i && q.2.category == 2))))) : LR g (st2 L i v) ls' := by
  refine LR.of h (by rw [st2_len]; exact hn) (fun j hj => ?_)
  unfold st2 at hj ⊢
  rw [lset_lg _ _ _ _ (by rw [st1_len]; exact hi), st1_lg g _ _ _ _ (by omega)] at hj ⊢
  by_cases h0 : j = i + 1
  · rw [if_pos h0] at hj; exact absurd rfl hj
  · rw [if_neg h0] at hj ⊢
    by_cases h1 : j = i
    · subst h1
      simp [hx]
    · rw [if_neg h1] at hj ⊢
      by_cases h2 : j + 1 = i ∧ (tv g (lg L j)).category = 2
      · rw [if_pos h2] at hj; exact absurd rfl hj
      · rw [if_neg h2] at hj ⊢
        refine List.mem_cons_of_mem _ (List.mem_filter.mpr ⟨lvp_mem.mpr ⟨lg_lt hj, hj, rfl⟩, ?_⟩)
        simp [h1, h0]
        omega
/-- some locals are forgotten -/
def lsub : List AV → List AV → Prop
  | [], [] => True
  | a :: r, b :: q => (a = vU ∨ a = b) ∧ lsub r q
  | _, _ => False
theorem lsub_len : ∀ {L' L : List AV}, lsub L' L → L'.length = L.length
  | [], [], _ => rfl
  | _ :: _, _ :: _, h => by simp only [List.length_cons]; rw [lsub_len h.2]
theorem lsub_lg : ∀ {L' L : List AV} {i : Nat}, lsub L' L → lg L' i ≠ vU → lg L i = lg L' i
  | [], [], _, _, _ => rfl
  | a :: r, b :: q, 0, h, hv => by
    rcases h.1 with e | e
    · exact absurd e hv
    · exact e.symm
  | a :: r, b :: q, n + 1, h, hv => lsub_lg (L' := r) (L := q) h.2 hv
theorem Ex.forget {g : Gp} {M : MD} {pc : Nat} {L L' st : List AV} {h : AH} {u : Nat × Nat} {Q : PQ} (hs : lsub L' L) (k : Ex g M pc L' st h u Q) : Ex g M pc L st h u Q := by
  intro p l e s m args below meth c H locs ls hC hR hS hL hl h1 h2
  refine k p l e s m args below meth c H locs ls hC hR hS ⟨hL.1.trans (lsub_len hs).symm, hL.2.1, fun i v hi hv => ?_⟩ ((lsub_len hs).trans hl) h1 h2
  have e := some_lg hi
  have e2 := lsub_lg (i := i) hs (by rw [e]; exact hv)
  exact hL.at (e2.trans e) hv
end
section
/-! ===== the rules of the instructions that leave the heap (by program) ===== -/
theorem x_iconst {g : Gp} {M : MD} {pc : Nat} {L st : List AV} {h : AH} {u : Nat × Nat} {Q : PQ} {n : Int} {v : Int32} (hv : Int32.ofInt n = v) (hd : decode (mB M) pc = .ok (.iconst n, 1)) (k : Ex g M (pc + 1) L (vI v :: st) h u Q) : Ex g M pc L (st) h u Q := by
  intro p l e s m args below meth c H locs ls hC hR hS hL hl h1 h2
  obtain ⟨hx, hb, hrt, hml, how, hts, -⟩ := id hC
  exact lv_iconst hx hb hd hv (k p l e s m args below meth c H locs ls hC hR hS hL hl h1 h2)
theorem x_bipush {g : Gp} {M : MD} {pc : Nat} {L st : List AV} {h : AH} {u : Nat × Nat} {Q : PQ} {n : Int} {v : Int32} (hv : (Int8.ofInt n).toInt32 = v) (hd : decode (mB M) pc = .ok (.bipush n, 2)) (k : Ex g M (pc + 2) L (vI v :: st) h u Q) : Ex g M pc L (st) h u Q := by
  intro p l e s m args below meth c H locs ls hC hR hS hL hl h1 h2
  obtain ⟨hx, hb, hrt, hml, how, hts, -⟩ := id hC
  exact lv_bipush hx hb hd hv (k p l e s m args below meth c H locs ls hC hR hS hL hl h1 h2)
theorem x_sipush {g : Gp} {M : MD} {pc : Nat} {L st : List AV} {h : AH} {u : Nat × Nat} {Q : PQ} {n : Int} {v : Int32} (hv : (Int16.ofInt n).toInt32 = v) (hd : decode (mB M) pc = .ok (.sipush n, 3)) (k : Ex g M (pc + 3) L (vI v :: st) h u Q) : Ex g M pc L (st) h u Q := by
  intro p l e s m args below meth c H locs ls hC hR hS hL hl h1 h2
  obtain ⟨hx, hb, hrt, hml, how, hts, -⟩ := id hC
  exact lv_sipush hx hb hd hv (k p l e s m args below meth c H locs ls hC hR hS hL hl h1 h2)
theorem x_lconst {g : Gp} {M : MD} {pc : Nat} {L st : List AV} {h : AH} {u : Nat × Nat} {Q : PQ} {n : Fin 2} {v : Int64} (hv : Int64.ofNat (n : Nat) = v) (hd : decode (mB M) pc = .ok (.lconst n, 1)) (k : Ex g M (pc + 1) L (vL v :: st) h u Q) : Ex g M pc L (st) h u Q := by
  intro p l e s m args below meth c H locs ls hC hR hS hL hl h1 h2
  obtain ⟨hx, hb, hrt, hml, how, hts, -⟩ := id hC
  exact lv_lconst hx hb hd hv (k p l e s m args below meth c H locs ls hC hR hS hL hl h1 h2)
theorem x_dconst0 {g : Gp} {M : MD} {pc : Nat} {L st : List AV} {h : AH} {u : Nat × Nat} {Q : PQ}  (hd : decode (mB M) pc = .ok (.dconst 0, 1)) (k : Ex g M (pc + 1) L (vD FP.dconst0 :: st) h u Q) : Ex g M pc L (st) h u Q := by
  intro p l e s m args below meth c H locs ls hC hR hS hL hl h1 h2
  obtain ⟨hx, hb, hrt, hml, how, hts, -⟩ := id hC
  exact lv_dconst0 hx hb hd (k p l e s m args below meth c H locs ls hC hR hS hL hl h1 h2)
theorem x_ldc {g : Gp} {M : MD} {pc : Nat} {L st : List AV} {h : AH} {u : Nat × Nat} {Q : PQ} {i : Nat} {v : Int32} (hw : Cond.constant (mO M) i v ∈ lw_g) (hd : decode (mB M) pc = .ok (.ldc i, 2)) (k : Ex g M (pc + 2) L (vI v :: st) h u Q) : Ex g M pc L (st) h u Q := by
  intro p l e s m args below meth c H locs ls hC hR hS hL hl h1 h2
  obtain ⟨hx, hb, hrt, hml, how, hts, -⟩ := id hC
  exact lv_ldc hx hb how (hts _ hw) hd (k p l e s m args below meth c H locs ls hC hR hS hL hl h1 h2)
theorem x_ldcw {g : Gp} {M : MD} {pc : Nat} {L st : List AV} {h : AH} {u : Nat × Nat} {Q : PQ} {i : Nat} {v : Int32} (hw : Cond.constant (mO M) i v ∈ lw_g) (hd : decode (mB M) pc = .ok (.ldc_w i, 3)) (k : Ex g M (pc + 3) L (vI v :: st) h u Q) : Ex g M pc L (st) h u Q := by
  intro p l e s m args below meth c H locs ls hC hR hS hL hl h1 h2
  obtain ⟨hx, hb, hrt, hml, how, hts, -⟩ := id hC
  exact lv_ldcw hx hb how (hts _ hw) hd (k p l e s m args below meth c H locs ls hC hR hS hL hl h1 h2)
theorem x_ldc2 {g : Gp} {M : MD} {pc : Nat} {L st : List AV} {h : AH} {u : Nat × Nat} {Q : PQ} {i : Nat} {v : Int64} (hw : Cond.constantLong (mO M) i v ∈ lw_g) (hd : decode (mB M) pc = .ok (.ldc2_w i, 3)) (k : Ex g M (pc + 3) L (vL v :: st) h u Q) : Ex g M pc L (st) h u Q := by
  intro p l e s m args below meth c H locs ls hC hR hS hL hl h1 h2
  obtain ⟨hx, hb, hrt, hml, how, hts, -⟩ := id hC
  exact lv_ldc2 hx hb how (hts _ hw) hd (k p l e s m args below meth c H locs ls hC hR hS hL hl h1 h2)
theorem x_ldc2d {g : Gp} {M : MD} {pc : Nat} {L st : List AV} {h : AH} {u : Nat × Nat} {Q : PQ} {i : Nat} {v : UInt64} (hw : Cond.constantDouble (mO M) i v ∈ lw_g) (hd : decode (mB M) pc = .ok (.ldc2_w i, 3)) (k : Ex g M (pc + 3) L (vD v :: st) h u Q) : Ex g M pc L (st) h u Q := by
  intro p l e s m args below meth c H locs ls hC hR hS hL hl h1 h2
  obtain ⟨hx, hb, hrt, hml, how, hts, -⟩ := id hC
  exact lv_ldc2d hx hb how (hts _ hw) hd (k p l e s m args below meth c H locs ls hC hR hS hL hl h1 h2)
theorem x_null {g : Gp} {M : MD} {pc : Nat} {L st : List AV} {h : AH} {u : Nat × Nat} {Q : PQ}  (hd : decode (mB M) pc = .ok (.aconst_null, 1)) (k : Ex g M (pc + 1) L (vR 0 :: st) h u Q) : Ex g M pc L (st) h u Q := by
  intro p l e s m args below meth c H locs ls hC hR hS hL hl h1 h2
  obtain ⟨hx, hb, hrt, hml, how, hts, -⟩ := id hC
  exact lv_null hx hb hd (k p l e s m args below meth c H locs ls hC hR hS hL hl h1 h2)
theorem x_iload_n {g : Gp} {M : MD} {pc : Nat} {L st : List AV} {h : AH} {u : Nat × Nat} {Q : PQ} {i : Nat} {k4 : Fin 4} {x : Int32} (hi : (k4 : Nat) = i) (hv : lg L i = vI x) (hd : decode (mB M) pc = .ok (.iload_n k4, 1)) (k : Ex g M (pc + 1) L (vI x :: st) h u Q) : Ex g M pc L (st) h u Q := by
  intro p l e s m args below meth c H locs ls hC hR hS hL hl h1 h2
  obtain ⟨hx, hb, hrt, hml, how, hts, -⟩ := id hC
  exact lv_iload_n hx hb hd hi (hL.at hv (by simp)) (k p l e s m args below meth c H locs ls hC hR hS hL hl h1 h2)
theorem x_iload {g : Gp} {M : MD} {pc : Nat} {L st : List AV} {h : AH} {u : Nat × Nat} {Q : PQ} {i : Nat} {x : Int32} (hv : lg L i = vI x) (hd : decode (mB M) pc = .ok (.iload i, 2)) (k : Ex g M (pc + 2) L (vI x :: st) h u Q) : Ex g M pc L (st) h u Q := by
  intro p l e s m args below meth c H locs ls hC hR hS hL hl h1 h2
  obtain ⟨hx, hb, hrt, hml, how, hts, -⟩ := id hC
  exact lv_iload hx hb hd (hL.at hv (by simp)) (k p l e s m args below meth c H locs ls hC hR hS hL hl h1 h2)
theorem x_istore_n {g : Gp} {M : MD} {pc : Nat} {L st : List AV} {h : AH} {u : Nat × Nat} {Q : PQ} {i : Nat} {k4 : Fin 4} {x : Int32} (hi : (k4 : Nat) = i) (hi2 : i < L.length) (hd : decode (mB M) pc = .ok (.istore_n k4, 1)) (k : Ex g M (pc + 1) (st1 L i (vI x)) (st) h u Q) : Ex g M pc L (vI x :: st) h u Q := by
  intro p l e s m args below meth c H locs ls hC hR hS hL hl h1 h2
  obtain ⟨hx, hb, hrt, hml, how, hts, -⟩ := id hC
  exact lv_istore_n hx hb hd hi hL.has hi2 rfl (fun ls2 hl2 => (k p l e s m args below meth c H locs ls2 hC hR hS (LR.set1 rfl hi2 rfl hl2) ((st1_len L i _).trans hl) h1 h2))
theorem x_istore {g : Gp} {M : MD} {pc : Nat} {L st : List AV} {h : AH} {u : Nat × Nat} {Q : PQ} {i : Nat} {x : Int32} (hi2 : i < L.length) (hd : decode (mB M) pc = .ok (.istore i, 2)) (k : Ex g M (pc + 2) (st1 L i (vI x)) (st) h u Q) : Ex g M pc L (vI x :: st) h u Q := by
  intro p l e s m args below meth c H locs ls hC hR hS hL hl h1 h2
  obtain ⟨hx, hb, hrt, hml, how, hts, -⟩ := id hC
  exact lv_istore hx hb hd hL.has hi2 rfl (fun ls2 hl2 => (k p l e s m args below meth c H locs ls2 hC hR hS (LR.set1 rfl hi2 rfl hl2) ((st1_len L i _).trans hl) h1 h2))
theorem x_lload_n {g : Gp} {M : MD} {pc : Nat} {L st : List AV} {h : AH} {u : Nat × Nat} {Q : PQ} {i : Nat} {k4 : Fin 4} {x : Int64} (hi : (k4 : Nat) = i) (hv : lg L i = vL x) (hd : decode (mB M) pc = .ok (.lload_n k4, 1)) (k : Ex g M (pc + 1) L (vL x :: st) h u Q) : Ex g M pc L (st) h u Q := by
  intro p l e s m args below meth c H locs ls hC hR hS hL hl h1 h2
  obtain ⟨hx, hb, hrt, hml, how, hts, -⟩ := id hC
  exact lv_lload_n hx hb hd hi (hL.at hv (by simp)) (k p l e s m args below meth c H locs ls hC hR hS hL hl h1 h2)
theorem x_lload {g : Gp} {M : MD} {pc : Nat} {L st : List AV} {h : AH} {u : Nat × Nat} {Q : PQ} {i : Nat} {x : Int64} (hv : lg L i = vL x) (hd : decode (mB M) pc = .ok (.lload i, 2)) (k : Ex g M (pc + 2) L (vL x :: st) h u Q) : Ex g M pc L (st) h u Q := by
  intro p l e s m args below meth c H locs ls hC hR hS hL hl h1 h2
  obtain ⟨hx, hb, hrt, hml, how, hts, -⟩ := id hC
  exact lv_lload hx hb hd (hL.at hv (by simp)) (k p l e s m args below meth c H locs ls hC hR hS hL hl h1 h2)
theorem x_lstore_n {g : Gp} {M : MD} {pc : Nat} {L st : List AV} {h : AH} {u : Nat × Nat} {Q : PQ} {i : Nat} {k4 : Fin 4} {x : Int64} (hi : (k4 : Nat) = i) (hi2 : i + 1 < L.length) (hd : decode (mB M) pc = .ok (.lstore_n k4, 1)) (k : Ex g M (pc + 1) (st2 L i (vL x)) (st) h u Q) : Ex g M pc L (vL x :: st) h u Q := by
  intro p l e s m args below meth c H locs ls hC hR hS hL hl h1 h2
  obtain ⟨hx, hb, hrt, hml, how, hts, -⟩ := id hC
  exact lv_lstore_n hx hb hd hi hL.has hi2 rfl (fun ls2 hl2 => (k p l e s m args below meth c H locs ls2 hC hR hS (LR.set2 rfl hi2 rfl hl2) ((st2_len L i _).trans hl) h1 h2))
theorem x_lstore {g : Gp} {M : MD} {pc : Nat} {L st : List AV} {h : AH} {u : Nat × Nat} {Q : PQ} {i : Nat} {x : Int64} (hi2 : i + 1 < L.length) (hd : decode (mB M) pc = .ok (.lstore i, 2)) (k : Ex g M (pc + 2) (st2 L i (vL x)) (st) h u Q) : Ex g M pc L (vL x :: st) h u Q := by
  intro p l e s m args below meth c H locs ls hC hR hS hL hl h1 h2
  obtain ⟨hx, hb, hrt, hml, how, hts, -⟩ := id hC
  exact lv_lstore hx hb hd hL.has hi2 rfl (fun ls2 hl2 => (k p l e s m args below meth c H locs ls2 hC hR hS (LR.set2 rfl hi2 rfl hl2) ((st2_len L i _).trans hl) h1 h2))
theorem x_dload_n {g : Gp} {M : MD} {pc : Nat} {L st : List AV} {h : AH} {u : Nat × Nat} {Q : PQ} {i : Nat} {k4 : Fin 4} {x : UInt64} (hi : (k4 : Nat) = i) (hv : lg L i = vD x) (hd : decode (mB M) pc = .ok (.dload_n k4, 1)) (k : Ex g M (pc + 1) L (vD x :: st) h u Q) : Ex g M pc L (st) h u Q := by
  intro p l e s m args below meth c H locs ls hC hR hS hL hl h1 h2
  obtain ⟨hx, hb, hrt, hml, how, hts, -⟩ := id hC
  exact lv_dload_n hx hb hd hi (hL.at hv (by simp)) (k p l e s m args below meth c H locs ls hC hR hS hL hl h1 h2)
theorem x_dload {g : Gp} {M : MD} {pc : Nat} {L st : List AV} {h : AH} {u : Nat × Nat} {Q : PQ} {i : Nat} {x : UInt64} (hv : lg L i = vD x) (hd : decode (mB M) pc = .ok (.dload i, 2)) (k : Ex g M (pc + 2) L (vD x :: st) h u Q) : Ex g M pc L (st) h u Q := by
  intro p l e s m args below meth c H locs ls hC hR hS hL hl h1 h2
  obtain ⟨hx, hb, hrt, hml, how, hts, -⟩ := id hC
  exact lv_dload hx hb hd (hL.at hv (by simp)) (k p l e s m args below meth c H locs ls hC hR hS hL hl h1 h2)
theorem x_dstore_n {g : Gp} {M : MD} {pc : Nat} {L st : List AV} {h : AH} {u : Nat × Nat} {Q : PQ} {i : Nat} {k4 : Fin 4} {x : UInt64} (hi : (k4 : Nat) = i) (hi2 : i + 1 < L.length) (hd : decode (mB M) pc = .ok (.dstore_n k4, 1)) (k : Ex g M (pc + 1) (st2 L i (vD x)) (st) h u Q) : Ex g M pc L (vD x :: st) h u Q := by
  intro p l e s m args below meth c H locs ls hC hR hS hL hl h1 h2
  obtain ⟨hx, hb, hrt, hml, how, hts, -⟩ := id hC
  exact lv_dstore_n hx hb hd hi hL.has hi2 rfl (fun ls2 hl2 => (k p l e s m args below meth c H locs ls2 hC hR hS (LR.set2 rfl hi2 rfl hl2) ((st2_len L i _).trans hl) h1 h2))
theorem x_dstore {g : Gp} {M : MD} {pc : Nat} {L st : List AV} {h : AH} {u : Nat × Nat} {Q : PQ} {i : Nat} {x : UInt64} (hi2 : i + 1 < L.length) (hd : decode (mB M) pc = .ok (.dstore i, 2)) (k : Ex g M (pc + 2) (st2 L i (vD x)) (st) h u Q) : Ex g M pc L (vD x :: st) h u Q := by
  intro p l e s m args below meth c H locs ls hC hR hS hL hl h1 h2
  obtain ⟨hx, hb, hrt, hml, how, hts, -⟩ := id hC
  exact lv_dstore hx hb hd hL.has hi2 rfl (fun ls2 hl2 => (k p l e s m args below meth c H locs ls2 hC hR hS (LR.set2 rfl hi2 rfl hl2) ((st2_len L i _).trans hl) h1 h2))
theorem x_aload_n {g : Gp} {M : MD} {pc : Nat} {L st : List AV} {h : AH} {u : Nat × Nat} {Q : PQ} {i : Nat} {k4 : Fin 4} {x : Nat} (hi : (k4 : Nat) = i) (hv : lg L i = vR x) (hd : decode (mB M) pc = .ok (.aload_n k4, 1)) (k : Ex g M (pc + 1) L (vR x :: st) h u Q) : Ex g M pc L (st) h u Q := by
  intro p l e s m args below meth c H locs ls hC hR hS hL hl h1 h2
  obtain ⟨hx, hb, hrt, hml, how, hts, -⟩ := id hC
  have k := (k p l e s m args below meth c H locs ls hC hR hS hL hl h1 h2)
  have ha := hL.at hv (by simp)
  simp only [List.map_cons, tv] at k ha
  rcases rv_or g x with hz | ⟨a, hz⟩
  · rw [hz] at k ha; exact lv_aload_nN hx hb hd hi ha k
  · rw [hz] at k ha; exact lv_aload_n hx hb hd hi ha k
theorem x_astore_n {g : Gp} {M : MD} {pc : Nat} {L st : List AV} {h : AH} {u : Nat × Nat} {Q : PQ} {i : Nat} {k4 : Fin 4} {x : Nat} (hi : (k4 : Nat) = i) (hi2 : i < L.length) (hd : decode (mB M) pc = .ok (.astore_n k4, 1)) (k : Ex g M (pc + 1) (st1 L i (vR x)) (st) h u Q) : Ex g M pc L (vR x :: st) h u Q := by
  intro p l e s m args below meth c H locs ls hC hR hS hL hl h1 h2
  obtain ⟨hx, hb, hrt, hml, how, hts, -⟩ := id hC
  simp only [List.map_cons, tv]
  rcases rv_or g x with hz | ⟨a, hz⟩
  · rw [hz]; exact lv_astore_nN hx hb hd hi hL.has hi2 rfl (fun ls2 hl2 => (k p l e s m args below meth c H locs ls2 hC hR hS (LR.set1 rfl hi2 hz.symm hl2) ((st1_len L i _).trans hl) h1 h2))
  · rw [hz]; exact lv_astore_n hx hb hd hi hL.has hi2 rfl (fun ls2 hl2 => (k p l e s m args below meth c H locs ls2 hC hR hS (LR.set1 rfl hi2 hz.symm hl2) ((st1_len L i _).trans hl) h1 h2))
theorem x_aload {g : Gp} {M : MD} {pc : Nat} {L st : List AV} {h : AH} {u : Nat × Nat} {Q : PQ} {i : Nat} {x : Nat} (hv : lg L i = vR x) (hd : decode (mB M) pc = .ok (.aload i, 2)) (k : Ex g M (pc + 2) L (vR x :: st) h u Q) : Ex g M pc L (st) h u Q := by
  intro p l e s m args below meth c H locs ls hC hR hS hL hl h1 h2
  obtain ⟨hx, hb, hrt, hml, how, hts, -⟩ := id hC
  have k := (k p l e s m args below meth c H locs ls hC hR hS hL hl h1 h2)
  have ha := hL.at hv (by simp)
  simp only [List.map_cons, tv] at k ha
  rcases rv_or g x with hz | ⟨a, hz⟩
  · rw [hz] at k ha; exact lv_aloadN hx hb hd ha k
  · rw [hz] at k ha; exact lv_aload hx hb hd ha k
theorem x_astore {g : Gp} {M : MD} {pc : Nat} {L st : List AV} {h : AH} {u : Nat × Nat} {Q : PQ} {i : Nat} {x : Nat} (hi2 : i < L.length) (hd : decode (mB M) pc = .ok (.astore i, 2)) (k : Ex g M (pc + 2) (st1 L i (vR x)) (st) h u Q) : Ex g M pc L (vR x :: st) h u Q := by
  intro p l e s m args below meth c H locs ls hC hR hS hL hl h1 h2
  obtain ⟨hx, hb, hrt, hml, how, hts, -⟩ := id hC
  simp only [List.map_cons, tv]
  rcases rv_or g x with hz | ⟨a, hz⟩
  · rw [hz]; exact lv_astoreN hx hb hd hL.has hi2 rfl (fun ls2 hl2 => (k p l e s m args below meth c H locs ls2 hC hR hS (LR.set1 rfl hi2 hz.symm hl2) ((st1_len L i _).trans hl) h1 h2))
  · rw [hz]; exact lv_astore hx hb hd hL.has hi2 rfl (fun ls2 hl2 => (k p l e s m args below meth c H locs ls2 hC hR hS (LR.set1 rfl hi2 hz.symm hl2) ((st1_len L i _).trans hl) h1 h2))
theorem x_iinc {g : Gp} {M : MD} {pc : Nat} {L st : List AV} {h : AH} {u : Nat × Nat} {Q : PQ} {i : Nat} {n : Int} {x w : Int32} (hv : lg L i = vI x) (hw : Int32.ofInt n = w) (hd : decode (mB M) pc = .ok (.iinc i n, 3)) (k : Ex g M (pc + 3) (st1 L i (vI (x + w))) (st) h u Q) : Ex g M pc L (st) h u Q := by
  intro p l e s m args below meth c H locs ls hC hR hS hL hl h1 h2
  obtain ⟨hx, hb, hrt, hml, how, hts, -⟩ := id hC
  have hu : lg L i ≠ vU := by rw [hv]; simp
  have hmem : (i, Value.int x) ∈ lvp g L := lvp_mem.mpr ⟨lg_lt hu, hu, by rw [hv]; rfl⟩
  obtain ⟨k9, hk9⟩ := List.getElem?_of_mem hmem
  exact lv_iinc (v := x + w) hx hb hd hL.has hk9 (by rw [hw]) (lg_lt hu) rfl (fun ls2 hl2 => (k p l e s m args below meth c H locs ls2 hC hR hS (LR.set1 rfl (lg_lt hu) rfl hl2) ((st1_len L i _).trans hl) h1 h2))
theorem x_iadd {g : Gp} {M : MD} {pc : Nat} {L st : List AV} {h : AH} {u : Nat × Nat} {Q : PQ} {x y : Int32} (hd : decode (mB M) pc = .ok (.iadd, 1)) (k : Ex g M (pc + 1) L (vI (x + y) :: st) h u Q) : Ex g M pc L (vI y :: vI x :: st) h u Q := by
  intro p l e s m args below meth c H locs ls hC hR hS hL hl h1 h2
  obtain ⟨hx, hb, hrt, hml, how, hts, -⟩ := id hC
  exact lv_iadd hx hb hd (k p l e s m args below meth c H locs ls hC hR hS hL hl h1 h2)
theorem x_isub {g : Gp} {M : MD} {pc : Nat} {L st : List AV} {h : AH} {u : Nat × Nat} {Q : PQ} {x y : Int32} (hd : decode (mB M) pc = .ok (.isub, 1)) (k : Ex g M (pc + 1) L (vI (x - y) :: st) h u Q) : Ex g M pc L (vI y :: vI x :: st) h u Q := by
  intro p l e s m args below meth c H locs ls hC hR hS hL hl h1 h2
  obtain ⟨hx, hb, hrt, hml, how, hts, -⟩ := id hC
  exact lv_isub hx hb hd (k p l e s m args below meth c H locs ls hC hR hS hL hl h1 h2)
theorem x_imul {g : Gp} {M : MD} {pc : Nat} {L st : List AV} {h : AH} {u : Nat × Nat} {Q : PQ} {x y : Int32} (hd : decode (mB M) pc = .ok (.imul, 1)) (k : Ex g M (pc + 1) L (vI (x * y) :: st) h u Q) : Ex g M pc L (vI y :: vI x :: st) h u Q := by
  intro p l e s m args below meth c H locs ls hC hR hS hL hl h1 h2
  obtain ⟨hx, hb, hrt, hml, how, hts, -⟩ := id hC
  exact lv_imul hx hb hd (k p l e s m args below meth c H locs ls hC hR hS hL hl h1 h2)
theorem x_iand {g : Gp} {M : MD} {pc : Nat} {L st : List AV} {h : AH} {u : Nat × Nat} {Q : PQ} {x y : Int32} (hd : decode (mB M) pc = .ok (.iand, 1)) (k : Ex g M (pc + 1) L (vI (x &&& y) :: st) h u Q) : Ex g M pc L (vI y :: vI x :: st) h u Q := by
  intro p l e s m args below meth c H locs ls hC hR hS hL hl h1 h2
  obtain ⟨hx, hb, hrt, hml, how, hts, -⟩ := id hC
  exact lv_iand hx hb hd (k p l e s m args below meth c H locs ls hC hR hS hL hl h1 h2)
theorem x_ior {g : Gp} {M : MD} {pc : Nat} {L st : List AV} {h : AH} {u : Nat × Nat} {Q : PQ} {x y : Int32} (hd : decode (mB M) pc = .ok (.ior, 1)) (k : Ex g M (pc + 1) L (vI (x ||| y) :: st) h u Q) : Ex g M pc L (vI y :: vI x :: st) h u Q := by
  intro p l e s m args below meth c H locs ls hC hR hS hL hl h1 h2
  obtain ⟨hx, hb, hrt, hml, how, hts, -⟩ := id hC
  exact lv_ior hx hb hd (k p l e s m args below meth c H locs ls hC hR hS hL hl h1 h2)
theorem x_ixor {g : Gp} {M : MD} {pc : Nat} {L st : List AV} {h : AH} {u : Nat × Nat} {Q : PQ} {x y : Int32} (hd : decode (mB M) pc = .ok (.ixor, 1)) (k : Ex g M (pc + 1) L (vI (x ^^^ y) :: st) h u Q) : Ex g M pc L (vI y :: vI x :: st) h u Q := by
  intro p l e s m args below meth c H locs ls hC hR hS hL hl h1 h2
  obtain ⟨hx, hb, hrt, hml, how, hts, -⟩ := id hC
  exact lv_ixor hx hb hd (k p l e s m args below meth c H locs ls hC hR hS hL hl h1 h2)
theorem x_ishl {g : Gp} {M : MD} {pc : Nat} {L st : List AV} {h : AH} {u : Nat × Nat} {Q : PQ} {x y : Int32} (hd : decode (mB M) pc = .ok (.ishl, 1)) (k : Ex g M (pc + 1) L (vI (x <<< (y &&& 31)) :: st) h u Q) : Ex g M pc L (vI y :: vI x :: st) h u Q := by
  intro p l e s m args below meth c H locs ls hC hR hS hL hl h1 h2
  obtain ⟨hx, hb, hrt, hml, how, hts, -⟩ := id hC
  exact lv_ishl hx hb hd (k p l e s m args below meth c H locs ls hC hR hS hL hl h1 h2)
theorem x_ishr {g : Gp} {M : MD} {pc : Nat} {L st : List AV} {h : AH} {u : Nat × Nat} {Q : PQ} {x y : Int32} (hd : decode (mB M) pc = .ok (.ishr, 1)) (k : Ex g M (pc + 1) L (vI (x >>> (y &&& 31)) :: st) h u Q) : Ex g M pc L (vI y :: vI x :: st) h u Q := by
  intro p l e s m args below meth c H locs ls hC hR hS hL hl h1 h2
  obtain ⟨hx, hb, hrt, hml, how, hts, -⟩ := id hC
  exact lv_ishr hx hb hd (k p l e s m args below meth c H locs ls hC hR hS hL hl h1 h2)
theorem x_iushr {g : Gp} {M : MD} {pc : Nat} {L st : List AV} {h : AH} {u : Nat × Nat} {Q : PQ} {x y : Int32} (hd : decode (mB M) pc = .ok (.iushr, 1)) (k : Ex g M (pc + 1) L (vI ((x.toUInt32 >>> (y.toUInt32 &&& Int32.toUInt32 31)).toInt32) :: st) h u Q) : Ex g M pc L (vI y :: vI x :: st) h u Q := by
  intro p l e s m args below meth c H locs ls hC hR hS hL hl h1 h2
  obtain ⟨hx, hb, hrt, hml, how, hts, -⟩ := id hC
  exact lv_iushr hx hb hd rfl (k p l e s m args below meth c H locs ls hC hR hS hL hl h1 h2)
theorem x_idiv {g : Gp} {M : MD} {pc : Nat} {L st : List AV} {h : AH} {u : Nat × Nat} {Q : PQ} {x y : Int32} (hne : ¬ y = 0) (hd : decode (mB M) pc = .ok (.idiv, 1)) (k : Ex g M (pc + 1) L (vI (x / y) :: st) h u Q) : Ex g M pc L (vI y :: vI x :: st) h u Q := by
  intro p l e s m args below meth c H locs ls hC hR hS hL hl h1 h2
  obtain ⟨hx, hb, hrt, hml, how, hts, -⟩ := id hC
  exact lv_idiv hx hb hd hne (k p l e s m args below meth c H locs ls hC hR hS hL hl h1 h2)
theorem x_irem {g : Gp} {M : MD} {pc : Nat} {L st : List AV} {h : AH} {u : Nat × Nat} {Q : PQ} {x y : Int32} (hne : ¬ y = 0) (hd : decode (mB M) pc = .ok (.irem, 1)) (k : Ex g M (pc + 1) L (vI (x - x / y * y) :: st) h u Q) : Ex g M pc L (vI y :: vI x :: st) h u Q := by
  intro p l e s m args below meth c H locs ls hC hR hS hL hl h1 h2
  obtain ⟨hx, hb, hrt, hml, how, hts, -⟩ := id hC
  exact lv_irem hx hb hd hne (k p l e s m args below meth c H locs ls hC hR hS hL hl h1 h2)
theorem x_ladd {g : Gp} {M : MD} {pc : Nat} {L st : List AV} {h : AH} {u : Nat × Nat} {Q : PQ} {x y : Int64} (hd : decode (mB M) pc = .ok (.ladd, 1)) (k : Ex g M (pc + 1) L (vL (x + y) :: st) h u Q) : Ex g M pc L (vL y :: vL x :: st) h u Q := by
  intro p l e s m args below meth c H locs ls hC hR hS hL hl h1 h2
  obtain ⟨hx, hb, hrt, hml, how, hts, -⟩ := id hC
  exact lv_ladd hx hb hd (k p l e s m args below meth c H locs ls hC hR hS hL hl h1 h2)
theorem x_lsub {g : Gp} {M : MD} {pc : Nat} {L st : List AV} {h : AH} {u : Nat × Nat} {Q : PQ} {x y : Int64} (hd : decode (mB M) pc = .ok (.lsub, 1)) (k : Ex g M (pc + 1) L (vL (x - y) :: st) h u Q) : Ex g M pc L (vL y :: vL x :: st) h u Q := by
  intro p l e s m args below meth c H locs ls hC hR hS hL hl h1 h2
  obtain ⟨hx, hb, hrt, hml, how, hts, -⟩ := id hC
  exact lv_lsub hx hb hd (k p l e s m args below meth c H locs ls hC hR hS hL hl h1 h2)
theorem x_lmul {g : Gp} {M : MD} {pc : Nat} {L st : List AV} {h : AH} {u : Nat × Nat} {Q : PQ} {x y : Int64} (hd : decode (mB M) pc = .ok (.lmul, 1)) (k : Ex g M (pc + 1) L (vL (x * y) :: st) h u Q) : Ex g M pc L (vL y :: vL x :: st) h u Q := by
  intro p l e s m args below meth c H locs ls hC hR hS hL hl h1 h2
  obtain ⟨hx, hb, hrt, hml, how, hts, -⟩ := id hC
  exact lv_lmul hx hb hd (k p l e s m args below meth c H locs ls hC hR hS hL hl h1 h2)
theorem x_lor {g : Gp} {M : MD} {pc : Nat} {L st : List AV} {h : AH} {u : Nat × Nat} {Q : PQ} {x y : Int64} (hd : decode (mB M) pc = .ok (.lor, 1)) (k : Ex g M (pc + 1) L (vL (x ||| y) :: st) h u Q) : Ex g M pc L (vL y :: vL x :: st) h u Q := by
  intro p l e s m args below meth c H locs ls hC hR hS hL hl h1 h2
  obtain ⟨hx, hb, hrt, hml, how, hts, -⟩ := id hC
  exact lv_lor hx hb hd (k p l e s m args below meth c H locs ls hC hR hS hL hl h1 h2)
theorem x_land {g : Gp} {M : MD} {pc : Nat} {L st : List AV} {h : AH} {u : Nat × Nat} {Q : PQ} {x y : Int64} (hd : decode (mB M) pc = .ok (.land, 1)) (k : Ex g M (pc + 1) L (vL (x &&& y) :: st) h u Q) : Ex g M pc L (vL y :: vL x :: st) h u Q := by
  intro p l e s m args below meth c H locs ls hC hR hS hL hl h1 h2
  obtain ⟨hx, hb, hrt, hml, how, hts, -⟩ := id hC
  exact lv_land hx hb hd (k p l e s m args below meth c H locs ls hC hR hS hL hl h1 h2)
theorem x_lxor {g : Gp} {M : MD} {pc : Nat} {L st : List AV} {h : AH} {u : Nat × Nat} {Q : PQ} {x y : Int64} (hd : decode (mB M) pc = .ok (.lxor, 1)) (k : Ex g M (pc + 1) L (vL (x ^^^ y) :: st) h u Q) : Ex g M pc L (vL y :: vL x :: st) h u Q := by
  intro p l e s m args below meth c H locs ls hC hR hS hL hl h1 h2
  obtain ⟨hx, hb, hrt, hml, how, hts, -⟩ := id hC
  exact lv_lxor hx hb hd (k p l e s m args below meth c H locs ls hC hR hS hL hl h1 h2)
theorem x_ldiv {g : Gp} {M : MD} {pc : Nat} {L st : List AV} {h : AH} {u : Nat × Nat} {Q : PQ} {x y : Int64} (hne : ¬ y = 0) (hd : decode (mB M) pc = .ok (.ldiv, 1)) (k : Ex g M (pc + 1) L (vL (x / y) :: st) h u Q) : Ex g M pc L (vL y :: vL x :: st) h u Q := by
  intro p l e s m args below meth c H locs ls hC hR hS hL hl h1 h2
  obtain ⟨hx, hb, hrt, hml, how, hts, -⟩ := id hC
  exact lv_ldiv hx hb hd hne (k p l e s m args below meth c H locs ls hC hR hS hL hl h1 h2)
theorem x_lrem {g : Gp} {M : MD} {pc : Nat} {L st : List AV} {h : AH} {u : Nat × Nat} {Q : PQ} {x y : Int64} (hne : ¬ y = 0) (hd : decode (mB M) pc = .ok (.lrem, 1)) (k : Ex g M (pc + 1) L (vL (x - x / y * y) :: st) h u Q) : Ex g M pc L (vL y :: vL x :: st) h u Q := by
  intro p l e s m args below meth c H locs ls hC hR hS hL hl h1 h2
  obtain ⟨hx, hb, hrt, hml, how, hts, -⟩ := id hC
  exact lv_lrem hx hb hd hne (k p l e s m args below meth c H locs ls hC hR hS hL hl h1 h2)
theorem x_lushr {g : Gp} {M : MD} {pc : Nat} {L st : List AV} {h : AH} {u : Nat × Nat} {Q : PQ} {x : Int64} {y : Int32} (hd : decode (mB M) pc = .ok (.lushr, 1)) (k : Ex g M (pc + 1) L (vL ((x.toUInt64 >>> (y.toInt64.toUInt64 &&& Int64.toUInt64 63)).toInt64) :: st) h u Q) : Ex g M pc L (vI y :: vL x :: st) h u Q := by
  intro p l e s m args below meth c H locs ls hC hR hS hL hl h1 h2
  obtain ⟨hx, hb, hrt, hml, how, hts, -⟩ := id hC
  exact lv_lushr hx hb hd rfl (k p l e s m args below meth c H locs ls hC hR hS hL hl h1 h2)
theorem x_lshl {g : Gp} {M : MD} {pc : Nat} {L st : List AV} {h : AH} {u : Nat × Nat} {Q : PQ} {x : Int64} {y : Int32} (hd : decode (mB M) pc = .ok (.lshl, 1)) (k : Ex g M (pc + 1) L (vL (x <<< (y.toInt64 &&& 63)) :: st) h u Q) : Ex g M pc L (vI y :: vL x :: st) h u Q := by
  intro p l e s m args below meth c H locs ls hC hR hS hL hl h1 h2
  obtain ⟨hx, hb, hrt, hml, how, hts, -⟩ := id hC
  exact lv_lshl hx hb hd rfl (k p l e s m args below meth c H locs ls hC hR hS hL hl h1 h2)
theorem x_lcmp {g : Gp} {M : MD} {pc : Nat} {L st : List AV} {h : AH} {u : Nat × Nat} {Q : PQ} {x y : Int64} (hd : decode (mB M) pc = .ok (.lcmp, 1)) (k : Ex g M (pc + 1) L (vI (lg_cmp x y) :: st) h u Q) : Ex g M pc L (vL y :: vL x :: st) h u Q := by
  intro p l e s m args below meth c H locs ls hC hR hS hL hl h1 h2
  obtain ⟨hx, hb, hrt, hml, how, hts, -⟩ := id hC
  exact W.lcmp hx hb hd (k p l e s m args below meth c H locs ls hC hR hS hL hl h1 h2)
theorem x_dcmp {g : Gp} {M : MD} {pc : Nat} {L st : List AV} {h : AH} {u : Nat × Nat} {Q : PQ} {x y : UInt64} {o : CmpOp} (hd : decode (mB M) pc = .ok (.dcmp o, 1)) (k : Ex g M (pc + 1) L (vI (Op.cmpValue (FP.dcmp x y) o) :: st) h u Q) : Ex g M pc L (vD y :: vD x :: st) h u Q := by
  intro p l e s m args below meth c H locs ls hC hR hS hL hl h1 h2
  obtain ⟨hx, hb, hrt, hml, how, hts, -⟩ := id hC
  exact lv_dcmp hx hb hd (k p l e s m args below meth c H locs ls hC hR hS hL hl h1 h2)
theorem x_ddiv {g : Gp} {M : MD} {pc : Nat} {L st : List AV} {h : AH} {u : Nat × Nat} {Q : PQ} {x y : UInt64} (hne : vf_n64 (FP.ddiv x y)) (hd : decode (mB M) pc = .ok (.ddiv, 1)) (k : Ex g M (pc + 1) L (vD (FP.ddiv x y) :: st) h u Q) : Ex g M pc L (vD y :: vD x :: st) h u Q := by
  intro p l e s m args below meth c H locs ls hC hR hS hL hl h1 h2
  obtain ⟨hx, hb, hrt, hml, how, hts, -⟩ := id hC
  exact lv_ddiv hx hb hd hne (k p l e s m args below meth c H locs ls hC hR hS hL hl h1 h2)
theorem x_i2l {g : Gp} {M : MD} {pc : Nat} {L st : List AV} {h : AH} {u : Nat × Nat} {Q : PQ} {x : Int32} (hd : decode (mB M) pc = .ok (.i2l, 1)) (k : Ex g M (pc + 1) L (vL x.toInt64 :: st) h u Q) : Ex g M pc L (vI x :: st) h u Q := by
  intro p l e s m args below meth c H locs ls hC hR hS hL hl h1 h2
  obtain ⟨hx, hb, hrt, hml, how, hts, -⟩ := id hC
  exact lv_i2l hx hb hd rfl (k p l e s m args below meth c H locs ls hC hR hS hL hl h1 h2)
theorem x_l2i {g : Gp} {M : MD} {pc : Nat} {L st : List AV} {h : AH} {u : Nat × Nat} {Q : PQ} {x : Int64} (hd : decode (mB M) pc = .ok (.l2i, 1)) (k : Ex g M (pc + 1) L (vI x.toInt32 :: st) h u Q) : Ex g M pc L (vL x :: st) h u Q := by
  intro p l e s m args below meth c H locs ls hC hR hS hL hl h1 h2
  obtain ⟨hx, hb, hrt, hml, how, hts, -⟩ := id hC
  exact lv_l2i hx hb hd rfl (k p l e s m args below meth c H locs ls hC hR hS hL hl h1 h2)
theorem x_i2d {g : Gp} {M : MD} {pc : Nat} {L st : List AV} {h : AH} {u : Nat × Nat} {Q : PQ} {x : Int32} (hd : decode (mB M) pc = .ok (.i2d, 1)) (k : Ex g M (pc + 1) L (vD (FP.i2d x) :: st) h u Q) : Ex g M pc L (vI x :: st) h u Q := by
  intro p l e s m args below meth c H locs ls hC hR hS hL hl h1 h2
  obtain ⟨hx, hb, hrt, hml, how, hts, -⟩ := id hC
  exact lv_i2d hx hb hd (k p l e s m args below meth c H locs ls hC hR hS hL hl h1 h2)
theorem x_dup {g : Gp} {M : MD} {pc : Nat} {L st : List AV} {h : AH} {u : Nat × Nat} {Q : PQ} {v : AV} (hv : (tv g v).category = 1) (hd : decode (mB M) pc = .ok (.dup, 1)) (k : Ex g M (pc + 1) L (v :: v :: st) h u Q) : Ex g M pc L (v :: st) h u Q := by
  intro p l e s m args below meth c H locs ls hC hR hS hL hl h1 h2
  obtain ⟨hx, hb, hrt, hml, how, hts, -⟩ := id hC
  exact lv_dup hx hb hd hv (k p l e s m args below meth c H locs ls hC hR hS hL hl h1 h2)
theorem x_pop {g : Gp} {M : MD} {pc : Nat} {L st : List AV} {h : AH} {u : Nat × Nat} {Q : PQ} {v : AV} (hv : (tv g v).category = 1) (hd : decode (mB M) pc = .ok (.pop, 1)) (k : Ex g M (pc + 1) L (st) h u Q) : Ex g M pc L (v :: st) h u Q := by
  intro p l e s m args below meth c H locs ls hC hR hS hL hl h1 h2
  obtain ⟨hx, hb, hrt, hml, how, hts, -⟩ := id hC
  exact lv_pop hx hb hd hv (k p l e s m args below meth c H locs ls hC hR hS hL hl h1 h2)
theorem x_dup_x1 {g : Gp} {M : MD} {pc : Nat} {L st : List AV} {h : AH} {u : Nat × Nat} {Q : PQ} {v w : AV} (hv : (tv g v).category = 1) (hw : (tv g w).category = 1) (hd : decode (mB M) pc = .ok (.dup_x1, 1)) (k : Ex g M (pc + 1) L (v :: w :: v :: st) h u Q) : Ex g M pc L (v :: w :: st) h u Q := by
  intro p l e s m args below meth c H locs ls hC hR hS hL hl h1 h2
  obtain ⟨hx, hb, hrt, hml, how, hts, -⟩ := id hC
  exact lv_dup_x1 hx hb hd hv hw (k p l e s m args below meth c H locs ls hC hR hS hL hl h1 h2)
theorem x_dup_x2 {g : Gp} {M : MD} {pc : Nat} {L st : List AV} {h : AH} {u : Nat × Nat} {Q : PQ} {v w z : AV} (hv : (tv g v).category = 1) (hw : (tv g w).category = 1) (hz : (tv g z).category = 1) (hd : decode (mB M) pc = .ok (.dup_x2, 1)) (k : Ex g M (pc + 1) L (v :: w :: z :: v :: st) h u Q) : Ex g M pc L (v :: w :: z :: st) h u Q := by
  intro p l e s m args below meth c H locs ls hC hR hS hL hl h1 h2
  obtain ⟨hx, hb, hrt, hml, how, hts, -⟩ := id hC
  exact lv_dup_x2 hx hb hd hv hw hz (k p l e s m args below meth c H locs ls hC hR hS hL hl h1 h2)
theorem x_dup2 {g : Gp} {M : MD} {pc : Nat} {L st : List AV} {h : AH} {u : Nat × Nat} {Q : PQ} {v w : AV} (hv : (tv g v).category = 1) (hw : (tv g w).category = 1) (hd : decode (mB M) pc = .ok (.dup2, 1)) (k : Ex g M (pc + 1) L (v :: w :: v :: w :: st) h u Q) : Ex g M pc L (v :: w :: st) h u Q := by
  intro p l e s m args below meth c H locs ls hC hR hS hL hl h1 h2
  obtain ⟨hx, hb, hrt, hml, how, hts, -⟩ := id hC
  exact lv_dup2_11 hx hb hd hv hw (k p l e s m args below meth c H locs ls hC hR hS hL hl h1 h2)
theorem x_goto {g : Gp} {M : MD} {pc : Nat} {L st : List AV} {h : AH} {u : Nat × Nat} {Q : PQ} {off : Int} {t : Nat} (ht : (pc : Int) + off = (t : Int)) (hd : decode (mB M) pc = .ok (.goto off, 3)) (k : Ex g M t L (st) h u Q) : Ex g M pc L (st) h u Q := by
  intro p l e s m args below meth c H locs ls hC hR hS hL hl h1 h2
  obtain ⟨hx, hb, hrt, hml, how, hts, -⟩ := id hC
  exact lv_goto hx hb hd ht (k p l e s m args below meth c H locs ls hC hR hS hL hl h1 h2)
theorem x_if_eq {g : Gp} {M : MD} {pc : Nat} {L st : List AV} {h : AH} {u : Nat × Nat} {Q : PQ} {x : Int32} {off : Int} {t : Nat} (ht : (pc : Int) + off = (t : Int)) (hd : decode (mB M) pc = .ok (.ifCond .eq off, 3)) (kt : x = 0 → Ex g M t L st h u Q) (kf : ¬ x = 0 → Ex g M (pc + 3) L st h u Q) : Ex g M pc L (vI x :: st) h u Q := by
  intro p l e s m args below meth c H locs ls hC hR hS hL hl h1 h2
  obtain ⟨hx, hb, -⟩ := id hC
  exact lv_if_eq hx hb hd ht (fun hc => kt hc p l e s m args below meth c H locs ls hC hR hS hL hl h1 h2) (fun hc => kf hc p l e s m args below meth c H locs ls hC hR hS hL hl h1 h2)
theorem x_icmp_eq {g : Gp} {M : MD} {pc : Nat} {L st : List AV} {h : AH} {u : Nat × Nat} {Q : PQ} {x y : Int32} {off : Int} {t : Nat} (ht : (pc : Int) + off = (t : Int)) (hd : decode (mB M) pc = .ok (.if_icmp .eq off, 3)) (kt : x = y → Ex g M t L st h u Q) (kf : ¬ x = y → Ex g M (pc + 3) L st h u Q) : Ex g M pc L (vI y :: vI x :: st) h u Q := by
  intro p l e s m args below meth c H locs ls hC hR hS hL hl h1 h2
  obtain ⟨hx, hb, -⟩ := id hC
  exact lv_icmp_eq hx hb hd ht (fun hc => kt hc p l e s m args below meth c H locs ls hC hR hS hL hl h1 h2) (fun hc => kf hc p l e s m args below meth c H locs ls hC hR hS hL hl h1 h2)
theorem x_if_ne {g : Gp} {M : MD} {pc : Nat} {L st : List AV} {h : AH} {u : Nat × Nat} {Q : PQ} {x : Int32} {off : Int} {t : Nat} (ht : (pc : Int) + off = (t : Int)) (hd : decode (mB M) pc = .ok (.ifCond .ne off, 3)) (kt : ¬ x = 0 → Ex g M t L st h u Q) (kf : x = 0 → Ex g M (pc + 3) L st h u Q) : Ex g M pc L (vI x :: st) h u Q := by
  intro p l e s m args below meth c H locs ls hC hR hS hL hl h1 h2
  obtain ⟨hx, hb, -⟩ := id hC
  exact lv_if_ne hx hb hd ht (fun hc => kt hc p l e s m args below meth c H locs ls hC hR hS hL hl h1 h2) (fun hc => kf hc p l e s m args below meth c H locs ls hC hR hS hL hl h1 h2)
theorem x_icmp_ne {g : Gp} {M : MD} {pc : Nat} {L st : List AV} {h : AH} {u : Nat × Nat} {Q : PQ} {x y : Int32} {off : Int} {t : Nat} (ht : (pc : Int) + off = (t : Int)) (hd : decode (mB M) pc = .ok (.if_icmp .ne off, 3)) (kt : ¬ x = y → Ex g M t L st h u Q) (kf : x = y → Ex g M (pc + 3) L st h u Q) : Ex g M pc L (vI y :: vI x :: st) h u Q := by
  intro p l e s m args below meth c H locs ls hC hR hS hL hl h1 h2
  obtain ⟨hx, hb, -⟩ := id hC
  exact lv_icmp_ne hx hb hd ht (fun hc => kt hc p l e s m args below meth c H locs ls hC hR hS hL hl h1 h2) (fun hc => kf hc p l e s m args below meth c H locs ls hC hR hS hL hl h1 h2)
theorem x_if_lt {g : Gp} {M : MD} {pc : Nat} {L st : List AV} {h : AH} {u : Nat × Nat} {Q : PQ} {x : Int32} {off : Int} {t : Nat} (ht : (pc : Int) + off = (t : Int)) (hd : decode (mB M) pc = .ok (.ifCond .lt off, 3)) (kt : x < 0 → Ex g M t L st h u Q) (kf : ¬ x < 0 → Ex g M (pc + 3) L st h u Q) : Ex g M pc L (vI x :: st) h u Q := by
  intro p l e s m args below meth c H locs ls hC hR hS hL hl h1 h2
  obtain ⟨hx, hb, -⟩ := id hC
  exact lv_if_lt hx hb hd ht (fun hc => kt hc p l e s m args below meth c H locs ls hC hR hS hL hl h1 h2) (fun hc => kf hc p l e s m args below meth c H locs ls hC hR hS hL hl h1 h2)
theorem x_icmp_lt {g : Gp} {M : MD} {pc : Nat} {L st : List AV} {h : AH} {u : Nat × Nat} {Q : PQ} {x y : Int32} {off : Int} {t : Nat} (ht : (pc : Int) + off = (t : Int)) (hd : decode (mB M) pc = .ok (.if_icmp .lt off, 3)) (kt : x < y → Ex g M t L st h u Q) (kf : ¬ x < y → Ex g M (pc + 3) L st h u Q) : Ex g M pc L (vI y :: vI x :: st) h u Q := by
  intro p l e s m args below meth c H locs ls hC hR hS hL hl h1 h2
  obtain ⟨hx, hb, -⟩ := id hC
  exact lv_icmp_lt hx hb hd ht (fun hc => kt hc p l e s m args below meth c H locs ls hC hR hS hL hl h1 h2) (fun hc => kf hc p l e s m args below meth c H locs ls hC hR hS hL hl h1 h2)
theorem x_if_ge {g : Gp} {M : MD} {pc : Nat} {L st : List AV} {h : AH} {u : Nat × Nat} {Q : PQ} {x : Int32} {off : Int} {t : Nat} (ht : (pc : Int) + off = (t : Int)) (hd : decode (mB M) pc = .ok (.ifCond .ge off, 3)) (kt : 0 ≤ x → Ex g M t L st h u Q) (kf : ¬ 0 ≤ x → Ex g M (pc + 3) L st h u Q) : Ex g M pc L (vI x :: st) h u Q := by
  intro p l e s m args below meth c H locs ls hC hR hS hL hl h1 h2
  obtain ⟨hx, hb, -⟩ := id hC
  exact lv_if_ge hx hb hd ht (fun hc => kt hc p l e s m args below meth c H locs ls hC hR hS hL hl h1 h2) (fun hc => kf hc p l e s m args below meth c H locs ls hC hR hS hL hl h1 h2)
theorem x_icmp_ge {g : Gp} {M : MD} {pc : Nat} {L st : List AV} {h : AH} {u : Nat × Nat} {Q : PQ} {x y : Int32} {off : Int} {t : Nat} (ht : (pc : Int) + off = (t : Int)) (hd : decode (mB M) pc = .ok (.if_icmp .ge off, 3)) (kt : y ≤ x → Ex g M t L st h u Q) (kf : ¬ y ≤ x → Ex g M (pc + 3) L st h u Q) : Ex g M pc L (vI y :: vI x :: st) h u Q := by
  intro p l e s m args below meth c H locs ls hC hR hS hL hl h1 h2
  obtain ⟨hx, hb, -⟩ := id hC
  exact lv_icmp_ge hx hb hd ht (fun hc => kt hc p l e s m args below meth c H locs ls hC hR hS hL hl h1 h2) (fun hc => kf hc p l e s m args below meth c H locs ls hC hR hS hL hl h1 h2)
theorem x_if_gt {g : Gp} {M : MD} {pc : Nat} {L st : List AV} {h : AH} {u : Nat × Nat} {Q : PQ} {x : Int32} {off : Int} {t : Nat} (ht : (pc : Int) + off = (t : Int)) (hd : decode (mB M) pc = .ok (.ifCond .gt off, 3)) (kt : 0 < x → Ex g M t L st h u Q) (kf : ¬ 0 < x → Ex g M (pc + 3) L st h u Q) : Ex g M pc L (vI x :: st) h u Q := by
  intro p l e s m args below meth c H locs ls hC hR hS hL hl h1 h2
  obtain ⟨hx, hb, -⟩ := id hC
  exact lv_if_gt hx hb hd ht (fun hc => kt hc p l e s m args below meth c H locs ls hC hR hS hL hl h1 h2) (fun hc => kf hc p l e s m args below meth c H locs ls hC hR hS hL hl h1 h2)
theorem x_icmp_gt {g : Gp} {M : MD} {pc : Nat} {L st : List AV} {h : AH} {u : Nat × Nat} {Q : PQ} {x y : Int32} {off : Int} {t : Nat} (ht : (pc : Int) + off = (t : Int)) (hd : decode (mB M) pc = .ok (.if_icmp .gt off, 3)) (kt : y < x → Ex g M t L st h u Q) (kf : ¬ y < x → Ex g M (pc + 3) L st h u Q) : Ex g M pc L (vI y :: vI x :: st) h u Q := by
  intro p l e s m args below meth c H locs ls hC hR hS hL hl h1 h2
  obtain ⟨hx, hb, -⟩ := id hC
  exact lv_icmp_gt hx hb hd ht (fun hc => kt hc p l e s m args below meth c H locs ls hC hR hS hL hl h1 h2) (fun hc => kf hc p l e s m args below meth c H locs ls hC hR hS hL hl h1 h2)
theorem x_if_le {g : Gp} {M : MD} {pc : Nat} {L st : List AV} {h : AH} {u : Nat × Nat} {Q : PQ} {x : Int32} {off : Int} {t : Nat} (ht : (pc : Int) + off = (t : Int)) (hd : decode (mB M) pc = .ok (.ifCond .le off, 3)) (kt : x ≤ 0 → Ex g M t L st h u Q) (kf : ¬ x ≤ 0 → Ex g M (pc + 3) L st h u Q) : Ex g M pc L (vI x :: st) h u Q := by
  intro p l e s m args below meth c H locs ls hC hR hS hL hl h1 h2
  obtain ⟨hx, hb, -⟩ := id hC
  exact lv_if_le hx hb hd ht (fun hc => kt hc p l e s m args below meth c H locs ls hC hR hS hL hl h1 h2) (fun hc => kf hc p l e s m args below meth c H locs ls hC hR hS hL hl h1 h2)
theorem x_icmp_le {g : Gp} {M : MD} {pc : Nat} {L st : List AV} {h : AH} {u : Nat × Nat} {Q : PQ} {x y : Int32} {off : Int} {t : Nat} (ht : (pc : Int) + off = (t : Int)) (hd : decode (mB M) pc = .ok (.if_icmp .le off, 3)) (kt : x ≤ y → Ex g M t L st h u Q) (kf : ¬ x ≤ y → Ex g M (pc + 3) L st h u Q) : Ex g M pc L (vI y :: vI x :: st) h u Q := by
  intro p l e s m args below meth c H locs ls hC hR hS hL hl h1 h2
  obtain ⟨hx, hb, -⟩ := id hC
  exact lv_icmp_le hx hb hd ht (fun hc => kt hc p l e s m args below meth c H locs ls hC hR hS hL hl h1 h2) (fun hc => kf hc p l e s m args below meth c H locs ls hC hR hS hL hl h1 h2)
end
section
/-! ===== the rules of the heap: what is kept, what comes ===== -/
theorem up1_s {α : Type} (f : Nat → α) (a : Nat) (v : α) : up1 f a v a = v := if_pos rfl
theorem up1_n {α : Type} (f : Nat → α) {a b : Nat} (v : α) (h : b ≠ a) : up1 f a v b = f b := if_neg h
theorem ent_congr {g : Gp} {h h' : AH} {b : Nat} (h1 : zK h' b = zK h b) (h2 : zI h' b = zI h b) (h3 : zL h' b = zL h b) (h4 : zD h' b = zD h b) (h5 : zR h' b = zR h b) : ent g h' b = ent g h b := by
  have hf : ∀ c, fv g h' c b = fv g h c b := fun c => by funext k; simp only [fv, h2, h3, h5]
  unfold ent
  rw [h1]
  simp only [entk, h2, h3, h4, h5, hf]
theorem Rep.ge {g : Gp} {h : AH} {H : Heap} (hR : Rep g h H) {a : Nat} (ha : (zK h a).1 ≠ 0) : 4 ≤ a ∧ a < zN h := by
  have := hR.2.2.1 a
  omega
theorem adr_ge {g : Gp} {a : Nat} (h : 4 ≤ a) : adr g a = gN g + (a - 4) := by unfold adr; rw [if_neg (by omega), if_neg (by omega), if_neg (by omega)]
theorem Rep.put {g : Gp} {h h' : AH} {H H1 : Heap} {a : Nat} (hR : Rep g h H) (hn : zN h' = zN h) (hk : ∀ b, zK h' b = zK h b) (ho : ∀ b, b ≠ a → ent g h' b = ent g h b) (ha : (zK h a).1 ≠ 0) (hnew : va_at (gD g) clt (adr g a, ent g h' a) H1) (hsz : H1.size = H.size) (hoq : ∀ q : Nat, q ≠ adr g a → H1[q]? = H[q]?) : Rep g h' H1 := by
  refine ⟨by rw [hn]; exact hR.1, by rw [hn, hsz]; exact hR.2.1, fun b hb => by rw [hk]; rw [hn] at hb; exact hR.2.2.1 b hb, fun b hb => ?_⟩
  rw [hk] at hb
  by_cases e : b = a
  · subst e; exact hnew
  · rw [ho b e]
    refine (hR.2.2.2 b hb).kept (hoq _ ?_)
    have h1 := hR.ge ha
    have h2 := hR.ge hb
    show adr g b ≠ adr g a
    rw [adr_ge h1.1, adr_ge h2.1]
    omega
theorem Rep.at1 {g : Gp} {h : AH} {H : Heap} (hR : Rep g h H) {a t n : Nat} (ha : zK h a = (t, n)) (ht : t ≠ 0) : va_at (gD g) clt (adr g a, entk g h a t n) H := by
  have := hR.2.2.2 a (by rw [ha]; exact ht)
  unfold ent at this
  rw [ha] at this
  exact this
theorem va_P1 {D : va_G} {cl : List vw_C} {q : Nat × va_E} {H : Heap} (h : va_at D cl q H) : va_P D cl [q] H := fun k x hx => by
  match k, hx with
  | 0, hx => cases hx; exact h
  | k + 1, hx => simp at hx
theorem tv_ref {g : Gp} {a : Nat} (h : a ≠ 0) : tv g (vR a) = .ref (adr g a) := by simp [tv, rv, h]
theorem Rep.ne0 {g : Gp} {h : AH} {H : Heap} (hR : Rep g h H) {a t n : Nat} (ha : zK h a = (t, n)) (ht : t ≠ 0) : a ≠ 0 := by
  have := hR.ge (a := a) (by rw [ha]; exact ht)
  omega
theorem Rep.adr_in {g : Gp} {h : AH} {H : Heap} (hR : Rep g h H) {a t n : Nat} (ha : zK h a = (t, n)) (ht : t ≠ 0) : gAd g (adr g a) := by
  have := hR.ge (a := a) (by rw [ha]; exact ht)
  rw [adr_ge this.1]
  show gN g ≤ _
  omega
/-! ===== fields ===== -/
theorem cok : ∀ (c : Nat) (q : vw_C), clt[c]? = some q → (∀ w ∈ u_ws q.1 q.2.1 q.2.2, w ∈ lw_tbl) ∧ (∀ k, k < q.2.2 → parseFieldDescriptor (q.2.1 k).2.2.1 = some (cty c k)) ∧ ∀ a, a < q.2.2 → ∀ b, b < q.2.2 → a ≠ b → (q.2.1 a).2.1 ≠ (q.2.1 b).2.1 := by
  intro c q hq
  match c, hq with
  | 0, hq => cases hq; exact ⟨by decide +kernel, tyJx4a65c_ok, nmJx4a65c⟩
  | 1, hq => cases hq; exact ⟨by decide +kernel, tyX0_ok, nmX0⟩
  | 2, hq => cases hq; exact ⟨by decide +kernel, tyX1_ok, nmX1⟩
  | 3, hq => cases hq; exact ⟨by decide +kernel, tyX2_ok, nmX2⟩
  | 4, hq => cases hq; exact ⟨by decide +kernel, tyX3_ok, nmX3⟩
  | 5, hq => cases hq; exact ⟨by decide +kernel, tyX4_ok, nmX4⟩
  | 6, hq => cases hq; exact ⟨by decide +kernel, tyX5_ok, nmX5⟩
  | 7, hq => cases hq; exact ⟨by decide +kernel, tyX6_ok, nmX6⟩
  | 8, hq => cases hq; exact ⟨by decide +kernel, tyX7_ok, nmX7⟩
  | 9, hq => cases hq; exact ⟨by decide +kernel, tyX9_ok, nmX9⟩
  | 10, hq => cases hq; exact ⟨by decide +kernel, tyX10_ok, nmX10⟩
  | c + 11, hq => simp [clt] at hq
theorem cok_g : ∀ (c : Nat) (q : vw_C), clt[c]? = some q → ∀ w ∈ u_ws q.1 q.2.1 q.2.2, w ∈ lw_g := by
  intro c q hq w hw
  refine lg_mem ((cok c q hq).1 w hw) ?_
  unfold u_ws at hw
  obtain ⟨k, -, rfl⟩ := List.mem_map.mp hw
  unfold u_lay
  split <;> rfl
/-- a field's entry: class, place, kind -/
def FOk (own : String) (i c k t : Nat) : Prop := ∃ (q : vw_C) (ref : String), clt[c]? = some q ∧ k < q.2.2 ∧ ftc (cty c k) = t ∧ t < 3 ∧ Cond.fieldLink own i ref (q.2.1 k).2.1 (q.2.1 k).2.2.1 ∈ lw_g ∧ (ref = (q.2.1 k).1 ∨ Cond.sameField ref (q.2.1 k).1 (q.2.1 k).2.1 (q.2.1 k).2.2.1 ∈ lw_g)
def fvv (h : AH) (t a k : Nat) : AV := match t with
  | 0 => vI (zI h a k)
  | 1 => vL (zL h a k)
  | _ => vR (zR h a k)
theorem fv_fvv {g : Gp} {h : AH} {c a k t : Nat} (ht : ftc (cty c k) = t) (h3 : t < 3) : fv g h c a k = tv g (fvv h t a k) := by
  unfold fv
  rw [ht]
  match t, h3 with
  | 0, _ => rfl
  | 1, _ => rfl
  | 2, _ => rfl
theorem nfl_of {c : Nat} {q : vw_C} (hq : clt[c]? = some q) : nfl c = q.2.2 := by unfold nfl; rw [hq]
theorem x_getfield {g : Gp} {M : MD} {pc : Nat} {L st : List AV} {h : AH} {u : Nat × Nat} {Q : PQ} {i c k t a : Nat} (hf : FOk (mO M) i c k t) (ha : zK h a = (1, c)) (hd : decode (mB M) pc = .ok (.getfield i, 3)) (kk : Ex g M (pc + 3) L (fvv h t a k :: st) h u Q) : Ex g M pc L (vR a :: st) h u Q := by
  intro p l e s m args below meth cd H locs ls hC hR hS hL hl h1 h2
  obtain ⟨hx, hb, hrt, hml, how, hts, hlk, hnm, hK, hO, hlt, htb⟩ := id hC
  obtain ⟨⟨C, T, N⟩, ref, hq, hk, ht, h3, hw, hs⟩ := hf
  have hat := hR.at1 ha Nat.one_ne_zero
  have kq := kk p l e s m args below meth cd H locs ls hC hR hS hL hl h1 h2
  rw [List.map_cons, tv_ref (hR.ne0 ha Nat.one_ne_zero)]
  rw [List.map_cons, ← fv_fvv (g := g) (c := c) ht h3] at kq
  refine va_get (D := gD g) (ci := c) (C := C) (T := T) (N := N) hx hb hts (cok_g c _ hq) how hK (va_P1 hat) 0 rfl hq k hk (hts _ hw) ?_ ?_ hd kq
  · intro x hx2
    rcases hs with e | e
    · rw [e]; exact hx2
    · exact u_same (hts _ e) x hx2
  · simp [nfl_of hq, hk]
theorem vp_V_map {n j : Nat} {f : Nat → Value} (h : j < n) : vp_V ((List.range n).map f) j = f j := by
  simp [vp_V, h]
theorem fits_kind {t : FieldType} {v : Value} (h : match t, v with
  | .int, .int _ => True
  | .long, .long _ => True
  | .object _, .null => True
  | .object _, .ref _ => True
  | .array _, .null => True
  | .array _, .ref _ => True
  | _, _ => False) : narrow t v = v ∧ fits t v = true := by
  cases t <;> cases v <;> first | exact ⟨rfl, rfl⟩ | exact absurd h id
/-- a store into a field -/
def sfv (h : AH) (a k : Nat) (v : AV) : AH := match v with
  | .inl x => sI h a k x
  | .inr (.inl x) => sL h a k x
  | .inr (.inr (.inr (.inl x))) => sR h a k x
  | _ => h
def kind3 (v : AV) : Nat := match v with
  | .inl _ => 0
  | .inr (.inl _) => 1
  | .inr (.inr (.inr (.inl _))) => 2
  | _ => 9
theorem sfv_n (h : AH) (a k : Nat) (v : AV) : zN (sfv h a k v) = zN h ∧ (∀ b, zK (sfv h a k v) b = zK h b) := by
  rcases v with x | x | x | x | x <;> exact ⟨rfl, fun _ => rfl⟩
theorem sfv_o (g : Gp) (h : AH) (a k : Nat) (v : AV) (b : Nat) (hb : b ≠ a) : ent g (sfv h a k v) b = ent g h b := by
  have e : ∀ {α : Type} (f : Nat → Nat → α) (x : α), up2 f a k x b = f b := fun f x => up1_n _ _ hb
  rcases v with x | x | x | x | x
  · exact ent_congr rfl (e _ _) rfl rfl rfl
  · exact ent_congr rfl rfl (e _ _) rfl rfl
  · exact ent_congr rfl rfl rfl rfl rfl
  · exact ent_congr rfl rfl rfl rfl (e _ _)
  · exact ent_congr rfl rfl rfl rfl rfl
theorem sfv_fv {g : Gp} {h : AH} {a c k t j : Nat} {v : AV} (ht : ftc (cty c k) = t) (h3 : kind3 v = t) (h9 : t < 3) : updV (fv g h c a) k (tv g v) j = fv g (sfv h a k v) c a j := by
  subst h3
  by_cases hj : j = k
  · subst hj
    rw [fv_fvv (h := sfv h a j v) ht h9]
    simp only [updV, if_true]
    rcases v with x | x | x | x | x
    · simp [fvv, kind3, sfv, zI, sI, up2, up1]
    · simp [fvv, kind3, sfv, zL, sL, up2, up1]
    · exact absurd h9 (by simp [kind3])
    · simp [fvv, kind3, sfv, zR, sR, up2, up1]
    · exact absurd h9 (by simp [kind3])
  · simp only [updV, if_neg hj]
    unfold fv
    rcases v with x | x | x | x | x <;> simp [sfv, zI, zL, zR, sI, sL, sR, up2, up1, hj]
end
section
theorem kind_fits {g : Gp} {c k : Nat} {v : AV} (ht : ftc (cty c k) = kind3 v) (h9 : kind3 v < 3) : narrow (cty c k) (tv g v) = tv g v ∧ fits (cty c k) (tv g v) = true := by
  generalize cty c k = T at ht
  rcases v with x | x | x | x | x
  · cases T <;> first | exact ⟨rfl, rfl⟩ | (simp [ftc, kind3] at ht)
  · cases T <;> first | exact ⟨rfl, rfl⟩ | (simp [ftc, kind3] at ht)
  · exact absurd h9 (by simp [kind3])
  · have h2 : tv g (vR x) = .null ∨ ∃ a, tv g (vR x) = .ref a := rv_or g x
    rcases h2 with e | ⟨a, e⟩
    · rw [e]; cases T <;> first | exact ⟨rfl, rfl⟩ | (simp [ftc, kind3] at ht)
    · rw [e]; cases T <;> first | exact ⟨rfl, rfl⟩ | (simp [ftc, kind3] at ht)
  · exact absurd h9 (by simp [kind3])
/-- a store: not final, or in the class's own constructor -/
def FWok (M : MD) (c k : Nat) : Prop := ∃ q : vw_C, clt[c]? = some q ∧ ((q.2.1 k).2.2.2 = false ∨ ((q.2.1 k).2.2.2 = true ∧ (mY M).name = "<init>" ∧ (q.2.1 k).1 = mO M))
theorem x_putfield {g : Gp} {M : MD} {pc : Nat} {L st : List AV} {h : AH} {u : Nat × Nat} {Q : PQ} {i c k a : Nat} {v : AV} (hf : FOk (mO M) i c k (kind3 v)) (hw9 : FWok M c k) (ha : zK h a = (1, c)) (hd : decode (mB M) pc = .ok (.putfield i, 3)) (kk : Ex g M (pc + 3) L st (sfv h a k v) u Q) : Ex g M pc L (v :: vR a :: st) h u Q := by
  intro p l e s m args below meth cd H locs ls hC hR hS hL hl h1 h2
  obtain ⟨hx, hb, hrt, hml, how, hts, hlk, hnm, hK, hO, hlt, htb⟩ := id hC
  obtain ⟨⟨C, T, N⟩, ref, hq, hk, ht, h3, hw, hs⟩ := hf
  have hat := hR.at1 ha Nat.one_ne_zero
  rw [List.map_cons, List.map_cons, tv_ref (hR.ne0 ha Nat.one_ne_zero)]
  have hsame : ∀ x, s.fieldFound? (T k).1 (T k).2.1 (T k).2.2.1 = some x → s.fieldFound? ref (T k).2.1 (T k).2.2.1 = some x := by
    intro x hx2
    rcases hs with e | e
    · rw [e]; exact hx2
    · exact u_same (hts _ e) x hx2
  obtain ⟨-, hty, hnm2⟩ := cok c _ hq
  have hin := cok_g c _ hq
  have hap := va_apart (own := mO M) hts hin (cty c) hty hnm2 hK hq
  obtain ⟨r, hr1, cell, q1, q2, q3, q4⟩ := hat
  have hr : r = (C, T, N) := Option.some.inj (hr1.symm.trans hq)
  subst hr
  obtain ⟨hS9, hfc, kC, hkC, hkind⟩ := hK.1 c _ hq
  obtain ⟨cf, kf, fi, f, hi, hsl⟩ := hS9 k hk
  obtain ⟨hn9, hfit⟩ := kind_fits (g := g) ht h3
  have hpd := hty k hk
  have hN := nfl_of hq
  -- the new cell
  have fin : ∀ (H' : Heap) (e1 : H'[adr g a]? = some (cell.setSlot f.slot (tv g v))) (e2 : H'.size = H.size) (e3 : ∀ q : Nat, q ≠ adr g a → H'[q]? = H[q]?),
      W p l e (rmM M) s m args below meth cd H' (locs ++ [⟨adr g a, f.slot⟩]) u.1 u.2 (vx_MQ below (Qn g Q) (Qx g Q) args s (mC M) (mS M) (gAd g)) (F0 m (pc + 3) ls (st.map (tv g))) := by
    intro H' e1 e2 e3
    rw [hsl] at e1
    have hat2 : va_at (gD g) clt (adr g a, ent g (sfv h a k v) a) H' := by
      have e9 : ent g (sfv h a k v) a = .inr (c, (List.range (nfl c)).map (fv g (sfv h a k v) c a)) := by
        unfold ent
        rw [(sfv_n h a k v).2, ha]
        rfl
      rw [e9]
      refine ⟨_, hq, t_OB.to (V := updV (vp_V ((List.range (nfl c)).map (fv g h c a))) k (tv g v)) ⟨_, e1, q2, q3, t_set q4 hap hk (tv g v)⟩ (fun j hj => ?_)⟩
      rw [vp_V_map (by rw [hN]; exact hj), ← sfv_fv ht rfl h3]
      simp only [updV]
      split
      · rfl
      · exact vp_V_map (by rw [hN]; exact hj)
    have hR2 : Rep g (sfv h a k v) H' := hR.put (sfv_n h a k v).1 (sfv_n h a k v).2 (sfv_o g h a k v) (by rw [ha]; exact Nat.one_ne_zero) hat2 e2 e3
    exact kk p l e s m args below meth cd H' _ ls hC hR2 (hS.put e2 e3 (hR.adr_in ha Nat.one_ne_zero)) hL hl h1 h2
  obtain ⟨q9, hq9, hwr⟩ := hw9
  have hq10 : q9 = (C, T, N) := Option.some.inj (hq9.symm.trans hq)
  subst hq10
  have hlay := hts _ (hin _ (u_in_lay hk))
  unfold u_lay at hlay
  rcases hwr with hfin | ⟨hfin, hin2, hdecl⟩
  · rw [if_neg (by rw [hfin]; decide)] at hlay
    have hst := (u_facts hfc hkC (u_lays hts hin hk) hi).1
    have h6 := u_store hfc hkC hkind hlay hi hpd hn9 hfit
    exact W.putK hx hb (f := f) ⟨how, hts _ hw, ⟨_, _, _, hsame _ hi⟩, hst⟩ (by rw [q2]; exact h6) q1 q3 (by rw [hsl]; exact k2_hasslot (q4 k hk)) rfl rfl hd fin
  · rw [if_pos hfin] at hlay
    have hst := (u_facts hfc hkC (u_lays hts hin hk) hi).1
    have hcf : m.cls = cf := by
      obtain ⟨_, _, c', _, _, _, -, -, hf', -, -, -, hown2, -⟩ := Cond.laysFinal_spec hlay
      have e1 : c' = cf := by have := hi.symm.trans hf'; simp at this; exact this.1.symm
      rw [hdecl] at hown2
      rw [← e1]; exact Option.some.inj (how.symm.trans hown2)
    have h6 := u_fits hfc hkC hkind (Or.inr hlay) hi hpd hn9 hfit
    exact W.putFinK hx hb how (hts _ hw) (hsame _ hi) hst hcf (hnm.trans hin2) (by rw [q2]; exact h6) q1 q3 (by rw [hsl]; exact k2_hasslot (q4 k hk)) rfl rfl hd fin
/-! ===== rows ===== -/
theorem x_iaload {g : Gp} {M : MD} {pc : Nat} {L st : List AV} {h : AH} {u : Nat × Nat} {Q : PQ} {a n : Nat} {i : Int32} (ha : zK h a = (2, n)) (hi : vp_in i n) (hd : decode (mB M) pc = .ok (.iaload, 1)) (kk : Ex g M (pc + 1) L (vI (zI h a i.toNatClampNeg) :: st) h u Q) : Ex g M pc L (vI i :: vR a :: st) h u Q := by
  intro p l e s m args below meth cd H locs ls hC hR hS hL hl h1 h2
  obtain ⟨hx, hb, hrt, hml, how, hts, hlk, hnm, hK, -⟩ := id hC
  rw [List.map_cons, List.map_cons, tv_ref (hR.ne0 ha (by decide))]
  exact va_iald hx hb hK (va_P1 (hR.at1 ha (by decide))) 0 0 rfl rfl hi hd (kk p l e s m args below meth cd H locs ls hC hR hS hL hl h1 h2)
theorem x_laload {g : Gp} {M : MD} {pc : Nat} {L st : List AV} {h : AH} {u : Nat × Nat} {Q : PQ} {a n : Nat} {i : Int32} (ha : zK h a = (3, n)) (hi : vp_in i n) (hd : decode (mB M) pc = .ok (.laload, 1)) (kk : Ex g M (pc + 1) L (vL (zL h a i.toNatClampNeg) :: st) h u Q) : Ex g M pc L (vI i :: vR a :: st) h u Q := by
  intro p l e s m args below meth cd H locs ls hC hR hS hL hl h1 h2
  obtain ⟨hx, hb, hrt, hml, how, hts, hlk, hnm, hK, -⟩ := id hC
  rw [List.map_cons, List.map_cons, tv_ref (hR.ne0 ha (by decide))]
  exact va_lald hx hb hK (va_P1 (hR.at1 ha (by decide))) 0 1 rfl rfl hi hd (kk p l e s m args below meth cd H locs ls hC hR hS hL hl h1 h2)
theorem x_baload {g : Gp} {M : MD} {pc : Nat} {L st : List AV} {h : AH} {u : Nat × Nat} {Q : PQ} {a n : Nat} {i : Int32} (ha : zK h a = (4, n)) (hi : vp_in i n) (hd : decode (mB M) pc = .ok (.baload, 1)) (kk : Ex g M (pc + 1) L (vI (zI h a i.toNatClampNeg) :: st) h u Q) : Ex g M pc L (vI i :: vR a :: st) h u Q := by
  intro p l e s m args below meth cd H locs ls hC hR hS hL hl h1 h2
  obtain ⟨hx, hb, hrt, hml, how, hts, hlk, hnm, hK, -⟩ := id hC
  rw [List.map_cons, List.map_cons, tv_ref (hR.ne0 ha (by decide))]
  exact va_zald hx hb hK (va_P1 (hR.at1 ha (by decide))) 0 2 rfl rfl hi hd (kk p l e s m args below meth cd H locs ls hC hR hS hL hl h1 h2)
theorem x_daload {g : Gp} {M : MD} {pc : Nat} {L st : List AV} {h : AH} {u : Nat × Nat} {Q : PQ} {a n : Nat} {i : Int32} (ha : zK h a = (5, n)) (hi : vp_in i n) (hd : decode (mB M) pc = .ok (.daload, 1)) (kk : Ex g M (pc + 1) L (vD (zD h a i.toNatClampNeg) :: st) h u Q) : Ex g M pc L (vI i :: vR a :: st) h u Q := by
  intro p l e s m args below meth cd H locs ls hC hR hS hL hl h1 h2
  obtain ⟨hx, hb, hrt, hml, how, hts, hlk, hnm, hK, -⟩ := id hC
  rw [List.map_cons, List.map_cons, tv_ref (hR.ne0 ha (by decide))]
  exact va_dald hx hb hK (va_P1 (hR.at1 ha (by decide))) 0 3 rfl rfl hi hd (kk p l e s m args below meth cd H locs ls hC hR hS hL hl h1 h2)
theorem rf_ro {g : Gp} {x : Nat} : va_rf (ro g x) = tv g (vR x) := by
  simp only [tv, ro, rv]
  split <;> rfl
/-- rows of references: Object[], Votes[], int[][] -/
def rty (t : Nat) : FieldType := match t with
  | 6 => .object "java/lang/Object"
  | 7 => .object "TonguerootFamily$Votes"
  | _ => .array .int
theorem entq {g : Gp} {h : AH} {a t n : Nat} (ht : t = 6 ∨ t = 7 ∨ t = 8) : entk g h a t n = .inl (gA g t, n, .inr (.inr (.inr (.inr (fun j => ro g (zR h a j)))))) := by
  rcases ht with rfl | rfl | rfl <;> rfl
theorem tylq {g : Gp} {t : Nat} (ht : t = 6 ∨ t = 7 ∨ t = 8) : (tyl g)[t - 2]? = some (gA g t, rty t) := by
  rcases ht with rfl | rfl | rfl <;> rfl
theorem x_aaload {g : Gp} {M : MD} {pc : Nat} {L st : List AV} {h : AH} {u : Nat × Nat} {Q : PQ} {a t n : Nat} {i : Int32} (ht : t = 6 ∨ t = 7 ∨ t = 8) (ha : zK h a = (t, n)) (hi : vp_in i n) (hd : decode (mB M) pc = .ok (.aaload, 1)) (kk : Ex g M (pc + 1) L (vR (zR h a i.toNatClampNeg) :: st) h u Q) : Ex g M pc L (vI i :: vR a :: st) h u Q := by
  intro p l e s m args below meth cd H locs ls hC hR hS hL hl h1 h2
  obtain ⟨hx, hb, hrt, hml, how, hts, hlk, hnm, hK, -⟩ := id hC
  have t0 : t ≠ 0 := by omega
  rw [List.map_cons, List.map_cons, tv_ref (hR.ne0 ha t0)]
  have hat := hR.at1 ha t0
  rw [entq ht] at hat
  have hlt : i.toNatClampNeg < n := Nat.not_le.mp fun q => hi (Or.inr q)
  refine W.aald (ty := rty t) (v := tv g (vR (zR h a i.toNatClampNeg))) hx hb hat ((hK.2 (t - 2) _ (tylq ht)).1 n (fun j => va_rf (ro g (zR h a j)))) (by rcases ht with rfl | rfl | rfl <;> rfl) (fun q => by cases q) (by show ¬ (i < 0 ∨ (arrV _ _ _).slots.size ≤ _); rw [arrV_size]; exact hi) ?_ rfl rfl hd (kk p l e s m args below meth cd H locs ls hC hR hS hL hl h1 h2)
  show (arrV _ n (fun j => va_rf (ro g (zR h a j)))).slots[i.toNatClampNeg]? = _
  rw [arrV_read _ _ hlt, rf_ro]
end
section
theorem arr_put {g : Gp} {h h' : AH} {H H1 : Heap} {a t n : Nat} (hR : Rep g h H) (ha : zK h a = (t, n)) (t0 : t ≠ 0) (hn : zN h' = zN h) (hk : ∀ b, zK h' b = zK h b) (ho : ∀ b, b ≠ a → ent g h' b = ent g h b) (hat : va_at (gD g) clt (adr g a, entk g h' a t n) H1) (e2 : H1.size = H.size) (e3 : ∀ q : Nat, q ≠ adr g a → H1[q]? = H[q]?) : Rep g h' H1 := by
  refine hR.put hn hk ho (by rw [ha]; exact t0) ?_ e2 e3
  unfold ent
  rw [hk, ha]
  exact hat
theorem x_iastore {g : Gp} {M : MD} {pc : Nat} {L st : List AV} {h : AH} {u : Nat × Nat} {Q : PQ} {a n : Nat} {i x : Int32} (ha : zK h a = (2, n)) (hi : vp_in i n) (hd : decode (mB M) pc = .ok (.iastore, 1)) (kk : Ex g M (pc + 1) L st (sI h a i.toNatClampNeg x) u Q) : Ex g M pc L (vI x :: vI i :: vR a :: st) h u Q := by
  intro p l e s m args below meth cd H locs ls hC hR hS hL hl h1 h2
  obtain ⟨hx, hb, hrt, hml, how, hts, hlk, hnm, hK, -⟩ := id hC
  have hat := hR.at1 ha (by decide : (2 : Nat) ≠ 0)
  rw [List.map_cons, List.map_cons, List.map_cons, tv_ref (hR.ne0 ha (by decide))]
  refine W.iast hx hb hat ((hK.2 0 _ rfl).1 n (fun j => .int (zI h a j))) (fun q => by cases q) (by show ¬ (i < 0 ∨ (arrV _ _ _).slots.size ≤ _); rw [arrV_size]; exact hi) rfl rfl hd fun H1 e9 z oq => ?_
  refine kk p l e s m args below meth cd H1 _ ls hC (arr_put hR ha (by decide) rfl (fun _ => rfl) (sfv_o g h a i.toNatClampNeg (vI x)) ?_ z oq) (hS.put z oq (hR.adr_in ha (by decide))) hL hl h1 h2
  show H1[adr g a]? = some (vp_cell _ _)
  rw [e9, vp_cell_i]
  show some ((vp_cell (gA g 2) (n, .inl (zI h a))).setSlot _ _) = _
  rw [vp_cell_i, arrV_store]
  refine congrArg (fun f : Nat → Value => some (arrV (gA g 2) n f)) (?_ : _ = fun j => Value.int (zI (sI h a i.toNatClampNeg x) a j))
  funext q
  by_cases hq : q = i.toNatClampNeg <;> simp [updV, zI, sI, up2, up1, hq]
theorem x_lastore {g : Gp} {M : MD} {pc : Nat} {L st : List AV} {h : AH} {u : Nat × Nat} {Q : PQ} {a n : Nat} {i : Int32} {x : Int64} (ha : zK h a = (3, n)) (hi : vp_in i n) (hd : decode (mB M) pc = .ok (.lastore, 1)) (kk : Ex g M (pc + 1) L st (sL h a i.toNatClampNeg x) u Q) : Ex g M pc L (vL x :: vI i :: vR a :: st) h u Q := by
  intro p l e s m args below meth cd H locs ls hC hR hS hL hl h1 h2
  obtain ⟨hx, hb, hrt, hml, how, hts, hlk, hnm, hK, -⟩ := id hC
  have hat := hR.at1 ha (by decide : (3 : Nat) ≠ 0)
  rw [List.map_cons, List.map_cons, List.map_cons, tv_ref (hR.ne0 ha (by decide))]
  refine W.last hx hb hat ((hK.2 1 _ rfl).1 n (fun j => .long (zL h a j))) (fun q => by cases q) (by show ¬ (i < 0 ∨ (arrV _ _ _).slots.size ≤ _); rw [arrV_size]; exact hi) rfl rfl hd fun H1 e9 z oq => ?_
  refine kk p l e s m args below meth cd H1 _ ls hC (arr_put hR ha (by decide) rfl (fun _ => rfl) (sfv_o g h a i.toNatClampNeg (vL x)) ?_ z oq) (hS.put z oq (hR.adr_in ha (by decide))) hL hl h1 h2
  show H1[adr g a]? = some (vp_cell _ _)
  rw [e9, vp_cell_l]
  show some ((vp_cell (gA g 3) (n, .inr (.inl (zL h a)))).setSlot _ _) = _
  rw [vp_cell_l, arrV_store]
  refine congrArg (fun f : Nat → Value => some (arrV (gA g 3) n f)) (?_ : _ = fun j => Value.long (zL (sL h a i.toNatClampNeg x) a j))
  funext q
  by_cases hq : q = i.toNatClampNeg <;> simp [updV, zL, sL, up2, up1, hq]
theorem x_dastore {g : Gp} {M : MD} {pc : Nat} {L st : List AV} {h : AH} {u : Nat × Nat} {Q : PQ} {a n : Nat} {i : Int32} {x : UInt64} (ha : zK h a = (5, n)) (hi : vp_in i n) (hd : decode (mB M) pc = .ok (.dastore, 1)) (kk : Ex g M (pc + 1) L st (sD h a i.toNatClampNeg x) u Q) : Ex g M pc L (vD x :: vI i :: vR a :: st) h u Q := by
  intro p l e s m args below meth cd H locs ls hC hR hS hL hl h1 h2
  obtain ⟨hx, hb, hrt, hml, how, hts, hlk, hnm, hK, -⟩ := id hC
  have hat := hR.at1 ha (by decide : (5 : Nat) ≠ 0)
  rw [List.map_cons, List.map_cons, List.map_cons, tv_ref (hR.ne0 ha (by decide))]
  refine W.dast hx hb hat ((hK.2 3 _ rfl).1 n (fun j => .double (zD h a j))) (fun q => by cases q) (by show ¬ (i < 0 ∨ (arrV _ _ _).slots.size ≤ _); rw [arrV_size]; exact hi) rfl rfl hd fun H1 e9 z oq => ?_
  refine kk p l e s m args below meth cd H1 _ ls hC (arr_put hR ha (by decide) rfl (fun _ => rfl) (fun b hb => ent_congr rfl rfl rfl (up1_n _ _ hb) rfl) ?_ z oq) (hS.put z oq (hR.adr_in ha (by decide))) hL hl h1 h2
  show H1[adr g a]? = some (vp_cell _ _)
  rw [e9, vp_cell_d]
  show some ((vp_cell (gA g 5) (n, .inr (.inr (.inr (.inl (zD h a)))))).setSlot _ _) = _
  rw [vp_cell_d, arrV_store]
  refine congrArg (fun f : Nat → Value => some (arrV (gA g 5) n f)) (?_ : _ = fun j => Value.double (zD (sD h a i.toNatClampNeg x) a j))
  funext q
  by_cases hq : q = i.toNatClampNeg <;> simp [updV, zD, sD, up2, up1, hq]
theorem x_bastore {g : Gp} {M : MD} {pc : Nat} {L st : List AV} {h : AH} {u : Nat × Nat} {Q : PQ} {a n : Nat} {i : Int32} {x : Int32} (ha : zK h a = (4, n)) (h01 : x = 0 ∨ x = 1) (hi : vp_in i n) (hd : decode (mB M) pc = .ok (.bastore, 1)) (kk : Ex g M (pc + 1) L st (sI h a i.toNatClampNeg x) u Q) : Ex g M pc L (vI x :: vI i :: vR a :: st) h u Q := by
  intro p l e s m args below meth cd H locs ls hC hR hS hL hl h1 h2
  obtain ⟨hx, hb, hrt, hml, how, hts, hlk, hnm, hK, -⟩ := id hC
  have hat := hR.at1 ha (by decide : (4 : Nat) ≠ 0)
  rw [List.map_cons, List.map_cons, List.map_cons, tv_ref (hR.ne0 ha (by decide))]
  refine W.zast hx hb hat ((hK.2 2 _ rfl).1 n (fun j => .int (zI h a j))) (fun q => by cases q) (by show ¬ (i < 0 ∨ (arrV _ _ _).slots.size ≤ _); rw [arrV_size]; exact hi) rfl rfl hd fun H1 e9 z oq => ?_
  refine kk p l e s m args below meth cd H1 _ ls hC (arr_put hR ha (by decide) rfl (fun _ => rfl) (sfv_o g h a i.toNatClampNeg (vI x)) ?_ z oq) (hS.put z oq (hR.adr_in ha (by decide))) hL hl h1 h2
  show H1[adr g a]? = some (vp_cell _ _)
  rw [e9, vp_cell_i]
  show some ((vp_cell (gA g 4) (n, .inl (zI h a))).setSlot _ _) = _
  rw [vp_cell_i, arrV_store]
  have e8 : narrow .boolean (.int x) = .int x := by rcases h01 with rfl | rfl <;> rfl
  try rw [e8]
  refine congrArg (fun f : Nat → Value => some (arrV (gA g 4) n f)) (?_ : _ = fun j => Value.int (zI (sI h a i.toNatClampNeg x) a j))
  funext q
  by_cases hq : q = i.toNatClampNeg <;> simp [updV, zI, sI, up2, up1, hq]
theorem va_asgq {g : Gp} {s : State} (hK : va_K (gD g) clt (tyl g) s) {ci : Nat} {q : vw_C} (hc : clt[ci]? = some q) : s.vm.findClass q.1 = some ((gD g).1 ci) := (hK.1 ci q hc).2.1
end
section
/-! ===== stores of references, what is made, casts, statics ===== -/
def AsgOk (t : Nat) (C : String) : Prop := (t = 6 ∧ Cond.castable C "java/lang/Object" ∈ lw_n) ∨ (t = 7 ∧ C = "TonguerootFamily$Votes")
def rtn (t : Nat) : String := match t with
  | 6 => "java/lang/Object"
  | _ => "TonguerootFamily$Votes"
theorem rty_n {t : Nat} (ht : t = 6 ∨ t = 7) : rty t = .object (rtn t) := by rcases ht with rfl | rfl <;> rfl
theorem x_aastore {g : Gp} {M : MD} {pc : Nat} {L st : List AV} {h : AH} {u : Nat × Nat} {Q : PQ} {a t n v ci : Nat} {r : vw_C} {i : Int32} (ha : zK h a = (t, n)) (hi : vp_in i n) (hv : zK h v = (1, ci)) (hc : clt[ci]? = some r) (hasg : AsgOk t r.1) (hd : decode (mB M) pc = .ok (.aastore, 1)) (kk : Ex g M (pc + 1) L st (sR h a i.toNatClampNeg v) u Q) : Ex g M pc L (vR v :: vI i :: vR a :: st) h u Q := by
  intro p l e s m args below meth cd H locs ls hC hR hS hL hl h1 h2
  obtain ⟨hx, hb, hrt, hml, how, hts, hlk, hnm, hK, hO, -⟩ := id hC
  have ht : t = 6 ∨ t = 7 := by rcases hasg with ⟨e, -⟩ | ⟨e, -⟩ <;> simp [e]
  have ht3 : t = 6 ∨ t = 7 ∨ t = 8 := by omega
  have t0 : t ≠ 0 := by omega
  have hat := hR.at1 ha t0
  rw [entq ht3] at hat
  rw [List.map_cons, List.map_cons, List.map_cons, tv_ref (hR.ne0 ha t0), tv_ref (hR.ne0 hv Nat.one_ne_zero)]
  have hlt : i.toNatClampNeg < n := Nat.not_le.mp fun q => hi (Or.inr q)
  have h0 : ¬ i < 0 := fun q => hi (Or.inl q)
  obtain ⟨cellV, g1, g3, g2⟩ := rep_recv hR hK hv hc
  have hty := tylq (g := g) ht3
  rw [rty_n ht] at hty
  obtain ⟨kA, comp, k1, k2, k3, -⟩ := (hK.2 (t - 2) _ hty).2
  obtain ⟨kE, hkE, -⟩ := Vm.findClass_spec k3
  obtain ⟨kC, hkC, -⟩ := Vm.findClass_spec g2
  have has : s.vm.assignable cellV.cls comp = true := by
    rcases hasg with ⟨e, hw⟩ | ⟨e, hw⟩
    · subst e
      exact vb_asgC (hO.nw _ hw) _ _ k3 g2
    · subst e
      rw [hw] at g2
      exact vb_asgS _ _ k3 g2
  refine W.aast hx hb hat (fun q h => by cases h) (fun h => by cases h) k1 k2 rfl hkE ⟨h0, by show _ < (arrV _ _ _).slots.size; rw [arrV_size]; exact hlt⟩ g1 (fun q h => by rw [h] at g3; cases g3) hkC has rfl rfl hd fun H1 e9 z oq => ?_
  refine kk p l e s m args below meth cd H1 _ ls hC (arr_put hR ha t0 rfl (fun _ => rfl) (sfv_o g h a i.toNatClampNeg (vR v)) ?_ z oq) (hS.put z oq (hR.adr_in ha t0)) hL hl h1 h2
  rw [entq ht3]
  show H1[adr g a]? = some (vp_cell _ _)
  rw [e9, vp_cell_q]
  show some ((vp_cell (gA g t) (n, .inr (.inr (.inr (.inr (fun j => ro g (zR h a j))))))).setSlot _ _) = _
  rw [vp_cell_q, arrV_store]
  refine congrArg (fun f : Nat → Value => some (arrV (gA g t) n f)) (?_ : _ = fun j => va_rf (ro g (zR (sR h a i.toNatClampNeg v) a j)))
  funext q
  by_cases hq : q = i.toNatClampNeg
  · simp only [updV, hq, if_true, zR, sR, up2, up1_s]
    exact (tv_ref (g := g) (hR.ne0 hv Nat.one_ne_zero)).symm.trans rf_ro.symm
  · simp [updV, zR, sR, up2, up1, hq]
theorem x_aastoreN {g : Gp} {M : MD} {pc : Nat} {L st : List AV} {h : AH} {u : Nat × Nat} {Q : PQ} {a t n : Nat} {i : Int32} (ht : t = 6 ∨ t = 7) (ha : zK h a = (t, n)) (hi : vp_in i n) (hd : decode (mB M) pc = .ok (.aastore, 1)) (kk : Ex g M (pc + 1) L st (sR h a i.toNatClampNeg 0) u Q) : Ex g M pc L (vR 0 :: vI i :: vR a :: st) h u Q := by
  intro p l e s m args below meth cd H locs ls hC hR hS hL hl h1 h2
  obtain ⟨hx, hb, hrt, hml, how, hts, hlk, hnm, hK, -⟩ := id hC
  have ht3 : t = 6 ∨ t = 7 ∨ t = 8 := by omega
  have t0 : t ≠ 0 := by omega
  have hat := hR.at1 ha t0
  rw [entq ht3] at hat
  rw [List.map_cons, List.map_cons, List.map_cons, tv_ref (hR.ne0 ha t0)]
  have hty := tylq (g := g) ht3
  rw [rty_n ht] at hty
  refine va_WaastN (C := rtn t) hx hb hat ((hK.2 (t - 2) _ hty).1 n (fun j => va_rf (ro g (zR h a j)))) (fun h => by cases h) (by show ¬ (i < 0 ∨ (arrV _ _ _).slots.size ≤ _); rw [arrV_size]; exact hi) rfl rfl hd fun H1 e9 z oq => ?_
  refine kk p l e s m args below meth cd H1 _ ls hC (arr_put hR ha t0 rfl (fun _ => rfl) (sfv_o g h a i.toNatClampNeg (vR 0)) ?_ z oq) (hS.put z oq (hR.adr_in ha t0)) hL hl h1 h2
  rw [entq ht3]
  show H1[adr g a]? = some (vp_cell _ _)
  rw [e9, vp_cell_q]
  show some ((vp_cell (gA g t) (n, .inr (.inr (.inr (.inr (fun j => ro g (zR h a j))))))).setSlot _ _) = _
  rw [vp_cell_q, arrV_store]
  refine congrArg (fun f : Nat → Value => some (arrV (gA g t) n f)) (?_ : _ = fun j => va_rf (ro g (zR (sR h a i.toNatClampNeg 0) a j)))
  funext q
  by_cases hq : q = i.toNatClampNeg
  · simp [updV, hq, zR, sR, up2, up1_s, ro, va_rf]
  · simp [updV, zR, sR, up2, up1, hq]
theorem entk_arr {g : Gp} {h : AH} {a t n : Nat} (ht : 2 ≤ t ∧ t ≤ 8) : ∃ x, entk g h a t n = .inl (gA g t, n, x) := by
  have : t = 2 ∨ t = 3 ∨ t = 4 ∨ t = 5 ∨ t = 6 ∨ t = 7 ∨ t = 8 := by omega
  rcases this with rfl | rfl | rfl | rfl | rfl | rfl | rfl <;> exact ⟨_, rfl⟩
theorem tyl_arr {g : Gp} {t : Nat} (ht : 2 ≤ t ∧ t ≤ 8) : ∃ ty, (tyl g)[t - 2]? = some (gA g t, ty) := by
  have : t = 2 ∨ t = 3 ∨ t = 4 ∨ t = 5 ∨ t = 6 ∨ t = 7 ∨ t = 8 := by omega
  rcases this with rfl | rfl | rfl | rfl | rfl | rfl | rfl <;> exact ⟨_, rfl⟩
theorem x_alen {g : Gp} {M : MD} {pc : Nat} {L st : List AV} {h : AH} {u : Nat × Nat} {Q : PQ} {a t n : Nat} (ht : 2 ≤ t ∧ t ≤ 8) (ha : zK h a = (t, n)) (hd : decode (mB M) pc = .ok (.arraylength, 1)) (kk : Ex g M (pc + 1) L (vI (nI n) :: st) h u Q) : Ex g M pc L (vR a :: st) h u Q := by
  intro p l e s m args below meth cd H locs ls hC hR hS hL hl h1 h2
  obtain ⟨hx, hb, hrt, hml, how, hts, hlk, hnm, hK, -⟩ := id hC
  have t0 : t ≠ 0 := by omega
  have hat := hR.at1 ha t0
  obtain ⟨x, ex⟩ := entk_arr (g := g) (h := h) (a := a) (n := n) ht
  obtain ⟨ty, ety⟩ := tyl_arr (g := g) ht
  rw [ex] at hat
  rw [List.map_cons, tv_ref (hR.ne0 ha t0)]
  exact va_alen hx hb hK (va_P1 hat) 0 (t - 2) rfl ety rfl hd (kk p l e s m args below meth cd H locs ls hC hR hS hL hl h1 h2)
/-- the script -/
theorem x_slen {g : Gp} {M : MD} {pc : Nat} {L st : List AV} {h : AH} {u : Nat × Nat} {Q : PQ} (hd : decode (mB M) pc = .ok (.arraylength, 1)) (kk : Ex g M (pc + 1) L (vI (nI (gl g)) :: st) h u Q) : Ex g M pc L (vR 1 :: st) h u Q := by
  intro p l e s m args below meth cd H locs ls hC hR hS hL hl h1 h2
  obtain ⟨hx, hb, hrt, hml, how, hts, hlk, hnm, hK, ⟨o1, o2, o3, o4, o5, -⟩, -⟩ := id hC
  have e1 : tv g (vR 1) = .ref (gb g) := rfl
  rw [List.map_cons, e1]
  exact va_slen (A := gAd g) hx hb o5 (Nat.lt_of_lt_of_le o2 o1) (Nat.not_le.mpr o2) hS hd (kk p l e s m args below meth cd H locs ls hC hR hS hL hl h1 h2)
theorem x_sload {g : Gp} {M : MD} {pc : Nat} {L st : List AV} {h : AH} {u : Nat × Nat} {Q : PQ} {i : Int32} (hi : vp_in i (gl g)) (hd : decode (mB M) pc = .ok (.iaload, 1)) (kk : Ex g M (pc + 1) L (vI (gx g i.toNatClampNeg) :: st) h u Q) : Ex g M pc L (vI i :: vR 1 :: st) h u Q := by
  intro p l e s m args below meth cd H locs ls hC hR hS hL hl h1 h2
  obtain ⟨hx, hb, hrt, hml, how, hts, hlk, hnm, hK, ⟨o1, o2, o3, o4, o5, -⟩, -⟩ := id hC
  have e1 : tv g (vR 1) = .ref (gb g) := rfl
  rw [List.map_cons, List.map_cons, e1]
  exact va_sld (A := gAd g) hx hb o5 (Nat.lt_of_lt_of_le o2 o1) (Nat.not_le.mpr o2) hS hi hd (kk p l e s m args below meth cd H locs ls hC hR hS hL hl h1 h2)
/-- ArrayList's empty row -/
theorem x_gets {g : Gp} {M : MD} {pc i : Nat} {L st : List AV} {h : AH} {u : Nat × Nat} {Q : PQ} (hw : Cond.fieldLink (mO M) i "java/util/ArrayList" "DEFAULTCAPACITY_EMPTY_ELEMENTDATA" "[Ljava/lang/Object;" ∈ lw_g) (hd : decode (mB M) pc = .ok (.getstatic i, 3)) (kk : Ex g M (pc + 3) L (vR 2 :: st) h u Q) : Ex g M pc L st h u Q := by
  intro p l e s m args below meth cd H locs ls hC hR hS hL hl h1 h2
  obtain ⟨hx, hb, hrt, hml, how, hts, hlk, hnm, hK, ⟨o1, o2, o3, o4, o5, o6, -⟩, -⟩ := id hC
  exact va_gets hx hb o6 hS how (hts _ hw) (fun _ h9 => h9) hd (kk p l e s m args below meth cd H locs ls hC hR hS hL hl h1 h2)
theorem x_elen {g : Gp} {M : MD} {pc : Nat} {L st : List AV} {h : AH} {u : Nat × Nat} {Q : PQ} (hd : decode (mB M) pc = .ok (.arraylength, 1)) (kk : Ex g M (pc + 1) L (vI 0 :: st) h u Q) : Ex g M pc L (vR 2 :: st) h u Q := by
  intro p l e s m args below meth cd H locs ls hC hR hS hL hl h1 h2
  obtain ⟨hx, hb, hrt, hml, how, hts, hlk, hnm, hK, ⟨o1, o2, o3, o4, o5, o6, o7, -⟩, -⟩ := id hC
  have e1 : tv g (vR 2) = .ref (gt g) := rfl
  rw [List.map_cons, e1]
  exact va_tlen hx hb o7 hS (v := 0) rfl hd (kk p l e s m args below meth cd H locs ls hC hR hS hL hl h1 h2)
theorem adr_inj {g : Gp} {x y : Nat} (hg : gt g < gN g) (hx : x ≠ 0 ∧ x ≠ 1 ∧ x ≠ 3) (hy : y ≠ 0 ∧ y ≠ 1 ∧ y ≠ 3) (h : adr g x = adr g y) : x = y := by
  unfold adr at h
  rw [if_neg hx.2.1, if_neg hy.2.1] at h
  simp only [if_neg hx.2.2, if_neg hy.2.2] at h
  split at h <;> split at h <;> omega
theorem x_acmp_eq {g : Gp} {M : MD} {pc : Nat} {L st : List AV} {h : AH} {u : Nat × Nat} {Q : PQ} {x y : Nat} {off : Int} {t : Nat} (hx9 : x ≠ 1 ∧ x ≠ 3) (hy9 : y ≠ 1 ∧ y ≠ 3) (ht : (pc : Int) + off = (t : Int)) (hd : decode (mB M) pc = .ok (.if_acmp .eq off, 3)) (kt : x = y → Ex g M t L st h u Q) (kf : x ≠ y → Ex g M (pc + 3) L st h u Q) : Ex g M pc L (vR y :: vR x :: st) h u Q := by
  intro p l e s m args below meth cd H locs ls hC hR hS hL hl h1 h2
  obtain ⟨hx, hb, hrt, hml, how, hts, hlk, hnm, hK, ⟨o1, o2, o3, -⟩, -⟩ := id hC
  rw [List.map_cons, List.map_cons, ← rf_ro, ← rf_ro]
  have hiff : ro g x = ro g y → x = y := by
    intro he
    unfold ro at he
    split at he <;> split at he
    · omega
    · cases he
    · cases he
    · exact adr_inj o3 ⟨by assumption, hx9.1, hx9.2⟩ ⟨by assumption, hy9.1, hy9.2⟩ (Option.some.inj he)
  exact lv_acmp_eq hx hb hd ht (fun hc => kt (hiff hc) p l e s m args below meth cd H locs ls hC hR hS hL hl h1 h2) (fun hc => kf (fun he => hc (by rw [he])) p l e s m args below meth cd H locs ls hC hR hS hL hl h1 h2)
/-! ===== casts, Object's constructor, Math ===== -/
theorem x_cast {g : Gp} {M : MD} {pc i a c : Nat} {r : vw_C} {L st : List AV} {h : AH} {u : Nat × Nat} {Q : PQ} (hl9 : Cond.classLink (mO M) i r.1 ∈ lw_g) (hc9 : clt[c]? = some r) (ha : zK h a = (1, c)) (hd : decode (mB M) pc = .ok (.checkcast i, 3)) (kk : Ex g M (pc + 3) L (vR a :: st) h u Q) : Ex g M pc L (vR a :: st) h u Q := by
  intro p l e s m args below meth cd H locs ls hC hR hS hL hl h1 h2
  obtain ⟨hx, hb, hrt, hml, how, hts, hlk, hnm, hK, -⟩ := id hC
  have kq := kk p l e s m args below meth cd H locs ls hC hR hS hL hl h1 h2
  rw [List.map_cons, tv_ref (hR.ne0 ha Nat.one_ne_zero)] at kq ⊢
  exact va_castS hx hb how (hts _ hl9) (hK.1 c r hc9).2 (rep_recv hR hK ha hc9) hd kq
theorem x_objInit {g : Gp} {M : MD} {pc i a : Nat} {L st : List AV} {h : AH} {u : Nat × Nat} {Q : PQ} (hl9 : Cond.methodLink (mO M) i Lib.objectInit ∈ lw_g) (hi9 : Cond.instanceMethod Lib.objectInit ∈ lw_g) (hc9 : Cond.code Lib.objectInit ⟨#[0xb1]⟩ 1 none ∈ lw_g) (ha : a ≠ 0) (hdp : 1 ≤ mDp M) (hst : st.length ≤ 4) (hd : decode (mB M) pc = .ok (.invokespecial i, 3)) (kk : Ex g M (pc + 3) L st h u Q) : Ex g M pc L (vR a :: st) h u Q := by
  intro p l e s m args below meth cd H locs ls hC hR hS hL hl h1 h2
  obtain ⟨hx, hb, hrt, hml, how, hts, hlk, hnm, hK, -⟩ := id hC
  rw [List.map_cons, tv_ref ha]
  have hrm := lr_room (g := g) (m := m) (pc := pc) (ls := ls) (st := (.ref (adr g a) :: st.map (tv g))) hst
  refine W.objInit hx hb how (hts _ hl9) (hts _ hi9) (hts _ hc9) rfl (by rw [hml, ← hl]; exact hL.1) rfl hd hdp (by show _ ≤ 64 * mDp M + 100; omega) ?_
  exact kk p l e s m args below meth cd H locs ls hC hR hS hL hl h1 h2
theorem x_mmax {g : Gp} {M : MD} {pc i : Nat} {x y : Int32} {L st : List AV} {h : AH} {u : Nat × Nat} {Q : PQ} (hl9 : Cond.methodLink (mO M) i Lib.Math.max.name ∈ lw_g) (hs9 : Cond.static Lib.Math.max.name ∈ lw_g) (hi9 : Cond.initialized "java/lang/Math" ∈ lw_g) (hc9 : Cond.code Lib.Math.max.name Lib.Math.max.code 2 (some .int) ∈ lw_g) (hdp : 1 ≤ mDp M) (hst : st.length ≤ 4) (hd : decode (mB M) pc = .ok (.invokestatic i, 3)) (kk : Ex g M (pc + 3) L (vI (if x < y then y else x) :: st) h u Q) : Ex g M pc L (vI y :: vI x :: st) h u Q := by
  intro p l e s m args below meth cd H locs ls hC hR hS hL hl h1 h2
  obtain ⟨hx, hb, hrt, hml, how, hts, hlk, hnm, hK, -⟩ := id hC
  have hrm := lr_room (g := g) (m := m) (pc := pc) (ls := ls) (st := (st.map (tv g))) hst
  exact va_mmax hx hb (by rw [hml, ← hl]; exact hL.1.symm) how (hts _ hl9) (hts _ hs9) (hts _ hi9) (hts _ hc9) hdp (by show _ ≤ 64 * mDp M + 100; omega) h1 h2 hd (kk p l e s m args below meth cd H locs ls hC hR hS hL hl h1 h2)
theorem x_mmin {g : Gp} {M : MD} {pc i : Nat} {x y : Int32} {L st : List AV} {h : AH} {u : Nat × Nat} {Q : PQ} (hl9 : Cond.methodLink (mO M) i Lib.Math.min.name ∈ lw_g) (hs9 : Cond.static Lib.Math.min.name ∈ lw_g) (hi9 : Cond.initialized "java/lang/Math" ∈ lw_g) (hc9 : Cond.code Lib.Math.min.name Lib.Math.min.code 2 (some .int) ∈ lw_g) (hdp : 1 ≤ mDp M) (hst : st.length ≤ 4) (hd : decode (mB M) pc = .ok (.invokestatic i, 3)) (kk : Ex g M (pc + 3) L (vI (if y < x then y else x) :: st) h u Q) : Ex g M pc L (vI y :: vI x :: st) h u Q := by
  intro p l e s m args below meth cd H locs ls hC hR hS hL hl h1 h2
  obtain ⟨hx, hb, hrt, hml, how, hts, hlk, hnm, hK, -⟩ := id hC
  have hrm := lr_room (g := g) (m := m) (pc := pc) (ls := ls) (st := (st.map (tv g))) hst
  exact va_mmin hx hb (by rw [hml, ← hl]; exact hL.1.symm) how (hts _ hl9) (hts _ hs9) (hts _ hi9) (hts _ hc9) hdp (by show _ ≤ 64 * mDp M + 100; omega) h1 h2 hd (kk p l e s m args below meth cd H locs ls hC hR hS hL hl h1 h2)
/-! ===== what is made ===== -/
theorem Rep.top {g : Gp} {h : AH} {H : Heap} (hR : Rep g h H) : adr g (zN h) = H.size := by
  rw [adr_ge hR.1]
  have := hR.1
  have := hR.2.1
  omega
theorem nw_old {g : Gp} {h : AH} {kd : Nat × Nat} {b : Nat} (hb : b ≠ zN h) : zK (nw h kd) b = zK h b ∧ ent g (nw h kd) b = ent g h b := by
  have hb2 : b ≠ h.1 := hb
  have e1 : zK (nw h kd) b = zK h b := up1_n _ _ hb2
  exact ⟨e1, ent_congr e1 (up1_n _ _ hb2) (up1_n _ _ hb2) (up1_n _ _ hb2) (up1_n _ _ hb2)⟩
theorem Rep.new {g : Gp} {h : AH} {kd : Nat × Nat} {H H1 : Heap} (hR : Rep g h H) (hsz : H1.size = H.size + 1) (hold : ∀ q : Nat, q < H.size → H1[q]? = H[q]?) (hnew : va_at (gD g) clt (H.size, entk g (nw h kd) (zN h) kd.1 kd.2) H1) : Rep g (nw h kd) H1 := by
  have h3 := hR.1
  have hs := hR.2.1
  have hn : zN (nw h kd) = zN h + 1 := rfl
  have hk : zK (nw h kd) (zN h) = kd := up1_s _ _ _
  refine ⟨by rw [hn]; omega, by rw [hn, hsz]; omega, fun b hb => ?_, fun b hb => ?_⟩
  · rw [(nw_old (g := g) (h := h) (kd := kd) (by omega)).1]
    exact hR.2.2.1 b (by omega)
  · by_cases e : b = zN h
    · subst e
      rw [hR.top]
      unfold ent
      rw [hk]
      exact hnew
    · rw [(nw_old (g := g) (kd := kd) e).1] at hb
      rw [(nw_old (g := g) (kd := kd) e).2]
      refine (hR.2.2.2 b hb).kept (hold _ ?_)
      have := hR.ge hb
      show adr g b < _
      rw [adr_ge this.1]
      omega
theorem va_S.grow {g : Gp} {H0 H H1 : Heap} {locs : List Loc} (hS : va_S (gAd g) H0 H locs) (hz : H.size ≤ H1.size) (hold : ∀ q : Nat, q < H.size → H1[q]? = H[q]?) : va_S (gAd g) H0 H1 locs :=
  ⟨Nat.le_trans hS.1 hz, fun x h1 h2 => (hold x (Nat.lt_of_lt_of_le h1 hS.1)).trans (hS.2.1 x h1 h2), hS.2.2⟩
theorem x_new {g : Gp} {M : MD} {pc i c : Nat} {r : vw_C} {L st : List AV} {h : AH} {u : Nat × Nat} {Q : PQ} (hl9 : Cond.classLink (mO M) i r.1 ∈ lw_g) (hin9 : Cond.instantiable r.1 r.2.2 ∈ lw_g) (hini : Cond.initialized r.1 ∈ lw_g) (hc9 : clt[c]? = some r) (hft : ∀ k, k < r.2.2 → ftc (cty c k) < 3) (hu1 : u.1 + 1 ≤ mC M) (hu2 : u.2 + r.2.2 ≤ mS M) (hd : decode (mB M) pc = .ok (.new i, 3)) (kk : Ex g M (pc + 3) L (vR (zN h) :: st) (nw h (1, c)) (u.1 + 1, u.2 + r.2.2) Q) : Ex g M pc L st h u Q := by
  intro p l e s m args below meth cd H locs ls hC hR hS hL hl h1 h2
  obtain ⟨hx, hb, hrt, hml, how, hts, hlk, hnm, hK, -⟩ := id hC
  obtain ⟨C, T, N⟩ := r
  have hKn := hK.1 c _ hc9
  refine W.newcK hx hb how (hts _ hl9) (hts _ hin9) (hts _ hini) rfl hd hu1 hu2 hKn.2.1 rfl fun H1 kC hkC e1 z1 o1 => ?_
  have hob := u_born (cty c) hts (cok_g c _ hc9) hKn hkC e1 (cok c _ hc9).2.1
  have hR2 : Rep g (nw h (1, c)) H1 := hR.new z1 o1 ⟨_, hc9, hob.to (fun k hk => by
    rw [vp_V_map (by rw [nfl_of hc9]; exact hk)]
    have hz : zI (nw h (1, c)) (zN h) = fun _ => 0 := up1_s _ _ _
    have hz2 : zL (nw h (1, c)) (zN h) = fun _ => 0 := up1_s _ _ _
    have hz3 : zR (nw h (1, c)) (zN h) = fun _ => 0 := up1_s _ _ _
    unfold fv
    rw [hz, hz2, hz3]
    have := hft k hk
    generalize cty c k = ty at this ⊢
    cases ty <;> first | rfl | (simp [ftc] at this))⟩
  have kq := kk p l e s m args below meth cd H1 locs ls hC hR2 (hS.grow (by omega) o1) hL hl hu1 hu2
  have h0 : zN h ≠ 0 := by have := hR.1; omega
  rw [List.map_cons, tv_ref h0, hR.top] at kq
  exact kq
theorem nw_rows {h : AH} {kd : Nat × Nat} : zI (nw h kd) (zN h) = (fun _ => 0) ∧ zL (nw h kd) (zN h) = (fun _ => 0) ∧ zD (nw h kd) (zN h) = (fun _ => 0) ∧ zR (nw h kd) (zN h) = (fun _ => 0) := ⟨up1_s _ _ _, up1_s _ _ _, up1_s _ _ _, up1_s _ _ _⟩
/-- rows of numbers: int 2, long 3, boolean 4, double 5 -/
def atk (t : Nat) : ArrayType := match t with
  | 2 => .int
  | 3 => .long
  | 4 => .boolean
  | _ => .double
theorem x_newarray {g : Gp} {M : MD} {pc t N : Nat} {n : Int32} {L st : List AV} {h : AH} {u : Nat × Nat} {Q : PQ} (ht : t = 2 ∨ t = 3 ∨ t = 4 ∨ t = 5) (hw : Cond.arrayClass (newarray.typeOf (atk t)) ∈ lw_g) (hn : ¬ n < 0) (hN : n.toNatClampNeg = N) (hN2 : N ≤ 60000000) (hu1 : u.1 + 1 ≤ mC M) (hu2 : u.2 + N ≤ mS M) (hd : decode (mB M) pc = .ok (.newarray (atk t), 2)) (kk : Ex g M (pc + 2) L (vR (zN h) :: st) (nw h (t, N)) (u.1 + 1, u.2 + N) Q) : Ex g M pc L (vI n :: st) h u Q := by
  intro p l e s m args below meth cd H locs ls hC hR hS hL hl h1 h2
  obtain ⟨hx, hb, hrt, hml, how, hts, hlk, hnm, hK, -⟩ := id hC
  have hby : N * componentBytes (newarray.typeOf (atk t)) ≤ 536870912 := by
    rcases ht with rfl | rfl | rfl | rfl <;> (simp only [atk, newarray.typeOf, componentBytes]; omega)
  refine va_newaK hx hb (atype := atk t) (hts _ hw) rfl hd rfl hn hN hby hu1 hu2 rfl fun H1 cA e1 z1 o1 hAr hNm => ?_
  have hcA : cA = gA g t := by
    rcases ht with rfl | rfl | rfl | rfl
    · exact Option.some.inj (hNm.symm.trans (hK.2 0 _ rfl).2)
    · exact Option.some.inj (hNm.symm.trans (hK.2 1 _ rfl).2)
    · exact Option.some.inj (hNm.symm.trans (hK.2 2 _ rfl).2)
    · exact Option.some.inj (hNm.symm.trans (hK.2 3 _ rfl).2)
  subst hcA
  have hR2 : Rep g (nw h (t, N)) H1 := hR.new z1 o1 (by
    obtain ⟨r1, r2, r3, r4⟩ := nw_rows (h := h) (kd := (t, N))
    show va_at _ _ (H.size, entk g (nw h (t, N)) (zN h) t N) H1
    rcases ht with rfl | rfl | rfl | rfl
    · simp only [entk, r1]; exact e1
    · simp only [entk, r2]; exact e1
    · simp only [entk, r1]; exact e1
    · simp only [entk, r3]; exact e1)
  have kq := kk p l e s m args below meth cd H1 locs ls hC hR2 (hS.grow (by omega) o1) hL hl hu1 hu2
  have h0 : zN h ≠ 0 := by have := hR.1; omega
  rw [List.map_cons, tv_ref h0, hR.top] at kq
  exact kq
theorem x_anewarray {g : Gp} {M : MD} {pc t N i : Nat} {n : Int32} {L st : List AV} {h : AH} {u : Nat × Nat} {Q : PQ} (ht : t = 6 ∨ t = 7) (hl9 : Cond.classLink (mO M) i (rtn t) ∈ lw_g) (hw : Cond.arrayOver (.object (rtn t)) ∈ lw_g) (hn : ¬ n < 0) (hN : n.toNatClampNeg = N) (hN2 : N ≤ 60000000) (hu1 : u.1 + 1 ≤ mC M) (hu2 : u.2 + N ≤ mS M) (hd : decode (mB M) pc = .ok (.anewarray i, 3)) (kk : Ex g M (pc + 3) L (vR (zN h) :: st) (nw h (t, N)) (u.1 + 1, u.2 + N) Q) : Ex g M pc L (vI n :: st) h u Q := by
  intro p l e s m args below meth cd H locs ls hC hR hS hL hl h1 h2
  obtain ⟨hx, hb, hrt, hml, how, hts, hlk, hnm, hK, -⟩ := id hC
  subst hN
  refine W.anew hx hb how (hts _ hl9) (hts _ hw) rfl hd rfl hn (by omega) hu1 hu2 fun cA kA comp f1 f2 f3 f4 => ?_
  generalize hH1 : H.push ({ cls := cA, slots := Array.replicate n.toNatClampNeg .null, vm := .none } : Cell) = H1
  have z1 : H1.size = H.size + 1 := by rw [← hH1, Array.size_push]
  have e1 : H1[H.size]? = some (arrV cA n.toNatClampNeg (fun _ => .null)) := by rw [← hH1, Array.getElem?_push_size, ← arrV_new]
  have o1 : ∀ q : Nat, q < H.size → H1[q]? = H[q]? := fun q hq => by rw [← hH1, Array.getElem?_push, if_neg (Nat.ne_of_lt hq)]
  have hcA : cA = gA g t := by
    rcases ht with rfl | rfl
    · obtain ⟨_, _, -, -, -, hf⟩ := (hK.2 4 _ rfl).2
      exact Option.some.inj (f1.symm.trans hf)
    · obtain ⟨_, _, -, -, -, hf⟩ := (hK.2 5 _ rfl).2
      exact Option.some.inj (f1.symm.trans hf)
  subst hcA
  have hR2 : Rep g (nw h (t, n.toNatClampNeg)) H1 := hR.new z1 o1 (by
    obtain ⟨r1, r2, r3, r4⟩ := nw_rows (h := h) (kd := (t, n.toNatClampNeg))
    show va_at _ _ (H.size, entk g (nw h (t, n.toNatClampNeg)) (zN h) t n.toNatClampNeg) H1
    rw [entq (by omega), r4]
    exact e1)
  have kq := kk p l e s m args below meth cd H1 locs ls hC hR2 (hS.grow (by omega) o1) hL hl hu1 hu2
  have h0 : zN h ≠ 0 := by have := hR.1; omega
  rw [List.map_cons, tv_ref h0, hR.top] at kq
  exact kq
theorem x_acmp_ne_same {g : Gp} {M : MD} {pc : Nat} {L st : List AV} {h : AH} {u : Nat × Nat} {Q : PQ} {x : Nat} {off : Int} {t : Nat} (ht : (pc : Int) + off = (t : Int)) (hd : decode (mB M) pc = .ok (.if_acmp .ne off, 3)) (kf : Ex g M (pc + 3) L st h u Q) : Ex g M pc L (vR x :: vR x :: st) h u Q := by
  intro p l e s m args below meth cd H locs ls hC hR hS hL hl h1 h2
  obtain ⟨hx, hb, -⟩ := id hC
  rw [List.map_cons, List.map_cons, ← rf_ro]
  exact lv_acmp_ne hx hb hd ht (fun hc => absurd rfl hc) (fun _ => kf p l e s m args below meth cd H locs ls hC hR hS hL hl h1 h2)
/-- the Class object of Object[] -/
theorem x_ldcM {g : Gp} {M : MD} {pc i : Nat} {L st : List AV} {h : AH} {u : Nat × Nat} {Q : PQ} (hw : Cond.classLink (mO M) i "[Ljava/lang/Object;" ∈ lw_g) (hd : decode (mB M) pc = .ok (.ldc i, 2)) (kk : Ex g M (pc + 2) L (vR 3 :: st) h u Q) : Ex g M pc L st h u Q := by
  intro p l e s m args below meth cd H locs ls hC hR hS hL hl h1 h2
  obtain ⟨hx, hb, hrt, hml, how, hts, hlk, hnm, hK, ⟨o1, o2, o3, o4, o5, o6, o7, o8, o9, o10, o11, o12, o13, -⟩, -⟩ := id hC
  exact va_ldcM hx hb how (hts _ hw) o13 hd (kk p l e s m args below meth cd H locs ls hC hR hS hL hl h1 h2)
def gcN : MethodName := ⟨"java/lang/Object", "getClass", "()Ljava/lang/Class;"⟩
theorem x_getC {g : Gp} {M : MD} {pc i a n : Nat} {L st : List AV} {h : AH} {u : Nat × Nat} {Q : PQ} (hw1 : Cond.methodLink (mO M) i gcN ∈ lw_g) (hw2 : Cond.declares gcN ∈ lw_n) (hw3 : Cond.selects "[Ljava/lang/Object;" gcN gcN ∈ lw_g) (hw4 : Cond.instanceMethod gcN ∈ lw_g) (hw5 : Cond.native gcN ∈ lw_g) (ha : zK h a = (6, n)) (hdp : 1 ≤ mDp M) (hst : st.length ≤ 4) (hd : decode (mB M) pc = .ok (.invokevirtual i, 3)) (kk : Ex g M (pc + 3) L (vR 3 :: st) h u Q) : Ex g M pc L (vR a :: st) h u Q := by
  intro p l e s m args below meth cd H locs ls hC hR hS hL hl h1 h2
  obtain ⟨hx, hb, hrt, hml, how, hts, hlk, hnm, hK, hO, -⟩ := id hC
  obtain ⟨o1, o2, o3, o4, o5, o6, o7, o8, o9, o10, o11, o12, o13, -⟩ := id hO
  have hrm := lr_room (g := g) (m := m) (pc := pc) (ls := ls) (st := (st.map (tv g))) hst
  have hat := hR.at1 ha (by decide)
  rw [List.map_cons, tv_ref (hR.ne0 ha (by decide))]
  refine va_getC hx hb (by rw [hml, ← hl]; exact hL.1.symm) how (hts _ hw1) ((hO.nw _ hw2).use rfl) (hts _ hw3) (hts _ hw4) (hts _ hw5) o13 ⟨_, hat, rfl, va_nmO (hK.2 4 _ rfl).2 (by decide +kernel)⟩ hdp ?_ hd (kk p l e s m args below meth cd H locs ls hC hR hS hL hl h1 h2)
  have h7 : 2 * 0 + ((st.map (tv g)).map fun v => v.category).sum ≤ 8 := hrm
  show _ ≤ 64 * mDp M + 100
  omega
end
section
/-! ===== int[n][k] ===== -/
theorem x_mna {g : Gp} {M : MD} {pc i N K : Nat} {n k : Int32} {L st : List AV} {h : AH} {u : Nat × Nat} {Q : PQ} (hl9 : Cond.classLink (mO M) i "[[I" ∈ lw_g) (hw : Cond.arrayOver (.array .int) ∈ lw_g) (hw2 : Cond.arrayClass .int ∈ lw_g) (hn : ¬ n < 0) (hk : ¬ k < 0) (hN : n.toNatClampNeg = N) (hK9 : k.toNatClampNeg = K) (hN2 : N ≤ 60000000) (hK2 : K ≤ 60000000) (hu1 : u.1 + 1 + N ≤ mC M) (hu2 : u.2 + N + N * K ≤ mS M) (hd : decode (mB M) pc = .ok (.multianewarray i 2, 4)) (kk : Ex g M (pc + 4) L (vR (zN h) :: st) (nwm h N K) (u.1 + 1 + N, u.2 + N + N * K) Q) : Ex g M pc L (vI k :: vI n :: st) h u Q := by
  intro p l e s m args below meth cd H locs ls hC hR hS hL hl h1 h2
  obtain ⟨hx, hb, hrt, hml, how, hts, hlk, hnm, hK, -⟩ := id hC
  subst hN
  subst hK9
  intro T hT X
  obtain ⟨vm₁, cA, comp, -, fA, fC, hO, -, X', step⟩ := X.multianewarray2F hx how (ty := .int) (hts _ hl9) (hts _ hw) (hts _ hw2) (g := F0 m pc ls ((vI k :: vI n :: st).map (tv g))) rfl (by rw [hb]; exact hd) (rest := st.map (tv g)) rfl hn hk (by omega) (by show _ * 4 ≤ _; omega) (by omega) rfl rfl (by show u.1 + (1 + _) ≤ mC M; omega) (by show u.2 + (_ + _) ≤ mS M; omega)
  have ec : comp = gA g 2 := Option.some.inj (fC.symm.trans (hK.2 0 _ rfl).2)
  have ea : cA = gA g 8 := Option.some.inj (fA.symm.trans (hK.2 6 _ rfl).2)
  subst ec
  subst ea
  generalize hF : Jvm.Free.Multi.fill (T.setVm vm₁) (gA g 8) (gA g 2) n.toNatClampNeg k.toNatClampNeg (defaultValue .int) n.toNatClampNeg = F at X' step
  have hTh : (T.setVm vm₁).heap = H := hT
  obtain ⟨f1, f2, -, -⟩ := Jvm.Free.Multi.fill_facts (T.setVm vm₁) (gA g 8) (gA g 2) n.toNatClampNeg k.toNatClampNeg (defaultValue .int) n.toNatClampNeg
  rw [hF, hTh] at f1 f2
  have hold : ∀ x : Nat, x < H.size → F.heap[x]? = H[x]? := fun x hx => by
    have := Jvm.Free.Multi.fill_old (T.setVm vm₁) (gA g 8) (gA g 2) n.toNatClampNeg k.toNatClampNeg (defaultValue .int) (a := x) (by rw [hTh]; exact hx) n.toNatClampNeg
    rw [hF, hTh] at this
    exact this
  have hrow : ∀ j : Nat, j < n.toNatClampNeg → F.heap[H.size + 1 + j]? = some (vp_cell (gA g 2) (k.toNatClampNeg, .inl (fun _ => 0))) := fun j hj => by
    have := Jvm.Free.Multi.fill_inner (T.setVm vm₁) (gA g 8) (gA g 2) n.toNatClampNeg k.toNatClampNeg (defaultValue .int) n.toNatClampNeg j hj
    rw [hF, hTh] at this
    rw [this]
    show some ({ cls := gA g 2, slots := Array.replicate k.toNatClampNeg (.int 0), vm := .none } : Cell) = _
    rw [arrV_new]
    rfl
  have h3 := hR.1
  have hs := hR.2.1
  have htop : adr g h.1 = H.size := hR.top
  have hzn : h.1 = zN h := rfl
  have hn9 : zN (nwm h n.toNatClampNeg k.toNatClampNeg) = zN h + 1 + n.toNatClampNeg := rfl
  have kout : zK (nwm h n.toNatClampNeg k.toNatClampNeg) h.1 = (8, n.toNatClampNeg) := if_pos rfl
  have kin : ∀ b, h.1 < b → b < h.1 + 1 + n.toNatClampNeg → zK (nwm h n.toNatClampNeg k.toNatClampNeg) b = (2, k.toNatClampNeg) := fun b q1 q2 => by
    show (if b = h.1 then _ else if _ then _ else _) = _
    rw [if_neg (by omega), if_pos ⟨q1, q2⟩]
  have kold : ∀ b, b < h.1 ∨ h.1 + 1 + n.toNatClampNeg ≤ b → zK (nwm h n.toNatClampNeg k.toNatClampNeg) b = zK h b := fun b q1 => by
    show (if b = h.1 then _ else if _ then _ else _) = _
    rw [if_neg (by omega), if_neg (by omega)]
    rfl
  have hR2 : Rep g (nwm h n.toNatClampNeg k.toNatClampNeg) F.heap := by
    refine ⟨by rw [hn9]; omega, by rw [hn9, f1]; omega, fun b hb => ?_, fun b hb => ?_⟩
    · rw [hn9] at hb
      rw [kold b (by omega)]
      exact hR.2.2.1 b (by omega)
    · by_cases e1 : b = h.1
      · subst e1
        rw [htop]
        unfold ent
        rw [kout]
        show F.heap[H.size]? = some (vp_cell (gA g 8) (n.toNatClampNeg, .inr (.inr (.inr (.inr (fun j => ro g (zR (nwm h n.toNatClampNeg k.toNatClampNeg) h.1 j)))))))
        have := vr_outer (gA g 8) n.toNatClampNeg H.size n.toNatClampNeg
        rw [f2, this, vp_cell_q]
        refine congrArg some (congrArg (arrV (gA g 8) n.toNatClampNeg) (funext fun j => ?_))
        have e3 : zR (nwm h n.toNatClampNeg k.toNatClampNeg) h.1 j = if j < n.toNatClampNeg then h.1 + 1 + j else 0 := by
          show (if h.1 = h.1 then (fun j => if j < _ then _ else _) else _) j = _
          rw [if_pos rfl]
        rw [e3]
        split
        · unfold ro
          rw [if_neg (by omega), adr_ge (by omega)]
          have : gN g + (h.1 + 1 + j - 4) = H.size + 1 + j := by omega
          rw [this]
        · rfl
      · by_cases e2 : h.1 < b ∧ b < h.1 + 1 + n.toNatClampNeg
        · have e4 : adr g b = H.size + 1 + (b - h.1 - 1) := by rw [adr_ge (by omega)]; omega
          have e5 : zI (nwm h n.toNatClampNeg k.toNatClampNeg) b = fun _ => 0 := if_pos (by omega)
          rw [e4]
          unfold ent
          rw [kin b e2.1 e2.2]
          simp only [entk, e5]
          exact hrow _ (by omega)
        · rw [kold b (by omega)] at hb
          have hge := hR.ge hb
          have q1 : ¬ h.1 ≤ b := by omega
          have e6 : ent g (nwm h n.toNatClampNeg k.toNatClampNeg) b = ent g h b := by
            refine ent_congr (kold b (by omega)) (if_neg q1) (if_neg q1) (if_neg q1) ?_
            show (if b = h.1 then _ else if _ then _ else _) = _
            rw [if_neg e1, if_neg q1]
            rfl
          rw [e6]
          refine (hR.2.2.2 b hb).kept (hold _ ?_)
          show adr g b < _
          rw [adr_ge hge.1]
          omega
  obtain ⟨t, a1, b1⟩ := kk p l e s m args below meth cd F.heap locs ls hC hR2 (hS.grow (by rw [f1]; omega) hold) hL hl hu1 hu2 F rfl X'
  refine ⟨t, step t ?_, b1⟩
  have h0 : zN h ≠ 0 := by omega
  have e : T.heap.size = H.size := by rw [hT]
  rw [List.map_cons, tv_ref h0, hR.top] at a1
  rw [e]
  exact a1
/-! ===== System.arraycopy: references, longs ===== -/
def rwI (h : AH) (a : Nat) (f : Nat → Int32) : AH := (h.1, h.2.1, up1 h.2.2.1 a f, h.2.2.2)
def rwL (h : AH) (a : Nat) (f : Nat → Int64) : AH := (h.1, h.2.1, h.2.2.1, up1 h.2.2.2.1 a f, h.2.2.2.2)
def rwR (h : AH) (a : Nat) (f : Nat → Nat) : AH := (h.1, h.2.1, h.2.2.1, h.2.2.2.1, h.2.2.2.2.1, up1 h.2.2.2.2.2 a f)
theorem cpy_ro {g : Gp} {f f2 : Nat → Nat} {sp dp n : Nat} : va_cpy (fun j => ro g (f j)) (fun j => ro g (f2 j)) sp dp n = fun j => ro g (va_cpy f f2 sp dp n j) := by
  funext k
  unfold va_cpy
  split <;> rfl
def acOk (M : MD) (i : Nat) : Prop := Cond.methodLink (mO M) i arraycopyName ∈ lw_g ∧ Cond.native arraycopyName ∈ lw_g ∧ Cond.static arraycopyName ∈ lw_g ∧ Cond.initialized "java/lang/System" ∈ lw_g
theorem nn32 : ∀ z : Int32, ¬ z < 0 → z.toInt = (z.toNatClampNeg : Int) := by
  intro z hz
  have hz0 : (0 : Int) ≤ z.toInt := by
    have := Int32.not_lt.mp hz
    simpa using Int32.le_iff_toInt_le.mp this
  show z.toInt = ((z.toInt.toNat : Nat) : Int)
  omega
theorem x_copyq {g : Gp} {M : MD} {pc i a0 a n0 n1 ci : Nat} {r : vw_C} {sp dp n : Int32} {L st : List AV} {h : AH} {u : Nat × Nat} {Q : PQ} (hw : acOk M i) (ha0 : zK h a0 = (6, n0)) (ha1 : zK h a = (6, n1)) (hc9 : clt[ci]? = some r) (hcast : Cond.castable r.1 "java/lang/Object" ∈ lw_n) (h1 : ¬ sp < 0) (h2 : ¬ dp < 0) (h3 : ¬ n < 0) (h4 : sp.toNatClampNeg + n.toNatClampNeg ≤ n0) (h5 : dp.toNatClampNeg + n.toNatClampNeg ≤ n1)
    (hel : ∀ j : Nat, j < n.toNatClampNeg → zR h a0 (sp.toNatClampNeg + j) ≠ 0 → zK h (zR h a0 (sp.toNatClampNeg + j)) = (1, ci)) (hdp : 1 ≤ mDp M) (hst : st.length ≤ 4) (hd : decode (mB M) pc = .ok (.invokestatic i, 3))
    (kk : Ex g M (pc + 3) L st (rwR h a (va_cpy (zR h a0) (zR h a) sp.toNatClampNeg dp.toNatClampNeg n.toNatClampNeg)) u Q) : Ex g M pc L (vI n :: vI dp :: vR a :: vI sp :: vR a0 :: st) h u Q := by
  intro p l e s m args below meth cd H locs ls hC hR hS hL hl g1 g2
  obtain ⟨hx, hb, hrt, hml, how, hts, hlk, hnm, hK, hO, -⟩ := id hC
  intro T hT X
  have q0 : (6 : Nat) ≠ 0 := by decide
  have hc0 : H[adr g a0]? = some (vp_cell (gA g 6) (n0, .inr (.inr (.inr (.inr (fun j => ro g (zR h a0 j))))))) := hR.at1 ha0 q0
  have hc1 : H[adr g a]? = some (vp_cell (gA g 6) (n1, .inr (.inr (.inr (.inr (fun j => ro g (zR h a j))))))) := hR.at1 ha1 q0
  obtain ⟨-, k0, hk0, cm0, hkk0⟩ := (hK.2 4 _ rfl).1 n0 (fun j => va_rf (ro g (zR h a0 j)))
  obtain ⟨-, k1, hk1, cm1, hkk1⟩ := (hK.2 4 _ rfl).1 n1 (fun j => va_rf (ro g (zR h a j)))
  have hrm := lr_room (g := g) (m := m) (pc := pc) (ls := ls) (st := (st.map (tv g))) hst
  obtain ⟨vm', X', step⟩ := X.arraycopy hx how (hts _ hw.1) (hts _ hw.2.1) (hts _ hw.2.2.1) (hts _ hw.2.2.2) (src := adr g a0) (dst := adr g a) (cs := vp_cell (gA g 6) (n0, .inr (.inr (.inr (.inr (fun j => ro g (zR h a0 j))))))) (cd := vp_cell (gA g 6) (n1, .inr (.inr (.inr (.inr (fun j => ro g (zR h a j))))))) (srcPos := sp) (destPos := dp) (n := n) (by rw [hT]; exact hc0) (by rw [hT]; exact hc1)
    (fun _ h => by cases h) (fun _ h => by cases h) (fun h => by cases h) (fun h => by cases h) hk0 hk1 hkk0 hkk1 rfl h1 h2 h3
    (by rw [nn32 sp h1, nn32 n h3]; show ¬ _ > ((arrV (gA g 6) n0 (fun j => va_rf (ro g (zR h a0 j)))).slots.size : Int); rw [arrV_size]; omega)
    (by rw [nn32 dp h2, nn32 n h3]; show ¬ _ > ((arrV (gA g 6) n1 (fun j => va_rf (ro g (zR h a j)))).slots.size : Int); rw [arrV_size]; omega)
    (fun vm₁ hal j hj => by
      have e : (vp_cell (gA g 6) (n0, .inr (.inr (.inr (.inr (fun j => ro g (zR h a0 j))))))).slots.getD (sp.toNatClampNeg + j) .null = va_rf (ro g (zR h a0 (sp.toNatClampNeg + j))) := by
        show (arrV (gA g 6) n0 (fun j => va_rf (ro g (zR h a0 j)))).slots.getD _ _ = _
        rw [Array.getD_eq_getD_getElem?, arrV_read _ _ (by omega)]
        rfl
      rw [e]
      by_cases hz : zR h a0 (sp.toNatClampNeg + j) = 0
      · rw [hz]
        exact ⟨rfl, trivial⟩
      · have e2 : ro g (zR h a0 (sp.toNatClampNeg + j)) = some (adr g (zR h a0 (sp.toNatClampNeg + j))) := if_neg hz
        rw [e2]
        obtain ⟨cellV, g1, g2, g3⟩ := rep_recv hR hK (hel j hj hz) hc9
        obtain ⟨kA, comp, r1, r2, r3, -⟩ := (hK.2 4 _ rfl).2
        cases hk1.symm.trans r1
        cases hkk1.symm.trans r2
        obtain ⟨kC, hkC, -⟩ := Vm.findClass_spec g3
        obtain ⟨kE, hkE, -⟩ := Vm.findClass_spec r3
        obtain ⟨kC', hkC', -⟩ := hal.2.2 _ _ hkC
        obtain ⟨kE', hkE', -⟩ := hal.2.2 _ _ hkE
        refine ⟨rfl, cellV, (show T.heap[_]? = some cellV by rw [hT]; exact g1), (fun q h => by rw [h] at g2; cases g2), ⟨kC', hkC'⟩, ?_, ?_⟩
        · exact ⟨kE', hkE'⟩
        · show vm₁.assignable _ _ = true
          rw [hal.assignable]
          exact vb_asgC (hO.nw _ hcast) _ _ r3 g3)
    (g := F0 m pc ls ((vI n :: vI dp :: vR a :: vI sp :: vR a0 :: st).map (tv g))) rfl (by rw [hml, ← hl]; exact hL.1) (rest := st.map (tv g)) (by rw [List.map_cons, List.map_cons, List.map_cons, List.map_cons, List.map_cons, tv_ref (hR.ne0 ha0 q0), tv_ref (hR.ne0 ha1 q0)]; rfl) (by rw [hb]; exact hd) hdp (by
      show 2 * 0 + _ + _ ≤ 64 * mDp M + 100
      have e8 : nativeFrameWords "java/lang/System" "arraycopy" 5 = 7 := by decide
      have : 2 * 0 + ((st.map (tv g)).map fun v => v.category).sum ≤ 8 := hrm
      rw [e8]
      omega)
  have e1 : copied (vp_cell (gA g 6) (n0, .inr (.inr (.inr (.inr (fun j => ro g (zR h a0 j))))))) (vp_cell (gA g 6) (n1, .inr (.inr (.inr (.inr (fun j => ro g (zR h a j))))))) sp dp n = vp_cell (gA g 6) (n1, .inr (.inr (.inr (.inr (fun j => ro g (va_cpy (zR h a0) (zR h a) sp.toNatClampNeg dp.toNatClampNeg n.toNatClampNeg j)))))) := by
    rw [← cpy_ro, vp_cell_q, vp_cell_q, vp_cell_q]
    exact va_copied (fun z => va_rf z) (gA g 6) (gA g 6) _ _ h4
  rw [e1] at X' step
  have hl9 : adr g a < H.size := (Array.getElem?_eq_some_iff.mp hc1).1
  generalize hcell : vp_cell (gA g 6) (n1, .inr (.inr (.inr (.inr (fun j => ro g (va_cpy (zR h a0) (zR h a) sp.toNatClampNeg dp.toNatClampNeg n.toNatClampNeg j)))))) = nc at X' step
  have hheap : ((T.setVm vm').setCell (adr g a) nc).heap = H.setIfInBounds (adr g a) nc := by rw [← hT]; rfl
  have oq : ∀ q : Nat, q ≠ adr g a → (H.setIfInBounds (adr g a) nc)[q]? = H[q]? := fun q hq => by simp [Array.getElem?_setIfInBounds, Ne.symm hq]
  have hR2 : Rep g (rwR h a (va_cpy (zR h a0) (zR h a) sp.toNatClampNeg dp.toNatClampNeg n.toNatClampNeg)) (H.setIfInBounds (adr g a) nc) := by
    refine arr_put hR ha1 q0 rfl (fun _ => rfl) (fun b hb => ent_congr rfl rfl rfl rfl (up1_n _ _ hb)) ?_ (by simp) oq
    have e3 : zR (rwR h a (va_cpy (zR h a0) (zR h a) sp.toNatClampNeg dp.toNatClampNeg n.toNatClampNeg)) a = va_cpy (zR h a0) (zR h a) sp.toNatClampNeg dp.toNatClampNeg n.toNatClampNeg := up1_s _ _ _
    rw [entq (Or.inl rfl), e3]
    show (H.setIfInBounds (adr g a) nc)[adr g a]? = some (vp_cell _ _)
    rw [← hcell]
    simp [Array.getElem?_setIfInBounds, hl9]
  obtain ⟨t, a1, b1⟩ := kk p l e s m args below meth cd _ _ ls hC hR2 ⟨by simp; exact hS.1, fun q w1 w2 => by
      rw [oq q (fun e => w2 (by rw [e]; exact hR.adr_in ha1 q0))]
      exact hS.2.1 q w1 w2, fun q hq => by
      rcases List.mem_append.mp hq with h | h
      · exact hS.2.2 q h
      · obtain ⟨z, -, hz⟩ := List.mem_map.mp h
        rw [← hz]
        exact hR.adr_in ha1 q0⟩ hL hl g1 g2 _ hheap X'
  exact ⟨t, step t a1, b1⟩
theorem x_copyl {g : Gp} {M : MD} {pc i a0 a n0 n1 : Nat} {sp dp n : Int32} {L st : List AV} {h : AH} {u : Nat × Nat} {Q : PQ} (hw : acOk M i) (ha0 : zK h a0 = (3, n0)) (ha1 : zK h a = (3, n1)) (h1 : ¬ sp < 0) (h2 : ¬ dp < 0) (h3 : ¬ n < 0) (h4 : sp.toNatClampNeg + n.toNatClampNeg ≤ n0) (h5 : dp.toNatClampNeg + n.toNatClampNeg ≤ n1) (hdp : 1 ≤ mDp M) (hst : st.length ≤ 4) (hd : decode (mB M) pc = .ok (.invokestatic i, 3))
    (kk : Ex g M (pc + 3) L st (rwL h a (va_cpy (zL h a0) (zL h a) sp.toNatClampNeg dp.toNatClampNeg n.toNatClampNeg)) u Q) : Ex g M pc L (vI n :: vI dp :: vR a :: vI sp :: vR a0 :: st) h u Q := by
  intro p l e s m args below meth cd H locs ls hC hR hS hL hl g1 g2
  obtain ⟨hx, hb, hrt, hml, how, hts, hlk, hnm, hK, -⟩ := id hC
  intro T hT X
  have q0 : (3 : Nat) ≠ 0 := by decide
  have hc0 : H[adr g a0]? = some (vp_cell (gA g 3) (n0, .inr (.inl (zL h a0)))) := hR.at1 ha0 q0
  have hc1 : H[adr g a]? = some (vp_cell (gA g 3) (n1, .inr (.inl (zL h a)))) := hR.at1 ha1 q0
  obtain ⟨-, k0, hk0, cm0, hkk0⟩ := (hK.2 1 _ rfl).1 n0 (fun j => .long (zL h a0 j))
  obtain ⟨-, k1, hk1, cm1, hkk1⟩ := (hK.2 1 _ rfl).1 n1 (fun j => .long (zL h a j))
  have hrm := lr_room (g := g) (m := m) (pc := pc) (ls := ls) (st := (st.map (tv g))) hst
  obtain ⟨vm', X', step⟩ := X.arraycopy hx how (hts _ hw.1) (hts _ hw.2.1) (hts _ hw.2.2.1) (hts _ hw.2.2.2) (src := adr g a0) (dst := adr g a) (cs := vp_cell (gA g 3) (n0, .inr (.inl (zL h a0)))) (cd := vp_cell (gA g 3) (n1, .inr (.inl (zL h a)))) (srcPos := sp) (destPos := dp) (n := n) (by rw [hT]; exact hc0) (by rw [hT]; exact hc1)
    (fun _ h => by cases h) (fun _ h => by cases h) (fun h => by cases h) (fun h => by cases h) hk0 hk1 hkk0 hkk1 rfl h1 h2 h3
    (by rw [nn32 sp h1, nn32 n h3]; show ¬ _ > ((arrV (gA g 3) n0 (fun j => .long (zL h a0 j))).slots.size : Int); rw [arrV_size]; omega)
    (by rw [nn32 dp h2, nn32 n h3]; show ¬ _ > ((arrV (gA g 3) n1 (fun j => .long (zL h a j))).slots.size : Int); rw [arrV_size]; omega)
    (fun vm₁ hal j hj => by
      have e : (vp_cell (gA g 3) (n0, .inr (.inl (zL h a0)))).slots.getD (sp.toNatClampNeg + j) .null = .long (zL h a0 (sp.toNatClampNeg + j)) := by
        show (arrV (gA g 3) n0 (fun j => .long (zL h a0 j))).slots.getD _ _ = _
        rw [Array.getD_eq_getD_getElem?, arrV_read _ _ (by omega)]
        rfl
      refine ⟨?_, ?_⟩
      · rw [e]; rfl
      · rw [e]; exact trivial)
    (g := F0 m pc ls ((vI n :: vI dp :: vR a :: vI sp :: vR a0 :: st).map (tv g))) rfl (by rw [hml, ← hl]; exact hL.1) (rest := st.map (tv g)) (by rw [List.map_cons, List.map_cons, List.map_cons, List.map_cons, List.map_cons, tv_ref (hR.ne0 ha0 q0), tv_ref (hR.ne0 ha1 q0)]; rfl) (by rw [hb]; exact hd) hdp (by
      show 2 * 0 + _ + _ ≤ 64 * mDp M + 100
      have e8 : nativeFrameWords "java/lang/System" "arraycopy" 5 = 7 := by decide
      have : 2 * 0 + ((st.map (tv g)).map fun v => v.category).sum ≤ 8 := hrm
      rw [e8]
      omega)
  have e1 : copied (vp_cell (gA g 3) (n0, .inr (.inl (zL h a0)))) (vp_cell (gA g 3) (n1, .inr (.inl (zL h a)))) sp dp n = vp_cell (gA g 3) (n1, .inr (.inl (va_cpy (zL h a0) (zL h a) sp.toNatClampNeg dp.toNatClampNeg n.toNatClampNeg))) := va_copied (fun z => .long z) (gA g 3) (gA g 3) _ _ h4
  rw [e1] at X' step
  have hl9 : adr g a < H.size := (Array.getElem?_eq_some_iff.mp hc1).1
  generalize hcell : vp_cell (gA g 3) (n1, .inr (.inl (va_cpy (zL h a0) (zL h a) sp.toNatClampNeg dp.toNatClampNeg n.toNatClampNeg))) = nc at X' step
  have hheap : ((T.setVm vm').setCell (adr g a) nc).heap = H.setIfInBounds (adr g a) nc := by rw [← hT]; rfl
  have oq : ∀ q : Nat, q ≠ adr g a → (H.setIfInBounds (adr g a) nc)[q]? = H[q]? := fun q hq => by simp [Array.getElem?_setIfInBounds, Ne.symm hq]
  have hR2 : Rep g (rwL h a (va_cpy (zL h a0) (zL h a) sp.toNatClampNeg dp.toNatClampNeg n.toNatClampNeg)) (H.setIfInBounds (adr g a) nc) := by
    refine arr_put hR ha1 q0 rfl (fun _ => rfl) (fun b hb => ent_congr rfl rfl (up1_n _ _ hb) rfl rfl) ?_ (by simp) oq
    have e3 : zL (rwL h a (va_cpy (zL h a0) (zL h a) sp.toNatClampNeg dp.toNatClampNeg n.toNatClampNeg)) a = va_cpy (zL h a0) (zL h a) sp.toNatClampNeg dp.toNatClampNeg n.toNatClampNeg := up1_s _ _ _
    simp only [entk, e3]
    show (H.setIfInBounds (adr g a) nc)[adr g a]? = some (vp_cell _ _)
    rw [← hcell]
    simp [Array.getElem?_setIfInBounds, hl9]
  obtain ⟨t, a1, b1⟩ := kk p l e s m args below meth cd _ _ ls hC hR2 ⟨by simp; exact hS.1, fun q w1 w2 => by
      rw [oq q (fun e => w2 (by rw [e]; exact hR.adr_in ha1 q0))]
      exact hS.2.1 q w1 w2, fun q hq => by
      rcases List.mem_append.mp hq with h | h
      · exact hS.2.2 q h
      · obtain ⟨z, -, hz⟩ := List.mem_map.mp h
        rw [← hz]
        exact hR.adr_in ha1 q0⟩ hL hl g1 g2 _ hheap X'
  exact ⟨t, step t a1, b1⟩
end
section
/-! ===== throwing ===== -/
theorem Rep.bump {g : Gp} {h : AH} {H H1 : Heap} {n : Nat} (hR : Rep g h H) (hn : H1.size + 4 = gN g + n) (hz : H.size ≤ H1.size) (hold : ∀ q : Nat, q < H.size → H1[q]? = H[q]?) : Rep g (bump h n) H1 := by
  have h1 := hR.1
  have h2 := hR.2.1
  refine ⟨by show 4 ≤ n; omega, hn, fun a ha => ?_, fun a ha => ?_⟩
  · have ha2 : a < 4 ∨ n ≤ a := ha
    exact hR.2.2.1 a (by omega)
  · have hge := hR.ge (a := a) ha
    refine (hR.2.2.2 a ha).kept (hold _ ?_)
    show adr g a < _
    rw [adr_ge hge.1]
    omega
def xNames : List String := ["java/lang/RuntimeException", "java/lang/Exception"]
def ThOk (own : String) (ik ic : Nat) (cls : String) : Prop := Cond.classLink own ik cls ∈ lw_g ∧ Cond.initialized cls ∈ lw_g ∧ (∀ w ∈ (vx_atS own ic cls xNames).filter goodWord, w ∈ lw_tbl) ∧ (∀ w ∈ (vx_atS own ic cls xNames).filter (fun w => !goodWord w), w ∈ lw_tbl) ∧ ((vx_atS own ic cls xNames).filter (fun w => !goodWord w)).all isN = true ∧ (Cond.classLink own ik cls :: Cond.initialized cls :: vx_atS own ic cls xNames).all vx_ot = true ∧ Bundle.fit cls = true
theorem x_throw {g : Gp} {M : MD} {pc ik is ic k : Nat} {text : String} {L st : List AV} {h : AH} {u : Nat × Nat} {Q : PQ} (hH : mH M = []) (hok : ThOk (mO M) ik ic (exN k)) (hstr : ∀ s : State, Old g s → ∃ sa, vk_R (mO M) is text sa s) (hdp : 6 ≤ mDp M) (hst : st.length ≤ 4) (hu1 : u.1 + 1 ≤ mC M) (hu2 : u.2 + 6 ≤ mS M)
    (d0 : decode (mB M) pc = .ok (.new ik, 3)) (d3 : decode (mB M) (pc + 3) = .ok (.dup, 1)) (d4 : decode (mB M) (pc + 4) = .ok (.ldc_w is, 3)) (d7 : decode (mB M) (pc + 7) = .ok (.invokespecial ic, 3)) (d10 : decode (mB M) (pc + 10) = .ok (.athrow, 1))
    (hq : ∀ n, zN h ≤ n → Q (.inr k) (bump h n)) : Ex g M pc L st h u Q := by
  intro p l e s m args below meth cd H locs ls hC hR hS hL hl h1 h2
  obtain ⟨hx, hb, hrt, hml, how, hts, hlk, hnm, hK, hO, hlt, htb⟩ := id hC
  obtain ⟨k1, k2, k3, k4, k5, k6, k7⟩ := hok
  obtain ⟨sa, hsa⟩ := hstr s hO
  have hrm := lr_room (g := g) (m := m) (pc := pc) (ls := ls) (st := (st.map (tv g))) hst
  have hU := hO.2.2.2.2.2.2.2.1
  have hN := hO.2.2.2.2.2.2.2.2.1
  have h7 : 2 * 0 + ((st.map (tv g)).map fun v => v.category).sum ≤ 8 := hrm
  refine vx_throwSW (names := xNames) (sa := sa) hx hb hlt how k7 (by decide +kernel) (hts _ k1) (hts _ k2) hsa ?_ ?_ hU hN hS (by rw [hml, ← hl]; exact hL.1) d0 d3 d4 d7 d10 ?_ ?_ ?_ hu1 hu2 hlk ?_ hS.2.2 hu1 hu2
  · exact vx_hat (B := (vx_atS (mO M) ic (exN k) xNames).filter (fun w => !goodWord w)) (fun w hw => hts _ (lg_mem (k3 w hw) (List.mem_filter.mp hw).2)) (fun w hw => hw) (fun w hw => by
      have hn := List.all_eq_true.mp k5 w hw
      exact (hO.nw w (ln_mem (k4 w hw) hn)).use (nw_tab hn))
  · exact fun w hw => List.all_eq_true.mp k6 w hw
  · intro x hx9
    rw [htb, hH] at hx9
    exact absurd hx9 (by simp [tableOf])
  · show 2 + 3 < mDp M; omega
  · show _ + (13 * (2 + 1) + 43) ≤ 64 * mDp M + 100; omega
  · intro t hal hz hold
    have hge := hR.2.1
    have h3 := hR.1
    exact ⟨⟨k, bump h (t.heap.size + 4 - gN g), rfl, hq _ (by omega), hR.bump (by omega) hz hold⟩, (hS.grow hz hold).F rfl⟩
/-! ===== caught: a virtual call in a method with handlers; a handler begins with astore ===== -/
def CatchTo (g : Gp) (M : MD) (pc : Nat) (L : List AV) (u : Nat × Nat) (Q : PQ) (k : Nat) (h' : AH) : Prop :=
  ∃ (pre : List ExceptionTableEntry) (x : ExceptionTableEntry) (suf : List ExceptionTableEntry) (i n : Nat), tableOf (mH M) = pre ++ x :: suf ∧ (∀ z ∈ pre, z.catchType ≠ 0 ∧ ∃ j, 1 ≤ j ∧ j ≤ 3 ∧ j ≠ k ∧ Cond.classLink (mO M) z.catchType (exN j) ∈ lw_g) ∧ covers x pc = true ∧ x.catchType ≠ 0 ∧ 1 ≤ k ∧ k ≤ 3 ∧ Cond.classLink (mO M) x.catchType (exN k) ∈ lw_g ∧ Cond.castable (exN k) (exN k) ∈ lw_n ∧
    ((decode (mB M) x.handlerPc = .ok (.astore i, 2) ∧ n = 2) ∨ (∃ i4 : Fin 4, (i4 : Nat) = i ∧ decode (mB M) x.handlerPc = .ok (.astore_n i4, 1) ∧ n = 1)) ∧ i < L.length ∧ Ex g M (x.handlerPc + n) (st1 L i vU) [] h' u Q
theorem LR.set1U {g : Gp} {L : List AV} {ls' : Array Slot} {i : Nat} {n : Nat} {x : Value} (hn : n = L.length) (hi : i < L.length) (h : lv_has ls' n ((i, x) :: (lvp g L).filter (fun q => !(q.1 == i) && !(q.1 + 1 == i && q.2.category == 2)))) : LR g (st1 L i vU) ls' := by
  refine LR.of h (by rw [st1_len]; exact hn) (fun j hj => ?_)
  rw [st1_lg g _ _ _ _ hi] at hj ⊢
  by_cases h1 : j = i
  · subst h1
    simp at hj
  · rw [if_neg h1] at hj ⊢
    by_cases h2 : j + 1 = i ∧ (tv g (lg L j)).category = 2
    · rw [if_pos h2] at hj; exact absurd rfl hj
    · rw [if_neg h2] at hj ⊢
      refine List.mem_cons_of_mem _ (List.mem_filter.mpr ⟨lvp_mem.mpr ⟨lg_lt hj, hj, rfl⟩, ?_⟩)
      simp [h1]
      omega
theorem Ex.callVX {g : Gp} {M N : MD} {pc i x ci : Nat} {r : vw_C} {L rest av : List AV} {h : AH} {u : Nat × Nat} {Q Q' : PQ} (hN : MOk N av.length) (hcode : mH N = []) (hl : Cond.methodLink (mO M) i (mY N) ∈ lw_g) (hin : Cond.instanceMethod (mY N) ∈ lw_g) (hse : Cond.selects r.1 (mY N) (mY N) ∈ lw_g) (hc : clt[ci]? = some r) (hx0 : zK h x = (1, ci)) (hdp : mDp N + 1 ≤ mDp M) (h1 : u.1 + mC N ≤ mC M) (h2 : u.2 + mS N ≤ mS M) (hrest : rest.length ≤ 4) (hd : decode (mB M) pc = .ok (.invokevirtual i, 3))
    (ev : Ev g N (vR x :: av) h Q') (hk : ∀ v h', Q' (.inl v) h' → Ex g M (pc + 3) L (v.toList ++ rest) h' (u.1 + mC N, u.2 + mS N) Q) (hx : ∀ k h', Q' (.inr k) h' → CatchTo g M pc L (u.1 + mC N, u.2 + mS N) Q k h') : Ex g M pc L (av.reverse ++ vR x :: rest) h u Q := by
  intro p l e s m args below meth c H locs ls hC hR hS hL hl0 g1 g2
  obtain ⟨hX, hb, hrt, hml, how, hts, hlk, hnm, hK, hO, hlt, htb⟩ := id hC
  have hx3 : x ≠ 0 := fun h0 => by have := hR.2.2.1 x (Or.inl (by omega)); rw [hx0] at this; exact Nat.one_ne_zero this
  have hv : tv g (vR x) = .ref (adr g x) := by simp [tv, rv, hx3]
  refine Ex.fin (a := (Value.ref (adr g x) :: av.map (tv g)).toArray) (XK := CatchTo g M pc L (u.1 + mC N, u.2 + mS N) Q) hC hS hL hl0 h1 h2 ?_ hk hx ?_
  · refine vx_runV (b := adr g x) (C := r.1) (As := av.map (tv g)) (rest := rest.map (tv g)) ⟨hX, hb, hml, how, hts⟩ (ev l hlt) ⟨callB_M hC hN hcode hl hdp, hts _ hin, hts _ hse⟩ ⟨Pc.blind, rep_recv hR hK hx0 hc, fun U hU hW => ?_⟩ rfl (by simp) (by rw [← hl0]; exact hL.1) (by simp [hv]) (lr_room hrest) hd ⟨h1, h2⟩
    have := Pc.at (av := vR x :: av) hR hK hO hS U hU hW
    rw [List.map_cons, hv] at this
    exact this
  · intro k h' H1 locs1 q ce ⟨pre, xe, suf, i9, n9, z1, z2, z3, z4, z5, z6, z7, z8, z9, z10, z11⟩ y1 y2 y3 y4 y5
    refine vx_catch (own := mO M) (name := exN k) (E := exN k) (ce := ce) how pre xe suf (htb.trans z1) (fun z hz => Or.inr ⟨(z2 z hz).1, ?_⟩) z3 z4 (hts _ z7) ((hO.nw _ z8).use rfl) y3 y4 y5 ?_
    · obtain ⟨-, j, j1, j2, j3, j4⟩ := z2 z hz
      exact ⟨exN j, hts _ j4, hO.2.2.2.2.2.2.2.2.2.2.2.2.2.1 k j z5 z6 j1 j2 (Ne.symm j3)⟩
    · rcases z9 with ⟨d9, rfl⟩ | ⟨i4, e4, d9, rfl⟩
      · exact lv_astore hX hb d9 hL.has z10 rfl (fun ls2 hl2 => z11 p l e s m args below meth c H1 locs1 ls2 hC y1 y2 (LR.set1U rfl z10 hl2) ((st1_len L _ _).trans hl0) h1 h2)
      · exact lv_astore_n hX hb d9 e4 hL.has z10 rfl (fun ls2 hl2 => z11 p l e s m args below meth c H1 locs1 ls2 hC y1 y2 (LR.set1U rfl z10 hl2) ((st1_len L _ _).trans hl0) h1 h2)
end
section
/-! ===== many instructions at one go (by program) ===== -/
abbrev OP : Type := Instr × Nat × (Nat × Nat × Nat) × AV
def isIv (v : AV) : Bool := match v with
  | .inl _ => true
  | _ => false
def isWv (v : AV) : Bool := match v with
  | .inr (.inl _) => true
  | .inr (.inr (.inl _)) => true
  | _ => false
def cat1 (v : AV) : Bool := match v with
  | .inl _ => true
  | .inr (.inr (.inr (.inl _))) => true
  | _ => false
theorem cat1_ok {g : Gp} {v : AV} (h : cat1 v = true) : (tv g v).category = 1 := by
  rcases v with x | x | x | x | x
  · rfl
  · exact absurd h (by simp [cat1])
  · exact absurd h (by simp [cat1])
  · rcases rv_or g x with e | ⟨a, e⟩ <;> (simp only [tv]; rw [e]; rfl)
  · exact absurd h (by simp [cat1])
def fwb (M : MD) (c k : Nat) : Bool := match clt[c]? with
  | some q => !(q.2.1 k).2.2.2 || ((mY M).name == "<init>" && (q.2.1 k).1 == mO M)
  | none => false
theorem fwb_ok {M : MD} {c k : Nat} (h : fwb M c k = true) : FWok M c k := by
  unfold fwb at h
  split at h
  · rename_i q hq
    refine ⟨q, hq, ?_⟩
    cases hb : (q.2.1 k).2.2.2 with
    | false => exact Or.inl rfl
    | true =>
      simp only [hb, Bool.not_true, Bool.false_or, Bool.and_eq_true, beq_iff_eq] at h
      exact Or.inr ⟨rfl, h.1, h.2⟩
  · exact absurd h (by simp)
theorem kd_eta {h : AH} {a t : Nat} (e : (zK h a).1 = t) : zK h a = (t, (zK h a).2) := by rw [← e]
theorem arrw : ∀ t, (t = 2 ∨ t = 3 ∨ t = 4 ∨ t = 5) → Cond.arrayClass (newarray.typeOf (atk t)) ∈ lw_g := by
  intro t ht
  rcases ht with rfl | rfl | rfl | rfl
  · exact lg_mem (by decide +kernel) rfl
  · exact lg_mem (by decide +kernel) rfl
  · exact lg_mem (by decide +kernel) rfl
  · exact lg_mem (by decide +kernel) rfl
def retI (r : Option FieldType) (a : Int32) : Prop := match r with
  | some .int => True
  | some .boolean => a = 0 ∨ a = 1
  | _ => False
theorem retI_ok {r : Option FieldType} {a : Int32} (h : retI r a) : ∃ ty, r = some ty ∧ narrow ty (.int a) = .int a := by
  unfold retI at h
  split at h
  · exact ⟨_, rfl, rfl⟩
  · rcases h with rfl | rfl <;> exact ⟨_, rfl, rfl⟩
  · exact absurd h id
def retA (r : Option FieldType) : Bool := match r with
  | some (.object _) => true
  | some (.array _) => true
  | _ => false
theorem retA_ok {r : Option FieldType} (h : retA r = true) : ∃ ty, r = some ty ∧ ((∃ n, ty = .object n) ∨ ∃ t, ty = .array t) := by
  unfold retA at h
  split at h
  · exact ⟨_, rfl, Or.inl ⟨_, rfl⟩⟩
  · exact ⟨_, rfl, Or.inr ⟨_, rfl⟩⟩
  · exact absurd h (by simp)
theorem Ex.len {g : Gp} {M : MD} {pc : Nat} {L st : List AV} {h : AH} {u : Nat × Nat} {Q : PQ} (k : L.length = mX M → Ex g M pc L st h u Q) : Ex g M pc L st h u Q :=
  fun p l e s m args below meth c H locs ls hC hR hS hL hl h1 h2 => k hl p l e s m args below meth c H locs ls hC hR hS hL hl h1 h2
def inC (l : List (Nat × AV)) (k : Nat) (v : AV) : Bool := l.any (fun e => e.1 == k && decide (e.2 = v))
theorem inC_mem {l : List (Nat × AV)} {k : Nat} {v : AV} (h : inC l k v = true) : (k, v) ∈ l := by
  unfold inC at h
  obtain ⟨e, h1, h2⟩ := List.any_eq_true.mp h
  simp only [Bool.and_eq_true, beq_iff_eq, decide_eq_true_eq] at h2
  obtain ⟨h3, h4⟩ := h2
  subst h3
  subst h4
  exact h1
def COk (own : String) (e : Nat × AV) : Prop := match e.2 with
  | .inl a => Cond.constant own e.1 a ∈ lw_g
  | .inr (.inl a) => Cond.constantLong own e.1 a ∈ lw_g
  | .inr (.inr (.inl a)) => Cond.constantDouble own e.1 a ∈ lw_g
  | _ => False
def NOk (own : String) (e : Nat × Nat) : Prop := ∃ q : vw_C, clt[e.2]? = some q ∧ Cond.classLink own e.1 q.1 ∈ lw_g ∧ Cond.instantiable q.1 q.2.2 ∈ lw_g ∧ Cond.initialized q.1 ∈ lw_g ∧ ∀ k, k < q.2.2 → ftc (cty e.2 k) < 3
def XOk (own : String) (e : Nat × Nat) : Prop := ∃ q : vw_C, clt[e.2]? = some q ∧ Cond.classLink own e.1 q.1 ∈ lw_g
def CFok (f : CF) : Prop := (∀ e ∈ f.2.1, FOk f.1 e.1 e.2.1 e.2.2.1 e.2.2.2) ∧ (∀ e ∈ f.2.2.1, COk f.1 e) ∧ (∀ e ∈ f.2.2.2.1, NOk f.1 e) ∧ ∀ e ∈ f.2.2.2.2, XOk f.1 e

def run (M : MD) (Q : PQ) (K : Nat → List AV → List AV → AH → Nat × Nat → Prop) : List OP → Nat → List AV → List AV → AH → Nat × Nat → Prop
  | [], pc, L, st, h, u => K pc L st h u
  | (i, n, x, v) :: r, pc, L, st, h, u => match i with
    | .iconst k => run M Q K r (pc + n) L (v :: st) h u
    | .bipush k => run M Q K r (pc + n) L (v :: st) h u
    | .sipush k => run M Q K r (pc + n) L (v :: st) h u
    | .lconst k => run M Q K r (pc + n) L (v :: st) h u
    | .dconst k => run M Q K r (pc + n) L (v :: st) h u
    | .aconst_null => run M Q K r (pc + n) L (vR 0 :: st) h u
    | .ldc k => run M Q K r (pc + n) L (v :: st) h u
    | .ldc_w k => run M Q K r (pc + n) L (v :: st) h u
    | .ldc2_w k => run M Q K r (pc + n) L (v :: st) h u
    | .iload_n k => match lg L x.1 with
      | .inl a => run M Q K r (pc + n) L (vI a :: st) h u
      | _ => False
    | .istore_n k => match st with
      | .inl a :: s => run M Q K r (pc + n) (st1 L x.1 (vI a)) s h u
      | _ => False
    | .iload k => match lg L x.1 with
      | .inl a => run M Q K r (pc + n) L (vI a :: st) h u
      | _ => False
    | .istore k => match st with
      | .inl a :: s => run M Q K r (pc + n) (st1 L x.1 (vI a)) s h u
      | _ => False
    | .lload_n k => match lg L x.1 with
      | .inr (.inl a) => run M Q K r (pc + n) L (vL a :: st) h u
      | _ => False
    | .lstore_n k => match st with
      | .inr (.inl a) :: s => run M Q K r (pc + n) (st2 L x.1 (vL a)) s h u
      | _ => False
    | .lload k => match lg L x.1 with
      | .inr (.inl a) => run M Q K r (pc + n) L (vL a :: st) h u
      | _ => False
    | .lstore k => match st with
      | .inr (.inl a) :: s => run M Q K r (pc + n) (st2 L x.1 (vL a)) s h u
      | _ => False
    | .dload_n k => match lg L x.1 with
      | .inr (.inr (.inl a)) => run M Q K r (pc + n) L (vD a :: st) h u
      | _ => False
    | .dstore_n k => match st with
      | .inr (.inr (.inl a)) :: s => run M Q K r (pc + n) (st2 L x.1 (vD a)) s h u
      | _ => False
    | .dload k => match lg L x.1 with
      | .inr (.inr (.inl a)) => run M Q K r (pc + n) L (vD a :: st) h u
      | _ => False
    | .dstore k => match st with
      | .inr (.inr (.inl a)) :: s => run M Q K r (pc + n) (st2 L x.1 (vD a)) s h u
      | _ => False
    | .aload_n k => match lg L x.1 with
      | .inr (.inr (.inr (.inl a))) => run M Q K r (pc + n) L (vR a :: st) h u
      | _ => False
    | .astore_n k => match st with
      | .inr (.inr (.inr (.inl a))) :: s => run M Q K r (pc + n) (st1 L x.1 (vR a)) s h u
      | _ => False
    | .aload k => match lg L x.1 with
      | .inr (.inr (.inr (.inl a))) => run M Q K r (pc + n) L (vR a :: st) h u
      | _ => False
    | .astore k => match st with
      | .inr (.inr (.inr (.inl a))) :: s => run M Q K r (pc + n) (st1 L x.1 (vR a)) s h u
      | _ => False
    | .iinc k j => match lg L x.1 with
      | .inl a => (match v with
        | .inl w => run M Q K r (pc + n) (st1 L x.1 (vI (a + w))) st h u
        | _ => False)
      | _ => False
    | .iadd => match st with
      | .inl b :: .inl a :: s => run M Q K r (pc + n) L (vI (a + b) :: s) h u
      | _ => False
    | .isub => match st with
      | .inl b :: .inl a :: s => run M Q K r (pc + n) L (vI (a - b) :: s) h u
      | _ => False
    | .imul => match st with
      | .inl b :: .inl a :: s => run M Q K r (pc + n) L (vI (a * b) :: s) h u
      | _ => False
    | .iand => match st with
      | .inl b :: .inl a :: s => run M Q K r (pc + n) L (vI (a &&& b) :: s) h u
      | _ => False
    | .ior => match st with
      | .inl b :: .inl a :: s => run M Q K r (pc + n) L (vI (a ||| b) :: s) h u
      | _ => False
    | .ixor => match st with
      | .inl b :: .inl a :: s => run M Q K r (pc + n) L (vI (a ^^^ b) :: s) h u
      | _ => False
    | .ishl => match st with
      | .inl b :: .inl a :: s => run M Q K r (pc + n) L (vI (a <<< (b &&& 31)) :: s) h u
      | _ => False
    | .ishr => match st with
      | .inl b :: .inl a :: s => run M Q K r (pc + n) L (vI (a >>> (b &&& 31)) :: s) h u
      | _ => False
    | .iushr => match st with
      | .inl b :: .inl a :: s => run M Q K r (pc + n) L (vI ((a.toUInt32 >>> (b.toUInt32 &&& Int32.toUInt32 31)).toInt32) :: s) h u
      | _ => False
    | .idiv => match st with
      | .inl b :: .inl a :: s => b ≠ 0 ∧ run M Q K r (pc + n) L (vI (a / b) :: s) h u
      | _ => False
    | .irem => match st with
      | .inl b :: .inl a :: s => b ≠ 0 ∧ run M Q K r (pc + n) L (vI (a - a / b * b) :: s) h u
      | _ => False
    | .ladd => match st with
      | .inr (.inl b) :: .inr (.inl a) :: s => run M Q K r (pc + n) L (vL (a + b) :: s) h u
      | _ => False
    | .lsub => match st with
      | .inr (.inl b) :: .inr (.inl a) :: s => run M Q K r (pc + n) L (vL (a - b) :: s) h u
      | _ => False
    | .lmul => match st with
      | .inr (.inl b) :: .inr (.inl a) :: s => run M Q K r (pc + n) L (vL (a * b) :: s) h u
      | _ => False
    | .lor => match st with
      | .inr (.inl b) :: .inr (.inl a) :: s => run M Q K r (pc + n) L (vL (a ||| b) :: s) h u
      | _ => False
    | .land => match st with
      | .inr (.inl b) :: .inr (.inl a) :: s => run M Q K r (pc + n) L (vL (a &&& b) :: s) h u
      | _ => False
    | .lxor => match st with
      | .inr (.inl b) :: .inr (.inl a) :: s => run M Q K r (pc + n) L (vL (a ^^^ b) :: s) h u
      | _ => False
    | .ldiv => match st with
      | .inr (.inl b) :: .inr (.inl a) :: s => b ≠ 0 ∧ run M Q K r (pc + n) L (vL (a / b) :: s) h u
      | _ => False
    | .lrem => match st with
      | .inr (.inl b) :: .inr (.inl a) :: s => b ≠ 0 ∧ run M Q K r (pc + n) L (vL (a - a / b * b) :: s) h u
      | _ => False
    | .lushr => match st with
      | .inl b :: .inr (.inl a) :: s => run M Q K r (pc + n) L (vL ((a.toUInt64 >>> (b.toInt64.toUInt64 &&& Int64.toUInt64 63)).toInt64) :: s) h u
      | _ => False
    | .lshl => match st with
      | .inl b :: .inr (.inl a) :: s => run M Q K r (pc + n) L (vL (a <<< (b.toInt64 &&& 63)) :: s) h u
      | _ => False
    | .lcmp => match st with
      | .inr (.inl b) :: .inr (.inl a) :: s => run M Q K r (pc + n) L (vI (lg_cmp a b) :: s) h u
      | _ => False
    | .dcmp k => match st with
      | .inr (.inr (.inl b)) :: .inr (.inr (.inl a)) :: s => run M Q K r (pc + n) L (vI (Op.cmpValue (FP.dcmp a b) k) :: s) h u
      | _ => False
    | .ddiv => match st with
      | .inr (.inr (.inl b)) :: .inr (.inr (.inl a)) :: s => vf_n64 (FP.ddiv a b) ∧ run M Q K r (pc + n) L (vD (FP.ddiv a b) :: s) h u
      | _ => False
    | .i2l => match st with
      | .inl a :: s => run M Q K r (pc + n) L (vL a.toInt64 :: s) h u
      | _ => False
    | .l2i => match st with
      | .inr (.inl a) :: s => run M Q K r (pc + n) L (vI a.toInt32 :: s) h u
      | _ => False
    | .i2d => match st with
      | .inl a :: s => run M Q K r (pc + n) L (vD (FP.i2d a) :: s) h u
      | _ => False
    | .dup => match st with
      | a :: s => cat1 a = true ∧ run M Q K r (pc + n) L (a :: a :: s) h u
      | _ => False
    | .pop => match st with
      | a :: s => cat1 a = true ∧ run M Q K r (pc + n) L (s) h u
      | _ => False
    | .dup_x1 => match st with
      | a :: b :: s => cat1 a = true ∧ cat1 b = true ∧ run M Q K r (pc + n) L (a :: b :: a :: s) h u
      | _ => False
    | .dup_x2 => match st with
      | a :: b :: e :: s => cat1 a = true ∧ cat1 b = true ∧ cat1 e = true ∧ run M Q K r (pc + n) L (a :: b :: e :: a :: s) h u
      | _ => False
    | .dup2 => match st with
      | a :: b :: s => cat1 a = true ∧ cat1 b = true ∧ run M Q K r (pc + n) L (a :: b :: a :: b :: s) h u
      | _ => False
    | .ifCond .eq off => match st with
      | .inl a :: s => (a = 0 → K x.1 L s h u) ∧ (¬ a = 0 → run M Q K r (pc + n) L s h u)
      | _ => False
    | .if_icmp .eq off => match st with
      | .inl b :: .inl a :: s => (a = b → K x.1 L s h u) ∧ (¬ a = b → run M Q K r (pc + n) L s h u)
      | _ => False
    | .ifCond .ne off => match st with
      | .inl a :: s => (¬ a = 0 → K x.1 L s h u) ∧ (a = 0 → run M Q K r (pc + n) L s h u)
      | _ => False
    | .if_icmp .ne off => match st with
      | .inl b :: .inl a :: s => (¬ a = b → K x.1 L s h u) ∧ (a = b → run M Q K r (pc + n) L s h u)
      | _ => False
    | .ifCond .lt off => match st with
      | .inl a :: s => (a < 0 → K x.1 L s h u) ∧ (¬ a < 0 → run M Q K r (pc + n) L s h u)
      | _ => False
    | .if_icmp .lt off => match st with
      | .inl b :: .inl a :: s => (a < b → K x.1 L s h u) ∧ (¬ a < b → run M Q K r (pc + n) L s h u)
      | _ => False
    | .ifCond .ge off => match st with
      | .inl a :: s => (0 ≤ a → K x.1 L s h u) ∧ (¬ 0 ≤ a → run M Q K r (pc + n) L s h u)
      | _ => False
    | .if_icmp .ge off => match st with
      | .inl b :: .inl a :: s => (b ≤ a → K x.1 L s h u) ∧ (¬ b ≤ a → run M Q K r (pc + n) L s h u)
      | _ => False
    | .ifCond .gt off => match st with
      | .inl a :: s => (0 < a → K x.1 L s h u) ∧ (¬ 0 < a → run M Q K r (pc + n) L s h u)
      | _ => False
    | .if_icmp .gt off => match st with
      | .inl b :: .inl a :: s => (b < a → K x.1 L s h u) ∧ (¬ b < a → run M Q K r (pc + n) L s h u)
      | _ => False
    | .ifCond .le off => match st with
      | .inl a :: s => (a ≤ 0 → K x.1 L s h u) ∧ (¬ a ≤ 0 → run M Q K r (pc + n) L s h u)
      | _ => False
    | .if_icmp .le off => match st with
      | .inl b :: .inl a :: s => (a ≤ b → K x.1 L s h u) ∧ (¬ a ≤ b → run M Q K r (pc + n) L s h u)
      | _ => False
    | .goto off => run M Q K r x.1 L st h u
    | .getfield k => match st with
      | .inr (.inr (.inr (.inl a))) :: s => zK h a = (1, x.1) ∧ run M Q K r (pc + n) L (fvv h x.2.2 a x.2.1 :: s) h u
      | _ => False
    | .putfield k => match st with
      | w :: .inr (.inr (.inr (.inl a))) :: s => zK h a = (1, x.1) ∧ kind3 w = x.2.2 ∧ run M Q K r (pc + n) L s (sfv h a x.2.1 w) u
      | _ => False
    | .iaload => match st with
      | .inl i :: .inr (.inr (.inr (.inl a))) :: s => (zK h a).1 = 2 ∧ vp_in i (zK h a).2 ∧ run M Q K r (pc + n) L (vI (zI h a i.toNatClampNeg) :: s) h u
      | _ => False
    | .laload => match st with
      | .inl i :: .inr (.inr (.inr (.inl a))) :: s => (zK h a).1 = 3 ∧ vp_in i (zK h a).2 ∧ run M Q K r (pc + n) L (vL (zL h a i.toNatClampNeg) :: s) h u
      | _ => False
    | .baload => match st with
      | .inl i :: .inr (.inr (.inr (.inl a))) :: s => (zK h a).1 = 4 ∧ vp_in i (zK h a).2 ∧ run M Q K r (pc + n) L (vI (zI h a i.toNatClampNeg) :: s) h u
      | _ => False
    | .daload => match st with
      | .inl i :: .inr (.inr (.inr (.inl a))) :: s => (zK h a).1 = 5 ∧ vp_in i (zK h a).2 ∧ run M Q K r (pc + n) L (vD (zD h a i.toNatClampNeg) :: s) h u
      | _ => False
    | .aaload => match st with
      | .inl i :: .inr (.inr (.inr (.inl a))) :: s => ((zK h a).1 = 6 ∨ (zK h a).1 = 7 ∨ (zK h a).1 = 8) ∧ vp_in i (zK h a).2 ∧ run M Q K r (pc + n) L (vR (zR h a i.toNatClampNeg) :: s) h u
      | _ => False
    | .iastore => match st with
      | .inl w :: .inl i :: .inr (.inr (.inr (.inl a))) :: s0 => (zK h a).1 = 2 ∧ vp_in i (zK h a).2 ∧ run M Q K r (pc + n) L s0 (sI h a i.toNatClampNeg w) u
      | _ => False
    | .lastore => match st with
      | .inr (.inl w) :: .inl i :: .inr (.inr (.inr (.inl a))) :: s0 => (zK h a).1 = 3 ∧ vp_in i (zK h a).2 ∧ run M Q K r (pc + n) L s0 (sL h a i.toNatClampNeg w) u
      | _ => False
    | .bastore => match st with
      | .inl w :: .inl i :: .inr (.inr (.inr (.inl a))) :: s0 => (zK h a).1 = 4 ∧ vp_in i (zK h a).2 ∧ (w = 0 ∨ w = 1) ∧ run M Q K r (pc + n) L s0 (sI h a i.toNatClampNeg w) u
      | _ => False
    | .dastore => match st with
      | .inr (.inr (.inl w)) :: .inl i :: .inr (.inr (.inr (.inl a))) :: s0 => (zK h a).1 = 5 ∧ vp_in i (zK h a).2 ∧ run M Q K r (pc + n) L s0 (sD h a i.toNatClampNeg w) u
      | _ => False
    | .arraylength => match st with
      | .inr (.inr (.inr (.inl a))) :: s => (2 ≤ (zK h a).1 ∧ (zK h a).1 ≤ 8) ∧ run M Q K r (pc + n) L (vI (nI (zK h a).2) :: s) h u
      | _ => False
    | .newarray k => match st with
      | .inl i :: s => ¬ i < 0 ∧ i.toNatClampNeg ≤ 60000000 ∧ u.1 + 1 ≤ mC M ∧ u.2 + i.toNatClampNeg ≤ mS M ∧ run M Q K r (pc + n) L (vR (zN h) :: s) (nw h (x.1, i.toNatClampNeg)) (u.1 + 1, u.2 + i.toNatClampNeg)
      | _ => False
    | .new k => u.1 + 1 ≤ mC M ∧ u.2 + nfl x.1 ≤ mS M ∧ run M Q K r (pc + n) L (vR (zN h) :: st) (nw h (1, x.1)) (u.1 + 1, u.2 + nfl x.1)
    | .checkcast k => match st with
      | .inr (.inr (.inr (.inl a))) :: s => zK h a = (1, x.1) ∧ run M Q K r (pc + n) L (vR a :: s) h u
      | _ => False
    | .ireturn => match st with
      | [.inl a] => retI (mR M) a ∧ Q (.inl (some (vI a))) h
      | _ => False
    | .lreturn => match st with
      | [.inr (.inl a)] => mR M = some .long ∧ Q (.inl (some (vL a))) h
      | _ => False
    | .dreturn => match st with
      | [.inr (.inr (.inl a))] => mR M = some .double ∧ Q (.inl (some (vD a))) h
      | _ => False
    | .areturn => match st with
      | [.inr (.inr (.inr (.inl a)))] => retA (mR M) = true ∧ Q (.inl (some (vR a))) h
      | _ => False
    | .return_ => match st with
      | [] => mR M = none ∧ Q (.inl none) h
      | _ => False
    | _ => False
def okOp (M : MD) (i : Instr) (n : Nat) (x : Nat × Nat × Nat) (v : AV) (pc : Nat) : Bool := match i with
    | .iconst k => n == 1 && decide (v = vI (Int32.ofInt k))
    | .bipush k => n == 2 && decide (v = vI ((Int8.ofInt k).toInt32))
    | .sipush k => n == 3 && decide (v = vI ((Int16.ofInt k).toInt32))
    | .lconst k => n == 1 && decide (v = vL (Int64.ofNat (k : Nat)))
    | .dconst k => n == 1 && k == 0 && decide (v = vD FP.dconst0)
    | .aconst_null => n == 1
    | .ldc k => n == 2 && isIv v && inC (mF M).2.2.1 k v
    | .ldc_w k => n == 3 && isIv v && inC (mF M).2.2.1 k v
    | .ldc2_w k => n == 3 && isWv v && inC (mF M).2.2.1 k v
    | .iload_n k => n == 1 && x.1 == (k : Nat)
    | .istore_n k => n == 1 && x.1 == (k : Nat) && decide (x.1 < mX M)
    | .iload k => n == 2 && x.1 == (k : Nat)
    | .istore k => n == 2 && x.1 == (k : Nat) && decide (x.1 < mX M)
    | .lload_n k => n == 1 && x.1 == (k : Nat)
    | .lstore_n k => n == 1 && x.1 == (k : Nat) && decide (x.1 + 1 < mX M)
    | .lload k => n == 2 && x.1 == (k : Nat)
    | .lstore k => n == 2 && x.1 == (k : Nat) && decide (x.1 + 1 < mX M)
    | .dload_n k => n == 1 && x.1 == (k : Nat)
    | .dstore_n k => n == 1 && x.1 == (k : Nat) && decide (x.1 + 1 < mX M)
    | .dload k => n == 2 && x.1 == (k : Nat)
    | .dstore k => n == 2 && x.1 == (k : Nat) && decide (x.1 + 1 < mX M)
    | .aload_n k => n == 1 && x.1 == (k : Nat)
    | .astore_n k => n == 1 && x.1 == (k : Nat) && decide (x.1 < mX M)
    | .aload k => n == 2 && x.1 == (k : Nat)
    | .astore k => n == 2 && x.1 == (k : Nat) && decide (x.1 < mX M)
    | .iinc k j => n == 3 && x.1 == k && decide (v = vI (Int32.ofInt j))
    | .iadd => n == 1
    | .isub => n == 1
    | .imul => n == 1
    | .iand => n == 1
    | .ior => n == 1
    | .ixor => n == 1
    | .ishl => n == 1
    | .ishr => n == 1
    | .iushr => n == 1
    | .idiv => n == 1
    | .irem => n == 1
    | .ladd => n == 1
    | .lsub => n == 1
    | .lmul => n == 1
    | .lor => n == 1
    | .land => n == 1
    | .lxor => n == 1
    | .ldiv => n == 1
    | .lrem => n == 1
    | .lushr => n == 1
    | .lshl => n == 1
    | .lcmp => n == 1
    | .dcmp k => n == 1
    | .ddiv => n == 1
    | .i2l => n == 1
    | .l2i => n == 1
    | .i2d => n == 1
    | .dup => n == 1
    | .pop => n == 1
    | .dup_x1 => n == 1
    | .dup_x2 => n == 1
    | .dup2 => n == 1
    | .ifCond .eq off => n == 3 && decide ((pc : Int) + off = (x.1 : Int))
    | .if_icmp .eq off => n == 3 && decide ((pc : Int) + off = (x.1 : Int))
    | .ifCond .ne off => n == 3 && decide ((pc : Int) + off = (x.1 : Int))
    | .if_icmp .ne off => n == 3 && decide ((pc : Int) + off = (x.1 : Int))
    | .ifCond .lt off => n == 3 && decide ((pc : Int) + off = (x.1 : Int))
    | .if_icmp .lt off => n == 3 && decide ((pc : Int) + off = (x.1 : Int))
    | .ifCond .ge off => n == 3 && decide ((pc : Int) + off = (x.1 : Int))
    | .if_icmp .ge off => n == 3 && decide ((pc : Int) + off = (x.1 : Int))
    | .ifCond .gt off => n == 3 && decide ((pc : Int) + off = (x.1 : Int))
    | .if_icmp .gt off => n == 3 && decide ((pc : Int) + off = (x.1 : Int))
    | .ifCond .le off => n == 3 && decide ((pc : Int) + off = (x.1 : Int))
    | .if_icmp .le off => n == 3 && decide ((pc : Int) + off = (x.1 : Int))
    | .goto off => n == 3 && decide ((pc : Int) + off = (x.1 : Int))
    | .getfield k => n == 3 && (mF M).2.1.elem (k, x.1, x.2.1, x.2.2)
    | .putfield k => n == 3 && (mF M).2.1.elem (k, x.1, x.2.1, x.2.2) && fwb M x.1 x.2.1
    | .iaload => n == 1
    | .laload => n == 1
    | .baload => n == 1
    | .daload => n == 1
    | .aaload => n == 1
    | .iastore => n == 1
    | .lastore => n == 1
    | .bastore => n == 1
    | .dastore => n == 1
    | .arraylength => n == 1
    | .newarray k => n == 2 && decide (k = atk x.1) && (x.1 == 2 || x.1 == 3 || x.1 == 4 || x.1 == 5)
    | .new k => n == 3 && (mF M).2.2.2.1.elem (k, x.1)
    | .checkcast k => n == 3 && (mF M).2.2.2.2.elem (k, x.1)
    | .ireturn => n == 1
    | .lreturn => n == 1
    | .dreturn => n == 1
    | .areturn => n == 1
    | .return_ => n == 1
    | _ => false
def nxt (i : Instr) (n : Nat) (x : Nat × Nat × Nat) (pc : Nat) : Nat := match i with
  | .goto _ => x.1
  | _ => pc + n
def okAt (M : MD) : List OP → Nat → Bool
  | [], _ => true
  | (i, n, x, v) :: r, pc => decide (decode (mB M) pc = .ok (i, n)) && okOp M i n x v pc && okAt M r (nxt i n x pc)
theorem run_ok {g : Gp} {M : MD} {Q : PQ} {K : Nat → List AV → List AV → AH → Nat × Nat → Prop} (cf : CFok (mF M)) (hK : ∀ pc L st h u, K pc L st h u → Ex g M pc L st h u Q) : ∀ (ops : List OP) (pc : Nat) (L st : List AV) (h : AH) (u : Nat × Nat), okAt M ops pc = true → run M Q K ops pc L st h u → Ex g M pc L st h u Q := by
  intro ops
  induction ops with
  | nil => intro pc L st h u _ hr; exact hK _ _ _ _ _ hr
  | cons op r ih0 =>
  intro pc L st h u ho hr
  obtain ⟨i, n, x, v⟩ := op
  simp only [okAt, Bool.and_eq_true, decide_eq_true_eq] at ho
  obtain ⟨⟨d, o⟩, oo⟩ := ho
  match i, d, o, oo, hr with
  | .iconst k, d, o, oo, hr =>
    simp only [okOp, Bool.and_eq_true, beq_iff_eq, decide_eq_true_eq] at o; obtain ⟨rfl, rfl⟩ := o; exact x_iconst rfl d (ih0 _ _ _ _ _ oo hr)
  | .bipush k, d, o, oo, hr =>
    simp only [okOp, Bool.and_eq_true, beq_iff_eq, decide_eq_true_eq] at o; obtain ⟨rfl, rfl⟩ := o; exact x_bipush rfl d (ih0 _ _ _ _ _ oo hr)
  | .sipush k, d, o, oo, hr =>
    simp only [okOp, Bool.and_eq_true, beq_iff_eq, decide_eq_true_eq] at o; obtain ⟨rfl, rfl⟩ := o; exact x_sipush rfl d (ih0 _ _ _ _ _ oo hr)
  | .lconst k, d, o, oo, hr =>
    simp only [okOp, Bool.and_eq_true, beq_iff_eq, decide_eq_true_eq] at o; obtain ⟨rfl, rfl⟩ := o; exact x_lconst rfl d (ih0 _ _ _ _ _ oo hr)
  | .dconst k, d, o, oo, hr =>
    simp only [okOp, Bool.and_eq_true, beq_iff_eq, decide_eq_true_eq] at o; obtain ⟨⟨rfl, rfl⟩, rfl⟩ := o; exact x_dconst0 d (ih0 _ _ _ _ _ oo hr)
  | .aconst_null, d, o, oo, hr =>
    simp only [okOp, beq_iff_eq] at o; subst o; exact x_null d (ih0 _ _ _ _ _ oo hr)
  | .ldc k, d, o, oo, hr =>
    simp only [okOp, Bool.and_eq_true, beq_iff_eq, List.elem_eq_mem, decide_eq_true_eq] at o
    obtain ⟨⟨rfl, o2⟩, o3⟩ := o
    have hc := cf.2.1 _ (inC_mem o3)
    rcases v with y | y | y | y | y
    · exact x_ldc hc d (ih0 _ _ _ _ _ oo hr)
    · simp [isIv] at o2
    · simp [isIv] at o2
    · simp [isIv] at o2
    · simp [isIv] at o2
  | .ldc_w k, d, o, oo, hr =>
    simp only [okOp, Bool.and_eq_true, beq_iff_eq, List.elem_eq_mem, decide_eq_true_eq] at o
    obtain ⟨⟨rfl, o2⟩, o3⟩ := o
    have hc := cf.2.1 _ (inC_mem o3)
    rcases v with y | y | y | y | y
    · exact x_ldcw hc d (ih0 _ _ _ _ _ oo hr)
    · simp [isIv] at o2
    · simp [isIv] at o2
    · simp [isIv] at o2
    · simp [isIv] at o2
  | .ldc2_w k, d, o, oo, hr =>
    simp only [okOp, Bool.and_eq_true, beq_iff_eq, List.elem_eq_mem, decide_eq_true_eq] at o
    obtain ⟨⟨rfl, o2⟩, o3⟩ := o
    have hc := cf.2.1 _ (inC_mem o3)
    rcases v with y | y | y | y | y
    · simp [isWv] at o2
    · exact x_ldc2 hc d (ih0 _ _ _ _ _ oo hr)
    · exact x_ldc2d hc d (ih0 _ _ _ _ _ oo hr)
    · simp [isWv] at o2
    · simp [isWv] at o2
  | .iload_n k, d, o, oo, hr =>
    simp only [okOp, Bool.and_eq_true, beq_iff_eq, decide_eq_true_eq] at o
    obtain ⟨rfl, o2⟩ := o
    simp only [run] at hr
    split at hr
    · rename_i hv; exact x_iload_n o2.symm hv d (ih0 _ _ _ _ _ oo hr)
    · exact absurd hr id
  | .istore_n k, d, o, oo, hr =>
    simp only [okOp, Bool.and_eq_true, beq_iff_eq, decide_eq_true_eq] at o
    obtain ⟨⟨rfl, o2⟩, o3⟩ := o
    simp only [run] at hr
    split at hr
    · exact Ex.len (fun hl => x_istore_n o2.symm (by rw [hl]; exact o3) d (by exact ih0 _ _ _ _ _ oo hr))
    · exact absurd hr id
  | .iload k, d, o, oo, hr =>
    simp only [okOp, Bool.and_eq_true, beq_iff_eq, decide_eq_true_eq] at o
    obtain ⟨rfl, o2⟩ := o
    simp only [run] at hr
    split at hr
    · rename_i hv; exact x_iload (by rw [← o2]; exact hv) d (ih0 _ _ _ _ _ oo hr)
    · exact absurd hr id
  | .istore k, d, o, oo, hr =>
    simp only [okOp, Bool.and_eq_true, beq_iff_eq, decide_eq_true_eq] at o
    obtain ⟨⟨rfl, o2⟩, o3⟩ := o
    simp only [run] at hr
    split at hr
    · exact Ex.len (fun hl => x_istore (by rw [← o2, hl]; exact o3) d (by rw [← o2]; exact ih0 _ _ _ _ _ oo hr))
    · exact absurd hr id
  | .lload_n k, d, o, oo, hr =>
    simp only [okOp, Bool.and_eq_true, beq_iff_eq, decide_eq_true_eq] at o
    obtain ⟨rfl, o2⟩ := o
    simp only [run] at hr
    split at hr
    · rename_i hv; exact x_lload_n o2.symm hv d (ih0 _ _ _ _ _ oo hr)
    · exact absurd hr id
  | .lstore_n k, d, o, oo, hr =>
    simp only [okOp, Bool.and_eq_true, beq_iff_eq, decide_eq_true_eq] at o
    obtain ⟨⟨rfl, o2⟩, o3⟩ := o
    simp only [run] at hr
    split at hr
    · exact Ex.len (fun hl => x_lstore_n o2.symm (by rw [hl]; exact o3) d (by exact ih0 _ _ _ _ _ oo hr))
    · exact absurd hr id
  | .lload k, d, o, oo, hr =>
    simp only [okOp, Bool.and_eq_true, beq_iff_eq, decide_eq_true_eq] at o
    obtain ⟨rfl, o2⟩ := o
    simp only [run] at hr
    split at hr
    · rename_i hv; exact x_lload (by rw [← o2]; exact hv) d (ih0 _ _ _ _ _ oo hr)
    · exact absurd hr id
  | .lstore k, d, o, oo, hr =>
    simp only [okOp, Bool.and_eq_true, beq_iff_eq, decide_eq_true_eq] at o
    obtain ⟨⟨rfl, o2⟩, o3⟩ := o
    simp only [run] at hr
    split at hr
    · exact Ex.len (fun hl => x_lstore (by rw [← o2, hl]; exact o3) d (by rw [← o2]; exact ih0 _ _ _ _ _ oo hr))
    · exact absurd hr id
  | .dload_n k, d, o, oo, hr =>
    simp only [okOp, Bool.and_eq_true, beq_iff_eq, decide_eq_true_eq] at o
    obtain ⟨rfl, o2⟩ := o
    simp only [run] at hr
    split at hr
    · rename_i hv; exact x_dload_n o2.symm hv d (ih0 _ _ _ _ _ oo hr)
    · exact absurd hr id
  | .dstore_n k, d, o, oo, hr =>
    simp only [okOp, Bool.and_eq_true, beq_iff_eq, decide_eq_true_eq] at o
    obtain ⟨⟨rfl, o2⟩, o3⟩ := o
    simp only [run] at hr
    split at hr
    · exact Ex.len (fun hl => x_dstore_n o2.symm (by rw [hl]; exact o3) d (by exact ih0 _ _ _ _ _ oo hr))
    · exact absurd hr id
  | .dload k, d, o, oo, hr =>
    simp only [okOp, Bool.and_eq_true, beq_iff_eq, decide_eq_true_eq] at o
    obtain ⟨rfl, o2⟩ := o
    simp only [run] at hr
    split at hr
    · rename_i hv; exact x_dload (by rw [← o2]; exact hv) d (ih0 _ _ _ _ _ oo hr)
    · exact absurd hr id
  | .dstore k, d, o, oo, hr =>
    simp only [okOp, Bool.and_eq_true, beq_iff_eq, decide_eq_true_eq] at o
    obtain ⟨⟨rfl, o2⟩, o3⟩ := o
    simp only [run] at hr
    split at hr
    · exact Ex.len (fun hl => x_dstore (by rw [← o2, hl]; exact o3) d (by rw [← o2]; exact ih0 _ _ _ _ _ oo hr))
    · exact absurd hr id
  | .aload_n k, d, o, oo, hr =>
    simp only [okOp, Bool.and_eq_true, beq_iff_eq, decide_eq_true_eq] at o
    obtain ⟨rfl, o2⟩ := o
    simp only [run] at hr
    split at hr
    · rename_i hv; exact x_aload_n o2.symm hv d (ih0 _ _ _ _ _ oo hr)
    · exact absurd hr id
  | .astore_n k, d, o, oo, hr =>
    simp only [okOp, Bool.and_eq_true, beq_iff_eq, decide_eq_true_eq] at o
    obtain ⟨⟨rfl, o2⟩, o3⟩ := o
    simp only [run] at hr
    split at hr
    · exact Ex.len (fun hl => x_astore_n o2.symm (by rw [hl]; exact o3) d (by exact ih0 _ _ _ _ _ oo hr))
    · exact absurd hr id
  | .aload k, d, o, oo, hr =>
    simp only [okOp, Bool.and_eq_true, beq_iff_eq, decide_eq_true_eq] at o
    obtain ⟨rfl, o2⟩ := o
    simp only [run] at hr
    split at hr
    · rename_i hv; exact x_aload (by rw [← o2]; exact hv) d (ih0 _ _ _ _ _ oo hr)
    · exact absurd hr id
  | .astore k, d, o, oo, hr =>
    simp only [okOp, Bool.and_eq_true, beq_iff_eq, decide_eq_true_eq] at o
    obtain ⟨⟨rfl, o2⟩, o3⟩ := o
    simp only [run] at hr
    split at hr
    · exact Ex.len (fun hl => x_astore (by rw [← o2, hl]; exact o3) d (by rw [← o2]; exact ih0 _ _ _ _ _ oo hr))
    · exact absurd hr id
  | .iinc k j, d, o, oo, hr =>
    simp only [okOp, Bool.and_eq_true, beq_iff_eq, decide_eq_true_eq] at o
    obtain ⟨⟨rfl, rfl⟩, rfl⟩ := o
    simp only [run] at hr
    split at hr
    · rename_i hv; exact x_iinc hv rfl d (ih0 _ _ _ _ _ oo hr)
    · exact absurd hr id
  | .iadd, d, o, oo, hr =>
    simp only [okOp, beq_iff_eq] at o
    subst o
    simp only [run] at hr
    split at hr
    · exact x_iadd d (ih0 _ _ _ _ _ oo hr)
    · exact absurd hr id
  | .isub, d, o, oo, hr =>
    simp only [okOp, beq_iff_eq] at o
    subst o
    simp only [run] at hr
    split at hr
    · exact x_isub d (ih0 _ _ _ _ _ oo hr)
    · exact absurd hr id
  | .imul, d, o, oo, hr =>
    simp only [okOp, beq_iff_eq] at o
    subst o
    simp only [run] at hr
    split at hr
    · exact x_imul d (ih0 _ _ _ _ _ oo hr)
    · exact absurd hr id
  | .iand, d, o, oo, hr =>
    simp only [okOp, beq_iff_eq] at o
    subst o
    simp only [run] at hr
    split at hr
    · exact x_iand d (ih0 _ _ _ _ _ oo hr)
    · exact absurd hr id
  | .ior, d, o, oo, hr =>
    simp only [okOp, beq_iff_eq] at o
    subst o
    simp only [run] at hr
    split at hr
    · exact x_ior d (ih0 _ _ _ _ _ oo hr)
    · exact absurd hr id
  | .ixor, d, o, oo, hr =>
    simp only [okOp, beq_iff_eq] at o
    subst o
    simp only [run] at hr
    split at hr
    · exact x_ixor d (ih0 _ _ _ _ _ oo hr)
    · exact absurd hr id
  | .ishl, d, o, oo, hr =>
    simp only [okOp, beq_iff_eq] at o
    subst o
    simp only [run] at hr
    split at hr
    · exact x_ishl d (ih0 _ _ _ _ _ oo hr)
    · exact absurd hr id
  | .ishr, d, o, oo, hr =>
    simp only [okOp, beq_iff_eq] at o
    subst o
    simp only [run] at hr
    split at hr
    · exact x_ishr d (ih0 _ _ _ _ _ oo hr)
    · exact absurd hr id
  | .iushr, d, o, oo, hr =>
    simp only [okOp, beq_iff_eq] at o
    subst o
    simp only [run] at hr
    split at hr
    · exact x_iushr d (ih0 _ _ _ _ _ oo hr)
    · exact absurd hr id
  | .idiv, d, o, oo, hr =>
    simp only [okOp, beq_iff_eq] at o
    subst o
    simp only [run] at hr
    split at hr
    · exact x_idiv hr.1 d (ih0 _ _ _ _ _ oo hr.2)
    · exact absurd hr id
  | .irem, d, o, oo, hr =>
    simp only [okOp, beq_iff_eq] at o
    subst o
    simp only [run] at hr
    split at hr
    · exact x_irem hr.1 d (ih0 _ _ _ _ _ oo hr.2)
    · exact absurd hr id
  | .ladd, d, o, oo, hr =>
    simp only [okOp, beq_iff_eq] at o
    subst o
    simp only [run] at hr
    split at hr
    · exact x_ladd d (ih0 _ _ _ _ _ oo hr)
    · exact absurd hr id
  | .lsub, d, o, oo, hr =>
    simp only [okOp, beq_iff_eq] at o
    subst o
    simp only [run] at hr
    split at hr
    · exact x_lsub d (ih0 _ _ _ _ _ oo hr)
    · exact absurd hr id
  | .lmul, d, o, oo, hr =>
    simp only [okOp, beq_iff_eq] at o
    subst o
    simp only [run] at hr
    split at hr
    · exact x_lmul d (ih0 _ _ _ _ _ oo hr)
    · exact absurd hr id
  | .lor, d, o, oo, hr =>
    simp only [okOp, beq_iff_eq] at o
    subst o
    simp only [run] at hr
    split at hr
    · exact x_lor d (ih0 _ _ _ _ _ oo hr)
    · exact absurd hr id
  | .land, d, o, oo, hr =>
    simp only [okOp, beq_iff_eq] at o
    subst o
    simp only [run] at hr
    split at hr
    · exact x_land d (ih0 _ _ _ _ _ oo hr)
    · exact absurd hr id
  | .lxor, d, o, oo, hr =>
    simp only [okOp, beq_iff_eq] at o
    subst o
    simp only [run] at hr
    split at hr
    · exact x_lxor d (ih0 _ _ _ _ _ oo hr)
    · exact absurd hr id
  | .ldiv, d, o, oo, hr =>
    simp only [okOp, beq_iff_eq] at o
    subst o
    simp only [run] at hr
    split at hr
    · exact x_ldiv hr.1 d (ih0 _ _ _ _ _ oo hr.2)
    · exact absurd hr id
  | .lrem, d, o, oo, hr =>
    simp only [okOp, beq_iff_eq] at o
    subst o
    simp only [run] at hr
    split at hr
    · exact x_lrem hr.1 d (ih0 _ _ _ _ _ oo hr.2)
    · exact absurd hr id
  | .lushr, d, o, oo, hr =>
    simp only [okOp, beq_iff_eq] at o
    subst o
    simp only [run] at hr
    split at hr
    · exact x_lushr d (ih0 _ _ _ _ _ oo hr)
    · exact absurd hr id
  | .lshl, d, o, oo, hr =>
    simp only [okOp, beq_iff_eq] at o
    subst o
    simp only [run] at hr
    split at hr
    · exact x_lshl d (ih0 _ _ _ _ _ oo hr)
    · exact absurd hr id
  | .lcmp, d, o, oo, hr =>
    simp only [okOp, beq_iff_eq] at o
    subst o
    simp only [run] at hr
    split at hr
    · exact x_lcmp d (ih0 _ _ _ _ _ oo hr)
    · exact absurd hr id
  | .dcmp k, d, o, oo, hr =>
    simp only [okOp, beq_iff_eq] at o
    subst o
    simp only [run] at hr
    split at hr
    · exact x_dcmp d (ih0 _ _ _ _ _ oo hr)
    · exact absurd hr id
  | .ddiv, d, o, oo, hr =>
    simp only [okOp, beq_iff_eq] at o
    subst o
    simp only [run] at hr
    split at hr
    · exact x_ddiv hr.1 d (ih0 _ _ _ _ _ oo hr.2)
    · exact absurd hr id
  | .i2l, d, o, oo, hr =>
    simp only [okOp, beq_iff_eq] at o
    subst o
    simp only [run] at hr
    split at hr
    · exact x_i2l d (ih0 _ _ _ _ _ oo hr)
    · exact absurd hr id
  | .l2i, d, o, oo, hr =>
    simp only [okOp, beq_iff_eq] at o
    subst o
    simp only [run] at hr
    split at hr
    · exact x_l2i d (ih0 _ _ _ _ _ oo hr)
    · exact absurd hr id
  | .i2d, d, o, oo, hr =>
    simp only [okOp, beq_iff_eq] at o
    subst o
    simp only [run] at hr
    split at hr
    · exact x_i2d d (ih0 _ _ _ _ _ oo hr)
    · exact absurd hr id
  | .dup, d, o, oo, hr =>
    simp only [okOp, beq_iff_eq] at o
    subst o
    simp only [run] at hr
    split at hr
    · exact x_dup (cat1_ok hr.1) d (ih0 _ _ _ _ _ oo hr.2)
    · exact absurd hr id
  | .pop, d, o, oo, hr =>
    simp only [okOp, beq_iff_eq] at o
    subst o
    simp only [run] at hr
    split at hr
    · exact x_pop (cat1_ok hr.1) d (ih0 _ _ _ _ _ oo hr.2)
    · exact absurd hr id
  | .dup_x1, d, o, oo, hr =>
    simp only [okOp, beq_iff_eq] at o
    subst o
    simp only [run] at hr
    split at hr
    · exact x_dup_x1 (cat1_ok hr.1) (cat1_ok hr.2.1) d (ih0 _ _ _ _ _ oo hr.2.2)
    · exact absurd hr id
  | .dup_x2, d, o, oo, hr =>
    simp only [okOp, beq_iff_eq] at o
    subst o
    simp only [run] at hr
    split at hr
    · exact x_dup_x2 (cat1_ok hr.1) (cat1_ok hr.2.1) (cat1_ok hr.2.2.1) d (ih0 _ _ _ _ _ oo hr.2.2.2)
    · exact absurd hr id
  | .dup2, d, o, oo, hr =>
    simp only [okOp, beq_iff_eq] at o
    subst o
    simp only [run] at hr
    split at hr
    · exact x_dup2 (cat1_ok hr.1) (cat1_ok hr.2.1) d (ih0 _ _ _ _ _ oo hr.2.2)
    · exact absurd hr id
  | .ifCond .eq off, d, o, oo, hr =>
    simp only [okOp, Bool.and_eq_true, beq_iff_eq, decide_eq_true_eq] at o
    obtain ⟨rfl, o2⟩ := o
    simp only [run] at hr
    split at hr
    · exact x_if_eq o2 d (fun hc => hK _ _ _ _ _ (hr.1 hc)) (fun hc => ih0 _ _ _ _ _ oo (hr.2 hc))
    · exact absurd hr id
  | .if_icmp .eq off, d, o, oo, hr =>
    simp only [okOp, Bool.and_eq_true, beq_iff_eq, decide_eq_true_eq] at o
    obtain ⟨rfl, o2⟩ := o
    simp only [run] at hr
    split at hr
    · exact x_icmp_eq o2 d (fun hc => hK _ _ _ _ _ (hr.1 hc)) (fun hc => ih0 _ _ _ _ _ oo (hr.2 hc))
    · exact absurd hr id
  | .ifCond .ne off, d, o, oo, hr =>
    simp only [okOp, Bool.and_eq_true, beq_iff_eq, decide_eq_true_eq] at o
    obtain ⟨rfl, o2⟩ := o
    simp only [run] at hr
    split at hr
    · exact x_if_ne o2 d (fun hc => hK _ _ _ _ _ (hr.1 hc)) (fun hc => ih0 _ _ _ _ _ oo (hr.2 hc))
    · exact absurd hr id
  | .if_icmp .ne off, d, o, oo, hr =>
    simp only [okOp, Bool.and_eq_true, beq_iff_eq, decide_eq_true_eq] at o
    obtain ⟨rfl, o2⟩ := o
    simp only [run] at hr
    split at hr
    · exact x_icmp_ne o2 d (fun hc => hK _ _ _ _ _ (hr.1 hc)) (fun hc => ih0 _ _ _ _ _ oo (hr.2 hc))
    · exact absurd hr id
  | .ifCond .lt off, d, o, oo, hr =>
    simp only [okOp, Bool.and_eq_true, beq_iff_eq, decide_eq_true_eq] at o
    obtain ⟨rfl, o2⟩ := o
    simp only [run] at hr
    split at hr
    · exact x_if_lt o2 d (fun hc => hK _ _ _ _ _ (hr.1 hc)) (fun hc => ih0 _ _ _ _ _ oo (hr.2 hc))
    · exact absurd hr id
  | .if_icmp .lt off, d, o, oo, hr =>
    simp only [okOp, Bool.and_eq_true, beq_iff_eq, decide_eq_true_eq] at o
    obtain ⟨rfl, o2⟩ := o
    simp only [run] at hr
    split at hr
    · exact x_icmp_lt o2 d (fun hc => hK _ _ _ _ _ (hr.1 hc)) (fun hc => ih0 _ _ _ _ _ oo (hr.2 hc))
    · exact absurd hr id
  | .ifCond .ge off, d, o, oo, hr =>
    simp only [okOp, Bool.and_eq_true, beq_iff_eq, decide_eq_true_eq] at o
    obtain ⟨rfl, o2⟩ := o
    simp only [run] at hr
    split at hr
    · exact x_if_ge o2 d (fun hc => hK _ _ _ _ _ (hr.1 hc)) (fun hc => ih0 _ _ _ _ _ oo (hr.2 hc))
    · exact absurd hr id
  | .if_icmp .ge off, d, o, oo, hr =>
    simp only [okOp, Bool.and_eq_true, beq_iff_eq, decide_eq_true_eq] at o
    obtain ⟨rfl, o2⟩ := o
    simp only [run] at hr
    split at hr
    · exact x_icmp_ge o2 d (fun hc => hK _ _ _ _ _ (hr.1 hc)) (fun hc => ih0 _ _ _ _ _ oo (hr.2 hc))
    · exact absurd hr id
  | .ifCond .gt off, d, o, oo, hr =>
    simp only [okOp, Bool.and_eq_true, beq_iff_eq, decide_eq_true_eq] at o
    obtain ⟨rfl, o2⟩ := o
    simp only [run] at hr
    split at hr
    · exact x_if_gt o2 d (fun hc => hK _ _ _ _ _ (hr.1 hc)) (fun hc => ih0 _ _ _ _ _ oo (hr.2 hc))
    · exact absurd hr id
  | .if_icmp .gt off, d, o, oo, hr =>
    simp only [okOp, Bool.and_eq_true, beq_iff_eq, decide_eq_true_eq] at o
    obtain ⟨rfl, o2⟩ := o
    simp only [run] at hr
    split at hr
    · exact x_icmp_gt o2 d (fun hc => hK _ _ _ _ _ (hr.1 hc)) (fun hc => ih0 _ _ _ _ _ oo (hr.2 hc))
    · exact absurd hr id
  | .ifCond .le off, d, o, oo, hr =>
    simp only [okOp, Bool.and_eq_true, beq_iff_eq, decide_eq_true_eq] at o
    obtain ⟨rfl, o2⟩ := o
    simp only [run] at hr
    split at hr
    · exact x_if_le o2 d (fun hc => hK _ _ _ _ _ (hr.1 hc)) (fun hc => ih0 _ _ _ _ _ oo (hr.2 hc))
    · exact absurd hr id
  | .if_icmp .le off, d, o, oo, hr =>
    simp only [okOp, Bool.and_eq_true, beq_iff_eq, decide_eq_true_eq] at o
    obtain ⟨rfl, o2⟩ := o
    simp only [run] at hr
    split at hr
    · exact x_icmp_le o2 d (fun hc => hK _ _ _ _ _ (hr.1 hc)) (fun hc => ih0 _ _ _ _ _ oo (hr.2 hc))
    · exact absurd hr id
  | .goto off, d, o, oo, hr =>
    simp only [okOp, Bool.and_eq_true, beq_iff_eq, decide_eq_true_eq] at o
    obtain ⟨rfl, o2⟩ := o
    exact x_goto o2 d (ih0 _ _ _ _ _ oo hr)
  | .getfield k, d, o, oo, hr =>
    simp only [okOp, Bool.and_eq_true, beq_iff_eq, List.elem_eq_mem, decide_eq_true_eq] at o
    obtain ⟨rfl, o2⟩ := o
    simp only [run] at hr
    split at hr
    · exact x_getfield (cf.1 _ o2) hr.1 d (ih0 _ _ _ _ _ oo hr.2)
    · exact absurd hr id
  | .putfield k, d, o, oo, hr =>
    simp only [okOp, Bool.and_eq_true, beq_iff_eq, List.elem_eq_mem, decide_eq_true_eq] at o
    obtain ⟨⟨rfl, o2⟩, o3⟩ := o
    simp only [run] at hr
    split at hr
    · exact x_putfield (by rw [hr.2.1]; exact cf.1 _ o2) (fwb_ok o3) hr.1 d (ih0 _ _ _ _ _ oo hr.2.2)
    · exact absurd hr id
  | .iaload, d, o, oo, hr =>
    simp only [okOp, beq_iff_eq] at o
    subst o
    simp only [run] at hr
    split at hr
    · exact x_iaload (kd_eta hr.1) hr.2.1 d (ih0 _ _ _ _ _ oo hr.2.2)
    · exact absurd hr id
  | .laload, d, o, oo, hr =>
    simp only [okOp, beq_iff_eq] at o
    subst o
    simp only [run] at hr
    split at hr
    · exact x_laload (kd_eta hr.1) hr.2.1 d (ih0 _ _ _ _ _ oo hr.2.2)
    · exact absurd hr id
  | .baload, d, o, oo, hr =>
    simp only [okOp, beq_iff_eq] at o
    subst o
    simp only [run] at hr
    split at hr
    · exact x_baload (kd_eta hr.1) hr.2.1 d (ih0 _ _ _ _ _ oo hr.2.2)
    · exact absurd hr id
  | .daload, d, o, oo, hr =>
    simp only [okOp, beq_iff_eq] at o
    subst o
    simp only [run] at hr
    split at hr
    · exact x_daload (kd_eta hr.1) hr.2.1 d (ih0 _ _ _ _ _ oo hr.2.2)
    · exact absurd hr id
  | .aaload, d, o, oo, hr =>
    simp only [okOp, beq_iff_eq] at o
    subst o
    simp only [run] at hr
    split at hr
    · exact x_aaload hr.1 (kd_eta rfl) hr.2.1 d (ih0 _ _ _ _ _ oo hr.2.2)
    · exact absurd hr id
  | .iastore, d, o, oo, hr =>
    simp only [okOp, beq_iff_eq] at o
    subst o
    simp only [run] at hr
    split at hr
    · exact x_iastore (kd_eta hr.1) hr.2.1 d (ih0 _ _ _ _ _ oo hr.2.2)
    · exact absurd hr id
  | .lastore, d, o, oo, hr =>
    simp only [okOp, beq_iff_eq] at o
    subst o
    simp only [run] at hr
    split at hr
    · exact x_lastore (kd_eta hr.1) hr.2.1 d (ih0 _ _ _ _ _ oo hr.2.2)
    · exact absurd hr id
  | .bastore, d, o, oo, hr =>
    simp only [okOp, beq_iff_eq] at o
    subst o
    simp only [run] at hr
    split at hr
    · exact x_bastore (kd_eta hr.1) hr.2.2.1 hr.2.1 d (ih0 _ _ _ _ _ oo hr.2.2.2)
    · exact absurd hr id
  | .dastore, d, o, oo, hr =>
    simp only [okOp, beq_iff_eq] at o
    subst o
    simp only [run] at hr
    split at hr
    · exact x_dastore (kd_eta hr.1) hr.2.1 d (ih0 _ _ _ _ _ oo hr.2.2)
    · exact absurd hr id
  | .arraylength, d, o, oo, hr =>
    simp only [okOp, beq_iff_eq] at o
    subst o
    simp only [run] at hr
    split at hr
    · exact x_alen hr.1 (kd_eta rfl) d (ih0 _ _ _ _ _ oo hr.2)
    · exact absurd hr id
  | .newarray k, d, o, oo, hr =>
    simp only [okOp, Bool.and_eq_true, Bool.or_eq_true, beq_iff_eq, decide_eq_true_eq] at o
    obtain ⟨⟨rfl, rfl⟩, o3⟩ := o
    simp only [run] at hr
    split at hr
    · exact x_newarray (by omega) (arrw _ (by omega)) hr.1 rfl hr.2.1 hr.2.2.1 hr.2.2.2.1 d (ih0 _ _ _ _ _ oo hr.2.2.2.2)
    · exact absurd hr id
  | .new k, d, o, oo, hr =>
    simp only [okOp, Bool.and_eq_true, beq_iff_eq, List.elem_eq_mem, decide_eq_true_eq] at o
    obtain ⟨rfl, o2⟩ := o
    simp only [run] at hr
    obtain ⟨q, w1, w2, w3, w4, w5⟩ := cf.2.2.1 _ o2
    rw [nfl_of w1] at hr
    exact x_new w2 w3 w4 w1 w5 hr.1 hr.2.1 d (ih0 _ _ _ _ _ oo hr.2.2)
  | .checkcast k, d, o, oo, hr =>
    simp only [okOp, Bool.and_eq_true, beq_iff_eq, List.elem_eq_mem, decide_eq_true_eq] at o
    obtain ⟨rfl, o2⟩ := o
    simp only [run] at hr
    obtain ⟨q, w1, w2⟩ := cf.2.2.2 _ o2
    split at hr
    · exact x_cast w2 w1 hr.1 d (ih0 _ _ _ _ _ oo hr.2)
    · exact absurd hr id
  | .ireturn, d, o, oo, hr =>
    simp only [okOp, beq_iff_eq] at o
    subst o
    simp only [run] at hr
    split at hr
    · obtain ⟨ty, e1, e2⟩ := retI_ok hr.1
      exact Ex.iret e1 e2 d hr.2
    · exact absurd hr id
  | .lreturn, d, o, oo, hr =>
    simp only [okOp, beq_iff_eq] at o
    subst o
    simp only [run] at hr
    split at hr
    · exact Ex.lret hr.1 d hr.2
    · exact absurd hr id
  | .dreturn, d, o, oo, hr =>
    simp only [okOp, beq_iff_eq] at o
    subst o
    simp only [run] at hr
    split at hr
    · exact Ex.dret hr.1 d hr.2
    · exact absurd hr id
  | .areturn, d, o, oo, hr =>
    simp only [okOp, beq_iff_eq] at o
    subst o
    simp only [run] at hr
    split at hr
    · obtain ⟨ty, e1, e2⟩ := retA_ok hr.1
      exact Ex.aret e1 e2 d hr.2
    · exact absurd hr id
  | .return_, d, o, oo, hr =>
    simp only [okOp, beq_iff_eq] at o
    subst o
    simp only [run] at hr
    split at hr
    · exact Ex.vret hr.1 d hr.2
    · exact absurd hr id
end
